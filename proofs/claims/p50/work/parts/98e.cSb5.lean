/-! THE LAW'S BUILDER, at place 0. From place 1 on: bt; its bytes now are bt's k-th cell. -/
def byt (N : Nat) (g : Nat → Int) : va_E := .inl (0, N, .inl (fun j => iI (g j)))
def uW (k : Nat) (cn ml : Int) (bt : PW) : PW := .inr (9, [.ref (1 + k), .int (iI 0), .int (iI ml), .int (iI cn)]) :: bt
theorem uW_len {k : Nat} {cn ml : Int} {bt : PW} : (uW k cn ml bt).length = 1 + bt.length := by
  unfold uW
  rw [List.length_cons]
  omega
theorem uW_get {k : Nat} {cn ml : Int} {bt : PW} {c : va_E} (h : bt[k]? = some c) : gW (uW k cn ml bt) (1 + k) = some c := by
  rw [gW_eq]
  unfold uW
  rw [Nat.add_comm 1 k, List.getElem?_cons_succ]
  exact h
theorem uW_set {k k' : Nat} {cn cn' ml ml' : Int} {bt : PW} {c : va_E} : ((uW k cn ml bt).set 0 (.inr (9, [.ref (1 + k'), .int (iI 0), .int (iI ml'), .int (iI cn')]))).set (1 + k) c = uW k' cn' ml' (bt.set k c) := by
  unfold uW
  rw [List.set_cons_zero, Nat.add_comm 1 k, List.set_cons_succ]
theorem u_fr {k : Nat} {cn ml : Int} {bt : PW} {M : MM} {d mc ms : Nat} {K : Option Value → PW → Prop} {KX : String → PW → Prop} {as : List Value} {N : Nat} {g : Nat → Int} (hmc : Nat.ble (2 + mc) 1000 = true) (has : as.map (cV (rnN [0, 1 + k] (uW k cn ml bt).length)) = as) (hb : bt[k]? = some (byt N g)) (h : WQ M d mc ms (.ref 0 :: as) (sbW N ml cn g) (frK [0, 1 + k] (uW k cn ml bt) K) (frX [0, 1 + k] (uW k cn ml bt) KX)) : WQ M d mc ms (.ref 0 :: as) (uW k cn ml bt) K KX := by
  refine WQ_fr [0, 1 + k] (sbW N ml cn g) (.ref 0 :: as) hmc ?_ ?_ ?_ h
  · have e : 0 ∉ [1 + k] := by
      rw [List.mem_singleton]
      omega
    have e2 : 1 + k ∉ ([] : List Nat) := List.not_mem_nil
    simp [va_nd]
    omega
  · show [gW (uW k cn ml bt) 0, gW (uW k cn ml bt) (1 + k)] = _
    rw [uW_get hb]
    rfl
  · show Value.ref 0 :: as = Value.ref 0 :: as.map _
    rw [has]
theorem frK_u {k : Nat} {cn ml : Int} {bt : PW} {K : Option Value → PW → Prop} {r : Option Value} {N : Nat} {cn' ml' : Int} {g' : Nat → Int} (h : K (r.map (cV (rnN [0, 1 + k] (uW k cn ml bt).length))) (uW k cn' ml' (bt.set k (byt N g')))) : frK [0, 1 + k] (uW k cn ml bt) K r (sbW N ml' cn' g') := by
  show kRO [0, 1 + k] (uW k cn ml bt).length r (fun r2 => kUp [0, 1 + k] (uW k cn ml bt).length (uW k cn ml bt) [0, 1 + k] (sbW N ml' cn' g') (fun w2 => K r2 w2))
  rw [kRO_eq, kUp_eq]
  have e : upW (rnN [0, 1 + k] (uW k cn ml bt).length) (uW k cn ml bt) [0, 1 + k] (sbW N ml' cn' g') = ((uW k cn ml bt).set 0 (.inr (9, [.ref (1 + k), .int (iI 0), .int (iI ml'), .int (iI cn')]))).set (1 + k) (byt N g') := rfl
  rw [e, uW_set]
  exact h
theorem frK_ux {k : Nat} {cn ml : Int} {bt : PW} {K : Option Value → PW → Prop} {r : Option Value} {cn' ml' : Int} {g0 g' : Nat → Int} (hw : bW (uW k cn ml bt).length (uW k cn ml bt)) (h : K (r.map (cV (rnN [0, 1 + k] (uW k cn ml bt).length))) (uW bt.length cn' ml' (bt.set k (byt 22 g0) ++ [byt 46 g']))) : frK [0, 1 + k] (uW k cn ml bt) K r (sbX ml' cn' g0 g') := by
  refine (show 2 ≤ 3 ∧ bW (uW k cn ml bt).length (uW k cn ml bt) ∧ kRO [0, 1 + k] (uW k cn ml bt).length r (fun r2 => kUp [0, 1 + k] (uW k cn ml bt).length (uW k cn ml bt) [0, 1 + k] (sbX ml' cn' g0 g') (fun w2 => K r2 w2)) from ⟨by decide, hw, ?_⟩)
  rw [kRO_eq, kUp_eq]
  have e : upW (rnN [0, 1 + k] (uW k cn ml bt).length) (uW k cn ml bt) [0, 1 + k] (sbX ml' cn' g0 g') = (((uW k cn ml bt).set 0 (.inr (9, [.ref ((uW k cn ml bt).length + 0), .int (iI 0), .int (iI ml'), .int (iI cn')]))).set (1 + k) (byt 22 g0)) ++ [byt 46 g'] := rfl
  rw [e, Nat.add_zero, uW_len, uW_set]
  rw [uW_len] at h
  exact h
def SBs (N0 k0 : Nat) (bt0 : PW) (N k : Nat) (bt : PW) (g : Nat → Int) : Prop := BB g ∧ ((N = N0 ∧ k = k0 ∧ bt = bt0.set k0 (byt N0 g)) ∨ (N0 = 22 ∧ N = 46 ∧ k = bt0.length ∧ ∃ g0, bt = bt0.set k0 (byt 22 g0) ++ [byt 46 g]))
theorem SBs.first {N0 k0 : Nat} {bt0 : PW} {g : Nat → Int} (hB : BB g) (h : bt0[k0]? = some (byt N0 g)) : SBs N0 k0 bt0 N0 k0 bt0 g := ⟨hB, Or.inl ⟨rfl, rfl, by
  obtain ⟨h1, h2⟩ := List.getElem?_eq_some_iff.mp h
  rw [← h2, List.set_getElem_self]⟩⟩
theorem SBs.at {N0 k0 N k : Nat} {bt0 bt : PW} {g : Nat → Int} (hk0 : k0 < bt0.length) (h : SBs N0 k0 bt0 N k bt g) : bt[k]? = some (byt N g) := by
  obtain ⟨-, ⟨rfl, rfl, rfl⟩ | ⟨rfl, rfl, rfl, g0, rfl⟩⟩ := h
  · rw [List.getElem?_set_self hk0]
  · rw [List.getElem?_append_right (by rw [List.length_set]; omega), List.length_set, Nat.sub_self]
    rfl
theorem SBs.put {N0 k0 N k : Nat} {bt0 bt : PW} {g g' : Nat → Int} (h : SBs N0 k0 bt0 N k bt g) (hB : BB g') : SBs N0 k0 bt0 N k (bt.set k (byt N g')) g' := by
  obtain ⟨-, ⟨rfl, rfl, rfl⟩ | ⟨rfl, rfl, rfl, g0, rfl⟩⟩ := h
  · exact ⟨hB, Or.inl ⟨rfl, rfl, by rw [List.set_set]⟩⟩
  · refine ⟨hB, Or.inr ⟨rfl, rfl, rfl, g0, ?_⟩⟩
    rw [List.set_append_right _ _ (by rw [List.length_set]; omega), List.length_set, Nat.sub_self]
    rfl
theorem SBs.grow {N0 k0 k : Nat} {bt0 bt : PW} {g g0 g' : Nat → Int} (h : SBs N0 k0 bt0 22 k bt g) (hB : BB g') : N0 = 22 ∧ k = k0 ∧ bt.length = bt0.length ∧ bt = bt0.set k0 (byt 22 g) ∧ SBs N0 k0 bt0 46 bt.length (bt.set k (byt 22 g0) ++ [byt 46 g']) g' := by
  obtain ⟨-, ⟨rfl, rfl, rfl⟩ | ⟨-, h2, -⟩⟩ := h
  · refine ⟨rfl, rfl, List.length_set, rfl, hB, Or.inr ⟨rfl, rfl, List.length_set, g0, ?_⟩⟩
    rw [List.set_set]
  · exact absurd h2 (by decide)
def APP (M : MM) (D : Nat) (as : List Value) (T : List Int) : Prop :=
  (∀ (N : Nat) (ml cn : Int) (g : Nat → Int) (L : List Int) (K : Option Value → PW → Prop) (KX : String → PW → Prop), N ≤ 1000 → BB g → OW L g cn → cn + (T.length : Int) ≤ N → (∀ g', BB g' → OW (L ++ T) g' (cn + T.length) → K (some (.ref 0)) (sbW N ml (cn + T.length) g')) → WQ M D 0 0 (.ref 0 :: as) (sbW N ml cn g) K KX) ∧
  (∀ (ml cn : Int) (g : Nat → Int) (L : List Int) (K : Option Value → PW → Prop) (KX : String → PW → Prop), BB g → OW L g cn → cn ≤ 22 → 22 < cn + (T.length : Int) → cn + (T.length : Int) ≤ 46 → (∀ g', BB g' → OW (L ++ T) g' (cn + T.length) → K (some (.ref 0)) (sbX ml (cn + T.length) g g')) → WQ M D 1 46 (.ref 0 :: as) (sbW 22 ml cn g) K KX)
theorem APP_C {d : Nat} {c : Int} (c0 : 0 ≤ c) (c1 : c ≤ 127) : APP M_jSB_append_C (d + 5) [.int (iI c)] [c] := by
  refine ⟨fun N ml cn g L K KX hN hB hO hl h => ?_, fun ml cn g L K KX hB hO h16 hgt hle h => ?_⟩
  · have h0 := hO.1
    rw [List.length_singleton] at hl
    exact c_jSB_append_C hN c0 c1 (by omega) (by omega) (h _ (hB.up c0 c1) (hO.add c))
  · have h0 := hO.1
    rw [List.length_singleton] at hgt hle
    have e : cn = 22 := by omega
    have h1 := h _ (hB.cp.up c0 c1) ((hO.cp h16).add c)
    subst e
    exact c_jSB_append_CX hB c0 c1 h1
theorem APP_I {d : Nat} {v : Int} (hv : -999999999 ≤ v ∧ v ≤ 999999999) : APP M_jSB_append_I (d + 5) [.int (iI v)] (deL v) :=
  ⟨fun N ml cn g L K KX hN hB hO hl h => c_jSB_append_I (d := d + 3) hN hB hv hO hl h, fun ml cn g L K KX hB hO h16 hgt hle h => c_jSB_append_IX hB hv hO h16 hgt hle h⟩
theorem bLo_mono {n n' : Nat} (h : n ≤ n') : ∀ (ls : PLo), bLo n ls → bLo n' ls
  | [], _ => trivial
  | none :: t, hb => bLo_mono h t hb
  | some v :: t, hb => ⟨by
    have h1 := hb.1
    cases v with
    | ref k =>
      rcases h1 with z | z
      · exact Or.inl (Nat.lt_of_lt_of_le z h)
      · exact Or.inr z
    | _ => trivial, bLo_mono h t hb.2⟩
theorem bSt_mono {n n' : Nat} (h : n ≤ n') : ∀ (st : List Value), bSt n st → bSt n' st
  | [], _ => trivial
  | v :: t, hb => ⟨by
    have h1 := hb.1
    cases v with
    | ref k =>
      rcases h1 with z | z
      · exact Or.inl (Nat.lt_of_lt_of_le z h)
      · exact Or.inr z
    | _ => trivial, bSt_mono h t hb.2⟩
theorem APP_S {d p : Nat} {S : List Int} (hp : pab p S) : APP M_jSB_append_LString (d + 5) [.ref p] S :=
  ⟨fun N ml cn g L K KX hN hB hO hl h => c_jSB_append_S hp hN (by have := hO.1; omega) hl (h _ (hB.upL hp.in) hO.app), fun ml cn g L K KX hB hO h16 hgt hle h => c_jSB_append_SX hB hp (by have := hO.1; omega) h16 hgt hle (h _ (hB.cp.upL hp.in) (hO.cp h16).app)⟩
def Bud (N mc ms : Nat) : Prop := (N = 22 → 3 ≤ mc ∧ 96 ≤ ms) ∧ 2 ≤ mc ∧ 50 ≤ ms
theorem u_app {k : Nat} {cn ml : Int} {bt : PW} {M : MM} {D mc ms nx9 N0 k0 N : Nat} {bt0 : PW} {g : Nat → Int} {as : List Value} {T L : List Int} {Kn : KN} {ls : PLo} {rest : List Value} {KX KX' : String → PW → Prop} (hA : APP M D as T) (has : as.map (cV (rnN [0, 1 + k] (uW k cn ml bt).length)) = as) (hk0 : k0 < bt0.length) (hk2 : 2 ≤ bt0.length) (hw : N0 = 22 → ∀ (cn ml : Int) (g : Nat → Int), bW (1 + bt0.length) (uW k0 cn ml (bt0.set k0 (byt 22 g))))
    (hS : SBs N0 k0 bt0 N k bt g) (hN : N = 22 ∨ N = 46) (hO : OW L g cn) (hcN : cn ≤ N) (hlen : cn + (T.length : Int) ≤ 46) (hmc : Bud N mc ms) (hls : bLo 3 ls) (hst : bSt 3 rest)
    (h : ∀ (N' k' : Nat) (bt' : PW) (g' : Nat → Int) (mc' ms' : Nat), SBs N0 k0 bt0 N' k' bt' g' → (N' = 22 ∨ N' = 46) → OW (L ++ T) g' (cn + T.length) → cn + (T.length : Int) ≤ N' → Bud N' mc' ms' → Kn mc' ms' nx9 ls (.ref 0 :: rest) (uW k' (cn + T.length) ml bt')) :
    (WQ M D 0 0 (.ref 0 :: as) (uW k cn ml bt) (kR Kn mc ms nx9 ls rest) KX) ∨ ((1 ≤ mc ∧ 46 ≤ ms) ∧ WQ M D 1 46 (.ref 0 :: as) (uW k cn ml bt) (kRb (uW k cn ml bt).length Kn (mc - 1) (ms - 46) nx9 ls rest) KX') := by
  have hb := hS.at hk0
  by_cases e : cn + (T.length : Int) ≤ N
  · refine Or.inl (u_fr rfl has hb ?_)
    refine hA.1 N ml cn g L _ _ (by omega) hS.1 hO e (fun g' h1 h2 => ?_)
    refine frK_u ?_
    exact h N k _ g' mc ms (hS.put h1) hN h2 e hmc
  · have e16 : N = 22 := by omega
    subst e16
    refine Or.inr ⟨⟨by have := hmc.1 rfl; omega, by have := hmc.1 rfl; omega⟩, u_fr rfl has hb ?_⟩
    refine hA.2 ml cn g L _ _ hS.1 hO (by omega) (by omega) hlen (fun g' h1 h2 => ?_)
    obtain ⟨a1, a2, a3, a4, a5⟩ := hS.grow (g0 := g) h1
    refine frK_ux ?_ ?_
    · rw [uW_len, a3, a4, a2]
      exact hw a1 cn ml g
    · have hn : 3 ≤ (uW k cn ml bt).length := by rw [uW_len]; omega
      exact ⟨⟨bLo_mono hn ls hls, bSt_mono hn rest hst⟩, h 46 _ _ g' _ _ a5 (Or.inr rfl) h2 hlen ⟨fun h9 => absurd h9 (by decide), by have := hmc.1 rfl; omega, by have := hmc.1 rfl; omega⟩⟩

