/-! THE CLASS: its builder. From place 92 on: bt (the bytes that the builder had first, then whatever was made since); its bytes now are bt's k-th cell. -/
def byt (N : Nat) (g : Nat → Int) : va_E := .inl (0, N, .inl (fun j => iI (g j)))
def vP (f : Nat → Int32) (il : Int) (m1 m2 m3 : MS) (hs nx cz : Int) (rf : Nat → Option Nat) (sl : Nat → MS) (t1 t2 : TS) (sm sh : Int) (g : PS) (le lo : Int) (k : Nat) (cn ml : Int) : PW :=
  [.inr (0, [.ref 1, .int (iI il), .ref 2, .ref 8, .ref 14, .int (iI hs), .ref 20, .ref 76, .ref 81, .int (iI le), .int (iI lo), .ref 91]), .inl (0, 500, .inl f)] ++ (mlM 2 m1 ++ (mlM 8 m2 ++ (mlM 14 m3 ++ ([.inr (3, [.ref 21, .int (iI nx), .int (iI cz)]), .inl (3, 9, .inr (.inr (.inr (.inr rf))))] ++ (mlM 22 (sl 0) ++ (mlM 28 (sl 1) ++ (mlM 34 (sl 2) ++ (mlM 40 (sl 3) ++ (mlM 46 (sl 4) ++ (mlM 52 (sl 5) ++ (mlM 58 (sl 6) ++ (mlM 64 (sl 7) ++ (mlM 70 (sl 8) ++ ([.inr (5, [.ref 77])] ++ (tkC 77 t1 ++ ([.inr (6, [.ref 82, .ref 86, .int (iI sm), .long (lI sh)])] ++ (tkC 82 t2 ++ (pgC 86 g ++ ([.inr (9, [.ref (92 + k), .int (iI 0), .int (iI ml), .int (iI cn)])])))))))))))))))))))
def vW (f : Nat → Int32) (il : Int) (m1 m2 m3 : MS) (hs nx cz : Int) (rf : Nat → Option Nat) (sl : Nat → MS) (t1 t2 : TS) (sm sh : Int) (g : PS) (le lo : Int) (k : Nat) (cn ml : Int) (bt : PW) : PW := vP f il m1 m2 m3 hs nx cz rf sl t1 t2 sm sh g le lo k cn ml ++ bt
theorem vP_len {f : Nat → Int32} {il hs nx cz sm sh le lo cn ml : Int} {m1 m2 m3 : MS} {rf : Nat → Option Nat} {sl : Nat → MS} {t1 t2 : TS} {pg : PS} {k : Nat} : (vP f il m1 m2 m3 hs nx cz rf sl t1 t2 sm sh pg le lo k cn ml).length = 92 := rfl
theorem vW_len {f : Nat → Int32} {il hs nx cz sm sh le lo cn ml : Int} {m1 m2 m3 : MS} {rf : Nat → Option Nat} {sl : Nat → MS} {t1 t2 : TS} {pg : PS} {k : Nat} {bt : PW} : (vW f il m1 m2 m3 hs nx cz rf sl t1 t2 sm sh pg le lo k cn ml bt).length = 92 + bt.length := by
  unfold vW
  rw [List.length_append, vP_len]
theorem vW_get {f : Nat → Int32} {il hs nx cz sm sh le lo cn ml : Int} {m1 m2 m3 : MS} {rf : Nat → Option Nat} {sl : Nat → MS} {t1 t2 : TS} {pg : PS} {k : Nat} {bt : PW} {c : va_E} (h : bt[k]? = some c) : gW (vW f il m1 m2 m3 hs nx cz rf sl t1 t2 sm sh pg le lo k cn ml bt) (92 + k) = some c := by
  rw [gW_eq]
  unfold vW
  rw [List.getElem?_append_right (by rw [vP_len]; omega), vP_len, Nat.add_sub_cancel_left]
  exact h
theorem vW_set {f : Nat → Int32} {il hs nx cz sm sh le lo cn ml : Int} {m1 m2 m3 : MS} {rf : Nat → Option Nat} {sl : Nat → MS} {t1 t2 : TS} {pg : PS} {k : Nat} {bt : PW} {c : va_E} {cn' ml' : Int} {k' : Nat} : ((vW f il m1 m2 m3 hs nx cz rf sl t1 t2 sm sh pg le lo k cn ml bt).set 91 (.inr (9, [.ref (92 + k'), .int (iI 0), .int (iI ml'), .int (iI cn')]))).set (92 + k) c = (vW f il m1 m2 m3 hs nx cz rf sl t1 t2 sm sh pg le lo (k') (cn') (ml') (bt.set k c)) := by
  have e : (vW f il m1 m2 m3 hs nx cz rf sl t1 t2 sm sh pg le lo k cn ml bt).set 91 (.inr (9, [.ref (92 + k'), .int (iI 0), .int (iI ml'), .int (iI cn')])) = vP f il m1 m2 m3 hs nx cz rf sl t1 t2 sm sh pg le lo k' cn' ml' ++ bt := rfl
  rw [e, List.set_append_right (92 + k) c (by rw [vP_len]; omega), vP_len, Nat.add_sub_cancel_left]
  rfl
theorem v_fr {f : Nat → Int32} {il hs nx cz sm sh le lo cn ml : Int} {m1 m2 m3 : MS} {rf : Nat → Option Nat} {sl : Nat → MS} {t1 t2 : TS} {pg : PS} {k : Nat} {bt : PW} {M : MM} {d mc ms : Nat} {K : Option Value → PW → Prop} {KX : String → PW → Prop} {as : List Value} {N : Nat} {g : Nat → Int} (hmc : Nat.ble (2 + mc) 1000 = true) (has : as.map (cV (rnN [91, 92 + k] (vW f il m1 m2 m3 hs nx cz rf sl t1 t2 sm sh pg le lo k cn ml bt).length)) = as) (hb : bt[k]? = some (byt N g)) (h : WQ M d mc ms (.ref 0 :: as) (sbW N ml cn g) (frK [91, 92 + k] (vW f il m1 m2 m3 hs nx cz rf sl t1 t2 sm sh pg le lo k cn ml bt) K) (frX [91, 92 + k] (vW f il m1 m2 m3 hs nx cz rf sl t1 t2 sm sh pg le lo k cn ml bt) KX)) : WQ M d mc ms (.ref 91 :: as) (vW f il m1 m2 m3 hs nx cz rf sl t1 t2 sm sh pg le lo k cn ml bt) K KX := by
  refine WQ_fr [91, 92 + k] (sbW N ml cn g) (.ref 0 :: as) hmc ?_ ?_ ?_ h
  · have e : 91 ∉ [92 + k] := by
      rw [List.mem_singleton]
      omega
    have e2 : 92 + k ∉ ([] : List Nat) := List.not_mem_nil
    simp [va_nd, e]
  · show [gW (vW f il m1 m2 m3 hs nx cz rf sl t1 t2 sm sh pg le lo k cn ml bt) 91, gW (vW f il m1 m2 m3 hs nx cz rf sl t1 t2 sm sh pg le lo k cn ml bt) (92 + k)] = _
    rw [vW_get hb]
    rfl
  · show Value.ref 91 :: as = Value.ref 91 :: as.map _
    rw [has]
theorem frK_v {f : Nat → Int32} {il hs nx cz sm sh le lo cn ml : Int} {m1 m2 m3 : MS} {rf : Nat → Option Nat} {sl : Nat → MS} {t1 t2 : TS} {pg : PS} {k : Nat} {bt : PW} {K : Option Value → PW → Prop} {r : Option Value} {N : Nat} {cn' ml' : Int} {g' : Nat → Int} (h : K (r.map (cV (rnN [91, 92 + k] (vW f il m1 m2 m3 hs nx cz rf sl t1 t2 sm sh pg le lo k cn ml bt).length))) (vW f il m1 m2 m3 hs nx cz rf sl t1 t2 sm sh pg le lo k (cn') (ml') (bt.set k (byt N g')))) : frK [91, 92 + k] (vW f il m1 m2 m3 hs nx cz rf sl t1 t2 sm sh pg le lo k cn ml bt) K r (sbW N ml' cn' g') := by
  show kRO [91, 92 + k] (vW f il m1 m2 m3 hs nx cz rf sl t1 t2 sm sh pg le lo k cn ml bt).length r (fun r2 => kUp [91, 92 + k] (vW f il m1 m2 m3 hs nx cz rf sl t1 t2 sm sh pg le lo k cn ml bt).length (vW f il m1 m2 m3 hs nx cz rf sl t1 t2 sm sh pg le lo k cn ml bt) [91, 92 + k] (sbW N ml' cn' g') (fun w2 => K r2 w2))
  rw [kRO_eq, kUp_eq]
  have e : upW (rnN [91, 92 + k] (vW f il m1 m2 m3 hs nx cz rf sl t1 t2 sm sh pg le lo k cn ml bt).length) (vW f il m1 m2 m3 hs nx cz rf sl t1 t2 sm sh pg le lo k cn ml bt) [91, 92 + k] (sbW N ml' cn' g') = ((vW f il m1 m2 m3 hs nx cz rf sl t1 t2 sm sh pg le lo k cn ml bt).set 91 (.inr (9, [.ref (92 + k), .int (iI 0), .int (iI ml'), .int (iI cn')]))).set (92 + k) (byt N g') := rfl
  rw [e, vW_set]
  exact h
theorem frK_x {f : Nat → Int32} {il hs nx cz sm sh le lo cn ml : Int} {m1 m2 m3 : MS} {rf : Nat → Option Nat} {sl : Nat → MS} {t1 t2 : TS} {pg : PS} {k : Nat} {bt : PW} {K : Option Value → PW → Prop} {r : Option Value} {cn' ml' : Int} {g0 g' : Nat → Int} (hw : bW (vW f il m1 m2 m3 hs nx cz rf sl t1 t2 sm sh pg le lo k cn ml bt).length (vW f il m1 m2 m3 hs nx cz rf sl t1 t2 sm sh pg le lo k cn ml bt)) (h : K (r.map (cV (rnN [91, 92 + k] (vW f il m1 m2 m3 hs nx cz rf sl t1 t2 sm sh pg le lo k cn ml bt).length))) (vW f il m1 m2 m3 hs nx cz rf sl t1 t2 sm sh pg le lo (bt.length) (cn') (ml') (bt.set k (byt 16 g0) ++ [byt 34 g']))) : frK [91, 92 + k] (vW f il m1 m2 m3 hs nx cz rf sl t1 t2 sm sh pg le lo k cn ml bt) K r (sbX ml' cn' g0 g') := by
  refine (show 2 ≤ 3 ∧ bW (vW f il m1 m2 m3 hs nx cz rf sl t1 t2 sm sh pg le lo k cn ml bt).length (vW f il m1 m2 m3 hs nx cz rf sl t1 t2 sm sh pg le lo k cn ml bt) ∧ kRO [91, 92 + k] (vW f il m1 m2 m3 hs nx cz rf sl t1 t2 sm sh pg le lo k cn ml bt).length r (fun r2 => kUp [91, 92 + k] (vW f il m1 m2 m3 hs nx cz rf sl t1 t2 sm sh pg le lo k cn ml bt).length (vW f il m1 m2 m3 hs nx cz rf sl t1 t2 sm sh pg le lo k cn ml bt) [91, 92 + k] (sbX ml' cn' g0 g') (fun w2 => K r2 w2)) from ⟨by decide, hw, ?_⟩)
  rw [kRO_eq, kUp_eq]
  have e : upW (rnN [91, 92 + k] (vW f il m1 m2 m3 hs nx cz rf sl t1 t2 sm sh pg le lo k cn ml bt).length) (vW f il m1 m2 m3 hs nx cz rf sl t1 t2 sm sh pg le lo k cn ml bt) [91, 92 + k] (sbX ml' cn' g0 g') = (((vW f il m1 m2 m3 hs nx cz rf sl t1 t2 sm sh pg le lo k cn ml bt).set 91 (.inr (9, [.ref ((vW f il m1 m2 m3 hs nx cz rf sl t1 t2 sm sh pg le lo k cn ml bt).length + 0), .int (iI 0), .int (iI ml'), .int (iI cn')]))).set (92 + k) (byt 16 g0)) ++ [byt 34 g'] := rfl
  rw [e, Nat.add_zero, vW_len, vW_set]
  rw [vW_len] at h
  unfold vW at h ⊢
  rw [List.append_assoc]
  exact h
/-- what may have become of the cells from place 92 on -/
def SBs (N0 k0 : Nat) (bt0 : PW) (N k : Nat) (bt : PW) (g : Nat → Int) : Prop := BB g ∧ ((N = N0 ∧ k = k0 ∧ bt = bt0.set k0 (byt N0 g)) ∨ (N0 = 16 ∧ N = 34 ∧ k = bt0.length ∧ ∃ g0, bt = bt0.set k0 (byt 16 g0) ++ [byt 34 g]))
theorem SBs.first {N0 k0 : Nat} {bt0 : PW} {g : Nat → Int} (hB : BB g) (h : bt0[k0]? = some (byt N0 g)) : SBs N0 k0 bt0 N0 k0 bt0 g := ⟨hB, Or.inl ⟨rfl, rfl, by
  obtain ⟨h1, h2⟩ := List.getElem?_eq_some_iff.mp h
  rw [← h2, List.set_getElem_self]⟩⟩
theorem SBs.at {N0 k0 N k : Nat} {bt0 bt : PW} {g : Nat → Int} (hk0 : k0 < bt0.length) (h : SBs N0 k0 bt0 N k bt g) : bt[k]? = some (byt N g) := by
  obtain ⟨-, ⟨rfl, rfl, rfl⟩ | ⟨rfl, rfl, rfl, g0, rfl⟩⟩ := h
  · rw [List.getElem?_set_self hk0]
  · rw [List.getElem?_append_right (by rw [List.length_set]; omega), List.length_set, Nat.sub_self]
    rfl
theorem SBs.put {N0 k0 N k : Nat} {bt0 bt : PW} {g g' : Nat → Int} (h : SBs N0 k0 bt0 N k bt g) (hB : BB g') : SBs N0 k0 bt0 N k (bt.set k (byt N g')) g' := by
  obtain ⟨-, ⟨rfl, rfl, rfl⟩ | ⟨rfl, rfl, rfl, g0, rfl⟩⟩ := h
  · exact ⟨hB, Or.inl ⟨rfl, rfl, by rw [List.set_set]⟩⟩
  · refine ⟨hB, Or.inr ⟨rfl, rfl, rfl, g0, ?_⟩⟩
    rw [List.set_append_right _ _ (by rw [List.length_set]; omega), List.length_set, Nat.sub_self]
    rfl
theorem SBs.grow {N0 k0 k : Nat} {bt0 bt : PW} {g g0 g' : Nat → Int} (h : SBs N0 k0 bt0 16 k bt g) (hB : BB g') : N0 = 16 ∧ k = k0 ∧ bt.length = bt0.length ∧ bt = bt0.set k0 (byt 16 g) ∧ SBs N0 k0 bt0 34 bt.length (bt.set k (byt 16 g0) ++ [byt 34 g']) g' := by
  obtain ⟨-, ⟨rfl, rfl, rfl⟩ | ⟨-, h2, -⟩⟩ := h
  · refine ⟨rfl, rfl, List.length_set, rfl, hB, Or.inr ⟨rfl, rfl, List.length_set, g0, ?_⟩⟩
    rw [List.set_set]
  · exact absurd h2 (by decide)
def APP (M : MM) (D : Nat) (as : List Value) (T : List Int) : Prop :=
  (∀ (N : Nat) (ml cn : Int) (g : Nat → Int) (L : List Int) (K : Option Value → PW → Prop) (KX : String → PW → Prop), N ≤ 1000 → BB g → OW L g cn → cn + (T.length : Int) ≤ N → (∀ g', BB g' → OW (L ++ T) g' (cn + T.length) → K (some (.ref 0)) (sbW N ml (cn + T.length) g')) → WQ M D 0 0 (.ref 0 :: as) (sbW N ml cn g) K KX) ∧
  (∀ (ml cn : Int) (g : Nat → Int) (L : List Int) (K : Option Value → PW → Prop) (KX : String → PW → Prop), BB g → OW L g cn → cn ≤ 16 → 16 < cn + (T.length : Int) → cn + (T.length : Int) ≤ 34 → (∀ g', BB g' → OW (L ++ T) g' (cn + T.length) → K (some (.ref 0)) (sbX ml (cn + T.length) g g')) → WQ M D 1 34 (.ref 0 :: as) (sbW 16 ml cn g) K KX)
theorem APP_C {d : Nat} {c : Int} (c0 : 0 ≤ c) (c1 : c ≤ 127) : APP M_jSB_append_C (d + 5) [.int (iI c)] [c] := by
  refine ⟨fun N ml cn g L K KX hN hB hO hl h => ?_, fun ml cn g L K KX hB hO h16 hgt hle h => ?_⟩
  · have h0 := hO.1
    rw [List.length_singleton] at hl
    exact c_jSB_append_C hN c0 c1 (by omega) (by omega) (h _ (hB.up c0 c1) (hO.add c))
  · have h0 := hO.1
    rw [List.length_singleton] at hgt hle
    have e : cn = 16 := by omega
    have h1 := h _ (hB.cp.up c0 c1) ((hO.cp h16).add c)
    subst e
    exact c_jSB_append_CX hB c0 c1 h1
theorem APP_I {d : Nat} {v : Int} (hv : -999999999 ≤ v ∧ v ≤ 999999999) : APP M_jSB_append_I (d + 5) [.int (iI v)] (deL v) :=
  ⟨fun N ml cn g L K KX hN hB hO hl h => c_jSB_append_I (d := d + 3) hN hB hv hO hl h, fun ml cn g L K KX hB hO h16 hgt hle h => c_jSB_append_IX hB hv hO h16 hgt hle h⟩
theorem APP_S {d p : Nat} {a b : Int} (hp : pab p a b) : APP M_jSB_append_LString (d + 5) [.ref p] [a, b] := by
  refine ⟨fun N ml cn g L K KX hN hB hO hl h => ?_, fun ml cn g L K KX hB hO h16 hgt hle h => ?_⟩
  · have h0 := hO.1
    simp only [List.length_cons, List.length_nil] at hl
    exact c_jSB_append_S hp hN (by omega) (by omega) (h _ (hp.bb hB) hO.two)
  · have h0 := hO.1
    simp only [List.length_cons, List.length_nil] at hgt hle
    exact c_jSB_append_SX hB hp (by omega) h16 (by omega) (h _ (hp.bb hB.cp) (hO.cp h16).two)
theorem bLo_mono {n n' : Nat} (h : n ≤ n') : ∀ (ls : PLo), bLo n ls → bLo n' ls
  | [], _ => trivial
  | none :: t, hb => bLo_mono h t hb
  | some v :: t, hb => ⟨by
    have h1 := hb.1
    cases v with
    | ref k =>
      rcases h1 with z | z
      · exact Or.inl (Nat.lt_of_lt_of_le z h)
      · exact Or.inr z
    | _ => trivial, bLo_mono h t hb.2⟩
theorem bSt_mono {n n' : Nat} (h : n ≤ n') : ∀ (st : List Value), bSt n st → bSt n' st
  | [], _ => trivial
  | v :: t, hb => ⟨by
    have h1 := hb.1
    cases v with
    | ref k =>
      rcases h1 with z | z
      · exact Or.inl (Nat.lt_of_lt_of_le z h)
      · exact Or.inr z
    | _ => trivial, bSt_mono h t hb.2⟩
theorem v_app {f : Nat → Int32} {il hs nx cz sm sh le lo cn ml : Int} {m1 m2 m3 : MS} {rf : Nat → Option Nat} {sl : Nat → MS} {t1 t2 : TS} {pg : PS} {k : Nat} {bt : PW} {M : MM} {D mc ms nx9 N0 k0 N : Nat} {bt0 : PW} {g : Nat → Int} {as : List Value} {T L : List Int} {Kn : KN} {ls : PLo} {rest : List Value} {KX KX' : String → PW → Prop} (hA : APP M D as T) (has : as.map (cV (rnN [91, 92 + k] (vW f il m1 m2 m3 hs nx cz rf sl t1 t2 sm sh pg le lo k cn ml bt).length)) = as) (hk0 : k0 < bt0.length) (hw : N0 = 16 → ∀ (cn ml : Int) (g : Nat → Int), bW (92 + bt0.length) (vW f il m1 m2 m3 hs nx cz rf sl t1 t2 sm sh pg le lo (k0) (cn) (ml) (bt0.set k0 (byt 16 g))))
    (hS : SBs N0 k0 bt0 N k bt g) (hN : N = 16 ∨ N = 34) (hO : OW L g cn) (hcN : cn ≤ N) (hlen : cn + (T.length : Int) ≤ 34) (hmc : N = 16 → 1 ≤ mc ∧ 34 ≤ ms) (hls : bLo 92 ls) (hst : bSt 92 rest)
    (h : ∀ (N' k' : Nat) (bt' : PW) (g' : Nat → Int) (mc' ms' : Nat), SBs N0 k0 bt0 N' k' bt' g' → (N' = 16 ∨ N' = 34) → OW (L ++ T) g' (cn + T.length) → cn + (T.length : Int) ≤ N' → (N' = 16 → 1 ≤ mc' ∧ 34 ≤ ms') → Kn mc' ms' nx9 ls (.ref 91 :: rest) (vW f il m1 m2 m3 hs nx cz rf sl t1 t2 sm sh pg le lo (k') (cn + T.length) ml (bt'))) :
    (WQ M D 0 0 (.ref 91 :: as) (vW f il m1 m2 m3 hs nx cz rf sl t1 t2 sm sh pg le lo k cn ml bt) (kR Kn mc ms nx9 ls rest) KX) ∨ ((1 ≤ mc ∧ 34 ≤ ms) ∧ WQ M D 1 34 (.ref 91 :: as) (vW f il m1 m2 m3 hs nx cz rf sl t1 t2 sm sh pg le lo k cn ml bt) (kRb (vW f il m1 m2 m3 hs nx cz rf sl t1 t2 sm sh pg le lo k cn ml bt).length Kn (mc - 1) (ms - 34) nx9 ls rest) KX') := by
  have hb := hS.at hk0
  by_cases e : cn + (T.length : Int) ≤ N
  · refine Or.inl (v_fr rfl has hb ?_)
    refine hA.1 N ml cn g L _ _ (by omega) hS.1 hO e (fun g' h1 h2 => ?_)
    refine frK_v ?_
    exact h N k _ g' mc ms (hS.put h1) hN h2 e hmc
  · have e16 : N = 16 := by omega
    subst e16
    refine Or.inr ⟨hmc rfl, v_fr rfl has hb ?_⟩
    refine hA.2 ml cn g L _ _ hS.1 hO (by omega) (by omega) hlen (fun g' h1 h2 => ?_)
    obtain ⟨a1, a2, a3, a4, a5⟩ := hS.grow (g0 := g) h1
    refine frK_x ?_ ?_
    · rw [vW_len, a3, a4, a2]
      exact hw a1 cn ml g
    · have hn : 92 ≤ (vW f il m1 m2 m3 hs nx cz rf sl t1 t2 sm sh pg le lo k cn ml bt).length := by rw [vW_len]; omega
      exact ⟨⟨bLo_mono hn ls hls, bSt_mono hn rest hst⟩, h 34 _ _ g' _ _ a5 (Or.inr rfl) h2 hlen (fun h9 => absurd h9 (by decide))⟩
