/-! THE PURE SIDE. A world is a list of cells by places; a reference is a place; 'ad' gives each place its address. Places from 1000 on are things that nobody writes (String constants and the like). -/
abbrev PW : Type := List va_E
/-- machine numbers by whole numbers -/
def iI (z : Int) : Int32 := Int32.ofInt z
def lI (z : Int) : Int64 := Int64.ofInt z
theorem nI_iI (n : Nat) : nI n = iI (n : Int) := by
  unfold nI iI
  apply Int32.toBitVec_inj.mp
  simp [Int32.ofInt, Int32.ofNat]
abbrev PLo : Type := List (Option Value)
abbrev MM : Type := MethodName × ByteArray × Nat × Option FieldType
abbrev XX : Type := va_G × (Nat → ClassId)
def cV (ad : Nat → Nat) (v : Value) : Value := match v with
  | .ref k => .ref (ad k)
  | v => v
def cA (ad : Nat → Nat) (a : vp_A) : vp_A := (a.1, match a.2 with
  | .inr (.inr (.inr (.inr f))) => .inr (.inr (.inr (.inr (fun j => (f j).map ad))))
  | x => x)
def cE (td : Nat → ClassId) (ad : Nat → Nat) (c : va_E) : va_E := match c with
  | .inl (t, a) => .inl (td t, cA ad a)
  | .inr (ci, fs) => .inr (ci, fs.map (cV ad))
def cW (td : Nat → ClassId) (ad : Nat → Nat) (w : PW) : va_W := w.mapIdx (fun k c => (ad k, cE td ad c))
theorem cW_get (td : Nat → ClassId) (ad : Nat → Nat) (w : PW) (k : Nat) : (cW td ad w)[k]? = (w[k]?).map (fun c => (ad k, cE td ad c)) := by
  unfold cW
  rw [List.getElem?_mapIdx]
theorem cW_at {td : Nat → ClassId} {ad : Nat → Nat} {w : PW} {k : Nat} {c : va_E} (h : w[k]? = some c) : (cW td ad w)[k]? = some (ad k, cE td ad c) := by
  rw [cW_get, h]
  rfl
theorem cW_set {td : Nat → ClassId} {ad : Nat → Nat} {w : PW} {k : Nat} {c : va_E} : (cW td ad w).set k (ad k, cE td ad c) = cW td ad (w.set k c) := by
  apply List.ext_getElem?
  intro i
  rw [cW_get, List.getElem?_set, List.getElem?_set]
  by_cases h : k = i
  · subst h
    rw [if_pos rfl, if_pos rfl]
    have hl : (cW td ad w).length = w.length := by unfold cW; simp
    rw [hl]
    by_cases h2 : k < w.length
    · rw [if_pos h2, if_pos h2]
      rfl
    · rw [if_neg h2, if_neg h2]
      rfl
  · rw [if_neg h, if_neg h, cW_get]
theorem cW_len (td : Nat → ClassId) (ad : Nat → Nat) (w : PW) : (cW td ad w).length = w.length := by unfold cW; simp
/-- reading a cell, a field, a local: by plain recursion -/
def gW : PW → Nat → Option va_E
  | [], _ => none
  | c :: _, 0 => some c
  | _ :: t, k + 1 => gW t k
theorem gW_eq : ∀ (w : PW) (k : Nat), gW w k = w[k]?
  | [], k => by simp [gW]
  | c :: t, 0 => by simp [gW]
  | c :: t, k + 1 => by simp [gW, gW_eq t k]
def gF : List Value → Nat → Option Value
  | [], _ => none
  | c :: _, 0 => some c
  | _ :: t, k + 1 => gF t k
theorem gF_eq : ∀ (w : List Value) (k : Nat), gF w k = w[k]?
  | [], k => by simp [gF]
  | c :: t, 0 => by simp [gF]
  | c :: t, k + 1 => by simp [gF, gF_eq t k]
def gL : PLo → Nat → Option Value
  | [], _ => none
  | c :: _, 0 => c
  | _ :: t, k + 1 => gL t k
theorem gL_eq : ∀ (w : PLo) (k : Nat) (v : Value), gL w k = some v → w[k]? = some (some v)
  | [], k, v, h => by simp [gL] at h
  | c :: t, 0, v, h => by simpa [gL] using h
  | c :: t, k + 1, v, h => by simpa using gL_eq t k v (by simpa [gL] using h)
/-- setting a cell or a field, handed on: what comes is in plain form -/
def kW {R : Sort _} (c : va_E) : PW → Nat → (PW → R) → R
  | [], _, k => k []
  | _ :: t, 0, k => k (c :: t)
  | a :: t, i + 1, k => kW c t i (fun l => k (a :: l))
theorem kW_eq {R : Sort _} (c : va_E) : ∀ (w : PW) (i : Nat) (k : PW → R), kW c w i k = k (w.set i c)
  | [], i, k => by simp [kW]
  | a :: t, 0, k => by simp [kW]
  | a :: t, i + 1, k => by simp [kW, kW_eq c t i]
def kF {R : Sort _} (c : Value) : List Value → Nat → (List Value → R) → R
  | [], _, k => k []
  | _ :: t, 0, k => k (c :: t)
  | a :: t, i + 1, k => kF c t i (fun l => k (a :: l))
theorem kF_eq {R : Sort _} (c : Value) : ∀ (w : List Value) (i : Nat) (k : List Value → R), kF c w i k = k (w.set i c)
  | [], i, k => by simp [kF]
  | a :: t, 0, k => by simp [kF]
  | a :: t, i + 1, k => by simp [kF, kF_eq c t i]
/-- a local of one slot: one ahead of it that has two slots is gone -/
def kL1 {R : Sort _} (v : Value) : PLo → Nat → (PLo → R) → R
  | [], 0, k => k [some v]
  | [], i + 1, k => kL1 v [] i (fun l => k (none :: l))
  | _ :: t, 0, k => k (some v :: t)
  | a :: t, 1, k => (match a with
    | some (.long _) => kL1 v t 0 (fun l => k (none :: l))
    | some (.double _) => kL1 v t 0 (fun l => k (none :: l))
    | a => kL1 v t 0 (fun l => k (a :: l)))
  | a :: t, i + 2, k => kL1 v t (i + 1) (fun l => k (a :: l))
def sL1 (v : Value) : PLo → Nat → PLo
  | [], 0 => [some v]
  | [], i + 1 => none :: sL1 v [] i
  | _ :: t, 0 => some v :: t
  | a :: t, 1 => (match a with
    | some (.long _) => none :: sL1 v t 0
    | some (.double _) => none :: sL1 v t 0
    | a => a :: sL1 v t 0)
  | a :: t, i + 2 => a :: sL1 v t (i + 1)
theorem kL1_eq {R : Sort _} (v : Value) : ∀ (ls : PLo) (i : Nat) (k : PLo → R), kL1 v ls i k = k (sL1 v ls i)
  | [], 0, k => rfl
  | [], i + 1, k => by rw [kL1, kL1_eq v [] i, sL1]
  | _ :: t, 0, k => rfl
  | a :: t, 1, k => by
    cases a with
    | none => exact kL1_eq v t 0 _
    | some z => cases z <;> exact kL1_eq v t 0 _
  | a :: t, i + 2, k => by rw [kL1, kL1_eq v t (i + 1), sL1]
theorem sL1_spec (v u : Value) : ∀ (ls : PLo) (i j : Nat), (sL1 v ls i)[j]? = some (some u) → (j = i ∧ u = v) ∨ (j ≠ i ∧ ls[j]? = some (some u) ∧ ¬ (j + 1 = i ∧ u.category = 2))
  | [], 0, 0, h => by
    simp [sL1] at h
    exact Or.inl ⟨rfl, h.symm⟩
  | [], 0, j + 1, h => by simp [sL1] at h
  | [], i + 1, 0, h => by simp [sL1] at h
  | [], i + 1, j + 1, h => by
    rw [sL1, List.getElem?_cons_succ] at h
    rcases sL1_spec v u [] i j h with ⟨h1, h2⟩ | ⟨-, h1, -⟩
    · exact Or.inl ⟨by omega, h2⟩
    · simp at h1
  | _ :: t, 0, 0, h => by
    simp [sL1] at h
    exact Or.inl ⟨rfl, h.symm⟩
  | a :: t, 0, j + 1, h => by
    rw [sL1, List.getElem?_cons_succ] at h
    exact Or.inr ⟨by omega, by rw [List.getElem?_cons_succ]; exact h, by omega⟩
  | a :: t, 1, 0, h => by
    refine Or.inr ⟨by omega, ?_, ?_⟩
    · cases a with
      | none => simp [sL1] at h
      | some z => cases z <;> simp [sL1] at h ⊢ <;> exact h
    · cases a with
      | none => simp [sL1] at h
      | some z => cases z <;> simp [sL1] at h ⊢ <;> subst h <;> simp [Value.category]
  | a :: t, 1, j + 1, h => by
    have h9 : (sL1 v t 0)[j]? = some (some u) := by
      cases a with
      | none => simpa [sL1] using h
      | some z => cases z <;> simpa [sL1] using h
    rcases sL1_spec v u t 0 j h9 with ⟨h1, h2⟩ | ⟨h1, h2, h3⟩
    · exact Or.inl ⟨by omega, h2⟩
    · exact Or.inr ⟨by omega, by rw [List.getElem?_cons_succ]; exact h2, by omega⟩
  | a :: t, i + 2, 0, h => by
    rw [sL1] at h
    exact Or.inr ⟨by omega, by simpa using h, by omega⟩
  | a :: t, i + 2, j + 1, h => by
    rw [sL1, List.getElem?_cons_succ] at h
    rcases sL1_spec v u t (i + 1) j h with ⟨h1, h2⟩ | ⟨h1, h2, h3⟩
    · exact Or.inl ⟨by omega, h2⟩
    · exact Or.inr ⟨by omega, by rw [List.getElem?_cons_succ]; exact h2, by omega⟩
/-- the place behind a long is not told -/
def kN {R : Sort _} : PLo → Nat → (PLo → R) → R
  | [], _, k => k []
  | _ :: t, 0, k => k (none :: t)
  | a :: t, i + 1, k => kN t i (fun l => k (a :: l))
theorem kN_eq {R : Sort _} : ∀ (w : PLo) (i : Nat) (k : PLo → R), kN w i k = k (w.set i none)
  | [], i, k => by simp [kN]
  | a :: t, 0, k => by simp [kN]
  | a :: t, i + 1, k => by simp [kN, kN_eq t i]
/-- the told locals, with addresses -/
def prs (ad : Nat → Nat) (ls : PLo) : List (Nat × Value) := (List.range ls.length).filterMap (fun j => match ls[j]? with
  | some (some v) => some (j, cV ad v)
  | _ => none)
theorem prs_mem {ad : Nat → Nat} {ls : PLo} {q : Nat × Value} : q ∈ prs ad ls ↔ ∃ v, ls[q.1]? = some (some v) ∧ q.2 = cV ad v := by
  unfold prs
  rw [List.mem_filterMap]
  constructor
  · rintro ⟨j, -, h⟩
    split at h
    · next v hv =>
      cases h
      exact ⟨v, hv, rfl⟩
    · cases h
  · rintro ⟨v, h1, h2⟩
    refine ⟨q.1, ?_, ?_⟩
    · rw [List.mem_range]
      exact (List.getElem?_eq_some_iff.mp h1).1
    · rw [h1]
      show some (q.1, cV ad v) = some q
      rw [← h2]
theorem cV_cat (ad : Nat → Nat) (v : Value) : (cV ad v).category = v.category := by cases v <;> rfl
theorem hl_get {la : Array Slot} {n : Nat} {ad : Nat → Nat} {ls : PLo} (h : lv_has la n (prs ad ls)) {i : Nat} {v : Value} (hg : gL ls i = some v) : la[i]? = some (.val (cV ad v)) := h.2.2 (i, cV ad v) (prs_mem.mpr ⟨v, gL_eq _ _ _ hg, rfl⟩)
/-- fewer told locals -/
theorem hl_sub {la : Array Slot} {n : Nat} {ad : Nat → Nat} {ls ls' : PLo} (h : lv_has la n (prs ad ls)) (hs : ∀ (j : Nat) (v : Value), ls'[j]? = some (some v) → ls[j]? = some (some v)) : lv_has la n (prs ad ls') := ⟨h.1, h.2.1, fun q hq => by
  obtain ⟨v, h1, h2⟩ := prs_mem.mp hq
  exact h.2.2 q (prs_mem.mpr ⟨v, hs _ _ h1, h2⟩)⟩
theorem hl_set1 {la : Array Slot} {n : Nat} {ad : Nat → Nat} {ls : PLo} {i : Nat} {v : Value} (h : lv_has la n ((i, cV ad v) :: (prs ad ls).filter (fun q => !(q.1 == i) && !(q.1 + 1 == i && q.2.category == 2)))) : lv_has la n (prs ad (sL1 v ls i)) := ⟨h.1, h.2.1, fun q hq => by
  obtain ⟨u, h1, h2⟩ := prs_mem.mp hq
  refine h.2.2 q ?_
  rcases sL1_spec v u ls i q.1 h1 with ⟨e1, e2⟩ | ⟨e1, e2, e3⟩
  · refine List.mem_cons.mpr (Or.inl ?_)
    obtain ⟨a, b⟩ := q
    simp only at e1 h2 ⊢
    rw [e1, h2, e2]
  · refine List.mem_cons.mpr (Or.inr (List.mem_filter.mpr ⟨prs_mem.mpr ⟨u, e2, h2⟩, ?_⟩))
    rw [h2, cV_cat]
    simp only [Bool.and_eq_true, Bool.not_eq_true', beq_eq_false_iff_ne, ne_eq, Bool.and_eq_false_iff]
    refine ⟨e1, ?_⟩
    by_cases e4 : q.1 + 1 = i
    · exact Or.inr (fun e5 => e3 ⟨e4, e5⟩)
    · exact Or.inl e4⟩
theorem hl_set2 {la : Array Slot} {n : Nat} {ad : Nat → Nat} {ls : PLo} {i : Nat} {v : Value} (h : lv_has la n ((i, cV ad v) :: (prs ad ls).filter (fun q => !(q.1 == i) && (!(q.1 == i + 1) && !(q.1 + 1 == i && q.2.category == 2))))) : lv_has la n (prs ad ((sL1 v ls i).set (i + 1) none)) := ⟨h.1, h.2.1, fun q hq => by
  obtain ⟨u, h1, h2⟩ := prs_mem.mp hq
  refine h.2.2 q ?_
  rw [List.getElem?_set] at h1
  by_cases e0 : i + 1 = q.1
  · rw [if_pos e0] at h1
    split at h1 <;> cases h1
  rw [if_neg e0] at h1
  rcases sL1_spec v u ls i q.1 h1 with ⟨e1, e2⟩ | ⟨e1, e2, e3⟩
  · refine List.mem_cons.mpr (Or.inl ?_)
    obtain ⟨a, b⟩ := q
    simp only at e1 h2 ⊢
    rw [e1, h2, e2]
  · refine List.mem_cons.mpr (Or.inr (List.mem_filter.mpr ⟨prs_mem.mpr ⟨u, e2, h2⟩, ?_⟩))
    rw [h2, cV_cat]
    simp only [Bool.and_eq_true, Bool.not_eq_true', beq_eq_false_iff_ne, ne_eq, Bool.and_eq_false_iff]
    refine ⟨e1, fun e => e0 e.symm, ?_⟩
    by_cases e4 : q.1 + 1 = i
    · exact Or.inr (fun e5 => e3 ⟨e4, e5⟩)
    · exact Or.inl e4⟩
/-- the locals with which a method begins -/
def inL : List Value → PLo
  | [] => []
  | v :: vs => (match v with
    | .long _ => some v :: none :: inL vs
    | .double _ => some v :: none :: inL vs
    | v => some v :: inL vs)
theorem inL_mem (ad : Nat → Nat) : ∀ (vs : List Value) (k i : Nat) (v : Value), (inL vs)[i]? = some (some v) → (k + i, cV ad v) ∈ lv_args k (vs.map (cV ad))
  | [], k, i, v, h => by simp [inL] at h
  | u :: us, k, i, v, h => by
    have one : ∀ (j : Nat), u.category = 1 → (some u :: inL us)[j]? = some (some v) → (k + j, cV ad v) ∈ lv_args k ((u :: us).map (cV ad)) := by
      intro j hc hj
      rw [List.map_cons, lv_args, cV_cat, if_neg (by omega)]
      cases j with
      | zero =>
        simp only [List.getElem?_cons_zero, Option.some.injEq] at hj
        subst hj
        exact List.mem_cons_self
      | succ j =>
        rw [List.getElem?_cons_succ] at hj
        have := inL_mem ad us (k + 1) j v hj
        rw [show k + (j + 1) = k + 1 + j by omega]
        exact List.mem_cons_of_mem _ this
    have two : ∀ (j : Nat), u.category = 2 → (some u :: none :: inL us)[j]? = some (some v) → (k + j, cV ad v) ∈ lv_args k ((u :: us).map (cV ad)) := by
      intro j hc hj
      rw [List.map_cons, lv_args, cV_cat, if_pos hc]
      match j, hj with
      | 0, hj =>
        simp only [List.getElem?_cons_zero, Option.some.injEq] at hj
        subst hj
        exact List.mem_cons_self
      | 1, hj => simp at hj
      | j + 2, hj =>
        rw [List.getElem?_cons_succ, List.getElem?_cons_succ] at hj
        have := inL_mem ad us (k + 2) j v hj
        rw [show k + (j + 2) = k + 2 + j by omega]
        exact List.mem_cons_of_mem _ this
    cases u with
    | long z => exact two i rfl h
    | double z => exact two i rfl h
    | _ => exact one i rfl h
theorem hl_in {la : Array Slot} {n : Nat} {ad : Nat → Nat} {vs : List Value} (h : lv_has la n (lv_args 0 (vs.map (cV ad)))) : lv_has la n (prs ad (inL vs)) := ⟨h.1, h.2.1, fun q hq => by
  obtain ⟨v, h1, h2⟩ := prs_mem.mp hq
  have := inL_mem ad vs 0 q.1 v h1
  rw [Nat.zero_add, ← h2] at this
  exact h.2.2 q this⟩
/-- the words on a stack -/
def catS : List Value → Nat
  | [] => 0
  | .long _ :: t => catS t + 2
  | .double _ :: t => catS t + 2
  | _ :: t => catS t + 1
theorem catS_eq (ad : Nat → Nat) : ∀ st : List Value, ((st.map (cV ad)).map fun v => v.category).sum = catS st
  | [] => rfl
  | v :: t => by
    rw [List.map_cons, List.map_cons, List.sum_cons, catS_eq ad t, cV_cat]
    cases v <;> simp [catS, Value.category] <;> omega
