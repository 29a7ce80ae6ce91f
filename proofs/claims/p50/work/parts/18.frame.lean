/-! THE FRAME RULE: a contract over a few cells serves in every world that has these cells. -/
theorem Met_mono {l : Launch} {y : MethodName} {ws : List Cond} {rm : Room} {Pc Pc' : Array Value → State → Prop} {Qc Qc' : Array Value → State → Outcome → State → Prop} {XC XC' : String → State → State → Prop} {mc ms : Nat} {free free' : Addr → Prop} (h : vx_Met l y ws rm Pc Qc XC mc ms free)
    (hp : ∀ a s, Pc' a s → Pc a s) (hq : ∀ a s o t, Pc' a s → Qc a s o t → Qc' a s o t) (hx : ∀ a s t E, Pc' a s → XC E s t → XC' E s t) (hf : ∀ q, free q → free' q) : vx_Met l y ws rm Pc' Qc' XC' mc ms free' := by
  intro p e h1 h2 h3 s m args below h4 h5 h6 h7
  obtain ⟨n, o, a, b, c, q⟩ := h p e h1 h2 h3 s m args below h4 h5 (hp _ _ h6) h7
  refine ⟨n, o, a, b, c, ?_⟩
  rcases q with ⟨q1, L, q2, q3⟩ | ⟨q, e1, E, ce, L, g1, g2, g3, g4, g5, g6, g7⟩
  · exact Or.inl ⟨hq _ _ _ _ h6 q1, L, q2, fun z hz => hf _ (q3 z hz)⟩
  · exact Or.inr ⟨q, e1, E, ce, L, hx _ _ _ _ h6 g1, g2, g3, g4, g5, g6, fun z hz => hf _ (g7 z hz)⟩
/-- the place of a sub-world's place -/
def rnN (is : List Nat) (n k : Nat) : Nat := if 1000 ≤ k then k else match is[k]? with
  | some p => p
  | none => n + (k - is.length)
/-- renaming, handed on in plain form -/
def kI {R : Sort _} (n : Nat) (k : Nat → R) : List Nat → Nat → R
  | [], j => k (n + j)
  | p :: _, 0 => k p
  | _ :: t, j + 1 => kI n k t j
theorem kI_eq {R : Sort _} (n : Nat) (k : Nat → R) : ∀ (is : List Nat) (j : Nat), kI n k is j = k (match is[j]? with | some p => p | none => n + (j - is.length))
  | [], j => by simp [kI]
  | p :: t, 0 => by simp [kI]
  | p :: t, j + 1 => by
    rw [kI, kI_eq n k t j]
    simp
def kRn {R : Sort _} (is : List Nat) (n j : Nat) (k : Nat → R) : R := match Nat.ble 1000 j with
  | true => k j
  | false => kI n k is j
theorem kRn_eq {R : Sort _} (is : List Nat) (n j : Nat) (k : Nat → R) : kRn is n j k = k (rnN is n j) := by
  unfold kRn rnN
  by_cases h : 1000 ≤ j
  · rw [if_pos h, Nat.ble_eq_true_of_le h]
  · rw [if_neg h]
    have : Nat.ble 1000 j = false := by
      cases hb : Nat.ble 1000 j with
      | false => rfl
      | true => exact absurd (Nat.le_of_ble_eq_true hb) h
    rw [this]
    exact kI_eq n k is j
def kRV {R : Sort _} (is : List Nat) (n : Nat) (v : Value) (k : Value → R) : R := match v with
  | .ref j => kRn is n j (fun p => k (.ref p))
  | v => k v
theorem kRV_eq {R : Sort _} (is : List Nat) (n : Nat) (v : Value) (k : Value → R) : kRV is n v k = k (cV (rnN is n) v) := by
  cases v with
  | ref j => exact kRn_eq is n j (fun p => k (.ref p))
  | _ => rfl
def kRO {R : Sort _} (is : List Nat) (n : Nat) (v : Option Value) (k : Option Value → R) : R := match v with
  | none => k none
  | some v => kRV is n v (fun u => k (some u))
theorem kRO_eq {R : Sort _} (is : List Nat) (n : Nat) (v : Option Value) (k : Option Value → R) : kRO is n v k = k (v.map (cV (rnN is n))) := by
  cases v with
  | none => rfl
  | some v => exact kRV_eq is n v (fun u => k (some u))
def kRL {R : Sort _} (is : List Nat) (n : Nat) : List Value → (List Value → R) → R
  | [], k => k []
  | v :: t, k => kRV is n v (fun u => kRL is n t (fun l => k (u :: l)))
theorem kRL_eq {R : Sort _} (is : List Nat) (n : Nat) : ∀ (l : List Value) (k : List Value → R), kRL is n l k = k (l.map (cV (rnN is n)))
  | [], k => rfl
  | v :: t, k => by rw [kRL, kRV_eq, kRL_eq is n t, List.map_cons]
def rE (rn : Nat → Nat) (c : va_E) : va_E := cE (fun t => t) rn c
def kRE {R : Sort _} (is : List Nat) (n : Nat) (c : va_E) (k : va_E → R) : R := match c with
  | .inl (t, m, .inr (.inr (.inr (.inr f)))) => k (.inl (t, m, .inr (.inr (.inr (.inr (fun j => (f j).map (rnN is n)))))))
  | .inl (t, m, .inl f) => k (.inl (t, m, .inl f))
  | .inl (t, m, .inr (.inl f)) => k (.inl (t, m, .inr (.inl f)))
  | .inl (t, m, .inr (.inr (.inl f))) => k (.inl (t, m, .inr (.inr (.inl f))))
  | .inl (t, m, .inr (.inr (.inr (.inl f)))) => k (.inl (t, m, .inr (.inr (.inr (.inl f)))))
  | .inr (ci, fs) => kRL is n fs (fun l => k (.inr (ci, l)))
theorem kRE_eq {R : Sort _} (is : List Nat) (n : Nat) (c : va_E) (k : va_E → R) : kRE is n c k = k (rE (rnN is n) c) := by
  rcases c with ⟨t, m, f⟩ | ⟨ci, fs⟩
  · rcases f with f | f | f | f | f <;> rfl
  · exact kRL_eq is n fs _
/-- the sub-world is that of the places is -/
def subW (w : PW) (is : List Nat) (w' : PW) : Prop := is.map (gW w) = w'.map (fun c => some (rE (rnN is w.length) c))
theorem subW_len {w : PW} {is : List Nat} {w' : PW} (h : subW w is w') : is.length = w'.length := by
  have := congrArg List.length h
  simpa using this
theorem rnN_in {is : List Nat} {n k p : Nat} (hl : is.length ≤ 1000) (h : is[k]? = some p) : rnN is n k = p := by
  have := (List.getElem?_eq_some_iff.mp h).1
  unfold rnN
  rw [if_neg (by omega), h]
theorem subW_at {w : PW} {is : List Nat} {w' : PW} (h : subW w is w') (hl : is.length ≤ 1000) {k : Nat} {c : va_E} (hk : w'[k]? = some c) : ∃ p, is[k]? = some p ∧ rnN is w.length k = p ∧ w[p]? = some (rE (rnN is w.length) c) := by
  have h1 := congrArg (fun l => l[k]?) h
  simp only [List.getElem?_map, hk, Option.map_some] at h1
  cases hp : is[k]? with
  | none => rw [hp] at h1; cases h1
  | some p =>
    rw [hp] at h1
    simp only [Option.map_some, Option.some.injEq] at h1
    exact ⟨p, rfl, rnN_in hl hp, by rw [← gW_eq]; exact h1⟩
theorem cV_comp (f g : Nat → Nat) (v : Value) : cV f (cV g v) = cV (fun k => f (g k)) v := by cases v <;> rfl
theorem cE_comp (td : Nat → ClassId) (f g : Nat → Nat) (c : va_E) : cE td f (rE g c) = cE td (fun k => f (g k)) c := by
  rcases c with ⟨t, m, x⟩ | ⟨ci, fs⟩
  · rcases x with x | x | x | x | x
    · rfl
    · rfl
    · rfl
    · rfl
    · have e : (fun j => Option.map f (Option.map g (x j))) = fun j => Option.map (fun k => f (g k)) (x j) := funext fun j => by cases x j <;> rfl
      simp only [rE, cE, cA, e]
  · simp only [rE, cE, List.map_map]
    congr 3
    funext v
    exact cV_comp f g v
/-- the world behind: the cells of the sub-world go back, new ones come behind -/
def kUp {R : Sort _} (is0 : List Nat) (n : Nat) : PW → List Nat → PW → (PW → R) → R
  | w, p :: is, c :: cs, k => kRE is0 n c (fun c => kW c w p (fun w => kUp is0 n w is cs k))
  | w, _, [], k => k w
  | w, [], c :: cs, k => kRE is0 n c (fun c => kUp is0 n (w ++ [c]) [] cs k)
def upW (rn : Nat → Nat) : PW → List Nat → PW → PW
  | w, p :: is, c :: cs => upW rn (w.set p (rE rn c)) is cs
  | w, _, [] => w
  | w, [], c :: cs => upW rn (w ++ [rE rn c]) [] cs
theorem kUp_eq {R : Sort _} (is0 : List Nat) (n : Nat) : ∀ (w : PW) (is : List Nat) (cs : PW) (k : PW → R), kUp is0 n w is cs k = k (upW (rnN is0 n) w is cs)
  | w, p :: is, c :: cs, k => by rw [kUp, kRE_eq, kW_eq, kUp_eq is0 n _ is cs k, upW]
  | w, [], [], k => by simp [kUp, upW]
  | w, p :: is, [], k => by simp [kUp, upW]
  | w, [], c :: cs, k => by rw [kUp, kRE_eq, kUp_eq is0 n _ [] cs k, upW]
theorem upW_app (rn : Nat → Nat) : ∀ (w cs : PW), upW rn w [] cs = w ++ cs.map (rE rn)
  | w, [] => by simp [upW]
  | w, c :: cs => by rw [upW, upW_app rn _ cs]; simp
theorem upW_get (rn : Nat → Nat) : ∀ (w : PW) (is : List Nat) (cs : PW), va_nd is = true → (∀ p ∈ is, p < w.length) → is.length ≤ cs.length →
    (upW rn w is cs).length = w.length + (cs.length - is.length) ∧ (∀ (j p : Nat) (c : va_E), is[j]? = some p → cs[j]? = some c → (upW rn w is cs)[p]? = some (rE rn c)) ∧
    (∀ k, k < w.length → k ∉ is → (upW rn w is cs)[k]? = w[k]?) ∧ (∀ (j : Nat) (c : va_E), cs[is.length + j]? = some c → (upW rn w is cs)[w.length + j]? = some (rE rn c))
  | w, [], cs, _, _, _ => by
    rw [upW_app]
    refine ⟨by simp, fun j p c h => by simp at h, fun k hk _ => by rw [List.getElem?_append_left hk], fun j c h => ?_⟩
    rw [List.getElem?_append_right (by omega), List.getElem?_map]
    simp only [List.length_nil, Nat.zero_add] at h
    rw [show w.length + j - w.length = j by omega, h]
    rfl
  | w, p0 :: is, [], _, _, hl => by simp at hl
  | w, p0 :: is, c0 :: cs, hn, hp, hl => by
    simp only [va_nd, Bool.and_eq_true, decide_eq_true_eq] at hn
    have hp0 : p0 < w.length := hp p0 List.mem_cons_self
    obtain ⟨a1, a2, a3, a4⟩ := upW_get rn (w.set p0 (rE rn c0)) is cs hn.2 (fun p h => by rw [List.length_set]; exact hp p (List.mem_cons_of_mem _ h)) (by simpa using hl)
    rw [List.length_set] at a1 a3 a4
    rw [upW]
    refine ⟨by rw [a1]; simp, fun j p c h1 h2 => ?_, fun k hk hk2 => ?_, fun j c h => ?_⟩
    · cases j with
      | zero =>
        simp only [List.getElem?_cons_zero, Option.some.injEq] at h1 h2
        subst h1 h2
        rw [a3 _ hp0 hn.1, List.getElem?_set_self hp0]
      | succ j => exact a2 j p c (by simpa using h1) (by simpa using h2)
    · rw [a3 k hk (fun h => hk2 (List.mem_cons_of_mem _ h)), List.getElem?_set_ne (fun h => hk2 (by rw [← h]; exact List.mem_cons_self))]
    · refine a4 j c ?_
      rw [List.length_cons, show is.length + 1 + j = (is.length + j) + 1 by omega, List.getElem?_cons_succ] at h
      exact h
/-- the refs of a world lie in it -/
def bW (n : Nat) (w : PW) : Prop := ∀ (k : Nat) (c : va_E), w[k]? = some c → ∀ (td : Nat → ClassId) (a b : Nat → Nat), (∀ k, (k < n ∨ 1000 ≤ k) → a k = b k) → cE td a c = cE td b c
def sameL : PW → List Nat → Bool
  | [], [] => true
  | _ :: t, _ :: u => sameL t u
  | _, _ => false
theorem sameL_eq : ∀ (w : PW) (l : List Nat), sameL w l = true → w.length = l.length
  | [], [], _ => rfl
  | _ :: t, _ :: u, h => by
    rw [sameL] at h
    simpa using sameL_eq t u h
  | [], _ :: _, h => by simp [sameL] at h
  | _ :: _, [], h => by simp [sameL] at h
/-- what is asked of the callee's world and result -/
def frK (is : List Nat) (w : PW) (K : Option Value → PW → Prop) : Option Value → PW → Prop := fun r w1 => match sameL w1 is with
  | true => kRO is w.length r (fun r2 => kUp is w.length w is w1 (fun w2 => K r2 w2))
  | false => is.length ≤ w1.length ∧ bW w.length w ∧ kRO is w.length r (fun r2 => kUp is w.length w is w1 (fun w2 => K r2 w2))
def frX (is : List Nat) (w : PW) (KX : String → PW → Prop) : String → PW → Prop := fun E w1 => match sameL w1 is with
  | true => kUp is w.length w is w1 (fun w2 => KX E w2)
  | false => is.length ≤ w1.length ∧ bW w.length w ∧ kUp is w.length w is w1 (fun w2 => KX E w2)
theorem frK_un {is : List Nat} {w : PW} {K : Option Value → PW → Prop} {r : Option Value} {w1 : PW} (h : frK is w K r w1) : (w1.length = is.length ∨ (is.length ≤ w1.length ∧ bW w.length w)) ∧ K (r.map (cV (rnN is w.length))) (upW (rnN is w.length) w is w1) := by
  unfold frK at h
  split at h
  · next hs =>
    rw [kRO_eq, kUp_eq] at h
    exact ⟨Or.inl (sameL_eq _ _ hs), h⟩
  · rw [kRO_eq, kUp_eq] at h
    exact ⟨Or.inr ⟨h.1, h.2.1⟩, h.2.2⟩
theorem frX_un {is : List Nat} {w : PW} {KX : String → PW → Prop} {E : String} {w1 : PW} (h : frX is w KX E w1) : (w1.length = is.length ∨ (is.length ≤ w1.length ∧ bW w.length w)) ∧ KX E (upW (rnN is w.length) w is w1) := by
  unfold frX at h
  split at h
  · next hs =>
    rw [kUp_eq] at h
    exact ⟨Or.inl (sameL_eq _ _ hs), h⟩
  · rw [kUp_eq] at h
    exact ⟨Or.inr ⟨h.1, h.2.1⟩, h.2.2⟩
def adX (ad ad1 : Nat → Nat) (n n' g : Nat) : Nat → Nat := fun k => if n ≤ k ∧ k < n + g then ad1 (n' + (k - n)) else ad k
theorem fr_world {X : XX} {ad ad1 : Nat → Nat} {w w' w1 : PW} {is : List Nat} {sz mc : Nat} {s t : State} (hsz : s.heap.size = sz) (hl : is.length + mc ≤ 1000) (hn : va_nd is = true) (hw : subW w is w') (hw8 : w.length + mc ≤ 1000)
    (hb : w1.length = is.length ∨ (is.length ≤ w1.length ∧ bW w.length w))
    (hP : va_P X.1 classes (cW X.2 ad w) s.heap) (hD : va_D (fun _ => True) (cW X.2 ad w))
    (hq : QW X w'.length mc (fun k => ad (rnN is w.length k)) (va_A (cW X.2 (fun k => ad (rnN is w.length k)) w') sz) w1 ad1 t) (hF : va_F (va_A (cW X.2 (fun k => ad (rnN is w.length k)) w') sz) s t) :
    (∀ v : Value, cV (adX ad ad1 w.length is.length (w1.length - is.length)) (cV (rnN is w.length) v) = cV ad1 v) ∧
    QW X w.length mc ad (va_A (cW X.2 ad w) sz) (upW (rnN is w.length) w is w1) (adX ad ad1 w.length is.length (w1.length - is.length)) t ∧ va_F (va_A (cW X.2 ad w) sz) s t := by
  have hl' := subW_len hw
  obtain ⟨hAG, hlen, hP1, hD1⟩ := hq
  have hle : is.length ≤ w1.length := by rcases hb with h | h <;> omega
  have hisr : ∀ (j p : Nat), is[j]? = some p → p < w.length ∧ rnN is w.length j = p := by
    intro j p h
    have hj : j < w'.length := by rw [← hl']; exact (List.getElem?_eq_some_iff.mp h).1
    obtain ⟨p', h1, h2, h3⟩ := subW_at hw (by omega) (List.getElem?_eq_getElem hj)
    rw [h] at h1
    cases h1
    exact ⟨(List.getElem?_eq_some_iff.mp h3).1, h2⟩
  have hmem : ∀ p ∈ is, p < w.length := fun p hp => by
    obtain ⟨j, hj⟩ := List.mem_iff_getElem?.mp hp
    exact (hisr j p hj).1
  have hA' : ∀ q, va_A (cW X.2 (fun k => ad (rnN is w.length k)) w') sz q → va_A (cW X.2 ad w) sz q := by
    rintro q (⟨k, e, hk⟩ | hq)
    · rw [cW_get] at hk
      cases hc : w'[k]? with
      | none => rw [hc] at hk; cases hk
      | some c =>
        rw [hc] at hk
        simp only [Option.map_some, Option.some.injEq, Prod.mk.injEq] at hk
        obtain ⟨p, h1, h2, h3⟩ := subW_at hw (by omega) hc
        rw [← hk.1, h2]
        exact Or.inl ⟨p, _, cW_at h3⟩
    · exact Or.inr hq
  -- the addresses
  have hcomp : ∀ k, adX ad ad1 w.length is.length (w1.length - is.length) (rnN is w.length k) = ad1 k := by
    intro k
    unfold adX
    by_cases h1 : 1000 ≤ k
    · have e : rnN is w.length k = k := by unfold rnN; rw [if_pos h1]
      rw [e, if_neg (by omega), hAG.2.2 k (by have := hAG.2.1; omega)]
      exact (congrArg ad e).symm
    · cases hp : is[k]? with
      | some p =>
        obtain ⟨h2, h3⟩ := hisr k p hp
        have hk : k < is.length := (List.getElem?_eq_some_iff.mp hp).1
        rw [h3, if_neg (by omega), hAG.2.2 k (Or.inl (by omega))]
        exact (congrArg ad h3).symm
      | none =>
        have hk : is.length ≤ k := by rw [List.getElem?_eq_none_iff] at hp; exact hp
        have e : rnN is w.length k = w.length + (k - is.length) := by unfold rnN; rw [if_neg h1, hp]
        rw [e]
        by_cases h2 : k < w1.length
        · rw [if_pos (by omega)]
          congr 1
          omega
        · rw [if_neg (by omega), hAG.2.2 k (by omega)]
          exact (congrArg ad e).symm
  have hout : ∀ k, (k < w.length ∨ w.length + (w1.length - is.length) ≤ k) → adX ad ad1 w.length is.length (w1.length - is.length) k = ad k := by
    intro k hk
    unfold adX
    rw [if_neg (by omega)]
  obtain ⟨u1, u2, u3, u4⟩ := upW_get (rnN is w.length) w is w1 hn hmem hle
  have hcomp' : (fun k => adX ad ad1 w.length is.length (w1.length - is.length) (rnN is w.length k)) = ad1 := funext hcomp
  -- every cell of the world behind has its source
  have hsrc : ∀ k (q : Nat × va_E), (cW X.2 (adX ad ad1 w.length is.length (w1.length - is.length)) (upW (rnN is w.length) w is w1))[k]? = some q →
      (∃ j, (cW X.2 ad1 w1)[j]? = some q ∧ (is[j]? = some k ∨ (is.length ≤ j ∧ k = w.length + (j - is.length)))) ∨ (k ∉ is ∧ (cW X.2 ad w)[k]? = some q) := by
    intro k q hk
    rw [cW_get] at hk
    by_cases hkl : k < w.length
    · by_cases hki : k ∈ is
      · obtain ⟨j, hj⟩ := List.mem_iff_getElem?.mp hki
        have hj1 : j < w1.length := by have := (List.getElem?_eq_some_iff.mp hj).1; omega
        rw [u2 j k _ hj (List.getElem?_eq_getElem hj1)] at hk
        refine Or.inl ⟨j, ?_, Or.inl hj⟩
        rw [cW_at (List.getElem?_eq_getElem hj1), ← hk]
        simp only [Option.map_some, cE_comp, hcomp', Option.some.injEq, Prod.mk.injEq, and_true]
        rw [← (hisr j k hj).2, hcomp]
      · rw [u3 k hkl hki] at hk
        refine Or.inr ⟨hki, ?_⟩
        rw [cW_get, ← hk]
        have hwk := List.getElem?_eq_getElem hkl
        rw [hwk]
        simp only [Option.map_some, Option.some.injEq, Prod.mk.injEq]
        refine ⟨(hout k (Or.inl hkl)).symm, ?_⟩
        rcases hb with hb | hb
        · congr 1
          funext z
          unfold adX
          rw [if_neg (by omega)]
        · exact hb.2 k _ hwk X.2 _ _ (fun z hz => (hout z (by omega)).symm)
    · have hk2 : k < w.length + (w1.length - is.length) := by
        cases hc : (upW (rnN is w.length) w is w1)[k]? with
        | none => rw [hc] at hk; cases hk
        | some c =>
          have := (List.getElem?_eq_some_iff.mp hc).1
          omega
      have hj1 : is.length + (k - w.length) < w1.length := by omega
      have := u4 (k - w.length) _ (List.getElem?_eq_getElem hj1)
      rw [show w.length + (k - w.length) = k by omega] at this
      rw [this] at hk
      refine Or.inl ⟨is.length + (k - w.length), ?_, Or.inr ⟨by omega, by omega⟩⟩
      rw [cW_at (List.getElem?_eq_getElem hj1), ← hk]
      simp only [Option.map_some, cE_comp, hcomp', Option.some.injEq, Prod.mk.injEq, and_true]
      unfold adX
      rw [if_pos (by omega)]
  have hold : ∀ k (q : Nat × va_E), k ∉ is → (cW X.2 ad w)[k]? = some q → q.1 < s.heap.size ∧ ¬ va_A (cW X.2 (fun k => ad (rnN is w.length k)) w') sz q.1 := by
    intro k q hki hk
    have h1 := (hP k q hk).lt
    refine ⟨h1, ?_⟩
    rintro (⟨j, e, hj⟩ | h2)
    · rw [cW_get] at hj
      cases hc : w'[j]? with
      | none => rw [hc] at hj; cases hj
      | some c =>
        rw [hc] at hj
        simp only [Option.map_some, Option.some.injEq, Prod.mk.injEq] at hj
        obtain ⟨p, h1, h2, h3⟩ := subW_at hw (by omega) hc
        rw [h2] at hj
        have := hD.1 p k _ _ (cW_at h3) hk hj.1
        rw [this] at h1
        exact hki (List.mem_iff_getElem?.mpr ⟨j, h1⟩)
    · omega
  refine ⟨fun v => by rw [cV_comp, hcomp'], ⟨⟨by omega, by omega, fun k hk => hout k (by omega)⟩, by omega, ?_, ?_, ?_⟩, hF.1, fun q hq hA => hF.2 q hq (fun h => hA (hA' q h))⟩
  · intro k q hk
    rcases hsrc k q hk with ⟨j, hj, -⟩ | ⟨hki, hk0⟩
    · exact hP1 j q hj
    · obtain ⟨h1, h2⟩ := hold k q hki hk0
      exact (hP k q hk0).kept (hF.2 q.1 h1 h2)
  · intro i j p q hi hj hpq
    rcases hsrc i p hi with ⟨i1, hi1, hi2⟩ | ⟨hi1, hi2⟩
    · rcases hsrc j q hj with ⟨j1, hj1, hj2⟩ | ⟨hj1, hj2⟩
      · have e := hD1.1 i1 j1 p q hi1 hj1 hpq
        subst e
        rcases hi2 with hi2 | hi2
        · have := (List.getElem?_eq_some_iff.mp hi2).1
          rcases hj2 with hj2 | hj2
          · rw [hi2] at hj2; cases hj2; rfl
          · omega
        · rcases hj2 with hj2 | hj2
          · have := (List.getElem?_eq_some_iff.mp hj2).1
            omega
          · omega
      · exact absurd (hpq ▸ hD1.2 i1 p hi1) (hold j q hj1 hj2).2
    · rcases hsrc j q hj with ⟨j1, hj1, hj2⟩ | ⟨hj1, hj2⟩
      · exact absurd (hpq ▸ hD1.2 j1 q hj1) (hold i p hi1 hi2).2
      · exact hD.1 i j p q hi2 hj2 hpq
  · intro k q hk
    rcases hsrc k q hk with ⟨j, hj, -⟩ | ⟨hki, hk0⟩
    · exact hA' _ (hD1.2 j q hj)
    · exact va_A.in hk0
theorem WQ_fr {M : MM} {d mc ms : Nat} {av : List Value} {w : PW} {K : Option Value → PW → Prop} {KX : String → PW → Prop} (is : List Nat) (w' : PW) (av' : List Value) (hl : Nat.ble (is.length + mc) 1000 = true) (hn : va_nd is = true) (hw : subW w is w') (hav : av = av'.map (cV (rnN is w.length)))
    (h : WQ M d mc ms av' w' (frK is w K) (frX is w KX)) : WQ M d mc ms av w K KX := by
  refine WQ_iff.mpr ?_
  intro l X ad sz htr hw9 hw8
  have hl1 : is.length + mc ≤ 1000 := Nat.le_of_ble_eq_true hl
  have hl' := subW_len hw
  have hM := (WQ_iff.mp h) (l := l) (X := X) (ad := fun k => ad (rnN is w.length k)) (sz := sz) htr (by omega) (by omega)
  have eav : av'.map (cV (fun k => ad (rnN is w.length k))) = av.map (cV ad) := by
    rw [hav, List.map_map]
    congr 1
    funext v
    exact (cV_comp ad (rnN is w.length) v).symm
  have hisr : ∀ (j p : Nat), is[j]? = some p → rnN is w.length j = p := fun j p h => rnN_in (by omega) h
  have hmapc : ∀ (k : Nat) (q : Nat × va_E), (cW X.2 (fun k => ad (rnN is w.length k)) w')[k]? = some q → ∃ p, is[k]? = some p ∧ (cW X.2 ad w)[p]? = some q := by
    intro k q hk
    rw [cW_get] at hk
    cases hc : w'[k]? with
    | none => rw [hc] at hk; cases hk
    | some c =>
      rw [hc] at hk
      simp only [Option.map_some, Option.some.injEq] at hk
      obtain ⟨p, h1, h2, h3⟩ := subW_at hw (by omega) hc
      refine ⟨p, h1, ?_⟩
      rw [cW_at h3, ← hk, cE_comp, h2]
  refine Met_mono hM ?_ ?_ ?_ ?_
  · rintro a s ⟨h1, h2, h3, h4, h5, h6⟩
    refine ⟨by rw [eav]; exact h1, h2, ?_, h4, ⟨?_, fun _ _ _ => trivial⟩, ?_⟩
    · intro k q hk
      obtain ⟨p, -, hp⟩ := hmapc k q hk
      exact h3 p q hp
    · intro i j p q hi hj hpq
      obtain ⟨a1, b1, c1⟩ := hmapc i p hi
      obtain ⟨a2, b2, c2⟩ := hmapc j q hj
      have := h5.1 a1 a2 p q c1 c2 hpq
      subst this
      exact va_nd_inj is hn i j a1 b1 b2
    · refine (h6.ad (ad' := fun k => ad (rnN is w.length k)) (fun k hk => ?_)).narrow ?_
      · show ad (rnN is w.length k) = ad k
        unfold rnN
        rw [if_pos hk]
      · rintro q (⟨k, e, hk⟩ | hq)
        · obtain ⟨p, -, hp⟩ := hmapc k _ hk
          exact Or.inl ⟨p, e, hp⟩
        · exact Or.inr hq
  · rintro a s o t ⟨h1, h2, h3, h4, h5, h6⟩ ⟨⟨r, w1, ad1, ho, hk, hq⟩, hF⟩
    obtain ⟨hb, hk⟩ := frK_un hk
    obtain ⟨g1, g2, g3⟩ := fr_world h2 hl1 hn hw hw8 hb h3 h5 hq hF
    refine ⟨⟨_, _, _, ?_, hk, g2⟩, g3⟩
    rw [ho]
    congr 1
    cases r with
    | none => rfl
    | some v => exact congrArg some (g1 v).symm
  · rintro a s t E ⟨h1, h2, h3, h4, h5, h6⟩ ⟨⟨w1, ad1, hk, hq⟩, hF⟩
    obtain ⟨hb, hk⟩ := frX_un hk
    obtain ⟨g1, g2, g3⟩ := fr_world h2 hl1 hn hw hw8 hb h3 h5 hq hF
    exact ⟨⟨_, _, hk, g2⟩, g3⟩
  · rintro q (⟨k, e, hk⟩ | hq)
    · obtain ⟨p, -, hp⟩ := hmapc k _ hk
      exact Or.inl ⟨p, e, hp⟩
    · exact Or.inr hq
/-! JDK METHODS: no row in the table of natives -/
theorem vx_ofF {l : Launch} {y : MethodName} {ws ws' : List Cond} {rm : Room} {Pc : Array Value → State → Prop} {Qc : Array Value → State → Outcome → State → Prop} {XC : String → State → State → Prop} {mc ms : Nat} {free : Addr → Prop} {cc : ByteArray} {maxL : Nat} {ret : Option FieldType}
    (hy : plainFor y = true) (hw : ws = Cond.code y cc maxL ret :: ws')
    (body : ∀ p e s m args below meth c s₁, BodyLoose p l y (headSpec ws rm) cc maxL ret e s m args below meth c s₁ → c.maxLocals = maxL → (∀ x ∈ c.exceptionTable.toList, False) → Pc args s →
      W p l e (headSpec ws rm).room s m args below meth c s.heap [] 0 0 (vx_MQ below Qc XC args s mc ms free) (entryFrame m args maxL)) : vx_Met l y ws rm Pc Qc XC mc ms free := by
  refine MetFree.of_bodySF (code := cc) (maxLocals := maxL) (ret := ret) hy ?_ ?_
  · intro args s m h hn
    obtain ⟨meth, c, h1, h2, h3, h4, h5, h6, -, -⟩ := Cond.code_spec hn (atoms_spec (ws := ws) h _ (by rw [hw]; exact List.mem_cons_self))
    exact ⟨meth, c, h1, h2, h3, h4, h5, h6⟩
  · intro p e s m args below meth c s₁ B hml hP _
    have hh0 : s₁.heap = s.heap := by rw [B.state]; rfl
    have ht : ∀ x ∈ c.exceptionTable.toList, False := by
      obtain ⟨meth9, c9, h1, h2, -, -, -, -, h7, -⟩ := Cond.code_spec B.named (atoms_spec (ws := ws) B.pre _ (by rw [hw]; exact List.mem_cons_self))
      cases Option.some.inj (h1.symm.trans B.method)
      cases Option.some.inj (h2.symm.trans (Stand.of_body B).code)
      intro x hx
      rw [Array.isEmpty_iff.mp h7] at hx
      cases hx
    obtain ⟨t, a1, o, b1, b2, b3⟩ := body p e s m args below meth c s₁ B hml ht hP s₁ hh0 (Stand.of_body B)
    exact ⟨t, o, a1, b1, b2, b3⟩
theorem WP_inF {M : MM} {d mc ms : Nat} {av : List Value} {w : PW} {K : Option Value → PW → Prop} {KX : String → PW → Prop} (hy : plainFor M.1 = true) (hz : tabOf M.1 = []) (hlen : (lg_sl (av.map (cV (fun k => k)))).length ≤ M.2.2.1)
    (h : GG gT M d mc ms 0 (inL av) [] w K KX) : WP M d mc ms av w K KX := by
  intro l X ad sz htr hw9 hw8
  rw [cdOf_n hz]
  refine vx_ofF (cc := M.2.1) (maxL := M.2.2.1) (ret := M.2.2.2) hy rfl ?_
  intro p e s m args below meth c s₁ B hml hnt hv
  obtain ⟨rfl, hsz, hP, hK, hD, hR⟩ := hv
  have hts := atoms_spec (ws := .code M.1 M.2.1 M.2.2.1 M.2.2.2 :: WD) B.pre
  subst hsz
  have hlen' : (lg_sl (av.map (cV ad))).length ≤ M.2.2.1 := by
    have e : ∀ l : List Value, (lg_sl (l.map (cV ad))).length = (lg_sl (l.map (cV (fun k => k)))).length := by
      intro l
      induction l with
      | nil => rfl
      | cons a t ih =>
        simp only [lg_sl, List.map_cons, List.flatMap_cons, List.length_append] at ih ⊢
        rw [ih]
        congr 1
        cases a <;> rfl
    rw [e]; exact hlen
  have hl := lv_entry (av.map (cV ad)) (n := M.2.2.1) hlen'
  rw [lg_entry_eq]
  generalize (lg_sl (av.map (cV ad)) ++ List.replicate (M.2.2.1 - (lg_sl (av.map (cV ad))).length) Slot.unset).toArray = la at hl ⊢
  have E : EE gT M d mc ms (inL av) w l p ({ frames := d, cells := mc, slots := ms, locals := 40 * d } : Room) s m (av.map (cV ad)).toArray meth c s.heap [] 0 0 X ad (va_A (cW X.2 ad w) s.heap.size) w.length ad mc ms la :=
    ⟨⟨htr, B.exec, B.bytes, hml, B.returns, findClass_of_methodNamed B.named, fun w hw => hts w (List.mem_cons_of_mem _ hw), B.notSynchronized, (name_of_methodNamed B.named B.method).1⟩,
      ⟨Nat.le_refl _, Nat.le_refl _, by omega, by omega, Nat.le_refl _, Nat.le_refl _, Nat.le_refl _, hw8⟩, hl_in hl, ⟨hK, hP, hD.self, va_S.rf, fun q hq => Or.inr hq, hR, AG.rf hw9⟩, by rw [hz]; exact ⟨nt_nil hnt, trivial⟩⟩
  exact h E
/-- a method is proved by its operations; its first locals told in plain form -/
theorem meth' {M : MM} {d mc ms : Nat} {av : List Value} {w : PW} {K : Option Value → PW → Prop} {KX : String → PW → Prop} (ls : PLo) (hls : inL av = ls) (hy : plainFor M.1 = true) (hz : tabOf M.1 = []) (hlen : Nat.ble (lg_sl (av.map (cV (fun k => k)))).length M.2.2.1 = true) (h : GO M d mc ms 0 ls [] w K KX) : WQ M d mc ms av w K KX := by
  subst hls
  exact WQ_iff.mpr (WP_inF hy hz (Nat.le_of_ble_eq_true hlen) (GO_iff.mp h))
