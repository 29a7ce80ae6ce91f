/-! THE START: what nobody writes, out of the Statement's premises -/
section START
variable {args : Array Value} {s : State} {A : Nat → Prop}
abbrev FLc : List Cond := flatC (Jvm.Cond.and given_1 narrow_1)
theorem fl_at (hgv : (Jvm.Cond.and given_1 narrow_1).before args s = true) {c : Cond} (k : Nat) (h : FLc[k]? = some c) : c.before args s = true := flat_of_before _ hgv _ (List.mem_of_getElem? h)
abbrev tON : Term := .static "java/lang/Integer" "DigitOnes" "[B"
abbrev tTE : Term := .static "java/lang/Integer" "DigitTens" "[B"
theorem ix_on : ∀ j : Nat, j < 100 → FLc[14 + j]? = some (Cond.eq (.elem tON (.int (Int32.ofNat j))) (.int (digO j))) := by decide +kernel
theorem ix_te : ∀ j : Nat, j < 100 → FLc[117 + j]? = some (Cond.eq (.elem tTE (.int (Int32.ofNat j))) (.int (digT j))) := by decide +kernel
theorem st_on (hgv : (Jvm.Cond.and given_1 narrow_1).before args s = true) (hA : ∀ a : Nat, a < s.heap.size → ¬ A a) : ∃ t : Nat, tON.eval args s none [] s = some (.ref t) ∧ va_T .byte t 100 (fun j => .int (digO j)) A s s.heap :=
  va_Tof (by decide) (fl_at hgv 12 (by decide +kernel)) (va_eqt (fl_at hgv 13 (by decide +kernel))) (fun j hj => va_eqt (fl_at hgv (14 + j) (ix_on j hj))) hA
theorem st_te (hgv : (Jvm.Cond.and given_1 narrow_1).before args s = true) (hA : ∀ a : Nat, a < s.heap.size → ¬ A a) : ∃ t : Nat, tTE.eval args s none [] s = some (.ref t) ∧ va_T .byte t 100 (fun j => .int (digT j)) A s s.heap :=
  va_Tof (by decide) (fl_at hgv 115 (by decide +kernel)) (va_eqt (fl_at hgv 116 (by decide +kernel))) (fun j hj => va_eqt (fl_at hgv (117 + j) (ix_te j hj))) hA
/-- a String constant's leaves begin at b -/
abbrev sfV (own : String) (k : Nat) : Term := .field (.string own k) "java/lang/String" "value" "[B"
abbrev stOk (b : Nat) (own : String) (k : Nat) (bs : List Int32) : Prop :=
  FLc[b]? = some (.exactly (.string own k) "java/lang/String") ∧ FLc[b + 1]? = some (.eq (.field (.string own k) "java/lang/String" "coder" "B") (.int 0)) ∧ FLc[b + 2]? = some (.arrayOf (sfV own k) .byte) ∧ FLc[b + 3]? = some (.eq (.length (sfV own k)) (.int (Int32.ofNat bs.length))) ∧ ∀ j : Nat, j < bs.length → FLc[b + 4 + j]? = some (.eq (.elem (sfV own k) (.int (Int32.ofNat j))) (.int (bs.getD j 0)))
def stK : List Nat := [300, 217, 227, 238, 250, 260, 273, 286, 320, 338, 359]
theorem st_lv : ∀ i : Nat, i < 11 → stOk (stK.getD i 0) (stTab.getD i ("", 0, "", [])).1 (stTab.getD i ("", 0, "", [])).2.1 (stTab.getD i ("", 0, "", [])).2.2.2 := by decide +kernel
theorem st_rf : ∀ i : Nat, i < 11 → Cond.stringRef (stTab.getD i ("", 0, "", [])).1 (stTab.getD i ("", 0, "", [])).2.1 (stTab.getD i ("", 0, "", [])).2.2.1 ∈ lw_tbl := by decide +kernel
theorem st_ln : ∀ i : Nat, i < 11 → (stTab.getD i ("", 0, "", [])).2.2.2.length < 2 ^ 31 := by decide +kernel
theorem st_one (hgv : (Jvm.Cond.and given_1 narrow_1).before args s = true) (hA : ∀ a : Nat, a < s.heap.size → ¬ A a) {b k : Nat} {own : String} {bs : List Int32} (hb : bs.length < 2 ^ 31) (h : stOk b own k bs) : ∃ p : Nat × Nat,
    (Term.string own k).eval args s none [] s = some (.ref p.1) ∧ va_O "java/lang/String" p.1 A s s.heap ∧ va_OF "java/lang/String" "coder" "B" (.int 0) p.1 A s s.heap ∧ va_OF "java/lang/String" "value" "[B" (.ref p.2) p.1 A s s.heap ∧ va_T .byte p.2 bs.length (fun j => .int (bs.getD j 0)) A s s.heap := by
  obtain ⟨h1, h2, h3, h4, h5⟩ := h
  have e1 := fl_at hgv _ h1
  obtain ⟨a, c, cA, kA, q1, -⟩ := Cond.exactly_spec (args := args) (first := s) (o := none) (s := s) (idx := []) (t := .string own k) (cls := "java/lang/String") e1
  obtain ⟨v, hv, hT⟩ := va_Tof (f := fun j => .int (bs.getD j 0)) hb (fl_at hgv _ h3) (va_eqt (fl_at hgv _ h4)) (fun j hj => va_eqt (fl_at hgv _ (h5 j hj))) hA
  exact ⟨(a, v), q1, va_Oof e1 q1 hA, vk_OFof q1 (va_eqt (fl_at hgv _ h2)) hA, vk_OFof q1 hv hA, hT⟩
theorem st_nest : ∀ q ∈ nestTab, Cond.methodLinkNest q.1 q.2.1 q.2.2.1 q.2.2.2 ∈ lw_tbl := by decide +kernel
theorem st_xtra : ∀ w ∈ xtra, w ∈ lw_tbl := by decide +kernel
theorem ro_at (hgv : (Jvm.Cond.and given_1 narrow_1).before args s = true) (hts : ∀ w ∈ lw_tbl, w.before args s = true) (hA : ∀ a : Nat, a < s.heap.size → ¬ A a) (b : Nat) : ∃ ad : Nat → Nat, ad 3300 = b ∧ RO ad A s s.heap := by
  obtain ⟨t1, g1, T1⟩ := st_on hgv hA
  obtain ⟨t10, g10, T10⟩ := st_te hgv hA
  have hs : ∀ i : Nat, ∃ p : Nat × Nat, ∀ q : String × Nat × String × List Int32, stTab[i]? = some q →
      (Term.string q.1 q.2.1).eval args s none [] s = some (.ref p.1) ∧ va_O "java/lang/String" p.1 A s s.heap ∧ va_OF "java/lang/String" "coder" "B" (.int 0) p.1 A s s.heap ∧ va_OF "java/lang/String" "value" "[B" (.ref p.2) p.1 A s s.heap ∧ va_T .byte p.2 q.2.2.2.length (fun j => .int (q.2.2.2.getD j 0)) A s s.heap := by
    intro i
    by_cases hi : i < 11
    · obtain ⟨p, hp⟩ := st_one (A := A) hgv hA (st_ln i hi) (st_lv i hi)
      refine ⟨p, fun q hq => ?_⟩
      have e : stTab.getD i ("", 0, "", []) = q := by rw [List.getD_eq_getElem?_getD, hq]; rfl
      rw [e] at hp
      exact hp
    · refine ⟨(0, 0), fun q hq => ?_⟩
      rw [List.getElem?_eq_none (show stTab.length ≤ i from Nat.le_of_not_lt hi)] at hq
      cases hq
  obtain ⟨f, hf⟩ := Classical.axiomOfChoice hs
  have hq17 : ∀ (i : Nat) (q : String × Nat × String × List Int32), stTab[i]? = some q → i < 11 := fun i q hq => (List.getElem?_eq_some_iff.mp hq).1
  have hfm : va_Zq "jdk/internal/util/Preconditions" "SIOOBE_FORMATTER" "Ljava/util/function/BiFunction;" A s s.heap := va_Zqof (hts (.laysStatic "jdk/internal/util/Preconditions" "SIOOBE_FORMATTER" "Ljava/util/function/BiFunction;") (by decide +kernel)) (hts (.initialized "jdk/internal/util/Preconditions") (by decide +kernel)) (fl_at hgv 7 (by decide +kernel)) hA
  obtain ⟨tf, hfo⟩ : ∃ tf : Nat, va_Z "jdk/internal/util/Preconditions" "SIOOBE_FORMATTER" "Ljava/util/function/BiFunction;" .null A s s.heap ∨ va_Z "jdk/internal/util/Preconditions" "SIOOBE_FORMATTER" "Ljava/util/function/BiFunction;" (.ref tf) A s s.heap := by
    rcases hfm with h | ⟨t, h⟩
    · exact ⟨0, Or.inl h⟩
    · exact ⟨t, Or.inr h⟩
  let ad : Nat → Nat := fun k => if k = 3300 then b else if k = 3100 then tf else if k = 3000 then t10 else if k = 3001 then t1 else if k < 2000 then (f (k - 1000)).1 else (f (k - 2000)).2
  have a1 : ∀ i : Nat, i < 11 → ad (1000 + i) = (f i).1 := fun i hi => by
    show (if 1000 + i = 3300 then b else if 1000 + i = 3100 then tf else if 1000 + i = 3000 then t10 else if 1000 + i = 3001 then t1 else if 1000 + i < 2000 then (f (1000 + i - 1000)).1 else (f (1000 + i - 2000)).2) = _
    rw [if_neg (by omega), if_neg (by omega), if_neg (by omega), if_neg (by omega), if_pos (by omega), Nat.add_sub_cancel_left]
  have a2 : ∀ i : Nat, i < 11 → ad (2000 + i) = (f i).2 := fun i hi => by
    show (if 2000 + i = 3300 then b else if 2000 + i = 3100 then tf else if 2000 + i = 3000 then t10 else if 2000 + i = 3001 then t1 else if 2000 + i < 2000 then (f (2000 + i - 1000)).1 else (f (2000 + i - 2000)).2) = _
    rw [if_neg (by omega), if_neg (by omega), if_neg (by omega), if_neg (by omega), if_neg (by omega), Nat.add_sub_cancel_left]
  refine ⟨ad, rfl, ⟨?_, ?_, T10, ?_, T1, ?_, ?_⟩, fun i q hq => ?_, fun i q hq => ?_, fun q hq => ?_, ⟨fun q hq => ?_, fun q hq => ?_, ?_⟩, hfo⟩
  · exact va_Zof (hts (.laysStatic "java/lang/String" "COMPACT_STRINGS" "Z") (by decide +kernel)) (hts (.initialized "java/lang/String") (by decide +kernel)) (va_eqt (fl_at hgv 4 (by decide +kernel))) hA
  · exact va_Zref (hts (.laysStatic "java/lang/Integer" "DigitTens" "[B") (by decide +kernel)) (hts (.initialized "java/lang/Integer") (by decide +kernel)) g10 hA
  · exact va_Zref (hts (.laysStatic "java/lang/Integer" "DigitOnes" "[B") (by decide +kernel)) (hts (.initialized "java/lang/Integer") (by decide +kernel)) g1 hA
  · exact vx_Zqof (hts (.laysStatic "java/lang/Throwable" "UNASSIGNED_STACK" "[Ljava/lang/StackTraceElement;") (by decide +kernel)) (hts (.initialized "java/lang/Throwable") (by decide +kernel)) (fl_at hgv 5 (by decide +kernel)) hA
  · exact vx_Zqof (hts (.laysStatic "java/lang/Throwable" "SUPPRESSED_SENTINEL" "Ljava/util/List;") (by decide +kernel)) (hts (.initialized "java/lang/Throwable") (by decide +kernel)) (fl_at hgv 6 (by decide +kernel)) hA
  · rw [a1 i (hq17 i q hq), a2 i (hq17 i q hq)]
    exact (hf i q hq).2
  · rw [a1 i (hq17 i q hq)]
    have e : stTab.getD i ("", 0, "", []) = q := by rw [List.getD_eq_getElem?_getD, hq]; rfl
    have hw := st_rf i (hq17 i q hq)
    rw [e] at hw
    exact vk_R.of (hts _ hw) (hf i q hq).1
  · exact va_Nw.of rfl (hts _ (st_nest q hq))
  · exact va_Nw.of (xtra_on q hq) (hts _ (st_xtra q hq))
  · cases hq
  · exact va_AO.of (hts (.arrayOver (.object "RestMill$Mill")) (by decide +kernel))
end START
