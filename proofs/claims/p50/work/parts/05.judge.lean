/-! THINGS THAT NOBODY WRITES: String constants (places 1000 + i, their bytes 2000 + i), two static tables of digits (3000, 3001), a static flag, two statics of Throwable. -/
def stTab : List (String × Nat × String × List Int32) := [
  ("RestMill$Tokens", 72, ";=+-*/%()", [59, 61, 43, 45, 42, 47, 37, 40, 41]),
  ("RestMill$Tokens", 83, "moduli", [109, 111, 100, 117, 108, 105]),
  ("RestMill$Tokens", 89, "checks", [99, 104, 101, 99, 107, 115]),
  ("RestMill$Tokens", 91, "strict", [115, 116, 114, 105, 99, 116]),
  ("RestMill$Tokens", 93, "set", [115, 101, 116]),
  ("RestMill$Tokens", 95, "scale", [115, 99, 97, 108, 101]),
  ("RestMill$Tokens", 97, "swap", [115, 119, 97, 112]),
  ("RestMill$Tokens", 99, "mend", [109, 101, 110, 100]),
  ("RestMillLaw", 44, "moduli", [109, 111, 100, 117, 108, 105]),
  ("RestMillLaw", 60, ";checks ", [59, 99, 104, 101, 99, 107, 115, 32]),
  ("RestMillLaw", 65, ";strict ", [59, 115, 116, 114, 105, 99, 116, 32])]
def stB (i : Nat) : List Int32 := (stTab.getD i ("", 0, "", [])).2.2.2
def digT (j : Nat) : Int32 := Int32.ofNat (48 + j / 10)
def digO (j : Nat) : Int32 := Int32.ofNat (48 + j % 10)
def ROs (ad : Nat → Nat) (A : Nat → Prop) (U : State) (H : Heap) : Prop := ∀ (i : Nat) (q : String × Nat × String × List Int32), stTab[i]? = some q →
  va_O "java/lang/String" (ad (1000 + i)) A U H ∧ va_OF "java/lang/String" "coder" "B" (.int 0) (ad (1000 + i)) A U H ∧ va_OF "java/lang/String" "value" "[B" (.ref (ad (2000 + i))) (ad (1000 + i)) A U H ∧ va_T .byte (ad (2000 + i)) q.2.2.2.length (fun j => .int (q.2.2.2.getD j 0)) A U H
def ROk (ad : Nat → Nat) (U : State) : Prop := ∀ (i : Nat) (q : String × Nat × String × List Int32), stTab[i]? = some q → vk_R q.1 q.2.1 q.2.2.1 (ad (1000 + i)) U
def ROt (ad : Nat → Nat) (A : Nat → Prop) (U : State) (H : Heap) : Prop :=
  va_Z "java/lang/String" "COMPACT_STRINGS" "Z" (.int 1) A U H ∧
  va_Z "java/lang/Integer" "DigitTens" "[B" (.ref (ad 3000)) A U H ∧ va_T .byte (ad 3000) 100 (fun j => .int (digT j)) A U H ∧
  va_Z "java/lang/Integer" "DigitOnes" "[B" (.ref (ad 3001)) A U H ∧ va_T .byte (ad 3001) 100 (fun j => .int (digO j)) A U H ∧
  vx_Zq Bundle.tN "UNASSIGNED_STACK" Bundle.steD A U H ∧ vx_Zq Bundle.tN "SUPPRESSED_SENTINEL" Bundle.listD A U H
/-- the links to a nest mate's private methods -/
def nestTab : List (String × Nat × MethodName × String) := [
  ("RestMill$Moduli", 70, ⟨"RestMill", "floorQuotient", "(JJ)J"⟩, "RestMill"),
  ("RestMill$Moduli", 74, ⟨"RestMill", "inverseOf", "(JI)I"⟩, "RestMill"),
  ("RestMill$Mill", 73, ⟨"RestMill", "floorRest", "(JJ)J"⟩, "RestMill"),
  ("RestMill$Mill", 96, ⟨"RestMill", "floorQuotient", "(JJ)J"⟩, "RestMill"),
  ("RestMill$Mill", 61, ⟨"RestMill", "numberIn", "(JJ)J"⟩, "RestMill"),
  ("RestMill$Moduli", 26, ⟨"RestMill", "copyRow", "([I[I)V"⟩, "RestMill"),
  ("RestMill$Moduli", 30, ⟨"RestMill", "copyRow", "([J[J)V"⟩, "RestMill"),
  ("RestMill$Mill", 30, ⟨"RestMill", "copyRow", "([J[J)V"⟩, "RestMill"),
  ("RestMill$Mill", 34, ⟨"RestMill", "copyRow", "([I[I)V"⟩, "RestMill"),
  ("RestMill$Moduli", 55, ⟨"RestMill", "greatestDivisor", "(II)I"⟩, "RestMill"),
  ("RestMill$Mill", 128, ⟨"RestMill", "divides", "(I)Z"⟩, "RestMill"),
  ("RestMill$Mill", 131, ⟨"RestMill", "exactOf", "(IJJ)J"⟩, "RestMill"),
  ("RestMill$Moduli", 78, ⟨"RestMill", "numberIn", "(JJ)J"⟩, "RestMill")]
def ROn (U : State) : Prop := ∀ q ∈ nestTab, va_Nw (.methodLinkNest q.1 q.2.1 q.2.2.1 q.2.2.2) U
/-- the exceptions: each is one of its own class, and none of the others -/
def ncTab : List (String × String) := []
/-- words that a call doesn't hand on by itself -/
def xtra : List Cond := [.castable "java/lang/IllegalArgumentException" "java/lang/IllegalArgumentException", .castable "java/lang/IndexOutOfBoundsException" "java/lang/IndexOutOfBoundsException", .castable "java/lang/IllegalStateException" "java/lang/IllegalStateException", .castable "java/util/NoSuchElementException" "java/util/NoSuchElementException", .declares ⟨"java/lang/RuntimeException", "<init>", "()V"⟩, .declares ⟨"java/lang/Exception", "<init>", "()V"⟩, .declares ⟨"java/lang/Throwable", "<init>", "()V"⟩]
theorem xtra_warm {w : Cond} (hw : w ∈ xtra) {s U : State} (hW : s.WarmedH U.vm) (hZ : va_Nw w s) : va_Nw w U := by
  have hd : ∀ x : MethodName, va_Nw (.declares x) s → va_Nw (.declares x) U := fun x h => va_tabs rfl (rfl : (s.setVm U.vm).vm = U.vm) (by rw [Cond.declares_setVm hW.alike]; exact h)
  simp only [xtra, List.mem_cons, List.not_mem_nil, or_false] at hw
  rcases hw with rfl | rfl | rfl | rfl | rfl | rfl | rfl
  · exact va_Nw.warmC hW hZ
  · exact va_Nw.warmC hW hZ
  · exact va_Nw.warmC hW hZ
  · exact va_Nw.warmC hW hZ
  · exact hd _ hZ
  · exact hd _ hZ
  · exact hd _ hZ
theorem xtra_on : ∀ w ∈ xtra, w.onTables = true := by decide +kernel
def ROc (U : State) : Prop := (∀ q ∈ xtra, va_Nw q U) ∧ (∀ q ∈ ncTab, va_Nc q.1 q.2 U) ∧ va_AO "RestMill$Mill" U
/-- a static that nobody looks at: null or some reference -/
def ROf (ad : Nat → Nat) (A : Nat → Prop) (U : State) (H : Heap) : Prop := va_Z "jdk/internal/util/Preconditions" "SIOOBE_FORMATTER" "Ljava/util/function/BiFunction;" .null A U H ∨ va_Z "jdk/internal/util/Preconditions" "SIOOBE_FORMATTER" "Ljava/util/function/BiFunction;" (.ref (ad 3100)) A U H
def RO (ad : Nat → Nat) (A : Nat → Prop) (U : State) (H : Heap) : Prop := ROt ad A U H ∧ ROs ad A U H ∧ ROk ad U ∧ ROn U ∧ ROc U ∧ ROf ad A U H
theorem RO.moved {ad : Nat → Nat} {A : Nat → Prop} {u U : State} {H : Heap} (hW : u.WarmedH U.vm) (h : RO ad A u H) : RO ad A U H := by
  obtain ⟨⟨h1, h2, h3, h4, h5, h6, h7⟩, hs, hk, hn, hc, hf⟩ := h
  have hv := hW.alike
  exact ⟨⟨va_Z.moved hv h1, va_Z.moved hv h2, va_T.moved hv h3, va_Z.moved hv h4, va_T.moved hv h5, vx_Zq.moved hv h6, vx_Zq.moved hv h7⟩,
    fun i q hq => ⟨va_O.moved hv (hs i q hq).1, va_OF.moved hv (hs i q hq).2.1, va_OF.moved hv (hs i q hq).2.2.1, va_T.moved hv (hs i q hq).2.2.2⟩, fun i q hq => vk_R.warm hW (hk i q hq), fun q hq => va_Nw.warmM hW (hn q hq), ⟨fun q hq => xtra_warm hq hW (hc.1 q hq), fun q hq => va_Nc.moved hW.alike (hc.2.1 q hq), va_AO.moved hW.alike hc.2.2⟩, hf.imp (va_Z.moved hv) (va_Z.moved hv)⟩
theorem RO.same {ad : Nat → Nat} {A : Nat → Prop} {u U : State} {H : Heap} (hv : U.vm = u.vm) (h : RO ad A u H) : RO ad A U H := by
  obtain ⟨⟨h1, h2, h3, h4, h5, h6, h7⟩, hs, hk, hn, hc, hf⟩ := h
  have hw : u.vm.Alike U.vm := by rw [hv]; exact Vm.Alike.refl _
  exact ⟨⟨va_Z.moved hw h1, va_Z.moved hw h2, va_T.moved hw h3, va_Z.moved hw h4, va_T.moved hw h5, vx_Zq.moved hw h6, vx_Zq.moved hw h7⟩,
    fun i q hq => ⟨va_O.moved hw (hs i q hq).1, va_OF.moved hw (hs i q hq).2.1, va_OF.moved hw (hs i q hq).2.2.1, va_T.moved hw (hs i q hq).2.2.2⟩, fun i q hq => vk_R.same hv (hk i q hq), fun q hq => va_Nw.same rfl hv.symm (hn q hq), ⟨fun q hq => va_Nw.same (xtra_on q hq) hv.symm (hc.1 q hq), fun q hq => va_Nc.moved hw (hc.2.1 q hq), va_AO.moved hw hc.2.2⟩, hf.imp (va_Z.moved hw) (va_Z.moved hw)⟩
theorem RO.kept {ad : Nat → Nat} {A : Nat → Prop} {U : State} {H H1 : Heap} (h : RO ad A U H) (hq : ∀ a : Nat, a < H.size → ¬ A a → H1[a]? = H[a]?) : RO ad A U H1 := by
  obtain ⟨⟨h1, h2, h3, h4, h5, h6, h7⟩, hs, hk, hn, hc, hf⟩ := h
  exact ⟨⟨va_Z.kept h1 hq, va_Z.kept h2 hq, va_T.kept h3 hq, va_Z.kept h4 hq, va_T.kept h5 hq, vx_Zq.kept h6 hq, vx_Zq.kept h7 hq⟩,
    fun i q hq' => ⟨va_O.kept (hs i q hq').1 hq, va_OF.kept (hs i q hq').2.1 hq, va_OF.kept (hs i q hq').2.2.1 hq, va_T.kept (hs i q hq').2.2.2 hq⟩, hk, hn, hc, hf.imp (fun h => va_Z.kept h hq) (fun h => va_Z.kept h hq)⟩
theorem RO.narrow {ad : Nat → Nat} {A B : Nat → Prop} {U : State} {H : Heap} (h : RO ad A U H) (hAB : ∀ q, B q → A q) : RO ad B U H := by
  obtain ⟨⟨h1, h2, h3, h4, h5, h6, h7⟩, hs, hk, hn, hc, hf⟩ := h
  exact ⟨⟨va_Z.narrow h1 hAB, va_Z.narrow h2 hAB, va_T.narrow h3 hAB, va_Z.narrow h4 hAB, va_T.narrow h5 hAB, vx_Zq.narrow h6 hAB, vx_Zq.narrow h7 hAB⟩,
    fun i q hq' => ⟨va_O.narrow (hs i q hq').1 hAB, va_OF.narrow (hs i q hq').2.1 hAB, va_OF.narrow (hs i q hq').2.2.1 hAB, va_T.narrow (hs i q hq').2.2.2 hAB⟩, hk, hn, hc, hf.imp (fun h => va_Z.narrow h hAB) (fun h => va_Z.narrow h hAB)⟩
theorem RO.ad {ad ad' : Nat → Nat} {A : Nat → Prop} {U : State} {H : Heap} (h : RO ad A U H) (e : ∀ k, 1000 ≤ k → ad' k = ad k) : RO ad' A U H := by
  obtain ⟨⟨h1, h2, h3, h4, h5, h6, h7⟩, hs, hk, hn, hc, hf⟩ := h
  refine ⟨⟨h1, ?_, ?_, ?_, ?_, h6, h7⟩, fun i q hq => ?_, fun i q hq => ?_, hn, hc, ?_⟩
  · rw [e _ (by omega)]; exact h2
  · rw [e _ (by omega)]; exact h3
  · rw [e _ (by omega)]; exact h4
  · rw [e _ (by omega)]; exact h5
  · rw [e _ (by omega), e _ (by omega)]; exact hs i q hq
  · rw [e _ (by omega)]; exact hk i q hq
  · unfold ROf
    rw [e _ (by omega)]
    exact hf
/-! THE JUDGEMENTS -/
/-- ad' differs from ad at the places from n0 up to n1 alone -/
def AG (n0 n1 : Nat) (ad ad' : Nat → Nat) : Prop := n0 ≤ n1 ∧ n1 ≤ 1000 ∧ ∀ k, (k < n0 ∨ n1 ≤ k) → ad' k = ad k
theorem AG.rf {n : Nat} {ad : Nat → Nat} (h : n ≤ 1000) : AG n n ad ad := ⟨Nat.le_refl _, h, fun _ _ => rfl⟩
theorem AG.eq {n : Nat} {ad ad' : Nat → Nat} (h : AG n n ad ad') : ad' = ad := funext fun k => h.2.2 k (Nat.lt_or_ge k n)
theorem AG.comp {n0 n1 n2 : Nat} {a b d : Nat → Nat} (h : AG n0 n1 a b) (g : AG n1 n2 b d) : AG n0 n2 a d :=
  ⟨Nat.le_trans h.1 g.1, g.2.1, fun k hk => (g.2.2 k (by have := h.1; have := g.1; omega)).trans (h.2.2 k (by have := h.1; have := g.1; omega))⟩
/-- the array classes, by their kinds -/
def tyl (td : Nat → ClassId) : List (ClassId × FieldType) := [(td 0, .byte), (td 1, .int), (td 2, .long), (td 3, .object "RestMill$Mill")]
def QW (X : XX) (n0 mc0 : Nat) (ad0 : Nat → Nat) (A : Nat → Prop) (w : PW) (ad : Nat → Nat) (t : State) : Prop :=
  AG n0 w.length ad0 ad ∧ w.length ≤ n0 + mc0 ∧ va_P X.1 classes (cW X.2 ad w) t.heap ∧ va_D A (cW X.2 ad w)
def QQ (X : XX) (n0 mc0 : Nat) (ad0 : Nat → Nat) (A : Nat → Prop) (K : Option Value → PW → Prop) : Array Value → State → Outcome → State → Prop := fun _ st oc t =>
  (∃ (r : Option Value) (w : PW) (ad : Nat → Nat), oc = .returned (r.map (cV ad)) ∧ K r w ∧ QW X n0 mc0 ad0 A w ad t) ∧ va_F A st t
def QX (X : XX) (n0 mc0 : Nat) (ad0 : Nat → Nat) (A : Nat → Prop) (KX : String → PW → Prop) : String → State → State → Prop := fun E st t =>
  (∃ (w : PW) (ad : Nat → Nat), KX E w ∧ QW X n0 mc0 ad0 A w ad t) ∧ va_F A st t
/-- the handlers of the law's own methods: from, to, where they begin, the class by its index -/
def hanT : List (String × List (Nat × Nat × Nat × Nat)) := []
def tabOf (y : MethodName) : List (Nat × Nat × Nat × Nat) := if y.cls = "RestMillLaw" then ((hanT.find? (fun q => q.1 == y.name)).map (fun q => q.2)).getD [] else []
theorem nt_nil {c : Code} (h : ∀ x ∈ c.exceptionTable.toList, False) : c.exceptionTable.toList = tableOf [] := by
  have e : c.exceptionTable.toList = [] := List.eq_nil_iff_forall_not_mem.mpr (fun x hx => h x hx)
  rw [e]
  rfl
theorem nt_no {c : Code} {y : MethodName} (hz : tabOf y = []) (h : c.exceptionTable.toList = tableOf (tabOf y)) : ∀ x ∈ c.exceptionTable.toList, False := by
  rw [h, hz]
  exact fun x hx => nomatch hx
theorem tz_R {y : MethodName} (h : y.cls = "RestMill") : tabOf y = [] := if_neg (by rw [h]; decide)
theorem tz_Ml {y : MethodName} (h : y.cls = "RestMill$Mill") : tabOf y = [] := if_neg (by rw [h]; decide)
theorem tz_Mo {y : MethodName} (h : y.cls = "RestMill$Moduli") : tabOf y = [] := if_neg (by rw [h]; decide)
theorem tz_Ch {y : MethodName} (h : y.cls = "RestMill$Changes") : tabOf y = [] := if_neg (by rw [h]; decide)
theorem tz_Tk {y : MethodName} (h : y.cls = "RestMill$Tokens") : tabOf y = [] := if_neg (by rw [h]; decide)
theorem tz_Se {y : MethodName} (h : y.cls = "RestMill$SetupReader") : tabOf y = [] := if_neg (by rw [h]; decide)
theorem tz_Sc {y : MethodName} (h : y.cls = "RestMill$ScriptReader") : tabOf y = [] := if_neg (by rw [h]; decide)
theorem tz_Pg {y : MethodName} (h : y.cls = "RestMill$Program") : tabOf y = [] := if_neg (by rw [h]; decide)
theorem tz_Lw {y : MethodName} (h : y.cls = "RestMillLaw") : tabOf y = [] := by
  unfold tabOf
  rw [if_pos h]
  rfl
theorem tz_Mm {y : MethodName} (h : y.cls = "RestMillModel") : tabOf y = [] := if_neg (by rw [h]; decide)
theorem tz_jMath {y : MethodName} (h : y.cls = "java/lang/Math") : tabOf y = [] := if_neg (by rw [h]; decide)
theorem tz_jLong {y : MethodName} (h : y.cls = "java/lang/Long") : tabOf y = [] := if_neg (by rw [h]; decide)
theorem tz_jInt {y : MethodName} (h : y.cls = "java/lang/Integer") : tabOf y = [] := if_neg (by rw [h]; decide)
theorem tz_jStr {y : MethodName} (h : y.cls = "java/lang/String") : tabOf y = [] := if_neg (by rw [h]; decide)
theorem tz_jLat {y : MethodName} (h : y.cls = "java/lang/StringLatin1") : tabOf y = [] := if_neg (by rw [h]; decide)
theorem tz_jASB {y : MethodName} (h : y.cls = "java/lang/AbstractStringBuilder") : tabOf y = [] := if_neg (by rw [h]; decide)
theorem tz_jSB {y : MethodName} (h : y.cls = "java/lang/StringBuilder") : tabOf y = [] := if_neg (by rw [h]; decide)
theorem tz_jArr {y : MethodName} (h : y.cls = "java/util/Arrays") : tabOf y = [] := if_neg (by rw [h]; decide)
theorem tz_jAS {y : MethodName} (h : y.cls = "jdk/internal/util/ArraysSupport") : tabOf y = [] := if_neg (by rw [h]; decide)
theorem tz_jPre {y : MethodName} (h : y.cls = "jdk/internal/util/Preconditions") : tabOf y = [] := if_neg (by rw [h]; decide)
theorem tz_jObj {y : MethodName} (h : y.cls = "java/lang/Object") : tabOf y = [] := if_neg (by rw [h]; decide)
/-- what more is known of the start (of nothing that is written): nothing, but in the law's own body -/
abbrev GP : Type := State → (Nat → Prop) → Nat → Prop
def gT : GP := fun _ _ _ => True
/-- what holds within a method's body -/
def EE (gp : GP) (M : MM) (d mc ms : Nat) (ls : PLo) (w : PW) (l : Launch) (p : Program) (R : Room) (s : State) (m : MethodId) (args : Array Value) (meth : Method) (c : Code) (H : Heap) (locs : List Loc) (cells slots : Nat) (X : XX) (ad : Nat → Nat) (A : Nat → Prop) (n0 : Nat) (ad0 : Nat → Nat) (mc0 ms0 : Nat) (la : Array Slot) : Prop :=
  (l.stackTraces = false ∧ p.tables.exec = Jvm.exec ∧ c.code = M.2.1 ∧ c.maxLocals = M.2.2.1 ∧ meth.sig.returnType = M.2.2.2 ∧ s.vm.findClass M.1.cls = some m.cls ∧ (∀ w ∈ WD, w.before args s = true) ∧ meth.locks = false ∧ meth.name = M.1.name) ∧
  (d ≤ R.frames ∧ 40 * d ≤ R.locals ∧ cells + mc ≤ mc0 ∧ slots + ms ≤ ms0 ∧ mc0 ≤ R.cells ∧ ms0 ≤ R.slots ∧ w.length + mc ≤ n0 + mc0 ∧ n0 + mc0 ≤ 1000) ∧
  lv_has la M.2.2.1 (prs ad ls) ∧
  (va_K X.1 classes (tyl X.2) s ∧ va_P X.1 classes (cW X.2 ad w) H ∧ va_D A (cW X.2 ad w) ∧ va_S A s.heap H locs ∧ (∀ q, s.heap.size ≤ q → A q) ∧ RO ad A s s.heap ∧ AG n0 w.length ad0 ad) ∧
  (c.exceptionTable.toList = tableOf (tabOf M.1) ∧ gp s A (ad0 3300))
/-- from here the method's body comes to its end with K, or throws with KX -/
def GG (gp : GP) (M : MM) (d mc ms pc : Nat) (ls : PLo) (st : List Value) (w : PW) (K : Option Value → PW → Prop) (KX : String → PW → Prop) : Prop :=
  ∀ ⦃l : Launch⦄ ⦃p : Program⦄ ⦃e : Env⦄ ⦃R : Room⦄ ⦃s : State⦄ ⦃m : MethodId⦄ ⦃args : Array Value⦄ ⦃below : List Frame⦄ ⦃meth : Method⦄ ⦃c : Code⦄ ⦃H : Heap⦄ ⦃locs : List Loc⦄ ⦃cells slots : Nat⦄ ⦃X : XX⦄ ⦃ad : Nat → Nat⦄ ⦃A : Nat → Prop⦄ ⦃n0 : Nat⦄ ⦃ad0 : Nat → Nat⦄ ⦃mc0 ms0 : Nat⦄ ⦃la : Array Slot⦄,
    EE gp M d mc ms ls w l p R s m args meth c H locs cells slots X ad A n0 ad0 mc0 ms0 la →
    W p l e R s m args below meth c H locs cells slots (vx_MQ below (QQ X n0 mc0 ad0 A K) (QX X n0 mc0 ad0 A KX) args s mc0 ms0 A) (F0 m pc la (st.map (cV ad)))
/-- the word of a method's code -/
def cdOf (M : MM) : Cond := match tabOf M.1 with
  | [] => .code M.1 M.2.1 M.2.2.1 M.2.2.2
  | h :: hs => .codeWith M.1 M.2.1 M.2.2.1 M.2.2.2 (h :: hs)
theorem cdOf_n {M : MM} (hz : tabOf M.1 = []) : cdOf M = .code M.1 M.2.1 M.2.2.1 M.2.2.2 := by
  unfold cdOf
  rw [hz]
/-- a method's contract: called with av in the world w it returns with K, or throws with KX -/
def WP (M : MM) (d mc ms : Nat) (av : List Value) (w : PW) (K : Option Value → PW → Prop) (KX : String → PW → Prop) : Prop :=
  ∀ ⦃l : Launch⦄ ⦃X : XX⦄ ⦃ad : Nat → Nat⦄ ⦃sz : Nat⦄, l.stackTraces = false → w.length ≤ 1000 → w.length + mc ≤ 1000 →
    vx_Met l M.1 (cdOf M :: WD) { frames := d, cells := mc, slots := ms, locals := 40 * d }
      (va_Pc (av.map (cV ad)) (fun U => U.heap.size = sz ∧ va_P X.1 classes (cW X.2 ad w) U.heap ∧ va_K X.1 classes (tyl X.2) U ∧ va_D (fun _ => True) (cW X.2 ad w) ∧ RO ad (va_A (cW X.2 ad w) sz) U U.heap))
      (QQ X w.length mc ad (va_A (cW X.2 ad w) sz) K) (QX X w.length mc ad (va_A (cW X.2 ad w) sz) KX) mc ms (va_A (cW X.2 ad w) sz)
/-- a method is proved by its body -/
theorem WP_in {M : MM} {d mc ms : Nat} {av : List Value} {w : PW} {K : Option Value → PW → Prop} {KX : String → PW → Prop} (hy : plainName M.1.cls = true) (hz : tabOf M.1 = []) (hlen : (lg_sl (av.map (cV (fun k => k)))).length ≤ M.2.2.1)
    (h : GG gT M d mc ms 0 (inL av) [] w K KX) : WP M d mc ms av w K KX := by
  intro l X ad sz htr hw9 hw8
  rw [cdOf_n hz]
  refine vx_ofW (cc := M.2.1) (maxL := M.2.2.1) (ret := M.2.2.2) hy rfl ?_
  intro p e s m args below meth c s₁ B hml hnt hv
  obtain ⟨rfl, hsz, hP, hK, hD, hR⟩ := hv
  have hts := atoms_spec (ws := .code M.1 M.2.1 M.2.2.1 M.2.2.2 :: WD) B.pre
  subst hsz
  have hlen' : (lg_sl (av.map (cV ad))).length ≤ M.2.2.1 := by
    have e : ∀ l : List Value, (lg_sl (l.map (cV ad))).length = (lg_sl (l.map (cV (fun k => k)))).length := by
      intro l
      induction l with
      | nil => rfl
      | cons a t ih =>
        simp only [lg_sl, List.map_cons, List.flatMap_cons, List.length_append] at ih ⊢
        rw [ih]
        congr 1
        cases a <;> rfl
    rw [e]; exact hlen
  have hl := lv_entry (av.map (cV ad)) (n := M.2.2.1) hlen'
  rw [lg_entry_eq]
  generalize (lg_sl (av.map (cV ad)) ++ List.replicate (M.2.2.1 - (lg_sl (av.map (cV ad))).length) Slot.unset).toArray = la at hl ⊢
  have E : EE gT M d mc ms (inL av) w l p ({ frames := d, cells := mc, slots := ms, locals := 40 * d } : Room) s m (av.map (cV ad)).toArray meth c s.heap [] 0 0 X ad (va_A (cW X.2 ad w) s.heap.size) w.length ad mc ms la :=
    ⟨⟨htr, B.exec, B.bytes, hml, B.returns, findClass_of_methodNamed B.named, fun w hw => hts w (List.mem_cons_of_mem _ hw), B.notSynchronized, (name_of_methodNamed B.named B.method).1⟩,
      ⟨Nat.le_refl _, Nat.le_refl _, by omega, by omega, Nat.le_refl _, Nat.le_refl _, Nat.le_refl _, hw8⟩, hl_in hl, ⟨hK, hP, hD.self, va_S.rf, fun q hq => Or.inr hq, hR, AG.rf hw9⟩, by rw [hz]; exact ⟨nt_nil hnt, trivial⟩⟩
  exact h E
theorem GG.weaken {gp : GP} {M : MM} {d mc ms pc : Nat} {ls ls' : PLo} {st : List Value} {w : PW} {K : Option Value → PW → Prop} {KX : String → PW → Prop} (hs : ∀ (j : Nat) (v : Value), ls'[j]? = some (some v) → ls[j]? = some (some v)) (h : GG gp M d mc ms pc ls' st w K KX) : GG gp M d mc ms pc ls st w K KX := by
  intro l p e R s m args below meth c H locs cells slots X ad A n0 ad0 mc0 ms0 la E
  obtain ⟨E1, E2, E3, E4, E5⟩ := E
  exact h ⟨E1, E2, hl_sub E3 hs, E4, E5⟩
