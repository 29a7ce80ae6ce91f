/-! THE TABLES' WORDS that are used, by their places; the methods' names. -/
def gC : List Cond → Nat → Option Cond
  | [], _ => none
  | a :: _, 0 => some a
  | _ :: t, k + 1 => gC t k
theorem gC_mem : ∀ (l : List Cond) (k : Nat) (a : Cond), gC l k = some a → a ∈ l
  | [], k, a, h => by simp [gC] at h
  | b :: t, 0, a, h => by
    simp only [gC, Option.some.injEq] at h
    subst h
    exact List.mem_cons_self
  | b :: t, k + 1, a, h => List.mem_cons_of_mem _ (gC_mem t k a (by simpa [gC] using h))
theorem wdT1 {c : Cond} (k : Nat) (h : gC tables_1_1 k = some c) (hg : goodWord c = true) : c ∈ WD := by
  have h := gC_mem _ _ _ h
  exact wd_in (List.mem_append_right _ (show c ∈ tables_1 from List.mem_append_left _ h)) hg
theorem wdT2 {c : Cond} (k : Nat) (h : gC tables_1_2 k = some c) (hg : goodWord c = true) : c ∈ WD := by
  have h := gC_mem _ _ _ h
  exact wd_in (List.mem_append_right _ (show c ∈ tables_1 from List.mem_append_right _ (List.mem_append_left _ h))) hg
theorem wdT3 {c : Cond} (k : Nat) (h : gC tables_1_3 k = some c) (hg : goodWord c = true) : c ∈ WD := by
  have h := gC_mem _ _ _ h
  exact wd_in (List.mem_append_right _ (show c ∈ tables_1 from List.mem_append_right _ (List.mem_append_right _ (List.mem_append_left _ h)))) hg
theorem wdT4 {c : Cond} (k : Nat) (h : gC tables_1_4 k = some c) (hg : goodWord c = true) : c ∈ WD := by
  have h := gC_mem _ _ _ h
  exact wd_in (List.mem_append_right _ (show c ∈ tables_1 from List.mem_append_right _ (List.mem_append_right _ (List.mem_append_right _ (List.mem_append_left _ h))))) hg
theorem wdT5 {c : Cond} (k : Nat) (h : gC tables_1_5 k = some c) (hg : goodWord c = true) : c ∈ WD := by
  have h := gC_mem _ _ _ h
  exact wd_in (List.mem_append_right _ (show c ∈ tables_1 from List.mem_append_right _ (List.mem_append_right _ (List.mem_append_right _ (List.mem_append_right _ (List.mem_append_left _ h)))))) hg
theorem wdT6 {c : Cond} (k : Nat) (h : gC tables_1_6 k = some c) (hg : goodWord c = true) : c ∈ WD := by
  have h := gC_mem _ _ _ h
  exact wd_in (List.mem_append_right _ (show c ∈ tables_1 from List.mem_append_right _ (List.mem_append_right _ (List.mem_append_right _ (List.mem_append_right _ (List.mem_append_right _ (h))))))) hg
theorem wdS {c : Cond} (k : Nat) (h : gC (k2_sels lw_privs) k = some c) (hg : goodWord c = true) : c ∈ WD := wd_in (List.mem_append_left _ (gC_mem _ _ _ h)) hg
theorem wd0 : (Cond.selects "RestMill$Moduli" ({ cls := "RestMill$Moduli", name := "measure", desc := "()V" } : MethodName) ({ cls := "RestMill$Moduli", name := "measure", desc := "()V" } : MethodName)) ∈ WD := wdS 0 rfl rfl
theorem wd2 : (Cond.selects "RestMill" ({ cls := "RestMill", name := "needModulus", desc := "(I)V" } : MethodName) ({ cls := "RestMill", name := "needModulus", desc := "(I)V" } : MethodName)) ∈ WD := wdS 2 rfl rfl
theorem wd3 : (Cond.selects "RestMill" ({ cls := "RestMill", name := "needRegister", desc := "(I)V" } : MethodName) ({ cls := "RestMill", name := "needRegister", desc := "(I)V" } : MethodName)) ∈ WD := wdS 3 rfl rfl
theorem wd4 : (Cond.selects "RestMill" ({ cls := "RestMill", name := "needRest", desc := "(II)V" } : MethodName) ({ cls := "RestMill", name := "needRest", desc := "(II)V" } : MethodName)) ∈ WD := wdS 4 rfl rfl
theorem wd5 : (Cond.selects "RestMill$Changes" ({ cls := "RestMill$Changes", name := "slotAt", desc := "(I)LRestMill$Mill;" } : MethodName) ({ cls := "RestMill$Changes", name := "slotAt", desc := "(I)LRestMill$Mill;" } : MethodName)) ∈ WD := wdS 5 rfl rfl
theorem wd6 : (Cond.selects "RestMill" ({ cls := "RestMill", name := "appendFour", desc := "(I)V" } : MethodName) ({ cls := "RestMill", name := "appendFour", desc := "(I)V" } : MethodName)) ∈ WD := wdS 6 rfl rfl
theorem wd7 : (Cond.selects "RestMill$Tokens" ({ cls := "RestMill$Tokens", name := "readToken", desc := "([BII)I" } : MethodName) ({ cls := "RestMill$Tokens", name := "readToken", desc := "([BII)I" } : MethodName)) ∈ WD := wdS 7 rfl rfl
theorem wd8 : (Cond.selects "RestMill$Tokens" ({ cls := "RestMill$Tokens", name := "readWord", desc := "([BII)I" } : MethodName) ({ cls := "RestMill$Tokens", name := "readWord", desc := "([BII)I" } : MethodName)) ∈ WD := wdS 8 rfl rfl
theorem wd9 : (Cond.selects "RestMill$Tokens" ({ cls := "RestMill$Tokens", name := "add", desc := "(III)V" } : MethodName) ({ cls := "RestMill$Tokens", name := "add", desc := "(III)V" } : MethodName)) ∈ WD := wdS 9 rfl rfl
theorem wd10 : (Cond.selects "RestMill$Tokens" ({ cls := "RestMill$Tokens", name := "readNumeral", desc := "([BII)I" } : MethodName) ({ cls := "RestMill$Tokens", name := "readNumeral", desc := "([BII)I" } : MethodName)) ∈ WD := wdS 10 rfl rfl
theorem wd11 : (Cond.selects "RestMill$SetupReader" ({ cls := "RestMill$SetupReader", name := "readModuli", desc := "(LRestMill$Moduli;)Z" } : MethodName) ({ cls := "RestMill$SetupReader", name := "readModuli", desc := "(LRestMill$Moduli;)Z" } : MethodName)) ∈ WD := wdS 11 rfl rfl
theorem wd12 : (Cond.selects "RestMill$SetupReader" ({ cls := "RestMill$SetupReader", name := "modulusError", desc := "(LRestMill$Moduli;)I" } : MethodName) ({ cls := "RestMill$SetupReader", name := "modulusError", desc := "(LRestMill$Moduli;)I" } : MethodName)) ∈ WD := wdS 12 rfl rfl
theorem wd13 : (Cond.selects "RestMill$SetupReader" ({ cls := "RestMill$SetupReader", name := "readChecks", desc := "(LRestMill$Moduli;)Z" } : MethodName) ({ cls := "RestMill$SetupReader", name := "readChecks", desc := "(LRestMill$Moduli;)Z" } : MethodName)) ∈ WD := wdS 13 rfl rfl
theorem wd14 : (Cond.selects "RestMill$SetupReader" ({ cls := "RestMill$SetupReader", name := "readStrict", desc := "(LRestMill$Mill;)Z" } : MethodName) ({ cls := "RestMill$SetupReader", name := "readStrict", desc := "(LRestMill$Mill;)Z" } : MethodName)) ∈ WD := wdS 14 rfl rfl
theorem wd15 : (Cond.selects "RestMill$SetupReader" ({ cls := "RestMill$SetupReader", name := "readSets", desc := "(LRestMill$Mill;)Z" } : MethodName) ({ cls := "RestMill$SetupReader", name := "readSets", desc := "(LRestMill$Mill;)Z" } : MethodName)) ∈ WD := wdS 15 rfl rfl
theorem wd16 : (Cond.selects "RestMill$SetupReader" ({ cls := "RestMill$SetupReader", name := "readSet", desc := "(LRestMill$Mill;)Z" } : MethodName) ({ cls := "RestMill$SetupReader", name := "readSet", desc := "(LRestMill$Mill;)Z" } : MethodName)) ∈ WD := wdS 16 rfl rfl
theorem wd17 : (Cond.selects "RestMill" ({ cls := "RestMill", name := "endText", desc := "(LRestMill$Tokens;)V" } : MethodName) ({ cls := "RestMill", name := "endText", desc := "(LRestMill$Tokens;)V" } : MethodName)) ∈ WD := wdS 17 rfl rfl
theorem wd18 : (Cond.selects "RestMill" ({ cls := "RestMill", name := "needOperation", desc := "(I)V" } : MethodName) ({ cls := "RestMill", name := "needOperation", desc := "(I)V" } : MethodName)) ∈ WD := wdS 18 rfl rfl
theorem wd19 : (Cond.selects "RestMill$Mill" ({ cls := "RestMill$Mill", name := "refusesResult", desc := "(J)Z" } : MethodName) ({ cls := "RestMill$Mill", name := "refusesResult", desc := "(J)Z" } : MethodName)) ∈ WD := wdS 19 rfl rfl
theorem wd21 : (Cond.initialized "RestMill") ∈ WD := wdT1 1 rfl rfl
theorem wd22 : (Cond.initialized "RestMill$Mill") ∈ WD := wdT1 2 rfl rfl
theorem wd23 : (Cond.initialized "RestMill$Moduli") ∈ WD := wdT1 3 rfl rfl
theorem wd24 : (Cond.initialized "RestMill$Changes") ∈ WD := wdT1 4 rfl rfl
theorem wd25 : (Cond.initialized "RestMill$SetupReader") ∈ WD := wdT1 5 rfl rfl
theorem wd26 : (Cond.initialized "RestMill$Tokens") ∈ WD := wdT1 6 rfl rfl
theorem wd27 : (Cond.initialized "RestMill$ScriptReader") ∈ WD := wdT1 7 rfl rfl
theorem wd28 : (Cond.initialized "RestMill$Program") ∈ WD := wdT1 8 rfl rfl
theorem wd33 : (Cond.initialized "java/lang/Math") ∈ WD := wdT1 13 rfl rfl
theorem wd35 : (Cond.initialized "java/util/Arrays") ∈ WD := wdT1 15 rfl rfl
theorem wd42 : (Cond.initialized "java/lang/Long") ∈ WD := wdT1 22 rfl rfl
theorem wd43 : (Cond.initialized "java/lang/Throwable") ∈ WD := wdT1 23 rfl rfl
theorem wd46 : (Cond.initialized "java/lang/IllegalArgumentException") ∈ WD := wdT1 26 rfl rfl
theorem wd47 : (Cond.initialized "java/lang/IndexOutOfBoundsException") ∈ WD := wdT1 27 rfl rfl
theorem wd48 : (Cond.initialized "java/lang/IllegalStateException") ∈ WD := wdT1 28 rfl rfl
theorem wd49 : (Cond.initialized "java/util/NoSuchElementException") ∈ WD := wdT1 29 rfl rfl
theorem wd54 : (Cond.code ({ cls := "RestMill", name := "<init>", desc := "()V" } : MethodName) prog_1_method_1_code (1 : Nat) (Option.none : Option ClassFile.FieldType)) ∈ WD := wdT1 34 rfl rfl
theorem wd56 : (Cond.instanceMethod ({ cls := "java/lang/Object", name := "<init>", desc := "()V" } : MethodName)) ∈ WD := wdT1 36 rfl rfl
theorem wd57 : (Cond.code ({ cls := "java/lang/Object", name := "<init>", desc := "()V" } : MethodName) object_method_1_code (1 : Nat) (Option.none : Option ClassFile.FieldType)) ∈ WD := wdT1 37 rfl rfl
theorem wd62 : (Cond.code ({ cls := "RestMill$Mill", name := "<init>", desc := "()V" } : MethodName) prog_3_method_1_code (1 : Nat) (Option.none : Option ClassFile.FieldType)) ∈ WD := wdT1 42 rfl rfl
theorem wd68 : (Cond.code ({ cls := "RestMill$Moduli", name := "<init>", desc := "()V" } : MethodName) prog_4_method_1_code (1 : Nat) (Option.none : Option ClassFile.FieldType)) ∈ WD := wdT1 48 rfl rfl
theorem wd70 : (Cond.fieldLink "RestMill$Moduli" (9 : Nat) "RestMill$Moduli" "row" "[I") ∈ WD := wdT1 50 rfl rfl
theorem wd71 : (Cond.fieldLink "RestMill$Moduli" (15 : Nat) "RestMill$Moduli" "weights" "[J") ∈ WD := wdT1 51 rfl rfl
theorem wd72 : (Cond.fieldLink "RestMill$Moduli" (33 : Nat) "RestMill$Moduli" "size" "I") ∈ WD := wdT1 52 rfl rfl
theorem wd73 : (Cond.fieldLink "RestMill$SetupReader" (74 : Nat) "RestMill$Moduli" "size" "I") ∈ WD := wdT1 53 rfl rfl
theorem wd74 : (Cond.fieldLink "RestMill" (109 : Nat) "RestMill$Moduli" "size" "I") ∈ WD := wdT1 54 rfl rfl
theorem wd75 : (Cond.fieldLink "RestMill$Mill" (93 : Nat) "RestMill$Moduli" "size" "I") ∈ WD := wdT1 55 rfl rfl
theorem wd76 : (Cond.fieldLink "RestMill$Moduli" (37 : Nat) "RestMill$Moduli" "checks" "I") ∈ WD := wdT1 56 rfl rfl
theorem wd77 : (Cond.fieldLink "RestMill" (132 : Nat) "RestMill$Moduli" "checks" "I") ∈ WD := wdT1 57 rfl rfl
theorem wd78 : (Cond.fieldLink "RestMill$Moduli" (19 : Nat) "RestMill$Moduli" "whole" "J") ∈ WD := wdT1 58 rfl rfl
theorem wd79 : (Cond.fieldLink "RestMill$Mill" (57 : Nat) "RestMill$Moduli" "whole" "J") ∈ WD := wdT1 59 rfl rfl
theorem wd80 : (Cond.fieldLink "RestMill" (157 : Nat) "RestMill$Moduli" "whole" "J") ∈ WD := wdT1 60 rfl rfl
theorem wd81 : (Cond.fieldLink "RestMill$Moduli" (23 : Nat) "RestMill$Moduli" "range" "J") ∈ WD := wdT1 61 rfl rfl
theorem wd82 : (Cond.fieldLink "RestMill" (153 : Nat) "RestMill$Moduli" "range" "J") ∈ WD := wdT1 62 rfl rfl
theorem wd99 : (Cond.fieldLink "RestMill$Mill" (12 : Nat) "RestMill$Mill" "moduli" "LRestMill$Moduli;") ∈ WD := wdT1 79 rfl rfl
theorem wd100 : (Cond.fieldLink "RestMill" (61 : Nat) "RestMill$Mill" "moduli" "LRestMill$Moduli;") ∈ WD := wdT1 80 rfl rfl
theorem wd101 : (Cond.fieldLink "RestMill$SetupReader" (23 : Nat) "RestMill$Mill" "moduli" "LRestMill$Moduli;") ∈ WD := wdT1 81 rfl rfl
theorem wd102 : (Cond.fieldLink "RestMill$Mill" (18 : Nat) "RestMill$Mill" "numbers" "[J") ∈ WD := wdT1 82 rfl rfl
theorem wd103 : (Cond.fieldLink "RestMill$Mill" (22 : Nat) "RestMill$Mill" "accounts" "[I") ∈ WD := wdT1 83 rfl rfl
theorem wd104 : (Cond.fieldLink "RestMill$Mill" (37 : Nat) "RestMill$Mill" "strict" "I") ∈ WD := wdT1 84 rfl rfl
theorem wd105 : (Cond.fieldLink "RestMill$SetupReader" (91 : Nat) "RestMill$Mill" "strict" "I") ∈ WD := wdT1 85 rfl rfl
theorem wd106 : (Cond.fieldLink "RestMill" (135 : Nat) "RestMill$Mill" "strict" "I") ∈ WD := wdT1 86 rfl rfl
theorem wd120 : (Cond.code ({ cls := "RestMill$Changes", name := "<init>", desc := "()V" } : MethodName) prog_2_method_1_code (2 : Nat) (Option.none : Option ClassFile.FieldType)) ∈ WD := wdT1 100 rfl rfl
theorem wd125 : (Cond.fieldLink "RestMill$Changes" (11 : Nat) "RestMill$Changes" "slots" "[LRestMill$Mill;") ∈ WD := wdT1 105 rfl rfl
theorem wd126 : (Cond.fieldLink "RestMill$Changes" (22 : Nat) "RestMill$Changes" "next" "I") ∈ WD := wdT1 106 rfl rfl
theorem wd127 : (Cond.fieldLink "RestMill$Changes" (18 : Nat) "RestMill$Changes" "size" "I") ∈ WD := wdT1 107 rfl rfl
theorem wd128 : (Cond.fieldLink "RestMill" (146 : Nat) "RestMill$Changes" "size" "I") ∈ WD := wdT1 108 rfl rfl
theorem wd140 : (Cond.code ({ cls := "RestMill$SetupReader", name := "<init>", desc := "()V" } : MethodName) prog_7_method_1_code (1 : Nat) (Option.none : Option ClassFile.FieldType)) ∈ WD := wdT1 120 rfl rfl
theorem wd146 : (Cond.code ({ cls := "RestMill$Tokens", name := "<init>", desc := "()V" } : MethodName) prog_8_method_1_code (1 : Nat) (Option.none : Option ClassFile.FieldType)) ∈ WD := wdT1 126 rfl rfl
theorem wd148 : (Cond.fieldLink "RestMill$Tokens" (9 : Nat) "RestMill$Tokens" "kinds" "[I") ∈ WD := wdT1 128 rfl rfl
theorem wd149 : (Cond.fieldLink "RestMill$Tokens" (15 : Nat) "RestMill$Tokens" "amounts" "[I") ∈ WD := wdT1 129 rfl rfl
theorem wd150 : (Cond.fieldLink "RestMill$Tokens" (18 : Nat) "RestMill$Tokens" "offsets" "[I") ∈ WD := wdT1 130 rfl rfl
theorem wd151 : (Cond.fieldLink "RestMill$Tokens" (28 : Nat) "RestMill$Tokens" "size" "I") ∈ WD := wdT1 131 rfl rfl
theorem wd152 : (Cond.fieldLink "RestMill$Tokens" (31 : Nat) "RestMill$Tokens" "now" "I") ∈ WD := wdT1 132 rfl rfl
theorem wd153 : (Cond.fieldLink "RestMill$Tokens" (21 : Nat) "RestMill$Tokens" "error" "I") ∈ WD := wdT1 133 rfl rfl
theorem wd154 : (Cond.fieldLink "RestMill" (333 : Nat) "RestMill$Tokens" "error" "I") ∈ WD := wdT1 134 rfl rfl
theorem wd155 : (Cond.fieldLink "RestMill$Tokens" (25 : Nat) "RestMill$Tokens" "errorOffset" "I") ∈ WD := wdT1 135 rfl rfl
theorem wd156 : (Cond.fieldLink "RestMill" (336 : Nat) "RestMill$Tokens" "errorOffset" "I") ∈ WD := wdT1 136 rfl rfl
theorem wd172 : (Cond.fieldLink "RestMill$SetupReader" (12 : Nat) "RestMill$SetupReader" "tokens" "LRestMill$Tokens;") ∈ WD := wdT1 152 rfl rfl
theorem wd173 : (Cond.fieldLink "RestMill" (80 : Nat) "RestMill$SetupReader" "tokens" "LRestMill$Tokens;") ∈ WD := wdT1 153 rfl rfl
theorem wd181 : (Cond.code ({ cls := "RestMill$ScriptReader", name := "<init>", desc := "()V" } : MethodName) prog_6_method_1_code (1 : Nat) (Option.none : Option ClassFile.FieldType)) ∈ WD := wdT1 161 rfl rfl
theorem wd189 : (Cond.code ({ cls := "RestMill$Program", name := "<init>", desc := "()V" } : MethodName) prog_5_method_1_code (1 : Nat) (Option.none : Option ClassFile.FieldType)) ∈ WD := wdT1 169 rfl rfl
theorem wd251 : (Cond.instanceMethod ({ cls := "RestMill$Moduli", name := "insert", desc := "(I)V" } : MethodName)) ∈ WD := wdT1 231 rfl rfl
theorem wd252 : (Cond.selects "RestMill$Moduli" ({ cls := "RestMill$Moduli", name := "insert", desc := "(I)V" } : MethodName) ({ cls := "RestMill$Moduli", name := "insert", desc := "(I)V" } : MethodName)) ∈ WD := wdT1 232 rfl rfl
theorem wd253 : (Cond.code ({ cls := "RestMill$Moduli", name := "insert", desc := "(I)V" } : MethodName) prog_4_method_12_code (4 : Nat) (Option.none : Option ClassFile.FieldType)) ∈ WD := wdT1 233 rfl rfl
theorem wd254 : (Cond.methodLink "RestMill$Moduli" (66 : Nat) ({ cls := "RestMill$Moduli", name := "bases", desc := "()I" } : MethodName)) ∈ WD := wdT1 234 rfl rfl
theorem wd255 : (Cond.instanceMethod ({ cls := "RestMill$Moduli", name := "bases", desc := "()I" } : MethodName)) ∈ WD := wdT1 235 rfl rfl
theorem wd256 : (Cond.selects "RestMill$Moduli" ({ cls := "RestMill$Moduli", name := "bases", desc := "()I" } : MethodName) ({ cls := "RestMill$Moduli", name := "bases", desc := "()I" } : MethodName)) ∈ WD := wdT1 236 rfl rfl
theorem wd257 : (Cond.code ({ cls := "RestMill$Moduli", name := "bases", desc := "()I" } : MethodName) prog_4_method_6_code (1 : Nat) (Option.some ClassFile.FieldType.int)) ∈ WD := wdT1 237 rfl rfl
theorem wd258 : (Cond.methodLink "RestMill$Moduli" (40 : Nat) ({ cls := "RestMill$Moduli", name := "measure", desc := "()V" } : MethodName)) ∈ WD := wdT1 238 rfl rfl
theorem wd260 : (Cond.instanceMethod ({ cls := "RestMill$Moduli", name := "measure", desc := "()V" } : MethodName)) ∈ WD := wdT2 0 rfl rfl
theorem wd261 : (Cond.code ({ cls := "RestMill$Moduli", name := "measure", desc := "()V" } : MethodName) prog_4_method_15_code (4 : Nat) (Option.none : Option ClassFile.FieldType)) ∈ WD := wdT2 1 rfl rfl
theorem wd262 : (Cond.methodLink "RestMill$Moduli" (51 : Nat) ({ cls := "RestMill$Moduli", name := "at", desc := "(I)I" } : MethodName)) ∈ WD := wdT2 2 rfl rfl
theorem wd263 : (Cond.instanceMethod ({ cls := "RestMill$Moduli", name := "at", desc := "(I)I" } : MethodName)) ∈ WD := wdT2 3 rfl rfl
theorem wd264 : (Cond.selects "RestMill$Moduli" ({ cls := "RestMill$Moduli", name := "at", desc := "(I)I" } : MethodName) ({ cls := "RestMill$Moduli", name := "at", desc := "(I)I" } : MethodName)) ∈ WD := wdT2 4 rfl rfl
theorem wd265 : (Cond.code ({ cls := "RestMill$Moduli", name := "at", desc := "(I)I" } : MethodName) prog_4_method_4_code (2 : Nat) (Option.some ClassFile.FieldType.int)) ∈ WD := wdT2 5 rfl rfl
theorem wd267 : (Cond.static ({ cls := "RestMill", name := "floorQuotient", desc := "(JJ)J" } : MethodName)) ∈ WD := wdT2 7 rfl rfl
theorem wd268 : (Cond.code ({ cls := "RestMill", name := "floorQuotient", desc := "(JJ)J" } : MethodName) prog_1_method_57_code (4 : Nat) (Option.some ClassFile.FieldType.long)) ∈ WD := wdT2 8 rfl rfl
theorem wd269 : (Cond.methodLink "RestMill" (345 : Nat) ({ cls := "java/lang/Math", name := "floorDiv", desc := "(JJ)J" } : MethodName)) ∈ WD := wdT2 9 rfl rfl
theorem wd270 : (Cond.static ({ cls := "java/lang/Math", name := "floorDiv", desc := "(JJ)J" } : MethodName)) ∈ WD := wdT2 10 rfl rfl
theorem wd271 : (Cond.code ({ cls := "java/lang/Math", name := "floorDiv", desc := "(JJ)J" } : MethodName) prog_24_method_49_code (6 : Nat) (Option.some ClassFile.FieldType.long)) ∈ WD := wdT2 11 rfl rfl
theorem wd273 : (Cond.static ({ cls := "RestMill", name := "inverseOf", desc := "(JI)I" } : MethodName)) ∈ WD := wdT2 13 rfl rfl
theorem wd274 : (Cond.code ({ cls := "RestMill", name := "inverseOf", desc := "(JI)I" } : MethodName) prog_1_method_63_code (6 : Nat) (Option.some ClassFile.FieldType.int)) ∈ WD := wdT2 14 rfl rfl
theorem wd275 : (Cond.methodLink "RestMill" (212 : Nat) ({ cls := "RestMill", name := "floorRest", desc := "(JJ)J" } : MethodName)) ∈ WD := wdT2 15 rfl rfl
theorem wd276 : (Cond.static ({ cls := "RestMill", name := "floorRest", desc := "(JJ)J" } : MethodName)) ∈ WD := wdT2 16 rfl rfl
theorem wd277 : (Cond.code ({ cls := "RestMill", name := "floorRest", desc := "(JJ)J" } : MethodName) prog_1_method_56_code (4 : Nat) (Option.some ClassFile.FieldType.long)) ∈ WD := wdT2 17 rfl rfl
theorem wd278 : (Cond.methodLink "RestMill" (342 : Nat) ({ cls := "java/lang/Math", name := "floorMod", desc := "(JJ)J" } : MethodName)) ∈ WD := wdT2 18 rfl rfl
theorem wd279 : (Cond.static ({ cls := "java/lang/Math", name := "floorMod", desc := "(JJ)J" } : MethodName)) ∈ WD := wdT2 19 rfl rfl
theorem wd280 : (Cond.code ({ cls := "java/lang/Math", name := "floorMod", desc := "(JJ)J" } : MethodName) prog_24_method_52_code (6 : Nat) (Option.some ClassFile.FieldType.long)) ∈ WD := wdT2 20 rfl rfl
theorem wd282 : (Cond.instanceMethod ({ cls := "RestMill$Moduli", name := "setChecks", desc := "(I)V" } : MethodName)) ∈ WD := wdT2 22 rfl rfl
theorem wd283 : (Cond.selects "RestMill$Moduli" ({ cls := "RestMill$Moduli", name := "setChecks", desc := "(I)V" } : MethodName) ({ cls := "RestMill$Moduli", name := "setChecks", desc := "(I)V" } : MethodName)) ∈ WD := wdT2 23 rfl rfl
theorem wd284 : (Cond.code ({ cls := "RestMill$Moduli", name := "setChecks", desc := "(I)V" } : MethodName) prog_4_method_14_code (2 : Nat) (Option.none : Option ClassFile.FieldType)) ∈ WD := wdT2 24 rfl rfl
theorem wd285 : (Cond.fieldLink "RestMill" (9 : Nat) "RestMill" "input" "[B") ∈ WD := wdT2 25 rfl rfl
theorem wd286 : (Cond.fieldLink "RestMill" (74 : Nat) "RestMill" "inputLength" "I") ∈ WD := wdT2 26 rfl rfl
theorem wd287 : (Cond.fieldLink "RestMill" (16 : Nat) "RestMill" "mill" "LRestMill$Mill;") ∈ WD := wdT2 27 rfl rfl
theorem wd288 : (Cond.fieldLink "RestMill" (20 : Nat) "RestMill" "draft" "LRestMill$Mill;") ∈ WD := wdT2 28 rfl rfl
theorem wd289 : (Cond.fieldLink "RestMill" (23 : Nat) "RestMill" "saved" "LRestMill$Mill;") ∈ WD := wdT2 29 rfl rfl
theorem wd290 : (Cond.fieldLink "RestMill" (105 : Nat) "RestMill" "hasSaved" "Z") ∈ WD := wdT2 30 rfl rfl
theorem wd291 : (Cond.fieldLink "RestMill" (29 : Nat) "RestMill" "changes" "LRestMill$Changes;") ∈ WD := wdT2 31 rfl rfl
theorem wd292 : (Cond.fieldLink "RestMill" (36 : Nat) "RestMill" "setupReader" "LRestMill$SetupReader;") ∈ WD := wdT2 32 rfl rfl
theorem wd294 : (Cond.fieldLink "RestMill" (47 : Nat) "RestMill" "lastError" "I") ∈ WD := wdT2 34 rfl rfl
theorem wd295 : (Cond.fieldLink "RestMill" (51 : Nat) "RestMill" "lastErrorOffset" "I") ∈ WD := wdT2 35 rfl rfl
theorem wd325 : (Cond.code ({ cls := "RestMill", name := "count", desc := "(I)I" } : MethodName) prog_1_method_8_code (2 : Nat) (Option.some ClassFile.FieldType.int)) ∈ WD := wdT2 65 rfl rfl
theorem wd326 : (Cond.methodLink "RestMill" (138 : Nat) ({ cls := "RestMill$Mill", name := "soundRegisters", desc := "()I" } : MethodName)) ∈ WD := wdT2 66 rfl rfl
theorem wd327 : (Cond.instanceMethod ({ cls := "RestMill$Mill", name := "soundRegisters", desc := "()I" } : MethodName)) ∈ WD := wdT2 67 rfl rfl
theorem wd328 : (Cond.selects "RestMill$Mill" ({ cls := "RestMill$Mill", name := "soundRegisters", desc := "()I" } : MethodName) ({ cls := "RestMill$Mill", name := "soundRegisters", desc := "()I" } : MethodName)) ∈ WD := wdT2 68 rfl rfl
theorem wd329 : (Cond.code ({ cls := "RestMill$Mill", name := "soundRegisters", desc := "()I" } : MethodName) prog_3_method_18_code (3 : Nat) (Option.some ClassFile.FieldType.int)) ∈ WD := wdT2 69 rfl rfl
theorem wd330 : (Cond.methodLink "RestMill$Mill" (113 : Nat) ({ cls := "RestMill$Mill", name := "soundAt", desc := "(I)Z" } : MethodName)) ∈ WD := wdT2 70 rfl rfl
theorem wd331 : (Cond.instanceMethod ({ cls := "RestMill$Mill", name := "soundAt", desc := "(I)Z" } : MethodName)) ∈ WD := wdT2 71 rfl rfl
theorem wd332 : (Cond.selects "RestMill$Mill" ({ cls := "RestMill$Mill", name := "soundAt", desc := "(I)Z" } : MethodName) ({ cls := "RestMill$Mill", name := "soundAt", desc := "(I)Z" } : MethodName)) ∈ WD := wdT2 72 rfl rfl
theorem wd333 : (Cond.code ({ cls := "RestMill$Mill", name := "soundAt", desc := "(I)Z" } : MethodName) prog_3_method_12_code (2 : Nat) (Option.some ClassFile.FieldType.boolean)) ∈ WD := wdT2 73 rfl rfl
theorem wd334 : (Cond.methodLink "RestMill$Mill" (65 : Nat) ({ cls := "RestMill$Mill", name := "numberAt", desc := "(I)J" } : MethodName)) ∈ WD := wdT2 74 rfl rfl
theorem wd335 : (Cond.instanceMethod ({ cls := "RestMill$Mill", name := "numberAt", desc := "(I)J" } : MethodName)) ∈ WD := wdT2 75 rfl rfl
theorem wd336 : (Cond.selects "RestMill$Mill" ({ cls := "RestMill$Mill", name := "numberAt", desc := "(I)J" } : MethodName) ({ cls := "RestMill$Mill", name := "numberAt", desc := "(I)J" } : MethodName)) ∈ WD := wdT2 76 rfl rfl
theorem wd337 : (Cond.code ({ cls := "RestMill$Mill", name := "numberAt", desc := "(I)J" } : MethodName) prog_3_method_7_code (2 : Nat) (Option.some ClassFile.FieldType.long)) ∈ WD := wdT2 77 rfl rfl
theorem wd338 : (Cond.methodLink "RestMill$Mill" (80 : Nat) ({ cls := "RestMill$Moduli", name := "fits", desc := "(J)Z" } : MethodName)) ∈ WD := wdT2 78 rfl rfl
theorem wd339 : (Cond.instanceMethod ({ cls := "RestMill$Moduli", name := "fits", desc := "(J)Z" } : MethodName)) ∈ WD := wdT2 79 rfl rfl
theorem wd340 : (Cond.selects "RestMill$Moduli" ({ cls := "RestMill$Moduli", name := "fits", desc := "(J)Z" } : MethodName) ({ cls := "RestMill$Moduli", name := "fits", desc := "(J)Z" } : MethodName)) ∈ WD := wdT2 80 rfl rfl
theorem wd341 : (Cond.code ({ cls := "RestMill$Moduli", name := "fits", desc := "(J)Z" } : MethodName) prog_4_method_8_code (3 : Nat) (Option.some ClassFile.FieldType.boolean)) ∈ WD := wdT2 81 rfl rfl
theorem wd342 : (Cond.methodLink "RestMill$Moduli" (45 : Nat) ({ cls := "RestMill$Moduli", name := "half", desc := "()J" } : MethodName)) ∈ WD := wdT2 82 rfl rfl
theorem wd343 : (Cond.instanceMethod ({ cls := "RestMill$Moduli", name := "half", desc := "()J" } : MethodName)) ∈ WD := wdT2 83 rfl rfl
theorem wd344 : (Cond.selects "RestMill$Moduli" ({ cls := "RestMill$Moduli", name := "half", desc := "()J" } : MethodName) ({ cls := "RestMill$Moduli", name := "half", desc := "()J" } : MethodName)) ∈ WD := wdT2 84 rfl rfl
theorem wd345 : (Cond.code ({ cls := "RestMill$Moduli", name := "half", desc := "()J" } : MethodName) prog_4_method_7_code (1 : Nat) (Option.some ClassFile.FieldType.long)) ∈ WD := wdT2 85 rfl rfl
theorem wd346 : (Cond.constantLong "RestMill$Moduli" (43 : Nat) (2 : Int64)) ∈ WD := wdT2 86 rfl rfl
theorem wd347 : (Cond.methodLink "RestMill" (142 : Nat) ({ cls := "RestMill$Mill", name := "registersWithSign", desc := "(I)I" } : MethodName)) ∈ WD := wdT2 87 rfl rfl
theorem wd348 : (Cond.instanceMethod ({ cls := "RestMill$Mill", name := "registersWithSign", desc := "(I)I" } : MethodName)) ∈ WD := wdT2 88 rfl rfl
theorem wd349 : (Cond.selects "RestMill$Mill" ({ cls := "RestMill$Mill", name := "registersWithSign", desc := "(I)I" } : MethodName) ({ cls := "RestMill$Mill", name := "registersWithSign", desc := "(I)I" } : MethodName)) ∈ WD := wdT2 89 rfl rfl
theorem wd350 : (Cond.code ({ cls := "RestMill$Mill", name := "registersWithSign", desc := "(I)I" } : MethodName) prog_3_method_19_code (4 : Nat) (Option.some ClassFile.FieldType.int)) ∈ WD := wdT2 90 rfl rfl
theorem wd351 : (Cond.methodLink "RestMill$Mill" (84 : Nat) ({ cls := "java/lang/Long", name := "compare", desc := "(JJ)I" } : MethodName)) ∈ WD := wdT2 91 rfl rfl
theorem wd352 : (Cond.static ({ cls := "java/lang/Long", name := "compare", desc := "(JJ)I" } : MethodName)) ∈ WD := wdT2 92 rfl rfl
theorem wd353 : (Cond.code ({ cls := "java/lang/Long", name := "compare", desc := "(JJ)I" } : MethodName) prog_23_method_42_code (4 : Nat) (Option.some ClassFile.FieldType.int)) ∈ WD := wdT2 93 rfl rfl
theorem wd354 : (Cond.classLink "RestMill" (147 : Nat) "java/lang/IllegalArgumentException") ∈ WD := wdT2 94 rfl rfl
theorem wd355 : (Cond.instantiable "java/lang/IllegalArgumentException" (6 : Nat)) ∈ WD := wdT2 95 rfl rfl
theorem wd363 : (Cond.selects "java/lang/IllegalArgumentException" ({ cls := "java/lang/Throwable", name := "fillInStackTrace", desc := "(I)Ljava/lang/Throwable;" } : MethodName) ({ cls := "java/lang/Throwable", name := "fillInStackTrace", desc := "(I)Ljava/lang/Throwable;" } : MethodName)) ∈ WD := wdT2 103 rfl rfl
theorem wd364 : (Cond.selects "java/lang/IllegalArgumentException" ({ cls := "java/lang/Throwable", name := "fillInStackTrace", desc := "()Ljava/lang/Throwable;" } : MethodName) ({ cls := "java/lang/Throwable", name := "fillInStackTrace", desc := "()Ljava/lang/Throwable;" } : MethodName)) ∈ WD := wdT2 104 rfl rfl
theorem wd365 : (Cond.lays "java/lang/IllegalArgumentException" "java/lang/Throwable" "cause" "Ljava/lang/Throwable;") ∈ WD := wdT2 105 rfl rfl
theorem wd366 : (Cond.lays "java/lang/Throwable" "java/lang/Throwable" "cause" "Ljava/lang/Throwable;") ∈ WD := wdT2 106 rfl rfl
theorem wd367 : (Cond.lays "java/lang/IllegalArgumentException" "java/lang/Throwable" "stackTrace" "[Ljava/lang/StackTraceElement;") ∈ WD := wdT2 107 rfl rfl
theorem wd368 : (Cond.lays "java/lang/Throwable" "java/lang/Throwable" "stackTrace" "[Ljava/lang/StackTraceElement;") ∈ WD := wdT2 108 rfl rfl
theorem wd369 : (Cond.lays "java/lang/IllegalArgumentException" "java/lang/Throwable" "suppressedExceptions" "Ljava/util/List;") ∈ WD := wdT2 109 rfl rfl
theorem wd370 : (Cond.lays "java/lang/Throwable" "java/lang/Throwable" "suppressedExceptions" "Ljava/util/List;") ∈ WD := wdT2 110 rfl rfl
theorem wd371 : (Cond.lays "java/lang/IllegalArgumentException" "java/lang/Throwable" "detailMessage" "Ljava/lang/String;") ∈ WD := wdT2 111 rfl rfl
theorem wd372 : (Cond.lays "java/lang/Throwable" "java/lang/Throwable" "detailMessage" "Ljava/lang/String;") ∈ WD := wdT2 112 rfl rfl
theorem wd373 : (Cond.lays "java/lang/IllegalArgumentException" "java/lang/Throwable" "backtrace" "Ljava/lang/Object;") ∈ WD := wdT2 113 rfl rfl
theorem wd374 : (Cond.lays "java/lang/Throwable" "java/lang/Throwable" "backtrace" "Ljava/lang/Object;") ∈ WD := wdT2 114 rfl rfl
theorem wd375 : (Cond.fieldLink "java/lang/Throwable" (198 : Nat) "java/lang/Throwable" "backtrace" "Ljava/lang/Object;") ∈ WD := wdT2 115 rfl rfl
theorem wd376 : (Cond.superclass "java/lang/Throwable" "java/lang/Object") ∈ WD := wdT2 116 rfl rfl
theorem wd377 : (Cond.instanceMethod ({ cls := "java/lang/Throwable", name := "<init>", desc := "()V" } : MethodName)) ∈ WD := wdT2 117 rfl rfl
theorem wd378 : (Cond.code ({ cls := "java/lang/Throwable", name := "<init>", desc := "()V" } : MethodName) prog_32_method_1_code (1 : Nat) (Option.none : Option ClassFile.FieldType)) ∈ WD := wdT2 118 rfl rfl
theorem wd379 : (Cond.methodLink "java/lang/Throwable" (1 : Nat) ({ cls := "java/lang/Object", name := "<init>", desc := "()V" } : MethodName)) ∈ WD := wdT2 119 rfl rfl
theorem wd380 : (Cond.fieldLink "java/lang/Throwable" (13 : Nat) "java/lang/Throwable" "UNASSIGNED_STACK" "[Ljava/lang/StackTraceElement;") ∈ WD := wdT2 120 rfl rfl
theorem wd382 : (Cond.fieldLink "java/lang/Throwable" (20 : Nat) "java/lang/Throwable" "SUPPRESSED_SENTINEL" "Ljava/util/List;") ∈ WD := wdT2 122 rfl rfl
theorem wd384 : (Cond.methodLink "java/lang/Throwable" (27 : Nat) ({ cls := "java/lang/Throwable", name := "fillInStackTrace", desc := "()Ljava/lang/Throwable;" } : MethodName)) ∈ WD := wdT2 124 rfl rfl
theorem wd385 : (Cond.instanceMethod ({ cls := "java/lang/Throwable", name := "fillInStackTrace", desc := "()Ljava/lang/Throwable;" } : MethodName)) ∈ WD := wdT2 125 rfl rfl
theorem wd387 : (Cond.selects "java/lang/IllegalStateException" ({ cls := "java/lang/Throwable", name := "fillInStackTrace", desc := "()Ljava/lang/Throwable;" } : MethodName) ({ cls := "java/lang/Throwable", name := "fillInStackTrace", desc := "()Ljava/lang/Throwable;" } : MethodName)) ∈ WD := wdT2 127 rfl rfl
theorem wd388 : (Cond.selects "java/lang/IndexOutOfBoundsException" ({ cls := "java/lang/Throwable", name := "fillInStackTrace", desc := "()Ljava/lang/Throwable;" } : MethodName) ({ cls := "java/lang/Throwable", name := "fillInStackTrace", desc := "()Ljava/lang/Throwable;" } : MethodName)) ∈ WD := wdT2 128 rfl rfl
theorem wd389 : (Cond.selects "java/util/NoSuchElementException" ({ cls := "java/lang/Throwable", name := "fillInStackTrace", desc := "()Ljava/lang/Throwable;" } : MethodName) ({ cls := "java/lang/Throwable", name := "fillInStackTrace", desc := "()Ljava/lang/Throwable;" } : MethodName)) ∈ WD := wdT2 129 rfl rfl
theorem wd390 : (Cond.codeSync ({ cls := "java/lang/Throwable", name := "fillInStackTrace", desc := "()Ljava/lang/Throwable;" } : MethodName) prog_32_method_18_code (1 : Nat) (Option.some (ClassFile.FieldType.object "java/lang/Throwable"))) ∈ WD := wdT2 130 rfl rfl
theorem wd391 : (Cond.methodLink "java/lang/Throwable" (202 : Nat) ({ cls := "java/lang/Throwable", name := "fillInStackTrace", desc := "(I)Ljava/lang/Throwable;" } : MethodName)) ∈ WD := wdT2 131 rfl rfl
theorem wd393 : (Cond.instanceMethod ({ cls := "java/lang/Throwable", name := "fillInStackTrace", desc := "(I)Ljava/lang/Throwable;" } : MethodName)) ∈ WD := wdT2 133 rfl rfl
theorem wd395 : (Cond.native ({ cls := "java/lang/Throwable", name := "fillInStackTrace", desc := "(I)Ljava/lang/Throwable;" } : MethodName)) ∈ WD := wdT2 135 rfl rfl
theorem wd396 : (Cond.methodLink "RestMill" (149 : Nat) ({ cls := "java/lang/IllegalArgumentException", name := "<init>", desc := "()V" } : MethodName)) ∈ WD := wdT2 136 rfl rfl
theorem wd397 : (Cond.instanceMethod ({ cls := "java/lang/IllegalArgumentException", name := "<init>", desc := "()V" } : MethodName)) ∈ WD := wdT2 137 rfl rfl
theorem wd398 : (Cond.code ({ cls := "java/lang/IllegalArgumentException", name := "<init>", desc := "()V" } : MethodName) prog_19_method_1_code (1 : Nat) (Option.none : Option ClassFile.FieldType)) ∈ WD := wdT2 138 rfl rfl
theorem wd399 : (Cond.methodLink "java/lang/IllegalArgumentException" (1 : Nat) ({ cls := "java/lang/RuntimeException", name := "<init>", desc := "()V" } : MethodName)) ∈ WD := wdT2 139 rfl rfl
theorem wd400 : (Cond.instanceMethod ({ cls := "java/lang/RuntimeException", name := "<init>", desc := "()V" } : MethodName)) ∈ WD := wdT2 140 rfl rfl
theorem wd401 : (Cond.code ({ cls := "java/lang/RuntimeException", name := "<init>", desc := "()V" } : MethodName) prog_26_method_1_code (1 : Nat) (Option.none : Option ClassFile.FieldType)) ∈ WD := wdT2 141 rfl rfl
theorem wd402 : (Cond.methodLink "java/lang/RuntimeException" (1 : Nat) ({ cls := "java/lang/Exception", name := "<init>", desc := "()V" } : MethodName)) ∈ WD := wdT2 142 rfl rfl
theorem wd403 : (Cond.instanceMethod ({ cls := "java/lang/Exception", name := "<init>", desc := "()V" } : MethodName)) ∈ WD := wdT2 143 rfl rfl
theorem wd404 : (Cond.code ({ cls := "java/lang/Exception", name := "<init>", desc := "()V" } : MethodName) prog_18_method_1_code (1 : Nat) (Option.none : Option ClassFile.FieldType)) ∈ WD := wdT2 144 rfl rfl
theorem wd405 : (Cond.methodLink "java/lang/Exception" (1 : Nat) ({ cls := "java/lang/Throwable", name := "<init>", desc := "()V" } : MethodName)) ∈ WD := wdT2 145 rfl rfl
theorem wd407 : (Cond.fieldLink "java/lang/Throwable" (7 : Nat) "java/lang/Throwable" "cause" "Ljava/lang/Throwable;") ∈ WD := wdT2 147 rfl rfl
theorem wd408 : (Cond.fieldLink "java/lang/Throwable" (17 : Nat) "java/lang/Throwable" "stackTrace" "[Ljava/lang/StackTraceElement;") ∈ WD := wdT2 148 rfl rfl
theorem wd409 : (Cond.fieldLink "java/lang/Throwable" (24 : Nat) "java/lang/Throwable" "suppressedExceptions" "Ljava/util/List;") ∈ WD := wdT2 149 rfl rfl
theorem wd421 : (Cond.code ({ cls := "RestMill", name := "account", desc := "(I)I" } : MethodName) prog_1_method_9_code (2 : Nat) (Option.some ClassFile.FieldType.int)) ∈ WD := wdT2 161 rfl rfl
theorem wd422 : (Cond.methodLink "RestMill" (150 : Nat) ({ cls := "RestMill$Mill", name := "accountAt", desc := "(I)I" } : MethodName)) ∈ WD := wdT2 162 rfl rfl
theorem wd423 : (Cond.instanceMethod ({ cls := "RestMill$Mill", name := "accountAt", desc := "(I)I" } : MethodName)) ∈ WD := wdT2 163 rfl rfl
theorem wd424 : (Cond.selects "RestMill$Mill" ({ cls := "RestMill$Mill", name := "accountAt", desc := "(I)I" } : MethodName) ({ cls := "RestMill$Mill", name := "accountAt", desc := "(I)I" } : MethodName)) ∈ WD := wdT2 164 rfl rfl
theorem wd425 : (Cond.code ({ cls := "RestMill$Mill", name := "accountAt", desc := "(I)I" } : MethodName) prog_3_method_4_code (2 : Nat) (Option.some ClassFile.FieldType.int)) ∈ WD := wdT2 165 rfl rfl
theorem wd429 : (Cond.code ({ cls := "RestMill", name := "bound", desc := "(I)J" } : MethodName) prog_1_method_10_code (2 : Nat) (Option.some ClassFile.FieldType.long)) ∈ WD := wdT2 169 rfl rfl
theorem wd430 : (Cond.methodLink "RestMill" (160 : Nat) ({ cls := "RestMill$Moduli", name := "half", desc := "()J" } : MethodName)) ∈ WD := wdT2 170 rfl rfl
theorem wd434 : (Cond.code ({ cls := "RestMill", name := "modulus", desc := "(I)I" } : MethodName) prog_1_method_11_code (2 : Nat) (Option.some ClassFile.FieldType.int)) ∈ WD := wdT2 174 rfl rfl
theorem wd435 : (Cond.methodLink "RestMill" (164 : Nat) ({ cls := "RestMill", name := "needModulus", desc := "(I)V" } : MethodName)) ∈ WD := wdT2 175 rfl rfl
theorem wd437 : (Cond.instanceMethod ({ cls := "RestMill", name := "needModulus", desc := "(I)V" } : MethodName)) ∈ WD := wdT2 177 rfl rfl
theorem wd438 : (Cond.code ({ cls := "RestMill", name := "needModulus", desc := "(I)V" } : MethodName) prog_1_method_52_code (2 : Nat) (Option.none : Option ClassFile.FieldType)) ∈ WD := wdT2 178 rfl rfl
theorem wd439 : (Cond.classLink "RestMill" (339 : Nat) "java/lang/IndexOutOfBoundsException") ∈ WD := wdT2 179 rfl rfl
theorem wd440 : (Cond.instantiable "java/lang/IndexOutOfBoundsException" (6 : Nat)) ∈ WD := wdT2 180 rfl rfl
theorem wd442 : (Cond.selects "java/lang/IndexOutOfBoundsException" ({ cls := "java/lang/Throwable", name := "fillInStackTrace", desc := "(I)Ljava/lang/Throwable;" } : MethodName) ({ cls := "java/lang/Throwable", name := "fillInStackTrace", desc := "(I)Ljava/lang/Throwable;" } : MethodName)) ∈ WD := wdT2 182 rfl rfl
theorem wd443 : (Cond.lays "java/lang/IndexOutOfBoundsException" "java/lang/Throwable" "cause" "Ljava/lang/Throwable;") ∈ WD := wdT2 183 rfl rfl
theorem wd444 : (Cond.lays "java/lang/IndexOutOfBoundsException" "java/lang/Throwable" "stackTrace" "[Ljava/lang/StackTraceElement;") ∈ WD := wdT2 184 rfl rfl
theorem wd445 : (Cond.lays "java/lang/IndexOutOfBoundsException" "java/lang/Throwable" "suppressedExceptions" "Ljava/util/List;") ∈ WD := wdT2 185 rfl rfl
theorem wd446 : (Cond.lays "java/lang/IndexOutOfBoundsException" "java/lang/Throwable" "detailMessage" "Ljava/lang/String;") ∈ WD := wdT2 186 rfl rfl
theorem wd447 : (Cond.lays "java/lang/IndexOutOfBoundsException" "java/lang/Throwable" "backtrace" "Ljava/lang/Object;") ∈ WD := wdT2 187 rfl rfl
theorem wd448 : (Cond.methodLink "RestMill" (341 : Nat) ({ cls := "java/lang/IndexOutOfBoundsException", name := "<init>", desc := "()V" } : MethodName)) ∈ WD := wdT2 188 rfl rfl
theorem wd449 : (Cond.instanceMethod ({ cls := "java/lang/IndexOutOfBoundsException", name := "<init>", desc := "()V" } : MethodName)) ∈ WD := wdT2 189 rfl rfl
theorem wd450 : (Cond.code ({ cls := "java/lang/IndexOutOfBoundsException", name := "<init>", desc := "()V" } : MethodName) prog_21_method_1_code (1 : Nat) (Option.none : Option ClassFile.FieldType)) ∈ WD := wdT2 190 rfl rfl
theorem wd451 : (Cond.methodLink "java/lang/IndexOutOfBoundsException" (1 : Nat) ({ cls := "java/lang/RuntimeException", name := "<init>", desc := "()V" } : MethodName)) ∈ WD := wdT2 191 rfl rfl
theorem wd454 : (Cond.methodLink "RestMill" (167 : Nat) ({ cls := "RestMill$Moduli", name := "at", desc := "(I)I" } : MethodName)) ∈ WD := wdT2 194 rfl rfl
theorem wd458 : (Cond.code ({ cls := "RestMill", name := "rest", desc := "(II)I" } : MethodName) prog_1_method_14_code (3 : Nat) (Option.some ClassFile.FieldType.int)) ∈ WD := wdT2 198 rfl rfl
theorem wd459 : (Cond.methodLink "RestMill" (178 : Nat) ({ cls := "RestMill", name := "needRegister", desc := "(I)V" } : MethodName)) ∈ WD := wdT2 199 rfl rfl
theorem wd461 : (Cond.instanceMethod ({ cls := "RestMill", name := "needRegister", desc := "(I)V" } : MethodName)) ∈ WD := wdT2 201 rfl rfl
theorem wd462 : (Cond.code ({ cls := "RestMill", name := "needRegister", desc := "(I)V" } : MethodName) prog_1_method_51_code (2 : Nat) (Option.none : Option ClassFile.FieldType)) ∈ WD := wdT2 202 rfl rfl
theorem wd463 : (Cond.methodLink "RestMill" (181 : Nat) ({ cls := "RestMill$Mill", name := "restAt", desc := "(II)I" } : MethodName)) ∈ WD := wdT2 203 rfl rfl
theorem wd464 : (Cond.instanceMethod ({ cls := "RestMill$Mill", name := "restAt", desc := "(II)I" } : MethodName)) ∈ WD := wdT2 204 rfl rfl
theorem wd465 : (Cond.selects "RestMill$Mill" ({ cls := "RestMill$Mill", name := "restAt", desc := "(II)I" } : MethodName) ({ cls := "RestMill$Mill", name := "restAt", desc := "(II)I" } : MethodName)) ∈ WD := wdT2 205 rfl rfl
theorem wd466 : (Cond.code ({ cls := "RestMill$Mill", name := "restAt", desc := "(II)I" } : MethodName) prog_3_method_11_code (3 : Nat) (Option.some ClassFile.FieldType.int)) ∈ WD := wdT2 206 rfl rfl
theorem wd467 : (Cond.methodLink "RestMill$Mill" (76 : Nat) ({ cls := "RestMill$Moduli", name := "at", desc := "(I)I" } : MethodName)) ∈ WD := wdT2 207 rfl rfl
theorem wd472 : (Cond.code ({ cls := "RestMill", name := "number", desc := "(I)J" } : MethodName) prog_1_method_19_code (2 : Nat) (Option.some ClassFile.FieldType.long)) ∈ WD := wdT2 212 rfl rfl
theorem wd473 : (Cond.methodLink "RestMill" (202 : Nat) ({ cls := "RestMill$Mill", name := "numberAt", desc := "(I)J" } : MethodName)) ∈ WD := wdT2 213 rfl rfl
theorem wd477 : (Cond.code ({ cls := "RestMill", name := "isSound", desc := "(I)Z" } : MethodName) prog_1_method_20_code (2 : Nat) (Option.some ClassFile.FieldType.boolean)) ∈ WD := wdT2 217 rfl rfl
theorem wd478 : (Cond.methodLink "RestMill" (205 : Nat) ({ cls := "RestMill$Mill", name := "soundAt", desc := "(I)Z" } : MethodName)) ∈ WD := wdT2 218 rfl rfl
theorem wd482 : (Cond.code ({ cls := "RestMill", name := "compare", desc := "(II)I" } : MethodName) prog_1_method_21_code (3 : Nat) (Option.some ClassFile.FieldType.int)) ∈ WD := wdT2 222 rfl rfl
theorem wd483 : (Cond.methodLink "RestMill" (209 : Nat) ({ cls := "RestMill$Mill", name := "orderOf", desc := "(II)I" } : MethodName)) ∈ WD := wdT2 223 rfl rfl
theorem wd484 : (Cond.instanceMethod ({ cls := "RestMill$Mill", name := "orderOf", desc := "(II)I" } : MethodName)) ∈ WD := wdT2 224 rfl rfl
theorem wd485 : (Cond.selects "RestMill$Mill" ({ cls := "RestMill$Mill", name := "orderOf", desc := "(II)I" } : MethodName) ({ cls := "RestMill$Mill", name := "orderOf", desc := "(II)I" } : MethodName)) ∈ WD := wdT2 225 rfl rfl
theorem wd486 : (Cond.code ({ cls := "RestMill$Mill", name := "orderOf", desc := "(II)I" } : MethodName) prog_3_method_13_code (3 : Nat) (Option.some ClassFile.FieldType.int)) ∈ WD := wdT2 226 rfl rfl
theorem wd490 : (Cond.code ({ cls := "RestMill", name := "extend", desc := "(IIZ)I" } : MethodName) prog_1_method_22_code (4 : Nat) (Option.some ClassFile.FieldType.int)) ∈ WD := wdT2 230 rfl rfl
theorem wd491 : (Cond.methodLink "RestMill" (199 : Nat) ({ cls := "RestMill$Mill", name := "valueAt", desc := "(I)J" } : MethodName)) ∈ WD := wdT2 231 rfl rfl
theorem wd492 : (Cond.instanceMethod ({ cls := "RestMill$Mill", name := "valueAt", desc := "(I)J" } : MethodName)) ∈ WD := wdT2 232 rfl rfl
theorem wd493 : (Cond.selects "RestMill$Mill" ({ cls := "RestMill$Mill", name := "valueAt", desc := "(I)J" } : MethodName) ({ cls := "RestMill$Mill", name := "valueAt", desc := "(I)J" } : MethodName)) ∈ WD := wdT2 233 rfl rfl
theorem wd494 : (Cond.code ({ cls := "RestMill$Mill", name := "valueAt", desc := "(I)J" } : MethodName) prog_3_method_10_code (2 : Nat) (Option.some ClassFile.FieldType.long)) ∈ WD := wdT2 234 rfl rfl
theorem wd498 : (Cond.code ({ cls := "RestMill", name := "gap", desc := "()J" } : MethodName) prog_1_method_23_code (6 : Nat) (Option.some ClassFile.FieldType.long)) ∈ WD := wdT2 238 rfl rfl
theorem wd499 : (Cond.methodLink "RestMill" (192 : Nat) ({ cls := "RestMill$Mill", name := "sumOfParts", desc := "(I)J" } : MethodName)) ∈ WD := wdT2 239 rfl rfl
theorem wd500 : (Cond.instanceMethod ({ cls := "RestMill$Mill", name := "sumOfParts", desc := "(I)J" } : MethodName)) ∈ WD := wdT3 0 rfl rfl
theorem wd501 : (Cond.selects "RestMill$Mill" ({ cls := "RestMill$Mill", name := "sumOfParts", desc := "(I)J" } : MethodName) ({ cls := "RestMill$Mill", name := "sumOfParts", desc := "(I)J" } : MethodName)) ∈ WD := wdT3 1 rfl rfl
theorem wd502 : (Cond.code ({ cls := "RestMill$Mill", name := "sumOfParts", desc := "(I)J" } : MethodName) prog_3_method_17_code (5 : Nat) (Option.some ClassFile.FieldType.long)) ∈ WD := wdT3 2 rfl rfl
theorem wd503 : (Cond.methodLink "RestMill$Mill" (109 : Nat) ({ cls := "RestMill$Mill", name := "partAt", desc := "(II)J" } : MethodName)) ∈ WD := wdT3 3 rfl rfl
theorem wd504 : (Cond.instanceMethod ({ cls := "RestMill$Mill", name := "partAt", desc := "(II)J" } : MethodName)) ∈ WD := wdT3 4 rfl rfl
theorem wd505 : (Cond.selects "RestMill$Mill" ({ cls := "RestMill$Mill", name := "partAt", desc := "(II)J" } : MethodName) ({ cls := "RestMill$Mill", name := "partAt", desc := "(II)J" } : MethodName)) ∈ WD := wdT3 5 rfl rfl
theorem wd506 : (Cond.code ({ cls := "RestMill$Mill", name := "partAt", desc := "(II)J" } : MethodName) prog_3_method_16_code (3 : Nat) (Option.some ClassFile.FieldType.long)) ∈ WD := wdT3 6 rfl rfl
theorem wd507 : (Cond.methodLink "RestMill$Mill" (103 : Nat) ({ cls := "RestMill$Mill", name := "restAt", desc := "(II)I" } : MethodName)) ∈ WD := wdT3 7 rfl rfl
theorem wd508 : (Cond.methodLink "RestMill$Mill" (106 : Nat) ({ cls := "RestMill$Moduli", name := "weightAt", desc := "(I)J" } : MethodName)) ∈ WD := wdT3 8 rfl rfl
theorem wd509 : (Cond.instanceMethod ({ cls := "RestMill$Moduli", name := "weightAt", desc := "(I)J" } : MethodName)) ∈ WD := wdT3 9 rfl rfl
theorem wd510 : (Cond.selects "RestMill$Moduli" ({ cls := "RestMill$Moduli", name := "weightAt", desc := "(I)J" } : MethodName) ({ cls := "RestMill$Moduli", name := "weightAt", desc := "(I)J" } : MethodName)) ∈ WD := wdT3 10 rfl rfl
theorem wd511 : (Cond.code ({ cls := "RestMill$Moduli", name := "weightAt", desc := "(I)J" } : MethodName) prog_4_method_5_code (2 : Nat) (Option.some ClassFile.FieldType.long)) ∈ WD := wdT3 11 rfl rfl
theorem wd512 : (Cond.methodLink "RestMill" (215 : Nat) ({ cls := "RestMill$Mill", name := "valueByDigits", desc := "(I)J" } : MethodName)) ∈ WD := wdT3 12 rfl rfl
theorem wd513 : (Cond.instanceMethod ({ cls := "RestMill$Mill", name := "valueByDigits", desc := "(I)J" } : MethodName)) ∈ WD := wdT3 13 rfl rfl
theorem wd514 : (Cond.selects "RestMill$Mill" ({ cls := "RestMill$Mill", name := "valueByDigits", desc := "(I)J" } : MethodName) ({ cls := "RestMill$Mill", name := "valueByDigits", desc := "(I)J" } : MethodName)) ∈ WD := wdT3 14 rfl rfl
theorem wd515 : (Cond.code ({ cls := "RestMill$Mill", name := "valueByDigits", desc := "(I)J" } : MethodName) prog_3_method_15_code (7 : Nat) (Option.some ClassFile.FieldType.long)) ∈ WD := wdT3 15 rfl rfl
theorem wd516 : (Cond.methodLink "RestMill$Mill" (99 : Nat) ({ cls := "RestMill$Mill", name := "digitAt", desc := "(II)I" } : MethodName)) ∈ WD := wdT3 16 rfl rfl
theorem wd517 : (Cond.instanceMethod ({ cls := "RestMill$Mill", name := "digitAt", desc := "(II)I" } : MethodName)) ∈ WD := wdT3 17 rfl rfl
theorem wd518 : (Cond.selects "RestMill$Mill" ({ cls := "RestMill$Mill", name := "digitAt", desc := "(II)I" } : MethodName) ({ cls := "RestMill$Mill", name := "digitAt", desc := "(II)I" } : MethodName)) ∈ WD := wdT3 18 rfl rfl
theorem wd519 : (Cond.code ({ cls := "RestMill$Mill", name := "digitAt", desc := "(II)I" } : MethodName) prog_3_method_14_code (6 : Nat) (Option.some ClassFile.FieldType.int)) ∈ WD := wdT3 19 rfl rfl
theorem wd520 : (Cond.methodLink "RestMill$Mill" (90 : Nat) ({ cls := "RestMill$Mill", name := "valueAt", desc := "(I)J" } : MethodName)) ∈ WD := wdT3 20 rfl rfl
theorem wd522 : (Cond.methodLink "RestMill" (218 : Nat) ({ cls := "java/lang/Math", name := "abs", desc := "(J)J" } : MethodName)) ∈ WD := wdT3 22 rfl rfl
theorem wd523 : (Cond.static ({ cls := "java/lang/Math", name := "abs", desc := "(J)J" } : MethodName)) ∈ WD := wdT3 23 rfl rfl
theorem wd524 : (Cond.code ({ cls := "java/lang/Math", name := "abs", desc := "(J)J" } : MethodName) prog_24_method_61_code (2 : Nat) (Option.some ClassFile.FieldType.long)) ∈ WD := wdT3 24 rfl rfl
theorem wd528 : (Cond.code ({ cls := "RestMill", name := "faults", desc := "(I)I" } : MethodName) prog_1_method_27_code (2 : Nat) (Option.some ClassFile.FieldType.int)) ∈ WD := wdT3 28 rfl rfl
theorem wd529 : (Cond.methodLink "RestMill" (247 : Nat) ({ cls := "RestMill$Mill", name := "faultsAt", desc := "(I)I" } : MethodName)) ∈ WD := wdT3 29 rfl rfl
theorem wd530 : (Cond.instanceMethod ({ cls := "RestMill$Mill", name := "faultsAt", desc := "(I)I" } : MethodName)) ∈ WD := wdT3 30 rfl rfl
theorem wd531 : (Cond.selects "RestMill$Mill" ({ cls := "RestMill$Mill", name := "faultsAt", desc := "(I)I" } : MethodName) ({ cls := "RestMill$Mill", name := "faultsAt", desc := "(I)I" } : MethodName)) ∈ WD := wdT3 31 rfl rfl
theorem wd532 : (Cond.code ({ cls := "RestMill$Mill", name := "faultsAt", desc := "(I)I" } : MethodName) prog_3_method_24_code (4 : Nat) (Option.some ClassFile.FieldType.int)) ∈ WD := wdT3 32 rfl rfl
theorem wd533 : (Cond.methodLink "RestMill$Mill" (117 : Nat) ({ cls := "RestMill$Mill", name := "soundRest", desc := "(II)I" } : MethodName)) ∈ WD := wdT3 33 rfl rfl
theorem wd534 : (Cond.instanceMethod ({ cls := "RestMill$Mill", name := "soundRest", desc := "(II)I" } : MethodName)) ∈ WD := wdT3 34 rfl rfl
theorem wd535 : (Cond.selects "RestMill$Mill" ({ cls := "RestMill$Mill", name := "soundRest", desc := "(II)I" } : MethodName) ({ cls := "RestMill$Mill", name := "soundRest", desc := "(II)I" } : MethodName)) ∈ WD := wdT3 35 rfl rfl
theorem wd536 : (Cond.code ({ cls := "RestMill$Mill", name := "soundRest", desc := "(II)I" } : MethodName) prog_3_method_23_code (8 : Nat) (Option.some ClassFile.FieldType.int)) ∈ WD := wdT3 36 rfl rfl
theorem wd538 : (Cond.static ({ cls := "RestMill", name := "numberIn", desc := "(JJ)J" } : MethodName)) ∈ WD := wdT3 38 rfl rfl
theorem wd539 : (Cond.code ({ cls := "RestMill", name := "numberIn", desc := "(JJ)J" } : MethodName) prog_1_method_58_code (6 : Nat) (Option.some ClassFile.FieldType.long)) ∈ WD := wdT3 39 rfl rfl
theorem wd540 : (Cond.constantLong "RestMill" (348 : Nat) (2 : Int64)) ∈ WD := wdT3 40 rfl rfl
theorem wd544 : (Cond.code ({ cls := "RestMill", name := "numberWith", desc := "(III)J" } : MethodName) prog_1_method_28_code (4 : Nat) (Option.some ClassFile.FieldType.long)) ∈ WD := wdT3 44 rfl rfl
theorem wd545 : (Cond.methodLink "RestMill" (250 : Nat) ({ cls := "RestMill", name := "needRest", desc := "(II)V" } : MethodName)) ∈ WD := wdT3 45 rfl rfl
theorem wd547 : (Cond.instanceMethod ({ cls := "RestMill", name := "needRest", desc := "(II)V" } : MethodName)) ∈ WD := wdT3 47 rfl rfl
theorem wd548 : (Cond.code ({ cls := "RestMill", name := "needRest", desc := "(II)V" } : MethodName) prog_1_method_53_code (3 : Nat) (Option.none : Option ClassFile.FieldType)) ∈ WD := wdT3 48 rfl rfl
theorem wd549 : (Cond.methodLink "RestMill" (254 : Nat) ({ cls := "RestMill$Mill", name := "numberWithRest", desc := "(III)J" } : MethodName)) ∈ WD := wdT3 49 rfl rfl
theorem wd550 : (Cond.instanceMethod ({ cls := "RestMill$Mill", name := "numberWithRest", desc := "(III)J" } : MethodName)) ∈ WD := wdT3 50 rfl rfl
theorem wd551 : (Cond.selects "RestMill$Mill" ({ cls := "RestMill$Mill", name := "numberWithRest", desc := "(III)J" } : MethodName) ({ cls := "RestMill$Mill", name := "numberWithRest", desc := "(III)J" } : MethodName)) ∈ WD := wdT3 51 rfl rfl
theorem wd552 : (Cond.code ({ cls := "RestMill$Mill", name := "numberWithRest", desc := "(III)J" } : MethodName) prog_3_method_22_code (6 : Nat) (Option.some ClassFile.FieldType.long)) ∈ WD := wdT3 52 rfl rfl
theorem wd556 : (Cond.code ({ cls := "RestMill", name := "set", desc := "(II)I" } : MethodName) prog_1_method_34_code (3 : Nat) (Option.some ClassFile.FieldType.int)) ∈ WD := wdT3 56 rfl rfl
theorem wd557 : (Cond.constant "RestMill" (269 : Nat) (-1000000000 : Int32)) ∈ WD := wdT3 57 rfl rfl
theorem wd558 : (Cond.constant "RestMill" (270 : Nat) (1000000000 : Int32)) ∈ WD := wdT3 58 rfl rfl
theorem wd559 : (Cond.methodLink "RestMill" (116 : Nat) ({ cls := "RestMill$Changes", name := "prepare", desc := "(LRestMill$Mill;)V" } : MethodName)) ∈ WD := wdT3 59 rfl rfl
theorem wd560 : (Cond.instanceMethod ({ cls := "RestMill$Changes", name := "prepare", desc := "(LRestMill$Mill;)V" } : MethodName)) ∈ WD := wdT3 60 rfl rfl
theorem wd561 : (Cond.selects "RestMill$Changes" ({ cls := "RestMill$Changes", name := "prepare", desc := "(LRestMill$Mill;)V" } : MethodName) ({ cls := "RestMill$Changes", name := "prepare", desc := "(LRestMill$Mill;)V" } : MethodName)) ∈ WD := wdT3 61 rfl rfl
theorem wd562 : (Cond.code ({ cls := "RestMill$Changes", name := "prepare", desc := "(LRestMill$Mill;)V" } : MethodName) prog_2_method_3_code (3 : Nat) (Option.none : Option ClassFile.FieldType)) ∈ WD := wdT3 62 rfl rfl
theorem wd563 : (Cond.methodLink "RestMill$Changes" (25 : Nat) ({ cls := "RestMill$Changes", name := "slotAt", desc := "(I)LRestMill$Mill;" } : MethodName)) ∈ WD := wdT3 63 rfl rfl
theorem wd565 : (Cond.instanceMethod ({ cls := "RestMill$Changes", name := "slotAt", desc := "(I)LRestMill$Mill;" } : MethodName)) ∈ WD := wdT3 65 rfl rfl
theorem wd566 : (Cond.code ({ cls := "RestMill$Changes", name := "slotAt", desc := "(I)LRestMill$Mill;" } : MethodName) prog_2_method_7_code (2 : Nat) (Option.some (ClassFile.FieldType.object "RestMill$Mill"))) ∈ WD := wdT3 66 rfl rfl
theorem wd567 : (Cond.methodLink "RestMill$Changes" (29 : Nat) ({ cls := "RestMill$Mill", name := "copyFrom", desc := "(LRestMill$Mill;)V" } : MethodName)) ∈ WD := wdT3 67 rfl rfl
theorem wd568 : (Cond.instanceMethod ({ cls := "RestMill$Mill", name := "copyFrom", desc := "(LRestMill$Mill;)V" } : MethodName)) ∈ WD := wdT3 68 rfl rfl
theorem wd569 : (Cond.selects "RestMill$Mill" ({ cls := "RestMill$Mill", name := "copyFrom", desc := "(LRestMill$Mill;)V" } : MethodName) ({ cls := "RestMill$Mill", name := "copyFrom", desc := "(LRestMill$Mill;)V" } : MethodName)) ∈ WD := wdT3 69 rfl rfl
theorem wd570 : (Cond.code ({ cls := "RestMill$Mill", name := "copyFrom", desc := "(LRestMill$Mill;)V" } : MethodName) prog_3_method_2_code (2 : Nat) (Option.none : Option ClassFile.FieldType)) ∈ WD := wdT3 70 rfl rfl
theorem wd571 : (Cond.methodLink "RestMill$Mill" (26 : Nat) ({ cls := "RestMill$Moduli", name := "copyFrom", desc := "(LRestMill$Moduli;)V" } : MethodName)) ∈ WD := wdT3 71 rfl rfl
theorem wd572 : (Cond.instanceMethod ({ cls := "RestMill$Moduli", name := "copyFrom", desc := "(LRestMill$Moduli;)V" } : MethodName)) ∈ WD := wdT3 72 rfl rfl
theorem wd573 : (Cond.selects "RestMill$Moduli" ({ cls := "RestMill$Moduli", name := "copyFrom", desc := "(LRestMill$Moduli;)V" } : MethodName) ({ cls := "RestMill$Moduli", name := "copyFrom", desc := "(LRestMill$Moduli;)V" } : MethodName)) ∈ WD := wdT3 73 rfl rfl
theorem wd574 : (Cond.code ({ cls := "RestMill$Moduli", name := "copyFrom", desc := "(LRestMill$Moduli;)V" } : MethodName) prog_4_method_2_code (2 : Nat) (Option.none : Option ClassFile.FieldType)) ∈ WD := wdT3 74 rfl rfl
theorem wd576 : (Cond.static ({ cls := "RestMill", name := "copyRow", desc := "([I[I)V" } : MethodName)) ∈ WD := wdT3 76 rfl rfl
theorem wd577 : (Cond.code ({ cls := "RestMill", name := "copyRow", desc := "([I[I)V" } : MethodName) prog_1_method_60_code (3 : Nat) (Option.none : Option ClassFile.FieldType)) ∈ WD := wdT3 77 rfl rfl
theorem wd579 : (Cond.static ({ cls := "RestMill", name := "copyRow", desc := "([J[J)V" } : MethodName)) ∈ WD := wdT3 79 rfl rfl
theorem wd580 : (Cond.code ({ cls := "RestMill", name := "copyRow", desc := "([J[J)V" } : MethodName) prog_1_method_61_code (3 : Nat) (Option.none : Option ClassFile.FieldType)) ∈ WD := wdT3 80 rfl rfl
theorem wd583 : (Cond.methodLink "RestMill" (271 : Nat) ({ cls := "RestMill$Mill", name := "actSet", desc := "(II)I" } : MethodName)) ∈ WD := wdT3 83 rfl rfl
theorem wd584 : (Cond.instanceMethod ({ cls := "RestMill$Mill", name := "actSet", desc := "(II)I" } : MethodName)) ∈ WD := wdT3 84 rfl rfl
theorem wd585 : (Cond.selects "RestMill$Mill" ({ cls := "RestMill$Mill", name := "actSet", desc := "(II)I" } : MethodName) ({ cls := "RestMill$Mill", name := "actSet", desc := "(II)I" } : MethodName)) ∈ WD := wdT3 85 rfl rfl
theorem wd586 : (Cond.code ({ cls := "RestMill$Mill", name := "actSet", desc := "(II)I" } : MethodName) prog_3_method_29_code (3 : Nat) (Option.some ClassFile.FieldType.int)) ∈ WD := wdT3 86 rfl rfl
theorem wd587 : (Cond.methodLink "RestMill$Mill" (138 : Nat) ({ cls := "RestMill$Mill", name := "finish", desc := "(IJ)I" } : MethodName)) ∈ WD := wdT3 87 rfl rfl
theorem wd588 : (Cond.instanceMethod ({ cls := "RestMill$Mill", name := "finish", desc := "(IJ)I" } : MethodName)) ∈ WD := wdT3 88 rfl rfl
theorem wd589 : (Cond.selects "RestMill$Mill" ({ cls := "RestMill$Mill", name := "finish", desc := "(IJ)I" } : MethodName) ({ cls := "RestMill$Mill", name := "finish", desc := "(IJ)I" } : MethodName)) ∈ WD := wdT3 89 rfl rfl
theorem wd590 : (Cond.code ({ cls := "RestMill$Mill", name := "finish", desc := "(IJ)I" } : MethodName) prog_3_method_28_code (4 : Nat) (Option.some ClassFile.FieldType.int)) ∈ WD := wdT3 90 rfl rfl
theorem wd591 : (Cond.methodLink "RestMill$Mill" (69 : Nat) ({ cls := "RestMill$Mill", name := "put", desc := "(IJ)V" } : MethodName)) ∈ WD := wdT3 91 rfl rfl
theorem wd592 : (Cond.instanceMethod ({ cls := "RestMill$Mill", name := "put", desc := "(IJ)V" } : MethodName)) ∈ WD := wdT3 92 rfl rfl
theorem wd593 : (Cond.selects "RestMill$Mill" ({ cls := "RestMill$Mill", name := "put", desc := "(IJ)V" } : MethodName) ({ cls := "RestMill$Mill", name := "put", desc := "(IJ)V" } : MethodName)) ∈ WD := wdT3 93 rfl rfl
theorem wd594 : (Cond.code ({ cls := "RestMill$Mill", name := "put", desc := "(IJ)V" } : MethodName) prog_3_method_8_code (4 : Nat) (Option.none : Option ClassFile.FieldType)) ∈ WD := wdT3 94 rfl rfl
theorem wd595 : (Cond.methodLink "RestMill$Mill" (53 : Nat) ({ cls := "RestMill$Mill", name := "book", desc := "(I)V" } : MethodName)) ∈ WD := wdT3 95 rfl rfl
theorem wd596 : (Cond.instanceMethod ({ cls := "RestMill$Mill", name := "book", desc := "(I)V" } : MethodName)) ∈ WD := wdT3 96 rfl rfl
theorem wd597 : (Cond.selects "RestMill$Mill" ({ cls := "RestMill$Mill", name := "book", desc := "(I)V" } : MethodName) ({ cls := "RestMill$Mill", name := "book", desc := "(I)V" } : MethodName)) ∈ WD := wdT3 97 rfl rfl
theorem wd598 : (Cond.code ({ cls := "RestMill$Mill", name := "book", desc := "(I)V" } : MethodName) prog_3_method_5_code (2 : Nat) (Option.none : Option ClassFile.FieldType)) ∈ WD := wdT3 98 rfl rfl
theorem wd599 : (Cond.methodLink "RestMill$Mill" (142 : Nat) ({ cls := "RestMill$Mill", name := "refuse", desc := "(I)I" } : MethodName)) ∈ WD := wdT3 99 rfl rfl
theorem wd600 : (Cond.instanceMethod ({ cls := "RestMill$Mill", name := "refuse", desc := "(I)I" } : MethodName)) ∈ WD := wdT3 100 rfl rfl
theorem wd601 : (Cond.selects "RestMill$Mill" ({ cls := "RestMill$Mill", name := "refuse", desc := "(I)I" } : MethodName) ({ cls := "RestMill$Mill", name := "refuse", desc := "(I)I" } : MethodName)) ∈ WD := wdT3 101 rfl rfl
theorem wd602 : (Cond.code ({ cls := "RestMill$Mill", name := "refuse", desc := "(I)I" } : MethodName) prog_3_method_6_code (2 : Nat) (Option.some ClassFile.FieldType.int)) ∈ WD := wdT3 102 rfl rfl
theorem wd603 : (Cond.methodLink "RestMill" (274 : Nat) ({ cls := "RestMill$Changes", name := "keepIfDone", desc := "(I)I" } : MethodName)) ∈ WD := wdT3 103 rfl rfl
theorem wd604 : (Cond.instanceMethod ({ cls := "RestMill$Changes", name := "keepIfDone", desc := "(I)I" } : MethodName)) ∈ WD := wdT3 104 rfl rfl
theorem wd605 : (Cond.selects "RestMill$Changes" ({ cls := "RestMill$Changes", name := "keepIfDone", desc := "(I)I" } : MethodName) ({ cls := "RestMill$Changes", name := "keepIfDone", desc := "(I)I" } : MethodName)) ∈ WD := wdT3 105 rfl rfl
theorem wd606 : (Cond.code ({ cls := "RestMill$Changes", name := "keepIfDone", desc := "(I)I" } : MethodName) prog_2_method_5_code (2 : Nat) (Option.some ClassFile.FieldType.int)) ∈ WD := wdT3 106 rfl rfl
theorem wd607 : (Cond.methodLink "RestMill$Changes" (39 : Nat) ({ cls := "RestMill$Changes", name := "keep", desc := "()V" } : MethodName)) ∈ WD := wdT3 107 rfl rfl
theorem wd608 : (Cond.instanceMethod ({ cls := "RestMill$Changes", name := "keep", desc := "()V" } : MethodName)) ∈ WD := wdT3 108 rfl rfl
theorem wd609 : (Cond.selects "RestMill$Changes" ({ cls := "RestMill$Changes", name := "keep", desc := "()V" } : MethodName) ({ cls := "RestMill$Changes", name := "keep", desc := "()V" } : MethodName)) ∈ WD := wdT3 109 rfl rfl
theorem wd610 : (Cond.code ({ cls := "RestMill$Changes", name := "keep", desc := "()V" } : MethodName) prog_2_method_4_code (1 : Nat) (Option.none : Option ClassFile.FieldType)) ∈ WD := wdT3 110 rfl rfl
theorem wd611 : (Cond.methodLink "RestMill$Changes" (33 : Nat) ({ cls := "java/lang/Math", name := "min", desc := "(II)I" } : MethodName)) ∈ WD := wdT3 111 rfl rfl
theorem wd612 : (Cond.static ({ cls := "java/lang/Math", name := "min", desc := "(II)I" } : MethodName)) ∈ WD := wdT3 112 rfl rfl
theorem wd613 : (Cond.code ({ cls := "java/lang/Math", name := "min", desc := "(II)I" } : MethodName) prog_24_method_69_code (2 : Nat) (Option.some ClassFile.FieldType.int)) ∈ WD := wdT3 113 rfl rfl
theorem wd617 : (Cond.code ({ cls := "RestMill", name := "hurt", desc := "(III)I" } : MethodName) prog_1_method_35_code (5 : Nat) (Option.some ClassFile.FieldType.int)) ∈ WD := wdT3 117 rfl rfl
theorem wd618 : (Cond.methodLink "RestMill" (119 : Nat) ({ cls := "RestMill$Changes", name := "keep", desc := "()V" } : MethodName)) ∈ WD := wdT3 118 rfl rfl
theorem wd619 : (Cond.methodLink "RestMill" (277 : Nat) ({ cls := "RestMill$Mill", name := "put", desc := "(IJ)V" } : MethodName)) ∈ WD := wdT3 119 rfl rfl
theorem wd623 : (Cond.code ({ cls := "RestMill", name := "mend", desc := "(I)I" } : MethodName) prog_1_method_38_code (2 : Nat) (Option.some ClassFile.FieldType.int)) ∈ WD := wdT3 123 rfl rfl
theorem wd624 : (Cond.methodLink "RestMill" (288 : Nat) ({ cls := "RestMill$Mill", name := "actMend", desc := "(I)I" } : MethodName)) ∈ WD := wdT3 124 rfl rfl
theorem wd625 : (Cond.instanceMethod ({ cls := "RestMill$Mill", name := "actMend", desc := "(I)I" } : MethodName)) ∈ WD := wdT3 125 rfl rfl
theorem wd626 : (Cond.selects "RestMill$Mill" ({ cls := "RestMill$Mill", name := "actMend", desc := "(I)I" } : MethodName) ({ cls := "RestMill$Mill", name := "actMend", desc := "(I)I" } : MethodName)) ∈ WD := wdT3 126 rfl rfl
theorem wd627 : (Cond.code ({ cls := "RestMill$Mill", name := "actMend", desc := "(I)I" } : MethodName) prog_3_method_32_code (4 : Nat) (Option.some ClassFile.FieldType.int)) ∈ WD := wdT3 127 rfl rfl
theorem wd628 : (Cond.methodLink "RestMill$Mill" (149 : Nat) ({ cls := "RestMill$Mill", name := "numberWithRest", desc := "(III)J" } : MethodName)) ∈ WD := wdT3 128 rfl rfl
theorem wd632 : (Cond.code ({ cls := "RestMill", name := "saveState", desc := "()I" } : MethodName) prog_1_method_47_code (1 : Nat) (Option.some ClassFile.FieldType.int)) ∈ WD := wdT3 132 rfl rfl
theorem wd633 : (Cond.methodLink "RestMill" (98 : Nat) ({ cls := "RestMill$Mill", name := "copyFrom", desc := "(LRestMill$Mill;)V" } : MethodName)) ∈ WD := wdT3 133 rfl rfl
theorem wd637 : (Cond.code ({ cls := "RestMill", name := "restoreState", desc := "()I" } : MethodName) prog_1_method_48_code (1 : Nat) (Option.some ClassFile.FieldType.int)) ∈ WD := wdT3 137 rfl rfl
theorem wd638 : (Cond.classLink "RestMill" (300 : Nat) "java/util/NoSuchElementException") ∈ WD := wdT3 138 rfl rfl
theorem wd639 : (Cond.instantiable "java/util/NoSuchElementException" (6 : Nat)) ∈ WD := wdT3 139 rfl rfl
theorem wd641 : (Cond.selects "java/util/NoSuchElementException" ({ cls := "java/lang/Throwable", name := "fillInStackTrace", desc := "(I)Ljava/lang/Throwable;" } : MethodName) ({ cls := "java/lang/Throwable", name := "fillInStackTrace", desc := "(I)Ljava/lang/Throwable;" } : MethodName)) ∈ WD := wdT3 141 rfl rfl
theorem wd642 : (Cond.lays "java/util/NoSuchElementException" "java/lang/Throwable" "cause" "Ljava/lang/Throwable;") ∈ WD := wdT3 142 rfl rfl
theorem wd643 : (Cond.lays "java/util/NoSuchElementException" "java/lang/Throwable" "stackTrace" "[Ljava/lang/StackTraceElement;") ∈ WD := wdT3 143 rfl rfl
theorem wd644 : (Cond.lays "java/util/NoSuchElementException" "java/lang/Throwable" "suppressedExceptions" "Ljava/util/List;") ∈ WD := wdT3 144 rfl rfl
theorem wd645 : (Cond.lays "java/util/NoSuchElementException" "java/lang/Throwable" "detailMessage" "Ljava/lang/String;") ∈ WD := wdT3 145 rfl rfl
theorem wd646 : (Cond.lays "java/util/NoSuchElementException" "java/lang/Throwable" "backtrace" "Ljava/lang/Object;") ∈ WD := wdT3 146 rfl rfl
theorem wd647 : (Cond.methodLink "RestMill" (302 : Nat) ({ cls := "java/util/NoSuchElementException", name := "<init>", desc := "()V" } : MethodName)) ∈ WD := wdT3 147 rfl rfl
theorem wd648 : (Cond.instanceMethod ({ cls := "java/util/NoSuchElementException", name := "<init>", desc := "()V" } : MethodName)) ∈ WD := wdT3 148 rfl rfl
theorem wd649 : (Cond.code ({ cls := "java/util/NoSuchElementException", name := "<init>", desc := "()V" } : MethodName) prog_36_method_1_code (1 : Nat) (Option.none : Option ClassFile.FieldType)) ∈ WD := wdT3 149 rfl rfl
theorem wd650 : (Cond.methodLink "java/util/NoSuchElementException" (1 : Nat) ({ cls := "java/lang/RuntimeException", name := "<init>", desc := "()V" } : MethodName)) ∈ WD := wdT3 150 rfl rfl
theorem wd653 : (Cond.methodLink "RestMill" (102 : Nat) ({ cls := "RestMill$Changes", name := "clear", desc := "()V" } : MethodName)) ∈ WD := wdT3 153 rfl rfl
theorem wd654 : (Cond.instanceMethod ({ cls := "RestMill$Changes", name := "clear", desc := "()V" } : MethodName)) ∈ WD := wdT3 154 rfl rfl
theorem wd655 : (Cond.selects "RestMill$Changes" ({ cls := "RestMill$Changes", name := "clear", desc := "()V" } : MethodName) ({ cls := "RestMill$Changes", name := "clear", desc := "()V" } : MethodName)) ∈ WD := wdT3 155 rfl rfl
theorem wd656 : (Cond.code ({ cls := "RestMill$Changes", name := "clear", desc := "()V" } : MethodName) prog_2_method_2_code (1 : Nat) (Option.none : Option ClassFile.FieldType)) ∈ WD := wdT3 156 rfl rfl
theorem wd721 : (Cond.code ({ cls := "RestMill", name := "appendInput", desc := "(IIIII)I" } : MethodName) prog_1_method_2_code (6 : Nat) (Option.some ClassFile.FieldType.int)) ∈ WD := wdT3 221 rfl rfl
theorem wd722 : (Cond.methodLink "RestMill" (77 : Nat) ({ cls := "RestMill", name := "appendFour", desc := "(I)V" } : MethodName)) ∈ WD := wdT3 222 rfl rfl
theorem wd724 : (Cond.instanceMethod ({ cls := "RestMill", name := "appendFour", desc := "(I)V" } : MethodName)) ∈ WD := wdT3 224 rfl rfl
theorem wd725 : (Cond.code ({ cls := "RestMill", name := "appendFour", desc := "(I)V" } : MethodName) prog_1_method_49_code (3 : Nat) (Option.none : Option ClassFile.FieldType)) ∈ WD := wdT3 225 rfl rfl
theorem wd729 : (Cond.code ({ cls := "RestMill", name := "truncateInput", desc := "(I)Z" } : MethodName) prog_1_method_3_code (2 : Nat) (Option.some ClassFile.FieldType.boolean)) ∈ WD := wdT3 229 rfl rfl
theorem wd733 : (Cond.code ({ cls := "RestMill", name := "loadMill", desc := "()I" } : MethodName) prog_1_method_4_code (2 : Nat) (Option.some ClassFile.FieldType.int)) ∈ WD := wdT3 233 rfl rfl
theorem wd734 : (Cond.methodLink "RestMill" (84 : Nat) ({ cls := "RestMill$Tokens", name := "read", desc := "([BI)V" } : MethodName)) ∈ WD := wdT3 234 rfl rfl
theorem wd735 : (Cond.instanceMethod ({ cls := "RestMill$Tokens", name := "read", desc := "([BI)V" } : MethodName)) ∈ WD := wdT3 235 rfl rfl
theorem wd736 : (Cond.selects "RestMill$Tokens" ({ cls := "RestMill$Tokens", name := "read", desc := "([BI)V" } : MethodName) ({ cls := "RestMill$Tokens", name := "read", desc := "([BI)V" } : MethodName)) ∈ WD := wdT3 236 rfl rfl
theorem wd737 : (Cond.code ({ cls := "RestMill$Tokens", name := "read", desc := "([BI)V" } : MethodName) prog_8_method_2_code (5 : Nat) (Option.none : Option ClassFile.FieldType)) ∈ WD := wdT3 237 rfl rfl
theorem wd738 : (Cond.methodLink "RestMill$Tokens" (34 : Nat) ({ cls := "RestMill$Tokens", name := "readToken", desc := "([BII)I" } : MethodName)) ∈ WD := wdT3 238 rfl rfl
theorem wd740 : (Cond.instanceMethod ({ cls := "RestMill$Tokens", name := "readToken", desc := "([BII)I" } : MethodName)) ∈ WD := wdT4 0 rfl rfl
theorem wd741 : (Cond.code ({ cls := "RestMill$Tokens", name := "readToken", desc := "([BII)I" } : MethodName) prog_8_method_10_code (5 : Nat) (Option.some ClassFile.FieldType.int)) ∈ WD := wdT4 1 rfl rfl
theorem wd742 : (Cond.methodLink "RestMill$Tokens" (56 : Nat) ({ cls := "RestMill$Tokens", name := "byteAt", desc := "([BI)I" } : MethodName)) ∈ WD := wdT4 2 rfl rfl
theorem wd743 : (Cond.static ({ cls := "RestMill$Tokens", name := "byteAt", desc := "([BI)I" } : MethodName)) ∈ WD := wdT4 3 rfl rfl
theorem wd744 : (Cond.code ({ cls := "RestMill$Tokens", name := "byteAt", desc := "([BI)I" } : MethodName) prog_8_method_15_code (2 : Nat) (Option.some ClassFile.FieldType.int)) ∈ WD := wdT4 4 rfl rfl
theorem wd745 : (Cond.methodLink "RestMill$Tokens" (60 : Nat) ({ cls := "RestMill$Tokens", name := "isLetter", desc := "(I)Z" } : MethodName)) ∈ WD := wdT4 5 rfl rfl
theorem wd746 : (Cond.static ({ cls := "RestMill$Tokens", name := "isLetter", desc := "(I)Z" } : MethodName)) ∈ WD := wdT4 6 rfl rfl
theorem wd747 : (Cond.code ({ cls := "RestMill$Tokens", name := "isLetter", desc := "(I)Z" } : MethodName) prog_8_method_16_code (1 : Nat) (Option.some ClassFile.FieldType.boolean)) ∈ WD := wdT4 7 rfl rfl
theorem wd748 : (Cond.methodLink "RestMill$Tokens" (63 : Nat) ({ cls := "RestMill$Tokens", name := "readWord", desc := "([BII)I" } : MethodName)) ∈ WD := wdT4 8 rfl rfl
theorem wd750 : (Cond.instanceMethod ({ cls := "RestMill$Tokens", name := "readWord", desc := "([BII)I" } : MethodName)) ∈ WD := wdT4 10 rfl rfl
theorem wd751 : (Cond.code ({ cls := "RestMill$Tokens", name := "readWord", desc := "([BII)I" } : MethodName) prog_8_method_11_code (6 : Nat) (Option.some ClassFile.FieldType.int)) ∈ WD := wdT4 11 rfl rfl
theorem wd752 : (Cond.methodLink "RestMill$Tokens" (38 : Nat) ({ cls := "RestMill$Tokens", name := "add", desc := "(III)V" } : MethodName)) ∈ WD := wdT4 12 rfl rfl
theorem wd754 : (Cond.instanceMethod ({ cls := "RestMill$Tokens", name := "add", desc := "(III)V" } : MethodName)) ∈ WD := wdT4 14 rfl rfl
theorem wd755 : (Cond.code ({ cls := "RestMill$Tokens", name := "add", desc := "(III)V" } : MethodName) prog_8_method_9_code (4 : Nat) (Option.none : Option ClassFile.FieldType)) ∈ WD := wdT4 15 rfl rfl
theorem wd756 : (Cond.methodLink "RestMill$Tokens" (80 : Nat) ({ cls := "RestMill$Tokens", name := "wordKind", desc := "([BII)I" } : MethodName)) ∈ WD := wdT4 16 rfl rfl
theorem wd757 : (Cond.static ({ cls := "RestMill$Tokens", name := "wordKind", desc := "([BII)I" } : MethodName)) ∈ WD := wdT4 17 rfl rfl
theorem wd758 : (Cond.code ({ cls := "RestMill$Tokens", name := "wordKind", desc := "([BII)I" } : MethodName) prog_8_method_13_code (3 : Nat) (Option.some ClassFile.FieldType.int)) ∈ WD := wdT4 18 rfl rfl
theorem wd760 : (Cond.methodLink "RestMill$Tokens" (85 : Nat) ({ cls := "RestMill$Tokens", name := "isWord", desc := "([BIILjava/lang/String;)Z" } : MethodName)) ∈ WD := wdT4 20 rfl rfl
theorem wd761 : (Cond.static ({ cls := "RestMill$Tokens", name := "isWord", desc := "([BIILjava/lang/String;)Z" } : MethodName)) ∈ WD := wdT4 21 rfl rfl
theorem wd762 : (Cond.code ({ cls := "RestMill$Tokens", name := "isWord", desc := "([BIILjava/lang/String;)Z" } : MethodName) prog_8_method_14_code (5 : Nat) (Option.some ClassFile.FieldType.boolean)) ∈ WD := wdT4 22 rfl rfl
theorem wd771 : (Cond.methodLink "RestMill$Tokens" (66 : Nat) ({ cls := "RestMill$Tokens", name := "isDigit", desc := "(I)Z" } : MethodName)) ∈ WD := wdT4 31 rfl rfl
theorem wd772 : (Cond.static ({ cls := "RestMill$Tokens", name := "isDigit", desc := "(I)Z" } : MethodName)) ∈ WD := wdT4 32 rfl rfl
theorem wd773 : (Cond.code ({ cls := "RestMill$Tokens", name := "isDigit", desc := "(I)Z" } : MethodName) prog_8_method_17_code (1 : Nat) (Option.some ClassFile.FieldType.boolean)) ∈ WD := wdT4 33 rfl rfl
theorem wd774 : (Cond.methodLink "RestMill$Tokens" (69 : Nat) ({ cls := "RestMill$Tokens", name := "readNumeral", desc := "([BII)I" } : MethodName)) ∈ WD := wdT4 34 rfl rfl
theorem wd776 : (Cond.instanceMethod ({ cls := "RestMill$Tokens", name := "readNumeral", desc := "([BII)I" } : MethodName)) ∈ WD := wdT4 36 rfl rfl
theorem wd777 : (Cond.code ({ cls := "RestMill$Tokens", name := "readNumeral", desc := "([BII)I" } : MethodName) prog_8_method_12_code (6 : Nat) (Option.some ClassFile.FieldType.int)) ∈ WD := wdT4 37 rfl rfl
theorem wd796 : (Cond.code ({ cls := "java/lang/Math", name := "max", desc := "(II)I" } : MethodName) prog_24_method_65_code (2 : Nat) (Option.some ClassFile.FieldType.int)) ∈ WD := wdT4 56 rfl rfl
theorem wd836 : (Cond.methodLink "RestMill" (90 : Nat) ({ cls := "RestMill$SetupReader", name := "readSetup", desc := "(LRestMill$Mill;)Z" } : MethodName)) ∈ WD := wdT4 96 rfl rfl
theorem wd837 : (Cond.instanceMethod ({ cls := "RestMill$SetupReader", name := "readSetup", desc := "(LRestMill$Mill;)Z" } : MethodName)) ∈ WD := wdT4 97 rfl rfl
theorem wd838 : (Cond.selects "RestMill$SetupReader" ({ cls := "RestMill$SetupReader", name := "readSetup", desc := "(LRestMill$Mill;)Z" } : MethodName) ({ cls := "RestMill$SetupReader", name := "readSetup", desc := "(LRestMill$Mill;)Z" } : MethodName)) ∈ WD := wdT4 98 rfl rfl
theorem wd839 : (Cond.code ({ cls := "RestMill$SetupReader", name := "readSetup", desc := "(LRestMill$Mill;)Z" } : MethodName) prog_7_method_2_code (2 : Nat) (Option.some ClassFile.FieldType.boolean)) ∈ WD := wdT4 99 rfl rfl
theorem wd840 : (Cond.methodLink "RestMill$SetupReader" (18 : Nat) ({ cls := "RestMill$Mill", name := "clear", desc := "()V" } : MethodName)) ∈ WD := wdT4 100 rfl rfl
theorem wd841 : (Cond.instanceMethod ({ cls := "RestMill$Mill", name := "clear", desc := "()V" } : MethodName)) ∈ WD := wdT4 101 rfl rfl
theorem wd842 : (Cond.selects "RestMill$Mill" ({ cls := "RestMill$Mill", name := "clear", desc := "()V" } : MethodName) ({ cls := "RestMill$Mill", name := "clear", desc := "()V" } : MethodName)) ∈ WD := wdT4 102 rfl rfl
theorem wd843 : (Cond.code ({ cls := "RestMill$Mill", name := "clear", desc := "()V" } : MethodName) prog_3_method_3_code (1 : Nat) (Option.none : Option ClassFile.FieldType)) ∈ WD := wdT4 103 rfl rfl
theorem wd844 : (Cond.methodLink "RestMill$Mill" (41 : Nat) ({ cls := "RestMill$Moduli", name := "clear", desc := "()V" } : MethodName)) ∈ WD := wdT4 104 rfl rfl
theorem wd845 : (Cond.instanceMethod ({ cls := "RestMill$Moduli", name := "clear", desc := "()V" } : MethodName)) ∈ WD := wdT4 105 rfl rfl
theorem wd846 : (Cond.selects "RestMill$Moduli" ({ cls := "RestMill$Moduli", name := "clear", desc := "()V" } : MethodName) ({ cls := "RestMill$Moduli", name := "clear", desc := "()V" } : MethodName)) ∈ WD := wdT4 106 rfl rfl
theorem wd847 : (Cond.code ({ cls := "RestMill$Moduli", name := "clear", desc := "()V" } : MethodName) prog_4_method_3_code (1 : Nat) (Option.none : Option ClassFile.FieldType)) ∈ WD := wdT4 107 rfl rfl
theorem wd848 : (Cond.methodLink "RestMill$Mill" (44 : Nat) ({ cls := "java/util/Arrays", name := "fill", desc := "([JJ)V" } : MethodName)) ∈ WD := wdT4 108 rfl rfl
theorem wd849 : (Cond.static ({ cls := "java/util/Arrays", name := "fill", desc := "([JJ)V" } : MethodName)) ∈ WD := wdT4 109 rfl rfl
theorem wd850 : (Cond.code ({ cls := "java/util/Arrays", name := "fill", desc := "([JJ)V" } : MethodName) prog_35_method_101_code (5 : Nat) (Option.none : Option ClassFile.FieldType)) ∈ WD := wdT4 110 rfl rfl
theorem wd851 : (Cond.methodLink "RestMill$Mill" (50 : Nat) ({ cls := "java/util/Arrays", name := "fill", desc := "([II)V" } : MethodName)) ∈ WD := wdT4 111 rfl rfl
theorem wd852 : (Cond.static ({ cls := "java/util/Arrays", name := "fill", desc := "([II)V" } : MethodName)) ∈ WD := wdT4 112 rfl rfl
theorem wd853 : (Cond.code ({ cls := "java/util/Arrays", name := "fill", desc := "([II)V" } : MethodName) prog_35_method_103_code (4 : Nat) (Option.none : Option ClassFile.FieldType)) ∈ WD := wdT4 113 rfl rfl
theorem wd854 : (Cond.methodLink "RestMill$SetupReader" (27 : Nat) ({ cls := "RestMill$SetupReader", name := "readModuli", desc := "(LRestMill$Moduli;)Z" } : MethodName)) ∈ WD := wdT4 114 rfl rfl
theorem wd856 : (Cond.instanceMethod ({ cls := "RestMill$SetupReader", name := "readModuli", desc := "(LRestMill$Moduli;)Z" } : MethodName)) ∈ WD := wdT4 116 rfl rfl
theorem wd857 : (Cond.code ({ cls := "RestMill$SetupReader", name := "readModuli", desc := "(LRestMill$Moduli;)Z" } : MethodName) prog_7_method_3_code (4 : Nat) (Option.some ClassFile.FieldType.boolean)) ∈ WD := wdT4 117 rfl rfl
theorem wd858 : (Cond.methodLink "RestMill$SetupReader" (41 : Nat) ({ cls := "RestMill$Tokens", name := "take", desc := "(I)Z" } : MethodName)) ∈ WD := wdT4 118 rfl rfl
theorem wd859 : (Cond.instanceMethod ({ cls := "RestMill$Tokens", name := "take", desc := "(I)Z" } : MethodName)) ∈ WD := wdT4 119 rfl rfl
theorem wd860 : (Cond.selects "RestMill$Tokens" ({ cls := "RestMill$Tokens", name := "take", desc := "(I)Z" } : MethodName) ({ cls := "RestMill$Tokens", name := "take", desc := "(I)Z" } : MethodName)) ∈ WD := wdT4 120 rfl rfl
theorem wd861 : (Cond.code ({ cls := "RestMill$Tokens", name := "take", desc := "(I)Z" } : MethodName) prog_8_method_6_code (2 : Nat) (Option.some ClassFile.FieldType.boolean)) ∈ WD := wdT4 121 rfl rfl
theorem wd862 : (Cond.methodLink "RestMill$Tokens" (42 : Nat) ({ cls := "RestMill$Tokens", name := "kind", desc := "()I" } : MethodName)) ∈ WD := wdT4 122 rfl rfl
theorem wd863 : (Cond.instanceMethod ({ cls := "RestMill$Tokens", name := "kind", desc := "()I" } : MethodName)) ∈ WD := wdT4 123 rfl rfl
theorem wd864 : (Cond.selects "RestMill$Tokens" ({ cls := "RestMill$Tokens", name := "kind", desc := "()I" } : MethodName) ({ cls := "RestMill$Tokens", name := "kind", desc := "()I" } : MethodName)) ∈ WD := wdT4 124 rfl rfl
theorem wd865 : (Cond.code ({ cls := "RestMill$Tokens", name := "kind", desc := "()I" } : MethodName) prog_8_method_3_code (1 : Nat) (Option.some ClassFile.FieldType.int)) ∈ WD := wdT4 125 rfl rfl
theorem wd866 : (Cond.methodLink "RestMill$Tokens" (46 : Nat) ({ cls := "RestMill$Tokens", name := "fail", desc := "(I)Z" } : MethodName)) ∈ WD := wdT4 126 rfl rfl
theorem wd867 : (Cond.instanceMethod ({ cls := "RestMill$Tokens", name := "fail", desc := "(I)Z" } : MethodName)) ∈ WD := wdT4 127 rfl rfl
theorem wd868 : (Cond.selects "RestMill$Tokens" ({ cls := "RestMill$Tokens", name := "fail", desc := "(I)Z" } : MethodName) ({ cls := "RestMill$Tokens", name := "fail", desc := "(I)Z" } : MethodName)) ∈ WD := wdT4 128 rfl rfl
theorem wd869 : (Cond.code ({ cls := "RestMill$Tokens", name := "fail", desc := "(I)Z" } : MethodName) prog_8_method_8_code (2 : Nat) (Option.some ClassFile.FieldType.boolean)) ∈ WD := wdT4 129 rfl rfl
theorem wd870 : (Cond.methodLink "RestMill$Tokens" (50 : Nat) ({ cls := "RestMill$Tokens", name := "move", desc := "()V" } : MethodName)) ∈ WD := wdT4 130 rfl rfl
theorem wd871 : (Cond.instanceMethod ({ cls := "RestMill$Tokens", name := "move", desc := "()V" } : MethodName)) ∈ WD := wdT4 131 rfl rfl
theorem wd872 : (Cond.selects "RestMill$Tokens" ({ cls := "RestMill$Tokens", name := "move", desc := "()V" } : MethodName) ({ cls := "RestMill$Tokens", name := "move", desc := "()V" } : MethodName)) ∈ WD := wdT4 132 rfl rfl
theorem wd873 : (Cond.code ({ cls := "RestMill$Tokens", name := "move", desc := "()V" } : MethodName) prog_8_method_5_code (1 : Nat) (Option.none : Option ClassFile.FieldType)) ∈ WD := wdT4 133 rfl rfl
theorem wd874 : (Cond.methodLink "RestMill$SetupReader" (45 : Nat) ({ cls := "RestMill$Tokens", name := "kind", desc := "()I" } : MethodName)) ∈ WD := wdT4 134 rfl rfl
theorem wd875 : (Cond.methodLink "RestMill$SetupReader" (49 : Nat) ({ cls := "RestMill$SetupReader", name := "modulusError", desc := "(LRestMill$Moduli;)I" } : MethodName)) ∈ WD := wdT4 135 rfl rfl
theorem wd877 : (Cond.instanceMethod ({ cls := "RestMill$SetupReader", name := "modulusError", desc := "(LRestMill$Moduli;)I" } : MethodName)) ∈ WD := wdT4 137 rfl rfl
theorem wd878 : (Cond.code ({ cls := "RestMill$SetupReader", name := "modulusError", desc := "(LRestMill$Moduli;)I" } : MethodName) prog_7_method_4_code (3 : Nat) (Option.some ClassFile.FieldType.int)) ∈ WD := wdT4 138 rfl rfl
theorem wd879 : (Cond.methodLink "RestMill$SetupReader" (56 : Nat) ({ cls := "RestMill$Tokens", name := "amount", desc := "()I" } : MethodName)) ∈ WD := wdT4 139 rfl rfl
theorem wd880 : (Cond.instanceMethod ({ cls := "RestMill$Tokens", name := "amount", desc := "()I" } : MethodName)) ∈ WD := wdT4 140 rfl rfl
theorem wd881 : (Cond.selects "RestMill$Tokens" ({ cls := "RestMill$Tokens", name := "amount", desc := "()I" } : MethodName) ({ cls := "RestMill$Tokens", name := "amount", desc := "()I" } : MethodName)) ∈ WD := wdT4 141 rfl rfl
theorem wd882 : (Cond.code ({ cls := "RestMill$Tokens", name := "amount", desc := "()I" } : MethodName) prog_8_method_4_code (1 : Nat) (Option.some ClassFile.FieldType.int)) ∈ WD := wdT4 142 rfl rfl
theorem wd883 : (Cond.methodLink "RestMill$SetupReader" (68 : Nat) ({ cls := "RestMill$Moduli", name := "tooGreatWith", desc := "(I)Z" } : MethodName)) ∈ WD := wdT4 143 rfl rfl
theorem wd884 : (Cond.instanceMethod ({ cls := "RestMill$Moduli", name := "tooGreatWith", desc := "(I)Z" } : MethodName)) ∈ WD := wdT4 144 rfl rfl
theorem wd885 : (Cond.selects "RestMill$Moduli" ({ cls := "RestMill$Moduli", name := "tooGreatWith", desc := "(I)Z" } : MethodName) ({ cls := "RestMill$Moduli", name := "tooGreatWith", desc := "(I)Z" } : MethodName)) ∈ WD := wdT4 145 rfl rfl
theorem wd886 : (Cond.code ({ cls := "RestMill$Moduli", name := "tooGreatWith", desc := "(I)Z" } : MethodName) prog_4_method_9_code (2 : Nat) (Option.some ClassFile.FieldType.boolean)) ∈ WD := wdT4 146 rfl rfl
theorem wd887 : (Cond.constantLong "RestMill$Moduli" (49 : Nat) (1000000000 : Int64)) ∈ WD := wdT4 147 rfl rfl
theorem wd888 : (Cond.methodLink "RestMill$SetupReader" (71 : Nat) ({ cls := "RestMill$Moduli", name := "hasCommonWith", desc := "(I)Z" } : MethodName)) ∈ WD := wdT4 148 rfl rfl
theorem wd889 : (Cond.instanceMethod ({ cls := "RestMill$Moduli", name := "hasCommonWith", desc := "(I)Z" } : MethodName)) ∈ WD := wdT4 149 rfl rfl
theorem wd890 : (Cond.selects "RestMill$Moduli" ({ cls := "RestMill$Moduli", name := "hasCommonWith", desc := "(I)Z" } : MethodName) ({ cls := "RestMill$Moduli", name := "hasCommonWith", desc := "(I)Z" } : MethodName)) ∈ WD := wdT4 150 rfl rfl
theorem wd891 : (Cond.code ({ cls := "RestMill$Moduli", name := "hasCommonWith", desc := "(I)Z" } : MethodName) prog_4_method_10_code (3 : Nat) (Option.some ClassFile.FieldType.boolean)) ∈ WD := wdT4 151 rfl rfl
theorem wd893 : (Cond.static ({ cls := "RestMill", name := "greatestDivisor", desc := "(II)I" } : MethodName)) ∈ WD := wdT4 153 rfl rfl
theorem wd894 : (Cond.code ({ cls := "RestMill", name := "greatestDivisor", desc := "(II)I" } : MethodName) prog_1_method_62_code (6 : Nat) (Option.some ClassFile.FieldType.int)) ∈ WD := wdT4 154 rfl rfl
theorem wd895 : (Cond.methodLink "RestMill$SetupReader" (53 : Nat) ({ cls := "RestMill$Tokens", name := "fail", desc := "(I)Z" } : MethodName)) ∈ WD := wdT4 155 rfl rfl
theorem wd896 : (Cond.methodLink "RestMill$SetupReader" (59 : Nat) ({ cls := "RestMill$Moduli", name := "insert", desc := "(I)V" } : MethodName)) ∈ WD := wdT4 156 rfl rfl
theorem wd897 : (Cond.methodLink "RestMill$SetupReader" (65 : Nat) ({ cls := "RestMill$Tokens", name := "move", desc := "()V" } : MethodName)) ∈ WD := wdT4 157 rfl rfl
theorem wd898 : (Cond.methodLink "RestMill$SetupReader" (31 : Nat) ({ cls := "RestMill$SetupReader", name := "readChecks", desc := "(LRestMill$Moduli;)Z" } : MethodName)) ∈ WD := wdT4 158 rfl rfl
theorem wd900 : (Cond.instanceMethod ({ cls := "RestMill$SetupReader", name := "readChecks", desc := "(LRestMill$Moduli;)Z" } : MethodName)) ∈ WD := wdT4 160 rfl rfl
theorem wd901 : (Cond.code ({ cls := "RestMill$SetupReader", name := "readChecks", desc := "(LRestMill$Moduli;)Z" } : MethodName) prog_7_method_5_code (3 : Nat) (Option.some ClassFile.FieldType.boolean)) ∈ WD := wdT4 161 rfl rfl
theorem wd902 : (Cond.methodLink "RestMill$SetupReader" (78 : Nat) ({ cls := "java/lang/Math", name := "min", desc := "(II)I" } : MethodName)) ∈ WD := wdT4 162 rfl rfl
theorem wd903 : (Cond.methodLink "RestMill$SetupReader" (84 : Nat) ({ cls := "RestMill$Tokens", name := "takeUpTo", desc := "(J)Z" } : MethodName)) ∈ WD := wdT4 163 rfl rfl
theorem wd904 : (Cond.instanceMethod ({ cls := "RestMill$Tokens", name := "takeUpTo", desc := "(J)Z" } : MethodName)) ∈ WD := wdT4 164 rfl rfl
theorem wd905 : (Cond.selects "RestMill$Tokens" ({ cls := "RestMill$Tokens", name := "takeUpTo", desc := "(J)Z" } : MethodName) ({ cls := "RestMill$Tokens", name := "takeUpTo", desc := "(J)Z" } : MethodName)) ∈ WD := wdT4 165 rfl rfl
theorem wd906 : (Cond.code ({ cls := "RestMill$Tokens", name := "takeUpTo", desc := "(J)Z" } : MethodName) prog_8_method_7_code (3 : Nat) (Option.some ClassFile.FieldType.boolean)) ∈ WD := wdT4 166 rfl rfl
theorem wd907 : (Cond.methodLink "RestMill$Tokens" (53 : Nat) ({ cls := "RestMill$Tokens", name := "amount", desc := "()I" } : MethodName)) ∈ WD := wdT4 167 rfl rfl
theorem wd908 : (Cond.methodLink "RestMill$SetupReader" (88 : Nat) ({ cls := "RestMill$Moduli", name := "setChecks", desc := "(I)V" } : MethodName)) ∈ WD := wdT4 168 rfl rfl
theorem wd909 : (Cond.methodLink "RestMill$SetupReader" (34 : Nat) ({ cls := "RestMill$SetupReader", name := "readStrict", desc := "(LRestMill$Mill;)Z" } : MethodName)) ∈ WD := wdT4 169 rfl rfl
theorem wd911 : (Cond.instanceMethod ({ cls := "RestMill$SetupReader", name := "readStrict", desc := "(LRestMill$Mill;)Z" } : MethodName)) ∈ WD := wdT4 171 rfl rfl
theorem wd912 : (Cond.code ({ cls := "RestMill$SetupReader", name := "readStrict", desc := "(LRestMill$Mill;)Z" } : MethodName) prog_7_method_6_code (2 : Nat) (Option.some ClassFile.FieldType.boolean)) ∈ WD := wdT4 172 rfl rfl
theorem wd913 : (Cond.methodLink "RestMill$SetupReader" (38 : Nat) ({ cls := "RestMill$SetupReader", name := "readSets", desc := "(LRestMill$Mill;)Z" } : MethodName)) ∈ WD := wdT4 173 rfl rfl
theorem wd915 : (Cond.instanceMethod ({ cls := "RestMill$SetupReader", name := "readSets", desc := "(LRestMill$Mill;)Z" } : MethodName)) ∈ WD := wdT4 175 rfl rfl
theorem wd916 : (Cond.code ({ cls := "RestMill$SetupReader", name := "readSets", desc := "(LRestMill$Mill;)Z" } : MethodName) prog_7_method_7_code (5 : Nat) (Option.some ClassFile.FieldType.boolean)) ∈ WD := wdT4 176 rfl rfl
theorem wd917 : (Cond.methodLink "RestMill$SetupReader" (94 : Nat) ({ cls := "RestMill$SetupReader", name := "readSet", desc := "(LRestMill$Mill;)Z" } : MethodName)) ∈ WD := wdT4 177 rfl rfl
theorem wd919 : (Cond.instanceMethod ({ cls := "RestMill$SetupReader", name := "readSet", desc := "(LRestMill$Mill;)Z" } : MethodName)) ∈ WD := wdT4 179 rfl rfl
theorem wd920 : (Cond.code ({ cls := "RestMill$SetupReader", name := "readSet", desc := "(LRestMill$Mill;)Z" } : MethodName) prog_7_method_8_code (5 : Nat) (Option.some ClassFile.FieldType.boolean)) ∈ WD := wdT4 180 rfl rfl
theorem wd921 : (Cond.methodLink "RestMill$SetupReader" (97 : Nat) ({ cls := "RestMill$Moduli", name := "half", desc := "()J" } : MethodName)) ∈ WD := wdT4 181 rfl rfl
theorem wd922 : (Cond.methodLink "RestMill$SetupReader" (101 : Nat) ({ cls := "RestMill$Mill", name := "put", desc := "(IJ)V" } : MethodName)) ∈ WD := wdT4 182 rfl rfl
theorem wd923 : (Cond.methodLink "RestMill" (94 : Nat) ({ cls := "RestMill", name := "endText", desc := "(LRestMill$Tokens;)V" } : MethodName)) ∈ WD := wdT4 183 rfl rfl
theorem wd925 : (Cond.instanceMethod ({ cls := "RestMill", name := "endText", desc := "(LRestMill$Tokens;)V" } : MethodName)) ∈ WD := wdT4 185 rfl rfl
theorem wd926 : (Cond.code ({ cls := "RestMill", name := "endText", desc := "(LRestMill$Tokens;)V" } : MethodName) prog_1_method_50_code (2 : Nat) (Option.none : Option ClassFile.FieldType)) ∈ WD := wdT4 186 rfl rfl
theorem wd1140 : (Cond.code ({ cls := "RestMill", name := "value", desc := "(I)J" } : MethodName) prog_1_method_18_code (2 : Nat) (Option.some ClassFile.FieldType.long)) ∈ WD := wdT5 160 rfl rfl
theorem wd1144 : (Cond.code ({ cls := "RestMill", name := "part", desc := "(II)J" } : MethodName) prog_1_method_16_code (3 : Nat) (Option.some ClassFile.FieldType.long)) ∈ WD := wdT5 164 rfl rfl
theorem wd1145 : (Cond.methodLink "RestMill" (188 : Nat) ({ cls := "RestMill$Mill", name := "partAt", desc := "(II)J" } : MethodName)) ∈ WD := wdT5 165 rfl rfl
theorem wd1149 : (Cond.code ({ cls := "RestMill", name := "weight", desc := "(I)J" } : MethodName) prog_1_method_13_code (2 : Nat) (Option.some ClassFile.FieldType.long)) ∈ WD := wdT5 169 rfl rfl
theorem wd1150 : (Cond.methodLink "RestMill" (174 : Nat) ({ cls := "RestMill$Moduli", name := "weightAt", desc := "(I)J" } : MethodName)) ∈ WD := wdT5 170 rfl rfl
theorem wd1154 : (Cond.code ({ cls := "RestMill", name := "digit", desc := "(II)I" } : MethodName) prog_1_method_15_code (3 : Nat) (Option.some ClassFile.FieldType.int)) ∈ WD := wdT5 174 rfl rfl
theorem wd1155 : (Cond.methodLink "RestMill" (185 : Nat) ({ cls := "RestMill$Mill", name := "digitAt", desc := "(II)I" } : MethodName)) ∈ WD := wdT5 175 rfl rfl
theorem wd1159 : (Cond.code ({ cls := "RestMill", name := "rank", desc := "(I)I" } : MethodName) prog_1_method_17_code (2 : Nat) (Option.some ClassFile.FieldType.int)) ∈ WD := wdT5 179 rfl rfl
theorem wd1160 : (Cond.methodLink "RestMill" (195 : Nat) ({ cls := "RestMill", name := "floorQuotient", desc := "(JJ)J" } : MethodName)) ∈ WD := wdT5 180 rfl rfl
theorem wd1167 : (Cond.code ({ cls := "RestMill", name := "why", desc := "(III)I" } : MethodName) prog_1_method_26_code (11 : Nat) (Option.some ClassFile.FieldType.int)) ∈ WD := wdT5 187 rfl rfl
theorem wd1168 : (Cond.methodLink "RestMill" (227 : Nat) ({ cls := "RestMill", name := "needOperation", desc := "(I)V" } : MethodName)) ∈ WD := wdT5 188 rfl rfl
theorem wd1170 : (Cond.instanceMethod ({ cls := "RestMill", name := "needOperation", desc := "(I)V" } : MethodName)) ∈ WD := wdT5 190 rfl rfl
theorem wd1171 : (Cond.code ({ cls := "RestMill", name := "needOperation", desc := "(I)V" } : MethodName) prog_1_method_54_code (2 : Nat) (Option.none : Option ClassFile.FieldType)) ∈ WD := wdT5 191 rfl rfl
theorem wd1172 : (Cond.methodLink "RestMill" (240 : Nat) ({ cls := "RestMill$Mill", name := "reasonOf", desc := "(IJJ)I" } : MethodName)) ∈ WD := wdT5 192 rfl rfl
theorem wd1173 : (Cond.instanceMethod ({ cls := "RestMill$Mill", name := "reasonOf", desc := "(IJJ)I" } : MethodName)) ∈ WD := wdT5 193 rfl rfl
theorem wd1174 : (Cond.selects "RestMill$Mill" ({ cls := "RestMill$Mill", name := "reasonOf", desc := "(IJJ)I" } : MethodName) ({ cls := "RestMill$Mill", name := "reasonOf", desc := "(IJJ)I" } : MethodName)) ∈ WD := wdT5 194 rfl rfl
theorem wd1175 : (Cond.code ({ cls := "RestMill$Mill", name := "reasonOf", desc := "(IJJ)I" } : MethodName) prog_3_method_27_code (6 : Nat) (Option.some ClassFile.FieldType.int)) ∈ WD := wdT5 195 rfl rfl
theorem wd1177 : (Cond.static ({ cls := "RestMill", name := "divides", desc := "(I)Z" } : MethodName)) ∈ WD := wdT5 197 rfl rfl
theorem wd1178 : (Cond.code ({ cls := "RestMill", name := "divides", desc := "(I)Z" } : MethodName) prog_1_method_55_code (1 : Nat) (Option.some ClassFile.FieldType.boolean)) ∈ WD := wdT5 198 rfl rfl
theorem wd1180 : (Cond.static ({ cls := "RestMill", name := "exactOf", desc := "(IJJ)J" } : MethodName)) ∈ WD := wdT5 200 rfl rfl
theorem wd1181 : (Cond.code ({ cls := "RestMill", name := "exactOf", desc := "(IJJ)J" } : MethodName) prog_1_method_59_code (5 : Nat) (Option.some ClassFile.FieldType.long)) ∈ WD := wdT5 201 rfl rfl
theorem wd1182 : (Cond.methodLink "RestMill$Mill" (135 : Nat) ({ cls := "RestMill$Mill", name := "refusesResult", desc := "(J)Z" } : MethodName)) ∈ WD := wdT5 202 rfl rfl
theorem wd1184 : (Cond.instanceMethod ({ cls := "RestMill$Mill", name := "refusesResult", desc := "(J)Z" } : MethodName)) ∈ WD := wdT5 204 rfl rfl
theorem wd1185 : (Cond.code ({ cls := "RestMill$Mill", name := "refusesResult", desc := "(J)Z" } : MethodName) prog_3_method_26_code (3 : Nat) (Option.some ClassFile.FieldType.boolean)) ∈ WD := wdT5 205 rfl rfl
theorem wd1186 : (Cond.methodLink "RestMill" (236 : Nat) ({ cls := "RestMill", name := "exactOf", desc := "(IJJ)J" } : MethodName)) ∈ WD := wdT5 206 rfl rfl
theorem wd1187 : (Cond.methodLink "RestMill" (244 : Nat) ({ cls := "RestMill", name := "numberIn", desc := "(JJ)J" } : MethodName)) ∈ WD := wdT5 207 rfl rfl
theorem wd1191 : (Cond.code ({ cls := "RestMill", name := "exact", desc := "(III)J" } : MethodName) prog_1_method_25_code (4 : Nat) (Option.some ClassFile.FieldType.long)) ∈ WD := wdT5 211 rfl rfl
theorem wd1192 : (Cond.methodLink "RestMill" (230 : Nat) ({ cls := "RestMill", name := "divides", desc := "(I)Z" } : MethodName)) ∈ WD := wdT5 212 rfl rfl
theorem wd1193 : (Cond.classLink "RestMill" (233 : Nat) "java/lang/IllegalStateException") ∈ WD := wdT5 213 rfl rfl
theorem wd1194 : (Cond.instantiable "java/lang/IllegalStateException" (6 : Nat)) ∈ WD := wdT5 214 rfl rfl
theorem wd1196 : (Cond.selects "java/lang/IllegalStateException" ({ cls := "java/lang/Throwable", name := "fillInStackTrace", desc := "(I)Ljava/lang/Throwable;" } : MethodName) ({ cls := "java/lang/Throwable", name := "fillInStackTrace", desc := "(I)Ljava/lang/Throwable;" } : MethodName)) ∈ WD := wdT5 216 rfl rfl
theorem wd1197 : (Cond.lays "java/lang/IllegalStateException" "java/lang/Throwable" "cause" "Ljava/lang/Throwable;") ∈ WD := wdT5 217 rfl rfl
theorem wd1198 : (Cond.lays "java/lang/IllegalStateException" "java/lang/Throwable" "stackTrace" "[Ljava/lang/StackTraceElement;") ∈ WD := wdT5 218 rfl rfl
theorem wd1199 : (Cond.lays "java/lang/IllegalStateException" "java/lang/Throwable" "suppressedExceptions" "Ljava/util/List;") ∈ WD := wdT5 219 rfl rfl
theorem wd1200 : (Cond.lays "java/lang/IllegalStateException" "java/lang/Throwable" "detailMessage" "Ljava/lang/String;") ∈ WD := wdT5 220 rfl rfl
theorem wd1201 : (Cond.lays "java/lang/IllegalStateException" "java/lang/Throwable" "backtrace" "Ljava/lang/Object;") ∈ WD := wdT5 221 rfl rfl
theorem wd1202 : (Cond.methodLink "RestMill" (235 : Nat) ({ cls := "java/lang/IllegalStateException", name := "<init>", desc := "()V" } : MethodName)) ∈ WD := wdT5 222 rfl rfl
theorem wd1203 : (Cond.instanceMethod ({ cls := "java/lang/IllegalStateException", name := "<init>", desc := "()V" } : MethodName)) ∈ WD := wdT5 223 rfl rfl
theorem wd1204 : (Cond.code ({ cls := "java/lang/IllegalStateException", name := "<init>", desc := "()V" } : MethodName) prog_20_method_1_code (1 : Nat) (Option.none : Option ClassFile.FieldType)) ∈ WD := wdT5 224 rfl rfl
theorem wd1205 : (Cond.methodLink "java/lang/IllegalStateException" (1 : Nat) ({ cls := "java/lang/RuntimeException", name := "<init>", desc := "()V" } : MethodName)) ∈ WD := wdT5 225 rfl rfl
theorem wd1218 : (Cond.code ({ cls := "RestMill", name := "operate", desc := "(IIII)I" } : MethodName) prog_1_method_36_code (5 : Nat) (Option.some ClassFile.FieldType.int)) ∈ WD := wdT5 238 rfl rfl
theorem wd1219 : (Cond.methodLink "RestMill" (281 : Nat) ({ cls := "RestMill$Mill", name := "actOperate", desc := "(IIII)I" } : MethodName)) ∈ WD := wdT5 239 rfl rfl
theorem wd1220 : (Cond.instanceMethod ({ cls := "RestMill$Mill", name := "actOperate", desc := "(IIII)I" } : MethodName)) ∈ WD := wdT6 0 rfl rfl
theorem wd1221 : (Cond.selects "RestMill$Mill" ({ cls := "RestMill$Mill", name := "actOperate", desc := "(IIII)I" } : MethodName) ({ cls := "RestMill$Mill", name := "actOperate", desc := "(IIII)I" } : MethodName)) ∈ WD := wdT6 1 rfl rfl
theorem wd1222 : (Cond.code ({ cls := "RestMill$Mill", name := "actOperate", desc := "(IIII)I" } : MethodName) prog_3_method_30_code (10 : Nat) (Option.some ClassFile.FieldType.int)) ∈ WD := wdT6 2 rfl rfl
theorem wd1223 : (Cond.methodLink "RestMill$Mill" (145 : Nat) ({ cls := "RestMill$Mill", name := "reasonOf", desc := "(IJJ)I" } : MethodName)) ∈ WD := wdT6 3 rfl rfl
theorem wd1231 : (Cond.code ({ cls := "RestMill", name := "scale", desc := "(II)I" } : MethodName) prog_1_method_37_code (3 : Nat) (Option.some ClassFile.FieldType.int)) ∈ WD := wdT6 11 rfl rfl
theorem wd1232 : (Cond.methodLink "RestMill" (285 : Nat) ({ cls := "RestMill$Mill", name := "actScale", desc := "(II)I" } : MethodName)) ∈ WD := wdT6 12 rfl rfl
theorem wd1233 : (Cond.instanceMethod ({ cls := "RestMill$Mill", name := "actScale", desc := "(II)I" } : MethodName)) ∈ WD := wdT6 13 rfl rfl
theorem wd1234 : (Cond.selects "RestMill$Mill" ({ cls := "RestMill$Mill", name := "actScale", desc := "(II)I" } : MethodName) ({ cls := "RestMill$Mill", name := "actScale", desc := "(II)I" } : MethodName)) ∈ WD := wdT6 14 rfl rfl
theorem wd1235 : (Cond.code ({ cls := "RestMill$Mill", name := "actScale", desc := "(II)I" } : MethodName) prog_3_method_31_code (5 : Nat) (Option.some ClassFile.FieldType.int)) ∈ WD := wdT6 15 rfl rfl
theorem wd1246 : (Cond.code ({ cls := "RestMill", name := "nextModulus", desc := "()I" } : MethodName) prog_1_method_29_code (2 : Nat) (Option.some ClassFile.FieldType.int)) ∈ WD := wdT6 26 rfl rfl
theorem wd1247 : (Cond.methodLink "RestMill" (258 : Nat) ({ cls := "RestMill$Moduli", name := "canTake", desc := "(I)Z" } : MethodName)) ∈ WD := wdT6 27 rfl rfl
theorem wd1248 : (Cond.instanceMethod ({ cls := "RestMill$Moduli", name := "canTake", desc := "(I)Z" } : MethodName)) ∈ WD := wdT6 28 rfl rfl
theorem wd1249 : (Cond.selects "RestMill$Moduli" ({ cls := "RestMill$Moduli", name := "canTake", desc := "(I)Z" } : MethodName) ({ cls := "RestMill$Moduli", name := "canTake", desc := "(I)Z" } : MethodName)) ∈ WD := wdT6 29 rfl rfl
theorem wd1250 : (Cond.code ({ cls := "RestMill$Moduli", name := "canTake", desc := "(I)Z" } : MethodName) prog_4_method_11_code (2 : Nat) (Option.some ClassFile.FieldType.boolean)) ∈ WD := wdT6 30 rfl rfl
theorem wd1251 : (Cond.methodLink "RestMill$Moduli" (59 : Nat) ({ cls := "RestMill$Moduli", name := "tooGreatWith", desc := "(I)Z" } : MethodName)) ∈ WD := wdT6 31 rfl rfl
theorem wd1252 : (Cond.methodLink "RestMill$Moduli" (63 : Nat) ({ cls := "RestMill$Moduli", name := "hasCommonWith", desc := "(I)Z" } : MethodName)) ∈ WD := wdT6 32 rfl rfl
theorem wd1256 : (Cond.code ({ cls := "RestMill", name := "grow", desc := "(I)I" } : MethodName) prog_1_method_40_code (2 : Nat) (Option.some ClassFile.FieldType.int)) ∈ WD := wdT6 36 rfl rfl
theorem wd1257 : (Cond.methodLink "RestMill" (294 : Nat) ({ cls := "RestMill$Mill", name := "actGrow", desc := "(I)I" } : MethodName)) ∈ WD := wdT6 37 rfl rfl
theorem wd1258 : (Cond.instanceMethod ({ cls := "RestMill$Mill", name := "actGrow", desc := "(I)I" } : MethodName)) ∈ WD := wdT6 38 rfl rfl
theorem wd1259 : (Cond.selects "RestMill$Mill" ({ cls := "RestMill$Mill", name := "actGrow", desc := "(I)I" } : MethodName) ({ cls := "RestMill$Mill", name := "actGrow", desc := "(I)I" } : MethodName)) ∈ WD := wdT6 39 rfl rfl
theorem wd1260 : (Cond.code ({ cls := "RestMill$Mill", name := "actGrow", desc := "(I)I" } : MethodName) prog_3_method_33_code (2 : Nat) (Option.some ClassFile.FieldType.int)) ∈ WD := wdT6 40 rfl rfl
theorem wd1261 : (Cond.methodLink "RestMill$Mill" (153 : Nat) ({ cls := "RestMill$Moduli", name := "canTake", desc := "(I)Z" } : MethodName)) ∈ WD := wdT6 41 rfl rfl
theorem wd1262 : (Cond.methodLink "RestMill$Mill" (156 : Nat) ({ cls := "RestMill$Moduli", name := "insert", desc := "(I)V" } : MethodName)) ∈ WD := wdT6 42 rfl rfl
theorem wd1266 : (Cond.code ({ cls := "RestMill", name := "spare", desc := "()I" } : MethodName) prog_1_method_30_code (3 : Nat) (Option.some ClassFile.FieldType.int)) ∈ WD := wdT6 46 rfl rfl
theorem wd1267 : (Cond.methodLink "RestMill" (261 : Nat) ({ cls := "RestMill$Mill", name := "canDrop", desc := "(I)Z" } : MethodName)) ∈ WD := wdT6 47 rfl rfl
theorem wd1268 : (Cond.instanceMethod ({ cls := "RestMill$Mill", name := "canDrop", desc := "(I)Z" } : MethodName)) ∈ WD := wdT6 48 rfl rfl
theorem wd1269 : (Cond.selects "RestMill$Mill" ({ cls := "RestMill$Mill", name := "canDrop", desc := "(I)Z" } : MethodName) ({ cls := "RestMill$Mill", name := "canDrop", desc := "(I)Z" } : MethodName)) ∈ WD := wdT6 49 rfl rfl
theorem wd1270 : (Cond.code ({ cls := "RestMill$Mill", name := "canDrop", desc := "(I)Z" } : MethodName) prog_3_method_25_code (3 : Nat) (Option.some ClassFile.FieldType.boolean)) ∈ WD := wdT6 50 rfl rfl
theorem wd1271 : (Cond.methodLink "RestMill$Mill" (120 : Nat) ({ cls := "RestMill$Moduli", name := "bases", desc := "()I" } : MethodName)) ∈ WD := wdT6 51 rfl rfl
theorem wd1272 : (Cond.methodLink "RestMill$Mill" (124 : Nat) ({ cls := "RestMill$Moduli", name := "tellWithout", desc := "(IJ)Z" } : MethodName)) ∈ WD := wdT6 52 rfl rfl
theorem wd1273 : (Cond.instanceMethod ({ cls := "RestMill$Moduli", name := "tellWithout", desc := "(IJ)Z" } : MethodName)) ∈ WD := wdT6 53 rfl rfl
theorem wd1274 : (Cond.selects "RestMill$Moduli" ({ cls := "RestMill$Moduli", name := "tellWithout", desc := "(IJ)Z" } : MethodName) ({ cls := "RestMill$Moduli", name := "tellWithout", desc := "(IJ)Z" } : MethodName)) ∈ WD := wdT6 54 rfl rfl
theorem wd1275 : (Cond.code ({ cls := "RestMill$Moduli", name := "tellWithout", desc := "(IJ)Z" } : MethodName) prog_4_method_16_code (4 : Nat) (Option.some ClassFile.FieldType.boolean)) ∈ WD := wdT6 55 rfl rfl
theorem wd1280 : (Cond.code ({ cls := "RestMill", name := "drop", desc := "(I)I" } : MethodName) prog_1_method_41_code (2 : Nat) (Option.some ClassFile.FieldType.int)) ∈ WD := wdT6 60 rfl rfl
theorem wd1281 : (Cond.methodLink "RestMill" (297 : Nat) ({ cls := "RestMill$Mill", name := "actDrop", desc := "(I)I" } : MethodName)) ∈ WD := wdT6 61 rfl rfl
theorem wd1282 : (Cond.instanceMethod ({ cls := "RestMill$Mill", name := "actDrop", desc := "(I)I" } : MethodName)) ∈ WD := wdT6 62 rfl rfl
theorem wd1283 : (Cond.selects "RestMill$Mill" ({ cls := "RestMill$Mill", name := "actDrop", desc := "(I)I" } : MethodName) ({ cls := "RestMill$Mill", name := "actDrop", desc := "(I)I" } : MethodName)) ∈ WD := wdT6 63 rfl rfl
theorem wd1284 : (Cond.code ({ cls := "RestMill$Mill", name := "actDrop", desc := "(I)I" } : MethodName) prog_3_method_34_code (2 : Nat) (Option.some ClassFile.FieldType.int)) ∈ WD := wdT6 64 rfl rfl
theorem wd1285 : (Cond.methodLink "RestMill$Mill" (159 : Nat) ({ cls := "RestMill$Mill", name := "canDrop", desc := "(I)Z" } : MethodName)) ∈ WD := wdT6 65 rfl rfl
theorem wd1286 : (Cond.methodLink "RestMill$Mill" (162 : Nat) ({ cls := "RestMill$Moduli", name := "remove", desc := "(I)V" } : MethodName)) ∈ WD := wdT6 66 rfl rfl
theorem wd1287 : (Cond.instanceMethod ({ cls := "RestMill$Moduli", name := "remove", desc := "(I)V" } : MethodName)) ∈ WD := wdT6 67 rfl rfl
theorem wd1288 : (Cond.selects "RestMill$Moduli" ({ cls := "RestMill$Moduli", name := "remove", desc := "(I)V" } : MethodName) ({ cls := "RestMill$Moduli", name := "remove", desc := "(I)V" } : MethodName)) ∈ WD := wdT6 68 rfl rfl
theorem wd1289 : (Cond.code ({ cls := "RestMill$Moduli", name := "remove", desc := "(I)V" } : MethodName) prog_4_method_13_code (3 : Nat) (Option.none : Option ClassFile.FieldType)) ∈ WD := wdT6 69 rfl rfl
theorem am {P : Cond → Prop} {a : Cond} {l : List Cond} (h : P a) (r : ∀ w ∈ l, P w) : ∀ w ∈ a :: l, P w := List.forall_mem_cons.mpr ⟨h, r⟩
theorem thr_IllegalArgumentException : ∀ w ∈ Cond.classLink "RestMill" 147 "java/lang/IllegalArgumentException" :: Cond.initialized "java/lang/IllegalArgumentException" :: vx_at0 "RestMill" 149 "java/lang/IllegalArgumentException" up2, w ∈ WD ∨ w ∈ xtra := by
  refine am (Or.inl wd354) (am (Or.inl wd46) (fun w hw => ?_))
  have h : ∀ w ∈ Bundle.ownAtoms0 "RestMill" 149 "java/lang/IllegalArgumentException" up2, vx_no w = true → (w ∈ WD ∨ w ∈ xtra) := by
    refine am (fun _ => Or.inl wd43) ?_
    refine am (fun _ => Or.inl wd376) ?_
    refine am (fun _ => Or.inl wd385) ?_
    refine am (fun _ => Or.inl wd390) ?_
    refine am (fun _ => Or.inl wd393) ?_
    refine am (fun _ => Or.inl wd395) ?_
    refine am (fun _ => Or.inl wd377) ?_
    refine am (fun _ => Or.inl wd378) ?_
    refine am (fun _ => Or.inl wd56) ?_
    refine am (fun _ => Or.inl wd57) ?_
    refine am (fun _ => Or.inl wd379) ?_
    refine am (fun _ => Or.inl wd384) ?_
    refine am (fun _ => Or.inl wd391) ?_
    refine am (fun _ => Or.inl wd407) ?_
    refine am (fun _ => Or.inl wd366) ?_
    refine am (fun _ => Or.inl wd408) ?_
    refine am (fun _ => Or.inl wd368) ?_
    refine am (fun _ => Or.inl wd409) ?_
    refine am (fun _ => Or.inl wd370) ?_
    refine am (fun _ => Or.inl wd380) ?_
    refine am (fun h => absurd h (by decide +kernel)) ?_
    refine am (fun _ => Or.inl wd382) ?_
    refine am (fun h => absurd h (by decide +kernel)) ?_
    refine am (fun _ => Or.inl wd372) ?_
    refine am (fun _ => Or.inl wd397) ?_
    refine am (fun _ => Or.inl wd398) ?_
    refine am (fun _ => Or.inl wd399) ?_
    refine am (fun _ => Or.inl wd400) ?_
    refine am (fun _ => Or.inr (List.mem_of_getElem? (i := 4) rfl)) ?_
    refine am (fun _ => Or.inl wd400) ?_
    refine am (fun _ => Or.inl wd401) ?_
    refine am (fun _ => Or.inl wd402) ?_
    refine am (fun _ => Or.inl wd403) ?_
    refine am (fun _ => Or.inr (List.mem_of_getElem? (i := 5) rfl)) ?_
    refine am (fun _ => Or.inl wd403) ?_
    refine am (fun _ => Or.inl wd404) ?_
    refine am (fun _ => Or.inl wd405) ?_
    refine am (fun _ => Or.inl wd377) ?_
    refine am (fun _ => Or.inr (List.mem_of_getElem? (i := 6) rfl)) ?_
    refine am (fun _ => Or.inl wd396) ?_
    refine am (fun _ => Or.inl wd355) ?_
    refine am (fun _ => Or.inr (List.mem_of_getElem? (i := 0) rfl)) ?_
    refine am (fun _ => Or.inl wd363) ?_
    refine am (fun _ => Or.inl wd364) ?_
    refine am (fun _ => Or.inl wd365) ?_
    refine am (fun _ => Or.inl wd367) ?_
    refine am (fun _ => Or.inl wd369) ?_
    refine am (fun _ => Or.inl wd371) ?_
    refine am (fun h => absurd h (by decide +kernel)) ?_
    refine am (fun h => absurd h (by decide +kernel)) ?_
    refine am (fun _ => Or.inl wd375) ?_
    refine am (fun _ => Or.inl wd374) ?_
    refine am (fun _ => Or.inl wd373) ?_
    exact fun w hw => nomatch hw
  obtain ⟨h1, h2⟩ := List.mem_filter.mp hw
  exact h w h1 h2
theorem thr_IndexOutOfBoundsException : ∀ w ∈ Cond.classLink "RestMill" 339 "java/lang/IndexOutOfBoundsException" :: Cond.initialized "java/lang/IndexOutOfBoundsException" :: vx_at0 "RestMill" 341 "java/lang/IndexOutOfBoundsException" up2, w ∈ WD ∨ w ∈ xtra := by
  refine am (Or.inl wd439) (am (Or.inl wd47) (fun w hw => ?_))
  have h : ∀ w ∈ Bundle.ownAtoms0 "RestMill" 341 "java/lang/IndexOutOfBoundsException" up2, vx_no w = true → (w ∈ WD ∨ w ∈ xtra) := by
    refine am (fun _ => Or.inl wd43) ?_
    refine am (fun _ => Or.inl wd376) ?_
    refine am (fun _ => Or.inl wd385) ?_
    refine am (fun _ => Or.inl wd390) ?_
    refine am (fun _ => Or.inl wd393) ?_
    refine am (fun _ => Or.inl wd395) ?_
    refine am (fun _ => Or.inl wd377) ?_
    refine am (fun _ => Or.inl wd378) ?_
    refine am (fun _ => Or.inl wd56) ?_
    refine am (fun _ => Or.inl wd57) ?_
    refine am (fun _ => Or.inl wd379) ?_
    refine am (fun _ => Or.inl wd384) ?_
    refine am (fun _ => Or.inl wd391) ?_
    refine am (fun _ => Or.inl wd407) ?_
    refine am (fun _ => Or.inl wd366) ?_
    refine am (fun _ => Or.inl wd408) ?_
    refine am (fun _ => Or.inl wd368) ?_
    refine am (fun _ => Or.inl wd409) ?_
    refine am (fun _ => Or.inl wd370) ?_
    refine am (fun _ => Or.inl wd380) ?_
    refine am (fun h => absurd h (by decide +kernel)) ?_
    refine am (fun _ => Or.inl wd382) ?_
    refine am (fun h => absurd h (by decide +kernel)) ?_
    refine am (fun _ => Or.inl wd372) ?_
    refine am (fun _ => Or.inl wd449) ?_
    refine am (fun _ => Or.inl wd450) ?_
    refine am (fun _ => Or.inl wd451) ?_
    refine am (fun _ => Or.inl wd400) ?_
    refine am (fun _ => Or.inr (List.mem_of_getElem? (i := 4) rfl)) ?_
    refine am (fun _ => Or.inl wd400) ?_
    refine am (fun _ => Or.inl wd401) ?_
    refine am (fun _ => Or.inl wd402) ?_
    refine am (fun _ => Or.inl wd403) ?_
    refine am (fun _ => Or.inr (List.mem_of_getElem? (i := 5) rfl)) ?_
    refine am (fun _ => Or.inl wd403) ?_
    refine am (fun _ => Or.inl wd404) ?_
    refine am (fun _ => Or.inl wd405) ?_
    refine am (fun _ => Or.inl wd377) ?_
    refine am (fun _ => Or.inr (List.mem_of_getElem? (i := 6) rfl)) ?_
    refine am (fun _ => Or.inl wd448) ?_
    refine am (fun _ => Or.inl wd440) ?_
    refine am (fun _ => Or.inr (List.mem_of_getElem? (i := 1) rfl)) ?_
    refine am (fun _ => Or.inl wd442) ?_
    refine am (fun _ => Or.inl wd388) ?_
    refine am (fun _ => Or.inl wd443) ?_
    refine am (fun _ => Or.inl wd444) ?_
    refine am (fun _ => Or.inl wd445) ?_
    refine am (fun _ => Or.inl wd446) ?_
    refine am (fun h => absurd h (by decide +kernel)) ?_
    refine am (fun h => absurd h (by decide +kernel)) ?_
    refine am (fun _ => Or.inl wd375) ?_
    refine am (fun _ => Or.inl wd374) ?_
    refine am (fun _ => Or.inl wd447) ?_
    exact fun w hw => nomatch hw
  obtain ⟨h1, h2⟩ := List.mem_filter.mp hw
  exact h w h1 h2
theorem thr_NoSuchElementException : ∀ w ∈ Cond.classLink "RestMill" 300 "java/util/NoSuchElementException" :: Cond.initialized "java/util/NoSuchElementException" :: vx_at0 "RestMill" 302 "java/util/NoSuchElementException" up2, w ∈ WD ∨ w ∈ xtra := by
  refine am (Or.inl wd638) (am (Or.inl wd49) (fun w hw => ?_))
  have h : ∀ w ∈ Bundle.ownAtoms0 "RestMill" 302 "java/util/NoSuchElementException" up2, vx_no w = true → (w ∈ WD ∨ w ∈ xtra) := by
    refine am (fun _ => Or.inl wd43) ?_
    refine am (fun _ => Or.inl wd376) ?_
    refine am (fun _ => Or.inl wd385) ?_
    refine am (fun _ => Or.inl wd390) ?_
    refine am (fun _ => Or.inl wd393) ?_
    refine am (fun _ => Or.inl wd395) ?_
    refine am (fun _ => Or.inl wd377) ?_
    refine am (fun _ => Or.inl wd378) ?_
    refine am (fun _ => Or.inl wd56) ?_
    refine am (fun _ => Or.inl wd57) ?_
    refine am (fun _ => Or.inl wd379) ?_
    refine am (fun _ => Or.inl wd384) ?_
    refine am (fun _ => Or.inl wd391) ?_
    refine am (fun _ => Or.inl wd407) ?_
    refine am (fun _ => Or.inl wd366) ?_
    refine am (fun _ => Or.inl wd408) ?_
    refine am (fun _ => Or.inl wd368) ?_
    refine am (fun _ => Or.inl wd409) ?_
    refine am (fun _ => Or.inl wd370) ?_
    refine am (fun _ => Or.inl wd380) ?_
    refine am (fun h => absurd h (by decide +kernel)) ?_
    refine am (fun _ => Or.inl wd382) ?_
    refine am (fun h => absurd h (by decide +kernel)) ?_
    refine am (fun _ => Or.inl wd372) ?_
    refine am (fun _ => Or.inl wd648) ?_
    refine am (fun _ => Or.inl wd649) ?_
    refine am (fun _ => Or.inl wd650) ?_
    refine am (fun _ => Or.inl wd400) ?_
    refine am (fun _ => Or.inr (List.mem_of_getElem? (i := 4) rfl)) ?_
    refine am (fun _ => Or.inl wd400) ?_
    refine am (fun _ => Or.inl wd401) ?_
    refine am (fun _ => Or.inl wd402) ?_
    refine am (fun _ => Or.inl wd403) ?_
    refine am (fun _ => Or.inr (List.mem_of_getElem? (i := 5) rfl)) ?_
    refine am (fun _ => Or.inl wd403) ?_
    refine am (fun _ => Or.inl wd404) ?_
    refine am (fun _ => Or.inl wd405) ?_
    refine am (fun _ => Or.inl wd377) ?_
    refine am (fun _ => Or.inr (List.mem_of_getElem? (i := 6) rfl)) ?_
    refine am (fun _ => Or.inl wd647) ?_
    refine am (fun _ => Or.inl wd639) ?_
    refine am (fun _ => Or.inr (List.mem_of_getElem? (i := 3) rfl)) ?_
    refine am (fun _ => Or.inl wd641) ?_
    refine am (fun _ => Or.inl wd389) ?_
    refine am (fun _ => Or.inl wd642) ?_
    refine am (fun _ => Or.inl wd643) ?_
    refine am (fun _ => Or.inl wd644) ?_
    refine am (fun _ => Or.inl wd645) ?_
    refine am (fun h => absurd h (by decide +kernel)) ?_
    refine am (fun h => absurd h (by decide +kernel)) ?_
    refine am (fun _ => Or.inl wd375) ?_
    refine am (fun _ => Or.inl wd374) ?_
    refine am (fun _ => Or.inl wd646) ?_
    exact fun w hw => nomatch hw
  obtain ⟨h1, h2⟩ := List.mem_filter.mp hw
  exact h w h1 h2
theorem thr_IllegalStateException : ∀ w ∈ Cond.classLink "RestMill" 233 "java/lang/IllegalStateException" :: Cond.initialized "java/lang/IllegalStateException" :: vx_at0 "RestMill" 235 "java/lang/IllegalStateException" up2, w ∈ WD ∨ w ∈ xtra := by
  refine am (Or.inl wd1193) (am (Or.inl wd48) (fun w hw => ?_))
  have h : ∀ w ∈ Bundle.ownAtoms0 "RestMill" 235 "java/lang/IllegalStateException" up2, vx_no w = true → (w ∈ WD ∨ w ∈ xtra) := by
    refine am (fun _ => Or.inl wd43) ?_
    refine am (fun _ => Or.inl wd376) ?_
    refine am (fun _ => Or.inl wd385) ?_
    refine am (fun _ => Or.inl wd390) ?_
    refine am (fun _ => Or.inl wd393) ?_
    refine am (fun _ => Or.inl wd395) ?_
    refine am (fun _ => Or.inl wd377) ?_
    refine am (fun _ => Or.inl wd378) ?_
    refine am (fun _ => Or.inl wd56) ?_
    refine am (fun _ => Or.inl wd57) ?_
    refine am (fun _ => Or.inl wd379) ?_
    refine am (fun _ => Or.inl wd384) ?_
    refine am (fun _ => Or.inl wd391) ?_
    refine am (fun _ => Or.inl wd407) ?_
    refine am (fun _ => Or.inl wd366) ?_
    refine am (fun _ => Or.inl wd408) ?_
    refine am (fun _ => Or.inl wd368) ?_
    refine am (fun _ => Or.inl wd409) ?_
    refine am (fun _ => Or.inl wd370) ?_
    refine am (fun _ => Or.inl wd380) ?_
    refine am (fun h => absurd h (by decide +kernel)) ?_
    refine am (fun _ => Or.inl wd382) ?_
    refine am (fun h => absurd h (by decide +kernel)) ?_
    refine am (fun _ => Or.inl wd372) ?_
    refine am (fun _ => Or.inl wd1203) ?_
    refine am (fun _ => Or.inl wd1204) ?_
    refine am (fun _ => Or.inl wd1205) ?_
    refine am (fun _ => Or.inl wd400) ?_
    refine am (fun _ => Or.inr (List.mem_of_getElem? (i := 4) rfl)) ?_
    refine am (fun _ => Or.inl wd400) ?_
    refine am (fun _ => Or.inl wd401) ?_
    refine am (fun _ => Or.inl wd402) ?_
    refine am (fun _ => Or.inl wd403) ?_
    refine am (fun _ => Or.inr (List.mem_of_getElem? (i := 5) rfl)) ?_
    refine am (fun _ => Or.inl wd403) ?_
    refine am (fun _ => Or.inl wd404) ?_
    refine am (fun _ => Or.inl wd405) ?_
    refine am (fun _ => Or.inl wd377) ?_
    refine am (fun _ => Or.inr (List.mem_of_getElem? (i := 6) rfl)) ?_
    refine am (fun _ => Or.inl wd1202) ?_
    refine am (fun _ => Or.inl wd1194) ?_
    refine am (fun _ => Or.inr (List.mem_of_getElem? (i := 2) rfl)) ?_
    refine am (fun _ => Or.inl wd1196) ?_
    refine am (fun _ => Or.inl wd387) ?_
    refine am (fun _ => Or.inl wd1197) ?_
    refine am (fun _ => Or.inl wd1198) ?_
    refine am (fun _ => Or.inl wd1199) ?_
    refine am (fun _ => Or.inl wd1200) ?_
    refine am (fun h => absurd h (by decide +kernel)) ?_
    refine am (fun h => absurd h (by decide +kernel)) ?_
    refine am (fun _ => Or.inl wd375) ?_
    refine am (fun _ => Or.inl wd374) ?_
    refine am (fun _ => Or.inl wd1201) ?_
    exact fun w hw => nomatch hw
  obtain ⟨h1, h2⟩ := List.mem_filter.mp hw
  exact h w h1 h2
def M_jMath_floorDiv : MM := (⟨"java/lang/Math", "floorDiv", "(JJ)J"⟩, prog_24_method_49_code, 6, (some .long))
theorem q_jMath_floorDiv : mOk M_jMath_floorDiv 2 := ⟨wd271, wd33, by decide, by decide, by decide +kernel, by decide, tz_jMath rfl⟩
def M_jMath_floorMod : MM := (⟨"java/lang/Math", "floorMod", "(JJ)J"⟩, prog_24_method_52_code, 6, (some .long))
theorem q_jMath_floorMod : mOk M_jMath_floorMod 2 := ⟨wd280, wd33, by decide, by decide, by decide +kernel, by decide, tz_jMath rfl⟩
def M_jLong_compare : MM := (⟨"java/lang/Long", "compare", "(JJ)I"⟩, prog_23_method_42_code, 4, (some .int))
theorem q_jLong_compare : mOk M_jLong_compare 2 := ⟨wd353, wd42, by decide, by decide, by decide +kernel, by decide, tz_jLong rfl⟩
def M_jMath_abs : MM := (⟨"java/lang/Math", "abs", "(J)J"⟩, prog_24_method_61_code, 2, (some .long))
theorem q_jMath_abs : mOk M_jMath_abs 1 := ⟨wd524, wd33, by decide, by decide, by decide +kernel, by decide, tz_jMath rfl⟩
def M_jMath_min : MM := (⟨"java/lang/Math", "min", "(II)I"⟩, prog_24_method_69_code, 2, (some .int))
theorem q_jMath_min : mOk M_jMath_min 2 := ⟨wd613, wd33, by decide, by decide, by decide +kernel, by decide, tz_jMath rfl⟩
def M_jMath_max : MM := (⟨"java/lang/Math", "max", "(II)I"⟩, prog_24_method_65_code, 2, (some .int))
theorem q_jMath_max : mOk M_jMath_max 2 := ⟨wd796, wd33, by decide, by decide, by decide +kernel, by decide, tz_jMath rfl⟩
def M_jArr_fill_AJJ : MM := (⟨"java/util/Arrays", "fill", "([JJ)V"⟩, prog_35_method_101_code, 5, none)
theorem q_jArr_fill_AJJ : mOk M_jArr_fill_AJJ 2 := ⟨wd850, wd35, by decide, by decide, by decide +kernel, by decide, tz_jArr rfl⟩
def M_jArr_fill_AII : MM := (⟨"java/util/Arrays", "fill", "([II)V"⟩, prog_35_method_103_code, 4, none)
theorem q_jArr_fill_AII : mOk M_jArr_fill_AII 2 := ⟨wd853, wd35, by decide, by decide, by decide +kernel, by decide, tz_jArr rfl⟩
def M_Mo_init : MM := (⟨"RestMill$Moduli", "<init>", "()V"⟩, prog_4_method_1_code, 1, none)
theorem q_Mo_init : mOk M_Mo_init 0 := ⟨wd68, wd23, by decide, by decide, by decide +kernel, by decide, tz_Mo rfl⟩
def M_Mo_insert : MM := (⟨"RestMill$Moduli", "insert", "(I)V"⟩, prog_4_method_12_code, 4, none)
theorem q_Mo_insert : mOk M_Mo_insert 1 := ⟨wd253, wd23, by decide, by decide, by decide +kernel, by decide, tz_Mo rfl⟩
def M_Mo_bases : MM := (⟨"RestMill$Moduli", "bases", "()I"⟩, prog_4_method_6_code, 1, (some .int))
theorem q_Mo_bases : mOk M_Mo_bases 0 := ⟨wd257, wd23, by decide, by decide, by decide +kernel, by decide, tz_Mo rfl⟩
def M_Mo_measure : MM := (⟨"RestMill$Moduli", "measure", "()V"⟩, prog_4_method_15_code, 4, none)
theorem q_Mo_measure : mOk M_Mo_measure 0 := ⟨wd261, wd23, by decide, by decide, by decide +kernel, by decide, tz_Mo rfl⟩
def M_Mo_at : MM := (⟨"RestMill$Moduli", "at", "(I)I"⟩, prog_4_method_4_code, 2, (some .int))
theorem q_Mo_at : mOk M_Mo_at 1 := ⟨wd265, wd23, by decide, by decide, by decide +kernel, by decide, tz_Mo rfl⟩
def M_Mo_setChecks : MM := (⟨"RestMill$Moduli", "setChecks", "(I)V"⟩, prog_4_method_14_code, 2, none)
theorem q_Mo_setChecks : mOk M_Mo_setChecks 1 := ⟨wd284, wd23, by decide, by decide, by decide +kernel, by decide, tz_Mo rfl⟩
def M_Mo_fits : MM := (⟨"RestMill$Moduli", "fits", "(J)Z"⟩, prog_4_method_8_code, 3, (some .boolean))
theorem q_Mo_fits : mOk M_Mo_fits 1 := ⟨wd341, wd23, by decide, by decide, by decide +kernel, by decide, tz_Mo rfl⟩
def M_Mo_half : MM := (⟨"RestMill$Moduli", "half", "()J"⟩, prog_4_method_7_code, 1, (some .long))
theorem q_Mo_half : mOk M_Mo_half 0 := ⟨wd345, wd23, by decide, by decide, by decide +kernel, by decide, tz_Mo rfl⟩
def M_Mo_weightAt : MM := (⟨"RestMill$Moduli", "weightAt", "(I)J"⟩, prog_4_method_5_code, 2, (some .long))
theorem q_Mo_weightAt : mOk M_Mo_weightAt 1 := ⟨wd511, wd23, by decide, by decide, by decide +kernel, by decide, tz_Mo rfl⟩
def M_Mo_copyFrom : MM := (⟨"RestMill$Moduli", "copyFrom", "(LRestMill$Moduli;)V"⟩, prog_4_method_2_code, 2, none)
theorem q_Mo_copyFrom : mOk M_Mo_copyFrom 1 := ⟨wd574, wd23, by decide, by decide, by decide +kernel, by decide, tz_Mo rfl⟩
def M_Mo_clear : MM := (⟨"RestMill$Moduli", "clear", "()V"⟩, prog_4_method_3_code, 1, none)
theorem q_Mo_clear : mOk M_Mo_clear 0 := ⟨wd847, wd23, by decide, by decide, by decide +kernel, by decide, tz_Mo rfl⟩
def M_Mo_tooGreatWith : MM := (⟨"RestMill$Moduli", "tooGreatWith", "(I)Z"⟩, prog_4_method_9_code, 2, (some .boolean))
theorem q_Mo_tooGreatWith : mOk M_Mo_tooGreatWith 1 := ⟨wd886, wd23, by decide, by decide, by decide +kernel, by decide, tz_Mo rfl⟩
def M_Mo_hasCommonWith : MM := (⟨"RestMill$Moduli", "hasCommonWith", "(I)Z"⟩, prog_4_method_10_code, 3, (some .boolean))
theorem q_Mo_hasCommonWith : mOk M_Mo_hasCommonWith 1 := ⟨wd891, wd23, by decide, by decide, by decide +kernel, by decide, tz_Mo rfl⟩
def M_Mo_canTake : MM := (⟨"RestMill$Moduli", "canTake", "(I)Z"⟩, prog_4_method_11_code, 2, (some .boolean))
theorem q_Mo_canTake : mOk M_Mo_canTake 1 := ⟨wd1250, wd23, by decide, by decide, by decide +kernel, by decide, tz_Mo rfl⟩
def M_Mo_tellWithout : MM := (⟨"RestMill$Moduli", "tellWithout", "(IJ)Z"⟩, prog_4_method_16_code, 4, (some .boolean))
theorem q_Mo_tellWithout : mOk M_Mo_tellWithout 2 := ⟨wd1275, wd23, by decide, by decide, by decide +kernel, by decide, tz_Mo rfl⟩
def M_Mo_remove : MM := (⟨"RestMill$Moduli", "remove", "(I)V"⟩, prog_4_method_13_code, 3, none)
theorem q_Mo_remove : mOk M_Mo_remove 1 := ⟨wd1289, wd23, by decide, by decide, by decide +kernel, by decide, tz_Mo rfl⟩
def M_Ml_init : MM := (⟨"RestMill$Mill", "<init>", "()V"⟩, prog_3_method_1_code, 1, none)
theorem q_Ml_init : mOk M_Ml_init 0 := ⟨wd62, wd22, by decide, by decide, by decide +kernel, by decide, tz_Ml rfl⟩
def M_Ml_soundRegisters : MM := (⟨"RestMill$Mill", "soundRegisters", "()I"⟩, prog_3_method_18_code, 3, (some .int))
theorem q_Ml_soundRegisters : mOk M_Ml_soundRegisters 0 := ⟨wd329, wd22, by decide, by decide, by decide +kernel, by decide, tz_Ml rfl⟩
def M_Ml_soundAt : MM := (⟨"RestMill$Mill", "soundAt", "(I)Z"⟩, prog_3_method_12_code, 2, (some .boolean))
theorem q_Ml_soundAt : mOk M_Ml_soundAt 1 := ⟨wd333, wd22, by decide, by decide, by decide +kernel, by decide, tz_Ml rfl⟩
def M_Ml_numberAt : MM := (⟨"RestMill$Mill", "numberAt", "(I)J"⟩, prog_3_method_7_code, 2, (some .long))
theorem q_Ml_numberAt : mOk M_Ml_numberAt 1 := ⟨wd337, wd22, by decide, by decide, by decide +kernel, by decide, tz_Ml rfl⟩
def M_Ml_registersWithSign : MM := (⟨"RestMill$Mill", "registersWithSign", "(I)I"⟩, prog_3_method_19_code, 4, (some .int))
theorem q_Ml_registersWithSign : mOk M_Ml_registersWithSign 1 := ⟨wd350, wd22, by decide, by decide, by decide +kernel, by decide, tz_Ml rfl⟩
def M_Ml_accountAt : MM := (⟨"RestMill$Mill", "accountAt", "(I)I"⟩, prog_3_method_4_code, 2, (some .int))
theorem q_Ml_accountAt : mOk M_Ml_accountAt 1 := ⟨wd425, wd22, by decide, by decide, by decide +kernel, by decide, tz_Ml rfl⟩
def M_Ml_restAt : MM := (⟨"RestMill$Mill", "restAt", "(II)I"⟩, prog_3_method_11_code, 3, (some .int))
theorem q_Ml_restAt : mOk M_Ml_restAt 2 := ⟨wd466, wd22, by decide, by decide, by decide +kernel, by decide, tz_Ml rfl⟩
def M_Ml_orderOf : MM := (⟨"RestMill$Mill", "orderOf", "(II)I"⟩, prog_3_method_13_code, 3, (some .int))
theorem q_Ml_orderOf : mOk M_Ml_orderOf 2 := ⟨wd486, wd22, by decide, by decide, by decide +kernel, by decide, tz_Ml rfl⟩
def M_Ml_valueAt : MM := (⟨"RestMill$Mill", "valueAt", "(I)J"⟩, prog_3_method_10_code, 2, (some .long))
theorem q_Ml_valueAt : mOk M_Ml_valueAt 1 := ⟨wd494, wd22, by decide, by decide, by decide +kernel, by decide, tz_Ml rfl⟩
def M_Ml_sumOfParts : MM := (⟨"RestMill$Mill", "sumOfParts", "(I)J"⟩, prog_3_method_17_code, 5, (some .long))
theorem q_Ml_sumOfParts : mOk M_Ml_sumOfParts 1 := ⟨wd502, wd22, by decide, by decide, by decide +kernel, by decide, tz_Ml rfl⟩
def M_Ml_partAt : MM := (⟨"RestMill$Mill", "partAt", "(II)J"⟩, prog_3_method_16_code, 3, (some .long))
theorem q_Ml_partAt : mOk M_Ml_partAt 2 := ⟨wd506, wd22, by decide, by decide, by decide +kernel, by decide, tz_Ml rfl⟩
def M_Ml_valueByDigits : MM := (⟨"RestMill$Mill", "valueByDigits", "(I)J"⟩, prog_3_method_15_code, 7, (some .long))
theorem q_Ml_valueByDigits : mOk M_Ml_valueByDigits 1 := ⟨wd515, wd22, by decide, by decide, by decide +kernel, by decide, tz_Ml rfl⟩
def M_Ml_digitAt : MM := (⟨"RestMill$Mill", "digitAt", "(II)I"⟩, prog_3_method_14_code, 6, (some .int))
theorem q_Ml_digitAt : mOk M_Ml_digitAt 2 := ⟨wd519, wd22, by decide, by decide, by decide +kernel, by decide, tz_Ml rfl⟩
def M_Ml_faultsAt : MM := (⟨"RestMill$Mill", "faultsAt", "(I)I"⟩, prog_3_method_24_code, 4, (some .int))
theorem q_Ml_faultsAt : mOk M_Ml_faultsAt 1 := ⟨wd532, wd22, by decide, by decide, by decide +kernel, by decide, tz_Ml rfl⟩
def M_Ml_soundRest : MM := (⟨"RestMill$Mill", "soundRest", "(II)I"⟩, prog_3_method_23_code, 8, (some .int))
theorem q_Ml_soundRest : mOk M_Ml_soundRest 2 := ⟨wd536, wd22, by decide, by decide, by decide +kernel, by decide, tz_Ml rfl⟩
def M_Ml_numberWithRest : MM := (⟨"RestMill$Mill", "numberWithRest", "(III)J"⟩, prog_3_method_22_code, 6, (some .long))
theorem q_Ml_numberWithRest : mOk M_Ml_numberWithRest 3 := ⟨wd552, wd22, by decide, by decide, by decide +kernel, by decide, tz_Ml rfl⟩
def M_Ml_copyFrom : MM := (⟨"RestMill$Mill", "copyFrom", "(LRestMill$Mill;)V"⟩, prog_3_method_2_code, 2, none)
theorem q_Ml_copyFrom : mOk M_Ml_copyFrom 1 := ⟨wd570, wd22, by decide, by decide, by decide +kernel, by decide, tz_Ml rfl⟩
def M_Ml_actSet : MM := (⟨"RestMill$Mill", "actSet", "(II)I"⟩, prog_3_method_29_code, 3, (some .int))
theorem q_Ml_actSet : mOk M_Ml_actSet 2 := ⟨wd586, wd22, by decide, by decide, by decide +kernel, by decide, tz_Ml rfl⟩
def M_Ml_finish : MM := (⟨"RestMill$Mill", "finish", "(IJ)I"⟩, prog_3_method_28_code, 4, (some .int))
theorem q_Ml_finish : mOk M_Ml_finish 2 := ⟨wd590, wd22, by decide, by decide, by decide +kernel, by decide, tz_Ml rfl⟩
def M_Ml_put : MM := (⟨"RestMill$Mill", "put", "(IJ)V"⟩, prog_3_method_8_code, 4, none)
theorem q_Ml_put : mOk M_Ml_put 2 := ⟨wd594, wd22, by decide, by decide, by decide +kernel, by decide, tz_Ml rfl⟩
def M_Ml_book : MM := (⟨"RestMill$Mill", "book", "(I)V"⟩, prog_3_method_5_code, 2, none)
theorem q_Ml_book : mOk M_Ml_book 1 := ⟨wd598, wd22, by decide, by decide, by decide +kernel, by decide, tz_Ml rfl⟩
def M_Ml_refuse : MM := (⟨"RestMill$Mill", "refuse", "(I)I"⟩, prog_3_method_6_code, 2, (some .int))
theorem q_Ml_refuse : mOk M_Ml_refuse 1 := ⟨wd602, wd22, by decide, by decide, by decide +kernel, by decide, tz_Ml rfl⟩
def M_Ml_actMend : MM := (⟨"RestMill$Mill", "actMend", "(I)I"⟩, prog_3_method_32_code, 4, (some .int))
theorem q_Ml_actMend : mOk M_Ml_actMend 1 := ⟨wd627, wd22, by decide, by decide, by decide +kernel, by decide, tz_Ml rfl⟩
def M_Ml_clear : MM := (⟨"RestMill$Mill", "clear", "()V"⟩, prog_3_method_3_code, 1, none)
theorem q_Ml_clear : mOk M_Ml_clear 0 := ⟨wd843, wd22, by decide, by decide, by decide +kernel, by decide, tz_Ml rfl⟩
def M_Ml_reasonOf : MM := (⟨"RestMill$Mill", "reasonOf", "(IJJ)I"⟩, prog_3_method_27_code, 6, (some .int))
theorem q_Ml_reasonOf : mOk M_Ml_reasonOf 3 := ⟨wd1175, wd22, by decide, by decide, by decide +kernel, by decide, tz_Ml rfl⟩
def M_Ml_refusesResult : MM := (⟨"RestMill$Mill", "refusesResult", "(J)Z"⟩, prog_3_method_26_code, 3, (some .boolean))
theorem q_Ml_refusesResult : mOk M_Ml_refusesResult 1 := ⟨wd1185, wd22, by decide, by decide, by decide +kernel, by decide, tz_Ml rfl⟩
def M_Ml_actOperate : MM := (⟨"RestMill$Mill", "actOperate", "(IIII)I"⟩, prog_3_method_30_code, 10, (some .int))
theorem q_Ml_actOperate : mOk M_Ml_actOperate 4 := ⟨wd1222, wd22, by decide, by decide, by decide +kernel, by decide, tz_Ml rfl⟩
def M_Ml_actScale : MM := (⟨"RestMill$Mill", "actScale", "(II)I"⟩, prog_3_method_31_code, 5, (some .int))
theorem q_Ml_actScale : mOk M_Ml_actScale 2 := ⟨wd1235, wd22, by decide, by decide, by decide +kernel, by decide, tz_Ml rfl⟩
def M_Ml_actGrow : MM := (⟨"RestMill$Mill", "actGrow", "(I)I"⟩, prog_3_method_33_code, 2, (some .int))
theorem q_Ml_actGrow : mOk M_Ml_actGrow 1 := ⟨wd1260, wd22, by decide, by decide, by decide +kernel, by decide, tz_Ml rfl⟩
def M_Ml_canDrop : MM := (⟨"RestMill$Mill", "canDrop", "(I)Z"⟩, prog_3_method_25_code, 3, (some .boolean))
theorem q_Ml_canDrop : mOk M_Ml_canDrop 1 := ⟨wd1270, wd22, by decide, by decide, by decide +kernel, by decide, tz_Ml rfl⟩
def M_Ml_actDrop : MM := (⟨"RestMill$Mill", "actDrop", "(I)I"⟩, prog_3_method_34_code, 2, (some .int))
theorem q_Ml_actDrop : mOk M_Ml_actDrop 1 := ⟨wd1284, wd22, by decide, by decide, by decide +kernel, by decide, tz_Ml rfl⟩
def M_Ch_init : MM := (⟨"RestMill$Changes", "<init>", "()V"⟩, prog_2_method_1_code, 2, none)
theorem q_Ch_init : mOk M_Ch_init 0 := ⟨wd120, wd24, by decide, by decide, by decide +kernel, by decide, tz_Ch rfl⟩
def M_Se_init : MM := (⟨"RestMill$SetupReader", "<init>", "()V"⟩, prog_7_method_1_code, 1, none)
theorem q_Se_init : mOk M_Se_init 0 := ⟨wd140, wd25, by decide, by decide, by decide +kernel, by decide, tz_Se rfl⟩
def M_Tk_init : MM := (⟨"RestMill$Tokens", "<init>", "()V"⟩, prog_8_method_1_code, 1, none)
theorem q_Tk_init : mOk M_Tk_init 0 := ⟨wd146, wd26, by decide, by decide, by decide +kernel, by decide, tz_Tk rfl⟩
def M_Sc_init : MM := (⟨"RestMill$ScriptReader", "<init>", "()V"⟩, prog_6_method_1_code, 1, none)
theorem q_Sc_init : mOk M_Sc_init 0 := ⟨wd181, wd27, by decide, by decide, by decide +kernel, by decide, tz_Sc rfl⟩
def M_Pg_init : MM := (⟨"RestMill$Program", "<init>", "()V"⟩, prog_5_method_1_code, 1, none)
theorem q_Pg_init : mOk M_Pg_init 0 := ⟨wd189, wd28, by decide, by decide, by decide +kernel, by decide, tz_Pg rfl⟩
def M_Ch_prepare : MM := (⟨"RestMill$Changes", "prepare", "(LRestMill$Mill;)V"⟩, prog_2_method_3_code, 3, none)
theorem q_Ch_prepare : mOk M_Ch_prepare 1 := ⟨wd562, wd24, by decide, by decide, by decide +kernel, by decide, tz_Ch rfl⟩
def M_Ch_slotAt : MM := (⟨"RestMill$Changes", "slotAt", "(I)LRestMill$Mill;"⟩, prog_2_method_7_code, 2, (some (.object "RestMill$Mill")))
theorem q_Ch_slotAt : mOk M_Ch_slotAt 1 := ⟨wd566, wd24, by decide, by decide, by decide +kernel, by decide, tz_Ch rfl⟩
def M_Ch_keepIfDone : MM := (⟨"RestMill$Changes", "keepIfDone", "(I)I"⟩, prog_2_method_5_code, 2, (some .int))
theorem q_Ch_keepIfDone : mOk M_Ch_keepIfDone 1 := ⟨wd606, wd24, by decide, by decide, by decide +kernel, by decide, tz_Ch rfl⟩
def M_Ch_keep : MM := (⟨"RestMill$Changes", "keep", "()V"⟩, prog_2_method_4_code, 1, none)
theorem q_Ch_keep : mOk M_Ch_keep 0 := ⟨wd610, wd24, by decide, by decide, by decide +kernel, by decide, tz_Ch rfl⟩
def M_Ch_clear : MM := (⟨"RestMill$Changes", "clear", "()V"⟩, prog_2_method_2_code, 1, none)
theorem q_Ch_clear : mOk M_Ch_clear 0 := ⟨wd656, wd24, by decide, by decide, by decide +kernel, by decide, tz_Ch rfl⟩
def M_Tk_read : MM := (⟨"RestMill$Tokens", "read", "([BI)V"⟩, prog_8_method_2_code, 5, none)
theorem q_Tk_read : mOk M_Tk_read 2 := ⟨wd737, wd26, by decide, by decide, by decide +kernel, by decide, tz_Tk rfl⟩
def M_Tk_readToken : MM := (⟨"RestMill$Tokens", "readToken", "([BII)I"⟩, prog_8_method_10_code, 5, (some .int))
theorem q_Tk_readToken : mOk M_Tk_readToken 3 := ⟨wd741, wd26, by decide, by decide, by decide +kernel, by decide, tz_Tk rfl⟩
def M_Tk_byteAt : MM := (⟨"RestMill$Tokens", "byteAt", "([BI)I"⟩, prog_8_method_15_code, 2, (some .int))
theorem q_Tk_byteAt : mOk M_Tk_byteAt 2 := ⟨wd744, wd26, by decide, by decide, by decide +kernel, by decide, tz_Tk rfl⟩
def M_Tk_isLetter : MM := (⟨"RestMill$Tokens", "isLetter", "(I)Z"⟩, prog_8_method_16_code, 1, (some .boolean))
theorem q_Tk_isLetter : mOk M_Tk_isLetter 1 := ⟨wd747, wd26, by decide, by decide, by decide +kernel, by decide, tz_Tk rfl⟩
def M_Tk_readWord : MM := (⟨"RestMill$Tokens", "readWord", "([BII)I"⟩, prog_8_method_11_code, 6, (some .int))
theorem q_Tk_readWord : mOk M_Tk_readWord 3 := ⟨wd751, wd26, by decide, by decide, by decide +kernel, by decide, tz_Tk rfl⟩
def M_Tk_add : MM := (⟨"RestMill$Tokens", "add", "(III)V"⟩, prog_8_method_9_code, 4, none)
theorem q_Tk_add : mOk M_Tk_add 3 := ⟨wd755, wd26, by decide, by decide, by decide +kernel, by decide, tz_Tk rfl⟩
def M_Tk_wordKind : MM := (⟨"RestMill$Tokens", "wordKind", "([BII)I"⟩, prog_8_method_13_code, 3, (some .int))
theorem q_Tk_wordKind : mOk M_Tk_wordKind 3 := ⟨wd758, wd26, by decide, by decide, by decide +kernel, by decide, tz_Tk rfl⟩
def M_Tk_isWord : MM := (⟨"RestMill$Tokens", "isWord", "([BIILjava/lang/String;)Z"⟩, prog_8_method_14_code, 5, (some .boolean))
theorem q_Tk_isWord : mOk M_Tk_isWord 4 := ⟨wd762, wd26, by decide, by decide, by decide +kernel, by decide, tz_Tk rfl⟩
def M_Tk_isDigit : MM := (⟨"RestMill$Tokens", "isDigit", "(I)Z"⟩, prog_8_method_17_code, 1, (some .boolean))
theorem q_Tk_isDigit : mOk M_Tk_isDigit 1 := ⟨wd773, wd26, by decide, by decide, by decide +kernel, by decide, tz_Tk rfl⟩
def M_Tk_readNumeral : MM := (⟨"RestMill$Tokens", "readNumeral", "([BII)I"⟩, prog_8_method_12_code, 6, (some .int))
theorem q_Tk_readNumeral : mOk M_Tk_readNumeral 3 := ⟨wd777, wd26, by decide, by decide, by decide +kernel, by decide, tz_Tk rfl⟩
def M_Se_readSetup : MM := (⟨"RestMill$SetupReader", "readSetup", "(LRestMill$Mill;)Z"⟩, prog_7_method_2_code, 2, (some .boolean))
theorem q_Se_readSetup : mOk M_Se_readSetup 1 := ⟨wd839, wd25, by decide, by decide, by decide +kernel, by decide, tz_Se rfl⟩
def M_Se_readModuli : MM := (⟨"RestMill$SetupReader", "readModuli", "(LRestMill$Moduli;)Z"⟩, prog_7_method_3_code, 4, (some .boolean))
theorem q_Se_readModuli : mOk M_Se_readModuli 1 := ⟨wd857, wd25, by decide, by decide, by decide +kernel, by decide, tz_Se rfl⟩
def M_Tk_take : MM := (⟨"RestMill$Tokens", "take", "(I)Z"⟩, prog_8_method_6_code, 2, (some .boolean))
theorem q_Tk_take : mOk M_Tk_take 1 := ⟨wd861, wd26, by decide, by decide, by decide +kernel, by decide, tz_Tk rfl⟩
def M_Tk_kind : MM := (⟨"RestMill$Tokens", "kind", "()I"⟩, prog_8_method_3_code, 1, (some .int))
theorem q_Tk_kind : mOk M_Tk_kind 0 := ⟨wd865, wd26, by decide, by decide, by decide +kernel, by decide, tz_Tk rfl⟩
def M_Tk_fail : MM := (⟨"RestMill$Tokens", "fail", "(I)Z"⟩, prog_8_method_8_code, 2, (some .boolean))
theorem q_Tk_fail : mOk M_Tk_fail 1 := ⟨wd869, wd26, by decide, by decide, by decide +kernel, by decide, tz_Tk rfl⟩
def M_Tk_move : MM := (⟨"RestMill$Tokens", "move", "()V"⟩, prog_8_method_5_code, 1, none)
theorem q_Tk_move : mOk M_Tk_move 0 := ⟨wd873, wd26, by decide, by decide, by decide +kernel, by decide, tz_Tk rfl⟩
def M_Se_modulusError : MM := (⟨"RestMill$SetupReader", "modulusError", "(LRestMill$Moduli;)I"⟩, prog_7_method_4_code, 3, (some .int))
theorem q_Se_modulusError : mOk M_Se_modulusError 1 := ⟨wd878, wd25, by decide, by decide, by decide +kernel, by decide, tz_Se rfl⟩
def M_Tk_amount : MM := (⟨"RestMill$Tokens", "amount", "()I"⟩, prog_8_method_4_code, 1, (some .int))
theorem q_Tk_amount : mOk M_Tk_amount 0 := ⟨wd882, wd26, by decide, by decide, by decide +kernel, by decide, tz_Tk rfl⟩
def M_Se_readChecks : MM := (⟨"RestMill$SetupReader", "readChecks", "(LRestMill$Moduli;)Z"⟩, prog_7_method_5_code, 3, (some .boolean))
theorem q_Se_readChecks : mOk M_Se_readChecks 1 := ⟨wd901, wd25, by decide, by decide, by decide +kernel, by decide, tz_Se rfl⟩
def M_Tk_takeUpTo : MM := (⟨"RestMill$Tokens", "takeUpTo", "(J)Z"⟩, prog_8_method_7_code, 3, (some .boolean))
theorem q_Tk_takeUpTo : mOk M_Tk_takeUpTo 1 := ⟨wd906, wd26, by decide, by decide, by decide +kernel, by decide, tz_Tk rfl⟩
def M_Se_readStrict : MM := (⟨"RestMill$SetupReader", "readStrict", "(LRestMill$Mill;)Z"⟩, prog_7_method_6_code, 2, (some .boolean))
theorem q_Se_readStrict : mOk M_Se_readStrict 1 := ⟨wd912, wd25, by decide, by decide, by decide +kernel, by decide, tz_Se rfl⟩
def M_Se_readSets : MM := (⟨"RestMill$SetupReader", "readSets", "(LRestMill$Mill;)Z"⟩, prog_7_method_7_code, 5, (some .boolean))
theorem q_Se_readSets : mOk M_Se_readSets 1 := ⟨wd916, wd25, by decide, by decide, by decide +kernel, by decide, tz_Se rfl⟩
def M_Se_readSet : MM := (⟨"RestMill$SetupReader", "readSet", "(LRestMill$Mill;)Z"⟩, prog_7_method_8_code, 5, (some .boolean))
theorem q_Se_readSet : mOk M_Se_readSet 1 := ⟨wd920, wd25, by decide, by decide, by decide +kernel, by decide, tz_Se rfl⟩
def M_R_init : MM := (⟨"RestMill", "<init>", "()V"⟩, prog_1_method_1_code, 1, none)
theorem q_R_init : mOk M_R_init 0 := ⟨wd54, wd21, by decide, by decide, by decide +kernel, by decide, tz_R rfl⟩
def M_R_floorQuotient : MM := (⟨"RestMill", "floorQuotient", "(JJ)J"⟩, prog_1_method_57_code, 4, (some .long))
theorem q_R_floorQuotient : mOk M_R_floorQuotient 2 := ⟨wd268, wd21, by decide, by decide, by decide +kernel, by decide, tz_R rfl⟩
def M_R_inverseOf : MM := (⟨"RestMill", "inverseOf", "(JI)I"⟩, prog_1_method_63_code, 6, (some .int))
theorem q_R_inverseOf : mOk M_R_inverseOf 2 := ⟨wd274, wd21, by decide, by decide, by decide +kernel, by decide, tz_R rfl⟩
def M_R_floorRest : MM := (⟨"RestMill", "floorRest", "(JJ)J"⟩, prog_1_method_56_code, 4, (some .long))
theorem q_R_floorRest : mOk M_R_floorRest 2 := ⟨wd277, wd21, by decide, by decide, by decide +kernel, by decide, tz_R rfl⟩
def M_R_count : MM := (⟨"RestMill", "count", "(I)I"⟩, prog_1_method_8_code, 2, (some .int))
theorem q_R_count : mOk M_R_count 1 := ⟨wd325, wd21, by decide, by decide, by decide +kernel, by decide, tz_R rfl⟩
def M_R_account : MM := (⟨"RestMill", "account", "(I)I"⟩, prog_1_method_9_code, 2, (some .int))
theorem q_R_account : mOk M_R_account 1 := ⟨wd421, wd21, by decide, by decide, by decide +kernel, by decide, tz_R rfl⟩
def M_R_bound : MM := (⟨"RestMill", "bound", "(I)J"⟩, prog_1_method_10_code, 2, (some .long))
theorem q_R_bound : mOk M_R_bound 1 := ⟨wd429, wd21, by decide, by decide, by decide +kernel, by decide, tz_R rfl⟩
def M_R_modulus : MM := (⟨"RestMill", "modulus", "(I)I"⟩, prog_1_method_11_code, 2, (some .int))
theorem q_R_modulus : mOk M_R_modulus 1 := ⟨wd434, wd21, by decide, by decide, by decide +kernel, by decide, tz_R rfl⟩
def M_R_needModulus : MM := (⟨"RestMill", "needModulus", "(I)V"⟩, prog_1_method_52_code, 2, none)
theorem q_R_needModulus : mOk M_R_needModulus 1 := ⟨wd438, wd21, by decide, by decide, by decide +kernel, by decide, tz_R rfl⟩
def M_R_rest : MM := (⟨"RestMill", "rest", "(II)I"⟩, prog_1_method_14_code, 3, (some .int))
theorem q_R_rest : mOk M_R_rest 2 := ⟨wd458, wd21, by decide, by decide, by decide +kernel, by decide, tz_R rfl⟩
def M_R_needRegister : MM := (⟨"RestMill", "needRegister", "(I)V"⟩, prog_1_method_51_code, 2, none)
theorem q_R_needRegister : mOk M_R_needRegister 1 := ⟨wd462, wd21, by decide, by decide, by decide +kernel, by decide, tz_R rfl⟩
def M_R_number : MM := (⟨"RestMill", "number", "(I)J"⟩, prog_1_method_19_code, 2, (some .long))
theorem q_R_number : mOk M_R_number 1 := ⟨wd472, wd21, by decide, by decide, by decide +kernel, by decide, tz_R rfl⟩
def M_R_isSound : MM := (⟨"RestMill", "isSound", "(I)Z"⟩, prog_1_method_20_code, 2, (some .boolean))
theorem q_R_isSound : mOk M_R_isSound 1 := ⟨wd477, wd21, by decide, by decide, by decide +kernel, by decide, tz_R rfl⟩
def M_R_compare : MM := (⟨"RestMill", "compare", "(II)I"⟩, prog_1_method_21_code, 3, (some .int))
theorem q_R_compare : mOk M_R_compare 2 := ⟨wd482, wd21, by decide, by decide, by decide +kernel, by decide, tz_R rfl⟩
def M_R_extend : MM := (⟨"RestMill", "extend", "(IIZ)I"⟩, prog_1_method_22_code, 4, (some .int))
theorem q_R_extend : mOk M_R_extend 3 := ⟨wd490, wd21, by decide, by decide, by decide +kernel, by decide, tz_R rfl⟩
def M_R_gap : MM := (⟨"RestMill", "gap", "()J"⟩, prog_1_method_23_code, 6, (some .long))
theorem q_R_gap : mOk M_R_gap 0 := ⟨wd498, wd21, by decide, by decide, by decide +kernel, by decide, tz_R rfl⟩
def M_R_faults : MM := (⟨"RestMill", "faults", "(I)I"⟩, prog_1_method_27_code, 2, (some .int))
theorem q_R_faults : mOk M_R_faults 1 := ⟨wd528, wd21, by decide, by decide, by decide +kernel, by decide, tz_R rfl⟩
def M_R_numberIn : MM := (⟨"RestMill", "numberIn", "(JJ)J"⟩, prog_1_method_58_code, 6, (some .long))
theorem q_R_numberIn : mOk M_R_numberIn 2 := ⟨wd539, wd21, by decide, by decide, by decide +kernel, by decide, tz_R rfl⟩
def M_R_numberWith : MM := (⟨"RestMill", "numberWith", "(III)J"⟩, prog_1_method_28_code, 4, (some .long))
theorem q_R_numberWith : mOk M_R_numberWith 3 := ⟨wd544, wd21, by decide, by decide, by decide +kernel, by decide, tz_R rfl⟩
def M_R_needRest : MM := (⟨"RestMill", "needRest", "(II)V"⟩, prog_1_method_53_code, 3, none)
theorem q_R_needRest : mOk M_R_needRest 2 := ⟨wd548, wd21, by decide, by decide, by decide +kernel, by decide, tz_R rfl⟩
def M_R_set : MM := (⟨"RestMill", "set", "(II)I"⟩, prog_1_method_34_code, 3, (some .int))
theorem q_R_set : mOk M_R_set 2 := ⟨wd556, wd21, by decide, by decide, by decide +kernel, by decide, tz_R rfl⟩
def M_R_copyRow_AIAI : MM := (⟨"RestMill", "copyRow", "([I[I)V"⟩, prog_1_method_60_code, 3, none)
theorem q_R_copyRow_AIAI : mOk M_R_copyRow_AIAI 2 := ⟨wd577, wd21, by decide, by decide, by decide +kernel, by decide, tz_R rfl⟩
def M_R_copyRow_AJAJ : MM := (⟨"RestMill", "copyRow", "([J[J)V"⟩, prog_1_method_61_code, 3, none)
theorem q_R_copyRow_AJAJ : mOk M_R_copyRow_AJAJ 2 := ⟨wd580, wd21, by decide, by decide, by decide +kernel, by decide, tz_R rfl⟩
def M_R_hurt : MM := (⟨"RestMill", "hurt", "(III)I"⟩, prog_1_method_35_code, 5, (some .int))
theorem q_R_hurt : mOk M_R_hurt 3 := ⟨wd617, wd21, by decide, by decide, by decide +kernel, by decide, tz_R rfl⟩
def M_R_mend : MM := (⟨"RestMill", "mend", "(I)I"⟩, prog_1_method_38_code, 2, (some .int))
theorem q_R_mend : mOk M_R_mend 1 := ⟨wd623, wd21, by decide, by decide, by decide +kernel, by decide, tz_R rfl⟩
def M_R_saveState : MM := (⟨"RestMill", "saveState", "()I"⟩, prog_1_method_47_code, 1, (some .int))
theorem q_R_saveState : mOk M_R_saveState 0 := ⟨wd632, wd21, by decide, by decide, by decide +kernel, by decide, tz_R rfl⟩
def M_R_restoreState : MM := (⟨"RestMill", "restoreState", "()I"⟩, prog_1_method_48_code, 1, (some .int))
theorem q_R_restoreState : mOk M_R_restoreState 0 := ⟨wd637, wd21, by decide, by decide, by decide +kernel, by decide, tz_R rfl⟩
def M_R_appendInput : MM := (⟨"RestMill", "appendInput", "(IIIII)I"⟩, prog_1_method_2_code, 6, (some .int))
theorem q_R_appendInput : mOk M_R_appendInput 5 := ⟨wd721, wd21, by decide, by decide, by decide +kernel, by decide, tz_R rfl⟩
def M_R_appendFour : MM := (⟨"RestMill", "appendFour", "(I)V"⟩, prog_1_method_49_code, 3, none)
theorem q_R_appendFour : mOk M_R_appendFour 1 := ⟨wd725, wd21, by decide, by decide, by decide +kernel, by decide, tz_R rfl⟩
def M_R_truncateInput : MM := (⟨"RestMill", "truncateInput", "(I)Z"⟩, prog_1_method_3_code, 2, (some .boolean))
theorem q_R_truncateInput : mOk M_R_truncateInput 1 := ⟨wd729, wd21, by decide, by decide, by decide +kernel, by decide, tz_R rfl⟩
def M_R_loadMill : MM := (⟨"RestMill", "loadMill", "()I"⟩, prog_1_method_4_code, 2, (some .int))
theorem q_R_loadMill : mOk M_R_loadMill 0 := ⟨wd733, wd21, by decide, by decide, by decide +kernel, by decide, tz_R rfl⟩
def M_R_greatestDivisor : MM := (⟨"RestMill", "greatestDivisor", "(II)I"⟩, prog_1_method_62_code, 6, (some .int))
theorem q_R_greatestDivisor : mOk M_R_greatestDivisor 2 := ⟨wd894, wd21, by decide, by decide, by decide +kernel, by decide, tz_R rfl⟩
def M_R_endText : MM := (⟨"RestMill", "endText", "(LRestMill$Tokens;)V"⟩, prog_1_method_50_code, 2, none)
theorem q_R_endText : mOk M_R_endText 1 := ⟨wd926, wd21, by decide, by decide, by decide +kernel, by decide, tz_R rfl⟩
def M_R_value : MM := (⟨"RestMill", "value", "(I)J"⟩, prog_1_method_18_code, 2, (some .long))
theorem q_R_value : mOk M_R_value 1 := ⟨wd1140, wd21, by decide, by decide, by decide +kernel, by decide, tz_R rfl⟩
def M_R_part : MM := (⟨"RestMill", "part", "(II)J"⟩, prog_1_method_16_code, 3, (some .long))
theorem q_R_part : mOk M_R_part 2 := ⟨wd1144, wd21, by decide, by decide, by decide +kernel, by decide, tz_R rfl⟩
def M_R_weight : MM := (⟨"RestMill", "weight", "(I)J"⟩, prog_1_method_13_code, 2, (some .long))
theorem q_R_weight : mOk M_R_weight 1 := ⟨wd1149, wd21, by decide, by decide, by decide +kernel, by decide, tz_R rfl⟩
def M_R_digit : MM := (⟨"RestMill", "digit", "(II)I"⟩, prog_1_method_15_code, 3, (some .int))
theorem q_R_digit : mOk M_R_digit 2 := ⟨wd1154, wd21, by decide, by decide, by decide +kernel, by decide, tz_R rfl⟩
def M_R_rank : MM := (⟨"RestMill", "rank", "(I)I"⟩, prog_1_method_17_code, 2, (some .int))
theorem q_R_rank : mOk M_R_rank 1 := ⟨wd1159, wd21, by decide, by decide, by decide +kernel, by decide, tz_R rfl⟩
def M_R_why : MM := (⟨"RestMill", "why", "(III)I"⟩, prog_1_method_26_code, 11, (some .int))
theorem q_R_why : mOk M_R_why 3 := ⟨wd1167, wd21, by decide, by decide, by decide +kernel, by decide, tz_R rfl⟩
def M_R_needOperation : MM := (⟨"RestMill", "needOperation", "(I)V"⟩, prog_1_method_54_code, 2, none)
theorem q_R_needOperation : mOk M_R_needOperation 1 := ⟨wd1171, wd21, by decide, by decide, by decide +kernel, by decide, tz_R rfl⟩
def M_R_divides : MM := (⟨"RestMill", "divides", "(I)Z"⟩, prog_1_method_55_code, 1, (some .boolean))
theorem q_R_divides : mOk M_R_divides 1 := ⟨wd1178, wd21, by decide, by decide, by decide +kernel, by decide, tz_R rfl⟩
def M_R_exactOf : MM := (⟨"RestMill", "exactOf", "(IJJ)J"⟩, prog_1_method_59_code, 5, (some .long))
theorem q_R_exactOf : mOk M_R_exactOf 3 := ⟨wd1181, wd21, by decide, by decide, by decide +kernel, by decide, tz_R rfl⟩
def M_R_exact : MM := (⟨"RestMill", "exact", "(III)J"⟩, prog_1_method_25_code, 4, (some .long))
theorem q_R_exact : mOk M_R_exact 3 := ⟨wd1191, wd21, by decide, by decide, by decide +kernel, by decide, tz_R rfl⟩
def M_R_operate : MM := (⟨"RestMill", "operate", "(IIII)I"⟩, prog_1_method_36_code, 5, (some .int))
theorem q_R_operate : mOk M_R_operate 4 := ⟨wd1218, wd21, by decide, by decide, by decide +kernel, by decide, tz_R rfl⟩
def M_R_scale : MM := (⟨"RestMill", "scale", "(II)I"⟩, prog_1_method_37_code, 3, (some .int))
theorem q_R_scale : mOk M_R_scale 2 := ⟨wd1231, wd21, by decide, by decide, by decide +kernel, by decide, tz_R rfl⟩
def M_R_nextModulus : MM := (⟨"RestMill", "nextModulus", "()I"⟩, prog_1_method_29_code, 2, (some .int))
theorem q_R_nextModulus : mOk M_R_nextModulus 0 := ⟨wd1246, wd21, by decide, by decide, by decide +kernel, by decide, tz_R rfl⟩
def M_R_grow : MM := (⟨"RestMill", "grow", "(I)I"⟩, prog_1_method_40_code, 2, (some .int))
theorem q_R_grow : mOk M_R_grow 1 := ⟨wd1256, wd21, by decide, by decide, by decide +kernel, by decide, tz_R rfl⟩
def M_R_spare : MM := (⟨"RestMill", "spare", "()I"⟩, prog_1_method_30_code, 3, (some .int))
theorem q_R_spare : mOk M_R_spare 0 := ⟨wd1266, wd21, by decide, by decide, by decide +kernel, by decide, tz_R rfl⟩
def M_R_drop : MM := (⟨"RestMill", "drop", "(I)I"⟩, prog_1_method_41_code, 2, (some .int))
theorem q_R_drop : mOk M_R_drop 1 := ⟨wd1280, wd21, by decide, by decide, by decide +kernel, by decide, tz_R rfl⟩
theorem ac_nil {M : MM} : ∀ x ∈ ([] : TT), SO M x.1 x.2 := fun _ h => nomatch h
theorem ac {M : MM} {p : Nat} {o : OP} {t : TT} (h : SO M p o) (r : ∀ x ∈ t, SO M x.1 x.2) : ∀ x ∈ ((p, o) :: t), SO M x.1 x.2 := List.forall_mem_cons.mpr ⟨h, r⟩
theorem thr_ok {l : List Cond} (h : l.all (fun w => decide (w ∈ WD)) = true) : ∀ w ∈ l, w ∈ WD := fun w hw => of_decide_eq_true (List.all_eq_true.mp h w hw)
theorem sw_all {pc : Nat} (ts : List Nat) (offs : Array Int) (h : (ts.zip offs.toList).all (fun q => decide ((pc : Int) + q.2 = (q.1 : Int))) = true ∧ ts.length = offs.size) : ∀ (k t : Nat), ts[k]? = some t → ∃ o, offs[k]? = some o ∧ (pc : Int) + o = (t : Int) := by
  intro k t hk
  have hl : k < ts.length := (List.getElem?_eq_some_iff.mp hk).1
  have hl2 : k < offs.size := by rw [← h.2]; exact hl
  refine ⟨offs[k], Array.getElem?_eq_getElem hl2, ?_⟩
  have hz : (t, offs[k]) ∈ ts.zip offs.toList := by
    refine List.mem_of_getElem? (i := k) ?_
    rw [List.getElem?_zip_eq_some]
    exact ⟨hk, by simp [hl2]⟩
  exact of_decide_eq_true (List.all_eq_true.mp h.1 _ hz)
