/-! MORE WORDS, MORE METHODS -/
def o_alt (o1 o2 : OP) : OP := fun Kn K KX d mc ms ls st w => o1 Kn K KX d mc ms ls st w ∨ o2 Kn K KX d mc ms ls st w
theorem tz_jU16 {y : MethodName} (h : y.cls = "java/lang/StringUTF16") : tabOf y = [] := if_neg (by rw [h]; decide)
theorem wd20 : (Cond.initialized "RestMillLaw") ∈ WD := wdT1 0 rfl rfl
theorem wd29 : (Cond.initialized "java/lang/AbstractStringBuilder") ∈ WD := wdT1 9 rfl rfl
theorem wd30 : (Cond.initialized "java/lang/StringBuilder") ∈ WD := wdT1 10 rfl rfl
theorem wd31 : (Cond.initialized "java/lang/String") ∈ WD := wdT1 11 rfl rfl
theorem wd32 : (Cond.initialized "java/lang/StringUTF16") ∈ WD := wdT1 12 rfl rfl
theorem wd34 : (Cond.initialized "jdk/internal/util/ArraysSupport") ∈ WD := wdT1 14 rfl rfl
theorem wd36 : (Cond.initialized "java/lang/System") ∈ WD := wdT1 16 rfl rfl
theorem wd37 : (Cond.initialized "jdk/internal/util/Preconditions") ∈ WD := wdT1 17 rfl rfl
theorem wd38 : (Cond.initialized "java/lang/StringLatin1") ∈ WD := wdT1 18 rfl rfl
theorem wd40 : (Cond.initialized "java/lang/Integer") ∈ WD := wdT1 20 rfl rfl
theorem wd50 : (Cond.classLink "RestMillLaw" (26 : Nat) "RestMill") ∈ WD := wdT1 30 rfl rfl
theorem wd51 : (Cond.instantiable "RestMill" (12 : Nat)) ∈ WD := wdT1 31 rfl rfl
theorem wd52 : (Cond.methodLink "RestMillLaw" (172 : Nat) ({ cls := "RestMill", name := "<init>", desc := "()V" } : MethodName)) ∈ WD := wdT1 32 rfl rfl
theorem wd53 : (Cond.instanceMethod ({ cls := "RestMill", name := "<init>", desc := "()V" } : MethodName)) ∈ WD := wdT1 33 rfl rfl
theorem wd55 : (Cond.methodLink "RestMill" (1 : Nat) ({ cls := "java/lang/Object", name := "<init>", desc := "()V" } : MethodName)) ∈ WD := wdT1 35 rfl rfl
theorem wd58 : (Cond.classLink "RestMill" (13 : Nat) "RestMill$Mill") ∈ WD := wdT1 38 rfl rfl
theorem wd59 : (Cond.instantiable "RestMill$Mill" (4 : Nat)) ∈ WD := wdT1 39 rfl rfl
theorem wd60 : (Cond.methodLink "RestMill" (15 : Nat) ({ cls := "RestMill$Mill", name := "<init>", desc := "()V" } : MethodName)) ∈ WD := wdT1 40 rfl rfl
theorem wd61 : (Cond.instanceMethod ({ cls := "RestMill$Mill", name := "<init>", desc := "()V" } : MethodName)) ∈ WD := wdT1 41 rfl rfl
theorem wd63 : (Cond.methodLink "RestMill$Mill" (3 : Nat) ({ cls := "java/lang/Object", name := "<init>", desc := "()V" } : MethodName)) ∈ WD := wdT1 43 rfl rfl
theorem wd64 : (Cond.classLink "RestMill$Mill" (9 : Nat) "RestMill$Moduli") ∈ WD := wdT1 44 rfl rfl
theorem wd65 : (Cond.instantiable "RestMill$Moduli" (6 : Nat)) ∈ WD := wdT1 45 rfl rfl
theorem wd66 : (Cond.methodLink "RestMill$Mill" (11 : Nat) ({ cls := "RestMill$Moduli", name := "<init>", desc := "()V" } : MethodName)) ∈ WD := wdT1 46 rfl rfl
theorem wd67 : (Cond.instanceMethod ({ cls := "RestMill$Moduli", name := "<init>", desc := "()V" } : MethodName)) ∈ WD := wdT1 47 rfl rfl
theorem wd69 : (Cond.methodLink "RestMill$Moduli" (3 : Nat) ({ cls := "java/lang/Object", name := "<init>", desc := "()V" } : MethodName)) ∈ WD := wdT1 49 rfl rfl
theorem wd96 : (Cond.arrayClass ClassFile.FieldType.byte) ∈ WD := wdT1 76 rfl rfl
theorem wd97 : (Cond.arrayClass ClassFile.FieldType.int) ∈ WD := wdT1 77 rfl rfl
theorem wd98 : (Cond.arrayClass ClassFile.FieldType.long) ∈ WD := wdT1 78 rfl rfl
theorem wd116 : (Cond.classLink "RestMill" (26 : Nat) "RestMill$Changes") ∈ WD := wdT1 96 rfl rfl
theorem wd117 : (Cond.instantiable "RestMill$Changes" (3 : Nat)) ∈ WD := wdT1 97 rfl rfl
theorem wd118 : (Cond.methodLink "RestMill" (28 : Nat) ({ cls := "RestMill$Changes", name := "<init>", desc := "()V" } : MethodName)) ∈ WD := wdT1 98 rfl rfl
theorem wd119 : (Cond.instanceMethod ({ cls := "RestMill$Changes", name := "<init>", desc := "()V" } : MethodName)) ∈ WD := wdT1 99 rfl rfl
theorem wd121 : (Cond.methodLink "RestMill$Changes" (3 : Nat) ({ cls := "java/lang/Object", name := "<init>", desc := "()V" } : MethodName)) ∈ WD := wdT1 101 rfl rfl
theorem wd122 : (Cond.classLink "RestMill$Changes" (9 : Nat) "RestMill$Mill") ∈ WD := wdT1 102 rfl rfl
theorem wd124 : (Cond.methodLink "RestMill$Changes" (17 : Nat) ({ cls := "RestMill$Mill", name := "<init>", desc := "()V" } : MethodName)) ∈ WD := wdT1 104 rfl rfl
theorem wd136 : (Cond.classLink "RestMill" (33 : Nat) "RestMill$SetupReader") ∈ WD := wdT1 116 rfl rfl
theorem wd137 : (Cond.instantiable "RestMill$SetupReader" (1 : Nat)) ∈ WD := wdT1 117 rfl rfl
theorem wd138 : (Cond.methodLink "RestMill" (35 : Nat) ({ cls := "RestMill$SetupReader", name := "<init>", desc := "()V" } : MethodName)) ∈ WD := wdT1 118 rfl rfl
theorem wd139 : (Cond.instanceMethod ({ cls := "RestMill$SetupReader", name := "<init>", desc := "()V" } : MethodName)) ∈ WD := wdT1 119 rfl rfl
theorem wd141 : (Cond.methodLink "RestMill$SetupReader" (3 : Nat) ({ cls := "java/lang/Object", name := "<init>", desc := "()V" } : MethodName)) ∈ WD := wdT1 121 rfl rfl
theorem wd142 : (Cond.classLink "RestMill$SetupReader" (9 : Nat) "RestMill$Tokens") ∈ WD := wdT1 122 rfl rfl
theorem wd143 : (Cond.instantiable "RestMill$Tokens" (7 : Nat)) ∈ WD := wdT1 123 rfl rfl
theorem wd144 : (Cond.methodLink "RestMill$SetupReader" (11 : Nat) ({ cls := "RestMill$Tokens", name := "<init>", desc := "()V" } : MethodName)) ∈ WD := wdT1 124 rfl rfl
theorem wd145 : (Cond.instanceMethod ({ cls := "RestMill$Tokens", name := "<init>", desc := "()V" } : MethodName)) ∈ WD := wdT1 125 rfl rfl
theorem wd147 : (Cond.methodLink "RestMill$Tokens" (3 : Nat) ({ cls := "java/lang/Object", name := "<init>", desc := "()V" } : MethodName)) ∈ WD := wdT1 127 rfl rfl
theorem wd177 : (Cond.classLink "RestMill" (40 : Nat) "RestMill$ScriptReader") ∈ WD := wdT1 157 rfl rfl
theorem wd178 : (Cond.instantiable "RestMill$ScriptReader" (4 : Nat)) ∈ WD := wdT1 158 rfl rfl
theorem wd179 : (Cond.methodLink "RestMill" (42 : Nat) ({ cls := "RestMill$ScriptReader", name := "<init>", desc := "()V" } : MethodName)) ∈ WD := wdT1 159 rfl rfl
theorem wd180 : (Cond.instanceMethod ({ cls := "RestMill$ScriptReader", name := "<init>", desc := "()V" } : MethodName)) ∈ WD := wdT1 160 rfl rfl
theorem wd182 : (Cond.methodLink "RestMill$ScriptReader" (3 : Nat) ({ cls := "java/lang/Object", name := "<init>", desc := "()V" } : MethodName)) ∈ WD := wdT1 162 rfl rfl
theorem wd183 : (Cond.classLink "RestMill$ScriptReader" (9 : Nat) "RestMill$Tokens") ∈ WD := wdT1 163 rfl rfl
theorem wd184 : (Cond.methodLink "RestMill$ScriptReader" (11 : Nat) ({ cls := "RestMill$Tokens", name := "<init>", desc := "()V" } : MethodName)) ∈ WD := wdT1 164 rfl rfl
theorem wd185 : (Cond.classLink "RestMill$ScriptReader" (18 : Nat) "RestMill$Program") ∈ WD := wdT1 165 rfl rfl
theorem wd186 : (Cond.instantiable "RestMill$Program" (6 : Nat)) ∈ WD := wdT1 166 rfl rfl
theorem wd187 : (Cond.methodLink "RestMill$ScriptReader" (20 : Nat) ({ cls := "RestMill$Program", name := "<init>", desc := "()V" } : MethodName)) ∈ WD := wdT1 167 rfl rfl
theorem wd188 : (Cond.instanceMethod ({ cls := "RestMill$Program", name := "<init>", desc := "()V" } : MethodName)) ∈ WD := wdT1 168 rfl rfl
theorem wd190 : (Cond.methodLink "RestMill$Program" (3 : Nat) ({ cls := "java/lang/Object", name := "<init>", desc := "()V" } : MethodName)) ∈ WD := wdT1 170 rfl rfl
theorem wd191 : (Cond.fieldLink "RestMill$Program" (9 : Nat) "RestMill$Program" "kinds" "[I") ∈ WD := wdT1 171 rfl rfl
theorem wd192 : (Cond.fieldLink "RestMill$Program" (15 : Nat) "RestMill$Program" "firsts" "[I") ∈ WD := wdT1 172 rfl rfl
theorem wd193 : (Cond.fieldLink "RestMill$Program" (18 : Nat) "RestMill$Program" "seconds" "[I") ∈ WD := wdT1 173 rfl rfl
theorem wd194 : (Cond.fieldLink "RestMill$Program" (21 : Nat) "RestMill$Program" "pending" "[J") ∈ WD := wdT1 174 rfl rfl
theorem wd208 : (Cond.fieldLink "RestMill$ScriptReader" (12 : Nat) "RestMill$ScriptReader" "tokens" "LRestMill$Tokens;") ∈ WD := wdT1 188 rfl rfl
theorem wd209 : (Cond.fieldLink "RestMill$ScriptReader" (21 : Nat) "RestMill$ScriptReader" "program" "LRestMill$Program;") ∈ WD := wdT1 189 rfl rfl
theorem wd219 : (Cond.classLink "RestMill" (54 : Nat) "java/lang/StringBuilder") ∈ WD := wdT1 199 rfl rfl
theorem wd220 : (Cond.instantiable "java/lang/StringBuilder" (4 : Nat)) ∈ WD := wdT1 200 rfl rfl
theorem wd221 : (Cond.methodLink "RestMill" (56 : Nat) ({ cls := "java/lang/StringBuilder", name := "<init>", desc := "()V" } : MethodName)) ∈ WD := wdT1 201 rfl rfl
theorem wd222 : (Cond.instanceMethod ({ cls := "java/lang/StringBuilder", name := "<init>", desc := "()V" } : MethodName)) ∈ WD := wdT1 202 rfl rfl
theorem wd223 : (Cond.code ({ cls := "java/lang/StringBuilder", name := "<init>", desc := "()V" } : MethodName) prog_28_method_1_code (1 : Nat) (Option.none : Option ClassFile.FieldType)) ∈ WD := wdT1 203 rfl rfl
theorem wd224 : (Cond.methodLink "java/lang/StringBuilder" (1 : Nat) ({ cls := "java/lang/AbstractStringBuilder", name := "<init>", desc := "(I)V" } : MethodName)) ∈ WD := wdT1 204 rfl rfl
theorem wd225 : (Cond.instanceMethod ({ cls := "java/lang/AbstractStringBuilder", name := "<init>", desc := "(I)V" } : MethodName)) ∈ WD := wdT1 205 rfl rfl
theorem wd226 : (Cond.code ({ cls := "java/lang/AbstractStringBuilder", name := "<init>", desc := "(I)V" } : MethodName) prog_12_method_2_code (2 : Nat) (Option.none : Option ClassFile.FieldType)) ∈ WD := wdT1 206 rfl rfl
theorem wd227 : (Cond.methodLink "java/lang/AbstractStringBuilder" (3 : Nat) ({ cls := "java/lang/Object", name := "<init>", desc := "()V" } : MethodName)) ∈ WD := wdT1 207 rfl rfl
theorem wd228 : (Cond.fieldLink "java/lang/AbstractStringBuilder" (18 : Nat) "java/lang/String" "COMPACT_STRINGS" "Z") ∈ WD := wdT1 208 rfl rfl
theorem wd230 : (Cond.methodLink "java/lang/AbstractStringBuilder" (26 : Nat) ({ cls := "java/lang/StringUTF16", name := "newBytesFor", desc := "(I)[B" } : MethodName)) ∈ WD := wdT1 210 rfl rfl
theorem wd231 : (Cond.static ({ cls := "java/lang/StringUTF16", name := "newBytesFor", desc := "(I)[B" } : MethodName)) ∈ WD := wdT1 211 rfl rfl
theorem wd232 : (Cond.code ({ cls := "java/lang/StringUTF16", name := "newBytesFor", desc := "(I)[B" } : MethodName) prog_30_method_2_code (1 : Nat) (Option.some (ClassFile.FieldType.array ClassFile.FieldType.byte))) ∈ WD := wdT1 212 rfl rfl
theorem wd237 : (Cond.fieldLink "java/lang/AbstractStringBuilder" (15 : Nat) "java/lang/AbstractStringBuilder" "value" "[B") ∈ WD := wdT1 217 rfl rfl
theorem wd238 : (Cond.fieldLink "java/lang/AbstractStringBuilder" (22 : Nat) "java/lang/AbstractStringBuilder" "coder" "B") ∈ WD := wdT1 218 rfl rfl
theorem wd239 : (Cond.fieldLink "java/lang/String" (1048 : Nat) "java/lang/AbstractStringBuilder" "maybeLatin1" "Z") ∈ WD := wdT1 219 rfl rfl
theorem wd240 : (Cond.fieldLink "java/lang/AbstractStringBuilder" (79 : Nat) "java/lang/AbstractStringBuilder" "count" "I") ∈ WD := wdT1 220 rfl rfl
theorem wd249 : (Cond.superclass "java/lang/StringBuilder" "java/lang/AbstractStringBuilder") ∈ WD := wdT1 229 rfl rfl
theorem wd250 : (Cond.methodLink "RestMill" (65 : Nat) ({ cls := "RestMill$Moduli", name := "insert", desc := "(I)V" } : MethodName)) ∈ WD := wdT1 230 rfl rfl
theorem wd281 : (Cond.methodLink "RestMill" (71 : Nat) ({ cls := "RestMill$Moduli", name := "setChecks", desc := "(I)V" } : MethodName)) ∈ WD := wdT2 21 rfl rfl
theorem wd293 : (Cond.fieldLink "RestMill" (43 : Nat) "RestMill" "scriptReader" "LRestMill$ScriptReader;") ∈ WD := wdT2 33 rfl rfl
theorem wd296 : (Cond.fieldLink "RestMill" (57 : Nat) "RestMill" "output" "Ljava/lang/StringBuilder;") ∈ WD := wdT2 36 rfl rfl
theorem wd322 : (Cond.methodLink "RestMillLaw" (71 : Nat) ({ cls := "RestMill", name := "count", desc := "(I)I" } : MethodName)) ∈ WD := wdT2 62 rfl rfl
theorem wd323 : (Cond.instanceMethod ({ cls := "RestMill", name := "count", desc := "(I)I" } : MethodName)) ∈ WD := wdT2 63 rfl rfl
theorem wd324 : (Cond.selects "RestMill" ({ cls := "RestMill", name := "count", desc := "(I)I" } : MethodName) ({ cls := "RestMill", name := "count", desc := "(I)I" } : MethodName)) ∈ WD := wdT2 64 rfl rfl
theorem wd418 : (Cond.methodLink "RestMillLaw" (133 : Nat) ({ cls := "RestMill", name := "account", desc := "(I)I" } : MethodName)) ∈ WD := wdT2 158 rfl rfl
theorem wd419 : (Cond.instanceMethod ({ cls := "RestMill", name := "account", desc := "(I)I" } : MethodName)) ∈ WD := wdT2 159 rfl rfl
theorem wd420 : (Cond.selects "RestMill" ({ cls := "RestMill", name := "account", desc := "(I)I" } : MethodName) ({ cls := "RestMill", name := "account", desc := "(I)I" } : MethodName)) ∈ WD := wdT2 160 rfl rfl
theorem wd426 : (Cond.methodLink "RestMillLaw" (78 : Nat) ({ cls := "RestMill", name := "bound", desc := "(I)J" } : MethodName)) ∈ WD := wdT2 166 rfl rfl
theorem wd427 : (Cond.instanceMethod ({ cls := "RestMill", name := "bound", desc := "(I)J" } : MethodName)) ∈ WD := wdT2 167 rfl rfl
theorem wd428 : (Cond.selects "RestMill" ({ cls := "RestMill", name := "bound", desc := "(I)J" } : MethodName) ({ cls := "RestMill", name := "bound", desc := "(I)J" } : MethodName)) ∈ WD := wdT2 168 rfl rfl
theorem wd431 : (Cond.methodLink "RestMillLaw" (75 : Nat) ({ cls := "RestMill", name := "modulus", desc := "(I)I" } : MethodName)) ∈ WD := wdT2 171 rfl rfl
theorem wd432 : (Cond.instanceMethod ({ cls := "RestMill", name := "modulus", desc := "(I)I" } : MethodName)) ∈ WD := wdT2 172 rfl rfl
theorem wd433 : (Cond.selects "RestMill" ({ cls := "RestMill", name := "modulus", desc := "(I)I" } : MethodName) ({ cls := "RestMill", name := "modulus", desc := "(I)I" } : MethodName)) ∈ WD := wdT2 173 rfl rfl
theorem wd455 : (Cond.methodLink "RestMillLaw" (87 : Nat) ({ cls := "RestMill", name := "rest", desc := "(II)I" } : MethodName)) ∈ WD := wdT2 195 rfl rfl
theorem wd456 : (Cond.instanceMethod ({ cls := "RestMill", name := "rest", desc := "(II)I" } : MethodName)) ∈ WD := wdT2 196 rfl rfl
theorem wd457 : (Cond.selects "RestMill" ({ cls := "RestMill", name := "rest", desc := "(II)I" } : MethodName) ({ cls := "RestMill", name := "rest", desc := "(II)I" } : MethodName)) ∈ WD := wdT2 197 rfl rfl
theorem wd469 : (Cond.methodLink "RestMillLaw" (104 : Nat) ({ cls := "RestMill", name := "number", desc := "(I)J" } : MethodName)) ∈ WD := wdT2 209 rfl rfl
theorem wd470 : (Cond.instanceMethod ({ cls := "RestMill", name := "number", desc := "(I)J" } : MethodName)) ∈ WD := wdT2 210 rfl rfl
theorem wd471 : (Cond.selects "RestMill" ({ cls := "RestMill", name := "number", desc := "(I)J" } : MethodName) ({ cls := "RestMill", name := "number", desc := "(I)J" } : MethodName)) ∈ WD := wdT2 211 rfl rfl
theorem wd474 : (Cond.methodLink "RestMillLaw" (107 : Nat) ({ cls := "RestMill", name := "isSound", desc := "(I)Z" } : MethodName)) ∈ WD := wdT2 214 rfl rfl
theorem wd475 : (Cond.instanceMethod ({ cls := "RestMill", name := "isSound", desc := "(I)Z" } : MethodName)) ∈ WD := wdT2 215 rfl rfl
theorem wd476 : (Cond.selects "RestMill" ({ cls := "RestMill", name := "isSound", desc := "(I)Z" } : MethodName) ({ cls := "RestMill", name := "isSound", desc := "(I)Z" } : MethodName)) ∈ WD := wdT2 216 rfl rfl
theorem wd479 : (Cond.methodLink "RestMillLaw" (196 : Nat) ({ cls := "RestMill", name := "compare", desc := "(II)I" } : MethodName)) ∈ WD := wdT2 219 rfl rfl
theorem wd480 : (Cond.instanceMethod ({ cls := "RestMill", name := "compare", desc := "(II)I" } : MethodName)) ∈ WD := wdT2 220 rfl rfl
theorem wd481 : (Cond.selects "RestMill" ({ cls := "RestMill", name := "compare", desc := "(II)I" } : MethodName) ({ cls := "RestMill", name := "compare", desc := "(II)I" } : MethodName)) ∈ WD := wdT2 221 rfl rfl
theorem wd487 : (Cond.methodLink "RestMillLaw" (204 : Nat) ({ cls := "RestMill", name := "extend", desc := "(IIZ)I" } : MethodName)) ∈ WD := wdT2 227 rfl rfl
theorem wd488 : (Cond.instanceMethod ({ cls := "RestMill", name := "extend", desc := "(IIZ)I" } : MethodName)) ∈ WD := wdT2 228 rfl rfl
theorem wd489 : (Cond.selects "RestMill" ({ cls := "RestMill", name := "extend", desc := "(IIZ)I" } : MethodName) ({ cls := "RestMill", name := "extend", desc := "(IIZ)I" } : MethodName)) ∈ WD := wdT2 229 rfl rfl
theorem wd495 : (Cond.methodLink "RestMillLaw" (162 : Nat) ({ cls := "RestMill", name := "gap", desc := "()J" } : MethodName)) ∈ WD := wdT2 235 rfl rfl
theorem wd496 : (Cond.instanceMethod ({ cls := "RestMill", name := "gap", desc := "()J" } : MethodName)) ∈ WD := wdT2 236 rfl rfl
theorem wd497 : (Cond.selects "RestMill" ({ cls := "RestMill", name := "gap", desc := "()J" } : MethodName) ({ cls := "RestMill", name := "gap", desc := "()J" } : MethodName)) ∈ WD := wdT2 237 rfl rfl
theorem wd525 : (Cond.methodLink "RestMillLaw" (110 : Nat) ({ cls := "RestMill", name := "faults", desc := "(I)I" } : MethodName)) ∈ WD := wdT3 25 rfl rfl
theorem wd526 : (Cond.instanceMethod ({ cls := "RestMill", name := "faults", desc := "(I)I" } : MethodName)) ∈ WD := wdT3 26 rfl rfl
theorem wd527 : (Cond.selects "RestMill" ({ cls := "RestMill", name := "faults", desc := "(I)I" } : MethodName) ({ cls := "RestMill", name := "faults", desc := "(I)I" } : MethodName)) ∈ WD := wdT3 27 rfl rfl
theorem wd541 : (Cond.methodLink "RestMillLaw" (216 : Nat) ({ cls := "RestMill", name := "numberWith", desc := "(III)J" } : MethodName)) ∈ WD := wdT3 41 rfl rfl
theorem wd542 : (Cond.instanceMethod ({ cls := "RestMill", name := "numberWith", desc := "(III)J" } : MethodName)) ∈ WD := wdT3 42 rfl rfl
theorem wd543 : (Cond.selects "RestMill" ({ cls := "RestMill", name := "numberWith", desc := "(III)J" } : MethodName) ({ cls := "RestMill", name := "numberWith", desc := "(III)J" } : MethodName)) ∈ WD := wdT3 43 rfl rfl
theorem wd553 : (Cond.methodLink "RestMillLaw" (181 : Nat) ({ cls := "RestMill", name := "set", desc := "(II)I" } : MethodName)) ∈ WD := wdT3 53 rfl rfl
theorem wd554 : (Cond.instanceMethod ({ cls := "RestMill", name := "set", desc := "(II)I" } : MethodName)) ∈ WD := wdT3 54 rfl rfl
theorem wd555 : (Cond.selects "RestMill" ({ cls := "RestMill", name := "set", desc := "(II)I" } : MethodName) ({ cls := "RestMill", name := "set", desc := "(II)I" } : MethodName)) ∈ WD := wdT3 55 rfl rfl
theorem wd614 : (Cond.methodLink "RestMillLaw" (219 : Nat) ({ cls := "RestMill", name := "hurt", desc := "(III)I" } : MethodName)) ∈ WD := wdT3 114 rfl rfl
theorem wd615 : (Cond.instanceMethod ({ cls := "RestMill", name := "hurt", desc := "(III)I" } : MethodName)) ∈ WD := wdT3 115 rfl rfl
theorem wd616 : (Cond.selects "RestMill" ({ cls := "RestMill", name := "hurt", desc := "(III)I" } : MethodName) ({ cls := "RestMill", name := "hurt", desc := "(III)I" } : MethodName)) ∈ WD := wdT3 116 rfl rfl
theorem wd620 : (Cond.methodLink "RestMillLaw" (222 : Nat) ({ cls := "RestMill", name := "mend", desc := "(I)I" } : MethodName)) ∈ WD := wdT3 120 rfl rfl
theorem wd621 : (Cond.instanceMethod ({ cls := "RestMill", name := "mend", desc := "(I)I" } : MethodName)) ∈ WD := wdT3 121 rfl rfl
theorem wd622 : (Cond.selects "RestMill" ({ cls := "RestMill", name := "mend", desc := "(I)I" } : MethodName) ({ cls := "RestMill", name := "mend", desc := "(I)I" } : MethodName)) ∈ WD := wdT3 122 rfl rfl
theorem wd629 : (Cond.methodLink "RestMillLaw" (213 : Nat) ({ cls := "RestMill", name := "saveState", desc := "()I" } : MethodName)) ∈ WD := wdT3 129 rfl rfl
theorem wd630 : (Cond.instanceMethod ({ cls := "RestMill", name := "saveState", desc := "()I" } : MethodName)) ∈ WD := wdT3 130 rfl rfl
theorem wd631 : (Cond.selects "RestMill" ({ cls := "RestMill", name := "saveState", desc := "()I" } : MethodName) ({ cls := "RestMill", name := "saveState", desc := "()I" } : MethodName)) ∈ WD := wdT3 131 rfl rfl
theorem wd634 : (Cond.methodLink "RestMillLaw" (225 : Nat) ({ cls := "RestMill", name := "restoreState", desc := "()I" } : MethodName)) ∈ WD := wdT3 134 rfl rfl
theorem wd635 : (Cond.instanceMethod ({ cls := "RestMill", name := "restoreState", desc := "()I" } : MethodName)) ∈ WD := wdT3 135 rfl rfl
theorem wd636 : (Cond.selects "RestMill" ({ cls := "RestMill", name := "restoreState", desc := "()I" } : MethodName) ({ cls := "RestMill", name := "restoreState", desc := "()I" } : MethodName)) ∈ WD := wdT3 136 rfl rfl
theorem wd657 : (Cond.methodLink "RestMillLaw" (49 : Nat) ({ cls := "RestMillLaw", name := "draw", desc := "([IIII)I" } : MethodName)) ∈ WD := wdT3 157 rfl rfl
theorem wd658 : (Cond.static ({ cls := "RestMillLaw", name := "draw", desc := "([IIII)I" } : MethodName)) ∈ WD := wdT3 158 rfl rfl
theorem wd659 : (Cond.code ({ cls := "RestMillLaw", name := "draw", desc := "([IIII)I" } : MethodName) method_3_code (4 : Nat) (Option.some ClassFile.FieldType.int)) ∈ WD := wdT3 159 rfl rfl
theorem wd660 : (Cond.methodLink "RestMillLaw" (8 : Nat) ({ cls := "RestMillLaw", name := "cell", desc := "([II)I" } : MethodName)) ∈ WD := wdT3 160 rfl rfl
theorem wd661 : (Cond.static ({ cls := "RestMillLaw", name := "cell", desc := "([II)I" } : MethodName)) ∈ WD := wdT3 161 rfl rfl
theorem wd662 : (Cond.code ({ cls := "RestMillLaw", name := "cell", desc := "([II)I" } : MethodName) method_2_code (2 : Nat) (Option.some ClassFile.FieldType.int)) ∈ WD := wdT3 162 rfl rfl
theorem wd663 : (Cond.constant "RestMillLaw" (7 : Nat) (131071 : Int32)) ∈ WD := wdT3 163 rfl rfl
theorem wd664 : (Cond.constant "RestMillLaw" (14 : Nat) (2147483647 : Int32)) ∈ WD := wdT3 164 rfl rfl
theorem wd665 : (Cond.methodLink "RestMillLaw" (177 : Nat) ({ cls := "RestMillLaw", name := "loaded", desc := "(LRestMill;Ljava/lang/String;)I" } : MethodName)) ∈ WD := wdT3 165 rfl rfl
theorem wd666 : (Cond.static ({ cls := "RestMillLaw", name := "loaded", desc := "(LRestMill;Ljava/lang/String;)I" } : MethodName)) ∈ WD := wdT3 166 rfl rfl
theorem wd667 : (Cond.code ({ cls := "RestMillLaw", name := "loaded", desc := "(LRestMill;Ljava/lang/String;)I" } : MethodName) method_5_code (2 : Nat) (Option.some ClassFile.FieldType.int)) ∈ WD := wdT3 167 rfl rfl
theorem wd668 : (Cond.methodLink "RestMillLaw" (35 : Nat) ({ cls := "RestMillLaw", name := "feeds", desc := "(LRestMill;Ljava/lang/String;)V" } : MethodName)) ∈ WD := wdT3 168 rfl rfl
theorem wd669 : (Cond.static ({ cls := "RestMillLaw", name := "feeds", desc := "(LRestMill;Ljava/lang/String;)V" } : MethodName)) ∈ WD := wdT3 169 rfl rfl
theorem wd670 : (Cond.code ({ cls := "RestMillLaw", name := "feeds", desc := "(LRestMill;Ljava/lang/String;)V" } : MethodName) method_4_code (5 : Nat) (Option.none : Option ClassFile.FieldType)) ∈ WD := wdT3 170 rfl rfl
theorem wd671 : (Cond.methodLink "RestMillLaw" (15 : Nat) ({ cls := "java/lang/String", name := "length", desc := "()I" } : MethodName)) ∈ WD := wdT3 171 rfl rfl
theorem wd672 : (Cond.instanceMethod ({ cls := "java/lang/String", name := "length", desc := "()I" } : MethodName)) ∈ WD := wdT3 172 rfl rfl
theorem wd673 : (Cond.selects "java/lang/String" ({ cls := "java/lang/String", name := "length", desc := "()I" } : MethodName) ({ cls := "java/lang/String", name := "length", desc := "()I" } : MethodName)) ∈ WD := wdT3 173 rfl rfl
theorem wd674 : (Cond.code ({ cls := "java/lang/String", name := "length", desc := "()I" } : MethodName) prog_27_method_54_code (1 : Nat) (Option.some ClassFile.FieldType.int)) ∈ WD := wdT3 174 rfl rfl
theorem wd675 : (Cond.methodLink "java/lang/String" (335 : Nat) ({ cls := "java/lang/String", name := "coder", desc := "()B" } : MethodName)) ∈ WD := wdT3 175 rfl rfl
theorem wd676 : (Cond.instanceMethod ({ cls := "java/lang/String", name := "coder", desc := "()B" } : MethodName)) ∈ WD := wdT3 176 rfl rfl
theorem wd677 : (Cond.selects "java/lang/String" ({ cls := "java/lang/String", name := "coder", desc := "()B" } : MethodName) ({ cls := "java/lang/String", name := "coder", desc := "()B" } : MethodName)) ∈ WD := wdT3 177 rfl rfl
theorem wd678 : (Cond.code ({ cls := "java/lang/String", name := "coder", desc := "()B" } : MethodName) prog_27_method_152_code (1 : Nat) (Option.some ClassFile.FieldType.byte)) ∈ WD := wdT3 178 rfl rfl
theorem wd679 : (Cond.fieldLink "java/lang/String" (38 : Nat) "java/lang/String" "COMPACT_STRINGS" "Z") ∈ WD := wdT3 179 rfl rfl
theorem wd680 : (Cond.methodLink "RestMillLaw" (21 : Nat) ({ cls := "java/lang/String", name := "charAt", desc := "(I)C" } : MethodName)) ∈ WD := wdT3 180 rfl rfl
theorem wd681 : (Cond.instanceMethod ({ cls := "java/lang/String", name := "charAt", desc := "(I)C" } : MethodName)) ∈ WD := wdT3 181 rfl rfl
theorem wd682 : (Cond.selects "java/lang/String" ({ cls := "java/lang/String", name := "charAt", desc := "(I)C" } : MethodName) ({ cls := "java/lang/String", name := "charAt", desc := "(I)C" } : MethodName)) ∈ WD := wdT3 182 rfl rfl
theorem wd683 : (Cond.code ({ cls := "java/lang/String", name := "charAt", desc := "(I)C" } : MethodName) prog_27_method_56_code (2 : Nat) (Option.some ClassFile.FieldType.char)) ∈ WD := wdT3 183 rfl rfl
theorem wd684 : (Cond.methodLink "java/lang/String" (492 : Nat) ({ cls := "java/lang/String", name := "isLatin1", desc := "()Z" } : MethodName)) ∈ WD := wdT3 184 rfl rfl
theorem wd685 : (Cond.instanceMethod ({ cls := "java/lang/String", name := "isLatin1", desc := "()Z" } : MethodName)) ∈ WD := wdT3 185 rfl rfl
theorem wd686 : (Cond.selects "java/lang/String" ({ cls := "java/lang/String", name := "isLatin1", desc := "()Z" } : MethodName) ({ cls := "java/lang/String", name := "isLatin1", desc := "()Z" } : MethodName)) ∈ WD := wdT3 186 rfl rfl
theorem wd687 : (Cond.code ({ cls := "java/lang/String", name := "isLatin1", desc := "()Z" } : MethodName) prog_27_method_154_code (1 : Nat) (Option.some ClassFile.FieldType.boolean)) ∈ WD := wdT3 187 rfl rfl
theorem wd688 : (Cond.methodLink "java/lang/String" (495 : Nat) ({ cls := "java/lang/StringLatin1", name := "charAt", desc := "([BI)C" } : MethodName)) ∈ WD := wdT3 188 rfl rfl
theorem wd689 : (Cond.static ({ cls := "java/lang/StringLatin1", name := "charAt", desc := "([BI)C" } : MethodName)) ∈ WD := wdT3 189 rfl rfl
theorem wd690 : (Cond.code ({ cls := "java/lang/StringLatin1", name := "charAt", desc := "([BI)C" } : MethodName) prog_29_method_2_code (2 : Nat) (Option.some ClassFile.FieldType.char)) ∈ WD := wdT3 190 rfl rfl
theorem wd691 : (Cond.methodLink "java/lang/StringLatin1" (9 : Nat) ({ cls := "java/lang/String", name := "checkIndex", desc := "(II)V" } : MethodName)) ∈ WD := wdT3 191 rfl rfl
theorem wd692 : (Cond.static ({ cls := "java/lang/String", name := "checkIndex", desc := "(II)V" } : MethodName)) ∈ WD := wdT3 192 rfl rfl
theorem wd693 : (Cond.code ({ cls := "java/lang/String", name := "checkIndex", desc := "(II)V" } : MethodName) prog_27_method_155_code (2 : Nat) (Option.none : Option ClassFile.FieldType)) ∈ WD := wdT3 193 rfl rfl
theorem wd694 : (Cond.fieldLink "java/lang/String" (1053 : Nat) "jdk/internal/util/Preconditions" "SIOOBE_FORMATTER" "Ljava/util/function/BiFunction;") ∈ WD := wdT3 194 rfl rfl
theorem wd696 : (Cond.methodLink "java/lang/String" (1059 : Nat) ({ cls := "jdk/internal/util/Preconditions", name := "checkIndex", desc := "(IILjava/util/function/BiFunction;)I" } : MethodName)) ∈ WD := wdT3 196 rfl rfl
theorem wd697 : (Cond.static ({ cls := "jdk/internal/util/Preconditions", name := "checkIndex", desc := "(IILjava/util/function/BiFunction;)I" } : MethodName)) ∈ WD := wdT3 197 rfl rfl
theorem wd698 : (Cond.code ({ cls := "jdk/internal/util/Preconditions", name := "checkIndex", desc := "(IILjava/util/function/BiFunction;)I" } : MethodName) prog_38_method_11_code (3 : Nat) (Option.some ClassFile.FieldType.int)) ∈ WD := wdT3 198 rfl rfl
theorem wd699 : (Cond.methodLink "java/lang/String" (498 : Nat) ({ cls := "java/lang/StringUTF16", name := "charAt", desc := "([BI)C" } : MethodName)) ∈ WD := wdT3 199 rfl rfl
theorem wd700 : (Cond.static ({ cls := "java/lang/StringUTF16", name := "charAt", desc := "([BI)C" } : MethodName)) ∈ WD := wdT3 200 rfl rfl
theorem wd701 : (Cond.code ({ cls := "java/lang/StringUTF16", name := "charAt", desc := "([BI)C" } : MethodName) prog_30_method_83_code (2 : Nat) (Option.some ClassFile.FieldType.char)) ∈ WD := wdT3 201 rfl rfl
theorem wd718 : (Cond.methodLink "RestMillLaw" (25 : Nat) ({ cls := "RestMill", name := "appendInput", desc := "(IIIII)I" } : MethodName)) ∈ WD := wdT3 218 rfl rfl
theorem wd719 : (Cond.instanceMethod ({ cls := "RestMill", name := "appendInput", desc := "(IIIII)I" } : MethodName)) ∈ WD := wdT3 219 rfl rfl
theorem wd720 : (Cond.selects "RestMill" ({ cls := "RestMill", name := "appendInput", desc := "(IIIII)I" } : MethodName) ({ cls := "RestMill", name := "appendInput", desc := "(IIIII)I" } : MethodName)) ∈ WD := wdT3 220 rfl rfl
theorem wd726 : (Cond.methodLink "RestMillLaw" (31 : Nat) ({ cls := "RestMill", name := "truncateInput", desc := "(I)Z" } : MethodName)) ∈ WD := wdT3 226 rfl rfl
theorem wd727 : (Cond.instanceMethod ({ cls := "RestMill", name := "truncateInput", desc := "(I)Z" } : MethodName)) ∈ WD := wdT3 227 rfl rfl
theorem wd728 : (Cond.selects "RestMill" ({ cls := "RestMill", name := "truncateInput", desc := "(I)Z" } : MethodName) ({ cls := "RestMill", name := "truncateInput", desc := "(I)Z" } : MethodName)) ∈ WD := wdT3 228 rfl rfl
theorem wd730 : (Cond.methodLink "RestMillLaw" (39 : Nat) ({ cls := "RestMill", name := "loadMill", desc := "()I" } : MethodName)) ∈ WD := wdT3 230 rfl rfl
theorem wd731 : (Cond.instanceMethod ({ cls := "RestMill", name := "loadMill", desc := "()I" } : MethodName)) ∈ WD := wdT3 231 rfl rfl
theorem wd732 : (Cond.selects "RestMill" ({ cls := "RestMill", name := "loadMill", desc := "()I" } : MethodName) ({ cls := "RestMill", name := "loadMill", desc := "()I" } : MethodName)) ∈ WD := wdT3 232 rfl rfl
theorem wd763 : (Cond.methodLink "RestMill$Tokens" (101 : Nat) ({ cls := "java/lang/String", name := "length", desc := "()I" } : MethodName)) ∈ WD := wdT4 23 rfl rfl
theorem wd764 : (Cond.methodLink "RestMill$Tokens" (104 : Nat) ({ cls := "java/lang/String", name := "charAt", desc := "(I)C" } : MethodName)) ∈ WD := wdT4 24 rfl rfl
theorem wd779 : (Cond.methodLink "RestMill$Tokens" (74 : Nat) ({ cls := "java/lang/String", name := "indexOf", desc := "(I)I" } : MethodName)) ∈ WD := wdT4 39 rfl rfl
theorem wd780 : (Cond.instanceMethod ({ cls := "java/lang/String", name := "indexOf", desc := "(I)I" } : MethodName)) ∈ WD := wdT4 40 rfl rfl
theorem wd781 : (Cond.selects "java/lang/String" ({ cls := "java/lang/String", name := "indexOf", desc := "(I)I" } : MethodName) ({ cls := "java/lang/String", name := "indexOf", desc := "(I)I" } : MethodName)) ∈ WD := wdT4 41 rfl rfl
theorem wd782 : (Cond.code ({ cls := "java/lang/String", name := "indexOf", desc := "(I)I" } : MethodName) prog_27_method_79_code (2 : Nat) (Option.some ClassFile.FieldType.int)) ∈ WD := wdT4 42 rfl rfl
theorem wd783 : (Cond.methodLink "java/lang/String" (633 : Nat) ({ cls := "java/lang/String", name := "indexOf", desc := "(II)I" } : MethodName)) ∈ WD := wdT4 43 rfl rfl
theorem wd784 : (Cond.instanceMethod ({ cls := "java/lang/String", name := "indexOf", desc := "(II)I" } : MethodName)) ∈ WD := wdT4 44 rfl rfl
theorem wd785 : (Cond.selects "java/lang/String" ({ cls := "java/lang/String", name := "indexOf", desc := "(II)I" } : MethodName) ({ cls := "java/lang/String", name := "indexOf", desc := "(II)I" } : MethodName)) ∈ WD := wdT4 45 rfl rfl
theorem wd786 : (Cond.code ({ cls := "java/lang/String", name := "indexOf", desc := "(II)I" } : MethodName) prog_27_method_80_code (3 : Nat) (Option.some ClassFile.FieldType.int)) ∈ WD := wdT4 46 rfl rfl
theorem wd787 : (Cond.methodLink "java/lang/String" (505 : Nat) ({ cls := "java/lang/String", name := "length", desc := "()I" } : MethodName)) ∈ WD := wdT4 47 rfl rfl
theorem wd788 : (Cond.methodLink "java/lang/String" (637 : Nat) ({ cls := "java/lang/StringLatin1", name := "indexOf", desc := "([BIII)I" } : MethodName)) ∈ WD := wdT4 48 rfl rfl
theorem wd789 : (Cond.static ({ cls := "java/lang/StringLatin1", name := "indexOf", desc := "([BIII)I" } : MethodName)) ∈ WD := wdT4 49 rfl rfl
theorem wd790 : (Cond.code ({ cls := "java/lang/StringLatin1", name := "indexOf", desc := "([BIII)I" } : MethodName) prog_29_method_22_code (4 : Nat) (Option.some ClassFile.FieldType.int)) ∈ WD := wdT4 50 rfl rfl
theorem wd791 : (Cond.methodLink "java/lang/StringLatin1" (88 : Nat) ({ cls := "java/lang/StringLatin1", name := "canEncode", desc := "(I)Z" } : MethodName)) ∈ WD := wdT4 51 rfl rfl
theorem wd792 : (Cond.static ({ cls := "java/lang/StringLatin1", name := "canEncode", desc := "(I)Z" } : MethodName)) ∈ WD := wdT4 52 rfl rfl
theorem wd793 : (Cond.code ({ cls := "java/lang/StringLatin1", name := "canEncode", desc := "(I)Z" } : MethodName) prog_29_method_4_code (1 : Nat) (Option.some ClassFile.FieldType.boolean)) ∈ WD := wdT4 53 rfl rfl
theorem wd794 : (Cond.methodLink "java/lang/StringLatin1" (92 : Nat) ({ cls := "java/lang/Math", name := "max", desc := "(II)I" } : MethodName)) ∈ WD := wdT4 54 rfl rfl
theorem wd795 : (Cond.static ({ cls := "java/lang/Math", name := "max", desc := "(II)I" } : MethodName)) ∈ WD := wdT4 55 rfl rfl
theorem wd797 : (Cond.methodLink "java/lang/StringLatin1" (38 : Nat) ({ cls := "java/lang/Math", name := "min", desc := "(II)I" } : MethodName)) ∈ WD := wdT4 57 rfl rfl
theorem wd798 : (Cond.methodLink "java/lang/StringLatin1" (95 : Nat) ({ cls := "java/lang/StringLatin1", name := "indexOfChar", desc := "([BIII)I" } : MethodName)) ∈ WD := wdT4 58 rfl rfl
theorem wd799 : (Cond.static ({ cls := "java/lang/StringLatin1", name := "indexOfChar", desc := "([BIII)I" } : MethodName)) ∈ WD := wdT4 59 rfl rfl
theorem wd800 : (Cond.code ({ cls := "java/lang/StringLatin1", name := "indexOfChar", desc := "([BIII)I" } : MethodName) prog_29_method_23_code (6 : Nat) (Option.some ClassFile.FieldType.int)) ∈ WD := wdT4 60 rfl rfl
theorem wd801 : (Cond.methodLink "java/lang/String" (640 : Nat) ({ cls := "java/lang/StringUTF16", name := "indexOf", desc := "([BIII)I" } : MethodName)) ∈ WD := wdT4 61 rfl rfl
theorem wd802 : (Cond.static ({ cls := "java/lang/StringUTF16", name := "indexOf", desc := "([BIII)I" } : MethodName)) ∈ WD := wdT4 62 rfl rfl
theorem wd803 : (Cond.code ({ cls := "java/lang/StringUTF16", name := "indexOf", desc := "([BIII)I" } : MethodName) prog_30_method_40_code (4 : Nat) (Option.some ClassFile.FieldType.int)) ∈ WD := wdT4 63 rfl rfl
theorem wd927 : (Cond.methodLink "RestMillLaw" (173 : Nat) ({ cls := "RestMillLaw", name := "setup", desc := "([I)Ljava/lang/String;" } : MethodName)) ∈ WD := wdT4 187 rfl rfl
theorem wd928 : (Cond.static ({ cls := "RestMillLaw", name := "setup", desc := "([I)Ljava/lang/String;" } : MethodName)) ∈ WD := wdT4 188 rfl rfl
theorem wd929 : (Cond.code ({ cls := "RestMillLaw", name := "setup", desc := "([I)Ljava/lang/String;" } : MethodName) method_6_code (6 : Nat) (Option.some (ClassFile.FieldType.object "java/lang/String"))) ∈ WD := wdT4 189 rfl rfl
theorem wd930 : (Cond.classLink "RestMillLaw" (42 : Nat) "java/lang/StringBuilder") ∈ WD := wdT4 190 rfl rfl
theorem wd932 : (Cond.methodLink "RestMillLaw" (46 : Nat) ({ cls := "java/lang/StringBuilder", name := "<init>", desc := "(Ljava/lang/String;)V" } : MethodName)) ∈ WD := wdT4 192 rfl rfl
theorem wd933 : (Cond.instanceMethod ({ cls := "java/lang/StringBuilder", name := "<init>", desc := "(Ljava/lang/String;)V" } : MethodName)) ∈ WD := wdT4 193 rfl rfl
theorem wd934 : (Cond.code ({ cls := "java/lang/StringBuilder", name := "<init>", desc := "(Ljava/lang/String;)V" } : MethodName) prog_28_method_3_code (2 : Nat) (Option.none : Option ClassFile.FieldType)) ∈ WD := wdT4 194 rfl rfl
theorem wd935 : (Cond.methodLink "java/lang/StringBuilder" (7 : Nat) ({ cls := "java/lang/AbstractStringBuilder", name := "<init>", desc := "(Ljava/lang/String;)V" } : MethodName)) ∈ WD := wdT4 195 rfl rfl
theorem wd936 : (Cond.instanceMethod ({ cls := "java/lang/AbstractStringBuilder", name := "<init>", desc := "(Ljava/lang/String;)V" } : MethodName)) ∈ WD := wdT4 196 rfl rfl
theorem wd937 : (Cond.code ({ cls := "java/lang/AbstractStringBuilder", name := "<init>", desc := "(Ljava/lang/String;)V" } : MethodName) prog_12_method_3_code (5 : Nat) (Option.none : Option ClassFile.FieldType)) ∈ WD := wdT4 197 rfl rfl
theorem wd938 : (Cond.methodLink "java/lang/AbstractStringBuilder" (32 : Nat) ({ cls := "java/lang/String", name := "length", desc := "()I" } : MethodName)) ∈ WD := wdT4 198 rfl rfl
theorem wd939 : (Cond.constant "java/lang/AbstractStringBuilder" (38 : Nat) (2147483631 : Int32)) ∈ WD := wdT4 199 rfl rfl
theorem wd940 : (Cond.constant "java/lang/AbstractStringBuilder" (39 : Nat) (2147483647 : Int32)) ∈ WD := wdT4 200 rfl rfl
theorem wd941 : (Cond.methodLink "java/lang/AbstractStringBuilder" (40 : Nat) ({ cls := "java/lang/String", name := "coder", desc := "()B" } : MethodName)) ∈ WD := wdT4 201 rfl rfl
theorem wd942 : (Cond.methodLink "java/lang/AbstractStringBuilder" (43 : Nat) ({ cls := "java/lang/AbstractStringBuilder", name := "append", desc := "(Ljava/lang/String;)Ljava/lang/AbstractStringBuilder;" } : MethodName)) ∈ WD := wdT4 202 rfl rfl
theorem wd943 : (Cond.instanceMethod ({ cls := "java/lang/AbstractStringBuilder", name := "append", desc := "(Ljava/lang/String;)Ljava/lang/AbstractStringBuilder;" } : MethodName)) ∈ WD := wdT4 203 rfl rfl
theorem wd944 : (Cond.sameMethod "java/lang/AbstractStringBuilder" "java/lang/AbstractStringBuilder" "append" "(Ljava/lang/String;)Ljava/lang/AbstractStringBuilder;") ∈ WD := wdT4 204 rfl rfl
theorem wd945 : (Cond.selects "java/lang/StringBuilder" ({ cls := "java/lang/AbstractStringBuilder", name := "append", desc := "(Ljava/lang/String;)Ljava/lang/AbstractStringBuilder;" } : MethodName) ({ cls := "java/lang/StringBuilder", name := "append", desc := "(Ljava/lang/String;)Ljava/lang/AbstractStringBuilder;" } : MethodName)) ∈ WD := wdT4 205 rfl rfl
theorem wd946 : (Cond.instanceMethod ({ cls := "java/lang/StringBuilder", name := "append", desc := "(Ljava/lang/String;)Ljava/lang/AbstractStringBuilder;" } : MethodName)) ∈ WD := wdT4 206 rfl rfl
theorem wd947 : (Cond.code ({ cls := "java/lang/StringBuilder", name := "append", desc := "(Ljava/lang/String;)Ljava/lang/AbstractStringBuilder;" } : MethodName) prog_28_method_80_code (2 : Nat) (Option.some (ClassFile.FieldType.object "java/lang/AbstractStringBuilder"))) ∈ WD := wdT4 207 rfl rfl
theorem wd948 : (Cond.methodLink "java/lang/StringBuilder" (23 : Nat) ({ cls := "java/lang/StringBuilder", name := "append", desc := "(Ljava/lang/String;)Ljava/lang/StringBuilder;" } : MethodName)) ∈ WD := wdT4 208 rfl rfl
theorem wd949 : (Cond.instanceMethod ({ cls := "java/lang/StringBuilder", name := "append", desc := "(Ljava/lang/String;)Ljava/lang/StringBuilder;" } : MethodName)) ∈ WD := wdT4 209 rfl rfl
theorem wd950 : (Cond.selects "java/lang/StringBuilder" ({ cls := "java/lang/StringBuilder", name := "append", desc := "(Ljava/lang/String;)Ljava/lang/StringBuilder;" } : MethodName) ({ cls := "java/lang/StringBuilder", name := "append", desc := "(Ljava/lang/String;)Ljava/lang/StringBuilder;" } : MethodName)) ∈ WD := wdT4 210 rfl rfl
theorem wd951 : (Cond.code ({ cls := "java/lang/StringBuilder", name := "append", desc := "(Ljava/lang/String;)Ljava/lang/StringBuilder;" } : MethodName) prog_28_method_7_code (2 : Nat) (Option.some (ClassFile.FieldType.object "java/lang/StringBuilder"))) ∈ WD := wdT4 211 rfl rfl
theorem wd952 : (Cond.methodLink "java/lang/StringBuilder" (29 : Nat) ({ cls := "java/lang/AbstractStringBuilder", name := "append", desc := "(Ljava/lang/String;)Ljava/lang/AbstractStringBuilder;" } : MethodName)) ∈ WD := wdT4 212 rfl rfl
theorem wd953 : (Cond.code ({ cls := "java/lang/AbstractStringBuilder", name := "append", desc := "(Ljava/lang/String;)Ljava/lang/AbstractStringBuilder;" } : MethodName) prog_12_method_22_code (3 : Nat) (Option.some (ClassFile.FieldType.object "java/lang/AbstractStringBuilder"))) ∈ WD := wdT4 213 rfl rfl
theorem wd954 : (Cond.methodLink "java/lang/AbstractStringBuilder" (204 : Nat) ({ cls := "java/lang/AbstractStringBuilder", name := "appendNull", desc := "()Ljava/lang/AbstractStringBuilder;" } : MethodName)) ∈ WD := wdT4 214 rfl rfl
theorem wd956 : (Cond.instanceMethod ({ cls := "java/lang/AbstractStringBuilder", name := "appendNull", desc := "()Ljava/lang/AbstractStringBuilder;" } : MethodName)) ∈ WD := wdT4 216 rfl rfl
theorem wd957 : (Cond.code ({ cls := "java/lang/AbstractStringBuilder", name := "appendNull", desc := "()Ljava/lang/AbstractStringBuilder;" } : MethodName) prog_12_method_26_code (3 : Nat) (Option.some (ClassFile.FieldType.object "java/lang/AbstractStringBuilder"))) ∈ WD := wdT4 217 rfl rfl
theorem wd958 : (Cond.methodLink "java/lang/AbstractStringBuilder" (100 : Nat) ({ cls := "java/lang/AbstractStringBuilder", name := "ensureCapacityInternal", desc := "(I)V" } : MethodName)) ∈ WD := wdT4 218 rfl rfl
theorem wd960 : (Cond.instanceMethod ({ cls := "java/lang/AbstractStringBuilder", name := "ensureCapacityInternal", desc := "(I)V" } : MethodName)) ∈ WD := wdT4 220 rfl rfl
theorem wd961 : (Cond.code ({ cls := "java/lang/AbstractStringBuilder", name := "ensureCapacityInternal", desc := "(I)V" } : MethodName) prog_12_method_9_code (3 : Nat) (Option.none : Option ClassFile.FieldType)) ∈ WD := wdT4 221 rfl rfl
theorem wd962 : (Cond.methodLink "java/lang/AbstractStringBuilder" (104 : Nat) ({ cls := "java/lang/AbstractStringBuilder", name := "newCapacity", desc := "(I)I" } : MethodName)) ∈ WD := wdT4 222 rfl rfl
theorem wd964 : (Cond.instanceMethod ({ cls := "java/lang/AbstractStringBuilder", name := "newCapacity", desc := "(I)I" } : MethodName)) ∈ WD := wdT4 224 rfl rfl
theorem wd965 : (Cond.code ({ cls := "java/lang/AbstractStringBuilder", name := "newCapacity", desc := "(I)I" } : MethodName) prog_12_method_10_code (6 : Nat) (Option.some ClassFile.FieldType.int)) ∈ WD := wdT4 225 rfl rfl
theorem wd966 : (Cond.methodLink "java/lang/AbstractStringBuilder" (114 : Nat) ({ cls := "jdk/internal/util/ArraysSupport", name := "newLength", desc := "(III)I" } : MethodName)) ∈ WD := wdT4 226 rfl rfl
theorem wd967 : (Cond.static ({ cls := "jdk/internal/util/ArraysSupport", name := "newLength", desc := "(III)I" } : MethodName)) ∈ WD := wdT4 227 rfl rfl
theorem wd968 : (Cond.code ({ cls := "jdk/internal/util/ArraysSupport", name := "newLength", desc := "(III)I" } : MethodName) prog_37_method_27_code (4 : Nat) (Option.some ClassFile.FieldType.int)) ∈ WD := wdT4 228 rfl rfl
theorem wd969 : (Cond.methodLink "jdk/internal/util/ArraysSupport" (194 : Nat) ({ cls := "java/lang/Math", name := "max", desc := "(II)I" } : MethodName)) ∈ WD := wdT4 229 rfl rfl
theorem wd970 : (Cond.constant "jdk/internal/util/ArraysSupport" (200 : Nat) (2147483639 : Int32)) ∈ WD := wdT4 230 rfl rfl
theorem wd971 : (Cond.methodLink "jdk/internal/util/ArraysSupport" (201 : Nat) ({ cls := "jdk/internal/util/ArraysSupport", name := "hugeLength", desc := "(II)I" } : MethodName)) ∈ WD := wdT4 231 rfl rfl
theorem wd972 : (Cond.static ({ cls := "jdk/internal/util/ArraysSupport", name := "hugeLength", desc := "(II)I" } : MethodName)) ∈ WD := wdT4 232 rfl rfl
theorem wd973 : (Cond.code ({ cls := "jdk/internal/util/ArraysSupport", name := "hugeLength", desc := "(II)I" } : MethodName) prog_37_method_28_code (3 : Nat) (Option.some ClassFile.FieldType.int)) ∈ WD := wdT4 233 rfl rfl
theorem wd974 : (Cond.methodLink "java/lang/AbstractStringBuilder" (108 : Nat) ({ cls := "java/util/Arrays", name := "copyOf", desc := "([BI)[B" } : MethodName)) ∈ WD := wdT4 234 rfl rfl
theorem wd975 : (Cond.static ({ cls := "java/util/Arrays", name := "copyOf", desc := "([BI)[B" } : MethodName)) ∈ WD := wdT4 235 rfl rfl
theorem wd976 : (Cond.code ({ cls := "java/util/Arrays", name := "copyOf", desc := "([BI)[B" } : MethodName) prog_35_method_121_code (3 : Nat) (Option.some (ClassFile.FieldType.array ClassFile.FieldType.byte))) ∈ WD := wdT4 236 rfl rfl
theorem wd984 : (Cond.methodLink "java/util/Arrays" (304 : Nat) ({ cls := "java/lang/Math", name := "min", desc := "(II)I" } : MethodName)) ∈ WD := wdT5 4 rfl rfl
theorem wd985 : (Cond.methodLink "java/util/Arrays" (150 : Nat) ({ cls := "java/lang/System", name := "arraycopy", desc := "(Ljava/lang/Object;ILjava/lang/Object;II)V" } : MethodName)) ∈ WD := wdT5 5 rfl rfl
theorem wd986 : (Cond.static ({ cls := "java/lang/System", name := "arraycopy", desc := "(Ljava/lang/Object;ILjava/lang/Object;II)V" } : MethodName)) ∈ WD := wdT5 6 rfl rfl
theorem wd987 : (Cond.native ({ cls := "java/lang/System", name := "arraycopy", desc := "(Ljava/lang/Object;ILjava/lang/Object;II)V" } : MethodName)) ∈ WD := wdT5 7 rfl rfl
theorem wd988 : (Cond.methodLink "java/lang/AbstractStringBuilder" (83 : Nat) ({ cls := "java/lang/AbstractStringBuilder", name := "isLatin1", desc := "()Z" } : MethodName)) ∈ WD := wdT5 8 rfl rfl
theorem wd989 : (Cond.instanceMethod ({ cls := "java/lang/AbstractStringBuilder", name := "isLatin1", desc := "()Z" } : MethodName)) ∈ WD := wdT5 9 rfl rfl
theorem wd990 : (Cond.sameMethod "java/lang/AbstractStringBuilder" "java/lang/AbstractStringBuilder" "isLatin1" "()Z") ∈ WD := wdT5 10 rfl rfl
theorem wd991 : (Cond.selects "java/lang/StringBuilder" ({ cls := "java/lang/AbstractStringBuilder", name := "isLatin1", desc := "()Z" } : MethodName) ({ cls := "java/lang/AbstractStringBuilder", name := "isLatin1", desc := "()Z" } : MethodName)) ∈ WD := wdT5 11 rfl rfl
theorem wd992 : (Cond.code ({ cls := "java/lang/AbstractStringBuilder", name := "isLatin1", desc := "()Z" } : MethodName) prog_12_method_68_code (1 : Nat) (Option.some ClassFile.FieldType.boolean)) ∈ WD := wdT5 12 rfl rfl
theorem wd999 : (Cond.methodLink "java/lang/AbstractStringBuilder" (208 : Nat) ({ cls := "java/lang/AbstractStringBuilder", name := "putStringAt", desc := "(ILjava/lang/String;)V" } : MethodName)) ∈ WD := wdT5 19 rfl rfl
theorem wd1001 : (Cond.instanceMethod ({ cls := "java/lang/AbstractStringBuilder", name := "putStringAt", desc := "(ILjava/lang/String;)V" } : MethodName)) ∈ WD := wdT5 21 rfl rfl
theorem wd1002 : (Cond.code ({ cls := "java/lang/AbstractStringBuilder", name := "putStringAt", desc := "(ILjava/lang/String;)V" } : MethodName) prog_12_method_73_code (3 : Nat) (Option.none : Option ClassFile.FieldType)) ∈ WD := wdT5 22 rfl rfl
theorem wd1003 : (Cond.methodLink "java/lang/AbstractStringBuilder" (397 : Nat) ({ cls := "java/lang/AbstractStringBuilder", name := "inflateIfNeededFor", desc := "(Ljava/lang/String;)V" } : MethodName)) ∈ WD := wdT5 23 rfl rfl
theorem wd1005 : (Cond.instanceMethod ({ cls := "java/lang/AbstractStringBuilder", name := "inflateIfNeededFor", desc := "(Ljava/lang/String;)V" } : MethodName)) ∈ WD := wdT5 25 rfl rfl
theorem wd1006 : (Cond.code ({ cls := "java/lang/AbstractStringBuilder", name := "inflateIfNeededFor", desc := "(Ljava/lang/String;)V" } : MethodName) prog_12_method_71_code (2 : Nat) (Option.none : Option ClassFile.FieldType)) ∈ WD := wdT5 26 rfl rfl
theorem wd1007 : (Cond.methodLink "java/lang/AbstractStringBuilder" (195 : Nat) ({ cls := "java/lang/AbstractStringBuilder", name := "inflate", desc := "()V" } : MethodName)) ∈ WD := wdT5 27 rfl rfl
theorem wd1009 : (Cond.instanceMethod ({ cls := "java/lang/AbstractStringBuilder", name := "inflate", desc := "()V" } : MethodName)) ∈ WD := wdT5 29 rfl rfl
theorem wd1010 : (Cond.code ({ cls := "java/lang/AbstractStringBuilder", name := "inflate", desc := "()V" } : MethodName) prog_12_method_11_code (2 : Nat) (Option.none : Option ClassFile.FieldType)) ∈ WD := wdT5 30 rfl rfl
theorem wd1012 : (Cond.static ({ cls := "java/lang/StringLatin1", name := "inflate", desc := "([BI[BII)V" } : MethodName)) ∈ WD := wdT5 32 rfl rfl
theorem wd1013 : (Cond.code ({ cls := "java/lang/StringLatin1", name := "inflate", desc := "([BI[BII)V" } : MethodName) prog_29_method_50_code (5 : Nat) (Option.none : Option ClassFile.FieldType)) ∈ WD := wdT5 33 rfl rfl
theorem wd1026 : (Cond.methodLink "java/lang/AbstractStringBuilder" (399 : Nat) ({ cls := "java/lang/String", name := "getBytes", desc := "([BIB)V" } : MethodName)) ∈ WD := wdT5 46 rfl rfl
theorem wd1027 : (Cond.instanceMethod ({ cls := "java/lang/String", name := "getBytes", desc := "([BIB)V" } : MethodName)) ∈ WD := wdT5 47 rfl rfl
theorem wd1028 : (Cond.selects "java/lang/String" ({ cls := "java/lang/String", name := "getBytes", desc := "([BIB)V" } : MethodName) ({ cls := "java/lang/String", name := "getBytes", desc := "([BIB)V" } : MethodName)) ∈ WD := wdT5 48 rfl rfl
theorem wd1029 : (Cond.code ({ cls := "java/lang/String", name := "getBytes", desc := "([BIB)V" } : MethodName) prog_27_method_147_code (4 : Nat) (Option.none : Option ClassFile.FieldType)) ∈ WD := wdT5 49 rfl rfl
theorem wd1030 : (Cond.methodLink "java/lang/String" (212 : Nat) ({ cls := "java/lang/System", name := "arraycopy", desc := "(Ljava/lang/Object;ILjava/lang/Object;II)V" } : MethodName)) ∈ WD := wdT5 50 rfl rfl
theorem wd1031 : (Cond.methodLink "java/lang/String" (106 : Nat) ({ cls := "java/lang/StringLatin1", name := "inflate", desc := "([BI[BII)V" } : MethodName)) ∈ WD := wdT5 51 rfl rfl
theorem wd1032 : (Cond.methodLink "RestMillLaw" (53 : Nat) ({ cls := "java/lang/StringBuilder", name := "append", desc := "(C)Ljava/lang/StringBuilder;" } : MethodName)) ∈ WD := wdT5 52 rfl rfl
theorem wd1033 : (Cond.instanceMethod ({ cls := "java/lang/StringBuilder", name := "append", desc := "(C)Ljava/lang/StringBuilder;" } : MethodName)) ∈ WD := wdT5 53 rfl rfl
theorem wd1034 : (Cond.selects "java/lang/StringBuilder" ({ cls := "java/lang/StringBuilder", name := "append", desc := "(C)Ljava/lang/StringBuilder;" } : MethodName) ({ cls := "java/lang/StringBuilder", name := "append", desc := "(C)Ljava/lang/StringBuilder;" } : MethodName)) ∈ WD := wdT5 54 rfl rfl
theorem wd1035 : (Cond.code ({ cls := "java/lang/StringBuilder", name := "append", desc := "(C)Ljava/lang/StringBuilder;" } : MethodName) prog_28_method_14_code (2 : Nat) (Option.some (ClassFile.FieldType.object "java/lang/StringBuilder"))) ∈ WD := wdT5 55 rfl rfl
theorem wd1036 : (Cond.methodLink "java/lang/StringBuilder" (50 : Nat) ({ cls := "java/lang/AbstractStringBuilder", name := "append", desc := "(C)Ljava/lang/AbstractStringBuilder;" } : MethodName)) ∈ WD := wdT5 56 rfl rfl
theorem wd1037 : (Cond.instanceMethod ({ cls := "java/lang/AbstractStringBuilder", name := "append", desc := "(C)Ljava/lang/AbstractStringBuilder;" } : MethodName)) ∈ WD := wdT5 57 rfl rfl
theorem wd1038 : (Cond.code ({ cls := "java/lang/AbstractStringBuilder", name := "append", desc := "(C)Ljava/lang/AbstractStringBuilder;" } : MethodName) prog_12_method_31_code (2 : Nat) (Option.some (ClassFile.FieldType.object "java/lang/AbstractStringBuilder"))) ∈ WD := wdT5 58 rfl rfl
theorem wd1039 : (Cond.methodLink "java/lang/AbstractStringBuilder" (191 : Nat) ({ cls := "java/lang/StringLatin1", name := "canEncode", desc := "(C)Z" } : MethodName)) ∈ WD := wdT5 59 rfl rfl
theorem wd1040 : (Cond.static ({ cls := "java/lang/StringLatin1", name := "canEncode", desc := "(C)Z" } : MethodName)) ∈ WD := wdT5 60 rfl rfl
theorem wd1041 : (Cond.code ({ cls := "java/lang/StringLatin1", name := "canEncode", desc := "(C)Z" } : MethodName) prog_29_method_3_code (1 : Nat) (Option.some ClassFile.FieldType.boolean)) ∈ WD := wdT5 61 rfl rfl
theorem wd1042 : (Cond.methodLink "java/lang/AbstractStringBuilder" (197 : Nat) ({ cls := "java/lang/StringUTF16", name := "putCharSB", desc := "([BII)V" } : MethodName)) ∈ WD := wdT5 62 rfl rfl
theorem wd1043 : (Cond.static ({ cls := "java/lang/StringUTF16", name := "putCharSB", desc := "([BII)V" } : MethodName)) ∈ WD := wdT5 63 rfl rfl
theorem wd1044 : (Cond.code ({ cls := "java/lang/StringUTF16", name := "putCharSB", desc := "([BII)V" } : MethodName) prog_30_method_71_code (3 : Nat) (Option.none : Option ClassFile.FieldType)) ∈ WD := wdT5 64 rfl rfl
theorem wd1045 : (Cond.methodLink "RestMillLaw" (57 : Nat) ({ cls := "java/lang/StringBuilder", name := "append", desc := "(I)Ljava/lang/StringBuilder;" } : MethodName)) ∈ WD := wdT5 65 rfl rfl
theorem wd1046 : (Cond.instanceMethod ({ cls := "java/lang/StringBuilder", name := "append", desc := "(I)Ljava/lang/StringBuilder;" } : MethodName)) ∈ WD := wdT5 66 rfl rfl
theorem wd1047 : (Cond.selects "java/lang/StringBuilder" ({ cls := "java/lang/StringBuilder", name := "append", desc := "(I)Ljava/lang/StringBuilder;" } : MethodName) ({ cls := "java/lang/StringBuilder", name := "append", desc := "(I)Ljava/lang/StringBuilder;" } : MethodName)) ∈ WD := wdT5 67 rfl rfl
theorem wd1048 : (Cond.code ({ cls := "java/lang/StringBuilder", name := "append", desc := "(I)Ljava/lang/StringBuilder;" } : MethodName) prog_28_method_15_code (2 : Nat) (Option.some (ClassFile.FieldType.object "java/lang/StringBuilder"))) ∈ WD := wdT5 68 rfl rfl
theorem wd1049 : (Cond.methodLink "java/lang/StringBuilder" (53 : Nat) ({ cls := "java/lang/AbstractStringBuilder", name := "append", desc := "(I)Ljava/lang/AbstractStringBuilder;" } : MethodName)) ∈ WD := wdT5 69 rfl rfl
theorem wd1050 : (Cond.instanceMethod ({ cls := "java/lang/AbstractStringBuilder", name := "append", desc := "(I)Ljava/lang/AbstractStringBuilder;" } : MethodName)) ∈ WD := wdT5 70 rfl rfl
theorem wd1051 : (Cond.code ({ cls := "java/lang/AbstractStringBuilder", name := "append", desc := "(I)Ljava/lang/AbstractStringBuilder;" } : MethodName) prog_12_method_32_code (4 : Nat) (Option.some (ClassFile.FieldType.object "java/lang/AbstractStringBuilder"))) ∈ WD := wdT5 71 rfl rfl
theorem wd1052 : (Cond.methodLink "java/lang/AbstractStringBuilder" (245 : Nat) ({ cls := "java/lang/Integer", name := "stringSize", desc := "(I)I" } : MethodName)) ∈ WD := wdT5 72 rfl rfl
theorem wd1053 : (Cond.static ({ cls := "java/lang/Integer", name := "stringSize", desc := "(I)I" } : MethodName)) ∈ WD := wdT5 73 rfl rfl
theorem wd1054 : (Cond.code ({ cls := "java/lang/Integer", name := "stringSize", desc := "(I)I" } : MethodName) prog_22_method_13_code (4 : Nat) (Option.some ClassFile.FieldType.int)) ∈ WD := wdT5 74 rfl rfl
theorem wd1055 : (Cond.methodLink "java/lang/AbstractStringBuilder" (248 : Nat) ({ cls := "java/lang/Integer", name := "getChars", desc := "(II[B)I" } : MethodName)) ∈ WD := wdT5 75 rfl rfl
theorem wd1056 : (Cond.static ({ cls := "java/lang/Integer", name := "getChars", desc := "(II[B)I" } : MethodName)) ∈ WD := wdT5 76 rfl rfl
theorem wd1057 : (Cond.code ({ cls := "java/lang/Integer", name := "getChars", desc := "(II[B)I" } : MethodName) prog_22_method_12_code (7 : Nat) (Option.some ClassFile.FieldType.int)) ∈ WD := wdT5 77 rfl rfl
theorem wd1058 : (Cond.fieldLink "java/lang/Integer" (83 : Nat) "java/lang/Integer" "DigitOnes" "[B") ∈ WD := wdT5 78 rfl rfl
theorem wd1060 : (Cond.fieldLink "java/lang/Integer" (87 : Nat) "java/lang/Integer" "DigitTens" "[B") ∈ WD := wdT5 80 rfl rfl
theorem wd1062 : (Cond.methodLink "java/lang/AbstractStringBuilder" (251 : Nat) ({ cls := "java/lang/StringUTF16", name := "getChars", desc := "(III[B)I" } : MethodName)) ∈ WD := wdT5 82 rfl rfl
theorem wd1063 : (Cond.static ({ cls := "java/lang/StringUTF16", name := "getChars", desc := "(III[B)I" } : MethodName)) ∈ WD := wdT5 83 rfl rfl
theorem wd1064 : (Cond.code ({ cls := "java/lang/StringUTF16", name := "getChars", desc := "(III[B)I" } : MethodName) prog_30_method_77_code (5 : Nat) (Option.some ClassFile.FieldType.int)) ∈ WD := wdT5 84 rfl rfl
theorem wd1071 : (Cond.methodLink "RestMillLaw" (62 : Nat) ({ cls := "java/lang/StringBuilder", name := "append", desc := "(Ljava/lang/String;)Ljava/lang/StringBuilder;" } : MethodName)) ∈ WD := wdT5 91 rfl rfl
theorem wd1073 : (Cond.methodLink "RestMillLaw" (67 : Nat) ({ cls := "java/lang/StringBuilder", name := "toString", desc := "()Ljava/lang/String;" } : MethodName)) ∈ WD := wdT5 93 rfl rfl
theorem wd1074 : (Cond.instanceMethod ({ cls := "java/lang/StringBuilder", name := "toString", desc := "()Ljava/lang/String;" } : MethodName)) ∈ WD := wdT5 94 rfl rfl
theorem wd1075 : (Cond.selects "java/lang/StringBuilder" ({ cls := "java/lang/StringBuilder", name := "toString", desc := "()Ljava/lang/String;" } : MethodName) ({ cls := "java/lang/StringBuilder", name := "toString", desc := "()Ljava/lang/String;" } : MethodName)) ∈ WD := wdT5 95 rfl rfl
theorem wd1076 : (Cond.code ({ cls := "java/lang/StringBuilder", name := "toString", desc := "()Ljava/lang/String;" } : MethodName) prog_28_method_42_code (1 : Nat) (Option.some (ClassFile.FieldType.object "java/lang/String"))) ∈ WD := wdT5 96 rfl rfl
theorem wd1077 : (Cond.classLink "java/lang/StringBuilder" (18 : Nat) "java/lang/String") ∈ WD := wdT5 97 rfl rfl
theorem wd1078 : (Cond.instantiable "java/lang/String" (4 : Nat)) ∈ WD := wdT5 98 rfl rfl
theorem wd1079 : (Cond.methodLink "java/lang/StringBuilder" (137 : Nat) ({ cls := "java/lang/String", name := "<init>", desc := "(Ljava/lang/StringBuilder;)V" } : MethodName)) ∈ WD := wdT5 99 rfl rfl
theorem wd1080 : (Cond.instanceMethod ({ cls := "java/lang/String", name := "<init>", desc := "(Ljava/lang/StringBuilder;)V" } : MethodName)) ∈ WD := wdT5 100 rfl rfl
theorem wd1081 : (Cond.code ({ cls := "java/lang/String", name := "<init>", desc := "(Ljava/lang/StringBuilder;)V" } : MethodName) prog_27_method_53_code (2 : Nat) (Option.none : Option ClassFile.FieldType)) ∈ WD := wdT5 101 rfl rfl
theorem wd1082 : (Cond.methodLink "java/lang/String" (489 : Nat) ({ cls := "java/lang/String", name := "<init>", desc := "(Ljava/lang/AbstractStringBuilder;Ljava/lang/Void;)V" } : MethodName)) ∈ WD := wdT5 102 rfl rfl
theorem wd1083 : (Cond.instanceMethod ({ cls := "java/lang/String", name := "<init>", desc := "(Ljava/lang/AbstractStringBuilder;Ljava/lang/Void;)V" } : MethodName)) ∈ WD := wdT5 103 rfl rfl
theorem wd1084 : (Cond.code ({ cls := "java/lang/String", name := "<init>", desc := "(Ljava/lang/AbstractStringBuilder;Ljava/lang/Void;)V" } : MethodName) prog_27_method_150_code (5 : Nat) (Option.none : Option ClassFile.FieldType)) ∈ WD := wdT5 104 rfl rfl
theorem wd1085 : (Cond.methodLink "java/lang/String" (1 : Nat) ({ cls := "java/lang/Object", name := "<init>", desc := "()V" } : MethodName)) ∈ WD := wdT5 105 rfl rfl
theorem wd1086 : (Cond.methodLink "java/lang/String" (552 : Nat) ({ cls := "java/lang/AbstractStringBuilder", name := "getValue", desc := "()[B" } : MethodName)) ∈ WD := wdT5 106 rfl rfl
theorem wd1087 : (Cond.instanceMethod ({ cls := "java/lang/AbstractStringBuilder", name := "getValue", desc := "()[B" } : MethodName)) ∈ WD := wdT5 107 rfl rfl
theorem wd1088 : (Cond.sameMethod "java/lang/AbstractStringBuilder" "java/lang/AbstractStringBuilder" "getValue" "()[B") ∈ WD := wdT5 108 rfl rfl
theorem wd1089 : (Cond.selects "java/lang/StringBuilder" ({ cls := "java/lang/AbstractStringBuilder", name := "getValue", desc := "()[B" } : MethodName) ({ cls := "java/lang/AbstractStringBuilder", name := "getValue", desc := "()[B" } : MethodName)) ∈ WD := wdT5 109 rfl rfl
theorem wd1090 : (Cond.code ({ cls := "java/lang/AbstractStringBuilder", name := "getValue", desc := "()[B" } : MethodName) prog_12_method_64_code (1 : Nat) (Option.some (ClassFile.FieldType.array ClassFile.FieldType.byte))) ∈ WD := wdT5 110 rfl rfl
theorem wd1091 : (Cond.methodLink "java/lang/String" (549 : Nat) ({ cls := "java/lang/AbstractStringBuilder", name := "length", desc := "()I" } : MethodName)) ∈ WD := wdT5 111 rfl rfl
theorem wd1092 : (Cond.instanceMethod ({ cls := "java/lang/AbstractStringBuilder", name := "length", desc := "()I" } : MethodName)) ∈ WD := wdT5 112 rfl rfl
theorem wd1093 : (Cond.sameMethod "java/lang/AbstractStringBuilder" "java/lang/AbstractStringBuilder" "length" "()I") ∈ WD := wdT5 113 rfl rfl
theorem wd1094 : (Cond.selects "java/lang/StringBuilder" ({ cls := "java/lang/AbstractStringBuilder", name := "length", desc := "()I" } : MethodName) ({ cls := "java/lang/StringBuilder", name := "length", desc := "()I" } : MethodName)) ∈ WD := wdT5 114 rfl rfl
theorem wd1095 : (Cond.instanceMethod ({ cls := "java/lang/StringBuilder", name := "length", desc := "()I" } : MethodName)) ∈ WD := wdT5 115 rfl rfl
theorem wd1096 : (Cond.code ({ cls := "java/lang/StringBuilder", name := "length", desc := "()I" } : MethodName) prog_28_method_93_code (1 : Nat) (Option.some ClassFile.FieldType.int)) ∈ WD := wdT5 116 rfl rfl
theorem wd1097 : (Cond.methodLink "java/lang/StringBuilder" (343 : Nat) ({ cls := "java/lang/AbstractStringBuilder", name := "length", desc := "()I" } : MethodName)) ∈ WD := wdT5 117 rfl rfl
theorem wd1098 : (Cond.code ({ cls := "java/lang/AbstractStringBuilder", name := "length", desc := "()I" } : MethodName) prog_12_method_6_code (1 : Nat) (Option.some ClassFile.FieldType.int)) ∈ WD := wdT5 118 rfl rfl
theorem wd1099 : (Cond.methodLink "java/lang/String" (1047 : Nat) ({ cls := "java/lang/AbstractStringBuilder", name := "isLatin1", desc := "()Z" } : MethodName)) ∈ WD := wdT5 119 rfl rfl
theorem wd1100 : (Cond.methodLink "java/lang/String" (54 : Nat) ({ cls := "java/util/Arrays", name := "copyOfRange", desc := "([BII)[B" } : MethodName)) ∈ WD := wdT5 120 rfl rfl
theorem wd1101 : (Cond.static ({ cls := "java/util/Arrays", name := "copyOfRange", desc := "([BII)[B" } : MethodName)) ∈ WD := wdT5 121 rfl rfl
theorem wd1102 : (Cond.code ({ cls := "java/util/Arrays", name := "copyOfRange", desc := "([BII)[B" } : MethodName) prog_35_method_132_code (3 : Nat) (Option.some (ClassFile.FieldType.array ClassFile.FieldType.byte))) ∈ WD := wdT5 122 rfl rfl
theorem wd1103 : (Cond.methodLink "java/util/Arrays" (339 : Nat) ({ cls := "java/util/Arrays", name := "copyOfRangeByte", desc := "([BII)[B" } : MethodName)) ∈ WD := wdT5 123 rfl rfl
theorem wd1104 : (Cond.static ({ cls := "java/util/Arrays", name := "copyOfRangeByte", desc := "([BII)[B" } : MethodName)) ∈ WD := wdT5 124 rfl rfl
theorem wd1105 : (Cond.code ({ cls := "java/util/Arrays", name := "copyOfRangeByte", desc := "([BII)[B" } : MethodName) prog_35_method_133_code (5 : Nat) (Option.some (ClassFile.FieldType.array ClassFile.FieldType.byte))) ∈ WD := wdT5 125 rfl rfl
theorem wd1106 : (Cond.methodLink "java/util/Arrays" (343 : Nat) ({ cls := "java/util/Arrays", name := "checkLength", desc := "(II)V" } : MethodName)) ∈ WD := wdT5 126 rfl rfl
theorem wd1107 : (Cond.static ({ cls := "java/util/Arrays", name := "checkLength", desc := "(II)V" } : MethodName)) ∈ WD := wdT5 127 rfl rfl
theorem wd1108 : (Cond.code ({ cls := "java/util/Arrays", name := "checkLength", desc := "(II)V" } : MethodName) prog_35_method_131_code (2 : Nat) (Option.none : Option ClassFile.FieldType)) ∈ WD := wdT5 128 rfl rfl
theorem wd1109 : (Cond.methodLink "java/lang/String" (1051 : Nat) ({ cls := "java/lang/StringUTF16", name := "compress", desc := "([BII)[B" } : MethodName)) ∈ WD := wdT5 129 rfl rfl
theorem wd1110 : (Cond.static ({ cls := "java/lang/StringUTF16", name := "compress", desc := "([BII)[B" } : MethodName)) ∈ WD := wdT5 130 rfl rfl
theorem wd1111 : (Cond.code ({ cls := "java/lang/StringUTF16", name := "compress", desc := "([BII)[B" } : MethodName) prog_30_method_17_code (6 : Nat) (Option.some (ClassFile.FieldType.array ClassFile.FieldType.byte))) ∈ WD := wdT5 131 rfl rfl
theorem wd1116 : (Cond.methodLink "java/lang/String" (47 : Nat) ({ cls := "java/lang/StringUTF16", name := "coderFromArrayLen", desc := "([BI)B" } : MethodName)) ∈ WD := wdT5 136 rfl rfl
theorem wd1117 : (Cond.static ({ cls := "java/lang/StringUTF16", name := "coderFromArrayLen", desc := "([BI)B" } : MethodName)) ∈ WD := wdT5 137 rfl rfl
theorem wd1118 : (Cond.code ({ cls := "java/lang/StringUTF16", name := "coderFromArrayLen", desc := "([BI)B" } : MethodName) prog_30_method_15_code (2 : Nat) (Option.some ClassFile.FieldType.byte)) ∈ WD := wdT5 138 rfl rfl
theorem wd1119 : (Cond.fieldLink "java/lang/String" (9 : Nat) "java/lang/String" "value" "[B") ∈ WD := wdT5 139 rfl rfl
theorem wd1120 : (Cond.fieldLink "java/lang/String" (15 : Nat) "java/lang/String" "coder" "B") ∈ WD := wdT5 140 rfl rfl
theorem wd1130 : (Cond.methodLink "RestMillLaw" (158 : Nat) ({ cls := "RestMillLaw", name := "isBounded", desc := "(LRestMill;)Z" } : MethodName)) ∈ WD := wdT5 150 rfl rfl
theorem wd1131 : (Cond.static ({ cls := "RestMillLaw", name := "isBounded", desc := "(LRestMill;)Z" } : MethodName)) ∈ WD := wdT5 151 rfl rfl
theorem wd1132 : (Cond.code ({ cls := "RestMillLaw", name := "isBounded", desc := "(LRestMill;)Z" } : MethodName) method_7_code (6 : Nat) (Option.some ClassFile.FieldType.boolean)) ∈ WD := wdT5 152 rfl rfl
theorem wd1133 : (Cond.constantLong "RestMillLaw" (82 : Nat) (2 : Int64)) ∈ WD := wdT5 153 rfl rfl
theorem wd1134 : (Cond.methodLink "RestMillLaw" (184 : Nat) ({ cls := "RestMillLaw", name := "isTold", desc := "(LRestMill;I)Z" } : MethodName)) ∈ WD := wdT5 154 rfl rfl
theorem wd1135 : (Cond.static ({ cls := "RestMillLaw", name := "isTold", desc := "(LRestMill;I)Z" } : MethodName)) ∈ WD := wdT5 155 rfl rfl
theorem wd1136 : (Cond.code ({ cls := "RestMillLaw", name := "isTold", desc := "(LRestMill;I)Z" } : MethodName) method_8_code (12 : Nat) (Option.some ClassFile.FieldType.boolean)) ∈ WD := wdT5 156 rfl rfl
theorem wd1137 : (Cond.methodLink "RestMillLaw" (84 : Nat) ({ cls := "RestMill", name := "value", desc := "(I)J" } : MethodName)) ∈ WD := wdT5 157 rfl rfl
theorem wd1138 : (Cond.instanceMethod ({ cls := "RestMill", name := "value", desc := "(I)J" } : MethodName)) ∈ WD := wdT5 158 rfl rfl
theorem wd1139 : (Cond.selects "RestMill" ({ cls := "RestMill", name := "value", desc := "(I)J" } : MethodName) ({ cls := "RestMill", name := "value", desc := "(I)J" } : MethodName)) ∈ WD := wdT5 159 rfl rfl
theorem wd1141 : (Cond.methodLink "RestMillLaw" (91 : Nat) ({ cls := "RestMill", name := "part", desc := "(II)J" } : MethodName)) ∈ WD := wdT5 161 rfl rfl
theorem wd1142 : (Cond.instanceMethod ({ cls := "RestMill", name := "part", desc := "(II)J" } : MethodName)) ∈ WD := wdT5 162 rfl rfl
theorem wd1143 : (Cond.selects "RestMill" ({ cls := "RestMill", name := "part", desc := "(II)J" } : MethodName) ({ cls := "RestMill", name := "part", desc := "(II)J" } : MethodName)) ∈ WD := wdT5 163 rfl rfl
theorem wd1146 : (Cond.methodLink "RestMillLaw" (95 : Nat) ({ cls := "RestMill", name := "weight", desc := "(I)J" } : MethodName)) ∈ WD := wdT5 166 rfl rfl
theorem wd1147 : (Cond.instanceMethod ({ cls := "RestMill", name := "weight", desc := "(I)J" } : MethodName)) ∈ WD := wdT5 167 rfl rfl
theorem wd1148 : (Cond.selects "RestMill" ({ cls := "RestMill", name := "weight", desc := "(I)J" } : MethodName) ({ cls := "RestMill", name := "weight", desc := "(I)J" } : MethodName)) ∈ WD := wdT5 168 rfl rfl
theorem wd1151 : (Cond.methodLink "RestMillLaw" (98 : Nat) ({ cls := "RestMill", name := "digit", desc := "(II)I" } : MethodName)) ∈ WD := wdT5 171 rfl rfl
theorem wd1152 : (Cond.instanceMethod ({ cls := "RestMill", name := "digit", desc := "(II)I" } : MethodName)) ∈ WD := wdT5 172 rfl rfl
theorem wd1153 : (Cond.selects "RestMill" ({ cls := "RestMill", name := "digit", desc := "(II)I" } : MethodName) ({ cls := "RestMill", name := "digit", desc := "(II)I" } : MethodName)) ∈ WD := wdT5 173 rfl rfl
theorem wd1156 : (Cond.methodLink "RestMillLaw" (101 : Nat) ({ cls := "RestMill", name := "rank", desc := "(I)I" } : MethodName)) ∈ WD := wdT5 176 rfl rfl
theorem wd1157 : (Cond.instanceMethod ({ cls := "RestMill", name := "rank", desc := "(I)I" } : MethodName)) ∈ WD := wdT5 177 rfl rfl
theorem wd1158 : (Cond.selects "RestMill" ({ cls := "RestMill", name := "rank", desc := "(I)I" } : MethodName) ({ cls := "RestMill", name := "rank", desc := "(I)I" } : MethodName)) ∈ WD := wdT5 178 rfl rfl
theorem wd1161 : (Cond.methodLink "RestMillLaw" (188 : Nat) ({ cls := "RestMillLaw", name := "isOperated", desc := "(LRestMill;IIII)Z" } : MethodName)) ∈ WD := wdT5 181 rfl rfl
theorem wd1162 : (Cond.static ({ cls := "RestMillLaw", name := "isOperated", desc := "(LRestMill;IIII)Z" } : MethodName)) ∈ WD := wdT5 182 rfl rfl
theorem wd1163 : (Cond.code ({ cls := "RestMillLaw", name := "isOperated", desc := "(LRestMill;IIII)Z" } : MethodName) method_11_code (21 : Nat) (Option.some ClassFile.FieldType.boolean)) ∈ WD := wdT5 183 rfl rfl
theorem wd1164 : (Cond.methodLink "RestMillLaw" (122 : Nat) ({ cls := "RestMill", name := "why", desc := "(III)I" } : MethodName)) ∈ WD := wdT5 184 rfl rfl
theorem wd1165 : (Cond.instanceMethod ({ cls := "RestMill", name := "why", desc := "(III)I" } : MethodName)) ∈ WD := wdT5 185 rfl rfl
theorem wd1166 : (Cond.selects "RestMill" ({ cls := "RestMill", name := "why", desc := "(III)I" } : MethodName) ({ cls := "RestMill", name := "why", desc := "(III)I" } : MethodName)) ∈ WD := wdT5 186 rfl rfl
theorem wd1188 : (Cond.methodLink "RestMillLaw" (126 : Nat) ({ cls := "RestMill", name := "exact", desc := "(III)J" } : MethodName)) ∈ WD := wdT5 208 rfl rfl
theorem wd1189 : (Cond.instanceMethod ({ cls := "RestMill", name := "exact", desc := "(III)J" } : MethodName)) ∈ WD := wdT5 209 rfl rfl
theorem wd1190 : (Cond.selects "RestMill" ({ cls := "RestMill", name := "exact", desc := "(III)J" } : MethodName) ({ cls := "RestMill", name := "exact", desc := "(III)J" } : MethodName)) ∈ WD := wdT5 210 rfl rfl
theorem wd1208 : (Cond.methodLink "RestMillLaw" (130 : Nat) ({ cls := "RestMillLaw", name := "exact", desc := "(IJJ)J" } : MethodName)) ∈ WD := wdT5 228 rfl rfl
theorem wd1209 : (Cond.static ({ cls := "RestMillLaw", name := "exact", desc := "(IJJ)J" } : MethodName)) ∈ WD := wdT5 229 rfl rfl
theorem wd1210 : (Cond.code ({ cls := "RestMillLaw", name := "exact", desc := "(IJJ)J" } : MethodName) method_10_code (5 : Nat) (Option.some ClassFile.FieldType.long)) ∈ WD := wdT5 230 rfl rfl
theorem wd1211 : (Cond.methodLink "RestMillLaw" (119 : Nat) ({ cls := "RestMillLaw", name := "floored", desc := "(JJ)J" } : MethodName)) ∈ WD := wdT5 231 rfl rfl
theorem wd1212 : (Cond.static ({ cls := "RestMillLaw", name := "floored", desc := "(JJ)J" } : MethodName)) ∈ WD := wdT5 232 rfl rfl
theorem wd1213 : (Cond.code ({ cls := "RestMillLaw", name := "floored", desc := "(JJ)J" } : MethodName) method_9_code (4 : Nat) (Option.some ClassFile.FieldType.long)) ∈ WD := wdT5 233 rfl rfl
theorem wd1214 : (Cond.methodLink "RestMillLaw" (113 : Nat) ({ cls := "java/lang/Math", name := "floorDiv", desc := "(JJ)J" } : MethodName)) ∈ WD := wdT5 234 rfl rfl
theorem wd1215 : (Cond.methodLink "RestMillLaw" (136 : Nat) ({ cls := "RestMill", name := "operate", desc := "(IIII)I" } : MethodName)) ∈ WD := wdT5 235 rfl rfl
theorem wd1216 : (Cond.instanceMethod ({ cls := "RestMill", name := "operate", desc := "(IIII)I" } : MethodName)) ∈ WD := wdT5 236 rfl rfl
theorem wd1217 : (Cond.selects "RestMill" ({ cls := "RestMill", name := "operate", desc := "(IIII)I" } : MethodName) ({ cls := "RestMill", name := "operate", desc := "(IIII)I" } : MethodName)) ∈ WD := wdT5 237 rfl rfl
theorem wd1224 : (Cond.methodLink "RestMillLaw" (140 : Nat) ({ cls := "java/lang/Math", name := "floorMod", desc := "(JJ)J" } : MethodName)) ∈ WD := wdT6 4 rfl rfl
theorem wd1225 : (Cond.methodLink "RestMillLaw" (192 : Nat) ({ cls := "RestMillLaw", name := "isScaled", desc := "(LRestMill;II)Z" } : MethodName)) ∈ WD := wdT6 5 rfl rfl
theorem wd1226 : (Cond.static ({ cls := "RestMillLaw", name := "isScaled", desc := "(LRestMill;II)Z" } : MethodName)) ∈ WD := wdT6 6 rfl rfl
theorem wd1227 : (Cond.code ({ cls := "RestMillLaw", name := "isScaled", desc := "(LRestMill;II)Z" } : MethodName) method_12_code (10 : Nat) (Option.some ClassFile.FieldType.boolean)) ∈ WD := wdT6 7 rfl rfl
theorem wd1228 : (Cond.methodLink "RestMillLaw" (143 : Nat) ({ cls := "RestMill", name := "scale", desc := "(II)I" } : MethodName)) ∈ WD := wdT6 8 rfl rfl
theorem wd1229 : (Cond.instanceMethod ({ cls := "RestMill", name := "scale", desc := "(II)I" } : MethodName)) ∈ WD := wdT6 9 rfl rfl
theorem wd1230 : (Cond.selects "RestMill" ({ cls := "RestMill", name := "scale", desc := "(II)I" } : MethodName) ({ cls := "RestMill", name := "scale", desc := "(II)I" } : MethodName)) ∈ WD := wdT6 10 rfl rfl
theorem wd1236 : (Cond.methodLink "RestMillLaw" (151 : Nat) ({ cls := "RestMillLaw", name := "sum", desc := "(LRestMill;)J" } : MethodName)) ∈ WD := wdT6 16 rfl rfl
theorem wd1237 : (Cond.static ({ cls := "RestMillLaw", name := "sum", desc := "(LRestMill;)J" } : MethodName)) ∈ WD := wdT6 17 rfl rfl
theorem wd1238 : (Cond.code ({ cls := "RestMillLaw", name := "sum", desc := "(LRestMill;)J" } : MethodName) method_13_code (4 : Nat) (Option.some ClassFile.FieldType.long)) ∈ WD := wdT6 18 rfl rfl
theorem wd1239 : (Cond.constantLong "RestMillLaw" (146 : Nat) (31 : Int64)) ∈ WD := wdT6 19 rfl rfl
theorem wd1240 : (Cond.methodLink "RestMillLaw" (210 : Nat) ({ cls := "RestMillLaw", name := "isGrown", desc := "(LRestMill;)Z" } : MethodName)) ∈ WD := wdT6 20 rfl rfl
theorem wd1241 : (Cond.static ({ cls := "RestMillLaw", name := "isGrown", desc := "(LRestMill;)Z" } : MethodName)) ∈ WD := wdT6 21 rfl rfl
theorem wd1242 : (Cond.code ({ cls := "RestMillLaw", name := "isGrown", desc := "(LRestMill;)Z" } : MethodName) method_14_code (6 : Nat) (Option.some ClassFile.FieldType.boolean)) ∈ WD := wdT6 22 rfl rfl
theorem wd1243 : (Cond.methodLink "RestMillLaw" (148 : Nat) ({ cls := "RestMill", name := "nextModulus", desc := "()I" } : MethodName)) ∈ WD := wdT6 23 rfl rfl
theorem wd1244 : (Cond.instanceMethod ({ cls := "RestMill", name := "nextModulus", desc := "()I" } : MethodName)) ∈ WD := wdT6 24 rfl rfl
theorem wd1245 : (Cond.selects "RestMill" ({ cls := "RestMill", name := "nextModulus", desc := "()I" } : MethodName) ({ cls := "RestMill", name := "nextModulus", desc := "()I" } : MethodName)) ∈ WD := wdT6 25 rfl rfl
theorem wd1253 : (Cond.methodLink "RestMillLaw" (155 : Nat) ({ cls := "RestMill", name := "grow", desc := "(I)I" } : MethodName)) ∈ WD := wdT6 33 rfl rfl
theorem wd1254 : (Cond.instanceMethod ({ cls := "RestMill", name := "grow", desc := "(I)I" } : MethodName)) ∈ WD := wdT6 34 rfl rfl
theorem wd1255 : (Cond.selects "RestMill" ({ cls := "RestMill", name := "grow", desc := "(I)I" } : MethodName) ({ cls := "RestMill", name := "grow", desc := "(I)I" } : MethodName)) ∈ WD := wdT6 35 rfl rfl
theorem wd1263 : (Cond.methodLink "RestMillLaw" (166 : Nat) ({ cls := "RestMill", name := "spare", desc := "()I" } : MethodName)) ∈ WD := wdT6 43 rfl rfl
theorem wd1264 : (Cond.instanceMethod ({ cls := "RestMill", name := "spare", desc := "()I" } : MethodName)) ∈ WD := wdT6 44 rfl rfl
theorem wd1265 : (Cond.selects "RestMill" ({ cls := "RestMill", name := "spare", desc := "()I" } : MethodName) ({ cls := "RestMill", name := "spare", desc := "()I" } : MethodName)) ∈ WD := wdT6 45 rfl rfl
theorem wd1277 : (Cond.methodLink "RestMillLaw" (169 : Nat) ({ cls := "RestMill", name := "drop", desc := "(I)I" } : MethodName)) ∈ WD := wdT6 57 rfl rfl
theorem wd1278 : (Cond.instanceMethod ({ cls := "RestMill", name := "drop", desc := "(I)I" } : MethodName)) ∈ WD := wdT6 58 rfl rfl
theorem wd1279 : (Cond.selects "RestMill" ({ cls := "RestMill", name := "drop", desc := "(I)I" } : MethodName) ({ cls := "RestMill", name := "drop", desc := "(I)I" } : MethodName)) ∈ WD := wdT6 59 rfl rfl
theorem wd1290 : (Cond.methodLink "RestMillLaw" (199 : Nat) ({ cls := "java/lang/Long", name := "compare", desc := "(JJ)I" } : MethodName)) ∈ WD := wdT6 70 rfl rfl
theorem wd1291 : (Cond.constantLong "RestMillLaw" (208 : Nat) (97 : Int64)) ∈ WD := wdT6 71 rfl rfl
theorem wd1294 : (Cond.sameMethod "java/lang/AbstractStringBuilder" "java/lang/AbstractStringBuilder" "ensureCapacityInternal" "(I)V") ∈ WD := wdT6 74 rfl rfl
theorem wd1295 : (Cond.sameMethod "java/lang/AbstractStringBuilder" "java/lang/AbstractStringBuilder" "newCapacity" "(I)I") ∈ WD := wdT6 75 rfl rfl
theorem wd1296 : (Cond.sameMethod "java/lang/AbstractStringBuilder" "java/lang/AbstractStringBuilder" "putStringAt" "(ILjava/lang/String;)V") ∈ WD := wdT6 76 rfl rfl
theorem wd1297 : (Cond.sameMethod "java/lang/AbstractStringBuilder" "java/lang/AbstractStringBuilder" "inflateIfNeededFor" "(Ljava/lang/String;)V") ∈ WD := wdT6 77 rfl rfl
theorem wd1299 : (Cond.sameMethod "java/lang/AbstractStringBuilder" "java/lang/AbstractStringBuilder" "append" "(C)Ljava/lang/AbstractStringBuilder;") ∈ WD := wdT6 79 rfl rfl
theorem wd1300 : (Cond.sameMethod "java/lang/AbstractStringBuilder" "java/lang/AbstractStringBuilder" "append" "(I)Ljava/lang/AbstractStringBuilder;") ∈ WD := wdT6 80 rfl rfl
def M_jSB_init_v : MM := (⟨"java/lang/StringBuilder", "<init>", "()V"⟩, prog_28_method_1_code, 1, none)
theorem q_jSB_init_v : mOk M_jSB_init_v 0 := ⟨wd223, wd30, by decide, by decide, by decide +kernel, by decide, tz_jSB rfl⟩
def M_jASB_init_I : MM := (⟨"java/lang/AbstractStringBuilder", "<init>", "(I)V"⟩, prog_12_method_2_code, 2, none)
theorem q_jASB_init_I : mOk M_jASB_init_I 1 := ⟨wd226, wd29, by decide, by decide, by decide +kernel, by decide, tz_jASB rfl⟩
def M_jStr_length : MM := (⟨"java/lang/String", "length", "()I"⟩, prog_27_method_54_code, 1, (some .int))
theorem q_jStr_length : mOk M_jStr_length 0 := ⟨wd674, wd31, by decide, by decide, by decide +kernel, by decide, tz_jStr rfl⟩
def M_jStr_coder : MM := (⟨"java/lang/String", "coder", "()B"⟩, prog_27_method_152_code, 1, (some .byte))
theorem q_jStr_coder : mOk M_jStr_coder 0 := ⟨wd678, wd31, by decide, by decide, by decide +kernel, by decide, tz_jStr rfl⟩
def M_jStr_charAt : MM := (⟨"java/lang/String", "charAt", "(I)C"⟩, prog_27_method_56_code, 2, (some .char))
theorem q_jStr_charAt : mOk M_jStr_charAt 1 := ⟨wd683, wd31, by decide, by decide, by decide +kernel, by decide, tz_jStr rfl⟩
def M_jStr_isLatin1 : MM := (⟨"java/lang/String", "isLatin1", "()Z"⟩, prog_27_method_154_code, 1, (some .boolean))
theorem q_jStr_isLatin1 : mOk M_jStr_isLatin1 0 := ⟨wd687, wd31, by decide, by decide, by decide +kernel, by decide, tz_jStr rfl⟩
def M_jLat_charAt : MM := (⟨"java/lang/StringLatin1", "charAt", "([BI)C"⟩, prog_29_method_2_code, 2, (some .char))
theorem q_jLat_charAt : mOk M_jLat_charAt 2 := ⟨wd690, wd38, by decide, by decide, by decide +kernel, by decide, tz_jLat rfl⟩
def M_jStr_checkIndex : MM := (⟨"java/lang/String", "checkIndex", "(II)V"⟩, prog_27_method_155_code, 2, none)
theorem q_jStr_checkIndex : mOk M_jStr_checkIndex 2 := ⟨wd693, wd31, by decide, by decide, by decide +kernel, by decide, tz_jStr rfl⟩
def M_jPre_checkIndex : MM := (⟨"jdk/internal/util/Preconditions", "checkIndex", "(IILjava/util/function/BiFunction;)I"⟩, prog_38_method_11_code, 3, (some .int))
theorem q_jPre_checkIndex : mOk M_jPre_checkIndex 3 := ⟨wd698, wd37, by decide, by decide, by decide +kernel, by decide, tz_jPre rfl⟩
def M_jStr_indexOf_I : MM := (⟨"java/lang/String", "indexOf", "(I)I"⟩, prog_27_method_79_code, 2, (some .int))
theorem q_jStr_indexOf_I : mOk M_jStr_indexOf_I 1 := ⟨wd782, wd31, by decide, by decide, by decide +kernel, by decide, tz_jStr rfl⟩
def M_jStr_indexOf_II : MM := (⟨"java/lang/String", "indexOf", "(II)I"⟩, prog_27_method_80_code, 3, (some .int))
theorem q_jStr_indexOf_II : mOk M_jStr_indexOf_II 2 := ⟨wd786, wd31, by decide, by decide, by decide +kernel, by decide, tz_jStr rfl⟩
def M_jLat_indexOf : MM := (⟨"java/lang/StringLatin1", "indexOf", "([BIII)I"⟩, prog_29_method_22_code, 4, (some .int))
theorem q_jLat_indexOf : mOk M_jLat_indexOf 4 := ⟨wd790, wd38, by decide, by decide, by decide +kernel, by decide, tz_jLat rfl⟩
def M_jLat_canEncode_I : MM := (⟨"java/lang/StringLatin1", "canEncode", "(I)Z"⟩, prog_29_method_4_code, 1, (some .boolean))
theorem q_jLat_canEncode_I : mOk M_jLat_canEncode_I 1 := ⟨wd793, wd38, by decide, by decide, by decide +kernel, by decide, tz_jLat rfl⟩
def M_jLat_indexOfChar : MM := (⟨"java/lang/StringLatin1", "indexOfChar", "([BIII)I"⟩, prog_29_method_23_code, 6, (some .int))
theorem q_jLat_indexOfChar : mOk M_jLat_indexOfChar 4 := ⟨wd800, wd38, by decide, by decide, by decide +kernel, by decide, tz_jLat rfl⟩
def M_jSB_init_LString : MM := (⟨"java/lang/StringBuilder", "<init>", "(Ljava/lang/String;)V"⟩, prog_28_method_3_code, 2, none)
theorem q_jSB_init_LString : mOk M_jSB_init_LString 1 := ⟨wd934, wd30, by decide, by decide, by decide +kernel, by decide, tz_jSB rfl⟩
def M_jASB_init_LString : MM := (⟨"java/lang/AbstractStringBuilder", "<init>", "(Ljava/lang/String;)V"⟩, prog_12_method_3_code, 5, none)
theorem q_jASB_init_LString : mOk M_jASB_init_LString 1 := ⟨wd937, wd29, by decide, by decide, by decide +kernel, by decide, tz_jASB rfl⟩
def M_jSB_append_LString_br : MM := (⟨"java/lang/StringBuilder", "append", "(Ljava/lang/String;)Ljava/lang/AbstractStringBuilder;"⟩, prog_28_method_80_code, 2, (some (.object "java/lang/AbstractStringBuilder")))
theorem q_jSB_append_LString_br : mOk M_jSB_append_LString_br 1 := ⟨wd947, wd30, by decide, by decide, by decide +kernel, by decide, tz_jSB rfl⟩
def M_jSB_append_LString : MM := (⟨"java/lang/StringBuilder", "append", "(Ljava/lang/String;)Ljava/lang/StringBuilder;"⟩, prog_28_method_7_code, 2, (some (.object "java/lang/StringBuilder")))
theorem q_jSB_append_LString : mOk M_jSB_append_LString 1 := ⟨wd951, wd30, by decide, by decide, by decide +kernel, by decide, tz_jSB rfl⟩
def M_jASB_append_LString : MM := (⟨"java/lang/AbstractStringBuilder", "append", "(Ljava/lang/String;)Ljava/lang/AbstractStringBuilder;"⟩, prog_12_method_22_code, 3, (some (.object "java/lang/AbstractStringBuilder")))
theorem q_jASB_append_LString : mOk M_jASB_append_LString 1 := ⟨wd953, wd29, by decide, by decide, by decide +kernel, by decide, tz_jASB rfl⟩
def M_jASB_ensureCapacityInternal : MM := (⟨"java/lang/AbstractStringBuilder", "ensureCapacityInternal", "(I)V"⟩, prog_12_method_9_code, 3, none)
theorem q_jASB_ensureCapacityInternal : mOk M_jASB_ensureCapacityInternal 1 := ⟨wd961, wd29, by decide, by decide, by decide +kernel, by decide, tz_jASB rfl⟩
def M_jASB_newCapacity : MM := (⟨"java/lang/AbstractStringBuilder", "newCapacity", "(I)I"⟩, prog_12_method_10_code, 6, (some .int))
theorem q_jASB_newCapacity : mOk M_jASB_newCapacity 1 := ⟨wd965, wd29, by decide, by decide, by decide +kernel, by decide, tz_jASB rfl⟩
def M_jAS_newLength : MM := (⟨"jdk/internal/util/ArraysSupport", "newLength", "(III)I"⟩, prog_37_method_27_code, 4, (some .int))
theorem q_jAS_newLength : mOk M_jAS_newLength 3 := ⟨wd968, wd34, by decide, by decide, by decide +kernel, by decide, tz_jAS rfl⟩
def M_jArr_copyOf : MM := (⟨"java/util/Arrays", "copyOf", "([BI)[B"⟩, prog_35_method_121_code, 3, (some (.array .byte)))
theorem q_jArr_copyOf : mOk M_jArr_copyOf 2 := ⟨wd976, wd35, by decide, by decide, by decide +kernel, by decide, tz_jArr rfl⟩
def M_jASB_isLatin1 : MM := (⟨"java/lang/AbstractStringBuilder", "isLatin1", "()Z"⟩, prog_12_method_68_code, 1, (some .boolean))
theorem q_jASB_isLatin1 : mOk M_jASB_isLatin1 0 := ⟨wd992, wd29, by decide, by decide, by decide +kernel, by decide, tz_jASB rfl⟩
def M_jASB_putStringAt : MM := (⟨"java/lang/AbstractStringBuilder", "putStringAt", "(ILjava/lang/String;)V"⟩, prog_12_method_73_code, 3, none)
theorem q_jASB_putStringAt : mOk M_jASB_putStringAt 2 := ⟨wd1002, wd29, by decide, by decide, by decide +kernel, by decide, tz_jASB rfl⟩
def M_jASB_inflateIfNeededFor : MM := (⟨"java/lang/AbstractStringBuilder", "inflateIfNeededFor", "(Ljava/lang/String;)V"⟩, prog_12_method_71_code, 2, none)
theorem q_jASB_inflateIfNeededFor : mOk M_jASB_inflateIfNeededFor 1 := ⟨wd1006, wd29, by decide, by decide, by decide +kernel, by decide, tz_jASB rfl⟩
def M_jStr_getBytes : MM := (⟨"java/lang/String", "getBytes", "([BIB)V"⟩, prog_27_method_147_code, 4, none)
theorem q_jStr_getBytes : mOk M_jStr_getBytes 3 := ⟨wd1029, wd31, by decide, by decide, by decide +kernel, by decide, tz_jStr rfl⟩
def M_jSB_append_C : MM := (⟨"java/lang/StringBuilder", "append", "(C)Ljava/lang/StringBuilder;"⟩, prog_28_method_14_code, 2, (some (.object "java/lang/StringBuilder")))
theorem q_jSB_append_C : mOk M_jSB_append_C 1 := ⟨wd1035, wd30, by decide, by decide, by decide +kernel, by decide, tz_jSB rfl⟩
def M_jASB_append_C : MM := (⟨"java/lang/AbstractStringBuilder", "append", "(C)Ljava/lang/AbstractStringBuilder;"⟩, prog_12_method_31_code, 2, (some (.object "java/lang/AbstractStringBuilder")))
theorem q_jASB_append_C : mOk M_jASB_append_C 1 := ⟨wd1038, wd29, by decide, by decide, by decide +kernel, by decide, tz_jASB rfl⟩
def M_jLat_canEncode_C : MM := (⟨"java/lang/StringLatin1", "canEncode", "(C)Z"⟩, prog_29_method_3_code, 1, (some .boolean))
theorem q_jLat_canEncode_C : mOk M_jLat_canEncode_C 1 := ⟨wd1041, wd38, by decide, by decide, by decide +kernel, by decide, tz_jLat rfl⟩
def M_jSB_append_I : MM := (⟨"java/lang/StringBuilder", "append", "(I)Ljava/lang/StringBuilder;"⟩, prog_28_method_15_code, 2, (some (.object "java/lang/StringBuilder")))
theorem q_jSB_append_I : mOk M_jSB_append_I 1 := ⟨wd1048, wd30, by decide, by decide, by decide +kernel, by decide, tz_jSB rfl⟩
def M_jASB_append_I : MM := (⟨"java/lang/AbstractStringBuilder", "append", "(I)Ljava/lang/AbstractStringBuilder;"⟩, prog_12_method_32_code, 4, (some (.object "java/lang/AbstractStringBuilder")))
theorem q_jASB_append_I : mOk M_jASB_append_I 1 := ⟨wd1051, wd29, by decide, by decide, by decide +kernel, by decide, tz_jASB rfl⟩
def M_jInt_stringSize : MM := (⟨"java/lang/Integer", "stringSize", "(I)I"⟩, prog_22_method_13_code, 4, (some .int))
theorem q_jInt_stringSize : mOk M_jInt_stringSize 1 := ⟨wd1054, wd40, by decide, by decide, by decide +kernel, by decide, tz_jInt rfl⟩
def M_jInt_getChars : MM := (⟨"java/lang/Integer", "getChars", "(II[B)I"⟩, prog_22_method_12_code, 7, (some .int))
theorem q_jInt_getChars : mOk M_jInt_getChars 3 := ⟨wd1057, wd40, by decide, by decide, by decide +kernel, by decide, tz_jInt rfl⟩
def M_jSB_toString : MM := (⟨"java/lang/StringBuilder", "toString", "()Ljava/lang/String;"⟩, prog_28_method_42_code, 1, (some (.object "java/lang/String")))
theorem q_jSB_toString : mOk M_jSB_toString 0 := ⟨wd1076, wd30, by decide, by decide, by decide +kernel, by decide, tz_jSB rfl⟩
def M_jStr_init_LStringBuilder : MM := (⟨"java/lang/String", "<init>", "(Ljava/lang/StringBuilder;)V"⟩, prog_27_method_53_code, 2, none)
theorem q_jStr_init_LStringBuilder : mOk M_jStr_init_LStringBuilder 1 := ⟨wd1081, wd31, by decide, by decide, by decide +kernel, by decide, tz_jStr rfl⟩
def M_jStr_init_LAbstractStringBuilderLVoid : MM := (⟨"java/lang/String", "<init>", "(Ljava/lang/AbstractStringBuilder;Ljava/lang/Void;)V"⟩, prog_27_method_150_code, 5, none)
theorem q_jStr_init_LAbstractStringBuilderLVoid : mOk M_jStr_init_LAbstractStringBuilderLVoid 2 := ⟨wd1084, wd31, by decide, by decide, by decide +kernel, by decide, tz_jStr rfl⟩
def M_jASB_getValue : MM := (⟨"java/lang/AbstractStringBuilder", "getValue", "()[B"⟩, prog_12_method_64_code, 1, (some (.array .byte)))
theorem q_jASB_getValue : mOk M_jASB_getValue 0 := ⟨wd1090, wd29, by decide, by decide, by decide +kernel, by decide, tz_jASB rfl⟩
def M_jSB_length : MM := (⟨"java/lang/StringBuilder", "length", "()I"⟩, prog_28_method_93_code, 1, (some .int))
theorem q_jSB_length : mOk M_jSB_length 0 := ⟨wd1096, wd30, by decide, by decide, by decide +kernel, by decide, tz_jSB rfl⟩
def M_jASB_length : MM := (⟨"java/lang/AbstractStringBuilder", "length", "()I"⟩, prog_12_method_6_code, 1, (some .int))
theorem q_jASB_length : mOk M_jASB_length 0 := ⟨wd1098, wd29, by decide, by decide, by decide +kernel, by decide, tz_jASB rfl⟩
def M_jArr_copyOfRange : MM := (⟨"java/util/Arrays", "copyOfRange", "([BII)[B"⟩, prog_35_method_132_code, 3, (some (.array .byte)))
theorem q_jArr_copyOfRange : mOk M_jArr_copyOfRange 3 := ⟨wd1102, wd35, by decide, by decide, by decide +kernel, by decide, tz_jArr rfl⟩
def M_jArr_copyOfRangeByte : MM := (⟨"java/util/Arrays", "copyOfRangeByte", "([BII)[B"⟩, prog_35_method_133_code, 5, (some (.array .byte)))
theorem q_jArr_copyOfRangeByte : mOk M_jArr_copyOfRangeByte 3 := ⟨wd1105, wd35, by decide, by decide, by decide +kernel, by decide, tz_jArr rfl⟩
def M_jArr_checkLength : MM := (⟨"java/util/Arrays", "checkLength", "(II)V"⟩, prog_35_method_131_code, 2, none)
theorem q_jArr_checkLength : mOk M_jArr_checkLength 2 := ⟨wd1108, wd35, by decide, by decide, by decide +kernel, by decide, tz_jArr rfl⟩
def M_Lw_draw : MM := (⟨"RestMillLaw", "draw", "([IIII)I"⟩, method_3_code, 4, (some .int))
theorem q_Lw_draw : mOk M_Lw_draw 4 := ⟨wd659, wd20, by decide, by decide, by decide +kernel, by decide, tz_Lw rfl⟩
def M_Lw_cell : MM := (⟨"RestMillLaw", "cell", "([II)I"⟩, method_2_code, 2, (some .int))
theorem q_Lw_cell : mOk M_Lw_cell 2 := ⟨wd662, wd20, by decide, by decide, by decide +kernel, by decide, tz_Lw rfl⟩
def M_Lw_loaded : MM := (⟨"RestMillLaw", "loaded", "(LRestMill;Ljava/lang/String;)I"⟩, method_5_code, 2, (some .int))
theorem q_Lw_loaded : mOk M_Lw_loaded 2 := ⟨wd667, wd20, by decide, by decide, by decide +kernel, by decide, tz_Lw rfl⟩
def M_Lw_feeds : MM := (⟨"RestMillLaw", "feeds", "(LRestMill;Ljava/lang/String;)V"⟩, method_4_code, 5, none)
theorem q_Lw_feeds : mOk M_Lw_feeds 2 := ⟨wd670, wd20, by decide, by decide, by decide +kernel, by decide, tz_Lw rfl⟩
def M_Lw_setup : MM := (⟨"RestMillLaw", "setup", "([I)Ljava/lang/String;"⟩, method_6_code, 6, (some (.object "java/lang/String")))
theorem q_Lw_setup : mOk M_Lw_setup 1 := ⟨wd929, wd20, by decide, by decide, by decide +kernel, by decide, tz_Lw rfl⟩
def M_Lw_isBounded : MM := (⟨"RestMillLaw", "isBounded", "(LRestMill;)Z"⟩, method_7_code, 6, (some .boolean))
theorem q_Lw_isBounded : mOk M_Lw_isBounded 1 := ⟨wd1132, wd20, by decide, by decide, by decide +kernel, by decide, tz_Lw rfl⟩
def M_Lw_isTold : MM := (⟨"RestMillLaw", "isTold", "(LRestMill;I)Z"⟩, method_8_code, 12, (some .boolean))
theorem q_Lw_isTold : mOk M_Lw_isTold 2 := ⟨wd1136, wd20, by decide, by decide, by decide +kernel, by decide, tz_Lw rfl⟩
def M_Lw_isOperated : MM := (⟨"RestMillLaw", "isOperated", "(LRestMill;IIII)Z"⟩, method_11_code, 21, (some .boolean))
theorem q_Lw_isOperated : mOk M_Lw_isOperated 5 := ⟨wd1163, wd20, by decide, by decide, by decide +kernel, by decide, tz_Lw rfl⟩
def M_Lw_exact : MM := (⟨"RestMillLaw", "exact", "(IJJ)J"⟩, method_10_code, 5, (some .long))
theorem q_Lw_exact : mOk M_Lw_exact 3 := ⟨wd1210, wd20, by decide, by decide, by decide +kernel, by decide, tz_Lw rfl⟩
def M_Lw_floored : MM := (⟨"RestMillLaw", "floored", "(JJ)J"⟩, method_9_code, 4, (some .long))
theorem q_Lw_floored : mOk M_Lw_floored 2 := ⟨wd1213, wd20, by decide, by decide, by decide +kernel, by decide, tz_Lw rfl⟩
def M_Lw_isScaled : MM := (⟨"RestMillLaw", "isScaled", "(LRestMill;II)Z"⟩, method_12_code, 10, (some .boolean))
theorem q_Lw_isScaled : mOk M_Lw_isScaled 3 := ⟨wd1227, wd20, by decide, by decide, by decide +kernel, by decide, tz_Lw rfl⟩
def M_Lw_sum : MM := (⟨"RestMillLaw", "sum", "(LRestMill;)J"⟩, method_13_code, 4, (some .long))
theorem q_Lw_sum : mOk M_Lw_sum 1 := ⟨wd1238, wd20, by decide, by decide, by decide +kernel, by decide, tz_Lw rfl⟩
def M_Lw_isGrown : MM := (⟨"RestMillLaw", "isGrown", "(LRestMill;)Z"⟩, method_14_code, 6, (some .boolean))
theorem q_Lw_isGrown : mOk M_Lw_isGrown 1 := ⟨wd1242, wd20, by decide, by decide, by decide +kernel, by decide, tz_Lw rfl⟩
def M_Lw_law : MM := (⟨"RestMillLaw", "law", "([I)Z"⟩, code, 16, (some .boolean))
def M_jASB_appendNull : MM := (⟨"java/lang/AbstractStringBuilder", "appendNull", "()Ljava/lang/AbstractStringBuilder;"⟩, prog_12_method_26_code, 3, (some (.object "java/lang/AbstractStringBuilder")))
theorem q_jASB_appendNull : mOk M_jASB_appendNull 0 := ⟨wd957, wd29, by decide, by decide, by decide +kernel, by decide, tz_jASB rfl⟩
def M_jASB_inflate : MM := (⟨"java/lang/AbstractStringBuilder", "inflate", "()V"⟩, prog_12_method_11_code, 2, none)
theorem q_jASB_inflate : mOk M_jASB_inflate 0 := ⟨wd1010, wd29, by decide, by decide, by decide +kernel, by decide, tz_jASB rfl⟩
def M_jLat_inflate : MM := (⟨"java/lang/StringLatin1", "inflate", "([BI[BII)V"⟩, prog_29_method_50_code, 5, none)
theorem q_jLat_inflate : mOk M_jLat_inflate 5 := ⟨wd1013, wd38, by decide, by decide, by decide +kernel, by decide, tz_jLat rfl⟩
def M_jU16_charAt : MM := (⟨"java/lang/StringUTF16", "charAt", "([BI)C"⟩, prog_30_method_83_code, 2, (some .char))
theorem q_jU16_charAt : mOk M_jU16_charAt 2 := ⟨wd701, wd32, by decide, by decide, by decide +kernel, by decide, tz_jU16 rfl⟩
def M_jU16_coderFromArrayLen : MM := (⟨"java/lang/StringUTF16", "coderFromArrayLen", "([BI)B"⟩, prog_30_method_15_code, 2, (some .byte))
theorem q_jU16_coderFromArrayLen : mOk M_jU16_coderFromArrayLen 2 := ⟨wd1118, wd32, by decide, by decide, by decide +kernel, by decide, tz_jU16 rfl⟩
def M_jU16_compress_ABII : MM := (⟨"java/lang/StringUTF16", "compress", "([BII)[B"⟩, prog_30_method_17_code, 6, (some (.array .byte)))
theorem q_jU16_compress_ABII : mOk M_jU16_compress_ABII 3 := ⟨wd1111, wd32, by decide, by decide, by decide +kernel, by decide, tz_jU16 rfl⟩
def M_jU16_getChars_IIIAB : MM := (⟨"java/lang/StringUTF16", "getChars", "(III[B)I"⟩, prog_30_method_77_code, 5, (some .int))
theorem q_jU16_getChars_IIIAB : mOk M_jU16_getChars_IIIAB 4 := ⟨wd1064, wd32, by decide, by decide, by decide +kernel, by decide, tz_jU16 rfl⟩
def M_jU16_indexOf : MM := (⟨"java/lang/StringUTF16", "indexOf", "([BIII)I"⟩, prog_30_method_40_code, 4, (some .int))
theorem q_jU16_indexOf : mOk M_jU16_indexOf 4 := ⟨wd803, wd32, by decide, by decide, by decide +kernel, by decide, tz_jU16 rfl⟩
def M_jU16_newBytesFor : MM := (⟨"java/lang/StringUTF16", "newBytesFor", "(I)[B"⟩, prog_30_method_2_code, 1, (some (.array .byte)))
theorem q_jU16_newBytesFor : mOk M_jU16_newBytesFor 1 := ⟨wd232, wd32, by decide, by decide, by decide +kernel, by decide, tz_jU16 rfl⟩
def M_jU16_putCharSB : MM := (⟨"java/lang/StringUTF16", "putCharSB", "([BII)V"⟩, prog_30_method_71_code, 3, none)
theorem q_jU16_putCharSB : mOk M_jU16_putCharSB 3 := ⟨wd1044, wd32, by decide, by decide, by decide +kernel, by decide, tz_jU16 rfl⟩
def M_jAS_hugeLength : MM := (⟨"jdk/internal/util/ArraysSupport", "hugeLength", "(II)I"⟩, prog_37_method_28_code, 3, (some .int))
theorem q_jAS_hugeLength : mOk M_jAS_hugeLength 2 := ⟨wd973, wd34, by decide, by decide, by decide +kernel, by decide, tz_jAS rfl⟩
theorem s_alt {M : MM} {pc : Nat} {o1 o2 : OP} (h1 : SO M pc o1) (h2 : SO M pc o2) : SO M pc (o_alt o1 o2) := by
  intro d mc ms ls st w K KX Kn gp hK h
  rcases h with h | h
  · exact h1 _ _ _ _ _ _ _ _ _ _ hK h
  · exact h2 _ _ _ _ _ _ _ _ _ _ hK h
