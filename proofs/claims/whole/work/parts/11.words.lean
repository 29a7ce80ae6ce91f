/-! THE TABLES' WORDS that are used, by their places; the methods' names. -/
def gC : List Cond → Nat → Option Cond
  | [], _ => none
  | a :: _, 0 => some a
  | _ :: t, k + 1 => gC t k
theorem gC_mem : ∀ (l : List Cond) (k : Nat) (a : Cond), gC l k = some a → a ∈ l
  | [], k, a, h => by simp [gC] at h
  | b :: t, 0, a, h => by
    simp only [gC, Option.some.injEq] at h
    subst h
    exact List.mem_cons_self
  | b :: t, k + 1, a, h => List.mem_cons_of_mem _ (gC_mem t k a (by simpa [gC] using h))
theorem wdT1 {c : Cond} (k : Nat) (h : gC tables_1_1 k = some c) (hg : goodWord c = true) : c ∈ WD := by
  have h := gC_mem _ _ _ h
  exact wd_in (List.mem_append_right _ (show c ∈ tables_1 from List.mem_append_left _ h)) hg
theorem wdT2 {c : Cond} (k : Nat) (h : gC tables_1_2 k = some c) (hg : goodWord c = true) : c ∈ WD := by
  have h := gC_mem _ _ _ h
  exact wd_in (List.mem_append_right _ (show c ∈ tables_1 from List.mem_append_right _ (List.mem_append_left _ h))) hg
theorem wdT3 {c : Cond} (k : Nat) (h : gC tables_1_3 k = some c) (hg : goodWord c = true) : c ∈ WD := by
  have h := gC_mem _ _ _ h
  exact wd_in (List.mem_append_right _ (show c ∈ tables_1 from List.mem_append_right _ (List.mem_append_right _ (List.mem_append_left _ h)))) hg
theorem wdT4 {c : Cond} (k : Nat) (h : gC tables_1_4 k = some c) (hg : goodWord c = true) : c ∈ WD := by
  have h := gC_mem _ _ _ h
  exact wd_in (List.mem_append_right _ (show c ∈ tables_1 from List.mem_append_right _ (List.mem_append_right _ (List.mem_append_right _ (List.mem_append_left _ h))))) hg
theorem wdT5 {c : Cond} (k : Nat) (h : gC tables_1_5 k = some c) (hg : goodWord c = true) : c ∈ WD := by
  have h := gC_mem _ _ _ h
  exact wd_in (List.mem_append_right _ (show c ∈ tables_1 from List.mem_append_right _ (List.mem_append_right _ (List.mem_append_right _ (List.mem_append_right _ (List.mem_append_left _ h)))))) hg
theorem wdT6 {c : Cond} (k : Nat) (h : gC tables_1_6 k = some c) (hg : goodWord c = true) : c ∈ WD := by
  have h := gC_mem _ _ _ h
  exact wd_in (List.mem_append_right _ (show c ∈ tables_1 from List.mem_append_right _ (List.mem_append_right _ (List.mem_append_right _ (List.mem_append_right _ (List.mem_append_right _ (List.mem_append_left _ h))))))) hg
theorem wdT7 {c : Cond} (k : Nat) (h : gC tables_1_7 k = some c) (hg : goodWord c = true) : c ∈ WD := by
  have h := gC_mem _ _ _ h
  exact wd_in (List.mem_append_right _ (show c ∈ tables_1 from List.mem_append_right _ (List.mem_append_right _ (List.mem_append_right _ (List.mem_append_right _ (List.mem_append_right _ (List.mem_append_right _ (List.mem_append_left _ h)))))))) hg
theorem wdT8 {c : Cond} (k : Nat) (h : gC tables_1_8 k = some c) (hg : goodWord c = true) : c ∈ WD := by
  have h := gC_mem _ _ _ h
  exact wd_in (List.mem_append_right _ (show c ∈ tables_1 from List.mem_append_right _ (List.mem_append_right _ (List.mem_append_right _ (List.mem_append_right _ (List.mem_append_right _ (List.mem_append_right _ (List.mem_append_right _ (List.mem_append_left _ h))))))))) hg
theorem wdT9 {c : Cond} (k : Nat) (h : gC tables_1_9 k = some c) (hg : goodWord c = true) : c ∈ WD := by
  have h := gC_mem _ _ _ h
  exact wd_in (List.mem_append_right _ (show c ∈ tables_1 from List.mem_append_right _ (List.mem_append_right _ (List.mem_append_right _ (List.mem_append_right _ (List.mem_append_right _ (List.mem_append_right _ (List.mem_append_right _ (List.mem_append_right _ (List.mem_append_left _ h)))))))))) hg
theorem wdT10 {c : Cond} (k : Nat) (h : gC tables_1_10 k = some c) (hg : goodWord c = true) : c ∈ WD := by
  have h := gC_mem _ _ _ h
  exact wd_in (List.mem_append_right _ (show c ∈ tables_1 from List.mem_append_right _ (List.mem_append_right _ (List.mem_append_right _ (List.mem_append_right _ (List.mem_append_right _ (List.mem_append_right _ (List.mem_append_right _ (List.mem_append_right _ (List.mem_append_right _ (h))))))))))) hg
theorem wdS {c : Cond} (k : Nat) (h : gC (k2_sels lw_privs) k = some c) (hg : goodWord c = true) : c ∈ WD := wd_in (List.mem_append_left _ (gC_mem _ _ _ h)) hg
theorem wd0 : (Cond.selects "RestMill$Moduli" ({ cls := "RestMill$Moduli", name := "measure", desc := "()V" } : MethodName) ({ cls := "RestMill$Moduli", name := "measure", desc := "()V" } : MethodName)) ∈ WD := wdS 0 rfl rfl
theorem wd1 : (Cond.selects "RestMill" ({ cls := "RestMill", name := "appendFour", desc := "(I)V" } : MethodName) ({ cls := "RestMill", name := "appendFour", desc := "(I)V" } : MethodName)) ∈ WD := wdS 1 rfl rfl
theorem wd2 : (Cond.selects "RestMill$Tokens" ({ cls := "RestMill$Tokens", name := "readToken", desc := "([BII)I" } : MethodName) ({ cls := "RestMill$Tokens", name := "readToken", desc := "([BII)I" } : MethodName)) ∈ WD := wdS 2 rfl rfl
theorem wd3 : (Cond.selects "RestMill$Tokens" ({ cls := "RestMill$Tokens", name := "readWord", desc := "([BII)I" } : MethodName) ({ cls := "RestMill$Tokens", name := "readWord", desc := "([BII)I" } : MethodName)) ∈ WD := wdS 3 rfl rfl
theorem wd4 : (Cond.selects "RestMill$Tokens" ({ cls := "RestMill$Tokens", name := "add", desc := "(III)V" } : MethodName) ({ cls := "RestMill$Tokens", name := "add", desc := "(III)V" } : MethodName)) ∈ WD := wdS 4 rfl rfl
theorem wd5 : (Cond.selects "RestMill$Tokens" ({ cls := "RestMill$Tokens", name := "readNumeral", desc := "([BII)I" } : MethodName) ({ cls := "RestMill$Tokens", name := "readNumeral", desc := "([BII)I" } : MethodName)) ∈ WD := wdS 5 rfl rfl
theorem wd6 : (Cond.selects "RestMill$SetupReader" ({ cls := "RestMill$SetupReader", name := "readModuli", desc := "(LRestMill$Moduli;)Z" } : MethodName) ({ cls := "RestMill$SetupReader", name := "readModuli", desc := "(LRestMill$Moduli;)Z" } : MethodName)) ∈ WD := wdS 6 rfl rfl
theorem wd7 : (Cond.selects "RestMill$SetupReader" ({ cls := "RestMill$SetupReader", name := "modulusError", desc := "(LRestMill$Moduli;)I" } : MethodName) ({ cls := "RestMill$SetupReader", name := "modulusError", desc := "(LRestMill$Moduli;)I" } : MethodName)) ∈ WD := wdS 7 rfl rfl
theorem wd8 : (Cond.selects "RestMill$SetupReader" ({ cls := "RestMill$SetupReader", name := "readChecks", desc := "(LRestMill$Moduli;)Z" } : MethodName) ({ cls := "RestMill$SetupReader", name := "readChecks", desc := "(LRestMill$Moduli;)Z" } : MethodName)) ∈ WD := wdS 8 rfl rfl
theorem wd9 : (Cond.selects "RestMill$SetupReader" ({ cls := "RestMill$SetupReader", name := "readStrict", desc := "(LRestMill$Mill;)Z" } : MethodName) ({ cls := "RestMill$SetupReader", name := "readStrict", desc := "(LRestMill$Mill;)Z" } : MethodName)) ∈ WD := wdS 9 rfl rfl
theorem wd10 : (Cond.selects "RestMill$SetupReader" ({ cls := "RestMill$SetupReader", name := "readSets", desc := "(LRestMill$Mill;)Z" } : MethodName) ({ cls := "RestMill$SetupReader", name := "readSets", desc := "(LRestMill$Mill;)Z" } : MethodName)) ∈ WD := wdS 10 rfl rfl
theorem wd11 : (Cond.selects "RestMill$SetupReader" ({ cls := "RestMill$SetupReader", name := "readSet", desc := "(LRestMill$Mill;)Z" } : MethodName) ({ cls := "RestMill$SetupReader", name := "readSet", desc := "(LRestMill$Mill;)Z" } : MethodName)) ∈ WD := wdS 11 rfl rfl
theorem wd12 : (Cond.selects "RestMill" ({ cls := "RestMill", name := "endText", desc := "(LRestMill$Tokens;)V" } : MethodName) ({ cls := "RestMill", name := "endText", desc := "(LRestMill$Tokens;)V" } : MethodName)) ∈ WD := wdS 12 rfl rfl
theorem wd13 : (Cond.selects "RestMill$ScriptReader" ({ cls := "RestMill$ScriptReader", name := "readGive", desc := "()Z" } : MethodName) ({ cls := "RestMill$ScriptReader", name := "readGive", desc := "()Z" } : MethodName)) ∈ WD := wdS 13 rfl rfl
theorem wd14 : (Cond.selects "RestMill$ScriptReader" ({ cls := "RestMill$ScriptReader", name := "readSum", desc := "(I)Z" } : MethodName) ({ cls := "RestMill$ScriptReader", name := "readSum", desc := "(I)Z" } : MethodName)) ∈ WD := wdS 14 rfl rfl
theorem wd15 : (Cond.selects "RestMill$ScriptReader" ({ cls := "RestMill$ScriptReader", name := "readProduct", desc := "(I)Z" } : MethodName) ({ cls := "RestMill$ScriptReader", name := "readProduct", desc := "(I)Z" } : MethodName)) ∈ WD := wdS 15 rfl rfl
theorem wd16 : (Cond.selects "RestMill$ScriptReader" ({ cls := "RestMill$ScriptReader", name := "readFactor", desc := "(I)Z" } : MethodName) ({ cls := "RestMill$ScriptReader", name := "readFactor", desc := "(I)Z" } : MethodName)) ∈ WD := wdS 16 rfl rfl
theorem wd17 : (Cond.selects "RestMill$ScriptReader" ({ cls := "RestMill$ScriptReader", name := "readOrder", desc := "()Z" } : MethodName) ({ cls := "RestMill$ScriptReader", name := "readOrder", desc := "()Z" } : MethodName)) ∈ WD := wdS 17 rfl rfl
theorem wd18 : (Cond.selects "RestMill$Changes" ({ cls := "RestMill$Changes", name := "slotAt", desc := "(I)LRestMill$Mill;" } : MethodName) ({ cls := "RestMill$Changes", name := "slotAt", desc := "(I)LRestMill$Mill;" } : MethodName)) ∈ WD := wdS 18 rfl rfl
theorem wd19 : (Cond.selects "RestMill$Program" ({ cls := "RestMill$Program", name := "doStep", desc := "(LRestMill$Mill;III)I" } : MethodName) ({ cls := "RestMill$Program", name := "doStep", desc := "(LRestMill$Mill;III)I" } : MethodName)) ∈ WD := wdS 19 rfl rfl
theorem wd20 : (Cond.selects "RestMill$Program" ({ cls := "RestMill$Program", name := "push", desc := "(J)V" } : MethodName) ({ cls := "RestMill$Program", name := "push", desc := "(J)V" } : MethodName)) ∈ WD := wdS 20 rfl rfl
theorem wd21 : (Cond.selects "RestMill$Program" ({ cls := "RestMill$Program", name := "doOperation", desc := "(LRestMill$Mill;I)I" } : MethodName) ({ cls := "RestMill$Program", name := "doOperation", desc := "(LRestMill$Mill;I)I" } : MethodName)) ∈ WD := wdS 21 rfl rfl
theorem wd22 : (Cond.selects "RestMill$Program" ({ cls := "RestMill$Program", name := "pop", desc := "()J" } : MethodName) ({ cls := "RestMill$Program", name := "pop", desc := "()J" } : MethodName)) ∈ WD := wdS 22 rfl rfl
theorem wd23 : (Cond.selects "RestMill$Mill" ({ cls := "RestMill$Mill", name := "refusesResult", desc := "(J)Z" } : MethodName) ({ cls := "RestMill$Mill", name := "refusesResult", desc := "(J)Z" } : MethodName)) ∈ WD := wdS 23 rfl rfl
theorem wd25 : (Cond.selects "RestMill" ({ cls := "RestMill", name := "needModulus", desc := "(I)V" } : MethodName) ({ cls := "RestMill", name := "needModulus", desc := "(I)V" } : MethodName)) ∈ WD := wdS 25 rfl rfl
theorem wd26 : (Cond.selects "RestMill" ({ cls := "RestMill", name := "needRegister", desc := "(I)V" } : MethodName) ({ cls := "RestMill", name := "needRegister", desc := "(I)V" } : MethodName)) ∈ WD := wdS 26 rfl rfl
theorem wd27 : (Cond.selects "RestMill" ({ cls := "RestMill", name := "needOperation", desc := "(I)V" } : MethodName) ({ cls := "RestMill", name := "needOperation", desc := "(I)V" } : MethodName)) ∈ WD := wdS 27 rfl rfl
theorem wd28 : (Cond.selects "RestMill" ({ cls := "RestMill", name := "needRest", desc := "(II)V" } : MethodName) ({ cls := "RestMill", name := "needRest", desc := "(II)V" } : MethodName)) ∈ WD := wdS 28 rfl rfl
theorem wd29 : (Cond.selects "RestMillModel" ({ cls := "RestMillModel", name := "puts4", desc := "(I)V" } : MethodName) ({ cls := "RestMillModel", name := "puts4", desc := "(I)V" } : MethodName)) ∈ WD := wdS 29 rfl rfl
theorem wd30 : (Cond.selects "RestMillModel" ({ cls := "RestMillModel", name := "startsText", desc := "()V" } : MethodName) ({ cls := "RestMillModel", name := "startsText", desc := "()V" } : MethodName)) ∈ WD := wdS 30 rfl rfl
theorem wd31 : (Cond.selects "RestMillModel" ({ cls := "RestMillModel", name := "scans", desc := "()V" } : MethodName) ({ cls := "RestMillModel", name := "scans", desc := "()V" } : MethodName)) ∈ WD := wdS 31 rfl rfl
theorem wd32 : (Cond.selects "RestMillModel" ({ cls := "RestMillModel", name := "byteAt", desc := "(I)I" } : MethodName) ({ cls := "RestMillModel", name := "byteAt", desc := "(I)I" } : MethodName)) ∈ WD := wdS 32 rfl rfl
theorem wd33 : (Cond.selects "RestMillModel" ({ cls := "RestMillModel", name := "readsSetup", desc := "()V" } : MethodName) ({ cls := "RestMillModel", name := "readsSetup", desc := "()V" } : MethodName)) ∈ WD := wdS 33 rfl rfl
theorem wd34 : (Cond.selects "RestMillModel" ({ cls := "RestMillModel", name := "isWord", desc := "(Ljava/lang/String;)Z" } : MethodName) ({ cls := "RestMillModel", name := "isWord", desc := "(Ljava/lang/String;)Z" } : MethodName)) ∈ WD := wdS 34 rfl rfl
theorem wd35 : (Cond.selects "RestMillModel" ({ cls := "RestMillModel", name := "isGood", desc := "()Z" } : MethodName) ({ cls := "RestMillModel", name := "isGood", desc := "()Z" } : MethodName)) ∈ WD := wdS 35 rfl rfl
theorem wd36 : (Cond.selects "RestMillModel" ({ cls := "RestMillModel", name := "errs", desc := "(I)V" } : MethodName) ({ cls := "RestMillModel", name := "errs", desc := "(I)V" } : MethodName)) ∈ WD := wdS 36 rfl rfl
theorem wd37 : (Cond.selects "RestMillModel" ({ cls := "RestMillModel", name := "goesOn", desc := "()V" } : MethodName) ({ cls := "RestMillModel", name := "goesOn", desc := "()V" } : MethodName)) ∈ WD := wdS 37 rfl rfl
theorem wd38 : (Cond.selects "RestMillModel" ({ cls := "RestMillModel", name := "many", desc := "()I" } : MethodName) ({ cls := "RestMillModel", name := "many", desc := "()I" } : MethodName)) ∈ WD := wdS 38 rfl rfl
theorem wd39 : (Cond.selects "RestMillModel" ({ cls := "RestMillModel", name := "modulusHere", desc := "()V" } : MethodName) ({ cls := "RestMillModel", name := "modulusHere", desc := "()V" } : MethodName)) ∈ WD := wdS 39 rfl rfl
theorem wd40 : (Cond.selects "RestMillModel" ({ cls := "RestMillModel", name := "whole", desc := "()J" } : MethodName) ({ cls := "RestMillModel", name := "whole", desc := "()J" } : MethodName)) ∈ WD := wdS 40 rfl rfl
theorem wd41 : (Cond.selects "RestMillModel" ({ cls := "RestMillModel", name := "productOf", desc := "(I)J" } : MethodName) ({ cls := "RestMillModel", name := "productOf", desc := "(I)J" } : MethodName)) ∈ WD := wdS 41 rfl rfl
theorem wd42 : (Cond.selects "RestMillModel" ({ cls := "RestMillModel", name := "mod", desc := "(I)I" } : MethodName) ({ cls := "RestMillModel", name := "mod", desc := "(I)I" } : MethodName)) ∈ WD := wdS 42 rfl rfl
theorem wd43 : (Cond.selects "RestMillModel" ({ cls := "RestMillModel", name := "isCommon", desc := "(I)Z" } : MethodName) ({ cls := "RestMillModel", name := "isCommon", desc := "(I)Z" } : MethodName)) ∈ WD := wdS 43 rfl rfl
theorem wd44 : (Cond.selects "RestMillModel" ({ cls := "RestMillModel", name := "sign", desc := "(I)V" } : MethodName) ({ cls := "RestMillModel", name := "sign", desc := "(I)V" } : MethodName)) ∈ WD := wdS 44 rfl rfl
theorem wd45 : (Cond.selects "RestMillModel" ({ cls := "RestMillModel", name := "isSign", desc := "(I)Z" } : MethodName) ({ cls := "RestMillModel", name := "isSign", desc := "(I)Z" } : MethodName)) ∈ WD := wdS 45 rfl rfl
theorem wd46 : (Cond.selects "RestMillModel" ({ cls := "RestMillModel", name := "number", desc := "(JJ)I" } : MethodName) ({ cls := "RestMillModel", name := "number", desc := "(JJ)I" } : MethodName)) ∈ WD := wdS 46 rfl rfl
theorem wd47 : (Cond.selects "RestMillModel" ({ cls := "RestMillModel", name := "setHere", desc := "()V" } : MethodName) ({ cls := "RestMillModel", name := "setHere", desc := "()V" } : MethodName)) ∈ WD := wdS 47 rfl rfl
theorem wd48 : (Cond.selects "RestMillModel" ({ cls := "RestMillModel", name := "registerHere", desc := "()I" } : MethodName) ({ cls := "RestMillModel", name := "registerHere", desc := "()I" } : MethodName)) ∈ WD := wdS 48 rfl rfl
theorem wd49 : (Cond.selects "RestMillModel" ({ cls := "RestMillModel", name := "isLetter", desc := "()Z" } : MethodName) ({ cls := "RestMillModel", name := "isLetter", desc := "()Z" } : MethodName)) ∈ WD := wdS 49 rfl rfl
theorem wd50 : (Cond.selects "RestMillModel" ({ cls := "RestMillModel", name := "half", desc := "()J" } : MethodName) ({ cls := "RestMillModel", name := "half", desc := "()J" } : MethodName)) ∈ WD := wdS 50 rfl rfl
theorem wd51 : (Cond.selects "RestMillModel" ({ cls := "RestMillModel", name := "bases", desc := "()I" } : MethodName) ({ cls := "RestMillModel", name := "bases", desc := "()I" } : MethodName)) ∈ WD := wdS 51 rfl rfl
theorem wd52 : (Cond.selects "RestMillModel" ({ cls := "RestMillModel", name := "tells", desc := "(IJ)V" } : MethodName) ({ cls := "RestMillModel", name := "tells", desc := "(IJ)V" } : MethodName)) ∈ WD := wdS 52 rfl rfl
theorem wd53 : (Cond.selects "RestMillModel" ({ cls := "RestMillModel", name := "puts", desc := "(III)V" } : MethodName) ({ cls := "RestMillModel", name := "puts", desc := "(III)V" } : MethodName)) ∈ WD := wdS 53 rfl rfl
theorem wd54 : (Cond.selects "RestMillModel" ({ cls := "RestMillModel", name := "readsStatement", desc := "()V" } : MethodName) ({ cls := "RestMillModel", name := "readsStatement", desc := "()V" } : MethodName)) ∈ WD := wdS 54 rfl rfl
theorem wd55 : (Cond.selects "RestMillModel" ({ cls := "RestMillModel", name := "register", desc := "()I" } : MethodName) ({ cls := "RestMillModel", name := "register", desc := "()I" } : MethodName)) ∈ WD := wdS 55 rfl rfl
theorem wd56 : (Cond.selects "RestMillModel" ({ cls := "RestMillModel", name := "readsSum", desc := "()V" } : MethodName) ({ cls := "RestMillModel", name := "readsSum", desc := "()V" } : MethodName)) ∈ WD := wdS 56 rfl rfl
theorem wd57 : (Cond.selects "RestMillModel" ({ cls := "RestMillModel", name := "readsProduct", desc := "()V" } : MethodName) ({ cls := "RestMillModel", name := "readsProduct", desc := "()V" } : MethodName)) ∈ WD := wdS 57 rfl rfl
theorem wd58 : (Cond.selects "RestMillModel" ({ cls := "RestMillModel", name := "readsFactor", desc := "()V" } : MethodName) ({ cls := "RestMillModel", name := "readsFactor", desc := "()V" } : MethodName)) ∈ WD := wdS 58 rfl rfl
theorem wd59 : (Cond.selects "RestMillModel" ({ cls := "RestMillModel", name := "opens", desc := "()V" } : MethodName) ({ cls := "RestMillModel", name := "opens", desc := "()V" } : MethodName)) ∈ WD := wdS 59 rfl rfl
theorem wd60 : (Cond.selects "RestMillModel" ({ cls := "RestMillModel", name := "lays", desc := "(II)V" } : MethodName) ({ cls := "RestMillModel", name := "lays", desc := "(II)V" } : MethodName)) ∈ WD := wdS 60 rfl rfl
theorem wd61 : (Cond.selects "RestMillModel" ({ cls := "RestMillModel", name := "adds", desc := "(IIII)V" } : MethodName) ({ cls := "RestMillModel", name := "adds", desc := "(IIII)V" } : MethodName)) ∈ WD := wdS 61 rfl rfl
theorem wd62 : (Cond.selects "RestMillModel" ({ cls := "RestMillModel", name := "keeps", desc := "()V" } : MethodName) ({ cls := "RestMillModel", name := "keeps", desc := "()V" } : MethodName)) ∈ WD := wdS 62 rfl rfl
theorem wd63 : (Cond.selects "RestMillModel" ({ cls := "RestMillModel", name := "does", desc := "(I)I" } : MethodName) ({ cls := "RestMillModel", name := "does", desc := "(I)I" } : MethodName)) ∈ WD := wdS 63 rfl rfl
theorem wd64 : (Cond.selects "RestMillModel" ({ cls := "RestMillModel", name := "gives", desc := "(III)I" } : MethodName) ({ cls := "RestMillModel", name := "gives", desc := "(III)I" } : MethodName)) ∈ WD := wdS 64 rfl rfl
theorem wd65 : (Cond.selects "RestMillModel" ({ cls := "RestMillModel", name := "step", desc := "(I)I" } : MethodName) ({ cls := "RestMillModel", name := "step", desc := "(I)I" } : MethodName)) ∈ WD := wdS 65 rfl rfl
theorem wd66 : (Cond.selects "RestMillModel" ({ cls := "RestMillModel", name := "copiesRow", desc := "(II)V" } : MethodName) ({ cls := "RestMillModel", name := "copiesRow", desc := "(II)V" } : MethodName)) ∈ WD := wdS 66 rfl rfl
theorem wd67 : (Cond.selects "RestMillModel" ({ cls := "RestMillModel", name := "restOf", desc := "(II)I" } : MethodName) ({ cls := "RestMillModel", name := "restOf", desc := "(II)I" } : MethodName)) ∈ WD := wdS 67 rfl rfl
theorem wd68 : (Cond.selects "RestMillModel" ({ cls := "RestMillModel", name := "works", desc := "(IIII)I" } : MethodName) ({ cls := "RestMillModel", name := "works", desc := "(IIII)I" } : MethodName)) ∈ WD := wdS 68 rfl rfl
theorem wd69 : (Cond.selects "RestMillModel" ({ cls := "RestMillModel", name := "numberOf", desc := "(I)J" } : MethodName) ({ cls := "RestMillModel", name := "numberOf", desc := "(I)J" } : MethodName)) ∈ WD := wdS 69 rfl rfl
theorem wd70 : (Cond.selects "RestMillModel" ({ cls := "RestMillModel", name := "valueOf", desc := "(I)J" } : MethodName) ({ cls := "RestMillModel", name := "valueOf", desc := "(I)J" } : MethodName)) ∈ WD := wdS 70 rfl rfl
theorem wd71 : (Cond.selects "RestMillModel" ({ cls := "RestMillModel", name := "divides", desc := "(I)Z" } : MethodName) ({ cls := "RestMillModel", name := "divides", desc := "(I)Z" } : MethodName)) ∈ WD := wdS 71 rfl rfl
theorem wd72 : (Cond.selects "RestMillModel" ({ cls := "RestMillModel", name := "soundNow", desc := "(I)Z" } : MethodName) ({ cls := "RestMillModel", name := "soundNow", desc := "(I)Z" } : MethodName)) ∈ WD := wdS 72 rfl rfl
theorem wd73 : (Cond.selects "RestMillModel" ({ cls := "RestMillModel", name := "fits", desc := "(J)Z" } : MethodName) ({ cls := "RestMillModel", name := "fits", desc := "(J)Z" } : MethodName)) ∈ WD := wdS 73 rfl rfl
theorem wd74 : (Cond.selects "RestMillModel" ({ cls := "RestMillModel", name := "refuses", desc := "(I)I" } : MethodName) ({ cls := "RestMillModel", name := "refuses", desc := "(I)I" } : MethodName)) ∈ WD := wdS 74 rfl rfl
theorem wd75 : (Cond.selects "RestMillModel" ({ cls := "RestMillModel", name := "counts", desc := "(I)V" } : MethodName) ({ cls := "RestMillModel", name := "counts", desc := "(I)V" } : MethodName)) ∈ WD := wdS 75 rfl rfl
theorem wd76 : (Cond.selects "RestMillModel" ({ cls := "RestMillModel", name := "acts", desc := "(I)I" } : MethodName) ({ cls := "RestMillModel", name := "acts", desc := "(I)I" } : MethodName)) ∈ WD := wdS 76 rfl rfl
theorem wd77 : (Cond.selects "RestMillModel" ({ cls := "RestMillModel", name := "scales", desc := "(II)I" } : MethodName) ({ cls := "RestMillModel", name := "scales", desc := "(II)I" } : MethodName)) ∈ WD := wdS 77 rfl rfl
theorem wd78 : (Cond.selects "RestMillModel" ({ cls := "RestMillModel", name := "laysInto", desc := "(II)I" } : MethodName) ({ cls := "RestMillModel", name := "laysInto", desc := "(II)I" } : MethodName)) ∈ WD := wdS 78 rfl rfl
theorem wd79 : (Cond.selects "RestMillModel" ({ cls := "RestMillModel", name := "mendsNow", desc := "(I)I" } : MethodName) ({ cls := "RestMillModel", name := "mendsNow", desc := "(I)I" } : MethodName)) ∈ WD := wdS 79 rfl rfl
theorem wd80 : (Cond.selects "RestMillModel" ({ cls := "RestMillModel", name := "mendingRest", desc := "(II)I" } : MethodName) ({ cls := "RestMillModel", name := "mendingRest", desc := "(II)I" } : MethodName)) ∈ WD := wdS 80 rfl rfl
theorem wd81 : (Cond.selects "RestMillModel" ({ cls := "RestMillModel", name := "mends", desc := "(III)Z" } : MethodName) ({ cls := "RestMillModel", name := "mends", desc := "(III)Z" } : MethodName)) ∈ WD := wdS 81 rfl rfl
theorem wd82 : (Cond.selects "RestMillModel" ({ cls := "RestMillModel", name := "swaps", desc := "(II)V" } : MethodName) ({ cls := "RestMillModel", name := "swaps", desc := "(II)V" } : MethodName)) ∈ WD := wdS 82 rfl rfl
theorem wd83 : (Cond.selects "RestMillModel" ({ cls := "RestMillModel", name := "registersBy", desc := "(I)I" } : MethodName) ({ cls := "RestMillModel", name := "registersBy", desc := "(I)I" } : MethodName)) ∈ WD := wdS 83 rfl rfl
theorem wd84 : (Cond.selects "RestMillModel" ({ cls := "RestMillModel", name := "mayModulus", desc := "(I)Z" } : MethodName) ({ cls := "RestMillModel", name := "mayModulus", desc := "(I)Z" } : MethodName)) ∈ WD := wdS 84 rfl rfl
theorem wd85 : (Cond.selects "RestMillModel" ({ cls := "RestMillModel", name := "isModulus", desc := "(I)Z" } : MethodName) ({ cls := "RestMillModel", name := "isModulus", desc := "(I)Z" } : MethodName)) ∈ WD := wdS 85 rfl rfl
theorem wd86 : (Cond.selects "RestMillModel" ({ cls := "RestMillModel", name := "weightOf", desc := "(I)J" } : MethodName) ({ cls := "RestMillModel", name := "weightOf", desc := "(I)J" } : MethodName)) ∈ WD := wdS 86 rfl rfl
theorem wd87 : (Cond.selects "RestMillModel" ({ cls := "RestMillModel", name := "mayBoth", desc := "(II)Z" } : MethodName) ({ cls := "RestMillModel", name := "mayBoth", desc := "(II)Z" } : MethodName)) ∈ WD := wdS 87 rfl rfl
theorem wd88 : (Cond.selects "RestMillModel" ({ cls := "RestMillModel", name := "isRegister", desc := "(I)Z" } : MethodName) ({ cls := "RestMillModel", name := "isRegister", desc := "(I)Z" } : MethodName)) ∈ WD := wdS 88 rfl rfl
theorem wd89 : (Cond.selects "RestMillModel" ({ cls := "RestMillModel", name := "partOf", desc := "(II)J" } : MethodName) ({ cls := "RestMillModel", name := "partOf", desc := "(II)J" } : MethodName)) ∈ WD := wdS 89 rfl rfl
theorem wd90 : (Cond.selects "RestMillModel" ({ cls := "RestMillModel", name := "mayRegister", desc := "(I)Z" } : MethodName) ({ cls := "RestMillModel", name := "mayRegister", desc := "(I)Z" } : MethodName)) ∈ WD := wdS 90 rfl rfl
theorem wd91 : (Cond.selects "RestMillModel" ({ cls := "RestMillModel", name := "partsOf", desc := "(I)J" } : MethodName) ({ cls := "RestMillModel", name := "partsOf", desc := "(I)J" } : MethodName)) ∈ WD := wdS 91 rfl rfl
theorem wd92 : (Cond.selects "RestMillModel" ({ cls := "RestMillModel", name := "mayTwo", desc := "(II)Z" } : MethodName) ({ cls := "RestMillModel", name := "mayTwo", desc := "(II)Z" } : MethodName)) ∈ WD := wdS 92 rfl rfl
theorem wd93 : (Cond.selects "RestMillModel" ({ cls := "RestMillModel", name := "compares", desc := "(II)I" } : MethodName) ({ cls := "RestMillModel", name := "compares", desc := "(II)I" } : MethodName)) ∈ WD := wdS 93 rfl rfl
theorem wd94 : (Cond.selects "RestMillModel" ({ cls := "RestMillModel", name := "mayOperate", desc := "(III)Z" } : MethodName) ({ cls := "RestMillModel", name := "mayOperate", desc := "(III)Z" } : MethodName)) ∈ WD := wdS 94 rfl rfl
theorem wd95 : (Cond.selects "RestMillModel" ({ cls := "RestMillModel", name := "mayRest", desc := "(III)Z" } : MethodName) ({ cls := "RestMillModel", name := "mayRest", desc := "(III)Z" } : MethodName)) ∈ WD := wdS 95 rfl rfl
theorem wd96 : (Cond.selects "RestMillModel" ({ cls := "RestMillModel", name := "canGrow", desc := "(I)Z" } : MethodName) ({ cls := "RestMillModel", name := "canGrow", desc := "(I)Z" } : MethodName)) ∈ WD := wdS 96 rfl rfl
theorem wd97 : (Cond.selects "RestMillModel" ({ cls := "RestMillModel", name := "canDrop", desc := "(I)Z" } : MethodName) ({ cls := "RestMillModel", name := "canDrop", desc := "(I)Z" } : MethodName)) ∈ WD := wdS 97 rfl rfl
theorem wd98 : (Cond.selects "RestMillModel" ({ cls := "RestMillModel", name := "sizeOf", desc := "(I)J" } : MethodName) ({ cls := "RestMillModel", name := "sizeOf", desc := "(I)J" } : MethodName)) ∈ WD := wdS 98 rfl rfl
theorem wd99 : (Cond.selects "RestMillModel" ({ cls := "RestMillModel", name := "tries", desc := "()V" } : MethodName) ({ cls := "RestMillModel", name := "tries", desc := "()V" } : MethodName)) ∈ WD := wdS 99 rfl rfl
theorem wd100 : (Cond.selects "RestMillModel" ({ cls := "RestMillModel", name := "setsNow", desc := "(II)I" } : MethodName) ({ cls := "RestMillModel", name := "setsNow", desc := "(II)I" } : MethodName)) ∈ WD := wdS 100 rfl rfl
theorem wd101 : (Cond.selects "RestMillModel" ({ cls := "RestMillModel", name := "decided", desc := "(I)I" } : MethodName) ({ cls := "RestMillModel", name := "decided", desc := "(I)I" } : MethodName)) ∈ WD := wdS 101 rfl rfl
theorem wd102 : (Cond.selects "RestMillModel" ({ cls := "RestMillModel", name := "tried", desc := "(I)I" } : MethodName) ({ cls := "RestMillModel", name := "tried", desc := "(I)I" } : MethodName)) ∈ WD := wdS 102 rfl rfl
theorem wd103 : (Cond.selects "RestMillModel" ({ cls := "RestMillModel", name := "grows", desc := "(I)I" } : MethodName) ({ cls := "RestMillModel", name := "grows", desc := "(I)I" } : MethodName)) ∈ WD := wdS 103 rfl rfl
theorem wd104 : (Cond.selects "RestMillModel" ({ cls := "RestMillModel", name := "laysNumbers", desc := "()V" } : MethodName) ({ cls := "RestMillModel", name := "laysNumbers", desc := "()V" } : MethodName)) ∈ WD := wdS 104 rfl rfl
theorem wd105 : (Cond.selects "RestMillModel" ({ cls := "RestMillModel", name := "tellsNumbers", desc := "()V" } : MethodName) ({ cls := "RestMillModel", name := "tellsNumbers", desc := "()V" } : MethodName)) ∈ WD := wdS 105 rfl rfl
theorem wd106 : (Cond.selects "RestMillModel" ({ cls := "RestMillModel", name := "dropsNow", desc := "(I)I" } : MethodName) ({ cls := "RestMillModel", name := "dropsNow", desc := "(I)I" } : MethodName)) ∈ WD := wdS 106 rfl rfl
theorem wd107 : (Cond.selects "RestMillModel" ({ cls := "RestMillModel", name := "writes", desc := "(I)V" } : MethodName) ({ cls := "RestMillModel", name := "writes", desc := "(I)V" } : MethodName)) ∈ WD := wdS 107 rfl rfl
theorem wd108 : (Cond.selects "RestMillModel" ({ cls := "RestMillModel", name := "writesNumber", desc := "(J)V" } : MethodName) ({ cls := "RestMillModel", name := "writesNumber", desc := "(J)V" } : MethodName)) ∈ WD := wdS 108 rfl rfl
theorem wd110 : (Cond.initialized "RestMill") ∈ WD := wdT1 1 rfl rfl
theorem wd111 : (Cond.initialized "RestMill$Mill") ∈ WD := wdT1 2 rfl rfl
theorem wd112 : (Cond.initialized "RestMill$Moduli") ∈ WD := wdT1 3 rfl rfl
theorem wd113 : (Cond.initialized "RestMill$Changes") ∈ WD := wdT1 4 rfl rfl
theorem wd114 : (Cond.initialized "RestMill$SetupReader") ∈ WD := wdT1 5 rfl rfl
theorem wd115 : (Cond.initialized "RestMill$Tokens") ∈ WD := wdT1 6 rfl rfl
theorem wd116 : (Cond.initialized "RestMill$ScriptReader") ∈ WD := wdT1 7 rfl rfl
theorem wd117 : (Cond.initialized "RestMill$Program") ∈ WD := wdT1 8 rfl rfl
theorem wd122 : (Cond.initialized "java/lang/Math") ∈ WD := wdT1 13 rfl rfl
theorem wd123 : (Cond.initialized "RestMillModel") ∈ WD := wdT1 14 rfl rfl
theorem wd127 : (Cond.initialized "java/util/Arrays") ∈ WD := wdT1 18 rfl rfl
theorem wd129 : (Cond.initialized "java/lang/Long") ∈ WD := wdT1 20 rfl rfl
theorem wd130 : (Cond.initialized "java/lang/Throwable") ∈ WD := wdT1 21 rfl rfl
theorem wd133 : (Cond.initialized "java/lang/IllegalArgumentException") ∈ WD := wdT1 24 rfl rfl
theorem wd134 : (Cond.initialized "java/lang/IndexOutOfBoundsException") ∈ WD := wdT1 25 rfl rfl
theorem wd135 : (Cond.initialized "java/lang/IllegalStateException") ∈ WD := wdT1 26 rfl rfl
theorem wd136 : (Cond.initialized "java/util/NoSuchElementException") ∈ WD := wdT1 27 rfl rfl
theorem wd146 : (Cond.code ({ cls := "RestMill", name := "<init>", desc := "()V" } : MethodName) prog_1_method_1_code (1 : Nat) (Option.none : Option ClassFile.FieldType)) ∈ WD := wdT1 37 rfl rfl
theorem wd148 : (Cond.instanceMethod ({ cls := "java/lang/Object", name := "<init>", desc := "()V" } : MethodName)) ∈ WD := wdT1 39 rfl rfl
theorem wd149 : (Cond.code ({ cls := "java/lang/Object", name := "<init>", desc := "()V" } : MethodName) object_method_1_code (1 : Nat) (Option.none : Option ClassFile.FieldType)) ∈ WD := wdT1 40 rfl rfl
theorem wd154 : (Cond.code ({ cls := "RestMill$Mill", name := "<init>", desc := "()V" } : MethodName) prog_3_method_1_code (1 : Nat) (Option.none : Option ClassFile.FieldType)) ∈ WD := wdT1 45 rfl rfl
theorem wd160 : (Cond.code ({ cls := "RestMill$Moduli", name := "<init>", desc := "()V" } : MethodName) prog_4_method_1_code (1 : Nat) (Option.none : Option ClassFile.FieldType)) ∈ WD := wdT1 51 rfl rfl
theorem wd162 : (Cond.fieldLink "RestMill$Moduli" (9 : Nat) "RestMill$Moduli" "row" "[I") ∈ WD := wdT1 53 rfl rfl
theorem wd163 : (Cond.fieldLink "RestMill$Moduli" (15 : Nat) "RestMill$Moduli" "weights" "[J") ∈ WD := wdT1 54 rfl rfl
theorem wd164 : (Cond.fieldLink "RestMill$ScriptReader" (34 : Nat) "RestMill$Moduli" "size" "I") ∈ WD := wdT1 55 rfl rfl
theorem wd165 : (Cond.fieldLink "RestMill$Moduli" (33 : Nat) "RestMill$Moduli" "size" "I") ∈ WD := wdT1 56 rfl rfl
theorem wd166 : (Cond.fieldLink "RestMill$SetupReader" (74 : Nat) "RestMill$Moduli" "size" "I") ∈ WD := wdT1 57 rfl rfl
theorem wd167 : (Cond.fieldLink "RestMill" (109 : Nat) "RestMill$Moduli" "size" "I") ∈ WD := wdT1 58 rfl rfl
theorem wd168 : (Cond.fieldLink "RestMill$Mill" (93 : Nat) "RestMill$Moduli" "size" "I") ∈ WD := wdT1 59 rfl rfl
theorem wd169 : (Cond.fieldLink "RestMill$Moduli" (37 : Nat) "RestMill$Moduli" "checks" "I") ∈ WD := wdT1 60 rfl rfl
theorem wd170 : (Cond.fieldLink "RestMill" (132 : Nat) "RestMill$Moduli" "checks" "I") ∈ WD := wdT1 61 rfl rfl
theorem wd171 : (Cond.fieldLink "RestMill$Moduli" (19 : Nat) "RestMill$Moduli" "whole" "J") ∈ WD := wdT1 62 rfl rfl
theorem wd172 : (Cond.fieldLink "RestMill$Program" (92 : Nat) "RestMill$Moduli" "whole" "J") ∈ WD := wdT1 63 rfl rfl
theorem wd173 : (Cond.fieldLink "RestMill$Mill" (57 : Nat) "RestMill$Moduli" "whole" "J") ∈ WD := wdT1 64 rfl rfl
theorem wd174 : (Cond.fieldLink "RestMill" (157 : Nat) "RestMill$Moduli" "whole" "J") ∈ WD := wdT1 65 rfl rfl
theorem wd175 : (Cond.fieldLink "RestMill$Moduli" (23 : Nat) "RestMill$Moduli" "range" "J") ∈ WD := wdT1 66 rfl rfl
theorem wd176 : (Cond.fieldLink "RestMill" (153 : Nat) "RestMill$Moduli" "range" "J") ∈ WD := wdT1 67 rfl rfl
theorem wd193 : (Cond.fieldLink "RestMill$Mill" (12 : Nat) "RestMill$Mill" "moduli" "LRestMill$Moduli;") ∈ WD := wdT1 84 rfl rfl
theorem wd194 : (Cond.fieldLink "RestMill" (61 : Nat) "RestMill$Mill" "moduli" "LRestMill$Moduli;") ∈ WD := wdT1 85 rfl rfl
theorem wd195 : (Cond.fieldLink "RestMill$SetupReader" (23 : Nat) "RestMill$Mill" "moduli" "LRestMill$Moduli;") ∈ WD := wdT1 86 rfl rfl
theorem wd196 : (Cond.fieldLink "RestMill$ScriptReader" (28 : Nat) "RestMill$Mill" "moduli" "LRestMill$Moduli;") ∈ WD := wdT1 87 rfl rfl
theorem wd197 : (Cond.fieldLink "RestMill$Program" (88 : Nat) "RestMill$Mill" "moduli" "LRestMill$Moduli;") ∈ WD := wdT1 88 rfl rfl
theorem wd198 : (Cond.fieldLink "RestMill$Mill" (18 : Nat) "RestMill$Mill" "numbers" "[J") ∈ WD := wdT1 89 rfl rfl
theorem wd199 : (Cond.fieldLink "RestMill$Mill" (22 : Nat) "RestMill$Mill" "accounts" "[I") ∈ WD := wdT1 90 rfl rfl
theorem wd200 : (Cond.fieldLink "RestMill$Mill" (37 : Nat) "RestMill$Mill" "strict" "I") ∈ WD := wdT1 91 rfl rfl
theorem wd201 : (Cond.fieldLink "RestMill$Program" (74 : Nat) "RestMill$Mill" "strict" "I") ∈ WD := wdT1 92 rfl rfl
theorem wd202 : (Cond.fieldLink "RestMill$SetupReader" (91 : Nat) "RestMill$Mill" "strict" "I") ∈ WD := wdT1 93 rfl rfl
theorem wd203 : (Cond.fieldLink "RestMill" (135 : Nat) "RestMill$Mill" "strict" "I") ∈ WD := wdT1 94 rfl rfl
theorem wd217 : (Cond.code ({ cls := "RestMill$Changes", name := "<init>", desc := "()V" } : MethodName) prog_2_method_1_code (2 : Nat) (Option.none : Option ClassFile.FieldType)) ∈ WD := wdT1 108 rfl rfl
theorem wd222 : (Cond.fieldLink "RestMill$Changes" (11 : Nat) "RestMill$Changes" "slots" "[LRestMill$Mill;") ∈ WD := wdT1 113 rfl rfl
theorem wd223 : (Cond.fieldLink "RestMill$Changes" (22 : Nat) "RestMill$Changes" "next" "I") ∈ WD := wdT1 114 rfl rfl
theorem wd224 : (Cond.fieldLink "RestMill$Changes" (18 : Nat) "RestMill$Changes" "size" "I") ∈ WD := wdT1 115 rfl rfl
theorem wd225 : (Cond.fieldLink "RestMill" (146 : Nat) "RestMill$Changes" "size" "I") ∈ WD := wdT1 116 rfl rfl
theorem wd237 : (Cond.code ({ cls := "RestMill$SetupReader", name := "<init>", desc := "()V" } : MethodName) prog_7_method_1_code (1 : Nat) (Option.none : Option ClassFile.FieldType)) ∈ WD := wdT1 128 rfl rfl
theorem wd243 : (Cond.code ({ cls := "RestMill$Tokens", name := "<init>", desc := "()V" } : MethodName) prog_8_method_1_code (1 : Nat) (Option.none : Option ClassFile.FieldType)) ∈ WD := wdT1 134 rfl rfl
theorem wd245 : (Cond.fieldLink "RestMill$Tokens" (9 : Nat) "RestMill$Tokens" "kinds" "[I") ∈ WD := wdT1 136 rfl rfl
theorem wd246 : (Cond.fieldLink "RestMill$Tokens" (15 : Nat) "RestMill$Tokens" "amounts" "[I") ∈ WD := wdT1 137 rfl rfl
theorem wd247 : (Cond.fieldLink "RestMill$Tokens" (18 : Nat) "RestMill$Tokens" "offsets" "[I") ∈ WD := wdT1 138 rfl rfl
theorem wd248 : (Cond.fieldLink "RestMill$Tokens" (28 : Nat) "RestMill$Tokens" "size" "I") ∈ WD := wdT1 139 rfl rfl
theorem wd249 : (Cond.fieldLink "RestMill$Tokens" (31 : Nat) "RestMill$Tokens" "now" "I") ∈ WD := wdT1 140 rfl rfl
theorem wd250 : (Cond.fieldLink "RestMill$Tokens" (21 : Nat) "RestMill$Tokens" "error" "I") ∈ WD := wdT1 141 rfl rfl
theorem wd251 : (Cond.fieldLink "RestMill" (333 : Nat) "RestMill$Tokens" "error" "I") ∈ WD := wdT1 142 rfl rfl
theorem wd252 : (Cond.fieldLink "RestMill$Tokens" (25 : Nat) "RestMill$Tokens" "errorOffset" "I") ∈ WD := wdT1 143 rfl rfl
theorem wd253 : (Cond.fieldLink "RestMill" (336 : Nat) "RestMill$Tokens" "errorOffset" "I") ∈ WD := wdT1 144 rfl rfl
theorem wd269 : (Cond.fieldLink "RestMill$SetupReader" (12 : Nat) "RestMill$SetupReader" "tokens" "LRestMill$Tokens;") ∈ WD := wdT1 160 rfl rfl
theorem wd270 : (Cond.fieldLink "RestMill" (80 : Nat) "RestMill$SetupReader" "tokens" "LRestMill$Tokens;") ∈ WD := wdT1 161 rfl rfl
theorem wd278 : (Cond.code ({ cls := "RestMill$ScriptReader", name := "<init>", desc := "()V" } : MethodName) prog_6_method_1_code (1 : Nat) (Option.none : Option ClassFile.FieldType)) ∈ WD := wdT1 169 rfl rfl
theorem wd286 : (Cond.code ({ cls := "RestMill$Program", name := "<init>", desc := "()V" } : MethodName) prog_5_method_1_code (1 : Nat) (Option.none : Option ClassFile.FieldType)) ∈ WD := wdT1 177 rfl rfl
theorem wd288 : (Cond.fieldLink "RestMill$Program" (9 : Nat) "RestMill$Program" "kinds" "[I") ∈ WD := wdT1 179 rfl rfl
theorem wd289 : (Cond.fieldLink "RestMill$Program" (15 : Nat) "RestMill$Program" "firsts" "[I") ∈ WD := wdT1 180 rfl rfl
theorem wd290 : (Cond.fieldLink "RestMill$Program" (18 : Nat) "RestMill$Program" "seconds" "[I") ∈ WD := wdT1 181 rfl rfl
theorem wd291 : (Cond.fieldLink "RestMill$Program" (21 : Nat) "RestMill$Program" "pending" "[J") ∈ WD := wdT1 182 rfl rfl
theorem wd292 : (Cond.fieldLink "RestMill$Program" (25 : Nat) "RestMill$Program" "size" "I") ∈ WD := wdT1 183 rfl rfl
theorem wd293 : (Cond.fieldLink "RestMill$Program" (29 : Nat) "RestMill$Program" "height" "I") ∈ WD := wdT1 184 rfl rfl
theorem wd307 : (Cond.fieldLink "RestMill$ScriptReader" (12 : Nat) "RestMill$ScriptReader" "tokens" "LRestMill$Tokens;") ∈ WD := wdT1 198 rfl rfl
theorem wd308 : (Cond.fieldLink "RestMill" (112 : Nat) "RestMill$ScriptReader" "tokens" "LRestMill$Tokens;") ∈ WD := wdT1 199 rfl rfl
theorem wd309 : (Cond.fieldLink "RestMill$ScriptReader" (21 : Nat) "RestMill$ScriptReader" "program" "LRestMill$Program;") ∈ WD := wdT1 200 rfl rfl
theorem wd310 : (Cond.fieldLink "RestMill" (122 : Nat) "RestMill$ScriptReader" "program" "LRestMill$Program;") ∈ WD := wdT1 201 rfl rfl
theorem wd311 : (Cond.fieldLink "RestMill$ScriptReader" (40 : Nat) "RestMill$ScriptReader" "moduli" "I") ∈ WD := wdT1 202 rfl rfl
theorem wd312 : (Cond.fieldLink "RestMill$ScriptReader" (46 : Nat) "RestMill$ScriptReader" "half" "J") ∈ WD := wdT1 203 rfl rfl
theorem wd355 : (Cond.instanceMethod ({ cls := "RestMill$Moduli", name := "insert", desc := "(I)V" } : MethodName)) ∈ WD := wdT2 6 rfl rfl
theorem wd356 : (Cond.selects "RestMill$Moduli" ({ cls := "RestMill$Moduli", name := "insert", desc := "(I)V" } : MethodName) ({ cls := "RestMill$Moduli", name := "insert", desc := "(I)V" } : MethodName)) ∈ WD := wdT2 7 rfl rfl
theorem wd357 : (Cond.code ({ cls := "RestMill$Moduli", name := "insert", desc := "(I)V" } : MethodName) prog_4_method_12_code (4 : Nat) (Option.none : Option ClassFile.FieldType)) ∈ WD := wdT2 8 rfl rfl
theorem wd358 : (Cond.methodLink "RestMill$Moduli" (66 : Nat) ({ cls := "RestMill$Moduli", name := "bases", desc := "()I" } : MethodName)) ∈ WD := wdT2 9 rfl rfl
theorem wd359 : (Cond.instanceMethod ({ cls := "RestMill$Moduli", name := "bases", desc := "()I" } : MethodName)) ∈ WD := wdT2 10 rfl rfl
theorem wd360 : (Cond.selects "RestMill$Moduli" ({ cls := "RestMill$Moduli", name := "bases", desc := "()I" } : MethodName) ({ cls := "RestMill$Moduli", name := "bases", desc := "()I" } : MethodName)) ∈ WD := wdT2 11 rfl rfl
theorem wd361 : (Cond.code ({ cls := "RestMill$Moduli", name := "bases", desc := "()I" } : MethodName) prog_4_method_6_code (1 : Nat) (Option.some ClassFile.FieldType.int)) ∈ WD := wdT2 12 rfl rfl
theorem wd362 : (Cond.methodLink "RestMill$Moduli" (40 : Nat) ({ cls := "RestMill$Moduli", name := "measure", desc := "()V" } : MethodName)) ∈ WD := wdT2 13 rfl rfl
theorem wd364 : (Cond.instanceMethod ({ cls := "RestMill$Moduli", name := "measure", desc := "()V" } : MethodName)) ∈ WD := wdT2 15 rfl rfl
theorem wd365 : (Cond.code ({ cls := "RestMill$Moduli", name := "measure", desc := "()V" } : MethodName) prog_4_method_15_code (4 : Nat) (Option.none : Option ClassFile.FieldType)) ∈ WD := wdT2 16 rfl rfl
theorem wd366 : (Cond.methodLink "RestMill$Moduli" (51 : Nat) ({ cls := "RestMill$Moduli", name := "at", desc := "(I)I" } : MethodName)) ∈ WD := wdT2 17 rfl rfl
theorem wd367 : (Cond.instanceMethod ({ cls := "RestMill$Moduli", name := "at", desc := "(I)I" } : MethodName)) ∈ WD := wdT2 18 rfl rfl
theorem wd368 : (Cond.selects "RestMill$Moduli" ({ cls := "RestMill$Moduli", name := "at", desc := "(I)I" } : MethodName) ({ cls := "RestMill$Moduli", name := "at", desc := "(I)I" } : MethodName)) ∈ WD := wdT2 19 rfl rfl
theorem wd369 : (Cond.code ({ cls := "RestMill$Moduli", name := "at", desc := "(I)I" } : MethodName) prog_4_method_4_code (2 : Nat) (Option.some ClassFile.FieldType.int)) ∈ WD := wdT2 20 rfl rfl
theorem wd371 : (Cond.static ({ cls := "RestMill", name := "floorQuotient", desc := "(JJ)J" } : MethodName)) ∈ WD := wdT2 22 rfl rfl
theorem wd372 : (Cond.code ({ cls := "RestMill", name := "floorQuotient", desc := "(JJ)J" } : MethodName) prog_1_method_57_code (4 : Nat) (Option.some ClassFile.FieldType.long)) ∈ WD := wdT2 23 rfl rfl
theorem wd373 : (Cond.methodLink "RestMill" (345 : Nat) ({ cls := "java/lang/Math", name := "floorDiv", desc := "(JJ)J" } : MethodName)) ∈ WD := wdT2 24 rfl rfl
theorem wd374 : (Cond.static ({ cls := "java/lang/Math", name := "floorDiv", desc := "(JJ)J" } : MethodName)) ∈ WD := wdT2 25 rfl rfl
theorem wd375 : (Cond.code ({ cls := "java/lang/Math", name := "floorDiv", desc := "(JJ)J" } : MethodName) prog_25_method_49_code (6 : Nat) (Option.some ClassFile.FieldType.long)) ∈ WD := wdT2 26 rfl rfl
theorem wd377 : (Cond.static ({ cls := "RestMill", name := "inverseOf", desc := "(JI)I" } : MethodName)) ∈ WD := wdT2 28 rfl rfl
theorem wd378 : (Cond.code ({ cls := "RestMill", name := "inverseOf", desc := "(JI)I" } : MethodName) prog_1_method_63_code (6 : Nat) (Option.some ClassFile.FieldType.int)) ∈ WD := wdT2 29 rfl rfl
theorem wd379 : (Cond.methodLink "RestMill" (212 : Nat) ({ cls := "RestMill", name := "floorRest", desc := "(JJ)J" } : MethodName)) ∈ WD := wdT2 30 rfl rfl
theorem wd380 : (Cond.static ({ cls := "RestMill", name := "floorRest", desc := "(JJ)J" } : MethodName)) ∈ WD := wdT2 31 rfl rfl
theorem wd381 : (Cond.code ({ cls := "RestMill", name := "floorRest", desc := "(JJ)J" } : MethodName) prog_1_method_56_code (4 : Nat) (Option.some ClassFile.FieldType.long)) ∈ WD := wdT2 32 rfl rfl
theorem wd382 : (Cond.methodLink "RestMill" (342 : Nat) ({ cls := "java/lang/Math", name := "floorMod", desc := "(JJ)J" } : MethodName)) ∈ WD := wdT2 33 rfl rfl
theorem wd383 : (Cond.static ({ cls := "java/lang/Math", name := "floorMod", desc := "(JJ)J" } : MethodName)) ∈ WD := wdT2 34 rfl rfl
theorem wd384 : (Cond.code ({ cls := "java/lang/Math", name := "floorMod", desc := "(JJ)J" } : MethodName) prog_25_method_52_code (6 : Nat) (Option.some ClassFile.FieldType.long)) ∈ WD := wdT2 35 rfl rfl
theorem wd386 : (Cond.instanceMethod ({ cls := "RestMill$Moduli", name := "setChecks", desc := "(I)V" } : MethodName)) ∈ WD := wdT2 37 rfl rfl
theorem wd387 : (Cond.selects "RestMill$Moduli" ({ cls := "RestMill$Moduli", name := "setChecks", desc := "(I)V" } : MethodName) ({ cls := "RestMill$Moduli", name := "setChecks", desc := "(I)V" } : MethodName)) ∈ WD := wdT2 38 rfl rfl
theorem wd388 : (Cond.code ({ cls := "RestMill$Moduli", name := "setChecks", desc := "(I)V" } : MethodName) prog_4_method_14_code (2 : Nat) (Option.none : Option ClassFile.FieldType)) ∈ WD := wdT2 39 rfl rfl
theorem wd389 : (Cond.fieldLink "RestMill" (9 : Nat) "RestMill" "input" "[B") ∈ WD := wdT2 40 rfl rfl
theorem wd390 : (Cond.fieldLink "RestMill" (74 : Nat) "RestMill" "inputLength" "I") ∈ WD := wdT2 41 rfl rfl
theorem wd391 : (Cond.fieldLink "RestMill" (16 : Nat) "RestMill" "mill" "LRestMill$Mill;") ∈ WD := wdT2 42 rfl rfl
theorem wd392 : (Cond.fieldLink "RestMill" (20 : Nat) "RestMill" "draft" "LRestMill$Mill;") ∈ WD := wdT2 43 rfl rfl
theorem wd393 : (Cond.fieldLink "RestMill" (23 : Nat) "RestMill" "saved" "LRestMill$Mill;") ∈ WD := wdT2 44 rfl rfl
theorem wd394 : (Cond.fieldLink "RestMill" (105 : Nat) "RestMill" "hasSaved" "Z") ∈ WD := wdT2 45 rfl rfl
theorem wd395 : (Cond.fieldLink "RestMill" (29 : Nat) "RestMill" "changes" "LRestMill$Changes;") ∈ WD := wdT2 46 rfl rfl
theorem wd396 : (Cond.fieldLink "RestMill" (36 : Nat) "RestMill" "setupReader" "LRestMill$SetupReader;") ∈ WD := wdT2 47 rfl rfl
theorem wd397 : (Cond.fieldLink "RestMill" (43 : Nat) "RestMill" "scriptReader" "LRestMill$ScriptReader;") ∈ WD := wdT2 48 rfl rfl
theorem wd398 : (Cond.fieldLink "RestMill" (47 : Nat) "RestMill" "lastError" "I") ∈ WD := wdT2 49 rfl rfl
theorem wd399 : (Cond.fieldLink "RestMill" (51 : Nat) "RestMill" "lastErrorOffset" "I") ∈ WD := wdT2 50 rfl rfl
theorem wd400 : (Cond.fieldLink "RestMill" (57 : Nat) "RestMill" "output" "Ljava/lang/StringBuilder;") ∈ WD := wdT2 51 rfl rfl
theorem wd429 : (Cond.code ({ cls := "RestMill", name := "appendInput", desc := "(IIIII)I" } : MethodName) prog_1_method_2_code (6 : Nat) (Option.some ClassFile.FieldType.int)) ∈ WD := wdT2 80 rfl rfl
theorem wd430 : (Cond.methodLink "RestMill" (77 : Nat) ({ cls := "RestMill", name := "appendFour", desc := "(I)V" } : MethodName)) ∈ WD := wdT2 81 rfl rfl
theorem wd432 : (Cond.instanceMethod ({ cls := "RestMill", name := "appendFour", desc := "(I)V" } : MethodName)) ∈ WD := wdT2 83 rfl rfl
theorem wd433 : (Cond.code ({ cls := "RestMill", name := "appendFour", desc := "(I)V" } : MethodName) prog_1_method_49_code (3 : Nat) (Option.none : Option ClassFile.FieldType)) ∈ WD := wdT2 84 rfl rfl
theorem wd437 : (Cond.code ({ cls := "RestMill", name := "truncateInput", desc := "(I)Z" } : MethodName) prog_1_method_3_code (2 : Nat) (Option.some ClassFile.FieldType.boolean)) ∈ WD := wdT2 88 rfl rfl
theorem wd441 : (Cond.code ({ cls := "RestMill", name := "loadMill", desc := "()I" } : MethodName) prog_1_method_4_code (2 : Nat) (Option.some ClassFile.FieldType.int)) ∈ WD := wdT2 92 rfl rfl
theorem wd442 : (Cond.methodLink "RestMill" (84 : Nat) ({ cls := "RestMill$Tokens", name := "read", desc := "([BI)V" } : MethodName)) ∈ WD := wdT2 93 rfl rfl
theorem wd443 : (Cond.instanceMethod ({ cls := "RestMill$Tokens", name := "read", desc := "([BI)V" } : MethodName)) ∈ WD := wdT2 94 rfl rfl
theorem wd444 : (Cond.selects "RestMill$Tokens" ({ cls := "RestMill$Tokens", name := "read", desc := "([BI)V" } : MethodName) ({ cls := "RestMill$Tokens", name := "read", desc := "([BI)V" } : MethodName)) ∈ WD := wdT2 95 rfl rfl
theorem wd445 : (Cond.code ({ cls := "RestMill$Tokens", name := "read", desc := "([BI)V" } : MethodName) prog_8_method_2_code (5 : Nat) (Option.none : Option ClassFile.FieldType)) ∈ WD := wdT2 96 rfl rfl
theorem wd446 : (Cond.methodLink "RestMill$Tokens" (34 : Nat) ({ cls := "RestMill$Tokens", name := "readToken", desc := "([BII)I" } : MethodName)) ∈ WD := wdT2 97 rfl rfl
theorem wd448 : (Cond.instanceMethod ({ cls := "RestMill$Tokens", name := "readToken", desc := "([BII)I" } : MethodName)) ∈ WD := wdT2 99 rfl rfl
theorem wd449 : (Cond.code ({ cls := "RestMill$Tokens", name := "readToken", desc := "([BII)I" } : MethodName) prog_8_method_10_code (5 : Nat) (Option.some ClassFile.FieldType.int)) ∈ WD := wdT2 100 rfl rfl
theorem wd450 : (Cond.methodLink "RestMill$Tokens" (56 : Nat) ({ cls := "RestMill$Tokens", name := "byteAt", desc := "([BI)I" } : MethodName)) ∈ WD := wdT2 101 rfl rfl
theorem wd451 : (Cond.static ({ cls := "RestMill$Tokens", name := "byteAt", desc := "([BI)I" } : MethodName)) ∈ WD := wdT2 102 rfl rfl
theorem wd452 : (Cond.code ({ cls := "RestMill$Tokens", name := "byteAt", desc := "([BI)I" } : MethodName) prog_8_method_15_code (2 : Nat) (Option.some ClassFile.FieldType.int)) ∈ WD := wdT2 103 rfl rfl
theorem wd453 : (Cond.methodLink "RestMill$Tokens" (60 : Nat) ({ cls := "RestMill$Tokens", name := "isLetter", desc := "(I)Z" } : MethodName)) ∈ WD := wdT2 104 rfl rfl
theorem wd454 : (Cond.static ({ cls := "RestMill$Tokens", name := "isLetter", desc := "(I)Z" } : MethodName)) ∈ WD := wdT2 105 rfl rfl
theorem wd455 : (Cond.code ({ cls := "RestMill$Tokens", name := "isLetter", desc := "(I)Z" } : MethodName) prog_8_method_16_code (1 : Nat) (Option.some ClassFile.FieldType.boolean)) ∈ WD := wdT2 106 rfl rfl
theorem wd456 : (Cond.methodLink "RestMill$Tokens" (63 : Nat) ({ cls := "RestMill$Tokens", name := "readWord", desc := "([BII)I" } : MethodName)) ∈ WD := wdT2 107 rfl rfl
theorem wd458 : (Cond.instanceMethod ({ cls := "RestMill$Tokens", name := "readWord", desc := "([BII)I" } : MethodName)) ∈ WD := wdT2 109 rfl rfl
theorem wd459 : (Cond.code ({ cls := "RestMill$Tokens", name := "readWord", desc := "([BII)I" } : MethodName) prog_8_method_11_code (6 : Nat) (Option.some ClassFile.FieldType.int)) ∈ WD := wdT2 110 rfl rfl
theorem wd460 : (Cond.methodLink "RestMill$Tokens" (38 : Nat) ({ cls := "RestMill$Tokens", name := "add", desc := "(III)V" } : MethodName)) ∈ WD := wdT2 111 rfl rfl
theorem wd462 : (Cond.instanceMethod ({ cls := "RestMill$Tokens", name := "add", desc := "(III)V" } : MethodName)) ∈ WD := wdT2 113 rfl rfl
theorem wd463 : (Cond.code ({ cls := "RestMill$Tokens", name := "add", desc := "(III)V" } : MethodName) prog_8_method_9_code (4 : Nat) (Option.none : Option ClassFile.FieldType)) ∈ WD := wdT2 114 rfl rfl
theorem wd464 : (Cond.methodLink "RestMill$Tokens" (80 : Nat) ({ cls := "RestMill$Tokens", name := "wordKind", desc := "([BII)I" } : MethodName)) ∈ WD := wdT2 115 rfl rfl
theorem wd465 : (Cond.static ({ cls := "RestMill$Tokens", name := "wordKind", desc := "([BII)I" } : MethodName)) ∈ WD := wdT2 116 rfl rfl
theorem wd466 : (Cond.code ({ cls := "RestMill$Tokens", name := "wordKind", desc := "([BII)I" } : MethodName) prog_8_method_13_code (3 : Nat) (Option.some ClassFile.FieldType.int)) ∈ WD := wdT2 117 rfl rfl
theorem wd468 : (Cond.methodLink "RestMill$Tokens" (85 : Nat) ({ cls := "RestMill$Tokens", name := "isWord", desc := "([BIILjava/lang/String;)Z" } : MethodName)) ∈ WD := wdT2 119 rfl rfl
theorem wd469 : (Cond.static ({ cls := "RestMill$Tokens", name := "isWord", desc := "([BIILjava/lang/String;)Z" } : MethodName)) ∈ WD := wdT2 120 rfl rfl
theorem wd470 : (Cond.code ({ cls := "RestMill$Tokens", name := "isWord", desc := "([BIILjava/lang/String;)Z" } : MethodName) prog_8_method_14_code (5 : Nat) (Option.some ClassFile.FieldType.boolean)) ∈ WD := wdT2 121 rfl rfl
theorem wd524 : (Cond.methodLink "RestMill$Tokens" (66 : Nat) ({ cls := "RestMill$Tokens", name := "isDigit", desc := "(I)Z" } : MethodName)) ∈ WD := wdT2 175 rfl rfl
theorem wd525 : (Cond.static ({ cls := "RestMill$Tokens", name := "isDigit", desc := "(I)Z" } : MethodName)) ∈ WD := wdT2 176 rfl rfl
theorem wd526 : (Cond.code ({ cls := "RestMill$Tokens", name := "isDigit", desc := "(I)Z" } : MethodName) prog_8_method_17_code (1 : Nat) (Option.some ClassFile.FieldType.boolean)) ∈ WD := wdT2 177 rfl rfl
theorem wd527 : (Cond.methodLink "RestMill$Tokens" (69 : Nat) ({ cls := "RestMill$Tokens", name := "readNumeral", desc := "([BII)I" } : MethodName)) ∈ WD := wdT2 178 rfl rfl
theorem wd529 : (Cond.instanceMethod ({ cls := "RestMill$Tokens", name := "readNumeral", desc := "([BII)I" } : MethodName)) ∈ WD := wdT2 180 rfl rfl
theorem wd530 : (Cond.code ({ cls := "RestMill$Tokens", name := "readNumeral", desc := "([BII)I" } : MethodName) prog_8_method_12_code (6 : Nat) (Option.some ClassFile.FieldType.int)) ∈ WD := wdT2 181 rfl rfl
theorem wd549 : (Cond.code ({ cls := "java/lang/Math", name := "max", desc := "(II)I" } : MethodName) prog_25_method_65_code (2 : Nat) (Option.some ClassFile.FieldType.int)) ∈ WD := wdT2 200 rfl rfl
theorem wd551 : (Cond.static ({ cls := "java/lang/Math", name := "min", desc := "(II)I" } : MethodName)) ∈ WD := wdT2 202 rfl rfl
theorem wd552 : (Cond.code ({ cls := "java/lang/Math", name := "min", desc := "(II)I" } : MethodName) prog_25_method_69_code (2 : Nat) (Option.some ClassFile.FieldType.int)) ∈ WD := wdT2 203 rfl rfl
theorem wd591 : (Cond.methodLink "RestMill" (90 : Nat) ({ cls := "RestMill$SetupReader", name := "readSetup", desc := "(LRestMill$Mill;)Z" } : MethodName)) ∈ WD := wdT3 2 rfl rfl
theorem wd592 : (Cond.instanceMethod ({ cls := "RestMill$SetupReader", name := "readSetup", desc := "(LRestMill$Mill;)Z" } : MethodName)) ∈ WD := wdT3 3 rfl rfl
theorem wd593 : (Cond.selects "RestMill$SetupReader" ({ cls := "RestMill$SetupReader", name := "readSetup", desc := "(LRestMill$Mill;)Z" } : MethodName) ({ cls := "RestMill$SetupReader", name := "readSetup", desc := "(LRestMill$Mill;)Z" } : MethodName)) ∈ WD := wdT3 4 rfl rfl
theorem wd594 : (Cond.code ({ cls := "RestMill$SetupReader", name := "readSetup", desc := "(LRestMill$Mill;)Z" } : MethodName) prog_7_method_2_code (2 : Nat) (Option.some ClassFile.FieldType.boolean)) ∈ WD := wdT3 5 rfl rfl
theorem wd595 : (Cond.methodLink "RestMill$SetupReader" (18 : Nat) ({ cls := "RestMill$Mill", name := "clear", desc := "()V" } : MethodName)) ∈ WD := wdT3 6 rfl rfl
theorem wd596 : (Cond.instanceMethod ({ cls := "RestMill$Mill", name := "clear", desc := "()V" } : MethodName)) ∈ WD := wdT3 7 rfl rfl
theorem wd597 : (Cond.selects "RestMill$Mill" ({ cls := "RestMill$Mill", name := "clear", desc := "()V" } : MethodName) ({ cls := "RestMill$Mill", name := "clear", desc := "()V" } : MethodName)) ∈ WD := wdT3 8 rfl rfl
theorem wd598 : (Cond.code ({ cls := "RestMill$Mill", name := "clear", desc := "()V" } : MethodName) prog_3_method_3_code (1 : Nat) (Option.none : Option ClassFile.FieldType)) ∈ WD := wdT3 9 rfl rfl
theorem wd599 : (Cond.methodLink "RestMill$Mill" (41 : Nat) ({ cls := "RestMill$Moduli", name := "clear", desc := "()V" } : MethodName)) ∈ WD := wdT3 10 rfl rfl
theorem wd600 : (Cond.instanceMethod ({ cls := "RestMill$Moduli", name := "clear", desc := "()V" } : MethodName)) ∈ WD := wdT3 11 rfl rfl
theorem wd601 : (Cond.selects "RestMill$Moduli" ({ cls := "RestMill$Moduli", name := "clear", desc := "()V" } : MethodName) ({ cls := "RestMill$Moduli", name := "clear", desc := "()V" } : MethodName)) ∈ WD := wdT3 12 rfl rfl
theorem wd602 : (Cond.code ({ cls := "RestMill$Moduli", name := "clear", desc := "()V" } : MethodName) prog_4_method_3_code (1 : Nat) (Option.none : Option ClassFile.FieldType)) ∈ WD := wdT3 13 rfl rfl
theorem wd603 : (Cond.methodLink "RestMill$Mill" (44 : Nat) ({ cls := "java/util/Arrays", name := "fill", desc := "([JJ)V" } : MethodName)) ∈ WD := wdT3 14 rfl rfl
theorem wd604 : (Cond.static ({ cls := "java/util/Arrays", name := "fill", desc := "([JJ)V" } : MethodName)) ∈ WD := wdT3 15 rfl rfl
theorem wd605 : (Cond.code ({ cls := "java/util/Arrays", name := "fill", desc := "([JJ)V" } : MethodName) prog_37_method_101_code (5 : Nat) (Option.none : Option ClassFile.FieldType)) ∈ WD := wdT3 16 rfl rfl
theorem wd606 : (Cond.methodLink "RestMill$Mill" (50 : Nat) ({ cls := "java/util/Arrays", name := "fill", desc := "([II)V" } : MethodName)) ∈ WD := wdT3 17 rfl rfl
theorem wd607 : (Cond.static ({ cls := "java/util/Arrays", name := "fill", desc := "([II)V" } : MethodName)) ∈ WD := wdT3 18 rfl rfl
theorem wd608 : (Cond.code ({ cls := "java/util/Arrays", name := "fill", desc := "([II)V" } : MethodName) prog_37_method_103_code (4 : Nat) (Option.none : Option ClassFile.FieldType)) ∈ WD := wdT3 19 rfl rfl
theorem wd609 : (Cond.methodLink "RestMill$SetupReader" (27 : Nat) ({ cls := "RestMill$SetupReader", name := "readModuli", desc := "(LRestMill$Moduli;)Z" } : MethodName)) ∈ WD := wdT3 20 rfl rfl
theorem wd611 : (Cond.instanceMethod ({ cls := "RestMill$SetupReader", name := "readModuli", desc := "(LRestMill$Moduli;)Z" } : MethodName)) ∈ WD := wdT3 22 rfl rfl
theorem wd612 : (Cond.code ({ cls := "RestMill$SetupReader", name := "readModuli", desc := "(LRestMill$Moduli;)Z" } : MethodName) prog_7_method_3_code (4 : Nat) (Option.some ClassFile.FieldType.boolean)) ∈ WD := wdT3 23 rfl rfl
theorem wd613 : (Cond.methodLink "RestMill$SetupReader" (41 : Nat) ({ cls := "RestMill$Tokens", name := "take", desc := "(I)Z" } : MethodName)) ∈ WD := wdT3 24 rfl rfl
theorem wd614 : (Cond.instanceMethod ({ cls := "RestMill$Tokens", name := "take", desc := "(I)Z" } : MethodName)) ∈ WD := wdT3 25 rfl rfl
theorem wd615 : (Cond.selects "RestMill$Tokens" ({ cls := "RestMill$Tokens", name := "take", desc := "(I)Z" } : MethodName) ({ cls := "RestMill$Tokens", name := "take", desc := "(I)Z" } : MethodName)) ∈ WD := wdT3 26 rfl rfl
theorem wd616 : (Cond.code ({ cls := "RestMill$Tokens", name := "take", desc := "(I)Z" } : MethodName) prog_8_method_6_code (2 : Nat) (Option.some ClassFile.FieldType.boolean)) ∈ WD := wdT3 27 rfl rfl
theorem wd617 : (Cond.methodLink "RestMill$Tokens" (42 : Nat) ({ cls := "RestMill$Tokens", name := "kind", desc := "()I" } : MethodName)) ∈ WD := wdT3 28 rfl rfl
theorem wd618 : (Cond.instanceMethod ({ cls := "RestMill$Tokens", name := "kind", desc := "()I" } : MethodName)) ∈ WD := wdT3 29 rfl rfl
theorem wd619 : (Cond.selects "RestMill$Tokens" ({ cls := "RestMill$Tokens", name := "kind", desc := "()I" } : MethodName) ({ cls := "RestMill$Tokens", name := "kind", desc := "()I" } : MethodName)) ∈ WD := wdT3 30 rfl rfl
theorem wd620 : (Cond.code ({ cls := "RestMill$Tokens", name := "kind", desc := "()I" } : MethodName) prog_8_method_3_code (1 : Nat) (Option.some ClassFile.FieldType.int)) ∈ WD := wdT3 31 rfl rfl
theorem wd621 : (Cond.methodLink "RestMill$Tokens" (46 : Nat) ({ cls := "RestMill$Tokens", name := "fail", desc := "(I)Z" } : MethodName)) ∈ WD := wdT3 32 rfl rfl
theorem wd622 : (Cond.instanceMethod ({ cls := "RestMill$Tokens", name := "fail", desc := "(I)Z" } : MethodName)) ∈ WD := wdT3 33 rfl rfl
theorem wd623 : (Cond.selects "RestMill$Tokens" ({ cls := "RestMill$Tokens", name := "fail", desc := "(I)Z" } : MethodName) ({ cls := "RestMill$Tokens", name := "fail", desc := "(I)Z" } : MethodName)) ∈ WD := wdT3 34 rfl rfl
theorem wd624 : (Cond.code ({ cls := "RestMill$Tokens", name := "fail", desc := "(I)Z" } : MethodName) prog_8_method_8_code (2 : Nat) (Option.some ClassFile.FieldType.boolean)) ∈ WD := wdT3 35 rfl rfl
theorem wd625 : (Cond.methodLink "RestMill$Tokens" (50 : Nat) ({ cls := "RestMill$Tokens", name := "move", desc := "()V" } : MethodName)) ∈ WD := wdT3 36 rfl rfl
theorem wd626 : (Cond.instanceMethod ({ cls := "RestMill$Tokens", name := "move", desc := "()V" } : MethodName)) ∈ WD := wdT3 37 rfl rfl
theorem wd627 : (Cond.selects "RestMill$Tokens" ({ cls := "RestMill$Tokens", name := "move", desc := "()V" } : MethodName) ({ cls := "RestMill$Tokens", name := "move", desc := "()V" } : MethodName)) ∈ WD := wdT3 38 rfl rfl
theorem wd628 : (Cond.code ({ cls := "RestMill$Tokens", name := "move", desc := "()V" } : MethodName) prog_8_method_5_code (1 : Nat) (Option.none : Option ClassFile.FieldType)) ∈ WD := wdT3 39 rfl rfl
theorem wd629 : (Cond.methodLink "RestMill$SetupReader" (45 : Nat) ({ cls := "RestMill$Tokens", name := "kind", desc := "()I" } : MethodName)) ∈ WD := wdT3 40 rfl rfl
theorem wd630 : (Cond.methodLink "RestMill$SetupReader" (49 : Nat) ({ cls := "RestMill$SetupReader", name := "modulusError", desc := "(LRestMill$Moduli;)I" } : MethodName)) ∈ WD := wdT3 41 rfl rfl
theorem wd632 : (Cond.instanceMethod ({ cls := "RestMill$SetupReader", name := "modulusError", desc := "(LRestMill$Moduli;)I" } : MethodName)) ∈ WD := wdT3 43 rfl rfl
theorem wd633 : (Cond.code ({ cls := "RestMill$SetupReader", name := "modulusError", desc := "(LRestMill$Moduli;)I" } : MethodName) prog_7_method_4_code (3 : Nat) (Option.some ClassFile.FieldType.int)) ∈ WD := wdT3 44 rfl rfl
theorem wd634 : (Cond.methodLink "RestMill$SetupReader" (56 : Nat) ({ cls := "RestMill$Tokens", name := "amount", desc := "()I" } : MethodName)) ∈ WD := wdT3 45 rfl rfl
theorem wd635 : (Cond.instanceMethod ({ cls := "RestMill$Tokens", name := "amount", desc := "()I" } : MethodName)) ∈ WD := wdT3 46 rfl rfl
theorem wd636 : (Cond.selects "RestMill$Tokens" ({ cls := "RestMill$Tokens", name := "amount", desc := "()I" } : MethodName) ({ cls := "RestMill$Tokens", name := "amount", desc := "()I" } : MethodName)) ∈ WD := wdT3 47 rfl rfl
theorem wd637 : (Cond.code ({ cls := "RestMill$Tokens", name := "amount", desc := "()I" } : MethodName) prog_8_method_4_code (1 : Nat) (Option.some ClassFile.FieldType.int)) ∈ WD := wdT3 48 rfl rfl
theorem wd638 : (Cond.methodLink "RestMill$SetupReader" (68 : Nat) ({ cls := "RestMill$Moduli", name := "tooGreatWith", desc := "(I)Z" } : MethodName)) ∈ WD := wdT3 49 rfl rfl
theorem wd639 : (Cond.instanceMethod ({ cls := "RestMill$Moduli", name := "tooGreatWith", desc := "(I)Z" } : MethodName)) ∈ WD := wdT3 50 rfl rfl
theorem wd640 : (Cond.selects "RestMill$Moduli" ({ cls := "RestMill$Moduli", name := "tooGreatWith", desc := "(I)Z" } : MethodName) ({ cls := "RestMill$Moduli", name := "tooGreatWith", desc := "(I)Z" } : MethodName)) ∈ WD := wdT3 51 rfl rfl
theorem wd641 : (Cond.code ({ cls := "RestMill$Moduli", name := "tooGreatWith", desc := "(I)Z" } : MethodName) prog_4_method_9_code (2 : Nat) (Option.some ClassFile.FieldType.boolean)) ∈ WD := wdT3 52 rfl rfl
theorem wd642 : (Cond.constantLong "RestMill$Moduli" (49 : Nat) (1000000000 : Int64)) ∈ WD := wdT3 53 rfl rfl
theorem wd643 : (Cond.methodLink "RestMill$SetupReader" (71 : Nat) ({ cls := "RestMill$Moduli", name := "hasCommonWith", desc := "(I)Z" } : MethodName)) ∈ WD := wdT3 54 rfl rfl
theorem wd644 : (Cond.instanceMethod ({ cls := "RestMill$Moduli", name := "hasCommonWith", desc := "(I)Z" } : MethodName)) ∈ WD := wdT3 55 rfl rfl
theorem wd645 : (Cond.selects "RestMill$Moduli" ({ cls := "RestMill$Moduli", name := "hasCommonWith", desc := "(I)Z" } : MethodName) ({ cls := "RestMill$Moduli", name := "hasCommonWith", desc := "(I)Z" } : MethodName)) ∈ WD := wdT3 56 rfl rfl
theorem wd646 : (Cond.code ({ cls := "RestMill$Moduli", name := "hasCommonWith", desc := "(I)Z" } : MethodName) prog_4_method_10_code (3 : Nat) (Option.some ClassFile.FieldType.boolean)) ∈ WD := wdT3 57 rfl rfl
theorem wd648 : (Cond.static ({ cls := "RestMill", name := "greatestDivisor", desc := "(II)I" } : MethodName)) ∈ WD := wdT3 59 rfl rfl
theorem wd649 : (Cond.code ({ cls := "RestMill", name := "greatestDivisor", desc := "(II)I" } : MethodName) prog_1_method_62_code (6 : Nat) (Option.some ClassFile.FieldType.int)) ∈ WD := wdT3 60 rfl rfl
theorem wd650 : (Cond.methodLink "RestMill$SetupReader" (53 : Nat) ({ cls := "RestMill$Tokens", name := "fail", desc := "(I)Z" } : MethodName)) ∈ WD := wdT3 61 rfl rfl
theorem wd651 : (Cond.methodLink "RestMill$SetupReader" (59 : Nat) ({ cls := "RestMill$Moduli", name := "insert", desc := "(I)V" } : MethodName)) ∈ WD := wdT3 62 rfl rfl
theorem wd652 : (Cond.methodLink "RestMill$SetupReader" (65 : Nat) ({ cls := "RestMill$Tokens", name := "move", desc := "()V" } : MethodName)) ∈ WD := wdT3 63 rfl rfl
theorem wd653 : (Cond.methodLink "RestMill$SetupReader" (31 : Nat) ({ cls := "RestMill$SetupReader", name := "readChecks", desc := "(LRestMill$Moduli;)Z" } : MethodName)) ∈ WD := wdT3 64 rfl rfl
theorem wd655 : (Cond.instanceMethod ({ cls := "RestMill$SetupReader", name := "readChecks", desc := "(LRestMill$Moduli;)Z" } : MethodName)) ∈ WD := wdT3 66 rfl rfl
theorem wd656 : (Cond.code ({ cls := "RestMill$SetupReader", name := "readChecks", desc := "(LRestMill$Moduli;)Z" } : MethodName) prog_7_method_5_code (3 : Nat) (Option.some ClassFile.FieldType.boolean)) ∈ WD := wdT3 67 rfl rfl
theorem wd657 : (Cond.methodLink "RestMill$SetupReader" (78 : Nat) ({ cls := "java/lang/Math", name := "min", desc := "(II)I" } : MethodName)) ∈ WD := wdT3 68 rfl rfl
theorem wd658 : (Cond.methodLink "RestMill$SetupReader" (84 : Nat) ({ cls := "RestMill$Tokens", name := "takeUpTo", desc := "(J)Z" } : MethodName)) ∈ WD := wdT3 69 rfl rfl
theorem wd659 : (Cond.instanceMethod ({ cls := "RestMill$Tokens", name := "takeUpTo", desc := "(J)Z" } : MethodName)) ∈ WD := wdT3 70 rfl rfl
theorem wd660 : (Cond.selects "RestMill$Tokens" ({ cls := "RestMill$Tokens", name := "takeUpTo", desc := "(J)Z" } : MethodName) ({ cls := "RestMill$Tokens", name := "takeUpTo", desc := "(J)Z" } : MethodName)) ∈ WD := wdT3 71 rfl rfl
theorem wd661 : (Cond.code ({ cls := "RestMill$Tokens", name := "takeUpTo", desc := "(J)Z" } : MethodName) prog_8_method_7_code (3 : Nat) (Option.some ClassFile.FieldType.boolean)) ∈ WD := wdT3 72 rfl rfl
theorem wd662 : (Cond.methodLink "RestMill$Tokens" (53 : Nat) ({ cls := "RestMill$Tokens", name := "amount", desc := "()I" } : MethodName)) ∈ WD := wdT3 73 rfl rfl
theorem wd663 : (Cond.methodLink "RestMill$SetupReader" (88 : Nat) ({ cls := "RestMill$Moduli", name := "setChecks", desc := "(I)V" } : MethodName)) ∈ WD := wdT3 74 rfl rfl
theorem wd664 : (Cond.methodLink "RestMill$SetupReader" (34 : Nat) ({ cls := "RestMill$SetupReader", name := "readStrict", desc := "(LRestMill$Mill;)Z" } : MethodName)) ∈ WD := wdT3 75 rfl rfl
theorem wd666 : (Cond.instanceMethod ({ cls := "RestMill$SetupReader", name := "readStrict", desc := "(LRestMill$Mill;)Z" } : MethodName)) ∈ WD := wdT3 77 rfl rfl
theorem wd667 : (Cond.code ({ cls := "RestMill$SetupReader", name := "readStrict", desc := "(LRestMill$Mill;)Z" } : MethodName) prog_7_method_6_code (2 : Nat) (Option.some ClassFile.FieldType.boolean)) ∈ WD := wdT3 78 rfl rfl
theorem wd668 : (Cond.methodLink "RestMill$SetupReader" (38 : Nat) ({ cls := "RestMill$SetupReader", name := "readSets", desc := "(LRestMill$Mill;)Z" } : MethodName)) ∈ WD := wdT3 79 rfl rfl
theorem wd670 : (Cond.instanceMethod ({ cls := "RestMill$SetupReader", name := "readSets", desc := "(LRestMill$Mill;)Z" } : MethodName)) ∈ WD := wdT3 81 rfl rfl
theorem wd671 : (Cond.code ({ cls := "RestMill$SetupReader", name := "readSets", desc := "(LRestMill$Mill;)Z" } : MethodName) prog_7_method_7_code (5 : Nat) (Option.some ClassFile.FieldType.boolean)) ∈ WD := wdT3 82 rfl rfl
theorem wd672 : (Cond.methodLink "RestMill$SetupReader" (94 : Nat) ({ cls := "RestMill$SetupReader", name := "readSet", desc := "(LRestMill$Mill;)Z" } : MethodName)) ∈ WD := wdT3 83 rfl rfl
theorem wd674 : (Cond.instanceMethod ({ cls := "RestMill$SetupReader", name := "readSet", desc := "(LRestMill$Mill;)Z" } : MethodName)) ∈ WD := wdT3 85 rfl rfl
theorem wd675 : (Cond.code ({ cls := "RestMill$SetupReader", name := "readSet", desc := "(LRestMill$Mill;)Z" } : MethodName) prog_7_method_8_code (5 : Nat) (Option.some ClassFile.FieldType.boolean)) ∈ WD := wdT3 86 rfl rfl
theorem wd676 : (Cond.methodLink "RestMill$SetupReader" (97 : Nat) ({ cls := "RestMill$Moduli", name := "half", desc := "()J" } : MethodName)) ∈ WD := wdT3 87 rfl rfl
theorem wd677 : (Cond.instanceMethod ({ cls := "RestMill$Moduli", name := "half", desc := "()J" } : MethodName)) ∈ WD := wdT3 88 rfl rfl
theorem wd678 : (Cond.selects "RestMill$Moduli" ({ cls := "RestMill$Moduli", name := "half", desc := "()J" } : MethodName) ({ cls := "RestMill$Moduli", name := "half", desc := "()J" } : MethodName)) ∈ WD := wdT3 89 rfl rfl
theorem wd679 : (Cond.code ({ cls := "RestMill$Moduli", name := "half", desc := "()J" } : MethodName) prog_4_method_7_code (1 : Nat) (Option.some ClassFile.FieldType.long)) ∈ WD := wdT3 90 rfl rfl
theorem wd680 : (Cond.constantLong "RestMill$Moduli" (43 : Nat) (2 : Int64)) ∈ WD := wdT3 91 rfl rfl
theorem wd681 : (Cond.methodLink "RestMill$SetupReader" (101 : Nat) ({ cls := "RestMill$Mill", name := "put", desc := "(IJ)V" } : MethodName)) ∈ WD := wdT3 92 rfl rfl
theorem wd682 : (Cond.instanceMethod ({ cls := "RestMill$Mill", name := "put", desc := "(IJ)V" } : MethodName)) ∈ WD := wdT3 93 rfl rfl
theorem wd683 : (Cond.selects "RestMill$Mill" ({ cls := "RestMill$Mill", name := "put", desc := "(IJ)V" } : MethodName) ({ cls := "RestMill$Mill", name := "put", desc := "(IJ)V" } : MethodName)) ∈ WD := wdT3 94 rfl rfl
theorem wd684 : (Cond.code ({ cls := "RestMill$Mill", name := "put", desc := "(IJ)V" } : MethodName) prog_3_method_8_code (4 : Nat) (Option.none : Option ClassFile.FieldType)) ∈ WD := wdT3 95 rfl rfl
theorem wd686 : (Cond.static ({ cls := "RestMill", name := "numberIn", desc := "(JJ)J" } : MethodName)) ∈ WD := wdT3 97 rfl rfl
theorem wd687 : (Cond.code ({ cls := "RestMill", name := "numberIn", desc := "(JJ)J" } : MethodName) prog_1_method_58_code (6 : Nat) (Option.some ClassFile.FieldType.long)) ∈ WD := wdT3 98 rfl rfl
theorem wd688 : (Cond.constantLong "RestMill" (348 : Nat) (2 : Int64)) ∈ WD := wdT3 99 rfl rfl
theorem wd689 : (Cond.methodLink "RestMill" (94 : Nat) ({ cls := "RestMill", name := "endText", desc := "(LRestMill$Tokens;)V" } : MethodName)) ∈ WD := wdT3 100 rfl rfl
theorem wd691 : (Cond.instanceMethod ({ cls := "RestMill", name := "endText", desc := "(LRestMill$Tokens;)V" } : MethodName)) ∈ WD := wdT3 102 rfl rfl
theorem wd692 : (Cond.code ({ cls := "RestMill", name := "endText", desc := "(LRestMill$Tokens;)V" } : MethodName) prog_1_method_50_code (2 : Nat) (Option.none : Option ClassFile.FieldType)) ∈ WD := wdT3 103 rfl rfl
theorem wd693 : (Cond.methodLink "RestMill" (98 : Nat) ({ cls := "RestMill$Mill", name := "copyFrom", desc := "(LRestMill$Mill;)V" } : MethodName)) ∈ WD := wdT3 104 rfl rfl
theorem wd694 : (Cond.instanceMethod ({ cls := "RestMill$Mill", name := "copyFrom", desc := "(LRestMill$Mill;)V" } : MethodName)) ∈ WD := wdT3 105 rfl rfl
theorem wd695 : (Cond.selects "RestMill$Mill" ({ cls := "RestMill$Mill", name := "copyFrom", desc := "(LRestMill$Mill;)V" } : MethodName) ({ cls := "RestMill$Mill", name := "copyFrom", desc := "(LRestMill$Mill;)V" } : MethodName)) ∈ WD := wdT3 106 rfl rfl
theorem wd696 : (Cond.code ({ cls := "RestMill$Mill", name := "copyFrom", desc := "(LRestMill$Mill;)V" } : MethodName) prog_3_method_2_code (2 : Nat) (Option.none : Option ClassFile.FieldType)) ∈ WD := wdT3 107 rfl rfl
theorem wd697 : (Cond.methodLink "RestMill$Mill" (26 : Nat) ({ cls := "RestMill$Moduli", name := "copyFrom", desc := "(LRestMill$Moduli;)V" } : MethodName)) ∈ WD := wdT3 108 rfl rfl
theorem wd698 : (Cond.instanceMethod ({ cls := "RestMill$Moduli", name := "copyFrom", desc := "(LRestMill$Moduli;)V" } : MethodName)) ∈ WD := wdT3 109 rfl rfl
theorem wd699 : (Cond.selects "RestMill$Moduli" ({ cls := "RestMill$Moduli", name := "copyFrom", desc := "(LRestMill$Moduli;)V" } : MethodName) ({ cls := "RestMill$Moduli", name := "copyFrom", desc := "(LRestMill$Moduli;)V" } : MethodName)) ∈ WD := wdT3 110 rfl rfl
theorem wd700 : (Cond.code ({ cls := "RestMill$Moduli", name := "copyFrom", desc := "(LRestMill$Moduli;)V" } : MethodName) prog_4_method_2_code (2 : Nat) (Option.none : Option ClassFile.FieldType)) ∈ WD := wdT3 111 rfl rfl
theorem wd702 : (Cond.static ({ cls := "RestMill", name := "copyRow", desc := "([I[I)V" } : MethodName)) ∈ WD := wdT3 113 rfl rfl
theorem wd703 : (Cond.code ({ cls := "RestMill", name := "copyRow", desc := "([I[I)V" } : MethodName) prog_1_method_60_code (3 : Nat) (Option.none : Option ClassFile.FieldType)) ∈ WD := wdT3 114 rfl rfl
theorem wd705 : (Cond.static ({ cls := "RestMill", name := "copyRow", desc := "([J[J)V" } : MethodName)) ∈ WD := wdT3 116 rfl rfl
theorem wd706 : (Cond.code ({ cls := "RestMill", name := "copyRow", desc := "([J[J)V" } : MethodName) prog_1_method_61_code (3 : Nat) (Option.none : Option ClassFile.FieldType)) ∈ WD := wdT3 117 rfl rfl
theorem wd709 : (Cond.methodLink "RestMill" (102 : Nat) ({ cls := "RestMill$Changes", name := "clear", desc := "()V" } : MethodName)) ∈ WD := wdT3 120 rfl rfl
theorem wd710 : (Cond.instanceMethod ({ cls := "RestMill$Changes", name := "clear", desc := "()V" } : MethodName)) ∈ WD := wdT3 121 rfl rfl
theorem wd711 : (Cond.selects "RestMill$Changes" ({ cls := "RestMill$Changes", name := "clear", desc := "()V" } : MethodName) ({ cls := "RestMill$Changes", name := "clear", desc := "()V" } : MethodName)) ∈ WD := wdT3 122 rfl rfl
theorem wd712 : (Cond.code ({ cls := "RestMill$Changes", name := "clear", desc := "()V" } : MethodName) prog_2_method_2_code (1 : Nat) (Option.none : Option ClassFile.FieldType)) ∈ WD := wdT3 123 rfl rfl
theorem wd716 : (Cond.code ({ cls := "RestMill", name := "playScript", desc := "()I" } : MethodName) prog_1_method_5_code (2 : Nat) (Option.some ClassFile.FieldType.int)) ∈ WD := wdT3 127 rfl rfl
theorem wd717 : (Cond.methodLink "RestMill" (113 : Nat) ({ cls := "RestMill$ScriptReader", name := "readScript", desc := "(LRestMill$Mill;)Z" } : MethodName)) ∈ WD := wdT3 128 rfl rfl
theorem wd718 : (Cond.instanceMethod ({ cls := "RestMill$ScriptReader", name := "readScript", desc := "(LRestMill$Mill;)Z" } : MethodName)) ∈ WD := wdT3 129 rfl rfl
theorem wd719 : (Cond.selects "RestMill$ScriptReader" ({ cls := "RestMill$ScriptReader", name := "readScript", desc := "(LRestMill$Mill;)Z" } : MethodName) ({ cls := "RestMill$ScriptReader", name := "readScript", desc := "(LRestMill$Mill;)Z" } : MethodName)) ∈ WD := wdT3 130 rfl rfl
theorem wd720 : (Cond.code ({ cls := "RestMill$ScriptReader", name := "readScript", desc := "(LRestMill$Mill;)Z" } : MethodName) prog_6_method_2_code (4 : Nat) (Option.some ClassFile.FieldType.boolean)) ∈ WD := wdT3 131 rfl rfl
theorem wd721 : (Cond.methodLink "RestMill$ScriptReader" (25 : Nat) ({ cls := "RestMill$Program", name := "clear", desc := "()V" } : MethodName)) ∈ WD := wdT3 132 rfl rfl
theorem wd722 : (Cond.instanceMethod ({ cls := "RestMill$Program", name := "clear", desc := "()V" } : MethodName)) ∈ WD := wdT3 133 rfl rfl
theorem wd723 : (Cond.selects "RestMill$Program" ({ cls := "RestMill$Program", name := "clear", desc := "()V" } : MethodName) ({ cls := "RestMill$Program", name := "clear", desc := "()V" } : MethodName)) ∈ WD := wdT3 134 rfl rfl
theorem wd724 : (Cond.code ({ cls := "RestMill$Program", name := "clear", desc := "()V" } : MethodName) prog_5_method_2_code (1 : Nat) (Option.none : Option ClassFile.FieldType)) ∈ WD := wdT3 135 rfl rfl
theorem wd725 : (Cond.methodLink "RestMill$ScriptReader" (42 : Nat) ({ cls := "RestMill$Moduli", name := "half", desc := "()J" } : MethodName)) ∈ WD := wdT3 136 rfl rfl
theorem wd726 : (Cond.methodLink "RestMill$ScriptReader" (49 : Nat) ({ cls := "RestMill$Tokens", name := "kind", desc := "()I" } : MethodName)) ∈ WD := wdT3 137 rfl rfl
theorem wd727 : (Cond.methodLink "RestMill$ScriptReader" (53 : Nat) ({ cls := "RestMill$ScriptReader", name := "readGive", desc := "()Z" } : MethodName)) ∈ WD := wdT3 138 rfl rfl
theorem wd729 : (Cond.instanceMethod ({ cls := "RestMill$ScriptReader", name := "readGive", desc := "()Z" } : MethodName)) ∈ WD := wdT3 140 rfl rfl
theorem wd730 : (Cond.code ({ cls := "RestMill$ScriptReader", name := "readGive", desc := "()Z" } : MethodName) prog_6_method_5_code (2 : Nat) (Option.some ClassFile.FieldType.boolean)) ∈ WD := wdT3 141 rfl rfl
theorem wd731 : (Cond.methodLink "RestMill$ScriptReader" (73 : Nat) ({ cls := "RestMill$Tokens", name := "amount", desc := "()I" } : MethodName)) ∈ WD := wdT3 142 rfl rfl
theorem wd732 : (Cond.methodLink "RestMill$ScriptReader" (70 : Nat) ({ cls := "RestMill$Tokens", name := "move", desc := "()V" } : MethodName)) ∈ WD := wdT3 143 rfl rfl
theorem wd733 : (Cond.methodLink "RestMill$ScriptReader" (60 : Nat) ({ cls := "RestMill$Tokens", name := "take", desc := "(I)Z" } : MethodName)) ∈ WD := wdT3 144 rfl rfl
theorem wd734 : (Cond.methodLink "RestMill$ScriptReader" (84 : Nat) ({ cls := "RestMill$ScriptReader", name := "readSum", desc := "(I)Z" } : MethodName)) ∈ WD := wdT3 145 rfl rfl
theorem wd736 : (Cond.instanceMethod ({ cls := "RestMill$ScriptReader", name := "readSum", desc := "(I)Z" } : MethodName)) ∈ WD := wdT3 147 rfl rfl
theorem wd737 : (Cond.code ({ cls := "RestMill$ScriptReader", name := "readSum", desc := "(I)Z" } : MethodName) prog_6_method_6_code (4 : Nat) (Option.some ClassFile.FieldType.boolean)) ∈ WD := wdT3 148 rfl rfl
theorem wd738 : (Cond.methodLink "RestMill$ScriptReader" (87 : Nat) ({ cls := "RestMill$ScriptReader", name := "readProduct", desc := "(I)Z" } : MethodName)) ∈ WD := wdT3 149 rfl rfl
theorem wd740 : (Cond.instanceMethod ({ cls := "RestMill$ScriptReader", name := "readProduct", desc := "(I)Z" } : MethodName)) ∈ WD := wdT3 151 rfl rfl
theorem wd741 : (Cond.code ({ cls := "RestMill$ScriptReader", name := "readProduct", desc := "(I)Z" } : MethodName) prog_6_method_7_code (4 : Nat) (Option.some ClassFile.FieldType.boolean)) ∈ WD := wdT3 152 rfl rfl
theorem wd742 : (Cond.methodLink "RestMill$ScriptReader" (90 : Nat) ({ cls := "RestMill$ScriptReader", name := "readFactor", desc := "(I)Z" } : MethodName)) ∈ WD := wdT3 153 rfl rfl
theorem wd744 : (Cond.instanceMethod ({ cls := "RestMill$ScriptReader", name := "readFactor", desc := "(I)Z" } : MethodName)) ∈ WD := wdT3 155 rfl rfl
theorem wd745 : (Cond.code ({ cls := "RestMill$ScriptReader", name := "readFactor", desc := "(I)Z" } : MethodName) prog_6_method_8_code (3 : Nat) (Option.some ClassFile.FieldType.boolean)) ∈ WD := wdT3 156 rfl rfl
theorem wd746 : (Cond.methodLink "RestMill$ScriptReader" (76 : Nat) ({ cls := "RestMill$Program", name := "add", desc := "(III)V" } : MethodName)) ∈ WD := wdT3 157 rfl rfl
theorem wd747 : (Cond.instanceMethod ({ cls := "RestMill$Program", name := "add", desc := "(III)V" } : MethodName)) ∈ WD := wdT3 158 rfl rfl
theorem wd748 : (Cond.selects "RestMill$Program" ({ cls := "RestMill$Program", name := "add", desc := "(III)V" } : MethodName) ({ cls := "RestMill$Program", name := "add", desc := "(III)V" } : MethodName)) ∈ WD := wdT3 159 rfl rfl
theorem wd749 : (Cond.code ({ cls := "RestMill$Program", name := "add", desc := "(III)V" } : MethodName) prog_5_method_3_code (4 : Nat) (Option.none : Option ClassFile.FieldType)) ∈ WD := wdT3 160 rfl rfl
theorem wd750 : (Cond.methodLink "RestMill$ScriptReader" (80 : Nat) ({ cls := "RestMill$Tokens", name := "takeUpTo", desc := "(J)Z" } : MethodName)) ∈ WD := wdT3 161 rfl rfl
theorem wd751 : (Cond.methodLink "RestMill$ScriptReader" (67 : Nat) ({ cls := "RestMill$Tokens", name := "fail", desc := "(I)Z" } : MethodName)) ∈ WD := wdT3 162 rfl rfl
theorem wd752 : (Cond.methodLink "RestMill$ScriptReader" (57 : Nat) ({ cls := "RestMill$ScriptReader", name := "readOrder", desc := "()Z" } : MethodName)) ∈ WD := wdT3 163 rfl rfl
theorem wd754 : (Cond.instanceMethod ({ cls := "RestMill$ScriptReader", name := "readOrder", desc := "()Z" } : MethodName)) ∈ WD := wdT3 165 rfl rfl
theorem wd755 : (Cond.code ({ cls := "RestMill$ScriptReader", name := "readOrder", desc := "()Z" } : MethodName) prog_6_method_4_code (4 : Nat) (Option.some ClassFile.FieldType.boolean)) ∈ WD := wdT3 166 rfl rfl
theorem wd756 : (Cond.methodLink "RestMill$ScriptReader" (64 : Nat) ({ cls := "RestMill$ScriptReader", name := "startsStatement", desc := "(I)Z" } : MethodName)) ∈ WD := wdT3 167 rfl rfl
theorem wd757 : (Cond.static ({ cls := "RestMill$ScriptReader", name := "startsStatement", desc := "(I)Z" } : MethodName)) ∈ WD := wdT3 168 rfl rfl
theorem wd758 : (Cond.code ({ cls := "RestMill$ScriptReader", name := "startsStatement", desc := "(I)Z" } : MethodName) prog_6_method_3_code (1 : Nat) (Option.some ClassFile.FieldType.boolean)) ∈ WD := wdT3 169 rfl rfl
theorem wd759 : (Cond.methodLink "RestMill" (116 : Nat) ({ cls := "RestMill$Changes", name := "prepare", desc := "(LRestMill$Mill;)V" } : MethodName)) ∈ WD := wdT3 170 rfl rfl
theorem wd760 : (Cond.instanceMethod ({ cls := "RestMill$Changes", name := "prepare", desc := "(LRestMill$Mill;)V" } : MethodName)) ∈ WD := wdT3 171 rfl rfl
theorem wd761 : (Cond.selects "RestMill$Changes" ({ cls := "RestMill$Changes", name := "prepare", desc := "(LRestMill$Mill;)V" } : MethodName) ({ cls := "RestMill$Changes", name := "prepare", desc := "(LRestMill$Mill;)V" } : MethodName)) ∈ WD := wdT3 172 rfl rfl
theorem wd762 : (Cond.code ({ cls := "RestMill$Changes", name := "prepare", desc := "(LRestMill$Mill;)V" } : MethodName) prog_2_method_3_code (3 : Nat) (Option.none : Option ClassFile.FieldType)) ∈ WD := wdT3 173 rfl rfl
theorem wd763 : (Cond.methodLink "RestMill$Changes" (25 : Nat) ({ cls := "RestMill$Changes", name := "slotAt", desc := "(I)LRestMill$Mill;" } : MethodName)) ∈ WD := wdT3 174 rfl rfl
theorem wd765 : (Cond.instanceMethod ({ cls := "RestMill$Changes", name := "slotAt", desc := "(I)LRestMill$Mill;" } : MethodName)) ∈ WD := wdT3 176 rfl rfl
theorem wd766 : (Cond.code ({ cls := "RestMill$Changes", name := "slotAt", desc := "(I)LRestMill$Mill;" } : MethodName) prog_2_method_7_code (2 : Nat) (Option.some (ClassFile.FieldType.object "RestMill$Mill"))) ∈ WD := wdT3 177 rfl rfl
theorem wd767 : (Cond.methodLink "RestMill$Changes" (29 : Nat) ({ cls := "RestMill$Mill", name := "copyFrom", desc := "(LRestMill$Mill;)V" } : MethodName)) ∈ WD := wdT3 178 rfl rfl
theorem wd768 : (Cond.methodLink "RestMill" (119 : Nat) ({ cls := "RestMill$Changes", name := "keep", desc := "()V" } : MethodName)) ∈ WD := wdT3 179 rfl rfl
theorem wd769 : (Cond.instanceMethod ({ cls := "RestMill$Changes", name := "keep", desc := "()V" } : MethodName)) ∈ WD := wdT3 180 rfl rfl
theorem wd770 : (Cond.selects "RestMill$Changes" ({ cls := "RestMill$Changes", name := "keep", desc := "()V" } : MethodName) ({ cls := "RestMill$Changes", name := "keep", desc := "()V" } : MethodName)) ∈ WD := wdT3 181 rfl rfl
theorem wd771 : (Cond.code ({ cls := "RestMill$Changes", name := "keep", desc := "()V" } : MethodName) prog_2_method_4_code (1 : Nat) (Option.none : Option ClassFile.FieldType)) ∈ WD := wdT3 182 rfl rfl
theorem wd772 : (Cond.methodLink "RestMill$Changes" (33 : Nat) ({ cls := "java/lang/Math", name := "min", desc := "(II)I" } : MethodName)) ∈ WD := wdT3 183 rfl rfl
theorem wd773 : (Cond.methodLink "RestMill" (126 : Nat) ({ cls := "RestMill$Program", name := "play", desc := "(LRestMill$Mill;)I" } : MethodName)) ∈ WD := wdT3 184 rfl rfl
theorem wd774 : (Cond.instanceMethod ({ cls := "RestMill$Program", name := "play", desc := "(LRestMill$Mill;)I" } : MethodName)) ∈ WD := wdT3 185 rfl rfl
theorem wd775 : (Cond.selects "RestMill$Program" ({ cls := "RestMill$Program", name := "play", desc := "(LRestMill$Mill;)I" } : MethodName) ({ cls := "RestMill$Program", name := "play", desc := "(LRestMill$Mill;)I" } : MethodName)) ∈ WD := wdT3 186 rfl rfl
theorem wd776 : (Cond.code ({ cls := "RestMill$Program", name := "play", desc := "(LRestMill$Mill;)I" } : MethodName) prog_5_method_4_code (5 : Nat) (Option.some ClassFile.FieldType.int)) ∈ WD := wdT3 187 rfl rfl
theorem wd777 : (Cond.methodLink "RestMill$Program" (32 : Nat) ({ cls := "RestMill$Program", name := "doStep", desc := "(LRestMill$Mill;III)I" } : MethodName)) ∈ WD := wdT3 188 rfl rfl
theorem wd779 : (Cond.instanceMethod ({ cls := "RestMill$Program", name := "doStep", desc := "(LRestMill$Mill;III)I" } : MethodName)) ∈ WD := wdT3 190 rfl rfl
theorem wd780 : (Cond.code ({ cls := "RestMill$Program", name := "doStep", desc := "(LRestMill$Mill;III)I" } : MethodName) prog_5_method_5_code (5 : Nat) (Option.some ClassFile.FieldType.int)) ∈ WD := wdT3 191 rfl rfl
theorem wd781 : (Cond.methodLink "RestMill$Program" (42 : Nat) ({ cls := "RestMill$Program", name := "push", desc := "(J)V" } : MethodName)) ∈ WD := wdT3 192 rfl rfl
theorem wd783 : (Cond.instanceMethod ({ cls := "RestMill$Program", name := "push", desc := "(J)V" } : MethodName)) ∈ WD := wdT3 194 rfl rfl
theorem wd784 : (Cond.code ({ cls := "RestMill$Program", name := "push", desc := "(J)V" } : MethodName) prog_5_method_7_code (3 : Nat) (Option.none : Option ClassFile.FieldType)) ∈ WD := wdT3 195 rfl rfl
theorem wd785 : (Cond.methodLink "RestMill$Program" (46 : Nat) ({ cls := "RestMill$Mill", name := "numberAt", desc := "(I)J" } : MethodName)) ∈ WD := wdT3 196 rfl rfl
theorem wd786 : (Cond.instanceMethod ({ cls := "RestMill$Mill", name := "numberAt", desc := "(I)J" } : MethodName)) ∈ WD := wdT3 197 rfl rfl
theorem wd787 : (Cond.selects "RestMill$Mill" ({ cls := "RestMill$Mill", name := "numberAt", desc := "(I)J" } : MethodName) ({ cls := "RestMill$Mill", name := "numberAt", desc := "(I)J" } : MethodName)) ∈ WD := wdT3 198 rfl rfl
theorem wd788 : (Cond.code ({ cls := "RestMill$Mill", name := "numberAt", desc := "(I)J" } : MethodName) prog_3_method_7_code (2 : Nat) (Option.some ClassFile.FieldType.long)) ∈ WD := wdT3 199 rfl rfl
theorem wd789 : (Cond.methodLink "RestMill$Program" (50 : Nat) ({ cls := "RestMill$Program", name := "doOperation", desc := "(LRestMill$Mill;I)I" } : MethodName)) ∈ WD := wdT3 200 rfl rfl
theorem wd791 : (Cond.instanceMethod ({ cls := "RestMill$Program", name := "doOperation", desc := "(LRestMill$Mill;I)I" } : MethodName)) ∈ WD := wdT3 202 rfl rfl
theorem wd792 : (Cond.code ({ cls := "RestMill$Program", name := "doOperation", desc := "(LRestMill$Mill;I)I" } : MethodName) prog_5_method_6_code (8 : Nat) (Option.some ClassFile.FieldType.int)) ∈ WD := wdT3 203 rfl rfl
theorem wd793 : (Cond.methodLink "RestMill$Program" (54 : Nat) ({ cls := "RestMill$Program", name := "pop", desc := "()J" } : MethodName)) ∈ WD := wdT3 204 rfl rfl
theorem wd795 : (Cond.instanceMethod ({ cls := "RestMill$Program", name := "pop", desc := "()J" } : MethodName)) ∈ WD := wdT3 206 rfl rfl
theorem wd796 : (Cond.code ({ cls := "RestMill$Program", name := "pop", desc := "()J" } : MethodName) prog_5_method_8_code (1 : Nat) (Option.some ClassFile.FieldType.long)) ∈ WD := wdT3 207 rfl rfl
theorem wd797 : (Cond.methodLink "RestMill$Program" (77 : Nat) ({ cls := "RestMill$Mill", name := "reasonOf", desc := "(IJJ)I" } : MethodName)) ∈ WD := wdT3 208 rfl rfl
theorem wd798 : (Cond.instanceMethod ({ cls := "RestMill$Mill", name := "reasonOf", desc := "(IJJ)I" } : MethodName)) ∈ WD := wdT3 209 rfl rfl
theorem wd799 : (Cond.selects "RestMill$Mill" ({ cls := "RestMill$Mill", name := "reasonOf", desc := "(IJJ)I" } : MethodName) ({ cls := "RestMill$Mill", name := "reasonOf", desc := "(IJJ)I" } : MethodName)) ∈ WD := wdT3 210 rfl rfl
theorem wd800 : (Cond.code ({ cls := "RestMill$Mill", name := "reasonOf", desc := "(IJJ)I" } : MethodName) prog_3_method_27_code (6 : Nat) (Option.some ClassFile.FieldType.int)) ∈ WD := wdT3 211 rfl rfl
theorem wd802 : (Cond.static ({ cls := "RestMill", name := "divides", desc := "(I)Z" } : MethodName)) ∈ WD := wdT3 213 rfl rfl
theorem wd803 : (Cond.code ({ cls := "RestMill", name := "divides", desc := "(I)Z" } : MethodName) prog_1_method_55_code (1 : Nat) (Option.some ClassFile.FieldType.boolean)) ∈ WD := wdT3 214 rfl rfl
theorem wd805 : (Cond.static ({ cls := "RestMill", name := "exactOf", desc := "(IJJ)J" } : MethodName)) ∈ WD := wdT3 216 rfl rfl
theorem wd806 : (Cond.code ({ cls := "RestMill", name := "exactOf", desc := "(IJJ)J" } : MethodName) prog_1_method_59_code (5 : Nat) (Option.some ClassFile.FieldType.long)) ∈ WD := wdT3 217 rfl rfl
theorem wd807 : (Cond.methodLink "RestMill" (195 : Nat) ({ cls := "RestMill", name := "floorQuotient", desc := "(JJ)J" } : MethodName)) ∈ WD := wdT3 218 rfl rfl
theorem wd808 : (Cond.methodLink "RestMill$Mill" (135 : Nat) ({ cls := "RestMill$Mill", name := "refusesResult", desc := "(J)Z" } : MethodName)) ∈ WD := wdT3 219 rfl rfl
theorem wd810 : (Cond.instanceMethod ({ cls := "RestMill$Mill", name := "refusesResult", desc := "(J)Z" } : MethodName)) ∈ WD := wdT3 221 rfl rfl
theorem wd811 : (Cond.code ({ cls := "RestMill$Mill", name := "refusesResult", desc := "(J)Z" } : MethodName) prog_3_method_26_code (3 : Nat) (Option.some ClassFile.FieldType.boolean)) ∈ WD := wdT3 222 rfl rfl
theorem wd812 : (Cond.methodLink "RestMill$Mill" (80 : Nat) ({ cls := "RestMill$Moduli", name := "fits", desc := "(J)Z" } : MethodName)) ∈ WD := wdT3 223 rfl rfl
theorem wd813 : (Cond.instanceMethod ({ cls := "RestMill$Moduli", name := "fits", desc := "(J)Z" } : MethodName)) ∈ WD := wdT3 224 rfl rfl
theorem wd814 : (Cond.selects "RestMill$Moduli" ({ cls := "RestMill$Moduli", name := "fits", desc := "(J)Z" } : MethodName) ({ cls := "RestMill$Moduli", name := "fits", desc := "(J)Z" } : MethodName)) ∈ WD := wdT3 225 rfl rfl
theorem wd815 : (Cond.code ({ cls := "RestMill$Moduli", name := "fits", desc := "(J)Z" } : MethodName) prog_4_method_8_code (3 : Nat) (Option.some ClassFile.FieldType.boolean)) ∈ WD := wdT3 226 rfl rfl
theorem wd816 : (Cond.methodLink "RestMill$Moduli" (45 : Nat) ({ cls := "RestMill$Moduli", name := "half", desc := "()J" } : MethodName)) ∈ WD := wdT3 227 rfl rfl
theorem wd817 : (Cond.methodLink "RestMill$Program" (81 : Nat) ({ cls := "RestMill$Mill", name := "refuse", desc := "(I)I" } : MethodName)) ∈ WD := wdT3 228 rfl rfl
theorem wd818 : (Cond.instanceMethod ({ cls := "RestMill$Mill", name := "refuse", desc := "(I)I" } : MethodName)) ∈ WD := wdT3 229 rfl rfl
theorem wd819 : (Cond.selects "RestMill$Mill" ({ cls := "RestMill$Mill", name := "refuse", desc := "(I)I" } : MethodName) ({ cls := "RestMill$Mill", name := "refuse", desc := "(I)I" } : MethodName)) ∈ WD := wdT3 230 rfl rfl
theorem wd820 : (Cond.code ({ cls := "RestMill$Mill", name := "refuse", desc := "(I)I" } : MethodName) prog_3_method_6_code (2 : Nat) (Option.some ClassFile.FieldType.int)) ∈ WD := wdT3 231 rfl rfl
theorem wd821 : (Cond.methodLink "RestMill$Mill" (53 : Nat) ({ cls := "RestMill$Mill", name := "book", desc := "(I)V" } : MethodName)) ∈ WD := wdT3 232 rfl rfl
theorem wd822 : (Cond.instanceMethod ({ cls := "RestMill$Mill", name := "book", desc := "(I)V" } : MethodName)) ∈ WD := wdT3 233 rfl rfl
theorem wd823 : (Cond.selects "RestMill$Mill" ({ cls := "RestMill$Mill", name := "book", desc := "(I)V" } : MethodName) ({ cls := "RestMill$Mill", name := "book", desc := "(I)V" } : MethodName)) ∈ WD := wdT3 234 rfl rfl
theorem wd824 : (Cond.code ({ cls := "RestMill$Mill", name := "book", desc := "(I)V" } : MethodName) prog_3_method_5_code (2 : Nat) (Option.none : Option ClassFile.FieldType)) ∈ WD := wdT3 235 rfl rfl
theorem wd827 : (Cond.methodLink "RestMill$Program" (58 : Nat) ({ cls := "RestMill$Mill", name := "finish", desc := "(IJ)I" } : MethodName)) ∈ WD := wdT3 238 rfl rfl
theorem wd828 : (Cond.instanceMethod ({ cls := "RestMill$Mill", name := "finish", desc := "(IJ)I" } : MethodName)) ∈ WD := wdT3 239 rfl rfl
theorem wd829 : (Cond.selects "RestMill$Mill" ({ cls := "RestMill$Mill", name := "finish", desc := "(IJ)I" } : MethodName) ({ cls := "RestMill$Mill", name := "finish", desc := "(IJ)I" } : MethodName)) ∈ WD := wdT4 0 rfl rfl
theorem wd830 : (Cond.code ({ cls := "RestMill$Mill", name := "finish", desc := "(IJ)I" } : MethodName) prog_3_method_28_code (4 : Nat) (Option.some ClassFile.FieldType.int)) ∈ WD := wdT4 1 rfl rfl
theorem wd831 : (Cond.methodLink "RestMill$Mill" (69 : Nat) ({ cls := "RestMill$Mill", name := "put", desc := "(IJ)V" } : MethodName)) ∈ WD := wdT4 2 rfl rfl
theorem wd832 : (Cond.methodLink "RestMill$Mill" (113 : Nat) ({ cls := "RestMill$Mill", name := "soundAt", desc := "(I)Z" } : MethodName)) ∈ WD := wdT4 3 rfl rfl
theorem wd833 : (Cond.instanceMethod ({ cls := "RestMill$Mill", name := "soundAt", desc := "(I)Z" } : MethodName)) ∈ WD := wdT4 4 rfl rfl
theorem wd834 : (Cond.selects "RestMill$Mill" ({ cls := "RestMill$Mill", name := "soundAt", desc := "(I)Z" } : MethodName) ({ cls := "RestMill$Mill", name := "soundAt", desc := "(I)Z" } : MethodName)) ∈ WD := wdT4 5 rfl rfl
theorem wd835 : (Cond.code ({ cls := "RestMill$Mill", name := "soundAt", desc := "(I)Z" } : MethodName) prog_3_method_12_code (2 : Nat) (Option.some ClassFile.FieldType.boolean)) ∈ WD := wdT4 6 rfl rfl
theorem wd836 : (Cond.methodLink "RestMill$Mill" (65 : Nat) ({ cls := "RestMill$Mill", name := "numberAt", desc := "(I)J" } : MethodName)) ∈ WD := wdT4 7 rfl rfl
theorem wd837 : (Cond.methodLink "RestMill$Program" (62 : Nat) ({ cls := "RestMill$Mill", name := "actScale", desc := "(II)I" } : MethodName)) ∈ WD := wdT4 8 rfl rfl
theorem wd838 : (Cond.instanceMethod ({ cls := "RestMill$Mill", name := "actScale", desc := "(II)I" } : MethodName)) ∈ WD := wdT4 9 rfl rfl
theorem wd839 : (Cond.selects "RestMill$Mill" ({ cls := "RestMill$Mill", name := "actScale", desc := "(II)I" } : MethodName) ({ cls := "RestMill$Mill", name := "actScale", desc := "(II)I" } : MethodName)) ∈ WD := wdT4 10 rfl rfl
theorem wd840 : (Cond.code ({ cls := "RestMill$Mill", name := "actScale", desc := "(II)I" } : MethodName) prog_3_method_31_code (5 : Nat) (Option.some ClassFile.FieldType.int)) ∈ WD := wdT4 11 rfl rfl
theorem wd841 : (Cond.methodLink "RestMill$Mill" (76 : Nat) ({ cls := "RestMill$Moduli", name := "at", desc := "(I)I" } : MethodName)) ∈ WD := wdT4 12 rfl rfl
theorem wd843 : (Cond.methodLink "RestMill$Mill" (142 : Nat) ({ cls := "RestMill$Mill", name := "refuse", desc := "(I)I" } : MethodName)) ∈ WD := wdT4 14 rfl rfl
theorem wd844 : (Cond.methodLink "RestMill$Mill" (138 : Nat) ({ cls := "RestMill$Mill", name := "finish", desc := "(IJ)I" } : MethodName)) ∈ WD := wdT4 15 rfl rfl
theorem wd845 : (Cond.methodLink "RestMill$Program" (66 : Nat) ({ cls := "RestMill$Mill", name := "exchange", desc := "(II)V" } : MethodName)) ∈ WD := wdT4 16 rfl rfl
theorem wd846 : (Cond.instanceMethod ({ cls := "RestMill$Mill", name := "exchange", desc := "(II)V" } : MethodName)) ∈ WD := wdT4 17 rfl rfl
theorem wd847 : (Cond.selects "RestMill$Mill" ({ cls := "RestMill$Mill", name := "exchange", desc := "(II)V" } : MethodName) ({ cls := "RestMill$Mill", name := "exchange", desc := "(II)V" } : MethodName)) ∈ WD := wdT4 18 rfl rfl
theorem wd848 : (Cond.code ({ cls := "RestMill$Mill", name := "exchange", desc := "(II)V" } : MethodName) prog_3_method_9_code (5 : Nat) (Option.none : Option ClassFile.FieldType)) ∈ WD := wdT4 19 rfl rfl
theorem wd849 : (Cond.methodLink "RestMill$Program" (70 : Nat) ({ cls := "RestMill$Mill", name := "actMend", desc := "(I)I" } : MethodName)) ∈ WD := wdT4 20 rfl rfl
theorem wd850 : (Cond.instanceMethod ({ cls := "RestMill$Mill", name := "actMend", desc := "(I)I" } : MethodName)) ∈ WD := wdT4 21 rfl rfl
theorem wd851 : (Cond.selects "RestMill$Mill" ({ cls := "RestMill$Mill", name := "actMend", desc := "(I)I" } : MethodName) ({ cls := "RestMill$Mill", name := "actMend", desc := "(I)I" } : MethodName)) ∈ WD := wdT4 22 rfl rfl
theorem wd852 : (Cond.code ({ cls := "RestMill$Mill", name := "actMend", desc := "(I)I" } : MethodName) prog_3_method_32_code (4 : Nat) (Option.some ClassFile.FieldType.int)) ∈ WD := wdT4 23 rfl rfl
theorem wd853 : (Cond.methodLink "RestMill$Mill" (117 : Nat) ({ cls := "RestMill$Mill", name := "soundRest", desc := "(II)I" } : MethodName)) ∈ WD := wdT4 24 rfl rfl
theorem wd854 : (Cond.instanceMethod ({ cls := "RestMill$Mill", name := "soundRest", desc := "(II)I" } : MethodName)) ∈ WD := wdT4 25 rfl rfl
theorem wd855 : (Cond.selects "RestMill$Mill" ({ cls := "RestMill$Mill", name := "soundRest", desc := "(II)I" } : MethodName) ({ cls := "RestMill$Mill", name := "soundRest", desc := "(II)I" } : MethodName)) ∈ WD := wdT4 26 rfl rfl
theorem wd856 : (Cond.code ({ cls := "RestMill$Mill", name := "soundRest", desc := "(II)I" } : MethodName) prog_3_method_23_code (8 : Nat) (Option.some ClassFile.FieldType.int)) ∈ WD := wdT4 27 rfl rfl
theorem wd857 : (Cond.methodLink "RestMill$Mill" (106 : Nat) ({ cls := "RestMill$Moduli", name := "weightAt", desc := "(I)J" } : MethodName)) ∈ WD := wdT4 28 rfl rfl
theorem wd858 : (Cond.instanceMethod ({ cls := "RestMill$Moduli", name := "weightAt", desc := "(I)J" } : MethodName)) ∈ WD := wdT4 29 rfl rfl
theorem wd859 : (Cond.selects "RestMill$Moduli" ({ cls := "RestMill$Moduli", name := "weightAt", desc := "(I)J" } : MethodName) ({ cls := "RestMill$Moduli", name := "weightAt", desc := "(I)J" } : MethodName)) ∈ WD := wdT4 30 rfl rfl
theorem wd860 : (Cond.code ({ cls := "RestMill$Moduli", name := "weightAt", desc := "(I)J" } : MethodName) prog_4_method_5_code (2 : Nat) (Option.some ClassFile.FieldType.long)) ∈ WD := wdT4 31 rfl rfl
theorem wd861 : (Cond.methodLink "RestMill$Mill" (103 : Nat) ({ cls := "RestMill$Mill", name := "restAt", desc := "(II)I" } : MethodName)) ∈ WD := wdT4 32 rfl rfl
theorem wd862 : (Cond.instanceMethod ({ cls := "RestMill$Mill", name := "restAt", desc := "(II)I" } : MethodName)) ∈ WD := wdT4 33 rfl rfl
theorem wd863 : (Cond.selects "RestMill$Mill" ({ cls := "RestMill$Mill", name := "restAt", desc := "(II)I" } : MethodName) ({ cls := "RestMill$Mill", name := "restAt", desc := "(II)I" } : MethodName)) ∈ WD := wdT4 34 rfl rfl
theorem wd864 : (Cond.code ({ cls := "RestMill$Mill", name := "restAt", desc := "(II)I" } : MethodName) prog_3_method_11_code (3 : Nat) (Option.some ClassFile.FieldType.int)) ∈ WD := wdT4 35 rfl rfl
theorem wd866 : (Cond.methodLink "RestMill$Mill" (149 : Nat) ({ cls := "RestMill$Mill", name := "numberWithRest", desc := "(III)J" } : MethodName)) ∈ WD := wdT4 37 rfl rfl
theorem wd867 : (Cond.instanceMethod ({ cls := "RestMill$Mill", name := "numberWithRest", desc := "(III)J" } : MethodName)) ∈ WD := wdT4 38 rfl rfl
theorem wd868 : (Cond.selects "RestMill$Mill" ({ cls := "RestMill$Mill", name := "numberWithRest", desc := "(III)J" } : MethodName) ({ cls := "RestMill$Mill", name := "numberWithRest", desc := "(III)J" } : MethodName)) ∈ WD := wdT4 39 rfl rfl
theorem wd869 : (Cond.code ({ cls := "RestMill$Mill", name := "numberWithRest", desc := "(III)J" } : MethodName) prog_3_method_22_code (6 : Nat) (Option.some ClassFile.FieldType.long)) ∈ WD := wdT4 40 rfl rfl
theorem wd870 : (Cond.methodLink "RestMill$Program" (36 : Nat) ({ cls := "RestMill$Mill", name := "book", desc := "(I)V" } : MethodName)) ∈ WD := wdT4 41 rfl rfl
theorem wd874 : (Cond.code ({ cls := "RestMill", name := "errorCode", desc := "()I" } : MethodName) prog_1_method_6_code (1 : Nat) (Option.some ClassFile.FieldType.int)) ∈ WD := wdT4 45 rfl rfl
theorem wd878 : (Cond.code ({ cls := "RestMill", name := "errorOffset", desc := "()I" } : MethodName) prog_1_method_7_code (1 : Nat) (Option.some ClassFile.FieldType.int)) ∈ WD := wdT4 49 rfl rfl
theorem wd882 : (Cond.code ({ cls := "RestMill", name := "gap", desc := "()J" } : MethodName) prog_1_method_23_code (6 : Nat) (Option.some ClassFile.FieldType.long)) ∈ WD := wdT4 53 rfl rfl
theorem wd883 : (Cond.methodLink "RestMill" (192 : Nat) ({ cls := "RestMill$Mill", name := "sumOfParts", desc := "(I)J" } : MethodName)) ∈ WD := wdT4 54 rfl rfl
theorem wd884 : (Cond.instanceMethod ({ cls := "RestMill$Mill", name := "sumOfParts", desc := "(I)J" } : MethodName)) ∈ WD := wdT4 55 rfl rfl
theorem wd885 : (Cond.selects "RestMill$Mill" ({ cls := "RestMill$Mill", name := "sumOfParts", desc := "(I)J" } : MethodName) ({ cls := "RestMill$Mill", name := "sumOfParts", desc := "(I)J" } : MethodName)) ∈ WD := wdT4 56 rfl rfl
theorem wd886 : (Cond.code ({ cls := "RestMill$Mill", name := "sumOfParts", desc := "(I)J" } : MethodName) prog_3_method_17_code (5 : Nat) (Option.some ClassFile.FieldType.long)) ∈ WD := wdT4 57 rfl rfl
theorem wd887 : (Cond.methodLink "RestMill$Mill" (109 : Nat) ({ cls := "RestMill$Mill", name := "partAt", desc := "(II)J" } : MethodName)) ∈ WD := wdT4 58 rfl rfl
theorem wd888 : (Cond.instanceMethod ({ cls := "RestMill$Mill", name := "partAt", desc := "(II)J" } : MethodName)) ∈ WD := wdT4 59 rfl rfl
theorem wd889 : (Cond.selects "RestMill$Mill" ({ cls := "RestMill$Mill", name := "partAt", desc := "(II)J" } : MethodName) ({ cls := "RestMill$Mill", name := "partAt", desc := "(II)J" } : MethodName)) ∈ WD := wdT4 60 rfl rfl
theorem wd890 : (Cond.code ({ cls := "RestMill$Mill", name := "partAt", desc := "(II)J" } : MethodName) prog_3_method_16_code (3 : Nat) (Option.some ClassFile.FieldType.long)) ∈ WD := wdT4 61 rfl rfl
theorem wd891 : (Cond.methodLink "RestMill" (215 : Nat) ({ cls := "RestMill$Mill", name := "valueByDigits", desc := "(I)J" } : MethodName)) ∈ WD := wdT4 62 rfl rfl
theorem wd892 : (Cond.instanceMethod ({ cls := "RestMill$Mill", name := "valueByDigits", desc := "(I)J" } : MethodName)) ∈ WD := wdT4 63 rfl rfl
theorem wd893 : (Cond.selects "RestMill$Mill" ({ cls := "RestMill$Mill", name := "valueByDigits", desc := "(I)J" } : MethodName) ({ cls := "RestMill$Mill", name := "valueByDigits", desc := "(I)J" } : MethodName)) ∈ WD := wdT4 64 rfl rfl
theorem wd894 : (Cond.code ({ cls := "RestMill$Mill", name := "valueByDigits", desc := "(I)J" } : MethodName) prog_3_method_15_code (7 : Nat) (Option.some ClassFile.FieldType.long)) ∈ WD := wdT4 65 rfl rfl
theorem wd895 : (Cond.methodLink "RestMill$Mill" (99 : Nat) ({ cls := "RestMill$Mill", name := "digitAt", desc := "(II)I" } : MethodName)) ∈ WD := wdT4 66 rfl rfl
theorem wd896 : (Cond.instanceMethod ({ cls := "RestMill$Mill", name := "digitAt", desc := "(II)I" } : MethodName)) ∈ WD := wdT4 67 rfl rfl
theorem wd897 : (Cond.selects "RestMill$Mill" ({ cls := "RestMill$Mill", name := "digitAt", desc := "(II)I" } : MethodName) ({ cls := "RestMill$Mill", name := "digitAt", desc := "(II)I" } : MethodName)) ∈ WD := wdT4 68 rfl rfl
theorem wd898 : (Cond.code ({ cls := "RestMill$Mill", name := "digitAt", desc := "(II)I" } : MethodName) prog_3_method_14_code (6 : Nat) (Option.some ClassFile.FieldType.int)) ∈ WD := wdT4 69 rfl rfl
theorem wd899 : (Cond.methodLink "RestMill$Mill" (90 : Nat) ({ cls := "RestMill$Mill", name := "valueAt", desc := "(I)J" } : MethodName)) ∈ WD := wdT4 70 rfl rfl
theorem wd900 : (Cond.instanceMethod ({ cls := "RestMill$Mill", name := "valueAt", desc := "(I)J" } : MethodName)) ∈ WD := wdT4 71 rfl rfl
theorem wd901 : (Cond.selects "RestMill$Mill" ({ cls := "RestMill$Mill", name := "valueAt", desc := "(I)J" } : MethodName) ({ cls := "RestMill$Mill", name := "valueAt", desc := "(I)J" } : MethodName)) ∈ WD := wdT4 72 rfl rfl
theorem wd902 : (Cond.code ({ cls := "RestMill$Mill", name := "valueAt", desc := "(I)J" } : MethodName) prog_3_method_10_code (2 : Nat) (Option.some ClassFile.FieldType.long)) ∈ WD := wdT4 73 rfl rfl
theorem wd903 : (Cond.methodLink "RestMill" (218 : Nat) ({ cls := "java/lang/Math", name := "abs", desc := "(J)J" } : MethodName)) ∈ WD := wdT4 74 rfl rfl
theorem wd904 : (Cond.static ({ cls := "java/lang/Math", name := "abs", desc := "(J)J" } : MethodName)) ∈ WD := wdT4 75 rfl rfl
theorem wd905 : (Cond.code ({ cls := "java/lang/Math", name := "abs", desc := "(J)J" } : MethodName) prog_25_method_61_code (2 : Nat) (Option.some ClassFile.FieldType.long)) ∈ WD := wdT4 76 rfl rfl
theorem wd909 : (Cond.code ({ cls := "RestMill", name := "nextModulus", desc := "()I" } : MethodName) prog_1_method_29_code (2 : Nat) (Option.some ClassFile.FieldType.int)) ∈ WD := wdT4 80 rfl rfl
theorem wd910 : (Cond.methodLink "RestMill" (258 : Nat) ({ cls := "RestMill$Moduli", name := "canTake", desc := "(I)Z" } : MethodName)) ∈ WD := wdT4 81 rfl rfl
theorem wd911 : (Cond.instanceMethod ({ cls := "RestMill$Moduli", name := "canTake", desc := "(I)Z" } : MethodName)) ∈ WD := wdT4 82 rfl rfl
theorem wd912 : (Cond.selects "RestMill$Moduli" ({ cls := "RestMill$Moduli", name := "canTake", desc := "(I)Z" } : MethodName) ({ cls := "RestMill$Moduli", name := "canTake", desc := "(I)Z" } : MethodName)) ∈ WD := wdT4 83 rfl rfl
theorem wd913 : (Cond.code ({ cls := "RestMill$Moduli", name := "canTake", desc := "(I)Z" } : MethodName) prog_4_method_11_code (2 : Nat) (Option.some ClassFile.FieldType.boolean)) ∈ WD := wdT4 84 rfl rfl
theorem wd914 : (Cond.methodLink "RestMill$Moduli" (59 : Nat) ({ cls := "RestMill$Moduli", name := "tooGreatWith", desc := "(I)Z" } : MethodName)) ∈ WD := wdT4 85 rfl rfl
theorem wd915 : (Cond.methodLink "RestMill$Moduli" (63 : Nat) ({ cls := "RestMill$Moduli", name := "hasCommonWith", desc := "(I)Z" } : MethodName)) ∈ WD := wdT4 86 rfl rfl
theorem wd919 : (Cond.code ({ cls := "RestMill", name := "spare", desc := "()I" } : MethodName) prog_1_method_30_code (3 : Nat) (Option.some ClassFile.FieldType.int)) ∈ WD := wdT4 90 rfl rfl
theorem wd920 : (Cond.methodLink "RestMill" (261 : Nat) ({ cls := "RestMill$Mill", name := "canDrop", desc := "(I)Z" } : MethodName)) ∈ WD := wdT4 91 rfl rfl
theorem wd921 : (Cond.instanceMethod ({ cls := "RestMill$Mill", name := "canDrop", desc := "(I)Z" } : MethodName)) ∈ WD := wdT4 92 rfl rfl
theorem wd922 : (Cond.selects "RestMill$Mill" ({ cls := "RestMill$Mill", name := "canDrop", desc := "(I)Z" } : MethodName) ({ cls := "RestMill$Mill", name := "canDrop", desc := "(I)Z" } : MethodName)) ∈ WD := wdT4 93 rfl rfl
theorem wd923 : (Cond.code ({ cls := "RestMill$Mill", name := "canDrop", desc := "(I)Z" } : MethodName) prog_3_method_25_code (3 : Nat) (Option.some ClassFile.FieldType.boolean)) ∈ WD := wdT4 94 rfl rfl
theorem wd924 : (Cond.methodLink "RestMill$Mill" (120 : Nat) ({ cls := "RestMill$Moduli", name := "bases", desc := "()I" } : MethodName)) ∈ WD := wdT4 95 rfl rfl
theorem wd925 : (Cond.methodLink "RestMill$Mill" (124 : Nat) ({ cls := "RestMill$Moduli", name := "tellWithout", desc := "(IJ)Z" } : MethodName)) ∈ WD := wdT4 96 rfl rfl
theorem wd926 : (Cond.instanceMethod ({ cls := "RestMill$Moduli", name := "tellWithout", desc := "(IJ)Z" } : MethodName)) ∈ WD := wdT4 97 rfl rfl
theorem wd927 : (Cond.selects "RestMill$Moduli" ({ cls := "RestMill$Moduli", name := "tellWithout", desc := "(IJ)Z" } : MethodName) ({ cls := "RestMill$Moduli", name := "tellWithout", desc := "(IJ)Z" } : MethodName)) ∈ WD := wdT4 98 rfl rfl
theorem wd928 : (Cond.code ({ cls := "RestMill$Moduli", name := "tellWithout", desc := "(IJ)Z" } : MethodName) prog_4_method_16_code (4 : Nat) (Option.some ClassFile.FieldType.boolean)) ∈ WD := wdT4 99 rfl rfl
theorem wd933 : (Cond.code ({ cls := "RestMill", name := "greatest", desc := "()I" } : MethodName) prog_1_method_31_code (3 : Nat) (Option.some ClassFile.FieldType.int)) ∈ WD := wdT4 104 rfl rfl
theorem wd934 : (Cond.methodLink "RestMill" (202 : Nat) ({ cls := "RestMill$Mill", name := "numberAt", desc := "(I)J" } : MethodName)) ∈ WD := wdT4 105 rfl rfl
theorem wd938 : (Cond.code ({ cls := "RestMill", name := "mean", desc := "()D" } : MethodName) prog_1_method_32_code (4 : Nat) (Option.some ClassFile.FieldType.double)) ∈ WD := wdT4 109 rfl rfl
theorem wd943 : (Cond.code ({ cls := "RestMill", name := "zeroShare", desc := "()F" } : MethodName) prog_1_method_33_code (3 : Nat) (Option.some ClassFile.FieldType.float)) ∈ WD := wdT4 114 rfl rfl
theorem wd944 : (Cond.methodLink "RestMill" (266 : Nat) ({ cls := "RestMill$Mill", name := "zeroRests", desc := "(I)I" } : MethodName)) ∈ WD := wdT4 115 rfl rfl
theorem wd945 : (Cond.instanceMethod ({ cls := "RestMill$Mill", name := "zeroRests", desc := "(I)I" } : MethodName)) ∈ WD := wdT4 116 rfl rfl
theorem wd946 : (Cond.selects "RestMill$Mill" ({ cls := "RestMill$Mill", name := "zeroRests", desc := "(I)I" } : MethodName) ({ cls := "RestMill$Mill", name := "zeroRests", desc := "(I)I" } : MethodName)) ∈ WD := wdT4 117 rfl rfl
theorem wd947 : (Cond.code ({ cls := "RestMill$Mill", name := "zeroRests", desc := "(I)I" } : MethodName) prog_3_method_21_code (4 : Nat) (Option.some ClassFile.FieldType.int)) ∈ WD := wdT4 118 rfl rfl
theorem wd951 : (Cond.code ({ cls := "RestMill", name := "printModuli", desc := "()I" } : MethodName) prog_1_method_45_code (2 : Nat) (Option.some ClassFile.FieldType.int)) ∈ WD := wdT4 122 rfl rfl
theorem wd952 : (Cond.methodLink "RestMill" (306 : Nat) ({ cls := "java/lang/StringBuilder", name := "setLength", desc := "(I)V" } : MethodName)) ∈ WD := wdT4 123 rfl rfl
theorem wd953 : (Cond.instanceMethod ({ cls := "java/lang/StringBuilder", name := "setLength", desc := "(I)V" } : MethodName)) ∈ WD := wdT4 124 rfl rfl
theorem wd954 : (Cond.selects "java/lang/StringBuilder" ({ cls := "java/lang/StringBuilder", name := "setLength", desc := "(I)V" } : MethodName) ({ cls := "java/lang/StringBuilder", name := "setLength", desc := "(I)V" } : MethodName)) ∈ WD := wdT4 125 rfl rfl
theorem wd968 : (Cond.instanceMethod ({ cls := "java/lang/StringBuilder", name := "append", desc := "(Ljava/lang/String;)Ljava/lang/StringBuilder;" } : MethodName)) ∈ WD := wdT4 139 rfl rfl
theorem wd969 : (Cond.selects "java/lang/StringBuilder" ({ cls := "java/lang/StringBuilder", name := "append", desc := "(Ljava/lang/String;)Ljava/lang/StringBuilder;" } : MethodName) ({ cls := "java/lang/StringBuilder", name := "append", desc := "(Ljava/lang/String;)Ljava/lang/StringBuilder;" } : MethodName)) ∈ WD := wdT4 140 rfl rfl
theorem wd1056 : (Cond.instanceMethod ({ cls := "java/lang/StringBuilder", name := "append", desc := "(I)Ljava/lang/StringBuilder;" } : MethodName)) ∈ WD := wdT4 227 rfl rfl
theorem wd1057 : (Cond.selects "java/lang/StringBuilder" ({ cls := "java/lang/StringBuilder", name := "append", desc := "(I)Ljava/lang/StringBuilder;" } : MethodName) ({ cls := "java/lang/StringBuilder", name := "append", desc := "(I)Ljava/lang/StringBuilder;" } : MethodName)) ∈ WD := wdT4 228 rfl rfl
theorem wd1102 : (Cond.instanceMethod ({ cls := "java/lang/StringBuilder", name := "length", desc := "()I" } : MethodName)) ∈ WD := wdT5 33 rfl rfl
theorem wd1117 : (Cond.instantiable "java/lang/IllegalArgumentException" (6 : Nat)) ∈ WD := wdT5 48 rfl rfl
theorem wd1125 : (Cond.selects "java/lang/IllegalArgumentException" ({ cls := "java/lang/Throwable", name := "fillInStackTrace", desc := "(I)Ljava/lang/Throwable;" } : MethodName) ({ cls := "java/lang/Throwable", name := "fillInStackTrace", desc := "(I)Ljava/lang/Throwable;" } : MethodName)) ∈ WD := wdT5 56 rfl rfl
theorem wd1126 : (Cond.selects "java/lang/IllegalArgumentException" ({ cls := "java/lang/Throwable", name := "fillInStackTrace", desc := "()Ljava/lang/Throwable;" } : MethodName) ({ cls := "java/lang/Throwable", name := "fillInStackTrace", desc := "()Ljava/lang/Throwable;" } : MethodName)) ∈ WD := wdT5 57 rfl rfl
theorem wd1127 : (Cond.lays "java/lang/IllegalArgumentException" "java/lang/Throwable" "cause" "Ljava/lang/Throwable;") ∈ WD := wdT5 58 rfl rfl
theorem wd1128 : (Cond.lays "java/lang/Throwable" "java/lang/Throwable" "cause" "Ljava/lang/Throwable;") ∈ WD := wdT5 59 rfl rfl
theorem wd1129 : (Cond.lays "java/lang/IllegalArgumentException" "java/lang/Throwable" "stackTrace" "[Ljava/lang/StackTraceElement;") ∈ WD := wdT5 60 rfl rfl
theorem wd1130 : (Cond.lays "java/lang/Throwable" "java/lang/Throwable" "stackTrace" "[Ljava/lang/StackTraceElement;") ∈ WD := wdT5 61 rfl rfl
theorem wd1131 : (Cond.lays "java/lang/IllegalArgumentException" "java/lang/Throwable" "suppressedExceptions" "Ljava/util/List;") ∈ WD := wdT5 62 rfl rfl
theorem wd1132 : (Cond.lays "java/lang/Throwable" "java/lang/Throwable" "suppressedExceptions" "Ljava/util/List;") ∈ WD := wdT5 63 rfl rfl
theorem wd1133 : (Cond.lays "java/lang/IllegalArgumentException" "java/lang/Throwable" "detailMessage" "Ljava/lang/String;") ∈ WD := wdT5 64 rfl rfl
theorem wd1134 : (Cond.lays "java/lang/Throwable" "java/lang/Throwable" "detailMessage" "Ljava/lang/String;") ∈ WD := wdT5 65 rfl rfl
theorem wd1135 : (Cond.lays "java/lang/IllegalArgumentException" "java/lang/Throwable" "backtrace" "Ljava/lang/Object;") ∈ WD := wdT5 66 rfl rfl
theorem wd1136 : (Cond.lays "java/lang/Throwable" "java/lang/Throwable" "backtrace" "Ljava/lang/Object;") ∈ WD := wdT5 67 rfl rfl
theorem wd1137 : (Cond.fieldLink "java/lang/Throwable" (198 : Nat) "java/lang/Throwable" "backtrace" "Ljava/lang/Object;") ∈ WD := wdT5 68 rfl rfl
theorem wd1138 : (Cond.superclass "java/lang/Throwable" "java/lang/Object") ∈ WD := wdT5 69 rfl rfl
theorem wd1139 : (Cond.instanceMethod ({ cls := "java/lang/Throwable", name := "<init>", desc := "()V" } : MethodName)) ∈ WD := wdT5 70 rfl rfl
theorem wd1140 : (Cond.code ({ cls := "java/lang/Throwable", name := "<init>", desc := "()V" } : MethodName) prog_34_method_1_code (1 : Nat) (Option.none : Option ClassFile.FieldType)) ∈ WD := wdT5 71 rfl rfl
theorem wd1141 : (Cond.methodLink "java/lang/Throwable" (1 : Nat) ({ cls := "java/lang/Object", name := "<init>", desc := "()V" } : MethodName)) ∈ WD := wdT5 72 rfl rfl
theorem wd1142 : (Cond.fieldLink "java/lang/Throwable" (13 : Nat) "java/lang/Throwable" "UNASSIGNED_STACK" "[Ljava/lang/StackTraceElement;") ∈ WD := wdT5 73 rfl rfl
theorem wd1144 : (Cond.fieldLink "java/lang/Throwable" (20 : Nat) "java/lang/Throwable" "SUPPRESSED_SENTINEL" "Ljava/util/List;") ∈ WD := wdT5 75 rfl rfl
theorem wd1146 : (Cond.methodLink "java/lang/Throwable" (27 : Nat) ({ cls := "java/lang/Throwable", name := "fillInStackTrace", desc := "()Ljava/lang/Throwable;" } : MethodName)) ∈ WD := wdT5 77 rfl rfl
theorem wd1147 : (Cond.instanceMethod ({ cls := "java/lang/Throwable", name := "fillInStackTrace", desc := "()Ljava/lang/Throwable;" } : MethodName)) ∈ WD := wdT5 78 rfl rfl
theorem wd1150 : (Cond.selects "java/lang/IllegalStateException" ({ cls := "java/lang/Throwable", name := "fillInStackTrace", desc := "()Ljava/lang/Throwable;" } : MethodName) ({ cls := "java/lang/Throwable", name := "fillInStackTrace", desc := "()Ljava/lang/Throwable;" } : MethodName)) ∈ WD := wdT5 81 rfl rfl
theorem wd1151 : (Cond.selects "java/lang/IndexOutOfBoundsException" ({ cls := "java/lang/Throwable", name := "fillInStackTrace", desc := "()Ljava/lang/Throwable;" } : MethodName) ({ cls := "java/lang/Throwable", name := "fillInStackTrace", desc := "()Ljava/lang/Throwable;" } : MethodName)) ∈ WD := wdT5 82 rfl rfl
theorem wd1153 : (Cond.selects "java/util/NoSuchElementException" ({ cls := "java/lang/Throwable", name := "fillInStackTrace", desc := "()Ljava/lang/Throwable;" } : MethodName) ({ cls := "java/lang/Throwable", name := "fillInStackTrace", desc := "()Ljava/lang/Throwable;" } : MethodName)) ∈ WD := wdT5 84 rfl rfl
theorem wd1154 : (Cond.codeSync ({ cls := "java/lang/Throwable", name := "fillInStackTrace", desc := "()Ljava/lang/Throwable;" } : MethodName) prog_34_method_18_code (1 : Nat) (Option.some (ClassFile.FieldType.object "java/lang/Throwable"))) ∈ WD := wdT5 85 rfl rfl
theorem wd1155 : (Cond.methodLink "java/lang/Throwable" (202 : Nat) ({ cls := "java/lang/Throwable", name := "fillInStackTrace", desc := "(I)Ljava/lang/Throwable;" } : MethodName)) ∈ WD := wdT5 86 rfl rfl
theorem wd1157 : (Cond.instanceMethod ({ cls := "java/lang/Throwable", name := "fillInStackTrace", desc := "(I)Ljava/lang/Throwable;" } : MethodName)) ∈ WD := wdT5 88 rfl rfl
theorem wd1159 : (Cond.native ({ cls := "java/lang/Throwable", name := "fillInStackTrace", desc := "(I)Ljava/lang/Throwable;" } : MethodName)) ∈ WD := wdT5 90 rfl rfl
theorem wd1180 : (Cond.fieldLink "java/lang/Throwable" (7 : Nat) "java/lang/Throwable" "cause" "Ljava/lang/Throwable;") ∈ WD := wdT5 111 rfl rfl
theorem wd1181 : (Cond.fieldLink "java/lang/Throwable" (17 : Nat) "java/lang/Throwable" "stackTrace" "[Ljava/lang/StackTraceElement;") ∈ WD := wdT5 112 rfl rfl
theorem wd1182 : (Cond.fieldLink "java/lang/Throwable" (24 : Nat) "java/lang/Throwable" "suppressedExceptions" "Ljava/util/List;") ∈ WD := wdT5 113 rfl rfl
theorem wd1262 : (Cond.methodLink "RestMill" (309 : Nat) ({ cls := "java/lang/StringBuilder", name := "append", desc := "(C)Ljava/lang/StringBuilder;" } : MethodName)) ∈ WD := wdT5 193 rfl rfl
theorem wd1263 : (Cond.instanceMethod ({ cls := "java/lang/StringBuilder", name := "append", desc := "(C)Ljava/lang/StringBuilder;" } : MethodName)) ∈ WD := wdT5 194 rfl rfl
theorem wd1264 : (Cond.selects "java/lang/StringBuilder" ({ cls := "java/lang/StringBuilder", name := "append", desc := "(C)Ljava/lang/StringBuilder;" } : MethodName) ({ cls := "java/lang/StringBuilder", name := "append", desc := "(C)Ljava/lang/StringBuilder;" } : MethodName)) ∈ WD := wdT5 195 rfl rfl
theorem wd1275 : (Cond.methodLink "RestMill" (167 : Nat) ({ cls := "RestMill$Moduli", name := "at", desc := "(I)I" } : MethodName)) ∈ WD := wdT5 206 rfl rfl
theorem wd1276 : (Cond.methodLink "RestMill" (318 : Nat) ({ cls := "java/lang/StringBuilder", name := "append", desc := "(I)Ljava/lang/StringBuilder;" } : MethodName)) ∈ WD := wdT5 207 rfl rfl
theorem wd1277 : (Cond.methodLink "RestMill" (326 : Nat) ({ cls := "RestMill$Moduli", name := "bases", desc := "()I" } : MethodName)) ∈ WD := wdT5 208 rfl rfl
theorem wd1278 : (Cond.methodLink "RestMill" (323 : Nat) ({ cls := "java/lang/StringBuilder", name := "length", desc := "()I" } : MethodName)) ∈ WD := wdT5 209 rfl rfl
theorem wd1282 : (Cond.code ({ cls := "RestMill", name := "outputByte", desc := "(I)I" } : MethodName) prog_1_method_46_code (2 : Nat) (Option.some ClassFile.FieldType.int)) ∈ WD := wdT5 213 rfl rfl
theorem wd1283 : (Cond.methodLink "RestMill" (329 : Nat) ({ cls := "java/lang/StringBuilder", name := "charAt", desc := "(I)C" } : MethodName)) ∈ WD := wdT5 214 rfl rfl
theorem wd1284 : (Cond.instanceMethod ({ cls := "java/lang/StringBuilder", name := "charAt", desc := "(I)C" } : MethodName)) ∈ WD := wdT5 215 rfl rfl
theorem wd1285 : (Cond.selects "java/lang/StringBuilder" ({ cls := "java/lang/StringBuilder", name := "charAt", desc := "(I)C" } : MethodName) ({ cls := "java/lang/StringBuilder", name := "charAt", desc := "(I)C" } : MethodName)) ∈ WD := wdT5 216 rfl rfl
theorem wd1296 : (Cond.code ({ cls := "RestMill", name := "saveState", desc := "()I" } : MethodName) prog_1_method_47_code (1 : Nat) (Option.some ClassFile.FieldType.int)) ∈ WD := wdT5 227 rfl rfl
theorem wd1304 : (Cond.code ({ cls := "RestMill", name := "count", desc := "(I)I" } : MethodName) prog_1_method_8_code (2 : Nat) (Option.some ClassFile.FieldType.int)) ∈ WD := wdT5 235 rfl rfl
theorem wd1305 : (Cond.methodLink "RestMill" (138 : Nat) ({ cls := "RestMill$Mill", name := "soundRegisters", desc := "()I" } : MethodName)) ∈ WD := wdT5 236 rfl rfl
theorem wd1306 : (Cond.instanceMethod ({ cls := "RestMill$Mill", name := "soundRegisters", desc := "()I" } : MethodName)) ∈ WD := wdT5 237 rfl rfl
theorem wd1307 : (Cond.selects "RestMill$Mill" ({ cls := "RestMill$Mill", name := "soundRegisters", desc := "()I" } : MethodName) ({ cls := "RestMill$Mill", name := "soundRegisters", desc := "()I" } : MethodName)) ∈ WD := wdT5 238 rfl rfl
theorem wd1308 : (Cond.code ({ cls := "RestMill$Mill", name := "soundRegisters", desc := "()I" } : MethodName) prog_3_method_18_code (3 : Nat) (Option.some ClassFile.FieldType.int)) ∈ WD := wdT5 239 rfl rfl
theorem wd1309 : (Cond.methodLink "RestMill" (142 : Nat) ({ cls := "RestMill$Mill", name := "registersWithSign", desc := "(I)I" } : MethodName)) ∈ WD := wdT6 0 rfl rfl
theorem wd1310 : (Cond.instanceMethod ({ cls := "RestMill$Mill", name := "registersWithSign", desc := "(I)I" } : MethodName)) ∈ WD := wdT6 1 rfl rfl
theorem wd1311 : (Cond.selects "RestMill$Mill" ({ cls := "RestMill$Mill", name := "registersWithSign", desc := "(I)I" } : MethodName) ({ cls := "RestMill$Mill", name := "registersWithSign", desc := "(I)I" } : MethodName)) ∈ WD := wdT6 2 rfl rfl
theorem wd1312 : (Cond.code ({ cls := "RestMill$Mill", name := "registersWithSign", desc := "(I)I" } : MethodName) prog_3_method_19_code (4 : Nat) (Option.some ClassFile.FieldType.int)) ∈ WD := wdT6 3 rfl rfl
theorem wd1313 : (Cond.methodLink "RestMill$Mill" (84 : Nat) ({ cls := "java/lang/Long", name := "compare", desc := "(JJ)I" } : MethodName)) ∈ WD := wdT6 4 rfl rfl
theorem wd1314 : (Cond.static ({ cls := "java/lang/Long", name := "compare", desc := "(JJ)I" } : MethodName)) ∈ WD := wdT6 5 rfl rfl
theorem wd1315 : (Cond.code ({ cls := "java/lang/Long", name := "compare", desc := "(JJ)I" } : MethodName) prog_24_method_42_code (4 : Nat) (Option.some ClassFile.FieldType.int)) ∈ WD := wdT6 6 rfl rfl
theorem wd1316 : (Cond.classLink "RestMill" (147 : Nat) "java/lang/IllegalArgumentException") ∈ WD := wdT6 7 rfl rfl
theorem wd1317 : (Cond.methodLink "RestMill" (149 : Nat) ({ cls := "java/lang/IllegalArgumentException", name := "<init>", desc := "()V" } : MethodName)) ∈ WD := wdT6 8 rfl rfl
theorem wd1318 : (Cond.instanceMethod ({ cls := "java/lang/IllegalArgumentException", name := "<init>", desc := "()V" } : MethodName)) ∈ WD := wdT6 9 rfl rfl
theorem wd1319 : (Cond.code ({ cls := "java/lang/IllegalArgumentException", name := "<init>", desc := "()V" } : MethodName) prog_20_method_1_code (1 : Nat) (Option.none : Option ClassFile.FieldType)) ∈ WD := wdT6 10 rfl rfl
theorem wd1320 : (Cond.methodLink "java/lang/IllegalArgumentException" (1 : Nat) ({ cls := "java/lang/RuntimeException", name := "<init>", desc := "()V" } : MethodName)) ∈ WD := wdT6 11 rfl rfl
theorem wd1321 : (Cond.instanceMethod ({ cls := "java/lang/RuntimeException", name := "<init>", desc := "()V" } : MethodName)) ∈ WD := wdT6 12 rfl rfl
theorem wd1322 : (Cond.code ({ cls := "java/lang/RuntimeException", name := "<init>", desc := "()V" } : MethodName) prog_27_method_1_code (1 : Nat) (Option.none : Option ClassFile.FieldType)) ∈ WD := wdT6 13 rfl rfl
theorem wd1323 : (Cond.methodLink "java/lang/RuntimeException" (1 : Nat) ({ cls := "java/lang/Exception", name := "<init>", desc := "()V" } : MethodName)) ∈ WD := wdT6 14 rfl rfl
theorem wd1324 : (Cond.instanceMethod ({ cls := "java/lang/Exception", name := "<init>", desc := "()V" } : MethodName)) ∈ WD := wdT6 15 rfl rfl
theorem wd1325 : (Cond.code ({ cls := "java/lang/Exception", name := "<init>", desc := "()V" } : MethodName) prog_19_method_1_code (1 : Nat) (Option.none : Option ClassFile.FieldType)) ∈ WD := wdT6 16 rfl rfl
theorem wd1326 : (Cond.methodLink "java/lang/Exception" (1 : Nat) ({ cls := "java/lang/Throwable", name := "<init>", desc := "()V" } : MethodName)) ∈ WD := wdT6 17 rfl rfl
theorem wd1333 : (Cond.code ({ cls := "RestMill", name := "account", desc := "(I)I" } : MethodName) prog_1_method_9_code (2 : Nat) (Option.some ClassFile.FieldType.int)) ∈ WD := wdT6 24 rfl rfl
theorem wd1334 : (Cond.methodLink "RestMill" (150 : Nat) ({ cls := "RestMill$Mill", name := "accountAt", desc := "(I)I" } : MethodName)) ∈ WD := wdT6 25 rfl rfl
theorem wd1335 : (Cond.instanceMethod ({ cls := "RestMill$Mill", name := "accountAt", desc := "(I)I" } : MethodName)) ∈ WD := wdT6 26 rfl rfl
theorem wd1336 : (Cond.selects "RestMill$Mill" ({ cls := "RestMill$Mill", name := "accountAt", desc := "(I)I" } : MethodName) ({ cls := "RestMill$Mill", name := "accountAt", desc := "(I)I" } : MethodName)) ∈ WD := wdT6 27 rfl rfl
theorem wd1337 : (Cond.code ({ cls := "RestMill$Mill", name := "accountAt", desc := "(I)I" } : MethodName) prog_3_method_4_code (2 : Nat) (Option.some ClassFile.FieldType.int)) ∈ WD := wdT6 28 rfl rfl
theorem wd1344 : (Cond.code ({ cls := "RestMill", name := "bound", desc := "(I)J" } : MethodName) prog_1_method_10_code (2 : Nat) (Option.some ClassFile.FieldType.long)) ∈ WD := wdT6 35 rfl rfl
theorem wd1345 : (Cond.methodLink "RestMill" (160 : Nat) ({ cls := "RestMill$Moduli", name := "half", desc := "()J" } : MethodName)) ∈ WD := wdT6 36 rfl rfl
theorem wd1353 : (Cond.code ({ cls := "RestMill", name := "modulus", desc := "(I)I" } : MethodName) prog_1_method_11_code (2 : Nat) (Option.some ClassFile.FieldType.int)) ∈ WD := wdT6 44 rfl rfl
theorem wd1354 : (Cond.methodLink "RestMill" (164 : Nat) ({ cls := "RestMill", name := "needModulus", desc := "(I)V" } : MethodName)) ∈ WD := wdT6 45 rfl rfl
theorem wd1356 : (Cond.instanceMethod ({ cls := "RestMill", name := "needModulus", desc := "(I)V" } : MethodName)) ∈ WD := wdT6 47 rfl rfl
theorem wd1357 : (Cond.code ({ cls := "RestMill", name := "needModulus", desc := "(I)V" } : MethodName) prog_1_method_52_code (2 : Nat) (Option.none : Option ClassFile.FieldType)) ∈ WD := wdT6 48 rfl rfl
theorem wd1358 : (Cond.classLink "RestMill" (339 : Nat) "java/lang/IndexOutOfBoundsException") ∈ WD := wdT6 49 rfl rfl
theorem wd1359 : (Cond.instantiable "java/lang/IndexOutOfBoundsException" (6 : Nat)) ∈ WD := wdT6 50 rfl rfl
theorem wd1361 : (Cond.selects "java/lang/IndexOutOfBoundsException" ({ cls := "java/lang/Throwable", name := "fillInStackTrace", desc := "(I)Ljava/lang/Throwable;" } : MethodName) ({ cls := "java/lang/Throwable", name := "fillInStackTrace", desc := "(I)Ljava/lang/Throwable;" } : MethodName)) ∈ WD := wdT6 52 rfl rfl
theorem wd1362 : (Cond.lays "java/lang/IndexOutOfBoundsException" "java/lang/Throwable" "cause" "Ljava/lang/Throwable;") ∈ WD := wdT6 53 rfl rfl
theorem wd1363 : (Cond.lays "java/lang/IndexOutOfBoundsException" "java/lang/Throwable" "stackTrace" "[Ljava/lang/StackTraceElement;") ∈ WD := wdT6 54 rfl rfl
theorem wd1364 : (Cond.lays "java/lang/IndexOutOfBoundsException" "java/lang/Throwable" "suppressedExceptions" "Ljava/util/List;") ∈ WD := wdT6 55 rfl rfl
theorem wd1365 : (Cond.lays "java/lang/IndexOutOfBoundsException" "java/lang/Throwable" "detailMessage" "Ljava/lang/String;") ∈ WD := wdT6 56 rfl rfl
theorem wd1366 : (Cond.lays "java/lang/IndexOutOfBoundsException" "java/lang/Throwable" "backtrace" "Ljava/lang/Object;") ∈ WD := wdT6 57 rfl rfl
theorem wd1367 : (Cond.methodLink "RestMill" (341 : Nat) ({ cls := "java/lang/IndexOutOfBoundsException", name := "<init>", desc := "()V" } : MethodName)) ∈ WD := wdT6 58 rfl rfl
theorem wd1368 : (Cond.instanceMethod ({ cls := "java/lang/IndexOutOfBoundsException", name := "<init>", desc := "()V" } : MethodName)) ∈ WD := wdT6 59 rfl rfl
theorem wd1369 : (Cond.code ({ cls := "java/lang/IndexOutOfBoundsException", name := "<init>", desc := "()V" } : MethodName) prog_22_method_1_code (1 : Nat) (Option.none : Option ClassFile.FieldType)) ∈ WD := wdT6 60 rfl rfl
theorem wd1370 : (Cond.methodLink "java/lang/IndexOutOfBoundsException" (1 : Nat) ({ cls := "java/lang/RuntimeException", name := "<init>", desc := "()V" } : MethodName)) ∈ WD := wdT6 61 rfl rfl
theorem wd1379 : (Cond.code ({ cls := "RestMill", name := "inverse", desc := "(II)I" } : MethodName) prog_1_method_12_code (3 : Nat) (Option.some ClassFile.FieldType.int)) ∈ WD := wdT6 70 rfl rfl
theorem wd1380 : (Cond.methodLink "RestMill" (170 : Nat) ({ cls := "RestMill", name := "inverseOf", desc := "(JI)I" } : MethodName)) ∈ WD := wdT6 71 rfl rfl
theorem wd1387 : (Cond.code ({ cls := "RestMill", name := "weight", desc := "(I)J" } : MethodName) prog_1_method_13_code (2 : Nat) (Option.some ClassFile.FieldType.long)) ∈ WD := wdT6 78 rfl rfl
theorem wd1388 : (Cond.methodLink "RestMill" (174 : Nat) ({ cls := "RestMill$Moduli", name := "weightAt", desc := "(I)J" } : MethodName)) ∈ WD := wdT6 79 rfl rfl
theorem wd1395 : (Cond.code ({ cls := "RestMill", name := "rest", desc := "(II)I" } : MethodName) prog_1_method_14_code (3 : Nat) (Option.some ClassFile.FieldType.int)) ∈ WD := wdT6 86 rfl rfl
theorem wd1396 : (Cond.methodLink "RestMill" (178 : Nat) ({ cls := "RestMill", name := "needRegister", desc := "(I)V" } : MethodName)) ∈ WD := wdT6 87 rfl rfl
theorem wd1398 : (Cond.instanceMethod ({ cls := "RestMill", name := "needRegister", desc := "(I)V" } : MethodName)) ∈ WD := wdT6 89 rfl rfl
theorem wd1399 : (Cond.code ({ cls := "RestMill", name := "needRegister", desc := "(I)V" } : MethodName) prog_1_method_51_code (2 : Nat) (Option.none : Option ClassFile.FieldType)) ∈ WD := wdT6 90 rfl rfl
theorem wd1400 : (Cond.methodLink "RestMill" (181 : Nat) ({ cls := "RestMill$Mill", name := "restAt", desc := "(II)I" } : MethodName)) ∈ WD := wdT6 91 rfl rfl
theorem wd1407 : (Cond.code ({ cls := "RestMill", name := "digit", desc := "(II)I" } : MethodName) prog_1_method_15_code (3 : Nat) (Option.some ClassFile.FieldType.int)) ∈ WD := wdT6 98 rfl rfl
theorem wd1408 : (Cond.methodLink "RestMill" (185 : Nat) ({ cls := "RestMill$Mill", name := "digitAt", desc := "(II)I" } : MethodName)) ∈ WD := wdT6 99 rfl rfl
theorem wd1415 : (Cond.code ({ cls := "RestMill", name := "part", desc := "(II)J" } : MethodName) prog_1_method_16_code (3 : Nat) (Option.some ClassFile.FieldType.long)) ∈ WD := wdT6 106 rfl rfl
theorem wd1416 : (Cond.methodLink "RestMill" (188 : Nat) ({ cls := "RestMill$Mill", name := "partAt", desc := "(II)J" } : MethodName)) ∈ WD := wdT6 107 rfl rfl
theorem wd1423 : (Cond.code ({ cls := "RestMill", name := "rank", desc := "(I)I" } : MethodName) prog_1_method_17_code (2 : Nat) (Option.some ClassFile.FieldType.int)) ∈ WD := wdT6 114 rfl rfl
theorem wd1430 : (Cond.code ({ cls := "RestMill", name := "value", desc := "(I)J" } : MethodName) prog_1_method_18_code (2 : Nat) (Option.some ClassFile.FieldType.long)) ∈ WD := wdT6 121 rfl rfl
theorem wd1431 : (Cond.methodLink "RestMill" (199 : Nat) ({ cls := "RestMill$Mill", name := "valueAt", desc := "(I)J" } : MethodName)) ∈ WD := wdT6 122 rfl rfl
theorem wd1438 : (Cond.code ({ cls := "RestMill", name := "number", desc := "(I)J" } : MethodName) prog_1_method_19_code (2 : Nat) (Option.some ClassFile.FieldType.long)) ∈ WD := wdT6 129 rfl rfl
theorem wd1445 : (Cond.code ({ cls := "RestMill", name := "isSound", desc := "(I)Z" } : MethodName) prog_1_method_20_code (2 : Nat) (Option.some ClassFile.FieldType.boolean)) ∈ WD := wdT6 136 rfl rfl
theorem wd1446 : (Cond.methodLink "RestMill" (205 : Nat) ({ cls := "RestMill$Mill", name := "soundAt", desc := "(I)Z" } : MethodName)) ∈ WD := wdT6 137 rfl rfl
theorem wd1453 : (Cond.code ({ cls := "RestMill", name := "compare", desc := "(II)I" } : MethodName) prog_1_method_21_code (3 : Nat) (Option.some ClassFile.FieldType.int)) ∈ WD := wdT6 144 rfl rfl
theorem wd1454 : (Cond.methodLink "RestMill" (209 : Nat) ({ cls := "RestMill$Mill", name := "orderOf", desc := "(II)I" } : MethodName)) ∈ WD := wdT6 145 rfl rfl
theorem wd1455 : (Cond.instanceMethod ({ cls := "RestMill$Mill", name := "orderOf", desc := "(II)I" } : MethodName)) ∈ WD := wdT6 146 rfl rfl
theorem wd1456 : (Cond.selects "RestMill$Mill" ({ cls := "RestMill$Mill", name := "orderOf", desc := "(II)I" } : MethodName) ({ cls := "RestMill$Mill", name := "orderOf", desc := "(II)I" } : MethodName)) ∈ WD := wdT6 147 rfl rfl
theorem wd1457 : (Cond.code ({ cls := "RestMill$Mill", name := "orderOf", desc := "(II)I" } : MethodName) prog_3_method_13_code (3 : Nat) (Option.some ClassFile.FieldType.int)) ∈ WD := wdT6 148 rfl rfl
theorem wd1464 : (Cond.code ({ cls := "RestMill", name := "extend", desc := "(IIZ)I" } : MethodName) prog_1_method_22_code (4 : Nat) (Option.some ClassFile.FieldType.int)) ∈ WD := wdT6 155 rfl rfl
theorem wd1471 : (Cond.code ({ cls := "RestMill", name := "distance", desc := "(II)I" } : MethodName) prog_1_method_24_code (3 : Nat) (Option.some ClassFile.FieldType.int)) ∈ WD := wdT6 162 rfl rfl
theorem wd1472 : (Cond.methodLink "RestMill" (224 : Nat) ({ cls := "RestMill$Mill", name := "differentRests", desc := "(II)I" } : MethodName)) ∈ WD := wdT6 163 rfl rfl
theorem wd1473 : (Cond.instanceMethod ({ cls := "RestMill$Mill", name := "differentRests", desc := "(II)I" } : MethodName)) ∈ WD := wdT6 164 rfl rfl
theorem wd1474 : (Cond.selects "RestMill$Mill" ({ cls := "RestMill$Mill", name := "differentRests", desc := "(II)I" } : MethodName) ({ cls := "RestMill$Mill", name := "differentRests", desc := "(II)I" } : MethodName)) ∈ WD := wdT6 165 rfl rfl
theorem wd1475 : (Cond.code ({ cls := "RestMill$Mill", name := "differentRests", desc := "(II)I" } : MethodName) prog_3_method_20_code (5 : Nat) (Option.some ClassFile.FieldType.int)) ∈ WD := wdT6 166 rfl rfl
theorem wd1483 : (Cond.code ({ cls := "RestMill", name := "exact", desc := "(III)J" } : MethodName) prog_1_method_25_code (4 : Nat) (Option.some ClassFile.FieldType.long)) ∈ WD := wdT6 174 rfl rfl
theorem wd1484 : (Cond.methodLink "RestMill" (227 : Nat) ({ cls := "RestMill", name := "needOperation", desc := "(I)V" } : MethodName)) ∈ WD := wdT6 175 rfl rfl
theorem wd1486 : (Cond.instanceMethod ({ cls := "RestMill", name := "needOperation", desc := "(I)V" } : MethodName)) ∈ WD := wdT6 177 rfl rfl
theorem wd1487 : (Cond.code ({ cls := "RestMill", name := "needOperation", desc := "(I)V" } : MethodName) prog_1_method_54_code (2 : Nat) (Option.none : Option ClassFile.FieldType)) ∈ WD := wdT6 178 rfl rfl
theorem wd1488 : (Cond.methodLink "RestMill" (230 : Nat) ({ cls := "RestMill", name := "divides", desc := "(I)Z" } : MethodName)) ∈ WD := wdT6 179 rfl rfl
theorem wd1489 : (Cond.classLink "RestMill" (233 : Nat) "java/lang/IllegalStateException") ∈ WD := wdT6 180 rfl rfl
theorem wd1490 : (Cond.instantiable "java/lang/IllegalStateException" (6 : Nat)) ∈ WD := wdT6 181 rfl rfl
theorem wd1492 : (Cond.selects "java/lang/IllegalStateException" ({ cls := "java/lang/Throwable", name := "fillInStackTrace", desc := "(I)Ljava/lang/Throwable;" } : MethodName) ({ cls := "java/lang/Throwable", name := "fillInStackTrace", desc := "(I)Ljava/lang/Throwable;" } : MethodName)) ∈ WD := wdT6 183 rfl rfl
theorem wd1493 : (Cond.lays "java/lang/IllegalStateException" "java/lang/Throwable" "cause" "Ljava/lang/Throwable;") ∈ WD := wdT6 184 rfl rfl
theorem wd1494 : (Cond.lays "java/lang/IllegalStateException" "java/lang/Throwable" "stackTrace" "[Ljava/lang/StackTraceElement;") ∈ WD := wdT6 185 rfl rfl
theorem wd1495 : (Cond.lays "java/lang/IllegalStateException" "java/lang/Throwable" "suppressedExceptions" "Ljava/util/List;") ∈ WD := wdT6 186 rfl rfl
theorem wd1496 : (Cond.lays "java/lang/IllegalStateException" "java/lang/Throwable" "detailMessage" "Ljava/lang/String;") ∈ WD := wdT6 187 rfl rfl
theorem wd1497 : (Cond.lays "java/lang/IllegalStateException" "java/lang/Throwable" "backtrace" "Ljava/lang/Object;") ∈ WD := wdT6 188 rfl rfl
theorem wd1498 : (Cond.methodLink "RestMill" (235 : Nat) ({ cls := "java/lang/IllegalStateException", name := "<init>", desc := "()V" } : MethodName)) ∈ WD := wdT6 189 rfl rfl
theorem wd1499 : (Cond.instanceMethod ({ cls := "java/lang/IllegalStateException", name := "<init>", desc := "()V" } : MethodName)) ∈ WD := wdT6 190 rfl rfl
theorem wd1500 : (Cond.code ({ cls := "java/lang/IllegalStateException", name := "<init>", desc := "()V" } : MethodName) prog_21_method_1_code (1 : Nat) (Option.none : Option ClassFile.FieldType)) ∈ WD := wdT6 191 rfl rfl
theorem wd1501 : (Cond.methodLink "java/lang/IllegalStateException" (1 : Nat) ({ cls := "java/lang/RuntimeException", name := "<init>", desc := "()V" } : MethodName)) ∈ WD := wdT6 192 rfl rfl
theorem wd1504 : (Cond.methodLink "RestMill" (236 : Nat) ({ cls := "RestMill", name := "exactOf", desc := "(IJJ)J" } : MethodName)) ∈ WD := wdT6 195 rfl rfl
theorem wd1511 : (Cond.code ({ cls := "RestMill", name := "why", desc := "(III)I" } : MethodName) prog_1_method_26_code (11 : Nat) (Option.some ClassFile.FieldType.int)) ∈ WD := wdT6 202 rfl rfl
theorem wd1512 : (Cond.methodLink "RestMill" (240 : Nat) ({ cls := "RestMill$Mill", name := "reasonOf", desc := "(IJJ)I" } : MethodName)) ∈ WD := wdT6 203 rfl rfl
theorem wd1513 : (Cond.methodLink "RestMill" (244 : Nat) ({ cls := "RestMill", name := "numberIn", desc := "(JJ)J" } : MethodName)) ∈ WD := wdT6 204 rfl rfl
theorem wd1520 : (Cond.code ({ cls := "RestMill", name := "faults", desc := "(I)I" } : MethodName) prog_1_method_27_code (2 : Nat) (Option.some ClassFile.FieldType.int)) ∈ WD := wdT6 211 rfl rfl
theorem wd1521 : (Cond.methodLink "RestMill" (247 : Nat) ({ cls := "RestMill$Mill", name := "faultsAt", desc := "(I)I" } : MethodName)) ∈ WD := wdT6 212 rfl rfl
theorem wd1522 : (Cond.instanceMethod ({ cls := "RestMill$Mill", name := "faultsAt", desc := "(I)I" } : MethodName)) ∈ WD := wdT6 213 rfl rfl
theorem wd1523 : (Cond.selects "RestMill$Mill" ({ cls := "RestMill$Mill", name := "faultsAt", desc := "(I)I" } : MethodName) ({ cls := "RestMill$Mill", name := "faultsAt", desc := "(I)I" } : MethodName)) ∈ WD := wdT6 214 rfl rfl
theorem wd1524 : (Cond.code ({ cls := "RestMill$Mill", name := "faultsAt", desc := "(I)I" } : MethodName) prog_3_method_24_code (4 : Nat) (Option.some ClassFile.FieldType.int)) ∈ WD := wdT6 215 rfl rfl
theorem wd1531 : (Cond.code ({ cls := "RestMill", name := "numberWith", desc := "(III)J" } : MethodName) prog_1_method_28_code (4 : Nat) (Option.some ClassFile.FieldType.long)) ∈ WD := wdT6 222 rfl rfl
theorem wd1532 : (Cond.methodLink "RestMill" (250 : Nat) ({ cls := "RestMill", name := "needRest", desc := "(II)V" } : MethodName)) ∈ WD := wdT6 223 rfl rfl
theorem wd1534 : (Cond.instanceMethod ({ cls := "RestMill", name := "needRest", desc := "(II)V" } : MethodName)) ∈ WD := wdT6 225 rfl rfl
theorem wd1535 : (Cond.code ({ cls := "RestMill", name := "needRest", desc := "(II)V" } : MethodName) prog_1_method_53_code (3 : Nat) (Option.none : Option ClassFile.FieldType)) ∈ WD := wdT6 226 rfl rfl
theorem wd1536 : (Cond.methodLink "RestMill" (254 : Nat) ({ cls := "RestMill$Mill", name := "numberWithRest", desc := "(III)J" } : MethodName)) ∈ WD := wdT6 227 rfl rfl
theorem wd1543 : (Cond.code ({ cls := "RestMill", name := "set", desc := "(II)I" } : MethodName) prog_1_method_34_code (3 : Nat) (Option.some ClassFile.FieldType.int)) ∈ WD := wdT6 234 rfl rfl
theorem wd1544 : (Cond.constant "RestMill" (269 : Nat) (-1000000000 : Int32)) ∈ WD := wdT6 235 rfl rfl
theorem wd1545 : (Cond.constant "RestMill" (270 : Nat) (1000000000 : Int32)) ∈ WD := wdT6 236 rfl rfl
theorem wd1546 : (Cond.methodLink "RestMill" (271 : Nat) ({ cls := "RestMill$Mill", name := "actSet", desc := "(II)I" } : MethodName)) ∈ WD := wdT6 237 rfl rfl
theorem wd1547 : (Cond.instanceMethod ({ cls := "RestMill$Mill", name := "actSet", desc := "(II)I" } : MethodName)) ∈ WD := wdT6 238 rfl rfl
theorem wd1548 : (Cond.selects "RestMill$Mill" ({ cls := "RestMill$Mill", name := "actSet", desc := "(II)I" } : MethodName) ({ cls := "RestMill$Mill", name := "actSet", desc := "(II)I" } : MethodName)) ∈ WD := wdT6 239 rfl rfl
theorem wd1549 : (Cond.code ({ cls := "RestMill$Mill", name := "actSet", desc := "(II)I" } : MethodName) prog_3_method_29_code (3 : Nat) (Option.some ClassFile.FieldType.int)) ∈ WD := wdT7 0 rfl rfl
theorem wd1550 : (Cond.methodLink "RestMill" (274 : Nat) ({ cls := "RestMill$Changes", name := "keepIfDone", desc := "(I)I" } : MethodName)) ∈ WD := wdT7 1 rfl rfl
theorem wd1551 : (Cond.instanceMethod ({ cls := "RestMill$Changes", name := "keepIfDone", desc := "(I)I" } : MethodName)) ∈ WD := wdT7 2 rfl rfl
theorem wd1552 : (Cond.selects "RestMill$Changes" ({ cls := "RestMill$Changes", name := "keepIfDone", desc := "(I)I" } : MethodName) ({ cls := "RestMill$Changes", name := "keepIfDone", desc := "(I)I" } : MethodName)) ∈ WD := wdT7 3 rfl rfl
theorem wd1553 : (Cond.code ({ cls := "RestMill$Changes", name := "keepIfDone", desc := "(I)I" } : MethodName) prog_2_method_5_code (2 : Nat) (Option.some ClassFile.FieldType.int)) ∈ WD := wdT7 4 rfl rfl
theorem wd1554 : (Cond.methodLink "RestMill$Changes" (39 : Nat) ({ cls := "RestMill$Changes", name := "keep", desc := "()V" } : MethodName)) ∈ WD := wdT7 5 rfl rfl
theorem wd1561 : (Cond.code ({ cls := "RestMill", name := "hurt", desc := "(III)I" } : MethodName) prog_1_method_35_code (5 : Nat) (Option.some ClassFile.FieldType.int)) ∈ WD := wdT7 12 rfl rfl
theorem wd1562 : (Cond.methodLink "RestMill" (277 : Nat) ({ cls := "RestMill$Mill", name := "put", desc := "(IJ)V" } : MethodName)) ∈ WD := wdT7 13 rfl rfl
theorem wd1569 : (Cond.code ({ cls := "RestMill", name := "operate", desc := "(IIII)I" } : MethodName) prog_1_method_36_code (5 : Nat) (Option.some ClassFile.FieldType.int)) ∈ WD := wdT7 20 rfl rfl
theorem wd1570 : (Cond.methodLink "RestMill" (281 : Nat) ({ cls := "RestMill$Mill", name := "actOperate", desc := "(IIII)I" } : MethodName)) ∈ WD := wdT7 21 rfl rfl
theorem wd1571 : (Cond.instanceMethod ({ cls := "RestMill$Mill", name := "actOperate", desc := "(IIII)I" } : MethodName)) ∈ WD := wdT7 22 rfl rfl
theorem wd1572 : (Cond.selects "RestMill$Mill" ({ cls := "RestMill$Mill", name := "actOperate", desc := "(IIII)I" } : MethodName) ({ cls := "RestMill$Mill", name := "actOperate", desc := "(IIII)I" } : MethodName)) ∈ WD := wdT7 23 rfl rfl
theorem wd1573 : (Cond.code ({ cls := "RestMill$Mill", name := "actOperate", desc := "(IIII)I" } : MethodName) prog_3_method_30_code (10 : Nat) (Option.some ClassFile.FieldType.int)) ∈ WD := wdT7 24 rfl rfl
theorem wd1574 : (Cond.methodLink "RestMill$Mill" (145 : Nat) ({ cls := "RestMill$Mill", name := "reasonOf", desc := "(IJJ)I" } : MethodName)) ∈ WD := wdT7 25 rfl rfl
theorem wd1581 : (Cond.code ({ cls := "RestMill", name := "scale", desc := "(II)I" } : MethodName) prog_1_method_37_code (3 : Nat) (Option.some ClassFile.FieldType.int)) ∈ WD := wdT7 32 rfl rfl
theorem wd1582 : (Cond.methodLink "RestMill" (285 : Nat) ({ cls := "RestMill$Mill", name := "actScale", desc := "(II)I" } : MethodName)) ∈ WD := wdT7 33 rfl rfl
theorem wd1589 : (Cond.code ({ cls := "RestMill", name := "mend", desc := "(I)I" } : MethodName) prog_1_method_38_code (2 : Nat) (Option.some ClassFile.FieldType.int)) ∈ WD := wdT7 40 rfl rfl
theorem wd1590 : (Cond.methodLink "RestMill" (288 : Nat) ({ cls := "RestMill$Mill", name := "actMend", desc := "(I)I" } : MethodName)) ∈ WD := wdT7 41 rfl rfl
theorem wd1597 : (Cond.code ({ cls := "RestMill", name := "swap", desc := "(II)I" } : MethodName) prog_1_method_39_code (3 : Nat) (Option.some ClassFile.FieldType.int)) ∈ WD := wdT7 48 rfl rfl
theorem wd1598 : (Cond.methodLink "RestMill" (291 : Nat) ({ cls := "RestMill$Mill", name := "exchange", desc := "(II)V" } : MethodName)) ∈ WD := wdT7 49 rfl rfl
theorem wd1605 : (Cond.code ({ cls := "RestMill", name := "grow", desc := "(I)I" } : MethodName) prog_1_method_40_code (2 : Nat) (Option.some ClassFile.FieldType.int)) ∈ WD := wdT7 56 rfl rfl
theorem wd1606 : (Cond.methodLink "RestMill" (294 : Nat) ({ cls := "RestMill$Mill", name := "actGrow", desc := "(I)I" } : MethodName)) ∈ WD := wdT7 57 rfl rfl
theorem wd1607 : (Cond.instanceMethod ({ cls := "RestMill$Mill", name := "actGrow", desc := "(I)I" } : MethodName)) ∈ WD := wdT7 58 rfl rfl
theorem wd1608 : (Cond.selects "RestMill$Mill" ({ cls := "RestMill$Mill", name := "actGrow", desc := "(I)I" } : MethodName) ({ cls := "RestMill$Mill", name := "actGrow", desc := "(I)I" } : MethodName)) ∈ WD := wdT7 59 rfl rfl
theorem wd1609 : (Cond.code ({ cls := "RestMill$Mill", name := "actGrow", desc := "(I)I" } : MethodName) prog_3_method_33_code (2 : Nat) (Option.some ClassFile.FieldType.int)) ∈ WD := wdT7 60 rfl rfl
theorem wd1610 : (Cond.methodLink "RestMill$Mill" (153 : Nat) ({ cls := "RestMill$Moduli", name := "canTake", desc := "(I)Z" } : MethodName)) ∈ WD := wdT7 61 rfl rfl
theorem wd1611 : (Cond.methodLink "RestMill$Mill" (156 : Nat) ({ cls := "RestMill$Moduli", name := "insert", desc := "(I)V" } : MethodName)) ∈ WD := wdT7 62 rfl rfl
theorem wd1618 : (Cond.code ({ cls := "RestMill", name := "drop", desc := "(I)I" } : MethodName) prog_1_method_41_code (2 : Nat) (Option.some ClassFile.FieldType.int)) ∈ WD := wdT7 69 rfl rfl
theorem wd1619 : (Cond.methodLink "RestMill" (297 : Nat) ({ cls := "RestMill$Mill", name := "actDrop", desc := "(I)I" } : MethodName)) ∈ WD := wdT7 70 rfl rfl
theorem wd1620 : (Cond.instanceMethod ({ cls := "RestMill$Mill", name := "actDrop", desc := "(I)I" } : MethodName)) ∈ WD := wdT7 71 rfl rfl
theorem wd1621 : (Cond.selects "RestMill$Mill" ({ cls := "RestMill$Mill", name := "actDrop", desc := "(I)I" } : MethodName) ({ cls := "RestMill$Mill", name := "actDrop", desc := "(I)I" } : MethodName)) ∈ WD := wdT7 72 rfl rfl
theorem wd1622 : (Cond.code ({ cls := "RestMill$Mill", name := "actDrop", desc := "(I)I" } : MethodName) prog_3_method_34_code (2 : Nat) (Option.some ClassFile.FieldType.int)) ∈ WD := wdT7 73 rfl rfl
theorem wd1623 : (Cond.methodLink "RestMill$Mill" (159 : Nat) ({ cls := "RestMill$Mill", name := "canDrop", desc := "(I)Z" } : MethodName)) ∈ WD := wdT7 74 rfl rfl
theorem wd1624 : (Cond.methodLink "RestMill$Mill" (162 : Nat) ({ cls := "RestMill$Moduli", name := "remove", desc := "(I)V" } : MethodName)) ∈ WD := wdT7 75 rfl rfl
theorem wd1625 : (Cond.instanceMethod ({ cls := "RestMill$Moduli", name := "remove", desc := "(I)V" } : MethodName)) ∈ WD := wdT7 76 rfl rfl
theorem wd1626 : (Cond.selects "RestMill$Moduli" ({ cls := "RestMill$Moduli", name := "remove", desc := "(I)V" } : MethodName) ({ cls := "RestMill$Moduli", name := "remove", desc := "(I)V" } : MethodName)) ∈ WD := wdT7 77 rfl rfl
theorem wd1627 : (Cond.code ({ cls := "RestMill$Moduli", name := "remove", desc := "(I)V" } : MethodName) prog_4_method_13_code (3 : Nat) (Option.none : Option ClassFile.FieldType)) ∈ WD := wdT7 78 rfl rfl
theorem wd1634 : (Cond.code ({ cls := "RestMill", name := "setStrict", desc := "(I)I" } : MethodName) prog_1_method_42_code (3 : Nat) (Option.some ClassFile.FieldType.int)) ∈ WD := wdT7 85 rfl rfl
theorem wd1642 : (Cond.code ({ cls := "RestMill", name := "undo", desc := "()I" } : MethodName) prog_1_method_43_code (1 : Nat) (Option.some ClassFile.FieldType.int)) ∈ WD := wdT7 93 rfl rfl
theorem wd1643 : (Cond.classLink "RestMill" (300 : Nat) "java/util/NoSuchElementException") ∈ WD := wdT7 94 rfl rfl
theorem wd1644 : (Cond.instantiable "java/util/NoSuchElementException" (6 : Nat)) ∈ WD := wdT7 95 rfl rfl
theorem wd1646 : (Cond.selects "java/util/NoSuchElementException" ({ cls := "java/lang/Throwable", name := "fillInStackTrace", desc := "(I)Ljava/lang/Throwable;" } : MethodName) ({ cls := "java/lang/Throwable", name := "fillInStackTrace", desc := "(I)Ljava/lang/Throwable;" } : MethodName)) ∈ WD := wdT7 97 rfl rfl
theorem wd1647 : (Cond.lays "java/util/NoSuchElementException" "java/lang/Throwable" "cause" "Ljava/lang/Throwable;") ∈ WD := wdT7 98 rfl rfl
theorem wd1648 : (Cond.lays "java/util/NoSuchElementException" "java/lang/Throwable" "stackTrace" "[Ljava/lang/StackTraceElement;") ∈ WD := wdT7 99 rfl rfl
theorem wd1649 : (Cond.lays "java/util/NoSuchElementException" "java/lang/Throwable" "suppressedExceptions" "Ljava/util/List;") ∈ WD := wdT7 100 rfl rfl
theorem wd1650 : (Cond.lays "java/util/NoSuchElementException" "java/lang/Throwable" "detailMessage" "Ljava/lang/String;") ∈ WD := wdT7 101 rfl rfl
theorem wd1651 : (Cond.lays "java/util/NoSuchElementException" "java/lang/Throwable" "backtrace" "Ljava/lang/Object;") ∈ WD := wdT7 102 rfl rfl
theorem wd1652 : (Cond.methodLink "RestMill" (302 : Nat) ({ cls := "java/util/NoSuchElementException", name := "<init>", desc := "()V" } : MethodName)) ∈ WD := wdT7 103 rfl rfl
theorem wd1653 : (Cond.instanceMethod ({ cls := "java/util/NoSuchElementException", name := "<init>", desc := "()V" } : MethodName)) ∈ WD := wdT7 104 rfl rfl
theorem wd1654 : (Cond.code ({ cls := "java/util/NoSuchElementException", name := "<init>", desc := "()V" } : MethodName) prog_38_method_1_code (1 : Nat) (Option.none : Option ClassFile.FieldType)) ∈ WD := wdT7 105 rfl rfl
theorem wd1655 : (Cond.methodLink "java/util/NoSuchElementException" (1 : Nat) ({ cls := "java/lang/RuntimeException", name := "<init>", desc := "()V" } : MethodName)) ∈ WD := wdT7 106 rfl rfl
theorem wd1658 : (Cond.methodLink "RestMill" (303 : Nat) ({ cls := "RestMill$Changes", name := "takeBack", desc := "(LRestMill$Mill;)V" } : MethodName)) ∈ WD := wdT7 109 rfl rfl
theorem wd1659 : (Cond.instanceMethod ({ cls := "RestMill$Changes", name := "takeBack", desc := "(LRestMill$Mill;)V" } : MethodName)) ∈ WD := wdT7 110 rfl rfl
theorem wd1660 : (Cond.selects "RestMill$Changes" ({ cls := "RestMill$Changes", name := "takeBack", desc := "(LRestMill$Mill;)V" } : MethodName) ({ cls := "RestMill$Changes", name := "takeBack", desc := "(LRestMill$Mill;)V" } : MethodName)) ∈ WD := wdT7 111 rfl rfl
theorem wd1661 : (Cond.code ({ cls := "RestMill$Changes", name := "takeBack", desc := "(LRestMill$Mill;)V" } : MethodName) prog_2_method_6_code (3 : Nat) (Option.none : Option ClassFile.FieldType)) ∈ WD := wdT7 112 rfl rfl
theorem wd1668 : (Cond.code ({ cls := "RestMill", name := "printRegister", desc := "(I)I" } : MethodName) prog_1_method_44_code (3 : Nat) (Option.some ClassFile.FieldType.int)) ∈ WD := wdT7 119 rfl rfl
theorem wd1670 : (Cond.methodLink "RestMill" (315 : Nat) ({ cls := "java/lang/StringBuilder", name := "append", desc := "(Ljava/lang/String;)Ljava/lang/StringBuilder;" } : MethodName)) ∈ WD := wdT7 121 rfl rfl
theorem wd1678 : (Cond.code ({ cls := "RestMill", name := "restoreState", desc := "()I" } : MethodName) prog_1_method_48_code (1 : Nat) (Option.some ClassFile.FieldType.int)) ∈ WD := wdT7 129 rfl rfl
theorem wd1682 : (Cond.code ({ cls := "RestMillModel", name := "thrown", desc := "()I" } : MethodName) prog_10_method_1_code (1 : Nat) (Option.some ClassFile.FieldType.int)) ∈ WD := wdT7 133 rfl rfl
theorem wd1687 : (Cond.code ({ cls := "RestMillModel", name := "<init>", desc := "()V" } : MethodName) prog_10_method_4_code (1 : Nat) (Option.none : Option ClassFile.FieldType)) ∈ WD := wdT7 138 rfl rfl
theorem wd1689 : (Cond.fieldLink "RestMillModel" (1 : Nat) "RestMillModel" "told0" "I") ∈ WD := wdT7 140 rfl rfl
theorem wd1690 : (Cond.fieldLink "RestMillModel" (13 : Nat) "RestMillModel" "s" "[I") ∈ WD := wdT7 141 rfl rfl
theorem wd1691 : (Cond.fieldLink "RestMillModel" (17 : Nat) "RestMillModel" "draft" "[I") ∈ WD := wdT7 142 rfl rfl
theorem wd1692 : (Cond.fieldLink "RestMillModel" (20 : Nat) "RestMillModel" "kept" "[I") ∈ WD := wdT7 143 rfl rfl
theorem wd1693 : (Cond.fieldLink "RestMillModel" (23 : Nat) "RestMillModel" "past" "[I") ∈ WD := wdT7 144 rfl rfl
theorem wd1694 : (Cond.fieldLink "RestMillModel" (129 : Nat) "RestMillModel" "pastMany" "I") ∈ WD := wdT7 145 rfl rfl
theorem wd1695 : (Cond.fieldLink "RestMillModel" (270 : Nat) "RestMillModel" "isKept" "Z") ∈ WD := wdT7 146 rfl rfl
theorem wd1696 : (Cond.fieldLink "RestMillModel" (26 : Nat) "RestMillModel" "rests" "[I") ∈ WD := wdT7 147 rfl rfl
theorem wd1697 : (Cond.fieldLink "RestMillModel" (29 : Nat) "RestMillModel" "input" "[B") ∈ WD := wdT7 148 rfl rfl
theorem wd1698 : (Cond.fieldLink "RestMillModel" (160 : Nat) "RestMillModel" "inputLong" "I") ∈ WD := wdT7 149 rfl rfl
theorem wd1699 : (Cond.fieldLink "RestMillModel" (166 : Nat) "RestMillModel" "errorCode" "I") ∈ WD := wdT7 150 rfl rfl
theorem wd1700 : (Cond.fieldLink "RestMillModel" (33 : Nat) "RestMillModel" "errorOffset" "I") ∈ WD := wdT7 151 rfl rfl
theorem wd1701 : (Cond.fieldLink "RestMillModel" (175 : Nat) "RestMillModel" "from" "I") ∈ WD := wdT7 152 rfl rfl
theorem wd1702 : (Cond.fieldLink "RestMillModel" (169 : Nat) "RestMillModel" "to" "I") ∈ WD := wdT7 153 rfl rfl
theorem wd1703 : (Cond.fieldLink "RestMillModel" (178 : Nat) "RestMillModel" "token" "I") ∈ WD := wdT7 154 rfl rfl
theorem wd1704 : (Cond.fieldLink "RestMillModel" (189 : Nat) "RestMillModel" "value" "I") ∈ WD := wdT7 155 rfl rfl
theorem wd1705 : (Cond.fieldLink "RestMillModel" (236 : Nat) "RestMillModel" "toldNow" "I") ∈ WD := wdT7 156 rfl rfl
theorem wd1706 : (Cond.fieldLink "RestMillModel" (36 : Nat) "RestMillModel" "statement" "[I") ∈ WD := wdT7 157 rfl rfl
theorem wd1707 : (Cond.fieldLink "RestMillModel" (295 : Nat) "RestMillModel" "statements" "I") ∈ WD := wdT7 158 rfl rfl
theorem wd1708 : (Cond.fieldLink "RestMillModel" (39 : Nat) "RestMillModel" "op" "[I") ∈ WD := wdT7 159 rfl rfl
theorem wd1709 : (Cond.fieldLink "RestMillModel" (42 : Nat) "RestMillModel" "with" "[I") ∈ WD := wdT7 160 rfl rfl
theorem wd1710 : (Cond.fieldLink "RestMillModel" (274 : Nat) "RestMillModel" "ops" "I") ∈ WD := wdT7 161 rfl rfl
theorem wd1711 : (Cond.fieldLink "RestMillModel" (277 : Nat) "RestMillModel" "open" "I") ∈ WD := wdT7 162 rfl rfl
theorem wd1712 : (Cond.fieldLink "RestMillModel" (311 : Nat) "RestMillModel" "top" "I") ∈ WD := wdT7 163 rfl rfl
theorem wd1713 : (Cond.fieldLink "RestMillModel" (45 : Nat) "RestMillModel" "pushed" "[I") ∈ WD := wdT7 164 rfl rfl
theorem wd1714 : (Cond.fieldLink "RestMillModel" (408 : Nat) "RestMillModel" "isPushed" "Z") ∈ WD := wdT7 165 rfl rfl
theorem wd1715 : (Cond.fieldLink "RestMillModel" (48 : Nat) "RestMillModel" "numbers" "[J") ∈ WD := wdT7 166 rfl rfl
theorem wd1716 : (Cond.fieldLink "RestMillModel" (52 : Nat) "RestMillModel" "output" "[B") ∈ WD := wdT7 167 rfl rfl
theorem wd1717 : (Cond.fieldLink "RestMillModel" (437 : Nat) "RestMillModel" "outputLong" "I") ∈ WD := wdT7 168 rfl rfl
theorem wd1780 : (Cond.code ({ cls := "RestMillModel", name := "appendInput", desc := "(IIIII)I" } : MethodName) prog_10_method_38_code (6 : Nat) (Option.some ClassFile.FieldType.int)) ∈ WD := wdT7 231 rfl rfl
theorem wd1781 : (Cond.methodLink "RestMillModel" (163 : Nat) ({ cls := "RestMillModel", name := "puts4", desc := "(I)V" } : MethodName)) ∈ WD := wdT7 232 rfl rfl
theorem wd1783 : (Cond.instanceMethod ({ cls := "RestMillModel", name := "puts4", desc := "(I)V" } : MethodName)) ∈ WD := wdT7 234 rfl rfl
theorem wd1784 : (Cond.code ({ cls := "RestMillModel", name := "puts4", desc := "(I)V" } : MethodName) prog_10_method_37_code (3 : Nat) (Option.none : Option ClassFile.FieldType)) ∈ WD := wdT7 235 rfl rfl
theorem wd1788 : (Cond.code ({ cls := "RestMillModel", name := "truncateInput", desc := "(I)Z" } : MethodName) prog_10_method_39_code (2 : Nat) (Option.some ClassFile.FieldType.boolean)) ∈ WD := wdT7 239 rfl rfl
theorem wd1789 : (Cond.methodLink "RestMillModel" (57 : Nat) ({ cls := "RestMillModel", name := "isIn", desc := "(JJJ)Z" } : MethodName)) ∈ WD := wdT8 0 rfl rfl
theorem wd1790 : (Cond.static ({ cls := "RestMillModel", name := "isIn", desc := "(JJJ)Z" } : MethodName)) ∈ WD := wdT8 1 rfl rfl
theorem wd1791 : (Cond.code ({ cls := "RestMillModel", name := "isIn", desc := "(JJJ)Z" } : MethodName) prog_10_method_2_code (6 : Nat) (Option.some ClassFile.FieldType.boolean)) ∈ WD := wdT8 2 rfl rfl
theorem wd1795 : (Cond.code ({ cls := "RestMillModel", name := "errorCode", desc := "()I" } : MethodName) prog_10_method_40_code (1 : Nat) (Option.some ClassFile.FieldType.int)) ∈ WD := wdT8 6 rfl rfl
theorem wd1799 : (Cond.code ({ cls := "RestMillModel", name := "errorOffset", desc := "()I" } : MethodName) prog_10_method_41_code (1 : Nat) (Option.some ClassFile.FieldType.int)) ∈ WD := wdT8 10 rfl rfl
theorem wd1803 : (Cond.code ({ cls := "RestMillModel", name := "loadMill", desc := "()I" } : MethodName) prog_10_method_61_code (2 : Nat) (Option.some ClassFile.FieldType.int)) ∈ WD := wdT8 14 rfl rfl
theorem wd1804 : (Cond.methodLink "RestMillModel" (132 : Nat) ({ cls := "RestMillModel", name := "copies", desc := "([II[III)V" } : MethodName)) ∈ WD := wdT8 15 rfl rfl
theorem wd1805 : (Cond.static ({ cls := "RestMillModel", name := "copies", desc := "([II[III)V" } : MethodName)) ∈ WD := wdT8 16 rfl rfl
theorem wd1806 : (Cond.code ({ cls := "RestMillModel", name := "copies", desc := "([II[III)V" } : MethodName) prog_10_method_3_code (6 : Nat) (Option.none : Option ClassFile.FieldType)) ∈ WD := wdT8 17 rfl rfl
theorem wd1807 : (Cond.methodLink "RestMillModel" (264 : Nat) ({ cls := "RestMillModel", name := "startsText", desc := "()V" } : MethodName)) ∈ WD := wdT8 18 rfl rfl
theorem wd1809 : (Cond.instanceMethod ({ cls := "RestMillModel", name := "startsText", desc := "()V" } : MethodName)) ∈ WD := wdT8 20 rfl rfl
theorem wd1810 : (Cond.code ({ cls := "RestMillModel", name := "startsText", desc := "()V" } : MethodName) prog_10_method_45_code (1 : Nat) (Option.none : Option ClassFile.FieldType)) ∈ WD := wdT8 21 rfl rfl
theorem wd1811 : (Cond.methodLink "RestMillModel" (195 : Nat) ({ cls := "RestMillModel", name := "scans", desc := "()V" } : MethodName)) ∈ WD := wdT8 22 rfl rfl
theorem wd1813 : (Cond.instanceMethod ({ cls := "RestMillModel", name := "scans", desc := "()V" } : MethodName)) ∈ WD := wdT8 24 rfl rfl
theorem wd1814 : (Cond.code ({ cls := "RestMillModel", name := "scans", desc := "()V" } : MethodName) prog_10_method_44_code (2 : Nat) (Option.none : Option ClassFile.FieldType)) ∈ WD := wdT8 25 rfl rfl
theorem wd1815 : (Cond.methodLink "RestMillModel" (172 : Nat) ({ cls := "RestMillModel", name := "byteAt", desc := "(I)I" } : MethodName)) ∈ WD := wdT8 26 rfl rfl
theorem wd1817 : (Cond.instanceMethod ({ cls := "RestMillModel", name := "byteAt", desc := "(I)I" } : MethodName)) ∈ WD := wdT8 28 rfl rfl
theorem wd1818 : (Cond.code ({ cls := "RestMillModel", name := "byteAt", desc := "(I)I" } : MethodName) prog_10_method_42_code (2 : Nat) (Option.some ClassFile.FieldType.int)) ∈ WD := wdT8 29 rfl rfl
theorem wd1819 : (Cond.constantLong "RestMillModel" (181 : Nat) (97 : Int64)) ∈ WD := wdT8 30 rfl rfl
theorem wd1820 : (Cond.constantLong "RestMillModel" (183 : Nat) (122 : Int64)) ∈ WD := wdT8 31 rfl rfl
theorem wd1821 : (Cond.constantLong "RestMillModel" (185 : Nat) (48 : Int64)) ∈ WD := wdT8 32 rfl rfl
theorem wd1822 : (Cond.constantLong "RestMillModel" (187 : Nat) (57 : Int64)) ∈ WD := wdT8 33 rfl rfl
theorem wd1823 : (Cond.methodLink "RestMillModel" (192 : Nat) ({ cls := "RestMillModel", name := "isSignByte", desc := "(I)Z" } : MethodName)) ∈ WD := wdT8 34 rfl rfl
theorem wd1824 : (Cond.static ({ cls := "RestMillModel", name := "isSignByte", desc := "(I)Z" } : MethodName)) ∈ WD := wdT8 35 rfl rfl
theorem wd1825 : (Cond.code ({ cls := "RestMillModel", name := "isSignByte", desc := "(I)Z" } : MethodName) prog_10_method_43_code (1 : Nat) (Option.some ClassFile.FieldType.boolean)) ∈ WD := wdT8 36 rfl rfl
theorem wd1826 : (Cond.methodLink "RestMillModel" (267 : Nat) ({ cls := "RestMillModel", name := "readsSetup", desc := "()V" } : MethodName)) ∈ WD := wdT8 37 rfl rfl
theorem wd1828 : (Cond.instanceMethod ({ cls := "RestMillModel", name := "readsSetup", desc := "()V" } : MethodName)) ∈ WD := wdT8 39 rfl rfl
theorem wd1829 : (Cond.code ({ cls := "RestMillModel", name := "readsSetup", desc := "()V" } : MethodName) prog_10_method_60_code (2 : Nat) (Option.none : Option ClassFile.FieldType)) ∈ WD := wdT8 40 rfl rfl
theorem wd1831 : (Cond.methodLink "RestMillModel" (248 : Nat) ({ cls := "RestMillModel", name := "isWord", desc := "(Ljava/lang/String;)Z" } : MethodName)) ∈ WD := wdT8 42 rfl rfl
theorem wd1833 : (Cond.instanceMethod ({ cls := "RestMillModel", name := "isWord", desc := "(Ljava/lang/String;)Z" } : MethodName)) ∈ WD := wdT8 44 rfl rfl
theorem wd1834 : (Cond.code ({ cls := "RestMillModel", name := "isWord", desc := "(Ljava/lang/String;)Z" } : MethodName) prog_10_method_49_code (3 : Nat) (Option.some ClassFile.FieldType.boolean)) ∈ WD := wdT8 45 rfl rfl
theorem wd1835 : (Cond.methodLink "RestMillModel" (198 : Nat) ({ cls := "RestMillModel", name := "isGood", desc := "()Z" } : MethodName)) ∈ WD := wdT8 46 rfl rfl
theorem wd1837 : (Cond.instanceMethod ({ cls := "RestMillModel", name := "isGood", desc := "()Z" } : MethodName)) ∈ WD := wdT8 48 rfl rfl
theorem wd1838 : (Cond.code ({ cls := "RestMillModel", name := "isGood", desc := "()Z" } : MethodName) prog_10_method_46_code (1 : Nat) (Option.some ClassFile.FieldType.boolean)) ∈ WD := wdT8 49 rfl rfl
theorem wd1841 : (Cond.methodLink "RestMillModel" (214 : Nat) ({ cls := "RestMillModel", name := "errs", desc := "(I)V" } : MethodName)) ∈ WD := wdT8 52 rfl rfl
theorem wd1843 : (Cond.instanceMethod ({ cls := "RestMillModel", name := "errs", desc := "(I)V" } : MethodName)) ∈ WD := wdT8 54 rfl rfl
theorem wd1844 : (Cond.code ({ cls := "RestMillModel", name := "errs", desc := "(I)V" } : MethodName) prog_10_method_47_code (2 : Nat) (Option.none : Option ClassFile.FieldType)) ∈ WD := wdT8 55 rfl rfl
theorem wd1845 : (Cond.methodLink "RestMillModel" (217 : Nat) ({ cls := "RestMillModel", name := "goesOn", desc := "()V" } : MethodName)) ∈ WD := wdT8 56 rfl rfl
theorem wd1847 : (Cond.instanceMethod ({ cls := "RestMillModel", name := "goesOn", desc := "()V" } : MethodName)) ∈ WD := wdT8 58 rfl rfl
theorem wd1848 : (Cond.code ({ cls := "RestMillModel", name := "goesOn", desc := "()V" } : MethodName) prog_10_method_48_code (1 : Nat) (Option.none : Option ClassFile.FieldType)) ∈ WD := wdT8 59 rfl rfl
theorem wd1849 : (Cond.methodLink "RestMillModel" (61 : Nat) ({ cls := "RestMillModel", name := "many", desc := "()I" } : MethodName)) ∈ WD := wdT8 60 rfl rfl
theorem wd1851 : (Cond.instanceMethod ({ cls := "RestMillModel", name := "many", desc := "()I" } : MethodName)) ∈ WD := wdT8 62 rfl rfl
theorem wd1852 : (Cond.code ({ cls := "RestMillModel", name := "many", desc := "()I" } : MethodName) prog_10_method_5_code (1 : Nat) (Option.some ClassFile.FieldType.int)) ∈ WD := wdT8 63 rfl rfl
theorem wd1853 : (Cond.methodLink "RestMillModel" (252 : Nat) ({ cls := "RestMillModel", name := "modulusHere", desc := "()V" } : MethodName)) ∈ WD := wdT8 64 rfl rfl
theorem wd1855 : (Cond.instanceMethod ({ cls := "RestMillModel", name := "modulusHere", desc := "()V" } : MethodName)) ∈ WD := wdT8 66 rfl rfl
theorem wd1856 : (Cond.code ({ cls := "RestMillModel", name := "modulusHere", desc := "()V" } : MethodName) prog_10_method_58_code (1 : Nat) (Option.none : Option ClassFile.FieldType)) ∈ WD := wdT8 67 rfl rfl
theorem wd1857 : (Cond.constantLong "RestMillModel" (76 : Nat) (2 : Int64)) ∈ WD := wdT8 68 rfl rfl
theorem wd1858 : (Cond.methodLink "RestMillModel" (93 : Nat) ({ cls := "RestMillModel", name := "whole", desc := "()J" } : MethodName)) ∈ WD := wdT8 69 rfl rfl
theorem wd1860 : (Cond.instanceMethod ({ cls := "RestMillModel", name := "whole", desc := "()J" } : MethodName)) ∈ WD := wdT8 71 rfl rfl
theorem wd1861 : (Cond.code ({ cls := "RestMillModel", name := "whole", desc := "()J" } : MethodName) prog_10_method_11_code (1 : Nat) (Option.some ClassFile.FieldType.long)) ∈ WD := wdT8 72 rfl rfl
theorem wd1862 : (Cond.methodLink "RestMillModel" (69 : Nat) ({ cls := "RestMillModel", name := "productOf", desc := "(I)J" } : MethodName)) ∈ WD := wdT8 73 rfl rfl
theorem wd1864 : (Cond.instanceMethod ({ cls := "RestMillModel", name := "productOf", desc := "(I)J" } : MethodName)) ∈ WD := wdT8 75 rfl rfl
theorem wd1865 : (Cond.code ({ cls := "RestMillModel", name := "productOf", desc := "(I)J" } : MethodName) prog_10_method_10_code (5 : Nat) (Option.some ClassFile.FieldType.long)) ∈ WD := wdT8 76 rfl rfl
theorem wd1866 : (Cond.methodLink "RestMillModel" (65 : Nat) ({ cls := "RestMillModel", name := "mod", desc := "(I)I" } : MethodName)) ∈ WD := wdT8 77 rfl rfl
theorem wd1868 : (Cond.instanceMethod ({ cls := "RestMillModel", name := "mod", desc := "(I)I" } : MethodName)) ∈ WD := wdT8 79 rfl rfl
theorem wd1869 : (Cond.code ({ cls := "RestMillModel", name := "mod", desc := "(I)I" } : MethodName) prog_10_method_7_code (2 : Nat) (Option.some ClassFile.FieldType.int)) ∈ WD := wdT8 80 rfl rfl
theorem wd1870 : (Cond.constantLong "RestMillModel" (231 : Nat) (1000000000 : Int64)) ∈ WD := wdT8 81 rfl rfl
theorem wd1871 : (Cond.methodLink "RestMillModel" (233 : Nat) ({ cls := "RestMillModel", name := "isCommon", desc := "(I)Z" } : MethodName)) ∈ WD := wdT8 82 rfl rfl
theorem wd1873 : (Cond.instanceMethod ({ cls := "RestMillModel", name := "isCommon", desc := "(I)Z" } : MethodName)) ∈ WD := wdT8 84 rfl rfl
theorem wd1874 : (Cond.code ({ cls := "RestMillModel", name := "isCommon", desc := "(I)Z" } : MethodName) prog_10_method_57_code (3 : Nat) (Option.some ClassFile.FieldType.boolean)) ∈ WD := wdT8 85 rfl rfl
theorem wd1875 : (Cond.methodLink "RestMillModel" (228 : Nat) ({ cls := "RestMillModel", name := "divisor", desc := "(II)I" } : MethodName)) ∈ WD := wdT8 86 rfl rfl
theorem wd1876 : (Cond.static ({ cls := "RestMillModel", name := "divisor", desc := "(II)I" } : MethodName)) ∈ WD := wdT8 87 rfl rfl
theorem wd1877 : (Cond.code ({ cls := "RestMillModel", name := "divisor", desc := "(II)I" } : MethodName) prog_10_method_56_code (2 : Nat) (Option.some ClassFile.FieldType.int)) ∈ WD := wdT8 88 rfl rfl
theorem wd1878 : (Cond.methodLink "RestMillModel" (243 : Nat) ({ cls := "RestMillModel", name := "sign", desc := "(I)V" } : MethodName)) ∈ WD := wdT8 89 rfl rfl
theorem wd1880 : (Cond.instanceMethod ({ cls := "RestMillModel", name := "sign", desc := "(I)V" } : MethodName)) ∈ WD := wdT8 91 rfl rfl
theorem wd1881 : (Cond.code ({ cls := "RestMillModel", name := "sign", desc := "(I)V" } : MethodName) prog_10_method_51_code (2 : Nat) (Option.none : Option ClassFile.FieldType)) ∈ WD := wdT8 92 rfl rfl
theorem wd1882 : (Cond.methodLink "RestMillModel" (211 : Nat) ({ cls := "RestMillModel", name := "isSign", desc := "(I)Z" } : MethodName)) ∈ WD := wdT8 93 rfl rfl
theorem wd1884 : (Cond.instanceMethod ({ cls := "RestMillModel", name := "isSign", desc := "(I)Z" } : MethodName)) ∈ WD := wdT8 95 rfl rfl
theorem wd1885 : (Cond.code ({ cls := "RestMillModel", name := "isSign", desc := "(I)Z" } : MethodName) prog_10_method_50_code (2 : Nat) (Option.some ClassFile.FieldType.boolean)) ∈ WD := wdT8 96 rfl rfl
theorem wd1887 : (Cond.methodLink "RestMillModel" (239 : Nat) ({ cls := "RestMillModel", name := "number", desc := "(JJ)I" } : MethodName)) ∈ WD := wdT8 98 rfl rfl
theorem wd1889 : (Cond.instanceMethod ({ cls := "RestMillModel", name := "number", desc := "(JJ)I" } : MethodName)) ∈ WD := wdT8 100 rfl rfl
theorem wd1890 : (Cond.code ({ cls := "RestMillModel", name := "number", desc := "(JJ)I" } : MethodName) prog_10_method_52_code (6 : Nat) (Option.some ClassFile.FieldType.int)) ∈ WD := wdT8 101 rfl rfl
theorem wd1893 : (Cond.methodLink "RestMillModel" (261 : Nat) ({ cls := "RestMillModel", name := "setHere", desc := "()V" } : MethodName)) ∈ WD := wdT8 104 rfl rfl
theorem wd1895 : (Cond.instanceMethod ({ cls := "RestMillModel", name := "setHere", desc := "()V" } : MethodName)) ∈ WD := wdT8 106 rfl rfl
theorem wd1896 : (Cond.code ({ cls := "RestMillModel", name := "setHere", desc := "()V" } : MethodName) prog_10_method_59_code (5 : Nat) (Option.none : Option ClassFile.FieldType)) ∈ WD := wdT8 107 rfl rfl
theorem wd1897 : (Cond.methodLink "RestMillModel" (225 : Nat) ({ cls := "RestMillModel", name := "registerHere", desc := "()I" } : MethodName)) ∈ WD := wdT8 108 rfl rfl
theorem wd1899 : (Cond.instanceMethod ({ cls := "RestMillModel", name := "registerHere", desc := "()I" } : MethodName)) ∈ WD := wdT8 110 rfl rfl
theorem wd1900 : (Cond.code ({ cls := "RestMillModel", name := "registerHere", desc := "()I" } : MethodName) prog_10_method_54_code (1 : Nat) (Option.some ClassFile.FieldType.int)) ∈ WD := wdT8 111 rfl rfl
theorem wd1901 : (Cond.methodLink "RestMillModel" (222 : Nat) ({ cls := "RestMillModel", name := "isLetter", desc := "()Z" } : MethodName)) ∈ WD := wdT8 112 rfl rfl
theorem wd1903 : (Cond.instanceMethod ({ cls := "RestMillModel", name := "isLetter", desc := "()Z" } : MethodName)) ∈ WD := wdT8 114 rfl rfl
theorem wd1904 : (Cond.code ({ cls := "RestMillModel", name := "isLetter", desc := "()Z" } : MethodName) prog_10_method_53_code (1 : Nat) (Option.some ClassFile.FieldType.boolean)) ∈ WD := wdT8 115 rfl rfl
theorem wd1905 : (Cond.constantLong "RestMillModel" (220 : Nat) (104 : Int64)) ∈ WD := wdT8 116 rfl rfl
theorem wd1906 : (Cond.methodLink "RestMillModel" (101 : Nat) ({ cls := "RestMillModel", name := "half", desc := "()J" } : MethodName)) ∈ WD := wdT8 117 rfl rfl
theorem wd1908 : (Cond.instanceMethod ({ cls := "RestMillModel", name := "half", desc := "()J" } : MethodName)) ∈ WD := wdT8 119 rfl rfl
theorem wd1909 : (Cond.code ({ cls := "RestMillModel", name := "half", desc := "()J" } : MethodName) prog_10_method_12_code (1 : Nat) (Option.some ClassFile.FieldType.long)) ∈ WD := wdT8 120 rfl rfl
theorem wd1910 : (Cond.methodLink "RestMillModel" (73 : Nat) ({ cls := "RestMillModel", name := "bases", desc := "()I" } : MethodName)) ∈ WD := wdT8 121 rfl rfl
theorem wd1912 : (Cond.instanceMethod ({ cls := "RestMillModel", name := "bases", desc := "()I" } : MethodName)) ∈ WD := wdT8 123 rfl rfl
theorem wd1913 : (Cond.code ({ cls := "RestMillModel", name := "bases", desc := "()I" } : MethodName) prog_10_method_6_code (1 : Nat) (Option.some ClassFile.FieldType.int)) ∈ WD := wdT8 124 rfl rfl
theorem wd1914 : (Cond.methodLink "RestMillModel" (122 : Nat) ({ cls := "RestMillModel", name := "tells", desc := "(IJ)V" } : MethodName)) ∈ WD := wdT8 125 rfl rfl
theorem wd1916 : (Cond.instanceMethod ({ cls := "RestMillModel", name := "tells", desc := "(IJ)V" } : MethodName)) ∈ WD := wdT8 127 rfl rfl
theorem wd1917 : (Cond.code ({ cls := "RestMillModel", name := "tells", desc := "(IJ)V" } : MethodName) prog_10_method_16_code (5 : Nat) (Option.none : Option ClassFile.FieldType)) ∈ WD := wdT8 128 rfl rfl
theorem wd1918 : (Cond.methodLink "RestMillModel" (78 : Nat) ({ cls := "RestMillModel", name := "rest", desc := "(JI)I" } : MethodName)) ∈ WD := wdT8 129 rfl rfl
theorem wd1919 : (Cond.static ({ cls := "RestMillModel", name := "rest", desc := "(JI)I" } : MethodName)) ∈ WD := wdT8 130 rfl rfl
theorem wd1920 : (Cond.code ({ cls := "RestMillModel", name := "rest", desc := "(JI)I" } : MethodName) prog_10_method_13_code (5 : Nat) (Option.some ClassFile.FieldType.int)) ∈ WD := wdT8 131 rfl rfl
theorem wd1921 : (Cond.methodLink "RestMillModel" (82 : Nat) ({ cls := "RestMillModel", name := "puts", desc := "(III)V" } : MethodName)) ∈ WD := wdT8 132 rfl rfl
theorem wd1923 : (Cond.instanceMethod ({ cls := "RestMillModel", name := "puts", desc := "(III)V" } : MethodName)) ∈ WD := wdT8 134 rfl rfl
theorem wd1924 : (Cond.code ({ cls := "RestMillModel", name := "puts", desc := "(III)V" } : MethodName) prog_10_method_15_code (4 : Nat) (Option.none : Option ClassFile.FieldType)) ∈ WD := wdT8 135 rfl rfl
theorem wd1928 : (Cond.code ({ cls := "RestMillModel", name := "playScript", desc := "()I" } : MethodName) prog_10_method_72_code (2 : Nat) (Option.some ClassFile.FieldType.int)) ∈ WD := wdT8 139 rfl rfl
theorem wd1929 : (Cond.methodLink "RestMillModel" (334 : Nat) ({ cls := "RestMillModel", name := "readsStatement", desc := "()V" } : MethodName)) ∈ WD := wdT8 140 rfl rfl
theorem wd1931 : (Cond.instanceMethod ({ cls := "RestMillModel", name := "readsStatement", desc := "()V" } : MethodName)) ∈ WD := wdT8 142 rfl rfl
theorem wd1932 : (Cond.code ({ cls := "RestMillModel", name := "readsStatement", desc := "()V" } : MethodName) prog_10_method_68_code (6 : Nat) (Option.none : Option ClassFile.FieldType)) ∈ WD := wdT8 143 rfl rfl
theorem wd1936 : (Cond.methodLink "RestMillModel" (304 : Nat) ({ cls := "RestMillModel", name := "register", desc := "()I" } : MethodName)) ∈ WD := wdT8 147 rfl rfl
theorem wd1938 : (Cond.instanceMethod ({ cls := "RestMillModel", name := "register", desc := "()I" } : MethodName)) ∈ WD := wdT8 149 rfl rfl
theorem wd1939 : (Cond.code ({ cls := "RestMillModel", name := "register", desc := "()I" } : MethodName) prog_10_method_55_code (2 : Nat) (Option.some ClassFile.FieldType.int)) ∈ WD := wdT8 150 rfl rfl
theorem wd1940 : (Cond.methodLink "RestMillModel" (289 : Nat) ({ cls := "RestMillModel", name := "readsSum", desc := "()V" } : MethodName)) ∈ WD := wdT8 151 rfl rfl
theorem wd1942 : (Cond.instanceMethod ({ cls := "RestMillModel", name := "readsSum", desc := "()V" } : MethodName)) ∈ WD := wdT8 153 rfl rfl
theorem wd1943 : (Cond.code ({ cls := "RestMillModel", name := "readsSum", desc := "()V" } : MethodName) prog_10_method_66_code (2 : Nat) (Option.none : Option ClassFile.FieldType)) ∈ WD := wdT8 154 rfl rfl
theorem wd1944 : (Cond.methodLink "RestMillModel" (292 : Nat) ({ cls := "RestMillModel", name := "readsProduct", desc := "()V" } : MethodName)) ∈ WD := wdT8 155 rfl rfl
theorem wd1946 : (Cond.instanceMethod ({ cls := "RestMillModel", name := "readsProduct", desc := "()V" } : MethodName)) ∈ WD := wdT8 157 rfl rfl
theorem wd1947 : (Cond.code ({ cls := "RestMillModel", name := "readsProduct", desc := "()V" } : MethodName) prog_10_method_65_code (2 : Nat) (Option.none : Option ClassFile.FieldType)) ∈ WD := wdT8 158 rfl rfl
theorem wd1948 : (Cond.methodLink "RestMillModel" (283 : Nat) ({ cls := "RestMillModel", name := "readsFactor", desc := "()V" } : MethodName)) ∈ WD := wdT8 159 rfl rfl
theorem wd1950 : (Cond.instanceMethod ({ cls := "RestMillModel", name := "readsFactor", desc := "()V" } : MethodName)) ∈ WD := wdT8 161 rfl rfl
theorem wd1951 : (Cond.code ({ cls := "RestMillModel", name := "readsFactor", desc := "()V" } : MethodName) prog_10_method_64_code (1 : Nat) (Option.none : Option ClassFile.FieldType)) ∈ WD := wdT8 162 rfl rfl
theorem wd1952 : (Cond.methodLink "RestMillModel" (280 : Nat) ({ cls := "RestMillModel", name := "opens", desc := "()V" } : MethodName)) ∈ WD := wdT8 163 rfl rfl
theorem wd1954 : (Cond.instanceMethod ({ cls := "RestMillModel", name := "opens", desc := "()V" } : MethodName)) ∈ WD := wdT8 165 rfl rfl
theorem wd1955 : (Cond.code ({ cls := "RestMillModel", name := "opens", desc := "()V" } : MethodName) prog_10_method_63_code (1 : Nat) (Option.none : Option ClassFile.FieldType)) ∈ WD := wdT8 166 rfl rfl
theorem wd1956 : (Cond.methodLink "RestMillModel" (286 : Nat) ({ cls := "RestMillModel", name := "lays", desc := "(II)V" } : MethodName)) ∈ WD := wdT8 167 rfl rfl
theorem wd1958 : (Cond.instanceMethod ({ cls := "RestMillModel", name := "lays", desc := "(II)V" } : MethodName)) ∈ WD := wdT8 169 rfl rfl
theorem wd1959 : (Cond.code ({ cls := "RestMillModel", name := "lays", desc := "(II)V" } : MethodName) prog_10_method_62_code (3 : Nat) (Option.none : Option ClassFile.FieldType)) ∈ WD := wdT8 170 rfl rfl
theorem wd1960 : (Cond.methodLink "RestMillModel" (307 : Nat) ({ cls := "RestMillModel", name := "adds", desc := "(IIII)V" } : MethodName)) ∈ WD := wdT8 171 rfl rfl
theorem wd1962 : (Cond.instanceMethod ({ cls := "RestMillModel", name := "adds", desc := "(IIII)V" } : MethodName)) ∈ WD := wdT8 173 rfl rfl
theorem wd1963 : (Cond.code ({ cls := "RestMillModel", name := "adds", desc := "(IIII)V" } : MethodName) prog_10_method_67_code (6 : Nat) (Option.none : Option ClassFile.FieldType)) ∈ WD := wdT8 174 rfl rfl
theorem wd1964 : (Cond.methodLink "RestMillModel" (337 : Nat) ({ cls := "RestMillModel", name := "keeps", desc := "()V" } : MethodName)) ∈ WD := wdT8 175 rfl rfl
theorem wd1966 : (Cond.instanceMethod ({ cls := "RestMillModel", name := "keeps", desc := "()V" } : MethodName)) ∈ WD := wdT8 177 rfl rfl
theorem wd1967 : (Cond.code ({ cls := "RestMillModel", name := "keeps", desc := "()V" } : MethodName) prog_10_method_27_code (1 : Nat) (Option.none : Option ClassFile.FieldType)) ∈ WD := wdT8 178 rfl rfl
theorem wd1968 : (Cond.methodLink "RestMillModel" (340 : Nat) ({ cls := "RestMillModel", name := "does", desc := "(I)I" } : MethodName)) ∈ WD := wdT8 179 rfl rfl
theorem wd1970 : (Cond.instanceMethod ({ cls := "RestMillModel", name := "does", desc := "(I)I" } : MethodName)) ∈ WD := wdT8 181 rfl rfl
theorem wd1971 : (Cond.code ({ cls := "RestMillModel", name := "does", desc := "(I)I" } : MethodName) prog_10_method_71_code (5 : Nat) (Option.some ClassFile.FieldType.int)) ∈ WD := wdT8 182 rfl rfl
theorem wd1972 : (Cond.methodLink "RestMillModel" (321 : Nat) ({ cls := "RestMillModel", name := "gives", desc := "(III)I" } : MethodName)) ∈ WD := wdT8 183 rfl rfl
theorem wd1974 : (Cond.instanceMethod ({ cls := "RestMillModel", name := "gives", desc := "(III)I" } : MethodName)) ∈ WD := wdT8 185 rfl rfl
theorem wd1975 : (Cond.code ({ cls := "RestMillModel", name := "gives", desc := "(III)I" } : MethodName) prog_10_method_70_code (6 : Nat) (Option.some ClassFile.FieldType.int)) ∈ WD := wdT8 186 rfl rfl
theorem wd1976 : (Cond.methodLink "RestMillModel" (318 : Nat) ({ cls := "RestMillModel", name := "step", desc := "(I)I" } : MethodName)) ∈ WD := wdT8 187 rfl rfl
theorem wd1978 : (Cond.instanceMethod ({ cls := "RestMillModel", name := "step", desc := "(I)I" } : MethodName)) ∈ WD := wdT8 189 rfl rfl
theorem wd1979 : (Cond.code ({ cls := "RestMillModel", name := "step", desc := "(I)I" } : MethodName) prog_10_method_69_code (3 : Nat) (Option.some ClassFile.FieldType.int)) ∈ WD := wdT8 190 rfl rfl
theorem wd1980 : (Cond.methodLink "RestMillModel" (143 : Nat) ({ cls := "RestMillModel", name := "copiesRow", desc := "(II)V" } : MethodName)) ∈ WD := wdT8 191 rfl rfl
theorem wd1982 : (Cond.instanceMethod ({ cls := "RestMillModel", name := "copiesRow", desc := "(II)V" } : MethodName)) ∈ WD := wdT8 193 rfl rfl
theorem wd1983 : (Cond.code ({ cls := "RestMillModel", name := "copiesRow", desc := "(II)V" } : MethodName) prog_10_method_17_code (4 : Nat) (Option.none : Option ClassFile.FieldType)) ∈ WD := wdT8 194 rfl rfl
theorem wd1984 : (Cond.methodLink "RestMillModel" (86 : Nat) ({ cls := "RestMillModel", name := "restOf", desc := "(II)I" } : MethodName)) ∈ WD := wdT8 195 rfl rfl
theorem wd1986 : (Cond.instanceMethod ({ cls := "RestMillModel", name := "restOf", desc := "(II)I" } : MethodName)) ∈ WD := wdT8 197 rfl rfl
theorem wd1987 : (Cond.code ({ cls := "RestMillModel", name := "restOf", desc := "(II)I" } : MethodName) prog_10_method_14_code (3 : Nat) (Option.some ClassFile.FieldType.int)) ∈ WD := wdT8 198 rfl rfl
theorem wd1988 : (Cond.methodLink "RestMillModel" (314 : Nat) ({ cls := "RestMillModel", name := "works", desc := "(IIII)I" } : MethodName)) ∈ WD := wdT8 199 rfl rfl
theorem wd1990 : (Cond.instanceMethod ({ cls := "RestMillModel", name := "works", desc := "(IIII)I" } : MethodName)) ∈ WD := wdT8 201 rfl rfl
theorem wd1991 : (Cond.code ({ cls := "RestMillModel", name := "works", desc := "(IIII)I" } : MethodName) prog_10_method_26_code (9 : Nat) (Option.some ClassFile.FieldType.int)) ∈ WD := wdT8 202 rfl rfl
theorem wd1992 : (Cond.methodLink "RestMillModel" (104 : Nat) ({ cls := "RestMillModel", name := "numberOf", desc := "(I)J" } : MethodName)) ∈ WD := wdT8 203 rfl rfl
theorem wd1994 : (Cond.instanceMethod ({ cls := "RestMillModel", name := "numberOf", desc := "(I)J" } : MethodName)) ∈ WD := wdT8 205 rfl rfl
theorem wd1995 : (Cond.code ({ cls := "RestMillModel", name := "numberOf", desc := "(I)J" } : MethodName) prog_10_method_20_code (2 : Nat) (Option.some ClassFile.FieldType.long)) ∈ WD := wdT8 206 rfl rfl
theorem wd1996 : (Cond.methodLink "RestMillModel" (90 : Nat) ({ cls := "RestMillModel", name := "valueOf", desc := "(I)J" } : MethodName)) ∈ WD := wdT8 207 rfl rfl
theorem wd1998 : (Cond.instanceMethod ({ cls := "RestMillModel", name := "valueOf", desc := "(I)J" } : MethodName)) ∈ WD := wdT8 209 rfl rfl
theorem wd1999 : (Cond.code ({ cls := "RestMillModel", name := "valueOf", desc := "(I)J" } : MethodName) prog_10_method_18_code (7 : Nat) (Option.some ClassFile.FieldType.long)) ∈ WD := wdT8 210 rfl rfl
theorem wd2000 : (Cond.methodLink "RestMillModel" (97 : Nat) ({ cls := "RestMillModel", name := "signed", desc := "(JJ)J" } : MethodName)) ∈ WD := wdT8 211 rfl rfl
theorem wd2001 : (Cond.static ({ cls := "RestMillModel", name := "signed", desc := "(JJ)J" } : MethodName)) ∈ WD := wdT8 212 rfl rfl
theorem wd2002 : (Cond.code ({ cls := "RestMillModel", name := "signed", desc := "(JJ)J" } : MethodName) prog_10_method_19_code (4 : Nat) (Option.some ClassFile.FieldType.long)) ∈ WD := wdT8 213 rfl rfl
theorem wd2003 : (Cond.methodLink "RestMillModel" (114 : Nat) ({ cls := "RestMillModel", name := "divides", desc := "(I)Z" } : MethodName)) ∈ WD := wdT8 214 rfl rfl
theorem wd2005 : (Cond.instanceMethod ({ cls := "RestMillModel", name := "divides", desc := "(I)Z" } : MethodName)) ∈ WD := wdT8 216 rfl rfl
theorem wd2006 : (Cond.code ({ cls := "RestMillModel", name := "divides", desc := "(I)Z" } : MethodName) prog_10_method_25_code (2 : Nat) (Option.some ClassFile.FieldType.boolean)) ∈ WD := wdT8 217 rfl rfl
theorem wd2007 : (Cond.methodLink "RestMillModel" (118 : Nat) ({ cls := "RestMillModel", name := "worked", desc := "(IJJ)J" } : MethodName)) ∈ WD := wdT8 218 rfl rfl
theorem wd2008 : (Cond.static ({ cls := "RestMillModel", name := "worked", desc := "(IJJ)J" } : MethodName)) ∈ WD := wdT8 219 rfl rfl
theorem wd2009 : (Cond.code ({ cls := "RestMillModel", name := "worked", desc := "(IJJ)J" } : MethodName) prog_10_method_24_code (5 : Nat) (Option.some ClassFile.FieldType.long)) ∈ WD := wdT8 220 rfl rfl
theorem wd2010 : (Cond.methodLink "RestMillModel" (111 : Nat) ({ cls := "RestMillModel", name := "floored", desc := "(JJ)J" } : MethodName)) ∈ WD := wdT8 221 rfl rfl
theorem wd2011 : (Cond.static ({ cls := "RestMillModel", name := "floored", desc := "(JJ)J" } : MethodName)) ∈ WD := wdT8 222 rfl rfl
theorem wd2012 : (Cond.code ({ cls := "RestMillModel", name := "floored", desc := "(JJ)J" } : MethodName) prog_10_method_23_code (6 : Nat) (Option.some ClassFile.FieldType.long)) ∈ WD := wdT8 223 rfl rfl
theorem wd2013 : (Cond.methodLink "RestMillModel" (126 : Nat) ({ cls := "RestMillModel", name := "soundNow", desc := "(I)Z" } : MethodName)) ∈ WD := wdT8 224 rfl rfl
theorem wd2015 : (Cond.instanceMethod ({ cls := "RestMillModel", name := "soundNow", desc := "(I)Z" } : MethodName)) ∈ WD := wdT8 226 rfl rfl
theorem wd2016 : (Cond.code ({ cls := "RestMillModel", name := "soundNow", desc := "(I)Z" } : MethodName) prog_10_method_22_code (2 : Nat) (Option.some ClassFile.FieldType.boolean)) ∈ WD := wdT8 227 rfl rfl
theorem wd2017 : (Cond.methodLink "RestMillModel" (107 : Nat) ({ cls := "RestMillModel", name := "fits", desc := "(J)Z" } : MethodName)) ∈ WD := wdT8 228 rfl rfl
theorem wd2019 : (Cond.instanceMethod ({ cls := "RestMillModel", name := "fits", desc := "(J)Z" } : MethodName)) ∈ WD := wdT8 230 rfl rfl
theorem wd2020 : (Cond.code ({ cls := "RestMillModel", name := "fits", desc := "(J)Z" } : MethodName) prog_10_method_21_code (3 : Nat) (Option.some ClassFile.FieldType.boolean)) ∈ WD := wdT8 231 rfl rfl
theorem wd2021 : (Cond.methodLink "RestMillModel" (140 : Nat) ({ cls := "RestMillModel", name := "refuses", desc := "(I)I" } : MethodName)) ∈ WD := wdT8 232 rfl rfl
theorem wd2023 : (Cond.instanceMethod ({ cls := "RestMillModel", name := "refuses", desc := "(I)I" } : MethodName)) ∈ WD := wdT8 234 rfl rfl
theorem wd2024 : (Cond.code ({ cls := "RestMillModel", name := "refuses", desc := "(I)I" } : MethodName) prog_10_method_29_code (2 : Nat) (Option.some ClassFile.FieldType.int)) ∈ WD := wdT8 235 rfl rfl
theorem wd2025 : (Cond.methodLink "RestMillModel" (136 : Nat) ({ cls := "RestMillModel", name := "counts", desc := "(I)V" } : MethodName)) ∈ WD := wdT8 236 rfl rfl
theorem wd2027 : (Cond.instanceMethod ({ cls := "RestMillModel", name := "counts", desc := "(I)V" } : MethodName)) ∈ WD := wdT8 238 rfl rfl
theorem wd2028 : (Cond.code ({ cls := "RestMillModel", name := "counts", desc := "(I)V" } : MethodName) prog_10_method_28_code (2 : Nat) (Option.none : Option ClassFile.FieldType)) ∈ WD := wdT8 239 rfl rfl
theorem wd2029 : (Cond.methodLink "RestMillModel" (147 : Nat) ({ cls := "RestMillModel", name := "acts", desc := "(I)I" } : MethodName)) ∈ WD := wdT9 0 rfl rfl
theorem wd2031 : (Cond.instanceMethod ({ cls := "RestMillModel", name := "acts", desc := "(I)I" } : MethodName)) ∈ WD := wdT9 2 rfl rfl
theorem wd2032 : (Cond.code ({ cls := "RestMillModel", name := "acts", desc := "(I)I" } : MethodName) prog_10_method_30_code (2 : Nat) (Option.some ClassFile.FieldType.int)) ∈ WD := wdT9 3 rfl rfl
theorem wd2033 : (Cond.methodLink "RestMillModel" (325 : Nat) ({ cls := "RestMillModel", name := "scales", desc := "(II)I" } : MethodName)) ∈ WD := wdT9 4 rfl rfl
theorem wd2035 : (Cond.instanceMethod ({ cls := "RestMillModel", name := "scales", desc := "(II)I" } : MethodName)) ∈ WD := wdT9 6 rfl rfl
theorem wd2036 : (Cond.code ({ cls := "RestMillModel", name := "scales", desc := "(II)I" } : MethodName) prog_10_method_32_code (3 : Nat) (Option.some ClassFile.FieldType.int)) ∈ WD := wdT9 7 rfl rfl
theorem wd2037 : (Cond.methodLink "RestMillModel" (150 : Nat) ({ cls := "RestMillModel", name := "laysInto", desc := "(II)I" } : MethodName)) ∈ WD := wdT9 8 rfl rfl
theorem wd2039 : (Cond.instanceMethod ({ cls := "RestMillModel", name := "laysInto", desc := "(II)I" } : MethodName)) ∈ WD := wdT9 10 rfl rfl
theorem wd2040 : (Cond.code ({ cls := "RestMillModel", name := "laysInto", desc := "(II)I" } : MethodName) prog_10_method_31_code (3 : Nat) (Option.some ClassFile.FieldType.int)) ∈ WD := wdT9 11 rfl rfl
theorem wd2041 : (Cond.methodLink "RestMillModel" (328 : Nat) ({ cls := "RestMillModel", name := "mendsNow", desc := "(I)I" } : MethodName)) ∈ WD := wdT9 12 rfl rfl
theorem wd2043 : (Cond.instanceMethod ({ cls := "RestMillModel", name := "mendsNow", desc := "(I)I" } : MethodName)) ∈ WD := wdT9 14 rfl rfl
theorem wd2044 : (Cond.code ({ cls := "RestMillModel", name := "mendsNow", desc := "(I)I" } : MethodName) prog_10_method_35_code (4 : Nat) (Option.some ClassFile.FieldType.int)) ∈ WD := wdT9 15 rfl rfl
theorem wd2045 : (Cond.methodLink "RestMillModel" (157 : Nat) ({ cls := "RestMillModel", name := "mendingRest", desc := "(II)I" } : MethodName)) ∈ WD := wdT9 16 rfl rfl
theorem wd2047 : (Cond.instanceMethod ({ cls := "RestMillModel", name := "mendingRest", desc := "(II)I" } : MethodName)) ∈ WD := wdT9 18 rfl rfl
theorem wd2048 : (Cond.code ({ cls := "RestMillModel", name := "mendingRest", desc := "(II)I" } : MethodName) prog_10_method_34_code (4 : Nat) (Option.some ClassFile.FieldType.int)) ∈ WD := wdT9 19 rfl rfl
theorem wd2049 : (Cond.methodLink "RestMillModel" (153 : Nat) ({ cls := "RestMillModel", name := "mends", desc := "(III)Z" } : MethodName)) ∈ WD := wdT9 20 rfl rfl
theorem wd2051 : (Cond.instanceMethod ({ cls := "RestMillModel", name := "mends", desc := "(III)Z" } : MethodName)) ∈ WD := wdT9 22 rfl rfl
theorem wd2052 : (Cond.code ({ cls := "RestMillModel", name := "mends", desc := "(III)Z" } : MethodName) prog_10_method_33_code (4 : Nat) (Option.some ClassFile.FieldType.boolean)) ∈ WD := wdT9 23 rfl rfl
theorem wd2053 : (Cond.methodLink "RestMillModel" (331 : Nat) ({ cls := "RestMillModel", name := "swaps", desc := "(II)V" } : MethodName)) ∈ WD := wdT9 24 rfl rfl
theorem wd2055 : (Cond.instanceMethod ({ cls := "RestMillModel", name := "swaps", desc := "(II)V" } : MethodName)) ∈ WD := wdT9 26 rfl rfl
theorem wd2056 : (Cond.code ({ cls := "RestMillModel", name := "swaps", desc := "(II)V" } : MethodName) prog_10_method_36_code (3 : Nat) (Option.none : Option ClassFile.FieldType)) ∈ WD := wdT9 27 rfl rfl
theorem wd2060 : (Cond.code ({ cls := "RestMillModel", name := "count", desc := "(I)I" } : MethodName) prog_10_method_74_code (2 : Nat) (Option.some ClassFile.FieldType.int)) ∈ WD := wdT9 31 rfl rfl
theorem wd2061 : (Cond.constantLong "RestMillModel" (343 : Nat) (6 : Int64)) ∈ WD := wdT9 32 rfl rfl
theorem wd2062 : (Cond.methodLink "RestMillModel" (345 : Nat) ({ cls := "RestMillModel", name := "registersBy", desc := "(I)I" } : MethodName)) ∈ WD := wdT9 33 rfl rfl
theorem wd2064 : (Cond.instanceMethod ({ cls := "RestMillModel", name := "registersBy", desc := "(I)I" } : MethodName)) ∈ WD := wdT9 35 rfl rfl
theorem wd2065 : (Cond.code ({ cls := "RestMillModel", name := "registersBy", desc := "(I)I" } : MethodName) prog_10_method_73_code (6 : Nat) (Option.some ClassFile.FieldType.int)) ∈ WD := wdT9 36 rfl rfl
theorem wd2069 : (Cond.code ({ cls := "RestMillModel", name := "account", desc := "(I)I" } : MethodName) prog_10_method_75_code (2 : Nat) (Option.some ClassFile.FieldType.int)) ∈ WD := wdT9 40 rfl rfl
theorem wd2070 : (Cond.constantLong "RestMillModel" (55 : Nat) (7 : Int64)) ∈ WD := wdT9 41 rfl rfl
theorem wd2074 : (Cond.code ({ cls := "RestMillModel", name := "bound", desc := "(I)J" } : MethodName) prog_10_method_76_code (2 : Nat) (Option.some ClassFile.FieldType.long)) ∈ WD := wdT9 45 rfl rfl
theorem wd2078 : (Cond.code ({ cls := "RestMillModel", name := "modulus", desc := "(I)I" } : MethodName) prog_10_method_81_code (2 : Nat) (Option.some ClassFile.FieldType.int)) ∈ WD := wdT9 49 rfl rfl
theorem wd2079 : (Cond.methodLink "RestMillModel" (354 : Nat) ({ cls := "RestMillModel", name := "mayModulus", desc := "(I)Z" } : MethodName)) ∈ WD := wdT9 50 rfl rfl
theorem wd2081 : (Cond.instanceMethod ({ cls := "RestMillModel", name := "mayModulus", desc := "(I)Z" } : MethodName)) ∈ WD := wdT9 52 rfl rfl
theorem wd2082 : (Cond.code ({ cls := "RestMillModel", name := "mayModulus", desc := "(I)Z" } : MethodName) prog_10_method_77_code (2 : Nat) (Option.some ClassFile.FieldType.boolean)) ∈ WD := wdT9 53 rfl rfl
theorem wd2083 : (Cond.methodLink "RestMillModel" (348 : Nat) ({ cls := "RestMillModel", name := "isModulus", desc := "(I)Z" } : MethodName)) ∈ WD := wdT9 54 rfl rfl
theorem wd2085 : (Cond.instanceMethod ({ cls := "RestMillModel", name := "isModulus", desc := "(I)Z" } : MethodName)) ∈ WD := wdT9 56 rfl rfl
theorem wd2086 : (Cond.code ({ cls := "RestMillModel", name := "isModulus", desc := "(I)Z" } : MethodName) prog_10_method_9_code (2 : Nat) (Option.some ClassFile.FieldType.boolean)) ∈ WD := wdT9 57 rfl rfl
theorem wd2090 : (Cond.code ({ cls := "RestMillModel", name := "inverse", desc := "(II)I" } : MethodName) prog_10_method_82_code (4 : Nat) (Option.some ClassFile.FieldType.int)) ∈ WD := wdT9 61 rfl rfl
theorem wd2094 : (Cond.code ({ cls := "RestMillModel", name := "weight", desc := "(I)J" } : MethodName) prog_10_method_84_code (2 : Nat) (Option.some ClassFile.FieldType.long)) ∈ WD := wdT9 65 rfl rfl
theorem wd2095 : (Cond.methodLink "RestMillModel" (357 : Nat) ({ cls := "RestMillModel", name := "weightOf", desc := "(I)J" } : MethodName)) ∈ WD := wdT9 66 rfl rfl
theorem wd2097 : (Cond.instanceMethod ({ cls := "RestMillModel", name := "weightOf", desc := "(I)J" } : MethodName)) ∈ WD := wdT9 68 rfl rfl
theorem wd2098 : (Cond.code ({ cls := "RestMillModel", name := "weightOf", desc := "(I)J" } : MethodName) prog_10_method_83_code (6 : Nat) (Option.some ClassFile.FieldType.long)) ∈ WD := wdT9 69 rfl rfl
theorem wd2102 : (Cond.code ({ cls := "RestMillModel", name := "rest", desc := "(II)I" } : MethodName) prog_10_method_85_code (3 : Nat) (Option.some ClassFile.FieldType.int)) ∈ WD := wdT9 73 rfl rfl
theorem wd2103 : (Cond.methodLink "RestMillModel" (360 : Nat) ({ cls := "RestMillModel", name := "mayBoth", desc := "(II)Z" } : MethodName)) ∈ WD := wdT9 74 rfl rfl
theorem wd2105 : (Cond.instanceMethod ({ cls := "RestMillModel", name := "mayBoth", desc := "(II)Z" } : MethodName)) ∈ WD := wdT9 76 rfl rfl
theorem wd2106 : (Cond.code ({ cls := "RestMillModel", name := "mayBoth", desc := "(II)Z" } : MethodName) prog_10_method_79_code (3 : Nat) (Option.some ClassFile.FieldType.boolean)) ∈ WD := wdT9 77 rfl rfl
theorem wd2107 : (Cond.methodLink "RestMillModel" (351 : Nat) ({ cls := "RestMillModel", name := "isRegister", desc := "(I)Z" } : MethodName)) ∈ WD := wdT9 78 rfl rfl
theorem wd2109 : (Cond.instanceMethod ({ cls := "RestMillModel", name := "isRegister", desc := "(I)Z" } : MethodName)) ∈ WD := wdT9 80 rfl rfl
theorem wd2110 : (Cond.code ({ cls := "RestMillModel", name := "isRegister", desc := "(I)Z" } : MethodName) prog_10_method_8_code (2 : Nat) (Option.some ClassFile.FieldType.boolean)) ∈ WD := wdT9 81 rfl rfl
theorem wd2114 : (Cond.code ({ cls := "RestMillModel", name := "digit", desc := "(II)I" } : MethodName) prog_10_method_86_code (3 : Nat) (Option.some ClassFile.FieldType.int)) ∈ WD := wdT9 85 rfl rfl
theorem wd2118 : (Cond.code ({ cls := "RestMillModel", name := "part", desc := "(II)J" } : MethodName) prog_10_method_88_code (3 : Nat) (Option.some ClassFile.FieldType.long)) ∈ WD := wdT9 89 rfl rfl
theorem wd2119 : (Cond.methodLink "RestMillModel" (364 : Nat) ({ cls := "RestMillModel", name := "partOf", desc := "(II)J" } : MethodName)) ∈ WD := wdT9 90 rfl rfl
theorem wd2121 : (Cond.instanceMethod ({ cls := "RestMillModel", name := "partOf", desc := "(II)J" } : MethodName)) ∈ WD := wdT9 92 rfl rfl
theorem wd2122 : (Cond.code ({ cls := "RestMillModel", name := "partOf", desc := "(II)J" } : MethodName) prog_10_method_87_code (7 : Nat) (Option.some ClassFile.FieldType.long)) ∈ WD := wdT9 93 rfl rfl
theorem wd2126 : (Cond.code ({ cls := "RestMillModel", name := "rank", desc := "(I)I" } : MethodName) prog_10_method_90_code (2 : Nat) (Option.some ClassFile.FieldType.int)) ∈ WD := wdT9 97 rfl rfl
theorem wd2127 : (Cond.methodLink "RestMillModel" (368 : Nat) ({ cls := "RestMillModel", name := "mayRegister", desc := "(I)Z" } : MethodName)) ∈ WD := wdT9 98 rfl rfl
theorem wd2129 : (Cond.instanceMethod ({ cls := "RestMillModel", name := "mayRegister", desc := "(I)Z" } : MethodName)) ∈ WD := wdT9 100 rfl rfl
theorem wd2130 : (Cond.code ({ cls := "RestMillModel", name := "mayRegister", desc := "(I)Z" } : MethodName) prog_10_method_78_code (2 : Nat) (Option.some ClassFile.FieldType.boolean)) ∈ WD := wdT9 101 rfl rfl
theorem wd2131 : (Cond.methodLink "RestMillModel" (371 : Nat) ({ cls := "RestMillModel", name := "partsOf", desc := "(I)J" } : MethodName)) ∈ WD := wdT9 102 rfl rfl
theorem wd2133 : (Cond.instanceMethod ({ cls := "RestMillModel", name := "partsOf", desc := "(I)J" } : MethodName)) ∈ WD := wdT9 104 rfl rfl
theorem wd2134 : (Cond.code ({ cls := "RestMillModel", name := "partsOf", desc := "(I)J" } : MethodName) prog_10_method_89_code (5 : Nat) (Option.some ClassFile.FieldType.long)) ∈ WD := wdT9 105 rfl rfl
theorem wd2138 : (Cond.code ({ cls := "RestMillModel", name := "value", desc := "(I)J" } : MethodName) prog_10_method_91_code (2 : Nat) (Option.some ClassFile.FieldType.long)) ∈ WD := wdT9 109 rfl rfl
theorem wd2142 : (Cond.code ({ cls := "RestMillModel", name := "number", desc := "(I)J" } : MethodName) prog_10_method_92_code (2 : Nat) (Option.some ClassFile.FieldType.long)) ∈ WD := wdT9 113 rfl rfl
theorem wd2146 : (Cond.code ({ cls := "RestMillModel", name := "isSound", desc := "(I)Z" } : MethodName) prog_10_method_93_code (2 : Nat) (Option.some ClassFile.FieldType.boolean)) ∈ WD := wdT9 117 rfl rfl
theorem wd2150 : (Cond.code ({ cls := "RestMillModel", name := "compare", desc := "(II)I" } : MethodName) prog_10_method_95_code (3 : Nat) (Option.some ClassFile.FieldType.int)) ∈ WD := wdT9 121 rfl rfl
theorem wd2151 : (Cond.methodLink "RestMillModel" (374 : Nat) ({ cls := "RestMillModel", name := "mayTwo", desc := "(II)Z" } : MethodName)) ∈ WD := wdT9 122 rfl rfl
theorem wd2153 : (Cond.instanceMethod ({ cls := "RestMillModel", name := "mayTwo", desc := "(II)Z" } : MethodName)) ∈ WD := wdT9 124 rfl rfl
theorem wd2154 : (Cond.code ({ cls := "RestMillModel", name := "mayTwo", desc := "(II)Z" } : MethodName) prog_10_method_80_code (3 : Nat) (Option.some ClassFile.FieldType.boolean)) ∈ WD := wdT9 125 rfl rfl
theorem wd2155 : (Cond.methodLink "RestMillModel" (377 : Nat) ({ cls := "RestMillModel", name := "compares", desc := "(II)I" } : MethodName)) ∈ WD := wdT9 126 rfl rfl
theorem wd2157 : (Cond.instanceMethod ({ cls := "RestMillModel", name := "compares", desc := "(II)I" } : MethodName)) ∈ WD := wdT9 128 rfl rfl
theorem wd2158 : (Cond.code ({ cls := "RestMillModel", name := "compares", desc := "(II)I" } : MethodName) prog_10_method_94_code (7 : Nat) (Option.some ClassFile.FieldType.int)) ∈ WD := wdT9 129 rfl rfl
theorem wd2162 : (Cond.code ({ cls := "RestMillModel", name := "extend", desc := "(IIZ)I" } : MethodName) prog_10_method_96_code (4 : Nat) (Option.some ClassFile.FieldType.int)) ∈ WD := wdT9 133 rfl rfl
theorem wd2163 : (Cond.constantLong "RestMillModel" (380 : Nat) (9999 : Int64)) ∈ WD := wdT9 134 rfl rfl
theorem wd2167 : (Cond.code ({ cls := "RestMillModel", name := "gap", desc := "()J" } : MethodName) prog_10_method_97_code (6 : Nat) (Option.some ClassFile.FieldType.long)) ∈ WD := wdT9 138 rfl rfl
theorem wd2171 : (Cond.code ({ cls := "RestMillModel", name := "distance", desc := "(II)I" } : MethodName) prog_10_method_98_code (5 : Nat) (Option.some ClassFile.FieldType.int)) ∈ WD := wdT9 142 rfl rfl
theorem wd2175 : (Cond.code ({ cls := "RestMillModel", name := "exact", desc := "(III)J" } : MethodName) prog_10_method_101_code (6 : Nat) (Option.some ClassFile.FieldType.long)) ∈ WD := wdT9 146 rfl rfl
theorem wd2176 : (Cond.methodLink "RestMillModel" (387 : Nat) ({ cls := "RestMillModel", name := "mayOperate", desc := "(III)Z" } : MethodName)) ∈ WD := wdT9 147 rfl rfl
theorem wd2178 : (Cond.instanceMethod ({ cls := "RestMillModel", name := "mayOperate", desc := "(III)Z" } : MethodName)) ∈ WD := wdT9 149 rfl rfl
theorem wd2179 : (Cond.code ({ cls := "RestMillModel", name := "mayOperate", desc := "(III)Z" } : MethodName) prog_10_method_100_code (4 : Nat) (Option.some ClassFile.FieldType.boolean)) ∈ WD := wdT9 150 rfl rfl
theorem wd2180 : (Cond.methodLink "RestMillModel" (384 : Nat) ({ cls := "RestMillModel", name := "isOperation", desc := "(I)Z" } : MethodName)) ∈ WD := wdT9 151 rfl rfl
theorem wd2181 : (Cond.static ({ cls := "RestMillModel", name := "isOperation", desc := "(I)Z" } : MethodName)) ∈ WD := wdT9 152 rfl rfl
theorem wd2182 : (Cond.code ({ cls := "RestMillModel", name := "isOperation", desc := "(I)Z" } : MethodName) prog_10_method_99_code (1 : Nat) (Option.some ClassFile.FieldType.boolean)) ∈ WD := wdT9 153 rfl rfl
theorem wd2183 : (Cond.constantLong "RestMillModel" (382 : Nat) (4 : Int64)) ∈ WD := wdT9 154 rfl rfl
theorem wd2187 : (Cond.code ({ cls := "RestMillModel", name := "why", desc := "(III)I" } : MethodName) prog_10_method_102_code (5 : Nat) (Option.some ClassFile.FieldType.int)) ∈ WD := wdT9 158 rfl rfl
theorem wd2191 : (Cond.code ({ cls := "RestMillModel", name := "faults", desc := "(I)I" } : MethodName) prog_10_method_103_code (4 : Nat) (Option.some ClassFile.FieldType.int)) ∈ WD := wdT9 162 rfl rfl
theorem wd2195 : (Cond.code ({ cls := "RestMillModel", name := "numberWith", desc := "(III)J" } : MethodName) prog_10_method_105_code (4 : Nat) (Option.some ClassFile.FieldType.long)) ∈ WD := wdT9 166 rfl rfl
theorem wd2196 : (Cond.methodLink "RestMillModel" (390 : Nat) ({ cls := "RestMillModel", name := "mayRest", desc := "(III)Z" } : MethodName)) ∈ WD := wdT9 167 rfl rfl
theorem wd2198 : (Cond.instanceMethod ({ cls := "RestMillModel", name := "mayRest", desc := "(III)Z" } : MethodName)) ∈ WD := wdT9 169 rfl rfl
theorem wd2199 : (Cond.code ({ cls := "RestMillModel", name := "mayRest", desc := "(III)Z" } : MethodName) prog_10_method_104_code (5 : Nat) (Option.some ClassFile.FieldType.boolean)) ∈ WD := wdT9 170 rfl rfl
theorem wd2203 : (Cond.code ({ cls := "RestMillModel", name := "nextModulus", desc := "()I" } : MethodName) prog_10_method_107_code (2 : Nat) (Option.some ClassFile.FieldType.int)) ∈ WD := wdT9 174 rfl rfl
theorem wd2204 : (Cond.methodLink "RestMillModel" (393 : Nat) ({ cls := "RestMillModel", name := "canGrow", desc := "(I)Z" } : MethodName)) ∈ WD := wdT9 175 rfl rfl
theorem wd2206 : (Cond.instanceMethod ({ cls := "RestMillModel", name := "canGrow", desc := "(I)Z" } : MethodName)) ∈ WD := wdT9 177 rfl rfl
theorem wd2207 : (Cond.code ({ cls := "RestMillModel", name := "canGrow", desc := "(I)Z" } : MethodName) prog_10_method_106_code (2 : Nat) (Option.some ClassFile.FieldType.boolean)) ∈ WD := wdT9 178 rfl rfl
theorem wd2211 : (Cond.code ({ cls := "RestMillModel", name := "spare", desc := "()I" } : MethodName) prog_10_method_110_code (3 : Nat) (Option.some ClassFile.FieldType.int)) ∈ WD := wdT9 182 rfl rfl
theorem wd2212 : (Cond.methodLink "RestMillModel" (400 : Nat) ({ cls := "RestMillModel", name := "canDrop", desc := "(I)Z" } : MethodName)) ∈ WD := wdT9 183 rfl rfl
theorem wd2214 : (Cond.instanceMethod ({ cls := "RestMillModel", name := "canDrop", desc := "(I)Z" } : MethodName)) ∈ WD := wdT9 185 rfl rfl
theorem wd2215 : (Cond.code ({ cls := "RestMillModel", name := "canDrop", desc := "(I)Z" } : MethodName) prog_10_method_109_code (5 : Nat) (Option.some ClassFile.FieldType.boolean)) ∈ WD := wdT9 186 rfl rfl
theorem wd2216 : (Cond.methodLink "RestMillModel" (396 : Nat) ({ cls := "RestMillModel", name := "isTold", desc := "(JJ)Z" } : MethodName)) ∈ WD := wdT9 187 rfl rfl
theorem wd2217 : (Cond.static ({ cls := "RestMillModel", name := "isTold", desc := "(JJ)Z" } : MethodName)) ∈ WD := wdT9 188 rfl rfl
theorem wd2218 : (Cond.code ({ cls := "RestMillModel", name := "isTold", desc := "(JJ)Z" } : MethodName) prog_10_method_108_code (4 : Nat) (Option.some ClassFile.FieldType.boolean)) ∈ WD := wdT9 189 rfl rfl
theorem wd2222 : (Cond.code ({ cls := "RestMillModel", name := "greatest", desc := "()I" } : MethodName) prog_10_method_112_code (3 : Nat) (Option.some ClassFile.FieldType.int)) ∈ WD := wdT9 193 rfl rfl
theorem wd2223 : (Cond.methodLink "RestMillModel" (403 : Nat) ({ cls := "RestMillModel", name := "sizeOf", desc := "(I)J" } : MethodName)) ∈ WD := wdT9 194 rfl rfl
theorem wd2225 : (Cond.instanceMethod ({ cls := "RestMillModel", name := "sizeOf", desc := "(I)J" } : MethodName)) ∈ WD := wdT9 196 rfl rfl
theorem wd2226 : (Cond.code ({ cls := "RestMillModel", name := "sizeOf", desc := "(I)J" } : MethodName) prog_10_method_111_code (4 : Nat) (Option.some ClassFile.FieldType.long)) ∈ WD := wdT9 197 rfl rfl
theorem wd2230 : (Cond.code ({ cls := "RestMillModel", name := "mean", desc := "()D" } : MethodName) prog_10_method_113_code (4 : Nat) (Option.some ClassFile.FieldType.double)) ∈ WD := wdT9 201 rfl rfl
theorem wd2235 : (Cond.code ({ cls := "RestMillModel", name := "zeroShare", desc := "()F" } : MethodName) prog_10_method_114_code (4 : Nat) (Option.some ClassFile.FieldType.float)) ∈ WD := wdT9 206 rfl rfl
theorem wd2239 : (Cond.code ({ cls := "RestMillModel", name := "set", desc := "(II)I" } : MethodName) prog_10_method_119_code (3 : Nat) (Option.some ClassFile.FieldType.int)) ∈ WD := wdT9 210 rfl rfl
theorem wd2240 : (Cond.constantLong "RestMillModel" (414 : Nat) (-1000000000 : Int64)) ∈ WD := wdT9 211 rfl rfl
theorem wd2241 : (Cond.methodLink "RestMillModel" (416 : Nat) ({ cls := "RestMillModel", name := "tries", desc := "()V" } : MethodName)) ∈ WD := wdT9 212 rfl rfl
theorem wd2243 : (Cond.instanceMethod ({ cls := "RestMillModel", name := "tries", desc := "()V" } : MethodName)) ∈ WD := wdT9 214 rfl rfl
theorem wd2244 : (Cond.code ({ cls := "RestMillModel", name := "tries", desc := "()V" } : MethodName) prog_10_method_116_code (1 : Nat) (Option.none : Option ClassFile.FieldType)) ∈ WD := wdT9 215 rfl rfl
theorem wd2245 : (Cond.methodLink "RestMillModel" (419 : Nat) ({ cls := "RestMillModel", name := "setsNow", desc := "(II)I" } : MethodName)) ∈ WD := wdT9 216 rfl rfl
theorem wd2247 : (Cond.instanceMethod ({ cls := "RestMillModel", name := "setsNow", desc := "(II)I" } : MethodName)) ∈ WD := wdT9 218 rfl rfl
theorem wd2248 : (Cond.code ({ cls := "RestMillModel", name := "setsNow", desc := "(II)I" } : MethodName) prog_10_method_118_code (3 : Nat) (Option.some ClassFile.FieldType.int)) ∈ WD := wdT9 219 rfl rfl
theorem wd2249 : (Cond.methodLink "RestMillModel" (422 : Nat) ({ cls := "RestMillModel", name := "decided", desc := "(I)I" } : MethodName)) ∈ WD := wdT9 220 rfl rfl
theorem wd2251 : (Cond.instanceMethod ({ cls := "RestMillModel", name := "decided", desc := "(I)I" } : MethodName)) ∈ WD := wdT9 222 rfl rfl
theorem wd2252 : (Cond.code ({ cls := "RestMillModel", name := "decided", desc := "(I)I" } : MethodName) prog_10_method_117_code (4 : Nat) (Option.some ClassFile.FieldType.int)) ∈ WD := wdT9 223 rfl rfl
theorem wd2253 : (Cond.methodLink "RestMillModel" (411 : Nat) ({ cls := "RestMillModel", name := "tried", desc := "(I)I" } : MethodName)) ∈ WD := wdT9 224 rfl rfl
theorem wd2255 : (Cond.instanceMethod ({ cls := "RestMillModel", name := "tried", desc := "(I)I" } : MethodName)) ∈ WD := wdT9 226 rfl rfl
theorem wd2256 : (Cond.code ({ cls := "RestMillModel", name := "tried", desc := "(I)I" } : MethodName) prog_10_method_115_code (2 : Nat) (Option.some ClassFile.FieldType.int)) ∈ WD := wdT9 227 rfl rfl
theorem wd2260 : (Cond.code ({ cls := "RestMillModel", name := "hurt", desc := "(III)I" } : MethodName) prog_10_method_120_code (5 : Nat) (Option.some ClassFile.FieldType.int)) ∈ WD := wdT9 231 rfl rfl
theorem wd2264 : (Cond.code ({ cls := "RestMillModel", name := "operate", desc := "(IIII)I" } : MethodName) prog_10_method_121_code (5 : Nat) (Option.some ClassFile.FieldType.int)) ∈ WD := wdT9 235 rfl rfl
theorem wd2268 : (Cond.code ({ cls := "RestMillModel", name := "scale", desc := "(II)I" } : MethodName) prog_10_method_122_code (3 : Nat) (Option.some ClassFile.FieldType.int)) ∈ WD := wdT9 239 rfl rfl
theorem wd2272 : (Cond.code ({ cls := "RestMillModel", name := "mend", desc := "(I)I" } : MethodName) prog_10_method_123_code (2 : Nat) (Option.some ClassFile.FieldType.int)) ∈ WD := wdT10 3 rfl rfl
theorem wd2276 : (Cond.code ({ cls := "RestMillModel", name := "swap", desc := "(II)I" } : MethodName) prog_10_method_124_code (3 : Nat) (Option.some ClassFile.FieldType.int)) ∈ WD := wdT10 7 rfl rfl
theorem wd2280 : (Cond.code ({ cls := "RestMillModel", name := "grow", desc := "(I)I" } : MethodName) prog_10_method_128_code (2 : Nat) (Option.some ClassFile.FieldType.int)) ∈ WD := wdT10 11 rfl rfl
theorem wd2281 : (Cond.methodLink "RestMillModel" (431 : Nat) ({ cls := "RestMillModel", name := "grows", desc := "(I)I" } : MethodName)) ∈ WD := wdT10 12 rfl rfl
theorem wd2283 : (Cond.instanceMethod ({ cls := "RestMillModel", name := "grows", desc := "(I)I" } : MethodName)) ∈ WD := wdT10 14 rfl rfl
theorem wd2284 : (Cond.code ({ cls := "RestMillModel", name := "grows", desc := "(I)I" } : MethodName) prog_10_method_127_code (4 : Nat) (Option.some ClassFile.FieldType.int)) ∈ WD := wdT10 15 rfl rfl
theorem wd2285 : (Cond.methodLink "RestMillModel" (425 : Nat) ({ cls := "RestMillModel", name := "laysNumbers", desc := "()V" } : MethodName)) ∈ WD := wdT10 16 rfl rfl
theorem wd2287 : (Cond.instanceMethod ({ cls := "RestMillModel", name := "laysNumbers", desc := "()V" } : MethodName)) ∈ WD := wdT10 18 rfl rfl
theorem wd2288 : (Cond.code ({ cls := "RestMillModel", name := "laysNumbers", desc := "()V" } : MethodName) prog_10_method_125_code (2 : Nat) (Option.none : Option ClassFile.FieldType)) ∈ WD := wdT10 19 rfl rfl
theorem wd2289 : (Cond.methodLink "RestMillModel" (428 : Nat) ({ cls := "RestMillModel", name := "tellsNumbers", desc := "()V" } : MethodName)) ∈ WD := wdT10 20 rfl rfl
theorem wd2291 : (Cond.instanceMethod ({ cls := "RestMillModel", name := "tellsNumbers", desc := "()V" } : MethodName)) ∈ WD := wdT10 22 rfl rfl
theorem wd2292 : (Cond.code ({ cls := "RestMillModel", name := "tellsNumbers", desc := "()V" } : MethodName) prog_10_method_126_code (2 : Nat) (Option.none : Option ClassFile.FieldType)) ∈ WD := wdT10 23 rfl rfl
theorem wd2296 : (Cond.code ({ cls := "RestMillModel", name := "drop", desc := "(I)I" } : MethodName) prog_10_method_130_code (2 : Nat) (Option.some ClassFile.FieldType.int)) ∈ WD := wdT10 27 rfl rfl
theorem wd2297 : (Cond.methodLink "RestMillModel" (434 : Nat) ({ cls := "RestMillModel", name := "dropsNow", desc := "(I)I" } : MethodName)) ∈ WD := wdT10 28 rfl rfl
theorem wd2299 : (Cond.instanceMethod ({ cls := "RestMillModel", name := "dropsNow", desc := "(I)I" } : MethodName)) ∈ WD := wdT10 30 rfl rfl
theorem wd2300 : (Cond.code ({ cls := "RestMillModel", name := "dropsNow", desc := "(I)I" } : MethodName) prog_10_method_129_code (3 : Nat) (Option.some ClassFile.FieldType.int)) ∈ WD := wdT10 31 rfl rfl
theorem wd2304 : (Cond.code ({ cls := "RestMillModel", name := "setStrict", desc := "(I)I" } : MethodName) prog_10_method_131_code (3 : Nat) (Option.some ClassFile.FieldType.int)) ∈ WD := wdT10 35 rfl rfl
theorem wd2308 : (Cond.code ({ cls := "RestMillModel", name := "undo", desc := "()I" } : MethodName) prog_10_method_132_code (1 : Nat) (Option.some ClassFile.FieldType.int)) ∈ WD := wdT10 39 rfl rfl
theorem wd2312 : (Cond.code ({ cls := "RestMillModel", name := "printRegister", desc := "(I)I" } : MethodName) prog_10_method_135_code (3 : Nat) (Option.some ClassFile.FieldType.int)) ∈ WD := wdT10 43 rfl rfl
theorem wd2313 : (Cond.methodLink "RestMillModel" (440 : Nat) ({ cls := "RestMillModel", name := "writes", desc := "(I)V" } : MethodName)) ∈ WD := wdT10 44 rfl rfl
theorem wd2315 : (Cond.instanceMethod ({ cls := "RestMillModel", name := "writes", desc := "(I)V" } : MethodName)) ∈ WD := wdT10 46 rfl rfl
theorem wd2316 : (Cond.code ({ cls := "RestMillModel", name := "writes", desc := "(I)V" } : MethodName) prog_10_method_133_code (2 : Nat) (Option.none : Option ClassFile.FieldType)) ∈ WD := wdT10 47 rfl rfl
theorem wd2317 : (Cond.methodLink "RestMillModel" (447 : Nat) ({ cls := "RestMillModel", name := "writesNumber", desc := "(J)V" } : MethodName)) ∈ WD := wdT10 48 rfl rfl
theorem wd2319 : (Cond.instanceMethod ({ cls := "RestMillModel", name := "writesNumber", desc := "(J)V" } : MethodName)) ∈ WD := wdT10 50 rfl rfl
theorem wd2320 : (Cond.code ({ cls := "RestMillModel", name := "writesNumber", desc := "(J)V" } : MethodName) prog_10_method_134_code (7 : Nat) (Option.none : Option ClassFile.FieldType)) ∈ WD := wdT10 51 rfl rfl
theorem wd2321 : (Cond.constantLong "RestMillModel" (443 : Nat) (9 : Int64)) ∈ WD := wdT10 52 rfl rfl
theorem wd2322 : (Cond.constantLong "RestMillModel" (445 : Nat) (10 : Int64)) ∈ WD := wdT10 53 rfl rfl
theorem wd2326 : (Cond.code ({ cls := "RestMillModel", name := "printModuli", desc := "()I" } : MethodName) prog_10_method_136_code (2 : Nat) (Option.some ClassFile.FieldType.int)) ∈ WD := wdT10 57 rfl rfl
theorem wd2330 : (Cond.code ({ cls := "RestMillModel", name := "outputByte", desc := "(I)I" } : MethodName) prog_10_method_137_code (2 : Nat) (Option.some ClassFile.FieldType.int)) ∈ WD := wdT10 61 rfl rfl
theorem wd2334 : (Cond.code ({ cls := "RestMillModel", name := "saveState", desc := "()I" } : MethodName) prog_10_method_138_code (1 : Nat) (Option.some ClassFile.FieldType.int)) ∈ WD := wdT10 65 rfl rfl
theorem wd2338 : (Cond.code ({ cls := "RestMillModel", name := "restoreState", desc := "()I" } : MethodName) prog_10_method_139_code (1 : Nat) (Option.some ClassFile.FieldType.int)) ∈ WD := wdT10 69 rfl rfl
theorem wd2350 : (Cond.selects "java/lang/StringBuilder" ({ cls := "java/lang/StringBuilder", name := "length", desc := "()I" } : MethodName) ({ cls := "java/lang/StringBuilder", name := "length", desc := "()I" } : MethodName)) ∈ WD := wdT10 81 rfl rfl
theorem am {P : Cond → Prop} {a : Cond} {l : List Cond} (h : P a) (r : ∀ w ∈ l, P w) : ∀ w ∈ a :: l, P w := List.forall_mem_cons.mpr ⟨h, r⟩
theorem thr_IllegalArgumentException : ∀ w ∈ Cond.classLink "RestMill" 147 "java/lang/IllegalArgumentException" :: Cond.initialized "java/lang/IllegalArgumentException" :: vx_at0 "RestMill" 149 "java/lang/IllegalArgumentException" up2, w ∈ WD ∨ w ∈ xtra := by
  refine am (Or.inl wd1316) (am (Or.inl wd133) (fun w hw => ?_))
  have h : ∀ w ∈ Bundle.ownAtoms0 "RestMill" 149 "java/lang/IllegalArgumentException" up2, vx_no w = true → (w ∈ WD ∨ w ∈ xtra) := by
    refine am (fun _ => Or.inl wd130) ?_
    refine am (fun _ => Or.inl wd1138) ?_
    refine am (fun _ => Or.inl wd1147) ?_
    refine am (fun _ => Or.inl wd1154) ?_
    refine am (fun _ => Or.inl wd1157) ?_
    refine am (fun _ => Or.inl wd1159) ?_
    refine am (fun _ => Or.inl wd1139) ?_
    refine am (fun _ => Or.inl wd1140) ?_
    refine am (fun _ => Or.inl wd148) ?_
    refine am (fun _ => Or.inl wd149) ?_
    refine am (fun _ => Or.inl wd1141) ?_
    refine am (fun _ => Or.inl wd1146) ?_
    refine am (fun _ => Or.inl wd1155) ?_
    refine am (fun _ => Or.inl wd1180) ?_
    refine am (fun _ => Or.inl wd1128) ?_
    refine am (fun _ => Or.inl wd1181) ?_
    refine am (fun _ => Or.inl wd1130) ?_
    refine am (fun _ => Or.inl wd1182) ?_
    refine am (fun _ => Or.inl wd1132) ?_
    refine am (fun _ => Or.inl wd1142) ?_
    refine am (fun h => absurd h (by decide +kernel)) ?_
    refine am (fun _ => Or.inl wd1144) ?_
    refine am (fun h => absurd h (by decide +kernel)) ?_
    refine am (fun _ => Or.inl wd1134) ?_
    refine am (fun _ => Or.inl wd1318) ?_
    refine am (fun _ => Or.inl wd1319) ?_
    refine am (fun _ => Or.inl wd1320) ?_
    refine am (fun _ => Or.inl wd1321) ?_
    refine am (fun _ => Or.inr (List.mem_of_getElem? (i := 4) rfl)) ?_
    refine am (fun _ => Or.inl wd1321) ?_
    refine am (fun _ => Or.inl wd1322) ?_
    refine am (fun _ => Or.inl wd1323) ?_
    refine am (fun _ => Or.inl wd1324) ?_
    refine am (fun _ => Or.inr (List.mem_of_getElem? (i := 5) rfl)) ?_
    refine am (fun _ => Or.inl wd1324) ?_
    refine am (fun _ => Or.inl wd1325) ?_
    refine am (fun _ => Or.inl wd1326) ?_
    refine am (fun _ => Or.inl wd1139) ?_
    refine am (fun _ => Or.inr (List.mem_of_getElem? (i := 6) rfl)) ?_
    refine am (fun _ => Or.inl wd1317) ?_
    refine am (fun _ => Or.inl wd1117) ?_
    refine am (fun _ => Or.inr (List.mem_of_getElem? (i := 0) rfl)) ?_
    refine am (fun _ => Or.inl wd1125) ?_
    refine am (fun _ => Or.inl wd1126) ?_
    refine am (fun _ => Or.inl wd1127) ?_
    refine am (fun _ => Or.inl wd1129) ?_
    refine am (fun _ => Or.inl wd1131) ?_
    refine am (fun _ => Or.inl wd1133) ?_
    refine am (fun h => absurd h (by decide +kernel)) ?_
    refine am (fun h => absurd h (by decide +kernel)) ?_
    refine am (fun _ => Or.inl wd1137) ?_
    refine am (fun _ => Or.inl wd1136) ?_
    refine am (fun _ => Or.inl wd1135) ?_
    exact fun w hw => nomatch hw
  obtain ⟨h1, h2⟩ := List.mem_filter.mp hw
  exact h w h1 h2
theorem thr_IndexOutOfBoundsException : ∀ w ∈ Cond.classLink "RestMill" 339 "java/lang/IndexOutOfBoundsException" :: Cond.initialized "java/lang/IndexOutOfBoundsException" :: vx_at0 "RestMill" 341 "java/lang/IndexOutOfBoundsException" up2, w ∈ WD ∨ w ∈ xtra := by
  refine am (Or.inl wd1358) (am (Or.inl wd134) (fun w hw => ?_))
  have h : ∀ w ∈ Bundle.ownAtoms0 "RestMill" 341 "java/lang/IndexOutOfBoundsException" up2, vx_no w = true → (w ∈ WD ∨ w ∈ xtra) := by
    refine am (fun _ => Or.inl wd130) ?_
    refine am (fun _ => Or.inl wd1138) ?_
    refine am (fun _ => Or.inl wd1147) ?_
    refine am (fun _ => Or.inl wd1154) ?_
    refine am (fun _ => Or.inl wd1157) ?_
    refine am (fun _ => Or.inl wd1159) ?_
    refine am (fun _ => Or.inl wd1139) ?_
    refine am (fun _ => Or.inl wd1140) ?_
    refine am (fun _ => Or.inl wd148) ?_
    refine am (fun _ => Or.inl wd149) ?_
    refine am (fun _ => Or.inl wd1141) ?_
    refine am (fun _ => Or.inl wd1146) ?_
    refine am (fun _ => Or.inl wd1155) ?_
    refine am (fun _ => Or.inl wd1180) ?_
    refine am (fun _ => Or.inl wd1128) ?_
    refine am (fun _ => Or.inl wd1181) ?_
    refine am (fun _ => Or.inl wd1130) ?_
    refine am (fun _ => Or.inl wd1182) ?_
    refine am (fun _ => Or.inl wd1132) ?_
    refine am (fun _ => Or.inl wd1142) ?_
    refine am (fun h => absurd h (by decide +kernel)) ?_
    refine am (fun _ => Or.inl wd1144) ?_
    refine am (fun h => absurd h (by decide +kernel)) ?_
    refine am (fun _ => Or.inl wd1134) ?_
    refine am (fun _ => Or.inl wd1368) ?_
    refine am (fun _ => Or.inl wd1369) ?_
    refine am (fun _ => Or.inl wd1370) ?_
    refine am (fun _ => Or.inl wd1321) ?_
    refine am (fun _ => Or.inr (List.mem_of_getElem? (i := 4) rfl)) ?_
    refine am (fun _ => Or.inl wd1321) ?_
    refine am (fun _ => Or.inl wd1322) ?_
    refine am (fun _ => Or.inl wd1323) ?_
    refine am (fun _ => Or.inl wd1324) ?_
    refine am (fun _ => Or.inr (List.mem_of_getElem? (i := 5) rfl)) ?_
    refine am (fun _ => Or.inl wd1324) ?_
    refine am (fun _ => Or.inl wd1325) ?_
    refine am (fun _ => Or.inl wd1326) ?_
    refine am (fun _ => Or.inl wd1139) ?_
    refine am (fun _ => Or.inr (List.mem_of_getElem? (i := 6) rfl)) ?_
    refine am (fun _ => Or.inl wd1367) ?_
    refine am (fun _ => Or.inl wd1359) ?_
    refine am (fun _ => Or.inr (List.mem_of_getElem? (i := 1) rfl)) ?_
    refine am (fun _ => Or.inl wd1361) ?_
    refine am (fun _ => Or.inl wd1151) ?_
    refine am (fun _ => Or.inl wd1362) ?_
    refine am (fun _ => Or.inl wd1363) ?_
    refine am (fun _ => Or.inl wd1364) ?_
    refine am (fun _ => Or.inl wd1365) ?_
    refine am (fun h => absurd h (by decide +kernel)) ?_
    refine am (fun h => absurd h (by decide +kernel)) ?_
    refine am (fun _ => Or.inl wd1137) ?_
    refine am (fun _ => Or.inl wd1136) ?_
    refine am (fun _ => Or.inl wd1366) ?_
    exact fun w hw => nomatch hw
  obtain ⟨h1, h2⟩ := List.mem_filter.mp hw
  exact h w h1 h2
theorem thr_IllegalStateException : ∀ w ∈ Cond.classLink "RestMill" 233 "java/lang/IllegalStateException" :: Cond.initialized "java/lang/IllegalStateException" :: vx_at0 "RestMill" 235 "java/lang/IllegalStateException" up2, w ∈ WD ∨ w ∈ xtra := by
  refine am (Or.inl wd1489) (am (Or.inl wd135) (fun w hw => ?_))
  have h : ∀ w ∈ Bundle.ownAtoms0 "RestMill" 235 "java/lang/IllegalStateException" up2, vx_no w = true → (w ∈ WD ∨ w ∈ xtra) := by
    refine am (fun _ => Or.inl wd130) ?_
    refine am (fun _ => Or.inl wd1138) ?_
    refine am (fun _ => Or.inl wd1147) ?_
    refine am (fun _ => Or.inl wd1154) ?_
    refine am (fun _ => Or.inl wd1157) ?_
    refine am (fun _ => Or.inl wd1159) ?_
    refine am (fun _ => Or.inl wd1139) ?_
    refine am (fun _ => Or.inl wd1140) ?_
    refine am (fun _ => Or.inl wd148) ?_
    refine am (fun _ => Or.inl wd149) ?_
    refine am (fun _ => Or.inl wd1141) ?_
    refine am (fun _ => Or.inl wd1146) ?_
    refine am (fun _ => Or.inl wd1155) ?_
    refine am (fun _ => Or.inl wd1180) ?_
    refine am (fun _ => Or.inl wd1128) ?_
    refine am (fun _ => Or.inl wd1181) ?_
    refine am (fun _ => Or.inl wd1130) ?_
    refine am (fun _ => Or.inl wd1182) ?_
    refine am (fun _ => Or.inl wd1132) ?_
    refine am (fun _ => Or.inl wd1142) ?_
    refine am (fun h => absurd h (by decide +kernel)) ?_
    refine am (fun _ => Or.inl wd1144) ?_
    refine am (fun h => absurd h (by decide +kernel)) ?_
    refine am (fun _ => Or.inl wd1134) ?_
    refine am (fun _ => Or.inl wd1499) ?_
    refine am (fun _ => Or.inl wd1500) ?_
    refine am (fun _ => Or.inl wd1501) ?_
    refine am (fun _ => Or.inl wd1321) ?_
    refine am (fun _ => Or.inr (List.mem_of_getElem? (i := 4) rfl)) ?_
    refine am (fun _ => Or.inl wd1321) ?_
    refine am (fun _ => Or.inl wd1322) ?_
    refine am (fun _ => Or.inl wd1323) ?_
    refine am (fun _ => Or.inl wd1324) ?_
    refine am (fun _ => Or.inr (List.mem_of_getElem? (i := 5) rfl)) ?_
    refine am (fun _ => Or.inl wd1324) ?_
    refine am (fun _ => Or.inl wd1325) ?_
    refine am (fun _ => Or.inl wd1326) ?_
    refine am (fun _ => Or.inl wd1139) ?_
    refine am (fun _ => Or.inr (List.mem_of_getElem? (i := 6) rfl)) ?_
    refine am (fun _ => Or.inl wd1498) ?_
    refine am (fun _ => Or.inl wd1490) ?_
    refine am (fun _ => Or.inr (List.mem_of_getElem? (i := 2) rfl)) ?_
    refine am (fun _ => Or.inl wd1492) ?_
    refine am (fun _ => Or.inl wd1150) ?_
    refine am (fun _ => Or.inl wd1493) ?_
    refine am (fun _ => Or.inl wd1494) ?_
    refine am (fun _ => Or.inl wd1495) ?_
    refine am (fun _ => Or.inl wd1496) ?_
    refine am (fun h => absurd h (by decide +kernel)) ?_
    refine am (fun h => absurd h (by decide +kernel)) ?_
    refine am (fun _ => Or.inl wd1137) ?_
    refine am (fun _ => Or.inl wd1136) ?_
    refine am (fun _ => Or.inl wd1497) ?_
    exact fun w hw => nomatch hw
  obtain ⟨h1, h2⟩ := List.mem_filter.mp hw
  exact h w h1 h2
theorem thr_NoSuchElementException : ∀ w ∈ Cond.classLink "RestMill" 300 "java/util/NoSuchElementException" :: Cond.initialized "java/util/NoSuchElementException" :: vx_at0 "RestMill" 302 "java/util/NoSuchElementException" up2, w ∈ WD ∨ w ∈ xtra := by
  refine am (Or.inl wd1643) (am (Or.inl wd136) (fun w hw => ?_))
  have h : ∀ w ∈ Bundle.ownAtoms0 "RestMill" 302 "java/util/NoSuchElementException" up2, vx_no w = true → (w ∈ WD ∨ w ∈ xtra) := by
    refine am (fun _ => Or.inl wd130) ?_
    refine am (fun _ => Or.inl wd1138) ?_
    refine am (fun _ => Or.inl wd1147) ?_
    refine am (fun _ => Or.inl wd1154) ?_
    refine am (fun _ => Or.inl wd1157) ?_
    refine am (fun _ => Or.inl wd1159) ?_
    refine am (fun _ => Or.inl wd1139) ?_
    refine am (fun _ => Or.inl wd1140) ?_
    refine am (fun _ => Or.inl wd148) ?_
    refine am (fun _ => Or.inl wd149) ?_
    refine am (fun _ => Or.inl wd1141) ?_
    refine am (fun _ => Or.inl wd1146) ?_
    refine am (fun _ => Or.inl wd1155) ?_
    refine am (fun _ => Or.inl wd1180) ?_
    refine am (fun _ => Or.inl wd1128) ?_
    refine am (fun _ => Or.inl wd1181) ?_
    refine am (fun _ => Or.inl wd1130) ?_
    refine am (fun _ => Or.inl wd1182) ?_
    refine am (fun _ => Or.inl wd1132) ?_
    refine am (fun _ => Or.inl wd1142) ?_
    refine am (fun h => absurd h (by decide +kernel)) ?_
    refine am (fun _ => Or.inl wd1144) ?_
    refine am (fun h => absurd h (by decide +kernel)) ?_
    refine am (fun _ => Or.inl wd1134) ?_
    refine am (fun _ => Or.inl wd1653) ?_
    refine am (fun _ => Or.inl wd1654) ?_
    refine am (fun _ => Or.inl wd1655) ?_
    refine am (fun _ => Or.inl wd1321) ?_
    refine am (fun _ => Or.inr (List.mem_of_getElem? (i := 4) rfl)) ?_
    refine am (fun _ => Or.inl wd1321) ?_
    refine am (fun _ => Or.inl wd1322) ?_
    refine am (fun _ => Or.inl wd1323) ?_
    refine am (fun _ => Or.inl wd1324) ?_
    refine am (fun _ => Or.inr (List.mem_of_getElem? (i := 5) rfl)) ?_
    refine am (fun _ => Or.inl wd1324) ?_
    refine am (fun _ => Or.inl wd1325) ?_
    refine am (fun _ => Or.inl wd1326) ?_
    refine am (fun _ => Or.inl wd1139) ?_
    refine am (fun _ => Or.inr (List.mem_of_getElem? (i := 6) rfl)) ?_
    refine am (fun _ => Or.inl wd1652) ?_
    refine am (fun _ => Or.inl wd1644) ?_
    refine am (fun _ => Or.inr (List.mem_of_getElem? (i := 3) rfl)) ?_
    refine am (fun _ => Or.inl wd1646) ?_
    refine am (fun _ => Or.inl wd1153) ?_
    refine am (fun _ => Or.inl wd1647) ?_
    refine am (fun _ => Or.inl wd1648) ?_
    refine am (fun _ => Or.inl wd1649) ?_
    refine am (fun _ => Or.inl wd1650) ?_
    refine am (fun h => absurd h (by decide +kernel)) ?_
    refine am (fun h => absurd h (by decide +kernel)) ?_
    refine am (fun _ => Or.inl wd1137) ?_
    refine am (fun _ => Or.inl wd1136) ?_
    refine am (fun _ => Or.inl wd1651) ?_
    exact fun w hw => nomatch hw
  obtain ⟨h1, h2⟩ := List.mem_filter.mp hw
  exact h w h1 h2
def M_jMath_floorDiv : MM := (⟨"java/lang/Math", "floorDiv", "(JJ)J"⟩, prog_25_method_49_code, 6, (some .long))
theorem q_jMath_floorDiv : mOk M_jMath_floorDiv 2 := ⟨wd375, wd122, by decide, by decide, by decide +kernel, by decide, tz_jMath rfl⟩
def M_jMath_floorMod : MM := (⟨"java/lang/Math", "floorMod", "(JJ)J"⟩, prog_25_method_52_code, 6, (some .long))
theorem q_jMath_floorMod : mOk M_jMath_floorMod 2 := ⟨wd384, wd122, by decide, by decide, by decide +kernel, by decide, tz_jMath rfl⟩
def M_jMath_max : MM := (⟨"java/lang/Math", "max", "(II)I"⟩, prog_25_method_65_code, 2, (some .int))
theorem q_jMath_max : mOk M_jMath_max 2 := ⟨wd549, wd122, by decide, by decide, by decide +kernel, by decide, tz_jMath rfl⟩
def M_jMath_min : MM := (⟨"java/lang/Math", "min", "(II)I"⟩, prog_25_method_69_code, 2, (some .int))
theorem q_jMath_min : mOk M_jMath_min 2 := ⟨wd552, wd122, by decide, by decide, by decide +kernel, by decide, tz_jMath rfl⟩
def M_jArr_fill_AJJ : MM := (⟨"java/util/Arrays", "fill", "([JJ)V"⟩, prog_37_method_101_code, 5, none)
theorem q_jArr_fill_AJJ : mOk M_jArr_fill_AJJ 2 := ⟨wd605, wd127, by decide, by decide, by decide +kernel, by decide, tz_jArr rfl⟩
def M_jArr_fill_AII : MM := (⟨"java/util/Arrays", "fill", "([II)V"⟩, prog_37_method_103_code, 4, none)
theorem q_jArr_fill_AII : mOk M_jArr_fill_AII 2 := ⟨wd608, wd127, by decide, by decide, by decide +kernel, by decide, tz_jArr rfl⟩
def M_jMath_abs : MM := (⟨"java/lang/Math", "abs", "(J)J"⟩, prog_25_method_61_code, 2, (some .long))
theorem q_jMath_abs : mOk M_jMath_abs 1 := ⟨wd905, wd122, by decide, by decide, by decide +kernel, by decide, tz_jMath rfl⟩
def M_jLong_compare : MM := (⟨"java/lang/Long", "compare", "(JJ)I"⟩, prog_24_method_42_code, 4, (some .int))
theorem q_jLong_compare : mOk M_jLong_compare 2 := ⟨wd1315, wd129, by decide, by decide, by decide +kernel, by decide, tz_jLong rfl⟩
def M_Mo_init : MM := (⟨"RestMill$Moduli", "<init>", "()V"⟩, prog_4_method_1_code, 1, none)
theorem q_Mo_init : mOk M_Mo_init 0 := ⟨wd160, wd112, by decide, by decide, by decide +kernel, by decide, tz_Mo rfl⟩
def M_Mo_insert : MM := (⟨"RestMill$Moduli", "insert", "(I)V"⟩, prog_4_method_12_code, 4, none)
theorem q_Mo_insert : mOk M_Mo_insert 1 := ⟨wd357, wd112, by decide, by decide, by decide +kernel, by decide, tz_Mo rfl⟩
def M_Mo_bases : MM := (⟨"RestMill$Moduli", "bases", "()I"⟩, prog_4_method_6_code, 1, (some .int))
theorem q_Mo_bases : mOk M_Mo_bases 0 := ⟨wd361, wd112, by decide, by decide, by decide +kernel, by decide, tz_Mo rfl⟩
def M_Mo_measure : MM := (⟨"RestMill$Moduli", "measure", "()V"⟩, prog_4_method_15_code, 4, none)
theorem q_Mo_measure : mOk M_Mo_measure 0 := ⟨wd365, wd112, by decide, by decide, by decide +kernel, by decide, tz_Mo rfl⟩
def M_Mo_at : MM := (⟨"RestMill$Moduli", "at", "(I)I"⟩, prog_4_method_4_code, 2, (some .int))
theorem q_Mo_at : mOk M_Mo_at 1 := ⟨wd369, wd112, by decide, by decide, by decide +kernel, by decide, tz_Mo rfl⟩
def M_Mo_setChecks : MM := (⟨"RestMill$Moduli", "setChecks", "(I)V"⟩, prog_4_method_14_code, 2, none)
theorem q_Mo_setChecks : mOk M_Mo_setChecks 1 := ⟨wd388, wd112, by decide, by decide, by decide +kernel, by decide, tz_Mo rfl⟩
def M_Mo_clear : MM := (⟨"RestMill$Moduli", "clear", "()V"⟩, prog_4_method_3_code, 1, none)
theorem q_Mo_clear : mOk M_Mo_clear 0 := ⟨wd602, wd112, by decide, by decide, by decide +kernel, by decide, tz_Mo rfl⟩
def M_Mo_tooGreatWith : MM := (⟨"RestMill$Moduli", "tooGreatWith", "(I)Z"⟩, prog_4_method_9_code, 2, (some .boolean))
theorem q_Mo_tooGreatWith : mOk M_Mo_tooGreatWith 1 := ⟨wd641, wd112, by decide, by decide, by decide +kernel, by decide, tz_Mo rfl⟩
def M_Mo_hasCommonWith : MM := (⟨"RestMill$Moduli", "hasCommonWith", "(I)Z"⟩, prog_4_method_10_code, 3, (some .boolean))
theorem q_Mo_hasCommonWith : mOk M_Mo_hasCommonWith 1 := ⟨wd646, wd112, by decide, by decide, by decide +kernel, by decide, tz_Mo rfl⟩
def M_Mo_half : MM := (⟨"RestMill$Moduli", "half", "()J"⟩, prog_4_method_7_code, 1, (some .long))
theorem q_Mo_half : mOk M_Mo_half 0 := ⟨wd679, wd112, by decide, by decide, by decide +kernel, by decide, tz_Mo rfl⟩
def M_Mo_copyFrom : MM := (⟨"RestMill$Moduli", "copyFrom", "(LRestMill$Moduli;)V"⟩, prog_4_method_2_code, 2, none)
theorem q_Mo_copyFrom : mOk M_Mo_copyFrom 1 := ⟨wd700, wd112, by decide, by decide, by decide +kernel, by decide, tz_Mo rfl⟩
def M_Mo_fits : MM := (⟨"RestMill$Moduli", "fits", "(J)Z"⟩, prog_4_method_8_code, 3, (some .boolean))
theorem q_Mo_fits : mOk M_Mo_fits 1 := ⟨wd815, wd112, by decide, by decide, by decide +kernel, by decide, tz_Mo rfl⟩
def M_Mo_weightAt : MM := (⟨"RestMill$Moduli", "weightAt", "(I)J"⟩, prog_4_method_5_code, 2, (some .long))
theorem q_Mo_weightAt : mOk M_Mo_weightAt 1 := ⟨wd860, wd112, by decide, by decide, by decide +kernel, by decide, tz_Mo rfl⟩
def M_Mo_canTake : MM := (⟨"RestMill$Moduli", "canTake", "(I)Z"⟩, prog_4_method_11_code, 2, (some .boolean))
theorem q_Mo_canTake : mOk M_Mo_canTake 1 := ⟨wd913, wd112, by decide, by decide, by decide +kernel, by decide, tz_Mo rfl⟩
def M_Mo_tellWithout : MM := (⟨"RestMill$Moduli", "tellWithout", "(IJ)Z"⟩, prog_4_method_16_code, 4, (some .boolean))
theorem q_Mo_tellWithout : mOk M_Mo_tellWithout 2 := ⟨wd928, wd112, by decide, by decide, by decide +kernel, by decide, tz_Mo rfl⟩
def M_Mo_remove : MM := (⟨"RestMill$Moduli", "remove", "(I)V"⟩, prog_4_method_13_code, 3, none)
theorem q_Mo_remove : mOk M_Mo_remove 1 := ⟨wd1627, wd112, by decide, by decide, by decide +kernel, by decide, tz_Mo rfl⟩
def M_Ml_init : MM := (⟨"RestMill$Mill", "<init>", "()V"⟩, prog_3_method_1_code, 1, none)
theorem q_Ml_init : mOk M_Ml_init 0 := ⟨wd154, wd111, by decide, by decide, by decide +kernel, by decide, tz_Ml rfl⟩
def M_Ml_clear : MM := (⟨"RestMill$Mill", "clear", "()V"⟩, prog_3_method_3_code, 1, none)
theorem q_Ml_clear : mOk M_Ml_clear 0 := ⟨wd598, wd111, by decide, by decide, by decide +kernel, by decide, tz_Ml rfl⟩
def M_Ml_put : MM := (⟨"RestMill$Mill", "put", "(IJ)V"⟩, prog_3_method_8_code, 4, none)
theorem q_Ml_put : mOk M_Ml_put 2 := ⟨wd684, wd111, by decide, by decide, by decide +kernel, by decide, tz_Ml rfl⟩
def M_Ml_copyFrom : MM := (⟨"RestMill$Mill", "copyFrom", "(LRestMill$Mill;)V"⟩, prog_3_method_2_code, 2, none)
theorem q_Ml_copyFrom : mOk M_Ml_copyFrom 1 := ⟨wd696, wd111, by decide, by decide, by decide +kernel, by decide, tz_Ml rfl⟩
def M_Ml_numberAt : MM := (⟨"RestMill$Mill", "numberAt", "(I)J"⟩, prog_3_method_7_code, 2, (some .long))
theorem q_Ml_numberAt : mOk M_Ml_numberAt 1 := ⟨wd788, wd111, by decide, by decide, by decide +kernel, by decide, tz_Ml rfl⟩
def M_Ml_reasonOf : MM := (⟨"RestMill$Mill", "reasonOf", "(IJJ)I"⟩, prog_3_method_27_code, 6, (some .int))
theorem q_Ml_reasonOf : mOk M_Ml_reasonOf 3 := ⟨wd800, wd111, by decide, by decide, by decide +kernel, by decide, tz_Ml rfl⟩
def M_Ml_refusesResult : MM := (⟨"RestMill$Mill", "refusesResult", "(J)Z"⟩, prog_3_method_26_code, 3, (some .boolean))
theorem q_Ml_refusesResult : mOk M_Ml_refusesResult 1 := ⟨wd811, wd111, by decide, by decide, by decide +kernel, by decide, tz_Ml rfl⟩
def M_Ml_refuse : MM := (⟨"RestMill$Mill", "refuse", "(I)I"⟩, prog_3_method_6_code, 2, (some .int))
theorem q_Ml_refuse : mOk M_Ml_refuse 1 := ⟨wd820, wd111, by decide, by decide, by decide +kernel, by decide, tz_Ml rfl⟩
def M_Ml_book : MM := (⟨"RestMill$Mill", "book", "(I)V"⟩, prog_3_method_5_code, 2, none)
theorem q_Ml_book : mOk M_Ml_book 1 := ⟨wd824, wd111, by decide, by decide, by decide +kernel, by decide, tz_Ml rfl⟩
def M_Ml_finish : MM := (⟨"RestMill$Mill", "finish", "(IJ)I"⟩, prog_3_method_28_code, 4, (some .int))
theorem q_Ml_finish : mOk M_Ml_finish 2 := ⟨wd830, wd111, by decide, by decide, by decide +kernel, by decide, tz_Ml rfl⟩
def M_Ml_soundAt : MM := (⟨"RestMill$Mill", "soundAt", "(I)Z"⟩, prog_3_method_12_code, 2, (some .boolean))
theorem q_Ml_soundAt : mOk M_Ml_soundAt 1 := ⟨wd835, wd111, by decide, by decide, by decide +kernel, by decide, tz_Ml rfl⟩
def M_Ml_actScale : MM := (⟨"RestMill$Mill", "actScale", "(II)I"⟩, prog_3_method_31_code, 5, (some .int))
theorem q_Ml_actScale : mOk M_Ml_actScale 2 := ⟨wd840, wd111, by decide, by decide, by decide +kernel, by decide, tz_Ml rfl⟩
def M_Ml_exchange : MM := (⟨"RestMill$Mill", "exchange", "(II)V"⟩, prog_3_method_9_code, 5, none)
theorem q_Ml_exchange : mOk M_Ml_exchange 2 := ⟨wd848, wd111, by decide, by decide, by decide +kernel, by decide, tz_Ml rfl⟩
def M_Ml_actMend : MM := (⟨"RestMill$Mill", "actMend", "(I)I"⟩, prog_3_method_32_code, 4, (some .int))
theorem q_Ml_actMend : mOk M_Ml_actMend 1 := ⟨wd852, wd111, by decide, by decide, by decide +kernel, by decide, tz_Ml rfl⟩
def M_Ml_soundRest : MM := (⟨"RestMill$Mill", "soundRest", "(II)I"⟩, prog_3_method_23_code, 8, (some .int))
theorem q_Ml_soundRest : mOk M_Ml_soundRest 2 := ⟨wd856, wd111, by decide, by decide, by decide +kernel, by decide, tz_Ml rfl⟩
def M_Ml_restAt : MM := (⟨"RestMill$Mill", "restAt", "(II)I"⟩, prog_3_method_11_code, 3, (some .int))
theorem q_Ml_restAt : mOk M_Ml_restAt 2 := ⟨wd864, wd111, by decide, by decide, by decide +kernel, by decide, tz_Ml rfl⟩
def M_Ml_numberWithRest : MM := (⟨"RestMill$Mill", "numberWithRest", "(III)J"⟩, prog_3_method_22_code, 6, (some .long))
theorem q_Ml_numberWithRest : mOk M_Ml_numberWithRest 3 := ⟨wd869, wd111, by decide, by decide, by decide +kernel, by decide, tz_Ml rfl⟩
def M_Ml_sumOfParts : MM := (⟨"RestMill$Mill", "sumOfParts", "(I)J"⟩, prog_3_method_17_code, 5, (some .long))
theorem q_Ml_sumOfParts : mOk M_Ml_sumOfParts 1 := ⟨wd886, wd111, by decide, by decide, by decide +kernel, by decide, tz_Ml rfl⟩
def M_Ml_partAt : MM := (⟨"RestMill$Mill", "partAt", "(II)J"⟩, prog_3_method_16_code, 3, (some .long))
theorem q_Ml_partAt : mOk M_Ml_partAt 2 := ⟨wd890, wd111, by decide, by decide, by decide +kernel, by decide, tz_Ml rfl⟩
def M_Ml_valueByDigits : MM := (⟨"RestMill$Mill", "valueByDigits", "(I)J"⟩, prog_3_method_15_code, 7, (some .long))
theorem q_Ml_valueByDigits : mOk M_Ml_valueByDigits 1 := ⟨wd894, wd111, by decide, by decide, by decide +kernel, by decide, tz_Ml rfl⟩
def M_Ml_digitAt : MM := (⟨"RestMill$Mill", "digitAt", "(II)I"⟩, prog_3_method_14_code, 6, (some .int))
theorem q_Ml_digitAt : mOk M_Ml_digitAt 2 := ⟨wd898, wd111, by decide, by decide, by decide +kernel, by decide, tz_Ml rfl⟩
def M_Ml_valueAt : MM := (⟨"RestMill$Mill", "valueAt", "(I)J"⟩, prog_3_method_10_code, 2, (some .long))
theorem q_Ml_valueAt : mOk M_Ml_valueAt 1 := ⟨wd902, wd111, by decide, by decide, by decide +kernel, by decide, tz_Ml rfl⟩
def M_Ml_canDrop : MM := (⟨"RestMill$Mill", "canDrop", "(I)Z"⟩, prog_3_method_25_code, 3, (some .boolean))
theorem q_Ml_canDrop : mOk M_Ml_canDrop 1 := ⟨wd923, wd111, by decide, by decide, by decide +kernel, by decide, tz_Ml rfl⟩
def M_Ml_zeroRests : MM := (⟨"RestMill$Mill", "zeroRests", "(I)I"⟩, prog_3_method_21_code, 4, (some .int))
theorem q_Ml_zeroRests : mOk M_Ml_zeroRests 1 := ⟨wd947, wd111, by decide, by decide, by decide +kernel, by decide, tz_Ml rfl⟩
def M_Ml_soundRegisters : MM := (⟨"RestMill$Mill", "soundRegisters", "()I"⟩, prog_3_method_18_code, 3, (some .int))
theorem q_Ml_soundRegisters : mOk M_Ml_soundRegisters 0 := ⟨wd1308, wd111, by decide, by decide, by decide +kernel, by decide, tz_Ml rfl⟩
def M_Ml_registersWithSign : MM := (⟨"RestMill$Mill", "registersWithSign", "(I)I"⟩, prog_3_method_19_code, 4, (some .int))
theorem q_Ml_registersWithSign : mOk M_Ml_registersWithSign 1 := ⟨wd1312, wd111, by decide, by decide, by decide +kernel, by decide, tz_Ml rfl⟩
def M_Ml_accountAt : MM := (⟨"RestMill$Mill", "accountAt", "(I)I"⟩, prog_3_method_4_code, 2, (some .int))
theorem q_Ml_accountAt : mOk M_Ml_accountAt 1 := ⟨wd1337, wd111, by decide, by decide, by decide +kernel, by decide, tz_Ml rfl⟩
def M_Ml_orderOf : MM := (⟨"RestMill$Mill", "orderOf", "(II)I"⟩, prog_3_method_13_code, 3, (some .int))
theorem q_Ml_orderOf : mOk M_Ml_orderOf 2 := ⟨wd1457, wd111, by decide, by decide, by decide +kernel, by decide, tz_Ml rfl⟩
def M_Ml_differentRests : MM := (⟨"RestMill$Mill", "differentRests", "(II)I"⟩, prog_3_method_20_code, 5, (some .int))
theorem q_Ml_differentRests : mOk M_Ml_differentRests 2 := ⟨wd1475, wd111, by decide, by decide, by decide +kernel, by decide, tz_Ml rfl⟩
def M_Ml_faultsAt : MM := (⟨"RestMill$Mill", "faultsAt", "(I)I"⟩, prog_3_method_24_code, 4, (some .int))
theorem q_Ml_faultsAt : mOk M_Ml_faultsAt 1 := ⟨wd1524, wd111, by decide, by decide, by decide +kernel, by decide, tz_Ml rfl⟩
def M_Ml_actSet : MM := (⟨"RestMill$Mill", "actSet", "(II)I"⟩, prog_3_method_29_code, 3, (some .int))
theorem q_Ml_actSet : mOk M_Ml_actSet 2 := ⟨wd1549, wd111, by decide, by decide, by decide +kernel, by decide, tz_Ml rfl⟩
def M_Ml_actOperate : MM := (⟨"RestMill$Mill", "actOperate", "(IIII)I"⟩, prog_3_method_30_code, 10, (some .int))
theorem q_Ml_actOperate : mOk M_Ml_actOperate 4 := ⟨wd1573, wd111, by decide, by decide, by decide +kernel, by decide, tz_Ml rfl⟩
def M_Ml_actGrow : MM := (⟨"RestMill$Mill", "actGrow", "(I)I"⟩, prog_3_method_33_code, 2, (some .int))
theorem q_Ml_actGrow : mOk M_Ml_actGrow 1 := ⟨wd1609, wd111, by decide, by decide, by decide +kernel, by decide, tz_Ml rfl⟩
def M_Ml_actDrop : MM := (⟨"RestMill$Mill", "actDrop", "(I)I"⟩, prog_3_method_34_code, 2, (some .int))
theorem q_Ml_actDrop : mOk M_Ml_actDrop 1 := ⟨wd1622, wd111, by decide, by decide, by decide +kernel, by decide, tz_Ml rfl⟩
def M_Ch_init : MM := (⟨"RestMill$Changes", "<init>", "()V"⟩, prog_2_method_1_code, 2, none)
theorem q_Ch_init : mOk M_Ch_init 0 := ⟨wd217, wd113, by decide, by decide, by decide +kernel, by decide, tz_Ch rfl⟩
def M_Se_init : MM := (⟨"RestMill$SetupReader", "<init>", "()V"⟩, prog_7_method_1_code, 1, none)
theorem q_Se_init : mOk M_Se_init 0 := ⟨wd237, wd114, by decide, by decide, by decide +kernel, by decide, tz_Se rfl⟩
def M_Tk_init : MM := (⟨"RestMill$Tokens", "<init>", "()V"⟩, prog_8_method_1_code, 1, none)
theorem q_Tk_init : mOk M_Tk_init 0 := ⟨wd243, wd115, by decide, by decide, by decide +kernel, by decide, tz_Tk rfl⟩
def M_Sc_init : MM := (⟨"RestMill$ScriptReader", "<init>", "()V"⟩, prog_6_method_1_code, 1, none)
theorem q_Sc_init : mOk M_Sc_init 0 := ⟨wd278, wd116, by decide, by decide, by decide +kernel, by decide, tz_Sc rfl⟩
def M_Pg_init : MM := (⟨"RestMill$Program", "<init>", "()V"⟩, prog_5_method_1_code, 1, none)
theorem q_Pg_init : mOk M_Pg_init 0 := ⟨wd286, wd117, by decide, by decide, by decide +kernel, by decide, tz_Pg rfl⟩
def M_Tk_read : MM := (⟨"RestMill$Tokens", "read", "([BI)V"⟩, prog_8_method_2_code, 5, none)
theorem q_Tk_read : mOk M_Tk_read 2 := ⟨wd445, wd115, by decide, by decide, by decide +kernel, by decide, tz_Tk rfl⟩
def M_Tk_readToken : MM := (⟨"RestMill$Tokens", "readToken", "([BII)I"⟩, prog_8_method_10_code, 5, (some .int))
theorem q_Tk_readToken : mOk M_Tk_readToken 3 := ⟨wd449, wd115, by decide, by decide, by decide +kernel, by decide, tz_Tk rfl⟩
def M_Tk_byteAt : MM := (⟨"RestMill$Tokens", "byteAt", "([BI)I"⟩, prog_8_method_15_code, 2, (some .int))
theorem q_Tk_byteAt : mOk M_Tk_byteAt 2 := ⟨wd452, wd115, by decide, by decide, by decide +kernel, by decide, tz_Tk rfl⟩
def M_Tk_isLetter : MM := (⟨"RestMill$Tokens", "isLetter", "(I)Z"⟩, prog_8_method_16_code, 1, (some .boolean))
theorem q_Tk_isLetter : mOk M_Tk_isLetter 1 := ⟨wd455, wd115, by decide, by decide, by decide +kernel, by decide, tz_Tk rfl⟩
def M_Tk_readWord : MM := (⟨"RestMill$Tokens", "readWord", "([BII)I"⟩, prog_8_method_11_code, 6, (some .int))
theorem q_Tk_readWord : mOk M_Tk_readWord 3 := ⟨wd459, wd115, by decide, by decide, by decide +kernel, by decide, tz_Tk rfl⟩
def M_Tk_add : MM := (⟨"RestMill$Tokens", "add", "(III)V"⟩, prog_8_method_9_code, 4, none)
theorem q_Tk_add : mOk M_Tk_add 3 := ⟨wd463, wd115, by decide, by decide, by decide +kernel, by decide, tz_Tk rfl⟩
def M_Tk_wordKind : MM := (⟨"RestMill$Tokens", "wordKind", "([BII)I"⟩, prog_8_method_13_code, 3, (some .int))
theorem q_Tk_wordKind : mOk M_Tk_wordKind 3 := ⟨wd466, wd115, by decide, by decide, by decide +kernel, by decide, tz_Tk rfl⟩
def M_Tk_isWord : MM := (⟨"RestMill$Tokens", "isWord", "([BIILjava/lang/String;)Z"⟩, prog_8_method_14_code, 5, (some .boolean))
theorem q_Tk_isWord : mOk M_Tk_isWord 4 := ⟨wd470, wd115, by decide, by decide, by decide +kernel, by decide, tz_Tk rfl⟩
def M_Tk_isDigit : MM := (⟨"RestMill$Tokens", "isDigit", "(I)Z"⟩, prog_8_method_17_code, 1, (some .boolean))
theorem q_Tk_isDigit : mOk M_Tk_isDigit 1 := ⟨wd526, wd115, by decide, by decide, by decide +kernel, by decide, tz_Tk rfl⟩
def M_Tk_readNumeral : MM := (⟨"RestMill$Tokens", "readNumeral", "([BII)I"⟩, prog_8_method_12_code, 6, (some .int))
theorem q_Tk_readNumeral : mOk M_Tk_readNumeral 3 := ⟨wd530, wd115, by decide, by decide, by decide +kernel, by decide, tz_Tk rfl⟩
def M_Se_readSetup : MM := (⟨"RestMill$SetupReader", "readSetup", "(LRestMill$Mill;)Z"⟩, prog_7_method_2_code, 2, (some .boolean))
theorem q_Se_readSetup : mOk M_Se_readSetup 1 := ⟨wd594, wd114, by decide, by decide, by decide +kernel, by decide, tz_Se rfl⟩
def M_Se_readModuli : MM := (⟨"RestMill$SetupReader", "readModuli", "(LRestMill$Moduli;)Z"⟩, prog_7_method_3_code, 4, (some .boolean))
theorem q_Se_readModuli : mOk M_Se_readModuli 1 := ⟨wd612, wd114, by decide, by decide, by decide +kernel, by decide, tz_Se rfl⟩
def M_Tk_take : MM := (⟨"RestMill$Tokens", "take", "(I)Z"⟩, prog_8_method_6_code, 2, (some .boolean))
theorem q_Tk_take : mOk M_Tk_take 1 := ⟨wd616, wd115, by decide, by decide, by decide +kernel, by decide, tz_Tk rfl⟩
def M_Tk_kind : MM := (⟨"RestMill$Tokens", "kind", "()I"⟩, prog_8_method_3_code, 1, (some .int))
theorem q_Tk_kind : mOk M_Tk_kind 0 := ⟨wd620, wd115, by decide, by decide, by decide +kernel, by decide, tz_Tk rfl⟩
def M_Tk_fail : MM := (⟨"RestMill$Tokens", "fail", "(I)Z"⟩, prog_8_method_8_code, 2, (some .boolean))
theorem q_Tk_fail : mOk M_Tk_fail 1 := ⟨wd624, wd115, by decide, by decide, by decide +kernel, by decide, tz_Tk rfl⟩
def M_Tk_move : MM := (⟨"RestMill$Tokens", "move", "()V"⟩, prog_8_method_5_code, 1, none)
theorem q_Tk_move : mOk M_Tk_move 0 := ⟨wd628, wd115, by decide, by decide, by decide +kernel, by decide, tz_Tk rfl⟩
def M_Se_modulusError : MM := (⟨"RestMill$SetupReader", "modulusError", "(LRestMill$Moduli;)I"⟩, prog_7_method_4_code, 3, (some .int))
theorem q_Se_modulusError : mOk M_Se_modulusError 1 := ⟨wd633, wd114, by decide, by decide, by decide +kernel, by decide, tz_Se rfl⟩
def M_Tk_amount : MM := (⟨"RestMill$Tokens", "amount", "()I"⟩, prog_8_method_4_code, 1, (some .int))
theorem q_Tk_amount : mOk M_Tk_amount 0 := ⟨wd637, wd115, by decide, by decide, by decide +kernel, by decide, tz_Tk rfl⟩
def M_Se_readChecks : MM := (⟨"RestMill$SetupReader", "readChecks", "(LRestMill$Moduli;)Z"⟩, prog_7_method_5_code, 3, (some .boolean))
theorem q_Se_readChecks : mOk M_Se_readChecks 1 := ⟨wd656, wd114, by decide, by decide, by decide +kernel, by decide, tz_Se rfl⟩
def M_Tk_takeUpTo : MM := (⟨"RestMill$Tokens", "takeUpTo", "(J)Z"⟩, prog_8_method_7_code, 3, (some .boolean))
theorem q_Tk_takeUpTo : mOk M_Tk_takeUpTo 1 := ⟨wd661, wd115, by decide, by decide, by decide +kernel, by decide, tz_Tk rfl⟩
def M_Se_readStrict : MM := (⟨"RestMill$SetupReader", "readStrict", "(LRestMill$Mill;)Z"⟩, prog_7_method_6_code, 2, (some .boolean))
theorem q_Se_readStrict : mOk M_Se_readStrict 1 := ⟨wd667, wd114, by decide, by decide, by decide +kernel, by decide, tz_Se rfl⟩
def M_Se_readSets : MM := (⟨"RestMill$SetupReader", "readSets", "(LRestMill$Mill;)Z"⟩, prog_7_method_7_code, 5, (some .boolean))
theorem q_Se_readSets : mOk M_Se_readSets 1 := ⟨wd671, wd114, by decide, by decide, by decide +kernel, by decide, tz_Se rfl⟩
def M_Se_readSet : MM := (⟨"RestMill$SetupReader", "readSet", "(LRestMill$Mill;)Z"⟩, prog_7_method_8_code, 5, (some .boolean))
theorem q_Se_readSet : mOk M_Se_readSet 1 := ⟨wd675, wd114, by decide, by decide, by decide +kernel, by decide, tz_Se rfl⟩
def M_Ch_clear : MM := (⟨"RestMill$Changes", "clear", "()V"⟩, prog_2_method_2_code, 1, none)
theorem q_Ch_clear : mOk M_Ch_clear 0 := ⟨wd712, wd113, by decide, by decide, by decide +kernel, by decide, tz_Ch rfl⟩
def M_Sc_readScript : MM := (⟨"RestMill$ScriptReader", "readScript", "(LRestMill$Mill;)Z"⟩, prog_6_method_2_code, 4, (some .boolean))
theorem q_Sc_readScript : mOk M_Sc_readScript 1 := ⟨wd720, wd116, by decide, by decide, by decide +kernel, by decide, tz_Sc rfl⟩
def M_Pg_clear : MM := (⟨"RestMill$Program", "clear", "()V"⟩, prog_5_method_2_code, 1, none)
theorem q_Pg_clear : mOk M_Pg_clear 0 := ⟨wd724, wd117, by decide, by decide, by decide +kernel, by decide, tz_Pg rfl⟩
def M_Sc_readGive : MM := (⟨"RestMill$ScriptReader", "readGive", "()Z"⟩, prog_6_method_5_code, 2, (some .boolean))
theorem q_Sc_readGive : mOk M_Sc_readGive 0 := ⟨wd730, wd116, by decide, by decide, by decide +kernel, by decide, tz_Sc rfl⟩
def M_Sc_readSum : MM := (⟨"RestMill$ScriptReader", "readSum", "(I)Z"⟩, prog_6_method_6_code, 4, (some .boolean))
theorem q_Sc_readSum : mOk M_Sc_readSum 1 := ⟨wd737, wd116, by decide, by decide, by decide +kernel, by decide, tz_Sc rfl⟩
def M_Sc_readProduct : MM := (⟨"RestMill$ScriptReader", "readProduct", "(I)Z"⟩, prog_6_method_7_code, 4, (some .boolean))
theorem q_Sc_readProduct : mOk M_Sc_readProduct 1 := ⟨wd741, wd116, by decide, by decide, by decide +kernel, by decide, tz_Sc rfl⟩
def M_Sc_readFactor : MM := (⟨"RestMill$ScriptReader", "readFactor", "(I)Z"⟩, prog_6_method_8_code, 3, (some .boolean))
theorem q_Sc_readFactor : mOk M_Sc_readFactor 1 := ⟨wd745, wd116, by decide, by decide, by decide +kernel, by decide, tz_Sc rfl⟩
def M_Pg_add : MM := (⟨"RestMill$Program", "add", "(III)V"⟩, prog_5_method_3_code, 4, none)
theorem q_Pg_add : mOk M_Pg_add 3 := ⟨wd749, wd117, by decide, by decide, by decide +kernel, by decide, tz_Pg rfl⟩
def M_Sc_readOrder : MM := (⟨"RestMill$ScriptReader", "readOrder", "()Z"⟩, prog_6_method_4_code, 4, (some .boolean))
theorem q_Sc_readOrder : mOk M_Sc_readOrder 0 := ⟨wd755, wd116, by decide, by decide, by decide +kernel, by decide, tz_Sc rfl⟩
def M_Sc_startsStatement : MM := (⟨"RestMill$ScriptReader", "startsStatement", "(I)Z"⟩, prog_6_method_3_code, 1, (some .boolean))
theorem q_Sc_startsStatement : mOk M_Sc_startsStatement 1 := ⟨wd758, wd116, by decide, by decide, by decide +kernel, by decide, tz_Sc rfl⟩
def M_Ch_prepare : MM := (⟨"RestMill$Changes", "prepare", "(LRestMill$Mill;)V"⟩, prog_2_method_3_code, 3, none)
theorem q_Ch_prepare : mOk M_Ch_prepare 1 := ⟨wd762, wd113, by decide, by decide, by decide +kernel, by decide, tz_Ch rfl⟩
def M_Ch_slotAt : MM := (⟨"RestMill$Changes", "slotAt", "(I)LRestMill$Mill;"⟩, prog_2_method_7_code, 2, (some (.object "RestMill$Mill")))
theorem q_Ch_slotAt : mOk M_Ch_slotAt 1 := ⟨wd766, wd113, by decide, by decide, by decide +kernel, by decide, tz_Ch rfl⟩
def M_Ch_keep : MM := (⟨"RestMill$Changes", "keep", "()V"⟩, prog_2_method_4_code, 1, none)
theorem q_Ch_keep : mOk M_Ch_keep 0 := ⟨wd771, wd113, by decide, by decide, by decide +kernel, by decide, tz_Ch rfl⟩
def M_Pg_play : MM := (⟨"RestMill$Program", "play", "(LRestMill$Mill;)I"⟩, prog_5_method_4_code, 5, (some .int))
theorem q_Pg_play : mOk M_Pg_play 1 := ⟨wd776, wd117, by decide, by decide, by decide +kernel, by decide, tz_Pg rfl⟩
def M_Pg_doStep : MM := (⟨"RestMill$Program", "doStep", "(LRestMill$Mill;III)I"⟩, prog_5_method_5_code, 5, (some .int))
theorem q_Pg_doStep : mOk M_Pg_doStep 4 := ⟨wd780, wd117, by decide, by decide, by decide +kernel, by decide, tz_Pg rfl⟩
def M_Pg_push : MM := (⟨"RestMill$Program", "push", "(J)V"⟩, prog_5_method_7_code, 3, none)
theorem q_Pg_push : mOk M_Pg_push 1 := ⟨wd784, wd117, by decide, by decide, by decide +kernel, by decide, tz_Pg rfl⟩
def M_Pg_doOperation : MM := (⟨"RestMill$Program", "doOperation", "(LRestMill$Mill;I)I"⟩, prog_5_method_6_code, 8, (some .int))
theorem q_Pg_doOperation : mOk M_Pg_doOperation 2 := ⟨wd792, wd117, by decide, by decide, by decide +kernel, by decide, tz_Pg rfl⟩
def M_Pg_pop : MM := (⟨"RestMill$Program", "pop", "()J"⟩, prog_5_method_8_code, 1, (some .long))
theorem q_Pg_pop : mOk M_Pg_pop 0 := ⟨wd796, wd117, by decide, by decide, by decide +kernel, by decide, tz_Pg rfl⟩
def M_Ch_keepIfDone : MM := (⟨"RestMill$Changes", "keepIfDone", "(I)I"⟩, prog_2_method_5_code, 2, (some .int))
theorem q_Ch_keepIfDone : mOk M_Ch_keepIfDone 1 := ⟨wd1553, wd113, by decide, by decide, by decide +kernel, by decide, tz_Ch rfl⟩
def M_Ch_takeBack : MM := (⟨"RestMill$Changes", "takeBack", "(LRestMill$Mill;)V"⟩, prog_2_method_6_code, 3, none)
theorem q_Ch_takeBack : mOk M_Ch_takeBack 1 := ⟨wd1661, wd113, by decide, by decide, by decide +kernel, by decide, tz_Ch rfl⟩
def M_R_init : MM := (⟨"RestMill", "<init>", "()V"⟩, prog_1_method_1_code, 1, none)
theorem q_R_init : mOk M_R_init 0 := ⟨wd146, wd110, by decide, by decide, by decide +kernel, by decide, tz_R rfl⟩
def M_R_floorQuotient : MM := (⟨"RestMill", "floorQuotient", "(JJ)J"⟩, prog_1_method_57_code, 4, (some .long))
theorem q_R_floorQuotient : mOk M_R_floorQuotient 2 := ⟨wd372, wd110, by decide, by decide, by decide +kernel, by decide, tz_R rfl⟩
def M_R_inverseOf : MM := (⟨"RestMill", "inverseOf", "(JI)I"⟩, prog_1_method_63_code, 6, (some .int))
theorem q_R_inverseOf : mOk M_R_inverseOf 2 := ⟨wd378, wd110, by decide, by decide, by decide +kernel, by decide, tz_R rfl⟩
def M_R_floorRest : MM := (⟨"RestMill", "floorRest", "(JJ)J"⟩, prog_1_method_56_code, 4, (some .long))
theorem q_R_floorRest : mOk M_R_floorRest 2 := ⟨wd381, wd110, by decide, by decide, by decide +kernel, by decide, tz_R rfl⟩
def M_R_appendInput : MM := (⟨"RestMill", "appendInput", "(IIIII)I"⟩, prog_1_method_2_code, 6, (some .int))
theorem q_R_appendInput : mOk M_R_appendInput 5 := ⟨wd429, wd110, by decide, by decide, by decide +kernel, by decide, tz_R rfl⟩
def M_R_appendFour : MM := (⟨"RestMill", "appendFour", "(I)V"⟩, prog_1_method_49_code, 3, none)
theorem q_R_appendFour : mOk M_R_appendFour 1 := ⟨wd433, wd110, by decide, by decide, by decide +kernel, by decide, tz_R rfl⟩
def M_R_truncateInput : MM := (⟨"RestMill", "truncateInput", "(I)Z"⟩, prog_1_method_3_code, 2, (some .boolean))
theorem q_R_truncateInput : mOk M_R_truncateInput 1 := ⟨wd437, wd110, by decide, by decide, by decide +kernel, by decide, tz_R rfl⟩
def M_R_loadMill : MM := (⟨"RestMill", "loadMill", "()I"⟩, prog_1_method_4_code, 2, (some .int))
theorem q_R_loadMill : mOk M_R_loadMill 0 := ⟨wd441, wd110, by decide, by decide, by decide +kernel, by decide, tz_R rfl⟩
def M_R_greatestDivisor : MM := (⟨"RestMill", "greatestDivisor", "(II)I"⟩, prog_1_method_62_code, 6, (some .int))
theorem q_R_greatestDivisor : mOk M_R_greatestDivisor 2 := ⟨wd649, wd110, by decide, by decide, by decide +kernel, by decide, tz_R rfl⟩
def M_R_numberIn : MM := (⟨"RestMill", "numberIn", "(JJ)J"⟩, prog_1_method_58_code, 6, (some .long))
theorem q_R_numberIn : mOk M_R_numberIn 2 := ⟨wd687, wd110, by decide, by decide, by decide +kernel, by decide, tz_R rfl⟩
def M_R_endText : MM := (⟨"RestMill", "endText", "(LRestMill$Tokens;)V"⟩, prog_1_method_50_code, 2, none)
theorem q_R_endText : mOk M_R_endText 1 := ⟨wd692, wd110, by decide, by decide, by decide +kernel, by decide, tz_R rfl⟩
def M_R_copyRow_AIAI : MM := (⟨"RestMill", "copyRow", "([I[I)V"⟩, prog_1_method_60_code, 3, none)
theorem q_R_copyRow_AIAI : mOk M_R_copyRow_AIAI 2 := ⟨wd703, wd110, by decide, by decide, by decide +kernel, by decide, tz_R rfl⟩
def M_R_copyRow_AJAJ : MM := (⟨"RestMill", "copyRow", "([J[J)V"⟩, prog_1_method_61_code, 3, none)
theorem q_R_copyRow_AJAJ : mOk M_R_copyRow_AJAJ 2 := ⟨wd706, wd110, by decide, by decide, by decide +kernel, by decide, tz_R rfl⟩
def M_R_playScript : MM := (⟨"RestMill", "playScript", "()I"⟩, prog_1_method_5_code, 2, (some .int))
theorem q_R_playScript : mOk M_R_playScript 0 := ⟨wd716, wd110, by decide, by decide, by decide +kernel, by decide, tz_R rfl⟩
def M_R_divides : MM := (⟨"RestMill", "divides", "(I)Z"⟩, prog_1_method_55_code, 1, (some .boolean))
theorem q_R_divides : mOk M_R_divides 1 := ⟨wd803, wd110, by decide, by decide, by decide +kernel, by decide, tz_R rfl⟩
def M_R_exactOf : MM := (⟨"RestMill", "exactOf", "(IJJ)J"⟩, prog_1_method_59_code, 5, (some .long))
theorem q_R_exactOf : mOk M_R_exactOf 3 := ⟨wd806, wd110, by decide, by decide, by decide +kernel, by decide, tz_R rfl⟩
def M_R_errorCode : MM := (⟨"RestMill", "errorCode", "()I"⟩, prog_1_method_6_code, 1, (some .int))
theorem q_R_errorCode : mOk M_R_errorCode 0 := ⟨wd874, wd110, by decide, by decide, by decide +kernel, by decide, tz_R rfl⟩
def M_R_errorOffset : MM := (⟨"RestMill", "errorOffset", "()I"⟩, prog_1_method_7_code, 1, (some .int))
theorem q_R_errorOffset : mOk M_R_errorOffset 0 := ⟨wd878, wd110, by decide, by decide, by decide +kernel, by decide, tz_R rfl⟩
def M_R_gap : MM := (⟨"RestMill", "gap", "()J"⟩, prog_1_method_23_code, 6, (some .long))
theorem q_R_gap : mOk M_R_gap 0 := ⟨wd882, wd110, by decide, by decide, by decide +kernel, by decide, tz_R rfl⟩
def M_R_nextModulus : MM := (⟨"RestMill", "nextModulus", "()I"⟩, prog_1_method_29_code, 2, (some .int))
theorem q_R_nextModulus : mOk M_R_nextModulus 0 := ⟨wd909, wd110, by decide, by decide, by decide +kernel, by decide, tz_R rfl⟩
def M_R_spare : MM := (⟨"RestMill", "spare", "()I"⟩, prog_1_method_30_code, 3, (some .int))
theorem q_R_spare : mOk M_R_spare 0 := ⟨wd919, wd110, by decide, by decide, by decide +kernel, by decide, tz_R rfl⟩
def M_R_greatest : MM := (⟨"RestMill", "greatest", "()I"⟩, prog_1_method_31_code, 3, (some .int))
theorem q_R_greatest : mOk M_R_greatest 0 := ⟨wd933, wd110, by decide, by decide, by decide +kernel, by decide, tz_R rfl⟩
def M_R_mean : MM := (⟨"RestMill", "mean", "()D"⟩, prog_1_method_32_code, 4, (some .double))
theorem q_R_mean : mOk M_R_mean 0 := ⟨wd938, wd110, by decide, by decide, by decide +kernel, by decide, tz_R rfl⟩
def M_R_zeroShare : MM := (⟨"RestMill", "zeroShare", "()F"⟩, prog_1_method_33_code, 3, (some .float))
theorem q_R_zeroShare : mOk M_R_zeroShare 0 := ⟨wd943, wd110, by decide, by decide, by decide +kernel, by decide, tz_R rfl⟩
def M_R_printModuli : MM := (⟨"RestMill", "printModuli", "()I"⟩, prog_1_method_45_code, 2, (some .int))
theorem q_R_printModuli : mOk M_R_printModuli 0 := ⟨wd951, wd110, by decide, by decide, by decide +kernel, by decide, tz_R rfl⟩
def M_R_outputByte : MM := (⟨"RestMill", "outputByte", "(I)I"⟩, prog_1_method_46_code, 2, (some .int))
theorem q_R_outputByte : mOk M_R_outputByte 1 := ⟨wd1282, wd110, by decide, by decide, by decide +kernel, by decide, tz_R rfl⟩
def M_R_saveState : MM := (⟨"RestMill", "saveState", "()I"⟩, prog_1_method_47_code, 1, (some .int))
theorem q_R_saveState : mOk M_R_saveState 0 := ⟨wd1296, wd110, by decide, by decide, by decide +kernel, by decide, tz_R rfl⟩
def M_R_count : MM := (⟨"RestMill", "count", "(I)I"⟩, prog_1_method_8_code, 2, (some .int))
theorem q_R_count : mOk M_R_count 1 := ⟨wd1304, wd110, by decide, by decide, by decide +kernel, by decide, tz_R rfl⟩
def M_R_account : MM := (⟨"RestMill", "account", "(I)I"⟩, prog_1_method_9_code, 2, (some .int))
theorem q_R_account : mOk M_R_account 1 := ⟨wd1333, wd110, by decide, by decide, by decide +kernel, by decide, tz_R rfl⟩
def M_R_bound : MM := (⟨"RestMill", "bound", "(I)J"⟩, prog_1_method_10_code, 2, (some .long))
theorem q_R_bound : mOk M_R_bound 1 := ⟨wd1344, wd110, by decide, by decide, by decide +kernel, by decide, tz_R rfl⟩
def M_R_modulus : MM := (⟨"RestMill", "modulus", "(I)I"⟩, prog_1_method_11_code, 2, (some .int))
theorem q_R_modulus : mOk M_R_modulus 1 := ⟨wd1353, wd110, by decide, by decide, by decide +kernel, by decide, tz_R rfl⟩
def M_R_needModulus : MM := (⟨"RestMill", "needModulus", "(I)V"⟩, prog_1_method_52_code, 2, none)
theorem q_R_needModulus : mOk M_R_needModulus 1 := ⟨wd1357, wd110, by decide, by decide, by decide +kernel, by decide, tz_R rfl⟩
def M_R_inverse : MM := (⟨"RestMill", "inverse", "(II)I"⟩, prog_1_method_12_code, 3, (some .int))
theorem q_R_inverse : mOk M_R_inverse 2 := ⟨wd1379, wd110, by decide, by decide, by decide +kernel, by decide, tz_R rfl⟩
def M_R_weight : MM := (⟨"RestMill", "weight", "(I)J"⟩, prog_1_method_13_code, 2, (some .long))
theorem q_R_weight : mOk M_R_weight 1 := ⟨wd1387, wd110, by decide, by decide, by decide +kernel, by decide, tz_R rfl⟩
def M_R_rest : MM := (⟨"RestMill", "rest", "(II)I"⟩, prog_1_method_14_code, 3, (some .int))
theorem q_R_rest : mOk M_R_rest 2 := ⟨wd1395, wd110, by decide, by decide, by decide +kernel, by decide, tz_R rfl⟩
def M_R_needRegister : MM := (⟨"RestMill", "needRegister", "(I)V"⟩, prog_1_method_51_code, 2, none)
theorem q_R_needRegister : mOk M_R_needRegister 1 := ⟨wd1399, wd110, by decide, by decide, by decide +kernel, by decide, tz_R rfl⟩
def M_R_digit : MM := (⟨"RestMill", "digit", "(II)I"⟩, prog_1_method_15_code, 3, (some .int))
theorem q_R_digit : mOk M_R_digit 2 := ⟨wd1407, wd110, by decide, by decide, by decide +kernel, by decide, tz_R rfl⟩
def M_R_part : MM := (⟨"RestMill", "part", "(II)J"⟩, prog_1_method_16_code, 3, (some .long))
theorem q_R_part : mOk M_R_part 2 := ⟨wd1415, wd110, by decide, by decide, by decide +kernel, by decide, tz_R rfl⟩
def M_R_rank : MM := (⟨"RestMill", "rank", "(I)I"⟩, prog_1_method_17_code, 2, (some .int))
theorem q_R_rank : mOk M_R_rank 1 := ⟨wd1423, wd110, by decide, by decide, by decide +kernel, by decide, tz_R rfl⟩
def M_R_value : MM := (⟨"RestMill", "value", "(I)J"⟩, prog_1_method_18_code, 2, (some .long))
theorem q_R_value : mOk M_R_value 1 := ⟨wd1430, wd110, by decide, by decide, by decide +kernel, by decide, tz_R rfl⟩
def M_R_number : MM := (⟨"RestMill", "number", "(I)J"⟩, prog_1_method_19_code, 2, (some .long))
theorem q_R_number : mOk M_R_number 1 := ⟨wd1438, wd110, by decide, by decide, by decide +kernel, by decide, tz_R rfl⟩
def M_R_isSound : MM := (⟨"RestMill", "isSound", "(I)Z"⟩, prog_1_method_20_code, 2, (some .boolean))
theorem q_R_isSound : mOk M_R_isSound 1 := ⟨wd1445, wd110, by decide, by decide, by decide +kernel, by decide, tz_R rfl⟩
def M_R_compare : MM := (⟨"RestMill", "compare", "(II)I"⟩, prog_1_method_21_code, 3, (some .int))
theorem q_R_compare : mOk M_R_compare 2 := ⟨wd1453, wd110, by decide, by decide, by decide +kernel, by decide, tz_R rfl⟩
def M_R_extend : MM := (⟨"RestMill", "extend", "(IIZ)I"⟩, prog_1_method_22_code, 4, (some .int))
theorem q_R_extend : mOk M_R_extend 3 := ⟨wd1464, wd110, by decide, by decide, by decide +kernel, by decide, tz_R rfl⟩
def M_R_distance : MM := (⟨"RestMill", "distance", "(II)I"⟩, prog_1_method_24_code, 3, (some .int))
theorem q_R_distance : mOk M_R_distance 2 := ⟨wd1471, wd110, by decide, by decide, by decide +kernel, by decide, tz_R rfl⟩
def M_R_exact : MM := (⟨"RestMill", "exact", "(III)J"⟩, prog_1_method_25_code, 4, (some .long))
theorem q_R_exact : mOk M_R_exact 3 := ⟨wd1483, wd110, by decide, by decide, by decide +kernel, by decide, tz_R rfl⟩
def M_R_needOperation : MM := (⟨"RestMill", "needOperation", "(I)V"⟩, prog_1_method_54_code, 2, none)
theorem q_R_needOperation : mOk M_R_needOperation 1 := ⟨wd1487, wd110, by decide, by decide, by decide +kernel, by decide, tz_R rfl⟩
def M_R_why : MM := (⟨"RestMill", "why", "(III)I"⟩, prog_1_method_26_code, 11, (some .int))
theorem q_R_why : mOk M_R_why 3 := ⟨wd1511, wd110, by decide, by decide, by decide +kernel, by decide, tz_R rfl⟩
def M_R_faults : MM := (⟨"RestMill", "faults", "(I)I"⟩, prog_1_method_27_code, 2, (some .int))
theorem q_R_faults : mOk M_R_faults 1 := ⟨wd1520, wd110, by decide, by decide, by decide +kernel, by decide, tz_R rfl⟩
def M_R_numberWith : MM := (⟨"RestMill", "numberWith", "(III)J"⟩, prog_1_method_28_code, 4, (some .long))
theorem q_R_numberWith : mOk M_R_numberWith 3 := ⟨wd1531, wd110, by decide, by decide, by decide +kernel, by decide, tz_R rfl⟩
def M_R_needRest : MM := (⟨"RestMill", "needRest", "(II)V"⟩, prog_1_method_53_code, 3, none)
theorem q_R_needRest : mOk M_R_needRest 2 := ⟨wd1535, wd110, by decide, by decide, by decide +kernel, by decide, tz_R rfl⟩
def M_R_set : MM := (⟨"RestMill", "set", "(II)I"⟩, prog_1_method_34_code, 3, (some .int))
theorem q_R_set : mOk M_R_set 2 := ⟨wd1543, wd110, by decide, by decide, by decide +kernel, by decide, tz_R rfl⟩
def M_R_hurt : MM := (⟨"RestMill", "hurt", "(III)I"⟩, prog_1_method_35_code, 5, (some .int))
theorem q_R_hurt : mOk M_R_hurt 3 := ⟨wd1561, wd110, by decide, by decide, by decide +kernel, by decide, tz_R rfl⟩
def M_R_operate : MM := (⟨"RestMill", "operate", "(IIII)I"⟩, prog_1_method_36_code, 5, (some .int))
theorem q_R_operate : mOk M_R_operate 4 := ⟨wd1569, wd110, by decide, by decide, by decide +kernel, by decide, tz_R rfl⟩
def M_R_scale : MM := (⟨"RestMill", "scale", "(II)I"⟩, prog_1_method_37_code, 3, (some .int))
theorem q_R_scale : mOk M_R_scale 2 := ⟨wd1581, wd110, by decide, by decide, by decide +kernel, by decide, tz_R rfl⟩
def M_R_mend : MM := (⟨"RestMill", "mend", "(I)I"⟩, prog_1_method_38_code, 2, (some .int))
theorem q_R_mend : mOk M_R_mend 1 := ⟨wd1589, wd110, by decide, by decide, by decide +kernel, by decide, tz_R rfl⟩
def M_R_swap : MM := (⟨"RestMill", "swap", "(II)I"⟩, prog_1_method_39_code, 3, (some .int))
theorem q_R_swap : mOk M_R_swap 2 := ⟨wd1597, wd110, by decide, by decide, by decide +kernel, by decide, tz_R rfl⟩
def M_R_grow : MM := (⟨"RestMill", "grow", "(I)I"⟩, prog_1_method_40_code, 2, (some .int))
theorem q_R_grow : mOk M_R_grow 1 := ⟨wd1605, wd110, by decide, by decide, by decide +kernel, by decide, tz_R rfl⟩
def M_R_drop : MM := (⟨"RestMill", "drop", "(I)I"⟩, prog_1_method_41_code, 2, (some .int))
theorem q_R_drop : mOk M_R_drop 1 := ⟨wd1618, wd110, by decide, by decide, by decide +kernel, by decide, tz_R rfl⟩
def M_R_setStrict : MM := (⟨"RestMill", "setStrict", "(I)I"⟩, prog_1_method_42_code, 3, (some .int))
theorem q_R_setStrict : mOk M_R_setStrict 1 := ⟨wd1634, wd110, by decide, by decide, by decide +kernel, by decide, tz_R rfl⟩
def M_R_undo : MM := (⟨"RestMill", "undo", "()I"⟩, prog_1_method_43_code, 1, (some .int))
theorem q_R_undo : mOk M_R_undo 0 := ⟨wd1642, wd110, by decide, by decide, by decide +kernel, by decide, tz_R rfl⟩
def M_R_printRegister : MM := (⟨"RestMill", "printRegister", "(I)I"⟩, prog_1_method_44_code, 3, (some .int))
theorem q_R_printRegister : mOk M_R_printRegister 1 := ⟨wd1668, wd110, by decide, by decide, by decide +kernel, by decide, tz_R rfl⟩
def M_R_restoreState : MM := (⟨"RestMill", "restoreState", "()I"⟩, prog_1_method_48_code, 1, (some .int))
theorem q_R_restoreState : mOk M_R_restoreState 0 := ⟨wd1678, wd110, by decide, by decide, by decide +kernel, by decide, tz_R rfl⟩
def M_Mm_thrown : MM := (⟨"RestMillModel", "thrown", "()I"⟩, prog_10_method_1_code, 1, (some .int))
theorem q_Mm_thrown : mOk M_Mm_thrown 0 := ⟨wd1682, wd123, by decide, by decide, by decide +kernel, by decide, tz_Mm rfl⟩
def M_Mm_init : MM := (⟨"RestMillModel", "<init>", "()V"⟩, prog_10_method_4_code, 1, none)
theorem q_Mm_init : mOk M_Mm_init 0 := ⟨wd1687, wd123, by decide, by decide, by decide +kernel, by decide, tz_Mm rfl⟩
def M_Mm_appendInput : MM := (⟨"RestMillModel", "appendInput", "(IIIII)I"⟩, prog_10_method_38_code, 6, (some .int))
theorem q_Mm_appendInput : mOk M_Mm_appendInput 5 := ⟨wd1780, wd123, by decide, by decide, by decide +kernel, by decide, tz_Mm rfl⟩
def M_Mm_puts4 : MM := (⟨"RestMillModel", "puts4", "(I)V"⟩, prog_10_method_37_code, 3, none)
theorem q_Mm_puts4 : mOk M_Mm_puts4 1 := ⟨wd1784, wd123, by decide, by decide, by decide +kernel, by decide, tz_Mm rfl⟩
def M_Mm_truncateInput : MM := (⟨"RestMillModel", "truncateInput", "(I)Z"⟩, prog_10_method_39_code, 2, (some .boolean))
theorem q_Mm_truncateInput : mOk M_Mm_truncateInput 1 := ⟨wd1788, wd123, by decide, by decide, by decide +kernel, by decide, tz_Mm rfl⟩
def M_Mm_isIn : MM := (⟨"RestMillModel", "isIn", "(JJJ)Z"⟩, prog_10_method_2_code, 6, (some .boolean))
theorem q_Mm_isIn : mOk M_Mm_isIn 3 := ⟨wd1791, wd123, by decide, by decide, by decide +kernel, by decide, tz_Mm rfl⟩
def M_Mm_errorCode : MM := (⟨"RestMillModel", "errorCode", "()I"⟩, prog_10_method_40_code, 1, (some .int))
theorem q_Mm_errorCode : mOk M_Mm_errorCode 0 := ⟨wd1795, wd123, by decide, by decide, by decide +kernel, by decide, tz_Mm rfl⟩
def M_Mm_errorOffset : MM := (⟨"RestMillModel", "errorOffset", "()I"⟩, prog_10_method_41_code, 1, (some .int))
theorem q_Mm_errorOffset : mOk M_Mm_errorOffset 0 := ⟨wd1799, wd123, by decide, by decide, by decide +kernel, by decide, tz_Mm rfl⟩
def M_Mm_loadMill : MM := (⟨"RestMillModel", "loadMill", "()I"⟩, prog_10_method_61_code, 2, (some .int))
theorem q_Mm_loadMill : mOk M_Mm_loadMill 0 := ⟨wd1803, wd123, by decide, by decide, by decide +kernel, by decide, tz_Mm rfl⟩
def M_Mm_copies : MM := (⟨"RestMillModel", "copies", "([II[III)V"⟩, prog_10_method_3_code, 6, none)
theorem q_Mm_copies : mOk M_Mm_copies 5 := ⟨wd1806, wd123, by decide, by decide, by decide +kernel, by decide, tz_Mm rfl⟩
def M_Mm_startsText : MM := (⟨"RestMillModel", "startsText", "()V"⟩, prog_10_method_45_code, 1, none)
theorem q_Mm_startsText : mOk M_Mm_startsText 0 := ⟨wd1810, wd123, by decide, by decide, by decide +kernel, by decide, tz_Mm rfl⟩
def M_Mm_scans : MM := (⟨"RestMillModel", "scans", "()V"⟩, prog_10_method_44_code, 2, none)
theorem q_Mm_scans : mOk M_Mm_scans 0 := ⟨wd1814, wd123, by decide, by decide, by decide +kernel, by decide, tz_Mm rfl⟩
def M_Mm_byteAt : MM := (⟨"RestMillModel", "byteAt", "(I)I"⟩, prog_10_method_42_code, 2, (some .int))
theorem q_Mm_byteAt : mOk M_Mm_byteAt 1 := ⟨wd1818, wd123, by decide, by decide, by decide +kernel, by decide, tz_Mm rfl⟩
def M_Mm_isSignByte : MM := (⟨"RestMillModel", "isSignByte", "(I)Z"⟩, prog_10_method_43_code, 1, (some .boolean))
theorem q_Mm_isSignByte : mOk M_Mm_isSignByte 1 := ⟨wd1825, wd123, by decide, by decide, by decide +kernel, by decide, tz_Mm rfl⟩
def M_Mm_readsSetup : MM := (⟨"RestMillModel", "readsSetup", "()V"⟩, prog_10_method_60_code, 2, none)
theorem q_Mm_readsSetup : mOk M_Mm_readsSetup 0 := ⟨wd1829, wd123, by decide, by decide, by decide +kernel, by decide, tz_Mm rfl⟩
def M_Mm_isWord : MM := (⟨"RestMillModel", "isWord", "(Ljava/lang/String;)Z"⟩, prog_10_method_49_code, 3, (some .boolean))
theorem q_Mm_isWord : mOk M_Mm_isWord 1 := ⟨wd1834, wd123, by decide, by decide, by decide +kernel, by decide, tz_Mm rfl⟩
def M_Mm_isGood : MM := (⟨"RestMillModel", "isGood", "()Z"⟩, prog_10_method_46_code, 1, (some .boolean))
theorem q_Mm_isGood : mOk M_Mm_isGood 0 := ⟨wd1838, wd123, by decide, by decide, by decide +kernel, by decide, tz_Mm rfl⟩
def M_Mm_errs : MM := (⟨"RestMillModel", "errs", "(I)V"⟩, prog_10_method_47_code, 2, none)
theorem q_Mm_errs : mOk M_Mm_errs 1 := ⟨wd1844, wd123, by decide, by decide, by decide +kernel, by decide, tz_Mm rfl⟩
def M_Mm_goesOn : MM := (⟨"RestMillModel", "goesOn", "()V"⟩, prog_10_method_48_code, 1, none)
theorem q_Mm_goesOn : mOk M_Mm_goesOn 0 := ⟨wd1848, wd123, by decide, by decide, by decide +kernel, by decide, tz_Mm rfl⟩
def M_Mm_many : MM := (⟨"RestMillModel", "many", "()I"⟩, prog_10_method_5_code, 1, (some .int))
theorem q_Mm_many : mOk M_Mm_many 0 := ⟨wd1852, wd123, by decide, by decide, by decide +kernel, by decide, tz_Mm rfl⟩
def M_Mm_modulusHere : MM := (⟨"RestMillModel", "modulusHere", "()V"⟩, prog_10_method_58_code, 1, none)
theorem q_Mm_modulusHere : mOk M_Mm_modulusHere 0 := ⟨wd1856, wd123, by decide, by decide, by decide +kernel, by decide, tz_Mm rfl⟩
def M_Mm_whole : MM := (⟨"RestMillModel", "whole", "()J"⟩, prog_10_method_11_code, 1, (some .long))
theorem q_Mm_whole : mOk M_Mm_whole 0 := ⟨wd1861, wd123, by decide, by decide, by decide +kernel, by decide, tz_Mm rfl⟩
def M_Mm_productOf : MM := (⟨"RestMillModel", "productOf", "(I)J"⟩, prog_10_method_10_code, 5, (some .long))
theorem q_Mm_productOf : mOk M_Mm_productOf 1 := ⟨wd1865, wd123, by decide, by decide, by decide +kernel, by decide, tz_Mm rfl⟩
def M_Mm_mod : MM := (⟨"RestMillModel", "mod", "(I)I"⟩, prog_10_method_7_code, 2, (some .int))
theorem q_Mm_mod : mOk M_Mm_mod 1 := ⟨wd1869, wd123, by decide, by decide, by decide +kernel, by decide, tz_Mm rfl⟩
def M_Mm_isCommon : MM := (⟨"RestMillModel", "isCommon", "(I)Z"⟩, prog_10_method_57_code, 3, (some .boolean))
theorem q_Mm_isCommon : mOk M_Mm_isCommon 1 := ⟨wd1874, wd123, by decide, by decide, by decide +kernel, by decide, tz_Mm rfl⟩
def M_Mm_divisor : MM := (⟨"RestMillModel", "divisor", "(II)I"⟩, prog_10_method_56_code, 2, (some .int))
theorem q_Mm_divisor : mOk M_Mm_divisor 2 := ⟨wd1877, wd123, by decide, by decide, by decide +kernel, by decide, tz_Mm rfl⟩
def M_Mm_sign : MM := (⟨"RestMillModel", "sign", "(I)V"⟩, prog_10_method_51_code, 2, none)
theorem q_Mm_sign : mOk M_Mm_sign 1 := ⟨wd1881, wd123, by decide, by decide, by decide +kernel, by decide, tz_Mm rfl⟩
def M_Mm_isSign : MM := (⟨"RestMillModel", "isSign", "(I)Z"⟩, prog_10_method_50_code, 2, (some .boolean))
theorem q_Mm_isSign : mOk M_Mm_isSign 1 := ⟨wd1885, wd123, by decide, by decide, by decide +kernel, by decide, tz_Mm rfl⟩
def M_Mm_number_JJ : MM := (⟨"RestMillModel", "number", "(JJ)I"⟩, prog_10_method_52_code, 6, (some .int))
theorem q_Mm_number_JJ : mOk M_Mm_number_JJ 2 := ⟨wd1890, wd123, by decide, by decide, by decide +kernel, by decide, tz_Mm rfl⟩
def M_Mm_setHere : MM := (⟨"RestMillModel", "setHere", "()V"⟩, prog_10_method_59_code, 5, none)
theorem q_Mm_setHere : mOk M_Mm_setHere 0 := ⟨wd1896, wd123, by decide, by decide, by decide +kernel, by decide, tz_Mm rfl⟩
def M_Mm_registerHere : MM := (⟨"RestMillModel", "registerHere", "()I"⟩, prog_10_method_54_code, 1, (some .int))
theorem q_Mm_registerHere : mOk M_Mm_registerHere 0 := ⟨wd1900, wd123, by decide, by decide, by decide +kernel, by decide, tz_Mm rfl⟩
def M_Mm_isLetter : MM := (⟨"RestMillModel", "isLetter", "()Z"⟩, prog_10_method_53_code, 1, (some .boolean))
theorem q_Mm_isLetter : mOk M_Mm_isLetter 0 := ⟨wd1904, wd123, by decide, by decide, by decide +kernel, by decide, tz_Mm rfl⟩
def M_Mm_half : MM := (⟨"RestMillModel", "half", "()J"⟩, prog_10_method_12_code, 1, (some .long))
theorem q_Mm_half : mOk M_Mm_half 0 := ⟨wd1909, wd123, by decide, by decide, by decide +kernel, by decide, tz_Mm rfl⟩
def M_Mm_bases : MM := (⟨"RestMillModel", "bases", "()I"⟩, prog_10_method_6_code, 1, (some .int))
theorem q_Mm_bases : mOk M_Mm_bases 0 := ⟨wd1913, wd123, by decide, by decide, by decide +kernel, by decide, tz_Mm rfl⟩
def M_Mm_tells : MM := (⟨"RestMillModel", "tells", "(IJ)V"⟩, prog_10_method_16_code, 5, none)
theorem q_Mm_tells : mOk M_Mm_tells 2 := ⟨wd1917, wd123, by decide, by decide, by decide +kernel, by decide, tz_Mm rfl⟩
def M_Mm_rest_JI : MM := (⟨"RestMillModel", "rest", "(JI)I"⟩, prog_10_method_13_code, 5, (some .int))
theorem q_Mm_rest_JI : mOk M_Mm_rest_JI 2 := ⟨wd1920, wd123, by decide, by decide, by decide +kernel, by decide, tz_Mm rfl⟩
def M_Mm_puts : MM := (⟨"RestMillModel", "puts", "(III)V"⟩, prog_10_method_15_code, 4, none)
theorem q_Mm_puts : mOk M_Mm_puts 3 := ⟨wd1924, wd123, by decide, by decide, by decide +kernel, by decide, tz_Mm rfl⟩
def M_Mm_playScript : MM := (⟨"RestMillModel", "playScript", "()I"⟩, prog_10_method_72_code, 2, (some .int))
theorem q_Mm_playScript : mOk M_Mm_playScript 0 := ⟨wd1928, wd123, by decide, by decide, by decide +kernel, by decide, tz_Mm rfl⟩
def M_Mm_readsStatement : MM := (⟨"RestMillModel", "readsStatement", "()V"⟩, prog_10_method_68_code, 6, none)
theorem q_Mm_readsStatement : mOk M_Mm_readsStatement 0 := ⟨wd1932, wd123, by decide, by decide, by decide +kernel, by decide, tz_Mm rfl⟩
def M_Mm_register : MM := (⟨"RestMillModel", "register", "()I"⟩, prog_10_method_55_code, 2, (some .int))
theorem q_Mm_register : mOk M_Mm_register 0 := ⟨wd1939, wd123, by decide, by decide, by decide +kernel, by decide, tz_Mm rfl⟩
def M_Mm_readsSum : MM := (⟨"RestMillModel", "readsSum", "()V"⟩, prog_10_method_66_code, 2, none)
theorem q_Mm_readsSum : mOk M_Mm_readsSum 0 := ⟨wd1943, wd123, by decide, by decide, by decide +kernel, by decide, tz_Mm rfl⟩
def M_Mm_readsProduct : MM := (⟨"RestMillModel", "readsProduct", "()V"⟩, prog_10_method_65_code, 2, none)
theorem q_Mm_readsProduct : mOk M_Mm_readsProduct 0 := ⟨wd1947, wd123, by decide, by decide, by decide +kernel, by decide, tz_Mm rfl⟩
def M_Mm_readsFactor : MM := (⟨"RestMillModel", "readsFactor", "()V"⟩, prog_10_method_64_code, 1, none)
theorem q_Mm_readsFactor : mOk M_Mm_readsFactor 0 := ⟨wd1951, wd123, by decide, by decide, by decide +kernel, by decide, tz_Mm rfl⟩
def M_Mm_opens : MM := (⟨"RestMillModel", "opens", "()V"⟩, prog_10_method_63_code, 1, none)
theorem q_Mm_opens : mOk M_Mm_opens 0 := ⟨wd1955, wd123, by decide, by decide, by decide +kernel, by decide, tz_Mm rfl⟩
def M_Mm_lays : MM := (⟨"RestMillModel", "lays", "(II)V"⟩, prog_10_method_62_code, 3, none)
theorem q_Mm_lays : mOk M_Mm_lays 2 := ⟨wd1959, wd123, by decide, by decide, by decide +kernel, by decide, tz_Mm rfl⟩
def M_Mm_adds : MM := (⟨"RestMillModel", "adds", "(IIII)V"⟩, prog_10_method_67_code, 6, none)
theorem q_Mm_adds : mOk M_Mm_adds 4 := ⟨wd1963, wd123, by decide, by decide, by decide +kernel, by decide, tz_Mm rfl⟩
def M_Mm_keeps : MM := (⟨"RestMillModel", "keeps", "()V"⟩, prog_10_method_27_code, 1, none)
theorem q_Mm_keeps : mOk M_Mm_keeps 0 := ⟨wd1967, wd123, by decide, by decide, by decide +kernel, by decide, tz_Mm rfl⟩
def M_Mm_does : MM := (⟨"RestMillModel", "does", "(I)I"⟩, prog_10_method_71_code, 5, (some .int))
theorem q_Mm_does : mOk M_Mm_does 1 := ⟨wd1971, wd123, by decide, by decide, by decide +kernel, by decide, tz_Mm rfl⟩
def M_Mm_gives : MM := (⟨"RestMillModel", "gives", "(III)I"⟩, prog_10_method_70_code, 6, (some .int))
theorem q_Mm_gives : mOk M_Mm_gives 3 := ⟨wd1975, wd123, by decide, by decide, by decide +kernel, by decide, tz_Mm rfl⟩
def M_Mm_step : MM := (⟨"RestMillModel", "step", "(I)I"⟩, prog_10_method_69_code, 3, (some .int))
theorem q_Mm_step : mOk M_Mm_step 1 := ⟨wd1979, wd123, by decide, by decide, by decide +kernel, by decide, tz_Mm rfl⟩
def M_Mm_copiesRow : MM := (⟨"RestMillModel", "copiesRow", "(II)V"⟩, prog_10_method_17_code, 4, none)
theorem q_Mm_copiesRow : mOk M_Mm_copiesRow 2 := ⟨wd1983, wd123, by decide, by decide, by decide +kernel, by decide, tz_Mm rfl⟩
def M_Mm_restOf : MM := (⟨"RestMillModel", "restOf", "(II)I"⟩, prog_10_method_14_code, 3, (some .int))
theorem q_Mm_restOf : mOk M_Mm_restOf 2 := ⟨wd1987, wd123, by decide, by decide, by decide +kernel, by decide, tz_Mm rfl⟩
def M_Mm_works : MM := (⟨"RestMillModel", "works", "(IIII)I"⟩, prog_10_method_26_code, 9, (some .int))
theorem q_Mm_works : mOk M_Mm_works 4 := ⟨wd1991, wd123, by decide, by decide, by decide +kernel, by decide, tz_Mm rfl⟩
def M_Mm_numberOf : MM := (⟨"RestMillModel", "numberOf", "(I)J"⟩, prog_10_method_20_code, 2, (some .long))
theorem q_Mm_numberOf : mOk M_Mm_numberOf 1 := ⟨wd1995, wd123, by decide, by decide, by decide +kernel, by decide, tz_Mm rfl⟩
def M_Mm_valueOf : MM := (⟨"RestMillModel", "valueOf", "(I)J"⟩, prog_10_method_18_code, 7, (some .long))
theorem q_Mm_valueOf : mOk M_Mm_valueOf 1 := ⟨wd1999, wd123, by decide, by decide, by decide +kernel, by decide, tz_Mm rfl⟩
def M_Mm_signed : MM := (⟨"RestMillModel", "signed", "(JJ)J"⟩, prog_10_method_19_code, 4, (some .long))
theorem q_Mm_signed : mOk M_Mm_signed 2 := ⟨wd2002, wd123, by decide, by decide, by decide +kernel, by decide, tz_Mm rfl⟩
def M_Mm_divides : MM := (⟨"RestMillModel", "divides", "(I)Z"⟩, prog_10_method_25_code, 2, (some .boolean))
theorem q_Mm_divides : mOk M_Mm_divides 1 := ⟨wd2006, wd123, by decide, by decide, by decide +kernel, by decide, tz_Mm rfl⟩
def M_Mm_worked : MM := (⟨"RestMillModel", "worked", "(IJJ)J"⟩, prog_10_method_24_code, 5, (some .long))
theorem q_Mm_worked : mOk M_Mm_worked 3 := ⟨wd2009, wd123, by decide, by decide, by decide +kernel, by decide, tz_Mm rfl⟩
def M_Mm_floored : MM := (⟨"RestMillModel", "floored", "(JJ)J"⟩, prog_10_method_23_code, 6, (some .long))
theorem q_Mm_floored : mOk M_Mm_floored 2 := ⟨wd2012, wd123, by decide, by decide, by decide +kernel, by decide, tz_Mm rfl⟩
def M_Mm_soundNow : MM := (⟨"RestMillModel", "soundNow", "(I)Z"⟩, prog_10_method_22_code, 2, (some .boolean))
theorem q_Mm_soundNow : mOk M_Mm_soundNow 1 := ⟨wd2016, wd123, by decide, by decide, by decide +kernel, by decide, tz_Mm rfl⟩
def M_Mm_fits : MM := (⟨"RestMillModel", "fits", "(J)Z"⟩, prog_10_method_21_code, 3, (some .boolean))
theorem q_Mm_fits : mOk M_Mm_fits 1 := ⟨wd2020, wd123, by decide, by decide, by decide +kernel, by decide, tz_Mm rfl⟩
def M_Mm_refuses : MM := (⟨"RestMillModel", "refuses", "(I)I"⟩, prog_10_method_29_code, 2, (some .int))
theorem q_Mm_refuses : mOk M_Mm_refuses 1 := ⟨wd2024, wd123, by decide, by decide, by decide +kernel, by decide, tz_Mm rfl⟩
def M_Mm_counts : MM := (⟨"RestMillModel", "counts", "(I)V"⟩, prog_10_method_28_code, 2, none)
theorem q_Mm_counts : mOk M_Mm_counts 1 := ⟨wd2028, wd123, by decide, by decide, by decide +kernel, by decide, tz_Mm rfl⟩
def M_Mm_acts : MM := (⟨"RestMillModel", "acts", "(I)I"⟩, prog_10_method_30_code, 2, (some .int))
theorem q_Mm_acts : mOk M_Mm_acts 1 := ⟨wd2032, wd123, by decide, by decide, by decide +kernel, by decide, tz_Mm rfl⟩
def M_Mm_scales : MM := (⟨"RestMillModel", "scales", "(II)I"⟩, prog_10_method_32_code, 3, (some .int))
theorem q_Mm_scales : mOk M_Mm_scales 2 := ⟨wd2036, wd123, by decide, by decide, by decide +kernel, by decide, tz_Mm rfl⟩
def M_Mm_laysInto : MM := (⟨"RestMillModel", "laysInto", "(II)I"⟩, prog_10_method_31_code, 3, (some .int))
theorem q_Mm_laysInto : mOk M_Mm_laysInto 2 := ⟨wd2040, wd123, by decide, by decide, by decide +kernel, by decide, tz_Mm rfl⟩
def M_Mm_mendsNow : MM := (⟨"RestMillModel", "mendsNow", "(I)I"⟩, prog_10_method_35_code, 4, (some .int))
theorem q_Mm_mendsNow : mOk M_Mm_mendsNow 1 := ⟨wd2044, wd123, by decide, by decide, by decide +kernel, by decide, tz_Mm rfl⟩
def M_Mm_mendingRest : MM := (⟨"RestMillModel", "mendingRest", "(II)I"⟩, prog_10_method_34_code, 4, (some .int))
theorem q_Mm_mendingRest : mOk M_Mm_mendingRest 2 := ⟨wd2048, wd123, by decide, by decide, by decide +kernel, by decide, tz_Mm rfl⟩
def M_Mm_mends : MM := (⟨"RestMillModel", "mends", "(III)Z"⟩, prog_10_method_33_code, 4, (some .boolean))
theorem q_Mm_mends : mOk M_Mm_mends 3 := ⟨wd2052, wd123, by decide, by decide, by decide +kernel, by decide, tz_Mm rfl⟩
def M_Mm_swaps : MM := (⟨"RestMillModel", "swaps", "(II)V"⟩, prog_10_method_36_code, 3, none)
theorem q_Mm_swaps : mOk M_Mm_swaps 2 := ⟨wd2056, wd123, by decide, by decide, by decide +kernel, by decide, tz_Mm rfl⟩
def M_Mm_count : MM := (⟨"RestMillModel", "count", "(I)I"⟩, prog_10_method_74_code, 2, (some .int))
theorem q_Mm_count : mOk M_Mm_count 1 := ⟨wd2060, wd123, by decide, by decide, by decide +kernel, by decide, tz_Mm rfl⟩
def M_Mm_registersBy : MM := (⟨"RestMillModel", "registersBy", "(I)I"⟩, prog_10_method_73_code, 6, (some .int))
theorem q_Mm_registersBy : mOk M_Mm_registersBy 1 := ⟨wd2065, wd123, by decide, by decide, by decide +kernel, by decide, tz_Mm rfl⟩
def M_Mm_account : MM := (⟨"RestMillModel", "account", "(I)I"⟩, prog_10_method_75_code, 2, (some .int))
theorem q_Mm_account : mOk M_Mm_account 1 := ⟨wd2069, wd123, by decide, by decide, by decide +kernel, by decide, tz_Mm rfl⟩
def M_Mm_bound : MM := (⟨"RestMillModel", "bound", "(I)J"⟩, prog_10_method_76_code, 2, (some .long))
theorem q_Mm_bound : mOk M_Mm_bound 1 := ⟨wd2074, wd123, by decide, by decide, by decide +kernel, by decide, tz_Mm rfl⟩
def M_Mm_modulus : MM := (⟨"RestMillModel", "modulus", "(I)I"⟩, prog_10_method_81_code, 2, (some .int))
theorem q_Mm_modulus : mOk M_Mm_modulus 1 := ⟨wd2078, wd123, by decide, by decide, by decide +kernel, by decide, tz_Mm rfl⟩
def M_Mm_mayModulus : MM := (⟨"RestMillModel", "mayModulus", "(I)Z"⟩, prog_10_method_77_code, 2, (some .boolean))
theorem q_Mm_mayModulus : mOk M_Mm_mayModulus 1 := ⟨wd2082, wd123, by decide, by decide, by decide +kernel, by decide, tz_Mm rfl⟩
def M_Mm_isModulus : MM := (⟨"RestMillModel", "isModulus", "(I)Z"⟩, prog_10_method_9_code, 2, (some .boolean))
theorem q_Mm_isModulus : mOk M_Mm_isModulus 1 := ⟨wd2086, wd123, by decide, by decide, by decide +kernel, by decide, tz_Mm rfl⟩
def M_Mm_inverse : MM := (⟨"RestMillModel", "inverse", "(II)I"⟩, prog_10_method_82_code, 4, (some .int))
theorem q_Mm_inverse : mOk M_Mm_inverse 2 := ⟨wd2090, wd123, by decide, by decide, by decide +kernel, by decide, tz_Mm rfl⟩
def M_Mm_weight : MM := (⟨"RestMillModel", "weight", "(I)J"⟩, prog_10_method_84_code, 2, (some .long))
theorem q_Mm_weight : mOk M_Mm_weight 1 := ⟨wd2094, wd123, by decide, by decide, by decide +kernel, by decide, tz_Mm rfl⟩
def M_Mm_weightOf : MM := (⟨"RestMillModel", "weightOf", "(I)J"⟩, prog_10_method_83_code, 6, (some .long))
theorem q_Mm_weightOf : mOk M_Mm_weightOf 1 := ⟨wd2098, wd123, by decide, by decide, by decide +kernel, by decide, tz_Mm rfl⟩
def M_Mm_rest_II : MM := (⟨"RestMillModel", "rest", "(II)I"⟩, prog_10_method_85_code, 3, (some .int))
theorem q_Mm_rest_II : mOk M_Mm_rest_II 2 := ⟨wd2102, wd123, by decide, by decide, by decide +kernel, by decide, tz_Mm rfl⟩
def M_Mm_mayBoth : MM := (⟨"RestMillModel", "mayBoth", "(II)Z"⟩, prog_10_method_79_code, 3, (some .boolean))
theorem q_Mm_mayBoth : mOk M_Mm_mayBoth 2 := ⟨wd2106, wd123, by decide, by decide, by decide +kernel, by decide, tz_Mm rfl⟩
def M_Mm_isRegister : MM := (⟨"RestMillModel", "isRegister", "(I)Z"⟩, prog_10_method_8_code, 2, (some .boolean))
theorem q_Mm_isRegister : mOk M_Mm_isRegister 1 := ⟨wd2110, wd123, by decide, by decide, by decide +kernel, by decide, tz_Mm rfl⟩
def M_Mm_digit : MM := (⟨"RestMillModel", "digit", "(II)I"⟩, prog_10_method_86_code, 3, (some .int))
theorem q_Mm_digit : mOk M_Mm_digit 2 := ⟨wd2114, wd123, by decide, by decide, by decide +kernel, by decide, tz_Mm rfl⟩
def M_Mm_part : MM := (⟨"RestMillModel", "part", "(II)J"⟩, prog_10_method_88_code, 3, (some .long))
theorem q_Mm_part : mOk M_Mm_part 2 := ⟨wd2118, wd123, by decide, by decide, by decide +kernel, by decide, tz_Mm rfl⟩
def M_Mm_partOf : MM := (⟨"RestMillModel", "partOf", "(II)J"⟩, prog_10_method_87_code, 7, (some .long))
theorem q_Mm_partOf : mOk M_Mm_partOf 2 := ⟨wd2122, wd123, by decide, by decide, by decide +kernel, by decide, tz_Mm rfl⟩
def M_Mm_rank : MM := (⟨"RestMillModel", "rank", "(I)I"⟩, prog_10_method_90_code, 2, (some .int))
theorem q_Mm_rank : mOk M_Mm_rank 1 := ⟨wd2126, wd123, by decide, by decide, by decide +kernel, by decide, tz_Mm rfl⟩
def M_Mm_mayRegister : MM := (⟨"RestMillModel", "mayRegister", "(I)Z"⟩, prog_10_method_78_code, 2, (some .boolean))
theorem q_Mm_mayRegister : mOk M_Mm_mayRegister 1 := ⟨wd2130, wd123, by decide, by decide, by decide +kernel, by decide, tz_Mm rfl⟩
def M_Mm_partsOf : MM := (⟨"RestMillModel", "partsOf", "(I)J"⟩, prog_10_method_89_code, 5, (some .long))
theorem q_Mm_partsOf : mOk M_Mm_partsOf 1 := ⟨wd2134, wd123, by decide, by decide, by decide +kernel, by decide, tz_Mm rfl⟩
def M_Mm_value : MM := (⟨"RestMillModel", "value", "(I)J"⟩, prog_10_method_91_code, 2, (some .long))
theorem q_Mm_value : mOk M_Mm_value 1 := ⟨wd2138, wd123, by decide, by decide, by decide +kernel, by decide, tz_Mm rfl⟩
def M_Mm_number_I : MM := (⟨"RestMillModel", "number", "(I)J"⟩, prog_10_method_92_code, 2, (some .long))
theorem q_Mm_number_I : mOk M_Mm_number_I 1 := ⟨wd2142, wd123, by decide, by decide, by decide +kernel, by decide, tz_Mm rfl⟩
def M_Mm_isSound : MM := (⟨"RestMillModel", "isSound", "(I)Z"⟩, prog_10_method_93_code, 2, (some .boolean))
theorem q_Mm_isSound : mOk M_Mm_isSound 1 := ⟨wd2146, wd123, by decide, by decide, by decide +kernel, by decide, tz_Mm rfl⟩
def M_Mm_compare : MM := (⟨"RestMillModel", "compare", "(II)I"⟩, prog_10_method_95_code, 3, (some .int))
theorem q_Mm_compare : mOk M_Mm_compare 2 := ⟨wd2150, wd123, by decide, by decide, by decide +kernel, by decide, tz_Mm rfl⟩
def M_Mm_mayTwo : MM := (⟨"RestMillModel", "mayTwo", "(II)Z"⟩, prog_10_method_80_code, 3, (some .boolean))
theorem q_Mm_mayTwo : mOk M_Mm_mayTwo 2 := ⟨wd2154, wd123, by decide, by decide, by decide +kernel, by decide, tz_Mm rfl⟩
def M_Mm_compares : MM := (⟨"RestMillModel", "compares", "(II)I"⟩, prog_10_method_94_code, 7, (some .int))
theorem q_Mm_compares : mOk M_Mm_compares 2 := ⟨wd2158, wd123, by decide, by decide, by decide +kernel, by decide, tz_Mm rfl⟩
def M_Mm_extend : MM := (⟨"RestMillModel", "extend", "(IIZ)I"⟩, prog_10_method_96_code, 4, (some .int))
theorem q_Mm_extend : mOk M_Mm_extend 3 := ⟨wd2162, wd123, by decide, by decide, by decide +kernel, by decide, tz_Mm rfl⟩
def M_Mm_gap : MM := (⟨"RestMillModel", "gap", "()J"⟩, prog_10_method_97_code, 6, (some .long))
theorem q_Mm_gap : mOk M_Mm_gap 0 := ⟨wd2167, wd123, by decide, by decide, by decide +kernel, by decide, tz_Mm rfl⟩
def M_Mm_distance : MM := (⟨"RestMillModel", "distance", "(II)I"⟩, prog_10_method_98_code, 5, (some .int))
theorem q_Mm_distance : mOk M_Mm_distance 2 := ⟨wd2171, wd123, by decide, by decide, by decide +kernel, by decide, tz_Mm rfl⟩
def M_Mm_exact : MM := (⟨"RestMillModel", "exact", "(III)J"⟩, prog_10_method_101_code, 6, (some .long))
theorem q_Mm_exact : mOk M_Mm_exact 3 := ⟨wd2175, wd123, by decide, by decide, by decide +kernel, by decide, tz_Mm rfl⟩
def M_Mm_mayOperate : MM := (⟨"RestMillModel", "mayOperate", "(III)Z"⟩, prog_10_method_100_code, 4, (some .boolean))
theorem q_Mm_mayOperate : mOk M_Mm_mayOperate 3 := ⟨wd2179, wd123, by decide, by decide, by decide +kernel, by decide, tz_Mm rfl⟩
def M_Mm_isOperation : MM := (⟨"RestMillModel", "isOperation", "(I)Z"⟩, prog_10_method_99_code, 1, (some .boolean))
theorem q_Mm_isOperation : mOk M_Mm_isOperation 1 := ⟨wd2182, wd123, by decide, by decide, by decide +kernel, by decide, tz_Mm rfl⟩
def M_Mm_why : MM := (⟨"RestMillModel", "why", "(III)I"⟩, prog_10_method_102_code, 5, (some .int))
theorem q_Mm_why : mOk M_Mm_why 3 := ⟨wd2187, wd123, by decide, by decide, by decide +kernel, by decide, tz_Mm rfl⟩
def M_Mm_faults : MM := (⟨"RestMillModel", "faults", "(I)I"⟩, prog_10_method_103_code, 4, (some .int))
theorem q_Mm_faults : mOk M_Mm_faults 1 := ⟨wd2191, wd123, by decide, by decide, by decide +kernel, by decide, tz_Mm rfl⟩
def M_Mm_numberWith : MM := (⟨"RestMillModel", "numberWith", "(III)J"⟩, prog_10_method_105_code, 4, (some .long))
theorem q_Mm_numberWith : mOk M_Mm_numberWith 3 := ⟨wd2195, wd123, by decide, by decide, by decide +kernel, by decide, tz_Mm rfl⟩
def M_Mm_mayRest : MM := (⟨"RestMillModel", "mayRest", "(III)Z"⟩, prog_10_method_104_code, 5, (some .boolean))
theorem q_Mm_mayRest : mOk M_Mm_mayRest 3 := ⟨wd2199, wd123, by decide, by decide, by decide +kernel, by decide, tz_Mm rfl⟩
def M_Mm_nextModulus : MM := (⟨"RestMillModel", "nextModulus", "()I"⟩, prog_10_method_107_code, 2, (some .int))
theorem q_Mm_nextModulus : mOk M_Mm_nextModulus 0 := ⟨wd2203, wd123, by decide, by decide, by decide +kernel, by decide, tz_Mm rfl⟩
def M_Mm_canGrow : MM := (⟨"RestMillModel", "canGrow", "(I)Z"⟩, prog_10_method_106_code, 2, (some .boolean))
theorem q_Mm_canGrow : mOk M_Mm_canGrow 1 := ⟨wd2207, wd123, by decide, by decide, by decide +kernel, by decide, tz_Mm rfl⟩
def M_Mm_spare : MM := (⟨"RestMillModel", "spare", "()I"⟩, prog_10_method_110_code, 3, (some .int))
theorem q_Mm_spare : mOk M_Mm_spare 0 := ⟨wd2211, wd123, by decide, by decide, by decide +kernel, by decide, tz_Mm rfl⟩
def M_Mm_canDrop : MM := (⟨"RestMillModel", "canDrop", "(I)Z"⟩, prog_10_method_109_code, 5, (some .boolean))
theorem q_Mm_canDrop : mOk M_Mm_canDrop 1 := ⟨wd2215, wd123, by decide, by decide, by decide +kernel, by decide, tz_Mm rfl⟩
def M_Mm_isTold : MM := (⟨"RestMillModel", "isTold", "(JJ)Z"⟩, prog_10_method_108_code, 4, (some .boolean))
theorem q_Mm_isTold : mOk M_Mm_isTold 2 := ⟨wd2218, wd123, by decide, by decide, by decide +kernel, by decide, tz_Mm rfl⟩
def M_Mm_greatest : MM := (⟨"RestMillModel", "greatest", "()I"⟩, prog_10_method_112_code, 3, (some .int))
theorem q_Mm_greatest : mOk M_Mm_greatest 0 := ⟨wd2222, wd123, by decide, by decide, by decide +kernel, by decide, tz_Mm rfl⟩
def M_Mm_sizeOf : MM := (⟨"RestMillModel", "sizeOf", "(I)J"⟩, prog_10_method_111_code, 4, (some .long))
theorem q_Mm_sizeOf : mOk M_Mm_sizeOf 1 := ⟨wd2226, wd123, by decide, by decide, by decide +kernel, by decide, tz_Mm rfl⟩
def M_Mm_mean : MM := (⟨"RestMillModel", "mean", "()D"⟩, prog_10_method_113_code, 4, (some .double))
theorem q_Mm_mean : mOk M_Mm_mean 0 := ⟨wd2230, wd123, by decide, by decide, by decide +kernel, by decide, tz_Mm rfl⟩
def M_Mm_zeroShare : MM := (⟨"RestMillModel", "zeroShare", "()F"⟩, prog_10_method_114_code, 4, (some .float))
theorem q_Mm_zeroShare : mOk M_Mm_zeroShare 0 := ⟨wd2235, wd123, by decide, by decide, by decide +kernel, by decide, tz_Mm rfl⟩
def M_Mm_set : MM := (⟨"RestMillModel", "set", "(II)I"⟩, prog_10_method_119_code, 3, (some .int))
theorem q_Mm_set : mOk M_Mm_set 2 := ⟨wd2239, wd123, by decide, by decide, by decide +kernel, by decide, tz_Mm rfl⟩
def M_Mm_tries : MM := (⟨"RestMillModel", "tries", "()V"⟩, prog_10_method_116_code, 1, none)
theorem q_Mm_tries : mOk M_Mm_tries 0 := ⟨wd2244, wd123, by decide, by decide, by decide +kernel, by decide, tz_Mm rfl⟩
def M_Mm_setsNow : MM := (⟨"RestMillModel", "setsNow", "(II)I"⟩, prog_10_method_118_code, 3, (some .int))
theorem q_Mm_setsNow : mOk M_Mm_setsNow 2 := ⟨wd2248, wd123, by decide, by decide, by decide +kernel, by decide, tz_Mm rfl⟩
def M_Mm_decided : MM := (⟨"RestMillModel", "decided", "(I)I"⟩, prog_10_method_117_code, 4, (some .int))
theorem q_Mm_decided : mOk M_Mm_decided 1 := ⟨wd2252, wd123, by decide, by decide, by decide +kernel, by decide, tz_Mm rfl⟩
def M_Mm_tried : MM := (⟨"RestMillModel", "tried", "(I)I"⟩, prog_10_method_115_code, 2, (some .int))
theorem q_Mm_tried : mOk M_Mm_tried 1 := ⟨wd2256, wd123, by decide, by decide, by decide +kernel, by decide, tz_Mm rfl⟩
def M_Mm_hurt : MM := (⟨"RestMillModel", "hurt", "(III)I"⟩, prog_10_method_120_code, 5, (some .int))
theorem q_Mm_hurt : mOk M_Mm_hurt 3 := ⟨wd2260, wd123, by decide, by decide, by decide +kernel, by decide, tz_Mm rfl⟩
def M_Mm_operate : MM := (⟨"RestMillModel", "operate", "(IIII)I"⟩, prog_10_method_121_code, 5, (some .int))
theorem q_Mm_operate : mOk M_Mm_operate 4 := ⟨wd2264, wd123, by decide, by decide, by decide +kernel, by decide, tz_Mm rfl⟩
def M_Mm_scale : MM := (⟨"RestMillModel", "scale", "(II)I"⟩, prog_10_method_122_code, 3, (some .int))
theorem q_Mm_scale : mOk M_Mm_scale 2 := ⟨wd2268, wd123, by decide, by decide, by decide +kernel, by decide, tz_Mm rfl⟩
def M_Mm_mend : MM := (⟨"RestMillModel", "mend", "(I)I"⟩, prog_10_method_123_code, 2, (some .int))
theorem q_Mm_mend : mOk M_Mm_mend 1 := ⟨wd2272, wd123, by decide, by decide, by decide +kernel, by decide, tz_Mm rfl⟩
def M_Mm_swap : MM := (⟨"RestMillModel", "swap", "(II)I"⟩, prog_10_method_124_code, 3, (some .int))
theorem q_Mm_swap : mOk M_Mm_swap 2 := ⟨wd2276, wd123, by decide, by decide, by decide +kernel, by decide, tz_Mm rfl⟩
def M_Mm_grow : MM := (⟨"RestMillModel", "grow", "(I)I"⟩, prog_10_method_128_code, 2, (some .int))
theorem q_Mm_grow : mOk M_Mm_grow 1 := ⟨wd2280, wd123, by decide, by decide, by decide +kernel, by decide, tz_Mm rfl⟩
def M_Mm_grows : MM := (⟨"RestMillModel", "grows", "(I)I"⟩, prog_10_method_127_code, 4, (some .int))
theorem q_Mm_grows : mOk M_Mm_grows 1 := ⟨wd2284, wd123, by decide, by decide, by decide +kernel, by decide, tz_Mm rfl⟩
def M_Mm_laysNumbers : MM := (⟨"RestMillModel", "laysNumbers", "()V"⟩, prog_10_method_125_code, 2, none)
theorem q_Mm_laysNumbers : mOk M_Mm_laysNumbers 0 := ⟨wd2288, wd123, by decide, by decide, by decide +kernel, by decide, tz_Mm rfl⟩
def M_Mm_tellsNumbers : MM := (⟨"RestMillModel", "tellsNumbers", "()V"⟩, prog_10_method_126_code, 2, none)
theorem q_Mm_tellsNumbers : mOk M_Mm_tellsNumbers 0 := ⟨wd2292, wd123, by decide, by decide, by decide +kernel, by decide, tz_Mm rfl⟩
def M_Mm_drop : MM := (⟨"RestMillModel", "drop", "(I)I"⟩, prog_10_method_130_code, 2, (some .int))
theorem q_Mm_drop : mOk M_Mm_drop 1 := ⟨wd2296, wd123, by decide, by decide, by decide +kernel, by decide, tz_Mm rfl⟩
def M_Mm_dropsNow : MM := (⟨"RestMillModel", "dropsNow", "(I)I"⟩, prog_10_method_129_code, 3, (some .int))
theorem q_Mm_dropsNow : mOk M_Mm_dropsNow 1 := ⟨wd2300, wd123, by decide, by decide, by decide +kernel, by decide, tz_Mm rfl⟩
def M_Mm_setStrict : MM := (⟨"RestMillModel", "setStrict", "(I)I"⟩, prog_10_method_131_code, 3, (some .int))
theorem q_Mm_setStrict : mOk M_Mm_setStrict 1 := ⟨wd2304, wd123, by decide, by decide, by decide +kernel, by decide, tz_Mm rfl⟩
def M_Mm_undo : MM := (⟨"RestMillModel", "undo", "()I"⟩, prog_10_method_132_code, 1, (some .int))
theorem q_Mm_undo : mOk M_Mm_undo 0 := ⟨wd2308, wd123, by decide, by decide, by decide +kernel, by decide, tz_Mm rfl⟩
def M_Mm_printRegister : MM := (⟨"RestMillModel", "printRegister", "(I)I"⟩, prog_10_method_135_code, 3, (some .int))
theorem q_Mm_printRegister : mOk M_Mm_printRegister 1 := ⟨wd2312, wd123, by decide, by decide, by decide +kernel, by decide, tz_Mm rfl⟩
def M_Mm_writes : MM := (⟨"RestMillModel", "writes", "(I)V"⟩, prog_10_method_133_code, 2, none)
theorem q_Mm_writes : mOk M_Mm_writes 1 := ⟨wd2316, wd123, by decide, by decide, by decide +kernel, by decide, tz_Mm rfl⟩
def M_Mm_writesNumber : MM := (⟨"RestMillModel", "writesNumber", "(J)V"⟩, prog_10_method_134_code, 7, none)
theorem q_Mm_writesNumber : mOk M_Mm_writesNumber 1 := ⟨wd2320, wd123, by decide, by decide, by decide +kernel, by decide, tz_Mm rfl⟩
def M_Mm_printModuli : MM := (⟨"RestMillModel", "printModuli", "()I"⟩, prog_10_method_136_code, 2, (some .int))
theorem q_Mm_printModuli : mOk M_Mm_printModuli 0 := ⟨wd2326, wd123, by decide, by decide, by decide +kernel, by decide, tz_Mm rfl⟩
def M_Mm_outputByte : MM := (⟨"RestMillModel", "outputByte", "(I)I"⟩, prog_10_method_137_code, 2, (some .int))
theorem q_Mm_outputByte : mOk M_Mm_outputByte 1 := ⟨wd2330, wd123, by decide, by decide, by decide +kernel, by decide, tz_Mm rfl⟩
def M_Mm_saveState : MM := (⟨"RestMillModel", "saveState", "()I"⟩, prog_10_method_138_code, 1, (some .int))
theorem q_Mm_saveState : mOk M_Mm_saveState 0 := ⟨wd2334, wd123, by decide, by decide, by decide +kernel, by decide, tz_Mm rfl⟩
def M_Mm_restoreState : MM := (⟨"RestMillModel", "restoreState", "()I"⟩, prog_10_method_139_code, 1, (some .int))
theorem q_Mm_restoreState : mOk M_Mm_restoreState 0 := ⟨wd2338, wd123, by decide, by decide, by decide +kernel, by decide, tz_Mm rfl⟩
theorem ac_nil {M : MM} : ∀ x ∈ ([] : TT), SO M x.1 x.2 := fun _ h => nomatch h
theorem ac {M : MM} {p : Nat} {o : OP} {t : TT} (h : SO M p o) (r : ∀ x ∈ t, SO M x.1 x.2) : ∀ x ∈ ((p, o) :: t), SO M x.1 x.2 := List.forall_mem_cons.mpr ⟨h, r⟩
theorem thr_ok {l : List Cond} (h : l.all (fun w => decide (w ∈ WD)) = true) : ∀ w ∈ l, w ∈ WD := fun w hw => of_decide_eq_true (List.all_eq_true.mp h w hw)
theorem sw_all {pc : Nat} (ts : List Nat) (offs : Array Int) (h : (ts.zip offs.toList).all (fun q => decide ((pc : Int) + q.2 = (q.1 : Int))) = true ∧ ts.length = offs.size) : ∀ (k t : Nat), ts[k]? = some t → ∃ o, offs[k]? = some o ∧ (pc : Int) + o = (t : Int) := by
  intro k t hk
  have hl : k < ts.length := (List.getElem?_eq_some_iff.mp hk).1
  have hl2 : k < offs.size := by rw [← h.2]; exact hl
  refine ⟨offs[k], Array.getElem?_eq_getElem hl2, ?_⟩
  have hz : (t, offs[k]) ∈ ts.zip offs.toList := by
    refine List.mem_of_getElem? (i := k) ?_
    rw [List.getElem?_zip_eq_some]
    exact ⟨hk, by simp [hl2]⟩
  exact of_decide_eq_true (List.all_eq_true.mp h.1 _ hz)
