def RX7 : String := "RestMill"
def TX7 : u_T := fun k => match k with
  | 0 => ("RestMill", "input", "[B", true)
  | 1 => ("RestMill", "inputLength", "I", false)
  | 2 => ("RestMill", "mill", "LRestMill$Mill;", true)
  | 3 => ("RestMill", "draft", "LRestMill$Mill;", true)
  | 4 => ("RestMill", "saved", "LRestMill$Mill;", true)
  | 5 => ("RestMill", "hasSaved", "Z", false)
  | 6 => ("RestMill", "changes", "LRestMill$Changes;", true)
  | 7 => ("RestMill", "setupReader", "LRestMill$SetupReader;", true)
  | 8 => ("RestMill", "scriptReader", "LRestMill$ScriptReader;", true)
  | 9 => ("RestMill", "lastError", "I", false)
  | 10 => ("RestMill", "lastErrorOffset", "I", false)
  | _ => ("RestMill", "output", "Ljava/lang/StringBuilder;", true)
def tyX7 : Nat → FieldType := fun k => match k with
  | 0 => .array .byte
  | 1 => .int
  | 2 => .object "RestMill$Mill"
  | 3 => .object "RestMill$Mill"
  | 4 => .object "RestMill$Mill"
  | 5 => .boolean
  | 6 => .object "RestMill$Changes"
  | 7 => .object "RestMill$SetupReader"
  | 8 => .object "RestMill$ScriptReader"
  | 9 => .int
  | 10 => .int
  | _ => .object "java/lang/StringBuilder"
theorem nmX7 : ∀ a, a < 12 → ∀ b, b < 12 → a ≠ b → (TX7 a).2.1 ≠ (TX7 b).2.1 := by decide +kernel
theorem tyX7_ok : ∀ k, k < 12 → parseFieldDescriptor (TX7 k).2.2.1 = some (tyX7 k) := by decide +kernel
def RX1 : String := "RestMill$Mill"
def TX1 : u_T := fun k => match k with
  | 0 => ("RestMill$Mill", "moduli", "LRestMill$Moduli;", true)
  | 1 => ("RestMill$Mill", "numbers", "[J", true)
  | 2 => ("RestMill$Mill", "accounts", "[I", true)
  | _ => ("RestMill$Mill", "strict", "I", false)
def tyX1 : Nat → FieldType := fun k => match k with
  | 0 => .object "RestMill$Moduli"
  | 1 => .array .long
  | 2 => .array .int
  | _ => .int
theorem nmX1 : ∀ a, a < 4 → ∀ b, b < 4 → a ≠ b → (TX1 a).2.1 ≠ (TX1 b).2.1 := by decide +kernel
theorem tyX1_ok : ∀ k, k < 4 → parseFieldDescriptor (TX1 k).2.2.1 = some (tyX1 k) := by decide +kernel
def RX2 : String := "RestMill$Moduli"
def TX2 : u_T := fun k => match k with
  | 0 => ("RestMill$Moduli", "row", "[I", true)
  | 1 => ("RestMill$Moduli", "weights", "[J", true)
  | 2 => ("RestMill$Moduli", "size", "I", false)
  | 3 => ("RestMill$Moduli", "checks", "I", false)
  | 4 => ("RestMill$Moduli", "whole", "J", false)
  | _ => ("RestMill$Moduli", "range", "J", false)
def tyX2 : Nat → FieldType := fun k => match k with
  | 0 => .array .int
  | 1 => .array .long
  | 2 => .int
  | 3 => .int
  | 4 => .long
  | _ => .long
theorem nmX2 : ∀ a, a < 6 → ∀ b, b < 6 → a ≠ b → (TX2 a).2.1 ≠ (TX2 b).2.1 := by decide +kernel
theorem tyX2_ok : ∀ k, k < 6 → parseFieldDescriptor (TX2 k).2.2.1 = some (tyX2 k) := by decide +kernel
def RX0 : String := "RestMill$Changes"
def TX0 : u_T := fun k => match k with
  | 0 => ("RestMill$Changes", "slots", "[LRestMill$Mill;", true)
  | 1 => ("RestMill$Changes", "next", "I", false)
  | _ => ("RestMill$Changes", "size", "I", false)
def tyX0 : Nat → FieldType := fun k => match k with
  | 0 => .array (.object "RestMill$Mill")
  | 1 => .int
  | _ => .int
theorem nmX0 : ∀ a, a < 3 → ∀ b, b < 3 → a ≠ b → (TX0 a).2.1 ≠ (TX0 b).2.1 := by decide +kernel
theorem tyX0_ok : ∀ k, k < 3 → parseFieldDescriptor (TX0 k).2.2.1 = some (tyX0 k) := by decide +kernel
def RX6 : String := "RestMill$Tokens"
def TX6 : u_T := fun k => match k with
  | 0 => ("RestMill$Tokens", "kinds", "[I", true)
  | 1 => ("RestMill$Tokens", "amounts", "[I", true)
  | 2 => ("RestMill$Tokens", "offsets", "[I", true)
  | 3 => ("RestMill$Tokens", "size", "I", false)
  | 4 => ("RestMill$Tokens", "now", "I", false)
  | 5 => ("RestMill$Tokens", "error", "I", false)
  | _ => ("RestMill$Tokens", "errorOffset", "I", false)
def tyX6 : Nat → FieldType := fun k => match k with
  | 0 => .array .int
  | 1 => .array .int
  | 2 => .array .int
  | 3 => .int
  | 4 => .int
  | 5 => .int
  | _ => .int
theorem nmX6 : ∀ a, a < 7 → ∀ b, b < 7 → a ≠ b → (TX6 a).2.1 ≠ (TX6 b).2.1 := by decide +kernel
theorem tyX6_ok : ∀ k, k < 7 → parseFieldDescriptor (TX6 k).2.2.1 = some (tyX6 k) := by decide +kernel
def RX5 : String := "RestMill$SetupReader"
def TX5 : u_T := fun k => match k with
  | _ => ("RestMill$SetupReader", "tokens", "LRestMill$Tokens;", true)
def tyX5 : Nat → FieldType := fun k => match k with
  | _ => .object "RestMill$Tokens"
theorem nmX5 : ∀ a, a < 1 → ∀ b, b < 1 → a ≠ b → (TX5 a).2.1 ≠ (TX5 b).2.1 := by decide +kernel
theorem tyX5_ok : ∀ k, k < 1 → parseFieldDescriptor (TX5 k).2.2.1 = some (tyX5 k) := by decide +kernel
def RX4 : String := "RestMill$ScriptReader"
def TX4 : u_T := fun k => match k with
  | 0 => ("RestMill$ScriptReader", "tokens", "LRestMill$Tokens;", true)
  | 1 => ("RestMill$ScriptReader", "program", "LRestMill$Program;", true)
  | 2 => ("RestMill$ScriptReader", "moduli", "I", false)
  | _ => ("RestMill$ScriptReader", "half", "J", false)
def tyX4 : Nat → FieldType := fun k => match k with
  | 0 => .object "RestMill$Tokens"
  | 1 => .object "RestMill$Program"
  | 2 => .int
  | _ => .long
theorem nmX4 : ∀ a, a < 4 → ∀ b, b < 4 → a ≠ b → (TX4 a).2.1 ≠ (TX4 b).2.1 := by decide +kernel
theorem tyX4_ok : ∀ k, k < 4 → parseFieldDescriptor (TX4 k).2.2.1 = some (tyX4 k) := by decide +kernel
def RX3 : String := "RestMill$Program"
def TX3 : u_T := fun k => match k with
  | 0 => ("RestMill$Program", "kinds", "[I", true)
  | 1 => ("RestMill$Program", "firsts", "[I", true)
  | 2 => ("RestMill$Program", "seconds", "[I", true)
  | 3 => ("RestMill$Program", "pending", "[J", true)
  | 4 => ("RestMill$Program", "size", "I", false)
  | _ => ("RestMill$Program", "height", "I", false)
def tyX3 : Nat → FieldType := fun k => match k with
  | 0 => .array .int
  | 1 => .array .int
  | 2 => .array .int
  | 3 => .array .long
  | 4 => .int
  | _ => .int
theorem nmX3 : ∀ a, a < 6 → ∀ b, b < 6 → a ≠ b → (TX3 a).2.1 ≠ (TX3 b).2.1 := by decide +kernel
theorem tyX3_ok : ∀ k, k < 6 → parseFieldDescriptor (TX3 k).2.2.1 = some (tyX3 k) := by decide +kernel
def RJ0 : String := "java/lang/String"
def TJ0 : u_T := fun k => match k with
  | 0 => ("java/lang/String", "value", "[B", true)
  | 1 => ("java/lang/String", "coder", "B", true)
  | 2 => ("java/lang/String", "hash", "I", false)
  | _ => ("java/lang/String", "hashIsZero", "Z", false)
def tyJ0 : Nat → FieldType := fun k => match k with
  | 0 => .array .byte
  | 1 => .byte
  | 2 => .int
  | _ => .boolean
theorem nmJ0 : ∀ a, a < 4 → ∀ b, b < 4 → a ≠ b → (TJ0 a).2.1 ≠ (TJ0 b).2.1 := by decide +kernel
theorem tyJ0_ok : ∀ k, k < 4 → parseFieldDescriptor (TJ0 k).2.2.1 = some (tyJ0 k) := by decide +kernel
def RJ4 : String := "java/lang/StringBuilder"
def TJ4 : u_T := fun k => match k with
  | 0 => ("java/lang/AbstractStringBuilder", "value", "[B", false)
  | 1 => ("java/lang/AbstractStringBuilder", "coder", "B", false)
  | 2 => ("java/lang/AbstractStringBuilder", "maybeLatin1", "Z", false)
  | _ => ("java/lang/AbstractStringBuilder", "count", "I", false)
def tyJ4 : Nat → FieldType := fun k => match k with
  | 0 => .array .byte
  | 1 => .byte
  | 2 => .boolean
  | _ => .int
theorem nmJ4 : ∀ a, a < 4 → ∀ b, b < 4 → a ≠ b → (TJ4 a).2.1 ≠ (TJ4 b).2.1 := by decide +kernel
theorem tyJ4_ok : ∀ k, k < 4 → parseFieldDescriptor (TJ4 k).2.2.1 = some (tyJ4 k) := by decide +kernel
abbrev classes : List vw_C := [(RX7, TX7, 12), (RX1, TX1, 4), (RX2, TX2, 6), (RX0, TX0, 3), (RX6, TX6, 7), (RX5, TX5, 1), (RX4, TX4, 4), (RX3, TX3, 6), (RJ0, TJ0, 4), (RJ4, TJ4, 4)]
/-- selections of private methods of the builder's upper class -/
def upY : List MethodName := [⟨"java/lang/AbstractStringBuilder", "ensureCapacityInternal", "(I)V"⟩, ⟨"java/lang/AbstractStringBuilder", "newCapacity", "(I)I"⟩, ⟨"java/lang/AbstractStringBuilder", "putStringAt", "(ILjava/lang/String;)V"⟩, ⟨"java/lang/AbstractStringBuilder", "inflateIfNeededFor", "(Ljava/lang/String;)V"⟩]
def upS : List Cond := upY.map (fun y => Cond.selects "java/lang/StringBuilder" y y)
def WD : List Cond := (upS ++ lw_tbl).filter goodWord
theorem wd_in {c : Cond} (h : c ∈ lw_tbl) (hg : goodWord c = true) : c ∈ WD := List.mem_filter.mpr ⟨List.mem_append_right _ h, hg⟩
theorem wdU {y : MethodName} (k : Nat) (h : upY[k]? = some y) : Cond.selects "java/lang/StringBuilder" y y ∈ WD := List.mem_filter.mpr ⟨List.mem_append_left _ (List.mem_map.mpr ⟨y, List.mem_of_getElem? h, rfl⟩), rfl⟩
theorem wd_of {c : Cond} (i : Nat) (h : (match lw_tbl[i]? with | some w => decide (w = c) | none => false) = true) (hg : goodWord c = true) : c ∈ WD := by
  cases hw : lw_tbl[i]? with
  | none => rw [hw] at h; cases h
  | some w =>
    rw [hw] at h
    have e : w = c := of_decide_eq_true h
    subst e
    exact wd_in (List.mem_of_getElem? hw) hg
theorem wd_good {ws : List Cond} (h : ∀ w ∈ ws, w ∈ WD) : GoodIn WD ws := fun w hw => ⟨h w hw, good_of_word (List.mem_filter.mp (h w hw)).2⟩
theorem in_X7 : ∀ w ∈ u_ws RX7 TX7 12, w ∈ WD := by
  have h : (u_ws RX7 TX7 12).all (fun w => decide (w ∈ WD)) = true := by decide +kernel
  exact fun w hw => of_decide_eq_true (List.all_eq_true.mp h w hw)
theorem in_X1 : ∀ w ∈ u_ws RX1 TX1 4, w ∈ WD := by
  have h : (u_ws RX1 TX1 4).all (fun w => decide (w ∈ WD)) = true := by decide +kernel
  exact fun w hw => of_decide_eq_true (List.all_eq_true.mp h w hw)
theorem in_X2 : ∀ w ∈ u_ws RX2 TX2 6, w ∈ WD := by
  have h : (u_ws RX2 TX2 6).all (fun w => decide (w ∈ WD)) = true := by decide +kernel
  exact fun w hw => of_decide_eq_true (List.all_eq_true.mp h w hw)
theorem in_X0 : ∀ w ∈ u_ws RX0 TX0 3, w ∈ WD := by
  have h : (u_ws RX0 TX0 3).all (fun w => decide (w ∈ WD)) = true := by decide +kernel
  exact fun w hw => of_decide_eq_true (List.all_eq_true.mp h w hw)
theorem in_X6 : ∀ w ∈ u_ws RX6 TX6 7, w ∈ WD := by
  have h : (u_ws RX6 TX6 7).all (fun w => decide (w ∈ WD)) = true := by decide +kernel
  exact fun w hw => of_decide_eq_true (List.all_eq_true.mp h w hw)
theorem in_X5 : ∀ w ∈ u_ws RX5 TX5 1, w ∈ WD := by
  have h : (u_ws RX5 TX5 1).all (fun w => decide (w ∈ WD)) = true := by decide +kernel
  exact fun w hw => of_decide_eq_true (List.all_eq_true.mp h w hw)
theorem in_X4 : ∀ w ∈ u_ws RX4 TX4 4, w ∈ WD := by
  have h : (u_ws RX4 TX4 4).all (fun w => decide (w ∈ WD)) = true := by decide +kernel
  exact fun w hw => of_decide_eq_true (List.all_eq_true.mp h w hw)
theorem in_X3 : ∀ w ∈ u_ws RX3 TX3 6, w ∈ WD := by
  have h : (u_ws RX3 TX3 6).all (fun w => decide (w ∈ WD)) = true := by decide +kernel
  exact fun w hw => of_decide_eq_true (List.all_eq_true.mp h w hw)
theorem in_J0 : ∀ w ∈ u_ws RJ0 TJ0 4, w ∈ WD := by
  have h : (u_ws RJ0 TJ0 4).all (fun w => decide (w ∈ WD)) = true := by decide +kernel
  exact fun w hw => of_decide_eq_true (List.all_eq_true.mp h w hw)
theorem in_J4 : ∀ w ∈ u_ws RJ4 TJ4 4, w ∈ WD := by
  have h : (u_ws RJ4 TJ4 4).all (fun w => decide (w ∈ WD)) = true := by decide +kernel
  exact fun w hw => of_decide_eq_true (List.all_eq_true.mp h w hw)
