/-! OPERATIONS: what an instruction does to the pure state, handed on to what comes behind; SO: it is sound at this place of this method. -/
abbrev KN : Type := Nat → Nat → Nat → PLo → List Value → PW → Prop
abbrev OP : Type := KN → (Option Value → PW → Prop) → (String → PW → Prop) → Nat → Nat → Nat → PLo → List Value → PW → Prop
def SO (M : MM) (pc : Nat) (o : OP) : Prop := ∀ (d mc ms : Nat) (ls : PLo) (st : List Value) (w : PW) (K : Option Value → PW → Prop) (KX : String → PW → Prop) (Kn : KN) (gp : GP),
  (∀ mc ms pc ls st w, Kn mc ms pc ls st w → GG gp M d mc ms pc ls st w K KX) → o Kn K KX d mc ms ls st w → GG gp M d mc ms pc ls st w K KX
/-- .. with what is known of the start -/
def SP (gp : GP) (M : MM) (pc : Nat) (o : OP) : Prop := ∀ (d mc ms : Nat) (ls : PLo) (st : List Value) (w : PW) (K : Option Value → PW → Prop) (KX : String → PW → Prop) (Kn : KN),
  (∀ mc ms pc ls st w, Kn mc ms pc ls st w → GG gp M d mc ms pc ls st w K KX) → o Kn K KX d mc ms ls st w → GG gp M d mc ms pc ls st w K KX
theorem SP_of {gp : GP} {M : MM} {pc : Nat} {o : OP} (h : SO M pc o) : SP gp M pc o := fun d mc ms ls st w K KX Kn => h d mc ms ls st w K KX Kn gp
def o_push (v : Value) (nx : Nat) : OP := fun Kn _ _ _ mc ms ls st w => Kn mc ms nx ls (v :: st) w
theorem s_iconst {M : MM} {pc : Nat} {n : Int} {v : Int32} (hd : decode M.2.1 pc = .ok (.iconst n, 1)) (hv : Int32.ofInt n = v) : SO M pc (o_push (.int v) (pc + 1)) := by
  intro d mc ms ls st w K KX Kn gp hK h l p e R s m args below meth c H locs cells slots X ad A n0 ad0 mc0 ms0 la E
  have h1 := hK _ _ _ _ _ _ h
  obtain ⟨⟨htr, hx, hb, hml, hr, hown, hts, hlk, hnm⟩, -⟩ := id E
  exact lv_iconst hx hb hd hv (h1 E)
theorem s_bipush {M : MM} {pc : Nat} {n : Int} {v : Int32} (hd : decode M.2.1 pc = .ok (.bipush n, 2)) (hv : (Int8.ofInt n).toInt32 = v) : SO M pc (o_push (.int v) (pc + 2)) := by
  intro d mc ms ls st w K KX Kn gp hK h l p e R s m args below meth c H locs cells slots X ad A n0 ad0 mc0 ms0 la E
  have h1 := hK _ _ _ _ _ _ h
  obtain ⟨⟨htr, hx, hb, hml, hr, hown, hts, hlk, hnm⟩, -⟩ := id E
  exact lv_bipush hx hb hd hv (h1 E)
theorem s_sipush {M : MM} {pc : Nat} {n : Int} {v : Int32} (hd : decode M.2.1 pc = .ok (.sipush n, 3)) (hv : (Int16.ofInt n).toInt32 = v) : SO M pc (o_push (.int v) (pc + 3)) := by
  intro d mc ms ls st w K KX Kn gp hK h l p e R s m args below meth c H locs cells slots X ad A n0 ad0 mc0 ms0 la E
  have h1 := hK _ _ _ _ _ _ h
  obtain ⟨⟨htr, hx, hb, hml, hr, hown, hts, hlk, hnm⟩, -⟩ := id E
  exact lv_sipush hx hb hd hv (h1 E)
theorem s_lconst {M : MM} {pc : Nat} {n : Fin 2} {v : Int64} (hd : decode M.2.1 pc = .ok (.lconst n, 1)) (hv : Int64.ofNat (n : Nat) = v) : SO M pc (o_push (.long v) (pc + 1)) := by
  intro d mc ms ls st w K KX Kn gp hK h l p e R s m args below meth c H locs cells slots X ad A n0 ad0 mc0 ms0 la E
  have h1 := hK _ _ _ _ _ _ h
  obtain ⟨⟨htr, hx, hb, hml, hr, hown, hts, hlk, hnm⟩, -⟩ := id E
  exact lv_lconst hx hb hd hv (h1 E)
theorem s_ldc {M : MM} {pc : Nat} {i : Nat} {v : Int32} (hd : decode M.2.1 pc = .ok (.ldc i, 2)) (hw : Cond.constant M.1.cls i v ∈ WD) : SO M pc (o_push (.int v) (pc + 2)) := by
  intro d mc ms ls st w K KX Kn gp hK h l p e R s m args below meth c H locs cells slots X ad A n0 ad0 mc0 ms0 la E
  have h1 := hK _ _ _ _ _ _ h
  obtain ⟨⟨htr, hx, hb, hml, hr, hown, hts, hlk, hnm⟩, -⟩ := id E
  exact lv_ldc hx hb hown (hts _ hw) hd (h1 E)
theorem s_ldcw {M : MM} {pc : Nat} {i : Nat} {v : Int32} (hd : decode M.2.1 pc = .ok (.ldc_w i, 3)) (hw : Cond.constant M.1.cls i v ∈ WD) : SO M pc (o_push (.int v) (pc + 3)) := by
  intro d mc ms ls st w K KX Kn gp hK h l p e R s m args below meth c H locs cells slots X ad A n0 ad0 mc0 ms0 la E
  have h1 := hK _ _ _ _ _ _ h
  obtain ⟨⟨htr, hx, hb, hml, hr, hown, hts, hlk, hnm⟩, -⟩ := id E
  exact lv_ldcw hx hb hown (hts _ hw) hd (h1 E)
theorem s_ldc2 {M : MM} {pc : Nat} {i : Nat} {v : Int64} (hd : decode M.2.1 pc = .ok (.ldc2_w i, 3)) (hw : Cond.constantLong M.1.cls i v ∈ WD) : SO M pc (o_push (.long v) (pc + 3)) := by
  intro d mc ms ls st w K KX Kn gp hK h l p e R s m args below meth c H locs cells slots X ad A n0 ad0 mc0 ms0 la E
  have h1 := hK _ _ _ _ _ _ h
  obtain ⟨⟨htr, hx, hb, hml, hr, hown, hts, hlk, hnm⟩, -⟩ := id E
  exact lv_ldc2 hx hb hown (hts _ hw) hd (h1 E)
theorem s_ldc2d {M : MM} {pc : Nat} {i : Nat} {v : UInt64} (hd : decode M.2.1 pc = .ok (.ldc2_w i, 3)) (hw : Cond.constantDouble M.1.cls i v ∈ WD) : SO M pc (o_push (.double v) (pc + 3)) := by
  intro d mc ms ls st w K KX Kn gp hK h l p e R s m args below meth c H locs cells slots X ad A n0 ad0 mc0 ms0 la E
  have h1 := hK _ _ _ _ _ _ h
  obtain ⟨⟨htr, hx, hb, hml, hr, hown, hts, hlk, hnm⟩, -⟩ := id E
  exact lv_ldc2d hx hb hown (hts _ hw) hd (h1 E)
theorem s_fconst0 {M : MM} {pc : Nat}  (hd : decode M.2.1 pc = .ok (.fconst 0, 1)) : SO M pc (o_push (.float FP.fconst0) (pc + 1)) := by
  intro d mc ms ls st w K KX Kn gp hK h l p e R s m args below meth c H locs cells slots X ad A n0 ad0 mc0 ms0 la E
  have h1 := hK _ _ _ _ _ _ h
  obtain ⟨⟨htr, hx, hb, hml, hr, hown, hts, hlk, hnm⟩, -⟩ := id E
  exact lv_fconst0 hx hb hd (h1 E)
theorem s_null {M : MM} {pc : Nat}  (hd : decode M.2.1 pc = .ok (.aconst_null, 1)) : SO M pc (o_push .null (pc + 1)) := by
  intro d mc ms ls st w K KX Kn gp hK h l p e R s m args below meth c H locs cells slots X ad A n0 ad0 mc0 ms0 la E
  have h1 := hK _ _ _ _ _ _ h
  obtain ⟨⟨htr, hx, hb, hml, hr, hown, hts, hlk, hnm⟩, -⟩ := id E
  exact lv_null hx hb hd (h1 E)
def o_ild (i nx : Nat) : OP := fun Kn _ _ _ mc ms ls st w => match gL ls i with
  | some (.int x) => Kn mc ms nx ls (.int x :: st) w
  | _ => False
theorem s_ildn {M : MM} {pc : Nat} {k : Fin 4} (hd : decode M.2.1 pc = .ok (.iload_n k, 1)) : SO M pc (o_ild (k : Nat) (pc + 1)) := by
  intro d mc ms ls st w K KX Kn gp hK h l p e R s m args below meth c H locs cells slots X ad A n0 ad0 mc0 ms0 la E
  simp only [o_ild] at h
  split at h
  · next x hg =>
    have h1 := hK _ _ _ _ _ _ h
    obtain ⟨⟨htr, hx, hb, hml, hr, hown, hts, hlk, hnm⟩, -, hl, -⟩ := id E
    exact lv_iload_n hx hb hd rfl (hl_get hl hg) (h1 E)
  · exact h.elim
theorem s_ild {M : MM} {pc : Nat} {i : Nat} (hd : decode M.2.1 pc = .ok (.iload i, 2)) : SO M pc (o_ild i (pc + 2)) := by
  intro d mc ms ls st w K KX Kn gp hK h l p e R s m args below meth c H locs cells slots X ad A n0 ad0 mc0 ms0 la E
  simp only [o_ild] at h
  split at h
  · next x hg =>
    have h1 := hK _ _ _ _ _ _ h
    obtain ⟨⟨htr, hx, hb, hml, hr, hown, hts, hlk, hnm⟩, -, hl, -⟩ := id E
    exact lv_iload hx hb hd (hl_get hl hg) (h1 E)
  · exact h.elim
def o_lld (i nx : Nat) : OP := fun Kn _ _ _ mc ms ls st w => match gL ls i with
  | some (.long x) => Kn mc ms nx ls (.long x :: st) w
  | _ => False
theorem s_lldn {M : MM} {pc : Nat} {k : Fin 4} (hd : decode M.2.1 pc = .ok (.lload_n k, 1)) : SO M pc (o_lld (k : Nat) (pc + 1)) := by
  intro d mc ms ls st w K KX Kn gp hK h l p e R s m args below meth c H locs cells slots X ad A n0 ad0 mc0 ms0 la E
  simp only [o_lld] at h
  split at h
  · next x hg =>
    have h1 := hK _ _ _ _ _ _ h
    obtain ⟨⟨htr, hx, hb, hml, hr, hown, hts, hlk, hnm⟩, -, hl, -⟩ := id E
    exact lv_lload_n hx hb hd rfl (hl_get hl hg) (h1 E)
  · exact h.elim
theorem s_lld {M : MM} {pc : Nat} {i : Nat} (hd : decode M.2.1 pc = .ok (.lload i, 2)) : SO M pc (o_lld i (pc + 2)) := by
  intro d mc ms ls st w K KX Kn gp hK h l p e R s m args below meth c H locs cells slots X ad A n0 ad0 mc0 ms0 la E
  simp only [o_lld] at h
  split at h
  · next x hg =>
    have h1 := hK _ _ _ _ _ _ h
    obtain ⟨⟨htr, hx, hb, hml, hr, hown, hts, hlk, hnm⟩, -, hl, -⟩ := id E
    exact lv_lload hx hb hd (hl_get hl hg) (h1 E)
  · exact h.elim
def o_ald (i nx : Nat) : OP := fun Kn _ _ _ mc ms ls st w => match gL ls i with
  | some (.ref x) => Kn mc ms nx ls (.ref x :: st) w
  | _ => False
theorem s_aldn {M : MM} {pc : Nat} {k : Fin 4} (hd : decode M.2.1 pc = .ok (.aload_n k, 1)) : SO M pc (o_ald (k : Nat) (pc + 1)) := by
  intro d mc ms ls st w K KX Kn gp hK h l p e R s m args below meth c H locs cells slots X ad A n0 ad0 mc0 ms0 la E
  simp only [o_ald] at h
  split at h
  · next x hg =>
    have h1 := hK _ _ _ _ _ _ h
    obtain ⟨⟨htr, hx, hb, hml, hr, hown, hts, hlk, hnm⟩, -, hl, -⟩ := id E
    exact lv_aload_n hx hb hd rfl (hl_get hl hg) (h1 E)
  · exact h.elim
theorem s_ald {M : MM} {pc : Nat} {i : Nat} (hd : decode M.2.1 pc = .ok (.aload i, 2)) : SO M pc (o_ald i (pc + 2)) := by
  intro d mc ms ls st w K KX Kn gp hK h l p e R s m args below meth c H locs cells slots X ad A n0 ad0 mc0 ms0 la E
  simp only [o_ald] at h
  split at h
  · next x hg =>
    have h1 := hK _ _ _ _ _ _ h
    obtain ⟨⟨htr, hx, hb, hml, hr, hown, hts, hlk, hnm⟩, -, hl, -⟩ := id E
    exact lv_aload hx hb hd (hl_get hl hg) (h1 E)
  · exact h.elim
def o_dld (i nx : Nat) : OP := fun Kn _ _ _ mc ms ls st w => match gL ls i with
  | some (.double x) => Kn mc ms nx ls (.double x :: st) w
  | _ => False
theorem s_dldn {M : MM} {pc : Nat} {k : Fin 4} (hd : decode M.2.1 pc = .ok (.dload_n k, 1)) : SO M pc (o_dld (k : Nat) (pc + 1)) := by
  intro d mc ms ls st w K KX Kn gp hK h l p e R s m args below meth c H locs cells slots X ad A n0 ad0 mc0 ms0 la E
  simp only [o_dld] at h
  split at h
  · next x hg =>
    have h1 := hK _ _ _ _ _ _ h
    obtain ⟨⟨htr, hx, hb, hml, hr, hown, hts, hlk, hnm⟩, -, hl, -⟩ := id E
    exact lv_dload_n hx hb hd rfl (hl_get hl hg) (h1 E)
  · exact h.elim
theorem s_dld {M : MM} {pc : Nat} {i : Nat} (hd : decode M.2.1 pc = .ok (.dload i, 2)) : SO M pc (o_dld i (pc + 2)) := by
  intro d mc ms ls st w K KX Kn gp hK h l p e R s m args below meth c H locs cells slots X ad A n0 ad0 mc0 ms0 la E
  simp only [o_dld] at h
  split at h
  · next x hg =>
    have h1 := hK _ _ _ _ _ _ h
    obtain ⟨⟨htr, hx, hb, hml, hr, hown, hts, hlk, hnm⟩, -, hl, -⟩ := id E
    exact lv_dload hx hb hd (hl_get hl hg) (h1 E)
  · exact h.elim
def o_ist (i nx : Nat) : OP := fun Kn _ _ _ mc ms ls st w => match st with
  | .int x :: r => kL1 (.int x) ls i (fun ls => Kn mc ms nx ls r w)
  | _ => False
theorem s_istn {M : MM} {pc : Nat} {k : Fin 4} (hd : decode M.2.1 pc = .ok (.istore_n k, 1)) (hn : (k : Nat) < M.2.2.1) : SO M pc (o_ist (k : Nat) (pc + 1)) := by
  intro d mc ms ls st w K KX Kn gp hK h l p e R s m args below meth c H locs cells slots X ad A n0 ad0 mc0 ms0 la E
  simp only [o_ist] at h
  split at h
  · next x r =>
    rw [kL1_eq] at h
    have h1 := hK _ _ _ _ _ _ h
    obtain ⟨⟨htr, hx, hb, hml, hr, hown, hts, hlk, hnm⟩, E2, hl, E4, E5⟩ := id E
    exact lv_istore_n hx hb hd rfl hl hn rfl (fun la' hl' => h1 ⟨E.1, E2, hl_set1 (v := .int x) hl', E4, E5⟩)
  · exact h.elim
theorem s_ist {M : MM} {pc : Nat} {i : Nat} (hd : decode M.2.1 pc = .ok (.istore i, 2)) (hn : i < M.2.2.1) : SO M pc (o_ist i (pc + 2)) := by
  intro d mc ms ls st w K KX Kn gp hK h l p e R s m args below meth c H locs cells slots X ad A n0 ad0 mc0 ms0 la E
  simp only [o_ist] at h
  split at h
  · next x r =>
    rw [kL1_eq] at h
    have h1 := hK _ _ _ _ _ _ h
    obtain ⟨⟨htr, hx, hb, hml, hr, hown, hts, hlk, hnm⟩, E2, hl, E4, E5⟩ := id E
    exact lv_istore hx hb hd hl hn rfl (fun la' hl' => h1 ⟨E.1, E2, hl_set1 (v := .int x) hl', E4, E5⟩)
  · exact h.elim
def o_lst (i nx : Nat) : OP := fun Kn _ _ _ mc ms ls st w => match st with
  | .long x :: r => kL1 (.long x) ls i (fun l => kN l (i + 1) (fun ls => Kn mc ms nx ls r w))
  | _ => False
theorem s_lstn {M : MM} {pc : Nat} {k : Fin 4} (hd : decode M.2.1 pc = .ok (.lstore_n k, 1)) (hn : (k : Nat) + 1 < M.2.2.1) : SO M pc (o_lst (k : Nat) (pc + 1)) := by
  intro d mc ms ls st w K KX Kn gp hK h l p e R s m args below meth c H locs cells slots X ad A n0 ad0 mc0 ms0 la E
  simp only [o_lst] at h
  split at h
  · next x r =>
    rw [kL1_eq, kN_eq] at h
    have h1 := hK _ _ _ _ _ _ h
    obtain ⟨⟨htr, hx, hb, hml, hr, hown, hts, hlk, hnm⟩, E2, hl, E4, E5⟩ := id E
    exact lv_lstore_n hx hb hd rfl hl hn rfl (fun la' hl' => h1 ⟨E.1, E2, hl_set2 (v := .long x) hl', E4, E5⟩)
  · exact h.elim
theorem s_lst {M : MM} {pc : Nat} {i : Nat} (hd : decode M.2.1 pc = .ok (.lstore i, 2)) (hn : i + 1 < M.2.2.1) : SO M pc (o_lst i (pc + 2)) := by
  intro d mc ms ls st w K KX Kn gp hK h l p e R s m args below meth c H locs cells slots X ad A n0 ad0 mc0 ms0 la E
  simp only [o_lst] at h
  split at h
  · next x r =>
    rw [kL1_eq, kN_eq] at h
    have h1 := hK _ _ _ _ _ _ h
    obtain ⟨⟨htr, hx, hb, hml, hr, hown, hts, hlk, hnm⟩, E2, hl, E4, E5⟩ := id E
    exact lv_lstore hx hb hd hl hn rfl (fun la' hl' => h1 ⟨E.1, E2, hl_set2 (v := .long x) hl', E4, E5⟩)
  · exact h.elim
def o_ast (i nx : Nat) : OP := fun Kn _ _ _ mc ms ls st w => match st with
  | .ref x :: r => kL1 (.ref x) ls i (fun ls => Kn mc ms nx ls r w)
  | _ => False
theorem s_astn {M : MM} {pc : Nat} {k : Fin 4} (hd : decode M.2.1 pc = .ok (.astore_n k, 1)) (hn : (k : Nat) < M.2.2.1) : SO M pc (o_ast (k : Nat) (pc + 1)) := by
  intro d mc ms ls st w K KX Kn gp hK h l p e R s m args below meth c H locs cells slots X ad A n0 ad0 mc0 ms0 la E
  simp only [o_ast] at h
  split at h
  · next x r =>
    rw [kL1_eq] at h
    have h1 := hK _ _ _ _ _ _ h
    obtain ⟨⟨htr, hx, hb, hml, hr, hown, hts, hlk, hnm⟩, E2, hl, E4, E5⟩ := id E
    exact lv_astore_n hx hb hd rfl hl hn rfl (fun la' hl' => h1 ⟨E.1, E2, hl_set1 (v := .ref x) hl', E4, E5⟩)
  · exact h.elim
theorem s_ast {M : MM} {pc : Nat} {i : Nat} (hd : decode M.2.1 pc = .ok (.astore i, 2)) (hn : i < M.2.2.1) : SO M pc (o_ast i (pc + 2)) := by
  intro d mc ms ls st w K KX Kn gp hK h l p e R s m args below meth c H locs cells slots X ad A n0 ad0 mc0 ms0 la E
  simp only [o_ast] at h
  split at h
  · next x r =>
    rw [kL1_eq] at h
    have h1 := hK _ _ _ _ _ _ h
    obtain ⟨⟨htr, hx, hb, hml, hr, hown, hts, hlk, hnm⟩, E2, hl, E4, E5⟩ := id E
    exact lv_astore hx hb hd hl hn rfl (fun la' hl' => h1 ⟨E.1, E2, hl_set1 (v := .ref x) hl', E4, E5⟩)
  · exact h.elim
def o_dst (i nx : Nat) : OP := fun Kn _ _ _ mc ms ls st w => match st with
  | .double x :: r => kL1 (.double x) ls i (fun l => kN l (i + 1) (fun ls => Kn mc ms nx ls r w))
  | _ => False
theorem s_dstn {M : MM} {pc : Nat} {k : Fin 4} (hd : decode M.2.1 pc = .ok (.dstore_n k, 1)) (hn : (k : Nat) + 1 < M.2.2.1) : SO M pc (o_dst (k : Nat) (pc + 1)) := by
  intro d mc ms ls st w K KX Kn gp hK h l p e R s m args below meth c H locs cells slots X ad A n0 ad0 mc0 ms0 la E
  simp only [o_dst] at h
  split at h
  · next x r =>
    rw [kL1_eq, kN_eq] at h
    have h1 := hK _ _ _ _ _ _ h
    obtain ⟨⟨htr, hx, hb, hml, hr, hown, hts, hlk, hnm⟩, E2, hl, E4, E5⟩ := id E
    exact lv_dstore_n hx hb hd rfl hl hn rfl (fun la' hl' => h1 ⟨E.1, E2, hl_set2 (v := .double x) hl', E4, E5⟩)
  · exact h.elim
theorem s_dst {M : MM} {pc : Nat} {i : Nat} (hd : decode M.2.1 pc = .ok (.dstore i, 2)) (hn : i + 1 < M.2.2.1) : SO M pc (o_dst i (pc + 2)) := by
  intro d mc ms ls st w K KX Kn gp hK h l p e R s m args below meth c H locs cells slots X ad A n0 ad0 mc0 ms0 la E
  simp only [o_dst] at h
  split at h
  · next x r =>
    rw [kL1_eq, kN_eq] at h
    have h1 := hK _ _ _ _ _ _ h
    obtain ⟨⟨htr, hx, hb, hml, hr, hown, hts, hlk, hnm⟩, E2, hl, E4, E5⟩ := id E
    exact lv_dstore hx hb hd hl hn rfl (fun la' hl' => h1 ⟨E.1, E2, hl_set2 (v := .double x) hl', E4, E5⟩)
  · exact h.elim
def o_iinc (i : Nat) (c9 : Int32) (nx : Nat) : OP := fun Kn _ _ _ mc ms ls st w => match gL ls i with
  | some (.int x) => kL1 (.int (x + c9)) ls i (fun ls => Kn mc ms nx ls st w)
  | _ => False
theorem s_iinc {M : MM} {pc i : Nat} {n : Int} {c9 : Int32} (hd : decode M.2.1 pc = .ok (.iinc i n, 3)) (hv : Int32.ofInt n = c9) (hn : i < M.2.2.1) : SO M pc (o_iinc i c9 (pc + 3)) := by
  intro d mc ms ls st w K KX Kn gp hK h l p e R s m args below meth c H locs cells slots X ad A n0 ad0 mc0 ms0 la E
  simp only [o_iinc] at h
  split at h
  · next x hg =>
    rw [kL1_eq] at h
    have h1 := hK _ _ _ _ _ _ h
    obtain ⟨⟨htr, hx, hb, hml, hr, hown, hts, hlk, hnm⟩, E2, hl, E4, E5⟩ := id E
    have hm : (i, Value.int x) ∈ prs ad ls := prs_mem.mpr ⟨.int x, gL_eq _ _ _ hg, rfl⟩
    obtain ⟨k, hk⟩ := List.getElem?_of_mem hm
    exact lv_iinc (v := x + c9) hx hb hd hl hk (by rw [hv]) hn rfl (fun la' hl' => h1 ⟨E.1, E2, hl_set1 (v := .int (x + c9)) hl', E4, E5⟩)
  · exact h.elim
def o_iadd (nx : Nat) : OP := fun Kn _ _ _ mc ms ls st w => match st with
  | .int y :: .int x :: r => Kn mc ms nx ls (.int (x + y) :: r) w
  | _ => False
theorem s_iadd {M : MM} {pc : Nat} (hd : decode M.2.1 pc = .ok (.iadd, 1)) : SO M pc (o_iadd (pc + 1)) := by
  intro d mc ms ls st w K KX Kn gp hK h l p e R s m args below meth c H locs cells slots X ad A n0 ad0 mc0 ms0 la E
  simp only [o_iadd] at h
  split at h
  · skip
    have h1 := hK _ _ _ _ _ _ h
    obtain ⟨⟨htr, hx, hb, hml, hr, hown, hts, hlk, hnm⟩, -⟩ := id E
    exact lv_iadd hx hb hd (h1 E)
  · exact h.elim
def o_isub (nx : Nat) : OP := fun Kn _ _ _ mc ms ls st w => match st with
  | .int y :: .int x :: r => Kn mc ms nx ls (.int (x - y) :: r) w
  | _ => False
theorem s_isub {M : MM} {pc : Nat} (hd : decode M.2.1 pc = .ok (.isub, 1)) : SO M pc (o_isub (pc + 1)) := by
  intro d mc ms ls st w K KX Kn gp hK h l p e R s m args below meth c H locs cells slots X ad A n0 ad0 mc0 ms0 la E
  simp only [o_isub] at h
  split at h
  · skip
    have h1 := hK _ _ _ _ _ _ h
    obtain ⟨⟨htr, hx, hb, hml, hr, hown, hts, hlk, hnm⟩, -⟩ := id E
    exact lv_isub hx hb hd (h1 E)
  · exact h.elim
def o_imul (nx : Nat) : OP := fun Kn _ _ _ mc ms ls st w => match st with
  | .int y :: .int x :: r => Kn mc ms nx ls (.int (x * y) :: r) w
  | _ => False
theorem s_imul {M : MM} {pc : Nat} (hd : decode M.2.1 pc = .ok (.imul, 1)) : SO M pc (o_imul (pc + 1)) := by
  intro d mc ms ls st w K KX Kn gp hK h l p e R s m args below meth c H locs cells slots X ad A n0 ad0 mc0 ms0 la E
  simp only [o_imul] at h
  split at h
  · skip
    have h1 := hK _ _ _ _ _ _ h
    obtain ⟨⟨htr, hx, hb, hml, hr, hown, hts, hlk, hnm⟩, -⟩ := id E
    exact lv_imul hx hb hd (h1 E)
  · exact h.elim
def o_iand (nx : Nat) : OP := fun Kn _ _ _ mc ms ls st w => match st with
  | .int y :: .int x :: r => Kn mc ms nx ls (.int (x &&& y) :: r) w
  | _ => False
theorem s_iand {M : MM} {pc : Nat} (hd : decode M.2.1 pc = .ok (.iand, 1)) : SO M pc (o_iand (pc + 1)) := by
  intro d mc ms ls st w K KX Kn gp hK h l p e R s m args below meth c H locs cells slots X ad A n0 ad0 mc0 ms0 la E
  simp only [o_iand] at h
  split at h
  · skip
    have h1 := hK _ _ _ _ _ _ h
    obtain ⟨⟨htr, hx, hb, hml, hr, hown, hts, hlk, hnm⟩, -⟩ := id E
    exact lv_iand hx hb hd (h1 E)
  · exact h.elim
def o_ior (nx : Nat) : OP := fun Kn _ _ _ mc ms ls st w => match st with
  | .int y :: .int x :: r => Kn mc ms nx ls (.int (x ||| y) :: r) w
  | _ => False
theorem s_ior {M : MM} {pc : Nat} (hd : decode M.2.1 pc = .ok (.ior, 1)) : SO M pc (o_ior (pc + 1)) := by
  intro d mc ms ls st w K KX Kn gp hK h l p e R s m args below meth c H locs cells slots X ad A n0 ad0 mc0 ms0 la E
  simp only [o_ior] at h
  split at h
  · skip
    have h1 := hK _ _ _ _ _ _ h
    obtain ⟨⟨htr, hx, hb, hml, hr, hown, hts, hlk, hnm⟩, -⟩ := id E
    exact lv_ior hx hb hd (h1 E)
  · exact h.elim
def o_ixor (nx : Nat) : OP := fun Kn _ _ _ mc ms ls st w => match st with
  | .int y :: .int x :: r => Kn mc ms nx ls (.int (x ^^^ y) :: r) w
  | _ => False
theorem s_ixor {M : MM} {pc : Nat} (hd : decode M.2.1 pc = .ok (.ixor, 1)) : SO M pc (o_ixor (pc + 1)) := by
  intro d mc ms ls st w K KX Kn gp hK h l p e R s m args below meth c H locs cells slots X ad A n0 ad0 mc0 ms0 la E
  simp only [o_ixor] at h
  split at h
  · skip
    have h1 := hK _ _ _ _ _ _ h
    obtain ⟨⟨htr, hx, hb, hml, hr, hown, hts, hlk, hnm⟩, -⟩ := id E
    exact lv_ixor hx hb hd (h1 E)
  · exact h.elim
def o_idiv (nx : Nat) : OP := fun Kn _ _ _ mc ms ls st w => match st with
  | .int y :: .int x :: r => (¬ y = 0) ∧ Kn mc ms nx ls (.int (x / y) :: r) w
  | _ => False
theorem s_idiv {M : MM} {pc : Nat} (hd : decode M.2.1 pc = .ok (.idiv, 1)) : SO M pc (o_idiv (pc + 1)) := by
  intro d mc ms ls st w K KX Kn gp hK h l p e R s m args below meth c H locs cells slots X ad A n0 ad0 mc0 ms0 la E
  simp only [o_idiv] at h
  split at h
  · obtain ⟨hne, h⟩ := h
    have h1 := hK _ _ _ _ _ _ h
    obtain ⟨⟨htr, hx, hb, hml, hr, hown, hts, hlk, hnm⟩, -⟩ := id E
    exact lv_idiv hx hb hd hne (h1 E)
  · exact h.elim
def o_irem (nx : Nat) : OP := fun Kn _ _ _ mc ms ls st w => match st with
  | .int y :: .int x :: r => (¬ y = 0) ∧ Kn mc ms nx ls (.int (x - x / y * y) :: r) w
  | _ => False
theorem s_irem {M : MM} {pc : Nat} (hd : decode M.2.1 pc = .ok (.irem, 1)) : SO M pc (o_irem (pc + 1)) := by
  intro d mc ms ls st w K KX Kn gp hK h l p e R s m args below meth c H locs cells slots X ad A n0 ad0 mc0 ms0 la E
  simp only [o_irem] at h
  split at h
  · obtain ⟨hne, h⟩ := h
    have h1 := hK _ _ _ _ _ _ h
    obtain ⟨⟨htr, hx, hb, hml, hr, hown, hts, hlk, hnm⟩, -⟩ := id E
    exact lv_irem hx hb hd hne (h1 E)
  · exact h.elim
def o_ineg (nx : Nat) : OP := fun Kn _ _ _ mc ms ls st w => match st with
  | .int x :: r => Kn mc ms nx ls (.int (-x) :: r) w
  | _ => False
theorem s_ineg {M : MM} {pc : Nat} (hd : decode M.2.1 pc = .ok (.ineg, 1)) : SO M pc (o_ineg (pc + 1)) := by
  intro d mc ms ls st w K KX Kn gp hK h l p e R s m args below meth c H locs cells slots X ad A n0 ad0 mc0 ms0 la E
  simp only [o_ineg] at h
  split at h
  · skip
    have h1 := hK _ _ _ _ _ _ h
    obtain ⟨⟨htr, hx, hb, hml, hr, hown, hts, hlk, hnm⟩, -⟩ := id E
    exact lv_ineg hx hb hd (h1 E)
  · exact h.elim
def o_ladd (nx : Nat) : OP := fun Kn _ _ _ mc ms ls st w => match st with
  | .long y :: .long x :: r => Kn mc ms nx ls (.long (x + y) :: r) w
  | _ => False
theorem s_ladd {M : MM} {pc : Nat} (hd : decode M.2.1 pc = .ok (.ladd, 1)) : SO M pc (o_ladd (pc + 1)) := by
  intro d mc ms ls st w K KX Kn gp hK h l p e R s m args below meth c H locs cells slots X ad A n0 ad0 mc0 ms0 la E
  simp only [o_ladd] at h
  split at h
  · skip
    have h1 := hK _ _ _ _ _ _ h
    obtain ⟨⟨htr, hx, hb, hml, hr, hown, hts, hlk, hnm⟩, -⟩ := id E
    exact lv_ladd hx hb hd (h1 E)
  · exact h.elim
def o_lsub (nx : Nat) : OP := fun Kn _ _ _ mc ms ls st w => match st with
  | .long y :: .long x :: r => Kn mc ms nx ls (.long (x - y) :: r) w
  | _ => False
theorem s_lsub {M : MM} {pc : Nat} (hd : decode M.2.1 pc = .ok (.lsub, 1)) : SO M pc (o_lsub (pc + 1)) := by
  intro d mc ms ls st w K KX Kn gp hK h l p e R s m args below meth c H locs cells slots X ad A n0 ad0 mc0 ms0 la E
  simp only [o_lsub] at h
  split at h
  · skip
    have h1 := hK _ _ _ _ _ _ h
    obtain ⟨⟨htr, hx, hb, hml, hr, hown, hts, hlk, hnm⟩, -⟩ := id E
    exact lv_lsub hx hb hd (h1 E)
  · exact h.elim
def o_lmul (nx : Nat) : OP := fun Kn _ _ _ mc ms ls st w => match st with
  | .long y :: .long x :: r => Kn mc ms nx ls (.long (x * y) :: r) w
  | _ => False
theorem s_lmul {M : MM} {pc : Nat} (hd : decode M.2.1 pc = .ok (.lmul, 1)) : SO M pc (o_lmul (pc + 1)) := by
  intro d mc ms ls st w K KX Kn gp hK h l p e R s m args below meth c H locs cells slots X ad A n0 ad0 mc0 ms0 la E
  simp only [o_lmul] at h
  split at h
  · skip
    have h1 := hK _ _ _ _ _ _ h
    obtain ⟨⟨htr, hx, hb, hml, hr, hown, hts, hlk, hnm⟩, -⟩ := id E
    exact lv_lmul hx hb hd (h1 E)
  · exact h.elim
def o_land (nx : Nat) : OP := fun Kn _ _ _ mc ms ls st w => match st with
  | .long y :: .long x :: r => Kn mc ms nx ls (.long (x &&& y) :: r) w
  | _ => False
theorem s_land {M : MM} {pc : Nat} (hd : decode M.2.1 pc = .ok (.land, 1)) : SO M pc (o_land (pc + 1)) := by
  intro d mc ms ls st w K KX Kn gp hK h l p e R s m args below meth c H locs cells slots X ad A n0 ad0 mc0 ms0 la E
  simp only [o_land] at h
  split at h
  · skip
    have h1 := hK _ _ _ _ _ _ h
    obtain ⟨⟨htr, hx, hb, hml, hr, hown, hts, hlk, hnm⟩, -⟩ := id E
    exact lv_land hx hb hd (h1 E)
  · exact h.elim
def o_lxor (nx : Nat) : OP := fun Kn _ _ _ mc ms ls st w => match st with
  | .long y :: .long x :: r => Kn mc ms nx ls (.long (x ^^^ y) :: r) w
  | _ => False
theorem s_lxor {M : MM} {pc : Nat} (hd : decode M.2.1 pc = .ok (.lxor, 1)) : SO M pc (o_lxor (pc + 1)) := by
  intro d mc ms ls st w K KX Kn gp hK h l p e R s m args below meth c H locs cells slots X ad A n0 ad0 mc0 ms0 la E
  simp only [o_lxor] at h
  split at h
  · skip
    have h1 := hK _ _ _ _ _ _ h
    obtain ⟨⟨htr, hx, hb, hml, hr, hown, hts, hlk, hnm⟩, -⟩ := id E
    exact lv_lxor hx hb hd (h1 E)
  · exact h.elim
def o_ldiv (nx : Nat) : OP := fun Kn _ _ _ mc ms ls st w => match st with
  | .long y :: .long x :: r => (¬ y = 0) ∧ Kn mc ms nx ls (.long (x / y) :: r) w
  | _ => False
theorem s_ldiv {M : MM} {pc : Nat} (hd : decode M.2.1 pc = .ok (.ldiv, 1)) : SO M pc (o_ldiv (pc + 1)) := by
  intro d mc ms ls st w K KX Kn gp hK h l p e R s m args below meth c H locs cells slots X ad A n0 ad0 mc0 ms0 la E
  simp only [o_ldiv] at h
  split at h
  · obtain ⟨hne, h⟩ := h
    have h1 := hK _ _ _ _ _ _ h
    obtain ⟨⟨htr, hx, hb, hml, hr, hown, hts, hlk, hnm⟩, -⟩ := id E
    exact lv_ldiv hx hb hd hne (h1 E)
  · exact h.elim
def o_lrem (nx : Nat) : OP := fun Kn _ _ _ mc ms ls st w => match st with
  | .long y :: .long x :: r => (¬ y = 0) ∧ Kn mc ms nx ls (.long (x - x / y * y) :: r) w
  | _ => False
theorem s_lrem {M : MM} {pc : Nat} (hd : decode M.2.1 pc = .ok (.lrem, 1)) : SO M pc (o_lrem (pc + 1)) := by
  intro d mc ms ls st w K KX Kn gp hK h l p e R s m args below meth c H locs cells slots X ad A n0 ad0 mc0 ms0 la E
  simp only [o_lrem] at h
  split at h
  · obtain ⟨hne, h⟩ := h
    have h1 := hK _ _ _ _ _ _ h
    obtain ⟨⟨htr, hx, hb, hml, hr, hown, hts, hlk, hnm⟩, -⟩ := id E
    exact lv_lrem hx hb hd hne (h1 E)
  · exact h.elim
def o_lneg (nx : Nat) : OP := fun Kn _ _ _ mc ms ls st w => match st with
  | .long x :: r => Kn mc ms nx ls (.long (-x) :: r) w
  | _ => False
theorem s_lneg {M : MM} {pc : Nat} (hd : decode M.2.1 pc = .ok (.lneg, 1)) : SO M pc (o_lneg (pc + 1)) := by
  intro d mc ms ls st w K KX Kn gp hK h l p e R s m args below meth c H locs cells slots X ad A n0 ad0 mc0 ms0 la E
  simp only [o_lneg] at h
  split at h
  · skip
    have h1 := hK _ _ _ _ _ _ h
    obtain ⟨⟨htr, hx, hb, hml, hr, hown, hts, hlk, hnm⟩, -⟩ := id E
    exact lv_lneg hx hb hd (h1 E)
  · exact h.elim
def o_ishl (nx : Nat) : OP := fun Kn _ _ _ mc ms ls st w => match st with
  | .int y :: .int x :: r => Kn mc ms nx ls (.int (x <<< (y &&& 31)) :: r) w
  | _ => False
theorem s_ishl {M : MM} {pc : Nat} (hd : decode M.2.1 pc = .ok (.ishl, 1)) : SO M pc (o_ishl (pc + 1)) := by
  intro d mc ms ls st w K KX Kn gp hK h l p e R s m args below meth c H locs cells slots X ad A n0 ad0 mc0 ms0 la E
  simp only [o_ishl] at h
  split at h
  · skip
    have h1 := hK _ _ _ _ _ _ h
    obtain ⟨⟨htr, hx, hb, hml, hr, hown, hts, hlk, hnm⟩, -⟩ := id E
    exact lv_ishl hx hb hd (h1 E)
  · exact h.elim
def o_ishr (nx : Nat) : OP := fun Kn _ _ _ mc ms ls st w => match st with
  | .int y :: .int x :: r => Kn mc ms nx ls (.int (x >>> (y &&& 31)) :: r) w
  | _ => False
theorem s_ishr {M : MM} {pc : Nat} (hd : decode M.2.1 pc = .ok (.ishr, 1)) : SO M pc (o_ishr (pc + 1)) := by
  intro d mc ms ls st w K KX Kn gp hK h l p e R s m args below meth c H locs cells slots X ad A n0 ad0 mc0 ms0 la E
  simp only [o_ishr] at h
  split at h
  · skip
    have h1 := hK _ _ _ _ _ _ h
    obtain ⟨⟨htr, hx, hb, hml, hr, hown, hts, hlk, hnm⟩, -⟩ := id E
    exact lv_ishr hx hb hd (h1 E)
  · exact h.elim
def o_i2l (nx : Nat) : OP := fun Kn _ _ _ mc ms ls st w => match st with
  | .int x :: r => Kn mc ms nx ls (.long x.toInt64 :: r) w
  | _ => False
theorem s_i2l {M : MM} {pc : Nat} (hd : decode M.2.1 pc = .ok (.i2l, 1)) : SO M pc (o_i2l (pc + 1)) := by
  intro d mc ms ls st w K KX Kn gp hK h l p e R s m args below meth c H locs cells slots X ad A n0 ad0 mc0 ms0 la E
  simp only [o_i2l] at h
  split at h
  · skip
    have h1 := hK _ _ _ _ _ _ h
    obtain ⟨⟨htr, hx, hb, hml, hr, hown, hts, hlk, hnm⟩, -⟩ := id E
    exact lv_i2l hx hb hd rfl (h1 E)
  · exact h.elim
def o_l2i (nx : Nat) : OP := fun Kn _ _ _ mc ms ls st w => match st with
  | .long x :: r => Kn mc ms nx ls (.int x.toInt32 :: r) w
  | _ => False
theorem s_l2i {M : MM} {pc : Nat} (hd : decode M.2.1 pc = .ok (.l2i, 1)) : SO M pc (o_l2i (pc + 1)) := by
  intro d mc ms ls st w K KX Kn gp hK h l p e R s m args below meth c H locs cells slots X ad A n0 ad0 mc0 ms0 la E
  simp only [o_l2i] at h
  split at h
  · skip
    have h1 := hK _ _ _ _ _ _ h
    obtain ⟨⟨htr, hx, hb, hml, hr, hown, hts, hlk, hnm⟩, -⟩ := id E
    exact lv_l2i hx hb hd rfl (h1 E)
  · exact h.elim
def o_i2b (nx : Nat) : OP := fun Kn _ _ _ mc ms ls st w => match st with
  | .int x :: r => Kn mc ms nx ls (.int x.toInt8.toInt32 :: r) w
  | _ => False
theorem s_i2b {M : MM} {pc : Nat} (hd : decode M.2.1 pc = .ok (.i2b, 1)) : SO M pc (o_i2b (pc + 1)) := by
  intro d mc ms ls st w K KX Kn gp hK h l p e R s m args below meth c H locs cells slots X ad A n0 ad0 mc0 ms0 la E
  simp only [o_i2b] at h
  split at h
  · skip
    have h1 := hK _ _ _ _ _ _ h
    obtain ⟨⟨htr, hx, hb, hml, hr, hown, hts, hlk, hnm⟩, -⟩ := id E
    exact lv_i2b hx hb hd rfl (h1 E)
  · exact h.elim
def o_i2c (nx : Nat) : OP := fun Kn _ _ _ mc ms ls st w => match st with
  | .int x :: r => Kn mc ms nx ls (.int (x.toUInt32 % 65536).toInt32 :: r) w
  | _ => False
theorem s_i2c {M : MM} {pc : Nat} (hd : decode M.2.1 pc = .ok (.i2c, 1)) : SO M pc (o_i2c (pc + 1)) := by
  intro d mc ms ls st w K KX Kn gp hK h l p e R s m args below meth c H locs cells slots X ad A n0 ad0 mc0 ms0 la E
  simp only [o_i2c] at h
  split at h
  · skip
    have h1 := hK _ _ _ _ _ _ h
    obtain ⟨⟨htr, hx, hb, hml, hr, hown, hts, hlk, hnm⟩, -⟩ := id E
    exact lv_i2c hx hb hd rfl (h1 E)
  · exact h.elim
def o_i2f (nx : Nat) : OP := fun Kn _ _ _ mc ms ls st w => match st with
  | .int x :: r => Kn mc ms nx ls (.float (FP.i2f x) :: r) w
  | _ => False
theorem s_i2f {M : MM} {pc : Nat} (hd : decode M.2.1 pc = .ok (.i2f, 1)) : SO M pc (o_i2f (pc + 1)) := by
  intro d mc ms ls st w K KX Kn gp hK h l p e R s m args below meth c H locs cells slots X ad A n0 ad0 mc0 ms0 la E
  simp only [o_i2f] at h
  split at h
  · skip
    have h1 := hK _ _ _ _ _ _ h
    obtain ⟨⟨htr, hx, hb, hml, hr, hown, hts, hlk, hnm⟩, -⟩ := id E
    exact lv_i2f hx hb hd (h1 E)
  · exact h.elim
def o_l2d (nx : Nat) : OP := fun Kn _ _ _ mc ms ls st w => match st with
  | .long x :: r => Kn mc ms nx ls (.double (FP.l2d x) :: r) w
  | _ => False
theorem s_l2d {M : MM} {pc : Nat} (hd : decode M.2.1 pc = .ok (.l2d, 1)) : SO M pc (o_l2d (pc + 1)) := by
  intro d mc ms ls st w K KX Kn gp hK h l p e R s m args below meth c H locs cells slots X ad A n0 ad0 mc0 ms0 la E
  simp only [o_l2d] at h
  split at h
  · skip
    have h1 := hK _ _ _ _ _ _ h
    obtain ⟨⟨htr, hx, hb, hml, hr, hown, hts, hlk, hnm⟩, -⟩ := id E
    exact lv_l2d hx hb hd (h1 E)
  · exact h.elim
def o_lcmp (nx : Nat) : OP := fun Kn _ _ _ mc ms ls st w => match st with
  | .long y :: .long x :: r => Kn mc ms nx ls (.int (lg_cmp x y) :: r) w
  | _ => False
theorem s_lcmp {M : MM} {pc : Nat} (hd : decode M.2.1 pc = .ok (.lcmp, 1)) : SO M pc (o_lcmp (pc + 1)) := by
  intro d mc ms ls st w K KX Kn gp hK h l p e R s m args below meth c H locs cells slots X ad A n0 ad0 mc0 ms0 la E
  simp only [o_lcmp] at h
  split at h
  · skip
    have h1 := hK _ _ _ _ _ _ h
    obtain ⟨⟨htr, hx, hb, hml, hr, hown, hts, hlk, hnm⟩, -⟩ := id E
    exact W.lcmp hx hb hd (h1 E)
  · exact h.elim
def o_dup (nx : Nat) : OP := fun Kn _ _ _ mc ms ls st w => match st with
  | .int x :: r => Kn mc ms nx ls (.int x :: .int x :: r) w
  | .ref x :: r => Kn mc ms nx ls (.ref x :: .ref x :: r) w
  | _ => False
theorem s_dup {M : MM} {pc : Nat} (hd : decode M.2.1 pc = .ok (.dup, 1)) : SO M pc (o_dup (pc + 1)) := by
  intro d mc ms ls st w K KX Kn gp hK h l p e R s m args below meth c H locs cells slots X ad A n0 ad0 mc0 ms0 la E
  obtain ⟨⟨htr, hx, hb, hml, hr, hown, hts, hlk, hnm⟩, -⟩ := id E
  simp only [o_dup] at h
  split at h
  · exact lv_dup hx hb hd rfl (hK _ _ _ _ _ _ h E)
  · exact lv_dup hx hb hd rfl (hK _ _ _ _ _ _ h E)
  · exact h.elim
def o_pop (nx : Nat) : OP := fun Kn _ _ _ mc ms ls st w => match st with
  | .int x :: r => Kn mc ms nx ls r w
  | .ref x :: r => Kn mc ms nx ls r w
  | _ => False
theorem s_pop {M : MM} {pc : Nat} (hd : decode M.2.1 pc = .ok (.pop, 1)) : SO M pc (o_pop (pc + 1)) := by
  intro d mc ms ls st w K KX Kn gp hK h l p e R s m args below meth c H locs cells slots X ad A n0 ad0 mc0 ms0 la E
  obtain ⟨⟨htr, hx, hb, hml, hr, hown, hts, hlk, hnm⟩, -⟩ := id E
  simp only [o_pop] at h
  split at h
  · exact lv_pop hx hb hd rfl (hK _ _ _ _ _ _ h E)
  · exact lv_pop hx hb hd rfl (hK _ _ _ _ _ _ h E)
  · exact h.elim
def o_dup_x1 (nx : Nat) : OP := fun Kn _ _ _ mc ms ls st w => match st with
  | .int x :: .ref y :: r => Kn mc ms nx ls (.int x :: .ref y :: .int x :: r) w
  | _ => False
theorem s_dup_x1 {M : MM} {pc : Nat} (hd : decode M.2.1 pc = .ok (.dup_x1, 1)) : SO M pc (o_dup_x1 (pc + 1)) := by
  intro d mc ms ls st w K KX Kn gp hK h l p e R s m args below meth c H locs cells slots X ad A n0 ad0 mc0 ms0 la E
  obtain ⟨⟨htr, hx, hb, hml, hr, hown, hts, hlk, hnm⟩, -⟩ := id E
  simp only [o_dup_x1] at h
  split at h
  · exact lv_dup_x1 hx hb hd rfl rfl (hK _ _ _ _ _ _ h E)
  · exact h.elim
def o_dup2 (nx : Nat) : OP := fun Kn _ _ _ mc ms ls st w => match st with
  | .int x :: .ref y :: r => Kn mc ms nx ls (.int x :: .ref y :: .int x :: .ref y :: r) w
  | _ => False
theorem s_dup2 {M : MM} {pc : Nat} (hd : decode M.2.1 pc = .ok (.dup2, 1)) : SO M pc (o_dup2 (pc + 1)) := by
  intro d mc ms ls st w K KX Kn gp hK h l p e R s m args below meth c H locs cells slots X ad A n0 ad0 mc0 ms0 la E
  obtain ⟨⟨htr, hx, hb, hml, hr, hown, hts, hlk, hnm⟩, -⟩ := id E
  simp only [o_dup2] at h
  split at h
  · exact lv_dup2_11 hx hb hd rfl rfl (hK _ _ _ _ _ _ h E)
  · exact h.elim
def o_goto (t : Nat) : OP := fun Kn _ _ _ mc ms ls st w => Kn mc ms t ls st w
theorem s_goto {M : MM} {pc t : Nat} {off : Int} (hd : decode M.2.1 pc = .ok (.goto off, 3)) (ht : (pc : Int) + off = (t : Int)) : SO M pc (o_goto t) := by
  intro d mc ms ls st w K KX Kn gp hK h l p e R s m args below meth c H locs cells slots X ad A n0 ad0 mc0 ms0 la E
  obtain ⟨⟨htr, hx, hb, hml, hr, hown, hts, hlk, hnm⟩, -⟩ := id E
  exact lv_goto hx hb hd ht (hK _ _ _ _ _ _ h E)
def o_if_eq (t nx : Nat) : OP := fun Kn _ _ _ mc ms ls st w => match st with
  | .int x :: r => (x = 0 → Kn mc ms t ls r w) ∧ (¬ x = 0 → Kn mc ms nx ls r w)
  | _ => False
theorem s_if_eq {M : MM} {pc t : Nat} {off : Int} (hd : decode M.2.1 pc = .ok (.ifCond .eq off, 3)) (ht : (pc : Int) + off = (t : Int)) : SO M pc (o_if_eq t (pc + 3)) := by
  intro d mc ms ls st w K KX Kn gp hK h l p e R s m args below meth c H locs cells slots X ad A n0 ad0 mc0 ms0 la E
  obtain ⟨⟨htr, hx, hb, hml, hr, hown, hts, hlk, hnm⟩, -⟩ := id E
  simp only [o_if_eq] at h
  split at h
  · exact lv_if_eq hx hb hd ht (fun z => hK _ _ _ _ _ _ (h.1 z) E) (fun z => hK _ _ _ _ _ _ (h.2 z) E)
  · exact h.elim
def o_icmp_eq (t nx : Nat) : OP := fun Kn _ _ _ mc ms ls st w => match st with
  | .int y :: .int x :: r => (x = y → Kn mc ms t ls r w) ∧ (¬ x = y → Kn mc ms nx ls r w)
  | _ => False
theorem s_icmp_eq {M : MM} {pc t : Nat} {off : Int} (hd : decode M.2.1 pc = .ok (.if_icmp .eq off, 3)) (ht : (pc : Int) + off = (t : Int)) : SO M pc (o_icmp_eq t (pc + 3)) := by
  intro d mc ms ls st w K KX Kn gp hK h l p e R s m args below meth c H locs cells slots X ad A n0 ad0 mc0 ms0 la E
  obtain ⟨⟨htr, hx, hb, hml, hr, hown, hts, hlk, hnm⟩, -⟩ := id E
  simp only [o_icmp_eq] at h
  split at h
  · exact lv_icmp_eq hx hb hd ht (fun z => hK _ _ _ _ _ _ (h.1 z) E) (fun z => hK _ _ _ _ _ _ (h.2 z) E)
  · exact h.elim
def o_if_ne (t nx : Nat) : OP := fun Kn _ _ _ mc ms ls st w => match st with
  | .int x :: r => (¬ x = 0 → Kn mc ms t ls r w) ∧ (x = 0 → Kn mc ms nx ls r w)
  | _ => False
theorem s_if_ne {M : MM} {pc t : Nat} {off : Int} (hd : decode M.2.1 pc = .ok (.ifCond .ne off, 3)) (ht : (pc : Int) + off = (t : Int)) : SO M pc (o_if_ne t (pc + 3)) := by
  intro d mc ms ls st w K KX Kn gp hK h l p e R s m args below meth c H locs cells slots X ad A n0 ad0 mc0 ms0 la E
  obtain ⟨⟨htr, hx, hb, hml, hr, hown, hts, hlk, hnm⟩, -⟩ := id E
  simp only [o_if_ne] at h
  split at h
  · exact lv_if_ne hx hb hd ht (fun z => hK _ _ _ _ _ _ (h.1 z) E) (fun z => hK _ _ _ _ _ _ (h.2 z) E)
  · exact h.elim
def o_icmp_ne (t nx : Nat) : OP := fun Kn _ _ _ mc ms ls st w => match st with
  | .int y :: .int x :: r => (¬ x = y → Kn mc ms t ls r w) ∧ (x = y → Kn mc ms nx ls r w)
  | _ => False
theorem s_icmp_ne {M : MM} {pc t : Nat} {off : Int} (hd : decode M.2.1 pc = .ok (.if_icmp .ne off, 3)) (ht : (pc : Int) + off = (t : Int)) : SO M pc (o_icmp_ne t (pc + 3)) := by
  intro d mc ms ls st w K KX Kn gp hK h l p e R s m args below meth c H locs cells slots X ad A n0 ad0 mc0 ms0 la E
  obtain ⟨⟨htr, hx, hb, hml, hr, hown, hts, hlk, hnm⟩, -⟩ := id E
  simp only [o_icmp_ne] at h
  split at h
  · exact lv_icmp_ne hx hb hd ht (fun z => hK _ _ _ _ _ _ (h.1 z) E) (fun z => hK _ _ _ _ _ _ (h.2 z) E)
  · exact h.elim
def o_if_lt (t nx : Nat) : OP := fun Kn _ _ _ mc ms ls st w => match st with
  | .int x :: r => (x < 0 → Kn mc ms t ls r w) ∧ (¬ x < 0 → Kn mc ms nx ls r w)
  | _ => False
theorem s_if_lt {M : MM} {pc t : Nat} {off : Int} (hd : decode M.2.1 pc = .ok (.ifCond .lt off, 3)) (ht : (pc : Int) + off = (t : Int)) : SO M pc (o_if_lt t (pc + 3)) := by
  intro d mc ms ls st w K KX Kn gp hK h l p e R s m args below meth c H locs cells slots X ad A n0 ad0 mc0 ms0 la E
  obtain ⟨⟨htr, hx, hb, hml, hr, hown, hts, hlk, hnm⟩, -⟩ := id E
  simp only [o_if_lt] at h
  split at h
  · exact lv_if_lt hx hb hd ht (fun z => hK _ _ _ _ _ _ (h.1 z) E) (fun z => hK _ _ _ _ _ _ (h.2 z) E)
  · exact h.elim
def o_icmp_lt (t nx : Nat) : OP := fun Kn _ _ _ mc ms ls st w => match st with
  | .int y :: .int x :: r => (x < y → Kn mc ms t ls r w) ∧ (¬ x < y → Kn mc ms nx ls r w)
  | _ => False
theorem s_icmp_lt {M : MM} {pc t : Nat} {off : Int} (hd : decode M.2.1 pc = .ok (.if_icmp .lt off, 3)) (ht : (pc : Int) + off = (t : Int)) : SO M pc (o_icmp_lt t (pc + 3)) := by
  intro d mc ms ls st w K KX Kn gp hK h l p e R s m args below meth c H locs cells slots X ad A n0 ad0 mc0 ms0 la E
  obtain ⟨⟨htr, hx, hb, hml, hr, hown, hts, hlk, hnm⟩, -⟩ := id E
  simp only [o_icmp_lt] at h
  split at h
  · exact lv_icmp_lt hx hb hd ht (fun z => hK _ _ _ _ _ _ (h.1 z) E) (fun z => hK _ _ _ _ _ _ (h.2 z) E)
  · exact h.elim
def o_if_ge (t nx : Nat) : OP := fun Kn _ _ _ mc ms ls st w => match st with
  | .int x :: r => (0 ≤ x → Kn mc ms t ls r w) ∧ (¬ 0 ≤ x → Kn mc ms nx ls r w)
  | _ => False
theorem s_if_ge {M : MM} {pc t : Nat} {off : Int} (hd : decode M.2.1 pc = .ok (.ifCond .ge off, 3)) (ht : (pc : Int) + off = (t : Int)) : SO M pc (o_if_ge t (pc + 3)) := by
  intro d mc ms ls st w K KX Kn gp hK h l p e R s m args below meth c H locs cells slots X ad A n0 ad0 mc0 ms0 la E
  obtain ⟨⟨htr, hx, hb, hml, hr, hown, hts, hlk, hnm⟩, -⟩ := id E
  simp only [o_if_ge] at h
  split at h
  · exact lv_if_ge hx hb hd ht (fun z => hK _ _ _ _ _ _ (h.1 z) E) (fun z => hK _ _ _ _ _ _ (h.2 z) E)
  · exact h.elim
def o_icmp_ge (t nx : Nat) : OP := fun Kn _ _ _ mc ms ls st w => match st with
  | .int y :: .int x :: r => (y ≤ x → Kn mc ms t ls r w) ∧ (¬ y ≤ x → Kn mc ms nx ls r w)
  | _ => False
theorem s_icmp_ge {M : MM} {pc t : Nat} {off : Int} (hd : decode M.2.1 pc = .ok (.if_icmp .ge off, 3)) (ht : (pc : Int) + off = (t : Int)) : SO M pc (o_icmp_ge t (pc + 3)) := by
  intro d mc ms ls st w K KX Kn gp hK h l p e R s m args below meth c H locs cells slots X ad A n0 ad0 mc0 ms0 la E
  obtain ⟨⟨htr, hx, hb, hml, hr, hown, hts, hlk, hnm⟩, -⟩ := id E
  simp only [o_icmp_ge] at h
  split at h
  · exact lv_icmp_ge hx hb hd ht (fun z => hK _ _ _ _ _ _ (h.1 z) E) (fun z => hK _ _ _ _ _ _ (h.2 z) E)
  · exact h.elim
def o_if_gt (t nx : Nat) : OP := fun Kn _ _ _ mc ms ls st w => match st with
  | .int x :: r => (0 < x → Kn mc ms t ls r w) ∧ (¬ 0 < x → Kn mc ms nx ls r w)
  | _ => False
theorem s_if_gt {M : MM} {pc t : Nat} {off : Int} (hd : decode M.2.1 pc = .ok (.ifCond .gt off, 3)) (ht : (pc : Int) + off = (t : Int)) : SO M pc (o_if_gt t (pc + 3)) := by
  intro d mc ms ls st w K KX Kn gp hK h l p e R s m args below meth c H locs cells slots X ad A n0 ad0 mc0 ms0 la E
  obtain ⟨⟨htr, hx, hb, hml, hr, hown, hts, hlk, hnm⟩, -⟩ := id E
  simp only [o_if_gt] at h
  split at h
  · exact lv_if_gt hx hb hd ht (fun z => hK _ _ _ _ _ _ (h.1 z) E) (fun z => hK _ _ _ _ _ _ (h.2 z) E)
  · exact h.elim
def o_icmp_gt (t nx : Nat) : OP := fun Kn _ _ _ mc ms ls st w => match st with
  | .int y :: .int x :: r => (y < x → Kn mc ms t ls r w) ∧ (¬ y < x → Kn mc ms nx ls r w)
  | _ => False
theorem s_icmp_gt {M : MM} {pc t : Nat} {off : Int} (hd : decode M.2.1 pc = .ok (.if_icmp .gt off, 3)) (ht : (pc : Int) + off = (t : Int)) : SO M pc (o_icmp_gt t (pc + 3)) := by
  intro d mc ms ls st w K KX Kn gp hK h l p e R s m args below meth c H locs cells slots X ad A n0 ad0 mc0 ms0 la E
  obtain ⟨⟨htr, hx, hb, hml, hr, hown, hts, hlk, hnm⟩, -⟩ := id E
  simp only [o_icmp_gt] at h
  split at h
  · exact lv_icmp_gt hx hb hd ht (fun z => hK _ _ _ _ _ _ (h.1 z) E) (fun z => hK _ _ _ _ _ _ (h.2 z) E)
  · exact h.elim
def o_if_le (t nx : Nat) : OP := fun Kn _ _ _ mc ms ls st w => match st with
  | .int x :: r => (x ≤ 0 → Kn mc ms t ls r w) ∧ (¬ x ≤ 0 → Kn mc ms nx ls r w)
  | _ => False
theorem s_if_le {M : MM} {pc t : Nat} {off : Int} (hd : decode M.2.1 pc = .ok (.ifCond .le off, 3)) (ht : (pc : Int) + off = (t : Int)) : SO M pc (o_if_le t (pc + 3)) := by
  intro d mc ms ls st w K KX Kn gp hK h l p e R s m args below meth c H locs cells slots X ad A n0 ad0 mc0 ms0 la E
  obtain ⟨⟨htr, hx, hb, hml, hr, hown, hts, hlk, hnm⟩, -⟩ := id E
  simp only [o_if_le] at h
  split at h
  · exact lv_if_le hx hb hd ht (fun z => hK _ _ _ _ _ _ (h.1 z) E) (fun z => hK _ _ _ _ _ _ (h.2 z) E)
  · exact h.elim
def o_icmp_le (t nx : Nat) : OP := fun Kn _ _ _ mc ms ls st w => match st with
  | .int y :: .int x :: r => (x ≤ y → Kn mc ms t ls r w) ∧ (¬ x ≤ y → Kn mc ms nx ls r w)
  | _ => False
theorem s_icmp_le {M : MM} {pc t : Nat} {off : Int} (hd : decode M.2.1 pc = .ok (.if_icmp .le off, 3)) (ht : (pc : Int) + off = (t : Int)) : SO M pc (o_icmp_le t (pc + 3)) := by
  intro d mc ms ls st w K KX Kn gp hK h l p e R s m args below meth c H locs cells slots X ad A n0 ad0 mc0 ms0 la E
  obtain ⟨⟨htr, hx, hb, hml, hr, hown, hts, hlk, hnm⟩, -⟩ := id E
  simp only [o_icmp_le] at h
  split at h
  · exact lv_icmp_le hx hb hd ht (fun z => hK _ _ _ _ _ _ (h.1 z) E) (fun z => hK _ _ _ _ _ _ (h.2 z) E)
  · exact h.elim
theorem lq_eq (x y : Int64) : lg_cmp x y = 0 ↔ x = y := by
  unfold lg_cmp
  by_cases h : x > y
  · rw [if_pos h]
    constructor
    · intro z; exact absurd z (by decide)
    · intro z; subst z; exact absurd h (by simp [Int64.lt_iff_toInt_lt])
  · rw [if_neg h]
    by_cases h2 : x = y
    · rw [if_pos h2]; exact ⟨fun _ => h2, fun _ => rfl⟩
    · rw [if_neg h2]; exact ⟨fun z => absurd z (by decide), fun z => absurd z h2⟩
theorem lq_ge (x y : Int64) : 0 ≤ lg_cmp x y ↔ y ≤ x := lg_cmp_ge x y
theorem lq_lt (x y : Int64) : lg_cmp x y < 0 ↔ x < y := by
  have h := lq_ge x y
  rw [Int32.le_iff_toInt_le, Int64.le_iff_toInt_le] at h
  rw [Int32.lt_iff_toInt_lt, Int64.lt_iff_toInt_lt]
  simp only [Int32.toInt_zero] at h ⊢
  omega
theorem lq_gt (x y : Int64) : 0 < lg_cmp x y ↔ y < x := by
  have h := lq_ge x y
  have g := lq_eq x y
  rw [Int32.le_iff_toInt_le, Int64.le_iff_toInt_le] at h
  rw [← Int32.toInt_inj, ← Int64.toInt_inj] at g
  rw [Int32.lt_iff_toInt_lt, Int64.lt_iff_toInt_lt]
  simp only [Int32.toInt_zero] at h g ⊢
  omega
theorem lq_le (x y : Int64) : lg_cmp x y ≤ 0 ↔ x ≤ y := by
  have h := lq_gt x y
  rw [Int32.lt_iff_toInt_lt, Int64.lt_iff_toInt_lt] at h
  rw [Int32.le_iff_toInt_le, Int64.le_iff_toInt_le]
  simp only [Int32.toInt_zero] at h ⊢
  omega
def o_lc_eq (t nx : Nat) : OP := fun Kn _ _ _ mc ms ls st w => match st with
  | .long y :: .long x :: r => (x = y → Kn mc ms t ls r w) ∧ (¬ x = y → Kn mc ms nx ls r w)
  | _ => False
theorem s_lc_eq {M : MM} {pc t : Nat} {off : Int} (hd : decode M.2.1 pc = .ok (.lcmp, 1)) (hd2 : decode M.2.1 (pc + 1) = .ok (.ifCond .eq off, 3)) (ht : ((pc + 1 : Nat) : Int) + off = (t : Int)) : SO M pc (o_lc_eq t (pc + 4)) := by
  intro d mc ms ls st w K KX Kn gp hK h l p e R s m args below meth c H locs cells slots X ad A n0 ad0 mc0 ms0 la E
  obtain ⟨⟨htr, hx, hb, hml, hr, hown, hts, hlk, hnm⟩, -⟩ := id E
  simp only [o_lc_eq] at h
  split at h
  · refine W.lcmp hx hb hd ?_
    exact lv_if_eq hx hb hd2 ht (fun z => hK _ _ _ _ _ _ (h.1 ((lq_eq _ _).mp z)) E) (fun z => hK _ _ _ _ _ _ (h.2 (fun q => z ((lq_eq _ _).mpr q))) E)
  · exact h.elim
def o_lc_ne (t nx : Nat) : OP := fun Kn _ _ _ mc ms ls st w => match st with
  | .long y :: .long x :: r => (¬ x = y → Kn mc ms t ls r w) ∧ (x = y → Kn mc ms nx ls r w)
  | _ => False
theorem s_lc_ne {M : MM} {pc t : Nat} {off : Int} (hd : decode M.2.1 pc = .ok (.lcmp, 1)) (hd2 : decode M.2.1 (pc + 1) = .ok (.ifCond .ne off, 3)) (ht : ((pc + 1 : Nat) : Int) + off = (t : Int)) : SO M pc (o_lc_ne t (pc + 4)) := by
  intro d mc ms ls st w K KX Kn gp hK h l p e R s m args below meth c H locs cells slots X ad A n0 ad0 mc0 ms0 la E
  obtain ⟨⟨htr, hx, hb, hml, hr, hown, hts, hlk, hnm⟩, -⟩ := id E
  simp only [o_lc_ne] at h
  split at h
  · refine W.lcmp hx hb hd ?_
    exact lv_if_ne hx hb hd2 ht (fun z => hK _ _ _ _ _ _ (h.1 (fun q => z ((lq_eq _ _).mpr q))) E) (fun z => hK _ _ _ _ _ _ (h.2 ((lq_eq _ _).mp z)) E)
  · exact h.elim
def o_lc_lt (t nx : Nat) : OP := fun Kn _ _ _ mc ms ls st w => match st with
  | .long y :: .long x :: r => (x < y → Kn mc ms t ls r w) ∧ (¬ x < y → Kn mc ms nx ls r w)
  | _ => False
theorem s_lc_lt {M : MM} {pc t : Nat} {off : Int} (hd : decode M.2.1 pc = .ok (.lcmp, 1)) (hd2 : decode M.2.1 (pc + 1) = .ok (.ifCond .lt off, 3)) (ht : ((pc + 1 : Nat) : Int) + off = (t : Int)) : SO M pc (o_lc_lt t (pc + 4)) := by
  intro d mc ms ls st w K KX Kn gp hK h l p e R s m args below meth c H locs cells slots X ad A n0 ad0 mc0 ms0 la E
  obtain ⟨⟨htr, hx, hb, hml, hr, hown, hts, hlk, hnm⟩, -⟩ := id E
  simp only [o_lc_lt] at h
  split at h
  · refine W.lcmp hx hb hd ?_
    exact lv_if_lt hx hb hd2 ht (fun z => hK _ _ _ _ _ _ (h.1 ((lq_lt _ _).mp z)) E) (fun z => hK _ _ _ _ _ _ (h.2 (fun q => z ((lq_lt _ _).mpr q))) E)
  · exact h.elim
def o_lc_ge (t nx : Nat) : OP := fun Kn _ _ _ mc ms ls st w => match st with
  | .long y :: .long x :: r => (y ≤ x → Kn mc ms t ls r w) ∧ (¬ y ≤ x → Kn mc ms nx ls r w)
  | _ => False
theorem s_lc_ge {M : MM} {pc t : Nat} {off : Int} (hd : decode M.2.1 pc = .ok (.lcmp, 1)) (hd2 : decode M.2.1 (pc + 1) = .ok (.ifCond .ge off, 3)) (ht : ((pc + 1 : Nat) : Int) + off = (t : Int)) : SO M pc (o_lc_ge t (pc + 4)) := by
  intro d mc ms ls st w K KX Kn gp hK h l p e R s m args below meth c H locs cells slots X ad A n0 ad0 mc0 ms0 la E
  obtain ⟨⟨htr, hx, hb, hml, hr, hown, hts, hlk, hnm⟩, -⟩ := id E
  simp only [o_lc_ge] at h
  split at h
  · refine W.lcmp hx hb hd ?_
    exact lv_if_ge hx hb hd2 ht (fun z => hK _ _ _ _ _ _ (h.1 ((lq_ge _ _).mp z)) E) (fun z => hK _ _ _ _ _ _ (h.2 (fun q => z ((lq_ge _ _).mpr q))) E)
  · exact h.elim
def o_lc_gt (t nx : Nat) : OP := fun Kn _ _ _ mc ms ls st w => match st with
  | .long y :: .long x :: r => (y < x → Kn mc ms t ls r w) ∧ (¬ y < x → Kn mc ms nx ls r w)
  | _ => False
theorem s_lc_gt {M : MM} {pc t : Nat} {off : Int} (hd : decode M.2.1 pc = .ok (.lcmp, 1)) (hd2 : decode M.2.1 (pc + 1) = .ok (.ifCond .gt off, 3)) (ht : ((pc + 1 : Nat) : Int) + off = (t : Int)) : SO M pc (o_lc_gt t (pc + 4)) := by
  intro d mc ms ls st w K KX Kn gp hK h l p e R s m args below meth c H locs cells slots X ad A n0 ad0 mc0 ms0 la E
  obtain ⟨⟨htr, hx, hb, hml, hr, hown, hts, hlk, hnm⟩, -⟩ := id E
  simp only [o_lc_gt] at h
  split at h
  · refine W.lcmp hx hb hd ?_
    exact lv_if_gt hx hb hd2 ht (fun z => hK _ _ _ _ _ _ (h.1 ((lq_gt _ _).mp z)) E) (fun z => hK _ _ _ _ _ _ (h.2 (fun q => z ((lq_gt _ _).mpr q))) E)
  · exact h.elim
def o_lc_le (t nx : Nat) : OP := fun Kn _ _ _ mc ms ls st w => match st with
  | .long y :: .long x :: r => (x ≤ y → Kn mc ms t ls r w) ∧ (¬ x ≤ y → Kn mc ms nx ls r w)
  | _ => False
theorem s_lc_le {M : MM} {pc t : Nat} {off : Int} (hd : decode M.2.1 pc = .ok (.lcmp, 1)) (hd2 : decode M.2.1 (pc + 1) = .ok (.ifCond .le off, 3)) (ht : ((pc + 1 : Nat) : Int) + off = (t : Int)) : SO M pc (o_lc_le t (pc + 4)) := by
  intro d mc ms ls st w K KX Kn gp hK h l p e R s m args below meth c H locs cells slots X ad A n0 ad0 mc0 ms0 la E
  obtain ⟨⟨htr, hx, hb, hml, hr, hown, hts, hlk, hnm⟩, -⟩ := id E
  simp only [o_lc_le] at h
  split at h
  · refine W.lcmp hx hb hd ?_
    exact lv_if_le hx hb hd2 ht (fun z => hK _ _ _ _ _ _ (h.1 ((lq_le _ _).mp z)) E) (fun z => hK _ _ _ _ _ _ (h.2 (fun q => z ((lq_le _ _).mpr q))) E)
  · exact h.elim
