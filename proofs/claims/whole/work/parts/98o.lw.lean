/-! THE LAW: its world: the class (0 to 92), the reference (93 to 105), the answers' array (106), what the class's builder made since -/
def mmL (t0 : Int) (s dr kp ps : Nat → Int) (pm ik : Int) (rs : Nat → Int) (f : Nat → Int32) (il ec eo fr tt tk vl tn : Int) (stm : Nat → Int) (sts : Int) (op wi : Nat → Int) (ops opn tp : Int) (pu : Nat → Int) (ip : Int) (nb ou : Nat → Int) (ol : Int) : PW :=
  [.inr (8, [.int (iI t0), .ref 94, .ref 95, .ref 96, .ref 97, .int (iI pm), .int (iI ik), .ref 98, .ref 99, .int (iI il), .int (iI ec), .int (iI eo), .int (iI fr), .int (iI tt), .int (iI tk), .int (iI vl), .int (iI tn), .ref 100, .int (iI sts), .ref 101, .ref 102, .int (iI ops), .int (iI opn), .int (iI tp), .ref 103, .int (iI ip), .ref 104, .ref 105, .int (iI ol)]),
   .inl (1, 70, .inl (fun j => iI (s j))), .inl (1, 70, .inl (fun j => iI (dr j))), .inl (1, 70, .inl (fun j => iI (kp j))), .inl (1, 560, .inl (fun j => iI (ps j))), .inl (1, 400, .inl (fun j => iI (rs j))), .inl (0, 500, .inl f), .inl (1, 100, .inl (fun j => iI (stm j))), .inl (1, 520, .inl (fun j => iI (op j))), .inl (1, 520, .inl (fun j => iI (wi j))), .inl (1, 70, .inl (fun j => iI (pu j))), .inl (2, 8, .inr (.inl (fun j => lI (nb j)))), .inl (0, 80, .inl (fun j => iI (ou j)))]
def lwW (f : Nat → Int32) (il : Int) (m1 m2 m3 : MS) (hs nx cz : Int) (rf : Nat → Option Nat) (sl : Nat → MS) (t1 t2 : TS) (sm sh : Int) (pg : PS) (le lo : Int) (sv : Nat) (cn ml : Int) (b9 : va_E) (t0 : Int) (s dr kp ps : Nat → Int) (pm ik : Int) (rs : Nat → Int) (f2 : Nat → Int32) (il2 ec eo : Int) (fr tt tk vl tn : Int) (stm : Nat → Int) (sts : Int) (op wi : Nat → Int) (ops opn tp : Int) (pu : Nat → Int) (ip : Int) (nb ou : Nat → Int) (ol : Int) (oa : Nat → Int) (ex : PW) : PW := rW f il m1 m2 m3 hs nx cz rf sl t1 t2 sm sh pg le lo sv cn ml b9 (mmL t0 s dr kp ps pm ik rs f2 il2 ec eo fr tt tk vl tn stm sts op wi ops opn tp pu ip nb ou ol ++ (.inl (2, 1, .inr (.inl (fun j => lI (oa j)))) :: ex))
/-- what the builder of texts holds, beside the reference's -/
def OUT9 (sv : Nat) (cn : Int) (b9 : va_E) (ou : Nat → Int) (ol : Int) (ex : PW) : Prop := ∃ (T : List Int) (g : Nat → Int), BB g ∧ OW T g cn ∧ OW T ou ol ∧ T.length ≤ 34 ∧ ((sv = 92 ∧ b9 = byt 16 g ∧ ex = [] ∧ cn ≤ 16) ∨ (sv = 107 ∧ ex = [byt 34 g] ∧ ∃ g0, b9 = byt 16 g0))
/-- what holds between calls -/
def LI (il : Int) (m1 m3 : MS) (hs nx cz : Int) (rf : Nat → Option Nat) (sl : Nat → MS) (sv : Nat) (cn : Int) (b9 : va_E) (s kp ps ou : Nat → Int) (ol : Int) (ex : PW) : Prop :=
  ((RFok rf ∧ ∀ j q, rf j = some q → q < 76) ∧ (0 ≤ nx ∧ nx < 9) ∧ (0 ≤ cz ∧ cz ≤ 8) ∧ (0 ≤ il ∧ il ≤ 500)) ∧ QM s m1 ∧ HP ps cz (rgH sl nx cz) ∧ (hs = 0 ∨ hs = 1 ∧ QM kp m3) ∧ OUT9 sv cn b9 ou ol ex
/-- the law's places: script, class, reference, answers, the number of the call -/
def LL (i : Int) : PLo := [some (.ref 3300), some (.ref 0), some (.ref 93), some (.ref 106), some (.int (iI i))]
def FIN (L : Nat) (xs : Nat → Int32) (d mc ms : Nat) (i : Int) (K : Option Value → PW → Prop) (KX : String → PW → Prop) : Prop := ∀ (f : Nat → Int32) (il : Int) (m1 m2 m3 : MS) (hs nx cz : Int) (rf : Nat → Option Nat) (sl : Nat → MS) (t1 t2 : TS) (sm sh : Int) (pg : PS) (le lo : Int) (sv : Nat) (cn ml : Int) (b9 : va_E) (t0 : Int) (s dr kp ps : Nat → Int) (rs : Nat → Int) (fr tt tk vl tn : Int) (stm : Nat → Int) (sts : Int) (op wi : Nat → Int) (ops opn tp : Int) (pu : Nat → Int) (ip : Int) (nb ou : Nat → Int) (ol : Int) (oa : Nat → Int) (ex : PW), LI il m1 m3 hs nx cz rf sl sv cn b9 s kp ps ou ol ex → GOn 0 (gS L xs) M_Lw_law d mc ms 2630 (LL i) [] (lwW f il m1 m2 m3 hs nx cz rf sl t1 t2 sm sh pg le lo sv cn ml b9 t0 s dr kp ps (cz) (hs) rs (f) (il) (le) (lo) fr tt tk vl tn stm sts op wi ops opn tp pu ip nb ou ol oa ex) K KX
theorem xs_i (x : Int32) : ∃ a : Int, r32 a ∧ x = iI a := ⟨x.toInt, ⟨by have := x.le_toInt; omega, by have := x.toInt_lt; omega⟩, (iI_of x).symm⟩
theorem i2l9 (x : Int32) : x.toInt64 = lI x.toInt := by
  apply Int64.toInt_inj.mp
  have h1 := x.le_toInt
  have h2 := x.toInt_lt
  rw [Int32.toInt_toInt64, lI_t (by omega) (by omega)]
theorem WQ_mono {M : MM} {d mc ms : Nat} {av : List Value} {w : PW} {K K' : Option Value → PW → Prop} {KX KX' : String → PW → Prop} (hK : ∀ r w, K r w → K' r w) (hX : ∀ E w, KX E w → KX' E w) (h : WQ M d mc ms av w K KX) : WQ M d mc ms av w K' KX' := by
  refine WQ_iff.mpr ?_
  intro l X ad sz h1 h2 h3
  refine Met_mono ((WQ_iff.mp h) h1 h2 h3) (fun a s h => h) (fun a s o t _ hq => ?_) (fun a s t E _ hx => ?_) (fun q h => h)
  · obtain ⟨⟨r, w, ad, ho, hk, hq⟩, hF⟩ := hq
    exact ⟨⟨r, w, ad, ho, hK _ _ hk, hq⟩, hF⟩
  · obtain ⟨⟨w, ad, hk, hq⟩, hF⟩ := hx
    exact ⟨⟨w, ad, hX _ _ hk, hq⟩, hF⟩
theorem rW_app {b9 : va_E} {f : Nat → Int32} {il hs nx cz sm sh le lo cn ml : Int} {m1 m2 m3 : MS} {rf : Nat → Option Nat} {sl : Nat → MS} {t1 t2 : TS} {pg : PS} {sv : Nat} {tl : PW} : (rW f il m1 m2 m3 hs nx cz rf sl t1 t2 sm sh pg le lo sv cn ml b9 tl) = (rW f il m1 m2 m3 hs nx cz rf sl t1 t2 sm sh pg le lo sv cn ml b9 ([])) ++ tl := by
  unfold rW
  simp only [List.append_assoc, List.nil_append, List.append_nil]
theorem rW_len {b9 : va_E} {f : Nat → Int32} {il hs nx cz sm sh le lo cn ml : Int} {m1 m2 m3 : MS} {rf : Nat → Option Nat} {sl : Nat → MS} {t1 t2 : TS} {pg : PS} {sv : Nat} {tl : PW} : ((rW f il m1 m2 m3 hs nx cz rf sl t1 t2 sm sh pg le lo sv cn ml b9 ([]))).length = 93 := rfl
theorem upW_mid (rn : Nat → Nat) : ∀ (X A cs B : PW) (is : List Nat), is = List.range' A.length X.length → X.length = cs.length → upW rn (A ++ (X ++ B)) is cs = A ++ (cs.map (rE rn) ++ B)
  | [], A, cs, B, is, h1, h2 => by
    have e : cs = [] := List.eq_nil_of_length_eq_zero h2.symm
    subst e
    subst h1
    rfl
  | x :: X, A, [], B, is, h1, h2 => by cases h2
  | x :: X, A, c :: cs, B, is, h1, h2 => by
    subst h1
    show upW rn (List.set (A ++ (x :: (X ++ B))) A.length (rE rn c)) (List.range' (A.length + 1) X.length) cs = _
    rw [List.set_append_right _ _ (Nat.le_refl _), Nat.sub_self]
    have e : A ++ List.set (x :: (X ++ B)) 0 (rE rn c) = (A ++ [rE rn c]) ++ (X ++ B) := by
      rw [List.append_assoc]
      rfl
    rw [e, upW_mid rn X (A ++ [rE rn c]) cs B _ (by rw [List.length_append]; rfl) (by simpa using h2), List.append_assoc]
    rfl
theorem lw_mm {f f2 : Nat → Int32} {il hs nx cz sm sh le lo cn ml t0 pm ik il2 ec eo fr tt tk vl tn sts ops opn tp ip ol : Int} {m1 m2 m3 : MS} {rf : Nat → Option Nat} {sl : Nat → MS} {t1 t2 : TS} {pg : PS} {sv : Nat} {b9 : va_E} {s dr kp ps rs stm op wi pu nb ou oa : Nat → Int} {ex : PW} {M : MM} {d : Nat} {as : List Value} {K : Option Value → PW → Prop} {KX : String → PW → Prop} (has : as.map (cV (rnN [93, 94, 95, 96, 97, 98, 99, 100, 101, 102, 103, 104, 105] (lwW f il m1 m2 m3 hs nx cz rf sl t1 t2 sm sh pg le lo sv cn ml b9 t0 s dr kp ps pm ik rs f2 il2 ec eo fr tt tk vl tn stm sts op wi ops opn tp pu ip nb ou ol oa ex).length)) = as)
    (h : WQ M d 0 0 (.ref 0 :: as) (mmW t0 s dr kp ps pm ik rs (f2) (il2) ec eo fr tt tk vl tn stm sts op wi ops opn tp pu ip nb ou ol) (fun r w1 => ∃ t0' s' dr' kp' ps' pm' ik' rs' f' il' ec' eo' fr' tt' tk' vl' tn' stm' sts' op' wi' ops' opn' tp' pu' ip' nb' ou' ol', w1 = mmW t0' s' dr' kp' ps' pm' ik' rs' f' il' ec' eo' fr' tt' tk' vl' tn' stm' sts' op' wi' ops' opn' tp' pu' ip' nb' ou' ol' ∧ K (r.map (cV (rnN [93, 94, 95, 96, 97, 98, 99, 100, 101, 102, 103, 104, 105] (lwW f il m1 m2 m3 hs nx cz rf sl t1 t2 sm sh pg le lo sv cn ml b9 t0 s dr kp ps pm ik rs f2 il2 ec eo fr tt tk vl tn stm sts op wi ops opn tp pu ip nb ou ol oa ex).length))) (lwW f il m1 m2 m3 hs nx cz rf sl t1 t2 sm sh pg le lo sv cn ml b9 (t0') (s') (dr') (kp') (ps') (pm') (ik') (rs') (f') (il') (ec') (eo') (fr') (tt') (tk') (vl') (tn') (stm') (sts') (op') (wi') (ops') (opn') (tp') (pu') (ip') (nb') (ou') (ol') oa ex)) noX) : WQ M d 0 0 (.ref 93 :: as) (lwW f il m1 m2 m3 hs nx cz rf sl t1 t2 sm sh pg le lo sv cn ml b9 t0 s dr kp ps pm ik rs f2 il2 ec eo fr tt tk vl tn stm sts op wi ops opn tp pu ip nb ou ol oa ex) K KX := by
  refine WQ_fr [93, 94, 95, 96, 97, 98, 99, 100, 101, 102, 103, 104, 105] (mmW t0 s dr kp ps pm ik rs (f2) (il2) ec eo fr tt tk vl tn stm sts op wi ops opn tp pu ip nb ou ol) (.ref 0 :: as) rfl rfl rfl ?_ ?_
  · show Value.ref 93 :: as = Value.ref 93 :: as.map _
    rw [has]
  · refine WQ_mono ?_ (fun E w hx => hx.elim) h
    rintro r w1 ⟨t0', s', dr', kp', ps', pm', ik', rs', f', il', ec', eo', fr', tt', tk', vl', tn', stm', sts', op', wi', ops', opn', tp', pu', ip', nb', ou', ol', rfl, hk⟩
    show kRO [93, 94, 95, 96, 97, 98, 99, 100, 101, 102, 103, 104, 105] (lwW f il m1 m2 m3 hs nx cz rf sl t1 t2 sm sh pg le lo sv cn ml b9 t0 s dr kp ps pm ik rs f2 il2 ec eo fr tt tk vl tn stm sts op wi ops opn tp pu ip nb ou ol oa ex).length r (fun r2 => kUp [93, 94, 95, 96, 97, 98, 99, 100, 101, 102, 103, 104, 105] (lwW f il m1 m2 m3 hs nx cz rf sl t1 t2 sm sh pg le lo sv cn ml b9 t0 s dr kp ps pm ik rs f2 il2 ec eo fr tt tk vl tn stm sts op wi ops opn tp pu ip nb ou ol oa ex).length (lwW f il m1 m2 m3 hs nx cz rf sl t1 t2 sm sh pg le lo sv cn ml b9 t0 s dr kp ps pm ik rs f2 il2 ec eo fr tt tk vl tn stm sts op wi ops opn tp pu ip nb ou ol oa ex) [93, 94, 95, 96, 97, 98, 99, 100, 101, 102, 103, 104, 105] (mmW t0' s' dr' kp' ps' pm' ik' rs' f' il' ec' eo' fr' tt' tk' vl' tn' stm' sts' op' wi' ops' opn' tp' pu' ip' nb' ou' ol') (fun w2 => K r2 w2))
    rw [kRO_eq, kUp_eq]
    have e : upW (rnN [93, 94, 95, 96, 97, 98, 99, 100, 101, 102, 103, 104, 105] (lwW f il m1 m2 m3 hs nx cz rf sl t1 t2 sm sh pg le lo sv cn ml b9 t0 s dr kp ps pm ik rs f2 il2 ec eo fr tt tk vl tn stm sts op wi ops opn tp pu ip nb ou ol oa ex).length) (lwW f il m1 m2 m3 hs nx cz rf sl t1 t2 sm sh pg le lo sv cn ml b9 t0 s dr kp ps pm ik rs f2 il2 ec eo fr tt tk vl tn stm sts op wi ops opn tp pu ip nb ou ol oa ex) [93, 94, 95, 96, 97, 98, 99, 100, 101, 102, 103, 104, 105] (mmW t0' s' dr' kp' ps' pm' ik' rs' f' il' ec' eo' fr' tt' tk' vl' tn' stm' sts' op' wi' ops' opn' tp' pu' ip' nb' ou' ol') = (lwW f il m1 m2 m3 hs nx cz rf sl t1 t2 sm sh pg le lo sv cn ml b9 (t0') (s') (dr') (kp') (ps') (pm') (ik') (rs') (f') (il') (ec') (eo') (fr') (tt') (tk') (vl') (tn') (stm') (sts') (op') (wi') (ops') (opn') (tp') (pu') (ip') (nb') (ou') (ol') oa ex) := by
      have e9 := upW_mid (rnN [93, 94, 95, 96, 97, 98, 99, 100, 101, 102, 103, 104, 105] (lwW f il m1 m2 m3 hs nx cz rf sl t1 t2 sm sh pg le lo sv cn ml b9 t0 s dr kp ps pm ik rs f2 il2 ec eo fr tt tk vl tn stm sts op wi ops opn tp pu ip nb ou ol oa ex).length) (mmL t0 s dr kp ps pm ik rs f2 il2 ec eo fr tt tk vl tn stm sts op wi ops opn tp pu ip nb ou ol) (rW f il m1 m2 m3 hs nx cz rf sl t1 t2 sm sh pg le lo sv cn ml b9 ([])) (mmW t0' s' dr' kp' ps' pm' ik' rs' f' il' ec' eo' fr' tt' tk' vl' tn' stm' sts' op' wi' ops' opn' tp' pu' ip' nb' ou' ol') (.inl (2, 1, .inr (.inl (fun j => lI (oa j)))) :: ex) [93, 94, 95, 96, 97, 98, 99, 100, 101, 102, 103, 104, 105] rfl rfl
      have e8 : (mmW t0' s' dr' kp' ps' pm' ik' rs' f' il' ec' eo' fr' tt' tk' vl' tn' stm' sts' op' wi' ops' opn' tp' pu' ip' nb' ou' ol').map (rE (rnN [93, 94, 95, 96, 97, 98, 99, 100, 101, 102, 103, 104, 105] (lwW f il m1 m2 m3 hs nx cz rf sl t1 t2 sm sh pg le lo sv cn ml b9 t0 s dr kp ps pm ik rs f2 il2 ec eo fr tt tk vl tn stm sts op wi ops opn tp pu ip nb ou ol oa ex).length)) = mmL t0' s' dr' kp' ps' pm' ik' rs' f' il' ec' eo' fr' tt' tk' vl' tn' stm' sts' op' wi' ops' opn' tp' pu' ip' nb' ou' ol' := rfl
      rw [e8] at e9
      unfold lwW at e9 ⊢
      rw [rW_app, rW_app (tl := mmL t0' s' dr' kp' ps' pm' ik' rs' f' il' ec' eo' fr' tt' tk' vl' tn' stm' sts' op' wi' ops' opn' tp' pu' ip' nb' ou' ol' ++ _)]
      rw [rW_app] at e9
      exact e9
    rw [e]
    exact hk
