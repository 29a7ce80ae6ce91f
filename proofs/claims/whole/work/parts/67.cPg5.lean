/-! THE CLASS: all statements of a program -/
def gvF (rg r st : Int) (num acc : Nat → Int) (v : Sum Int Int) : Int × T9 := match v with
  | .inr x => (0, (st, upI num r.toNat x, finA rg x acc))
  | .inl w => (w, (st, num, bk acc w.toNat))
theorem stF_give {n st wh rg : Int} {md wt num acc : Nat → Int} {s : S9} {v : Sum Int Int} (e0 : s.1.1 = 0) (hv : evC st rg wh num s.2.1 [] = some (vS v [])) : stF n wh rg md wt s (st, num, acc) = gvF rg s.1.2.1 st num acc v := by
  unfold stF
  rw [if_pos e0]
  simp only
  rw [hv]
  cases v <;> rfl
theorem plF_cons {n wh rg : Int} {md wt : Nat → Int} {s : S9} {l : List S9} {k w st' : Int} {t : T9} {num' acc' : Nat → Int} (hE : stF n wh rg md wt s t = (w, (st', num', acc'))) : plF n wh rg md wt (s :: l) k t = if w = 0 then plF n wh rg md wt l (k + 1) (st', num', bk acc' 7) else (k, (st', num', acc')) := by
  show (if (stF n wh rg md wt s t).1 = 0 then _ else _) = _
  rw [hE]
theorem lp_play {d mc ms : Nat} {n ck wh rg : Int} {md wt : Nat → Int} {K : Option Value → PW → Prop} {KX : String → PW → Prop} {ki fi sc : Nat → Int} {zs : Int} {S : List S9} {R : Int × T9} (hP : PR3 (stsC S) ki fi sc zs) (hLL : (stsC S).length ≤ 1000) (hfin : ∀ pd' ht', K (some (.int (iI R.1))) ((pgW ki fi sc (pd') zs (ht')) ++ mlC 5 n ck R.2.1 wh rg md wt R.2.2.1 R.2.2.2)) : ∀ (l A : List S9) (st : Int) (num acc pd : Nat → Int) (dn : Int), S = A ++ l → MOk n ck wh rg md wt num → (0 ≤ st ∧ st ≤ 1) → (∀ s, s ∈ l → SOk n ((rg - 1) / 2) s) → plF n wh rg md wt l dn (st, num, acc) = R →
    GO M_Pg_play (d + 6) mc ms 4 [some (.ref 0), some (.ref 5), some (.int (iI dn)), some (.int (iI ((stsC A).length : Int)))] [] ((pgW ki fi sc pd zs (0)) ++ mlC 5 n ck st wh rg md wt num acc) K KX := by
  have hz := hP.1
  intro l
  induction l with
  | nil =>
    intro A st num acc pd dn hl hM hs hS he
    have he' : (dn, (st, num, acc)) = R := he
    subst he'
    have hz2 : zs ≤ 1000 := by omega
    rw [hl, List.append_nil] at hz
    have := hfin pd 0
    refine run k_Pg_play [] 900 ?_
    (repeat ((conv => whnf); simp (disch := omega) only [Int.cast_ofNat_Int, Int.reduceToNat, iI_tt, Int.toNat_natCast, iI_add, iI_sub, iI_mul, iI_neg, lI_add, lI_sub, lI_mul, lI_neg, i2l_, l2i_, iI_lt, iI_le, iI_eq, lI_lt, lI_le, lI_eq, iI_lt0, iI_le0, iI_0lt, iI_0le, iI_eq0, iI_eq1, lI_lt0, lI_le0, lI_0lt, lI_0le, lI_eq0, ix_cl, ix_iff, upd_iI, updL_lI, lI_divF, lI_remF, iI_divF, iI_remF, em_eq, Int.not_lt, Int.not_le, true_implies, false_implies, and_true, true_and, not_true_eq_false, not_false_eq_true, true_or, or_true, or_false, false_or])); (conv => whnf)
    (repeat ((conv => whnf); simp (disch := omega) only [Int.cast_ofNat_Int, Int.reduceToNat, iI_tt, Int.toNat_natCast, iI_add, iI_sub, iI_mul, iI_neg, lI_add, lI_sub, lI_mul, lI_neg, i2l_, l2i_, iI_lt, iI_le, iI_eq, lI_lt, lI_le, lI_eq, iI_lt0, iI_le0, iI_0lt, iI_0le, iI_eq0, iI_eq1, lI_lt0, lI_le0, lI_0lt, lI_0le, lI_eq0, ix_cl, ix_iff, upd_iI, updL_lI, lI_divF, lI_remF, iI_divF, iI_remF, em_eq, Int.not_lt, Int.not_le, true_implies, false_implies, and_true, true_and, not_true_eq_false, not_false_eq_true, true_or, or_true, or_false, false_or])); (conv => whnf)
    repeat' ((first | (refine ⟨fun _ => ?_, fun hb => absurd hb (by omega)⟩) | (refine ⟨fun hb => absurd hb (by omega), fun _ => ?_⟩) | (refine ⟨by omega, ?_⟩) | (refine ⟨⟨by omega, (by (conv => whnf); exact trivial)⟩, ?_⟩) | (refine ⟨(Nat.le_of_ble_eq_true rfl), bWp_ok _ (by (conv => whnf); exact trivial), ?_⟩) | (refine ⟨fun _ => ?_, fun _ => ?_⟩) | fail) <;> ((repeat ((conv => whnf); simp (disch := omega) only [Int.cast_ofNat_Int, Int.reduceToNat, iI_tt, Int.toNat_natCast, iI_add, iI_sub, iI_mul, iI_neg, lI_add, lI_sub, lI_mul, lI_neg, i2l_, l2i_, iI_lt, iI_le, iI_eq, lI_lt, lI_le, lI_eq, iI_lt0, iI_le0, iI_0lt, iI_0le, iI_eq0, iI_eq1, lI_lt0, lI_le0, lI_0lt, lI_0le, lI_eq0, ix_cl, ix_iff, upd_iI, updL_lI, lI_divF, lI_remF, iI_divF, iI_remF, em_eq, Int.not_lt, Int.not_le, true_implies, false_implies, and_true, true_and, not_true_eq_false, not_false_eq_true, true_or, or_true, or_false, false_or])); (conv => whnf)))
    all_goals first | exact this | (exfalso; omega)
  | cons s l ih =>
    intro A st num acc pd dn hl hM hs hS he
    have hsS := hS s List.mem_cons_self
    have hok := stF_ok (acc := acc) hM hs hsS
    obtain ⟨⟨w, st', num', acc'⟩, hE⟩ : ∃ X, stF n wh rg md wt s (st, num, acc) = X := ⟨_, rfl⟩
    rw [plF_cons hE] at he
    rw [hE] at hok
    obtain ⟨q1, q2, q3⟩ := hok
    simp only at q1 q2 q3
    have hLs : stsC S = stsC A ++ (stC s ++ stsC l) := by
      rw [hl, stsC_app, stsC_cons]
    have hnext : w = 0 → ∀ pd', GO M_Pg_play (d + 6) mc ms 4 [some (.ref 0), some (.ref 5), some (.int (iI (dn + 1))), some (.int (iI ((stsC A).length + (stC s).length : Int)))] [] ((pgW ki fi sc (pd') zs (0)) ++ mlC 5 n ck st' wh rg md wt num' (bk acc' 7)) K KX := fun h0 pd' => by
      rw [if_pos h0] at he
      have := ih (A ++ [s]) st' num' (bk acc' 7) pd' (dn + 1) (by rw [hl, List.append_assoc]; rfl) q1 q2 (fun s' hs' => hS s' (List.mem_cons_of_mem _ hs')) he
      rw [stsC_len] at this
      rw [show ((stsC A).length + (stC s).length : Int) = (((stsC A).length + (stC s).length : Nat) : Int) by omega]
      exact this
    have hbad : ¬ w = 0 → ∀ pd' ht', K (some (.int (iI dn))) ((pgW ki fi sc (pd') zs (ht')) ++ mlC 5 n ck st' wh rg md wt num' acc') := fun h0 pd' ht' => by
      rw [if_neg h0] at he
      subst he
      exact hfin pd' ht'
    clear he ih hfin
    by_cases e0 : s.1.1 = 0
    · rcases hsS with ⟨h1, h2, h3, h4⟩ | ⟨-, h5⟩
      · obtain ⟨v, hv, -⟩ := h4.ev hM rfl (st := st)
        have hsc : stC s = s.2.1 ++ [(3, s.1.2.1, 0)] := by
          unfold stC
          rw [e0, h3]
          rfl
        have hLs2 : stsC S = stsC A ++ (s.2.1 ++ ((3, s.1.2.1, 0) :: stsC l)) := by
          rw [hLs, hsc, List.append_assoc]
          rfl
        have hlen : (stC s).length = s.2.1.length + 1 := by
          rw [hsc, List.length_append, List.length_singleton]
        rw [stF_give e0 hv] at hE
        refine lp_ev hP hLL hM.1 hs (R := vS v []) (fun w2 hw pd' ht' => ?_) s.2.1 (stsC A) _ [] pd hLs2 trivial (by decide) SB.nil hv (fun τ hτ pd' hS' h32' hb' => ?_)
        · cases v with
          | inr x => cases hw
          | inl w3 =>
            cases hw
            have hw0 := evC_r hv
            cases hE
            exact hbad (by omega) pd' ht'
        · cases v with
          | inl w2 => cases hτ
          | inr x =>
            cases hτ
            cases hE
            have hLs3 : stsC S = (stsC A ++ s.2.1) ++ ((3, s.1.2.1, 0) :: stsC l) := by
              rw [hLs2, List.append_assoc]
            obtain ⟨hx, hlt⟩ := at_k hLs3
            have hk := hP.2 _ _ hx
            rw [List.length_append] at hk hlt
            have hnx := hnext rfl pd'
            rw [hlen] at hnx
            rw [show (((stsC A).length : Int) + ((s.2.1.length + 1 : Nat) : Int)) = (((stsC A).length + s.2.1.length : Nat) : Int) + 1 by omega] at hnx
            rw [show (((stsC A).length : Int) + (s.2.1.length : Int)) = (((stsC A).length + s.2.1.length : Nat) : Int) by omega]
            exact pl_give hM hS' hb' h2.1 h2.2 (by omega) (by omega) hk hnx
      · omega
    · have hsc : stC s = [(s.1.1 + 3, s.1.2.1, s.1.2.2)] := by
        rcases hsS with ⟨h1, -⟩ | ⟨h4, -⟩
        · exact absurd h1 e0
        · unfold stC
          rw [h4]
          rfl
      rw [hsc] at hnext hLs
      have hLs3 : stsC S = stsC A ++ ((s.1.1 + 3, s.1.2.1, s.1.2.2) :: stsC l) := hLs
      obtain ⟨hx, hlt⟩ := at_k hLs3
      have hk := hP.2 _ _ hx
      exact pl_other hM hs hsS e0 hE q3 (by omega) (by omega) hk (fun h => hbad h pd 0) (fun h => hnext h pd)
theorem c_Pg_play {d mc ms : Nat} {ki fi sc pd : Nat → Int} {zs ht : Int} {n ck st wh rg : Int} {md wt num acc : Nat → Int} {K : Option Value → PW → Prop} {KX : String → PW → Prop} {S : List S9} (hP : PR3 (stsC S) ki fi sc zs) (hLL : (stsC S).length ≤ 1000) (hM : MOk n ck wh rg md wt num) (hs : 0 ≤ st ∧ st ≤ 1) (hS : ∀ s, s ∈ S → SOk n ((rg - 1) / 2) s) (hfin : ∀ R, plF n wh rg md wt S 0 (st, num, acc) = R → ∀ pd' ht', K (some (.int (iI R.1))) ((pgW ki fi sc (pd') zs (ht')) ++ mlC 5 n ck R.2.1 wh rg md wt R.2.2.1 R.2.2.2)) : WQ M_Pg_play (d + 6) mc ms [.ref 0, .ref 5] ((pgW ki fi sc pd zs (0)) ++ mlC 5 n ck st wh rg md wt num acc) K KX := by
  have fin := lp_play (d := d) (mc := mc) (ms := ms) (KX := KX) (ck := ck) hP hLL (hfin _ rfl) S [] st num acc pd 0 rfl hM hs hS rfl
  refine methC (pf_Pg rfl) (tz_Pg rfl) rfl ?_
  refine run k_Pg_play [4] 900 ?_
  (repeat ((conv => whnf); simp (disch := omega) only [Int.cast_ofNat_Int, Int.reduceToNat, iI_tt, Int.toNat_natCast, iI_add, iI_sub, iI_mul, iI_neg, lI_add, lI_sub, lI_mul, lI_neg, i2l_, l2i_, iI_lt, iI_le, iI_eq, lI_lt, lI_le, lI_eq, iI_lt0, iI_le0, iI_0lt, iI_0le, iI_eq0, iI_eq1, lI_lt0, lI_le0, lI_0lt, lI_0le, lI_eq0, ix_cl, ix_iff, upd_iI, updL_lI, lI_divF, lI_remF, iI_divF, iI_remF, em_eq, Int.not_lt, Int.not_le, true_implies, false_implies, and_true, true_and, not_true_eq_false, not_false_eq_true, true_or, or_true, or_false, false_or])); (conv => whnf)
  exact fin
