/-! THE LAW: the text is read -/
theorem ev_at {i : Int} {ps : List Int} {a ck st : Int} (i3 : 3 ≤ i) (i5 : i ≤ 5) (hR : (ps, a) ∈ reach i.toNat) (c0 : 0 ≤ ck) (c2 : ck ≤ 2) (s0 : 0 ≤ st) (s1 : st ≤ 1) : okE (setupE (bT (txF ps ck st)) (txF ps ck st).length) = true := by
  have he : evs (reach i.toNat) = true := by
    have hc : i = 3 ∨ i = 4 ∨ i = 5 := by omega
    rcases hc with rfl | rfl | rfl
    · exact ev_3
    · exact ev_4
    · exact ev_5
  unfold evs at he
  have h1 := List.all_eq_true.mp he (ps, a) hR
  have h2 := List.all_eq_true.mp h1 ck (by
    have hc : ck = 0 ∨ ck = 1 ∨ ck = 2 := by omega
    rcases hc with rfl | rfl | rfl <;> decide)
  exact List.all_eq_true.mp h2 st (by
    have hc : st = 0 ∨ st = 1 := by omega
    rcases hc with rfl | rfl <;> decide)
theorem bT_of {T : List Int} {h : Nat → Int} (hB : BB h) (hO : OW T h T.length) (hl : T.length ≤ 40) (hl2 : 20 < T.length) : bA (apF (apF (fun _ => 0) (chF T.length h) 0) (chF T.length h) 20) = bT T := by
  funext j
  have hk : ∀ c : Int, 0 ≤ c → c ≤ 127 → (iI c &&& iI 255).toInt = c := fun c h0 h1 => by
    have h2 := (and_fin ⟨c.toNat, by omega⟩).1
    simp only at h2
    rw [show ((c.toNat : Nat) : Int) = c by omega] at h2
    rw [h2, iI_tt ⟨by omega, by omega⟩]
  unfold bA apF bT
  by_cases e : j < 40
  · have hc : (if 20 ≤ j ∧ j < 20 + 20 then iI (chF T.length h j) else if 0 ≤ j ∧ j < 0 + 20 then iI (chF T.length h j) else 0) = iI (chF T.length h j) := by
      by_cases e2 : 20 ≤ j
      · rw [if_pos ⟨e2, by omega⟩]
      · rw [if_neg (by omega), if_pos ⟨by omega, by omega⟩]
    rw [hc, hk _ (chF_b hB j).1 (chF_b hB j).2]
    unfold chF
    by_cases e3 : j < T.length
    · rw [if_pos e3, if_pos e3, List.getD_eq_getElem?_getD, List.getElem?_eq_getElem e3]
      exact hO.2 j _ (List.getElem?_eq_getElem e3)
    · rw [if_neg e3, if_neg e3, if_pos e]
  · rw [if_neg (by omega), if_neg (by omega), if_neg (by omega), if_neg e]
    decide +kernel
theorem MOk_cong {n ck wh rg : Int} {md wt num md' wt' num' : Nat → Int} (h : MOk n ck wh rg md wt num) (e1 : ∀ k : Nat, (k : Int) < n → md' k = md k) (e2 : ∀ k : Nat, (k : Int) < n → wt' k = wt k) (e3 : ∀ r : Nat, r < 8 → num' r = num r) : MOk n ck wh rg md' wt' num' := by
  obtain ⟨⟨b1, b2, b3⟩, m2, m3, m4, m5, m6, m7⟩ := h
  refine ⟨⟨b1, fun k hk => ?_, fun r hr => ?_⟩, m2, ?_, ?_, fun j k hjk hk => ?_, fun k hk => ?_, fun r hr => ?_⟩
  · rw [e1 k hk, e2 k hk]
    exact b2 k hk
  · rw [e3 r hr]
    exact b3 r hr
  · rw [m3]
    exact PN_cong _ (fun k hk => (e1 k (by omega)).symm)
  · rw [m4]
    exact PN_cong _ (fun k hk => (e1 k (by omega)).symm)
  · rw [e1 j (by omega), e1 k hk]
    exact m5 j k hjk hk
  · obtain ⟨r, h1, h2⟩ := m6 k hk
    exact ⟨r, by rw [e1 k hk]; exact h1, by rw [e2 k hk, e1 k hk]; exact h2⟩
  · rw [e3 r hr]
    exact m7 r hr
theorem MOk_cp {n ck wh rg : Int} {md wt num a b c : Nat → Int} (h : MOk n ck wh rg md wt num) : MOk n ck wh rg (cpyF 6 md a) (cpyF 6 wt b) (cpyF 8 num c) := by
  have hb := h.1.1
  refine MOk_cong h (fun k hk => ?_) (fun k hk => ?_) (fun r hr => ?_)
  · unfold cpyF
    rw [if_pos (by omega)]
  · unfold cpyF
    rw [if_pos (by omega)]
  · unfold cpyF
    rw [if_pos (by omega)]
