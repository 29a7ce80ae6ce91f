/-! THE CLASS: gap -/
theorem vdS_eq {md : Nat → Int} {v : Int} : ∀ (i : Nat), (∀ k, k < i → 1 ≤ md k) → vdS md v i = v % PN md i
  | 0, _ => (Int.emod_one v).symm
  | i + 1, h => by
    have ih := vdS_eq (v := v) i (fun k hk => h k (by omega))
    have hp : 1 ≤ PN md i := PN_pos _ (fun k hk => by have := h k (by omega); omega)
    have hm := h i (by omega)
    have e1 : vdS md v (i + 1) = vdS md v i + dgL md v i % md i * PN md i := rfl
    rw [e1, ih, dgL_eq i (fun k hk => h k (by omega))]
    show _ = v % (PN md i * md i)
    have a1 := Int.mul_ediv_add_emod v (PN md i)
    have a2 := Int.mul_ediv_add_emod (v / PN md i) (md i)
    have a3 := Int.mul_ediv_add_emod v (PN md i * md i)
    have a4 : v / (PN md i * md i) = v / PN md i / md i := (Int.ediv_ediv_of_nonneg (by omega)).symm
    have a5 : PN md i * (v / PN md i) = PN md i * (md i * (v / PN md i / md i)) + PN md i * (v / PN md i % md i) := by
      rw [← Int.mul_add, a2]
    rw [a4, Int.mul_assoc] at a3
    rw [Int.mul_comm (v / PN md i % md i)]
    omega
