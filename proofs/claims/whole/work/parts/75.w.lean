/-! ===== meetings of two rows ===== -/
theorem ire_t {z p : Int} (hz : -1000000 ≤ z ∧ z ≤ 1000000) (hp : 0 < p ∧ p ≤ 100) : ire (iI z) (iI p) = iI (z.tmod p) := by
  show iI z - iI z / iI p * iI p = _
  rw [iI_div (by omega) (by omega), iI_mul, iI_sub, Int.tmod_def, Int.mul_comm]
theorem meet_iff {A B p : Int} (hA : 0 ≤ A ∧ A ≤ 100000) (hB : 0 ≤ B ∧ B ≤ 100000) (hp : 0 < p ∧ p ≤ 100) : ire (iI A - iI B) (iI p) = 0 ↔ ire (iI A) (iI p) = ire (iI B) (iI p) := by
  have t1 := Int.tmod_lt_of_pos (A - B) hp.1
  have t2 := Int.lt_tmod_of_pos (A - B) hp.1
  have m1 := Int.emod_nonneg A (show p ≠ 0 by omega)
  have m2 := Int.emod_lt_of_pos A hp.1
  have m3 := Int.emod_nonneg B (show p ≠ 0 by omega)
  have m4 := Int.emod_lt_of_pos B hp.1
  rw [iI_sub, ire_t (by omega) hp, ire_t (by omega) hp, ire_t (by omega) hp, Int.tmod_eq_emod_of_nonneg hA.1, Int.tmod_eq_emod_of_nonneg hB.1, show (0 : Int32) = iI 0 from rfl, iI_eq (by omega) (by omega), iI_eq (by omega) (by omega), Int.emod_eq_emod_iff_emod_sub_eq_zero, ← Int.dvd_iff_tmod_eq_zero, ← Int.dvd_iff_emod_eq_zero]
