/-! ===== meetings of two rows ===== -/
theorem ire_t {z p : Int} (hz : -1000000 ≤ z ∧ z ≤ 1000000) (hp : 0 < p ∧ p ≤ 100) : ire (iI z) (iI p) = iI (z.tmod p) := by
  show iI z - iI z / iI p * iI p = _
  rw [iI_div (by omega) (by omega), iI_mul, iI_sub, Int.tmod_def, Int.mul_comm]
theorem meet_iff {A B p : Int} (hA : 0 ≤ A ∧ A ≤ 100000) (hB : 0 ≤ B ∧ B ≤ 100000) (hp : 0 < p ∧ p ≤ 100) : ire (iI A - iI B) (iI p) = 0 ↔ ire (iI A) (iI p) = ire (iI B) (iI p) := by
  have t1 := Int.tmod_lt_of_pos (A - B) hp.1
  have t2 := Int.lt_tmod_of_pos (A - B) hp.1
  have m1 := Int.emod_nonneg A (show p ≠ 0 by omega)
  have m2 := Int.emod_lt_of_pos A hp.1
  have m3 := Int.emod_nonneg B (show p ≠ 0 by omega)
  have m4 := Int.emod_lt_of_pos B hp.1
  rw [iI_sub, ire_t (by omega) hp, ire_t (by omega) hp, ire_t (by omega) hp, Int.tmod_eq_emod_of_nonneg hA.1, Int.tmod_eq_emod_of_nonneg hB.1, show (0 : Int32) = iI 0 from rfl, iI_eq (by omega) (by omega), iI_eq (by omega) (by omega), Int.emod_eq_emod_iff_emod_sub_eq_zero, ← Int.dvd_iff_tmod_eq_zero, ← Int.dvd_iff_emod_eq_zero]
theorem meets_l {x m : St} {p u w g : Int} (hp : 0 < p ∧ p ≤ 11) (hu : 0 ≤ u ∧ u ≤ 11) (hw : 0 ≤ w ∧ w ≤ 11) (hg : 0 ≤ g ∧ g ≤ 11) : ∀ (d k f : Nat) (acc : Int32), (k + d : Int) = p → d < f → ∃ v, fX11_meetings_L6 (iI p) (iI u) (iI w) (iI g) f acc (iI (k : Int)) x = some (v, x) ∧ fX12_meets_L6 (iI p) (iI u) (iI w) (iI g) f acc (iI (k : Int)) m = some (v, m)
  | 0, k, f + 1, acc, hk, _ => by
    have le : iI p ≤ iI (k : Int) := (iI_le (by omega) (by omega)).mpr (by omega)
    refine ⟨acc, ?_, ?_⟩
    · show fX11_meetings_L6_st (iI p) (iI u) (iI w) (iI g) (fX11_meetings_L6 (iI p) (iI u) (iI w) (iI g) f) acc (iI (k : Int)) x = _
      unfold fX11_meetings_L6_st
      rw [if_pos le]
    · show fX12_meets_L6_st (iI p) (iI u) (iI w) (iI g) (fX12_meets_L6 (iI p) (iI u) (iI w) (iI g) f) acc (iI (k : Int)) m = _
      unfold fX12_meets_L6_st
      rw [if_pos le]
  | d + 1, k, f + 1, acc, hk, hf => by
    have nle : ¬ iI p ≤ iI (k : Int) := fun q => by rw [iI_le (by omega) (by omega)] at q; omega
    have zp := iI_nz (z := p) (by omega)
    have p1 := mulB (a := u) (b := (k : Int)) (A := 11) (B := 11) hu.1 hu.2 (by omega) (by omega) (by decide)
    have p1' := Int.mul_nonneg hu.1 (show 0 ≤ (k : Int) by omega)
    have p2 := mulB (a := u * k) (b := (k : Int)) (A := 121) (B := 11) p1' (by omega) (by omega) (by omega) (by decide)
    have p2' := Int.mul_nonneg p1' (show 0 ≤ (k : Int) by omega)
    have q1 := mulB (a := w) (b := (k : Int) + g) (A := 11) (B := 22) hw.1 hw.2 (by omega) (by omega) (by decide)
    have q1' := Int.mul_nonneg hw.1 (show 0 ≤ (k : Int) + g by omega)
    have q2 := mulB (a := w * (k + g)) (b := (k : Int) + g) (A := 242) (B := 22) q1' (by omega) (by omega) (by omega) (by decide)
    have q2' := Int.mul_nonneg q1' (show 0 ≤ (k : Int) + g by omega)
    have mi := meet_iff (A := u * k * k) (B := w * (k + g) * (k + g)) (p := p) (by omega) (by omega) (by omega)
    obtain ⟨v, r1, r2⟩ := meets_l (x := x) (m := m) hp hu hw hg d (k + 1) f (acc + (if ire (iI (u * k * k)) (iI p) = ire (iI (w * (k + g) * (k + g))) (iI p) then 1 else 0)) (by omega) (by omega)
    refine ⟨v, ?_, ?_⟩
    · show fX11_meetings_L6_st (iI p) (iI u) (iI w) (iI g) (fX11_meetings_L6 (iI p) (iI u) (iI w) (iI g) f) acc (iI (k : Int)) x = _
      unfold fX11_meetings_L6_st
      rw [if_neg nle, if_pos zp, jn_eq, iI_mul, iI_mul, iI_add, iI_mul, iI_mul, iI_add1]
      by_cases c : ire (iI (u * k * k)) (iI p) = ire (iI (w * (k + g) * (k + g))) (iI p)
      · rw [if_pos c] at r1
        rw [if_pos (mi.mpr c)]; exact r1
      · rw [if_neg c] at r1
        rw [if_neg (fun q => c (mi.mp q)), ← r1, Int32.add_zero]
    · show fX12_meets_L6_st (iI p) (iI u) (iI w) (iI g) (fX12_meets_L6 (iI p) (iI u) (iI w) (iI g) f) acc (iI (k : Int)) m = _
      unfold fX12_meets_L6_st
      rw [if_neg nle, if_pos zp, if_pos zp, lt_eq, lt_eq, iI_mul, iI_mul, iI_add, iI_mul, iI_mul, iI_add1]; exact r2
