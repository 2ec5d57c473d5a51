/-! ===== boxes: does a cell agree with every whole box ===== -/
theorem jI_le {a b : Int} (ha : -9223372036854775808 ≤ a ∧ a < 9223372036854775808) (hb : -9223372036854775808 ≤ b ∧ b < 9223372036854775808) : jI a ≤ jI b ↔ a ≤ b := by
  rw [Int64.le_iff_toInt_le, jI_toInt ha.1 ha.2, jI_toInt hb.1 hb.2]
theorem jI_lt {a b : Int} (ha : -9223372036854775808 ≤ a ∧ a < 9223372036854775808) (hb : -9223372036854775808 ≤ b ∧ b < 9223372036854775808) : jI a < jI b ↔ a < b := by
  rw [Int64.lt_iff_toInt_lt, jI_toInt ha.1 ha.2, jI_toInt hb.1 hb.2]
theorem jI_neg (a : Int) : -jI a = jI (-a) := (Int64.ofInt_neg a).symm
theorem e_abs64 {z : Int} (h : -1000000000000 ≤ z ∧ z ≤ 1000000000000) (S : St) : fJ9_abs_067f4 (jI z) S = some (jI (ab z), S) := by
  unfold fJ9_abs_067f4 ab
  have t : (0 ≤ jI z) ↔ 0 ≤ z := by rw [show (0 : Int64) = jI 0 from rfl, jI_le (by omega) (by omega)]
  by_cases c : 0 ≤ z
  · rw [if_pos (t.mpr c), if_pos c]
  · rw [if_neg (fun q => c (t.mp q)), if_neg c, jI_neg]
theorem ii64 {z : Int} (h : -2147483648 ≤ z ∧ z < 2147483648) : (iI z).toInt64 = jI z := by rw [i64, iI_toInt h.1 h.2]
def exZ (x : St) (c a2 : Int32) (b : Nat) : Int := 100 * a2.toInt / lossZ x c 0 (x.1 68 b) 0 0
theorem agr {n : Nat} {x m : St} (h : Inv n x m) {c a2 a3 : Int32} (hc : isC x c) (h2' : 1 ≤ a2.toInt ∧ a2.toInt ≤ 1000000) (h3' : 0 ≤ a3.toInt ∧ a3.toInt ≤ 100) : ∀ (d k f : Nat), (k + d : Int) = (x.1 67 3).toInt → d < f → ∃ v, (v = 0 ∨ v = 1) ∧ fX10_agrees_L3 c a2 a3 f (iI (k : Int)) x = some (v, x) ∧ fX12_agrees_L6 c a2 a3 f 1 (iI (k : Int)) m = some (v, m)
  | 0, k, f + 1, hk, _ => by
    have r := h.2.2.2.2.2.2.2.2.1
    have r2 := r.2.1
    refine ⟨1, Or.inr rfl, ?_, ?_⟩
    · show fX10_agrees_L3_st c a2 a3 (fX10_agrees_L3 c a2 a3 f) (iI (k : Int)) x = _
      unfold fX10_agrees_L3_st
      rw [if_pos ((iI_lei (by omega)).mpr (by omega))]
    · show fX12_agrees_L6_st c a2 a3 (fX12_agrees_L6 c a2 a3 f) 1 (iI (k : Int)) m = _
      unfold fX12_agrees_L6_st
      rw [r.1, if_pos ((iI_lei (by omega)).mpr (by omega)), if_pos (by decide)]
  | d + 1, k, f + 1, hk, hf => by
    obtain ⟨h1, h2, h3, h4, h5, h6, h7, h8, h9, h10, h11⟩ := id h
    have r2 := h9.2.1
    have h3n : nt (iI (k : Int)) = k := by rw [iI_cl (by omega) (by omega)]; omega
    have h4n : ib (iI (k : Int)) 8 := (iI_ib (by omega)).mpr (by omega)
    have nle : ¬ x.1 67 3 ≤ iI (k : Int) := fun q => by rw [iI_lei (by omega)] at q; omega
    obtain ⟨b1, b2, b3, b4⟩ := h9.2.2.1 k (by omega) (by omega)
    obtain ⟨v, v01, r1, r3⟩ := agr h hc h2' h3' d (k + 1) f (by omega) (by omega)
    have z20 : 0 ≤ (0 : Int32).toInt ∧ (0 : Int32).toInt ≤ 20 := by decide
    have L := lossZ_rg h1 h2 0 hc b2 z20 z20
    have zn := iI_nz (z := lossZ x c 0 (x.1 68 k) 0 0) (by omega)
    have e0 : 0 ≤ exZ x c a2 k := Int.ediv_nonneg (by omega) (by omega)
    have e1 : exZ x c a2 k ≤ 100000000 := Int.le_trans (Int.ediv_le_self _ (by omega)) (by omega)
    have eh : (100 : Int32) * a2 = iI (100 * a2.toInt) := by rw [← iI_mul, ← iI_of]; rfl
    have ed : iI (100 * a2.toInt) / iI (lossZ x c 0 (x.1 68 k) 0 0) = iI (exZ x c a2 k) := by
      rw [iI_div (by omega) (by omega), Int.tdiv_eq_ediv_of_nonneg (by omega)]; rfl
    have ej : (100 : Int64) * a2.toInt64 / jI (lossZ x c 0 (x.1 68 k) 0 0) = jI (exZ x c a2 k) := by
      rw [i64, show (100 : Int64) = jI 100 from rfl, jI_mul, jI_div (by omega) (by omega), Int.tdiv_eq_ediv_of_nonneg (by omega)]; rfl
    have zj : ¬ jI (lossZ x c 0 (x.1 68 k) 0 0) = 0 := fun q => by
      have := congrArg Int64.toInt q
      rw [jI_toInt (by omega) (by omega), l64_0] at this; omega
    have ar : 0 ≤ ab ((x.1 69 k).toInt - exZ x c a2 k) ∧ ab ((x.1 69 k).toInt - exZ x c a2 k) ≤ 200000000 := by unfold ab; split <;> omega
    have mr := mulB (a := a3.toInt) (b := exZ x c a2 k + 100) (A := 100) (B := 200000000) h3'.1 h3'.2 (by omega) (by omega) (by decide)
    have X : fX10_agrees_L3 c a2 a3 (f + 1) (iI (k : Int)) x = if x.1 69 k = -1 then some (v, x) else if 100 * ab ((x.1 69 k).toInt - exZ x c a2 k) ≤ a3.toInt * (exZ x c a2 k + 100) then some (v, x) else some (0, x) := by
      show fX10_agrees_L3_st c a2 a3 (fX10_agrees_L3 c a2 a3 f) (iI (k : Int)) x = _
      unfold fX10_agrees_L3_st fX2_gotFrom
      rw [if_neg nle, if_pos h4n, jn_eq, h3n, iI_add1, if_pos h4n, e_lossX h2 h3 0 hc b2 z20 z20, bnd_some, if_pos zn, bnd_some, lt_eq, if_pos h4n, eh, ed, ii64 (by omega), i64 (x.1 69 k), jI_sub, e_abs64 (by omega), bnd_some, show (100 : Int64) = jI 100 from rfl, jI_mul, i64 a3, jI_add, jI_mul]
      by_cases q1 : x.1 69 k = -1
      · rw [if_pos q1, if_pos q1]; exact r1
      · rw [if_neg q1, if_neg q1]
        by_cases q2 : 100 * ab ((x.1 69 k).toInt - exZ x c a2 k) ≤ a3.toInt * (exZ x c a2 k + 100)
        · rw [if_pos q2, if_pos ((jI_le (by omega) (by omega)).mpr q2)]; exact r1
        · rw [if_neg q2, if_neg (fun z => q2 ((jI_le (by omega) (by omega)).mp z))]
    have Z : fX12_agrees_L6 c a2 a3 f 0 (iI ((k + 1 : Nat) : Int)) m = some (0, m) := by
      obtain ⟨g, rfl⟩ : ∃ g, f = g + 1 := ⟨f - 1, by omega⟩
      show fX12_agrees_L6_st c a2 a3 (fX12_agrees_L6 c a2 a3 g) 0 (iI ((k + 1 : Nat) : Int)) m = _
      unfold fX12_agrees_L6_st
      rw [if_pos (show b01 0 by decide), if_pos (show (0 : Int32) = 0 from rfl)]
      by_cases q : m.1 0 43 ≤ iI ((k + 1 : Nat) : Int)
      · rw [if_pos q]
      · rw [if_neg q]
    have M : fX12_agrees_L6 c a2 a3 (f + 1) 1 (iI (k : Int)) m = if x.1 69 k = -1 then some (v, m) else if 100 * ab ((x.1 69 k).toInt - exZ x c a2 k) ≤ a3.toInt * (exZ x c a2 k + 100) then some (v, m) else some (0, m) := by
      show fX12_agrees_L6_st c a2 a3 (fX12_agrees_L6 c a2 a3 f) 1 (iI (k : Int)) m = _
      unfold fX12_agrees_L6_st
      rw [h9.1, if_neg nle, if_neg (by decide), if_pos h4n, jn_eq, h3n, iI_add1, if_pos h4n, b1, b3, e_lossM h1 h2 h3 (Or.inl rfl) hc b2 z20 z20, bnd_some, ii64 (by omega), if_pos zj, lt_eq, if_pos h4n, jn_eq, if_pos h4n, if_pos h4n, b3, ej, i64 (x.1 69 k), jI_sub, jI_sub, show (100 : Int64) = jI 100 from rfl, i64 a3, jI_add, jI_mul]
      by_cases q1 : x.1 69 k = -1
      · rw [if_pos q1, if_pos q1]; exact r3
      · rw [if_neg q1, if_neg q1]
        have fin : ∀ w : Int, w = ab ((x.1 69 k).toInt - exZ x c a2 k) → (if jI (a3.toInt * (exZ x c a2 k + 100)) < jI 100 * jI w then fX12_agrees_L6 c a2 a3 f 0 (iI ((k + 1 : Nat) : Int)) m else fX12_agrees_L6 c a2 a3 f 1 (iI ((k + 1 : Nat) : Int)) m) = if 100 * ab ((x.1 69 k).toInt - exZ x c a2 k) ≤ a3.toInt * (exZ x c a2 k + 100) then some (v, m) else some (0, m) := by
          intro w hw
          rw [jI_mul, hw]
          by_cases q2 : 100 * ab ((x.1 69 k).toInt - exZ x c a2 k) ≤ a3.toInt * (exZ x c a2 k + 100)
          · rw [if_pos q2, if_neg (fun z => by rw [jI_lt (by omega) (by omega)] at z; omega)]; exact r3
          · rw [if_neg q2, if_pos ((jI_lt (by omega) (by omega)).mpr (by omega))]; exact Z
        by_cases q3 : jI (x.1 69 k).toInt ≤ jI (exZ x c a2 k)
        · rw [if_pos q3]
          rw [jI_le (by omega) (by omega)] at q3
          exact fin _ (by unfold ab; split <;> omega)
        · rw [if_neg q3]
          rw [jI_le (by omega) (by omega)] at q3
          exact fin _ (by unfold ab; split <;> omega)
    by_cases q1 : x.1 69 k = -1
    · exact ⟨v, v01, by rw [X, if_pos q1], by rw [M, if_pos q1]⟩
    · by_cases q2 : 100 * ab ((x.1 69 k).toInt - exZ x c a2 k) ≤ a3.toInt * (exZ x c a2 k + 100)
      · exact ⟨v, v01, by rw [X, if_neg q1, if_pos q2], by rw [M, if_neg q1, if_pos q2]⟩
      · exact ⟨0, Or.inl rfl, by rw [X, if_neg q1, if_neg q2], by rw [M, if_neg q1, if_neg q2]⟩
theorem e_agr {n : Nat} {x m : St} (h : Inv n x m) {c a2 a3 : Int32} (hc : isC x c) (h2' : 1 ≤ a2.toInt ∧ a2.toInt ≤ 1000000) (h3' : 0 ≤ a3.toInt ∧ a3.toInt ≤ 100) : ∃ v, (v = 0 ∨ v = 1) ∧ fX10_agrees c a2 a3 x = some (v, x) ∧ fX12_agrees c a2 a3 m = some (v, m) := by
  have r2 := h.2.2.2.2.2.2.2.2.1.2.1
  exact agr h hc h2' h3' (x.1 67 3).toInt.toNat 0 FU (by omega) (by have := fu_ge; omega)
