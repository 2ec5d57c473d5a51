/-! ===== cells, cell ===== -/
theorem e_size (x : St) : fX2_size x = some (x.1 16 3 * x.1 16 4, x) := rfl
theorem e_slack (a : Int32) (m : St) : fX12_isSlack a m = some (bi (0 ≤ a.toInt ∧ a.toInt ≤ 100), m) := by
  unfold fX12_isSlack
  simp only [e_in, bnd_some, bi_if, t64, l32_0, l32_1, l32_2, l32_3, l32_4, l32_5, l32_6, l32_7, l32_8, l32_9, l32_10, l32_11, l32_12, l32_20, l32_25, l32_30, l32_32, l32_50, l32_63, l32_99, l32_100, l32_120, l32_200, l32_255, l32_256, l32_400, l32_500, l32_1000, l32_2400, l32_4095, l32_10000, l32_1000000, l32_100000000, l32_m1, l32_m2, l32_m3, l32_m4, l64_0, l64_1, l64_2, l64_3, l64_4, l64_5, l64_6, l64_7, l64_8, l64_9, l64_10, l64_11, l64_12, l64_20, l64_25, l64_30, l64_32, l64_50, l64_63, l64_99, l64_100, l64_120, l64_200, l64_255, l64_256, l64_400, l64_500, l64_1000, l64_2400, l64_4095, l64_10000, l64_1000000, l64_100000000, l64_m1, l64_m2, l64_m3, l64_m4]
theorem cells_l {n : Nat} {x m : St} (h : Inv n x m) {a1 a2 : Int32} (h1' : 1 ≤ a1.toInt ∧ a1.toInt ≤ 1000000) (h2' : 0 ≤ a2.toInt ∧ a2.toInt ≤ 100) : ∀ (d k f : Nat) (acc : Int32), (k + d : Int) = (x.1 16 3).toInt * (x.1 16 4).toInt → d < f → ∃ v, fX11_cells_L28 a1 a2 f acc (iI (k : Int)) x = some (v, x) ∧ fX12_cells_L22 a1 a2 f acc (iI (k : Int)) m = some (v, m)
  | 0, k, f + 1, acc, hk, _ => by
    have hs := size_i h.2.1
    have le : x.1 16 3 * x.1 16 4 ≤ iI (k : Int) := by rw [iI_lei (by omega), hs.1]; omega
    refine ⟨acc, ?_, ?_⟩
    · show fX11_cells_L28_st a1 a2 (fX11_cells_L28 a1 a2 f) acc (iI (k : Int)) x = _
      unfold fX11_cells_L28_st
      rw [e_size, bnd_some, if_pos le]
    · show fX12_cells_L22_st a1 a2 (fX12_cells_L22 a1 a2 f) acc (iI (k : Int)) m = _
      unfold fX12_cells_L22_st
      rw [h.2.1.1, h.2.1.2.1, if_pos le]
  | d + 1, k, f + 1, acc, hk, hf => by
    have hs := size_i h.2.1
    have nle : ¬ x.1 16 3 * x.1 16 4 ≤ iI (k : Int) := by rw [iI_lei (by omega), hs.1]; omega
    have hc : isC x (iI (k : Int)) := by unfold isC; rw [iI_toInt (by omega) (by omega)]; omega
    obtain ⟨w, w01, e1, e2⟩ := e_agr h hc h1' h2'
    obtain ⟨v, r1, r2⟩ := cells_l h h1' h2' d (k + 1) f (acc + (if w = 0 then 0 else 1)) (by omega) (by omega)
    refine ⟨v, ?_, ?_⟩
    · show fX11_cells_L28_st a1 a2 (fX11_cells_L28 a1 a2 f) acc (iI (k : Int)) x = _
      unfold fX11_cells_L28_st
      rw [e_size, bnd_some, if_neg nle, e1, bnd_some, jn_eq, iI_add1]
      by_cases c : w = 0
      · rw [if_pos c] at r1
        rw [if_pos c, ← r1, Int32.add_zero]
      · rw [if_neg c] at r1
        rw [if_neg c]; exact r1
    · show fX12_cells_L22_st a1 a2 (fX12_cells_L22 a1 a2 f) acc (iI (k : Int)) m = _
      unfold fX12_cells_L22_st
      rw [h.2.1.1, h.2.1.2.1, if_neg nle, e2, bnd_some, lt_eq, lt_eq, iI_add1]; exact r2
theorem pr_38 (n : Nat) (x m : St) (a1 a2 : Int32) (_ : n < 512) (h : Inv n x m) : ∃ (v : Int32) (x' m' : St), fX11_cells a1 a2 x = some (v, x') ∧ fX12_cells a1 a2 m = some (v, m') ∧ Inv (n + 1) x' m' := by
  obtain ⟨h1, h2, h3, h4, h5, h6, h7, h8, h9, h10, h11⟩ := id h
  have hu := Inv_up n x m h
  unfold fX11_cells fX12_cells
  simp only [e_within, e_isStr, e_slack, bnd_some, bi_ite, l32_0, l32_1, l32_2, l32_3, l32_4, l32_5, l32_6, l32_7, l32_8, l32_9, l32_10, l32_11, l32_12, l32_20, l32_25, l32_30, l32_32, l32_50, l32_63, l32_99, l32_100, l32_120, l32_200, l32_255, l32_256, l32_400, l32_500, l32_1000, l32_2400, l32_4095, l32_10000, l32_1000000, l32_100000000, l32_m1, l32_m2, l32_m3, l32_m4, l64_0, l64_1, l64_2, l64_3, l64_4, l64_5, l64_6, l64_7, l64_8, l64_9, l64_10, l64_11, l64_12, l64_20, l64_25, l64_30, l64_32, l64_50, l64_63, l64_99, l64_100, l64_120, l64_200, l64_255, l64_256, l64_400, l64_500, l64_1000, l64_2400, l64_4095, l64_10000, l64_1000000, l64_100000000, l64_m1, l64_m2, l64_m3, l64_m4]
  by_cases c1 : 1 ≤ a1.toInt ∧ a1.toInt ≤ 1000000
  · by_cases c2 : 0 ≤ a2.toInt ∧ a2.toInt ≤ 100
    · have hs := size_i h2
      obtain ⟨v, r1, r2⟩ := cells_l h c1 c2 ((x.1 16 3).toInt * (x.1 16 4).toInt).toNat 0 FU 0 (by omega) (by have := fu_ge; omega)
      rw [if_pos c1, if_pos c1, if_pos c2, if_pos c2]
      exact ⟨v, x, m, r1, r2, hu⟩
    · rw [if_pos c1, if_pos c1, if_neg c2, if_neg c2]; exact ⟨_, _, _, rfl, rfl, hu⟩
  · rw [if_neg c1, if_neg c1]; exact ⟨_, _, _, rfl, rfl, hu⟩
/-- the nth agreeing cell; acc never exceeds the cells passed, so a3 beyond the land's size is never met -/
theorem cell_l {n : Nat} {x m : St} (h : Inv n x m) {a1 a2 a3 : Int32} (h1' : 1 ≤ a1.toInt ∧ a1.toInt ≤ 1000000) (h2' : 0 ≤ a2.toInt ∧ a2.toInt ≤ 100) : ∀ (d k f : Nat) (acc : Int), 0 ≤ acc → acc ≤ k → (k + d : Int) = (x.1 16 3).toInt * (x.1 16 4).toInt → d < f → ∃ v, (a3.toInt < (x.1 16 3).toInt * (x.1 16 4).toInt → fX11_cell_L33 a1 a2 a3 f (iI acc) (iI (k : Int)) x = some (v, x)) ∧ fX12_cell_L27 a1 a2 a3 f (iI acc) (iI (k : Int)) m = some (v, m) ∧ (¬ a3.toInt < (x.1 16 3).toInt * (x.1 16 4).toInt → v = -1)
  | 0, k, f + 1, acc, _, _, hk, _ => by
    have hs := size_i h.2.1
    have le : x.1 16 3 * x.1 16 4 ≤ iI (k : Int) := by rw [iI_lei (by omega), hs.1]; omega
    refine ⟨-1, fun _ => ?_, ?_, fun _ => rfl⟩
    · show fX11_cell_L33_st a1 a2 a3 (fX11_cell_L33 a1 a2 a3 f) (iI acc) (iI (k : Int)) x = _
      unfold fX11_cell_L33_st
      rw [e_size, bnd_some, if_pos le]
    · show fX12_cell_L27_st a1 a2 a3 (fX12_cell_L27 a1 a2 a3 f) (iI acc) (iI (k : Int)) m = _
      unfold fX12_cell_L27_st
      rw [h.2.1.1, h.2.1.2.1, if_pos le]
  | d + 1, k, f + 1, acc, ha0, hak, hk, hf => by
    have hs := size_i h.2.1
    have nle : ¬ x.1 16 3 * x.1 16 4 ≤ iI (k : Int) := by rw [iI_lei (by omega), hs.1]; omega
    have hc : isC x (iI (k : Int)) := by unfold isC; rw [iI_toInt (by omega) (by omega)]; omega
    obtain ⟨w, w01, e1, e2⟩ := e_agr h hc h1' h2'
    have X : a3.toInt < (x.1 16 3).toInt * (x.1 16 4).toInt → fX11_cell_L33 a1 a2 a3 (f + 1) (iI acc) (iI (k : Int)) x = if w = 0 then fX11_cell_L33 a1 a2 a3 f (iI acc) (iI ((k + 1 : Nat) : Int)) x else if iI acc = a3 then some (iI (k : Int), x) else fX11_cell_L33 a1 a2 a3 f (iI (acc + 1)) (iI ((k + 1 : Nat) : Int)) x := fun q => by
      show fX11_cell_L33_st a1 a2 a3 (fX11_cell_L33 a1 a2 a3 f) (iI acc) (iI (k : Int)) x = _
      unfold fX11_cell_L33_st
      rw [e_size, bnd_some, if_neg nle, e_size, bnd_some, if_neg (by rw [Int32.le_iff_toInt_le, hs.1]; omega), e1, bnd_some, jn_eq, iI_add1, show (1 : Int32) = iI 1 from rfl, iI_add]
    have M : fX12_cell_L27 a1 a2 a3 (f + 1) (iI acc) (iI (k : Int)) m = if w = 0 then fX12_cell_L27 a1 a2 a3 f (iI acc) (iI ((k + 1 : Nat) : Int)) m else if iI acc = a3 then some (iI (k : Int), m) else fX12_cell_L27 a1 a2 a3 f (iI (acc + 1)) (iI ((k + 1 : Nat) : Int)) m := by
      show fX12_cell_L27_st a1 a2 a3 (fX12_cell_L27 a1 a2 a3 f) (iI acc) (iI (k : Int)) m = _
      unfold fX12_cell_L27_st
      rw [h.2.1.1, h.2.1.2.1, if_neg nle, e2, bnd_some, jn_eq, iI_add1, show (1 : Int32) = iI 1 from rfl, iI_add]
    by_cases c : w = 0
    · obtain ⟨v, r1, r2, r3⟩ := cell_l h h1' h2' d (k + 1) f acc ha0 (by omega) (by omega) (by omega)
      exact ⟨v, fun q => by rw [X q, if_pos c]; exact r1 q, by rw [M, if_pos c]; exact r2, r3⟩
    · by_cases c2 : iI acc = a3
      · have ea : a3.toInt = acc := by rw [← c2, iI_toInt (by omega) (by omega)]
        exact ⟨iI (k : Int), fun q => by rw [X q, if_neg c, if_pos c2], by rw [M, if_neg c, if_pos c2], fun q => by omega⟩
      · obtain ⟨v, r1, r2, r3⟩ := cell_l h h1' h2' d (k + 1) f (acc + 1) (by omega) (by omega) (by omega) (by omega)
        exact ⟨v, fun q => by rw [X q, if_neg c, if_neg c2]; exact r1 q, by rw [M, if_neg c, if_neg c2]; exact r2, r3⟩
theorem pr_39 (n : Nat) (x m : St) (a1 a2 a3 : Int32) (_ : n < 512) (h : Inv n x m) : ∃ (v : Int32) (x' m' : St), fX11_cell a1 a2 a3 x = some (v, x') ∧ fX12_cell a1 a2 a3 m = some (v, m') ∧ Inv (n + 1) x' m' := by
  obtain ⟨h1, h2, h3, h4, h5, h6, h7, h8, h9, h10, h11⟩ := id h
  have hu := Inv_up n x m h
  unfold fX11_cell fX12_cell
  simp only [e_within, e_isStr, e_slack, bnd_some, bi_ite, l32_0, l32_1, l32_2, l32_3, l32_4, l32_5, l32_6, l32_7, l32_8, l32_9, l32_10, l32_11, l32_12, l32_20, l32_25, l32_30, l32_32, l32_50, l32_63, l32_99, l32_100, l32_120, l32_200, l32_255, l32_256, l32_400, l32_500, l32_1000, l32_2400, l32_4095, l32_10000, l32_1000000, l32_100000000, l32_m1, l32_m2, l32_m3, l32_m4, l64_0, l64_1, l64_2, l64_3, l64_4, l64_5, l64_6, l64_7, l64_8, l64_9, l64_10, l64_11, l64_12, l64_20, l64_25, l64_30, l64_32, l64_50, l64_63, l64_99, l64_100, l64_120, l64_200, l64_255, l64_256, l64_400, l64_500, l64_1000, l64_2400, l64_4095, l64_10000, l64_1000000, l64_100000000, l64_m1, l64_m2, l64_m3, l64_m4]
  by_cases c1 : 1 ≤ a1.toInt ∧ a1.toInt ≤ 1000000
  · by_cases c2 : 0 ≤ a2.toInt ∧ a2.toInt ≤ 100
    · have hs := size_i h2
      rw [if_pos c1, if_pos c1, if_pos c2, if_pos c2]
      by_cases c3 : 0 ≤ a3
      · rw [if_pos c3, if_pos c3]
        obtain ⟨v, r1, r2, r3⟩ := cell_l h (a3 := a3) c1 c2 ((x.1 16 3).toInt * (x.1 16 4).toInt).toNat 0 FU 0 (by omega) (by omega) (by omega) (by have := fu_ge; omega)
        by_cases q : a3.toInt < (x.1 16 3).toInt * (x.1 16 4).toInt
        · exact ⟨v, x, m, r1 q, r2, hu⟩
        · refine ⟨v, x, m, ?_, r2, hu⟩
          rw [r3 q]
          obtain ⟨g, hg⟩ : ∃ g, FU = g + 1 := ⟨FU - 1, by have := fu_ge; omega⟩
          rw [hg]
          show fX11_cell_L33_st a1 a2 a3 (fX11_cell_L33 a1 a2 a3 g) 0 0 x = _
          unfold fX11_cell_L33_st
          have z1 : ¬ x.1 16 3 * x.1 16 4 ≤ 0 := by rw [Int32.le_iff_toInt_le, hs.1, l32_0]; omega
          have z2 : x.1 16 3 * x.1 16 4 ≤ a3 := by rw [Int32.le_iff_toInt_le, hs.1]; omega
          rw [e_size, bnd_some, if_neg z1, e_size, bnd_some, if_pos z2]
      · rw [if_neg c3, if_neg c3]; exact ⟨_, _, _, rfl, rfl, hu⟩
    · rw [if_pos c1, if_pos c1, if_neg c2, if_neg c2]; exact ⟨_, _, _, rfl, rfl, hu⟩
  · rw [if_neg c1, if_neg c1]; exact ⟨_, _, _, rfl, rfl, hu⟩
