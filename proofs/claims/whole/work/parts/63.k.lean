/-! ===== loss: both sides, and its range ===== -/
theorem e_lossM {x m : St} (h1 : I_told x m) (h2 : I_land x m) (h3 : I_sheet x m) {a1 a2 a3 a4 a5 : Int32} (h5 : a5 = 0 ∨ a5 = 1) (c1 : isC x a1) (c3 : isC x a3) (d2 : 0 ≤ a2.toInt ∧ a2.toInt ≤ 20) (d4 : 0 ≤ a4.toInt ∧ a4.toInt ≤ 20) : fX12_lossOf a1 a2 a3 a4 a5 m = some (iI (lossZ x a1 a2 a3 a4 a5), m) := by
  have L := LP_of h2 c1 c3 d2 d4
  obtain ⟨p1, p2, -, -⟩ := row_col h2 c1
  obtain ⟨q1, q2, -, -⟩ := row_col h2 c3
  have zw : ¬ x.1 16 3 = 0 := by rw [eq_i, l32_0]; have := h2.2.2.1.1; omega
  have hL := L.2.2.1
  have hX := L.1
  have hY := L.2.1
  have rX : -2147483648 ≤ dX x a1 a3 ∧ dX x a1 a3 < 2147483648 := by omega
  have rY : -2147483648 ≤ dY x a1 a3 ∧ dY x a1 a3 < 2147483648 := by omega
  have sX : -2147483648 ≤ ab (dX x a1 a3) ∧ ab (dX x a1 a3) < 2147483648 := by unfold ab; split <;> omega
  have sY : -2147483648 ≤ ab (dY x a1 a3) ∧ ab (dY x a1 a3) < 2147483648 := by unfold ab; split <;> omega
  have eX : ire a3 (x.1 16 3) - ire a1 (x.1 16 3) = iI (dX x a1 a3) := by rw [p2, q2, iI_sub]; rfl
  have eY : a3 / x.1 16 3 - a1 / x.1 16 3 = iI (dY x a1 a3) := by rw [p1, q1, iI_sub]; rfl
  have et1 : a2 + iI (max 0 (kn x 0 a1 99).toInt) = iI (tpZ x a1 a2) := by
    unfold tpZ; rw [Int.add_comm, ← iI_add, ← iI_of]
  have et3 : a4 + iI (max 0 (kn x 0 a3 99).toInt) = iI (tpZ x a1 a2 + (tpZ x a3 a4 - tpZ x a1 a2)) := by
    rw [show tpZ x a1 a2 + (tpZ x a3 a4 - tpZ x a1 a2) = tpZ x a3 a4 by omega]
    unfold tpZ; rw [Int.add_comm, ← iI_add, ← iI_of]
  unfold fX12_lossOf
  rw [h2.1, if_pos zw, if_pos zw, lt_eq, if_pos zw, if_pos zw, lt_eq, lt_eq, lt_eq, lt_eq, eX, eY, iI_ab rX, iI_ab rY, iI_mx sX sY]
  rw [e_hillM h3 c1.1, bnd_some, e_al0v, bnd_some, lt_eq, e_hillM h3 c3.1, bnd_some, e_al0v, bnd_some, lt_eq, lt_eq, et1, et3]
  rw [iI_mul, iI_mul, show (1 : Int32) = iI 1 from rfl, iI_add, iI_add]
  exact loss_m h1 h2 h3 h5 L p2 p1 (nN x a1 a3 - 1).toNat 1 FU _ (by omega) (by omega) (by have := fu_ge; omega)
theorem st_rg {x m : St} (h1' : I_told x m) {a5 : Int32} {x0 y0 dx dy n h1 dh k : Int} (L : LPz x0 y0 dx dy n h1 dh) (hk : 0 ≤ k ∧ k ≤ n) (hn : 0 < n) : 0 ≤ stZ x a5 x0 y0 dx dy n h1 dh k ∧ stZ x a5 x0 y0 dx dy n h1 dh k ≤ 50000 := by
  obtain ⟨-, r0, r1, -⟩ := h1'
  unfold stZ
  generalize celZ (x.1 16 3).toInt x0 y0 dx dy n k = c
  have w := wdZ_rg x a5 c
  have ur := up_rg (x := x) (a5 := a5) (c := c) L hk hn
  have p1 : 0 ≤ (x.1 2 0).toInt * wdZ x a5 c := Int.mul_nonneg r0.1 w.1
  have p2 := mulB (a := (x.1 2 0).toInt) (b := wdZ x a5 c) (A := 50) (B := 9) r0.1 r0.2 (by omega) w.2 (by decide)
  have t : max 0 ((upZ x a5 c n h1 dh k).tdiv n) ≤ 218 := by
    by_cases u : upZ x a5 c n h1 dh k ≤ 0
    · rw [td_le0 u hn]; decide
    · rw [td_ge0 (by omega) hn, Int.tdiv_eq_ediv_of_nonneg (by omega)]
      have : upZ x a5 c n h1 dh k / n < 219 := (Int.ediv_lt_iff_lt_mul hn).mpr (by rw [Int.mul_comm]; omega)
      omega
  have q1 : 0 ≤ (x.1 2 1).toInt * max 0 ((upZ x a5 c n h1 dh k).tdiv n) := Int.mul_nonneg r1.1 (by omega)
  have q2 := mulB (a := (x.1 2 1).toInt) (b := max 0 ((upZ x a5 c n h1 dh k).tdiv n)) (A := 200) (B := 218) r1.1 r1.2 (by omega) t (by decide)
  omega
theorem lz_rg {x m : St} (h1' : I_told x m) {a5 : Int32} {x0 y0 dx dy n h1 dh : Int} (L : LPz x0 y0 dx dy n h1 dh) : ∀ (d : Nat) (k acc : Int), ((k + d : Int) = n ∨ d = 0) → 1 ≤ k → acc ≤ lz x a5 x0 y0 dx dy n h1 dh d k acc ∧ lz x a5 x0 y0 dx dy n h1 dh d k acc ≤ acc + d * 50000
  | 0, k, acc, _, _ => by
    show acc ≤ acc ∧ acc ≤ acc + ((0 : Nat) : Int) * 50000
    omega
  | d + 1, k, acc, hk, hk1 => by
    have s := st_rg h1' (a5 := a5) L (k := k) (by omega) (by omega)
    have ih := lz_rg h1' (a5 := a5) L d (k + 1) (acc + stZ x a5 x0 y0 dx dy n h1 dh k) (by omega) (by omega)
    show acc ≤ lz x a5 x0 y0 dx dy n h1 dh d (k + 1) (acc + stZ x a5 x0 y0 dx dy n h1 dh k) ∧ lz x a5 x0 y0 dx dy n h1 dh d (k + 1) (acc + stZ x a5 x0 y0 dx dy n h1 dh k) ≤ acc + ((d + 1 : Nat) : Int) * 50000
    omega
theorem lossZ_rg {x m : St} (h1 : I_told x m) (h2 : I_land x m) {a1 a2 a3 a4 : Int32} (a5 : Int32) (c1 : isC x a1) (c3 : isC x a3) (d2 : 0 ≤ a2.toInt ∧ a2.toInt ≤ 20) (d4 : 0 ≤ a4.toInt ∧ a4.toInt ≤ 20) : 1 ≤ lossZ x a1 a2 a3 a4 a5 ∧ lossZ x a1 a2 a3 a4 a5 ≤ 1000000 := by
  have L := LP_of h2 c1 c3 d2 d4
  have hL := L.2.2.1
  have hX := L.1
  have hY := L.2.1
  have r := lz_rg h1 (a5 := a5) L (nN x a1 a3 - 1).toNat 1 (1 + dX x a1 a3 * dX x a1 a3 + dY x a1 a3 * dY x a1 a3) (by omega) (by omega)
  have sq : ∀ z : Int, -19 ≤ z → z ≤ 19 → 0 ≤ z * z ∧ z * z ≤ 361 := by
    intro z z1 z2
    by_cases h : 0 ≤ z
    · have := mulB (a := z) (b := z) (A := 19) (B := 19) h z2 z1 z2 (by decide)
      have := Int.mul_nonneg h h
      omega
    · have := mulB (a := -z) (b := -z) (A := 19) (B := 19) (by omega) (by omega) (by omega) (by omega) (by decide)
      have := Int.mul_nonneg (show 0 ≤ -z by omega) (show 0 ≤ -z by omega)
      rw [Int.neg_mul_neg] at *
      omega
  have s1 := sq (dX x a1 a3) (by omega) (by omega)
  have s2 := sq (dY x a1 a3) (by omega) (by omega)
  unfold lossZ
  omega
theorem pr_3 (n : Nat) (x m : St) (a1 a2 a3 a4 a5 : Int32) (_ : n < 512) (h : Inv n x m) : ∃ (v : Int32) (x' m' : St), fX11_loss a1 a2 a3 a4 a5 x = some (v, x') ∧ fX12_loss a1 a2 a3 a4 a5 m = some (v, m') ∧ Inv (n + 1) x' m' := by
  obtain ⟨h1, h2, h3, h4, h5, h6, h7, h8, h9, h10, h11⟩ := id h
  have hu := Inv_up n x m h
  unfold fX11_loss fX12_loss
  simp only [e_isCellX h2, e_isCellM h2, e_isMast, e_within, e_in, bnd_some, lt_eq, jn_eq, bi_ite, ite_mrg, t64, l32_0, l32_1, l32_2, l32_3, l32_4, l32_5, l32_6, l32_7, l32_8, l32_9, l32_10, l32_11, l32_12, l32_20, l32_25, l32_30, l32_32, l32_50, l32_63, l32_99, l32_100, l32_120, l32_200, l32_255, l32_256, l32_400, l32_500, l32_1000, l32_2400, l32_4095, l32_10000, l32_1000000, l32_100000000, l32_m1, l32_m2, l32_m3, l32_m4, l64_0, l64_1, l64_2, l64_3, l64_4, l64_5, l64_6, l64_7, l64_8, l64_9, l64_10, l64_11, l64_12, l64_20, l64_25, l64_30, l64_32, l64_50, l64_63, l64_99, l64_100, l64_120, l64_200, l64_255, l64_256, l64_400, l64_500, l64_1000, l64_2400, l64_4095, l64_10000, l64_1000000, l64_100000000, l64_m1, l64_m2, l64_m3, l64_m4]
  by_cases c1 : isC x a1 ∧ isC x a3 ∧ (0 ≤ a5.toInt ∧ a5.toInt ≤ 1) ∧ (0 ≤ a2.toInt ∧ a2.toInt ≤ 20) ∧ 0 ≤ a4.toInt ∧ a4.toInt ≤ 20
  · obtain ⟨d1, d3, d5, d2, d4⟩ := c1
    have h5' : a5 = 0 ∨ a5 = 1 := by rw [eq_i, eq_i, l32_0, l32_1]; omega
    refine ⟨iI (lossZ x a1 a2 a3 a4 a5), x, m, ?_, ?_, hu⟩
    · rw [if_pos ⟨d1, d3, d5, d2, d4⟩, e_lossX h2 h3 a5 d1 d3 d2 d4, bnd_some]
    · rw [if_pos ⟨d1, d2, d3, d4, d5⟩, e_lossM h1 h2 h3 h5' d1 d3 d2 d4, bnd_some]
  · refine ⟨-2, x, m, ?_, ?_, hu⟩
    · rw [if_neg c1]
    · rw [if_neg (fun q => c1 ⟨q.1, q.2.2.1, q.2.2.2.2, q.2.1, q.2.2.2.1⟩)]
