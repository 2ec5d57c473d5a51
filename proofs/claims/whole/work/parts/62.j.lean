/-! ===== the reference's loss; both sides' loss is the same number ===== -/
theorem e_al0 {z : Int} (h : -2147483648 ≤ z ∧ z < 2147483648) (S : St) : fX12_atLeast0 (iI z) S = some (iI (max 0 z), S) := by
  unfold fX12_atLeast0
  have t : (iI z ≤ 0) ↔ z ≤ 0 := by rw [show (0 : Int32) = iI 0 from rfl, iI_le h (by omega)]
  by_cases c : z ≤ 0
  · rw [if_pos (t.mpr c), show max 0 z = 0 by omega]; rfl
  · rw [if_neg (fun q => c (t.mp q)), show max 0 z = z by omega]
theorem e_max {a b : Int} (ha : -2147483648 ≤ a ∧ a < 2147483648) (hb : -2147483648 ≤ b ∧ b < 2147483648) (S : St) : fJ9_max_7cf53 (iI a) (iI b) S = some (iI (max a b), S) := by
  unfold fJ9_max_7cf53
  by_cases c : a < b
  · rw [if_pos ((iI_lt ha hb).mpr c), show max a b = b by omega]
  · rw [if_neg (fun q => c ((iI_lt ha hb).mp q)), show max a b = a by omega]
theorem e_min {a b : Int} (ha : -2147483648 ≤ a ∧ a < 2147483648) (hb : -2147483648 ≤ b ∧ b < 2147483648) (S : St) : fJ9_min_7cf53 (iI a) (iI b) S = some (iI (min a b), S) := by
  unfold fJ9_min_7cf53
  by_cases c : b < a
  · rw [if_pos ((iI_lt hb ha).mpr c), show min a b = b by omega]
  · rw [if_neg (fun q => c ((iI_lt hb ha).mp q)), show min a b = a by omega]
def ab (z : Int) : Int := if 0 ≤ z then z else -z
theorem iI_ab {z : Int} (h : -2147483648 ≤ z ∧ z < 2147483648) : (if 0 ≤ iI z then iI z else -iI z) = iI (ab z) := by
  unfold ab
  have t : (0 ≤ iI z) ↔ 0 ≤ z := by rw [show (0 : Int32) = iI 0 from rfl, iI_le (by omega) h]
  by_cases c : 0 ≤ z
  · rw [if_pos (t.mpr c), if_pos c]
  · rw [if_neg (fun q => c (t.mp q)), if_neg c, iI_neg]
theorem e_abs {z : Int} (h : -2147483648 ≤ z ∧ z < 2147483648) (S : St) : fJ9_abs_0f7a4 (iI z) S = some (iI (ab z), S) := by
  unfold fJ9_abs_0f7a4
  rw [← iI_ab h]
  by_cases c : 0 ≤ iI z
  · rw [if_pos c, if_pos c]
  · rw [if_neg c, if_neg c]
theorem loss_m {x m : St} (h1' : I_told x m) (h2 : I_land x m) (h3 : I_sheet x m) {a1 a5 : Int32} (h5 : a5 = 0 ∨ a5 = 1) {x0 y0 dx dy n h1 dh : Int} (L : LPz x0 y0 dx dy n h1 dh) (ex : ire a1 (x.1 16 3) = iI x0) (ey : a1 / x.1 16 3 = iI y0) : ∀ (d k f : Nat) (acc : Int), ((k + d : Int) = n ∨ (d = 0 ∧ n ≤ k)) → (1 ≤ k ∧ k ≤ 100) → d < f → fX12_lossOf_L119 a1 a5 (iI dx) (iI dy) (iI n) (iI h1) (iI (h1 + dh)) f (iI acc) (iI (k : Int)) m = some (iI (lz x a5 x0 y0 dx dy n h1 dh d k acc), m)
  | 0, k, f + 1, acc, hk, hk1, _ => by
    show fX12_lossOf_L119_st a1 a5 (iI dx) (iI dy) (iI n) (iI h1) (iI (h1 + dh)) (fX12_lossOf_L119 a1 a5 (iI dx) (iI dy) (iI n) (iI h1) (iI (h1 + dh)) f) (iI acc) (iI (k : Int)) m = _
    unfold fX12_lossOf_L119_st
    have hL := L.2.2.1
    have c1 : iI n ≤ iI (k : Int) := by rw [iI_le (by omega) (by omega)]; omega
    rw [if_pos c1]; rfl
  | d + 1, k, f + 1, acc, hk, hk1, hf => by
    show fX12_lossOf_L119_st a1 a5 (iI dx) (iI dy) (iI n) (iI h1) (iI (h1 + dh)) (fX12_lossOf_L119 a1 a5 (iI dx) (iI dy) (iI n) (iI h1) (iI (h1 + dh)) f) (iI acc) (iI (k : Int)) m = _
    unfold fX12_lossOf_L119_st
    have hL := L.2.2.1
    have c1 : ¬ iI n ≤ iI (k : Int) := by rw [iI_le (by omega) (by omega)]; omega
    have cr := cel_rg h2 L (k := k) (by omega) (by omega)
    have ur := up_rg (x := x) (a5 := a5) (c := celZ (x.1 16 3).toInt x0 y0 dx dy n k) L (k := k) (by omega) (by omega)
    have kd := mulB (a := (k : Int)) (b := dx) (A := 19) (B := 19) (by omega) (by omega) (by omega) (by omega) (by decide)
    have ke := mulB (a := (k : Int)) (b := dy) (A := 19) (B := 19) (by omega) (by omega) (by omega) (by omega) (by decide)
    have ce : (iI y0 + iI (nz (k * dy) n)) * x.1 16 3 + (iI x0 + iI (nz (k * dx) n)) = iI (celZ (x.1 16 3).toInt x0 y0 dx dy n k) := by
      rw [iI_of (x.1 16 3), iI_add, iI_mul, iI_add, iI_add, ← iI_of]; unfold celZ; rw [Int.add_assoc]
    have cn : 0 ≤ (iI (celZ (x.1 16 3).toInt x0 y0 dx dy n k)).toInt := by rw [iI_toInt (by omega) (by omega)]; exact cr.1
    have zn : ¬ iI n = 0 := by rw [show (0 : Int32) = iI 0 from rfl, iI_eq (by omega) (by omega)]; omega
    have zw : ¬ x.1 16 3 = 0 := by rw [eq_i, l32_0]; have := h2.2.2.1.1; omega
    have f1 : fX12_floorBy (2 * iI (k : Int) * iI dx + iI n) (2 * iI n) m = some (iI (nz (k * dx) n), m) := by
      rw [show (2 : Int32) = iI 2 from rfl, iI_mul, iI_mul, iI_mul, iI_add, Int.mul_assoc, e_floorBy (by omega) (by omega)]; rfl
    have f2 : fX12_floorBy (2 * iI (k : Int) * iI dy + iI n) (2 * iI n) m = some (iI (nz (k * dy) n), m) := by
      rw [show (2 : Int32) = iI 2 from rfl, iI_mul, iI_mul, iI_mul, iI_add, Int.mul_assoc, e_floorBy (by omega) (by omega)]; rfl
    have ih := fun a => loss_m h1' h2 h3 h5 L ex ey d (k + 1) f a (by omega) (by omega) (by omega)
    have r0 := h1'.1 0 (by decide)
    have r1 := h1'.1 1 (by decide)
    rw [if_neg c1, h2.1, if_pos zw, f1, bnd_some, lt_eq, h2.1, if_pos zw, f2, bnd_some, lt_eq, ex, ey, h2.1, ce, e_woodM h3 cn, bnd_some, h2.1, ce, e_hillM h3 cn, bnd_some]
    generalize hc : celZ (x.1 16 3).toInt x0 y0 dx dy n k = c at *
    have ew : (if kn x 1 (iI c) 9 = -1 then (if a5 = 1 then 9 else 0) else kn x 1 (iI c) 9) = iI (wdZ x a5 c) := (fil_m h5).trans (iI_of _)
    have eh : (if kn x 0 (iI c) 99 = -1 then (if a5 = 1 then 99 else 0) else kn x 0 (iI c) 99) = iI (hvZ x a5 c) := (fil_m h5).trans (iI_of _)
    have ed : h1 + dh - h1 = dh := by omega
    have tr : -2147483648 ≤ (upZ x a5 c n h1 dh k).tdiv n ∧ (upZ x a5 c n h1 dh k).tdiv n < 2147483648 := by
      have := Int.natAbs_tdiv_le_natAbs (upZ x a5 c n h1 dh k) n
      omega
    have es : stZ x a5 x0 y0 dx dy n h1 dh k = (x.1 2 0).toInt * wdZ x a5 c + (x.1 2 1).toInt * max 0 ((upZ x a5 c n h1 dh k).tdiv n) := by unfold stZ; rw [hc]
    rw [lt_eq, ew, lt_eq, eh, if_pos zn, iI_sub, iI_mul, iI_sub, ed, iI_mul, iI_sub]
    rw [show n * (hvZ x a5 c - h1) - k * dh = upZ x a5 c n h1 dh k from rfl, iI_div (by omega) (by omega), e_al0 tr, bnd_some, lt_eq, nt0, nt1, r0, r1, iI_of (x.1 2 0), iI_of (x.1 2 1), iI_mul, iI_mul, iI_add, iI_add, iI_add1]
    refine (ih _).trans ?_
    rw [← es]; rfl
theorem row_col {x m : St} (h2 : I_land x m) {a : Int32} (ha : isC x a) : a / x.1 16 3 = iI (a.toInt / (x.1 16 3).toInt) ∧ ire a (x.1 16 3) = iI (a.toInt % (x.1 16 3).toInt) ∧ (0 ≤ a.toInt / (x.1 16 3).toInt ∧ a.toInt / (x.1 16 3).toInt ≤ 19) ∧ 0 ≤ a.toInt % (x.1 16 3).toInt ∧ a.toInt % (x.1 16 3).toInt ≤ 19 := by
  have hs := size_i h2
  obtain ⟨-, -, hw, hh⟩ := h2
  have r := iI_rng a
  have e1 : a / x.1 16 3 = iI (a.toInt / (x.1 16 3).toInt) := by
    rw [← Int.tdiv_eq_ediv_of_nonneg ha.1, ← iI_div (by omega) (by omega), ← iI_of, ← iI_of]
  have e2 : ire a (x.1 16 3) = iI (a.toInt % (x.1 16 3).toInt) := by
    show a - a / x.1 16 3 * x.1 16 3 = _
    rw [e1, Int.emod_def, Int.mul_comm, ← iI_sub, ← iI_mul, ← iI_of, ← iI_of]
  have e3 : a.toInt / (x.1 16 3).toInt < (x.1 16 4).toInt := (Int.ediv_lt_iff_lt_mul (by omega)).mpr (by rw [Int.mul_comm]; exact ha.2)
  have e4 := Int.ediv_nonneg ha.1 (show 0 ≤ (x.1 16 3).toInt by omega)
  have e5 := Int.emod_nonneg a.toInt (show (x.1 16 3).toInt ≠ 0 by omega)
  have e6 := Int.emod_lt_of_pos a.toInt (show 0 < (x.1 16 3).toInt by omega)
  exact ⟨e1, e2, ⟨e4, by omega⟩, e5, by omega⟩
theorem e_max0 (v : Int32) (S : St) : fJ9_max_7cf53 0 v S = some (iI (max 0 v.toInt), S) := by
  have r := iI_rng v
  have := e_max (a := 0) (b := v.toInt) (by omega) (by omega) S
  rw [← iI_of] at this; exact this
theorem e_al0v (v : Int32) (S : St) : fX12_atLeast0 v S = some (iI (max 0 v.toInt), S) := by
  have r := iI_rng v
  have := e_al0 (z := v.toInt) (by omega) S
  rw [← iI_of] at this; exact this
theorem iI_mx {a b : Int} (ha : -2147483648 ≤ a ∧ a < 2147483648) (hb : -2147483648 ≤ b ∧ b < 2147483648) : (if iI a ≤ iI b then iI b else iI a) = iI (max a b) := by
  by_cases c : a ≤ b
  · rw [if_pos ((iI_le ha hb).mpr c), show max a b = b by omega]
  · rw [if_neg (fun q => c ((iI_le ha hb).mp q)), show max a b = a by omega]
def cX (x : St) (a : Int32) : Int := a.toInt % (x.1 16 3).toInt
def cY (x : St) (a : Int32) : Int := a.toInt / (x.1 16 3).toInt
def tpZ (x : St) (a h : Int32) : Int := max 0 (kn x 0 a 99).toInt + h.toInt
def dX (x : St) (a b : Int32) : Int := cX x b - cX x a
def dY (x : St) (a b : Int32) : Int := cY x b - cY x a
def nN (x : St) (a b : Int32) : Int := max (ab (dX x a b)) (ab (dY x a b))
def lossZ (x : St) (a1 a2 a3 a4 a5 : Int32) : Int := lz x a5 (cX x a1) (cY x a1) (dX x a1 a3) (dY x a1 a3) (nN x a1 a3) (tpZ x a1 a2) (tpZ x a3 a4 - tpZ x a1 a2) (nN x a1 a3 - 1).toNat 1 (1 + dX x a1 a3 * dX x a1 a3 + dY x a1 a3 * dY x a1 a3)
theorem LP_of {x m : St} (h2 : I_land x m) {a1 a2 a3 a4 : Int32} (c1 : isC x a1) (c3 : isC x a3) (d2 : 0 ≤ a2.toInt ∧ a2.toInt ≤ 20) (d4 : 0 ≤ a4.toInt ∧ a4.toInt ≤ 20) : LPz (cX x a1) (cY x a1) (dX x a1 a3) (dY x a1 a3) (nN x a1 a3) (tpZ x a1 a2) (tpZ x a3 a4 - tpZ x a1 a2) := by
  obtain ⟨-, -, p1, p2⟩ := row_col h2 c1
  obtain ⟨-, -, q1, q2⟩ := row_col h2 c3
  have k1 := kn_rg x 0 a1 99 (by decide)
  have k3 := kn_rg x 0 a3 99 (by decide)
  rw [l32_99] at k1 k3
  unfold LPz nN dX dY tpZ ab
  change 0 ≤ cY x a1 ∧ cY x a1 ≤ 19 at p1
  change 0 ≤ cX x a1 ∧ cX x a1 ≤ 19 at p2
  change 0 ≤ cY x a3 ∧ cY x a3 ≤ 19 at q1
  change 0 ≤ cX x a3 ∧ cX x a3 ≤ 19 at q2
  generalize cX x a1 = A at *
  generalize cX x a3 = B at *
  generalize cY x a1 = C at *
  generalize cY x a3 = D at *
  refine ⟨⟨?_, ?_, ?_, ?_⟩, ⟨?_, ?_, ?_, ?_⟩, ⟨?_, ?_, ?_, ?_, ?_⟩, ?_, ?_, ?_, ?_⟩ <;> (repeat' split) <;> omega
theorem e_lossX {x m : St} (h2 : I_land x m) (h3 : I_sheet x m) {a1 a2 a3 a4 : Int32} (a5 : Int32) (c1 : isC x a1) (c3 : isC x a3) (d2 : 0 ≤ a2.toInt ∧ a2.toInt ≤ 20) (d4 : 0 ≤ a4.toInt ∧ a4.toInt ≤ 20) : fX2_lossBetween a1 a2 a3 a4 a5 x = some (iI (lossZ x a1 a2 a3 a4 a5), x) := by
  have L := LP_of h2 c1 c3 d2 d4
  obtain ⟨p1, p2, -, -⟩ := row_col h2 c1
  obtain ⟨q1, q2, -, -⟩ := row_col h2 c3
  have zw : ¬ x.1 16 3 = 0 := by rw [eq_i, l32_0]; have := h2.2.2.1.1; omega
  have hL := L.2.2.1
  have hX := L.1
  have hY := L.2.1
  unfold fX2_lossBetween
  rw [if_pos zw, lt_eq, if_pos zw, lt_eq, if_pos zw, lt_eq, if_pos zw, lt_eq, p1, p2, q1, q2, iI_sub, iI_sub]
  change bnd (fJ9_abs_0f7a4 (iI (dX x a1 a3)) x) _ = _
  change _ = some (iI (lossZ x a1 a2 a3 a4 a5), x)
  rw [e_abs (by omega), bnd_some, e_abs (z := a3.toInt / (x.1 16 3).toInt - a1.toInt / (x.1 16 3).toInt) (by change -2147483648 ≤ dY x a1 a3 ∧ dY x a1 a3 < 2147483648; omega), bnd_some]
  rw [e_max (by unfold ab; split <;> omega) (by change -2147483648 ≤ ab (dY x a1 a3) ∧ ab (dY x a1 a3) < 2147483648; unfold ab; split <;> omega), bnd_some]
  rw [show fX2_known 4 = fX2_known (4 + 2 * 0) from rfl, e_known h3 (by decide) 99 c1.1, bnd_some, e_max0, bnd_some, lt_eq, e_known h3 (by decide) 99 c3.1, bnd_some, e_max0, bnd_some, lt_eq, lt_eq]
  rw [iI_of a2, iI_of a4, iI_add, iI_add, iI_sub, iI_mul, iI_mul, show (1 : Int32) = iI 1 from rfl, iI_add, iI_add, ← iI_of, ← iI_of]
  exact loss_x h2 h3 a5 L (nN x a1 a3 - 1).toNat 1 FU _ (by omega) (by omega) (by have := fu_ge; omega)
