/-! ===== the loss between two cells ===== -/
theorem mulB {a b A B : Int} (ha : 0 ≤ a) (hA : a ≤ A) (h1 : -B ≤ b) (h2 : b ≤ B) (hB : 0 ≤ B) : -(A * B) ≤ a * b ∧ a * b ≤ A * B := by
  have p1 : a * b ≤ a * B := Int.mul_le_mul_of_nonneg_left h2 ha
  have p2 : a * B ≤ A * B := Int.mul_le_mul_of_nonneg_right hA hB
  have p3 : a * (-B) ≤ a * b := Int.mul_le_mul_of_nonneg_left h1 ha
  rw [Int.mul_neg] at p3
  omega
theorem xor_nn {a b : Int32} (hb : 0 ≤ b.toInt) : 0 ≤ a ^^^ b ↔ 0 ≤ a.toInt := by
  rw [Int32.le_iff_toInt_le, l32_0]
  have e : (a ^^^ b).toInt = (a.toBitVec ^^^ b.toBitVec).toInt := rfl
  have m1 := BitVec.msb_eq_toInt (x := a.toBitVec ^^^ b.toBitVec)
  have m2 := BitVec.msb_eq_toInt (x := a.toBitVec)
  have m3 := BitVec.msb_eq_toInt (x := b.toBitVec)
  rw [BitVec.msb_xor] at m1
  have e2 : a.toInt = a.toBitVec.toInt := rfl
  have e3 : b.toInt = b.toBitVec.toInt := rfl
  rw [e, e2]
  rw [e3] at hb
  have n3 : b.toBitVec.msb = false := by rw [m3]; exact decide_eq_false (by omega)
  rw [n3, m2, Bool.xor_false] at m1
  have := decide_eq_decide.mp m1
  omega
theorem fl_neg {a b : Int} (hb : 0 < b) : -((b - 1 - a) / b) = a / b := by
  have e : b * (a / b) + a % b = a := Int.mul_ediv_add_emod a b
  have r0 := Int.emod_nonneg a (show b ≠ 0 by omega)
  have r1 := Int.emod_lt_of_pos a hb
  have u := (Int.ediv_emod_unique (a := b - 1 - a) (q := -(a / b)) (r := b - 1 - a % b) hb).mpr ⟨by rw [Int.mul_neg]; omega, by omega, by omega⟩
  rw [u.1]; omega
theorem e_floorBy {a b : Int} (ha : -100000 ≤ a ∧ a ≤ 100000) (hb : 0 < b ∧ b ≤ 1000) (S : St) : fX12_floorBy (iI a) (iI b) S = some (iI (a / b), S) := by
  unfold fX12_floorBy
  have z : ¬ iI b = 0 := by rw [show (0 : Int32) = iI 0 from rfl, iI_eq (by omega) (by omega)]; omega
  simp only [if_pos z]
  have t : (0 ≤ iI a) ↔ 0 ≤ a := by rw [show (0 : Int32) = iI 0 from rfl, iI_le (by omega) (by omega)]
  by_cases h : 0 ≤ a
  · rw [if_pos (t.mpr h), iI_div (by omega) (by omega), Int.tdiv_eq_ediv_of_nonneg h]
  · rw [if_neg (fun q => h (t.mp q)), show (1 : Int32) = iI 1 from rfl, iI_sub, iI_sub, iI_div (by omega) (by omega), iI_neg, Int.tdiv_eq_ediv_of_nonneg (by omega), fl_neg hb.1]
theorem e_floorDiv {a b : Int} (ha : -100000 ≤ a ∧ a ≤ 100000) (hb : 0 < b ∧ b ≤ 1000) (S : St) : fJ9_floorDiv_7cf53 (iI a) (iI b) S = some (iI (a / b), S) := by
  unfold fJ9_floorDiv_7cf53
  have z : ¬ iI b = 0 := by rw [show (0 : Int32) = iI 0 from rfl, iI_eq (by omega) (by omega)]; omega
  have t : (0 ≤ iI a ^^^ iI b) ↔ 0 ≤ a := by rw [xor_nn (by rw [iI_toInt (by omega) (by omega)]; omega), iI_toInt (by omega) (by omega)]
  rw [if_pos z, lt_eq, iI_div (by omega) (by omega)]
  by_cases h : 0 ≤ a
  · rw [if_pos (t.mpr h), Int.tdiv_eq_ediv_of_nonneg h]
  · rw [if_neg (fun q => h (t.mp q)), iI_mul, show (1 : Int32) = iI 1 from rfl, iI_sub]
    have e1 : a.tdiv b = -((-a) / b) := by rw [← Int.tdiv_eq_ediv_of_nonneg (by omega), Int.neg_tdiv, Int.neg_neg]
    have e : b * ((-a) / b) + (-a) % b = -a := Int.mul_ediv_add_emod (-a) b
    have r0 := Int.emod_nonneg (-a) (show b ≠ 0 by omega)
    have r1 := Int.emod_lt_of_pos (-a) hb.1
    have cm : -((-a) / b) * b = -(b * ((-a) / b)) := by rw [Int.neg_mul, Int.mul_comm]
    rw [e1, cm]
    by_cases s : (-a) % b = 0
    · have u := (Int.ediv_emod_unique (a := a) (q := -((-a) / b)) (r := 0) hb.1).mpr ⟨by rw [Int.mul_neg]; omega, by omega, hb.1⟩
      rw [if_pos (by congr 1; omega), u.1]
    · have u := (Int.ediv_emod_unique (a := a) (q := -((-a) / b) - 1) (r := b - (-a) % b) hb.1).mpr ⟨by rw [Int.mul_sub, Int.mul_neg, Int.mul_one]; omega, by omega, by omega⟩
      rw [if_neg (fun q => by rw [iI_eq (by omega) (by omega)] at q; omega), u.1]
def nz (a n : Int) : Int := (2 * a + n) / (2 * n)
theorem e_nearest {a n : Int} (ha : -10000 ≤ a ∧ a ≤ 10000) (hn : 0 < n ∧ n ≤ 100) (S : St) : fX2_nearest (iI a) (iI n) S = some (iI (nz a n), S) := by
  unfold fX2_nearest
  rw [show (2 : Int32) = iI 2 from rfl, iI_mul, iI_mul, iI_add, e_floorDiv (by omega) (by omega), bnd_some]; rfl
theorem nz_rg {c k d n : Int} (hk : 0 ≤ k ∧ k ≤ n) (hn : 0 < n) (h0 : 0 ≤ c) (h1 : 0 ≤ c + d) (h2 : c ≤ 19) (h3 : c + d ≤ 19) : 0 ≤ c + nz (k * d) n ∧ c + nz (k * d) n ≤ 19 := by
  unfold nz
  by_cases hd : 0 ≤ d
  · have p1 : k * d ≤ n * d := Int.mul_le_mul_of_nonneg_right hk.2 hd
    have p0 : 0 ≤ k * d := Int.mul_nonneg hk.1 hd
    have q0 : 0 ≤ (2 * (k * d) + n) / (2 * n) := Int.ediv_nonneg (by omega) (by omega)
    have q1 : (2 * (k * d) + n) / (2 * n) < d + 1 := (Int.ediv_lt_iff_lt_mul (by omega)).mpr (by
      have : (d + 1) * (2 * n) = 2 * (n * d) + 2 * n := by rw [Int.add_mul, Int.one_mul, Int.mul_comm d, Int.mul_assoc]
      omega)
    omega
  · have p1 : k * -d ≤ n * -d := Int.mul_le_mul_of_nonneg_right hk.2 (by omega)
    have p0 : 0 ≤ k * -d := Int.mul_nonneg hk.1 (by omega)
    rw [Int.mul_neg] at p0 p1
    rw [Int.mul_neg] at p1
    have q0 : d ≤ (2 * (k * d) + n) / (2 * n) := (Int.le_ediv_iff_mul_le (by omega)).mpr (by
      have : d * (2 * n) = 2 * (n * d) := by rw [Int.mul_comm d, Int.mul_assoc]
      omega)
    have q1 : (2 * (k * d) + n) / (2 * n) < 1 := (Int.ediv_lt_iff_lt_mul (by omega)).mpr (by omega)
    omega
def celZ (w x0 y0 dx dy n k : Int) : Int := (y0 + nz (k * dy) n) * w + x0 + nz (k * dx) n
def fil (a5 v d : Int32) : Int32 := if v = -1 then (if a5 = 0 then 0 else d) else v
theorem fil_m {a5 v d : Int32} (h : a5 = 0 ∨ a5 = 1) : (if v = -1 then (if a5 = 1 then d else 0) else v) = fil a5 v d := by
  unfold fil
  rcases h with h | h <;> subst h
  · rw [if_neg (show ¬ (0 : Int32) = 1 by decide), if_pos rfl]
  · rw [if_neg (show ¬ (1 : Int32) = 0 by decide), if_pos rfl]
theorem fil_rg {a5 v d : Int32} (h : -1 ≤ v.toInt ∧ v.toInt ≤ d.toInt) (hd : 0 ≤ d.toInt) : 0 ≤ (fil a5 v d).toInt ∧ (fil a5 v d).toInt ≤ d.toInt := by
  unfold fil
  by_cases e : v = -1
  · rw [if_pos e]
    by_cases e2 : a5 = 0
    · rw [if_pos e2, l32_0]; omega
    · rw [if_neg e2]; omega
  · rw [if_neg e]
    rw [eq_i, l32_m1] at e
    omega
def LPz (x0 y0 dx dy n h1 dh : Int) : Prop := (0 ≤ x0 ∧ x0 ≤ 19 ∧ 0 ≤ x0 + dx ∧ x0 + dx ≤ 19) ∧ (0 ≤ y0 ∧ y0 ≤ 19 ∧ 0 ≤ y0 + dy ∧ y0 + dy ≤ 19) ∧ (-n ≤ dx ∧ dx ≤ n ∧ -n ≤ dy ∧ dy ≤ n ∧ n ≤ 19) ∧ 0 ≤ h1 ∧ h1 ≤ 119 ∧ 0 ≤ h1 + dh ∧ h1 + dh ≤ 119
def hvZ (x : St) (a5 : Int32) (c : Int) : Int := (fil a5 (kn x 0 (iI c) 99) 99).toInt
def wdZ (x : St) (a5 : Int32) (c : Int) : Int := (fil a5 (kn x 1 (iI c) 9) 9).toInt
theorem hvZ_rg (x : St) (a5 : Int32) (c : Int) : 0 ≤ hvZ x a5 c ∧ hvZ x a5 c ≤ 99 := by
  have := fil_rg (a5 := a5) (kn_rg x 0 (iI c) 99 (by decide)) (by decide)
  rw [l32_99] at this; exact this
theorem wdZ_rg (x : St) (a5 : Int32) (c : Int) : 0 ≤ wdZ x a5 c ∧ wdZ x a5 c ≤ 9 := by
  have := fil_rg (a5 := a5) (kn_rg x 1 (iI c) 9 (by decide)) (by decide)
  rw [l32_9] at this; exact this
def upZ (x : St) (a5 : Int32) (c n h1 dh k : Int) : Int := n * (hvZ x a5 c - h1) - k * dh
def stZ (x : St) (a5 : Int32) (x0 y0 dx dy n h1 dh k : Int) : Int := (x.1 2 0).toInt * wdZ x a5 (celZ (x.1 16 3).toInt x0 y0 dx dy n k) + (x.1 2 1).toInt * max 0 ((upZ x a5 (celZ (x.1 16 3).toInt x0 y0 dx dy n k) n h1 dh k).tdiv n)
def lz (x : St) (a5 : Int32) (x0 y0 dx dy n h1 dh : Int) : Nat → Int → Int → Int
  | 0, _, acc => acc
  | d + 1, k, acc => lz x a5 x0 y0 dx dy n h1 dh d (k + 1) (acc + stZ x a5 x0 y0 dx dy n h1 dh k)
theorem cel_rg {x m : St} (h2 : I_land x m) {x0 y0 dx dy n h1 dh k : Int} (L : LPz x0 y0 dx dy n h1 dh) (hk : 0 ≤ k ∧ k ≤ n) (hn : 0 < n) : 0 ≤ celZ (x.1 16 3).toInt x0 y0 dx dy n k ∧ celZ (x.1 16 3).toInt x0 y0 dx dy n k ≤ 399 := by
  obtain ⟨⟨a1, a2, a3, a4⟩, ⟨b1, b2, b3, b4⟩, -⟩ := L
  obtain ⟨-, -, hw, -⟩ := h2
  have p := nz_rg (c := x0) (d := dx) hk hn a1 a3 a2 a4
  have q := nz_rg (c := y0) (d := dy) hk hn b1 b3 b2 b4
  unfold celZ
  have r := mulB (a := y0 + nz (k * dy) n) (b := (x.1 16 3).toInt) (A := 19) (B := 20) q.1 q.2 (by omega) hw.2 (by decide)
  have r0 : 0 ≤ (y0 + nz (k * dy) n) * (x.1 16 3).toInt := Int.mul_nonneg q.1 (by omega)
  omega
theorem up_rg {x : St} {a5 : Int32} {c x0 y0 dx dy n h1 dh k : Int} (L : LPz x0 y0 dx dy n h1 dh) (hk : 0 ≤ k ∧ k ≤ n) (hn : 0 < n) : -10000 ≤ upZ x a5 c n h1 dh k ∧ upZ x a5 c n h1 dh k ≤ n * 218 ∧ upZ x a5 c n h1 dh k ≤ 10000 := by
  obtain ⟨-, -, ⟨-, -, -, -, n19⟩, e1, e2, e3, e4⟩ := L
  have g := hvZ_rg x a5 c
  unfold upZ
  have p := mulB (a := n) (b := hvZ x a5 c - h1) (A := 19) (B := 119) (by omega) n19 (by omega) (by omega) (by decide)
  have q := mulB (a := k) (b := dh) (A := 19) (B := 119) (by omega) (by omega) (by omega) (by omega) (by decide)
  have p2 : n * (hvZ x a5 c - h1) ≤ n * 99 := Int.mul_le_mul_of_nonneg_left (by omega) (by omega)
  have q2 := mulB (a := k) (b := dh) (A := n) (B := 119) (by omega) (by omega) (by omega) (by omega) (by decide)
  omega
theorem nt0 : nt 0 = 0 := rfl
theorem nt1 : nt 1 = 1 := rfl
theorem td_le0 {a n : Int} (h : a ≤ 0) (hn : 0 < n) : max 0 (a.tdiv n) = 0 := by
  have e : a.tdiv n = -((-a).tdiv n) := by rw [Int.neg_tdiv, Int.neg_neg]
  have : 0 ≤ (-a).tdiv n := Int.tdiv_nonneg (by omega) (by omega)
  omega
theorem td_ge0 {a n : Int} (h : 0 ≤ a) (hn : 0 < n) : max 0 (a.tdiv n) = a.tdiv n := by
  have : 0 ≤ a.tdiv n := Int.tdiv_nonneg (by omega) (by omega)
  omega
theorem loss_x {x m : St} (h2 : I_land x m) (h3 : I_sheet x m) (a5 : Int32) {x0 y0 dx dy n h1 dh : Int} (L : LPz x0 y0 dx dy n h1 dh) : ∀ (d k f : Nat) (acc : Int), ((k + d : Int) = n ∨ (d = 0 ∧ n ≤ k)) → (1 ≤ k ∧ k ≤ 100) → d < f → fX2_lossBetween_L111 a5 (iI x0) (iI y0) (iI dx) (iI dy) (iI n) (iI h1) (iI dh) f (iI acc) (iI (k : Int)) x = some (iI (lz x a5 x0 y0 dx dy n h1 dh d k acc), x)
  | 0, k, f + 1, acc, hk, hk1, _ => by
    show fX2_lossBetween_L111_st a5 (iI x0) (iI y0) (iI dx) (iI dy) (iI n) (iI h1) (iI dh) (fX2_lossBetween_L111 a5 (iI x0) (iI y0) (iI dx) (iI dy) (iI n) (iI h1) (iI dh) f) (iI acc) (iI (k : Int)) x = _
    unfold fX2_lossBetween_L111_st
    have hL := L.2.2.1
    have c1 : iI n ≤ iI (k : Int) := by rw [iI_le (by omega) (by omega)]; omega
    rw [if_pos c1]; rfl
  | d + 1, k, f + 1, acc, hk, hk1, hf => by
    show fX2_lossBetween_L111_st a5 (iI x0) (iI y0) (iI dx) (iI dy) (iI n) (iI h1) (iI dh) (fX2_lossBetween_L111 a5 (iI x0) (iI y0) (iI dx) (iI dy) (iI n) (iI h1) (iI dh) f) (iI acc) (iI (k : Int)) x = _
    unfold fX2_lossBetween_L111_st
    have hL := L.2.2.1
    have c1 : ¬ iI n ≤ iI (k : Int) := by rw [iI_le (by omega) (by omega)]; omega
    have cr := cel_rg h2 L (k := k) (by omega) (by omega)
    have ur := up_rg (x := x) (a5 := a5) (c := celZ (x.1 16 3).toInt x0 y0 dx dy n k) L (k := k) (by omega) (by omega)
    have kd := mulB (a := (k : Int)) (b := dx) (A := 19) (B := 19) (by omega) (by omega) (by omega) (by omega) (by decide)
    have ke := mulB (a := (k : Int)) (b := dy) (A := 19) (B := 19) (by omega) (by omega) (by omega) (by omega) (by decide)
    have ce : (iI y0 + iI (nz (k * dy) n)) * x.1 16 3 + iI x0 + iI (nz (k * dx) n) = iI (celZ (x.1 16 3).toInt x0 y0 dx dy n k) := by
      rw [iI_of (x.1 16 3), iI_add, iI_mul, iI_add, iI_add, ← iI_of]; rfl
    have cn : 0 ≤ (iI (celZ (x.1 16 3).toInt x0 y0 dx dy n k)).toInt := by rw [iI_toInt (by omega) (by omega)]; exact cr.1
    have zn : ¬ iI n = 0 := by rw [show (0 : Int32) = iI 0 from rfl, iI_eq (by omega) (by omega)]; omega
    have ih := fun a => loss_x h2 h3 a5 L d (k + 1) f a (by omega) (by omega) (by omega)
    rw [if_neg c1, iI_mul, iI_mul, e_nearest (by omega) (by omega), bnd_some, e_nearest (by omega) (by omega), bnd_some, lt_eq, ce]
    rw [show (6 : Nat) = 4 + 2 * 1 from rfl, e_known h3 (by decide) 9 cn, bnd_some, show fX2_known 4 = fX2_known (4 + 2 * 0) from rfl, e_known h3 (by decide) 99 cn, bnd_some]
    generalize hc : celZ (x.1 16 3).toInt x0 y0 dx dy n k = c at *
    have ew : (if kn x 1 (iI c) 9 = -1 then (if a5 = 0 then 0 else 9) else kn x 1 (iI c) 9) = iI (wdZ x a5 c) := iI_of _
    have eh : (if kn x 0 (iI c) 99 = -1 then (if a5 = 0 then 0 else 99) else kn x 0 (iI c) 99) = iI (hvZ x a5 c) := iI_of _
    rw [lt_eq, ew, lt_eq, eh, lt_eq, lt_eq, jn_eq, nt0, nt1, iI_sub, iI_mul, iI_mul, iI_sub]
    rw [show n * (hvZ x a5 c - h1) - k * dh = upZ x a5 c n h1 dh k from rfl, iI_of (x.1 2 0), iI_of (x.1 2 1), iI_mul, iI_add, iI_add1]
    have le0 : (iI (upZ x a5 c n h1 dh k) ≤ 0) ↔ upZ x a5 c n h1 dh k ≤ 0 := by rw [show (0 : Int32) = iI 0 from rfl, iI_le (by omega) (by omega)]
    show _ = some (iI (lz x a5 x0 y0 dx dy n h1 dh d (k + 1) (acc + stZ x a5 x0 y0 dx dy n h1 dh k)), x)
    have es : stZ x a5 x0 y0 dx dy n h1 dh k = (x.1 2 0).toInt * wdZ x a5 c + (x.1 2 1).toInt * max 0 ((upZ x a5 c n h1 dh k).tdiv n) := by unfold stZ; rw [hc]
    by_cases u0 : upZ x a5 c n h1 dh k ≤ 0
    · rw [if_pos (le0.mpr u0)]
      refine (ih _).trans ?_
      rw [es, td_le0 u0 (by omega), Int.mul_zero, Int.add_zero]; rfl
    · rw [if_neg (fun q => u0 (le0.mp q)), if_pos zn, lt_eq, iI_div (by omega) (by omega), iI_mul, iI_add]
      refine (ih _).trans ?_
      rw [es, td_ge0 (by omega) (by omega), Int.add_assoc]; rfl
