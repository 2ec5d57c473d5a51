/-! ===== where a sender stands, its slot; about ===== -/
def jI (z : Int) : Int64 := Int64.ofInt z
theorem jI_of (x : Int64) : x = jI x.toInt := (Int64.ofInt_toInt x).symm
theorem jI_toInt {z : Int} (h1 : -9223372036854775808 ≤ z) (h2 : z < 9223372036854775808) : (jI z).toInt = z := Int64.toInt_ofInt_of_le h1 h2
theorem jI_add (a b : Int) : jI a + jI b = jI (a + b) := (Int64.ofInt_add a b).symm
theorem jI_sub (a b : Int) : jI a - jI b = jI (a - b) := (Int64.ofInt_sub a b).symm
theorem jI_mul (a b : Int) : jI a * jI b = jI (a * b) := (Int64.ofInt_mul a b).symm
theorem jI_div {a b : Int} (ha : -9223372036854775808 < a ∧ a < 9223372036854775808) (hb : -9223372036854775808 ≤ b ∧ b < 9223372036854775808) : jI a / jI b = jI (a.tdiv b) := by
  have h : (jI a / jI b).toInt = a.tdiv b := by
    rw [Int64.toInt_div_of_ne_left, jI_toInt (by omega) ha.2, jI_toInt hb.1 hb.2]
    intro h
    have := congrArg Int64.toInt h
    rw [jI_toInt (by omega) ha.2] at this
    rw [this] at ha
    exact absurd ha.1 (by decide)
  rw [jI_of (jI a / jI b), h]
theorem i64 (a : Int32) : a.toInt64 = jI a.toInt := by rw [jI_of a.toInt64, t64]
theorem jI_32 {z : Int} (h1 : -2147483648 ≤ z) (h2 : z < 2147483648) : (jI z).toInt32 = iI z := by
  rw [iI_of (jI z).toInt32, Int64.toInt_toInt32, jI_toInt (by omega) (by omega), Int.bmod_eq_of_le (by omega) (by omega)]
theorem e_isCell64 {x m : St} (h : I_land x m) (c : Int64) : fX2_isCell c x = some (bi (0 ≤ c.toInt ∧ c.toInt < (x.1 16 3).toInt * (x.1 16 4).toInt), x) := by
  have hs := size_i h
  unfold fX2_isCell fX2_size bi
  simp only [bnd_some, Int64.lt_iff_toInt_lt, Int64.le_iff_toInt_le, t64, hs.1]
  by_cases h1 : c.toInt < 0
  · rw [if_pos (by simpa using h1), if_neg (by omega)]
  · rw [if_neg (by simpa using h1)]
    by_cases h2 : (x.1 16 3).toInt * (x.1 16 4).toInt ≤ c.toInt
    · rw [if_pos h2, if_neg (by omega)]
    · rw [if_neg h2, if_pos (by omega)]
def plZ (x : St) (i : Nat) : Int32 := kn x (nt (x.1 (19 + i) 9)) (x.1 17 7) (x.1 16 3 * x.1 16 4 - 1)
def clZ (x : St) (i : Nat) : Int32 := if x.1 (19 + i) 0 = 1 ∧ ¬ x.1 (19 + i) 9 = -1 ∧ ¬ plZ x i = -1 then plZ x i else x.1 (19 + i) 1
theorem size_m1 {x m : St} (h : I_land x m) : (x.1 16 3 * x.1 16 4 - 1).toInt = (x.1 16 3).toInt * (x.1 16 4).toInt - 1 := by
  have hs := size_i h
  rw [subI] <;> rw [hs.1, l32_1] <;> omega
theorem clZ_c {x m : St} (h2 : I_land x m) {i : Nat} (hs : I_s1 x m i) : isC x (clZ x i) := by
  unfold clZ
  have hz := size_i h2
  by_cases c : x.1 (19 + i) 0 = 1 ∧ ¬ x.1 (19 + i) 9 = -1 ∧ ¬ plZ x i = -1
  · rw [if_pos c]
    have k := kn_rg x (nt (x.1 (19 + i) 9)) (x.1 17 7) (x.1 16 3 * x.1 16 4 - 1) (by rw [size_m1 h2]; omega)
    have c2 := c.2.2
    rw [eq_i, l32_m1] at c2
    rw [size_m1 h2] at k
    change -1 ≤ (plZ x i).toInt ∧ (plZ x i).toInt ≤ _ at k
    exact ⟨by omega, by omega⟩
  · rw [if_neg c]; exact hs.2.2.1
theorem e_cellX {n : Nat} {x m : St} (h : Inv n x m) {a : Int32} (ha : isS x a) : fX0_cellOf a x = some (clZ x (nt a), x) := by
  obtain ⟨h1, h2, h3, h4, h5, h6, h7, h8, h9, h10, h11⟩ := id h
  obtain ⟨hib, hlt, hn, -, hs⟩ := isS_i h5 ha
  unfold fX0_cellOf clZ
  rw [if_pos hib]
  by_cases c1 : x.1 (19 + nt a) 0 = 1
  · rw [if_pos c1]
    by_cases c2 : x.1 (19 + nt a) 9 = -1
    · rw [if_pos c2, if_neg (fun q => q.2.1 c2)]
    · rw [if_neg c2]
      have r := hs.2.2.2.2.2.2.2.2.2.2.1
      have c2' := c2
      rw [eq_i, l32_m1] at c2'
      have sc : 0 ≤ (x.1 (19 + nt a) 9).toInt ∧ (x.1 (19 + nt a) 9).toInt ≤ 5 := by omega
      obtain ⟨ib6, lt6, e6⟩ := sh_i sc
      rw [if_pos ib6]
      obtain ⟨g1, g2, g3, g4, g5, g6⟩ := h3 _ lt6
      have ht := h4.2.1
      have sz := size_m1 h2
      have szr := size_i h2
      unfold plZ kn
      by_cases d1 : x.1 (4 + 2 * nt (x.1 (19 + nt a) 9)) 1 = 0
      · rw [e_holds _ _ d1 g3, bnd_some, bi_ite, l32_1]
        by_cases d2 : (x.1 17 7).toInt < (x.1 (4 + 2 * nt (x.1 (19 + nt a) 9)) 3).toInt
        · rw [if_pos (by omega), if_pos ib6, if_pos (ib_of ht (by omega)), lt_eq, e_isCell64 h2, bnd_some, bi_ite, sz]
          generalize x.2 (4 + 2 * nt (x.1 (19 + nt a) 9) + 1) (nt (x.1 17 7)) = v
          by_cases d3 : 0 ≤ v.toInt ∧ v.toInt < (x.1 16 3).toInt * (x.1 16 4).toInt
          · have e : ¬ v.toInt32 = -1 := by rw [eq_i, Int64.toInt_toInt32, Int.bmod_eq_of_le (by omega) (by omega), l32_m1]; omega
            rw [if_pos d3, if_pos (c := x.1 (4 + 2 * nt (x.1 (19 + nt a) 9)) 1 = 0 ∧ _) ⟨d1, d2, d3.1, by omega⟩, if_pos ⟨c1, c2, e⟩]
          · rw [if_neg d3, if_neg (c := x.1 (4 + 2 * nt (x.1 (19 + nt a) 9)) 1 = 0 ∧ _) (fun q => d3 ⟨q.2.2.1, by omega⟩), if_neg (fun q => q.2.2 rfl)]
        · rw [if_neg (by omega), if_neg (c := x.1 (4 + 2 * nt (x.1 (19 + nt a) 9)) 1 = 0 ∧ _) (fun q => d2 q.2.1), if_neg (fun q => q.2.2 rfl)]
      · have e : fX6_holds (4 + 2 * nt (x.1 (19 + nt a) 9)) (x.1 17 7) 1 x = some (0, x) := by unfold fX6_holds; rw [if_neg d1]
        rw [e, bnd_some, if_pos rfl, if_neg (c := x.1 (4 + 2 * nt (x.1 (19 + nt a) 9)) 1 = 0 ∧ _) (fun q => d1 q.1), if_neg (fun q => q.2.2 rfl)]
  · rw [if_neg c1, if_neg (fun q => c1 q.1)]
theorem e_cellM {n : Nat} {x m : St} (h : Inv n x m) {a : Int32} (ha : isS x a) : fX12_cellNow a m = some (clZ x (nt a), m) := by
  obtain ⟨h1, h2, h3, h4, h5, h6, h7, h8, h9, h10, h11⟩ := id h
  obtain ⟨hib, hlt, hn, -, hs⟩ := isS_i h5 ha
  have f0 := hs.1 0 (by decide)
  have f1 := hs.1 1 (by decide)
  have f9 := hs.1 9 (by decide)
  unfold fX12_cellNow clZ
  simp only [if_pos hib, jn_eq]
  rw [show m.1 6 (nt a) = x.1 (19 + nt a) 0 from f0, show m.1 7 (nt a) = x.1 (19 + nt a) 1 from f1, show m.1 15 (nt a) = x.1 (19 + nt a) 9 from f9]
  by_cases c1 : x.1 (19 + nt a) 0 = 1
  · rw [if_pos c1]
    by_cases c2 : x.1 (19 + nt a) 9 = -1
    · rw [if_pos c2, if_neg (fun q => q.2.1 c2)]
    · rw [if_neg c2]
      have r := hs.2.2.2.2.2.2.2.2.2.2.1
      have c2' := c2
      rw [eq_i, l32_m1] at c2'
      rw [h4.1, h2.1, h2.2.1, e_told h3 _ (show 0 ≤ (x.1 (19 + nt a) 9).toInt ∧ (x.1 (19 + nt a) 9).toInt ≤ 5 by omega) h4.2.1, bnd_some]
      change (if plZ x (nt a) = -1 then _ else some (plZ x (nt a), m)) = _
      by_cases c3 : plZ x (nt a) = -1
      · rw [if_pos c3, if_neg (fun q => q.2.2 c3), show m.1 7 (nt a) = x.1 (19 + nt a) 1 from f1]
      · rw [if_neg c3, if_pos ⟨c1, c2, c3⟩]
  · rw [if_neg c1, if_neg (fun q => c1 q.1)]
