/-! ===== what is got of a sender at a cell; got, map ===== -/
theorem iI_nz {z : Int} (h : 0 < z ∧ z < 2147483648) : ¬ iI z = 0 := by
  rw [show (0 : Int32) = iI 0 from rfl, iI_eq (by omega) (by omega)]; omega
def gotZ (x : St) (i : Nat) (c a5 : Int32) : Int := 100 * (x.1 (19 + i) 2).toInt / lossZ x (clZ x i) (x.1 (19 + i) 3) c 0 a5
theorem gotZ_rg {n : Nat} {x m : St} (h : Inv n x m) {i : Nat} (hs : I_s1 x m i) {c : Int32} (a5 : Int32) (hc : isC x c) : 0 ≤ gotZ x i c a5 ∧ gotZ x i c a5 ≤ 100000000 := by
  obtain ⟨h1, h2, h3, h4, h5, h6, h7, h8, h9, h10, h11⟩ := id h
  have L := lossZ_rg h1 h2 a5 (clZ_c h2 hs) hc hs.2.2.2.2.1 (show 0 ≤ (0 : Int32).toInt ∧ (0 : Int32).toInt ≤ 20 by decide)
  have s := hs.2.2.2.1
  unfold gotZ
  refine ⟨Int.ediv_nonneg (by omega) (by omega), ?_⟩
  exact Int.le_trans (Int.ediv_le_self _ (by omega)) (by omega)
theorem e_gotX {n : Nat} {x m : St} (h : Inv n x m) {a c : Int32} (a5 : Int32) (ha : isS x a) (hc : isC x c) : fX0_gotAt a c a5 x = some (iI (gotZ x (nt a) c a5), x) := by
  obtain ⟨h1, h2, h3, h4, h5, h6, h7, h8, h9, h10, h11⟩ := id h
  obtain ⟨hib, hlt, -, -, hs⟩ := isS_i h5 ha
  have L := lossZ_rg h1 h2 a5 (clZ_c h2 hs) hc hs.2.2.2.2.1 (show 0 ≤ (0 : Int32).toInt ∧ (0 : Int32).toInt ≤ 20 by decide)
  have s := hs.2.2.2.1
  have zn : ¬ iI (lossZ x (clZ x (nt a)) (x.1 (19 + nt a) 3) c 0 a5) = 0 := iI_nz (by omega)
  unfold fX0_gotAt fX2_gotFrom gotZ
  rw [if_pos hib, e_cellX h ha, bnd_some, if_pos hib, e_lossX h2 h3 a5 (clZ_c h2 hs) hc hs.2.2.2.2.1 (by decide), bnd_some, if_pos zn, bnd_some]
  have e : (100 : Int32) * x.1 (19 + nt a) 2 = iI (100 * (x.1 (19 + nt a) 2).toInt) := by rw [← iI_mul, ← iI_of]; rfl
  rw [e, iI_div (by omega) (by omega), Int.tdiv_eq_ediv_of_nonneg (by omega)]
theorem e_gotM {n : Nat} {x m : St} (h : Inv n x m) {a c a5 : Int32} (ha5 : a5 = 0 ∨ a5 = 1) (ha : isS x a) (hc : isC x c) : fX12_gotOf a c a5 m = some (iI (gotZ x (nt a) c a5), m) := by
  obtain ⟨h1, h2, h3, h4, h5, h6, h7, h8, h9, h10, h11⟩ := id h
  obtain ⟨hib, hlt, -, -, hs⟩ := isS_i h5 ha
  have L := lossZ_rg h1 h2 a5 (clZ_c h2 hs) hc hs.2.2.2.2.1 (show 0 ≤ (0 : Int32).toInt ∧ (0 : Int32).toInt ≤ 20 by decide)
  have s := hs.2.2.2.1
  have f2 : m.1 8 (nt a) = x.1 (19 + nt a) 2 := hs.1 2 (by decide)
  have f3 : m.1 9 (nt a) = x.1 (19 + nt a) 3 := hs.1 3 (by decide)
  have zn : ¬ iI (lossZ x (clZ x (nt a)) (x.1 (19 + nt a) 3) c 0 a5) = 0 := iI_nz (by omega)
  unfold fX12_gotOf gotZ
  rw [if_pos hib, e_cellM h ha, bnd_some, if_pos hib, f3, e_lossM h1 h2 h3 ha5 (clZ_c h2 hs) hc hs.2.2.2.2.1 (by decide), bnd_some, if_pos zn, f2]
  have e : (100 : Int32) * x.1 (19 + nt a) 2 = iI (100 * (x.1 (19 + nt a) 2).toInt) := by rw [← iI_mul, ← iI_of]; rfl
  rw [e, iI_div (by omega) (by omega), Int.tdiv_eq_ediv_of_nonneg (by omega)]
def moodZ (x : St) (i : Nat) : Int32 := if x.1 (19 + i) 0 = 4 then 1 else 0
theorem moodZ_01 (x : St) (i : Nat) : moodZ x i = 0 ∨ moodZ x i = 1 := by
  unfold moodZ; by_cases c : x.1 (19 + i) 0 = 4
  · rw [if_pos c]; exact Or.inr rfl
  · rw [if_neg c]; exact Or.inl rfl
theorem e_moodX (x : St) (i : Nat) : fX5_ownMood (19 + i) x = some (moodZ x i, x) := by
  unfold fX5_ownMood moodZ; by_cases c : x.1 (19 + i) 0 = 4
  · rw [if_pos c, if_pos c]
  · rw [if_neg c, if_neg c]
theorem e_ownM {n : Nat} {x m : St} (h : Inv n x m) {a c : Int32} (ha : isS x a) (hc : isC x c) : fX12_own a c m = some (iI (gotZ x (nt a) c (moodZ x (nt a))), m) := by
  obtain ⟨h1, h2, h3, h4, h5, h6, h7, h8, h9, h10, h11⟩ := id h
  obtain ⟨hib, hlt, -, -, hs⟩ := isS_i h5 ha
  have f0 : m.1 6 (nt a) = x.1 (19 + nt a) 0 := hs.1 0 (by decide)
  unfold fX12_own
  rw [if_pos hib, lt_eq, f0]
  change bnd (fX12_gotOf a c (moodZ x (nt a)) m) _ = _
  rw [e_gotM h (moodZ_01 x (nt a)) ha hc, bnd_some]
theorem pr_9 (n : Nat) (x m : St) (a1 a2 : Int32) (_ : n < 512) (h : Inv n x m) : ∃ (v : Int32) (x' m' : St), fX11_got a1 a2 x = some (v, x') ∧ fX12_got a1 a2 m = some (v, m') ∧ Inv (n + 1) x' m' := by
  obtain ⟨h1, h2, h3, h4, h5, h6, h7, h8, h9, h10, h11⟩ := id h
  have hu := Inv_up n x m h
  unfold fX11_got fX12_got
  rw [e_has, e_isSender h5, bnd_some, bnd_some, bi_ite, bi_ite, e_isCellX h2, e_isCellM h2, bnd_some, bnd_some, bi_ite, bi_ite]
  by_cases c1 : isS x a1
  · rw [if_pos c1, if_pos c1]
    by_cases c2 : isC x a2
    · obtain ⟨hib, -⟩ := isS_i h5 c1
      rw [if_pos c2, if_pos c2, if_pos hib, e_moodX, bnd_some, e_gotX h _ c1 c2, e_ownM h c1 c2, bnd_some, bnd_some]
      exact ⟨_, _, _, rfl, rfl, hu⟩
    · rw [if_neg c2, if_neg c2]; exact ⟨_, _, _, rfl, rfl, hu⟩
  · rw [if_neg c1, if_neg c1]; exact ⟨_, _, _, rfl, rfl, hu⟩
