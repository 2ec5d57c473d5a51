/-! ===== what a sheet tells of a cell; ground ===== -/
def kn (x : St) (s : Nat) (c g : Int32) : Int32 := if x.1 (4 + 2 * s) 1 = 0 ∧ c.toInt < (x.1 (4 + 2 * s) 3).toInt ∧ 0 ≤ (x.2 (4 + 2 * s + 1) (nt c)).toInt ∧ (x.2 (4 + 2 * s + 1) (nt c)).toInt ≤ g.toInt then (x.2 (4 + 2 * s + 1) (nt c)).toInt32 else -1
theorem kn_rg (x : St) (s : Nat) (c g : Int32) (hg : 0 ≤ g.toInt) : -1 ≤ (kn x s c g).toInt ∧ (kn x s c g).toInt ≤ g.toInt := by
  unfold kn
  have := iI_rng g
  by_cases h : x.1 (4 + 2 * s) 1 = 0 ∧ c.toInt < (x.1 (4 + 2 * s) 3).toInt ∧ 0 ≤ (x.2 (4 + 2 * s + 1) (nt c)).toInt ∧ (x.2 (4 + 2 * s + 1) (nt c)).toInt ≤ g.toInt
  · rw [if_pos h, Int64.toInt_toInt32, Int.bmod_eq_of_le (by omega) (by omega)]; omega
  · rw [if_neg h, l32_m1]; omega
theorem e_known {x m : St} (h3 : I_sheet x m) {s : Nat} (hs : s < 6) {c : Int32} (g : Int32) (hc : 0 ≤ c.toInt) : fX2_known (4 + 2 * s) c g x = some (kn x s c g, x) := by
  obtain ⟨g1, g2, g3, g4, g5, g6⟩ := h3 s hs
  unfold fX2_known kn
  simp only [lt_eq, Int32.lt_iff_toInt_lt, Int64.lt_iff_toInt_lt, t64, l32_0, l64_0]
  by_cases d1 : x.1 (4 + 2 * s) 1 = 0
  · rw [if_pos d1, if_neg (by omega)]
    by_cases d2 : c.toInt < (x.1 (4 + 2 * s) 3).toInt
    · rw [if_pos d2, if_pos (ib_of hc (by omega))]
      by_cases d3 : (x.2 (4 + 2 * s + 1) (nt c)).toInt < 0
      · rw [if_pos d3, if_neg (by omega)]
      · rw [if_neg d3]
        by_cases d4 : g.toInt < (x.2 (4 + 2 * s + 1) (nt c)).toInt
        · rw [if_pos d4, if_neg (by omega)]
        · rw [if_neg d4, if_pos ⟨d1, d2, by omega, by omega⟩]
    · rw [if_neg d2, if_neg (fun q => d2 q.2.1)]
  · rw [if_neg d1, if_neg (fun q => d1 q.1)]
theorem e_told {x m : St} (h3 : I_sheet x m) {a c : Int32} (g : Int32) (ha : 0 ≤ a.toInt ∧ a.toInt ≤ 5) (hc : 0 ≤ c.toInt) : fX12_told a c g m = some (kn x (nt a) c g, m) := by
  obtain ⟨hib, hlt, hn⟩ := sh_i ha
  obtain ⟨g1, g2, g3, g4, g5, g6⟩ := h3 (nt a) hlt
  unfold fX12_told kn
  simp only [if_pos hib]
  by_cases d1 : x.1 (4 + 2 * nt a) 1 = 0
  · rw [if_pos d1] at g5
    have d2 : ¬ m.1 1 (nt a) < 0 := by rw [g5, Int32.lt_iff_toInt_lt, l32_0]; have := g2.1; omega
    rw [if_neg d2, g4]
    by_cases d3 : x.1 (4 + 2 * nt a) 3 ≤ c
    · rw [if_pos d3]
      rw [Int32.le_iff_toInt_le] at d3
      rw [if_neg (by omega)]
    · rw [if_neg d3]
      rw [Int32.le_iff_toInt_le] at d3
      have f := m400i ha (b := c) ⟨hc, by omega⟩
      have f2 := nt_i hc
      simp only [if_pos f.1, f.2, g6 (nt c) (by omega) (by omega) d1, e_in, bnd_some, bi_ite, t64, l64_0]
      by_cases d4 : 0 ≤ (x.2 (4 + 2 * nt a + 1) (nt c)).toInt ∧ (x.2 (4 + 2 * nt a + 1) (nt c)).toInt ≤ g.toInt
      · rw [if_pos d4, if_pos ⟨d1, by omega, d4.1, d4.2⟩]
      · rw [if_neg d4, if_neg (fun q => d4 q.2.2)]
  · rw [if_neg d1] at g5
    have d2 : m.1 1 (nt a) < 0 := by rw [g5]; decide
    rw [if_pos d2, if_neg (fun q => d1 q.1)]
theorem e_hillX {x m : St} (h3 : I_sheet x m) {c : Int32} (hc : 0 ≤ c.toInt) : fX2_hillOf c x = some (kn x 0 c 99, x) := by
  unfold fX2_hillOf; rw [show (4 : Nat) = 4 + 2 * 0 from rfl, e_known h3 (by decide) 99 hc, bnd_some]
theorem e_woodX {x m : St} (h3 : I_sheet x m) {c : Int32} (hc : 0 ≤ c.toInt) : fX2_woodOf c x = some (kn x 1 c 9, x) := by
  unfold fX2_woodOf; rw [show (6 : Nat) = 4 + 2 * 1 from rfl, e_known h3 (by decide) 9 hc, bnd_some]
theorem e_hillM {x m : St} (h3 : I_sheet x m) {c : Int32} (hc : 0 ≤ c.toInt) : fX12_hillOf c m = some (kn x 0 c 99, m) := by
  unfold fX12_hillOf; rw [e_told h3 99 (by decide) hc, bnd_some]; rfl
theorem e_woodM {x m : St} (h3 : I_sheet x m) {c : Int32} (hc : 0 ≤ c.toInt) : fX12_woodOf c m = some (kn x 1 c 9, m) := by
  unfold fX12_woodOf; rw [e_told h3 9 (by decide) hc, bnd_some]; rfl
theorem pr_1 (n : Nat) (x m : St) (a1 a2 : Int32) (_ : n < 512) (h : Inv n x m) : ∃ (v : Int32) (x' m' : St), fX11_ground a1 a2 x = some (v, x') ∧ fX12_ground a1 a2 m = some (v, m') ∧ Inv (n + 1) x' m' := by
  obtain ⟨h1, h2, h3, h4, h5, h6, h7, h8, h9, h10, h11⟩ := id h
  have hu := Inv_up n x m h
  unfold fX11_ground fX12_ground
  simp only [e_isCellX h2, e_isCellM h2, e_within, e_in, bnd_some, bi_ite, t64, l32_0, l32_1, l32_2, l32_3, l32_4, l32_5, l32_6, l32_7, l32_8, l32_9, l32_10, l32_11, l32_12, l32_20, l32_25, l32_30, l32_32, l32_50, l32_63, l32_99, l32_100, l32_120, l32_200, l32_255, l32_256, l32_400, l32_500, l32_1000, l32_2400, l32_4095, l32_10000, l32_1000000, l32_100000000, l32_m1, l32_m2, l32_m3, l32_m4, l64_0, l64_1, l64_2, l64_3, l64_4, l64_5, l64_6, l64_7, l64_8, l64_9, l64_10, l64_11, l64_12, l64_20, l64_25, l64_30, l64_32, l64_50, l64_63, l64_99, l64_100, l64_120, l64_200, l64_255, l64_256, l64_400, l64_500, l64_1000, l64_2400, l64_4095, l64_10000, l64_1000000, l64_100000000, l64_m1, l64_m2, l64_m3, l64_m4]
  by_cases c1 : isC x a1
  · rw [if_pos c1, if_pos c1]
    by_cases c2 : 0 ≤ a2.toInt ∧ a2.toInt ≤ 1
    · rw [if_pos c2, if_pos c2, e_hillX h3 c1.1, e_hillM h3 c1.1, e_woodX h3 c1.1, e_woodM h3 c1.1]
      by_cases c3 : a2 = 0
      · rw [if_pos c3, if_pos c3]; exact ⟨_, _, _, rfl, rfl, hu⟩
      · rw [if_neg c3, if_neg c3]; exact ⟨_, _, _, rfl, rfl, hu⟩
    · rw [if_neg c2, if_neg c2]; exact ⟨_, _, _, rfl, rfl, hu⟩
  · rw [if_neg c1, if_neg c1]; exact ⟨_, _, _, rfl, rfl, hu⟩
