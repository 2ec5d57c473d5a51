/-! ===== copy ===== -/
def cp1 (m : St) (base lo hi : Nat) : St := (m.1, fun a b => if a = 4 ∧ lo ≤ b ∧ b < hi then m.2 3 (base + b) else m.2 a b)
def cp2 (m : St) (base lo hi : Nat) : St := (m.1, fun a b => if a = 3 ∧ base + lo ≤ b ∧ b < base + hi then m.2 4 (b - base) else m.2 a b)
theorem cp1_0 (m : St) (base lo hi : Nat) (h : hi ≤ lo) : cp1 m base lo hi = m := by
  unfold cp1
  refine Prod.ext rfl ?_
  funext a b
  exact if_neg (by omega)
theorem cp2_0 (m : St) (base lo hi : Nat) (h : hi ≤ lo) : cp2 m base lo hi = m := by
  unfold cp2
  refine Prod.ext rfl ?_
  funext a b
  exact if_neg (by omega)
theorem cp1_s (m : St) (base lo hi : Nat) (h : lo < hi) : cp1 (wj m 4 lo (m.2 3 (base + lo))) base (lo + 1) hi = cp1 m base lo hi := by
  unfold cp1 wj
  refine Prod.ext rfl ?_
  funext a b
  show (if a = 4 ∧ lo + 1 ≤ b ∧ b < hi then (if (3 : Nat) = 4 ∧ base + b = lo then m.2 3 (base + lo) else m.2 3 (base + b)) else if a = 4 ∧ b = lo then m.2 3 (base + lo) else m.2 a b) = if a = 4 ∧ lo ≤ b ∧ b < hi then m.2 3 (base + b) else m.2 a b
  rw [if_neg (c := (3 : Nat) = 4 ∧ base + b = lo) (by omega)]
  by_cases h1 : a = 4 ∧ lo + 1 ≤ b ∧ b < hi
  · rw [if_pos h1, if_pos (by omega)]
  · rw [if_neg h1]
    by_cases h2 : a = 4 ∧ b = lo
    · rw [if_pos h2, if_pos (by omega), h2.2]
    · rw [if_neg h2, if_neg (by omega)]
theorem cp2_s (m : St) (base lo hi : Nat) (h : lo < hi) : cp2 (wj m 3 (base + lo) (m.2 4 lo)) base (lo + 1) hi = cp2 m base lo hi := by
  unfold cp2 wj
  refine Prod.ext rfl ?_
  funext a b
  show (if a = 3 ∧ base + (lo + 1) ≤ b ∧ b < base + hi then (if (4 : Nat) = 3 ∧ b - base = base + lo then m.2 4 lo else m.2 4 (b - base)) else if a = 3 ∧ b = base + lo then m.2 4 lo else m.2 a b) = if a = 3 ∧ base + lo ≤ b ∧ b < base + hi then m.2 4 (b - base) else m.2 a b
  rw [if_neg (c := (4 : Nat) = 3 ∧ b - base = base + lo) (by omega)]
  by_cases h1 : a = 3 ∧ base + (lo + 1) ≤ b ∧ b < base + hi
  · rw [if_pos h1, if_pos (by omega)]
  · rw [if_neg h1]
    by_cases h2 : a = 3 ∧ b = base + lo
    · rw [if_pos h2, if_pos (by omega), h2.2, Nat.add_sub_cancel_left]
    · rw [if_neg h2, if_neg (by omega)]
theorem m400j {a b : Int32} {k : Nat} (ha : 0 ≤ a.toInt ∧ a.toInt ≤ 5) (hb : 0 ≤ b.toInt) (hk : b.toInt + k < 400) : ib (400 * a + b + iI (k : Int)) 2400 ∧ nt (400 * a + b + iI (k : Int)) = 400 * nt a + nt b + k := by
  have e := m400 ha (b := b) ⟨hb, by omega⟩
  have hk0 : (iI (k : Int)).toInt = k := iI_toInt (by omega) (by omega)
  have e2 : (400 * a + b + iI (k : Int)).toInt = 400 * a.toInt + b.toInt + k := by
    rw [addI] <;> rw [e, hk0] <;> omega
  refine ⟨ib_of (by omega) (by omega), ?_⟩
  have e1 := nt_i (i := 400 * a + b + iI (k : Int)) (by omega)
  have e3 := nt_i ha.1
  have e4 := nt_i hb
  omega
theorem copy_l1 (kx : St → Option (Int32 × St)) {a1 a2 a3 a4 a5 : Int32} (c1 : 0 ≤ a1.toInt ∧ a1.toInt ≤ 5) (c2 : 0 ≤ a2.toInt) (c5 : 0 ≤ a5.toInt) (c : a2.toInt + a5.toInt ≤ 400) : ∀ (d k f : Nat) (m : St), (k + d : Int) = a5.toInt → d < f → fX12_copy_L120 kx a1 a2 a3 a4 a5 f (iI (k : Int)) m = kx (cp1 m (400 * nt a1 + nt a2) k (nt a5))
  | 0, k, f + 1, m, hk, _ => by
    show fX12_copy_L120_st kx a1 a2 a3 a4 a5 (fX12_copy_L120 kx a1 a2 a3 a4 a5 f) (iI (k : Int)) m = _
    unfold fX12_copy_L120_st
    have e := nt_i c5
    have h1 : a5 ≤ iI (k : Int) := by rw [iI_lei (by omega)]; omega
    rw [if_pos h1, cp1_0 _ _ _ _ (by omega)]
  | d + 1, k, f + 1, m, hk, hf => by
    show fX12_copy_L120_st kx a1 a2 a3 a4 a5 (fX12_copy_L120 kx a1 a2 a3 a4 a5 f) (iI (k : Int)) m = _
    unfold fX12_copy_L120_st
    have e := nt_i c5
    have h1 : ¬ a5 ≤ iI (k : Int) := by rw [iI_lei (by omega)]; omega
    have h2 := m400j c1 c2 (k := k) (by omega)
    have h3 : nt (iI (k : Int)) = k := by rw [iI_cl (by omega) (by omega)]; omega
    have h4 : ib (iI (k : Int)) 400 := (iI_ib (by omega)).mpr (by omega)
    rw [if_neg h1, if_pos h2.1, if_pos h4, lt_eq, iI_add1, copy_l1 kx c1 c2 c5 c d (k + 1) f _ (by omega) (by omega), h2.2, h3, cp1_s _ _ _ _ (by omega)]
theorem copy_l2 {a3 a4 a5 : Int32} (c1 : 0 ≤ a3.toInt ∧ a3.toInt ≤ 5) (c2 : 0 ≤ a4.toInt) (c5 : 0 ≤ a5.toInt) (c : a4.toInt + a5.toInt ≤ 400) : ∀ (d k f : Nat) (m : St), (k + d : Int) = a5.toInt → d < f → fX12_copy_L158 a3 a4 a5 f (iI (k : Int)) m = some (1, cp2 m (400 * nt a3 + nt a4) k (nt a5))
  | 0, k, f + 1, m, hk, _ => by
    show fX12_copy_L158_st a3 a4 a5 (fX12_copy_L158 a3 a4 a5 f) (iI (k : Int)) m = _
    unfold fX12_copy_L158_st
    have e := nt_i c5
    have h1 : a5 ≤ iI (k : Int) := by rw [iI_lei (by omega)]; omega
    rw [if_pos h1, cp2_0 _ _ _ _ (by omega)]
  | d + 1, k, f + 1, m, hk, hf => by
    show fX12_copy_L158_st a3 a4 a5 (fX12_copy_L158 a3 a4 a5 f) (iI (k : Int)) m = _
    unfold fX12_copy_L158_st
    have e := nt_i c5
    have h1 : ¬ a5 ≤ iI (k : Int) := by rw [iI_lei (by omega)]; omega
    have h2 := m400j c1 c2 (k := k) (by omega)
    have h3 : nt (iI (k : Int)) = k := by rw [iI_cl (by omega) (by omega)]; omega
    have h4 : ib (iI (k : Int)) 400 := (iI_ib (by omega)).mpr (by omega)
    rw [if_neg h1, if_pos h4, if_pos h2.1, lt_eq, iI_add1, copy_l2 c1 c2 c5 c d (k + 1) f _ (by omega) (by omega), h2.2, h3, cp2_s _ _ _ _ (by omega)]
theorem add64 {a b : Int64} (h1 : -9223372036854775808 ≤ a.toInt + b.toInt) (h2 : a.toInt + b.toInt < 9223372036854775808) : (a + b).toInt = a.toInt + b.toInt := by
  rw [Int64.toInt_add]; exact Int.bmod_eq_of_le (by omega) (by omega)
theorem pr_49 (n : Nat) (x m : St) (a1 a2 a3 a4 a5 : Int32) (_ : n < 512) (h : Inv n x m) : ∃ (v : Int32) (x' m' : St), fX11_copy a1 a2 a3 a4 a5 x = some (v, x') ∧ fX12_copy a1 a2 a3 a4 a5 m = some (v, m') ∧ Inv (n + 1) x' m' := by
  obtain ⟨h1, h2, h3, h4, h5, h6, h7, h8, h9, h10, h11⟩ := id h
  have hu := Inv_up n x m h
  unfold fX11_copy fX12_copy
  simp only [e_shX, e_shM, bnd_some, bi_ite, lt_eq, jn_eq, e_found, e_met, l32_0, l32_1, l32_2, l32_3, l32_4, l32_5, l32_6, l32_7, l32_8, l32_9, l32_10, l32_11, l32_12, l32_20, l32_25, l32_30, l32_32, l32_50, l32_63, l32_99, l32_100, l32_120, l32_200, l32_255, l32_256, l32_400, l32_500, l32_1000, l32_2400, l32_4095, l32_10000, l32_1000000, l32_100000000, l32_m1, l32_m2, l32_m3, l32_m4, l64_0, l64_1, l64_2, l64_3, l64_4, l64_5, l64_6, l64_7, l64_8, l64_9, l64_10, l64_11, l64_12, l64_20, l64_25, l64_30, l64_32, l64_50, l64_63, l64_99, l64_100, l64_120, l64_200, l64_255, l64_256, l64_400, l64_500, l64_1000, l64_2400, l64_4095, l64_10000, l64_1000000, l64_100000000, l64_m1, l64_m2, l64_m3, l64_m4]
  by_cases c1 : 0 ≤ a1.toInt ∧ a1.toInt ≤ 5
  · by_cases c3 : 0 ≤ a3.toInt ∧ a3.toInt ≤ 5
    · obtain ⟨hib, hlt, hn⟩ := sh_i c1
      obtain ⟨hib3, hlt3, hn3⟩ := sh_i c3
      simp only [if_pos c1, if_pos c3, if_pos hib, if_pos hib3]
      obtain ⟨g1, g2, g3, g4, g5, g6⟩ := h3 (nt a1) hlt
      obtain ⟨k1, k2, k3, k4, k5, k6⟩ := h3 (nt a3) hlt3
      by_cases d1 : x.1 (4 + 2 * nt a1) 1 = 0
      · rw [if_pos d1] at g5
        have d2 : ¬ m.1 1 (nt a1) < 0 := by rw [g5, Int32.lt_iff_toInt_lt, l32_0]; have := g2.1; omega
        rw [if_pos d1, if_neg d2]
        by_cases d3 : x.1 (4 + 2 * nt a3) 1 = 0
        · rw [if_pos d3] at k5
          have d4 : 0 ≤ m.1 1 (nt a3) := by rw [k5, Int32.le_iff_toInt_le, l32_0]; exact k2.1
          rw [if_pos d3, if_pos d4, g5, k5]
          by_cases d5 : x.1 (4 + 2 * nt a1) 2 = x.1 (4 + 2 * nt a3) 2
          · rw [if_pos d5, if_pos d5, e_holds _ _ d1 g3, bnd_some, e_holds _ _ d3 k3]
            simp only [bnd_some, bi_ite]
            have r0 := iI_rng a2
            have r1 := iI_rng a4
            have r2 := iI_rng a5
            have s1 : (a2.toInt64 + a5.toInt64).toInt = a2.toInt + a5.toInt := by rw [add64] <;> rw [t64, t64] <;> omega
            have s2 : (a4.toInt64 + a5.toInt64).toInt = a4.toInt + a5.toInt := by rw [add64] <;> rw [t64, t64] <;> omega
            simp only [g4, k4, Int32.lt_iff_toInt_lt, Int64.lt_iff_toInt_lt, Int64.le_iff_toInt_le, s1, s2, t64, l32_0]
            by_cases q1 : 0 ≤ a2.toInt ∧ 0 ≤ a5.toInt ∧ a2.toInt + a5.toInt ≤ (x.1 (4 + 2 * nt a1) 3).toInt
            · by_cases q2 : 0 ≤ a4.toInt ∧ 0 ≤ a5.toInt ∧ a4.toInt + a5.toInt ≤ (x.1 (4 + 2 * nt a3) 3).toInt
              · have w2 := nt_i q1.1
                have w4 := nt_i q2.1
                have w5 := nt_i q1.2.1
                refine ⟨1, cpj x (4 + 2 * nt a1 + 1) (nt a2) (4 + 2 * nt a3 + 1) (nt a4) (nt a5), cp2 (cp1 m (400 * nt a1 + nt a2) 0 (nt a5)) (400 * nt a3 + nt a4) 0 (nt a5), ?_, ?_, ?_⟩
                · rw [if_pos q1, if_pos q2, if_pos]
                  refine ⟨?_, ?_, ?_, by omega, by omega⟩
                  · rw [Int32.lt_iff_toInt_lt, l32_0]; omega
                  · rw [Int32.lt_iff_toInt_lt, l32_0]; omega
                  · rw [Int32.lt_iff_toInt_lt, l32_0]; omega
                · rw [if_neg (by omega), if_neg (by omega), if_neg (by omega), if_neg (by omega), if_pos (by omega)]
                  refine (copy_l1 _ c1 q1.1 q1.2.1 (by omega) (nt a5) 0 FU m (by omega) (by have := fu_ge; omega)).trans ?_
                  exact copy_l2 c3 q2.1 q1.2.1 (by omega) (nt a5) 0 FU _ (by omega) (by have := fu_ge; omega)
                · obtain ⟨u1, u2, u3, u4, u5, u6, u7, u8, u9, u10, u11⟩ := hu
                  refine ⟨u1, u2, ?_, u4, u5, u6, u7, u8, u9, u10, u11⟩
                  intro t ht
                  obtain ⟨v1, v2, v3, v4, v5, v6⟩ := u3 t ht
                  refine ⟨v1, v2, v3, v4, v5, fun j hj hjt hl => ?_⟩
                  show (if (3 : Nat) = 3 ∧ 400 * nt a3 + nt a4 + 0 ≤ 400 * t + j ∧ 400 * t + j < 400 * nt a3 + nt a4 + nt a5 then (if (4 : Nat) = 4 ∧ 0 ≤ 400 * t + j - (400 * nt a3 + nt a4) ∧ 400 * t + j - (400 * nt a3 + nt a4) < nt a5 then m.2 3 (400 * nt a1 + nt a2 + (400 * t + j - (400 * nt a3 + nt a4))) else m.2 4 (400 * t + j - (400 * nt a3 + nt a4))) else if (3 : Nat) = 4 ∧ 0 ≤ 400 * t + j ∧ 400 * t + j < nt a5 then m.2 3 (400 * nt a1 + nt a2 + (400 * t + j)) else m.2 3 (400 * t + j)) = if 4 + 2 * t + 1 = 4 + 2 * nt a3 + 1 then (if nt a4 ≤ j ∧ j < nt a4 + nt a5 then x.2 (4 + 2 * nt a1 + 1) (nt a2 + (j - nt a4)) else x.2 (4 + 2 * nt a3 + 1) j) else x.2 (4 + 2 * t + 1) j
                  rw [if_neg (c := (3 : Nat) = 4 ∧ 0 ≤ 400 * t + j ∧ 400 * t + j < nt a5) (by omega)]
                  have hjt' : (j : Int) < (x.1 (4 + 2 * t) 3).toInt := hjt
                  have hl' : x.1 (4 + 2 * t) 1 = 0 := hl
                  by_cases et : t = nt a3
                  · rw [if_pos (c := 4 + 2 * t + 1 = 4 + 2 * nt a3 + 1) (by omega)]
                    by_cases ej : nt a4 ≤ j ∧ j < nt a4 + nt a5
                    · rw [if_pos (by omega), if_pos (by omega), if_pos ej]
                      have z := g6 (nt a2 + (j - nt a4)) (by omega) (by omega) d1
                      have ez : 400 * nt a1 + nt a2 + (400 * t + j - (400 * nt a3 + nt a4)) = 400 * nt a1 + (nt a2 + (j - nt a4)) := by rw [et]; omega
                      rw [ez]; exact z
                    · rw [if_neg (by omega), if_neg ej, ← et]
                      exact v6 j hj hjt' hl'
                  · rw [if_neg (by omega), if_neg (by omega)]
                    exact v6 j hj hjt' hl'
              · refine ⟨-10 - 2, wi x 0 11 2, wi m 0 4 2, ?_, ?_, Inv_found 2 hu⟩
                · rw [if_pos q1, if_neg q2]
                · rw [if_neg (by omega)]
                  by_cases q4 : a4.toInt < 0
                  · rw [if_pos q4]
                  · rw [if_neg q4, if_neg (by omega), if_neg (by omega), if_neg (by omega)]
            · refine ⟨-10 - 2, wi x 0 11 2, wi m 0 4 2, ?_, ?_, Inv_found 2 hu⟩
              · rw [if_neg q1]
              · by_cases q3 : a2.toInt < 0
                · rw [if_pos q3]
                · rw [if_neg q3]
                  by_cases q4 : a4.toInt < 0
                  · rw [if_pos q4]
                  · rw [if_neg q4]
                    by_cases q5 : a5.toInt < 0
                    · rw [if_pos q5]
                    · rw [if_neg q5, if_pos (by omega)]
          · rw [if_neg d5, if_neg d5]
            exact ⟨_, _, _, rfl, rfl, Inv_found 4 hu⟩
        · rw [if_neg d3] at k5
          have d4 : ¬ 0 ≤ m.1 1 (nt a3) := by rw [k5]; decide
          rw [if_neg d3, if_neg d4]
          exact ⟨_, _, _, rfl, rfl, Inv_found 1 hu⟩
      · rw [if_neg d1] at g5
        have d2 : m.1 1 (nt a1) < 0 := by rw [g5]; decide
        rw [if_neg d1, if_pos d2]
        exact ⟨_, _, _, rfl, rfl, Inv_found 1 hu⟩
    · simp only [if_pos c1, if_neg c3]
      exact ⟨_, x, m, rfl, rfl, hu⟩
  · simp only [if_neg c1]
    exact ⟨_, x, m, rfl, rfl, hu⟩
