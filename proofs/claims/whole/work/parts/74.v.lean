/-! ===== cheats ===== -/
theorem sq_sw (p q : Int32) : (p - q) * (p - q) = (q - p) * (q - p) := by
  have e : p - q = iI (p.toInt - q.toInt) := by rw [← iI_sub, ← iI_of, ← iI_of]
  have e2 : q - p = iI (q.toInt - p.toInt) := by rw [← iI_sub, ← iI_of, ← iI_of]
  rw [e, e2, iI_mul, iI_mul, show p.toInt - q.toInt = -(q.toInt - p.toInt) by omega, Int.neg_mul_neg]
theorem cheats_l {n : Nat} {x m : St} (h : Inv n x m) {a1 a2 a3 : Int32} (ha : isS x a1) (h3' : 0 ≤ a3.toInt ∧ a3.toInt ≤ 100) (c0 : Int32) : ∀ (d k f : Nat), (k + d : Int) = (x.1 16 3).toInt * (x.1 16 4).toInt → d < f → ∃ v, fX11_cheats_L74 a2 a3 c0 (x.1 (19 + nt a1) 2) f (iI (k : Int)) x = some (v, x) ∧ fX12_cheats_L50 a1 a2 a3 c0 f (iI (k : Int)) m = some (v, m)
  | 0, k, f + 1, hk, _ => by
    have hs := size_i h.2.1
    have le : x.1 16 3 * x.1 16 4 ≤ iI (k : Int) := by rw [iI_lei (by omega), hs.1]; omega
    refine ⟨1, ?_, ?_⟩
    · show fX11_cheats_L74_st a2 a3 c0 (x.1 (19 + nt a1) 2) (fX11_cheats_L74 a2 a3 c0 (x.1 (19 + nt a1) 2) f) (iI (k : Int)) x = _
      unfold fX11_cheats_L74_st
      rw [e_size, bnd_some, if_pos le]
    · show fX12_cheats_L50_st a1 a2 a3 c0 (fX12_cheats_L50 a1 a2 a3 c0 f) (iI (k : Int)) m = _
      unfold fX12_cheats_L50_st
      rw [h.2.1.1, h.2.1.2.1, if_pos le]
  | d + 1, k, f + 1, hk, hf => by
    obtain ⟨h1, h2, h3, h4, h5, h6, h7, h8, h9, h10, h11⟩ := id h
    obtain ⟨hib, -, -, -, hz⟩ := isS_i h5 ha
    have f2 : m.1 8 (nt a1) = x.1 (19 + nt a1) 2 := hz.1 2 (by decide)
    have hs := size_i h2
    have nle : ¬ x.1 16 3 * x.1 16 4 ≤ iI (k : Int) := by rw [iI_lei (by omega), hs.1]; omega
    have hc : isC x (iI (k : Int)) := by unfold isC; rw [iI_toInt (by omega) (by omega)]; omega
    have zw : ¬ x.1 16 3 = 0 := by rw [eq_i, l32_0]; have := h2.2.2.1.1; omega
    obtain ⟨w, w01, e1, e2⟩ := e_agr h hc hz.2.2.2.1 h3'
    obtain ⟨v, r1, r2⟩ := cheats_l h (a2 := a2) ha h3' c0 d (k + 1) f (by omega) (by omega)
    have ew : fX2_squaredWay (iI (k : Int)) c0 x = some ((ire (iI (k : Int)) (x.1 16 3) - ire c0 (x.1 16 3)) * (ire (iI (k : Int)) (x.1 16 3) - ire c0 (x.1 16 3)) + (iI (k : Int) / x.1 16 3 - c0 / x.1 16 3) * (iI (k : Int) / x.1 16 3 - c0 / x.1 16 3), x) := by
      unfold fX2_squaredWay
      rw [if_pos zw, if_pos zw, lt_eq, if_pos zw, if_pos zw, lt_eq, sq_sw (ire c0 (x.1 16 3)), sq_sw (c0 / x.1 16 3)]
    have X : fX11_cheats_L74 a2 a3 c0 (x.1 (19 + nt a1) 2) (f + 1) (iI (k : Int)) x = if a2 * a2 < (ire (iI (k : Int)) (x.1 16 3) - ire c0 (x.1 16 3)) * (ire (iI (k : Int)) (x.1 16 3) - ire c0 (x.1 16 3)) + (iI (k : Int) / x.1 16 3 - c0 / x.1 16 3) * (iI (k : Int) / x.1 16 3 - c0 / x.1 16 3) then some (v, x) else if w = 0 then some (v, x) else some (0, x) := by
      show fX11_cheats_L74_st a2 a3 c0 (x.1 (19 + nt a1) 2) (fX11_cheats_L74 a2 a3 c0 (x.1 (19 + nt a1) 2) f) (iI (k : Int)) x = _
      unfold fX11_cheats_L74_st
      rw [e_size, bnd_some, if_neg nle, ew, bnd_some, jn_eq, iI_add1, e1, bnd_some]
      simp only [r1]
    have M : fX12_cheats_L50 a1 a2 a3 c0 (f + 1) (iI (k : Int)) m = if a2 * a2 < (ire (iI (k : Int)) (x.1 16 3) - ire c0 (x.1 16 3)) * (ire (iI (k : Int)) (x.1 16 3) - ire c0 (x.1 16 3)) + (iI (k : Int) / x.1 16 3 - c0 / x.1 16 3) * (iI (k : Int) / x.1 16 3 - c0 / x.1 16 3) then some (v, m) else if w = 0 then some (v, m) else some (0, m) := by
      show fX12_cheats_L50_st a1 a2 a3 c0 (fX12_cheats_L50 a1 a2 a3 c0 f) (iI (k : Int)) m = _
      unfold fX12_cheats_L50_st
      rw [h2.1, h2.2.1, if_neg nle, if_pos zw, if_pos zw, lt_eq, if_pos zw, if_pos zw, lt_eq, jn_eq, if_pos hib, f2, e2, bnd_some, iI_add1]
      simp only [r2]
    rw [X, M]
    by_cases q : a2 * a2 < (ire (iI (k : Int)) (x.1 16 3) - ire c0 (x.1 16 3)) * (ire (iI (k : Int)) (x.1 16 3) - ire c0 (x.1 16 3)) + (iI (k : Int) / x.1 16 3 - c0 / x.1 16 3) * (iI (k : Int) / x.1 16 3 - c0 / x.1 16 3)
    · rw [if_pos q, if_pos q]; exact ⟨v, rfl, rfl⟩
    · rw [if_neg q, if_neg q]
      by_cases c : w = 0
      · rw [if_pos c, if_pos c]; exact ⟨v, rfl, rfl⟩
      · rw [if_neg c, if_neg c]; exact ⟨0, rfl, rfl⟩
theorem pr_40 (n : Nat) (x m : St) (a1 a2 a3 : Int32) (_ : n < 512) (h : Inv n x m) : ∃ (v : Int32) (x' m' : St), fX11_cheats a1 a2 a3 x = some (v, x') ∧ fX12_cheats a1 a2 a3 m = some (v, m') ∧ Inv (n + 1) x' m' := by
  obtain ⟨h1, h2, h3, h4, h5, h6, h7, h8, h9, h10, h11⟩ := id h
  have hu := Inv_up n x m h
  unfold fX11_cheats fX12_cheats
  simp only [e_has, e_isSender h5, e_within, e_in, e_slack, bnd_some, bi_ite, t64, l32_0, l32_1, l32_2, l32_3, l32_4, l32_5, l32_6, l32_7, l32_8, l32_9, l32_10, l32_11, l32_12, l32_20, l32_25, l32_30, l32_32, l32_50, l32_63, l32_99, l32_100, l32_120, l32_200, l32_255, l32_256, l32_400, l32_500, l32_1000, l32_2400, l32_4095, l32_10000, l32_1000000, l32_100000000, l32_m1, l32_m2, l32_m3, l32_m4, l64_0, l64_1, l64_2, l64_3, l64_4, l64_5, l64_6, l64_7, l64_8, l64_9, l64_10, l64_11, l64_12, l64_20, l64_25, l64_30, l64_32, l64_50, l64_63, l64_99, l64_100, l64_120, l64_200, l64_255, l64_256, l64_400, l64_500, l64_1000, l64_2400, l64_4095, l64_10000, l64_1000000, l64_100000000, l64_m1, l64_m2, l64_m3, l64_m4]
  by_cases c1 : isS x a1
  case neg => rw [if_neg c1, if_neg c1]; exact ⟨_, _, _, rfl, rfl, hu⟩
  by_cases c2 : 0 ≤ a2.toInt ∧ a2.toInt ≤ 30
  case neg => rw [if_pos c1, if_pos c1, if_neg c2, if_neg c2]; exact ⟨_, _, _, rfl, rfl, hu⟩
  by_cases c3 : 0 ≤ a3.toInt ∧ a3.toInt ≤ 100
  case neg => rw [if_pos c1, if_pos c1, if_pos c2, if_pos c2, if_neg c3, if_neg c3]; exact ⟨_, _, _, rfl, rfl, hu⟩
  rw [if_pos c1, if_pos c1, if_pos c2, if_pos c2, if_pos c3, if_pos c3]
  have r9 := h9.2.1
  have hs := size_i h2
  obtain ⟨hib, -⟩ := isS_i h5 c1
  obtain ⟨v2, q1, q2⟩ := cnt_box h9 (x.1 67 3).toInt.toNat 0 FU 0 (by omega) (by have := fu_ge; omega)
  have e3 : fX10_readable x = some (v2, x) := q1
  have e4 : fX12_whole m = some (v2, m) := q2
  rw [e3, e4, bnd_some, bnd_some]
  by_cases c4 : v2 = 0
  · rw [if_pos c4, if_pos c4]; exact ⟨_, _, _, rfl, rfl, hu⟩
  · rw [if_neg c4, if_neg c4, e_cellX h c1, e_cellM h c1, bnd_some, bnd_some, if_pos hib, lt_eq]
    obtain ⟨v, r1, r2⟩ := cheats_l h (a2 := a2) c1 c3 (clZ x (nt a1)) ((x.1 16 3).toInt * (x.1 16 4).toInt).toNat 0 FU (by omega) (by have := fu_ge; omega)
    exact ⟨v, x, m, r1, r2, hu⟩
