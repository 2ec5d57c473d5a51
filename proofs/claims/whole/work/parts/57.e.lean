/-! ===== sheets: lose, get, put ===== -/
theorem e_shX (a : Int32) (x : St) : fX11_isSheet a x = some (bi (0 ≤ a.toInt ∧ a.toInt ≤ 5), x) := by
  unfold fX11_isSheet
  simp only [e_within, bnd_some, bi_if, l32_0, l32_1, l32_2, l32_3, l32_4, l32_5, l32_6, l32_7, l32_8, l32_9, l32_10, l32_11, l32_12, l32_20, l32_25, l32_30, l32_32, l32_50, l32_63, l32_99, l32_100, l32_120, l32_200, l32_255, l32_256, l32_400, l32_500, l32_1000, l32_2400, l32_4095, l32_10000, l32_1000000, l32_100000000, l32_m1, l32_m2, l32_m3, l32_m4, l64_0, l64_1, l64_2, l64_3, l64_4, l64_5, l64_6, l64_7, l64_8, l64_9, l64_10, l64_11, l64_12, l64_20, l64_25, l64_30, l64_32, l64_50, l64_63, l64_99, l64_100, l64_120, l64_200, l64_255, l64_256, l64_400, l64_500, l64_1000, l64_2400, l64_4095, l64_10000, l64_1000000, l64_100000000, l64_m1, l64_m2, l64_m3, l64_m4]
theorem e_shM (a : Int32) (m : St) : fX12_isSheet a m = some (bi (0 ≤ a.toInt ∧ a.toInt ≤ 5), m) := by
  unfold fX12_isSheet
  simp only [e_in, bnd_some, bi_if, t64, l32_0, l32_1, l32_2, l32_3, l32_4, l32_5, l32_6, l32_7, l32_8, l32_9, l32_10, l32_11, l32_12, l32_20, l32_25, l32_30, l32_32, l32_50, l32_63, l32_99, l32_100, l32_120, l32_200, l32_255, l32_256, l32_400, l32_500, l32_1000, l32_2400, l32_4095, l32_10000, l32_1000000, l32_100000000, l32_m1, l32_m2, l32_m3, l32_m4, l64_0, l64_1, l64_2, l64_3, l64_4, l64_5, l64_6, l64_7, l64_8, l64_9, l64_10, l64_11, l64_12, l64_20, l64_25, l64_30, l64_32, l64_50, l64_63, l64_99, l64_100, l64_120, l64_200, l64_255, l64_256, l64_400, l64_500, l64_1000, l64_2400, l64_4095, l64_10000, l64_1000000, l64_100000000, l64_m1, l64_m2, l64_m3, l64_m4]
theorem e_foX (a : Int32) (x : St) : fX11_isForm a x = some (bi (0 ≤ a.toInt ∧ a.toInt ≤ 3), x) := by
  unfold fX11_isForm
  simp only [e_within, bnd_some, bi_if, l32_0, l32_1, l32_2, l32_3, l32_4, l32_5, l32_6, l32_7, l32_8, l32_9, l32_10, l32_11, l32_12, l32_20, l32_25, l32_30, l32_32, l32_50, l32_63, l32_99, l32_100, l32_120, l32_200, l32_255, l32_256, l32_400, l32_500, l32_1000, l32_2400, l32_4095, l32_10000, l32_1000000, l32_100000000, l32_m1, l32_m2, l32_m3, l32_m4, l64_0, l64_1, l64_2, l64_3, l64_4, l64_5, l64_6, l64_7, l64_8, l64_9, l64_10, l64_11, l64_12, l64_20, l64_25, l64_30, l64_32, l64_50, l64_63, l64_99, l64_100, l64_120, l64_200, l64_255, l64_256, l64_400, l64_500, l64_1000, l64_2400, l64_4095, l64_10000, l64_1000000, l64_100000000, l64_m1, l64_m2, l64_m3, l64_m4]
theorem e_found (a : Int32) (x : St) : fX11_found a x = some (-10 - a, wi x 0 11 a) := rfl
theorem e_met (a : Int32) (x : St) : fX12_met a x = some (-10 - a, wi x 0 4 a) := rfl
theorem Inv_found {n : Nat} {x m : St} (w : Int32) (hu : Inv n x m) : Inv n (wi x 0 11 w) (wi m 0 4 w) := by
  obtain ⟨u1, u2, u3, u4, u5, u6, u7, u8, u9, u10, u11⟩ := hu
  refine ⟨I_told_c (by first | rfl | ((repeat (rw [wi_c _ _ (by omega)])); done) | ((repeat (first | rw [wi_c _ _ (by omega)] | rw [wi_n _ _ (by omega)])); done) | (funext b; simp [wi, wj]; done) | (simp [wi, wj]; done)) (by first | rfl | ((repeat (rw [wi_c _ _ (by omega)])); done) | ((repeat (first | rw [wi_c _ _ (by omega)] | rw [wi_n _ _ (by omega)])); done) | (funext b; simp [wi, wj]; done) | (simp [wi, wj]; done)) u1, I_land_c (by first | rfl | ((repeat (rw [wi_c _ _ (by omega)])); done) | ((repeat (first | rw [wi_c _ _ (by omega)] | rw [wi_n _ _ (by omega)])); done) | (funext b; simp [wi, wj]; done) | (simp [wi, wj]; done)) (by first | rfl | ((repeat (rw [wi_c _ _ (by omega)])); done) | ((repeat (first | rw [wi_c _ _ (by omega)] | rw [wi_n _ _ (by omega)])); done) | (funext b; simp [wi, wj]; done) | (simp [wi, wj]; done)) (by first | rfl | ((repeat (rw [wi_c _ _ (by omega)])); done) | ((repeat (first | rw [wi_c _ _ (by omega)] | rw [wi_n _ _ (by omega)])); done) | (funext b; simp [wi, wj]; done) | (simp [wi, wj]; done)) u2, I_sheet_c (fun k hk1 hk2 => by first | rfl | ((repeat (rw [wi_c _ _ (by omega)])); done)) (fun k hk1 hk2 => by first | rfl | ((repeat (rw [wi_c _ _ (by omega)])); done)) (by first | rfl | ((repeat (rw [wi_c _ _ (by omega)])); done) | ((repeat (first | rw [wi_c _ _ (by omega)] | rw [wi_n _ _ (by omega)])); done) | (funext b; simp [wi, wj]; done) | (simp [wi, wj]; done)) (by first | rfl | ((repeat (rw [wi_c _ _ (by omega)])); done) | ((repeat (first | rw [wi_c _ _ (by omega)] | rw [wi_n _ _ (by omega)])); done) | (funext b; simp [wi, wj]; done) | (simp [wi, wj]; done)) (by first | rfl | ((repeat (rw [wi_c _ _ (by omega)])); done) | ((repeat (first | rw [wi_c _ _ (by omega)] | rw [wi_n _ _ (by omega)])); done) | (funext b; simp [wi, wj]; done) | (simp [wi, wj]; done)) u3, I_tick_c (by first | rfl | ((repeat (rw [wi_c _ _ (by omega)])); done) | ((repeat (first | rw [wi_c _ _ (by omega)] | rw [wi_n _ _ (by omega)])); done) | (funext b; simp [wi, wj]; done) | (simp [wi, wj]; done)) (by first | rfl | ((repeat (rw [wi_c _ _ (by omega)])); done) | ((repeat (first | rw [wi_c _ _ (by omega)] | rw [wi_n _ _ (by omega)])); done) | (funext b; simp [wi, wj]; done) | (simp [wi, wj]; done)) u4, I_send_c (by first | rfl | ((repeat (rw [wi_c _ _ (by omega)])); done) | ((repeat (first | rw [wi_c _ _ (by omega)] | rw [wi_n _ _ (by omega)])); done) | (funext b; simp [wi, wj]; done) | (simp [wi, wj]; done)) (by first | rfl | ((repeat (rw [wi_c _ _ (by omega)])); done) | ((repeat (first | rw [wi_c _ _ (by omega)] | rw [wi_n _ _ (by omega)])); done) | (funext b; simp [wi, wj]; done) | (simp [wi, wj]; done)) (fun k hk1 hk2 => by first | rfl | ((repeat (rw [wi_c _ _ (by omega)])); done)) (by first | rfl | ((repeat (rw [wi_c _ _ (by omega)])); done) | ((repeat (first | rw [wi_c _ _ (by omega)] | rw [wi_n _ _ (by omega)])); done) | (funext b; simp [wi, wj]; done) | (simp [wi, wj]; done)) (fun k hk1 hk2 => by first | rfl | ((repeat (rw [wi_c _ _ (by omega)])); done)) u5, I_lis_c (by first | rfl | ((repeat (rw [wi_c _ _ (by omega)])); done) | ((repeat (first | rw [wi_c _ _ (by omega)] | rw [wi_n _ _ (by omega)])); done) | (funext b; simp [wi, wj]; done) | (simp [wi, wj]; done)) (by first | rfl | ((repeat (rw [wi_c _ _ (by omega)])); done) | ((repeat (first | rw [wi_c _ _ (by omega)] | rw [wi_n _ _ (by omega)])); done) | (funext b; simp [wi, wj]; done) | (simp [wi, wj]; done)) (by first | rfl | ((repeat (rw [wi_c _ _ (by omega)])); done) | ((repeat (first | rw [wi_c _ _ (by omega)] | rw [wi_n _ _ (by omega)])); done) | (funext b; simp [wi, wj]; done) | (simp [wi, wj]; done)) (by first | rfl | ((repeat (rw [wi_c _ _ (by omega)])); done) | ((repeat (first | rw [wi_c _ _ (by omega)] | rw [wi_n _ _ (by omega)])); done) | (funext b; simp [wi, wj]; done) | (simp [wi, wj]; done)) (by first | rfl | ((repeat (rw [wi_c _ _ (by omega)])); done) | ((repeat (first | rw [wi_c _ _ (by omega)] | rw [wi_n _ _ (by omega)])); done) | (funext b; simp [wi, wj]; done) | (simp [wi, wj]; done)) (by first | rfl | ((repeat (rw [wi_c _ _ (by omega)])); done) | ((repeat (first | rw [wi_c _ _ (by omega)] | rw [wi_n _ _ (by omega)])); done) | (funext b; simp [wi, wj]; done) | (simp [wi, wj]; done)) u6, I_bid_c (by first | rfl | ((repeat (rw [wi_c _ _ (by omega)])); done) | ((repeat (first | rw [wi_c _ _ (by omega)] | rw [wi_n _ _ (by omega)])); done) | (funext b; simp [wi, wj]; done) | (simp [wi, wj]; done)) (by first | rfl | ((repeat (rw [wi_c _ _ (by omega)])); done) | ((repeat (first | rw [wi_c _ _ (by omega)] | rw [wi_n _ _ (by omega)])); done) | (funext b; simp [wi, wj]; done) | (simp [wi, wj]; done)) (by first | rfl | ((repeat (rw [wi_c _ _ (by omega)])); done) | ((repeat (first | rw [wi_c _ _ (by omega)] | rw [wi_n _ _ (by omega)])); done) | (funext b; simp [wi, wj]; done) | (simp [wi, wj]; done)) (by first | rfl | ((repeat (rw [wi_c _ _ (by omega)])); done) | ((repeat (first | rw [wi_c _ _ (by omega)] | rw [wi_n _ _ (by omega)])); done) | (funext b; simp [wi, wj]; done) | (simp [wi, wj]; done)) (by first | rfl | ((repeat (rw [wi_c _ _ (by omega)])); done) | ((repeat (first | rw [wi_c _ _ (by omega)] | rw [wi_n _ _ (by omega)])); done) | (funext b; simp [wi, wj]; done) | (simp [wi, wj]; done)) (by first | rfl | ((repeat (rw [wi_c _ _ (by omega)])); done) | ((repeat (first | rw [wi_c _ _ (by omega)] | rw [wi_n _ _ (by omega)])); done) | (funext b; simp [wi, wj]; done) | (simp [wi, wj]; done)) u7, I_text_c (by first | rfl | ((repeat (rw [wi_c _ _ (by omega)])); done) | ((repeat (first | rw [wi_c _ _ (by omega)] | rw [wi_n _ _ (by omega)])); done) | (funext b; simp [wi, wj]; done) | (simp [wi, wj]; done)) (by first | rfl | ((repeat (rw [wi_c _ _ (by omega)])); done) | ((repeat (first | rw [wi_c _ _ (by omega)] | rw [wi_n _ _ (by omega)])); done) | (funext b; simp [wi, wj]; done) | (simp [wi, wj]; done)) (by first | rfl | ((repeat (rw [wi_c _ _ (by omega)])); done) | ((repeat (first | rw [wi_c _ _ (by omega)] | rw [wi_n _ _ (by omega)])); done) | (funext b; simp [wi, wj]; done) | (simp [wi, wj]; done)) (by first | rfl | ((repeat (rw [wi_c _ _ (by omega)])); done) | ((repeat (first | rw [wi_c _ _ (by omega)] | rw [wi_n _ _ (by omega)])); done) | (funext b; simp [wi, wj]; done) | (simp [wi, wj]; done)) u8, I_box_c (by first | rfl | ((repeat (rw [wi_c _ _ (by omega)])); done) | ((repeat (first | rw [wi_c _ _ (by omega)] | rw [wi_n _ _ (by omega)])); done) | (funext b; simp [wi, wj]; done) | (simp [wi, wj]; done)) (by first | rfl | ((repeat (rw [wi_c _ _ (by omega)])); done) | ((repeat (first | rw [wi_c _ _ (by omega)] | rw [wi_n _ _ (by omega)])); done) | (funext b; simp [wi, wj]; done) | (simp [wi, wj]; done)) (by first | rfl | ((repeat (rw [wi_c _ _ (by omega)])); done) | ((repeat (first | rw [wi_c _ _ (by omega)] | rw [wi_n _ _ (by omega)])); done) | (funext b; simp [wi, wj]; done) | (simp [wi, wj]; done)) (by first | rfl | ((repeat (rw [wi_c _ _ (by omega)])); done) | ((repeat (first | rw [wi_c _ _ (by omega)] | rw [wi_n _ _ (by omega)])); done) | (funext b; simp [wi, wj]; done) | (simp [wi, wj]; done)) (by first | rfl | ((repeat (rw [wi_c _ _ (by omega)])); done) | ((repeat (first | rw [wi_c _ _ (by omega)] | rw [wi_n _ _ (by omega)])); done) | (funext b; simp [wi, wj]; done) | (simp [wi, wj]; done)) (by first | rfl | ((repeat (rw [wi_c _ _ (by omega)])); done) | ((repeat (first | rw [wi_c _ _ (by omega)] | rw [wi_n _ _ (by omega)])); done) | (funext b; simp [wi, wj]; done) | (simp [wi, wj]; done)) (by first | rfl | ((repeat (rw [wi_c _ _ (by omega)])); done) | ((repeat (first | rw [wi_c _ _ (by omega)] | rw [wi_n _ _ (by omega)])); done) | (funext b; simp [wi, wj]; done) | (simp [wi, wj]; done)) u9, I_tow_c (by first | rfl | ((repeat (rw [wi_c _ _ (by omega)])); done) | ((repeat (first | rw [wi_c _ _ (by omega)] | rw [wi_n _ _ (by omega)])); done) | (funext b; simp [wi, wj]; done) | (simp [wi, wj]; done)) (by first | rfl | ((repeat (rw [wi_c _ _ (by omega)])); done) | ((repeat (first | rw [wi_c _ _ (by omega)] | rw [wi_n _ _ (by omega)])); done) | (funext b; simp [wi, wj]; done) | (simp [wi, wj]; done)) (by first | rfl | ((repeat (rw [wi_c _ _ (by omega)])); done) | ((repeat (first | rw [wi_c _ _ (by omega)] | rw [wi_n _ _ (by omega)])); done) | (funext b; simp [wi, wj]; done) | (simp [wi, wj]; done)) (fun k hk1 hk2 => by first | rfl | ((repeat (rw [wi_c _ _ (by omega)])); done)) (by first | rfl | ((repeat (rw [wi_c _ _ (by omega)])); done) | ((repeat (first | rw [wi_c _ _ (by omega)] | rw [wi_n _ _ (by omega)])); done) | (funext b; simp [wi, wj]; done) | (simp [wi, wj]; done)) (by first | rfl | ((repeat (rw [wi_c _ _ (by omega)])); done) | ((repeat (first | rw [wi_c _ _ (by omega)] | rw [wi_n _ _ (by omega)])); done) | (funext b; simp [wi, wj]; done) | (simp [wi, wj]; done)) (fun k hk1 hk2 => by first | rfl | ((repeat (rw [wi_c _ _ (by omega)])); done)) u10, ?_⟩
  unfold I_find; rw [wi_s, wi_s]
theorem sh_i {a : Int32} (c : 0 ≤ a.toInt ∧ a.toInt ≤ 5) : ib a 6 ∧ nt a < 6 ∧ (nt a : Int) = a.toInt := ⟨ib_of c.1 (by omega), by have := nt_i c.1; omega, nt_i c.1⟩
theorem pr_46 (n : Nat) (x m : St) (a1 : Int32) (_ : n < 512) (h : Inv n x m) : ∃ (v : Int32) (x' m' : St), fX11_lose a1 x = some (v, x') ∧ fX12_lose a1 m = some (v, m') ∧ Inv (n + 1) x' m' := by
  obtain ⟨h1, h2, h3, h4, h5, h6, h7, h8, h9, h10, h11⟩ := id h
  have hu := Inv_up n x m h
  unfold fX11_lose fX12_lose
  simp only [e_shX, e_shM, e_found, e_met, e_within, e_in, bnd_some, lt_eq, jn_eq, bi_ite, ite_mrg, t64, l32_0, l32_1, l32_2, l32_3, l32_4, l32_5, l32_6, l32_7, l32_8, l32_9, l32_10, l32_11, l32_12, l32_20, l32_25, l32_30, l32_32, l32_50, l32_63, l32_99, l32_100, l32_120, l32_200, l32_255, l32_256, l32_400, l32_500, l32_1000, l32_2400, l32_4095, l32_10000, l32_1000000, l32_100000000, l32_m1, l32_m2, l32_m3, l32_m4, l64_0, l64_1, l64_2, l64_3, l64_4, l64_5, l64_6, l64_7, l64_8, l64_9, l64_10, l64_11, l64_12, l64_20, l64_25, l64_30, l64_32, l64_50, l64_63, l64_99, l64_100, l64_120, l64_200, l64_255, l64_256, l64_400, l64_500, l64_1000, l64_2400, l64_4095, l64_10000, l64_1000000, l64_100000000, l64_m1, l64_m2, l64_m3, l64_m4]
  by_cases c1 : 0 ≤ a1.toInt ∧ a1.toInt ≤ 5
  · obtain ⟨hib, hlt, hn⟩ := sh_i c1
    simp only [if_pos c1, if_pos hib]
    generalize nt a1 = s at hlt hn
    obtain ⟨g1, g2, g3, g4, g5, g6⟩ := h3 s hlt
    by_cases c2 : x.1 (4 + 2 * s) 1 = 0
    · rw [if_pos c2] at g5
      have c3 : 0 ≤ m.1 1 s := by rw [g5, Int32.le_iff_toInt_le, l32_0]; exact g2.1
      refine ⟨x.1 (4 + 2 * s) 3, wi x (4 + 2 * s) 1 1, wi m 1 s (-1), ?_, ?_, ?_⟩
      · rw [if_pos c2, wi_n _ _ (by omega), if_pos ⟨hib, hib⟩]
      · rw [if_pos c3, wi_n _ _ (by omega), g4, if_pos ⟨hib, hib⟩]
      · obtain ⟨u1, u2, u3, u4, u5, u6, u7, u8, u9, u10, u11⟩ := hu
        refine ⟨I_told_c (by first | rfl | ((repeat (rw [wi_c _ _ (by omega)])); done) | ((repeat (first | rw [wi_c _ _ (by omega)] | rw [wi_n _ _ (by omega)])); done) | (funext b; simp [wi, wj]; done) | (simp [wi, wj]; done)) (by first | rfl | ((repeat (rw [wi_c _ _ (by omega)])); done) | ((repeat (first | rw [wi_c _ _ (by omega)] | rw [wi_n _ _ (by omega)])); done) | (funext b; simp [wi, wj]; done) | (simp [wi, wj]; done)) u1, I_land_c (by first | rfl | ((repeat (rw [wi_c _ _ (by omega)])); done) | ((repeat (first | rw [wi_c _ _ (by omega)] | rw [wi_n _ _ (by omega)])); done) | (funext b; simp [wi, wj]; done) | (simp [wi, wj]; done)) (by first | rfl | ((repeat (rw [wi_c _ _ (by omega)])); done) | ((repeat (first | rw [wi_c _ _ (by omega)] | rw [wi_n _ _ (by omega)])); done) | (funext b; simp [wi, wj]; done) | (simp [wi, wj]; done)) (by first | rfl | ((repeat (rw [wi_c _ _ (by omega)])); done) | ((repeat (first | rw [wi_c _ _ (by omega)] | rw [wi_n _ _ (by omega)])); done) | (funext b; simp [wi, wj]; done) | (simp [wi, wj]; done)) u2, ?_, I_tick_c (by first | rfl | ((repeat (rw [wi_c _ _ (by omega)])); done) | ((repeat (first | rw [wi_c _ _ (by omega)] | rw [wi_n _ _ (by omega)])); done) | (funext b; simp [wi, wj]; done) | (simp [wi, wj]; done)) (by first | rfl | ((repeat (rw [wi_c _ _ (by omega)])); done) | ((repeat (first | rw [wi_c _ _ (by omega)] | rw [wi_n _ _ (by omega)])); done) | (funext b; simp [wi, wj]; done) | (simp [wi, wj]; done)) u4, I_send_c (by first | rfl | ((repeat (rw [wi_c _ _ (by omega)])); done) | ((repeat (first | rw [wi_c _ _ (by omega)] | rw [wi_n _ _ (by omega)])); done) | (funext b; simp [wi, wj]; done) | (simp [wi, wj]; done)) (by first | rfl | ((repeat (rw [wi_c _ _ (by omega)])); done) | ((repeat (first | rw [wi_c _ _ (by omega)] | rw [wi_n _ _ (by omega)])); done) | (funext b; simp [wi, wj]; done) | (simp [wi, wj]; done)) (fun k hk1 hk2 => by first | rfl | ((repeat (rw [wi_c _ _ (by omega)])); done)) (by first | rfl | ((repeat (rw [wi_c _ _ (by omega)])); done) | ((repeat (first | rw [wi_c _ _ (by omega)] | rw [wi_n _ _ (by omega)])); done) | (funext b; simp [wi, wj]; done) | (simp [wi, wj]; done)) (fun k hk1 hk2 => by first | rfl | ((repeat (rw [wi_c _ _ (by omega)])); done)) u5, I_lis_c (by first | rfl | ((repeat (rw [wi_c _ _ (by omega)])); done) | ((repeat (first | rw [wi_c _ _ (by omega)] | rw [wi_n _ _ (by omega)])); done) | (funext b; simp [wi, wj]; done) | (simp [wi, wj]; done)) (by first | rfl | ((repeat (rw [wi_c _ _ (by omega)])); done) | ((repeat (first | rw [wi_c _ _ (by omega)] | rw [wi_n _ _ (by omega)])); done) | (funext b; simp [wi, wj]; done) | (simp [wi, wj]; done)) (by first | rfl | ((repeat (rw [wi_c _ _ (by omega)])); done) | ((repeat (first | rw [wi_c _ _ (by omega)] | rw [wi_n _ _ (by omega)])); done) | (funext b; simp [wi, wj]; done) | (simp [wi, wj]; done)) (by first | rfl | ((repeat (rw [wi_c _ _ (by omega)])); done) | ((repeat (first | rw [wi_c _ _ (by omega)] | rw [wi_n _ _ (by omega)])); done) | (funext b; simp [wi, wj]; done) | (simp [wi, wj]; done)) (by first | rfl | ((repeat (rw [wi_c _ _ (by omega)])); done) | ((repeat (first | rw [wi_c _ _ (by omega)] | rw [wi_n _ _ (by omega)])); done) | (funext b; simp [wi, wj]; done) | (simp [wi, wj]; done)) (by first | rfl | ((repeat (rw [wi_c _ _ (by omega)])); done) | ((repeat (first | rw [wi_c _ _ (by omega)] | rw [wi_n _ _ (by omega)])); done) | (funext b; simp [wi, wj]; done) | (simp [wi, wj]; done)) u6, I_bid_c (by first | rfl | ((repeat (rw [wi_c _ _ (by omega)])); done) | ((repeat (first | rw [wi_c _ _ (by omega)] | rw [wi_n _ _ (by omega)])); done) | (funext b; simp [wi, wj]; done) | (simp [wi, wj]; done)) (by first | rfl | ((repeat (rw [wi_c _ _ (by omega)])); done) | ((repeat (first | rw [wi_c _ _ (by omega)] | rw [wi_n _ _ (by omega)])); done) | (funext b; simp [wi, wj]; done) | (simp [wi, wj]; done)) (by first | rfl | ((repeat (rw [wi_c _ _ (by omega)])); done) | ((repeat (first | rw [wi_c _ _ (by omega)] | rw [wi_n _ _ (by omega)])); done) | (funext b; simp [wi, wj]; done) | (simp [wi, wj]; done)) (by first | rfl | ((repeat (rw [wi_c _ _ (by omega)])); done) | ((repeat (first | rw [wi_c _ _ (by omega)] | rw [wi_n _ _ (by omega)])); done) | (funext b; simp [wi, wj]; done) | (simp [wi, wj]; done)) (by first | rfl | ((repeat (rw [wi_c _ _ (by omega)])); done) | ((repeat (first | rw [wi_c _ _ (by omega)] | rw [wi_n _ _ (by omega)])); done) | (funext b; simp [wi, wj]; done) | (simp [wi, wj]; done)) (by first | rfl | ((repeat (rw [wi_c _ _ (by omega)])); done) | ((repeat (first | rw [wi_c _ _ (by omega)] | rw [wi_n _ _ (by omega)])); done) | (funext b; simp [wi, wj]; done) | (simp [wi, wj]; done)) u7, I_text_c (by first | rfl | ((repeat (rw [wi_c _ _ (by omega)])); done) | ((repeat (first | rw [wi_c _ _ (by omega)] | rw [wi_n _ _ (by omega)])); done) | (funext b; simp [wi, wj]; done) | (simp [wi, wj]; done)) (by first | rfl | ((repeat (rw [wi_c _ _ (by omega)])); done) | ((repeat (first | rw [wi_c _ _ (by omega)] | rw [wi_n _ _ (by omega)])); done) | (funext b; simp [wi, wj]; done) | (simp [wi, wj]; done)) (by first | rfl | ((repeat (rw [wi_c _ _ (by omega)])); done) | ((repeat (first | rw [wi_c _ _ (by omega)] | rw [wi_n _ _ (by omega)])); done) | (funext b; simp [wi, wj]; done) | (simp [wi, wj]; done)) (by first | rfl | ((repeat (rw [wi_c _ _ (by omega)])); done) | ((repeat (first | rw [wi_c _ _ (by omega)] | rw [wi_n _ _ (by omega)])); done) | (funext b; simp [wi, wj]; done) | (simp [wi, wj]; done)) u8, I_box_c (by first | rfl | ((repeat (rw [wi_c _ _ (by omega)])); done) | ((repeat (first | rw [wi_c _ _ (by omega)] | rw [wi_n _ _ (by omega)])); done) | (funext b; simp [wi, wj]; done) | (simp [wi, wj]; done)) (by first | rfl | ((repeat (rw [wi_c _ _ (by omega)])); done) | ((repeat (first | rw [wi_c _ _ (by omega)] | rw [wi_n _ _ (by omega)])); done) | (funext b; simp [wi, wj]; done) | (simp [wi, wj]; done)) (by first | rfl | ((repeat (rw [wi_c _ _ (by omega)])); done) | ((repeat (first | rw [wi_c _ _ (by omega)] | rw [wi_n _ _ (by omega)])); done) | (funext b; simp [wi, wj]; done) | (simp [wi, wj]; done)) (by first | rfl | ((repeat (rw [wi_c _ _ (by omega)])); done) | ((repeat (first | rw [wi_c _ _ (by omega)] | rw [wi_n _ _ (by omega)])); done) | (funext b; simp [wi, wj]; done) | (simp [wi, wj]; done)) (by first | rfl | ((repeat (rw [wi_c _ _ (by omega)])); done) | ((repeat (first | rw [wi_c _ _ (by omega)] | rw [wi_n _ _ (by omega)])); done) | (funext b; simp [wi, wj]; done) | (simp [wi, wj]; done)) (by first | rfl | ((repeat (rw [wi_c _ _ (by omega)])); done) | ((repeat (first | rw [wi_c _ _ (by omega)] | rw [wi_n _ _ (by omega)])); done) | (funext b; simp [wi, wj]; done) | (simp [wi, wj]; done)) (by first | rfl | ((repeat (rw [wi_c _ _ (by omega)])); done) | ((repeat (first | rw [wi_c _ _ (by omega)] | rw [wi_n _ _ (by omega)])); done) | (funext b; simp [wi, wj]; done) | (simp [wi, wj]; done)) u9, I_tow_c (by first | rfl | ((repeat (rw [wi_c _ _ (by omega)])); done) | ((repeat (first | rw [wi_c _ _ (by omega)] | rw [wi_n _ _ (by omega)])); done) | (funext b; simp [wi, wj]; done) | (simp [wi, wj]; done)) (by first | rfl | ((repeat (rw [wi_c _ _ (by omega)])); done) | ((repeat (first | rw [wi_c _ _ (by omega)] | rw [wi_n _ _ (by omega)])); done) | (funext b; simp [wi, wj]; done) | (simp [wi, wj]; done)) (by first | rfl | ((repeat (rw [wi_c _ _ (by omega)])); done) | ((repeat (first | rw [wi_c _ _ (by omega)] | rw [wi_n _ _ (by omega)])); done) | (funext b; simp [wi, wj]; done) | (simp [wi, wj]; done)) (fun k hk1 hk2 => by first | rfl | ((repeat (rw [wi_c _ _ (by omega)])); done)) (by first | rfl | ((repeat (rw [wi_c _ _ (by omega)])); done) | ((repeat (first | rw [wi_c _ _ (by omega)] | rw [wi_n _ _ (by omega)])); done) | (funext b; simp [wi, wj]; done) | (simp [wi, wj]; done)) (by first | rfl | ((repeat (rw [wi_c _ _ (by omega)])); done) | ((repeat (first | rw [wi_c _ _ (by omega)] | rw [wi_n _ _ (by omega)])); done) | (funext b; simp [wi, wj]; done) | (simp [wi, wj]; done)) (fun k hk1 hk2 => by first | rfl | ((repeat (rw [wi_c _ _ (by omega)])); done)) u10, I_find_c (by first | rfl | ((repeat (rw [wi_c _ _ (by omega)])); done) | ((repeat (first | rw [wi_c _ _ (by omega)] | rw [wi_n _ _ (by omega)])); done) | (funext b; simp [wi, wj]; done) | (simp [wi, wj]; done)) (by first | rfl | ((repeat (rw [wi_c _ _ (by omega)])); done) | ((repeat (first | rw [wi_c _ _ (by omega)] | rw [wi_n _ _ (by omega)])); done) | (funext b; simp [wi, wj]; done) | (simp [wi, wj]; done)) u11⟩
        intro t ht
        obtain ⟨v1, v2, v3, v4, v5, v6⟩ := u3 t ht
        by_cases e : t = s
        · subst e
          refine ⟨by rw [wi_s]; decide, by rw [wi_n _ _ (by omega)]; exact v2, by rw [wi_n _ _ (by omega)]; exact v3, by rw [wi_n _ _ (by omega), wi_n _ _ (by omega)]; exact v4, by rw [wi_s, wi_s, if_neg (by decide)], fun i _ _ q => ?_⟩
          rw [wi_s] at q; exact absurd q (by decide)
        · rw [wi_c _ _ (by omega), wi_c _ _ (by omega), wi_n _ _ (by omega)]
          exact ⟨v1, v2, v3, v4, v5, v6⟩
    · rw [if_neg c2] at g5
      have c3 : ¬ 0 ≤ m.1 1 s := by rw [g5]; decide
      exact ⟨_, _, _, by rw [if_neg c2], by rw [if_neg c3], Inv_found 1 hu⟩
  · rw [if_neg c1, if_neg c1]
    exact ⟨-2, x, m, rfl, rfl, hu⟩
theorem e_holds {x : St} {q : Nat} (a b : Int32) (h1 : x.1 q 1 = 0) (h3 : rg (x.1 q 3) 0 400) : fX6_holds q a b x = some (bi (0 ≤ a.toInt ∧ 0 ≤ b.toInt ∧ a.toInt + b.toInt ≤ (x.1 q 3).toInt), x) := by
  unfold fX6_holds bi
  rw [if_pos h1]
  simp only [Int32.lt_iff_toInt_lt, l32_0]
  by_cases c1 : a.toInt < 0
  · rw [if_pos c1, if_neg (by omega)]
  · rw [if_neg c1]
    by_cases c2 : b.toInt < 0
    · rw [if_pos c2, if_neg (by omega)]
    · rw [if_neg c2]
      by_cases c3 : (x.1 q 3).toInt < a.toInt
      · rw [if_pos c3, if_neg (by omega)]
      · rw [if_neg c3, subI (by omega) (by omega)]
        by_cases c4 : (x.1 q 3).toInt - a.toInt < b.toInt
        · rw [if_pos c4, if_neg (by omega)]
        · rw [if_neg c4, if_pos (by omega)]
theorem m400 {a b : Int32} (ha : 0 ≤ a.toInt ∧ a.toInt ≤ 5) (hb : 0 ≤ b.toInt ∧ b.toInt ≤ 400) : (400 * a + b).toInt = 400 * a.toInt + b.toInt := by
  have e : (400 * a).toInt = 400 * a.toInt := by
    rw [mulI (u := 400) (v := 5) (by decide) ha (by decide) (by decide), l32_400]
  rw [addI] <;> rw [e] <;> omega
theorem m400i {a b : Int32} (ha : 0 ≤ a.toInt ∧ a.toInt ≤ 5) (hb : 0 ≤ b.toInt ∧ b.toInt < 400) : ib (400 * a + b) 2400 ∧ nt (400 * a + b) = 400 * nt a + nt b := by
  have e := m400 ha ⟨hb.1, by omega⟩
  refine ⟨ib_of (by omega) (by omega), ?_⟩
  have e1 := nt_i (i := 400 * a + b) (by omega)
  have e2 := nt_i ha.1
  have e3 := nt_i hb.1
  omega
theorem e_lacks {x m : St} (h3 : I_sheet x m) (a1 a2 a3 : Int32) (c : 0 ≤ a1.toInt ∧ a1.toInt ≤ 5) (c2 : 0 ≤ a2.toInt ∧ a2.toInt ≤ 3) : ∃ w, fX11_wrongItem (4 + 2 * nt a1) a2 a3 x = some (w, x) ∧ ((w = 0 ∧ fX12_lacks a1 a2 a3 m = some (0, m) ∧ x.1 (4 + 2 * nt a1) 1 = 0 ∧ x.1 (4 + 2 * nt a1) 2 = a2 ∧ 0 ≤ a3.toInt ∧ a3.toInt < (x.1 (4 + 2 * nt a1) 3).toInt) ∨ (¬ w = 0 ∧ fX12_lacks a1 a2 a3 m = some (-10 - w, wi m 0 4 w) ∧ ¬ -10 - w = 0)) := by
  obtain ⟨hib, hlt, hn⟩ := sh_i c
  unfold fX11_wrongItem fX12_lacks
  simp only [if_pos hib, e_met, bnd_some]
  generalize nt a1 = s at hlt hn
  obtain ⟨g1, g2, g3, g4, g5, g6⟩ := h3 s hlt
  by_cases d1 : x.1 (4 + 2 * s) 1 = 0
  · rw [if_pos d1] at g5
    have d2 : 0 ≤ m.1 1 s := by rw [g5, Int32.le_iff_toInt_le, l32_0]; exact g2.1
    rw [if_pos d1, if_pos d2, g5]
    by_cases d3 : x.1 (4 + 2 * s) 2 = a2
    · rw [if_pos d3, if_pos d3, e_holds _ _ d1 g3, e_in, t64, t64, g4]
      have e : (x.1 (4 + 2 * s) 3 - 1).toInt = (x.1 (4 + 2 * s) 3).toInt - 1 := by rw [subI] <;> rw [l32_1] <;> omega
      simp only [bnd_some, bi_ite, e, l32_0, l32_1, l32_2, l32_3, l32_4, l32_5, l32_6, l32_7, l32_8, l32_9, l32_10, l32_11, l32_12, l32_20, l32_25, l32_30, l32_32, l32_50, l32_63, l32_99, l32_100, l32_120, l32_200, l32_255, l32_256, l32_400, l32_500, l32_1000, l32_2400, l32_4095, l32_10000, l32_1000000, l32_100000000, l32_m1, l32_m2, l32_m3, l32_m4, l64_0, l64_1, l64_2, l64_3, l64_4, l64_5, l64_6, l64_7, l64_8, l64_9, l64_10, l64_11, l64_12, l64_20, l64_25, l64_30, l64_32, l64_50, l64_63, l64_99, l64_100, l64_120, l64_200, l64_255, l64_256, l64_400, l64_500, l64_1000, l64_2400, l64_4095, l64_10000, l64_1000000, l64_100000000, l64_m1, l64_m2, l64_m3, l64_m4]
      by_cases d4 : 0 ≤ a3.toInt ∧ a3.toInt ≤ (x.1 (4 + 2 * s) 3).toInt - 1
      · refine ⟨0, by rw [if_pos (by omega)], Or.inl ⟨rfl, by rw [if_pos d4], d1, d3, d4.1, by omega⟩⟩
      · refine ⟨2, by rw [if_neg (by omega)], Or.inr ⟨by decide, by rw [if_neg d4], by decide⟩⟩
    · rw [if_neg d3, if_neg d3]
      exact ⟨3, rfl, Or.inr ⟨by decide, rfl, by decide⟩⟩
  · rw [if_neg d1] at g5
    have d2 : ¬ 0 ≤ m.1 1 s := by rw [g5]; decide
    rw [if_neg d1, if_neg d2]
    exact ⟨1, rfl, Or.inr ⟨by decide, rfl, by decide⟩⟩
def cutv (f : Int32) (v : Int64) : Int64 := if f = 0 then v.toInt32.toInt8.toInt32.toInt64 else if f = 1 then v.toInt32.toInt16.toInt32.toInt64 else if f = 2 then v.toInt32.toInt64 else v
theorem e_cut (f : Int32) (v : Int64) (m : St) : fX12_cut f v m = some (cutv f v, m) := by
  unfold fX12_cut cutv
  by_cases h0 : f = 0
  · simp only [if_pos h0]
  · by_cases h1 : f = 1
    · simp only [if_neg h0, if_pos h1]
    · by_cases h2 : f = 2
      · simp only [if_neg h0, if_neg h1, if_pos h2]
      · simp only [if_neg h0, if_neg h1, if_neg h2]
theorem e_store {q : Nat} {a : Int32} (v : Int64) (x : St) (ha : ib a 400) : fX6_store q a v x = some ((), wj x (q + 1) (nt a) (cutv (x.1 q 2) v)) := by
  unfold fX6_store cutv
  simp only [if_pos ha, lt_eq]
  by_cases h0 : x.1 q 2 = 0
  · simp only [if_pos h0]
  · by_cases h1 : x.1 q 2 = 1
    · simp only [if_neg h0, if_pos h1]
    · by_cases h2 : x.1 q 2 = 2
      · simp only [if_neg h0, if_neg h1, if_pos h2]
      · simp only [if_neg h0, if_neg h1, if_neg h2]
theorem I_sheet_wj {x m : St} (u3 : I_sheet x m) {s i : Nat} (hs : s < 6) (hi : i < 400) (v : Int64) : I_sheet (wj x (4 + 2 * s + 1) i v) (wj m 3 (400 * s + i) v) := by
  intro t ht
  obtain ⟨v1, v2, v3, v4, v5, v6⟩ := u3 t ht
  refine ⟨v1, v2, v3, v4, v5, fun j hj hjt hl => ?_⟩
  show (if (3 : Nat) = 3 ∧ 400 * t + j = 400 * s + i then v else m.2 3 (400 * t + j)) = if 4 + 2 * t + 1 = 4 + 2 * s + 1 ∧ j = i then v else x.2 (4 + 2 * t + 1) j
  by_cases e : t = s ∧ j = i
  · rw [if_pos (by omega), if_pos (by omega)]
  · rw [if_neg (by omega), if_neg (by omega)]; exact v6 j hj hjt hl
theorem Inv_wj {n : Nat} {x m : St} (hu : Inv n x m) {s i : Nat} (hs : s < 6) (hi : i < 400) (v : Int64) : Inv n (wj x (4 + 2 * s + 1) i v) (wj m 3 (400 * s + i) v) := by
  obtain ⟨u1, u2, u3, u4, u5, u6, u7, u8, u9, u10, u11⟩ := hu
  exact ⟨u1, u2, I_sheet_wj u3 hs hi v, u4, u5, u6, u7, u8, u9, u10, u11⟩
theorem pr_48 (n : Nat) (x m : St) (a1 a2 a3 : Int32) (_ : n < 512) (h : Inv n x m) : ∃ (v : Int64) (x' m' : St), fX11_get a1 a2 a3 x = some (v, x') ∧ fX12_get a1 a2 a3 m = some (v, m') ∧ Inv (n + 1) x' m' := by
  obtain ⟨h1, h2, h3, h4, h5, h6, h7, h8, h9, h10, h11⟩ := id h
  have hu := Inv_up n x m h
  unfold fX11_get fX12_get
  simp only [e_shX, e_shM, e_foX, e_in, bnd_some, bi_ite, lt_eq, t64, l32_0, l32_1, l32_2, l32_3, l32_4, l32_5, l32_6, l32_7, l32_8, l32_9, l32_10, l32_11, l32_12, l32_20, l32_25, l32_30, l32_32, l32_50, l32_63, l32_99, l32_100, l32_120, l32_200, l32_255, l32_256, l32_400, l32_500, l32_1000, l32_2400, l32_4095, l32_10000, l32_1000000, l32_100000000, l32_m1, l32_m2, l32_m3, l32_m4, l64_0, l64_1, l64_2, l64_3, l64_4, l64_5, l64_6, l64_7, l64_8, l64_9, l64_10, l64_11, l64_12, l64_20, l64_25, l64_30, l64_32, l64_50, l64_63, l64_99, l64_100, l64_120, l64_200, l64_255, l64_256, l64_400, l64_500, l64_1000, l64_2400, l64_4095, l64_10000, l64_1000000, l64_100000000, l64_m1, l64_m2, l64_m3, l64_m4]
  by_cases c1 : 0 ≤ a1.toInt ∧ a1.toInt ≤ 5
  · by_cases c2 : 0 ≤ a2.toInt ∧ a2.toInt ≤ 3
    · obtain ⟨hib, hlt, hn⟩ := sh_i c1
      simp only [if_pos c1, if_pos c2, if_pos hib]
      obtain ⟨w, e1, ⟨e2, e3, e4, e5, e6, e7⟩ | ⟨e2, e3, e4⟩⟩ := e_lacks h3 a1 a2 a3 c1 c2
      · obtain ⟨g1, g2, g3, g4, g5, g6⟩ := h3 (nt a1) hlt
        have f1 := m400i c1 (b := a3) ⟨e6, by omega⟩
        have f2 := nt_i e6
        simp only [e1, e3, bnd_some, e2, if_true, if_pos f1.1, if_pos (show ib a3 400 from ib_of e6 (by omega)), f1.2, g6 (nt a3) (by omega) (by omega) e4]
        exact ⟨_, _, _, rfl, rfl, hu⟩
      · refine ⟨-9223372036854775808, wi x 0 11 w, wi m 0 4 w, ?_, ?_, Inv_found w hu⟩
        · rw [e1, bnd_some, if_neg e2]
        · rw [e3, bnd_some, if_neg e4]
    · simp only [if_pos c1, if_neg c2]
      exact ⟨_, x, m, rfl, rfl, hu⟩
  · simp only [if_neg c1]
    exact ⟨_, x, m, rfl, rfl, hu⟩
theorem pr_47 (n : Nat) (x m : St) (a1 a2 a3 : Int32) (a4 : Int64) (_ : n < 512) (h : Inv n x m) : ∃ (v : Int32) (x' m' : St), fX11_put a1 a2 a3 a4 x = some (v, x') ∧ fX12_put a1 a2 a3 a4 m = some (v, m') ∧ Inv (n + 1) x' m' := by
  obtain ⟨h1, h2, h3, h4, h5, h6, h7, h8, h9, h10, h11⟩ := id h
  have hu := Inv_up n x m h
  unfold fX11_put fX12_put
  simp only [e_shX, e_shM, e_foX, e_in, bnd_some, bi_ite, lt_eq, t64, e_found, e_cut, l32_0, l32_1, l32_2, l32_3, l32_4, l32_5, l32_6, l32_7, l32_8, l32_9, l32_10, l32_11, l32_12, l32_20, l32_25, l32_30, l32_32, l32_50, l32_63, l32_99, l32_100, l32_120, l32_200, l32_255, l32_256, l32_400, l32_500, l32_1000, l32_2400, l32_4095, l32_10000, l32_1000000, l32_100000000, l32_m1, l32_m2, l32_m3, l32_m4, l64_0, l64_1, l64_2, l64_3, l64_4, l64_5, l64_6, l64_7, l64_8, l64_9, l64_10, l64_11, l64_12, l64_20, l64_25, l64_30, l64_32, l64_50, l64_63, l64_99, l64_100, l64_120, l64_200, l64_255, l64_256, l64_400, l64_500, l64_1000, l64_2400, l64_4095, l64_10000, l64_1000000, l64_100000000, l64_m1, l64_m2, l64_m3, l64_m4]
  by_cases c1 : 0 ≤ a1.toInt ∧ a1.toInt ≤ 5
  · by_cases c2 : 0 ≤ a2.toInt ∧ a2.toInt ≤ 3
    · obtain ⟨hib, hlt, hn⟩ := sh_i c1
      simp only [if_pos c1, if_pos c2, if_pos hib]
      obtain ⟨w, e1, ⟨e2, e3, e4, e5, e6, e7⟩ | ⟨e2, e3, e4⟩⟩ := e_lacks h3 a1 a2 a3 c1 c2
      · obtain ⟨g1, g2, g3, g4, g5, g6⟩ := h3 (nt a1) hlt
        have f1 := m400i c1 (b := a3) ⟨e6, by omega⟩
        have f2 := nt_i e6
        simp only [e1, e3, bnd_some, e2, if_true, if_pos f1.1, e_store _ _ (show ib a3 400 from ib_of e6 (by omega)), f1.2, e5]
        exact ⟨_, _, _, rfl, rfl, Inv_wj hu hlt (by omega) _⟩
      · refine ⟨-10 - w, wi x 0 11 w, wi m 0 4 w, ?_, ?_, Inv_found w hu⟩
        · rw [e1, bnd_some, if_neg e2]
        · rw [e3, bnd_some, if_neg e4]
    · simp only [if_pos c1, if_neg c2]
      exact ⟨_, x, m, rfl, rfl, hu⟩
  · simp only [if_neg c1]
    exact ⟨_, x, m, rfl, rfl, hu⟩
