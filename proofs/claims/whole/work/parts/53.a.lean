theorem l32_0 : (0 : Int32).toInt = 0 := by decide
theorem l32_1 : (1 : Int32).toInt = 1 := by decide
theorem l32_2 : (2 : Int32).toInt = 2 := by decide
theorem l32_3 : (3 : Int32).toInt = 3 := by decide
theorem l32_4 : (4 : Int32).toInt = 4 := by decide
theorem l32_5 : (5 : Int32).toInt = 5 := by decide
theorem l32_6 : (6 : Int32).toInt = 6 := by decide
theorem l32_7 : (7 : Int32).toInt = 7 := by decide
theorem l32_8 : (8 : Int32).toInt = 8 := by decide
theorem l32_9 : (9 : Int32).toInt = 9 := by decide
theorem l32_10 : (10 : Int32).toInt = 10 := by decide
theorem l32_11 : (11 : Int32).toInt = 11 := by decide
theorem l32_12 : (12 : Int32).toInt = 12 := by decide
theorem l32_20 : (20 : Int32).toInt = 20 := by decide
theorem l32_25 : (25 : Int32).toInt = 25 := by decide
theorem l32_30 : (30 : Int32).toInt = 30 := by decide
theorem l32_32 : (32 : Int32).toInt = 32 := by decide
theorem l32_50 : (50 : Int32).toInt = 50 := by decide
theorem l32_63 : (63 : Int32).toInt = 63 := by decide
theorem l32_99 : (99 : Int32).toInt = 99 := by decide
theorem l32_100 : (100 : Int32).toInt = 100 := by decide
theorem l32_120 : (120 : Int32).toInt = 120 := by decide
theorem l32_200 : (200 : Int32).toInt = 200 := by decide
theorem l32_255 : (255 : Int32).toInt = 255 := by decide
theorem l32_256 : (256 : Int32).toInt = 256 := by decide
theorem l32_400 : (400 : Int32).toInt = 400 := by decide
theorem l32_500 : (500 : Int32).toInt = 500 := by decide
theorem l32_1000 : (1000 : Int32).toInt = 1000 := by decide
theorem l32_2400 : (2400 : Int32).toInt = 2400 := by decide
theorem l32_4095 : (4095 : Int32).toInt = 4095 := by decide
theorem l32_10000 : (10000 : Int32).toInt = 10000 := by decide
theorem l32_1000000 : (1000000 : Int32).toInt = 1000000 := by decide
theorem l32_100000000 : (100000000 : Int32).toInt = 100000000 := by decide
theorem l32_m1 : (-1 : Int32).toInt = -1 := by decide
theorem l32_m2 : (-2 : Int32).toInt = -2 := by decide
theorem l32_m3 : (-3 : Int32).toInt = -3 := by decide
theorem l32_m4 : (-4 : Int32).toInt = -4 := by decide
theorem l64_0 : (0 : Int64).toInt = 0 := by decide
theorem l64_1 : (1 : Int64).toInt = 1 := by decide
theorem l64_2 : (2 : Int64).toInt = 2 := by decide
theorem l64_3 : (3 : Int64).toInt = 3 := by decide
theorem l64_4 : (4 : Int64).toInt = 4 := by decide
theorem l64_5 : (5 : Int64).toInt = 5 := by decide
theorem l64_6 : (6 : Int64).toInt = 6 := by decide
theorem l64_7 : (7 : Int64).toInt = 7 := by decide
theorem l64_8 : (8 : Int64).toInt = 8 := by decide
theorem l64_9 : (9 : Int64).toInt = 9 := by decide
theorem l64_10 : (10 : Int64).toInt = 10 := by decide
theorem l64_11 : (11 : Int64).toInt = 11 := by decide
theorem l64_12 : (12 : Int64).toInt = 12 := by decide
theorem l64_20 : (20 : Int64).toInt = 20 := by decide
theorem l64_25 : (25 : Int64).toInt = 25 := by decide
theorem l64_30 : (30 : Int64).toInt = 30 := by decide
theorem l64_32 : (32 : Int64).toInt = 32 := by decide
theorem l64_50 : (50 : Int64).toInt = 50 := by decide
theorem l64_63 : (63 : Int64).toInt = 63 := by decide
theorem l64_99 : (99 : Int64).toInt = 99 := by decide
theorem l64_100 : (100 : Int64).toInt = 100 := by decide
theorem l64_120 : (120 : Int64).toInt = 120 := by decide
theorem l64_200 : (200 : Int64).toInt = 200 := by decide
theorem l64_255 : (255 : Int64).toInt = 255 := by decide
theorem l64_256 : (256 : Int64).toInt = 256 := by decide
theorem l64_400 : (400 : Int64).toInt = 400 := by decide
theorem l64_500 : (500 : Int64).toInt = 500 := by decide
theorem l64_1000 : (1000 : Int64).toInt = 1000 := by decide
theorem l64_2400 : (2400 : Int64).toInt = 2400 := by decide
theorem l64_4095 : (4095 : Int64).toInt = 4095 := by decide
theorem l64_10000 : (10000 : Int64).toInt = 10000 := by decide
theorem l64_1000000 : (1000000 : Int64).toInt = 1000000 := by decide
theorem l64_100000000 : (100000000 : Int64).toInt = 100000000 := by decide
theorem l64_m1 : (-1 : Int64).toInt = -1 := by decide
theorem l64_m2 : (-2 : Int64).toInt = -2 := by decide
theorem l64_m3 : (-3 : Int64).toInt = -3 := by decide
theorem l64_m4 : (-4 : Int64).toInt = -4 := by decide

theorem ite_mrg {α : Type} {c d : Prop} [Decidable c] [Decidable d] (A B : α) : (if c then (if d then B else A) else A) = if c ∧ d then B else A := by
  by_cases hc : c <;> by_cases hd : d <;> simp [hc, hd]
theorem bi_ite {α : Type} (p : Prop) [Decidable p] (A B : α) : (if bi p = 0 then A else B) = if p then B else A := by
  by_cases h : p
  · rw [if_neg (by rw [bi_0]; exact not_not_intro h), if_pos h]
  · rw [if_pos (by rw [bi_0]; exact h), if_neg h]
theorem bi_nz (p : Prop) [Decidable p] : (¬ bi p = 0) ↔ p := by rw [bi_0]; exact Classical.not_not
/-! ===== land, pass ===== -/
theorem wi_s (S : St) (k j : Nat) (v : Int32) : (wi S k j v).1 k j = v := by simp [wi]
theorem wi_n (S : St) {k j a b : Nat} (v : Int32) (h : ¬ (a = k ∧ b = j)) : (wi S k j v).1 a b = S.1 a b := by simp only [wi]; rw [if_neg h]
theorem wi_c (S : St) {k j a : Nat} (v : Int32) (h : ¬ a = k) : (wi S k j v).1 a = S.1 a := by funext b; exact wi_n S v (fun q => h q.1)
theorem I_told_c {x x' m m' : St} (hx : x'.1 2 = x.1 2) (hm : m'.1 5 = m.1 5) (h : I_told x m) : I_told x' m' := by unfold I_told; rw [hx, hm]; exact h
theorem I_land_c {x x' m m' : St} (h1 : x'.1 16 = x.1 16) (h2 : m'.1 0 5 = m.1 0 5) (h3 : m'.1 0 6 = m.1 0 6) (h : I_land x m) : I_land x' m' := by unfold I_land; rw [h1, h2, h3]; exact h
theorem I_sheet_c {x x' m m' : St} (h1 : ∀ k, 4 ≤ k → k ≤ 15 → x'.1 k = x.1 k) (h2 : ∀ k, 4 ≤ k → k ≤ 15 → x'.2 k = x.2 k) (h3 : m'.1 1 = m.1 1) (h4 : m'.1 2 = m.1 2) (h5 : m'.2 3 = m.2 3) (h : I_sheet x m) : I_sheet x' m' := by
  intro s hs; rw [h1 _ (by omega) (by omega), h2 _ (by omega) (by omega), h3, h4, h5]; exact h s hs
theorem I_tick_c {n : Nat} {x x' m m' : St} (h1 : x'.1 17 7 = x.1 17 7) (h2 : m'.1 0 8 = m.1 0 8) (h : I_tick n x m) : I_tick n x' m' := by unfold I_tick; rw [h1, h2]; exact h
theorem I_s1_c {x x' m m' : St} {i : Nat} (h0 : x'.1 16 = x.1 16) (h2 : x'.1 (19 + i) = x.1 (19 + i)) (h4 : ∀ j, j < 11 → m'.1 (6 + j) i = m.1 (6 + j) i) (h : I_s1 x m i) : I_s1 x' m' i := by
  unfold I_s1 isC at h ⊢; rw [h0, h2]; exact ⟨fun j hj => by rw [h4 j hj]; exact h.1 j hj, h.2⟩
theorem I_send_c {x x' m m' : St} (h0 : x'.1 16 = x.1 16) (h1 : x'.1 17 6 = x.1 17 6) (h2 : ∀ k, 19 ≤ k → k ≤ 38 → x'.1 k = x.1 k) (h3 : m'.1 0 9 = m.1 0 9) (h4 : ∀ k, 6 ≤ k → k ≤ 16 → m'.1 k = m.1 k) (h : I_send x m) : I_send x' m' := by
  unfold I_send; rw [h1, h3]
  refine ⟨h.1, h.2.1, fun i hi hit => I_s1_c h0 (h2 _ (by omega) (by omega)) (fun j hj => by rw [h4 _ (by omega) (by omega)]) (h.2.2.1 i hi hit), fun i hi hit => ?_⟩
  have := h.2.2.2 i hi hit
  unfold I_s0 at this ⊢; rw [h2 _ (by omega) (by omega)]; exact this
theorem I_lis_c {x x' m m' : St} (h1 : x'.1 53 = x.1 53) (h2 : x'.1 54 = x.1 54) (h3 : x'.1 55 = x.1 55) (h4 : m'.1 21 = m.1 21) (h5 : m'.1 22 = m.1 22) (h6 : m'.1 23 = m.1 23) (h : I_lis x m) : I_lis x' m' := by intro i hi; rw [h1, h2, h3, h4, h5, h6]; exact h i hi
theorem I_bid_c {x x' m m' : St} (h1 : x'.1 56 = x.1 56) (h2 : x'.1 57 = x.1 57) (h3 : x'.1 58 = x.1 58) (h4 : m'.1 0 30 = m.1 0 30) (h5 : m'.1 25 = m.1 25) (h6 : m'.1 26 = m.1 26) (h : I_bid x m) : I_bid x' m' := by unfold I_bid; rw [h1, h2, h3, h4, h5, h6]; exact h
theorem I_text_c {x x' m m' : St} (h1 : x'.1 59 7 = x.1 59 7) (h2 : x'.1 60 = x.1 60) (h4 : m'.1 0 34 = m.1 0 34) (h5 : m'.1 27 = m.1 27) (h : I_text x m) : I_text x' m' := by unfold I_text; rw [h1, h2, h4, h5]; exact h
theorem I_box_c {x x' m m' : St} (h0 : x'.1 16 = x.1 16) (h1 : x'.1 67 = x.1 67) (h2 : x'.1 68 = x.1 68) (h3 : x'.1 69 = x.1 69) (h4 : m'.1 0 43 = m.1 0 43) (h5 : m'.1 34 = m.1 34) (h6 : m'.1 35 = m.1 35) (h : I_box x m) : I_box x' m' := by unfold I_box isC at h ⊢; rw [h0, h1, h2, h3, h4, h5, h6]; exact h
theorem I_tow_c {x x' m m' : St} (h0 : x'.1 16 = x.1 16) (h1 : x'.1 70 9 = x.1 70 9) (h2 : x'.1 70 10 = x.1 70 10) (h3 : ∀ k, 71 ≤ k → k ≤ 76 → x'.1 k = x.1 k) (h4 : m'.1 0 46 = m.1 0 46) (h5 : m'.1 0 51 = m.1 0 51) (h6 : ∀ k, 36 ≤ k → k ≤ 41 → m'.1 k = m.1 k) (h : I_tow x m) : I_tow x' m' := by
  unfold I_tow I_site isC at h ⊢
  rw [h0, h1, h2, h3 71 (by omega) (by omega), h3 72 (by omega) (by omega), h3 73 (by omega) (by omega), h3 74 (by omega) (by omega), h3 75 (by omega) (by omega), h3 76 (by omega) (by omega), h4, h5, h6 36 (by omega) (by omega), h6 37 (by omega) (by omega), h6 38 (by omega) (by omega), h6 39 (by omega) (by omega), h6 40 (by omega) (by omega), h6 41 (by omega) (by omega)]
  exact h
theorem I_find_c {x x' m m' : St} (h1 : x'.1 0 11 = x.1 0 11) (h2 : m'.1 0 4 = m.1 0 4) (h : I_find x m) : I_find x' m' := by unfold I_find; rw [h1, h2]; exact h
theorem pr_0 (n : Nat) (x m : St) (a1 a2 : Int32) (_ : n < 512) (h : Inv n x m) : ∃ (v : Int32) (x' m' : St), fX11_land a1 a2 x = some (v, x') ∧ fX12_land a1 a2 m = some (v, m') ∧ Inv (n + 1) x' m' := by
  obtain ⟨h1, h2, h3, h4, h5, h6, h7, h8, h9, h10, h11⟩ := id h
  have hu := Inv_up n x m h
  unfold fX11_land fX12_land
  simp only [e_within, e_in, bnd_some, lt_eq, jn_eq, bi_ite, ite_mrg, t64, l32_0, l32_1, l32_2, l32_3, l32_4, l32_5, l32_6, l32_7, l32_8, l32_9, l32_10, l32_11, l32_12, l32_20, l32_25, l32_30, l32_32, l32_50, l32_63, l32_99, l32_100, l32_120, l32_200, l32_255, l32_256, l32_400, l32_500, l32_1000, l32_2400, l32_4095, l32_10000, l32_1000000, l32_100000000, l32_m1, l32_m2, l32_m3, l32_m4, l64_0, l64_1, l64_2, l64_3, l64_4, l64_5, l64_6, l64_7, l64_8, l64_9, l64_10, l64_11, l64_12, l64_20, l64_25, l64_30, l64_32, l64_50, l64_63, l64_99, l64_100, l64_120, l64_200, l64_255, l64_256, l64_400, l64_500, l64_1000, l64_2400, l64_4095, l64_10000, l64_1000000, l64_100000000, l64_m1, l64_m2, l64_m3, l64_m4]
  by_cases c1 : (1 ≤ a1.toInt ∧ a1.toInt ≤ 20) ∧ 1 ≤ a2.toInt ∧ a2.toInt ≤ 20
  · obtain ⟨c1, c2⟩ := c1
    have g1 := h5.2.1; have g2 := h9.2.1; have g3 := h10.2.1; have g4 := h10.2.2.2.1
    have e1 : (m.1 0 9 + m.1 0 43).toInt = (x.1 17 6).toInt + (x.1 67 3).toInt := by rw [h5.1, h9.1]; exact addI (by omega) (by omega)
    have e2 : (m.1 0 9 + m.1 0 43 + m.1 0 46).toInt = (x.1 17 6).toInt + (x.1 67 3).toInt + (x.1 70 9).toInt := by rw [addI, e1, h10.1] <;> rw [e1, h10.1] <;> omega
    have e3 : (m.1 0 9 + m.1 0 43 + m.1 0 46 + m.1 0 51).toInt = (x.1 17 6).toInt + (x.1 67 3).toInt + (x.1 70 9).toInt + (x.1 70 10).toInt := by rw [addI, e2, h10.2.2.1] <;> rw [e2, h10.2.2.1] <;> omega
    simp only [Int32.lt_iff_toInt_lt, Int32.le_iff_toInt_le, l32_0, l32_1, l32_2, l32_3, l32_4, l32_5, l32_6, l32_7, l32_8, l32_9, l32_10, l32_11, l32_12, l32_20, l32_25, l32_30, l32_32, l32_50, l32_63, l32_99, l32_100, l32_120, l32_200, l32_255, l32_256, l32_400, l32_500, l32_1000, l32_2400, l32_4095, l32_10000, l32_1000000, l32_100000000, l32_m1, l32_m2, l32_m3, l32_m4, l64_0, l64_1, l64_2, l64_3, l64_4, l64_5, l64_6, l64_7, l64_8, l64_9, l64_10, l64_11, l64_12, l64_20, l64_25, l64_30, l64_32, l64_50, l64_63, l64_99, l64_100, l64_120, l64_200, l64_255, l64_256, l64_400, l64_500, l64_1000, l64_2400, l64_4095, l64_10000, l64_1000000, l64_100000000, l64_m1, l64_m2, l64_m3, l64_m4, e3]
    by_cases c3 : (x.1 17 6).toInt + (x.1 67 3).toInt + (x.1 70 9).toInt + (x.1 70 10).toInt ≤ 0
    · refine ⟨1, wi (wi x 16 3 a1) 16 4 a2, wi (wi m 0 5 a1) 0 6 a2, ?_, ?_, ?_⟩
      · rw [if_pos ⟨c1, c2⟩, if_neg (by omega), if_neg (by omega), if_neg (by omega), if_pos (by omega)]
      · rw [if_pos ⟨c1, c2⟩, if_pos c3]
      · obtain ⟨u1, u2, u3, u4, u5, u6, u7, u8, u9, u10, u11⟩ := hu
        have k17 : ∀ i : Nat, ¬ (i : Int) < (x.1 17 6).toInt := fun i => by omega
        have k67 : ∀ i : Nat, ¬ (i : Int) < (x.1 67 3).toInt := fun i => by omega
        have k9 : ∀ i : Nat, ¬ (i : Int) < (x.1 70 9).toInt := fun i => by omega
        have k10 : ∀ i : Nat, ¬ (i : Int) < (x.1 70 10).toInt := fun i => by omega
        refine ⟨I_told_c (by first | rfl | ((repeat (rw [wi_c _ _ (by omega)])); done) | ((repeat (first | rw [wi_c _ _ (by omega)] | rw [wi_n _ _ (by omega)])); done) | (funext b; simp [wi, wj]; done) | (simp [wi, wj]; done)) (by first | rfl | ((repeat (rw [wi_c _ _ (by omega)])); done) | ((repeat (first | rw [wi_c _ _ (by omega)] | rw [wi_n _ _ (by omega)])); done) | (funext b; simp [wi, wj]; done) | (simp [wi, wj]; done)) u1, ?_, I_sheet_c (fun k hk1 hk2 => by first | rfl | ((repeat (rw [wi_c _ _ (by omega)])); done)) (fun k hk1 hk2 => by first | rfl | ((repeat (rw [wi_c _ _ (by omega)])); done)) (by first | rfl | ((repeat (rw [wi_c _ _ (by omega)])); done) | ((repeat (first | rw [wi_c _ _ (by omega)] | rw [wi_n _ _ (by omega)])); done) | (funext b; simp [wi, wj]; done) | (simp [wi, wj]; done)) (by first | rfl | ((repeat (rw [wi_c _ _ (by omega)])); done) | ((repeat (first | rw [wi_c _ _ (by omega)] | rw [wi_n _ _ (by omega)])); done) | (funext b; simp [wi, wj]; done) | (simp [wi, wj]; done)) (by first | rfl | ((repeat (rw [wi_c _ _ (by omega)])); done) | ((repeat (first | rw [wi_c _ _ (by omega)] | rw [wi_n _ _ (by omega)])); done) | (funext b; simp [wi, wj]; done) | (simp [wi, wj]; done)) u3, I_tick_c (by first | rfl | ((repeat (rw [wi_c _ _ (by omega)])); done) | ((repeat (first | rw [wi_c _ _ (by omega)] | rw [wi_n _ _ (by omega)])); done) | (funext b; simp [wi, wj]; done) | (simp [wi, wj]; done)) (by first | rfl | ((repeat (rw [wi_c _ _ (by omega)])); done) | ((repeat (first | rw [wi_c _ _ (by omega)] | rw [wi_n _ _ (by omega)])); done) | (funext b; simp [wi, wj]; done) | (simp [wi, wj]; done)) u4, ?_, I_lis_c (by first | rfl | ((repeat (rw [wi_c _ _ (by omega)])); done) | ((repeat (first | rw [wi_c _ _ (by omega)] | rw [wi_n _ _ (by omega)])); done) | (funext b; simp [wi, wj]; done) | (simp [wi, wj]; done)) (by first | rfl | ((repeat (rw [wi_c _ _ (by omega)])); done) | ((repeat (first | rw [wi_c _ _ (by omega)] | rw [wi_n _ _ (by omega)])); done) | (funext b; simp [wi, wj]; done) | (simp [wi, wj]; done)) (by first | rfl | ((repeat (rw [wi_c _ _ (by omega)])); done) | ((repeat (first | rw [wi_c _ _ (by omega)] | rw [wi_n _ _ (by omega)])); done) | (funext b; simp [wi, wj]; done) | (simp [wi, wj]; done)) (by first | rfl | ((repeat (rw [wi_c _ _ (by omega)])); done) | ((repeat (first | rw [wi_c _ _ (by omega)] | rw [wi_n _ _ (by omega)])); done) | (funext b; simp [wi, wj]; done) | (simp [wi, wj]; done)) (by first | rfl | ((repeat (rw [wi_c _ _ (by omega)])); done) | ((repeat (first | rw [wi_c _ _ (by omega)] | rw [wi_n _ _ (by omega)])); done) | (funext b; simp [wi, wj]; done) | (simp [wi, wj]; done)) (by first | rfl | ((repeat (rw [wi_c _ _ (by omega)])); done) | ((repeat (first | rw [wi_c _ _ (by omega)] | rw [wi_n _ _ (by omega)])); done) | (funext b; simp [wi, wj]; done) | (simp [wi, wj]; done)) u6, I_bid_c (by first | rfl | ((repeat (rw [wi_c _ _ (by omega)])); done) | ((repeat (first | rw [wi_c _ _ (by omega)] | rw [wi_n _ _ (by omega)])); done) | (funext b; simp [wi, wj]; done) | (simp [wi, wj]; done)) (by first | rfl | ((repeat (rw [wi_c _ _ (by omega)])); done) | ((repeat (first | rw [wi_c _ _ (by omega)] | rw [wi_n _ _ (by omega)])); done) | (funext b; simp [wi, wj]; done) | (simp [wi, wj]; done)) (by first | rfl | ((repeat (rw [wi_c _ _ (by omega)])); done) | ((repeat (first | rw [wi_c _ _ (by omega)] | rw [wi_n _ _ (by omega)])); done) | (funext b; simp [wi, wj]; done) | (simp [wi, wj]; done)) (by first | rfl | ((repeat (rw [wi_c _ _ (by omega)])); done) | ((repeat (first | rw [wi_c _ _ (by omega)] | rw [wi_n _ _ (by omega)])); done) | (funext b; simp [wi, wj]; done) | (simp [wi, wj]; done)) (by first | rfl | ((repeat (rw [wi_c _ _ (by omega)])); done) | ((repeat (first | rw [wi_c _ _ (by omega)] | rw [wi_n _ _ (by omega)])); done) | (funext b; simp [wi, wj]; done) | (simp [wi, wj]; done)) (by first | rfl | ((repeat (rw [wi_c _ _ (by omega)])); done) | ((repeat (first | rw [wi_c _ _ (by omega)] | rw [wi_n _ _ (by omega)])); done) | (funext b; simp [wi, wj]; done) | (simp [wi, wj]; done)) u7, I_text_c (by first | rfl | ((repeat (rw [wi_c _ _ (by omega)])); done) | ((repeat (first | rw [wi_c _ _ (by omega)] | rw [wi_n _ _ (by omega)])); done) | (funext b; simp [wi, wj]; done) | (simp [wi, wj]; done)) (by first | rfl | ((repeat (rw [wi_c _ _ (by omega)])); done) | ((repeat (first | rw [wi_c _ _ (by omega)] | rw [wi_n _ _ (by omega)])); done) | (funext b; simp [wi, wj]; done) | (simp [wi, wj]; done)) (by first | rfl | ((repeat (rw [wi_c _ _ (by omega)])); done) | ((repeat (first | rw [wi_c _ _ (by omega)] | rw [wi_n _ _ (by omega)])); done) | (funext b; simp [wi, wj]; done) | (simp [wi, wj]; done)) (by first | rfl | ((repeat (rw [wi_c _ _ (by omega)])); done) | ((repeat (first | rw [wi_c _ _ (by omega)] | rw [wi_n _ _ (by omega)])); done) | (funext b; simp [wi, wj]; done) | (simp [wi, wj]; done)) u8, ?_, ?_, I_find_c (by first | rfl | ((repeat (rw [wi_c _ _ (by omega)])); done) | ((repeat (first | rw [wi_c _ _ (by omega)] | rw [wi_n _ _ (by omega)])); done) | (funext b; simp [wi, wj]; done) | (simp [wi, wj]; done)) (by first | rfl | ((repeat (rw [wi_c _ _ (by omega)])); done) | ((repeat (first | rw [wi_c _ _ (by omega)] | rw [wi_n _ _ (by omega)])); done) | (funext b; simp [wi, wj]; done) | (simp [wi, wj]; done)) u11⟩
        · exact ⟨by simp [wi], by simp [wi], by simpa [wi] using c1, by simpa [wi] using c2⟩
        · refine ⟨by simpa [wi] using u5.1, by simpa [wi] using u5.2.1, fun i hi hit => absurd hit (by simpa [wi] using k17 i), fun i hi hit => ?_⟩
          unfold I_s0; rw [wi_c _ _ (by omega), wi_c _ _ (by omega)]; exact u5.2.2.2 i hi (k17 i)
        · exact ⟨by simpa [wi] using u9.1, by simpa [wi] using u9.2.1, fun i hi hit => absurd hit (by simpa [wi] using k67 i), fun i hi hit => by simpa [wi] using u9.2.2.2 i hi (k67 i)⟩
        · exact ⟨by simpa [wi] using u10.1, by simpa [wi] using u10.2.1, by simpa [wi] using u10.2.2.1, by simpa [wi] using u10.2.2.2.1, by simpa [wi] using u10.2.2.2.2.1, fun i hi hit => absurd hit (by simpa [wi] using k9 i), fun i hi hit => absurd hit (by simpa [wi] using k10 i)⟩
    · refine ⟨-3, x, m, ?_, ?_, hu⟩
      · rw [if_pos ⟨c1, c2⟩]
        by_cases d1 : 0 < (x.1 17 6).toInt
        · rw [if_pos d1]
        · rw [if_neg d1]
          by_cases d2 : 0 < (x.1 67 3).toInt
          · rw [if_pos d2]
          · rw [if_neg d2]
            by_cases d3 : 0 < (x.1 70 9).toInt
            · rw [if_pos d3]
            · rw [if_neg d3, if_neg (by omega)]
      · rw [if_pos ⟨c1, c2⟩, if_neg c3]
  · refine ⟨-2, x, m, ?_, ?_, hu⟩
    · rw [if_neg c1]
    · rw [if_neg c1]
theorem pr_4 (n : Nat) (x m : St) (a1 : Int32) (hn : n < 512) (h : Inv n x m) : ∃ (v : Int32) (x' m' : St), fX11_pass a1 x = some (v, x') ∧ fX12_pass a1 m = some (v, m') ∧ Inv (n + 1) x' m' := by
  obtain ⟨h1, h2, h3, h4, h5, h6, h7, h8, h9, h10, h11⟩ := id h
  have hu := Inv_up n x m h
  unfold fX11_pass fX12_pass
  simp only [e_within, e_in, bnd_some, lt_eq, jn_eq, bi_ite, ite_mrg, t64, l32_0, l32_1, l32_2, l32_3, l32_4, l32_5, l32_6, l32_7, l32_8, l32_9, l32_10, l32_11, l32_12, l32_20, l32_25, l32_30, l32_32, l32_50, l32_63, l32_99, l32_100, l32_120, l32_200, l32_255, l32_256, l32_400, l32_500, l32_1000, l32_2400, l32_4095, l32_10000, l32_1000000, l32_100000000, l32_m1, l32_m2, l32_m3, l32_m4, l64_0, l64_1, l64_2, l64_3, l64_4, l64_5, l64_6, l64_7, l64_8, l64_9, l64_10, l64_11, l64_12, l64_20, l64_25, l64_30, l64_32, l64_50, l64_63, l64_99, l64_100, l64_120, l64_200, l64_255, l64_256, l64_400, l64_500, l64_1000, l64_2400, l64_4095, l64_10000, l64_1000000, l64_100000000, l64_m1, l64_m2, l64_m3, l64_m4]
  by_cases c1 : 1 ≤ a1.toInt ∧ a1.toInt ≤ 1000
  · refine ⟨x.1 17 7 + a1, wi x 17 7 (x.1 17 7 + a1), wi m 0 8 (m.1 0 8 + a1), ?_, ?_, ?_⟩
    · rw [if_pos c1, wi_s]
    · rw [if_pos c1, wi_s, h4.1]
    · obtain ⟨u1, u2, u3, u4, u5, u6, u7, u8, u9, u10, u11⟩ := hu
      refine ⟨I_told_c (by first | rfl | ((repeat (rw [wi_c _ _ (by omega)])); done) | ((repeat (first | rw [wi_c _ _ (by omega)] | rw [wi_n _ _ (by omega)])); done) | (funext b; simp [wi, wj]; done) | (simp [wi, wj]; done)) (by first | rfl | ((repeat (rw [wi_c _ _ (by omega)])); done) | ((repeat (first | rw [wi_c _ _ (by omega)] | rw [wi_n _ _ (by omega)])); done) | (funext b; simp [wi, wj]; done) | (simp [wi, wj]; done)) u1, I_land_c (by first | rfl | ((repeat (rw [wi_c _ _ (by omega)])); done) | ((repeat (first | rw [wi_c _ _ (by omega)] | rw [wi_n _ _ (by omega)])); done) | (funext b; simp [wi, wj]; done) | (simp [wi, wj]; done)) (by first | rfl | ((repeat (rw [wi_c _ _ (by omega)])); done) | ((repeat (first | rw [wi_c _ _ (by omega)] | rw [wi_n _ _ (by omega)])); done) | (funext b; simp [wi, wj]; done) | (simp [wi, wj]; done)) (by first | rfl | ((repeat (rw [wi_c _ _ (by omega)])); done) | ((repeat (first | rw [wi_c _ _ (by omega)] | rw [wi_n _ _ (by omega)])); done) | (funext b; simp [wi, wj]; done) | (simp [wi, wj]; done)) u2, I_sheet_c (fun k hk1 hk2 => by first | rfl | ((repeat (rw [wi_c _ _ (by omega)])); done)) (fun k hk1 hk2 => by first | rfl | ((repeat (rw [wi_c _ _ (by omega)])); done)) (by first | rfl | ((repeat (rw [wi_c _ _ (by omega)])); done) | ((repeat (first | rw [wi_c _ _ (by omega)] | rw [wi_n _ _ (by omega)])); done) | (funext b; simp [wi, wj]; done) | (simp [wi, wj]; done)) (by first | rfl | ((repeat (rw [wi_c _ _ (by omega)])); done) | ((repeat (first | rw [wi_c _ _ (by omega)] | rw [wi_n _ _ (by omega)])); done) | (funext b; simp [wi, wj]; done) | (simp [wi, wj]; done)) (by first | rfl | ((repeat (rw [wi_c _ _ (by omega)])); done) | ((repeat (first | rw [wi_c _ _ (by omega)] | rw [wi_n _ _ (by omega)])); done) | (funext b; simp [wi, wj]; done) | (simp [wi, wj]; done)) u3, ?_, I_send_c (by first | rfl | ((repeat (rw [wi_c _ _ (by omega)])); done) | ((repeat (first | rw [wi_c _ _ (by omega)] | rw [wi_n _ _ (by omega)])); done) | (funext b; simp [wi, wj]; done) | (simp [wi, wj]; done)) (by first | rfl | ((repeat (rw [wi_c _ _ (by omega)])); done) | ((repeat (first | rw [wi_c _ _ (by omega)] | rw [wi_n _ _ (by omega)])); done) | (funext b; simp [wi, wj]; done) | (simp [wi, wj]; done)) (fun k hk1 hk2 => by first | rfl | ((repeat (rw [wi_c _ _ (by omega)])); done)) (by first | rfl | ((repeat (rw [wi_c _ _ (by omega)])); done) | ((repeat (first | rw [wi_c _ _ (by omega)] | rw [wi_n _ _ (by omega)])); done) | (funext b; simp [wi, wj]; done) | (simp [wi, wj]; done)) (fun k hk1 hk2 => by first | rfl | ((repeat (rw [wi_c _ _ (by omega)])); done)) u5, I_lis_c (by first | rfl | ((repeat (rw [wi_c _ _ (by omega)])); done) | ((repeat (first | rw [wi_c _ _ (by omega)] | rw [wi_n _ _ (by omega)])); done) | (funext b; simp [wi, wj]; done) | (simp [wi, wj]; done)) (by first | rfl | ((repeat (rw [wi_c _ _ (by omega)])); done) | ((repeat (first | rw [wi_c _ _ (by omega)] | rw [wi_n _ _ (by omega)])); done) | (funext b; simp [wi, wj]; done) | (simp [wi, wj]; done)) (by first | rfl | ((repeat (rw [wi_c _ _ (by omega)])); done) | ((repeat (first | rw [wi_c _ _ (by omega)] | rw [wi_n _ _ (by omega)])); done) | (funext b; simp [wi, wj]; done) | (simp [wi, wj]; done)) (by first | rfl | ((repeat (rw [wi_c _ _ (by omega)])); done) | ((repeat (first | rw [wi_c _ _ (by omega)] | rw [wi_n _ _ (by omega)])); done) | (funext b; simp [wi, wj]; done) | (simp [wi, wj]; done)) (by first | rfl | ((repeat (rw [wi_c _ _ (by omega)])); done) | ((repeat (first | rw [wi_c _ _ (by omega)] | rw [wi_n _ _ (by omega)])); done) | (funext b; simp [wi, wj]; done) | (simp [wi, wj]; done)) (by first | rfl | ((repeat (rw [wi_c _ _ (by omega)])); done) | ((repeat (first | rw [wi_c _ _ (by omega)] | rw [wi_n _ _ (by omega)])); done) | (funext b; simp [wi, wj]; done) | (simp [wi, wj]; done)) u6, I_bid_c (by first | rfl | ((repeat (rw [wi_c _ _ (by omega)])); done) | ((repeat (first | rw [wi_c _ _ (by omega)] | rw [wi_n _ _ (by omega)])); done) | (funext b; simp [wi, wj]; done) | (simp [wi, wj]; done)) (by first | rfl | ((repeat (rw [wi_c _ _ (by omega)])); done) | ((repeat (first | rw [wi_c _ _ (by omega)] | rw [wi_n _ _ (by omega)])); done) | (funext b; simp [wi, wj]; done) | (simp [wi, wj]; done)) (by first | rfl | ((repeat (rw [wi_c _ _ (by omega)])); done) | ((repeat (first | rw [wi_c _ _ (by omega)] | rw [wi_n _ _ (by omega)])); done) | (funext b; simp [wi, wj]; done) | (simp [wi, wj]; done)) (by first | rfl | ((repeat (rw [wi_c _ _ (by omega)])); done) | ((repeat (first | rw [wi_c _ _ (by omega)] | rw [wi_n _ _ (by omega)])); done) | (funext b; simp [wi, wj]; done) | (simp [wi, wj]; done)) (by first | rfl | ((repeat (rw [wi_c _ _ (by omega)])); done) | ((repeat (first | rw [wi_c _ _ (by omega)] | rw [wi_n _ _ (by omega)])); done) | (funext b; simp [wi, wj]; done) | (simp [wi, wj]; done)) (by first | rfl | ((repeat (rw [wi_c _ _ (by omega)])); done) | ((repeat (first | rw [wi_c _ _ (by omega)] | rw [wi_n _ _ (by omega)])); done) | (funext b; simp [wi, wj]; done) | (simp [wi, wj]; done)) u7, I_text_c (by first | rfl | ((repeat (rw [wi_c _ _ (by omega)])); done) | ((repeat (first | rw [wi_c _ _ (by omega)] | rw [wi_n _ _ (by omega)])); done) | (funext b; simp [wi, wj]; done) | (simp [wi, wj]; done)) (by first | rfl | ((repeat (rw [wi_c _ _ (by omega)])); done) | ((repeat (first | rw [wi_c _ _ (by omega)] | rw [wi_n _ _ (by omega)])); done) | (funext b; simp [wi, wj]; done) | (simp [wi, wj]; done)) (by first | rfl | ((repeat (rw [wi_c _ _ (by omega)])); done) | ((repeat (first | rw [wi_c _ _ (by omega)] | rw [wi_n _ _ (by omega)])); done) | (funext b; simp [wi, wj]; done) | (simp [wi, wj]; done)) (by first | rfl | ((repeat (rw [wi_c _ _ (by omega)])); done) | ((repeat (first | rw [wi_c _ _ (by omega)] | rw [wi_n _ _ (by omega)])); done) | (funext b; simp [wi, wj]; done) | (simp [wi, wj]; done)) u8, I_box_c (by first | rfl | ((repeat (rw [wi_c _ _ (by omega)])); done) | ((repeat (first | rw [wi_c _ _ (by omega)] | rw [wi_n _ _ (by omega)])); done) | (funext b; simp [wi, wj]; done) | (simp [wi, wj]; done)) (by first | rfl | ((repeat (rw [wi_c _ _ (by omega)])); done) | ((repeat (first | rw [wi_c _ _ (by omega)] | rw [wi_n _ _ (by omega)])); done) | (funext b; simp [wi, wj]; done) | (simp [wi, wj]; done)) (by first | rfl | ((repeat (rw [wi_c _ _ (by omega)])); done) | ((repeat (first | rw [wi_c _ _ (by omega)] | rw [wi_n _ _ (by omega)])); done) | (funext b; simp [wi, wj]; done) | (simp [wi, wj]; done)) (by first | rfl | ((repeat (rw [wi_c _ _ (by omega)])); done) | ((repeat (first | rw [wi_c _ _ (by omega)] | rw [wi_n _ _ (by omega)])); done) | (funext b; simp [wi, wj]; done) | (simp [wi, wj]; done)) (by first | rfl | ((repeat (rw [wi_c _ _ (by omega)])); done) | ((repeat (first | rw [wi_c _ _ (by omega)] | rw [wi_n _ _ (by omega)])); done) | (funext b; simp [wi, wj]; done) | (simp [wi, wj]; done)) (by first | rfl | ((repeat (rw [wi_c _ _ (by omega)])); done) | ((repeat (first | rw [wi_c _ _ (by omega)] | rw [wi_n _ _ (by omega)])); done) | (funext b; simp [wi, wj]; done) | (simp [wi, wj]; done)) (by first | rfl | ((repeat (rw [wi_c _ _ (by omega)])); done) | ((repeat (first | rw [wi_c _ _ (by omega)] | rw [wi_n _ _ (by omega)])); done) | (funext b; simp [wi, wj]; done) | (simp [wi, wj]; done)) u9, I_tow_c (by first | rfl | ((repeat (rw [wi_c _ _ (by omega)])); done) | ((repeat (first | rw [wi_c _ _ (by omega)] | rw [wi_n _ _ (by omega)])); done) | (funext b; simp [wi, wj]; done) | (simp [wi, wj]; done)) (by first | rfl | ((repeat (rw [wi_c _ _ (by omega)])); done) | ((repeat (first | rw [wi_c _ _ (by omega)] | rw [wi_n _ _ (by omega)])); done) | (funext b; simp [wi, wj]; done) | (simp [wi, wj]; done)) (by first | rfl | ((repeat (rw [wi_c _ _ (by omega)])); done) | ((repeat (first | rw [wi_c _ _ (by omega)] | rw [wi_n _ _ (by omega)])); done) | (funext b; simp [wi, wj]; done) | (simp [wi, wj]; done)) (fun k hk1 hk2 => by first | rfl | ((repeat (rw [wi_c _ _ (by omega)])); done)) (by first | rfl | ((repeat (rw [wi_c _ _ (by omega)])); done) | ((repeat (first | rw [wi_c _ _ (by omega)] | rw [wi_n _ _ (by omega)])); done) | (funext b; simp [wi, wj]; done) | (simp [wi, wj]; done)) (by first | rfl | ((repeat (rw [wi_c _ _ (by omega)])); done) | ((repeat (first | rw [wi_c _ _ (by omega)] | rw [wi_n _ _ (by omega)])); done) | (funext b; simp [wi, wj]; done) | (simp [wi, wj]; done)) (fun k hk1 hk2 => by first | rfl | ((repeat (rw [wi_c _ _ (by omega)])); done)) u10, I_find_c (by first | rfl | ((repeat (rw [wi_c _ _ (by omega)])); done) | ((repeat (first | rw [wi_c _ _ (by omega)] | rw [wi_n _ _ (by omega)])); done) | (funext b; simp [wi, wj]; done) | (simp [wi, wj]; done)) (by first | rfl | ((repeat (rw [wi_c _ _ (by omega)])); done) | ((repeat (first | rw [wi_c _ _ (by omega)] | rw [wi_n _ _ (by omega)])); done) | (funext b; simp [wi, wj]; done) | (simp [wi, wj]; done)) u11⟩
      have g := h4.2
      have e : (x.1 17 7 + a1).toInt = (x.1 17 7).toInt + a1.toInt := addI (by omega) (by omega)
      refine ⟨by simp [wi, h4.1], ?_⟩
      rw [wi_s]
      unfold rg
      rw [e]; push_cast; omega
  · exact ⟨-2, x, m, if_neg c1, if_neg c1, hu⟩
