/-! ===== site ===== -/
theorem lin_i {a : Int32} {k c : Int} (h : 0 ≤ a.toInt ∧ a.toInt ≤ 100) (hk : 0 ≤ k ∧ k ≤ 10) (hc : 0 ≤ c ∧ c ≤ 10) : a * iI k + iI c = iI (a.toInt * k + c) ∧ 0 ≤ a.toInt * k + c ∧ a.toInt * k + c ≤ 1010 := by
  have p := mulB (a := a.toInt) (b := k) (A := 100) (B := 10) h.1 h.2 (by omega) hk.2 (by decide)
  have q := Int.mul_nonneg h.1 hk.1
  exact ⟨by rw [← iI_add, ← iI_mul, ← iI_of], by omega, by omega⟩
theorem pr_41 (n : Nat) (x m : St) (a1 a2 a3 a4 a5 a6 : Int32) (_ : n < 512) (h : Inv n x m) : ∃ (v : Int32) (x' m' : St), fX11_site a1 a2 a3 a4 a5 a6 x = some (v, x') ∧ fX12_site a1 a2 a3 a4 a5 a6 m = some (v, m') ∧ Inv (n + 1) x' m' := by
  obtain ⟨h1, h2, h3, h4, h5, h6, h7, h8, h9, h10, h11⟩ := id h
  have hu := Inv_up n x m h
  unfold fX11_site fX12_site
  simp only [e_isCellX h2, e_isCellM h2, e_isStr, e_isMast, bnd_some, lt_eq, bi_ite, e_within, e_in, t64, le_sw, l32_0, l32_1, l32_2, l32_3, l32_4, l32_5, l32_6, l32_7, l32_8, l32_9, l32_10, l32_11, l32_12, l32_20, l32_25, l32_30, l32_32, l32_50, l32_63, l32_99, l32_100, l32_120, l32_200, l32_255, l32_256, l32_400, l32_500, l32_1000, l32_2400, l32_4095, l32_10000, l32_1000000, l32_100000000, l32_m1, l32_m2, l32_m3, l32_m4, l64_0, l64_1, l64_2, l64_3, l64_4, l64_5, l64_6, l64_7, l64_8, l64_9, l64_10, l64_11, l64_12, l64_20, l64_25, l64_30, l64_32, l64_50, l64_63, l64_99, l64_100, l64_120, l64_200, l64_255, l64_256, l64_400, l64_500, l64_1000, l64_2400, l64_4095, l64_10000, l64_1000000, l64_100000000, l64_m1, l64_m2, l64_m3, l64_m4]
  by_cases b1 : isC x a1
  case neg => rw [if_neg b1, if_neg b1]; exact ⟨_, _, _, rfl, rfl, hu⟩
  by_cases b2 : 0 ≤ a2.toInt ∧ a2.toInt ≤ 20
  case neg => rw [if_pos b1, if_pos b1, if_neg b2, if_neg b2]; exact ⟨_, _, _, rfl, rfl, hu⟩
  by_cases b3 : 1 ≤ a3.toInt ∧ a3.toInt ≤ 1000000
  case neg => rw [if_pos b1, if_pos b1, if_pos b2, if_pos b2, if_neg b3, if_neg b3]; exact ⟨_, _, _, rfl, rfl, hu⟩
  by_cases b4 : 1 ≤ a4.toInt ∧ a4.toInt ≤ 1000000
  case neg => rw [if_pos b1, if_pos b1, if_pos b2, if_pos b2, if_pos b3, if_pos b3, if_neg b4, if_neg b4]; exact ⟨_, _, _, rfl, rfl, hu⟩
  rw [if_pos b1, if_pos b1, if_pos b2, if_pos b2, if_pos b3, if_pos b3, if_pos b4, if_pos b4]
  by_cases b5 : a3 < a4
  case neg => rw [if_neg b5, if_neg b5]; exact ⟨_, _, _, rfl, rfl, hu⟩
  rw [if_pos b5, if_pos b5]
  by_cases b6 : 1 ≤ a5.toInt ∧ a5.toInt ≤ 1000
  case neg => rw [if_neg b6, if_neg b6]; exact ⟨_, _, _, rfl, rfl, hu⟩
  rw [if_pos b6, if_pos b6]
  by_cases b7 : a5.toInt ≤ a6.toInt ∧ a6.toInt ≤ 1000
  case neg =>
    rw [if_neg b7]
    refine ⟨-2, x, m, ?_, rfl, hu⟩
    by_cases b8 : 1 ≤ a6.toInt ∧ a6.toInt ≤ 1000
    · rw [if_pos b8]
      by_cases b9 : a5 ≤ a6
      · rw [Int32.le_iff_toInt_le] at b9; exact absurd ⟨b9, b8.2⟩ b7
      · first | rw [if_neg b9] | (rw [if_pos]; rw [Int32.lt_iff_toInt_lt]; rw [Int32.le_iff_toInt_le] at b9; omega)
    · rw [if_neg b8]
  rw [if_pos b7]
  have b8 : 1 ≤ a6.toInt ∧ a6.toInt ≤ 1000 := by omega
  have b9 : a5 ≤ a6 := by rw [Int32.le_iff_toInt_le]; exact b7.1
  have b9' : ¬ a6 < a5 := by rw [Int32.lt_iff_toInt_lt]; omega
  rw [if_pos b8]
  have ht := h10.2.1
  have e8 : (m.1 0 46 = 6) ↔ ¬ x.1 70 9 < 6 := by rw [h10.1, eq_i, Int32.lt_iff_toInt_lt, l32_6]; omega
  by_cases c4 : x.1 70 9 < 6
  · have c4' : (x.1 70 9).toInt < 6 := by rw [Int32.lt_iff_toInt_lt, l32_6] at c4; exact c4
    have hib : ib (x.1 70 9) 6 := ib_of ht.1 c4'
    have hn := nt_i ht.1
    generalize hT : nt (x.1 70 9) = i at hn
    have f1 : x.1 70 9 * 3 + 1 = iI ((3 * i + 1 : Nat) : Int) := by
      have := (lin_i (a := x.1 70 9) (k := 3) (c := 1) (by omega) (by omega) (by omega)).1
      rw [show x.1 70 9 * 3 + 1 = x.1 70 9 * iI 3 + iI 1 from rfl, this]; congr 1; omega
    have f2 : x.1 70 9 * 3 + 2 = iI ((3 * i + 2 : Nat) : Int) := by
      have := (lin_i (a := x.1 70 9) (k := 3) (c := 2) (by omega) (by omega) (by omega)).1
      rw [show x.1 70 9 * 3 + 2 = x.1 70 9 * iI 3 + iI 2 from rfl, this]; congr 1; omega
    have f3 : 2 * x.1 70 9 = iI ((2 * i : Nat) : Int) := by
      rw [iI_of (x.1 70 9), show (2 : Int32) = iI 2 from rfl, iI_mul]; congr 1; omega
    have f4 : 2 * x.1 70 9 + 1 = iI ((2 * i + 1 : Nat) : Int) := by rw [f3, iI_add1]
    have nI' : ∀ k : Nat, k < 100 → nt (iI (k : Int)) = k := fun k hk => by rw [iI_cl (by omega) (by omega)]; omega
    have iB : ∀ k N : Nat, k < 100 → k < N → ib (iI (k : Int)) N := fun k N hk hN => (iI_ib (by omega)).mpr (by omega)
    refine ⟨x.1 70 9, wi (wi (wi (wi (wi (wi (wi x 71 i a1) 72 i a2) 73 (3 * i + 1) a3) 73 (3 * i + 2) a4) 74 (3 * i + 1) a5) 74 (3 * i + 2) a6) 70 9 (x.1 70 9 + 1), wi (wi (wi (wi (wi (wi (wi m 36 i a1) 37 i a2) 38 (2 * i) a3) 38 (2 * i + 1) a4) 39 (2 * i) a5) 39 (2 * i + 1) a6) 0 46 (x.1 70 9 + 1), ?_, ?_, ?_⟩
    · have hA : fX9_addSite a1 a2 a3 a4 a5 a6 x = some (x.1 70 9, wi (wi (wi (wi (wi (wi (wi x 71 i a1) 72 i a2) 73 (3 * i + 1) a3) 73 (3 * i + 2) a4) 74 (3 * i + 1) a5) 74 (3 * i + 2) a6) 70 9 (x.1 70 9 + 1)) := by
        unfold fX9_addSite
        have r : ∀ (S : St) (k j : Nat) (v : Int32), k ≠ 70 → (wi S k j v).1 70 9 = S.1 70 9 := fun S k j v hk => wi_n _ _ (by omega)
        simp only [lt_eq, r _ 71 _ _ (by decide), r _ 72 _ _ (by decide), r _ 73 _ _ (by decide), r _ 74 _ _ (by decide), if_pos hib, f1, f2, hT, nI' (3 * i + 1) (by omega), nI' (3 * i + 2) (by omega), if_pos (iB (3 * i + 1) 18 (by omega) (by omega)), if_pos (iB (3 * i + 2) 18 (by omega) (by omega)), wi_s, succ_p]
      first | rw [if_pos b9, if_pos c4, hA, bnd_some] | rw [if_neg b9', if_pos c4, hA, bnd_some] | rw [if_pos b9, if_pos c4, hA]
    · rw [if_neg (by rw [e8]; exact not_not_intro c4)]
      have r : ∀ (S : St) (k j : Nat) (v : Int32), k ≠ 0 → (wi S k j v).1 0 46 = S.1 0 46 := fun S k j v hk => wi_n _ _ (by omega)
      simp only [r _ 36 _ _ (by decide), r _ 37 _ _ (by decide), r _ 38 _ _ (by decide), r _ 39 _ _ (by decide), h10.1, if_pos hib, f3, iI_add1 (2 * i), hT, nI' (2 * i) (by omega), nI' (2 * i + 1) (by omega), if_pos (iB (2 * i) 12 (by omega) (by omega)), if_pos (iB (2 * i + 1) 12 (by omega) (by omega)), wi_s, succ_p]
    · obtain ⟨u1, u2, u3, u4, u5, u6, u7, u8, u9, u10, u11⟩ := hu
      have e1 := succ_i (a := x.1 70 9) (by omega)
      refine ⟨I_told_c (by first | rfl | ((repeat (rw [wi_c _ _ (by omega)])); done) | ((repeat (first | rw [wi_c _ _ (by omega)] | rw [wi_n _ _ (by omega)])); done) | (funext b; simp [wi, wj]; done) | (simp [wi, wj]; done)) (by first | rfl | ((repeat (rw [wi_c _ _ (by omega)])); done) | ((repeat (first | rw [wi_c _ _ (by omega)] | rw [wi_n _ _ (by omega)])); done) | (funext b; simp [wi, wj]; done) | (simp [wi, wj]; done)) u1, I_land_c (by first | rfl | ((repeat (rw [wi_c _ _ (by omega)])); done) | ((repeat (first | rw [wi_c _ _ (by omega)] | rw [wi_n _ _ (by omega)])); done) | (funext b; simp [wi, wj]; done) | (simp [wi, wj]; done)) (by first | rfl | ((repeat (rw [wi_c _ _ (by omega)])); done) | ((repeat (first | rw [wi_c _ _ (by omega)] | rw [wi_n _ _ (by omega)])); done) | (funext b; simp [wi, wj]; done) | (simp [wi, wj]; done)) (by first | rfl | ((repeat (rw [wi_c _ _ (by omega)])); done) | ((repeat (first | rw [wi_c _ _ (by omega)] | rw [wi_n _ _ (by omega)])); done) | (funext b; simp [wi, wj]; done) | (simp [wi, wj]; done)) u2, I_sheet_c (fun k hk1 hk2 => by first | rfl | ((repeat (rw [wi_c _ _ (by omega)])); done)) (fun k hk1 hk2 => by first | rfl | ((repeat (rw [wi_c _ _ (by omega)])); done)) (by first | rfl | ((repeat (rw [wi_c _ _ (by omega)])); done) | ((repeat (first | rw [wi_c _ _ (by omega)] | rw [wi_n _ _ (by omega)])); done) | (funext b; simp [wi, wj]; done) | (simp [wi, wj]; done)) (by first | rfl | ((repeat (rw [wi_c _ _ (by omega)])); done) | ((repeat (first | rw [wi_c _ _ (by omega)] | rw [wi_n _ _ (by omega)])); done) | (funext b; simp [wi, wj]; done) | (simp [wi, wj]; done)) (by first | rfl | ((repeat (rw [wi_c _ _ (by omega)])); done) | ((repeat (first | rw [wi_c _ _ (by omega)] | rw [wi_n _ _ (by omega)])); done) | (funext b; simp [wi, wj]; done) | (simp [wi, wj]; done)) u3, I_tick_c (by first | rfl | ((repeat (rw [wi_c _ _ (by omega)])); done) | ((repeat (first | rw [wi_c _ _ (by omega)] | rw [wi_n _ _ (by omega)])); done) | (funext b; simp [wi, wj]; done) | (simp [wi, wj]; done)) (by first | rfl | ((repeat (rw [wi_c _ _ (by omega)])); done) | ((repeat (first | rw [wi_c _ _ (by omega)] | rw [wi_n _ _ (by omega)])); done) | (funext b; simp [wi, wj]; done) | (simp [wi, wj]; done)) u4, I_send_c (by first | rfl | ((repeat (rw [wi_c _ _ (by omega)])); done) | ((repeat (first | rw [wi_c _ _ (by omega)] | rw [wi_n _ _ (by omega)])); done) | (funext b; simp [wi, wj]; done) | (simp [wi, wj]; done)) (by first | rfl | ((repeat (rw [wi_c _ _ (by omega)])); done) | ((repeat (first | rw [wi_c _ _ (by omega)] | rw [wi_n _ _ (by omega)])); done) | (funext b; simp [wi, wj]; done) | (simp [wi, wj]; done)) (fun k hk1 hk2 => by first | rfl | ((repeat (rw [wi_c _ _ (by omega)])); done)) (by first | rfl | ((repeat (rw [wi_c _ _ (by omega)])); done) | ((repeat (first | rw [wi_c _ _ (by omega)] | rw [wi_n _ _ (by omega)])); done) | (funext b; simp [wi, wj]; done) | (simp [wi, wj]; done)) (fun k hk1 hk2 => by first | rfl | ((repeat (rw [wi_c _ _ (by omega)])); done)) u5, I_lis_c (by first | rfl | ((repeat (rw [wi_c _ _ (by omega)])); done) | ((repeat (first | rw [wi_c _ _ (by omega)] | rw [wi_n _ _ (by omega)])); done) | (funext b; simp [wi, wj]; done) | (simp [wi, wj]; done)) (by first | rfl | ((repeat (rw [wi_c _ _ (by omega)])); done) | ((repeat (first | rw [wi_c _ _ (by omega)] | rw [wi_n _ _ (by omega)])); done) | (funext b; simp [wi, wj]; done) | (simp [wi, wj]; done)) (by first | rfl | ((repeat (rw [wi_c _ _ (by omega)])); done) | ((repeat (first | rw [wi_c _ _ (by omega)] | rw [wi_n _ _ (by omega)])); done) | (funext b; simp [wi, wj]; done) | (simp [wi, wj]; done)) (by first | rfl | ((repeat (rw [wi_c _ _ (by omega)])); done) | ((repeat (first | rw [wi_c _ _ (by omega)] | rw [wi_n _ _ (by omega)])); done) | (funext b; simp [wi, wj]; done) | (simp [wi, wj]; done)) (by first | rfl | ((repeat (rw [wi_c _ _ (by omega)])); done) | ((repeat (first | rw [wi_c _ _ (by omega)] | rw [wi_n _ _ (by omega)])); done) | (funext b; simp [wi, wj]; done) | (simp [wi, wj]; done)) (by first | rfl | ((repeat (rw [wi_c _ _ (by omega)])); done) | ((repeat (first | rw [wi_c _ _ (by omega)] | rw [wi_n _ _ (by omega)])); done) | (funext b; simp [wi, wj]; done) | (simp [wi, wj]; done)) u6, I_bid_c (by first | rfl | ((repeat (rw [wi_c _ _ (by omega)])); done) | ((repeat (first | rw [wi_c _ _ (by omega)] | rw [wi_n _ _ (by omega)])); done) | (funext b; simp [wi, wj]; done) | (simp [wi, wj]; done)) (by first | rfl | ((repeat (rw [wi_c _ _ (by omega)])); done) | ((repeat (first | rw [wi_c _ _ (by omega)] | rw [wi_n _ _ (by omega)])); done) | (funext b; simp [wi, wj]; done) | (simp [wi, wj]; done)) (by first | rfl | ((repeat (rw [wi_c _ _ (by omega)])); done) | ((repeat (first | rw [wi_c _ _ (by omega)] | rw [wi_n _ _ (by omega)])); done) | (funext b; simp [wi, wj]; done) | (simp [wi, wj]; done)) (by first | rfl | ((repeat (rw [wi_c _ _ (by omega)])); done) | ((repeat (first | rw [wi_c _ _ (by omega)] | rw [wi_n _ _ (by omega)])); done) | (funext b; simp [wi, wj]; done) | (simp [wi, wj]; done)) (by first | rfl | ((repeat (rw [wi_c _ _ (by omega)])); done) | ((repeat (first | rw [wi_c _ _ (by omega)] | rw [wi_n _ _ (by omega)])); done) | (funext b; simp [wi, wj]; done) | (simp [wi, wj]; done)) (by first | rfl | ((repeat (rw [wi_c _ _ (by omega)])); done) | ((repeat (first | rw [wi_c _ _ (by omega)] | rw [wi_n _ _ (by omega)])); done) | (funext b; simp [wi, wj]; done) | (simp [wi, wj]; done)) u7, I_text_c (by first | rfl | ((repeat (rw [wi_c _ _ (by omega)])); done) | ((repeat (first | rw [wi_c _ _ (by omega)] | rw [wi_n _ _ (by omega)])); done) | (funext b; simp [wi, wj]; done) | (simp [wi, wj]; done)) (by first | rfl | ((repeat (rw [wi_c _ _ (by omega)])); done) | ((repeat (first | rw [wi_c _ _ (by omega)] | rw [wi_n _ _ (by omega)])); done) | (funext b; simp [wi, wj]; done) | (simp [wi, wj]; done)) (by first | rfl | ((repeat (rw [wi_c _ _ (by omega)])); done) | ((repeat (first | rw [wi_c _ _ (by omega)] | rw [wi_n _ _ (by omega)])); done) | (funext b; simp [wi, wj]; done) | (simp [wi, wj]; done)) (by first | rfl | ((repeat (rw [wi_c _ _ (by omega)])); done) | ((repeat (first | rw [wi_c _ _ (by omega)] | rw [wi_n _ _ (by omega)])); done) | (funext b; simp [wi, wj]; done) | (simp [wi, wj]; done)) u8, I_box_c (by first | rfl | ((repeat (rw [wi_c _ _ (by omega)])); done) | ((repeat (first | rw [wi_c _ _ (by omega)] | rw [wi_n _ _ (by omega)])); done) | (funext b; simp [wi, wj]; done) | (simp [wi, wj]; done)) (by first | rfl | ((repeat (rw [wi_c _ _ (by omega)])); done) | ((repeat (first | rw [wi_c _ _ (by omega)] | rw [wi_n _ _ (by omega)])); done) | (funext b; simp [wi, wj]; done) | (simp [wi, wj]; done)) (by first | rfl | ((repeat (rw [wi_c _ _ (by omega)])); done) | ((repeat (first | rw [wi_c _ _ (by omega)] | rw [wi_n _ _ (by omega)])); done) | (funext b; simp [wi, wj]; done) | (simp [wi, wj]; done)) (by first | rfl | ((repeat (rw [wi_c _ _ (by omega)])); done) | ((repeat (first | rw [wi_c _ _ (by omega)] | rw [wi_n _ _ (by omega)])); done) | (funext b; simp [wi, wj]; done) | (simp [wi, wj]; done)) (by first | rfl | ((repeat (rw [wi_c _ _ (by omega)])); done) | ((repeat (first | rw [wi_c _ _ (by omega)] | rw [wi_n _ _ (by omega)])); done) | (funext b; simp [wi, wj]; done) | (simp [wi, wj]; done)) (by first | rfl | ((repeat (rw [wi_c _ _ (by omega)])); done) | ((repeat (first | rw [wi_c _ _ (by omega)] | rw [wi_n _ _ (by omega)])); done) | (funext b; simp [wi, wj]; done) | (simp [wi, wj]; done)) (by first | rfl | ((repeat (rw [wi_c _ _ (by omega)])); done) | ((repeat (first | rw [wi_c _ _ (by omega)] | rw [wi_n _ _ (by omega)])); done) | (funext b; simp [wi, wj]; done) | (simp [wi, wj]; done)) u9, ?_, I_find_c (by first | rfl | ((repeat (rw [wi_c _ _ (by omega)])); done) | ((repeat (first | rw [wi_c _ _ (by omega)] | rw [wi_n _ _ (by omega)])); done) | (funext b; simp [wi, wj]; done) | (simp [wi, wj]; done)) (by first | rfl | ((repeat (rw [wi_c _ _ (by omega)])); done) | ((repeat (first | rw [wi_c _ _ (by omega)] | rw [wi_n _ _ (by omega)])); done) | (funext b; simp [wi, wj]; done) | (simp [wi, wj]; done)) u11⟩
      obtain ⟨t1, t2, t3, t4, t5, t6, t7⟩ := u10
      refine ⟨by rw [wi_s, wi_s], ?_, by simpa [wi] using t3, by simpa [wi] using t4, fun s hs => ?_, fun s hs hst => ?_, fun j hj hjt => ?_⟩
      · rw [wi_s]; unfold rg; rw [e1]; omega
      · have n1 : ¬ 3 * s = 3 * i + 1 := by omega
        have n2 : ¬ 3 * s = 3 * i + 2 := by omega
        simpa [wi, n1, n2] using t5 s hs
      · rw [wi_s, e1] at hst
        by_cases hi2 : s = i
        · subst hi2
          unfold I_site isC
          simp [wi]
          exact ⟨b1, b2, b3, b4, b6, b8⟩
        · have z := t6 s hs (by omega)
          have n1 : ¬ 3 * s + 1 = 3 * i + 1 := by omega
          have n2 : ¬ 3 * s + 1 = 3 * i + 2 := by omega
          have n3 : ¬ 3 * s + 2 = 3 * i + 1 := by omega
          have n4 : ¬ 3 * s + 2 = 3 * i + 2 := by omega
          have n5 : ¬ 2 * s = 2 * i := by omega
          have n6 : ¬ 2 * s = 2 * i + 1 := by omega
          have n7 : ¬ 2 * s + 1 = 2 * i := by omega
          have n8 : ¬ 2 * s + 1 = 2 * i + 1 := by omega
          unfold I_site isC at z ⊢
          simp only [wi, n1, n2, n3, n4, n5, n6, n7, n8, hi2, and_false, if_false]
          exact z
      · have hjt' : (j : Int) < (x.1 70 10).toInt := by simpa [wi] using hjt
        have z := t7 j hj hjt'
        simpa [wi, isC] using z
  · refine ⟨-4, x, m, ?_, ?_, hu⟩
    · first | rw [if_pos b9, if_neg c4] | rw [if_neg b9', if_neg c4]
    · rw [if_pos (e8.mpr c4)]
