/-! ===== loops that write; sheet, site ===== -/
theorem fu_ge : 100000 ≤ FU := by unfold FU; decide
theorem iI_add1 (k : Nat) : iI (k : Int) + 1 = iI ((k + 1 : Nat) : Int) := by
  rw [show (1 : Int32) = iI 1 from rfl, iI_add]; rfl
theorem iI_lei {a : Int32} {k : Nat} (hk : k < 2147483648) : a ≤ iI (k : Int) ↔ a.toInt ≤ k := by
  rw [Int32.le_iff_toInt_le, iI_toInt (by omega) (by omega)]
/-- writes of one value to the places lo ≤ j < hi of the array k -/
def fz (S : St) (k lo hi : Nat) (v : Int64) : St := (S.1, fun a b => if a = k ∧ lo ≤ b ∧ b < hi then v else S.2 a b)
theorem fz_wj (S : St) (k lo hi : Nat) (v : Int64) (h : lo < hi) : fz (wj S k lo v) k (lo + 1) hi v = fz S k lo hi v := by
  unfold fz wj
  refine Prod.ext rfl ?_
  funext a b
  show (if a = k ∧ lo + 1 ≤ b ∧ b < hi then v else if a = k ∧ b = lo then v else S.2 a b) = if a = k ∧ lo ≤ b ∧ b < hi then v else S.2 a b
  by_cases h1 : a = k ∧ lo + 1 ≤ b ∧ b < hi
  · rw [if_pos h1, if_pos (by omega)]
  · rw [if_neg h1]
    by_cases h2 : a = k ∧ b = lo
    · rw [if_pos h2, if_pos (by omega)]
    · rw [if_neg h2, if_neg (by omega)]
theorem fz_0 (S : St) (k lo hi : Nat) (v : Int64) (h : hi ≤ lo) : fz S k lo hi v = S := by
  unfold fz
  refine Prod.ext rfl ?_
  funext a b
  exact if_neg (by omega)
theorem fill_l (q : Nat) (v : Int64) : ∀ (d k f : Nat) (x : St), k + d = 400 → d < f → fJ7_fill_d0a16_L6 q 400 v (Int32.ofNat 400) f (iI (k : Int)) x = some ((), fz x q k 400 v)
  | 0, k, f + 1, x, hk, _ => by
    show fJ7_fill_d0a16_L6_st q 400 v (Int32.ofNat 400) (fJ7_fill_d0a16_L6 q 400 v (Int32.ofNat 400) f) (iI (k : Int)) x = _
    unfold fJ7_fill_d0a16_L6_st
    have h1 : Int32.ofNat 400 ≤ iI (k : Int) := by rw [iI_lei (by omega)]; show (400 : Int) ≤ k; omega
    rw [if_pos h1, fz_0 _ _ _ _ _ (by omega)]
  | d + 1, k, f + 1, x, hk, hf => by
    show fJ7_fill_d0a16_L6_st q 400 v (Int32.ofNat 400) (fJ7_fill_d0a16_L6 q 400 v (Int32.ofNat 400) f) (iI (k : Int)) x = _
    unfold fJ7_fill_d0a16_L6_st
    have h1 : ¬ Int32.ofNat 400 ≤ iI (k : Int) := by rw [iI_lei (by omega)]; show ¬ (400 : Int) ≤ k; omega
    have h2 : ib (iI (k : Int)) 400 := (iI_ib (by omega)).mpr (by omega)
    have h3 : nt (iI (k : Int)) = k := by rw [iI_cl (by omega) (by omega)]; omega
    rw [if_neg h1, if_pos h2, lt_eq, iI_add1, fill_l q v d (k + 1) f _ (by omega) (by omega), h3, fz_wj _ _ _ _ _ (by omega)]
theorem e_fill (q : Nat) (v : Int64) (x : St) : fJ7_fill_d0a16 q 400 v x = some ((), fz x q 0 400 v) := by
  unfold fJ7_fill_d0a16
  rw [lt_eq]
  exact fill_l q v 400 0 FU x rfl (by have := fu_ge; omega)
theorem sheet_l {a1 a3 : Int32} (c1 : 0 ≤ a1.toInt ∧ a1.toInt ≤ 5) (c3 : 0 ≤ a3.toInt ∧ a3.toInt ≤ 400) : ∀ (d k f : Nat) (m : St), (k + d : Int) = a3.toInt → d < f → fX12_sheet_L56 a1 a3 f (iI (k : Int)) m = some (a3, fz m 3 (400 * nt a1 + k) (400 * nt a1 + nt a3) 0)
  | 0, k, f + 1, m, hk, _ => by
    show fX12_sheet_L56_st a1 a3 (fX12_sheet_L56 a1 a3 f) (iI (k : Int)) m = _
    unfold fX12_sheet_L56_st
    have e := nt_i c3.1
    have h1 : a3 ≤ iI (k : Int) := by rw [iI_lei (by omega)]; omega
    rw [if_pos h1, fz_0 _ _ _ _ _ (by omega)]
  | d + 1, k, f + 1, m, hk, hf => by
    show fX12_sheet_L56_st a1 a3 (fX12_sheet_L56 a1 a3 f) (iI (k : Int)) m = _
    unfold fX12_sheet_L56_st
    have e := nt_i c3.1
    have hk0 : (iI (k : Int)).toInt = k := iI_toInt (by omega) (by omega)
    have h1 : ¬ a3 ≤ iI (k : Int) := by rw [iI_lei (by omega)]; omega
    have h2 := m400i c1 (b := iI (k : Int)) (by omega)
    have h3 : nt (iI (k : Int)) = k := by rw [iI_cl (by omega) (by omega)]; omega
    rw [if_neg h1, if_pos h2.1, lt_eq, iI_add1, sheet_l c1 c3 d (k + 1) f _ (by omega) (by omega), h2.2, h3, ← Nat.add_assoc, fz_wj _ _ _ _ _ (by omega)]
theorem pr_45 (n : Nat) (x m : St) (a1 a2 a3 : Int32) (_ : n < 512) (h : Inv n x m) : ∃ (v : Int32) (x' m' : St), fX11_sheet a1 a2 a3 x = some (v, x') ∧ fX12_sheet a1 a2 a3 m = some (v, m') ∧ Inv (n + 1) x' m' := by
  obtain ⟨h1, h2, h3, h4, h5, h6, h7, h8, h9, h10, h11⟩ := id h
  have hu := Inv_up n x m h
  unfold fX11_sheet fX12_sheet
  simp only [e_shX, e_shM, e_foX, e_in, bnd_some, bi_ite, lt_eq, t64, e_found, e_met, l32_0, l32_1, l32_2, l32_3, l32_4, l32_5, l32_6, l32_7, l32_8, l32_9, l32_10, l32_11, l32_12, l32_20, l32_25, l32_30, l32_32, l32_50, l32_63, l32_99, l32_100, l32_120, l32_200, l32_255, l32_256, l32_400, l32_500, l32_1000, l32_2400, l32_4095, l32_10000, l32_1000000, l32_100000000, l32_m1, l32_m2, l32_m3, l32_m4, l64_0, l64_1, l64_2, l64_3, l64_4, l64_5, l64_6, l64_7, l64_8, l64_9, l64_10, l64_11, l64_12, l64_20, l64_25, l64_30, l64_32, l64_50, l64_63, l64_99, l64_100, l64_120, l64_200, l64_255, l64_256, l64_400, l64_500, l64_1000, l64_2400, l64_4095, l64_10000, l64_1000000, l64_100000000, l64_m1, l64_m2, l64_m3, l64_m4]
  by_cases c1 : 0 ≤ a1.toInt ∧ a1.toInt ≤ 5
  · by_cases c2 : 0 ≤ a2.toInt ∧ a2.toInt ≤ 3
    · obtain ⟨hib, hlt, hn⟩ := sh_i c1
      rw [if_pos c1, if_pos c1, if_pos c2, if_pos c2, if_pos hib, if_pos hib]
      by_cases c3 : a3 ≤ 400
      · rw [if_pos c3, if_pos c3]
        by_cases c4 : 0 ≤ a3
        · rw [if_pos c4, if_pos c4]
          have c5 : 0 ≤ a3.toInt ∧ a3.toInt ≤ 400 := by
            rw [Int32.le_iff_toInt_le, l32_400] at c3
            rw [Int32.le_iff_toInt_le, l32_0] at c4
            exact ⟨c4, c3⟩
          have e := nt_i c5.1
          refine ⟨a3, fz (wi (wi (wi x (4 + 2 * nt a1) 1 0) (4 + 2 * nt a1) 2 a2) (4 + 2 * nt a1) 3 a3) (4 + 2 * nt a1 + 1) 0 400 0, fz (wi (wi m 1 (nt a1) a2) 2 (nt a1) a3) 3 (400 * nt a1 + 0) (400 * nt a1 + nt a3) 0, ?_, ?_, ?_⟩
          · unfold fX6_renew
            simp only [lt_eq, e_fill, bnd_some]
          · rw [if_pos hib]
            exact sheet_l c1 c5 (nt a3) 0 FU _ (by omega) (by have := fu_ge; omega)
          · generalize nt a1 = s at hlt hn
            obtain ⟨u1, u2, u3, u4, u5, u6, u7, u8, u9, u10, u11⟩ := hu
            have k1 : Inv (n + 1) x m := ⟨u1, u2, u3, u4, u5, u6, u7, u8, u9, u10, u11⟩
            have k2 : I_sheet (fz (wi (wi (wi x (4 + 2 * s) 1 0) (4 + 2 * s) 2 a2) (4 + 2 * s) 3 a3) (4 + 2 * s + 1) 0 400 0) (fz (wi (wi m 1 s a2) 2 s a3) 3 (400 * s + 0) (400 * s + nt a3) 0) := by
              intro t ht
              obtain ⟨v1, v2, v3, v4, v5, v6⟩ := u3 t ht
              by_cases et : t = s
              · subst et
                have r1 : (wi (wi (wi x (4 + 2 * t) 1 0) (4 + 2 * t) 2 a2) (4 + 2 * t) 3 a3).1 (4 + 2 * t) 1 = 0 := by simp [wi]
                have r2 : (wi (wi (wi x (4 + 2 * t) 1 0) (4 + 2 * t) 2 a2) (4 + 2 * t) 3 a3).1 (4 + 2 * t) 2 = a2 := by simp [wi]
                have r3 : (wi (wi (wi x (4 + 2 * t) 1 0) (4 + 2 * t) 2 a2) (4 + 2 * t) 3 a3).1 (4 + 2 * t) 3 = a3 := by simp [wi]
                refine ⟨?_, ?_, ?_, ?_, ?_, fun j hj hjt _ => ?_⟩
                · show b01 ((wi (wi (wi x (4 + 2 * t) 1 0) (4 + 2 * t) 2 a2) (4 + 2 * t) 3 a3).1 (4 + 2 * t) 1)
                  rw [r1]; decide
                · show rg ((wi (wi (wi x (4 + 2 * t) 1 0) (4 + 2 * t) 2 a2) (4 + 2 * t) 3 a3).1 (4 + 2 * t) 2) 0 3
                  rw [r2]; exact c2
                · show rg ((wi (wi (wi x (4 + 2 * t) 1 0) (4 + 2 * t) 2 a2) (4 + 2 * t) 3 a3).1 (4 + 2 * t) 3) 0 400
                  rw [r3]; exact c5
                · show (wi (wi m 1 t a2) 2 t a3).1 2 t = (wi (wi (wi x (4 + 2 * t) 1 0) (4 + 2 * t) 2 a2) (4 + 2 * t) 3 a3).1 (4 + 2 * t) 3
                  rw [r3, wi_s]
                · show (wi (wi m 1 t a2) 2 t a3).1 1 t = if (wi (wi (wi x (4 + 2 * t) 1 0) (4 + 2 * t) 2 a2) (4 + 2 * t) 3 a3).1 (4 + 2 * t) 1 = 0 then (wi (wi (wi x (4 + 2 * t) 1 0) (4 + 2 * t) 2 a2) (4 + 2 * t) 3 a3).1 (4 + 2 * t) 2 else -1
                  rw [r1, r2, if_pos rfl, wi_n _ _ (by omega), wi_s]
                · have hjt2 : (j : Int) < ((wi (wi (wi x (4 + 2 * t) 1 0) (4 + 2 * t) 2 a2) (4 + 2 * t) 3 a3).1 (4 + 2 * t) 3).toInt := hjt
                  rw [r3] at hjt2
                  show (if (3 : Nat) = 3 ∧ 400 * t + 0 ≤ 400 * t + j ∧ 400 * t + j < 400 * t + nt a3 then (0 : Int64) else m.2 3 (400 * t + j)) = if 4 + 2 * t + 1 = 4 + 2 * t + 1 ∧ 0 ≤ j ∧ j < 400 then 0 else x.2 (4 + 2 * t + 1) j
                  rw [if_pos (by omega), if_pos (by omega)]
              · have r0 : (wi (wi (wi x (4 + 2 * s) 1 0) (4 + 2 * s) 2 a2) (4 + 2 * s) 3 a3).1 (4 + 2 * t) = x.1 (4 + 2 * t) := by repeat rw [wi_c _ _ (by omega)]
                have r1 : (wi (wi m 1 s a2) 2 s a3).1 2 t = m.1 2 t := by rw [wi_n _ _ (by omega), wi_n _ _ (by omega)]
                have r2 : (wi (wi m 1 s a2) 2 s a3).1 1 t = m.1 1 t := by rw [wi_n _ _ (by omega), wi_n _ _ (by omega)]
                unfold fz
                simp only [r0, r1, r2]
                refine ⟨v1, v2, v3, v4, v5, fun j hj hjt hl => ?_⟩
                rw [if_neg (by omega), if_neg (by omega)]
                exact v6 j hj hjt hl
            have k3 : Inv (n + 1) (wi (wi (wi x (4 + 2 * s) 1 0) (4 + 2 * s) 2 a2) (4 + 2 * s) 3 a3) (wi (wi m 1 s a2) 2 s a3) ∨ True := Or.inr trivial
            generalize hX : wi (wi (wi x (4 + 2 * s) 1 0) (4 + 2 * s) 2 a2) (4 + 2 * s) 3 a3 = X at k2
            generalize hM : wi (wi m 1 s a2) 2 s a3 = M at k2
            have q1 : ∀ k, ¬ k = 4 + 2 * s → X.1 k = x.1 k := fun k hk => by rw [← hX]; repeat rw [wi_c _ _ hk]
            have q2 : ∀ k, ¬ k = 1 → ¬ k = 2 → M.1 k = m.1 k := fun k hk hk2 => by rw [← hM, wi_c _ _ hk2, wi_c _ _ hk]
            exact ⟨I_told_c (q1 _ (by omega)) (q2 _ (by omega) (by omega)) u1, I_land_c (q1 _ (by omega)) (congrFun (q2 _ (by omega) (by omega)) _) (congrFun (q2 _ (by omega) (by omega)) _) u2, k2,
              I_tick_c (congrFun (q1 _ (by omega)) _) (congrFun (q2 _ (by omega) (by omega)) _) u4,
              I_send_c (q1 _ (by omega)) (congrFun (q1 _ (by omega)) _) (fun k _ _ => q1 _ (by omega)) (congrFun (q2 _ (by omega) (by omega)) _) (fun k _ _ => q2 _ (by omega) (by omega)) u5,
              I_lis_c (q1 _ (by omega)) (q1 _ (by omega)) (q1 _ (by omega)) (q2 _ (by omega) (by omega)) (q2 _ (by omega) (by omega)) (q2 _ (by omega) (by omega)) u6,
              I_bid_c (q1 _ (by omega)) (q1 _ (by omega)) (q1 _ (by omega)) (congrFun (q2 _ (by omega) (by omega)) _) (q2 _ (by omega) (by omega)) (q2 _ (by omega) (by omega)) u7,
              I_text_c (congrFun (q1 _ (by omega)) _) (q1 _ (by omega)) (congrFun (q2 _ (by omega) (by omega)) _) (q2 _ (by omega) (by omega)) u8,
              I_box_c (q1 _ (by omega)) (q1 _ (by omega)) (q1 _ (by omega)) (q1 _ (by omega)) (congrFun (q2 _ (by omega) (by omega)) _) (q2 _ (by omega) (by omega)) (q2 _ (by omega) (by omega)) u9,
              I_tow_c (q1 _ (by omega)) (congrFun (q1 _ (by omega)) _) (congrFun (q1 _ (by omega)) _) (fun k _ _ => q1 _ (by omega)) (congrFun (q2 _ (by omega) (by omega)) _) (congrFun (q2 _ (by omega) (by omega)) _) (fun k _ _ => q2 _ (by omega) (by omega)) u10,
              I_find_c (congrFun (q1 _ (by omega)) _) (congrFun (q2 _ (by omega) (by omega)) _) u11⟩
        · rw [if_neg c4, if_neg c4]
          exact ⟨_, _, _, rfl, rfl, Inv_found 5 hu⟩
      · rw [if_neg c3, if_neg c3]
        exact ⟨_, _, _, rfl, rfl, hu⟩
    · rw [if_pos c1, if_pos c1, if_neg c2, if_neg c2]
      exact ⟨_, x, m, rfl, rfl, hu⟩
  · rw [if_neg c1, if_neg c1]
    exact ⟨_, x, m, rfl, rfl, hu⟩
