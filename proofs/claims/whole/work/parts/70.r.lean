/-! ===== count ===== -/
theorem cnt_on {x m : St} (h5 : I_send x m) : ∀ (d k f : Nat) (acc : Int32), (k + d : Int) = (x.1 17 6).toInt → d < f → ∃ v, fX0_totalOn_L4 f acc (iI (k : Int)) x = some (v, x) ∧ fX12_count_L71 f acc (iI (k : Int)) m = some (v, m)
  | 0, k, f + 1, acc, hk, _ => by
    have r := h5.2.1
    refine ⟨acc, ?_, ?_⟩
    · show fX0_totalOn_L4_st (fX0_totalOn_L4 f) acc (iI (k : Int)) x = _
      unfold fX0_totalOn_L4_st
      rw [if_pos ((iI_lei (by omega)).mpr (by omega))]
    · show fX12_count_L71_st (fX12_count_L71 f) acc (iI (k : Int)) m = _
      unfold fX12_count_L71_st
      rw [h5.1, if_pos ((iI_lei (by omega)).mpr (by omega))]
  | d + 1, k, f + 1, acc, hk, hf => by
    have r := h5.2.1
    have h3 : nt (iI (k : Int)) = k := by rw [iI_cl (by omega) (by omega)]; omega
    have h4 : ib (iI (k : Int)) 20 := (iI_ib (by omega)).mpr (by omega)
    have nle : ¬ x.1 17 6 ≤ iI (k : Int) := fun q => by rw [iI_lei (by omega)] at q; omega
    have f10 : m.1 16 k = x.1 (19 + k) 10 := (h5.2.2.1 k (by omega) (by omega)).1 10 (by decide)
    obtain ⟨v, r1, r2⟩ := cnt_on h5 d (k + 1) f (acc + (if x.1 (19 + k) 10 = 0 then 0 else 1)) (by omega) (by omega)
    refine ⟨v, ?_, ?_⟩
    · show fX0_totalOn_L4_st (fX0_totalOn_L4 f) acc (iI (k : Int)) x = _
      unfold fX0_totalOn_L4_st
      rw [if_neg nle, if_pos h4, jn_eq, h3, iI_add1]
      by_cases c : x.1 (19 + k) 10 = 0
      · rw [if_pos c] at r1
        rw [if_pos c, ← r1, Int32.add_zero]
      · rw [if_neg c] at r1
        rw [if_neg c]; exact r1
    · show fX12_count_L71_st (fX12_count_L71 f) acc (iI (k : Int)) m = _
      unfold fX12_count_L71_st
      rw [h5.1, if_neg nle, if_pos h4, lt_eq, lt_eq, h3, f10, iI_add1]; exact r2
theorem cnt_box {x m : St} (h9 : I_box x m) : ∀ (d k f : Nat) (acc : Int32), (k + d : Int) = (x.1 67 3).toInt → d < f → ∃ v, fX10_readable_L4 f acc (iI (k : Int)) x = some (v, x) ∧ fX12_whole_L4 f acc (iI (k : Int)) m = some (v, m)
  | 0, k, f + 1, acc, hk, _ => by
    have r := h9.2.1
    refine ⟨acc, ?_, ?_⟩
    · show fX10_readable_L4_st (fX10_readable_L4 f) acc (iI (k : Int)) x = _
      unfold fX10_readable_L4_st
      rw [if_pos ((iI_lei (by omega)).mpr (by omega))]
    · show fX12_whole_L4_st (fX12_whole_L4 f) acc (iI (k : Int)) m = _
      unfold fX12_whole_L4_st
      rw [h9.1, if_pos ((iI_lei (by omega)).mpr (by omega))]
  | d + 1, k, f + 1, acc, hk, hf => by
    have r := h9.2.1
    have h3 : nt (iI (k : Int)) = k := by rw [iI_cl (by omega) (by omega)]; omega
    have h4 : ib (iI (k : Int)) 8 := (iI_ib (by omega)).mpr (by omega)
    have nle : ¬ x.1 67 3 ≤ iI (k : Int) := fun q => by rw [iI_lei (by omega)] at q; omega
    have f10 : m.1 35 k = x.1 69 k := (h9.2.2.1 k (by omega) (by omega)).2.2.1
    obtain ⟨v, r1, r2⟩ := cnt_box h9 d (k + 1) f (acc + (if x.1 69 k = -1 then 0 else 1)) (by omega) (by omega)
    refine ⟨v, ?_, ?_⟩
    · show fX10_readable_L4_st (fX10_readable_L4 f) acc (iI (k : Int)) x = _
      unfold fX10_readable_L4_st
      rw [if_neg nle, if_pos h4, jn_eq, h3, iI_add1]
      by_cases c : x.1 69 k = -1
      · rw [if_pos c] at r1
        rw [if_pos c, ← r1, Int32.add_zero]
      · rw [if_neg c] at r1
        rw [if_neg c]; exact r1
    · show fX12_whole_L4_st (fX12_whole_L4 f) acc (iI (k : Int)) m = _
      unfold fX12_whole_L4_st
      rw [h9.1, if_neg nle, if_pos h4, lt_eq, lt_eq, h3, f10, iI_add1]; exact r2
theorem pr_51 (n : Nat) (x m : St) (a1 : Int32) (_ : n < 512) (h : Inv n x m) : ∃ (v : Int32) (x' m' : St), fX11_count a1 x = some (v, x') ∧ fX12_count a1 m = some (v, m') ∧ Inv (n + 1) x' m' := by
  obtain ⟨h1, h2, h3, h4, h5, h6, h7, h8, h9, h10, h11⟩ := id h
  have hu := Inv_up n x m h
  have r5 := h5.2.1
  have r9 := h9.2.1
  obtain ⟨v1, p1, p2⟩ := cnt_on h5 (x.1 17 6).toInt.toNat 0 FU 0 (by omega) (by have := fu_ge; omega)
  obtain ⟨v2, q1, q2⟩ := cnt_box h9 (x.1 67 3).toInt.toNat 0 FU 0 (by omega) (by have := fu_ge; omega)
  have e1 : fX0_totalOn x = some (v1, x) := p1
  have e2 : fX12_count_L71 FU 0 0 m = some (v1, m) := p2
  have e3 : fX10_readable x = some (v2, x) := q1
  have e4 : fX12_whole m = some (v2, m) := q2
  unfold fX11_count fX12_count
  rw [e1, e2, e3, e4, bnd_some, bnd_some, bnd_some, h5.1, h7.1, h8.1, h9.1, h10.1, h10.2.2.1, h4.1, show m.1 0 4 = x.1 0 11 from h11, h2.1, h2.2.1]
  by_cases d0 : a1 = 0
  · rw [if_pos d0, if_pos d0]; exact ⟨_, _, _, rfl, rfl, hu⟩
  rw [if_neg d0, if_neg d0]
  by_cases d1 : a1 = 1
  · rw [if_pos d1, if_pos d1]; exact ⟨_, _, _, rfl, rfl, hu⟩
  rw [if_neg d1, if_neg d1]
  by_cases d2 : a1 = 2
  · rw [if_pos d2, if_pos d2]; exact ⟨_, _, _, rfl, rfl, hu⟩
  rw [if_neg d2, if_neg d2]
  by_cases d3 : a1 = 3
  · rw [if_pos d3, if_pos d3]; exact ⟨_, _, _, rfl, rfl, hu⟩
  rw [if_neg d3, if_neg d3]
  by_cases d4 : a1 = 4
  · rw [if_pos d4, if_pos d4]; exact ⟨_, _, _, rfl, rfl, hu⟩
  rw [if_neg d4, if_neg d4]
  by_cases d5 : a1 = 5
  · rw [if_pos d5, if_pos d5]; exact ⟨_, _, _, rfl, rfl, hu⟩
  rw [if_neg d5, if_neg d5]
  by_cases d6 : a1 = 6
  · rw [if_pos d6, if_pos d6]; exact ⟨_, _, _, rfl, rfl, hu⟩
  rw [if_neg d6, if_neg d6]
  by_cases d7 : a1 = 7
  · rw [if_pos d7, if_pos d7]; exact ⟨_, _, _, rfl, rfl, hu⟩
  rw [if_neg d7, if_neg d7]
  by_cases d8 : a1 = 8
  · rw [if_pos d8, if_pos d8]; exact ⟨_, _, _, rfl, rfl, hu⟩
  rw [if_neg d8, if_neg d8]
  by_cases d9 : a1 = 9
  · rw [if_pos d9, if_pos d9]; exact ⟨_, _, _, rfl, rfl, hu⟩
  rw [if_neg d9, if_neg d9]
  by_cases d10 : a1 = 10
  · rw [if_pos d10, if_pos d10]; exact ⟨_, _, _, rfl, rfl, hu⟩
  rw [if_neg d10, if_neg d10]
  by_cases d11 : a1 = 11
  · rw [if_pos d11, if_pos d11]; exact ⟨_, _, _, rfl, rfl, hu⟩
  rw [if_neg d11, if_neg d11]; exact ⟨_, _, _, rfl, rfl, hu⟩
