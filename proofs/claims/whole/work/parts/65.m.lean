/-! ===== slots; about; what is got of a sender ===== -/
def slZ (x : St) (i : Nat) : Int := (x.1 (19 + i) 7).toInt + (x.1 (19 + i) 8).toInt * (x.1 17 7).toInt
def slotZ (x : St) (i : Nat) : Int32 := if x.1 (19 + i) 0 = 2 ∨ x.1 (19 + i) 0 = 5 then iI (slZ x i % 12) else x.1 (19 + i) 7
theorem slZ_rg {n : Nat} {x m : St} (hn : n < 512) (h4 : I_tick n x m) {i : Nat} (hs : I_s1 x m i) : 0 ≤ slZ x i ∧ slZ x i ≤ 6000000 := by
  have r7 := hs.2.2.2.2.2.2.2.2.1
  have r8 := hs.2.2.2.2.2.2.2.2.2.1
  have rt := h4.2
  unfold slZ
  have p := mulB (a := (x.1 (19 + i) 8).toInt) (b := (x.1 17 7).toInt) (A := 11) (B := 512000) r8.1 r8.2 (by omega) (by omega) (by decide)
  have q := Int.mul_nonneg r8.1 rt.1
  omega
theorem slotZ_rg {n : Nat} {x m : St} (hn : n < 512) (h4 : I_tick n x m) {i : Nat} (hs : I_s1 x m i) : 0 ≤ (slotZ x i).toInt ∧ (slotZ x i).toInt ≤ 11 := by
  unfold slotZ
  by_cases c : x.1 (19 + i) 0 = 2 ∨ x.1 (19 + i) 0 = 5
  · rw [if_pos c, iI_toInt (by omega) (by omega)]; omega
  · rw [if_neg c]; exact hs.2.2.2.2.2.2.2.2.1
theorem e_slotX {n : Nat} {x m : St} (hn : n < 512) (h : Inv n x m) {a : Int32} (ha : isS x a) : fX0_slotAt a x = some (slotZ x (nt a), x) := by
  obtain ⟨h1, h2, h3, h4, h5, h6, h7, h8, h9, h10, h11⟩ := id h
  obtain ⟨hib, hlt, -, -, hs⟩ := isS_i h5 ha
  have r := slZ_rg hn h4 hs
  unfold fX0_slotAt slotZ
  rw [if_pos hib, e_isHop, bnd_some, bi_ite]
  by_cases c : x.1 (19 + nt a) 0 = 2 ∨ x.1 (19 + nt a) 0 = 5
  · rw [if_pos c, if_pos c]
    have e : x.1 (19 + nt a) 7 + x.1 (19 + nt a) 8 * x.1 17 7 = iI (slZ x (nt a)) := by
      unfold slZ; rw [← iI_add, ← iI_mul, ← iI_of, ← iI_of, ← iI_of]
    rw [e]
    unfold fJ9_floorMod_7cf53
    have t : 0 ≤ iI (slZ x (nt a)) ^^^ 12 := (xor_nn (by decide)).mpr (by rw [iI_toInt (by omega) (by omega)]; exact r.1)
    have er : ire (iI (slZ x (nt a))) 12 = iI (slZ x (nt a) % 12) := by
      show iI (slZ x (nt a)) - iI (slZ x (nt a)) / iI 12 * iI 12 = _
      rw [iI_div (by omega) (by omega), iI_mul, iI_sub, Int.tdiv_eq_ediv_of_nonneg r.1, Int.emod_def, Int.mul_comm]
    rw [if_pos (by decide), lt_eq, if_pos t, er, bnd_some]
  · rw [if_neg c, if_neg c]
theorem e_slotM {n : Nat} {x m : St} (hn : n < 512) (h : Inv n x m) {a : Int32} (ha : isS x a) : fX12_slotNow a m = some (slotZ x (nt a), m) := by
  obtain ⟨h1, h2, h3, h4, h5, h6, h7, h8, h9, h10, h11⟩ := id h
  obtain ⟨hib, hlt, -, -, hs⟩ := isS_i h5 ha
  have r := slZ_rg hn h4 hs
  have f7 : m.1 13 (nt a) = x.1 (19 + nt a) 7 := hs.1 7 (by decide)
  have f8 : m.1 14 (nt a) = x.1 (19 + nt a) 8 := hs.1 8 (by decide)
  unfold fX12_slotNow slotZ
  rw [e_isHopM h5 ha, bnd_some, bi_ite, if_pos hib, if_pos hib, if_pos hib]
  by_cases c : x.1 (19 + nt a) 0 = 2 ∨ x.1 (19 + nt a) 0 = 5
  · rw [if_pos c, if_pos c, f7, f8, h4.1]
    have e : (x.1 (19 + nt a) 7).toInt64 + (x.1 (19 + nt a) 8).toInt64 * (x.1 17 7).toInt64 = jI (slZ x (nt a)) := by
      unfold slZ; rw [← jI_add, ← jI_mul, ← i64, ← i64, ← i64]
    have er : lre (jI (slZ x (nt a))) 12 = jI (slZ x (nt a) % 12) := by
      show jI (slZ x (nt a)) - jI (slZ x (nt a)) / jI 12 * jI 12 = _
      rw [jI_div (by omega) (by omega), jI_mul, jI_sub, Int.tdiv_eq_ediv_of_nonneg r.1, Int.emod_def, Int.mul_comm]
    rw [e, er, jI_32 (by omega) (by omega)]
  · rw [if_neg c, if_neg c, f7]
theorem pr_6 (n : Nat) (x m : St) (a1 a2 : Int32) (hn : n < 512) (h : Inv n x m) : ∃ (v : Int32) (x' m' : St), fX11_about a1 a2 x = some (v, x') ∧ fX12_about a1 a2 m = some (v, m') ∧ Inv (n + 1) x' m' := by
  obtain ⟨h1, h2, h3, h4, h5, h6, h7, h8, h9, h10, h11⟩ := id h
  have hu := Inv_up n x m h
  unfold fX11_about fX12_about
  rw [e_has, e_isSender h5, bnd_some, bnd_some, bi_ite, bi_ite]
  by_cases c1 : isS x a1
  · obtain ⟨hib, hlt, -, -, hs⟩ := isS_i h5 c1
    rw [if_pos c1, if_pos c1]
    unfold fX0_tell
    simp only [if_pos hib, e_cellX h c1, e_cellM h c1, e_slotX hn h c1, e_slotM hn h c1, bnd_some]
    have f0 : m.1 6 (nt a1) = x.1 (19 + nt a1) 0 := hs.1 0 (by decide)
    have f1 : m.1 7 (nt a1) = x.1 (19 + nt a1) 1 := hs.1 1 (by decide)
    have f2 : m.1 8 (nt a1) = x.1 (19 + nt a1) 2 := hs.1 2 (by decide)
    have f3 : m.1 9 (nt a1) = x.1 (19 + nt a1) 3 := hs.1 3 (by decide)
    have f4 : m.1 10 (nt a1) = x.1 (19 + nt a1) 4 := hs.1 4 (by decide)
    have f5 : m.1 11 (nt a1) = x.1 (19 + nt a1) 5 := hs.1 5 (by decide)
    have f6 : m.1 12 (nt a1) = x.1 (19 + nt a1) 6 := hs.1 6 (by decide)
    have f7 : m.1 13 (nt a1) = x.1 (19 + nt a1) 7 := hs.1 7 (by decide)
    have f10 : m.1 16 (nt a1) = x.1 (19 + nt a1) 10 := hs.1 10 (by decide)
    rw [f0, f1, f2, f3, f4, f5, f6, f7, f10]
    by_cases d0 : a2 = 0
    · rw [if_pos d0, if_pos d0]; exact ⟨_, _, _, rfl, rfl, hu⟩
    rw [if_neg d0, if_neg d0]
    by_cases d1 : a2 = 1
    · rw [if_pos d1, if_pos d1]; exact ⟨_, _, _, rfl, rfl, hu⟩
    rw [if_neg d1, if_neg d1]
    by_cases d2 : a2 = 2
    · rw [if_pos d2, if_pos d2]; exact ⟨_, _, _, rfl, rfl, hu⟩
    rw [if_neg d2, if_neg d2]
    by_cases d3 : a2 = 3
    · rw [if_pos d3, if_pos d3]; exact ⟨_, _, _, rfl, rfl, hu⟩
    rw [if_neg d3, if_neg d3]
    by_cases d4 : a2 = 4
    · rw [if_pos d4, if_pos d4]; exact ⟨_, _, _, rfl, rfl, hu⟩
    rw [if_neg d4, if_neg d4]
    by_cases d5 : a2 = 5
    · rw [if_pos d5, if_pos d5]; exact ⟨_, _, _, rfl, rfl, hu⟩
    rw [if_neg d5, if_neg d5]
    by_cases d6 : a2 = 6
    · rw [if_pos d6, if_pos d6]; exact ⟨_, _, _, rfl, rfl, hu⟩
    rw [if_neg d6, if_neg d6]
    by_cases d7 : a2 = 7
    · rw [if_pos d7, if_pos d7]; exact ⟨_, _, _, rfl, rfl, hu⟩
    rw [if_neg d7, if_neg d7]
    by_cases d8 : a2 = 8
    · rw [if_pos d8, if_pos d8]
      by_cases e8 : x.1 (19 + nt a1) 10 = 0
      · rw [if_pos e8, if_pos e8]; exact ⟨_, _, _, rfl, rfl, hu⟩
      · rw [if_neg e8, if_neg e8]; exact ⟨_, _, _, rfl, rfl, hu⟩
    rw [if_neg d8, if_neg d8]
    by_cases d9 : a2 = 9
    · rw [if_pos d9, if_pos d9]; exact ⟨_, _, _, rfl, rfl, hu⟩
    rw [if_neg d9, if_neg d9]
    by_cases d10 : a2 = 10
    · rw [if_pos d10, if_pos d10]; exact ⟨_, _, _, rfl, rfl, hu⟩
    rw [if_neg d10, if_neg d10]; exact ⟨_, _, _, rfl, rfl, hu⟩
  · rw [if_neg c1, if_neg c1]; exact ⟨_, _, _, rfl, rfl, hu⟩
