/-! ===== map ===== -/
def fg (S : St) (k lo hi : Nat) (g : Nat → Int64) : St := (S.1, fun a b => if a = k ∧ lo ≤ b ∧ b < hi then g b else S.2 a b)
theorem fg_0 (S : St) (k lo hi : Nat) (g : Nat → Int64) (h : hi ≤ lo) : fg S k lo hi g = S := by
  unfold fg
  refine Prod.ext rfl ?_
  funext a b
  exact if_neg (by omega)
theorem fg_wj (S : St) (k lo hi : Nat) (g : Nat → Int64) (h : lo < hi) : fg (wj S k lo (g lo)) k (lo + 1) hi g = fg S k lo hi g := by
  unfold fg wj
  refine Prod.ext rfl ?_
  funext a b
  show (if a = k ∧ lo + 1 ≤ b ∧ b < hi then g b else if a = k ∧ b = lo then g lo else S.2 a b) = if a = k ∧ lo ≤ b ∧ b < hi then g b else S.2 a b
  by_cases h1 : a = k ∧ lo + 1 ≤ b ∧ b < hi
  · rw [if_pos h1, if_pos (by omega)]
  · rw [if_neg h1]
    by_cases h2 : a = k ∧ b = lo
    · rw [if_pos h2, if_pos (by omega), h2.2]
    · rw [if_neg h2, if_neg (by omega)]
theorem fg_x {x y : St} {k lo hi : Nat} {g : Nat → Int64} (h : xEq x y) (hk : 16 ≤ k) : xEq x (fg y k lo hi g) := by
  refine h.trans ⟨fun _ _ => Eq.refl _, Eq.refl _, Eq.refl _, Eq.refl _, Eq.refl _, Eq.refl _, Eq.refl _, fun a ha => ?_⟩
  funext b
  exact if_neg (fun q => by omega)
theorem fg_m {x y : St} {k lo hi : Nat} {g : Nat → Int64} (h : mEq x y) (hk : k ≠ 3) : mEq x (fg y k lo hi g) := by
  refine h.trans ⟨fun _ _ => Eq.refl _, ⟨Eq.refl _, Eq.refl _, Eq.refl _, Eq.refl _, Eq.refl _, Eq.refl _, Eq.refl _, Eq.refl _, Eq.refl _, Eq.refl _⟩, ?_⟩
  funext b
  exact if_neg (fun q => hk q.1.symm)
def gmZ (x : St) (i : Nat) (j : Nat) : Int64 := (iI (gotZ x i (iI (j : Int)) 0)).toInt64
theorem map_x {n : Nat} {x m : St} (h : Inv n x m) (kx : St → Option (Int32 × St)) {a1 : Int32} (q N : Nat) (ha : isS x a1) (hN : (N : Int) ≤ (x.1 16 3).toInt * (x.1 16 4).toInt) : ∀ (d k f : Nat) (y : St), xEq x y → k + d = N → d < f → fX11_map_L60 kx a1 q (iI (N : Int)) f (iI (k : Int)) y = kx (fg y 78 k N (gmZ x (nt a1)))
  | 0, k, f + 1, y, _, hk, _ => by
    have hs := (size_i h.2.1).2
    show fX11_map_L60_st kx a1 q (iI (N : Int)) (fX11_map_L60 kx a1 q (iI (N : Int)) f) (iI (k : Int)) y = _
    unfold fX11_map_L60_st
    rw [if_pos ((iI_le (by omega) (by omega)).mpr (by omega)), fg_0 _ _ _ _ _ (by omega)]
  | d + 1, k, f + 1, y, e, hk, hf => by
    have hs := (size_i h.2.1).2
    have hz := isS_i h.2.2.2.2.1 ha
    show fX11_map_L60_st kx a1 q (iI (N : Int)) (fX11_map_L60 kx a1 q (iI (N : Int)) f) (iI (k : Int)) y = _
    unfold fX11_map_L60_st
    have hy : Inv n y m := Inv_fr e mEq.rfl h
    have hc : isC x (iI (k : Int)) := by unfold isC; rw [iI_toInt (by omega) (by omega)]; omega
    have h3 : nt (iI (k : Int)) = k := by rw [iI_cl (by omega) (by omega)]; omega
    have h4 : ib (iI (k : Int)) 400 := (iI_ib (by omega)).mpr (by omega)
    rw [if_neg (fun z => by rw [iI_le (by omega) (by omega)] at z; omega), e_gotX hy 0 ((isS_fr e a1).mpr ha) ((isC_fr e _).mpr hc), bnd_some, if_pos h4, lt_eq, h3, gotZ_fr e hz.2.1 hz.2.2.2.2, iI_add1]
    change fX11_map_L60 kx a1 q (iI (N : Int)) f (iI ((k + 1 : Nat) : Int)) (wj y 78 k (gmZ x (nt a1) k)) = _
    rw [map_x h kx q N ha hN d (k + 1) f _ (xEq_wj e (by decide)) (by omega) (by omega), fg_wj _ _ _ _ _ (by omega)]
theorem map_m {n : Nat} {x m : St} (h : Inv n x m) (kx : St → Option (Int32 × St)) {a1 : Int32} (a2 : Int32) (N : Nat) (ha : isS x a1) (hN : (N : Int) ≤ (x.1 16 3).toInt * (x.1 16 4).toInt) : ∀ (d k f : Nat) (y : St), mEq m y → k + d = N → d < f → fX12_map_L73 kx a1 a2 (iI (N : Int)) f (iI (k : Int)) y = kx (fg y 4 k N (gmZ x (nt a1)))
  | 0, k, f + 1, y, _, hk, _ => by
    have hs := (size_i h.2.1).2
    show fX12_map_L73_st kx a1 a2 (iI (N : Int)) (fX12_map_L73 kx a1 a2 (iI (N : Int)) f) (iI (k : Int)) y = _
    unfold fX12_map_L73_st
    rw [if_pos ((iI_le (by omega) (by omega)).mpr (by omega)), fg_0 _ _ _ _ _ (by omega)]
  | d + 1, k, f + 1, y, e, hk, hf => by
    have hs := (size_i h.2.1).2
    show fX12_map_L73_st kx a1 a2 (iI (N : Int)) (fX12_map_L73 kx a1 a2 (iI (N : Int)) f) (iI (k : Int)) y = _
    unfold fX12_map_L73_st
    have hy : Inv n x y := Inv_fr xEq.rfl e h
    have hc : isC x (iI (k : Int)) := by unfold isC; rw [iI_toInt (by omega) (by omega)]; omega
    have h3 : nt (iI (k : Int)) = k := by rw [iI_cl (by omega) (by omega)]; omega
    have h4 : ib (iI (k : Int)) 400 := (iI_ib (by omega)).mpr (by omega)
    rw [if_neg (fun z => by rw [iI_le (by omega) (by omega)] at z; omega), e_gotM hy (Or.inl rfl) ha hc, bnd_some, if_pos h4, lt_eq, h3, iI_add1]
    change fX12_map_L73 kx a1 a2 (iI (N : Int)) f (iI ((k + 1 : Nat) : Int)) (wj y 4 k (gmZ x (nt a1) k)) = _
    rw [map_m h kx a2 N ha hN d (k + 1) f _ (mEq_wj e (by decide)) (by omega) (by omega), fg_wj _ _ _ _ _ (by omega)]
theorem map_2 {n : Nat} {a2 : Int32} (c2 : 0 ≤ a2.toInt ∧ a2.toInt ≤ 5) {N : Nat} (hN : N ≤ 400) (g : Nat → Int64) (F : Int32) : ∀ (d k f : Nat) (y z : St), Inv n y z → (∀ j, j < N → y.2 78 j = g j) → (∀ j, j < N → z.2 4 j = g j) → y.1 (4 + 2 * nt a2) 2 = F → z.1 1 (nt a2) = F → k + d = N → d < f → ∃ y' z', fX11_map_L95 (4 + 2 * nt a2) (iI (N : Int)) f (iI (k : Int)) y = some (iI (N : Int), y') ∧ fX12_map_L104 a2 (iI (N : Int)) f (iI (k : Int)) z = some (iI (N : Int), z') ∧ Inv n y' z'
  | 0, k, f + 1, y, z, h, _, _, _, _, hk, _ => by
    refine ⟨y, z, ?_, ?_, h⟩
    · show fX11_map_L95_st (4 + 2 * nt a2) (iI (N : Int)) (fX11_map_L95 (4 + 2 * nt a2) (iI (N : Int)) f) (iI (k : Int)) y = _
      unfold fX11_map_L95_st
      rw [if_pos ((iI_le (by omega) (by omega)).mpr (by omega))]
    · show fX12_map_L104_st a2 (iI (N : Int)) (fX12_map_L104 a2 (iI (N : Int)) f) (iI (k : Int)) z = _
      unfold fX12_map_L104_st
      rw [if_pos ((iI_le (by omega) (by omega)).mpr (by omega))]
  | d + 1, k, f + 1, y, z, h, g1, g2, f1, f2, hk, hf => by
    obtain ⟨hib, hlt, hn⟩ := sh_i c2
    have h3 : nt (iI (k : Int)) = k := by rw [iI_cl (by omega) (by omega)]; omega
    have h4 : ib (iI (k : Int)) 400 := (iI_ib (by omega)).mpr (by omega)
    have hk0 : (iI (k : Int)).toInt = k := iI_toInt (by omega) (by omega)
    have h5 := m400i c2 (b := iI (k : Int)) (by omega)
    rw [h3] at h5
    have nle : ¬ iI (N : Int) ≤ iI (k : Int) := fun q => by rw [iI_le (by omega) (by omega)] at q; omega
    have hw := Inv_wj h hlt (show k < 400 by omega) (cutv F (g k))
    obtain ⟨y', z', r1, r2, r3⟩ := map_2 c2 hN g F d (k + 1) f _ _ hw (fun j hj => by
      show (if 78 = 4 + 2 * nt a2 + 1 ∧ j = k then cutv F (g k) else y.2 78 j) = g j
      rw [if_neg (by omega)]; exact g1 j hj) (fun j hj => by
      show (if (4 : Nat) = 3 ∧ j = 400 * nt a2 + k then cutv F (g k) else z.2 4 j) = g j
      rw [if_neg (by omega)]; exact g2 j hj) f1 f2 (by omega) (by omega)
    refine ⟨y', z', ?_, ?_, r3⟩
    · show fX11_map_L95_st (4 + 2 * nt a2) (iI (N : Int)) (fX11_map_L95 (4 + 2 * nt a2) (iI (N : Int)) f) (iI (k : Int)) y = _
      unfold fX11_map_L95_st
      rw [if_neg nle, if_pos h4, e_store _ _ h4, bnd_some, h3, g1 k (by omega), f1, iI_add1]
      exact r1
    · show fX12_map_L104_st a2 (iI (N : Int)) (fX12_map_L104 a2 (iI (N : Int)) f) (iI (k : Int)) z = _
      unfold fX12_map_L104_st
      rw [if_neg nle, if_pos hib, if_pos h4, e_cut, bnd_some, if_pos h5.1, lt_eq, h5.2, h3, g2 k (by omega), f2, iI_add1]
      exact r2
theorem pr_50 (n : Nat) (x m : St) (a1 a2 : Int32) (_ : n < 512) (h : Inv n x m) : ∃ (v : Int32) (x' m' : St), fX11_map a1 a2 x = some (v, x') ∧ fX12_map a1 a2 m = some (v, m') ∧ Inv (n + 1) x' m' := by
  obtain ⟨h1, h2, h3, h4, h5, h6, h7, h8, h9, h10, h11⟩ := id h
  have hu := Inv_up n x m h
  unfold fX11_map fX12_map
  simp only [e_has, e_isSender h5, e_shX, e_shM, bnd_some, bi_ite, e_found, e_met]
  by_cases c1 : isS x a1
  · rw [if_pos c1, if_pos c1]
    by_cases c2 : 0 ≤ a2.toInt ∧ a2.toInt ≤ 5
    · rw [if_pos c2, if_pos c2]
      obtain ⟨hib, hlt, hn⟩ := sh_i c2
      obtain ⟨g1, g2, g3, g4, g5, g6⟩ := h3 (nt a2) hlt
      simp only [if_pos hib, lt_eq]
      by_cases d1 : x.1 (4 + 2 * nt a2) 1 = 0
      · rw [if_pos d1] at g5
        have d2 : 0 ≤ m.1 1 (nt a2) := by rw [g5, Int32.le_iff_toInt_le, l32_0]; exact g2.1
        rw [if_pos d1, if_pos d2]
        have hs := size_i h2
        obtain ⟨N, hN⟩ : ∃ N : Nat, (N : Int) = min (x.1 (4 + 2 * nt a2) 3).toInt ((x.1 16 3).toInt * (x.1 16 4).toInt) := ⟨(min (x.1 (4 + 2 * nt a2) 3).toInt ((x.1 16 3).toInt * (x.1 16 4).toInt)).toNat, by omega⟩
        have eN : fJ9_min_7cf53 (x.1 (4 + 2 * nt a2) 3) (x.1 16 3 * x.1 16 4) x = some (iI (N : Int), x) := by
          have := e_min (a := (x.1 (4 + 2 * nt a2) 3).toInt) (b := (x.1 16 3).toInt * (x.1 16 4).toInt) (by omega) (by omega) x
          rw [← hN, ← iI_mul, ← iI_of, ← iI_of, ← iI_of] at this; exact this
        obtain ⟨y', z', r1, r2, r3⟩ := map_2 (n := n + 1) c2 (N := N) (by omega) (gmZ x (nt a1)) (x.1 (4 + 2 * nt a2) 2) N 0 FU (fg x 78 0 N (gmZ x (nt a1))) (fg m 4 0 N (gmZ x (nt a1))) (Inv_fr (fg_x xEq.rfl (by decide)) (fg_m mEq.rfl (by decide)) hu) (fun j hj => if_pos ⟨rfl, Nat.zero_le _, hj⟩) (fun j hj => if_pos ⟨rfl, Nat.zero_le _, hj⟩) rfl g5 (by omega) (by have := fu_ge; omega)
        refine ⟨iI (N : Int), y', z', ?_, ?_, r3⟩
        · have es : fX2_size x = some (x.1 16 3 * x.1 16 4, x) := rfl
          rw [es, bnd_some, eN, bnd_some]
          exact (map_x h _ (4 + 2 * nt a2) N c1 (by omega) N 0 FU x xEq.rfl (by omega) (by have := fu_ge; omega)).trans r1
        · rw [h2.1, h2.2.1, g4]
          have fin : fX12_map_L73 (fun S13 => fX12_map_L104 a2 (iI (N : Int)) FU 0 S13) a1 a2 (iI (N : Int)) FU 0 m = some (iI (N : Int), z') :=
            (map_m h _ a2 N c1 (by omega) N 0 FU m mEq.rfl (by omega) (by have := fu_ge; omega)).trans r2
          by_cases d3 : x.1 (4 + 2 * nt a2) 3 ≤ x.1 16 3 * x.1 16 4
          · rw [if_pos d3]
            rw [Int32.le_iff_toInt_le, hs.1] at d3
            have e : x.1 (4 + 2 * nt a2) 3 = iI (N : Int) := by rw [iI_of (x.1 (4 + 2 * nt a2) 3)]; congr 1; omega
            rw [e]; exact fin
          · rw [if_neg d3]
            rw [Int32.le_iff_toInt_le, hs.1] at d3
            have e : x.1 16 3 * x.1 16 4 = iI (N : Int) := by rw [iI_of (x.1 16 3 * x.1 16 4), hs.1]; congr 1; omega
            rw [e]; exact fin
      · rw [if_neg d1] at g5
        have d2 : ¬ 0 ≤ m.1 1 (nt a2) := by rw [g5]; decide
        rw [if_neg d1, if_neg d2]
        exact ⟨_, _, _, rfl, rfl, Inv_found 1 hu⟩
    · rw [if_neg c2, if_neg c2]; exact ⟨_, _, _, rfl, rfl, hu⟩
  · rw [if_neg c1, if_neg c1]; exact ⟨_, _, _, rfl, rfl, hu⟩
