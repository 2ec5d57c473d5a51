/-! ===== hearing: heard and drowns ===== -/
abbrev hdZ (x : St) (i : Nat) (z : Int) : Prop := (x.1 (19 + i) 4).toInt * z ≤ 100 * gotZ x i (x.1 (19 + i) 5) (moodZ x i)
theorem much_b {x m : St} {i : Nat} (hs : I_s1 x m i) {z : Int} (hz : 0 ≤ z ∧ z ≤ 10000000000) : 0 ≤ (x.1 (19 + i) 4).toInt * z ∧ (x.1 (19 + i) 4).toInt * z ≤ 100000000000000 := by
  have r := hs.2.2.2.2.2.1
  have p := mulB (a := (x.1 (19 + i) 4).toInt) (b := z) (A := 10000) (B := 10000000000) (by omega) r.2 (by omega) hz.2 (by decide)
  have q := Int.mul_nonneg (a := (x.1 (19 + i) 4).toInt) (b := z) (by omega) hz.1
  omega
theorem e_enough {x m S : St} (e : xEq x S) {i : Nat} (hi : i < 20) (hs : I_s1 x m i) {g z : Int} (hg : 0 ≤ g ∧ g ≤ 100000000) (hz : 0 ≤ z ∧ z ≤ 10000000000) : fX5_isEnough (19 + i) (iI g) (jI z) S = some (bi ((x.1 (19 + i) 4).toInt * z ≤ 100 * g), S) := by
  have b := much_b hs hz
  unfold fX5_isEnough bi
  rw [e.1 (19 + i) (by unfold xcell; omega), ii64 (by omega), i64, show (100 : Int64) = jI 100 from rfl, jI_mul, jI_mul]
  by_cases c : (x.1 (19 + i) 4).toInt * z ≤ 100 * g
  · rw [if_neg (fun q => by rw [jI_lt (by omega) (by omega)] at q; omega), if_pos c]
  · rw [if_pos ((jI_lt (by omega) (by omega)).mpr (by omega)), if_neg c]
theorem e_hdM {n : Nat} {x m : St} (h : Inv n x m) {i : Nat} (hi : (i : Int) < (x.1 17 6).toInt) {z : Int} (hz : 0 ≤ z ∧ z ≤ 10000000000) : fX12_isHeard (nI i) (jI z) m = some (bi (hdZ x i z), m) := by
  obtain ⟨h1, h2, h3, h4, h5, h6, h7, h8, h9, h10, h11⟩ := id h
  have r := h5.2.1
  have hs := s1_n h5 hi
  have b := much_b hs hz
  have hib : ib (nI i) 20 := nv_ib (by omega) (by omega)
  have hnt : nt (nI i) = i := nv_nt (by omega)
  have f5 : m.1 11 i = x.1 (19 + i) 5 := hs.1 5 (by decide)
  have f4 : m.1 10 i = x.1 (19 + i) 4 := hs.1 4 (by decide)
  have g := gotZ_rg h hs (moodZ x i) (goal_c hs)
  unfold fX12_isHeard bi
  rw [if_pos hib, hnt, f5, e_ownM h (isS_n h5 hi) (goal_c hs), bnd_some, if_pos hib, f4, hnt, ii64 (by omega), i64, show (100 : Int64) = jI 100 from rfl, jI_mul, jI_mul]
  by_cases c : hdZ x i z
  · rw [if_neg (fun q => by rw [jI_lt (by omega) (by omega)] at q; unfold hdZ at c; omega), if_pos c]
  · rw [if_pos ((jI_lt (by omega) (by omega)).mpr (by unfold hdZ at c; omega)), if_neg c]
/-- what is got at the goal of i of each of the ones of B, with the noise -/
abbrev drZ (x : St) (i : Nat) (B : Nat → Bool) : Int := (x.1 2 2).toInt + cs (fun o => gotZ x o (x.1 (19 + i) 5) 0) B (x.1 17 6).toInt.toNat
theorem dr_l {n : Nat} {x m : St} (h : Inv n x m) {N i : Nat} (eN : x.1 17 6 = nI N) (hN : (N : Int) = (x.1 17 6).toInt) (hi : i < N) (bits : Nat) (z : Int) : ∀ (d k f : Nat), k + d = N → d < f → fX12_drownsBy_L11 (nI i) (nI bits) f (jI (z + cs (fun o => gotZ x o (x.1 (19 + i) 5) 0) (fun o => decide (o ≠ i) && bits.testBit o) k)) (nI k) m = some (jI (z + cs (fun o => gotZ x o (x.1 (19 + i) 5) 0) (fun o => decide (o ≠ i) && bits.testBit o) N), m)
  | 0, k, f + 1, hk, _ => by
    obtain ⟨h1, h2, h3, h4, h5, h6, h7, h8, h9, h10, h11⟩ := id h
    have r := h5.2.1
    show fX12_drownsBy_L11_st (nI i) (nI bits) (fX12_drownsBy_L11 (nI i) (nI bits) f) _ (nI k) m = _
    unfold fX12_drownsBy_L11_st
    rw [h5.1, eN, if_pos ((nv_l (by omega) (by omega)).mpr (by omega)), show k = N by omega]
  | d + 1, k, f + 1, hk, hf => by
    have ih := dr_l h eN hN hi bits z d (k + 1) f (by omega) (by omega)
    obtain ⟨h1, h2, h3, h4, h5, h6, h7, h8, h9, h10, h11⟩ := id h
    have r := h5.2.1
    have hs := s1_n h5 (k := i) (by omega)
    have f5 : m.1 11 i = x.1 (19 + i) 5 := hs.1 5 (by decide)
    have g := gotZ_rg h (s1_n h5 (k := k) (by omega)) 0 (goal_c hs)
    show fX12_drownsBy_L11_st (nI i) (nI bits) (fX12_drownsBy_L11 (nI i) (nI bits) f) _ (nI k) m = _
    unfold fX12_drownsBy_L11_st
    rw [h5.1, eN, if_neg (fun q => by rw [nv_l (by omega) (by omega)] at q; omega)]
    simp only [jn_eq, lt_eq]
    rw [nv_p1]
    by_cases c : k = i
    · rw [if_pos ((nv_e (by omega) (by omega)).mpr c), Int64.add_zero]
      rw [cs_f (by rw [c]; simp)] at ih
      exact ih
    · rw [if_neg (fun q => c ((nv_e (by omega) (by omega)).mp q))]
      by_cases b : bits.testBit k = true
      · rw [if_pos ((nb_1 bits (by omega)).mpr b), if_pos (nv_ib (by omega) (by omega)), nv_nt (by omega), f5, e_gotM h (Or.inl rfl) (isS_n h5 (by omega)) (goal_c hs), bnd_some, nv_nt (by omega), ii64 (by omega), jI_add]
        rw [cs_t (by simp [c, b])] at ih
        rw [Int.add_assoc]
        exact ih
      · rw [if_neg (fun q => b ((nb_1 bits (by omega)).mp q)), Int64.add_zero]
        rw [cs_f (by simp [b])] at ih
        exact ih
theorem e_drM {n : Nat} {x m : St} (h : Inv n x m) {i : Nat} (hi : (i : Int) < (x.1 17 6).toInt) (bits : Nat) : fX12_drownsBy (nI i) (nI bits) m = some (jI (drZ x i (fun o => decide (o ≠ i) && bits.testBit o)), m) := by
  obtain ⟨h1, h2, h3, h4, h5, h6, h7, h8, h9, h10, h11⟩ := id h
  obtain ⟨N, eN, hN, l20⟩ := sndN h5
  have e : (x.1 17 6).toInt.toNat = N := by omega
  have := dr_l h eN hN (i := i) (by omega) bits (x.1 2 2).toInt N 0 FU (by omega) (by have := fu_ge; omega)
  unfold fX12_drownsBy
  rw [lt_eq, show nt 2 = 2 from rfl, h1.1 2 (by decide), i64]
  unfold drZ
  rw [e, ← this, show (x.1 2 2).toInt + cs (fun o => gotZ x o (x.1 (19 + i) 5) 0) (fun o => decide (o ≠ i) && bits.testBit o) 0 = (x.1 2 2).toInt from Int.add_zero _]
  rfl
theorem drZ_rg {n : Nat} {x m : St} (h : Inv n x m) {i : Nat} (hi : (i : Int) < (x.1 17 6).toInt) (B : Nat → Bool) : (x.1 2 2).toInt ≤ drZ x i B ∧ 0 ≤ drZ x i B ∧ drZ x i B ≤ 10000000000 := by
  obtain ⟨h1, h2, h3, h4, h5, h6, h7, h8, h9, h10, h11⟩ := id h
  obtain ⟨N, eN, hN, l20⟩ := sndN h5
  have hs := s1_n h5 hi
  have c := cs_rg (g := fun o => gotZ x o (x.1 (19 + i) 5) 0) (B := B) (x.1 17 6).toInt.toNat (fun j hj => gotZ_rg h (s1_n h5 (k := j) (by omega)) 0 (goal_c hs))
  have r := h1.2.2.2.1
  unfold drZ
  omega
/-- the rivals of i -/
abbrev rvZ (x : St) (i : Nat) (j : Nat) : Bool := decide (j ≠ i) && (decide (¬ x.1 (19 + j) 10 = 0) && decide (slotZ x j = slotZ x i))
theorem oth_l {n : Nat} {x m : St} (hn : n < 512) (h : Inv n x m) {N i : Nat} (eN : x.1 17 6 = nI N) (hN : (N : Int) = (x.1 17 6).toInt) (hi : i < N) : ∀ (d k f : Nat), k + d = N → d < f → fX12_others_L4 (nI i) f (nI (bs (rvZ x i) k)) (nI k) m = some (nI (bs (rvZ x i) N), m)
  | 0, k, f + 1, hk, _ => by
    obtain ⟨h1, h2, h3, h4, h5, h6, h7, h8, h9, h10, h11⟩ := id h
    have r := h5.2.1
    show fX12_others_L4_st (nI i) (fX12_others_L4 (nI i) f) _ (nI k) m = _
    unfold fX12_others_L4_st
    rw [h5.1, eN, if_pos ((nv_l (by omega) (by omega)).mpr (by omega)), show k = N by omega]
  | d + 1, k, f + 1, hk, hf => by
    have ih := oth_l hn h eN hN hi d (k + 1) f (by omega) (by omega)
    obtain ⟨h1, h2, h3, h4, h5, h6, h7, h8, h9, h10, h11⟩ := id h
    have r := h5.2.1
    have hsk := s1_n h5 (k := k) (by omega)
    have f10 : m.1 16 k = x.1 (19 + k) 10 := hsk.1 10 (by decide)
    have st : bs (rvZ x i) (k + 1) = bs (rvZ x i) k ||| (if rvZ x i k = true then 2 ^ k else 0) := rfl
    rw [st] at ih
    show fX12_others_L4_st (nI i) (fX12_others_L4 (nI i) f) _ (nI k) m = _
    unfold fX12_others_L4_st
    rw [h5.1, eN, if_neg (fun q => by rw [nv_l (by omega) (by omega)] at q; omega)]
    simp only [jn_eq, lt_eq]
    rw [nv_p1]
    by_cases c : k = i
    · rw [if_neg (by simp [c]), Nat.or_zero] at ih
      rw [if_pos ((nv_e (by omega) (by omega)).mpr c), Int32.or_zero]
      exact ih
    · rw [if_neg (fun q => c ((nv_e (by omega) (by omega)).mp q)), if_pos (nv_ib (by omega) (by omega)), nv_nt (by omega), f10]
      by_cases o : x.1 (19 + k) 10 = 0
      · rw [if_neg (by simp [o]), Nat.or_zero] at ih
        rw [if_pos o, Int32.or_zero]
        exact ih
      · rw [if_neg o, e_slotM hn h (isS_n h5 (by omega)), bnd_some, e_slotM hn h (isS_n h5 (by omega)), bnd_some, nv_nt (by omega), nv_nt (by omega)]
        by_cases s : slotZ x k = slotZ x i
        · rw [if_pos (by simp [c, o, s]), ← nx_or] at ih
          rw [if_pos s, nb_shl k (by omega)]
          exact ih
        · rw [if_neg (by simp [s]), Nat.or_zero] at ih
          rw [if_neg s, Int32.or_zero]
          exact ih
theorem e_oth {n : Nat} {x m : St} (hn : n < 512) (h : Inv n x m) {i : Nat} (hi : (i : Int) < (x.1 17 6).toInt) : fX12_others (nI i) m = some (nI (bs (rvZ x i) (x.1 17 6).toInt.toNat), m) := by
  obtain ⟨h1, h2, h3, h4, h5, h6, h7, h8, h9, h10, h11⟩ := id h
  obtain ⟨N, eN, hN, l20⟩ := sndN h5
  rw [show (x.1 17 6).toInt.toNat = N by omega]
  exact oth_l hn h eN hN (i := i) (by omega) N 0 FU (by omega) (by have := fu_ge; omega)
/-- the class's row of rivals, filled up to k -/
def GT (x : St) (i k : Nat) (S : St) : Prop := xEq x S ∧ S.1 17 8 = nI (rk (rvZ x i) k) ∧ ∀ j, j < k → rvZ x i j = true → S.1 39 (rk (rvZ x i) j) = nI j ∧ S.1 40 (rk (rvZ x i) j) = iI (gotZ x j (x.1 (19 + i) 5) 0)
theorem gath_l {n : Nat} {x m : St} (hn : n < 512) (h : Inv n x m) {N i : Nat} (eN : x.1 17 6 = nI N) (hN : (N : Int) = (x.1 17 6).toInt) (hi : i < N) : ∀ (d k f : Nat) (S : St), k + d = N → d < f → GT x i k S → ∃ S', fX0_gatherRivals_L7 (nI i) f (nI k) S = some (nI (rk (rvZ x i) N), S') ∧ GT x i N S'
  | 0, k, f + 1, S, hk, _, g => by
    obtain ⟨h1, h2, h3, h4, h5, h6, h7, h8, h9, h10, h11⟩ := id h
    have r := h5.2.1
    have ek : k = N := by omega
    subst ek
    refine ⟨S, ?_, g⟩
    show fX0_gatherRivals_L7_st (nI i) (fX0_gatherRivals_L7 (nI i) f) (nI k) S = _
    unfold fX0_gatherRivals_L7_st
    rw [g.1.2.2.1, eN, if_pos ((nv_l (by omega) (by omega)).mpr (by omega)), g.2.1]
  | d + 1, k, f + 1, S, hk, hf, g => by
    obtain ⟨h1, h2, h3, h4, h5, h6, h7, h8, h9, h10, h11⟩ := id h
    have r := h5.2.1
    obtain ⟨g1, g2, g3⟩ := g
    have hS := Inv_fr g1 mEq.rfl h
    have hsk := s1_n h5 (k := k) (by omega)
    have hsi := s1_n h5 (k := i) (by omega)
    have eN' : S.1 17 6 = nI N := by rw [g1.2.2.1, eN]
    have ck : S.1 (19 + k) = x.1 (19 + k) := g1.1 (19 + k) (by unfold xcell; omega)
    have skip : ¬ rvZ x i k = true → ∃ S', fX0_gatherRivals_L7 (nI i) f (nI (k + 1)) S = some (nI (rk (rvZ x i) N), S') ∧ GT x i N S' := by
      intro nr
      refine gath_l hn h eN hN hi d (k + 1) f S (by omega) (by omega) ⟨g1, by rw [rk_f nr]; exact g2, fun j hj hr => ?_⟩
      exact g3 j (by rcases Nat.lt_or_ge j k with c | c; exact c; exact absurd hr (by rw [show j = k by omega]; exact nr)) hr
    show ∃ S', fX0_gatherRivals_L7_st (nI i) (fX0_gatherRivals_L7 (nI i) f) (nI k) S = _ ∧ _
    unfold fX0_gatherRivals_L7_st
    rw [eN', if_neg (fun q => by rw [nv_l (by omega) (by omega)] at q; omega)]
    simp only [jn_eq, lt_eq]
    rw [nv_p1]
    by_cases c : k = i
    · rw [if_pos ((nv_e (by omega) (by omega)).mpr c)]
      exact skip (by simp [c])
    · rw [if_neg (fun q => c ((nv_e (by omega) (by omega)).mp q)), if_pos (nv_ib (by omega) (by omega)), nv_nt (by omega), ck]
      by_cases o : x.1 (19 + k) 10 = 0
      · rw [if_pos o]; exact skip (by simp [o])
      · rw [if_neg o, e_slotX hn hS ((isS_fr g1 _).mpr (isS_n h5 (by omega))), bnd_some, e_slotX hn hS ((isS_fr g1 _).mpr (isS_n h5 (by omega))), bnd_some, nv_nt (by omega), nv_nt (by omega), slotZ_fr g1 (by omega), slotZ_fr g1 (by omega)]
        by_cases s : slotZ x k = slotZ x i
        · have rv : rvZ x i k = true := by simp [c, o, s]
          have lT := rk_le (rvZ x i) k
          have e1 : xEq x (wi S 39 (rk (rvZ x i) k) (nI k)) := xEq_wi g1 (by unfold xcell; omega) (by omega)
          have hS1 := Inv_fr e1 mEq.rfl h
          have c1 : (wi S 39 (rk (rvZ x i) k) (nI k)).1 17 8 = nI (rk (rvZ x i) k) := by rw [wi_c _ _ (by omega)]; exact g2
          have c2 : (wi S 39 (rk (rvZ x i) k) (nI k)).1 (19 + i) = x.1 (19 + i) := e1.1 (19 + i) (by unfold xcell; omega)
          rw [if_pos s, g2, if_pos (nv_ib (by omega) (by omega)), nv_nt (a := rk (rvZ x i) k) (by omega), if_pos (nv_ib (by omega) (by omega)), c1, c2, e_gotX hS1 0 ((isS_fr e1 _).mpr (isS_n h5 (by omega))) ((isC_fr e1 _).mpr (goal_c hsi)), bnd_some, if_pos (nv_ib (by omega) (by omega)), nv_nt (a := k) (by omega), nv_nt (a := rk (rvZ x i) k) (by omega), gotZ_fr e1 (by omega) hsk]
          have c3 : (wi (wi S 39 (rk (rvZ x i) k) (nI k)) 40 (rk (rvZ x i) k) (iI (gotZ x k (x.1 (19 + i) 5) 0))).1 17 8 = nI (rk (rvZ x i) k) := by rw [wi_c _ _ (by omega)]; exact c1
          rw [c3, nv_p1]
          refine gath_l hn h eN hN hi d (k + 1) f _ (by omega) (by omega) ⟨xEq_wi (xEq_wi e1 (by unfold xcell; omega) (by omega)) (by unfold xcell; omega) (by omega), by rw [rk_t rv, wi_s], fun j hj hr => ?_⟩
          rw [wi_c _ _ (by omega), wi_c (a := 40) _ _ (by omega), wi_c (a := 39) _ _ (by omega)]
          by_cases jk : j = k
          · subst jk; exact ⟨wi_s _ _ _ _, wi_s _ _ _ _⟩
          · have lr := rk_lt hr (show j < k by omega)
            rw [wi_n _ _ (by omega), wi_n _ _ (by omega), wi_c (a := 40) _ _ (by omega)]
            exact g3 j (by omega) hr
        · rw [if_neg s]; exact skip (by simp [s])
theorem e_gath {n : Nat} {x m : St} (hn : n < 512) (h : Inv n x m) {i : Nat} (hi : (i : Int) < (x.1 17 6).toInt) : ∃ S', fX0_gatherRivals (nI i) x = some (nI (rk (rvZ x i) (x.1 17 6).toInt.toNat), S') ∧ GT x i (x.1 17 6).toInt.toNat S' := by
  obtain ⟨h1, h2, h3, h4, h5, h6, h7, h8, h9, h10, h11⟩ := id h
  obtain ⟨N, eN, hN, l20⟩ := sndN h5
  rw [show (x.1 17 6).toInt.toNat = N by omega]
  unfold fX0_gatherRivals
  rw [lt_eq]
  refine gath_l hn h eN hN (by omega) N 0 FU _ (by omega) (by have := fu_ge; omega) ⟨xEq_wi xEq.rfl (by unfold xcell; omega) (by omega), wi_s _ _ _ _, fun j hj => by omega⟩
/-- the rivals but for the ones of a mask -/
abbrev rmZ (x : St) (i mask : Nat) (j : Nat) : Bool := rvZ x i j && !(mask.testBit (rk (rvZ x i) j))
theorem agn_l {S : St} {L : Nat} (eL : S.1 17 8 = nI L) (hL : L ≤ 20) (mask : Nat) (z : Int) : ∀ (d k f : Nat), k + d = L → d < f → fX0_againstWithout_L14 (nI mask) f (jI (z + cs (fun k => (S.1 40 k).toInt) (fun k => !(mask.testBit k)) k)) (nI k) S = some (jI (z + cs (fun k => (S.1 40 k).toInt) (fun k => !(mask.testBit k)) L), S)
  | 0, k, f + 1, hk, _ => by
    show fX0_againstWithout_L14_st (nI mask) (fX0_againstWithout_L14 (nI mask) f) _ (nI k) S = _
    unfold fX0_againstWithout_L14_st
    rw [eL, if_pos ((nv_l (by omega) (by omega)).mpr (by omega)), show k = L by omega]
  | d + 1, k, f + 1, hk, hf => by
    have ih := agn_l eL hL mask z d (k + 1) f (by omega) (by omega)
    show fX0_againstWithout_L14_st (nI mask) (fX0_againstWithout_L14 (nI mask) f) _ (nI k) S = _
    unfold fX0_againstWithout_L14_st
    rw [eL, if_neg (fun q => by rw [nv_l (by omega) (by omega)] at q; omega)]
    simp only [jn_eq, lt_eq]
    rw [nv_p1]
    by_cases b : mask.testBit k = true
    · rw [cs_f (by simp [b])] at ih
      rw [if_neg (fun q => (nb_0 mask (by omega)).mp q b)]
      exact ih
    · rw [cs_t (by simp [b]), ← Int.add_assoc, ← jI_add, ← i64] at ih
      rw [if_pos ((nb_0 mask (by omega)).mpr b), if_pos (nv_ib (by omega) (by omega)), nv_nt (by omega)]
      exact ih
theorem e_agn {n : Nat} {x m : St} (h : Inv n x m) {i : Nat} (hi : (i : Int) < (x.1 17 6).toInt) {S : St} (g : GT x i (x.1 17 6).toInt.toNat S) (mask : Nat) : fX0_againstWithout (nI mask) S = some (jI (drZ x i (rmZ x i mask)), S) := by
  obtain ⟨h1, h2, h3, h4, h5, h6, h7, h8, h9, h10, h11⟩ := id h
  obtain ⟨N, eN, hN, l20⟩ := sndN h5
  have hs := s1_n h5 hi
  have e : (x.1 17 6).toInt.toNat = N := by omega
  unfold drZ
  rw [e] at g ⊢
  obtain ⟨g1, g2, g3⟩ := g
  have lL := rk_le (rvZ x i) N
  have l := agn_l g2 (by omega) mask (x.1 2 2).toInt (rk (rvZ x i) N) 0 FU (by omega) (by have := fu_ge; omega)
  have cc := cs_cmp (R := rvZ x i) (g' := fun k => (S.1 40 k).toInt) (g := fun o => gotZ x o (x.1 (19 + i) 5) 0) (B' := fun k => !(mask.testBit k)) (B := rmZ x i mask) N (fun j hj hr => by
    have gr := gotZ_rg h (s1_n h5 (k := j) (by omega)) 0 (goal_c hs)
    refine ⟨?_, ?_⟩
    · show (S.1 40 (rk (rvZ x i) j)).toInt = _
      rw [(g3 j hj hr).2, iI_toInt (by omega) (by omega)]
    · show _ = (rvZ x i j && !(mask.testBit (rk (rvZ x i) j)))
      rw [hr, Bool.true_and]) (fun j hj hr q => by
    have q' : (rvZ x i j && !(mask.testBit (rk (rvZ x i) j))) = true := q
    rw [Bool.and_eq_true] at q'
    exact hr q'.1)
  rw [cc] at l
  unfold fX0_againstWithout
  rw [lt_eq, show nt 2 = 2 from rfl, g1.1 2 (by unfold xcell; omega), i64, ← l, show (x.1 2 2).toInt + cs (fun k => (S.1 40 k).toInt) (fun k => !(mask.testBit k)) 0 = (x.1 2 2).toInt from Int.add_zero _]
  rfl
theorem drZ_cg {x : St} {i : Nat} {B B' : Nat → Bool} (hb : ∀ j, j < (x.1 17 6).toInt.toNat → B' j = B j) : drZ x i B' = drZ x i B := by
  unfold drZ; rw [cs_cg _ (fun j hj => ⟨hb j hj, fun _ => rfl⟩)]
theorem dr_all (x : St) (i : Nat) : drZ x i (fun o => decide (o ≠ i) && (bs (rvZ x i) (x.1 17 6).toInt.toNat).testBit o) = drZ x i (rmZ x i 0) := drZ_cg (fun j hj => by
  show (decide (j ≠ i) && (bs (rvZ x i) (x.1 17 6).toInt.toNat).testBit j) = (rvZ x i j && !(Nat.testBit 0 (rk (rvZ x i) j)))
  rw [bs_bit, decide_eq_true hj, Bool.true_and, Nat.zero_testBit, Bool.not_false, Bool.and_true]
  cases q : rvZ x i j
  · rw [Bool.and_false]
  · have q' : (decide (j ≠ i) && (decide (¬ x.1 (19 + j) 10 = 0) && decide (slotZ x j = slotZ x i))) = true := q
    rw [Bool.and_eq_true] at q'
    rw [q'.1]; rfl)
theorem e_goalX {n : Nat} {x m S : St} (h : Inv n x m) (e : xEq x S) {i : Nat} (hi : (i : Int) < (x.1 17 6).toInt) : fX0_gotAtGoal (nI i) S = some (iI (gotZ x i (x.1 (19 + i) 5) (moodZ x i)), S) := by
  obtain ⟨h1, h2, h3, h4, h5, h6, h7, h8, h9, h10, h11⟩ := id h
  have r := h5.2.1
  have hs := s1_n h5 hi
  have hS := Inv_fr e mEq.rfl h
  have ci : S.1 (19 + i) = x.1 (19 + i) := e.1 (19 + i) (by unfold xcell; omega)
  unfold fX0_gotAtGoal
  rw [if_pos (nv_ib (by omega) (by omega)), if_pos (nv_ib (by omega) (by omega)), nv_nt (by omega), e_moodX, bnd_some, ci, e_gotX hS _ ((isS_fr e _).mpr (isS_n h5 hi)) ((isC_fr e _).mpr (goal_c hs)), bnd_some, nv_nt (by omega), gotZ_fr e (by omega) hs, moodZ_fr e (by omega)]
theorem e_hrd {n : Nat} {x m : St} (hn : n < 512) (h : Inv n x m) {i : Nat} (hi : (i : Int) < (x.1 17 6).toInt) : ∃ S', xEq x S' ∧ fX0_isHeard (nI i) x = some (bi (hdZ x i (drZ x i (rmZ x i 0))), S') := by
  obtain ⟨h1, h2, h3, h4, h5, h6, h7, h8, h9, h10, h11⟩ := id h
  have r := h5.2.1
  have hs := s1_n h5 hi
  obtain ⟨S', q1, q2⟩ := e_gath hn h hi
  have dr := drZ_rg h hi (rmZ x i 0)
  have g := gotZ_rg h hs (moodZ x i) (goal_c hs)
  have e0 : fX0_againstWithout 0 S' = some (jI (drZ x i (rmZ x i 0)), S') := e_agn h hi q2 0
  refine ⟨S', q2.1, ?_⟩
  unfold fX0_isHeard
  rw [q1, bnd_some, if_pos (nv_ib (by omega) (by omega)), e_goalX h q2.1 hi, bnd_some, e0, bnd_some, nv_nt (by omega), e_enough q2.1 (by omega) hs g ⟨by omega, by omega⟩, bnd_some, if_pos (bi_01 _)]
theorem e_ref {x m : St} (h5 : I_send x m) (a : Int32) : fX11_refusalUnlessOn a x = some (if isS x a then (if x.1 (19 + nt a) 10 = 0 then -3 else 0) else -2, x) := by
  unfold fX11_refusalUnlessOn
  rw [e_has, bnd_some, bi_ite]
  by_cases c : isS x a
  · rw [if_pos c, if_pos c, if_pos (isS_i h5 c).1]
    by_cases o : x.1 (19 + nt a) 10 = 0
    · rw [if_pos o, if_pos o]
    · rw [if_neg o, if_neg o]
  · rw [if_neg c, if_neg c]
theorem isS_k {x m : St} (h5 : I_send x m) {a : Int32} (c : isS x a) : ∃ i : Nat, a = nI i ∧ (i : Int) < (x.1 17 6).toInt ∧ nt a = i ∧ i < 20 := by
  obtain ⟨i, e1, e2⟩ := nv_i (lo := 0) (hi := 1000) (a := a) ⟨c.1, by have := c.2; have := h5.2.1; omega⟩ (by omega)
  have := c.2; have := h5.2.1
  exact ⟨i, e1, by omega, by rw [e1, nv_nt (by omega)], by omega⟩
theorem pr_10 (n : Nat) (x m : St) (a1 : Int32) (hn : n < 512) (h : Inv n x m) : ∃ (v : Int32) (x' m' : St), fX11_heard a1 x = some (v, x') ∧ fX12_heard a1 m = some (v, m') ∧ Inv (n + 1) x' m' := by
  obtain ⟨h1, h2, h3, h4, h5, h6, h7, h8, h9, h10, h11⟩ := id h
  have hu := Inv_up n x m h
  unfold fX11_heard fX12_heard
  rw [e_ref h5, e_isSender h5, bnd_some, bnd_some, bi_ite]
  by_cases c : isS x a1
  · obtain ⟨i, rfl, hi, ent, l20⟩ := isS_k h5 c
    have f10 : m.1 16 i = x.1 (19 + i) 10 := (s1_n h5 hi).1 10 (by decide)
    rw [if_pos c, if_pos c, ent, if_pos (nv_ib l20 (by omega)), f10]
    by_cases o : x.1 (19 + i) 10 = 0
    · rw [if_pos o, if_pos o, if_neg (by decide)]; exact ⟨_, _, _, rfl, rfl, hu⟩
    · obtain ⟨S', q1, q2⟩ := e_hrd hn h hi
      have dr := drZ_rg h hi (rmZ x i 0)
      rw [if_neg o, if_neg o, if_pos rfl, q2, bnd_some, e_oth hn h hi, bnd_some, e_drM h hi, bnd_some, dr_all, e_hdM h hi ⟨by omega, by omega⟩, bnd_some, bi_ite, bi_ite]
      have hv := Inv_fr q1 mEq.rfl hu
      by_cases d : hdZ x i (drZ x i (rmZ x i 0))
      · rw [if_pos d, if_pos d]; exact ⟨_, _, _, rfl, rfl, hv⟩
      · rw [if_neg d, if_neg d]; exact ⟨_, _, _, rfl, rfl, hv⟩
  · rw [if_neg c, if_neg c, if_neg (by decide)]; exact ⟨_, _, _, rfl, rfl, hu⟩
theorem pr_11 (n : Nat) (x m : St) (a1 : Int32) (hn : n < 512) (h : Inv n x m) : ∃ (v : Int64) (x' m' : St), fX11_drowns a1 x = some (v, x') ∧ fX12_drowns a1 m = some (v, m') ∧ Inv (n + 1) x' m' := by
  obtain ⟨h1, h2, h3, h4, h5, h6, h7, h8, h9, h10, h11⟩ := id h
  have hu := Inv_up n x m h
  unfold fX11_drowns fX12_drowns fX12_no
  rw [e_ref h5, e_isSender h5, bnd_some, bnd_some, bi_ite]
  by_cases c : isS x a1
  · obtain ⟨i, rfl, hi, ent, l20⟩ := isS_k h5 c
    have f10 : m.1 16 i = x.1 (19 + i) 10 := (s1_n h5 hi).1 10 (by decide)
    rw [if_pos c, if_pos c, ent, if_pos (nv_ib l20 (by omega)), f10]
    by_cases o : x.1 (19 + i) 10 = 0
    · rw [if_pos o, if_pos o, if_neg (by decide)]; exact ⟨_, _, _, rfl, rfl, hu⟩
    · obtain ⟨S', q1, q2⟩ := e_gath hn h hi
      have e0 : fX0_againstWithout 0 S' = some (jI (drZ x i (rmZ x i 0)), S') := e_agn h hi q2 0
      rw [if_neg o, if_neg o, if_pos rfl, q1, bnd_some, e0, bnd_some, e_oth hn h hi, bnd_some, e_drM h hi, bnd_some, dr_all]
      exact ⟨_, _, _, rfl, rfl, Inv_fr q2.1 mEq.rfl hu⟩
  · rw [if_neg c, if_neg c, if_neg (by decide)]; exact ⟨_, _, _, rfl, rfl, hu⟩
