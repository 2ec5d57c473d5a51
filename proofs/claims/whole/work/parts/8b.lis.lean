/-! ===== listening: the places that reckoning reads ===== -/
def fcell (k : Nat) : Prop := k = 2 ∨ (4 ≤ k ∧ k ≤ 16) ∨ (19 ≤ k ∧ k ≤ 38)
def fEq (x x' : St) : Prop := (∀ k, fcell k → x'.1 k = x.1 k) ∧ x'.1 17 7 = x.1 17 7 ∧ x'.1 17 6 = x.1 17 6 ∧ ∀ k, k < 16 → x'.2 k = x.2 k
theorem fEq_of {x x' : St} (e : xEq x x') : fEq x x' := ⟨fun k hk => e.1 k (by unfold fcell at hk; unfold xcell; omega), e.2.2.2.1, e.2.2.1, e.2.2.2.2.2.2.2⟩
theorem fEq_wi {x y : St} (h : fEq x y) {k j : Nat} {v : Int32} (hk : 39 ≤ k) : fEq x (wi y k j v) := by
  refine ⟨fun a ha => ?_, ?_, ?_, fun a ha => h.2.2.2 a ha⟩
  · rw [wi_c _ _ (by unfold fcell at ha; omega)]; exact h.1 a ha
  · rw [wi_c _ _ (by omega)]; exact h.2.1
  · rw [wi_c _ _ (by omega)]; exact h.2.2.1
theorem kn_ff {x x' : St} (e : fEq x x') {s : Nat} (hs : s < 6) (c g : Int32) : kn x' s c g = kn x s c g := by
  unfold kn
  rw [e.1 (4 + 2 * s) (by unfold fcell; omega), e.2.2.2 (4 + 2 * s + 1) (by omega)]
theorem hvZ_ff {x x' : St} (e : fEq x x') (a5 : Int32) (c : Int) : hvZ x' a5 c = hvZ x a5 c := by
  unfold hvZ; rw [kn_ff e (by decide)]
theorem wdZ_ff {x x' : St} (e : fEq x x') (a5 : Int32) (c : Int) : wdZ x' a5 c = wdZ x a5 c := by
  unfold wdZ; rw [kn_ff e (by decide)]
theorem stZ_ff {x x' : St} (e : fEq x x') (a5 : Int32) (x0 y0 dx dy n h1 dh k : Int) : stZ x' a5 x0 y0 dx dy n h1 dh k = stZ x a5 x0 y0 dx dy n h1 dh k := by
  unfold stZ upZ
  rw [e.1 2 (by unfold fcell; omega), e.1 16 (by unfold fcell; omega), wdZ_ff e, hvZ_ff e]
theorem lz_ff {x x' : St} (e : fEq x x') (a5 : Int32) (x0 y0 dx dy n h1 dh : Int) : ∀ (d : Nat) (k acc : Int), lz x' a5 x0 y0 dx dy n h1 dh d k acc = lz x a5 x0 y0 dx dy n h1 dh d k acc
  | 0, _, _ => rfl
  | d + 1, k, acc => by
    show lz x' a5 x0 y0 dx dy n h1 dh d (k + 1) (acc + stZ x' a5 x0 y0 dx dy n h1 dh k) = lz x a5 x0 y0 dx dy n h1 dh d (k + 1) (acc + stZ x a5 x0 y0 dx dy n h1 dh k)
    rw [stZ_ff e, lz_ff e]
theorem lossZ_ff {x x' : St} (e : fEq x x') (a1 a2 a3 a4 a5 : Int32) : lossZ x' a1 a2 a3 a4 a5 = lossZ x a1 a2 a3 a4 a5 := by
  have c16 := e.1 16 (by unfold fcell; omega)
  have eX : ∀ a, cX x' a = cX x a := fun a => by unfold cX; rw [c16]
  have eY : ∀ a, cY x' a = cY x a := fun a => by unfold cY; rw [c16]
  have et : ∀ a b, tpZ x' a b = tpZ x a b := fun a b => by unfold tpZ; rw [kn_ff e (by decide)]
  unfold lossZ nN dX dY
  rw [lz_ff e, eX, eX, eY, eY, et, et]
theorem clZ_ff {x x' m : St} (e : fEq x x') {i : Nat} (hi : i < 20) (hs : I_s1 x m i) : clZ x' i = clZ x i := by
  have r := hs.2.2.2.2.2.2.2.2.2.2.1
  have ln : nt (x.1 (19 + i) 9) < 6 := by
    by_cases c : 0 ≤ (x.1 (19 + i) 9).toInt
    · have := nt_i c; omega
    · have : nt (x.1 (19 + i) 9) = 0 := by
        show (x.1 (19 + i) 9).toInt.toNat = 0
        omega
      omega
  unfold clZ plZ
  rw [e.1 (19 + i) (by unfold fcell; omega), e.1 16 (by unfold fcell; omega), e.2.1, kn_ff e ln]
theorem gotZ_ff {x x' m : St} (e : fEq x x') {i : Nat} (hi : i < 20) (hs : I_s1 x m i) (c a5 : Int32) : gotZ x' i c a5 = gotZ x i c a5 := by
  unfold gotZ
  rw [lossZ_ff e, clZ_ff e hi hs, e.1 (19 + i) (by unfold fcell; omega)]
theorem moodZ_ff {x x' : St} (e : fEq x x') {i : Nat} (hi : i < 20) : moodZ x' i = moodZ x i := by
  unfold moodZ
  rw [e.1 (19 + i) (by unfold fcell; omega)]
/-- the listeners of a slot -/
abbrev lrZ (x : St) (a1 : Int32) (j : Nat) : Bool := decide (x.1 (19 + j) 0 = 3) && (decide (¬ x.1 (19 + j) 10 = 0) && decide (x.1 (19 + j) 7 = a1))
theorem lis_l {x m : St} (h5 : I_send x m) {N : Nat} (eN : x.1 17 6 = nI N) (hN : (N : Int) = (x.1 17 6).toInt) (a1 : Int32) : ∀ (d k f : Nat), k + d = N → d < f → fX12_listeners_L4 a1 f (nI (bs (lrZ x a1) k)) (nI k) m = some (nI (bs (lrZ x a1) N), m)
  | 0, k, f + 1, hk, _ => by
    have r := h5.2.1
    show fX12_listeners_L4_st a1 (fX12_listeners_L4 a1 f) _ (nI k) m = _
    unfold fX12_listeners_L4_st
    rw [h5.1, eN, if_pos ((nv_l (by omega) (by omega)).mpr (by omega)), show k = N by omega]
  | d + 1, k, f + 1, hk, hf => by
    have ih := lis_l h5 eN hN a1 d (k + 1) f (by omega) (by omega)
    have r := h5.2.1
    have hsk := s1_n h5 (k := k) (by omega)
    have f0 : m.1 6 k = x.1 (19 + k) 0 := hsk.1 0 (by decide)
    have f7 : m.1 13 k = x.1 (19 + k) 7 := hsk.1 7 (by decide)
    have f10 : m.1 16 k = x.1 (19 + k) 10 := hsk.1 10 (by decide)
    have st : bs (lrZ x a1) (k + 1) = bs (lrZ x a1) k ||| (if lrZ x a1 k = true then 2 ^ k else 0) := rfl
    rw [st] at ih
    show fX12_listeners_L4_st a1 (fX12_listeners_L4 a1 f) _ (nI k) m = _
    unfold fX12_listeners_L4_st
    simp only [jn_eq, lt_eq, if_pos (show ib (nI k) 20 from nv_ib (by omega) (by omega))]
    rw [h5.1, eN, if_neg (fun q => by rw [nv_l (by omega) (by omega)] at q; omega), nv_nt (by omega), f0, f7, f10, nv_p1, nb_shl k (by omega), nx_or, Int32.or_zero]
    by_cases c1 : x.1 (19 + k) 0 = 3
    · rw [if_pos c1]
      by_cases c2 : x.1 (19 + k) 10 = 0
      · rw [if_neg (by simp [c2]), Nat.or_zero] at ih
        rw [if_pos c2]; exact ih
      · rw [if_neg c2]
        by_cases c3 : x.1 (19 + k) 7 = a1
        · rw [if_pos (show lrZ x a1 k = true by simp [c1, c2, c3])] at ih
          rw [if_pos c3]; exact ih
        · rw [if_neg (by simp [c3]), Nat.or_zero] at ih
          rw [if_neg c3]; exact ih
    · rw [if_neg (by simp [c1]), Nat.or_zero] at ih
      rw [if_neg c1]; exact ih
theorem e_lis {x m : St} (h5 : I_send x m) (a1 : Int32) : fX12_listeners a1 m = some (nI (bs (lrZ x a1) (x.1 17 6).toInt.toNat), m) := by
  obtain ⟨N, eN, hN, l20⟩ := sndN h5
  rw [show (x.1 17 6).toInt.toNat = N by omega]
  exact lis_l h5 eN hN a1 N 0 FU (by omega) (by have := fu_ge; omega)
/-- what is got at the home of i of each of the ones of B -/
abbrev hrZ (x : St) (i : Nat) (B : Nat → Bool) : Int := cs (fun o => gotZ x o (x.1 (19 + i) 1) 0) B (x.1 17 6).toInt.toNat
theorem hea_l {n : Nat} {x m : St} (h : Inv n x m) {N i : Nat} (eN : x.1 17 6 = nI N) (hN : (N : Int) = (x.1 17 6).toInt) (hi : i < N) (bits : Nat) : ∀ (d k f : Nat), k + d = N → d < f → fX12_hears_L5 (nI i) (nI bits) f (jI (cs (fun o => gotZ x o (x.1 (19 + i) 1) 0) (fun o => decide (o ≠ i) && bits.testBit o) k)) (nI k) m = some (jI (cs (fun o => gotZ x o (x.1 (19 + i) 1) 0) (fun o => decide (o ≠ i) && bits.testBit o) N), m)
  | 0, k, f + 1, hk, _ => by
    obtain ⟨h1, h2, h3, h4, h5, h6, h7, h8, h9, h10, h11⟩ := id h
    have r := h5.2.1
    show fX12_hears_L5_st (nI i) (nI bits) (fX12_hears_L5 (nI i) (nI bits) f) _ (nI k) m = _
    unfold fX12_hears_L5_st
    rw [h5.1, eN, if_pos ((nv_l (by omega) (by omega)).mpr (by omega)), show k = N by omega]
  | d + 1, k, f + 1, hk, hf => by
    have ih := hea_l h eN hN hi bits d (k + 1) f (by omega) (by omega)
    obtain ⟨h1, h2, h3, h4, h5, h6, h7, h8, h9, h10, h11⟩ := id h
    have r := h5.2.1
    have hs := s1_n h5 (k := i) (by omega)
    have f1 : m.1 7 i = x.1 (19 + i) 1 := hs.1 1 (by decide)
    have g := gotZ_rg h (s1_n h5 (k := k) (by omega)) 0 (home_c hs)
    show fX12_hears_L5_st (nI i) (nI bits) (fX12_hears_L5 (nI i) (nI bits) f) _ (nI k) m = _
    unfold fX12_hears_L5_st
    rw [h5.1, eN, if_neg (fun q => by rw [nv_l (by omega) (by omega)] at q; omega)]
    simp only [jn_eq, lt_eq]
    rw [nv_p1]
    by_cases c : k = i
    · rw [if_pos ((nv_e (by omega) (by omega)).mpr c), Int64.add_zero]
      rw [cs_f (by rw [c]; simp)] at ih
      exact ih
    · rw [if_neg (fun q => c ((nv_e (by omega) (by omega)).mp q))]
      by_cases b : bits.testBit k = true
      · rw [if_pos ((nb_1 bits (by omega)).mpr b), if_pos (nv_ib (by omega) (by omega)), nv_nt (by omega), f1, e_gotM h (Or.inl rfl) (isS_n h5 (by omega)) (home_c hs), bnd_some, nv_nt (by omega), ii64 (by omega), jI_add]
        rw [cs_t (by simp [c, b])] at ih
        exact ih
      · rw [if_neg (fun q => b ((nb_1 bits (by omega)).mp q)), Int64.add_zero]
        rw [cs_f (by simp [b])] at ih
        exact ih
theorem e_heaM {n : Nat} {x m : St} (h : Inv n x m) {i : Nat} (hi : (i : Int) < (x.1 17 6).toInt) (bits : Nat) : fX12_hears (nI i) (nI bits) m = some (jI (hrZ x i (fun o => decide (o ≠ i) && bits.testBit o)), m) := by
  obtain ⟨h1, h2, h3, h4, h5, h6, h7, h8, h9, h10, h11⟩ := id h
  obtain ⟨N, eN, hN, l20⟩ := sndN h5
  have e : (x.1 17 6).toInt.toNat = N := by omega
  unfold hrZ
  rw [e]
  exact hea_l h eN hN (i := i) (by omega) bits N 0 FU (by omega) (by have := fu_ge; omega)
theorem hrZ_rg {n : Nat} {x m : St} (h : Inv n x m) {i : Nat} (hi : (i : Int) < (x.1 17 6).toInt) (B : Nat → Bool) : 0 ≤ hrZ x i B ∧ hrZ x i B ≤ 10000000000 := by
  obtain ⟨h1, h2, h3, h4, h5, h6, h7, h8, h9, h10, h11⟩ := id h
  obtain ⟨N, eN, hN, l20⟩ := sndN h5
  have hs := s1_n h5 hi
  have c := cs_rg (g := fun o => gotZ x o (x.1 (19 + i) 1) 0) (B := B) (x.1 17 6).toInt.toNat (fun j hj => gotZ_rg h (s1_n h5 (k := j) (by omega)) 0 (home_c hs))
  unfold hrZ
  omega
/-! ===== the class's rows of listeners ===== -/
def LM (x : St) (a1 : Int32) (k : Nat) (S : St) : Prop := xEq x S ∧ S.1 48 9 = nI (rk (lrZ x a1) k) ∧ ∀ j, j < k → lrZ x a1 j = true → S.1 49 (rk (lrZ x a1) j) = nI j
theorem lg_1 {n : Nat} {x m : St} (h : Inv n x m) (kx : St → Option (Unit × St)) {N : Nat} (eN : x.1 17 6 = nI N) (hN : (N : Int) = (x.1 17 6).toInt) (a1 : Int32) : ∀ (d k f : Nat) (S : St), k + d = N → d < f → LM x a1 k S → ∃ S', fX3_gather_L7 kx a1 f (nI k) S = kx S' ∧ LM x a1 N S'
  | 0, k, f + 1, S, hk, _, g => by
    have r := h.2.2.2.2.1.2.1
    have ek : k = N := by omega
    subst ek
    refine ⟨S, ?_, g⟩
    show fX3_gather_L7_st kx a1 (fX3_gather_L7 kx a1 f) (nI k) S = _
    unfold fX3_gather_L7_st
    rw [g.1.2.2.1, eN, if_pos ((nv_l (by omega) (by omega)).mpr (by omega))]
  | d + 1, k, f + 1, S, hk, hf, g => by
    have r := h.2.2.2.2.1.2.1
    obtain ⟨g1, g2, g3⟩ := g
    have eN' : S.1 17 6 = nI N := by rw [g1.2.2.1, eN]
    have ck : S.1 (19 + k) = x.1 (19 + k) := g1.1 (19 + k) (by unfold xcell; omega)
    have lT := rk_le (lrZ x a1) k
    have skip : ¬ lrZ x a1 k = true → ∃ S', fX3_gather_L7 kx a1 f (nI (k + 1)) S = kx S' ∧ LM x a1 N S' := by
      intro nr
      refine lg_1 h kx eN hN a1 d (k + 1) f S (by omega) (by omega) ⟨g1, by rw [rk_f nr]; exact g2, fun j hj hr => ?_⟩
      exact g3 j (by rcases Nat.lt_or_ge j k with c | c; exact c; exact absurd hr (by rw [show j = k by omega]; exact nr)) hr
    show ∃ S', fX3_gather_L7_st kx a1 (fX3_gather_L7 kx a1 f) (nI k) S = _ ∧ _
    unfold fX3_gather_L7_st
    simp only [jn_eq, lt_eq]
    rw [eN', if_neg (fun q => by rw [nv_l (by omega) (by omega)] at q; omega), if_pos (nv_ib (by omega) (by omega)), nv_nt (a := k) (by omega), ck, nv_p1, g2]
    by_cases c2 : x.1 (19 + k) 10 = 0
    · rw [if_pos c2]; exact skip (by simp [c2])
    · rw [if_neg c2]
      by_cases c1 : x.1 (19 + k) 0 = 3
      · rw [if_pos c1]
        by_cases c3 : x.1 (19 + k) 7 = a1
        · have rv : lrZ x a1 k = true := by simp [c1, c2, c3]
          have c9 : (wi S 49 (rk (lrZ x a1) k) (nI k)).1 48 9 = nI (rk (lrZ x a1) k) := by rw [wi_c _ _ (by omega)]; exact g2
          rw [if_pos c3, if_pos (nv_ib (by omega) (by omega)), nv_nt (by omega), c9, nv_p1]
          refine lg_1 h kx eN hN a1 d (k + 1) f _ (by omega) (by omega) ⟨xEq_wi (xEq_wi g1 (by unfold xcell; omega) (by omega)) (by unfold xcell; omega) (by omega), by rw [rk_t rv, wi_s], fun j hj hr => ?_⟩
          rw [wi_c _ _ (by omega)]
          by_cases jk : j = k
          · subst jk; exact wi_s _ _ _ _
          · have lr := rk_lt hr (show j < k by omega)
            rw [wi_n _ _ (by omega)]
            exact g3 j (by omega) hr
        · rw [if_neg c3]; exact skip (by simp [c3])
      · rw [if_neg c1]; exact skip (by simp [c1])
/-- the two tables at listeners a, b -/
abbrev LE (x S : St) (a1 : Int32) (a b : Nat) : Prop := S.1 50 (rk (lrZ x a1) a * 20 + rk (lrZ x a1) b) = iI (gotZ x b (x.1 (19 + a) 1) 0) ∧ S.1 51 (rk (lrZ x a1) a * 20 + rk (lrZ x a1) b) = iI (gotZ x b (x.1 (19 + a) 5) 0)
theorem lg_2 {n : Nat} {x m : St} (h : Inv n x m) (kx : St → Option (Unit × St)) {N : Nat} (hN : (N : Int) = (x.1 17 6).toInt) (a1 : Int32) {a : Nat} (ha : a < N) (hra : lrZ x a1 a = true) : ∀ (d k f : Nat) (S : St), k + d = rk (lrZ x a1) N → d < f → LM x a1 N S → (∀ a' b', a' < N → b' < N → lrZ x a1 a' = true → lrZ x a1 b' = true → (rk (lrZ x a1) a' < rk (lrZ x a1) a ∨ (rk (lrZ x a1) a' = rk (lrZ x a1) a ∧ rk (lrZ x a1) b' < k)) → LE x S a1 a' b') → ∃ S', fX3_gather_L105 kx (nI (rk (lrZ x a1) a)) (19 + a) f (nI k) S = kx S' ∧ LM x a1 N S' ∧ ∀ a' b', a' < N → b' < N → lrZ x a1 a' = true → lrZ x a1 b' = true → rk (lrZ x a1) a' < rk (lrZ x a1) a + 1 → LE x S' a1 a' b'
  | 0, k, f + 1, S, hk, _, g, hE => by
    have r := h.2.2.2.2.1.2.1
    have lL := rk_le (lrZ x a1) N
    refine ⟨S, ?_, g, fun a' b' l1 l2 r1 r2 lt => hE a' b' l1 l2 r1 r2 ?_⟩
    · show fX3_gather_L105_st kx _ (19 + a) (fX3_gather_L105 kx _ (19 + a) f) (nI k) S = _
      unfold fX3_gather_L105_st
      rw [g.2.1, if_pos ((nv_l (by omega) (by omega)).mpr (by omega))]
    · have := rk_lt r2 l2; omega
  | d + 1, k, f + 1, S, hk, hf, g, hE => by
    obtain ⟨h1, h2, h3, h4, h5, h6, h7, h8, h9, h10, h11⟩ := id h
    have r := h5.2.1
    have lL := rk_le (lrZ x a1) N
    have la := rk_lt hra ha
    obtain ⟨g1, g2, g3⟩ := g
    obtain ⟨b, b1, b2, b3⟩ := rk_ex (lrZ x a1) N k (by omega)
    have hsa := s1_n h5 (k := a) (by omega)
    have hsb := s1_n h5 (k := b) (by omega)
    have hS := Inv_fr g1 mEq.rfl h
    have mb : S.1 49 k = nI b := by rw [← b3]; exact g3 b b1 b2
    have ca : S.1 (19 + a) = x.1 (19 + a) := g1.1 (19 + a) (by unfold xcell; omega)
    have e1 : xEq x (wi S 50 (rk (lrZ x a1) a * 20 + k) (iI (gotZ x b (x.1 (19 + a) 1) 0))) := xEq_wi g1 (by unfold xcell; omega) (by omega)
    have hS1 := Inv_fr e1 mEq.rfl h
    have ca1 := e1.1 (19 + a) (by unfold xcell; omega)
    have mb1 : (wi S 50 (rk (lrZ x a1) a * 20 + k) (iI (gotZ x b (x.1 (19 + a) 1) 0))).1 49 k = nI b := by rw [wi_c _ _ (by omega)]; exact mb
    have q1 := e_gotX hS 0 ((isS_fr g1 _).mpr (isS_n h5 (k := b) (by omega))) ((isC_fr g1 _).mpr (home_c hsa))
    rw [nv_nt (by omega), gotZ_fr g1 (by omega) hsb] at q1
    have q2 := e_gotX hS1 0 ((isS_fr e1 _).mpr (isS_n h5 (k := b) (by omega))) ((isC_fr e1 _).mpr (goal_c hsa))
    rw [nv_nt (by omega), gotZ_fr e1 (by omega) hsb] at q2
    have ei : nI (rk (lrZ x a1) a) * 20 + nI k = nI (rk (lrZ x a1) a * 20 + k) := by rw [show (20 : Int32) = nI 20 from rfl, nv_mul, nI_add]
    have g' : LM x a1 N (wi (wi S 50 (rk (lrZ x a1) a * 20 + k) (iI (gotZ x b (x.1 (19 + a) 1) 0))) 51 (rk (lrZ x a1) a * 20 + k) (iI (gotZ x b (x.1 (19 + a) 5) 0))) := ⟨xEq_wi e1 (by unfold xcell; omega) (by omega), by rw [wi_c _ _ (by omega), wi_c _ _ (by omega)]; exact g2, fun j hj hr => by rw [wi_c _ _ (by omega), wi_c _ _ (by omega)]; exact g3 j hj hr⟩
    obtain ⟨S', w1, w2, w3⟩ := lg_2 h kx hN a1 ha hra d (k + 1) f _ (by omega) (by omega) g' (fun a' b' l1 l2 r1 r2 lt => by
      have lb' := rk_lt r2 l2
      unfold LE
      rw [wi_c (a := 50) _ _ (by omega)]
      by_cases z : rk (lrZ x a1) a' = rk (lrZ x a1) a ∧ rk (lrZ x a1) b' = k
      · have ea := rk_inj r1 hra z.1
        have eb := rk_inj r2 b2 (by omega)
        rw [ea, eb, b3]
        exact ⟨wi_s _ _ _ _, wi_s _ _ _ _⟩
      · rw [wi_n (a := 51) _ _ (by omega), wi_n (a := 50) _ _ (by omega), wi_c (a := 51) _ _ (by omega)]
        exact hE a' b' l1 l2 r1 r2 (by omega))
    refine ⟨S', ?_, w2, w3⟩
    show fX3_gather_L105_st kx _ (19 + a) (fX3_gather_L105 kx _ (19 + a) f) (nI k) S = _
    unfold fX3_gather_L105_st
    simp only [lt_eq]
    rw [g2, if_neg (fun q => by rw [nv_l (by omega) (by omega)] at q; omega), if_pos (nv_ib (by omega) (by omega)), nv_nt (by omega), mb, ca, q1, bnd_some, ei, if_pos (nv_ib (by omega) (by omega)), nv_nt (by omega), if_pos (nv_ib (by omega) (by omega)), mb1, ca1, q2, bnd_some, if_pos (nv_ib (by omega) (by omega)), nv_p1]
    exact w1
theorem lg_3 {n : Nat} {x m : St} (h : Inv n x m) {N : Nat} (hN : (N : Int) = (x.1 17 6).toInt) (a1 : Int32) : ∀ (d k f : Nat) (S : St), k + d = rk (lrZ x a1) N → d < f → LM x a1 N S → (∀ a' b', a' < N → b' < N → lrZ x a1 a' = true → lrZ x a1 b' = true → rk (lrZ x a1) a' < k → LE x S a1 a' b') → ∃ S', fX3_gather_L79 f (nI k) S = some ((), S') ∧ LM x a1 N S' ∧ ∀ a' b', a' < N → b' < N → lrZ x a1 a' = true → lrZ x a1 b' = true → LE x S' a1 a' b'
  | 0, k, f + 1, S, hk, _, g, hE => by
    have r := h.2.2.2.2.1.2.1
    have lL := rk_le (lrZ x a1) N
    refine ⟨S, ?_, g, fun a' b' l1 l2 r1 r2 => hE a' b' l1 l2 r1 r2 ?_⟩
    · show fX3_gather_L79_st (fX3_gather_L79 f) (nI k) S = _
      unfold fX3_gather_L79_st
      rw [g.2.1, if_pos ((nv_l (by omega) (by omega)).mpr (by omega))]
    · have := rk_lt r1 l1; omega
  | d + 1, k, f + 1, S, hk, hf, g, hE => by
    have r := h.2.2.2.2.1.2.1
    have lL := rk_le (lrZ x a1) N
    have fu := fu_ge
    obtain ⟨a, z1, z2, z3⟩ := rk_ex (lrZ x a1) N k (by omega)
    have ma : S.1 49 k = nI a := by rw [← z3]; exact g.2.2 a z1 z2
    obtain ⟨S1, w1, w2, w3⟩ := lg_2 h (fun (S4 : St) => fX3_gather_L79 f (nI (k + 1)) S4) hN a1 z1 z2 (rk (lrZ x a1) N) 0 FU S (by omega) (by omega) g (fun a' b' l1 l2 r1 r2 lt => hE a' b' l1 l2 r1 r2 (by omega))
    rw [z3] at w1 w3
    obtain ⟨S2, v1, v2, v3⟩ := lg_3 h hN a1 d (k + 1) f S1 (by omega) (by omega) w2 w3
    refine ⟨S2, ?_, v2, v3⟩
    show fX3_gather_L79_st (fX3_gather_L79 f) (nI k) S = _
    unfold fX3_gather_L79_st
    rw [g.2.1, if_neg (fun q => by rw [nv_l (by omega) (by omega)] at q; omega), if_pos (nv_ib (by omega) (by omega)), nv_nt (by omega), ma, if_pos (nv_ib (by omega) (by omega)), nv_nt (by omega), nv_p1]
    exact w1.trans v1
/-- the class's rows of listeners stand -/
def LG (x : St) (a1 : Int32) (S : St) : Prop := xEq x S ∧ S.1 48 9 = nI (rk (lrZ x a1) (x.1 17 6).toInt.toNat) ∧ (∀ j, j < (x.1 17 6).toInt.toNat → lrZ x a1 j = true → S.1 49 (rk (lrZ x a1) j) = nI j) ∧ ∀ a' b', a' < (x.1 17 6).toInt.toNat → b' < (x.1 17 6).toInt.toNat → lrZ x a1 a' = true → lrZ x a1 b' = true → LE x S a1 a' b'
theorem e_lg {n : Nat} {x m : St} (h : Inv n x m) (a1 : Int32) : ∃ S', fX3_gather a1 x = some ((), S') ∧ LG x a1 S' := by
  obtain ⟨h1, h2, h3, h4, h5, h6, h7, h8, h9, h10, h11⟩ := id h
  obtain ⟨N, eN, hN, l20⟩ := sndN h5
  have e : (x.1 17 6).toInt.toNat = N := by omega
  have fu := fu_ge
  have lL := rk_le (lrZ x a1) N
  unfold LG
  rw [e]
  unfold fX3_gather
  rw [lt_eq]
  obtain ⟨S1, w1, w2⟩ := lg_1 h (fun (S2 : St) => fX3_gather_L79 FU 0 S2) eN hN a1 N 0 FU (wi x 48 9 0) (by omega) (by omega) ⟨xEq_wi xEq.rfl (by unfold xcell; omega) (by omega), wi_s _ _ _ _, fun j hj => by omega⟩
  obtain ⟨S2, v1, v2, v3⟩ := lg_3 h hN a1 (rk (lrZ x a1) N) 0 FU S1 (by omega) (by omega) w2 (fun a' b' _ _ _ _ lt => by omega)
  exact ⟨S2, w1.trans v1, v2.1, v2.2.1, v2.2.2, v3⟩
