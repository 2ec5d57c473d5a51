/-! ===== parting: the set, its members, what is got of them ===== -/
theorem pcn_pos {s : Nat} (h0 : s ≠ 0) (hs : s < 4294967296) : 1 ≤ pcn s := by
  have := pcF_and 32 s h0 (by omega)
  unfold pcn
  omega
theorem set_i {a : Int32} {N : Nat} (hN : N ≤ 20) : (a &&& ((nI (2 ^ N) - 1) ^^^ (-1))) = 0 ↔ 0 ≤ a.toInt ∧ a.toInt < ((2 ^ N : Nat) : Int) := by
  have p0 := Nat.two_pow_pos N
  have p20 : 2 ^ N ≤ 2 ^ 20 := Nat.pow_le_pow_right (by omega) hN
  have e1 : nI (2 ^ N) - 1 = nI (2 ^ N - 1) := nv_sub (b := 1) (by omega)
  rw [e1]
  have ea : a = nI a.toBitVec.toNat := by
    apply Int32.toBitVec_inj.1
    show a.toBitVec = BitVec.ofNat 32 a.toBitVec.toNat
    simp
  have la := a.toBitVec.isLt
  constructor
  · intro h
    have lt : a.toBitVec.toNat < 2 ^ N := Nat.lt_pow_two_of_testBit _ (fun i hi => by
      by_cases i32 : i < 32
      · have b := congrArg (fun z => bt z i) h
        have b' : bt (a &&& (nI (2 ^ N - 1) ^^^ (-1))) i = bt 0 i := b
        rw [b_and, b_xor, bt_nI _ _ i32, b_m1 i i32, b_0, Nat.testBit_two_pow_sub_one, decide_eq_false (by omega)] at b'
        have : bt a i = a.toBitVec.toNat.testBit i := by
          rw [ea, bt_nI _ _ i32, ← ea]
        rw [this] at b'
        cases z : a.toBitVec.toNat.testBit i
        · rfl
        · rw [z] at b'; exact absurd b' (by decide)
      · exact Nat.testBit_lt_two_pow (Nat.lt_of_lt_of_le la (Nat.pow_le_pow_right (by omega) (by omega))))
    rw [ea, nv_t (by omega)]
    omega
  · intro h
    obtain ⟨s, es, e2⟩ := nv_i (a := a) (lo := 0) (hi := ((2 ^ N : Nat) : Int)) ⟨h.1, by omega⟩ (by omega)
    rw [es]
    apply b_ext
    intro i hi
    rw [b_and, b_xor, bt_nI _ _ hi, bt_nI _ _ hi, b_m1 i hi, b_0, Nat.testBit_two_pow_sub_one]
    by_cases c : i < N
    · rw [decide_eq_true c]; cases s.testBit i <;> rfl
    · rw [decide_eq_false c, Nat.testBit_lt_two_pow (Nat.lt_of_lt_of_le (show s < 2 ^ N by omega) (Nat.pow_le_pow_right (by omega) (by omega)))]; rfl
abbrev sB (s : Nat) (j : Nat) : Bool := s.testBit j
theorem rk_s {s N : Nat} (hN : N ≤ 20) (hs : s < 2 ^ N) : rk (sB s) N = pcn s := by
  have := rk_bit s N (by omega)
  rw [Nat.mod_eq_of_lt hs] at this
  exact this
/-- the class's members up to t -/
def PX (x : St) (s t : Nat) (S : St) : Prop := xEq x S ∧ S.1 41 8 = nI (rk (sB s) t) ∧ ∀ j, j < t → sB s j = true → S.1 42 (rk (sB s) j) = nI j
def PM (m : St) (s t : Nat) (M : St) : Prop := mEq m M ∧ M.1 0 22 = nI (rk (sB s) t) ∧ ∀ j, j < t → sB s j = true → M.1 17 (rk (sB s) j) = nI j
theorem px_l {x m : St} (h5 : I_send x m) (kx : St → Option (Unit × St)) {N s : Nat} (eN : x.1 17 6 = nI N) (hN : (N : Int) = (x.1 17 6).toInt) (hL8 : rk (sB s) N ≤ 8) : ∀ (d t f : Nat) (S : St), t + d = N → d < f → PX x s t S → ∃ S', fX4_prepare_L7 kx (nI s) f (nI t) S = kx S' ∧ PX x s N S'
  | 0, t, f + 1, S, ht, _, g => by
    have r := h5.2.1
    have et : t = N := by omega
    subst et
    refine ⟨S, ?_, g⟩
    show fX4_prepare_L7_st kx (nI s) (fX4_prepare_L7 kx (nI s) f) (nI t) S = _
    unfold fX4_prepare_L7_st
    rw [g.1.2.2.1, eN, if_pos ((nv_l (by omega) (by omega)).mpr (by omega))]
  | d + 1, t, f + 1, S, ht, hf, g => by
    have r := h5.2.1
    obtain ⟨g1, g2, g3⟩ := g
    have mono := rk_mono (sB s) t (N - t)
    rw [show t + (N - t) = N by omega] at mono
    have lt' := rk_le (sB s) t
    by_cases c8 : 8 ≤ rk (sB s) t
    · refine ⟨S, ?_, g1, by rw [g2, show rk (sB s) N = rk (sB s) t by omega], fun j hj rj => g3 j ?_ rj⟩
      · show fX4_prepare_L7_st kx (nI s) (fX4_prepare_L7 kx (nI s) f) (nI t) S = _
        unfold fX4_prepare_L7_st
        rw [g1.2.2.1, eN, if_neg (fun q => by rw [nv_l (by omega) (by omega)] at q; omega), g2, if_pos (show (8 : Int32) ≤ nI (rk (sB s) t) from (nv_l (a := 8) (by omega) (by omega)).mpr c8)]
      · rcases Nat.lt_or_ge j t with z | z
        · exact z
        · have a := rk_lt rj hj
          have b := rk_mono (sB s) t (j - t)
          rw [show t + (j - t) = j by omega] at b
          omega
    · show ∃ S', fX4_prepare_L7_st kx (nI s) (fX4_prepare_L7 kx (nI s) f) (nI t) S = _ ∧ _
      unfold fX4_prepare_L7_st
      simp only [jn_eq, lt_eq]
      rw [g1.2.2.1, eN, if_neg (fun q => by rw [nv_l (by omega) (by omega)] at q; omega), g2, if_neg (show ¬ (8 : Int32) ≤ nI (rk (sB s) t) from fun q => c8 ((nv_l (a := 8) (by omega) (by omega)).mp q)), nv_p1]
      by_cases b : s.testBit t = true
      · have c9 : (wi S 42 (rk (sB s) t) (nI t)).1 41 8 = nI (rk (sB s) t) := by rw [wi_c _ _ (by omega)]; exact g2
        rw [if_neg (fun q => (nb_0 s (by omega)).mp q b), if_pos (nv_ib (by omega) (by omega)), nv_nt (by omega), c9, nv_p1]
        refine px_l h5 kx eN hN hL8 d (t + 1) f _ (by omega) (by omega) ⟨xEq_wi (xEq_wi g1 (by unfold xcell; omega) (by omega)) (by unfold xcell; omega) (by omega), by rw [rk_t (R := sB s) b, wi_s], fun j hj rj => ?_⟩
        rw [wi_c _ _ (by omega)]
        by_cases e : j = t
        · subst e; exact wi_s _ _ _ _
        · have := rk_lt rj (show j < t by omega)
          rw [wi_n _ _ (by omega)]; exact g3 j (by omega) rj
      · rw [if_pos ((nb_0 s (by omega)).mpr b)]
        refine px_l h5 kx eN hN hL8 d (t + 1) f S (by omega) (by omega) ⟨g1, by rw [rk_f (R := sB s) b]; exact g2, fun j hj rj => g3 j ?_ rj⟩
        rcases Nat.lt_or_ge j t with z | z
        · exact z
        · exact absurd rj (by rw [show j = t by omega]; exact b)
theorem pm_l {x m : St} (h5 : I_send x m) {N s : Nat} (eN : x.1 17 6 = nI N) (hN : (N : Int) = (x.1 17 6).toInt) (hL8 : rk (sB s) N ≤ 8) : ∀ (d t f : Nat) (M : St), t + d = N → d < f → PM m s t M → ∃ M', fX12_takesSet_L32 (nI s) f (nI t) M = some (1, M') ∧ PM m s N M'
  | 0, t, f + 1, M, ht, _, g => by
    have r := h5.2.1
    have et : t = N := by omega
    subst et
    refine ⟨M, ?_, g⟩
    show fX12_takesSet_L32_st (nI s) (fX12_takesSet_L32 (nI s) f) (nI t) M = _
    unfold fX12_takesSet_L32_st
    rw [g.1.2.1.2.2.2.2.1, h5.1, eN, if_pos ((nv_l (by omega) (by omega)).mpr (by omega))]
  | d + 1, t, f + 1, M, ht, hf, g => by
    have r := h5.2.1
    obtain ⟨g1, g2, g3⟩ := g
    have mono := rk_mono (sB s) t (N - t)
    rw [show t + (N - t) = N by omega] at mono
    show ∃ M', fX12_takesSet_L32_st (nI s) (fX12_takesSet_L32 (nI s) f) (nI t) M = _ ∧ _
    unfold fX12_takesSet_L32_st
    simp only [jn_eq, lt_eq]
    rw [g1.2.1.2.2.2.2.1, h5.1, eN, if_neg (fun q => by rw [nv_l (by omega) (by omega)] at q; omega), g2, nv_p1]
    by_cases b : s.testBit t = true
    · have lt' := rk_lt (R := sB s) b (show t < N by omega)
      have c9 : (wi M 17 (rk (sB s) t) (nI t)).1 0 22 = nI (rk (sB s) t) := by rw [wi_c _ _ (by omega)]; exact g2
      rw [if_pos ((nb_1 s (by omega)).mpr b), if_pos (nv_ib (by omega) (by omega)), nv_nt (by omega), c9, nv_p1]
      refine pm_l h5 eN hN hL8 d (t + 1) f _ (by omega) (by omega) ⟨mEq_wi (mEq_wi g1 (by unfold mcell; omega) (by omega)) (by unfold mcell; omega) (by omega), by rw [rk_t (R := sB s) b, wi_s], fun j hj rj => ?_⟩
      rw [wi_c _ _ (by omega)]
      by_cases e : j = t
      · subst e; exact wi_s _ _ _ _
      · have := rk_lt rj (show j < t by omega)
        rw [wi_n _ _ (by omega)]; exact g3 j (by omega) rj
    · rw [if_neg (fun q => b ((nb_1 s (by omega)).mp q))]
      refine pm_l h5 eN hN hL8 d (t + 1) f M (by omega) (by omega) ⟨g1, by rw [rk_f (R := sB s) b]; exact g2, fun j hj rj => g3 j ?_ rj⟩
      rcases Nat.lt_or_ge j t with z | z
      · exact z
      · exact absurd rj (by rw [show j = t by omega]; exact b)
theorem e_set {x m : St} (h5 : I_send x m) (a1 : Int32) : (fX4_isSet a1 x = some (0, x) ∧ fX12_takesSet a1 m = some (0, m)) ∨ ∃ s : Nat, a1 = nI s ∧ s < 2 ^ (x.1 17 6).toInt.toNat ∧ 1 ≤ rk (sB s) (x.1 17 6).toInt.toNat ∧ rk (sB s) (x.1 17 6).toInt.toNat ≤ 8 ∧ fX4_isSet a1 x = some (1, x) ∧ ∃ M', fX12_takesSet a1 m = some (1, M') ∧ PM m s (x.1 17 6).toInt.toNat M' := by
  obtain ⟨N, eN, hN, l20⟩ := sndN h5
  have e : (x.1 17 6).toInt.toNat = N := by omega
  have p20 : 2 ^ N ≤ 2 ^ 20 := Nat.pow_le_pow_right (by omega) l20
  have fu := fu_ge
  rw [e]
  by_cases c : 0 ≤ a1.toInt ∧ a1.toInt < ((2 ^ N : Nat) : Int)
  · obtain ⟨s, rfl, es⟩ := nv_i (a := a1) (lo := 0) (hi := ((2 ^ N : Nat) : Int)) ⟨c.1, by omega⟩ (by omega)
    have ls : s < 2 ^ N := by omega
    have rs := rk_s l20 ls
    have ple := pcn_le s
    by_cases z : s = 0
    · subst z
      refine Or.inl ⟨?_, ?_⟩
      · unfold fX4_isSet
        rw [e_bc (by omega), bnd_some, pcn_0, if_pos (show nI 0 < 1 by decide)]
      · unfold fX12_takesSet
        rw [if_pos (show nI 0 ≤ 0 by decide)]
    · have pos := pcn_pos z (by omega)
      have n1 : ¬ nI (pcn s) < 1 := fun q => by have := (nv_s (b := 1) (by omega) (by omega)).mp q; omega
      have nle : ¬ nI s ≤ 0 := fun q => by have := (nv_l (b := 0) (by omega) (by omega)).mp q; omega
      have nge : ¬ nI (2 ^ N) ≤ nI s := fun q => by rw [nv_l (by omega) (by omega)] at q; omega
      by_cases c8 : pcn s ≤ 8
      · obtain ⟨M', i1, i2⟩ := pm_l h5 (s := s) eN hN (by omega) N 0 FU (wi m 0 22 0) (by omega) (by omega) ⟨mEq_wi mEq.rfl (by unfold mcell; omega) (by omega), wi_s _ _ _ _, fun j hj => by omega⟩
        refine Or.inr ⟨s, rfl, ls, by omega, by omega, ?_, M', ?_, i2⟩
        · unfold fX4_isSet
          rw [e_bc (by omega), bnd_some, if_neg n1, if_neg (fun q => by have := (nv_s (a := 8) (by omega) (by omega)).mp q; omega), eN, nb_shl N (by omega), if_pos ((set_i l20).mpr c)]
        · unfold fX12_takesSet
          rw [if_neg nle, h5.1, eN, nb_shl N (by omega), if_neg nge, e_ones (by omega), bnd_some, if_pos (show nI (pcn s) ≤ 8 from (nv_l (b := 8) (by omega) (by omega)).mpr c8), lt_eq]
          exact i1
      · refine Or.inl ⟨?_, ?_⟩
        · unfold fX4_isSet
          rw [e_bc (by omega), bnd_some, if_neg n1, if_pos (show 8 < nI (pcn s) from (nv_s (a := 8) (by omega) (by omega)).mpr (by omega))]
        · unfold fX12_takesSet
          rw [if_neg nle, h5.1, eN, nb_shl N (by omega), if_neg nge, e_ones (by omega), bnd_some, if_neg (show ¬ nI (pcn s) ≤ 8 from fun q => c8 ((nv_l (b := 8) (by omega) (by omega)).mp q))]
  · refine Or.inl ⟨?_, ?_⟩
    · obtain ⟨w, hw⟩ : ∃ w, fJ6_bitCount_0f7a4 a1 x = some (w, x) := ⟨_, rfl⟩
      unfold fX4_isSet
      rw [hw, bnd_some, eN, nb_shl N (by omega), if_neg (show ¬ (a1 &&& ((nI (2 ^ N) - 1) ^^^ (-1))) = 0 from fun q => c ((set_i l20).mp q))]
      split
      · rfl
      · split <;> rfl
    · unfold fX12_takesSet
      rw [h5.1, eN, nb_shl N (by omega)]
      by_cases z : a1 ≤ 0
      · rw [if_pos z]
      · rw [if_neg z, if_pos (by
          rw [Int32.le_iff_toInt_le, l32_0] at z
          rw [Int32.le_iff_toInt_le, nv_t (by omega)]
          omega)]
/-- what is got of member b at the goal of member a -/
abbrev pgZ (x : St) (a b : Nat) : Int := gotZ x b (x.1 (19 + a) 5) (if a = b then moodZ x a else 0)
abbrev PE (x S : St) (s a b : Nat) : Prop := S.1 43 (rk (sB s) a * 8 + rk (sB s) b) = iI (pgZ x a b)
theorem pt_2 {n : Nat} {x m : St} (h : Inv n x m) (kx : St → Option (Unit × St)) {N s : Nat} (hN : (N : Int) = (x.1 17 6).toInt) (hL8 : rk (sB s) N ≤ 8) {a : Nat} (ha : a < N) (hra : sB s a = true) : ∀ (d k f : Nat) (S : St), k + d = rk (sB s) N → d < f → PX x s N S → (∀ a' b', a' < N → b' < N → sB s a' = true → sB s b' = true → (rk (sB s) a' < rk (sB s) a ∨ (rk (sB s) a' = rk (sB s) a ∧ rk (sB s) b' < k)) → PE x S s a' b') → ∃ S', fX4_prepare_L73 kx (nI (rk (sB s) a)) f (nI k) S = kx S' ∧ PX x s N S' ∧ ∀ a' b', a' < N → b' < N → sB s a' = true → sB s b' = true → rk (sB s) a' < rk (sB s) a + 1 → PE x S' s a' b'
  | 0, k, f + 1, S, hk, _, g, hE => by
    refine ⟨S, ?_, g, fun a' b' l1 l2 r1 r2 lt => hE a' b' l1 l2 r1 r2 ?_⟩
    · show fX4_prepare_L73_st kx _ (fX4_prepare_L73 kx _ f) (nI k) S = _
      unfold fX4_prepare_L73_st
      rw [g.2.1, if_pos ((nv_l (by omega) (by omega)).mpr (by omega))]
    · have := rk_lt r2 l2; omega
  | d + 1, k, f + 1, S, hk, hf, g, hE => by
    obtain ⟨h1, h2, h3, h4, h5, h6, h7, h8, h9, h10, h11⟩ := id h
    have r := h5.2.1
    have la := rk_lt hra ha
    obtain ⟨g1, g2, g3⟩ := g
    obtain ⟨b, b1, b2, b3⟩ := rk_ex (sB s) N k (by omega)
    have hsa := s1_n h5 (k := a) (by omega)
    have hsb := s1_n h5 (k := b) (by omega)
    have hS := Inv_fr g1 mEq.rfl h
    have mb : S.1 42 k = nI b := by rw [← b3]; exact g3 b b1 b2
    have ma : S.1 42 (rk (sB s) a) = nI a := g3 a ha hra
    have ca : S.1 (19 + a) = x.1 (19 + a) := g1.1 (19 + a) (by unfold xcell; omega)
    have q1 := fun mood => e_gotX hS mood ((isS_fr g1 _).mpr (isS_n h5 (k := b) (by omega))) ((isC_fr g1 _).mpr (goal_c hsa))
    have q1' : ∀ mood, fX0_gotAt (nI b) (x.1 (19 + a) 5) mood S = some (iI (gotZ x b (x.1 (19 + a) 5) mood), S) := fun mood => by
      rw [q1 mood, nv_nt (by omega), gotZ_fr g1 (by omega) hsb]
    have ei : nI (rk (sB s) a) * 8 + nI k = nI (rk (sB s) a * 8 + k) := by rw [show (8 : Int32) = nI 8 from rfl, nv_mul, nI_add]
    have g' : PX x s N (wi S 43 (rk (sB s) a * 8 + k) (iI (pgZ x a b))) := ⟨xEq_wi g1 (by unfold xcell; omega) (by omega), by rw [wi_c _ _ (by omega)]; exact g2, fun j hj hr => by rw [wi_c _ _ (by omega)]; exact g3 j hj hr⟩
    obtain ⟨S', w1, w2, w3⟩ := pt_2 h kx hN hL8 ha hra d (k + 1) f _ (by omega) (by omega) g' (fun a' b' l1 l2 r1 r2 lt => by
      have lb' := rk_lt r2 l2
      unfold PE
      by_cases z : rk (sB s) a' = rk (sB s) a ∧ rk (sB s) b' = k
      · have ea := rk_inj r1 hra z.1
        have eb := rk_inj r2 b2 (by omega)
        rw [ea, eb, b3]
        exact wi_s _ _ _ _
      · rw [wi_n (a := 43) _ _ (by omega)]
        exact hE a' b' l1 l2 r1 r2 (by omega))
    refine ⟨S', ?_, w2, w3⟩
    show fX4_prepare_L73_st kx _ (fX4_prepare_L73 kx _ f) (nI k) S = _
    unfold fX4_prepare_L73_st
    simp only [jn_eq, lt_eq]
    have ibk : ib (nI k) 8 := nv_ib (by omega) (by omega)
    have iba : ib (nI (rk (sB s) a)) 8 := nv_ib (by omega) (by omega)
    have ib20 : ib (nI a) 20 := nv_ib (by omega) (by omega)
    have nta : nt (nI (rk (sB s) a)) = rk (sB s) a := nv_nt (by omega)
    have ntk : nt (nI k) = k := nv_nt (by omega)
    rw [g2, if_neg (fun q => by rw [nv_l (by omega) (by omega)] at q; omega)]
    by_cases e : rk (sB s) a = k
    · have eab : a = b := rk_inj hra b2 (by omega)
      rw [if_pos ((nv_e (by omega) (by omega)).mpr e), if_pos iba, nta, ma, if_pos ib20, nv_nt (a := a) (by omega), e_moodX, bnd_some, if_pos ibk, if_pos iba, ma, if_pos ib20, nv_nt (a := a) (by omega), ntk, mb, ca, q1', bnd_some, ei, if_pos (nv_ib (by omega) (by omega)), nv_nt (by omega), nv_p1, moodZ_fr g1 (by omega)]
      have ep : pgZ x a b = gotZ x b (x.1 (19 + a) 5) (moodZ x a) := by unfold pgZ; rw [if_pos eab]
      rw [ep] at w1
      exact w1
    · have eab : ¬ a = b := fun z => e (by rw [z]; exact b3)
      rw [if_neg (fun q => e ((nv_e (by omega) (by omega)).mp q)), if_pos ibk, if_pos iba, nta, ma, if_pos ib20, nv_nt (a := a) (by omega), ntk, mb, ca, q1', bnd_some, ei, if_pos (nv_ib (by omega) (by omega)), nv_nt (by omega), nv_p1]
      have ep : pgZ x a b = gotZ x b (x.1 (19 + a) 5) 0 := by unfold pgZ; rw [if_neg eab]
      rw [ep] at w1
      exact w1
theorem pt_3 {n : Nat} {x m : St} (h : Inv n x m) (kx : St → Option (Unit × St)) {N s : Nat} (hN : (N : Int) = (x.1 17 6).toInt) (hL8 : rk (sB s) N ≤ 8) : ∀ (d k f : Nat) (S : St), k + d = rk (sB s) N → d < f → PX x s N S → (∀ a' b', a' < N → b' < N → sB s a' = true → sB s b' = true → rk (sB s) a' < k → PE x S s a' b') → ∃ S', fX4_prepare_L63 kx f (nI k) S = kx S' ∧ PX x s N S' ∧ ∀ a' b', a' < N → b' < N → sB s a' = true → sB s b' = true → PE x S' s a' b'
  | 0, k, f + 1, S, hk, _, g, hE => by
    refine ⟨S, ?_, g, fun a' b' l1 l2 r1 r2 => hE a' b' l1 l2 r1 r2 ?_⟩
    · show fX4_prepare_L63_st kx (fX4_prepare_L63 kx f) (nI k) S = _
      unfold fX4_prepare_L63_st
      rw [g.2.1, if_pos ((nv_l (by omega) (by omega)).mpr (by omega))]
    · have := rk_lt r1 l1; omega
  | d + 1, k, f + 1, S, hk, hf, g, hE => by
    have fu := fu_ge
    obtain ⟨a, z1, z2, z3⟩ := rk_ex (sB s) N k (by omega)
    obtain ⟨S1, w1, w2, w3⟩ := pt_2 h (fun (S2 : St) => fX4_prepare_L63 kx f (nI (k + 1)) S2) hN hL8 z1 z2 (rk (sB s) N) 0 FU S (by omega) (by omega) g (fun a' b' l1 l2 r1 r2 lt => hE a' b' l1 l2 r1 r2 (by omega))
    rw [z3] at w1 w3
    obtain ⟨S2, v1, v2, v3⟩ := pt_3 h kx hN hL8 d (k + 1) f S1 (by omega) (by omega) w2 w3
    refine ⟨S2, ?_, v2, v3⟩
    show fX4_prepare_L63_st kx (fX4_prepare_L63 kx f) (nI k) S = _
    unfold fX4_prepare_L63_st
    rw [g.2.1, if_neg (fun q => by rw [nv_l (by omega) (by omega)] at q; omega), nv_p1]
    exact w1.trans v1
