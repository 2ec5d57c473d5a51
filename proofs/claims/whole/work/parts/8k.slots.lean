/-! ===== parting: the tables of fewest slots ===== -/
theorem PT_c {x S S' : St} {s : Nat} (g : PT x s S) (hc : ∀ k, k < 44 ∨ 47 < k → S'.1 k = S.1 k) (h2 : S'.2 = S.2) : PT x s S' := by
  obtain ⟨g1, g2, g3, g4⟩ := g
  refine ⟨⟨fun k hk => by rw [hc k (by unfold xcell at hk; omega)]; exact g1.1 k hk, by rw [hc 0 (by omega)]; exact g1.2.1, by rw [hc 17 (by omega)]; exact g1.2.2.1, by rw [hc 17 (by omega)]; exact g1.2.2.2.1, by rw [hc 59 (by omega)]; exact g1.2.2.2.2.1, by rw [hc 70 (by omega)]; exact g1.2.2.2.2.2.1, by rw [hc 70 (by omega)]; exact g1.2.2.2.2.2.2.1, fun k hk => by rw [h2]; exact g1.2.2.2.2.2.2.2 k hk⟩, by rw [hc 41 (by omega)]; exact g2, fun j hj rj => by rw [hc 42 (by omega)]; exact g3 j hj rj, fun a b ha hb ra rb => ?_⟩
  unfold PE
  rw [hc 43 (by omega)]; exact g4 a b ha hb ra rb
theorem PMM_c {x m M M' : St} {s : Nat} (g : PMM x m s M) (hc : ∀ k, k < 18 ∨ 20 < k → M'.1 k = M.1 k) (h2 : M'.2 = M.2) : PMM x m s M' := by
  obtain ⟨⟨b0, b1, b11⟩, g2, g3⟩ := g
  refine ⟨⟨fun k hk => by rw [hc k (by unfold mcell at hk; omega)]; exact b0 k hk, by rw [hc 0 (by omega)]; exact b1, by rw [h2]; exact b11⟩, by rw [hc 0 (by omega)]; exact g2, fun j hj rj => by rw [hc 17 (by omega)]; exact g3 j hj rj⟩
theorem e_wh {x S : St} {s : Nat} (hL8 : rk (sB s) (nS x) ≤ 8) (g : PT x s S) : fX4_whole S = some (nI (2 ^ rk (sB s) (nS x) - 1), S) := by
  have p0 := Nat.two_pow_pos (rk (sB s) (nS x))
  unfold fX4_whole
  rw [g.2.1, nb_shl _ (by omega)]
  have e1 : nI (2 ^ rk (sB s) (nS x)) - 1 = nI (2 ^ rk (sB s) (nS x) - 1) := nv_sub (b := 1) (by omega)
  rw [e1]
theorem tog_l {n : Nat} {x m : St} (h : Inv n x m) {s : Nat} (hL8 : rk (sB s) (nS x) ≤ 8) (kx : St → Option (Unit × St)) : ∀ (d k f : Nat) (S : St), k + d = 2 ^ rk (sB s) (nS x) → d < f → PT x s S → (∀ j, j < k → S.1 44 j = bi (tgB x s j = true)) → ∃ S', fX4_prepare_L166 kx f (nI k) S = kx S' ∧ PT x s S' ∧ ∀ j, j < 2 ^ rk (sB s) (nS x) → S'.1 44 j = bi (tgB x s j = true)
  | 0, k, f + 1, S, hk, _, g, ht => by
    have p0 := Nat.two_pow_pos (rk (sB s) (nS x))
    have p8 : 2 ^ rk (sB s) (nS x) ≤ 2 ^ 8 := Nat.pow_le_pow_right (by omega) hL8
    refine ⟨S, ?_, g, fun j hj => ht j (by omega)⟩
    show fX4_prepare_L166_st kx (fX4_prepare_L166 kx f) (nI k) S = _
    unfold fX4_prepare_L166_st
    rw [e_wh hL8 g, bnd_some, if_pos ((nv_s (by omega) (by omega)).mpr (by omega))]
  | d + 1, k, f + 1, S, hk, hf, g, ht => by
    have p0 := Nat.two_pow_pos (rk (sB s) (nS x))
    have p8 : 2 ^ rk (sB s) (nS x) ≤ 2 ^ 8 := Nat.pow_le_pow_right (by omega) hL8
    obtain ⟨S', i1, i2⟩ := tog_l h hL8 kx d (k + 1) f (wi S 44 k (bi (tgB x s k = true))) (by omega) (by omega) (PT_wi g (by omega)) (fun j hj => by
      by_cases e : j = k
      · subst e; exact wi_s _ _ _ _
      · rw [wi_n _ _ (by omega)]; exact ht j (by omega))
    refine ⟨S', ?_, i2⟩
    show fX4_prepare_L166_st kx (fX4_prepare_L166 kx f) (nI k) S = _
    unfold fX4_prepare_L166_st
    rw [e_wh hL8 g, bnd_some, if_neg (fun q => by rw [nv_s (by omega) (by omega)] at q; omega), e_mbt h hL8 g k, bnd_some, if_pos ⟨nv_ib (by omega) (by omega), bi_01 _⟩, lt_eq, nv_nt (by omega), nv_p1]
    exact i1
theorem e_minN {a b : Nat} (ha : a < 2147483648) (hb : b < 2147483648) (S : St) : fJ9_min_7cf53 (nI a) (nI b) S = some (nI (min a b), S) := by
  rw [iI_nat, iI_nat, e_min (by omega) (by omega), iI_nat]
  congr 3
  omega
abbrev cA (tg : Nat → Bool) (mask : Nat) (one : Nat) : Bool := decide (one &&& lowb mask ≠ 0) && tg one
theorem in_x {tg : Nat → Bool} {A : Nat → Nat} {L mask : Nat} (hm : mask < 2 ^ L) (hL : L ≤ 8) (kx : St → Option (Unit × St)) : ∀ (g F one v : Nat) (S : St), one < g → g ≤ F → sb one mask → v ≤ 99 → S.1 45 mask = nI v → (∀ k, k < 2 ^ L → S.1 44 k = bi (tg k = true)) → (∀ k, k < mask → S.1 45 k = nI (A k) ∧ A k ≤ 99) → ∃ S', fX4_countSlots_L32 kx (nI mask) (nI (lowb mask)) F (nI one) S = kx S' ∧ S'.1 45 mask = nI (mn (cA tg mask) A mask g one v) ∧ (∀ k, k ≠ 45 → S'.1 k = S.1 k) ∧ (∀ j, j ≠ mask → S'.1 45 j = S.1 45 j) ∧ S'.2 = S.2
  | 0, F, one, v, S, hg, _, _, _, _, _, _ => absurd hg (Nat.not_lt_zero _)
  | g + 1, F + 1, one, v, S, hg, hF, ho, hv, eV, eT, eA => by
    have p8 : 2 ^ L ≤ 2 ^ 8 := Nat.pow_le_pow_right (by omega) hL
    have le := sb_le ho
    show ∃ S' : St, fX4_countSlots_L32_st kx _ _ (fX4_countSlots_L32 kx _ _ F) (nI one) S = _ ∧ S'.1 45 mask = nI (if one = 0 then v else mn (cA tg mask) A mask g ((one - 1) &&& mask) (if cA tg mask one = true then min v (1 + A (mask ^^^ one)) else v)) ∧ _
    unfold fX4_countSlots_L32_st
    simp only [jn_eq, lt_eq]
    by_cases z : one = 0
    · rw [if_pos (show nI one ≤ 0 by rw [z]; decide), if_pos z]
      exact ⟨S, rfl, eV, fun _ _ => rfl, fun _ _ => rfl, rfl⟩
    · have x1 := (sb_x 8 mask one (by omega) ho).1
      have l2 : (one - 1) &&& mask ≤ one - 1 := Nat.and_le_left
      have ho2 : sb ((one - 1) &&& mask) mask := by show ((one - 1) &&& mask) &&& mask = (one - 1) &&& mask; rw [Nat.and_assoc, Nat.and_self]
      have e1 : nI one - 1 = nI (one - 1) := nv_sub (b := 1) (by omega)
      have lb : lowb mask ≤ mask := Nat.and_le_left
      have ol : one &&& lowb mask ≤ one := Nat.and_le_left
      obtain ⟨a1, a2⟩ := eA (mask ^^^ one) (by omega)
      have skip : ¬ cA tg mask one = true → ∃ S', fX4_countSlots_L32 kx (nI mask) (nI (lowb mask)) F (nI ((one - 1) &&& mask)) S = kx S' ∧ S'.1 45 mask = nI (mn (cA tg mask) A mask g ((one - 1) &&& mask) (if cA tg mask one = true then min v (1 + A (mask ^^^ one)) else v)) ∧ (∀ k, k ≠ 45 → S'.1 k = S.1 k) ∧ (∀ j, j ≠ mask → S'.1 45 j = S.1 45 j) ∧ S'.2 = S.2 := fun nc => by
        rw [if_neg nc]
        exact in_x hm hL kx g F _ v S (by omega) (by omega) ho2 hv eV eT eA
      have nle : ¬ nI one ≤ 0 := fun q => by have := (nv_l (b := 0) (by omega) (by omega)).mp q; omega
      rw [if_neg nle, if_neg z, e1, nx_and, nx_and, nx_xor]
      by_cases c1 : one &&& lowb mask = 0
      · rw [if_pos ((nv_z (by omega)).mpr c1)]
        refine skip (fun q => ?_)
        have q' := Eq.mp (Bool.and_eq_true (decide (one &&& lowb mask ≠ 0)) (tg one)) q
        exact of_decide_eq_true q'.1 c1
      · rw [if_neg (fun q => c1 ((nv_z (by omega)).mp q)), if_pos (nv_ib (by omega) (by omega)), nv_nt (a := one) (by omega), eT one (by omega)]
        by_cases c2 : tg one = true
        · have cc : cA tg mask one = true := by show (decide (one &&& lowb mask ≠ 0) && tg one) = true; rw [decide_eq_true c1, c2]; rfl
          have e2 : (1 : Int32) + nI (A (mask ^^^ one)) = nI (1 + A (mask ^^^ one)) := nI_add 1 _
          rw [if_neg (show ¬ bi (tg one = true) = 0 from fun q => (bi_0 _).mp q c2), if_pos (nv_ib (by omega) (by omega)), if_pos (nv_ib (by omega) (by omega)), nv_nt (a := mask) (by omega), nv_nt (a := mask ^^^ one) (by omega), eV, a1, e2, e_minN (by omega) (by omega), bnd_some, if_pos (nv_ib (by omega) (by omega)), if_pos cc]
          have mv : min v (1 + A (mask ^^^ one)) ≤ v := Nat.min_le_left _ _
          obtain ⟨S', i1, i2, i3, i4, i5⟩ := in_x hm hL kx g F ((one - 1) &&& mask) (min v (1 + A (mask ^^^ one))) (wi S 45 mask (nI (min v (1 + A (mask ^^^ one))))) (by omega) (by omega) ho2 (by omega) (wi_s _ _ _ _) (fun k hk => by rw [wi_c _ _ (by omega)]; exact eT k hk) (fun k hk => by rw [wi_n _ _ (by omega)]; exact eA k hk)
          exact ⟨S', i1, i2, fun k hk => by rw [i3 k hk, wi_c _ _ hk], fun j hj => by rw [i4 j hj, wi_n _ _ (fun q => hj q.2)], i5⟩
        · rw [if_pos (show bi (tg one = true) = 0 from (bi_0 _).mpr c2)]
          refine skip (fun q => ?_)
          have q' := Eq.mp (Bool.and_eq_true (decide (one &&& lowb mask ≠ 0)) (tg one)) q
          exact c2 q'.2
/-- the class's tables up to k -/
def CA (x : St) (s : Nat) (S : St) (k : Nat) : Prop := PT x s S ∧ (∀ j, j < 2 ^ rk (sB s) (nS x) → S.1 44 j = bi (tgB x s j = true)) ∧ (∀ j, j < k → S.1 45 j = nI (nt (S.1 45 j)) ∧ nt (S.1 45 j) ≤ 99) ∧ nt (S.1 45 0) = 0 ∧ ∀ j, j ≠ 0 → j < k → nt (S.1 45 j) = mn (cA (tgB x s) j) (fun i => nt (S.1 45 i)) j 257 j 99
theorem cnt_l {n : Nat} {x m : St} (h : Inv n x m) {s : Nat} (hL8 : rk (sB s) (nS x) ≤ 8) : ∀ (d k f : Nat) (S : St), k + d = 2 ^ rk (sB s) (nS x) → 1 ≤ k → d < f → CA x s S k → ∃ S', fX4_countSlots_L9 f (nI k) S = some ((), S') ∧ CA x s S' (2 ^ rk (sB s) (nS x))
  | 0, k, f + 1, S, hk, h1, _, g => by
    have p0 := Nat.two_pow_pos (rk (sB s) (nS x))
    have p8 : 2 ^ rk (sB s) (nS x) ≤ 2 ^ 8 := Nat.pow_le_pow_right (by omega) hL8
    refine ⟨S, ?_, by rw [show 2 ^ rk (sB s) (nS x) = k by omega]; exact g⟩
    show fX4_countSlots_L9_st (fX4_countSlots_L9 f) (nI k) S = _
    unfold fX4_countSlots_L9_st
    rw [e_wh hL8 g.1, bnd_some, if_pos ((nv_s (by omega) (by omega)).mpr (by omega))]
  | d + 1, k, f + 1, S, hk, h1, hf, g => by
    have p0 := Nat.two_pow_pos (rk (sB s) (nS x))
    have p8 : 2 ^ rk (sB s) (nS x) ≤ 2 ^ 8 := Nat.pow_le_pow_right (by omega) hL8
    have fu := fu_ge
    obtain ⟨g1, g2, g3, g4, g5⟩ := g
    obtain ⟨S1, i1, i2, i3, i4, i5⟩ := in_x (tg := tgB x s) (A := fun i => nt (S.1 45 i)) (mask := k) (L := rk (sB s) (nS x)) (by omega) hL8 (fun (S7 : St) => fX4_countSlots_L9 f (nI (k + 1)) S7) 257 FU k 99 (wi S 45 k 99) (by omega) (by omega) (Nat.and_self k) (by omega) (wi_s _ _ _ _) (fun j hj => by rw [wi_c _ _ (by omega)]; exact g2 j hj) (fun j hj => by rw [wi_n _ _ (by omega)]; exact g3 j hj)
    have old : ∀ j, j < k → S1.1 45 j = S.1 45 j := fun j hj => by rw [i4 j (by omega), wi_n _ _ (by omega)]
    have vb : mn (cA (tgB x s) k) (fun i => nt (S.1 45 i)) k 257 k 99 ≤ 99 := mn_v _ _ _
    have ntk : nt (S1.1 45 k) = mn (cA (tgB x s) k) (fun i => nt (S.1 45 i)) k 257 k 99 := by rw [i2, nv_nt (by omega)]
    have g' : CA x s S1 (k + 1) := by
      refine ⟨PT_c g1 (fun q hq => by rw [i3 q (by omega), wi_c _ _ (by omega)]) i5, fun j hj => by rw [i3 44 (by omega), wi_c _ _ (by omega)]; exact g2 j hj, fun j hj => ?_, by rw [old 0 (by omega)]; exact g4, fun j h0 hj => ?_⟩
      · by_cases e : j = k
        · subst e; rw [ntk]; exact ⟨i2, vb⟩
        · rw [old j (by omega)]; exact g3 j (by omega)
      · by_cases e : j = k
        · subst e
          rw [ntk]
          exact (mn_cg (k := 8) (by omega) (fun i hi => by show nt (S1.1 45 i) = nt (S.1 45 i); rw [old i hi]) 257 j 99 (Nat.and_self j)).symm
        · rw [old j (by omega), g5 j h0 (by omega)]
          exact (mn_cg (k := 8) (by omega) (fun i hi => by show nt (S1.1 45 i) = nt (S.1 45 i); rw [old i (by omega)]) 257 j 99 (Nat.and_self j)).symm
    obtain ⟨S2, j1, j2⟩ := cnt_l h hL8 d (k + 1) f S1 (by omega) (by omega) (by omega) g'
    refine ⟨S2, ?_, j2⟩
    show fX4_countSlots_L9_st (fX4_countSlots_L9 f) (nI k) S = _
    unfold fX4_countSlots_L9_st
    rw [e_wh hL8 g1, bnd_some, if_neg (fun q => by rw [nv_s (by omega) (by omega)] at q; omega), lt_eq, if_pos (nv_ib (by omega) (by omega)), lt_eq, nv_nt (by omega), low_2 k (by omega), nv_p1]
    exact i1.trans j1
theorem e_prep {n : Nat} {x m : St} (h : Inv n x m) {s : Nat} (hL1 : 1 ≤ rk (sB s) (nS x)) (hL8 : rk (sB s) (nS x) ≤ 8) : ∃ S', fX4_prepare (nI s) x = some ((), S') ∧ CA x s S' (2 ^ rk (sB s) (nS x)) := by
  obtain ⟨h1, h2, h3, h4, h5, h6, h7, h8, h9, h10, h11⟩ := id h
  obtain ⟨N, eN, hN, l20⟩ := sndN h5
  have e : nS x = N := by unfold nS; omega
  have fu := fu_ge
  have p1 : 2 ^ 1 ≤ 2 ^ rk (sB s) (nS x) := Nat.pow_le_pow_right (by omega) hL1
  have p8 : 2 ^ rk (sB s) (nS x) ≤ 2 ^ 8 := Nat.pow_le_pow_right (by omega) hL8
  rw [e] at hL8 hL1 p8 p1
  obtain ⟨S1, a1, a2⟩ := px_l h5 (fun (S2 : St) => fX4_prepare_L63 (fun (S3 : St) => fX4_prepare_L166 (fun (S4 : St) => bnd (fX4_countSlots S4) (fun _ S5 => some ((), S5))) FU 0 S3) FU 0 S2) (s := s) eN hN hL8 N 0 FU (wi x 41 8 0) (by omega) (by omega) ⟨xEq_wi xEq.rfl (by unfold xcell; omega) (by omega), wi_s _ _ _ _, fun j hj => by omega⟩
  obtain ⟨S2, b1, b2, b3⟩ := pt_3 h (fun (S3 : St) => fX4_prepare_L166 (fun (S4 : St) => bnd (fX4_countSlots S4) (fun _ S5 => some ((), S5))) FU 0 S3) hN hL8 (rk (sB s) N) 0 FU S1 (by omega) (by omega) a2 (fun a' b' _ _ _ _ lt => by omega)
  rw [← e] at hL8 p8 p1
  have pt : PT x s S2 := ⟨b2.1, by rw [e]; exact b2.2.1, fun j hj rj => b2.2.2 j (by omega) rj, fun a b ha hb ra rb => b3 a b (by omega) (by omega) ra rb⟩
  obtain ⟨S3, c1, c2, c3⟩ := tog_l h hL8 (fun (S4 : St) => bnd (fX4_countSlots S4) (fun _ S5 => some ((), S5))) (2 ^ rk (sB s) (nS x)) 0 FU S2 (by omega) (by omega) pt (fun j hj => by omega)
  obtain ⟨S4, d1, d2⟩ := cnt_l h hL8 (2 ^ rk (sB s) (nS x) - 1) 1 FU (wi S3 45 0 0) (by omega) (by omega) (by omega) ⟨PT_wi c2 (by omega), fun j hj => by rw [wi_c _ _ (by omega)]; exact c3 j hj, fun j hj => by
    rw [show j = 0 by omega, wi_s]; exact ⟨rfl, by decide⟩, by rw [wi_s]; rfl, fun j h0 hj => by omega⟩
  refine ⟨S4, ?_, d2⟩
  unfold fX4_prepare
  rw [lt_eq]
  refine a1.trans (b1.trans (c1.trans ?_))
  unfold fX4_countSlots
  rw [lt_eq]
  have d1' : fX4_countSlots_L9 FU 1 (wi S3 45 (nt 0) 0) = some ((), S4) := d1
  rw [d1', bnd_some]
/-! the reference's tables -/
theorem in_m {tg : Nat → Bool} {B : Nat → Nat} {L mask : Nat} (hm : mask < 2 ^ L) (hL : L ≤ 8) (kx : St → Option (Unit × St)) : ∀ (g F one v : Nat) (M : St), one < g → g ≤ F → sb one mask → v ≤ 100 → M.1 19 mask = nI v → (∀ k, k ≤ mask → M.1 18 k = bi (tg k = true)) → (∀ k, k < mask → M.1 19 k = nI (B k) ∧ B k ≤ 100) → ∃ M', fX12_findFewest_L109 kx (nI mask) F (nI one) M = kx M' ∧ M'.1 19 mask = nI (mn tg B mask g one v) ∧ (∀ k, k ≠ 19 → M'.1 k = M.1 k) ∧ (∀ j, j ≠ mask → M'.1 19 j = M.1 19 j) ∧ M'.2 = M.2
  | 0, F, one, v, M, hg, _, _, _, _, _, _ => absurd hg (Nat.not_lt_zero _)
  | g + 1, F + 1, one, v, M, hg, hF, ho, hv, eV, eT, eA => by
    have p8 : 2 ^ L ≤ 2 ^ 8 := Nat.pow_le_pow_right (by omega) hL
    have le := sb_le ho
    show ∃ M' : St, fX12_findFewest_L109_st kx _ (fX12_findFewest_L109 kx _ F) (nI one) M = _ ∧ M'.1 19 mask = nI (if one = 0 then v else mn tg B mask g ((one - 1) &&& mask) (if tg one = true then min v (1 + B (mask ^^^ one)) else v)) ∧ _
    unfold fX12_findFewest_L109_st
    simp only [jn_eq, lt_eq]
    by_cases z : one = 0
    · rw [if_pos (show nI one ≤ 0 by rw [z]; decide), if_pos z]
      exact ⟨M, rfl, eV, fun _ _ => rfl, fun _ _ => rfl, rfl⟩
    · have x1 := (sb_x 8 mask one (by omega) ho).1
      have l2 : (one - 1) &&& mask ≤ one - 1 := Nat.and_le_left
      have ho2 : sb ((one - 1) &&& mask) mask := by show ((one - 1) &&& mask) &&& mask = (one - 1) &&& mask; rw [Nat.and_assoc, Nat.and_self]
      have e1 : nI one - 1 = nI (one - 1) := nv_sub (b := 1) (by omega)
      have ecl : nI mask &&& (nI one ^^^ (-1)) = nI (mask ^^^ one) := nx_clr (fun i hi => sb_i.mp ho i hi)
      obtain ⟨a1, a2⟩ := eA (mask ^^^ one) (by omega)
      have nle : ¬ nI one ≤ 0 := fun q => by have := (nv_l (b := 0) (by omega) (by omega)).mp q; omega
      rw [if_neg nle, if_neg z, e1, nx_and, ecl, if_pos (nv_ib (by omega) (by omega)), nv_nt (a := one) (by omega), eT one (by omega)]
      by_cases c2 : tg one = true
      · rw [if_neg (show ¬ bi (tg one = true) = 0 from fun q => (bi_0 _).mp q c2), if_pos (nv_ib (by omega) (by omega)), if_pos (nv_ib (by omega) (by omega)), nv_nt (a := mask) (by omega), nv_nt (a := mask ^^^ one) (by omega), eV, a1, nv_p1, if_pos c2]
        by_cases c3 : v ≤ B (mask ^^^ one) + 1
        · rw [if_pos ((nv_l (by omega) (by omega)).mpr c3), show min v (1 + B (mask ^^^ one)) = v by omega]
          exact in_m hm hL kx g F _ v M (by omega) (by omega) ho2 hv eV eT eA
        · rw [if_neg (fun q => c3 ((nv_l (by omega) (by omega)).mp q)), if_pos (nv_ib (by omega) (by omega)), if_pos (nv_ib (by omega) (by omega)), show min v (1 + B (mask ^^^ one)) = B (mask ^^^ one) + 1 by omega]
          obtain ⟨M', i1, i2, i3, i4, i5⟩ := in_m hm hL kx g F ((one - 1) &&& mask) (B (mask ^^^ one) + 1) (wi M 19 mask (nI (B (mask ^^^ one) + 1))) (by omega) (by omega) ho2 (by omega) (wi_s _ _ _ _) (fun k hk => by rw [wi_c _ _ (by omega)]; exact eT k hk) (fun k hk => by rw [wi_n _ _ (by omega)]; exact eA k hk)
          exact ⟨M', i1, i2, fun k hk => by rw [i3 k hk, wi_c _ _ hk], fun j hj => by rw [i4 j hj, wi_n _ _ (fun q => hj q.2)], i5⟩
      · rw [if_pos (show bi (tg one = true) = 0 from (bi_0 _).mpr c2), if_neg c2]
        exact in_m hm hL kx g F _ v M (by omega) (by omega) ho2 hv eV eT eA
def CM (x m : St) (s : Nat) (M : St) (k : Nat) : Prop := PMM x m s M ∧ (∀ j, j < k → M.1 18 j = bi (tgB x s j = true)) ∧ (∀ j, j < k → M.1 19 j = nI (nt (M.1 19 j)) ∧ nt (M.1 19 j) ≤ 100) ∧ (0 < k → nt (M.1 19 0) = 0) ∧ ∀ j, j ≠ 0 → j < k → nt (M.1 19 j) = mn (tgB x s) (fun i => nt (M.1 19 i)) j 257 j 100
theorem ff_l {n : Nat} {x m : St} (h : Inv n x m) {s : Nat} (hL8 : rk (sB s) (nS x) ≤ 8) : ∀ (d k f : Nat) (M : St), k + d = 2 ^ rk (sB s) (nS x) → d < f → CM x m s M k → ∃ M', fX12_findFewest_L2 f (nI k) M = some ((), M') ∧ CM x m s M' (2 ^ rk (sB s) (nS x))
  | 0, k, f + 1, M, hk, _, g => by
    have p8 : 2 ^ rk (sB s) (nS x) ≤ 2 ^ 8 := Nat.pow_le_pow_right (by omega) hL8
    refine ⟨M, ?_, by rw [show 2 ^ rk (sB s) (nS x) = k by omega]; exact g⟩
    show fX12_findFewest_L2_st (fX12_findFewest_L2 f) (nI k) M = _
    unfold fX12_findFewest_L2_st
    rw [g.1.2.1, nb_shl _ (by omega), if_pos ((nv_l (by omega) (by omega)).mpr (by omega))]
  | d + 1, k, f + 1, M, hk, hf, g => by
    have p8 : 2 ^ rk (sB s) (nS x) ≤ 2 ^ 8 := Nat.pow_le_pow_right (by omega) hL8
    have fu := fu_ge
    have r20 := nS20 h
    obtain ⟨g1, g2, g3, g4, g5⟩ := g
    have e8 : (if nI k = 0 then (0 : Int32) else 100) = nI (if k = 0 then 0 else 100) := by
      by_cases z : k = 0
      · rw [if_pos ((nv_z (by omega)).mpr z), if_pos z]; rfl
      · rw [if_neg (fun q => z ((nv_z (by omega)).mp q)), if_neg z]; rfl
    have v100 : (if k = 0 then 0 else 100) ≤ 100 := by split <;> omega
    obtain ⟨M1, i1, i2, i3, i4, i5⟩ := in_m (tg := tgB x s) (B := fun i => nt (M.1 19 i)) (mask := k) (L := rk (sB s) (nS x)) (by omega) hL8 (fun (S7 : St) => fX12_findFewest_L2 f (nI (k + 1)) S7) 257 FU k (if k = 0 then 0 else 100) (wi (wi M 18 k (bi (tgB x s k = true))) 19 k (nI (if k = 0 then 0 else 100))) (by omega) (by omega) (Nat.and_self k) v100 (wi_s _ _ _ _) (fun j hj => by
      rw [wi_c _ _ (by omega)]
      by_cases e : j = k
      · subst e; exact wi_s _ _ _ _
      · rw [wi_n _ _ (by omega)]; exact g2 j (by omega)) (fun j hj => by rw [wi_n _ _ (by omega), wi_c _ _ (by omega)]; exact g3 j hj)
    have old : ∀ j, j < k → M1.1 19 j = M.1 19 j := fun j hj => by rw [i4 j (by omega), wi_n _ _ (by omega), wi_c _ _ (by omega)]
    have vb : mn (tgB x s) (fun i => nt (M.1 19 i)) k 257 k (if k = 0 then 0 else 100) ≤ 100 := Nat.le_trans (mn_v _ _ _) v100
    have ntk : nt (M1.1 19 k) = mn (tgB x s) (fun i => nt (M.1 19 i)) k 257 k (if k = 0 then 0 else 100) := by rw [i2, nv_nt (by omega)]
    have g' : CM x m s M1 (k + 1) := by
      refine ⟨PMM_c g1 (fun q hq => by rw [i3 q (by omega), wi_c _ _ (by omega), wi_c _ _ (by omega)]) i5, fun j hj => ?_, fun j hj => ?_, fun _ => ?_, fun j h0 hj => ?_⟩
      · rw [i3 18 (by omega), wi_c _ _ (by omega)]
        by_cases e : j = k
        · subst e; exact wi_s _ _ _ _
        · rw [wi_n _ _ (by omega)]; exact g2 j (by omega)
      · by_cases e : j = k
        · subst e; rw [ntk]; exact ⟨i2, vb⟩
        · rw [old j (by omega)]; exact g3 j (by omega)
      · by_cases z : k = 0
        · subst z
          rw [ntk]
          rfl
        · rw [old 0 (by omega)]; exact g4 (by omega)
      · by_cases e : j = k
        · subst e
          rw [ntk, if_neg h0]
          exact (mn_cg (k := 8) (by omega) (fun i hi => by show nt (M1.1 19 i) = nt (M.1 19 i); rw [old i hi]) 257 j 100 (Nat.and_self j)).symm
        · rw [old j (by omega), g5 j h0 (by omega)]
          exact (mn_cg (k := 8) (by omega) (fun i hi => by show nt (M1.1 19 i) = nt (M.1 19 i); rw [old i (by omega)]) 257 j 100 (Nat.and_self j)).symm
    obtain ⟨M2, j1, j2⟩ := ff_l h hL8 d (k + 1) f M1 (by omega) (by omega) g'
    refine ⟨M2, ?_, j2⟩
    show fX12_findFewest_L2_st (fX12_findFewest_L2 f) (nI k) M = _
    unfold fX12_findFewest_L2_st
    rw [g1.2.1, nb_shl _ (by omega), if_neg (fun q => by rw [nv_l (by omega) (by omega)] at q; omega), e_wb h hL8 g1 k, bnd_some]
    have fs := fs_l h hL8 g1 (fun (v4 : Int32) (S5 : St) => if ib (nI k) 256 ∧ b01 v4 then lt (wi S5 18 (nt (nI k)) v4) (fun S6 => lt (if nI k = 0 then 0 else 100) (fun (v8 : Int32) => if ib (nI k) 256 then lt (wi S6 19 (nt (nI k)) v8) (fun S10 => fX12_findFewest_L109 (fun (S12 : St) => fX12_findFewest_L2 f (nI k + 1) S12) (nI k) FU (nI k) S10) else none)) else none) k (nS x) 0 FU (by omega) (by omega)
    refine fs.trans ?_
    simp only [lt_eq]
    rw [if_pos ⟨nv_ib (by omega) (by omega), bi_01 _⟩, if_pos (nv_ib (by omega) (by omega)), nv_nt (by omega), e8, nv_p1]
    exact i1.trans j1
theorem e_ff {n : Nat} {x m M : St} (h : Inv n x m) {s : Nat} (hL8 : rk (sB s) (nS x) ≤ 8) (g : PM m s (nS x) M) : ∃ M', fX12_findFewest M = some ((), M') ∧ CM x m s M' (2 ^ rk (sB s) (nS x)) := by
  have p8 : 2 ^ rk (sB s) (nS x) ≤ 2 ^ 8 := Nat.pow_le_pow_right (by omega) hL8
  exact ff_l h hL8 (2 ^ rk (sB s) (nS x)) 0 FU M (by omega) (by have := fu_ge; omega) ⟨⟨g.1, g.2.1, g.2.2⟩, fun j hj => by omega, fun j hj => by omega, fun z => by omega, fun j _ hj => by omega⟩
