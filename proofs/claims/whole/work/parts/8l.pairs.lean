/-! ===== parting: share, fewest, best, proof ===== -/
theorem abz {x m S M : St} {s : Nat} (hL8 : rk (sB s) (nS x) ≤ 8) (ca : CA x s S (2 ^ rk (sB s) (nS x))) (cm : CM x m s M (2 ^ rk (sB s) (nS x))) {mask : Nat} (hm : mask < 2 ^ rk (sB s) (nS x)) : (∃ a : Nat, a ≤ 8 ∧ S.1 45 mask = nI a ∧ M.1 19 mask = nI a) ∨ (S.1 45 mask = nI 99 ∧ M.1 19 mask = nI 100) := by
  have p8 : 2 ^ rk (sB s) (nS x) ≤ 2 ^ 8 := Nat.pow_le_pow_right (by omega) hL8
  have p0 := Nat.two_pow_pos (rk (sB s) (nS x))
  have hA : DA (tgB x s) (fun i => nt (S.1 45 i)) (rk (sB s) (nS x)) := ⟨ca.2.2.2.1, fun k h0 hk => ca.2.2.2.2 k h0 hk⟩
  have hB : DB (tgB x s) (fun i => nt (M.1 19 i)) (rk (sB s) (nS x)) := ⟨cm.2.2.2.1 p0, fun k h0 hk => cm.2.2.2.2 k h0 hk⟩
  have a1 := (ca.2.2.1 mask hm).1
  have b1 := (cm.2.2.1 mask hm).1
  rcases dp hL8 hA hB (mask + 1) mask (by omega) hm with ⟨e1, e2⟩ | ⟨e1, e2⟩
  · left
    have e1' : nt (S.1 45 mask) = nt (M.1 19 mask) := e1
    have e2' : nt (M.1 19 mask) ≤ pcn mask := e2
    have pc8 : pcn mask ≤ 8 := by
      have := rk_bit mask 8 (by omega)
      rw [Nat.mod_eq_of_lt (show mask < 2 ^ 8 by omega)] at this
      rw [← this]; exact rk_le _ 8
    exact ⟨nt (M.1 19 mask), by omega, by rw [← e1']; exact a1, b1⟩
  · right
    have e1' : nt (S.1 45 mask) = 99 := e1
    have e2' : nt (M.1 19 mask) = 100 := e2
    rw [e1'] at a1
    rw [e2'] at b1
    exact ⟨a1, b1⟩
theorem e_whM {x m M : St} {s : Nat} (hL8 : rk (sB s) (nS x) ≤ 8) (g : PMM x m s M) : (1 : Int32) <<< (M.1 0 22 &&& 31) - 1 = nI (2 ^ rk (sB s) (nS x) - 1) := by
  have p0 := Nat.two_pow_pos (rk (sB s) (nS x))
  rw [g.2.1, nb_shl _ (by omega)]
  exact nv_sub (b := 1) (by omega)
theorem pr_13 (n : Nat) (x m : St) (a1 : Int32) (_ : n < 512) (h : Inv n x m) : ∃ (v : Int32) (x' m' : St), fX11_share a1 x = some (v, x') ∧ fX12_share a1 m = some (v, m') ∧ Inv (n + 1) x' m' := by
  obtain ⟨h1, h2, h3, h4, h5, h6, h7, h8, h9, h10, h11⟩ := id h
  have hu := Inv_up n x m h
  unfold fX11_share fX12_share
  rcases e_set h5 a1 with ⟨z1, z2⟩ | ⟨s, rfl, ls, hL1, hL8, z1, M0, z2, pm⟩
  · rw [z1, z2, bnd_some, bnd_some, if_pos rfl, if_pos rfl]; exact ⟨_, _, _, rfl, rfl, hu⟩
  · obtain ⟨S', w1, ca⟩ := e_prep h (s := s) hL1 hL8
    obtain ⟨M', w2, cm⟩ := e_ff h (s := s) hL8 pm
    have p8 : 2 ^ rk (sB s) (nS x) ≤ 2 ^ 8 := Nat.pow_le_pow_right (by omega) hL8
    have p0 := Nat.two_pow_pos (rk (sB s) (nS x))
    rw [z1, z2, bnd_some, bnd_some, if_neg (by decide), if_neg (by decide), w1, w2, bnd_some, bnd_some, e_wh hL8 ca.1, bnd_some, e_whM hL8 cm.1, if_pos (nv_ib (by omega) (by omega)), if_pos (nv_ib (by omega) (by omega)), nv_nt (by omega), ca.2.1 _ (by omega), cm.2.1 _ (by omega), bi_ite, bi_ite]
    have hv := Inv_fr ca.1.1 cm.1.1 hu
    by_cases c : tgB x s (2 ^ rk (sB s) (nS x) - 1) = true
    · rw [if_pos c, if_pos c]; exact ⟨_, _, _, rfl, rfl, hv⟩
    · rw [if_neg c, if_neg c]; exact ⟨_, _, _, rfl, rfl, hv⟩
theorem e_fs {x S : St} {s : Nat} (hL8 : rk (sB s) (nS x) ≤ 8) (g : PT x s S) : fX4_fewestSlots S = some (if S.1 45 (2 ^ rk (sB s) (nS x) - 1) = 99 then -1 else S.1 45 (2 ^ rk (sB s) (nS x) - 1), S) := by
  have p8 : 2 ^ rk (sB s) (nS x) ≤ 2 ^ 8 := Nat.pow_le_pow_right (by omega) hL8
  have p0 := Nat.two_pow_pos (rk (sB s) (nS x))
  unfold fX4_fewestSlots
  rw [e_wh hL8 g, bnd_some, if_pos (nv_ib (by omega) (by omega)), nv_nt (by omega), e_wh hL8 g, bnd_some, if_pos (nv_ib (by omega) (by omega)), nv_nt (by omega)]
  by_cases c : S.1 45 (2 ^ rk (sB s) (nS x) - 1) = 99
  · rw [if_pos c, if_pos c]
  · rw [if_neg c, if_neg c]
theorem pr_14 (n : Nat) (x m : St) (a1 : Int32) (_ : n < 512) (h : Inv n x m) : ∃ (v : Int32) (x' m' : St), fX11_fewest a1 x = some (v, x') ∧ fX12_fewest a1 m = some (v, m') ∧ Inv (n + 1) x' m' := by
  obtain ⟨h1, h2, h3, h4, h5, h6, h7, h8, h9, h10, h11⟩ := id h
  have hu := Inv_up n x m h
  unfold fX11_fewest fX12_fewest
  rcases e_set h5 a1 with ⟨z1, z2⟩ | ⟨s, rfl, ls, hL1, hL8, z1, M0, z2, pm⟩
  · rw [z1, z2, bnd_some, bnd_some, if_pos rfl, if_pos rfl]; exact ⟨_, _, _, rfl, rfl, hu⟩
  · obtain ⟨S', w1, ca⟩ := e_prep h (s := s) hL1 hL8
    obtain ⟨M', w2, cm⟩ := e_ff h (s := s) hL8 pm
    have p8 : 2 ^ rk (sB s) (nS x) ≤ 2 ^ 8 := Nat.pow_le_pow_right (by omega) hL8
    have p0 := Nat.two_pow_pos (rk (sB s) (nS x))
    have hv := Inv_fr ca.1.1 cm.1.1 hu
    rw [z1, z2, bnd_some, bnd_some, if_neg (by decide), if_neg (by decide), w1, w2, bnd_some, bnd_some, e_fs hL8 ca.1, bnd_some, e_whM hL8 cm.1, if_pos (nv_ib (by omega) (by omega)), nv_nt (by omega), lt_eq]
    rcases abz hL8 ca cm (mask := 2 ^ rk (sB s) (nS x) - 1) (by omega) with ⟨a, a8, e1, e2⟩ | ⟨e1, e2⟩
    · rw [e1, e2, if_neg (show ¬ nI a = 99 from fun q => by have := (nv_e (b := 99) (by omega) (by omega)).mp q; omega), if_pos (show nI a ≤ 8 from (nv_l (b := 8) (by omega) (by omega)).mpr a8)]
      exact ⟨_, _, _, rfl, rfl, hv⟩
    · rw [e1, e2, if_pos (show nI 99 = 99 from rfl), if_neg (by decide)]
      exact ⟨_, _, _, rfl, rfl, hv⟩
/-- what a mask is worth -/
abbrev wZ (x : St) (s mask t : Nat) : Int := cs (fun j => (x.1 (19 + j) 6).toInt) (fun j => sB s j && mask.testBit (rk (sB s) j)) t
theorem wZ_rg {n : Nat} {x m : St} (h : Inv n x m) (s mask : Nat) : 0 ≤ wZ x s mask (nS x) ∧ wZ x s mask (nS x) ≤ 2000000000 := by
  have r := nS20 h
  have := cs_rg (g := fun j => (x.1 (19 + j) 6).toInt) (B := fun j => sB s j && mask.testBit (rk (sB s) j)) (nS x) (fun j hj => by
    have := (s1_n h.2.2.2.2.1 (k := j) (by omega)).2.2.2.2.2.2.2.1
    exact ⟨by omega, by omega⟩)
  unfold wZ
  omega
theorem wo_x {n : Nat} {x m S : St} (h : Inv n x m) {s : Nat} (hL8 : rk (sB s) (nS x) ≤ 8) (g : PT x s S) (mask : Nat) : ∀ (d t f : Nat), t + d = nS x → d < f → fX4_worthOf_L4 (nI mask) f (iI (wZ x s mask t)) (nI (rk (sB s) t)) S = some (iI (wZ x s mask (nS x)), S)
  | 0, t, f + 1, ht, _ => by
    show fX4_worthOf_L4_st (nI mask) (fX4_worthOf_L4 (nI mask) f) _ _ S = _
    unfold fX4_worthOf_L4_st
    rw [g.2.1, show t = nS x by omega, if_pos ((nv_l (by omega) (by omega)).mpr (Nat.le_refl _))]
  | d + 1, t, f + 1, ht, hf => by
    have r := nS20 h
    by_cases rt : sB s t = true
    · have ih := wo_x h hL8 g mask d (t + 1) f (by omega) (by omega)
      have lt := rk_lt rt (show t < nS x by omega)
      rw [rk_t rt] at ih
      show fX4_worthOf_L4_st (nI mask) (fX4_worthOf_L4 (nI mask) f) _ _ S = _
      unfold fX4_worthOf_L4_st
      simp only [jn_eq, lt_eq]
      rw [g.2.1, if_neg (fun q => by rw [nv_l (by omega) (by omega)] at q; omega), if_pos (nv_ib (by omega) (by omega)), nv_nt (a := rk (sB s) t) (by omega), g.2.2.1 t (by omega) rt, if_pos (nv_ib (by omega) (by omega)), nv_nt (a := t) (by omega), g.1.1 (19 + t) (by unfold xcell; omega), nv_p1]
      unfold wZ at ih ⊢
      by_cases b : mask.testBit (rk (sB s) t) = true
      · rw [cs_t (by show (sB s t && mask.testBit (rk (sB s) t)) = true; rw [rt, b]; rfl), ← iI_add, ← iI_of] at ih
        rw [if_neg (fun q => (nb_0 mask (by omega)).mp q b)]; exact ih
      · rw [cs_f (by show ¬ (sB s t && mask.testBit (rk (sB s) t)) = true; rw [rt, Bool.true_and]; exact b)] at ih
        rw [if_pos ((nb_0 mask (by omega)).mpr b)]; exact ih
    · have ih := wo_x h hL8 g mask d (t + 1) (f + 1) (by omega) (by omega)
      unfold wZ at ih ⊢
      rw [rk_f rt, cs_f (by intro q; exact rt (Eq.mp (Bool.and_eq_true (sB s t) (mask.testBit (rk (sB s) t))) q).1)] at ih
      exact ih
theorem e_woX {n : Nat} {x m S : St} (h : Inv n x m) {s : Nat} (hL8 : rk (sB s) (nS x) ≤ 8) (g : PT x s S) (mask : Nat) : fX4_worthOf (nI mask) S = some (iI (wZ x s mask (nS x)), S) := by
  have r := nS20 h
  exact wo_x h hL8 g mask (nS x) 0 FU (by omega) (by have := fu_ge; omega)
theorem wo_m {n : Nat} {x m M : St} (h : Inv n x m) {s : Nat} (hL8 : rk (sB s) (nS x) ≤ 8) (g : PMM x m s M) (kx : Int32 → St → Option (Int32 × St)) (u1 u2 u3 : Int32) (mask : Nat) : ∀ (d t f : Nat), t + d = nS x → d < f → fX12_best_L52 kx u1 u2 u3 (nI mask) f (iI (wZ x s mask t)) (nI (rk (sB s) t)) M = kx (iI (wZ x s mask (nS x))) M
  | 0, t, f + 1, ht, _ => by
    show fX12_best_L52_st kx u1 u2 u3 (nI mask) (fX12_best_L52 kx u1 u2 u3 (nI mask) f) _ _ M = _
    unfold fX12_best_L52_st
    rw [g.2.1, show t = nS x by omega, if_pos ((nv_l (by omega) (by omega)).mpr (Nat.le_refl _))]
  | d + 1, t, f + 1, ht, hf => by
    have r := nS20 h
    have hM := Inv_fr xEq.rfl g.1 h
    by_cases rt : sB s t = true
    · have ih := wo_m h hL8 g kx u1 u2 u3 mask d (t + 1) f (by omega) (by omega)
      have lt := rk_lt rt (show t < nS x by omega)
      have f6 : M.1 12 t = x.1 (19 + t) 6 := (s1_n hM.2.2.2.2.1 (k := t) (by omega)).1 6 (by decide)
      rw [rk_t rt] at ih
      show fX12_best_L52_st kx u1 u2 u3 (nI mask) (fX12_best_L52 kx u1 u2 u3 (nI mask) f) _ _ M = _
      unfold fX12_best_L52_st
      simp only [jn_eq, lt_eq]
      rw [g.2.1, if_neg (fun q => by rw [nv_l (by omega) (by omega)] at q; omega), if_pos (nv_ib (by omega) (by omega)), nv_nt (a := rk (sB s) t) (by omega), g.2.2 t (by omega) rt, if_pos (nv_ib (by omega) (by omega)), nv_nt (a := t) (by omega), f6, nv_p1, Int32.add_zero]
      unfold wZ at ih ⊢
      by_cases b : mask.testBit (rk (sB s) t) = true
      · rw [cs_t (by show (sB s t && mask.testBit (rk (sB s) t)) = true; rw [rt, b]; rfl), ← iI_add, ← iI_of] at ih
        rw [if_pos ((nb_1 mask (by omega)).mpr b)]; exact ih
      · rw [cs_f (by show ¬ (sB s t && mask.testBit (rk (sB s) t)) = true; rw [rt, Bool.true_and]; exact b)] at ih
        rw [if_neg (fun q => b ((nb_1 mask (by omega)).mp q))]; exact ih
    · have ih := wo_m h hL8 g kx u1 u2 u3 mask d (t + 1) (f + 1) (by omega) (by omega)
      unfold wZ at ih ⊢
      rw [rk_f rt, cs_f (by intro q; exact rt (Eq.mp (Bool.and_eq_true (sB s t) (mask.testBit (rk (sB s) t))) q).1)] at ih
      exact ih
theorem ps_l {x S : St} {s : Nat} (hL8 : rk (sB s) (nS x) ≤ 8) (h20 : nS x ≤ 20) (g : PT x s S) (mask : Nat) : ∀ (d t f : Nat), t + d = nS x → d < f → fX4_asSenders_L4 (nI mask) f (nI (upZ' (sB s) mask t)) (nI (rk (sB s) t)) S = some (nI (upZ' (sB s) mask (nS x)), S)
  | 0, t, f + 1, ht, _ => by
    show fX4_asSenders_L4_st (nI mask) (fX4_asSenders_L4 (nI mask) f) _ _ S = _
    unfold fX4_asSenders_L4_st
    rw [g.2.1, show t = nS x by omega, if_pos ((nv_l (by omega) (by omega)).mpr (Nat.le_refl _))]
  | d + 1, t, f + 1, ht, hf => by
    by_cases rt : sB s t = true
    · have ih := ps_l hL8 h20 g mask d (t + 1) f (by omega) (by omega)
      have lt := rk_lt rt (show t < nS x by omega)
      have st : upZ' (sB s) mask (t + 1) = upZ' (sB s) mask t ||| (if (sB s t && mask.testBit (rk (sB s) t)) = true then 2 ^ t else 0) := rfl
      rw [rk_t rt, st, rt, Bool.true_and] at ih
      show fX4_asSenders_L4_st (nI mask) (fX4_asSenders_L4 (nI mask) f) _ _ S = _
      unfold fX4_asSenders_L4_st
      simp only [jn_eq, lt_eq]
      rw [g.2.1, if_neg (fun q => by rw [nv_l (by omega) (by omega)] at q; omega), if_pos (nv_ib (by omega) (by omega)), nv_nt (by omega), g.2.2.1 t (by omega) rt, nb_shl t (by omega), nx_or, nv_p1]
      by_cases b : mask.testBit (rk (sB s) t) = true
      · rw [if_pos b] at ih
        rw [if_neg (fun q => (nb_0 mask (by omega)).mp q b)]; exact ih
      · rw [if_neg b, Nat.or_zero] at ih
        rw [if_pos ((nb_0 mask (by omega)).mpr b)]; exact ih
    · have ih := ps_l hL8 h20 g mask d (t + 1) (f + 1) (by omega) (by omega)
      rw [rk_f rt, up_f rt] at ih
      exact ih
theorem e_ps {n : Nat} {x m S : St} (h : Inv n x m) {s : Nat} (hL8 : rk (sB s) (nS x) ≤ 8) (g : PT x s S) (mask : Nat) : fX4_asSenders (nI mask) S = some (nI (upZ' (sB s) mask (nS x)), S) := by
  have r := nS20 h
  exact ps_l hL8 r.1 g mask (nS x) 0 FU (by omega) (by have := fu_ge; omega)
theorem fw_lt {x m S M : St} {s : Nat} (hL8 : rk (sB s) (nS x) ≤ 8) (ca : CA x s S (2 ^ rk (sB s) (nS x))) (cm : CM x m s M (2 ^ rk (sB s) (nS x))) {mask q : Nat} (hm : mask < 2 ^ rk (sB s) (nS x)) (hq : q ≤ 8) : (nI q < S.1 45 mask ↔ nI q < M.1 19 mask) ∧ (S.1 45 mask ≤ nI q ↔ ¬ nI q < S.1 45 mask) ∧ (M.1 19 mask ≤ nI q ↔ ¬ nI q < M.1 19 mask) := by
  have nl : ∀ a b : Int32, a ≤ b ↔ ¬ b < a := fun a b => by rw [Int32.le_iff_toInt_le, Int32.lt_iff_toInt_lt]; omega
  refine ⟨?_, nl _ _, nl _ _⟩
  rcases abz hL8 ca cm hm with ⟨a, a8, e1, e2⟩ | ⟨e1, e2⟩
  · rw [e1, e2]
  · rw [e1, e2, nv_s (by omega) (by omega), nv_s (by omega) (by omega)]; omega
theorem mw_l {n : Nat} {x m S M : St} (h : Inv n x m) {s : Nat} (hL8 : rk (sB s) (nS x) ≤ 8) (ca : CA x s S (2 ^ rk (sB s) (nS x))) (cm : CM x m s M (2 ^ rk (sB s) (nS x))) (kx kx' : Int32 → St → Option (Int32 × St)) {q : Nat} (hq : q ≤ 8) : ∀ (d k f f' fd : Nat), k + d = 2 ^ rk (sB s) (nS x) → d < f → d < f' → fd < 2 ^ rk (sB s) (nS x) → ∃ r, r < 2 ^ rk (sB s) (nS x) ∧ fX4_mostWorth_L4 kx (nI q) f (nI fd) (nI k) S = kx (nI r) S ∧ fX12_best_L35 kx' (nI q) f' (nI fd) (iI (wZ x s fd (nS x))) (nI k) M = kx' (nI r) M
  | 0, k, f + 1, f' + 1, fd, hk, _, _, hd => by
    have p0 := Nat.two_pow_pos (rk (sB s) (nS x))
    have p8 : 2 ^ rk (sB s) (nS x) ≤ 2 ^ 8 := Nat.pow_le_pow_right (by omega) hL8
    refine ⟨fd, hd, ?_, ?_⟩
    · show fX4_mostWorth_L4_st kx (nI q) (fX4_mostWorth_L4 kx (nI q) f) (nI fd) (nI k) S = _
      unfold fX4_mostWorth_L4_st
      rw [e_wh hL8 ca.1, bnd_some, if_pos ((nv_s (by omega) (by omega)).mpr (by omega))]
    · show fX12_best_L35_st kx' (nI q) (fX12_best_L35 kx' (nI q) f') (nI fd) _ (nI k) M = _
      unfold fX12_best_L35_st
      rw [cm.1.2.1, nb_shl _ (by omega), if_pos ((nv_l (by omega) (by omega)).mpr (by omega))]
  | d + 1, k, f + 1, f' + 1, fd, hk, hf, hf', hd => by
    have p0 := Nat.two_pow_pos (rk (sB s) (nS x))
    have p8 : 2 ^ rk (sB s) (nS x) ≤ 2 ^ 8 := Nat.pow_le_pow_right (by omega) hL8
    have fu := fu_ge
    have r20 := nS20 h
    have ihA := mw_l h hL8 ca cm kx kx' hq d (k + 1) f f' fd (by omega) (by omega) (by omega) hd
    have ihB := mw_l h hL8 ca cm kx kx' hq d (k + 1) f f' k (by omega) (by omega) (by omega) (by omega)
    have fw := fw_lt hL8 ca cm (mask := k) (q := q) (by omega) hq
    have w1 := wZ_rg h s k
    have w2 := wZ_rg h s fd
    show ∃ r, _ ∧ fX4_mostWorth_L4_st kx (nI q) (fX4_mostWorth_L4 kx (nI q) f) (nI fd) (nI k) S = _ ∧ fX12_best_L35_st kx' (nI q) (fX12_best_L35 kx' (nI q) f') (nI fd) _ (nI k) M = _
    unfold fX12_best_L35_st
    rw [cm.1.2.1, nb_shl _ (by omega), if_neg (fun z => by rw [nv_l (by omega) (by omega)] at z; omega)]
    have wm := wo_m h hL8 cm.1 (fun (v2 : Int32) (S3 : St) => if ib (nI k) 256 then (jn (fun (v5 : Int32) (v6 : Int32) (S7 : St) => fX12_best_L35 kx' (nI q) f' v5 v6 (nI k + 1) S7) (fun k8 => if nI q < (S3.1 19 (nt (nI k))) then (k8 (nI fd) (iI (wZ x s fd (nS x))) S3) else (jn (fun (S10 : St) => k8 (nI k) v2 S10) (fun k11 => if iI (wZ x s fd (nS x)) < v2 then (k11 S3) else (if v2 = iI (wZ x s fd (nS x)) then (bnd (fX12_ones (nI k) S3) (fun v14 S15 => bnd (fX12_ones (nI fd) S15) (fun v16 S17 => if v16 ≤ v14 then (k8 (nI fd) (iI (wZ x s fd (nS x))) S17) else (k11 S17)))) else (k8 (nI fd) (iI (wZ x s fd (nS x))) S3)))))) else none) (nI q) (nI fd) (iI (wZ x s fd (nS x))) k (nS x) 0 FU (by omega) (by omega)
    have wm' : fX12_best_L52 _ (nI q) (nI fd) (iI (wZ x s fd (nS x))) (nI k) FU 0 0 M = _ := wm
    rw [wm']
    unfold fX4_mostWorth_L4_st
    simp only [jn_eq, lt_eq]
    rw [e_wh hL8 ca.1, bnd_some, if_neg (fun z => by rw [nv_s (by omega) (by omega)] at z; omega), if_pos (nv_ib (by omega) (by omega)), if_pos (nv_ib (by omega) (by omega)), nv_nt (by omega), nv_p1]
    simp only [e_woX h hL8 ca.1 k, e_woX h hL8 ca.1 fd, bnd_some, e_bc (x := k) (by omega), e_bc (x := fd) (by omega), e_ones (x := k) (by omega), e_ones (x := fd) (by omega), iI_sub]
    by_cases c0 : nI q < S.1 45 k
    · rw [if_pos c0, if_pos (fw.1.mp c0)]; exact ihA
    · rw [if_neg c0, if_neg (fun z => c0 (fw.1.mpr z))]
      by_cases c1 : wZ x s fd (nS x) < wZ x s k (nS x)
      · rw [if_pos (show (0 : Int32) < iI (wZ x s k (nS x) - wZ x s fd (nS x)) from (iI_lt (a := 0) (by omega) (by omega)).mpr (by omega)), if_pos ((iI_lt (by omega) (by omega)).mpr c1)]
        exact ihB
      · rw [if_neg (show ¬ (0 : Int32) < iI (wZ x s k (nS x) - wZ x s fd (nS x)) from fun z => by have := (iI_lt (a := 0) (by omega) (by omega)).mp z; omega), if_neg (fun z => c1 ((iI_lt (by omega) (by omega)).mp z))]
        by_cases c2 : wZ x s k (nS x) = wZ x s fd (nS x)
        · rw [if_pos (show iI (wZ x s k (nS x) - wZ x s fd (nS x)) = 0 from (iI_eq (b := 0) (by omega) (by omega)).mpr (by omega)), if_pos ((iI_eq (by omega) (by omega)).mpr c2)]
          by_cases c3 : nI (pcn fd) ≤ nI (pcn k)
          · rw [if_pos c3, if_pos c3]; exact ihA
          · rw [if_neg c3, if_neg c3]; exact ihB
        · rw [if_neg (show ¬ iI (wZ x s k (nS x) - wZ x s fd (nS x)) = 0 from fun z => by have := (iI_eq (b := 0) (by omega) (by omega)).mp z; omega), if_neg (fun z => c2 ((iI_eq (by omega) (by omega)).mp z))]
          exact ihA
theorem lt_l {n : Nat} {x m S M : St} (h : Inv n x m) {s : Nat} (hL8 : rk (sB s) (nS x) ≤ 8) (ca : CA x s S (2 ^ rk (sB s) (nS x))) (cm : CM x m s M (2 ^ rk (sB s) (nS x))) (kx kx' : Int32 → St → Option (Int32 × St)) {q : Nat} (hq : q ≤ 8) : ∀ (d k f f' fd : Nat), k + d = 2 ^ rk (sB s) (nS x) → d < f → d < f' → fd < 2 ^ rk (sB s) (nS x) → ∃ r, r < 2 ^ rk (sB s) (nS x) ∧ fX4_leastThatCannot_L4 kx (nI q) f (nI fd) (nI k) S = kx (nI r) S ∧ fX12_proof_L32 kx' (nI q) f' (nI fd) (nI k) M = kx' (nI r) M
  | 0, k, f + 1, f' + 1, fd, hk, _, _, hd => by
    have p0 := Nat.two_pow_pos (rk (sB s) (nS x))
    have p8 : 2 ^ rk (sB s) (nS x) ≤ 2 ^ 8 := Nat.pow_le_pow_right (by omega) hL8
    refine ⟨fd, hd, ?_, ?_⟩
    · show fX4_leastThatCannot_L4_st kx (nI q) (fX4_leastThatCannot_L4 kx (nI q) f) (nI fd) (nI k) S = _
      unfold fX4_leastThatCannot_L4_st
      rw [e_wh hL8 ca.1, bnd_some, if_pos ((nv_s (by omega) (by omega)).mpr (by omega))]
    · show fX12_proof_L32_st kx' (nI q) (fX12_proof_L32 kx' (nI q) f') (nI fd) (nI k) M = _
      unfold fX12_proof_L32_st
      rw [cm.1.2.1, nb_shl _ (by omega), if_pos ((nv_l (by omega) (by omega)).mpr (by omega))]
  | d + 1, k, f + 1, f' + 1, fd, hk, hf, hf', hd => by
    have p0 := Nat.two_pow_pos (rk (sB s) (nS x))
    have p8 : 2 ^ rk (sB s) (nS x) ≤ 2 ^ 8 := Nat.pow_le_pow_right (by omega) hL8
    have ihA := lt_l h hL8 ca cm kx kx' hq d (k + 1) f f' fd (by omega) (by omega) (by omega) hd
    have ihB := lt_l h hL8 ca cm kx kx' hq d (k + 1) f f' k (by omega) (by omega) (by omega) (by omega)
    have fw := fw_lt hL8 ca cm (mask := k) (q := q) (by omega) hq
    have h10 : ¬ (1 : Int32) = 0 := by decide
    show ∃ r, _ ∧ fX4_leastThatCannot_L4_st kx (nI q) (fX4_leastThatCannot_L4 kx (nI q) f) (nI fd) (nI k) S = _ ∧ fX12_proof_L32_st kx' (nI q) (fX12_proof_L32 kx' (nI q) f') (nI fd) (nI k) M = _
    unfold fX4_leastThatCannot_L4_st fX12_proof_L32_st
    simp only [jn_eq]
    rw [cm.1.2.1, nb_shl _ (by omega), if_neg (show ¬ nI (2 ^ rk (sB s) (nS x)) ≤ nI k from fun z => by rw [nv_l (by omega) (by omega)] at z; omega), e_wh hL8 ca.1, bnd_some, if_neg (show ¬ nI (2 ^ rk (sB s) (nS x) - 1) < nI k from fun z => by rw [nv_s (by omega) (by omega)] at z; omega), nv_p1]
    simp only [if_pos (show ib (nI k) 256 from nv_ib (by omega) (by omega)), nv_nt (show k < 2147483648 by omega), bnd_some, e_bc (x := k) (by omega), e_bc (x := fd) (by omega), e_ones (x := k) (by omega), e_ones (x := fd) (by omega), if_neg h10]
    by_cases c0 : nI q < S.1 45 k
    · have n1 : ¬ S.1 45 k ≤ nI q := fun z => fw.2.1.mp z c0
      have n2 : ¬ M.1 19 k ≤ nI q := fun z => fw.2.2.mp z (fw.1.mp c0)
      rw [if_neg n1, if_neg n2]
      by_cases z : nI fd = 0
      · rw [if_pos z, if_pos z]; exact ihB
      · rw [if_neg z, if_neg z]
        by_cases c3 : nI (pcn fd) ≤ nI (pcn k)
        · rw [if_pos c3, if_pos c3, if_pos trivial]; exact ihA
        · rw [if_neg c3, if_neg c3]; exact ihB
    · have n1 : S.1 45 k ≤ nI q := fw.2.1.mpr c0
      have n2 : M.1 19 k ≤ nI q := fw.2.2.mpr (fun z => c0 (fw.1.mpr z))
      rw [if_pos n1, if_pos n2]
      by_cases z : nI fd = 0
      · rw [if_pos z]; exact ihA
      · rw [if_neg z]
        by_cases c3 : nI (pcn fd) ≤ nI (pcn k)
        · rw [if_pos c3, if_pos trivial]; exact ihA
        · rw [if_neg c3]; exact ihA
theorem pr_16 (n : Nat) (x m : St) (a1 a2 : Int32) (_ : n < 512) (h : Inv n x m) : ∃ (v : Int32) (x' m' : St), fX11_best a1 a2 x = some (v, x') ∧ fX12_best a1 a2 m = some (v, m') ∧ Inv (n + 1) x' m' := by
  obtain ⟨h1, h2, h3, h4, h5, h6, h7, h8, h9, h10, h11⟩ := id h
  have hu := Inv_up n x m h
  have fu := fu_ge
  unfold fX11_best fX12_best
  rcases e_set h5 a1 with ⟨z1, z2⟩ | ⟨s, rfl, ls, hL1, hL8, z1, M0, z2, pm⟩
  · rw [z1, z2, bnd_some, bnd_some, if_pos rfl, if_pos rfl]; exact ⟨_, _, _, rfl, rfl, hu⟩
  · have u : (8 : Int32).toInt = 8 ∧ (8 : Int64).toInt = 8 := by decide
    rw [z1, z2, bnd_some, bnd_some, if_neg (by decide), if_neg (by decide), e_within, e_in, bnd_some, bnd_some, bi_ite, bi_ite, t64, l32_1, l64_1, u.1, u.2]
    by_cases c : 1 ≤ a2.toInt ∧ a2.toInt ≤ 8
    · obtain ⟨q, rfl, eq⟩ := nv_i c (by omega)
      obtain ⟨S', w1, ca⟩ := e_prep h (s := s) hL1 hL8
      obtain ⟨M', w2, cm⟩ := e_ff h (s := s) hL8 pm
      have p8 : 2 ^ rk (sB s) (nS x) ≤ 2 ^ 8 := Nat.pow_le_pow_right (by omega) hL8
      have p0 := Nat.two_pow_pos (rk (sB s) (nS x))
      obtain ⟨r, r1, r2, r3⟩ := mw_l h hL8 ca cm (fun (v1 : Int32) (S2 : St) => bnd (fX4_asSenders v1 S2) (fun v3 S4 => some (v3, S4))) (fun (v8 : Int32) (S9 : St) => bnd (fX12_wholeBits v8 S9) (fun v10 S11 => some (v10, S11))) (q := q) (by omega) (2 ^ rk (sB s) (nS x) - 1) 1 FU FU 0 (by omega) (by omega) (by omega) p0
      have e0 : iI (wZ x s 0 (nS x)) = 0 := by
        have : wZ x s 0 (nS x) = 0 := cs_no _ (fun j _ z => by
          have := (Eq.mp (Bool.and_eq_true (sB s j) (Nat.testBit 0 (rk (sB s) j))) z).2
          rw [Nat.zero_testBit] at this; exact absurd this (by decide))
        rw [this]; rfl
      rw [e0] at r3
      have r2' : fX4_mostWorth_L4 (fun (v1 : Int32) (S2 : St) => bnd (fX4_asSenders v1 S2) (fun v3 S4 => some (v3, S4))) (nI q) FU 0 1 S' = _ := r2
      have r3' : fX12_best_L35 (fun (v8 : Int32) (S9 : St) => bnd (fX12_wholeBits v8 S9) (fun v10 S11 => some (v10, S11))) (nI q) FU 0 0 1 M' = _ := r3
      unfold fX4_mostWorth
      rw [if_pos c, if_pos c, w1, w2, bnd_some, bnd_some, r2', r3', e_ps h hL8 ca.1, e_wb h hL8 cm.1, bnd_some, bnd_some, bnd_some]
      exact ⟨_, _, _, rfl, rfl, Inv_fr ca.1.1 cm.1.1 hu⟩
    · rw [if_neg c, if_neg c]; exact ⟨_, _, _, rfl, rfl, Inv_fr xEq.rfl pm.1 hu⟩
theorem pr_17 (n : Nat) (x m : St) (a1 a2 : Int32) (_ : n < 512) (h : Inv n x m) : ∃ (v : Int32) (x' m' : St), fX11_proof a1 a2 x = some (v, x') ∧ fX12_proof a1 a2 m = some (v, m') ∧ Inv (n + 1) x' m' := by
  obtain ⟨h1, h2, h3, h4, h5, h6, h7, h8, h9, h10, h11⟩ := id h
  have hu := Inv_up n x m h
  have fu := fu_ge
  unfold fX11_proof fX12_proof
  rcases e_set h5 a1 with ⟨z1, z2⟩ | ⟨s, rfl, ls, hL1, hL8, z1, M0, z2, pm⟩
  · rw [z1, z2, bnd_some, bnd_some, if_pos rfl, if_pos rfl]; exact ⟨_, _, _, rfl, rfl, hu⟩
  · have u : (8 : Int32).toInt = 8 ∧ (8 : Int64).toInt = 8 := by decide
    rw [z1, z2, bnd_some, bnd_some, if_neg (by decide), if_neg (by decide), e_within, e_in, bnd_some, bnd_some, bi_ite, bi_ite, t64, l32_1, l64_1, u.1, u.2]
    by_cases c : 1 ≤ a2.toInt ∧ a2.toInt ≤ 8
    · obtain ⟨q, rfl, eq⟩ := nv_i c (by omega)
      obtain ⟨S', w1, ca⟩ := e_prep h (s := s) hL1 hL8
      obtain ⟨M', w2, cm⟩ := e_ff h (s := s) hL8 pm
      have p8 : 2 ^ rk (sB s) (nS x) ≤ 2 ^ 8 := Nat.pow_le_pow_right (by omega) hL8
      have p0 := Nat.two_pow_pos (rk (sB s) (nS x))
      obtain ⟨r, r1, r2, r3⟩ := lt_l h hL8 ca cm (fun (v1 : Int32) (S2 : St) => bnd (fX4_asSenders v1 S2) (fun v3 S4 => some (v3, S4))) (fun (v8 : Int32) (S9 : St) => bnd (fX12_wholeBits v8 S9) (fun v10 S11 => some (v10, S11))) (q := q) (by omega) (2 ^ rk (sB s) (nS x) - 1) 1 FU FU 0 (by omega) (by omega) (by omega) p0
      have r2' : fX4_leastThatCannot_L4 (fun (v1 : Int32) (S2 : St) => bnd (fX4_asSenders v1 S2) (fun v3 S4 => some (v3, S4))) (nI q) FU 0 1 S' = _ := r2
      have r3' : fX12_proof_L32 (fun (v8 : Int32) (S9 : St) => bnd (fX12_wholeBits v8 S9) (fun v10 S11 => some (v10, S11))) (nI q) FU 0 1 M' = _ := r3
      unfold fX4_leastThatCannot
      rw [if_pos c, if_pos c, w1, w2, bnd_some, bnd_some, r2', r3', e_ps h hL8 ca.1, e_wb h hL8 cm.1, bnd_some, bnd_some, bnd_some]
      exact ⟨_, _, _, rfl, rfl, Inv_fr ca.1.1 cm.1.1 hu⟩
    · rw [if_neg c, if_neg c]; exact ⟨_, _, _, rfl, rfl, Inv_fr xEq.rfl pm.1 hu⟩
