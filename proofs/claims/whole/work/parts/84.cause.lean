/-! ===== cause ===== -/
abbrev hqZ (x : St) (i mask : Nat) : Prop := hdZ x i (drZ x i (rmZ x i mask))
theorem nI_m1 {l : Nat} (h : l < 2147483648) : ¬ nI l = -1 := fun q => by
  have := congrArg Int32.toInt q
  rw [nv_t h, l32_m1] at this; omega
theorem as_l {S : St} {L : Nat} (eL : S.1 17 8 = nI L) (hL : L ≤ 20) (hj : ∀ k, k < L → ∃ j, j < 20 ∧ S.1 39 k = nI j) (mask : Nat) : ∀ (d k f : Nat), k + d = L → d < f → fX0_asSenders_L4 (nI mask) f (nI (ba (fun k => nt (S.1 39 k)) (fun k => mask.testBit k) k)) (nI k) S = some (nI (ba (fun k => nt (S.1 39 k)) (fun k => mask.testBit k) L), S)
  | 0, k, f + 1, hk, _ => by
    show fX0_asSenders_L4_st (nI mask) (fX0_asSenders_L4 (nI mask) f) _ (nI k) S = _
    unfold fX0_asSenders_L4_st
    rw [eL, if_pos ((nv_l (by omega) (by omega)).mpr (by omega)), show k = L by omega]
  | d + 1, k, f + 1, hk, hf => by
    have ih := as_l eL hL hj mask d (k + 1) f (by omega) (by omega)
    obtain ⟨j, lj, ej⟩ := hj k (by omega)
    have st : ba (fun k => nt (S.1 39 k)) (fun k => mask.testBit k) (k + 1) = ba (fun k => nt (S.1 39 k)) (fun k => mask.testBit k) k ||| (if mask.testBit k = true then 2 ^ (nt (S.1 39 k)) else 0) := rfl
    rw [st] at ih
    show fX0_asSenders_L4_st (nI mask) (fX0_asSenders_L4 (nI mask) f) _ (nI k) S = _
    unfold fX0_asSenders_L4_st
    rw [eL, if_neg (fun q => by rw [nv_l (by omega) (by omega)] at q; omega)]
    simp only [jn_eq, lt_eq]
    rw [nv_p1]
    by_cases b : mask.testBit k = true
    · rw [if_pos b, ej, nv_nt (by omega), ← nx_or] at ih
      rw [if_neg (fun q => (nb_0 mask (by omega)).mp q b), if_pos (nv_ib (by omega) (by omega)), nv_nt (a := k) (by omega), ej, nb_shl j (by omega)]
      exact ih
    · rw [if_neg b, Nat.or_zero] at ih
      rw [if_pos ((nb_0 mask (by omega)).mpr b)]
      exact ih
theorem e_as {x m : St} (h5 : I_send x m) {i : Nat} {S : St} (g : GT x i (x.1 17 6).toInt.toNat S) (mask : Nat) : fX0_asSenders (nI mask) S = some (nI (upZ' (rvZ x i) mask (x.1 17 6).toInt.toNat), S) := by
  obtain ⟨N, eN, hN, l20⟩ := sndN h5
  have e : (x.1 17 6).toInt.toNat = N := by omega
  rw [e] at g ⊢
  obtain ⟨g1, g2, g3⟩ := g
  have lL := rk_le (rvZ x i) N
  have l := as_l g2 (by omega) (fun k hk => by
    obtain ⟨j, h1, h2, h3⟩ := rk_ex (rvZ x i) N k hk
    exact ⟨j, by omega, by rw [← h3]; exact (g3 j h1 h2).1⟩) mask (rk (rvZ x i) N) 0 FU (by omega) (by have := fu_ge; omega)
  have cc := ba_cmp (R := rvZ x i) (a := fun k => nt (S.1 39 k)) (B := fun k => mask.testBit k) N (fun j hj hr => by
    show nt (S.1 39 (rk (rvZ x i) j)) = j
    rw [(g3 j hj hr).1, nv_nt (by omega)])
  rw [cc] at l
  exact l
theorem cst_n {n : Nat} {x m : St} (h : Inv n x m) {i : Nat} (hi : (i : Int) < (x.1 17 6).toInt) {S : St} (g : GT x i (x.1 17 6).toInt.toNat S) (hL : rk (rvZ x i) (x.1 17 6).toInt.toNat ≤ 10) (kx : Int32 → St → Option (Int32 × St)) {k : Nat} (hk : k < 2 ^ rk (rvZ x i) (x.1 17 6).toInt.toNat) (f : Nat) : fX0_causeOf_L11 kx (nI i) (iI (gotZ x i (x.1 (19 + i) 5) (moodZ x i))) (f + 1) (-1) (nI k) S = fX0_causeOf_L11 kx (nI i) (iI (gotZ x i (x.1 (19 + i) 5) (moodZ x i))) f (if hqZ x i k then nI k else -1) (nI (k + 1)) S := by
  obtain ⟨h1, h2, h3, h4, h5, h6, h7, h8, h9, h10, h11⟩ := id h
  have r := h5.2.1
  have hs := s1_n h5 hi
  have p10 : 2 ^ rk (rvZ x i) (x.1 17 6).toInt.toNat ≤ 2 ^ 10 := Nat.pow_le_pow_right (by omega) hL
  have dr := drZ_rg h hi (rmZ x i k)
  have gg := gotZ_rg h hs (moodZ x i) (goal_c hs)
  show fX0_causeOf_L11_st kx (nI i) _ (fX0_causeOf_L11 kx (nI i) _ f) (-1) (nI k) S = _
  unfold fX0_causeOf_L11_st
  simp only [jn_eq]
  rw [g.2.1, nb_shl _ (by omega), if_neg (fun q => by rw [nv_l (by omega) (by omega)] at q; omega), nv_p1, if_pos trivial, if_neg (by decide), if_pos (nv_ib (by omega) (by omega)), e_agn h hi g k, bnd_some, nv_nt (by omega), e_enough g.1 (by omega) hs gg ⟨by omega, by omega⟩, bnd_some, bi_ite]
  by_cases c : hqZ x i k
  · rw [if_pos c, if_pos c]
  · rw [if_neg c, if_neg c]
theorem cst_l {n : Nat} {x m : St} (h : Inv n x m) {i : Nat} (hi : (i : Int) < (x.1 17 6).toInt) {S : St} (g : GT x i (x.1 17 6).toInt.toNat S) (hL : rk (rvZ x i) (x.1 17 6).toInt.toNat ≤ 10) (kx : Int32 → St → Option (Int32 × St)) {k l : Nat} (hk : k < 2 ^ rk (rvZ x i) (x.1 17 6).toInt.toNat) (hl : l < 1048576) (f : Nat) : fX0_causeOf_L11 kx (nI i) (iI (gotZ x i (x.1 (19 + i) 5) (moodZ x i))) (f + 1) (nI l) (nI k) S = fX0_causeOf_L11 kx (nI i) (iI (gotZ x i (x.1 (19 + i) 5) (moodZ x i))) f (if pcn k < pcn l ∧ hqZ x i k then nI k else nI l) (nI (k + 1)) S := by
  obtain ⟨h1, h2, h3, h4, h5, h6, h7, h8, h9, h10, h11⟩ := id h
  have r := h5.2.1
  have hs := s1_n h5 hi
  have p10 : 2 ^ rk (rvZ x i) (x.1 17 6).toInt.toNat ≤ 2 ^ 10 := Nat.pow_le_pow_right (by omega) hL
  have dr := drZ_rg h hi (rmZ x i k)
  have gg := gotZ_rg h hs (moodZ x i) (goal_c hs)
  have b1 := pcn_le k
  have b2 := pcn_le l
  show fX0_causeOf_L11_st kx (nI i) _ (fX0_causeOf_L11 kx (nI i) _ f) (nI l) (nI k) S = _
  unfold fX0_causeOf_L11_st
  simp only [jn_eq]
  rw [g.2.1, nb_shl _ (by omega), if_neg (fun q => by rw [nv_l (by omega) (by omega)] at q; omega), nv_p1, if_neg (nI_m1 (by omega)), e_bc (by omega), bnd_some, e_bc (by omega), bnd_some]
  by_cases q : pcn k < pcn l
  · rw [if_neg (fun z => by rw [nv_l (by omega) (by omega)] at z; omega), if_neg (by decide), if_pos (nv_ib (by omega) (by omega)), e_agn h hi g k, bnd_some, nv_nt (by omega), e_enough g.1 (by omega) hs gg ⟨by omega, by omega⟩, bnd_some, bi_ite]
    by_cases c : hqZ x i k
    · rw [if_pos c, if_pos ⟨q, c⟩]
    · rw [if_neg c, if_neg (fun z => c z.2)]
  · rw [if_pos ((nv_l (by omega) (by omega)).mpr (by omega)), if_pos trivial, if_neg (fun z => q z.1)]
theorem cst_e {x m : St} (h5 : I_send x m) {i : Nat} {S : St} (g : GT x i (x.1 17 6).toInt.toNat S) (hL : rk (rvZ x i) (x.1 17 6).toInt.toNat ≤ 10) (kx : Int32 → St → Option (Int32 × St)) (gg lst : Int32) (f : Nat) : fX0_causeOf_L11 kx (nI i) gg (f + 1) lst (nI (2 ^ rk (rvZ x i) (x.1 17 6).toInt.toNat)) S = kx lst S := by
  have p10 : 2 ^ rk (rvZ x i) (x.1 17 6).toInt.toNat ≤ 2 ^ 10 := Nat.pow_le_pow_right (by omega) hL
  show fX0_causeOf_L11_st kx (nI i) _ (fX0_causeOf_L11 kx (nI i) _ f) lst (nI (2 ^ rk (rvZ x i) (x.1 17 6).toInt.toNat)) S = _
  unfold fX0_causeOf_L11_st
  rw [g.2.1, nb_shl _ (by omega), if_pos ((nv_l (by omega) (by omega)).mpr (Nat.le_refl _))]
theorem c0_l {n : Nat} {x m : St} (h : Inv n x m) {i : Nat} (hi : (i : Int) < (x.1 17 6).toInt) {S : St} (g : GT x i (x.1 17 6).toInt.toNat S) (hL : rk (rvZ x i) (x.1 17 6).toInt.toNat ≤ 10) (kx : Int32 → St → Option (Int32 × St)) : ∀ (d k f : Nat), k + d = 2 ^ rk (rvZ x i) (x.1 17 6).toInt.toNat → d < f → fX0_causeOf_L11 kx (nI i) (iI (gotZ x i (x.1 (19 + i) 5) (moodZ x i))) f (nI 0) (nI k) S = kx (nI 0) S
  | 0, k, f + 1, hk, _ => by
    rw [show k = 2 ^ rk (rvZ x i) (x.1 17 6).toInt.toNat by omega]
    exact cst_e h.2.2.2.2.1 g hL kx _ _ f
  | d + 1, k, f + 1, hk, hf => by
    rw [cst_l h hi g hL kx (by omega) (by omega), if_neg (fun z => by have := z.1; rw [pcn_0] at this; omega)]
    exact c0_l h hi g hL kx d (k + 1) f (by omega) (by omega)
theorem cn_l {n : Nat} {x m : St} (h : Inv n x m) {i : Nat} (hi : (i : Int) < (x.1 17 6).toInt) {S : St} (g : GT x i (x.1 17 6).toInt.toNat S) (hL : rk (rvZ x i) (x.1 17 6).toInt.toNat ≤ 10) (kx : Int32 → St → Option (Int32 × St)) (no : ∀ k, ¬ hqZ x i k) : ∀ (d k f : Nat), k + d = 2 ^ rk (rvZ x i) (x.1 17 6).toInt.toNat → d < f → fX0_causeOf_L11 kx (nI i) (iI (gotZ x i (x.1 (19 + i) 5) (moodZ x i))) f (-1) (nI k) S = kx (-1) S
  | 0, k, f + 1, hk, _ => by
    rw [show k = 2 ^ rk (rvZ x i) (x.1 17 6).toInt.toNat by omega]
    exact cst_e h.2.2.2.2.1 g hL kx _ _ f
  | d + 1, k, f + 1, hk, hf => by
    rw [cst_n h hi g hL kx (by omega), if_neg (no k)]
    exact cn_l h hi g hL kx no d (k + 1) f (by omega) (by omega)
theorem rst {n : Nat} {x m : St} (h : Inv n x m) {i : Nat} (hi : (i : Int) < (x.1 17 6).toInt) {k b : Nat} (hb : b < 1048576) (nz : upZ' (rvZ x i) k (x.1 17 6).toInt.toNat ≠ 0) (f : Nat) : fX12_cause_L83 (nI i) (nI (bs (rvZ x i) (x.1 17 6).toInt.toNat)) (f + 1) (nI b) (nI (upZ' (rvZ x i) k (x.1 17 6).toInt.toNat)) m = fX12_cause_L83 (nI i) (nI (bs (rvZ x i) (x.1 17 6).toInt.toNat)) f (if (pcn (upZ' (rvZ x i) k (x.1 17 6).toInt.toNat) < pcn b ∨ (pcn (upZ' (rvZ x i) k (x.1 17 6).toInt.toNat) = pcn b ∧ upZ' (rvZ x i) k (x.1 17 6).toInt.toNat < b)) ∧ hqZ x i k then nI (upZ' (rvZ x i) k (x.1 17 6).toInt.toNat) else nI b) (nI (upZ' (rvZ x i) (k + 1) (x.1 17 6).toInt.toNat)) m := by
  obtain ⟨h1, h2, h3, h4, h5, h6, h7, h8, h9, h10, h11⟩ := id h
  have r := h5.2.1
  have p20 : 2 ^ (x.1 17 6).toInt.toNat ≤ 2 ^ 20 := Nat.pow_le_pow_right (by omega) (by omega)
  have uL := up_lt (rvZ x i) k (x.1 17 6).toInt.toNat
  have dr := drZ_rg h hi (rmZ x i k)
  have ecl : nI (bs (rvZ x i) (x.1 17 6).toInt.toNat) &&& (nI (upZ' (rvZ x i) k (x.1 17 6).toInt.toNat) ^^^ (-1)) = nI (bs (rvZ x i) (x.1 17 6).toInt.toNat ^^^ upZ' (rvZ x i) k (x.1 17 6).toInt.toNat) := nx_clr (fun j hj => by
    rw [bs_bit, Bool.and_eq_true, Bool.and_eq_true] at hj
    rw [bs_bit, hj.1, hj.2.1]; rfl)
  have edr : drZ x i (fun o => decide (o ≠ i) && (bs (rvZ x i) (x.1 17 6).toInt.toNat ^^^ upZ' (rvZ x i) k (x.1 17 6).toInt.toNat).testBit o) = drZ x i (rmZ x i k) := drZ_cg (fun j hj => by
    show (decide (j ≠ i) && _) = (rvZ x i j && !(k.testBit (rk (rvZ x i) j)))
    rw [Nat.testBit_xor, bs_bit, bs_bit, decide_eq_true hj, Bool.true_and, Bool.true_and]
    cases q : rvZ x i j
    · rw [Bool.false_and, Bool.false_and, Bool.xor_false, Bool.and_false]
    · have q' : (decide (j ≠ i) && (decide (¬ x.1 (19 + j) 10 = 0) && decide (slotZ x j = slotZ x i))) = true := q
      rw [Bool.and_eq_true] at q'
      rw [q'.1, Bool.true_and, Bool.true_and, Bool.true_and, Bool.true_xor])
  have hb1 := pcn_le (upZ' (rvZ x i) k (x.1 17 6).toInt.toNat)
  have hb2 := pcn_le b
  have nx := up_next32 (rvZ x i) k (t := (x.1 17 6).toInt.toNat) (by omega)
  have edm := e_drM h hi (bs (rvZ x i) (x.1 17 6).toInt.toNat ^^^ upZ' (rvZ x i) k (x.1 17 6).toInt.toNat)
  rw [edr] at edm
  have ehd := e_hdM h hi (z := drZ x i (rmZ x i k)) ⟨by omega, by omega⟩
  generalize upZ' (rvZ x i) k (x.1 17 6).toInt.toNat = u at *
  generalize upZ' (rvZ x i) (k + 1) (x.1 17 6).toInt.toNat = u2 at *
  generalize bs (rvZ x i) (x.1 17 6).toInt.toNat = a at *
  show fX12_cause_L83_st (nI i) (nI a) (fX12_cause_L83 (nI i) (nI a) f) (nI b) (nI u) m = _
  unfold fX12_cause_L83_st
  simp only [jn_eq, lt_eq]
  rw [if_neg (fun q => nz ((nv_z (by omega)).mp q))]
  simp only [e_ones (x := u) (by omega), e_ones (x := b) (by omega), nx, ecl, edm, ehd, bnd_some, bi_ite]
  by_cases c : hqZ x i k
  · rw [if_pos c]
    by_cases q1 : pcn u < pcn b
    · rw [if_pos ((nv_s (by omega) (by omega)).mpr q1), if_pos ⟨Or.inl q1, c⟩]
    · rw [if_neg (fun z => q1 ((nv_s (by omega) (by omega)).mp z))]
      by_cases q2 : pcn u = pcn b
      · rw [if_pos ((nv_e (by omega) (by omega)).mpr q2)]
        by_cases q3 : u < b
        · rw [if_neg (fun z => by rw [nv_l (by omega) (by omega)] at z; omega), if_pos ⟨Or.inr ⟨q2, q3⟩, c⟩]
        · rw [if_pos ((nv_l (by omega) (by omega)).mpr (by omega)), if_neg (fun z => by rcases z.1 with w | w; exact q1 w; exact q3 w.2)]
      · rw [if_neg (fun z => q2 ((nv_e (by omega) (by omega)).mp z)), if_neg (fun z => by rcases z.1 with w | w; exact q1 w; exact q2 w.1)]
  · rw [if_neg c, if_neg (show ¬ ((pcn u < pcn b ∨ pcn u = pcn b ∧ u < b) ∧ hqZ x i k) from fun z => c z.2)]
    split
    · rfl
    · split
      · split <;> rfl
      · rfl
theorem cs_no {g : Nat → Int} {B : Nat → Bool} : ∀ n, (∀ j, j < n → ¬ B j = true) → cs g B n = 0
  | 0, _ => rfl
  | n + 1, h => by rw [cs_f (h n (by omega))]; exact cs_no n (fun j hj => h j (by omega))
theorem dr_full (x : St) (i : Nat) : drZ x i (rmZ x i (2 ^ rk (rvZ x i) (x.1 17 6).toInt.toNat - 1)) = (x.1 2 2).toInt := by
  unfold drZ
  rw [cs_no _ (fun j hj q => by
    have q' : (rvZ x i j && !((2 ^ rk (rvZ x i) (x.1 17 6).toInt.toNat - 1).testBit (rk (rvZ x i) j))) = true := q
    rw [Bool.and_eq_true] at q'
    have := rk_lt q'.1 hj
    rw [Nat.testBit_two_pow_sub_one, decide_eq_true this] at q'
    exact absurd q'.2 (by decide)), Int.add_zero]
theorem up_0 (R : Nat → Bool) (n : Nat) : upZ' R 0 n = 0 := (bs_0 n).mpr (fun j hj q => by
  rw [Bool.and_eq_true, Nat.zero_testBit] at q
  exact absurd q.2 (by decide))
theorem up_pow (R : Nat → Bool) (n : Nat) : upZ' R (2 ^ rk R n) n = 0 := (bs_0 n).mpr (fun j hj q => by
  rw [Bool.and_eq_true] at q
  have := rk_lt q.1 hj
  rw [Nat.testBit_two_pow_of_ne (by omega)] at q
  exact absurd q.2 (by decide))
theorem cc_l {n : Nat} {x m : St} (h : Inv n x m) {i : Nat} (hi : (i : Int) < (x.1 17 6).toInt) {S : St} (g : GT x i (x.1 17 6).toInt.toNat S) (hL : rk (rvZ x i) (x.1 17 6).toInt.toNat ≤ 10) (kx : Int32 → St → Option (Int32 × St)) (hno : hdZ x i (x.1 2 2).toInt) : ∀ (d k f f' : Nat) (lst : Int32) (best : Nat), k + d = 2 ^ rk (rvZ x i) (x.1 17 6).toInt.toNat → 1 ≤ k → d < f → d < f' → ((lst = -1 ∧ best = bs (rvZ x i) (x.1 17 6).toInt.toNat ∧ k < 2 ^ rk (rvZ x i) (x.1 17 6).toInt.toNat) ∨ ∃ l, l < k ∧ l < 2 ^ rk (rvZ x i) (x.1 17 6).toInt.toNat ∧ lst = nI l ∧ best = upZ' (rvZ x i) l (x.1 17 6).toInt.toNat) → ∃ r, r < 2 ^ rk (rvZ x i) (x.1 17 6).toInt.toNat ∧ fX0_causeOf_L11 kx (nI i) (iI (gotZ x i (x.1 (19 + i) 5) (moodZ x i))) f lst (nI k) S = kx (nI r) S ∧ fX12_cause_L83 (nI i) (nI (bs (rvZ x i) (x.1 17 6).toInt.toNat)) f' (nI best) (nI (upZ' (rvZ x i) k (x.1 17 6).toInt.toNat)) m = some (nI (upZ' (rvZ x i) r (x.1 17 6).toInt.toNat), m)
  | 0, k, f + 1, f' + 1, lst, best, hk, h1, _, _, rel => by
    have ek : k = 2 ^ rk (rvZ x i) (x.1 17 6).toInt.toNat := by omega
    rcases rel with ⟨-, -, c⟩ | ⟨l, l1, l2, rfl, rfl⟩
    · omega
    · refine ⟨l, l2, ?_, ?_⟩
      · rw [ek]; exact cst_e h.2.2.2.2.1 g hL kx _ _ f
      · rw [ek, up_pow]
        show fX12_cause_L83_st (nI i) _ _ _ (nI 0) m = _
        unfold fX12_cause_L83_st
        rw [if_pos (show nI 0 = 0 from rfl)]
  | d + 1, k, f + 1, f' + 1, lst, best, hk, h1, hf, hf', rel => by
    have r5 := h.2.2.2.2.1.2.1
    have hk' : k < 2 ^ rk (rvZ x i) (x.1 17 6).toInt.toNat := by omega
    have p10 : 2 ^ rk (rvZ x i) (x.1 17 6).toInt.toNat ≤ 2 ^ 10 := Nat.pow_le_pow_right (by omega) hL
    have p20 : 2 ^ (x.1 17 6).toInt.toNat ≤ 2 ^ 20 := Nat.pow_le_pow_right (by omega) (by omega)
    have aT := bs_lt (rvZ x i) (x.1 17 6).toInt.toNat
    have nz : upZ' (rvZ x i) k (x.1 17 6).toInt.toNat ≠ 0 := by
      have := up_mono (rvZ x i) (x.1 17 6).toInt.toNat 0 k (by rw [Nat.zero_mod, Nat.mod_eq_of_lt hk']; omega)
      omega
    have pu := pcn_up (rvZ x i) (mask := k) (n := (x.1 17 6).toInt.toNat) (by omega) hk'
    have hfull := up_full (rvZ x i) k (x.1 17 6).toInt.toNat
    rw [Nat.mod_eq_of_lt hk'] at hfull
    have hqf : k = 2 ^ rk (rvZ x i) (x.1 17 6).toInt.toNat - 1 → hqZ x i k := by
      intro e; unfold hqZ; rw [e, dr_full]; exact hno
    rcases rel with ⟨rfl, rfl, c⟩ | ⟨l, l1, l2, rfl, rfl⟩
    · rw [cst_n h hi g hL kx hk', rst h hi (by omega) nz, pu]
      have pa := pcn_bs (rvZ x i) (x.1 17 6).toInt.toNat (by omega)
      by_cases q : hqZ x i k
      · rw [if_pos q]
        have e : (if (pcn k < pcn (bs (rvZ x i) (x.1 17 6).toInt.toNat) ∨ (pcn k = pcn (bs (rvZ x i) (x.1 17 6).toInt.toNat) ∧ upZ' (rvZ x i) k (x.1 17 6).toInt.toNat < bs (rvZ x i) (x.1 17 6).toInt.toNat)) ∧ hqZ x i k then nI (upZ' (rvZ x i) k (x.1 17 6).toInt.toNat) else nI (bs (rvZ x i) (x.1 17 6).toInt.toNat)) = nI (upZ' (rvZ x i) k (x.1 17 6).toInt.toNat) := by
          by_cases ef : upZ' (rvZ x i) k (x.1 17 6).toInt.toNat = bs (rvZ x i) (x.1 17 6).toInt.toNat
          · rw [ef]; split <;> rfl
          · have le := up_le (rvZ x i) k (x.1 17 6).toInt.toNat
            have lp : pcn k ≤ pcn (bs (rvZ x i) (x.1 17 6).toInt.toNat) := by
              rw [pa, ← pu, pcn_bs _ _ (by omega), rk_up]
              exact rk_le _ _
            rw [if_pos ⟨by omega, q⟩]
        rw [e]
        exact cc_l h hi g hL kx hno d (k + 1) f f' _ _ (by omega) (by omega) (by omega) (by omega) (Or.inr ⟨k, by omega, hk', rfl, rfl⟩)
      · rw [if_neg q, if_neg (fun z => q z.2)]
        exact cc_l h hi g hL kx hno d (k + 1) f f' _ _ (by omega) (by omega) (by omega) (by omega) (Or.inl ⟨rfl, rfl, by
          rcases Nat.lt_or_ge (k + 1) (2 ^ rk (rvZ x i) (x.1 17 6).toInt.toNat) with z | z
          · exact z
          · exact absurd (hqf (by omega)) q⟩)
    · have lu := up_lt (rvZ x i) l (x.1 17 6).toInt.toNat
      have pl := pcn_up (rvZ x i) (mask := l) (n := (x.1 17 6).toInt.toNat) (by omega) l2
      have mono := up_mono (rvZ x i) (x.1 17 6).toInt.toNat l k (by rw [Nat.mod_eq_of_lt l2, Nat.mod_eq_of_lt hk']; exact l1)
      rw [cst_l h hi g hL kx hk' (by omega), rst h hi (by omega) nz, pu, pl]
      by_cases q : pcn k < pcn l ∧ hqZ x i k
      · rw [if_pos q, if_pos ⟨Or.inl q.1, q.2⟩]
        exact cc_l h hi g hL kx hno d (k + 1) f f' _ _ (by omega) (by omega) (by omega) (by omega) (Or.inr ⟨k, by omega, hk', rfl, rfl⟩)
      · rw [if_neg q, if_neg (fun z => by rcases z.1 with w | w; exact q ⟨w, z.2⟩; omega)]
        exact cc_l h hi g hL kx hno d (k + 1) f f' _ _ (by omega) (by omega) (by omega) (by omega) (Or.inr ⟨l, by omega, l2, rfl, rfl⟩)
theorem pr_12 (n : Nat) (x m : St) (a1 : Int32) (hn : n < 512) (h : Inv n x m) : ∃ (v : Int32) (x' m' : St), fX11_cause a1 x = some (v, x') ∧ fX12_cause a1 m = some (v, m') ∧ Inv (n + 1) x' m' := by
  obtain ⟨h1, h2, h3, h4, h5, h6, h7, h8, h9, h10, h11⟩ := id h
  have hu := Inv_up n x m h
  have r := h5.2.1
  unfold fX11_cause fX12_cause
  rw [e_ref h5, e_isSender h5, bnd_some, bnd_some, bi_ite]
  by_cases c : isS x a1
  · obtain ⟨i, rfl, hi, ent, l20⟩ := isS_k h5 c
    have hs := s1_n h5 hi
    have f10 : m.1 16 i = x.1 (19 + i) 10 := hs.1 10 (by decide)
    rw [if_pos c, if_pos c, ent, if_pos (nv_ib l20 (by omega)), f10]
    by_cases o : x.1 (19 + i) 10 = 0
    · rw [if_pos o, if_pos o, if_neg (by decide)]; exact ⟨_, _, _, rfl, rfl, hu⟩
    · obtain ⟨S', q1, q2⟩ := e_gath hn h hi
      have hv := Inv_fr q2.1 mEq.rfl hu
      have dr := drZ_rg h hi (rmZ x i 0)
      have rno := h1.2.2.2.1
      have lL := rk_le (rvZ x i) (x.1 17 6).toInt.toNat
      have p20 : 2 ^ (x.1 17 6).toInt.toNat ≤ 2 ^ 20 := Nat.pow_le_pow_right (by omega) (by omega)
      have aT := bs_lt (rvZ x i) (x.1 17 6).toInt.toNat
      rw [if_neg o, if_neg o, if_pos rfl, q1, bnd_some, e_oth hn h hi, bnd_some, e_ones (by omega), bnd_some, pcn_bs _ _ (by omega)]
      by_cases hL : rk (rvZ x i) (x.1 17 6).toInt.toNat ≤ 10
      · have le10 : nI (rk (rvZ x i) (x.1 17 6).toInt.toNat) ≤ 10 := (nv_l (b := 10) (by omega) (by omega)).mpr hL
        have p10 : 2 ^ rk (rvZ x i) (x.1 17 6).toInt.toNat ≤ 2 ^ 10 := Nat.pow_le_pow_right (by omega) hL
        have p0 := Nat.two_pow_pos (rk (rvZ x i) (x.1 17 6).toInt.toNat)
        have fu := fu_ge
        obtain ⟨FU', eF⟩ : ∃ FU', FU = FU' + 1 := ⟨FU - 1, by omega⟩
        have st0 : ∀ kx, fX0_causeOf_L11 kx (nI i) (iI (gotZ x i (x.1 (19 + i) 5) (moodZ x i))) FU (-1) 0 S' = fX0_causeOf_L11 kx (nI i) (iI (gotZ x i (x.1 (19 + i) 5) (moodZ x i))) FU' (if hqZ x i 0 then nI 0 else -1) (nI (0 + 1)) S' := fun kx => by
          rw [eF]; exact cst_n h hi q2 hL kx (k := 0) p0 FU'
        rw [if_pos le10, if_pos le10]
        unfold fX0_causeOf
        rw [e_goalX h q2.1 hi, bnd_some, st0, e_drM h hi, bnd_some, dr_all, e_hdM h hi ⟨by omega, by omega⟩, bnd_some, bi_ite]
        by_cases q : hqZ x i 0
        · have s2 := e_as h5 q2 0
          rw [up_0] at s2
          rw [if_pos q, if_pos q, c0_l h hi q2 hL _ (2 ^ rk (rvZ x i) (x.1 17 6).toInt.toNat - 1) (0 + 1) FU' (by omega) (by omega), if_neg (nI_m1 (by omega)), s2, bnd_some, bnd_some]
          exact ⟨_, _, _, rfl, rfl, hv⟩
        · have e2 : (m.1 5 (nt 2)).toInt64 = jI (x.1 2 2).toInt := by rw [show nt 2 = 2 from rfl, h1.1 2 (by decide), i64]
          rw [if_neg q, if_neg q, e2, e_hdM h hi ⟨by omega, by omega⟩, bnd_some, bi_ite]
          by_cases hno : hdZ x i (x.1 2 2).toInt
          · have l1 : 1 < 2 ^ rk (rvZ x i) (x.1 17 6).toInt.toNat := by
              rcases Nat.lt_or_ge 1 (2 ^ rk (rvZ x i) (x.1 17 6).toInt.toNat) with z | z
              · exact z
              · exfalso
                apply q
                have f := dr_full x i
                rw [show 2 ^ rk (rvZ x i) (x.1 17 6).toInt.toNat - 1 = 0 by omega] at f
                unfold hqZ; rw [f]; exact hno
            have nx := up_next32 (rvZ x i) 0 (t := (x.1 17 6).toInt.toNat) (by omega)
            rw [up_0] at nx
            have nx' : ((0 : Int32) - nI (bs (rvZ x i) (x.1 17 6).toInt.toNat)) &&& nI (bs (rvZ x i) (x.1 17 6).toInt.toNat) = nI (upZ' (rvZ x i) (0 + 1) (x.1 17 6).toInt.toNat) := nx
            rw [if_pos hno, lt_eq, nx']
            obtain ⟨rr, r1, r2, r3⟩ := cc_l h hi q2 hL (fun (v3 : Int32) (S4 : St) => if v3 = (-1) then (some ((-1), S4)) else (bnd (fX0_asSenders v3 S4) (fun v6 S7 => some (v6, S7)))) hno (2 ^ rk (rvZ x i) (x.1 17 6).toInt.toNat - 1) (0 + 1) FU' FU (-1) _ (by omega) (by omega) (by omega) (by omega) (Or.inl ⟨rfl, rfl, by omega⟩)
            rw [r2, r3, if_neg (nI_m1 (by omega)), e_as h5 q2 rr, bnd_some, bnd_some]
            exact ⟨_, _, _, rfl, rfl, hv⟩
          · have no : ∀ k, ¬ hqZ x i k := fun k z => by
              apply hno
              have d2 := drZ_rg h hi (rmZ x i k)
              have mu := hs.2.2.2.2.2.1
              have := Int.mul_le_mul_of_nonneg_left d2.1 (show 0 ≤ (x.1 (19 + i) 4).toInt by omega)
              exact Int.le_trans this z
            rw [if_neg hno, cn_l h hi q2 hL _ no (2 ^ rk (rvZ x i) (x.1 17 6).toInt.toNat - 1) (0 + 1) FU' (by omega) (by omega), if_pos rfl, bnd_some]
            exact ⟨_, _, _, rfl, rfl, hv⟩
      · have gt10 : ¬ nI (rk (rvZ x i) (x.1 17 6).toInt.toNat) ≤ 10 := fun z => hL ((nv_l (b := 10) (by omega) (by omega)).mp z)
        rw [if_neg gt10, if_neg gt10]; exact ⟨_, _, _, rfl, rfl, hv⟩
  · rw [if_neg c, if_neg c, if_neg (by decide)]; exact ⟨_, _, _, rfl, rfl, hu⟩
