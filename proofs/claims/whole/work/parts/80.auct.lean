/-! ===== hours: won and pays ===== -/
def prL (x : St) (mask : Nat) : Nat → Nat → Int → Int
  | 0, _, acc => acc
  | d + 1, k, acc => prL x mask d (k + 1) (if mask.testBit k = true then acc + (x.1 58 k).toInt else acc)
theorem prL_a (x : St) (mask : Nat) : ∀ (d k : Nat) (acc b : Int), prL x mask d k (acc + b) = prL x mask d k acc + b
  | 0, _, _, _ => rfl
  | d + 1, k, acc, b => by
    show prL x mask d (k + 1) (if mask.testBit k = true then acc + b + (x.1 58 k).toInt else acc + b) = prL x mask d (k + 1) (if mask.testBit k = true then acc + (x.1 58 k).toInt else acc) + b
    by_cases c : mask.testBit k = true
    · rw [if_pos c, if_pos c, show acc + b + (x.1 58 k).toInt = acc + (x.1 58 k).toInt + b by omega, prL_a]
    · rw [if_neg c, if_neg c, prL_a]
theorem prL_rg {x m : St} (h7 : I_bid x m) {N : Nat} (hN : (N : Int) = (x.1 56 2).toInt) (mask : Nat) : ∀ (d k : Nat) (acc : Int), k + d = N → acc ≤ prL x mask d k acc ∧ prL x mask d k acc ≤ acc + 10000 * d
  | 0, _, acc, _ => by show acc ≤ acc ∧ acc ≤ acc + 10000 * ((0 : Nat) : Int); omega
  | d + 1, k, acc, hk => by
    have r := h7.2.1
    have p := (h7.2.2 k (by omega) (by omega)).2.2.2
    show acc ≤ prL x mask d (k + 1) (if mask.testBit k = true then acc + (x.1 58 k).toInt else acc) ∧ prL x mask d (k + 1) (if mask.testBit k = true then acc + (x.1 58 k).toInt else acc) ≤ acc + 10000 * ((d + 1 : Nat) : Int)
    by_cases c : mask.testBit k = true
    · rw [if_pos c]; have := prL_rg h7 hN mask d (k + 1) (acc + (x.1 58 k).toInt) (by omega); omega
    · rw [if_neg c]; have := prL_rg h7 hN mask d (k + 1) acc (by omega); omega
theorem prL_clr (x : St) {mask i : Nat} (hi : mask.testBit i = true) : ∀ (d k : Nat) (acc : Int), prL x (mask ^^^ 2 ^ i) d k acc = prL x mask d k acc - (if k ≤ i ∧ i < k + d then (x.1 58 i).toInt else 0)
  | 0, k, acc => by rw [if_neg (by omega)]; show acc = acc - 0; omega
  | d + 1, k, acc => by
    have tb : (mask ^^^ 2 ^ i).testBit k = (mask.testBit k ^^ decide (i = k)) := by rw [Nat.testBit_xor, Nat.testBit_two_pow]
    show prL x (mask ^^^ 2 ^ i) d (k + 1) (if (mask ^^^ 2 ^ i).testBit k = true then acc + (x.1 58 k).toInt else acc) = prL x mask d (k + 1) (if mask.testBit k = true then acc + (x.1 58 k).toInt else acc) - _
    by_cases e : i = k
    · subst e
      rw [tb, hi, if_neg (by simp), if_pos rfl, prL_clr x hi d (i + 1) acc, if_neg (by omega), if_pos (by omega), prL_a]; omega
    · have t2 : (mask ^^^ 2 ^ i).testBit k = mask.testBit k := by rw [tb, decide_eq_false e, Bool.xor_false]
      rw [t2, prL_clr x hi d (k + 1) _]
      by_cases c : k ≤ i ∧ i < k + (d + 1)
      · rw [if_pos c, if_pos (show k + 1 ≤ i ∧ i < k + 1 + d by omega)]
      · rw [if_neg c, if_neg (show ¬ (k + 1 ≤ i ∧ i < k + 1 + d) by omega)]
theorem price_x {x m : St} (h7 : I_bid x m) {N : Nat} (hN : (N : Int) = (x.1 56 2).toInt) (eN : x.1 56 2 = nI N) (mask : Nat) : ∀ (d k f : Nat) (acc : Int), k + d = N → d < f → fX1_priceOf_L4 (nI mask) f (iI acc) (nI k) x = some (iI (prL x mask d k acc), x)
  | 0, k, f + 1, acc, hk, _ => by
    have r := h7.2.1
    show fX1_priceOf_L4_st (nI mask) (fX1_priceOf_L4 (nI mask) f) (iI acc) (nI k) x = _
    unfold fX1_priceOf_L4_st
    rw [eN, if_pos ((nv_l (by omega) (by omega)).mpr (by omega))]; rfl
  | d + 1, k, f + 1, acc, hk, hf => by
    have r := h7.2.1
    show fX1_priceOf_L4_st (nI mask) (fX1_priceOf_L4 (nI mask) f) (iI acc) (nI k) x = some (iI (prL x mask d (k + 1) (if mask.testBit k = true then acc + (x.1 58 k).toInt else acc)), x)
    unfold fX1_priceOf_L4_st
    rw [eN, if_neg (fun q => by rw [nv_l (by omega) (by omega)] at q; omega), jn_eq, nv_p1]
    by_cases c : mask.testBit k = true
    · have e : iI acc + x.1 58 k = iI (acc + (x.1 58 k).toInt) := by rw [← iI_add, ← iI_of]
      rw [if_neg (fun q => (nb_0 mask (by omega)).mp q c), if_pos (nv_ib (by omega) (by omega)), lt_eq, nv_nt (by omega), if_pos c, e]; exact price_x h7 hN eN mask d (k + 1) f _ (by omega) (by omega)
    · rw [if_pos ((nb_0 mask (by omega)).mpr c), if_neg c]; exact price_x h7 hN eN mask d (k + 1) f _ (by omega) (by omega)
theorem bid_l {x m : St} (h7 : I_bid x m) {N : Nat} (hN : (N : Int) = (x.1 56 2).toInt) (eN : x.1 56 2 = nI N) (mask : Nat) : ∀ (d k f : Nat) (t : Int32) (acc : Int), k + d = N → d < f → ∃ c : Bool, fX1_sharesNoHour_L4 (nI mask) f t (nI k) x = some (if c = true then 1 else 0, x) ∧ fX12_priceOf_L7 (nI mask) f t (iI acc) (nI k) m = some (if c = true then iI (prL x mask d k acc) else -1, m)
  | 0, k, f + 1, t, acc, hk, _ => by
    have r := h7.2.1
    refine ⟨true, ?_, ?_⟩
    · show fX1_sharesNoHour_L4_st (nI mask) (fX1_sharesNoHour_L4 (nI mask) f) t (nI k) x = _
      unfold fX1_sharesNoHour_L4_st
      rw [eN, if_pos ((nv_l (by omega) (by omega)).mpr (by omega))]; rfl
    · show fX12_priceOf_L7_st (nI mask) (fX12_priceOf_L7 (nI mask) f) t (iI acc) (nI k) m = _
      unfold fX12_priceOf_L7_st
      rw [h7.1, eN, if_pos ((nv_l (by omega) (by omega)).mpr (by omega))]; rfl
  | d + 1, k, f + 1, t, acc, hk, hf => by
    have r := h7.2.1
    obtain ⟨f1, f2, -, -⟩ := h7.2.2 k (by omega) (by omega)
    have nle : ¬ nI N ≤ nI k := fun q => by rw [nv_l (by omega) (by omega)] at q; omega
    have hib : ib (nI k) 8 := nv_ib (by omega) (by omega)
    have hnt : nt (nI k) = k := nv_nt (by omega)
    show ∃ c : Bool, fX1_sharesNoHour_L4_st (nI mask) (fX1_sharesNoHour_L4 (nI mask) f) t (nI k) x = _ ∧ fX12_priceOf_L7_st (nI mask) (fX12_priceOf_L7 (nI mask) f) t (iI acc) (nI k) m = some (if c = true then iI (prL x mask d (k + 1) (if mask.testBit k = true then acc + (x.1 58 k).toInt else acc)) else -1, m)
    unfold fX1_sharesNoHour_L4_st fX12_priceOf_L7_st
    rw [h7.1, eN, if_neg nle, if_neg nle, jn_eq, jn_eq, nv_p1]
    by_cases c : mask.testBit k = true
    · have e : iI acc + x.1 58 k = iI (acc + (x.1 58 k).toInt) := by rw [← iI_add, ← iI_of]
      rw [if_neg (fun q => (nb_0 mask (by omega)).mp q c), if_pos ((nb_1 mask (by omega)).mpr c), if_pos c]
      simp only [if_pos hib, lt_eq]
      rw [hnt, f1, f2, e]
      by_cases q : t &&& x.1 57 k = 0
      · rw [if_pos q, if_pos q]
        exact bid_l h7 hN eN mask d (k + 1) f _ _ (by omega) (by omega)
      · rw [if_neg q, if_neg q]; exact ⟨false, rfl, rfl⟩
    · rw [if_pos ((nb_0 mask (by omega)).mpr c), if_neg (fun q => c ((nb_1 mask (by omega)).mp q)), if_neg c]
      exact bid_l h7 hN eN mask d (k + 1) f _ _ (by omega) (by omega)
theorem bidN {x m : St} (h7 : I_bid x m) : ∃ N : Nat, x.1 56 2 = nI N ∧ (N : Int) = (x.1 56 2).toInt ∧ N ≤ 8 := by
  obtain ⟨N, e1, e2⟩ := nv_i h7.2.1 (by omega)
  have := h7.2.1
  exact ⟨N, e1, e2, by omega⟩
abbrev cfr (x : St) (mask : Nat) : Prop := fX1_sharesNoHour (nI mask) x = some (1, x)
abbrev prZ (x : St) (mask : Nat) : Int := prL x mask (x.1 56 2).toInt.toNat 0 0
theorem e_prX {x m : St} (h7 : I_bid x m) (mask : Nat) : fX1_priceOf (nI mask) x = some (iI (prZ x mask), x) := by
  obtain ⟨N, eN, hN, l8⟩ := bidN h7
  have e : (x.1 56 2).toInt.toNat = N := by omega
  unfold prZ; rw [e]
  exact price_x h7 hN eN mask N 0 FU 0 (by omega) (by have := fu_ge; omega)
theorem e_bid {x m : St} (h7 : I_bid x m) (mask : Nat) : ∃ c : Bool, fX1_sharesNoHour (nI mask) x = some (if c = true then 1 else 0, x) ∧ fX12_priceOf (nI mask) m = some (if c = true then iI (prZ x mask) else -1, m) := by
  obtain ⟨N, eN, hN, l8⟩ := bidN h7
  have e : (x.1 56 2).toInt.toNat = N := by omega
  unfold prZ; rw [e]
  exact bid_l h7 hN eN mask N 0 FU 0 0 (by omega) (by have := fu_ge; omega)
theorem e_prM {x m : St} (h7 : I_bid x m) {mask : Nat} (h : cfr x mask) : fX12_priceOf (nI mask) m = some (iI (prZ x mask), m) := by
  obtain ⟨c, s1, s2⟩ := e_bid h7 mask
  unfold cfr at h
  rw [h] at s1
  cases c
  · exact absurd s1 (by simp)
  · rw [s2, if_pos rfl]
theorem prZ_rg {x m : St} (h7 : I_bid x m) (mask : Nat) : 0 ≤ prZ x mask ∧ prZ x mask ≤ 80000 := by
  obtain ⟨N, eN, hN, l8⟩ := bidN h7
  have e : (x.1 56 2).toInt.toNat = N := by omega
  unfold prZ; rw [e]
  have := prL_rg h7 hN mask N 0 0 (by omega)
  omega
theorem win_l {x m : St} (h7 : I_bid x m) {N : Nat} (eN : x.1 56 2 = nI N) (l8 : N ≤ 8) (lf : Nat) : ∀ (d k f fd : Nat), k + d = 2 ^ N → d < f → fd < 2 ^ N → cfr x fd → ∃ r, r < 2 ^ N ∧ cfr x r ∧ fX1_winners_L4 (nI lf) f (nI fd) (nI k) x = some (nI r, x) ∧ fX12_bestBids_L4 (nI lf) f (nI fd) (nI k) m = some (nI r, m)
  | 0, k, f + 1, fd, hk, _, hd, hc => by
    have p8 : 2 ^ N ≤ 2 ^ 8 := Nat.pow_le_pow_right (by omega) l8
    refine ⟨fd, hd, hc, ?_, ?_⟩
    · show fX1_winners_L4_st (nI lf) (fX1_winners_L4 (nI lf) f) (nI fd) (nI k) x = _
      unfold fX1_winners_L4_st
      rw [eN, nb_shl N (by omega), if_pos ((nv_l (by omega) (by omega)).mpr (by omega))]
    · show fX12_bestBids_L4_st (nI lf) (fX12_bestBids_L4 (nI lf) f) (nI fd) (nI k) m = _
      unfold fX12_bestBids_L4_st
      rw [h7.1, eN, nb_shl N (by omega), if_pos ((nv_l (by omega) (by omega)).mpr (by omega))]
  | d + 1, k, f + 1, fd, hk, hf, hd, hc => by
    have p8 : 2 ^ N ≤ 2 ^ 8 := Nat.pow_le_pow_right (by omega) l8
    have nle : ¬ nI (2 ^ N) ≤ nI k := fun q => by rw [nv_l (by omega) (by omega)] at q; omega
    show ∃ r, r < 2 ^ N ∧ cfr x r ∧ fX1_winners_L4_st (nI lf) (fX1_winners_L4 (nI lf) f) (nI fd) (nI k) x = _ ∧ fX12_bestBids_L4_st (nI lf) (fX12_bestBids_L4 (nI lf) f) (nI fd) (nI k) m = _
    unfold fX1_winners_L4_st fX12_bestBids_L4_st
    rw [h7.1, eN, nb_shl N (by omega), if_neg nle, if_neg nle]
    simp only [jn_eq]
    rw [nv_p1]
    have ihA := win_l h7 eN l8 lf d (k + 1) f fd (by omega) (by omega) hd hc
    by_cases q : nI k &&& nI lf = 0
    · rw [if_pos q, if_pos q]
      obtain ⟨c, s1, s2⟩ := e_bid h7 k
      rw [s1, s2, bnd_some, bnd_some, e_prM h7 hc, bnd_some]
      have rf := prZ_rg h7 fd
      cases c
      · have e : (if (false = true) then iI (prZ x k) else -1) - iI (prZ x fd) = iI (-1 - prZ x fd) := by
          rw [if_neg (by decide), show (-1 : Int32) = iI (-1) from rfl, iI_sub]
        have g1 : ¬ 0 < iI (-1 - prZ x fd) := fun q => by rw [show (0 : Int32) = iI 0 from rfl, iI_lt (by omega) (by omega)] at q; omega
        have g2 : ¬ iI (-1 - prZ x fd) = 0 := fun q => by rw [show (0 : Int32) = iI 0 from rfl, iI_eq (by omega) (by omega)] at q; omega
        rw [if_pos (by decide), e, if_neg g1, if_neg g2]
        exact ihA
      · have hk' : cfr x k := by unfold cfr; rw [s1, if_pos rfl]
        have ihB := win_l h7 eN l8 lf d (k + 1) f k (by omega) (by omega) (by omega) hk'
        rw [if_neg (by decide), e_prX h7 k, bnd_some, e_prX h7 fd, bnd_some, lt_eq, if_pos rfl]
        generalize iI (prZ x k) - iI (prZ x fd) = D
        simp only [e_bc (x := k) (by omega), e_bc (x := fd) (by omega), e_ones (x := k) (by omega), e_ones (x := fd) (by omega), bnd_some]
        by_cases g1 : 0 < D
        · rw [if_pos g1, if_pos g1]; exact ihB
        · rw [if_neg g1, if_neg g1]
          by_cases g2 : D = 0
          · rw [if_pos g2, if_pos g2]
            by_cases g3 : nI (pcn fd) ≤ nI (pcn k)
            · rw [if_pos g3, if_pos g3]; exact ihA
            · rw [if_neg g3, if_neg g3]; exact ihB
          · rw [if_neg g2, if_neg g2]; exact ihA
    · rw [if_neg q, if_neg q, if_neg (by decide), if_neg (by decide)]; exact ihA
theorem cfr_0 {x m : St} (h7 : I_bid x m) : cfr x 0 := by
  obtain ⟨N, eN, hN, l8⟩ := bidN h7
  have go : ∀ (d k f : Nat), k + d = N → d < f → fX1_sharesNoHour_L4 (nI 0) f 0 (nI k) x = some (1, x) := by
    intro d
    induction d with
    | zero =>
      intro k f hk hf
      obtain ⟨g, rfl⟩ : ∃ g, f = g + 1 := ⟨f - 1, by omega⟩
      show fX1_sharesNoHour_L4_st (nI 0) (fX1_sharesNoHour_L4 (nI 0) g) 0 (nI k) x = _
      unfold fX1_sharesNoHour_L4_st
      rw [eN, if_pos ((nv_l (by omega) (by omega)).mpr (by omega))]
    | succ d ih =>
      intro k f hk hf
      obtain ⟨g, rfl⟩ : ∃ g, f = g + 1 := ⟨f - 1, by omega⟩
      show fX1_sharesNoHour_L4_st (nI 0) (fX1_sharesNoHour_L4 (nI 0) g) 0 (nI k) x = _
      unfold fX1_sharesNoHour_L4_st
      rw [eN, if_neg (fun q => by rw [nv_l (by omega) (by omega)] at q; omega), jn_eq, nv_p1, if_pos ((nb_0 0 (by omega)).mpr (by simp))]
      exact ih (k + 1) g (by omega) (by omega)
  exact go N 0 FU (by omega) (by have := fu_ge; omega)
theorem e_win {x m : St} (h7 : I_bid x m) (lf : Nat) : ∃ r, r < 256 ∧ cfr x r ∧ fX1_winners (nI lf) x = some (nI r, x) ∧ fX12_bestBids (nI lf) m = some (nI r, m) := by
  obtain ⟨N, eN, hN, l8⟩ := bidN h7
  have p8 : 2 ^ N ≤ 2 ^ 8 := Nat.pow_le_pow_right (by omega) l8
  have p0 : 0 < 2 ^ N := Nat.pow_pos (by omega)
  obtain ⟨r, r1, r2, r3, r4⟩ := win_l h7 eN l8 lf (2 ^ N - 1) 1 FU 0 (by omega) (by have := fu_ge; omega) p0 (cfr_0 h7)
  exact ⟨r, by omega, r2, r3, r4⟩
theorem pr_28 (n : Nat) (x m : St) (_ : n < 512) (h : Inv n x m) : ∃ (v : Int32) (x' m' : St), fX11_won x = some (v, x') ∧ fX12_won m = some (v, m') ∧ Inv (n + 1) x' m' := by
  obtain ⟨h1, h2, h3, h4, h5, h6, h7, h8, h9, h10, h11⟩ := id h
  have hu := Inv_up n x m h
  obtain ⟨r, -, -, r3, r4⟩ := e_win h7 0
  unfold fX11_won fX12_won
  rw [show (0 : Int32) = nI 0 from rfl, r3, r4, bnd_some, bnd_some]
  exact ⟨_, _, _, rfl, rfl, hu⟩
theorem pr_29 (n : Nat) (x m : St) (a1 : Int32) (_ : n < 512) (h : Inv n x m) : ∃ (v : Int32) (x' m' : St), fX11_pays a1 x = some (v, x') ∧ fX12_pays a1 m = some (v, m') ∧ Inv (n + 1) x' m' := by
  obtain ⟨h1, h2, h3, h4, h5, h6, h7, h8, h9, h10, h11⟩ := id h
  have hu := Inv_up n x m h
  obtain ⟨N, eN, hN, l8⟩ := bidN h7
  have r := h7.2.1
  have e1 : (x.1 56 2 - 1).toInt = (x.1 56 2).toInt - 1 := by rw [subI] <;> rw [l32_1] <;> omega
  unfold fX11_pays fX12_pays fX1_dueOf
  rw [e_within, e_in, h7.1, bnd_some, bnd_some, bi_ite, bi_ite, t64, t64, e1, l32_0, l64_0]
  by_cases c1 : 0 ≤ a1.toInt ∧ a1.toInt ≤ (x.1 56 2).toInt - 1
  · obtain ⟨i, rfl, ei⟩ := nv_i c1 (by omega)
    obtain ⟨f1, f2, f3, f4⟩ := h7.2.2 i (by omega) (by omega)
    obtain ⟨r0, r1, r2, r3, r4⟩ := e_win h7 0
    have r3' : fX1_winners 0 x = some (nI r0, x) := r3
    have r4' : fX12_bestBids 0 m = some (nI r0, m) := r4
    obtain ⟨s0, s1, s2, s3, s4⟩ := e_win h7 (2 ^ i)
    rw [if_pos c1, if_pos c1, r3', r4', bnd_some, bnd_some, nb_shl i (by omega)]
    by_cases b : r0.testBit i = true
    · have ec : nI r0 &&& (nI (2 ^ i) ^^^ (-1)) = nI (r0 ^^^ 2 ^ i) := nx_clr (fun j hj => by
        rw [Nat.testBit_two_pow] at hj
        rw [← of_decide_eq_true hj]; exact b)
      have ep : prZ x (r0 ^^^ 2 ^ i) = prZ x r0 - (x.1 58 i).toInt := by
        unfold prZ; rw [prL_clr x b, if_pos (by omega)]
      have e9 : iI (prZ x r0 - (x.1 58 i).toInt) = iI (prZ x r0) - x.1 58 i := by rw [← iI_sub, ← iI_of]
      rw [if_neg (fun q => (nb_0 r0 (by omega)).mp q b), if_neg (fun q => (nb_0 r0 (by omega)).mp q b), s3, s4, bnd_some, bnd_some, e_prX h7 s0, bnd_some, ec, e_prX h7, bnd_some, bnd_some, e_prM h7 s2, bnd_some, e_prM h7 r2, bnd_some, if_pos (nv_ib (by omega) (by omega)), nv_nt (by omega), f2, ep, e9]
      exact ⟨_, _, _, rfl, rfl, hu⟩
    · rw [if_pos ((nb_0 r0 (by omega)).mpr b), if_pos ((nb_0 r0 (by omega)).mpr b), bnd_some]
      exact ⟨_, _, _, rfl, rfl, hu⟩
  · rw [if_neg c1, if_neg c1]; exact ⟨_, _, _, rfl, rfl, hu⟩
