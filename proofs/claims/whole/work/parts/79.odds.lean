/-! ===== words: odds and flow ===== -/
def pw (b : Int64) : Nat → Int64 → Int64
  | 0, acc => acc
  | d + 1, acc => pw b d (acc * b)
theorem pow_x (a0 : Int32) (S : St) {n : Nat} (hn : n < 100) : ∀ (d k f : Nat) (acc : Int64), k + d = n → d < f → fX11_power_L5 a0 (nI n) f acc (nI k) S = some (pw a0.toInt64 d acc, S)
  | 0, k, f + 1, acc, hk, _ => by
    show fX11_power_L5_st a0 (nI n) (fX11_power_L5 a0 (nI n) f) acc (nI k) S = _
    unfold fX11_power_L5_st
    rw [if_pos ((nv_l (by omega) (by omega)).mpr (by omega))]; rfl
  | d + 1, k, f + 1, acc, hk, hf => by
    show fX11_power_L5_st a0 (nI n) (fX11_power_L5 a0 (nI n) f) acc (nI k) S = _
    unfold fX11_power_L5_st
    rw [if_neg (fun q => by rw [nv_l (by omega) (by omega)] at q; omega), lt_eq, nv_p1, pow_x a0 S hn d (k + 1) f _ (by omega) (by omega)]; rfl
theorem pow_m (a0 : Int64) (S : St) {n : Nat} (hn : n < 100) : ∀ (d k f : Nat) (acc : Int64), k + d = n → d < f → fX12_raised_L5 a0 (nI n) f acc (nI k) S = some (pw a0 d acc, S)
  | 0, k, f + 1, acc, hk, _ => by
    show fX12_raised_L5_st a0 (nI n) (fX12_raised_L5 a0 (nI n) f) acc (nI k) S = _
    unfold fX12_raised_L5_st
    rw [if_pos ((nv_l (by omega) (by omega)).mpr (by omega))]; rfl
  | d + 1, k, f + 1, acc, hk, hf => by
    show fX12_raised_L5_st a0 (nI n) (fX12_raised_L5 a0 (nI n) f) acc (nI k) S = _
    unfold fX12_raised_L5_st
    rw [if_neg (fun q => by rw [nv_l (by omega) (by omega)] at q; omega), lt_eq, nv_p1, pow_m a0 S hn d (k + 1) f _ (by omega) (by omega)]; rfl
theorem e_power (a0 : Int32) {n : Nat} (hn : n < 100) (S : St) : fX11_power a0 (nI n) S = some (pw a0.toInt64 n 1, S) := pow_x a0 S hn n 0 FU 1 (by omega) (by have := fu_ge; omega)
theorem e_raised (a0 : Int64) {n : Nat} (hn : n < 100) (S : St) : fX12_raised a0 (nI n) S = some (pw a0 n 1, S) := pow_m a0 S hn n 0 FU 1 (by omega) (by have := fu_ge; omega)
/-- n over k -/
def ov (n : Nat) : Nat → Int64
  | 0 => 1
  | k + 1 => ov n k * (nI n - nI k).toInt64 / (nI k + 1).toInt64
theorem kn0 : ∀ k, k < 20 → ¬ (nI k + 1).toInt64 = 0 := by decide +kernel
theorem over_l (S : St) {n K : Nat} (hK : K < 20) : ∀ (d k f : Nat), k + d = K → d < f → fX12_over_L5 (nI n) (nI K) f (ov n k) (nI k) S = some (ov n K, S)
  | 0, k, f + 1, hk, _ => by
    show fX12_over_L5_st (nI n) (nI K) (fX12_over_L5 (nI n) (nI K) f) (ov n k) (nI k) S = _
    unfold fX12_over_L5_st
    rw [if_pos ((nv_l (by omega) (by omega)).mpr (by omega)), show k = K by omega]
  | d + 1, k, f + 1, hk, hf => by
    show fX12_over_L5_st (nI n) (nI K) (fX12_over_L5 (nI n) (nI K) f) (ov n k) (nI k) S = _
    unfold fX12_over_L5_st
    rw [if_neg (fun q => by rw [nv_l (by omega) (by omega)] at q; omega), if_pos (kn0 k (by omega)), lt_eq]
    have := over_l S (n := n) hK d (k + 1) f (by omega) (by omega)
    rw [nv_p1 k]
    rw [← nv_p1 k]
    rw [← nv_p1 k] at this
    exact this
theorem e_over {n K : Nat} (hK : K < 20) (S : St) : fX12_over (nI n) (nI K) S = some (ov n K, S) := over_l S hK K 0 FU (by omega) (by have := fu_ge; omega)
/-- a sum of terms -/
def sm (T : Nat → Int64) : Nat → Nat → Int64 → Int64
  | _, 0, acc => acc
  | k, d + 1, acc => sm T (k + 1) d (acc + T k)
def tw (n : Nat) (p q : Int64) (k : Nat) : Int64 := ov n k * pw p k 1 * pw q (n - k) 1
theorem chance_x (kx : Int64 → St → Option (Int32 × St)) (p : Int32) (S : St) {n t : Nat} (hn : n < 20) (ht : t ≤ n) : ∀ (d k f : Nat) (acc : Int64), k + d = t + 1 → d < f → fX11_chanceOfAtMost_L8 kx (nI t) (nI n) p f acc (ov n k) (nI k) S = kx (sm (tw n p.toInt64 (100 - p).toInt64) k d acc) S
  | 0, k, f + 1, acc, hk, _ => by
    show fX11_chanceOfAtMost_L8_st kx (nI t) (nI n) p (fX11_chanceOfAtMost_L8 kx (nI t) (nI n) p f) acc (ov n k) (nI k) S = _
    unfold fX11_chanceOfAtMost_L8_st
    rw [if_pos ((nv_s (by omega) (by omega)).mpr (by omega))]; rfl
  | d + 1, k, f + 1, acc, hk, hf => by
    show fX11_chanceOfAtMost_L8_st kx (nI t) (nI n) p (fX11_chanceOfAtMost_L8 kx (nI t) (nI n) p f) acc (ov n k) (nI k) S = _
    unfold fX11_chanceOfAtMost_L8_st
    rw [if_neg (fun q => by rw [nv_s (by omega) (by omega)] at q; omega), e_power p (by omega), bnd_some, nv_sub (by omega), e_power _ (by omega), bnd_some, lt_eq, if_pos (kn0 k (by omega)), lt_eq]
    have := chance_x kx p S hn ht d (k + 1) f (acc + tw n p.toInt64 (100 - p).toInt64 k) (by omega) (by omega)
    have e : ov n (k + 1) = ov n k * (nI (n - k)).toInt64 / (nI k + 1).toInt64 := by rw [← nv_sub (by omega)]; rfl
    rw [e, ← nv_p1 k] at this
    exact this
theorem chance_m (kx : Int64 → St → Option (Int32 × St)) (p : Int32) (S : St) {n t : Nat} (hn : n < 20) (ht : t ≤ n) : ∀ (d k f : Nat) (acc : Int64), k + d = t + 1 → d < f → fX12_millionths_L6 kx (nI n) (nI t) p f acc (nI k) S = kx (sm (tw n p.toInt64 (100 - p).toInt64) k d acc) S
  | 0, k, f + 1, acc, hk, _ => by
    show fX12_millionths_L6_st kx (nI n) (nI t) p (fX12_millionths_L6 kx (nI n) (nI t) p f) acc (nI k) S = _
    unfold fX12_millionths_L6_st
    rw [if_pos ((nv_s (by omega) (by omega)).mpr (by omega))]; rfl
  | d + 1, k, f + 1, acc, hk, hf => by
    show fX12_millionths_L6_st kx (nI n) (nI t) p (fX12_millionths_L6 kx (nI n) (nI t) p f) acc (nI k) S = _
    unfold fX12_millionths_L6_st
    rw [if_neg (fun q => by rw [nv_s (by omega) (by omega)] at q; omega), e_over (by omega), bnd_some, e_raised _ (by omega), bnd_some, nv_sub (by omega), e_raised _ (by omega), bnd_some, lt_eq, nv_p1]
    exact chance_m kx p S hn ht d (k + 1) f (acc + tw n p.toInt64 (100 - p).toInt64 k) (by omega) (by omega)
/-- millionths out of the sum -/
def mil (n : Nat) (v : Int64) : Int32 := if n ≤ 3 then (v * pw 100 (3 - n) 1).toInt32 else (v / pw 100 (n - 3) 1).toInt32
theorem pw100 : ∀ n, n < 9 → ¬ pw 100 (n - 3) 1 = 0 := by decide +kernel
theorem e_chance (p : Int32) (S : St) {n t : Nat} (h1 : 1 ≤ n) (hn : n ≤ 8) (ht : t ≤ n) : fX11_chanceOfAtMost (nI t) (nI n) p S = some (mil n (sm (tw n p.toInt64 (100 - p).toInt64) 0 (t + 1) 0), S) := by
  unfold fX11_chanceOfAtMost
  have := chance_x (fun (v1 : Int64) (S2 : St) => jn (fun (v3 : Int64) (S4 : St) => some (v3.toInt32, S4)) (fun k5 => if 3 < nI n then (bnd (fX11_power 100 (nI n - 3) S2) (fun v7 S8 => if ¬ v7 = 0 then (k5 (v1 / v7) S8) else none)) else (bnd (fX11_power 100 (3 - nI n) S2) (fun v10 S11 => k5 (v1 * v10) S11)))) p S (n := n) (t := t) (by omega) ht (t + 1) 0 FU 0 (by omega) (by have := fu_ge; omega)
  refine this.trans ?_
  generalize sm (tw n p.toInt64 (100 - p).toInt64) 0 (t + 1) 0 = v
  rw [jn_eq]
  unfold mil
  have h100 : (100 : Int32).toInt64 = 100 := by decide
  by_cases c : n ≤ 3
  · rw [if_neg (fun q => by rw [show (3 : Int32) = nI 3 from rfl, nv_s (by omega) (by omega)] at q; omega), if_pos c, show (3 : Int32) = nI 3 from rfl, nv_sub c, e_power 100 (by omega), bnd_some, h100]
  · rw [if_pos (show (3 : Int32) < nI n from (nv_s (a := 3) (by omega) (by omega)).mpr (by omega)), if_neg c, show (3 : Int32) = nI 3 from rfl, nv_sub (by omega), e_power 100 (by omega), bnd_some, h100, if_pos (pw100 n (by omega))]
theorem e_mil (p : Int32) (S : St) {n t r : Nat} (h1 : 1 ≤ n) (hn : n ≤ 8) (ht : t ≤ n) (hr : r ≤ t) : fX12_millionths (nI n) (nI r) (nI t) p S = some (mil n (sm (tw n p.toInt64 (100 - p).toInt64) r (t + 1 - r) 0), S) := by
  unfold fX12_millionths
  have := chance_m (fun (v1 : Int64) (S2 : St) => jn (fun (v3 : Int64) (S4 : St) => some (v3.toInt32, S4)) (fun k5 => if 3 ≤ nI n then (bnd (fX12_raised 100 (nI n - 3) S2) (fun v7 S8 => if ¬ v7 = 0 then (k5 (v1 / v7) S8) else none)) else (bnd (fX12_raised 100 (3 - nI n) S2) (fun v10 S11 => k5 (v1 * v10) S11)))) p S (n := n) (t := t) (by omega) ht (t + 1 - r) r FU 0 (by omega) (by have := fu_ge; omega)
  refine this.trans ?_
  generalize sm (tw n p.toInt64 (100 - p).toInt64) r (t + 1 - r) 0 = v
  rw [jn_eq]
  unfold mil
  by_cases c : 3 ≤ n
  · rw [if_pos (show (3 : Int32) ≤ nI n from (nv_l (a := 3) (by omega) (by omega)).mpr c), show (3 : Int32) = nI 3 from rfl, nv_sub (by omega), e_raised 100 (by omega), bnd_some, if_pos (pw100 n (by omega))]
    by_cases c3 : n ≤ 3
    · have : n = 3 := by omega
      subst this
      rw [if_pos c3, show pw 100 (3 - 3) 1 = 1 from rfl, Int64.mul_one, show v / 1 = v by simp]
    · rw [if_neg c3]
  · rw [if_neg (fun q => by rw [show (3 : Int32) = nI 3 from rfl, nv_l (by omega) (by omega)] at q; omega), if_pos (by omega), show (3 : Int32) = nI 3 from rfl, nv_sub (by omega), e_raised 100 (by omega), bnd_some]
theorem nv_i {a : Int32} {lo hi : Int} (h : lo ≤ a.toInt ∧ a.toInt ≤ hi) (h0 : 0 ≤ lo) : ∃ n : Nat, a = nI n ∧ (n : Int) = a.toInt := by
  refine ⟨a.toInt.toNat, ?_, by omega⟩
  rw [iI_nat, show ((a.toInt.toNat : Nat) : Int) = a.toInt by omega]
  exact iI_of a
theorem pr_19 (n : Nat) (x m : St) (a1 a2 a3 : Int32) (_ : n < 512) (h : Inv n x m) : ∃ (v : Int32) (x' m' : St), fX11_odds a1 a2 a3 x = some (v, x') ∧ fX12_odds a1 a2 a3 m = some (v, m') ∧ Inv (n + 1) x' m' := by
  have hu := Inv_up n x m h
  unfold fX11_odds fX12_odds fX12_isWord
  simp only [e_within, e_in, bnd_some, bi_ite, t64, l32_0, l32_1, l32_2, l32_3, l32_4, l32_5, l32_6, l32_7, l32_8, l32_9, l32_10, l32_11, l32_12, l32_20, l32_25, l32_30, l32_32, l32_50, l32_63, l32_99, l32_100, l32_120, l32_200, l32_255, l32_256, l32_400, l32_500, l32_1000, l32_2400, l32_4095, l32_10000, l32_1000000, l32_100000000, l32_m1, l32_m2, l32_m3, l32_m4, l64_0, l64_1, l64_2, l64_3, l64_4, l64_5, l64_6, l64_7, l64_8, l64_9, l64_10, l64_11, l64_12, l64_20, l64_25, l64_30, l64_32, l64_50, l64_63, l64_99, l64_100, l64_120, l64_200, l64_255, l64_256, l64_400, l64_500, l64_1000, l64_2400, l64_4095, l64_10000, l64_1000000, l64_100000000, l64_m1, l64_m2, l64_m3, l64_m4]
  by_cases c1 : 1 ≤ a1.toInt ∧ a1.toInt ≤ 8
  · rw [if_pos c1, if_pos c1]
    by_cases c2 : 0 ≤ a2.toInt ∧ a2.toInt ≤ a1.toInt
    · rw [if_pos c2, if_pos c2]
      by_cases c3 : 0 ≤ a3.toInt ∧ a3.toInt ≤ 100
      · obtain ⟨k1, rfl, e1⟩ := nv_i c1 (by omega)
        obtain ⟨k2, rfl, e2⟩ := nv_i c2 (by omega)
        rw [if_pos c3, if_pos c3, bnd_some, if_neg (by decide), e_chance a3 x (by omega) (by omega) (by omega), show (0 : Int32) = nI 0 from rfl, e_mil a3 m (by omega) (by omega) (by omega) (by omega), bnd_some, bnd_some]
        exact ⟨_, _, _, rfl, rfl, hu⟩
      · rw [if_neg c3, if_neg c3, bnd_some, if_pos rfl]; exact ⟨_, _, _, rfl, rfl, hu⟩
    · rw [if_neg c2, if_neg c2, bnd_some, if_pos rfl]; exact ⟨_, _, _, rfl, rfl, hu⟩
  · rw [if_neg c1, if_neg c1, bnd_some, if_pos rfl]; exact ⟨_, _, _, rfl, rfl, hu⟩
theorem sm_a (T : Nat → Int64) : ∀ (d k : Nat) (acc b : Int64), sm T k d (acc + b) = sm T k d acc + b
  | 0, _, _, _ => rfl
  | d + 1, k, acc, b => by
    show sm T (k + 1) d (acc + b + T k) = sm T (k + 1) d (acc + T k) + b
    rw [Int64.add_assoc, Int64.add_comm b, ← Int64.add_assoc, sm_a T d (k + 1) _ b]
theorem sm_e (T : Nat → Int64) : ∀ (d k : Nat) (acc : Int64), sm T k (d + 1) acc = sm T k d acc + T (k + d)
  | 0, _, _ => rfl
  | d + 1, k, acc => by
    show sm T (k + 1) (d + 1) (acc + T k) = sm T (k + 1) d (acc + T k) + T (k + (d + 1))
    rw [sm_e T d (k + 1) _, show k + 1 + d = k + (d + 1) by omega]
theorem sm_rev (T U : Nat → Int64) (n : Nat) (hT : ∀ j, j ≤ n → T j = U (n - j)) : ∀ (d : Nat) (acc : Int64), d ≤ n + 1 → sm T 0 d acc = sm U (n + 1 - d) d acc
  | 0, _, _ => rfl
  | d + 1, acc, hd => by
    rw [sm_e, sm_rev T U n hT d acc (by omega), show n + 1 - (d + 1) = n - d by omega]
    show _ = sm U (n - d + 1) d (acc + U (n - d))
    rw [sm_a, show n - d + 1 = n + 1 - d by omega, Nat.zero_add, hT d (by omega)]
theorem ov_s : ∀ n, n < 9 → ∀ k, k ≤ n → ov n (n - k) = ov n k := by decide +kernel
theorem tw_s {n : Nat} (hn : n ≤ 8) (p q : Int64) {j : Nat} (hj : j ≤ n) : tw n p q j = tw n q p (n - j) := by
  unfold tw
  rw [ov_s n (by omega) j hj, show n - (n - j) = j by omega, Int64.mul_assoc, Int64.mul_comm (pw p j 1), ← Int64.mul_assoc]
theorem pr_20 (n : Nat) (x m : St) (a1 a2 a3 a4 a5 : Int32) (_ : n < 512) (h : Inv n x m) : ∃ (v : Int32) (x' m' : St), fX11_flow a1 a2 a3 a4 a5 x = some (v, x') ∧ fX12_flow a1 a2 a3 a4 a5 m = some (v, m') ∧ Inv (n + 1) x' m' := by
  have hu := Inv_up n x m h
  unfold fX11_flow fX12_flow fX12_isWord
  simp only [e_within, e_in, bnd_some, bi_ite, t64, l32_0, l32_1, l32_2, l32_3, l32_4, l32_5, l32_6, l32_7, l32_8, l32_9, l32_10, l32_11, l32_12, l32_20, l32_25, l32_30, l32_32, l32_50, l32_63, l32_99, l32_100, l32_120, l32_200, l32_255, l32_256, l32_400, l32_500, l32_1000, l32_2400, l32_4095, l32_10000, l32_1000000, l32_100000000, l32_m1, l32_m2, l32_m3, l32_m4, l64_0, l64_1, l64_2, l64_3, l64_4, l64_5, l64_6, l64_7, l64_8, l64_9, l64_10, l64_11, l64_12, l64_20, l64_25, l64_30, l64_32, l64_50, l64_63, l64_99, l64_100, l64_120, l64_200, l64_255, l64_256, l64_400, l64_500, l64_1000, l64_2400, l64_4095, l64_10000, l64_1000000, l64_100000000, l64_m1, l64_m2, l64_m3, l64_m4]
  by_cases c1 : 1 ≤ a1.toInt ∧ a1.toInt ≤ 8
  · rw [if_pos c1, if_pos c1]
    by_cases c2 : 0 ≤ a2.toInt ∧ a2.toInt ≤ a1.toInt
    · rw [if_pos c2, if_pos c2]
      by_cases c3 : 0 ≤ a3.toInt ∧ a3.toInt ≤ 100
      · rw [if_pos c3, if_pos c3, bnd_some, if_neg (show ¬ (1 : Int32) = 0 by decide)]
        by_cases c4 : 1 ≤ a4.toInt ∧ a4.toInt ≤ 8
        · rw [if_pos c4, if_pos c4]
          by_cases c5 : 0 ≤ a5.toInt ∧ a5.toInt ≤ a4.toInt
          · obtain ⟨k1, rfl, e1⟩ := nv_i c1 (by omega)
            obtain ⟨k2, rfl, e2⟩ := nv_i c2 (by omega)
            obtain ⟨k4, rfl, e4⟩ := nv_i c4 (by omega)
            obtain ⟨k5, rfl, e5⟩ := nv_i c5 (by omega)
            rw [if_pos c5, if_pos c5, e_chance a3 x (by omega) (by omega) (by omega), show (0 : Int32) = nI 0 from rfl, e_mil a3 m (by omega) (by omega) (by omega) (by omega), bnd_some, bnd_some, lt_eq, Nat.sub_zero, nv_sub (by omega)]
            generalize mil k1 (sm (tw k1 a3.toInt64 (100 - a3).toInt64) 0 (k2 + 1) 0) / 10000 = q
            rw [e_chance (100 - q) x (by omega) (by omega) (by omega), e_mil q m (by omega) (by omega) (by omega) (by omega), bnd_some, bnd_some]
            have eq1 : (100 : Int32) - (100 - q) = q := by
              rw [iI_of q, show (100 : Int32) = iI 100 from rfl, iI_sub, iI_sub]; congr 1; omega
            have r := sm_rev (tw k4 (100 - q).toInt64 q.toInt64) (tw k4 q.toInt64 (100 - q).toInt64) k4 (fun j hj => tw_s (by omega) _ _ hj) (k4 - k5 + 1) 0 (by omega)
            rw [eq1, r, show k4 + 1 - (k4 - k5 + 1) = k5 by omega, show k4 + 1 - k5 = k4 - k5 + 1 by omega]
            exact ⟨_, _, _, rfl, rfl, hu⟩
          · rw [if_neg c5, if_neg c5]; exact ⟨_, _, _, rfl, rfl, hu⟩
        · rw [if_neg c4, if_neg c4]; exact ⟨_, _, _, rfl, rfl, hu⟩
      · rw [if_neg c3, if_neg c3, bnd_some, if_pos rfl]; exact ⟨_, _, _, rfl, rfl, hu⟩
    · rw [if_neg c2, if_neg c2, bnd_some, if_pos rfl]; exact ⟨_, _, _, rfl, rfl, hu⟩
  · rw [if_neg c1, if_neg c1, bnd_some, if_pos rfl]; exact ⟨_, _, _, rfl, rfl, hu⟩
