/-! ===== sets of bits spread over those of a kind ===== -/
theorem bs_add (B : Nat → Bool) (t : Nat) : bs B (t + 1) = bs B t + (if B t = true then 2 ^ t else 0) := by
  show bs B t ||| _ = _
  by_cases c : B t = true
  · have := Nat.two_pow_add_eq_or_of_lt (bs_lt B t) 1
    rw [if_pos c, Nat.or_comm]
    rw [Nat.mul_one] at this
    rw [← this, Nat.add_comm]
  · rw [if_neg c, Nat.or_zero, Nat.add_zero]
theorem bs_t {B : Nat → Bool} {t : Nat} (h : B t = true) : bs B (t + 1) = bs B t + 2 ^ t := by rw [bs_add, if_pos h]
theorem bs_f {B : Nat → Bool} {t : Nat} (h : ¬ B t = true) : bs B (t + 1) = bs B t := by rw [bs_add, if_neg h, Nat.add_zero]
theorem pcn_bs (B : Nat → Bool) : ∀ n, n ≤ 31 → pcn (bs B n) = rk B n
  | 0, _ => pcn_0
  | n + 1, h => by
    have ih := pcn_bs B n (by omega)
    by_cases c : B n = true
    · rw [bs_t c, rk_t c, pcn_add (bs_lt B n) (by omega), ih]
    · rw [bs_f c, rk_f c, ih]
/-- the set whose k-th ones are the ones of the mask -/
abbrev upZ' (R : Nat → Bool) (mask : Nat) (n : Nat) : Nat := bs (fun j => R j && mask.testBit (rk R j)) n
theorem rk_up (R : Nat → Bool) (mask : Nat) : ∀ n, rk (fun j => R j && mask.testBit (rk R j)) n = rk (fun k => mask.testBit k) (rk R n)
  | 0 => rfl
  | n + 1 => by
    have ih := rk_up R mask n
    by_cases c : R n = true
    · rw [rk_t c]
      by_cases b : mask.testBit (rk R n) = true
      · rw [rk_t (R := fun j => R j && mask.testBit (rk R j)) (by show (R n && mask.testBit (rk R n)) = true; rw [c, b]; rfl), rk_t (R := fun k => mask.testBit k) b, ih]
      · rw [rk_f (R := fun j => R j && mask.testBit (rk R j)) (by show ¬ (R n && mask.testBit (rk R n)) = true; rw [c, Bool.true_and]; exact b), rk_f (R := fun k => mask.testBit k) b, ih]
    · rw [rk_f c, rk_f (R := fun j => R j && mask.testBit (rk R j)) (by show ¬ (R n && mask.testBit (rk R n)) = true; intro q; rw [Bool.and_eq_true] at q; exact c q.1), ih]
theorem pcn_up (R : Nat → Bool) {mask n : Nat} (hn : n ≤ 31) (hm : mask < 2 ^ rk R n) : pcn (upZ' R mask n) = pcn mask := by
  have l := rk_le R n
  rw [pcn_bs _ n hn, rk_up, rk_bit _ _ (by omega), Nat.mod_eq_of_lt hm]
theorem up_t {R : Nat → Bool} {t : Nat} (h : R t = true) (mask : Nat) : upZ' R mask (t + 1) = upZ' R mask t + (if mask.testBit (rk R t) = true then 2 ^ t else 0) := by
  unfold upZ'
  rw [bs_add]
  show _ + (if (R t && mask.testBit (rk R t)) = true then 2 ^ t else 0) = _
  rw [h, Bool.true_and]
theorem up_f {R : Nat → Bool} {t : Nat} (h : ¬ R t = true) (mask : Nat) : upZ' R mask (t + 1) = upZ' R mask t := bs_f (by show ¬ (R t && mask.testBit (rk R t)) = true; intro q; rw [Bool.and_eq_true] at q; exact h q.1)
theorem up_lt (R : Nat → Bool) (mask n : Nat) : upZ' R mask n < 2 ^ n := bs_lt _ n
theorem up_le (R : Nat → Bool) (mask : Nat) : ∀ n, upZ' R mask n ≤ bs R n
  | 0 => Nat.le_refl _
  | n + 1 => by
    have ih := up_le R mask n
    by_cases c : R n = true
    · rw [up_t c, bs_t c]
      by_cases b : mask.testBit (rk R n) = true
      · rw [if_pos b]; exact Nat.add_le_add_right ih _
      · rw [if_neg b, Nat.add_zero]; exact Nat.le_trans ih (Nat.le_add_right _ _)
    · rw [up_f c, bs_f c]; exact ih
theorem tb_succ (k r : Nat) : (k + 1).testBit r = (k.testBit r ^^ decide (k % 2 ^ r = 2 ^ r - 1)) := by
  have P := Nat.two_pow_pos r
  have dm := Nat.div_add_mod k (2 ^ r)
  have ml := Nat.mod_lt k P
  rw [Nat.testBit_eq_decide_div_mod_eq, Nat.testBit_eq_decide_div_mod_eq]
  by_cases c : k % 2 ^ r = 2 ^ r - 1
  · have e : (k + 1) / 2 ^ r = k / 2 ^ r + 1 := by
      have : k + 1 = 2 ^ r * (k / 2 ^ r + 1) := by rw [Nat.mul_add, Nat.mul_one]; omega
      rw [this, Nat.mul_div_cancel_left _ P]
    rw [e, decide_eq_true c, Bool.xor_true]
    rcases Nat.mod_two_eq_zero_or_one (k / 2 ^ r) with z | z
    · rw [z, show (k / 2 ^ r + 1) % 2 = 1 by omega]; rfl
    · rw [z, show (k / 2 ^ r + 1) % 2 = 0 by omega]; rfl
  · have e : (k + 1) / 2 ^ r = k / 2 ^ r := by
      have : k + 1 = (k % 2 ^ r + 1) + 2 ^ r * (k / 2 ^ r) := by omega
      rw [this, Nat.add_mul_div_left _ _ P, Nat.div_eq_of_lt (by omega), Nat.zero_add]
    rw [e, decide_eq_false c, Bool.xor_false]
theorem mod_s (k r : Nat) : k % 2 ^ (r + 1) = k % 2 ^ r + (if k.testBit r = true then 2 ^ r else 0) := by
  rw [Nat.pow_succ, Nat.mod_mul, Nat.testBit_eq_decide_div_mod_eq]
  rcases Nat.mod_two_eq_zero_or_one (k / 2 ^ r) with z | z
  · rw [z, if_neg (by decide), Nat.mul_zero]
  · rw [z, if_pos (by decide), Nat.mul_one]
theorem up_full (R : Nat → Bool) (k : Nat) : ∀ t, upZ' R k t = bs R t ↔ k % 2 ^ rk R t = 2 ^ rk R t - 1
  | 0 => by show (0 : Nat) = 0 ↔ k % 2 ^ 0 = 2 ^ 0 - 1; rw [Nat.pow_zero, Nat.mod_one]
  | t + 1 => by
    have ih := up_full R k t
    have P := Nat.two_pow_pos (rk R t)
    have ml := Nat.mod_lt k P
    have T := Nat.two_pow_pos t
    have le := up_le R k t
    by_cases c : R t = true
    · rw [up_t c, bs_t c, rk_t c, mod_s, Nat.pow_succ]
      by_cases b : k.testBit (rk R t) = true
      · rw [if_pos b, if_pos b]
        constructor
        · intro q; have := ih.mp (by omega); omega
        · intro q; have := ih.mpr (by omega); omega
      · rw [if_neg b, if_neg b]
        constructor
        · intro q; omega
        · intro q; omega
    · rw [up_f c, bs_f c, rk_f c]; exact ih
theorem up_next (R : Nat → Bool) (k : Nat) : ∀ t, ((upZ' R k t + 2 ^ t - bs R t) % 2 ^ t) &&& bs R t = upZ' R (k + 1) t
  | 0 => by rw [Nat.pow_zero, Nat.mod_one, Nat.zero_and]; rfl
  | t + 1 => by
    have ih := up_next R k t
    have fl := up_full R k t
    have T := Nat.two_pow_pos t
    have uL := up_le R k t
    have uT := up_lt R k t
    have aT := bs_lt R t
    have nT := up_lt R (k + 1) t
    by_cases c : R t = true
    · rw [up_t c, up_t c, bs_t c, tb_succ, Nat.pow_succ]
      have d := Nat.and_div_two_pow (a := (upZ' R k t + (if k.testBit (rk R t) = true then 2 ^ t else 0) + 2 ^ t * 2 - (bs R t + 2 ^ t)) % (2 ^ t * 2)) (b := bs R t + 2 ^ t) (n := t)
      have m := Nat.and_mod_two_pow (a := (upZ' R k t + (if k.testBit (rk R t) = true then 2 ^ t else 0) + 2 ^ t * 2 - (bs R t + 2 ^ t)) % (2 ^ t * 2)) (b := bs R t + 2 ^ t) (n := t)
      have a1 : (bs R t + 2 ^ t) / 2 ^ t = 1 := by rw [Nat.add_div_right _ T, Nat.div_eq_of_lt aT]
      have a2 : (bs R t + 2 ^ t) % 2 ^ t = bs R t := by rw [Nat.add_mod_right, Nat.mod_eq_of_lt aT]
      rw [a1] at d
      rw [a2, Nat.mod_mul_right_mod] at m
      have mm := Nat.div_add_mod (((upZ' R k t + (if k.testBit (rk R t) = true then 2 ^ t else 0) + 2 ^ t * 2 - (bs R t + 2 ^ t)) % (2 ^ t * 2)) &&& (bs R t + 2 ^ t)) (2 ^ t)
      have e0 : (upZ' R k t + (if k.testBit (rk R t) = true then 2 ^ t else 0) + 2 ^ t * 2 - (bs R t + 2 ^ t)) % 2 ^ t = (upZ' R k t + 2 ^ t - bs R t) % 2 ^ t := by
        by_cases b : k.testBit (rk R t) = true
        · rw [if_pos b, show upZ' R k t + 2 ^ t + 2 ^ t * 2 - (bs R t + 2 ^ t) = (upZ' R k t + 2 ^ t - bs R t) + 2 ^ t by omega, Nat.add_mod_right]
        · rw [if_neg b, show upZ' R k t + 0 + 2 ^ t * 2 - (bs R t + 2 ^ t) = upZ' R k t + 2 ^ t - bs R t by omega]
      rw [e0, ih] at m
      rw [← mm, m, d]
      have hi : (upZ' R k t + (if k.testBit (rk R t) = true then 2 ^ t else 0) + 2 ^ t * 2 - (bs R t + 2 ^ t)) % (2 ^ t * 2) / 2 ^ t = (if (k.testBit (rk R t) ^^ decide (k % 2 ^ rk R t = 2 ^ rk R t - 1)) = true then 1 else 0) := by
        by_cases b : k.testBit (rk R t) = true
        · rw [if_pos b, b, Bool.true_xor]
          by_cases q : k % 2 ^ rk R t = 2 ^ rk R t - 1
          · have := fl.mpr q
            rw [decide_eq_true q, if_neg (by decide), this, show bs R t + 2 ^ t + 2 ^ t * 2 - (bs R t + 2 ^ t) = 2 ^ t * 2 by omega, Nat.mod_self, Nat.zero_div]
          · have : ¬ upZ' R k t = bs R t := fun z => q (fl.mp z)
            rw [decide_eq_false q, if_pos (by decide), Nat.mod_eq_of_lt (by omega), show upZ' R k t + 2 ^ t + 2 ^ t * 2 - (bs R t + 2 ^ t) = (2 ^ t - (bs R t - upZ' R k t)) + 2 ^ t by omega, Nat.add_div_right _ T, Nat.div_eq_of_lt (by omega)]
        · rw [if_neg b, show k.testBit (rk R t) = false by cases z : k.testBit (rk R t); rfl; exact absurd z b, Bool.false_xor]
          by_cases q : k % 2 ^ rk R t = 2 ^ rk R t - 1
          · have := fl.mpr q
            rw [decide_eq_true q, if_pos rfl, this, show bs R t + 0 + 2 ^ t * 2 - (bs R t + 2 ^ t) = 2 ^ t by omega, Nat.mod_eq_of_lt (by omega), Nat.div_self T]
          · have : ¬ upZ' R k t = bs R t := fun z => q (fl.mp z)
            rw [decide_eq_false q, if_neg (by decide), show upZ' R k t + 0 + 2 ^ t * 2 - (bs R t + 2 ^ t) = 2 ^ t - (bs R t - upZ' R k t) by omega, Nat.mod_eq_of_lt (by omega), Nat.div_eq_of_lt (by omega)]
      rw [hi]
      by_cases z : (k.testBit (rk R t) ^^ decide (k % 2 ^ rk R t = 2 ^ rk R t - 1)) = true
      · rw [if_pos z, if_pos z, Nat.and_self, Nat.mul_one, Nat.add_comm]
      · rw [if_neg z, if_neg z, Nat.zero_and, Nat.mul_zero, Nat.add_comm]
    · rw [up_f c, up_f c, bs_f c]
      have m := Nat.and_mod_two_pow (a := (upZ' R k t + 2 ^ (t + 1) - bs R t) % 2 ^ (t + 1)) (b := bs R t) (n := t)
      rw [Nat.mod_eq_of_lt aT, Nat.mod_eq_of_lt (Nat.and_lt_two_pow _ aT), Nat.pow_succ, Nat.mod_mul_right_mod, show upZ' R k t + 2 ^ t * 2 - bs R t = (upZ' R k t + 2 ^ t - bs R t) + 2 ^ t by omega, Nat.add_mod_right, ih] at m
      rw [Nat.pow_succ, show upZ' R k t + 2 ^ t * 2 - bs R t = (upZ' R k t + 2 ^ t - bs R t) + 2 ^ t by omega]
      exact m
theorem up_mono (R : Nat → Bool) : ∀ t l k, l % 2 ^ rk R t < k % 2 ^ rk R t → upZ' R l t < upZ' R k t
  | 0, l, k, h => by
    have h' : l % 2 ^ 0 < k % 2 ^ 0 := h
    rw [Nat.pow_zero, Nat.mod_one, Nat.mod_one] at h'; omega
  | t + 1, l, k, h => by
    have ih := up_mono R t l k
    have l1 := up_lt R l t
    have l2 := up_lt R k t
    by_cases c : R t = true
    · rw [rk_t c, mod_s, mod_s] at h
      rw [up_t c, up_t c]
      have m1 := Nat.mod_lt l (Nat.two_pow_pos (rk R t))
      have m2 := Nat.mod_lt k (Nat.two_pow_pos (rk R t))
      by_cases a : l.testBit (rk R t) = true
      · by_cases b : k.testBit (rk R t) = true
        · rw [if_pos a, if_pos b] at h ⊢; have := ih (by omega); omega
        · rw [if_pos a, if_neg b] at h; omega
      · by_cases b : k.testBit (rk R t) = true
        · rw [if_neg a, if_pos b]; omega
        · rw [if_neg a, if_neg b] at h ⊢; have := ih (by omega); omega
    · rw [rk_f c] at h; rw [up_f c, up_f c]; exact ih h
theorem up_next32 (R : Nat → Bool) (k : Nat) {t : Nat} (ht : t ≤ 30) : (nI (upZ' R k t) - nI (bs R t)) &&& nI (bs R t) = nI (upZ' R (k + 1) t) := by
  have uL := up_le R k t
  have aT := bs_lt R t
  have p30 : 2 ^ t ≤ 2 ^ 30 := Nat.pow_le_pow_right (by omega) ht
  have z : nI 4294967296 = 0 := by decide
  have e1 : nI (upZ' R k t) = nI (upZ' R k t + 4294967296) := by rw [← nI_add, z, Int32.add_zero]
  rw [e1, nv_sub (by omega), nx_and, ← up_next R k t]
  congr 1
  have m := Nat.and_mod_two_pow (a := upZ' R k t + 4294967296 - bs R t) (b := bs R t) (n := t)
  rw [Nat.mod_eq_of_lt aT, Nat.mod_eq_of_lt (Nat.and_lt_two_pow _ aT)] at m
  rw [m]
  congr 1
  have p : 4294967296 = 2 ^ t * 2 ^ (32 - t) := by rw [← Nat.pow_add, show t + (32 - t) = 32 by omega]
  have q : 2 ^ (32 - t) = (2 ^ (32 - t) - 1) + 1 := by have := Nat.two_pow_pos (32 - t); omega
  rw [q, Nat.mul_add, Nat.mul_one] at p
  rw [show upZ' R k t + 4294967296 - bs R t = (upZ' R k t + 2 ^ t - bs R t) + 2 ^ t * (2 ^ (32 - t) - 1) by omega, Nat.add_mul_mod_self_left]
