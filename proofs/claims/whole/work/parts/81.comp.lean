/-! ===== those of a kind, counted from the least: rank, sums, sets of bits ===== -/
def rk (R : Nat → Bool) : Nat → Nat
  | 0 => 0
  | t + 1 => rk R t + (if R t = true then 1 else 0)
theorem rk_t {R : Nat → Bool} {t : Nat} (h : R t = true) : rk R (t + 1) = rk R t + 1 := by show rk R t + _ = _; rw [if_pos h]
theorem rk_f {R : Nat → Bool} {t : Nat} (h : ¬ R t = true) : rk R (t + 1) = rk R t := by show rk R t + _ = _; rw [if_neg h]; rfl
theorem rk_le (R : Nat → Bool) : ∀ t, rk R t ≤ t
  | 0 => Nat.le_refl _
  | t + 1 => by
    have := rk_le R t
    by_cases c : R t = true
    · rw [rk_t c]; omega
    · rw [rk_f c]; omega
theorem rk_mono (R : Nat → Bool) (t : Nat) : ∀ d, rk R t ≤ rk R (t + d)
  | 0 => Nat.le_refl _
  | d + 1 => by
    have := rk_mono R t d
    show rk R t ≤ rk R (t + d) + _
    omega
theorem rk_lt {R : Nat → Bool} {j n : Nat} (h : R j = true) (hj : j < n) : rk R j < rk R n := by
  have := rk_mono R (j + 1) (n - (j + 1))
  rw [show j + 1 + (n - (j + 1)) = n by omega, rk_t h] at this
  omega
theorem rk_inj {R : Nat → Bool} {i j : Nat} (hi : R i = true) (hj : R j = true) (e : rk R i = rk R j) : i = j := by
  rcases Nat.lt_trichotomy i j with c | c | c
  · have := rk_lt hi c; omega
  · exact c
  · have := rk_lt hj c; omega
theorem rk_ex (R : Nat → Bool) : ∀ n k, k < rk R n → ∃ j, j < n ∧ R j = true ∧ rk R j = k
  | 0, k, h => absurd h (Nat.not_lt_zero k)
  | n + 1, k, h => by
    by_cases c : k < rk R n
    · obtain ⟨j, h1, h2, h3⟩ := rk_ex R n k c; exact ⟨j, by omega, h2, h3⟩
    · by_cases d : R n = true
      · rw [rk_t d] at h; exact ⟨n, by omega, d, by omega⟩
      · rw [rk_f d] at h; omega
def cs (g : Nat → Int) (B : Nat → Bool) : Nat → Int
  | 0 => 0
  | t + 1 => cs g B t + (if B t = true then g t else 0)
theorem cs_t {g : Nat → Int} {B : Nat → Bool} {t : Nat} (h : B t = true) : cs g B (t + 1) = cs g B t + g t := by show cs g B t + _ = _; rw [if_pos h]
theorem cs_f {g : Nat → Int} {B : Nat → Bool} {t : Nat} (h : ¬ B t = true) : cs g B (t + 1) = cs g B t := by show cs g B t + _ = _; rw [if_neg h]; omega
theorem cs_cmp {R : Nat → Bool} {g g' : Nat → Int} {B B' : Nat → Bool} : ∀ n, (∀ j, j < n → R j = true → g' (rk R j) = g j ∧ B' (rk R j) = B j) → (∀ j, j < n → ¬ R j = true → ¬ B j = true) → cs g' B' (rk R n) = cs g B n
  | 0, _, _ => rfl
  | n + 1, h1, h2 => by
    have ih := cs_cmp n (fun j hj => h1 j (by omega)) (fun j hj => h2 j (by omega))
    by_cases c : R n = true
    · obtain ⟨e1, e2⟩ := h1 n (by omega) c
      rw [rk_t c]
      by_cases b : B n = true
      · rw [cs_t b, cs_t (by rw [e2]; exact b), ih, e1]
      · rw [cs_f b, cs_f (by rw [e2]; exact b), ih]
    · rw [rk_f c, cs_f (h2 n (by omega) c), ih]
theorem cs_cg {g g' : Nat → Int} {B B' : Nat → Bool} : ∀ n, (∀ j, j < n → B' j = B j ∧ (B j = true → g' j = g j)) → cs g' B' n = cs g B n
  | 0, _ => rfl
  | n + 1, h => by
    have ih := cs_cg n (fun j hj => h j (by omega))
    obtain ⟨e1, e2⟩ := h n (by omega)
    by_cases b : B n = true
    · rw [cs_t b, cs_t (by rw [e1]; exact b), ih, e2 b]
    · rw [cs_f b, cs_f (by rw [e1]; exact b), ih]
theorem cs_rg {g : Nat → Int} {B : Nat → Bool} : ∀ n, (∀ j, j < n → 0 ≤ g j ∧ g j ≤ 100000000) → 0 ≤ cs g B n ∧ cs g B n ≤ 100000000 * (n : Int)
  | 0, _ => by show (0 : Int) ≤ 0 ∧ (0 : Int) ≤ 100000000 * ((0 : Nat) : Int); omega
  | n + 1, h => by
    have ih := cs_rg (g := g) (B := B) n (fun j hj => h j (by omega))
    have := h n (by omega)
    by_cases b : B n = true
    · rw [cs_t b]; omega
    · rw [cs_f b]; omega
theorem cs_le {g : Nat → Int} {B B' : Nat → Bool} : ∀ n, (∀ j, j < n → 0 ≤ g j) → (∀ j, j < n → B j = true → B' j = true) → cs g B n ≤ cs g B' n
  | 0, _, _ => Int.le_refl _
  | n + 1, h, hb => by
    have ih := cs_le (g := g) (B := B) (B' := B') n (fun j hj => h j (by omega)) (fun j hj => hb j (by omega))
    have := h n (by omega)
    by_cases b : B n = true
    · rw [cs_t b, cs_t (hb n (by omega) b)]; omega
    · rw [cs_f b]
      by_cases b' : B' n = true
      · rw [cs_t b']; omega
      · rw [cs_f b']; exact ih
/-- a set as bits -/
def bs (B : Nat → Bool) : Nat → Nat
  | 0 => 0
  | t + 1 => bs B t ||| (if B t = true then 2 ^ t else 0)
theorem bs_bit (B : Nat → Bool) (j : Nat) : ∀ n, (bs B n).testBit j = (decide (j < n) && B j)
  | 0 => by rw [decide_eq_false (by omega)]; show Nat.testBit 0 j = _; rw [Nat.zero_testBit]; rfl
  | n + 1 => by
    show (bs B n ||| (if B n = true then 2 ^ n else 0)).testBit j = _
    rw [Nat.testBit_or, bs_bit B j n]
    by_cases e : j = n
    · subst e
      rw [decide_eq_false (by omega), decide_eq_true (by omega)]
      cases q : B j
      · rw [if_neg (by decide), Nat.zero_testBit]; rfl
      · rw [if_pos rfl, Nat.testBit_two_pow_self]; rfl
    · have t : (if B n = true then 2 ^ n else 0).testBit j = false := by
        by_cases q : B n = true
        · rw [if_pos q, Nat.testBit_two_pow_of_ne (fun z => e z.symm)]
        · rw [if_neg q, Nat.zero_testBit]
      rw [t, Bool.or_false]
      congr 1
      exact decide_eq_decide.mpr (by omega)
theorem bs_lt (B : Nat → Bool) (n : Nat) : bs B n < 2 ^ n := Nat.lt_pow_two_of_testBit _ (fun i hi => by rw [bs_bit, decide_eq_false (by omega), Bool.false_and])
theorem bs_0 {B : Nat → Bool} : ∀ n, bs B n = 0 ↔ ∀ j, j < n → ¬ B j = true := by
  intro n
  constructor
  · intro h j hj hb
    have := bs_bit B j n
    rw [h, Nat.zero_testBit, hb, decide_eq_true hj] at this
    exact absurd this (by decide)
  · intro h
    apply Nat.eq_of_testBit_eq
    intro j
    rw [bs_bit, Nat.zero_testBit]
    by_cases c : j < n
    · have := h j c
      cases q : B j
      · rw [Bool.and_false]
      · exact absurd q this
    · rw [decide_eq_false c, Bool.false_and]
/-- a set given by places in a row -/
def ba (a : Nat → Nat) (B : Nat → Bool) : Nat → Nat
  | 0 => 0
  | k + 1 => ba a B k ||| (if B k = true then 2 ^ (a k) else 0)
theorem ba_cmp {R : Nat → Bool} {a : Nat → Nat} {B : Nat → Bool} : ∀ n, (∀ j, j < n → R j = true → a (rk R j) = j) → ba a B (rk R n) = bs (fun j => R j && B (rk R j)) n
  | 0, _ => rfl
  | n + 1, h => by
    have ih := ba_cmp (B := B) n (fun j hj => h j (by omega))
    show _ = bs (fun j => R j && B (rk R j)) n ||| (if (R n && B (rk R n)) = true then 2 ^ n else 0)
    by_cases c : R n = true
    · rw [rk_t c]
      show ba a B (rk R n) ||| (if B (rk R n) = true then 2 ^ (a (rk R n)) else 0) = _
      rw [ih, h n (by omega) c, c, Bool.true_and]
    · rw [rk_f c, ih, if_neg (by intro q; simp at q; exact c q.1), Nat.or_zero]
theorem rk_bit (a : Nat) : ∀ s, s ≤ 32 → rk (fun j => a.testBit j) s = pcn (a % 2 ^ s)
  | 0, _ => by rw [Nat.pow_zero, Nat.mod_one]; exact (pcF_0 32).symm
  | s + 1, hs => by
    have ih := rk_bit a s (by omega)
    have lt := Nat.mod_lt a (Nat.two_pow_pos s)
    have p2 : 2 ^ (s + 1) = 2 ^ s * 2 := Nat.pow_succ 2 s
    have e : a % 2 ^ (s + 1) = a % 2 ^ s + 2 ^ s * (a / 2 ^ s % 2) := by rw [p2, Nat.mod_mul]
    have tb := Nat.testBit_eq_decide_div_mod_eq (x := a) (i := s)
    by_cases c : a.testBit s = true
    · have c1 : a / 2 ^ s % 2 = 1 := by rw [c] at tb; exact of_decide_eq_true tb.symm
      rw [rk_t (R := fun j => a.testBit j) c, ih, e, c1, Nat.mul_one, pcn_add lt (by omega)]
    · have c1 : a / 2 ^ s % 2 = 0 := by
        have : ¬ a / 2 ^ s % 2 = 1 := fun q => c (by rw [tb]; exact decide_eq_true q)
        omega
      rw [rk_f (R := fun j => a.testBit j) c, ih, e, c1, Nat.mul_zero, Nat.add_zero]
/-! ===== senders: their number ===== -/
theorem sndN {x m : St} (h5 : I_send x m) : ∃ N : Nat, x.1 17 6 = nI N ∧ (N : Int) = (x.1 17 6).toInt ∧ N ≤ 20 := by
  obtain ⟨N, e1, e2⟩ := nv_i h5.2.1 (by omega)
  have := h5.2.1
  exact ⟨N, e1, e2, by omega⟩
theorem isS_n {x m : St} (h5 : I_send x m) {k : Nat} (hk : (k : Int) < (x.1 17 6).toInt) : isS x (nI k) := by
  have r := h5.2.1
  unfold isS
  rw [nv_t (by omega)]
  exact ⟨by omega, hk⟩
theorem s1_n {x m : St} (h5 : I_send x m) {k : Nat} (hk : (k : Int) < (x.1 17 6).toInt) : I_s1 x m k := h5.2.2.1 k (by have := h5.2.1; omega) hk
theorem goal_c {x m : St} {k : Nat} (hs : I_s1 x m k) : isC x (x.1 (19 + k) 5) := hs.2.2.2.2.2.2.1
theorem home_c {x m : St} {k : Nat} (hs : I_s1 x m k) : isC x (x.1 (19 + k) 1) := hs.2.2.1
