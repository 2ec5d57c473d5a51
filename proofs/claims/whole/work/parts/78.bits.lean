/-! ===== bits: masks as whole numbers (the first rows began as the kit's BITS.to-paste) ===== -/
def bt (x : Int32) (i : Nat) : Bool := x.toBitVec.getLsbD i
theorem b_ext {x y : Int32} (h : ∀ i, i < 32 → bt x i = bt y i) : x = y := Int32.toBitVec_inj.mp (BitVec.eq_of_getLsbD_eq (fun i hi => h i hi))
theorem b_or (x y : Int32) (i : Nat) : bt (x ||| y) i = (bt x i || bt y i) := by unfold bt; rw [Int32.toBitVec_or, BitVec.getLsbD_or]
theorem b_and (x y : Int32) (i : Nat) : bt (x &&& y) i = (bt x i && bt y i) := by unfold bt; rw [Int32.toBitVec_and, BitVec.getLsbD_and]
theorem b_xor (x y : Int32) (i : Nat) : bt (x ^^^ y) i = (bt x i ^^ bt y i) := by unfold bt; rw [Int32.toBitVec_xor, BitVec.getLsbD_xor]
theorem b_m1 : ∀ i, i < 32 → bt (-1) i = true := by decide +kernel
theorem b_0 (i : Nat) : bt 0 i = false := BitVec.getLsbD_zero
theorem b_1 : ∀ i, i < 32 → bt 1 i = decide (i = 0) := by decide +kernel
theorem s_l : ∀ n, n < 32 → ((nI n &&& 31).toBitVec.smod 32).toNat = n := by decide +kernel
theorem b_sshr (n : Nat) (hn : n < 32) (x : Int32) {i : Nat} (hi : i < 32) : bt (x >>> (nI n &&& 31)) i = if n + i < 32 then bt x (n + i) else bt x 31 := by
  unfold bt
  rw [Int32.toBitVec_shiftRight]
  show (x.toBitVec.sshiftRight ((nI n &&& 31).toBitVec.smod 32).toNat).getLsbD i = _
  rw [s_l n hn, BitVec.getLsbD_sshiftRight, BitVec.msb_eq_getLsbD_last]
  simp [hi]
theorem bt_nI (a i : Nat) (hi : i < 32) : bt (nI a) i = a.testBit i := by
  show (BitVec.ofNat 32 a).getLsbD i = _
  rw [BitVec.getLsbD_ofNat, decide_eq_true hi, Bool.true_and]
theorem nx_and (a b : Nat) : nI a &&& nI b = nI (a &&& b) := b_ext fun i hi => by rw [b_and, bt_nI _ _ hi, bt_nI _ _ hi, bt_nI _ _ hi, Nat.testBit_and]
theorem nx_or (a b : Nat) : nI a ||| nI b = nI (a ||| b) := b_ext fun i hi => by rw [b_or, bt_nI _ _ hi, bt_nI _ _ hi, bt_nI _ _ hi, Nat.testBit_or]
theorem nx_xor (a b : Nat) : nI a ^^^ nI b = nI (a ^^^ b) := b_ext fun i hi => by rw [b_xor, bt_nI _ _ hi, bt_nI _ _ hi, bt_nI _ _ hi, Nat.testBit_xor]
/-- b a part of a: taking it away -/
theorem nx_clr {a b : Nat} (h : ∀ i, b.testBit i = true → a.testBit i = true) : nI a &&& (nI b ^^^ (-1)) = nI (a ^^^ b) := b_ext fun i hi => by
  rw [b_and, b_xor, bt_nI _ _ hi, bt_nI _ _ hi, bt_nI _ _ hi, b_m1 i hi, Nat.testBit_xor]
  have := h i
  cases p : a.testBit i <;> cases q : b.testBit i
  · rfl
  · rw [p, q] at this; exact absurd (this rfl) (by decide)
  · rfl
  · rfl
theorem nb_bit (a : Nat) {k : Nat} (hk : k < 32) : ((nI a >>> (nI k &&& 31)) &&& 1) = if a.testBit k = true then 1 else 0 := by
  apply b_ext
  intro i hi
  rw [b_and, b_sshr k hk _ hi, b_1 i hi]
  by_cases c : i = 0
  · subst c
    rw [Nat.add_zero, if_pos hk, bt_nI a k hk]
    cases a.testBit k <;> decide
  · rw [decide_eq_false c, Bool.and_false]
    cases a.testBit k
    · rw [if_neg (by decide), b_0]
    · rw [if_pos rfl, b_1 i hi, decide_eq_false c]
theorem nb_0 (a : Nat) {k : Nat} (hk : k < 32) : ((nI a >>> (nI k &&& 31)) &&& 1) = 0 ↔ ¬ a.testBit k = true := by
  rw [nb_bit a hk]; cases a.testBit k <;> decide
theorem nb_1 (a : Nat) {k : Nat} (hk : k < 32) : ((nI a >>> (nI k &&& 31)) &&& 1) = 1 ↔ a.testBit k = true := by
  rw [nb_bit a hk]; cases a.testBit k <;> decide
theorem nb_shl : ∀ k, k < 31 → (1 : Int32) <<< (nI k &&& 31) = nI (2 ^ k) := by decide +kernel
theorem nv_sub {a b : Nat} (h : b ≤ a) : nI a - nI b = nI (a - b) := by
  have e := iI_sub (a : Int) (b : Int)
  have c : ((a - b : Nat) : Int) = (a : Int) - (b : Int) := by omega
  rw [iI_nat, iI_nat, iI_nat, c]; exact e
theorem nv_t {a : Nat} (h : a < 2147483648) : (nI a).toInt = (a : Int) := by rw [iI_nat, iI_toInt (by omega) (by omega)]
theorem nv_nt {a : Nat} (h : a < 2147483648) : nt (nI a) = a := by rw [iI_nat, iI_cl (by omega) (by omega)]; omega
theorem nv_ib {a n : Nat} (h : a < n) (hn : n < 2147483648) : ib (nI a) n := by rw [iI_nat]; exact (iI_ib (by omega)).mpr (by omega)
theorem nv_e {a b : Nat} (ha : a < 2147483648) (hb : b < 2147483648) : nI a = nI b ↔ a = b := by rw [iI_nat, iI_nat, iI_eq (by omega) (by omega)]; omega
theorem nv_l {a b : Nat} (ha : a < 2147483648) (hb : b < 2147483648) : nI a ≤ nI b ↔ a ≤ b := by rw [iI_nat, iI_nat, iI_le (by omega) (by omega)]; omega
theorem nv_s {a b : Nat} (ha : a < 2147483648) (hb : b < 2147483648) : nI a < nI b ↔ a < b := by rw [iI_nat, iI_nat, iI_lt (by omega) (by omega)]; omega
theorem nv_p1 (a : Nat) : nI a + 1 = nI (a + 1) := by rw [iI_nat, iI_add1, iI_nat]
theorem nv_z {a : Nat} (h : a < 2147483648) : nI a = 0 ↔ a = 0 := nv_e (b := 0) h (by omega)
/-- how many bits -/
def pcF : Nat → Nat → Nat
  | 0, _ => 0
  | f + 1, x => x % 2 + pcF f (x / 2)
theorem pcF_0 : ∀ f, pcF f 0 = 0
  | 0 => rfl
  | f + 1 => by show 0 % 2 + pcF f (0 / 2) = 0; rw [Nat.zero_div, pcF_0 f]
abbrev pcn (x : Nat) : Nat := pcF 32 x
theorem pcF_le : ∀ f x, pcF f x ≤ f
  | 0, _ => Nat.le_refl _
  | f + 1, x => by show x % 2 + pcF f (x / 2) ≤ f + 1; have := pcF_le f (x / 2); omega
theorem pcF_and : ∀ f x, x ≠ 0 → x < 2 ^ f → pcF f (x &&& (x - 1)) + 1 = pcF f x
  | 0, x, h0, h => by rw [Nat.pow_zero] at h; omega
  | f + 1, x, h0, h => by
    have p2 : 2 ^ (f + 1) = 2 * 2 ^ f := by rw [Nat.pow_succ, Nat.mul_comm]
    show (x &&& (x - 1)) % 2 + pcF f ((x &&& (x - 1)) / 2) + 1 = x % 2 + pcF f (x / 2)
    have em := Nat.and_mod_two_pow (a := x) (b := x - 1) (n := 1)
    rw [Nat.pow_one] at em
    rw [Nat.and_div_two, em]
    rcases Nat.mod_two_eq_zero_or_one x with c | c
    · have ih := pcF_and f (x / 2) (by omega) (by omega)
      have e1 : (x - 1) / 2 = x / 2 - 1 := by omega
      rw [e1, c, Nat.zero_and]
      omega
    · have e1 : (x - 1) / 2 = x / 2 := by omega
      have e2 : (x - 1) % 2 = 0 := by omega
      rw [e1, e2, Nat.and_self, Nat.and_zero, c]
      omega
theorem pcF_add : ∀ (s f x : Nat), x < 2 ^ s → s < f → pcF f (x + 2 ^ s) = pcF f x + 1
  | 0, f + 1, x, h, _ => by
    have : x = 0 := by rw [Nat.pow_zero] at h; omega
    subst this
    show (0 + 2 ^ 0) % 2 + pcF f ((0 + 2 ^ 0) / 2) = 0 % 2 + pcF f (0 / 2) + 1
    rw [show (0 + 2 ^ 0) / 2 = 0 from rfl, show (0 + 2 ^ 0) % 2 = 1 from rfl, pcF_0]
  | s + 1, f + 1, x, h, hs => by
    have p2 : 2 ^ (s + 1) = 2 * 2 ^ s := by rw [Nat.pow_succ, Nat.mul_comm]
    show (x + 2 ^ (s + 1)) % 2 + pcF f ((x + 2 ^ (s + 1)) / 2) = x % 2 + pcF f (x / 2) + 1
    have e1 : (x + 2 ^ (s + 1)) % 2 = x % 2 := by omega
    have e2 : (x + 2 ^ (s + 1)) / 2 = x / 2 + 2 ^ s := by omega
    rw [e1, e2, pcF_add s f (x / 2) (by omega) (by omega)]
    omega
theorem pcn_0 : pcn 0 = 0 := pcF_0 32
theorem pcn_le (x : Nat) : pcn x ≤ 32 := pcF_le 32 x
theorem pcn_add {s x : Nat} (h : x < 2 ^ s) (hs : s < 32) : pcn (x + 2 ^ s) = pcn x + 1 := pcF_add s 32 x h hs
theorem ones_l (S : St) : ∀ (f x acc : Nat), x < 2147483648 → pcn x < f → fX12_ones_L4 f (nI acc) (nI x) S = some (nI (acc + pcn x), S) := by
  intro f
  induction f with
  | zero => intro x acc _ hf; exact absurd hf (Nat.not_lt_zero _)
  | succ f ihf =>
    intro x acc hx hf
    show fX12_ones_L4_st (fX12_ones_L4 f) (nI acc) (nI x) S = _
    unfold fX12_ones_L4_st
    by_cases c : x = 0
    · rw [if_pos ((nv_z hx).mpr c), c, pcn_0]; rfl
    · have ih := pcF_and 32 x c (by omega)
      have le : x &&& (x - 1) ≤ x := Nat.and_le_left
      have r := ihf (x &&& (x - 1)) (acc + 1) (by omega) (by unfold pcn at hf ⊢; omega)
      rw [if_neg (fun q => c ((nv_z hx).mp q)), lt_eq, show (1 : Int32) = nI 1 from rfl, nv_sub (by omega), nx_and, show nI acc + nI 1 = nI (acc + 1) from nv_p1 acc, r]
      unfold pcn
      rw [show acc + 1 + pcF 32 (x &&& (x - 1)) = acc + pcF 32 x by omega]
theorem e_ones {x : Nat} (hx : x < 2147483648) (S : St) : fX12_ones (nI x) S = some (nI (pcn x), S) := by
  have := ones_l S FU x 0 hx (by have := fu_ge; have := pcn_le x; omega)
  rw [Nat.zero_add] at this
  exact this
theorem nb_ush {k j : Nat} (hk : k < 2147483648) (hj : j < 32) : ush (nI k) (nI j) = nI (k / 2 ^ j) := by
  have hs : k / 2 ^ j ≤ k := Nat.div_le_self _ _
  have cn : ∀ j : Fin 32, (UInt32.ofNat j.val &&& Int32.toUInt32 31).toNat % 32 = j.val := by decide +kernel
  have e2 : UInt32.ofNat k >>> (UInt32.ofNat j &&& Int32.toUInt32 31) = UInt32.ofNat (k / 2 ^ j) := by
    apply UInt32.toNat_inj.1
    have h1 : (UInt32.ofNat k).toNat = k := Nat.mod_eq_of_lt (by omega)
    have h2 : (UInt32.ofNat (k / 2 ^ j)).toNat = k / 2 ^ j := Nat.mod_eq_of_lt (by omega)
    rw [UInt32.toNat_shiftRight, cn ⟨j, hj⟩, h1, h2, Nat.shiftRight_eq_div_pow]
  show (UInt32.ofNat k >>> (UInt32.ofNat j &&& Int32.toUInt32 31)).toInt32 = _
  rw [e2]
  rfl
theorem nib5 {n : Nat} (r M : Nat) (h : n < 16) : (n + 16 * r) / 2 &&& (5 + 16 * M) = (n / 2 &&& 5) + 16 * (r / 2 &&& M) := by
  have d := Nat.and_div_two_pow (a := (n + 16 * r) / 2) (b := 5 + 16 * M) (n := 4)
  have m := Nat.and_mod_two_pow (a := (n + 16 * r) / 2) (b := 5 + 16 * M) (n := 4)
  rw [show (2 : Nat) ^ 4 = 16 from rfl] at d m
  rw [show (n + 16 * r) / 2 / 16 = r / 2 by omega, show (5 + 16 * M) / 16 = M by omega] at d
  rw [show (n + 16 * r) / 2 % 16 = n / 2 + 8 * (r % 2) by omega, show (5 + 16 * M) % 16 = 5 by omega] at m
  have t : ∀ n, n < 16 → ∀ t, t < 2 → (n / 2 + 8 * t) &&& 5 = n / 2 &&& 5 := by decide
  rw [t n h (r % 2) (by omega)] at m
  omega
theorem nib3 {n : Nat} (r M : Nat) (h : n < 16) : (n + 16 * r) &&& (3 + 16 * M) = (n &&& 3) + 16 * (r &&& M) := by
  have d := Nat.and_div_two_pow (a := n + 16 * r) (b := 3 + 16 * M) (n := 4)
  have m := Nat.and_mod_two_pow (a := n + 16 * r) (b := 3 + 16 * M) (n := 4)
  rw [show (2 : Nat) ^ 4 = 16 from rfl] at d m
  rw [show (n + 16 * r) / 16 = r by omega, show (3 + 16 * M) / 16 = M by omega] at d
  rw [show (n + 16 * r) % 16 = n by omega, show (3 + 16 * M) % 16 = 3 by omega] at m
  omega
theorem nib4 {n : Nat} (r M : Nat) (h : n < 16) : (n + 16 * r) / 4 &&& (3 + 16 * M) = (n / 4 &&& 3) + 16 * (r / 4 &&& M) := by
  have d := Nat.and_div_two_pow (a := (n + 16 * r) / 4) (b := 3 + 16 * M) (n := 4)
  have m := Nat.and_mod_two_pow (a := (n + 16 * r) / 4) (b := 3 + 16 * M) (n := 4)
  rw [show (2 : Nat) ^ 4 = 16 from rfl] at d m
  rw [show (n + 16 * r) / 4 / 16 = r / 4 by omega, show (3 + 16 * M) / 16 = M by omega] at d
  rw [show (n + 16 * r) / 4 % 16 = n / 4 + 4 * (r % 4) by omega, show (3 + 16 * M) % 16 = 3 by omega] at m
  have t : ∀ n, n < 16 → ∀ t, t < 4 → (n / 4 + 4 * t) &&& 3 = n / 4 &&& 3 := by decide
  rw [t n h (r % 4) (by omega)] at m
  omega
theorem pcF_nib (f n r : Nat) (h : n < 16) : pcF (f + 4) (n + 16 * r) = pcF 4 n + pcF f r := by
  show (n + 16 * r) % 2 + ((n + 16 * r) / 2 % 2 + ((n + 16 * r) / 2 / 2 % 2 + ((n + 16 * r) / 2 / 2 / 2 % 2 + pcF f ((n + 16 * r) / 2 / 2 / 2 / 2)))) = n % 2 + (n / 2 % 2 + (n / 2 / 2 % 2 + (n / 2 / 2 / 2 % 2 + 0))) + pcF f r
  rw [show (n + 16 * r) / 2 / 2 / 2 / 2 = r by omega]
  omega
def sq (n : Nat) : Nat := n - (n / 2 &&& 5)
def bq (n : Nat) : Nat := (sq n &&& 3) + (sq n / 4 &&& 3)
theorem bq_pc : ∀ n, n < 16 → bq n = pcF 4 n ∧ bq n ≤ 4 ∧ sq n < 16 ∧ (n / 2 &&& 5) ≤ n := by decide
def bfin (b : Nat) : Nat := (((((b + b / 16) &&& 252645135) + ((b + b / 16) &&& 252645135) / 256) + (((b + b / 16) &&& 252645135) + ((b + b / 16) &&& 252645135) / 256) / 65536)) &&& 63
theorem bfin_s : ∀ a, a < 5 → ∀ b, b < 5 → ∀ c, c < 5 → ∀ d, d < 5 → ∀ e, e < 5 → bfin (a + 16 * (b + 16 * (c + 16 * (d + 16 * (e + 16 * 0))))) = a + (b + (c + (d + (e + 0)))) := by decide +kernel
theorem e_bc {x : Nat} (hx : x < 1048576) (S : St) : fJ6_bitCount_0f7a4 (nI x) S = some (nI (pcn x), S) := by
  obtain ⟨n0, n1, n2, n3, n4, l0, l1, l2, l3, l4, ex⟩ : ∃ n0 n1 n2 n3 n4, n0 < 16 ∧ n1 < 16 ∧ n2 < 16 ∧ n3 < 16 ∧ n4 < 16 ∧ x = n0 + 16 * (n1 + 16 * (n2 + 16 * (n3 + 16 * (n4 + 16 * 0)))) :=
    ⟨x % 16, x / 16 % 16, x / 256 % 16, x / 4096 % 16, x / 65536 % 16, by omega, by omega, by omega, by omega, by omega, by omega⟩
  obtain ⟨p0, q0, s0, t0⟩ := bq_pc n0 l0
  obtain ⟨p1, q1, s1, t1⟩ := bq_pc n1 l1
  obtain ⟨p2, q2, s2, t2⟩ := bq_pc n2 l2
  obtain ⟨p3, q3, s3, t3⟩ := bq_pc n3 l3
  obtain ⟨p4, q4, s4, t4⟩ := bq_pc n4 l4
  have e1 : x / 2 &&& 1431655765 = (n0 / 2 &&& 5) + 16 * ((n1 / 2 &&& 5) + 16 * ((n2 / 2 &&& 5) + 16 * ((n3 / 2 &&& 5) + 16 * ((n4 / 2 &&& 5) + 16 * (0 / 2 &&& 1365))))) := by
    rw [ex, show (1431655765 : Nat) = 5 + 16 * (5 + 16 * (5 + 16 * (5 + 16 * (5 + 16 * 1365)))) from rfl, nib5 _ _ l0, nib5 _ _ l1, nib5 _ _ l2, nib5 _ _ l3, nib5 _ _ l4]
  rw [show (0 / 2 &&& 1365 : Nat) = 0 from rfl] at e1
  have e2 : x - (x / 2 &&& 1431655765) = sq n0 + 16 * (sq n1 + 16 * (sq n2 + 16 * (sq n3 + 16 * (sq n4 + 16 * 0)))) := by
    rw [e1, ex]; unfold sq; omega
  have b1 : (x - (x / 2 &&& 1431655765)) &&& 858993459 = (sq n0 &&& 3) + 16 * ((sq n1 &&& 3) + 16 * ((sq n2 &&& 3) + 16 * ((sq n3 &&& 3) + 16 * ((sq n4 &&& 3) + 16 * (0 &&& 819))))) := by
    rw [e2, show (858993459 : Nat) = 3 + 16 * (3 + 16 * (3 + 16 * (3 + 16 * (3 + 16 * 819)))) from rfl, nib3 _ _ s0, nib3 _ _ s1, nib3 _ _ s2, nib3 _ _ s3, nib3 _ _ s4]
  have b2 : (x - (x / 2 &&& 1431655765)) / 4 &&& 858993459 = (sq n0 / 4 &&& 3) + 16 * ((sq n1 / 4 &&& 3) + 16 * ((sq n2 / 4 &&& 3) + 16 * ((sq n3 / 4 &&& 3) + 16 * ((sq n4 / 4 &&& 3) + 16 * (0 / 4 &&& 819))))) := by
    rw [e2, show (858993459 : Nat) = 3 + 16 * (3 + 16 * (3 + 16 * (3 + 16 * (3 + 16 * 819)))) from rfl, nib4 _ _ s0, nib4 _ _ s1, nib4 _ _ s2, nib4 _ _ s3, nib4 _ _ s4]
  rw [show (0 &&& 819 : Nat) = 0 from rfl] at b1
  rw [show (0 / 4 &&& 819 : Nat) = 0 from rfl] at b2
  have b3 : ((x - (x / 2 &&& 1431655765)) &&& 858993459) + ((x - (x / 2 &&& 1431655765)) / 4 &&& 858993459) = bq n0 + 16 * (bq n1 + 16 * (bq n2 + 16 * (bq n3 + 16 * (bq n4 + 16 * 0)))) := by
    rw [b1, b2]; unfold bq; omega
  have fin := bfin_s (bq n0) (by omega) (bq n1) (by omega) (bq n2) (by omega) (bq n3) (by omega) (bq n4) (by omega)
  have pc : pcn x = bq n0 + (bq n1 + (bq n2 + (bq n3 + (bq n4 + 0)))) := by
    show pcF (28 + 4) x = _
    rw [ex, pcF_nib 28 _ _ l0, show (28 : Nat) = 24 + 4 from rfl, pcF_nib 24 _ _ l1, show (24 : Nat) = 20 + 4 from rfl, pcF_nib 20 _ _ l2, show (20 : Nat) = 16 + 4 from rfl, pcF_nib 16 _ _ l3, show (16 : Nat) = 12 + 4 from rfl, pcF_nib 12 _ _ l4, pcF_0, p0, p1, p2, p3, p4]
  rw [pc, ← fin, ← b3]
  have le1 : x / 2 &&& 1431655765 ≤ x := by rw [e1, ex]; omega
  have lb : ((x - (x / 2 &&& 1431655765)) &&& 858993459) + ((x - (x / 2 &&& 1431655765)) / 4 &&& 858993459) < 1048576 := by rw [b3]; omega
  unfold fJ6_bitCount_0f7a4
  simp only [lt_eq]
  have u1 : ush (nI x) 1 = nI (x / 2) := nb_ush (j := 1) (by omega) (by omega)
  rw [u1, show (1431655765 : Int32) = nI 1431655765 from rfl, nx_and, nv_sub le1]
  have ly : x - (x / 2 &&& 1431655765) < 2147483648 := by rw [e2]; omega
  generalize x - (x / 2 &&& 1431655765) = y at lb ly ⊢
  have u2 : ush (nI y) 2 = nI (y / 4) := nb_ush (j := 2) ly (by omega)
  rw [u2, show (858993459 : Int32) = nI 858993459 from rfl, nx_and, nx_and, nI_add]
  generalize (y &&& 858993459) + (y / 4 &&& 858993459) = b at lb ⊢
  have u4 : ush (nI b) 4 = nI (b / 16) := nb_ush (j := 4) (by omega) (by omega)
  unfold bfin
  have lc : (b + b / 16) &&& 252645135 ≤ b + b / 16 := Nat.and_le_left
  rw [u4, nI_add, show (252645135 : Int32) = nI 252645135 from rfl, nx_and]
  generalize (b + b / 16) &&& 252645135 = c at lc ⊢
  have u8 : ush (nI c) 8 = nI (c / 256) := nb_ush (j := 8) (by omega) (by omega)
  rw [u8, nI_add]
  have ld : c + c / 256 < 2147483648 := by omega
  generalize c + c / 256 = d at ld ⊢
  have u16 : ush (nI d) 16 = nI (d / 65536) := nb_ush (j := 16) (by omega) (by omega)
  rw [u16, nI_add, show (63 : Int32) = nI 63 from rfl, nx_and]
