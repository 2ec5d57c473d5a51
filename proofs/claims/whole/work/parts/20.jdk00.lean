def fJ6_bitCount_0f7a4 (a0 : Int32) (S : St) : Option (Int32 × St) :=
  lt (a0 - ((ush a0 1) &&& 1431655765)) (fun (v1 : Int32) => lt ((v1 &&& 858993459) + ((ush v1 2) &&& 858993459)) (fun (v2 : Int32) => lt ((v2 + (ush v2 4)) &&& 252645135) (fun (v3 : Int32) => lt (v3 + (ush v3 8)) (fun (v4 : Int32) => lt (v4 + (ush v4 16)) (fun (v5 : Int32) => some (v5 &&& 63, S))))))
set_option maxRecDepth 100000 in
set_option maxHeartbeats 4000000 in
theorem tJ6_bitCount_0f7a4 (w : Wx) (a0 : Int32) (S : St) (q : Int32 × St) (h : fJ6_bitCount_0f7a4 a0 S = some q) : MT vI w mJ6_bitCount_0f7a4 (fun n0 => [.int a0]) S q := by
  refine mt_of (by decide +kernel) (fun _ => Nat.le_of_ble_eq_true rfl) ?_
  intro Γ hc _
  rw [← h]
  show Ok Γ w 0 [(0, .int a0)] [] S _
  unfold fJ6_bitCount_0f7a4
  refine ok_iload_n 0 hc dJ6_bitCount_0f7a4_0 rfl rfl ?_
  refine ok_iload_n 0 hc dJ6_bitCount_0f7a4_1 rfl rfl ?_
  refine ok_iconst (v := 1) hc dJ6_bitCount_0f7a4_2 (by decide) ?_
  refine ok_iushr hc dJ6_bitCount_0f7a4_3 ?_
  refine ok_ldcw hc dJ6_bitCount_0f7a4_4 W_641 ?_
  refine ok_iand hc dJ6_bitCount_0f7a4_7 ?_
  refine ok_isub hc dJ6_bitCount_0f7a4_8 ?_
  refine ok_lti (fun v1 => ?_)
  refine ok_istore_n [(0, .int v1)] hc dJ6_bitCount_0f7a4_9 rfl (Nat.le_of_ble_eq_true rfl) rfl ?_
  refine ok_iload_n 0 hc dJ6_bitCount_0f7a4_10 rfl rfl ?_
  refine ok_ldcw hc dJ6_bitCount_0f7a4_11 W_642 ?_
  refine ok_iand hc dJ6_bitCount_0f7a4_14 ?_
  refine ok_iload_n 0 hc dJ6_bitCount_0f7a4_15 rfl rfl ?_
  refine ok_iconst (v := 2) hc dJ6_bitCount_0f7a4_16 (by decide) ?_
  refine ok_iushr hc dJ6_bitCount_0f7a4_17 ?_
  refine ok_ldcw hc dJ6_bitCount_0f7a4_18 W_642 ?_
  refine ok_iand hc dJ6_bitCount_0f7a4_21 ?_
  refine ok_iadd hc dJ6_bitCount_0f7a4_22 ?_
  refine ok_lti (fun v2 => ?_)
  refine ok_istore_n [(0, .int v2)] hc dJ6_bitCount_0f7a4_23 rfl (Nat.le_of_ble_eq_true rfl) rfl ?_
  refine ok_iload_n 0 hc dJ6_bitCount_0f7a4_24 rfl rfl ?_
  refine ok_iload_n 0 hc dJ6_bitCount_0f7a4_25 rfl rfl ?_
  refine ok_iconst (v := 4) hc dJ6_bitCount_0f7a4_26 (by decide) ?_
  refine ok_iushr hc dJ6_bitCount_0f7a4_27 ?_
  refine ok_iadd hc dJ6_bitCount_0f7a4_28 ?_
  refine ok_ldcw hc dJ6_bitCount_0f7a4_29 W_643 ?_
  refine ok_iand hc dJ6_bitCount_0f7a4_32 ?_
  refine ok_lti (fun v3 => ?_)
  refine ok_istore_n [(0, .int v3)] hc dJ6_bitCount_0f7a4_33 rfl (Nat.le_of_ble_eq_true rfl) rfl ?_
  refine ok_iload_n 0 hc dJ6_bitCount_0f7a4_34 rfl rfl ?_
  refine ok_iload_n 0 hc dJ6_bitCount_0f7a4_35 rfl rfl ?_
  refine ok_bipush (v := 8) hc dJ6_bitCount_0f7a4_36 (by decide) ?_
  refine ok_iushr hc dJ6_bitCount_0f7a4_38 ?_
  refine ok_iadd hc dJ6_bitCount_0f7a4_39 ?_
  refine ok_lti (fun v4 => ?_)
  refine ok_istore_n [(0, .int v4)] hc dJ6_bitCount_0f7a4_40 rfl (Nat.le_of_ble_eq_true rfl) rfl ?_
  refine ok_iload_n 0 hc dJ6_bitCount_0f7a4_41 rfl rfl ?_
  refine ok_iload_n 0 hc dJ6_bitCount_0f7a4_42 rfl rfl ?_
  refine ok_bipush (v := 16) hc dJ6_bitCount_0f7a4_43 (by decide) ?_
  refine ok_iushr hc dJ6_bitCount_0f7a4_45 ?_
  refine ok_iadd hc dJ6_bitCount_0f7a4_46 ?_
  refine ok_lti (fun v5 => ?_)
  refine ok_istore_n [(0, .int v5)] hc dJ6_bitCount_0f7a4_47 rfl (Nat.le_of_ble_eq_true rfl) rfl ?_
  refine ok_iload_n 0 hc dJ6_bitCount_0f7a4_48 rfl rfl ?_
  refine ok_bipush (v := 63) hc dJ6_bitCount_0f7a4_49 (by decide) ?_
  refine ok_iand hc dJ6_bitCount_0f7a4_51 ?_
  exact ok_iret hc rfl dJ6_bitCount_0f7a4_52
def fJ7_fill_53178_L5_st (q0 : Nat) (nn : Nat) (a1 : Int32) (a3 : Int32) (rec : Int32 → St → Option (Unit × St)) (a2 : Int32) (S : St) : Option (Unit × St) :=
  if a3 ≤ a2 then (some ((), S)) else (if ib a2 nn then lt (wi S q0 (nt a2) a1) (fun S2 => rec (a2 + 1) S2) else none)
def fJ7_fill_53178_L5 (q0 : Nat) (nn : Nat) (a1 : Int32) (a3 : Int32) : Nat → Int32 → St → Option (Unit × St)
  | 0 => fun _ _ => none
  | n + 1 => fun a2 S => fJ7_fill_53178_L5_st q0 nn a1 a3 (fJ7_fill_53178_L5 q0 nn a1 a3 n) a2 S
def fJ7_fill_53178 (q0 : Nat) (nn : Nat) (a1 : Int32) (S : St) : Option (Unit × St) :=
  lt (Int32.ofNat nn) (fun (v1 : Int32) => fJ7_fill_53178_L5 q0 nn a1 v1 FU 0 S)
set_option maxRecDepth 100000 in
set_option maxHeartbeats 4000000 in
theorem tJ7_fill_53178_L5 {w : Wx} {Γ : Cx Unit} (hc : Cok Γ w vU mJ7_fill_53178) (q0 : Nat) (nn : Nat) (a1 : Int32) (a3 : Int32) (hq0 : Iar w q0 1 nn) : ∀ (n : Nat) (a2 : Int32) (S : St), Ok Γ w 5 [(0, rv Γ q0), (1, .int a1), (2, .int a2), (3, .int a3)] [] S (fJ7_fill_53178_L5 q0 nn a1 a3 n a2 S) := by
  intro n
  induction n with
  | zero =>
    intro a2 S
    exact ok_none
  | succ n ih =>
    intro a2 S
    show Ok Γ w 5 [(0, rv Γ q0), (1, .int a1), (2, .int a2), (3, .int a3)] [] S (fJ7_fill_53178_L5_st q0 nn a1 a3 (fJ7_fill_53178_L5 q0 nn a1 a3 n) a2 S)
    unfold fJ7_fill_53178_L5_st
    refine ok_iload_n 2 hc dJ7_fill_53178_5 rfl rfl ?_
    refine ok_iload_n 3 hc dJ7_fill_53178_6 rfl rfl ?_
    refine ok_icmp_ge_ite 20 hc dJ7_fill_53178_7 (by decide) (fun h1 => ?_) (fun h1 => ?_)
    · exact ok_vret hc rfl dJ7_fill_53178_20
    · refine ok_aload_n 0 hc dJ7_fill_53178_10 rfl rfl ?_
      refine ok_iload_n 2 hc dJ7_fill_53178_11 rfl rfl ?_
      refine ok_iload_n 1 hc dJ7_fill_53178_12 rfl rfl ?_
      refine ok_iast hc hq0 dJ7_fill_53178_13 (fun h3 => ?_)
      refine ok_ltS (fun S2 => ?_)
      refine ok_iinc (v := 1) 2 [(2, .int (a2 + 1)), (0, rv Γ q0), (1, .int a1), (3, .int a3)] hc dJ7_fill_53178_14 rfl (by decide) (Nat.le_of_ble_eq_true rfl) rfl ?_
      refine ok_goto 5 hc dJ7_fill_53178_17 (by decide) ?_
      refine ok_sub [1, 2, 0, 3] rfl ?_
      exact ih _ _
set_option maxRecDepth 100000 in
set_option maxHeartbeats 4000000 in
theorem tJ7_fill_53178 (w : Wx) (q0 : Nat) (nn : Nat) (a1 : Int32) (hq0 : Iar w q0 1 nn) (S : St) (q : Unit × St) (h : fJ7_fill_53178 q0 nn a1 S = some q) : MT vU w mJ7_fill_53178 (fun n0 => [.ref (n0 + q0), .int a1]) S q := by
  refine mt_of (by decide +kernel) (fun _ => Nat.le_of_ble_eq_true rfl) ?_
  intro Γ hc _
  rw [← h]
  show Ok Γ w 0 [(0, rv Γ q0), (1, .int a1)] [] S _
  unfold fJ7_fill_53178
  refine ok_iconst (v := 0) hc dJ7_fill_53178_0 (by decide) ?_
  refine ok_istore_n [(2, .int 0), (0, rv Γ q0), (1, .int a1)] hc dJ7_fill_53178_1 rfl (Nat.le_of_ble_eq_true rfl) rfl ?_
  refine ok_aload_n 1 hc dJ7_fill_53178_2 rfl rfl ?_
  refine ok_aleni hc hq0 dJ7_fill_53178_3 ?_
  refine ok_lti (fun v1 => ?_)
  refine ok_istore_n [(3, .int v1), (2, .int 0), (0, rv Γ q0), (1, .int a1)] hc dJ7_fill_53178_4 rfl (Nat.le_of_ble_eq_true rfl) rfl ?_
  refine ok_sub [2, 3, 1, 0] rfl ?_
  refine tJ7_fill_53178_L5 hc _ _ _ _ hq0  FU _ _
def fJ7_fill_d0a16_L6_st (q0 : Nat) (nn : Nat) (a1 : Int64) (a4 : Int32) (rec : Int32 → St → Option (Unit × St)) (a3 : Int32) (S : St) : Option (Unit × St) :=
  if a4 ≤ a3 then (some ((), S)) else (if ib a3 nn then lt (wj S q0 (nt a3) a1) (fun S2 => rec (a3 + 1) S2) else none)
def fJ7_fill_d0a16_L6 (q0 : Nat) (nn : Nat) (a1 : Int64) (a4 : Int32) : Nat → Int32 → St → Option (Unit × St)
  | 0 => fun _ _ => none
  | n + 1 => fun a3 S => fJ7_fill_d0a16_L6_st q0 nn a1 a4 (fJ7_fill_d0a16_L6 q0 nn a1 a4 n) a3 S
def fJ7_fill_d0a16 (q0 : Nat) (nn : Nat) (a1 : Int64) (S : St) : Option (Unit × St) :=
  lt (Int32.ofNat nn) (fun (v1 : Int32) => fJ7_fill_d0a16_L6 q0 nn a1 v1 FU 0 S)
set_option maxRecDepth 100000 in
set_option maxHeartbeats 4000000 in
theorem tJ7_fill_d0a16_L6 {w : Wx} {Γ : Cx Unit} (hc : Cok Γ w vU mJ7_fill_d0a16) (q0 : Nat) (nn : Nat) (a1 : Int64) (a4 : Int32) (hq0 : Iar w q0 3 nn) : ∀ (n : Nat) (a3 : Int32) (S : St), Ok Γ w 6 [(0, rv Γ q0), (1, .long a1), (3, .int a3), (4, .int a4)] [] S (fJ7_fill_d0a16_L6 q0 nn a1 a4 n a3 S) := by
  intro n
  induction n with
  | zero =>
    intro a3 S
    exact ok_none
  | succ n ih =>
    intro a3 S
    show Ok Γ w 6 [(0, rv Γ q0), (1, .long a1), (3, .int a3), (4, .int a4)] [] S (fJ7_fill_d0a16_L6_st q0 nn a1 a4 (fJ7_fill_d0a16_L6 q0 nn a1 a4 n) a3 S)
    unfold fJ7_fill_d0a16_L6_st
    refine ok_iload_n 2 hc dJ7_fill_d0a16_6 rfl rfl ?_
    refine ok_iload 3 hc dJ7_fill_d0a16_7 rfl ?_
    refine ok_icmp_ge_ite 22 hc dJ7_fill_d0a16_9 (by decide) (fun h1 => ?_) (fun h1 => ?_)
    · exact ok_vret hc rfl dJ7_fill_d0a16_22
    · refine ok_aload_n 0 hc dJ7_fill_d0a16_12 rfl rfl ?_
      refine ok_iload_n 2 hc dJ7_fill_d0a16_13 rfl rfl ?_
      refine ok_lload_n 1 hc dJ7_fill_d0a16_14 rfl rfl ?_
      refine ok_last hc hq0 dJ7_fill_d0a16_15 (fun h3 => ?_)
      refine ok_ltS (fun S2 => ?_)
      refine ok_iinc (v := 1) 2 [(3, .int (a3 + 1)), (0, rv Γ q0), (1, .long a1), (4, .int a4)] hc dJ7_fill_d0a16_16 rfl (by decide) (Nat.le_of_ble_eq_true rfl) rfl ?_
      refine ok_goto 6 hc dJ7_fill_d0a16_19 (by decide) ?_
      refine ok_sub [1, 2, 0, 3] rfl ?_
      exact ih _ _
set_option maxRecDepth 100000 in
set_option maxHeartbeats 4000000 in
theorem tJ7_fill_d0a16 (w : Wx) (q0 : Nat) (nn : Nat) (a1 : Int64) (hq0 : Iar w q0 3 nn) (S : St) (q : Unit × St) (h : fJ7_fill_d0a16 q0 nn a1 S = some q) : MT vU w mJ7_fill_d0a16 (fun n0 => [.ref (n0 + q0), .long a1]) S q := by
  refine mt_of (by decide +kernel) (fun _ => Nat.le_of_ble_eq_true rfl) ?_
  intro Γ hc _
  rw [← h]
  show Ok Γ w 0 [(0, rv Γ q0), (1, .long a1)] [] S _
  unfold fJ7_fill_d0a16
  refine ok_iconst (v := 0) hc dJ7_fill_d0a16_0 (by decide) ?_
  refine ok_istore_n [(3, .int 0), (0, rv Γ q0), (1, .long a1)] hc dJ7_fill_d0a16_1 rfl (Nat.le_of_ble_eq_true rfl) rfl ?_
  refine ok_aload_n 1 hc dJ7_fill_d0a16_2 rfl rfl ?_
  refine ok_alenj hc hq0 dJ7_fill_d0a16_3 ?_
  refine ok_lti (fun v1 => ?_)
  refine ok_istore [(4, .int v1), (3, .int 0), (0, rv Γ q0), (1, .long a1)] hc dJ7_fill_d0a16_4 (Nat.le_of_ble_eq_true rfl) rfl ?_
  refine ok_sub [2, 3, 1, 0] rfl ?_
  refine tJ7_fill_d0a16_L6 hc _ _ _ _ hq0  FU _ _
def fJ9_abs_067f4 (a0 : Int64) (S : St) : Option (Int64 × St) :=
  if 0 ≤ a0 then (some (a0, S)) else (some (-a0, S))
set_option maxRecDepth 100000 in
set_option maxHeartbeats 4000000 in
theorem tJ9_abs_067f4 (w : Wx) (a0 : Int64) (S : St) (q : Int64 × St) (h : fJ9_abs_067f4 a0 S = some q) : MT vL w mJ9_abs_067f4 (fun n0 => [.long a0]) S q := by
  refine mt_of (by decide +kernel) (fun _ => Nat.le_of_ble_eq_true rfl) ?_
  intro Γ hc _
  rw [← h]
  show Ok Γ w 0 [(0, .long a0)] [] S _
  unfold fJ9_abs_067f4
  refine ok_lload_n 0 hc dJ9_abs_067f4_0 rfl rfl ?_
  refine ok_lconst (v := 0) hc dJ9_abs_067f4_1 (by decide) ?_
  refine ok_lcmp_ge_ite 11 hc dJ9_abs_067f4_2 dJ9_abs_067f4_3 (by decide) (fun h1 => ?_) (fun h1 => ?_)
  · refine ok_lload_n 0 hc dJ9_abs_067f4_11 rfl rfl ?_
    exact ok_lret hc rfl dJ9_abs_067f4_12
  · refine ok_lload_n 0 hc dJ9_abs_067f4_6 rfl rfl ?_
    refine ok_lneg hc dJ9_abs_067f4_7 ?_
    refine ok_goto 12 hc dJ9_abs_067f4_8 (by decide) ?_
    exact ok_lret hc rfl dJ9_abs_067f4_12
def fJ9_abs_0f7a4 (a0 : Int32) (S : St) : Option (Int32 × St) :=
  if 0 ≤ a0 then (some (a0, S)) else (some (-a0, S))
set_option maxRecDepth 100000 in
set_option maxHeartbeats 4000000 in
theorem tJ9_abs_0f7a4 (w : Wx) (a0 : Int32) (S : St) (q : Int32 × St) (h : fJ9_abs_0f7a4 a0 S = some q) : MT vI w mJ9_abs_0f7a4 (fun n0 => [.int a0]) S q := by
  refine mt_of (by decide +kernel) (fun _ => Nat.le_of_ble_eq_true rfl) ?_
  intro Γ hc _
  rw [← h]
  show Ok Γ w 0 [(0, .int a0)] [] S _
  unfold fJ9_abs_0f7a4
  refine ok_iload_n 0 hc dJ9_abs_0f7a4_0 rfl rfl ?_
  refine ok_if_ge_ite 9 hc dJ9_abs_0f7a4_1 (by decide) (fun h1 => ?_) (fun h1 => ?_)
  · refine ok_iload_n 0 hc dJ9_abs_0f7a4_9 rfl rfl ?_
    exact ok_iret hc rfl dJ9_abs_0f7a4_10
  · refine ok_iload_n 0 hc dJ9_abs_0f7a4_4 rfl rfl ?_
    refine ok_ineg hc dJ9_abs_0f7a4_5 ?_
    refine ok_goto 10 hc dJ9_abs_0f7a4_6 (by decide) ?_
    exact ok_iret hc rfl dJ9_abs_0f7a4_10
def fJ9_floorDiv_7cf53 (a0 : Int32) (a1 : Int32) (S : St) : Option (Int32 × St) :=
  if ¬ a1 = 0 then (lt (a0 / a1) (fun (v2 : Int32) => if 0 ≤ (a0 ^^^ a1) then (some (v2, S)) else (if (v2 * a1) = a0 then (some (v2, S)) else (some (v2 - 1, S))))) else none
set_option maxRecDepth 100000 in
set_option maxHeartbeats 4000000 in
theorem tJ9_floorDiv_7cf53 (w : Wx) (a0 : Int32) (a1 : Int32) (S : St) (q : Int32 × St) (h : fJ9_floorDiv_7cf53 a0 a1 S = some q) : MT vI w mJ9_floorDiv_7cf53 (fun n0 => [.int a0, .int a1]) S q := by
  refine mt_of (by decide +kernel) (fun _ => Nat.le_of_ble_eq_true rfl) ?_
  intro Γ hc _
  rw [← h]
  show Ok Γ w 0 [(0, .int a0), (1, .int a1)] [] S _
  unfold fJ9_floorDiv_7cf53
  refine ok_iload_n 0 hc dJ9_floorDiv_7cf53_0 rfl rfl ?_
  refine ok_iload_n 1 hc dJ9_floorDiv_7cf53_1 rfl rfl ?_
  refine ok_idiv hc dJ9_floorDiv_7cf53_2 (fun h1 => ?_)
  refine ok_lti (fun v2 => ?_)
  refine ok_istore_n [(2, .int v2), (0, .int a0), (1, .int a1)] hc dJ9_floorDiv_7cf53_3 rfl (Nat.le_of_ble_eq_true rfl) rfl ?_
  refine ok_iload_n 1 hc dJ9_floorDiv_7cf53_4 rfl rfl ?_
  refine ok_iload_n 2 hc dJ9_floorDiv_7cf53_5 rfl rfl ?_
  refine ok_ixor hc dJ9_floorDiv_7cf53_6 ?_
  refine ok_if_ge_ite 21 hc dJ9_floorDiv_7cf53_7 (by decide) (fun h3 => ?_) (fun h3 => ?_)
  · refine ok_iload_n 0 hc dJ9_floorDiv_7cf53_21 rfl rfl ?_
    exact ok_iret hc rfl dJ9_floorDiv_7cf53_22
  · refine ok_iload_n 0 hc dJ9_floorDiv_7cf53_10 rfl rfl ?_
    refine ok_iload_n 2 hc dJ9_floorDiv_7cf53_11 rfl rfl ?_
    refine ok_imul hc dJ9_floorDiv_7cf53_12 ?_
    refine ok_iload_n 1 hc dJ9_floorDiv_7cf53_13 rfl rfl ?_
    refine ok_icmp_eq_ite 21 hc dJ9_floorDiv_7cf53_14 (by decide) (fun h4 => ?_) (fun h4 => ?_)
    · refine ok_iload_n 0 hc dJ9_floorDiv_7cf53_21 rfl rfl ?_
      exact ok_iret hc rfl dJ9_floorDiv_7cf53_22
    · refine ok_iload_n 0 hc dJ9_floorDiv_7cf53_17 rfl rfl ?_
      refine ok_iconst (v := 1) hc dJ9_floorDiv_7cf53_18 (by decide) ?_
      refine ok_isub hc dJ9_floorDiv_7cf53_19 ?_
      exact ok_iret hc rfl dJ9_floorDiv_7cf53_20
def fJ9_floorMod_7cf53 (a0 : Int32) (a1 : Int32) (S : St) : Option (Int32 × St) :=
  if ¬ a1 = 0 then (lt (ire a0 a1) (fun (v2 : Int32) => if 0 ≤ (a0 ^^^ a1) then (some (v2, S)) else (if v2 = 0 then (some (v2, S)) else (some (v2 + a1, S))))) else none
set_option maxRecDepth 100000 in
set_option maxHeartbeats 4000000 in
theorem tJ9_floorMod_7cf53 (w : Wx) (a0 : Int32) (a1 : Int32) (S : St) (q : Int32 × St) (h : fJ9_floorMod_7cf53 a0 a1 S = some q) : MT vI w mJ9_floorMod_7cf53 (fun n0 => [.int a0, .int a1]) S q := by
  refine mt_of (by decide +kernel) (fun _ => Nat.le_of_ble_eq_true rfl) ?_
  intro Γ hc _
  rw [← h]
  show Ok Γ w 0 [(0, .int a0), (1, .int a1)] [] S _
  unfold fJ9_floorMod_7cf53
  refine ok_iload_n 0 hc dJ9_floorMod_7cf53_0 rfl rfl ?_
  refine ok_iload_n 1 hc dJ9_floorMod_7cf53_1 rfl rfl ?_
  refine ok_irem hc dJ9_floorMod_7cf53_2 (fun h1 => ?_)
  refine ok_lti (fun v2 => ?_)
  refine ok_istore_n [(2, .int v2), (0, .int a0), (1, .int a1)] hc dJ9_floorMod_7cf53_3 rfl (Nat.le_of_ble_eq_true rfl) rfl ?_
  refine ok_iload_n 1 hc dJ9_floorMod_7cf53_4 rfl rfl ?_
  refine ok_iload_n 2 hc dJ9_floorMod_7cf53_5 rfl rfl ?_
  refine ok_ixor hc dJ9_floorMod_7cf53_6 ?_
  refine ok_if_ge_ite 18 hc dJ9_floorMod_7cf53_7 (by decide) (fun h3 => ?_) (fun h3 => ?_)
  · refine ok_iload_n 0 hc dJ9_floorMod_7cf53_18 rfl rfl ?_
    exact ok_iret hc rfl dJ9_floorMod_7cf53_19
  · refine ok_iload_n 0 hc dJ9_floorMod_7cf53_10 rfl rfl ?_
    refine ok_if_eq_ite 18 hc dJ9_floorMod_7cf53_11 (by decide) (fun h4 => ?_) (fun h4 => ?_)
    · refine ok_iload_n 0 hc dJ9_floorMod_7cf53_18 rfl rfl ?_
      exact ok_iret hc rfl dJ9_floorMod_7cf53_19
    · refine ok_iload_n 0 hc dJ9_floorMod_7cf53_14 rfl rfl ?_
      refine ok_iload_n 2 hc dJ9_floorMod_7cf53_15 rfl rfl ?_
      refine ok_iadd hc dJ9_floorMod_7cf53_16 ?_
      exact ok_iret hc rfl dJ9_floorMod_7cf53_17
def fJ9_max_7cf53 (a0 : Int32) (a1 : Int32) (S : St) : Option (Int32 × St) :=
  if a0 < a1 then (some (a1, S)) else (some (a0, S))
set_option maxRecDepth 100000 in
set_option maxHeartbeats 4000000 in
theorem tJ9_max_7cf53 (w : Wx) (a0 : Int32) (a1 : Int32) (S : St) (q : Int32 × St) (h : fJ9_max_7cf53 a0 a1 S = some q) : MT vI w mJ9_max_7cf53 (fun n0 => [.int a0, .int a1]) S q := by
  refine mt_of (by decide +kernel) (fun _ => Nat.le_of_ble_eq_true rfl) ?_
  intro Γ hc _
  rw [← h]
  show Ok Γ w 0 [(0, .int a0), (1, .int a1)] [] S _
  unfold fJ9_max_7cf53
  refine ok_iload_n 0 hc dJ9_max_7cf53_0 rfl rfl ?_
  refine ok_iload_n 1 hc dJ9_max_7cf53_1 rfl rfl ?_
  refine ok_icmp_lt_ite 9 hc dJ9_max_7cf53_2 (by decide) (fun h1 => ?_) (fun h1 => ?_)
  · refine ok_iload_n 1 hc dJ9_max_7cf53_9 rfl rfl ?_
    exact ok_iret hc rfl dJ9_max_7cf53_10
  · refine ok_iload_n 0 hc dJ9_max_7cf53_5 rfl rfl ?_
    refine ok_goto 10 hc dJ9_max_7cf53_6 (by decide) ?_
    exact ok_iret hc rfl dJ9_max_7cf53_10
def fJ9_max_f86c9 (a0 : Int64) (a2 : Int64) (S : St) : Option (Int64 × St) :=
  if a0 < a2 then (some (a2, S)) else (some (a0, S))
set_option maxRecDepth 100000 in
set_option maxHeartbeats 4000000 in
theorem tJ9_max_f86c9 (w : Wx) (a0 : Int64) (a2 : Int64) (S : St) (q : Int64 × St) (h : fJ9_max_f86c9 a0 a2 S = some q) : MT vL w mJ9_max_f86c9 (fun n0 => [.long a0, .long a2]) S q := by
  refine mt_of (by decide +kernel) (fun _ => Nat.le_of_ble_eq_true rfl) ?_
  intro Γ hc _
  rw [← h]
  show Ok Γ w 0 [(0, .long a0), (2, .long a2)] [] S _
  unfold fJ9_max_f86c9
  refine ok_lload_n 0 hc dJ9_max_f86c9_0 rfl rfl ?_
  refine ok_lload_n 1 hc dJ9_max_f86c9_1 rfl rfl ?_
  refine ok_lcmp_lt_ite 10 hc dJ9_max_f86c9_2 dJ9_max_f86c9_3 (by decide) (fun h1 => ?_) (fun h1 => ?_)
  · refine ok_lload_n 1 hc dJ9_max_f86c9_10 rfl rfl ?_
    exact ok_lret hc rfl dJ9_max_f86c9_11
  · refine ok_lload_n 0 hc dJ9_max_f86c9_6 rfl rfl ?_
    refine ok_goto 11 hc dJ9_max_f86c9_7 (by decide) ?_
    exact ok_lret hc rfl dJ9_max_f86c9_11
def fJ9_min_7cf53 (a0 : Int32) (a1 : Int32) (S : St) : Option (Int32 × St) :=
  if a1 < a0 then (some (a1, S)) else (some (a0, S))
set_option maxRecDepth 100000 in
set_option maxHeartbeats 4000000 in
theorem tJ9_min_7cf53 (w : Wx) (a0 : Int32) (a1 : Int32) (S : St) (q : Int32 × St) (h : fJ9_min_7cf53 a0 a1 S = some q) : MT vI w mJ9_min_7cf53 (fun n0 => [.int a0, .int a1]) S q := by
  refine mt_of (by decide +kernel) (fun _ => Nat.le_of_ble_eq_true rfl) ?_
  intro Γ hc _
  rw [← h]
  show Ok Γ w 0 [(0, .int a0), (1, .int a1)] [] S _
  unfold fJ9_min_7cf53
  refine ok_iload_n 0 hc dJ9_min_7cf53_0 rfl rfl ?_
  refine ok_iload_n 1 hc dJ9_min_7cf53_1 rfl rfl ?_
  refine ok_icmp_gt_ite 9 hc dJ9_min_7cf53_2 (by decide) (fun h1 => ?_) (fun h1 => ?_)
  · refine ok_iload_n 1 hc dJ9_min_7cf53_9 rfl rfl ?_
    exact ok_iret hc rfl dJ9_min_7cf53_10
  · refine ok_iload_n 0 hc dJ9_min_7cf53_5 rfl rfl ?_
    refine ok_goto 10 hc dJ9_min_7cf53_6 (by decide) ?_
    exact ok_iret hc rfl dJ9_min_7cf53_10
def fX11_within (a0 : Int32) (a1 : Int32) (a2 : Int32) (S : St) : Option (Int32 × St) :=
  if a0 < a1 then (some (0, S)) else (if a2 < a0 then (some (0, S)) else (some (1, S)))
set_option maxRecDepth 100000 in
set_option maxHeartbeats 4000000 in
theorem tX11_within (a0 : Int32) (a1 : Int32) (a2 : Int32) (S : St) (q : Int32 × St) (h : fX11_within a0 a1 a2 S = some q) : MT vI wX mX11_within (fun n0 => [.int a0, .int a1, .int a2]) S q := by
  refine mt_of (show plainFor yX11_within = true from by decide) (fun _ => Nat.le_of_ble_eq_true rfl) ?_
  intro Γ hc _
  rw [← h]
  show Ok Γ wX 0 [(0, .int a0), (1, .int a1), (2, .int a2)] [] S _
  unfold fX11_within
  refine ok_iload_n 0 hc dX11_within_0 rfl rfl ?_
  refine ok_iload_n 1 hc dX11_within_1 rfl rfl ?_
  refine ok_icmp_lt_ite 14 hc dX11_within_2 (by decide) (fun h1 => ?_) (fun h1 => ?_)
  · refine ok_iconst (v := 0) hc dX11_within_14 (by decide) ?_
    exact ok_zretK hc rfl (by decide) dX11_within_15
  · refine ok_iload_n 0 hc dX11_within_5 rfl rfl ?_
    refine ok_iload_n 2 hc dX11_within_6 rfl rfl ?_
    refine ok_icmp_gt_ite 14 hc dX11_within_7 (by decide) (fun h2 => ?_) (fun h2 => ?_)
    · refine ok_iconst (v := 0) hc dX11_within_14 (by decide) ?_
      exact ok_zretK hc rfl (by decide) dX11_within_15
    · refine ok_iconst (v := 1) hc dX11_within_10 (by decide) ?_
      refine ok_goto 15 hc dX11_within_11 (by decide) ?_
      exact ok_zretK hc rfl (by decide) dX11_within_15
def fX11_areRows (a0 : Int32) (a1 : Int32) (a2 : Int32) (S : St) : Option (Int32 × St) :=
  lt (if a0 = 2 then 1 else (if a0 = 3 then 1 else (if a0 = 5 then 1 else (if a0 = 7 then 1 else (if a0 = 11 then 1 else 0))))) (fun (v1 : Int32) => if v1 = 0 then (some (0, S)) else (bnd (fX11_within a1 1 (a0 - 1) S) (fun v4 S5 => if v4 = 0 then (some (0, S5)) else (bnd (fX11_within a2 1 (a0 - 1) S5) (fun v7 S8 => if v7 = 0 then (some (0, S8)) else (some (1, S8)))))))
set_option maxRecDepth 100000 in
set_option maxHeartbeats 4000000 in
theorem tX11_areRows (a0 : Int32) (a1 : Int32) (a2 : Int32) (S : St) (q : Int32 × St) (h : fX11_areRows a0 a1 a2 S = some q) : MT vI wX mX11_areRows (fun n0 => [.int a0, .int a1, .int a2]) S q := by
  refine mt_of (show plainFor yX11_areRows = true from by decide) (fun _ => Nat.le_of_ble_eq_true rfl) ?_
  intro Γ hc _
  rw [← h]
  show Ok Γ wX 0 [(0, .int a0), (1, .int a1), (2, .int a2)] [] S _
  unfold fX11_areRows
  refine ok_iload_n 0 hc dX11_areRows_0 rfl rfl ?_
  refine ok_iconst (v := 2) hc dX11_areRows_1 (by decide) ?_
  refine ok_lt (fun g => ∀ (v1 : Int32), Ok Γ wX 32 [(0, .int a0), (1, .int a1), (2, .int a2)] [.int v1] S (g v1)) ?_ (fun k2 hk2 => ?_)
  · intro v1
    refine ok_istore_n [(3, .int v1), (0, .int a0), (1, .int a1), (2, .int a2)] hc dX11_areRows_32 rfl (Nat.le_of_ble_eq_true rfl) rfl ?_
    refine ok_iload_n 0 hc dX11_areRows_33 rfl rfl ?_
    refine ok_if_eq_ite 63 hc dX11_areRows_34 (by decide) (fun h3 => ?_) (fun h3 => ?_)
    · refine ok_iconst (v := 0) hc dX11_areRows_63 (by decide) ?_
      exact ok_zretK hc rfl (by decide) dX11_areRows_64
    · refine ok_iload_n 2 hc dX11_areRows_37 rfl rfl ?_
      refine ok_iconst (v := 1) hc dX11_areRows_38 (by decide) ?_
      refine ok_iload_n 1 hc dX11_areRows_39 rfl rfl ?_
      refine ok_iconst (v := 1) hc dX11_areRows_40 (by decide) ?_
      refine ok_isub hc dX11_areRows_41 ?_
      refine ok_callSi (As := [.int a1, .int 1, .int (a0 - 1)]) (st := []) (fun n0 => [.int a1, .int 1, .int (a0 - 1)]) hc SS_X11_93 rfl rfl rfl ⟨Nat.le_of_ble_eq_true rfl, Nat.le_of_ble_eq_true rfl⟩ (Nat.le_of_ble_eq_true rfl) (fun q h => tX11_within a1 1 (a0 - 1) S q h) dX11_areRows_42 (fun v4 S5 => ?_)
      refine ok_if_eq_ite 63 hc dX11_areRows_45 (by decide) (fun h6 => ?_) (fun h6 => ?_)
      · refine ok_iconst (v := 0) hc dX11_areRows_63 (by decide) ?_
        exact ok_zretK hc rfl (by decide) dX11_areRows_64
      · refine ok_iload_n 3 hc dX11_areRows_48 rfl rfl ?_
        refine ok_iconst (v := 1) hc dX11_areRows_49 (by decide) ?_
        refine ok_iload_n 1 hc dX11_areRows_50 rfl rfl ?_
        refine ok_iconst (v := 1) hc dX11_areRows_51 (by decide) ?_
        refine ok_isub hc dX11_areRows_52 ?_
        refine ok_callSi (As := [.int a2, .int 1, .int (a0 - 1)]) (st := []) (fun n0 => [.int a2, .int 1, .int (a0 - 1)]) hc SS_X11_93 rfl rfl rfl ⟨Nat.le_of_ble_eq_true rfl, Nat.le_of_ble_eq_true rfl⟩ (Nat.le_of_ble_eq_true rfl) (fun q h => tX11_within a2 1 (a0 - 1) S5 q h) dX11_areRows_53 (fun v7 S8 => ?_)
        refine ok_if_eq_ite 63 hc dX11_areRows_56 (by decide) (fun h9 => ?_) (fun h9 => ?_)
        · refine ok_iconst (v := 0) hc dX11_areRows_63 (by decide) ?_
          exact ok_zretK hc rfl (by decide) dX11_areRows_64
        · refine ok_iconst (v := 1) hc dX11_areRows_59 (by decide) ?_
          refine ok_goto 64 hc dX11_areRows_60 (by decide) ?_
          exact ok_zretK hc rfl (by decide) dX11_areRows_64
  · refine ok_icmp_eq 27 hc dX11_areRows_2 (by decide) (fun h10 => ?_) (fun h10 => ?_)
    · rw [if_pos h10]
      refine ok_iconst (v := 1) hc dX11_areRows_27 (by decide) ?_
      refine ok_goto 32 hc dX11_areRows_28 (by decide) ?_
      exact hk2 _
    · rw [if_neg h10]
      refine ok_iload_n 0 hc dX11_areRows_5 rfl rfl ?_
      refine ok_iconst (v := 3) hc dX11_areRows_6 (by decide) ?_
      refine ok_icmp_eq 27 hc dX11_areRows_7 (by decide) (fun h11 => ?_) (fun h11 => ?_)
      · rw [if_pos h11]
        refine ok_iconst (v := 1) hc dX11_areRows_27 (by decide) ?_
        refine ok_goto 32 hc dX11_areRows_28 (by decide) ?_
        exact hk2 _
      · rw [if_neg h11]
        refine ok_iload_n 0 hc dX11_areRows_10 rfl rfl ?_
        refine ok_iconst (v := 5) hc dX11_areRows_11 (by decide) ?_
        refine ok_icmp_eq 27 hc dX11_areRows_12 (by decide) (fun h12 => ?_) (fun h12 => ?_)
        · rw [if_pos h12]
          refine ok_iconst (v := 1) hc dX11_areRows_27 (by decide) ?_
          refine ok_goto 32 hc dX11_areRows_28 (by decide) ?_
          exact hk2 _
        · rw [if_neg h12]
          refine ok_iload_n 0 hc dX11_areRows_15 rfl rfl ?_
          refine ok_bipush (v := 7) hc dX11_areRows_16 (by decide) ?_
          refine ok_icmp_eq 27 hc dX11_areRows_18 (by decide) (fun h13 => ?_) (fun h13 => ?_)
          · rw [if_pos h13]
            refine ok_iconst (v := 1) hc dX11_areRows_27 (by decide) ?_
            refine ok_goto 32 hc dX11_areRows_28 (by decide) ?_
            exact hk2 _
          · rw [if_neg h13]
            refine ok_iload_n 0 hc dX11_areRows_21 rfl rfl ?_
            refine ok_bipush (v := 11) hc dX11_areRows_22 (by decide) ?_
            refine ok_icmp_ne 31 hc dX11_areRows_24 (by decide) (fun h14 => ?_) (fun h14 => ?_)
            · rw [if_neg h14]
              refine ok_iconst (v := 0) hc dX11_areRows_31 (by decide) ?_
              exact hk2 _
            · rw [if_pos h14]
              refine ok_iconst (v := 1) hc dX11_areRows_27 (by decide) ?_
              refine ok_goto 32 hc dX11_areRows_28 (by decide) ?_
              exact hk2 _
def fX11_power_L5_st (a0 : Int32) (a1 : Int32) (rec : Int64 → Int32 → St → Option (Int64 × St)) (a2 : Int64) (a4 : Int32) (S : St) : Option (Int64 × St) :=
  if a1 ≤ a4 then (some (a2, S)) else (lt (a2 * a0.toInt64) (fun (v2 : Int64) => rec v2 (a4 + 1) S))
def fX11_power_L5 (a0 : Int32) (a1 : Int32) : Nat → Int64 → Int32 → St → Option (Int64 × St)
  | 0 => fun _ _ _ => none
  | n + 1 => fun a2 a4 S => fX11_power_L5_st a0 a1 (fX11_power_L5 a0 a1 n) a2 a4 S
def fX11_power (a0 : Int32) (a1 : Int32) (S : St) : Option (Int64 × St) :=
  fX11_power_L5 a0 a1 FU 1 0 S
set_option maxRecDepth 100000 in
set_option maxHeartbeats 4000000 in
theorem tX11_power_L5 {Γ : Cx Int64} (hc : Cok Γ wX vL mX11_power) (a0 : Int32) (a1 : Int32) : ∀ (n : Nat) (a2 : Int64) (a4 : Int32) (S : St), Ok Γ wX 5 [(0, .int a0), (1, .int a1), (2, .long a2), (4, .int a4)] [] S (fX11_power_L5 a0 a1 n a2 a4 S) := by
  intro n
  induction n with
  | zero =>
    intro a2 a4 S
    exact ok_none
  | succ n ih =>
    intro a2 a4 S
    show Ok Γ wX 5 [(0, .int a0), (1, .int a1), (2, .long a2), (4, .int a4)] [] S (fX11_power_L5_st a0 a1 (fX11_power_L5 a0 a1 n) a2 a4 S)
    unfold fX11_power_L5_st
    refine ok_iload 3 hc dX11_power_5 rfl ?_
    refine ok_iload_n 1 hc dX11_power_7 rfl rfl ?_
    refine ok_icmp_ge_ite 22 hc dX11_power_8 (by decide) (fun h1 => ?_) (fun h1 => ?_)
    · refine ok_lload_n 2 hc dX11_power_22 rfl rfl ?_
      exact ok_lret hc rfl dX11_power_23
    · refine ok_lload_n 2 hc dX11_power_11 rfl rfl ?_
      refine ok_iload_n 0 hc dX11_power_12 rfl rfl ?_
      refine ok_i2l hc dX11_power_13 ?_
      refine ok_lmul hc dX11_power_14 ?_
      refine ok_ltl (fun v2 => ?_)
      refine ok_lstore_n [(2, .long v2), (0, .int a0), (1, .int a1), (4, .int a4)] hc dX11_power_15 rfl (Nat.le_of_ble_eq_true rfl) rfl ?_
      refine ok_iinc (v := 1) 3 [(4, .int (a4 + 1)), (2, .long v2), (0, .int a0), (1, .int a1)] hc dX11_power_16 rfl (by decide) (Nat.le_of_ble_eq_true rfl) rfl ?_
      refine ok_goto 5 hc dX11_power_19 (by decide) ?_
      refine ok_sub [2, 3, 1, 0] rfl ?_
      exact ih _ _ _
set_option maxRecDepth 100000 in
set_option maxHeartbeats 4000000 in
theorem tX11_power (a0 : Int32) (a1 : Int32) (S : St) (q : Int64 × St) (h : fX11_power a0 a1 S = some q) : MT vL wX mX11_power (fun n0 => [.int a0, .int a1]) S q := by
  refine mt_of (show plainFor yX11_power = true from by decide) (fun _ => Nat.le_of_ble_eq_true rfl) ?_
  intro Γ hc _
  rw [← h]
  show Ok Γ wX 0 [(0, .int a0), (1, .int a1)] [] S _
  unfold fX11_power
  refine ok_lconst (v := 1) hc dX11_power_0 (by decide) ?_
  refine ok_lstore_n [(2, .long 1), (0, .int a0), (1, .int a1)] hc dX11_power_1 rfl (Nat.le_of_ble_eq_true rfl) rfl ?_
  refine ok_iconst (v := 0) hc dX11_power_2 (by decide) ?_
  refine ok_istore [(4, .int 0), (2, .long 1), (0, .int a0), (1, .int a1)] hc dX11_power_3 (Nat.le_of_ble_eq_true rfl) rfl ?_
  refine ok_sub [2, 3, 1, 0] rfl ?_
  refine tX11_power_L5 hc _ _   FU _ _ _
def fX11_chanceOfAtMost_L8_st (kx0 : Int64 → St → Option (Int32 × St)) (a0 : Int32) (a1 : Int32) (a2 : Int32) (rec : Int64 → Int64 → Int32 → St → Option (Int32 × St)) (a3 : Int64) (a5 : Int64) (a7 : Int32) (S : St) : Option (Int32 × St) :=
  if a0 < a7 then (kx0 a3 S) else (bnd (fX11_power a2 a7 S) (fun v2 S3 => bnd (fX11_power (100 - a2) (a1 - a7) S3) (fun v4 S5 => lt (a3 + ((a5 * v2) * v4)) (fun (v6 : Int64) => if ¬ ((a7 + 1).toInt64) = 0 then (lt ((a5 * ((a1 - a7).toInt64)) / ((a7 + 1).toInt64)) (fun (v8 : Int64) => rec v6 v8 (a7 + 1) S5)) else none))))
def fX11_chanceOfAtMost_L8 (kx0 : Int64 → St → Option (Int32 × St)) (a0 : Int32) (a1 : Int32) (a2 : Int32) : Nat → Int64 → Int64 → Int32 → St → Option (Int32 × St)
  | 0 => fun _ _ _ _ => none
  | n + 1 => fun a3 a5 a7 S => fX11_chanceOfAtMost_L8_st kx0 a0 a1 a2 (fX11_chanceOfAtMost_L8 kx0 a0 a1 a2 n) a3 a5 a7 S
def fX11_chanceOfAtMost (a0 : Int32) (a1 : Int32) (a2 : Int32) (S : St) : Option (Int32 × St) :=
  fX11_chanceOfAtMost_L8 (fun (v1 : Int64) (S2 : St) => jn (fun (v3 : Int64) (S4 : St) => some (v3.toInt32, S4)) (fun k5 => if 3 < a1 then (bnd (fX11_power 100 (a1 - 3) S2) (fun v7 S8 => if ¬ v7 = 0 then (k5 (v1 / v7) S8) else none)) else (bnd (fX11_power 100 (3 - a1) S2) (fun v10 S11 => k5 (v1 * v10) S11)))) a0 a1 a2 FU 0 1 0 S
set_option maxRecDepth 100000 in
set_option maxHeartbeats 4000000 in
theorem tX11_chanceOfAtMost_L8 {Γ : Cx Int32} (hc : Cok Γ wX vI mX11_chanceOfAtMost) (kx0 : Int64 → St → Option (Int32 × St)) (a0 : Int32) (a1 : Int32) (a2 : Int32) (hx0 : ∀ (a3 : Int64) (S : St), Ok Γ wX 60 [(1, .int a1), (3, .long a3)] [] S (kx0 a3 S)) : ∀ (n : Nat) (a3 : Int64) (a5 : Int64) (a7 : Int32) (S : St), Ok Γ wX 8 [(0, .int a0), (1, .int a1), (2, .int a2), (3, .long a3), (5, .long a5), (7, .int a7)] [] S (fX11_chanceOfAtMost_L8 kx0 a0 a1 a2 n a3 a5 a7 S) := by
  intro n
  induction n with
  | zero =>
    intro a3 a5 a7 S
    exact ok_none
  | succ n ih =>
    intro a3 a5 a7 S
    show Ok Γ wX 8 [(0, .int a0), (1, .int a1), (2, .int a2), (3, .long a3), (5, .long a5), (7, .int a7)] [] S (fX11_chanceOfAtMost_L8_st kx0 a0 a1 a2 (fX11_chanceOfAtMost_L8 kx0 a0 a1 a2 n) a3 a5 a7 S)
    unfold fX11_chanceOfAtMost_L8_st
    refine ok_iload 5 hc dX11_chanceOfAtMost_8 rfl ?_
    refine ok_iload_n 0 hc dX11_chanceOfAtMost_10 rfl rfl ?_
    refine ok_icmp_gt_ite 60 hc dX11_chanceOfAtMost_11 (by decide) (fun h1 => ?_) (fun h1 => ?_)
    · refine ok_sub [1, 3] rfl ?_
      exact hx0 _ _
    · refine ok_lload_n 3 hc dX11_chanceOfAtMost_14 rfl rfl ?_
      refine ok_lload 4 hc dX11_chanceOfAtMost_15 rfl ?_
      refine ok_iload_n 2 hc dX11_chanceOfAtMost_17 rfl rfl ?_
      refine ok_iload 5 hc dX11_chanceOfAtMost_18 rfl ?_
      refine ok_callSl (As := [.int a2, .int a7]) (st := [.long a5, .long a3]) (fun n0 => [.int a2, .int a7]) hc SS_X11_426 rfl rfl rfl ⟨Nat.le_of_ble_eq_true rfl, Nat.le_of_ble_eq_true rfl⟩ (Nat.le_of_ble_eq_true rfl) (fun q h => tX11_power a2 a7 S q h) dX11_chanceOfAtMost_20 (fun v2 S3 => ?_)
      refine ok_lmul hc dX11_chanceOfAtMost_23 ?_
      refine ok_bipush (v := 100) hc dX11_chanceOfAtMost_24 (by decide) ?_
      refine ok_iload_n 2 hc dX11_chanceOfAtMost_26 rfl rfl ?_
      refine ok_isub hc dX11_chanceOfAtMost_27 ?_
      refine ok_iload_n 1 hc dX11_chanceOfAtMost_28 rfl rfl ?_
      refine ok_iload 5 hc dX11_chanceOfAtMost_29 rfl ?_
      refine ok_isub hc dX11_chanceOfAtMost_31 ?_
      refine ok_callSl (As := [.int (100 - a2), .int (a1 - a7)]) (st := [.long (a5 * v2), .long a3]) (fun n0 => [.int (100 - a2), .int (a1 - a7)]) hc SS_X11_426 rfl rfl rfl ⟨Nat.le_of_ble_eq_true rfl, Nat.le_of_ble_eq_true rfl⟩ (Nat.le_of_ble_eq_true rfl) (fun q h => tX11_power (100 - a2) (a1 - a7) S3 q h) dX11_chanceOfAtMost_32 (fun v4 S5 => ?_)
      refine ok_lmul hc dX11_chanceOfAtMost_35 ?_
      refine ok_ladd hc dX11_chanceOfAtMost_36 ?_
      refine ok_ltl (fun v6 => ?_)
      refine ok_lstore_n [(3, .long v6), (0, .int a0), (1, .int a1), (2, .int a2), (5, .long a5), (7, .int a7)] hc dX11_chanceOfAtMost_37 rfl (Nat.le_of_ble_eq_true rfl) rfl ?_
      refine ok_lload 4 hc dX11_chanceOfAtMost_38 rfl ?_
      refine ok_iload_n 2 hc dX11_chanceOfAtMost_40 rfl rfl ?_
      refine ok_iload 5 hc dX11_chanceOfAtMost_41 rfl ?_
      refine ok_isub hc dX11_chanceOfAtMost_43 ?_
      refine ok_i2l hc dX11_chanceOfAtMost_44 ?_
      refine ok_lmul hc dX11_chanceOfAtMost_45 ?_
      refine ok_iload 5 hc dX11_chanceOfAtMost_46 rfl ?_
      refine ok_iconst (v := 1) hc dX11_chanceOfAtMost_48 (by decide) ?_
      refine ok_iadd hc dX11_chanceOfAtMost_49 ?_
      refine ok_i2l hc dX11_chanceOfAtMost_50 ?_
      refine ok_ldiv hc dX11_chanceOfAtMost_51 (fun h7 => ?_)
      refine ok_ltl (fun v8 => ?_)
      refine ok_lstore [(5, .long v8), (3, .long v6), (0, .int a0), (1, .int a1), (2, .int a2), (7, .int a7)] hc dX11_chanceOfAtMost_52 (Nat.le_of_ble_eq_true rfl) rfl ?_
      refine ok_iinc (v := 1) 5 [(7, .int (a7 + 1)), (5, .long v8), (3, .long v6), (0, .int a0), (1, .int a1), (2, .int a2)] hc dX11_chanceOfAtMost_54 rfl (by decide) (Nat.le_of_ble_eq_true rfl) rfl ?_
      refine ok_goto 8 hc dX11_chanceOfAtMost_57 (by decide) ?_
      refine ok_sub [3, 4, 5, 2, 1, 0] rfl ?_
      exact ih _ _ _ _
set_option maxRecDepth 100000 in
set_option maxHeartbeats 4000000 in
theorem tX11_chanceOfAtMost (a0 : Int32) (a1 : Int32) (a2 : Int32) (S : St) (q : Int32 × St) (h : fX11_chanceOfAtMost a0 a1 a2 S = some q) : MT vI wX mX11_chanceOfAtMost (fun n0 => [.int a0, .int a1, .int a2]) S q := by
  refine mt_of (show plainFor yX11_chanceOfAtMost = true from by decide) (fun _ => Nat.le_of_ble_eq_true rfl) ?_
  intro Γ hc _
  rw [← h]
  show Ok Γ wX 0 [(0, .int a0), (1, .int a1), (2, .int a2)] [] S _
  unfold fX11_chanceOfAtMost
  refine ok_lconst (v := 0) hc dX11_chanceOfAtMost_0 (by decide) ?_
  refine ok_lstore_n [(3, .long 0), (0, .int a0), (1, .int a1), (2, .int a2)] hc dX11_chanceOfAtMost_1 rfl (Nat.le_of_ble_eq_true rfl) rfl ?_
  refine ok_lconst (v := 1) hc dX11_chanceOfAtMost_2 (by decide) ?_
  refine ok_lstore [(5, .long 1), (3, .long 0), (0, .int a0), (1, .int a1), (2, .int a2)] hc dX11_chanceOfAtMost_3 (Nat.le_of_ble_eq_true rfl) rfl ?_
  refine ok_iconst (v := 0) hc dX11_chanceOfAtMost_5 (by decide) ?_
  refine ok_istore [(7, .int 0), (5, .long 1), (3, .long 0), (0, .int a0), (1, .int a1), (2, .int a2)] hc dX11_chanceOfAtMost_6 (Nat.le_of_ble_eq_true rfl) rfl ?_
  refine ok_sub [3, 4, 5, 2, 1, 0] rfl ?_
  refine tX11_chanceOfAtMost_L8 hc _ _ _ _  ?_ FU _ _ _ _
  · intro v1 S2
    refine ok_iload_n 0 hc dX11_chanceOfAtMost_60 rfl rfl ?_
    refine ok_iconst (v := 3) hc dX11_chanceOfAtMost_61 (by decide) ?_
    refine ok_jn (fun g => ∀ (v3 : Int64) (S4 : St), Ok Γ wX 88 [] [.long v3] S4 (g v3 S4)) ?_ (fun k5 hk5 => ?_)
    · intro v3 S4
      refine ok_l2i hc dX11_chanceOfAtMost_88 ?_
      exact ok_iret hc rfl dX11_chanceOfAtMost_89
    · refine ok_icmp_gt_ite 78 hc dX11_chanceOfAtMost_62 (by decide) (fun h6 => ?_) (fun h6 => ?_)
      · refine ok_lload_n 1 hc dX11_chanceOfAtMost_78 rfl rfl ?_
        refine ok_bipush (v := 100) hc dX11_chanceOfAtMost_79 (by decide) ?_
        refine ok_iload_n 0 hc dX11_chanceOfAtMost_81 rfl rfl ?_
        refine ok_iconst (v := 3) hc dX11_chanceOfAtMost_82 (by decide) ?_
        refine ok_isub hc dX11_chanceOfAtMost_83 ?_
        refine ok_callSl (As := [.int 100, .int (a1 - 3)]) (st := [.long v1]) (fun n0 => [.int 100, .int (a1 - 3)]) hc SS_X11_426 rfl rfl rfl ⟨Nat.le_of_ble_eq_true rfl, Nat.le_of_ble_eq_true rfl⟩ (Nat.le_of_ble_eq_true rfl) (fun q h => tX11_power 100 (a1 - 3) S2 q h) dX11_chanceOfAtMost_84 (fun v7 S8 => ?_)
        refine ok_ldiv hc dX11_chanceOfAtMost_87 (fun h9 => ?_)
        refine ok_sub [] rfl ?_
        exact hk5 _ _
      · refine ok_lload_n 1 hc dX11_chanceOfAtMost_65 rfl rfl ?_
        refine ok_bipush (v := 100) hc dX11_chanceOfAtMost_66 (by decide) ?_
        refine ok_iconst (v := 3) hc dX11_chanceOfAtMost_68 (by decide) ?_
        refine ok_iload_n 0 hc dX11_chanceOfAtMost_69 rfl rfl ?_
        refine ok_isub hc dX11_chanceOfAtMost_70 ?_
        refine ok_callSl (As := [.int 100, .int (3 - a1)]) (st := [.long v1]) (fun n0 => [.int 100, .int (3 - a1)]) hc SS_X11_426 rfl rfl rfl ⟨Nat.le_of_ble_eq_true rfl, Nat.le_of_ble_eq_true rfl⟩ (Nat.le_of_ble_eq_true rfl) (fun q h => tX11_power 100 (3 - a1) S2 q h) dX11_chanceOfAtMost_71 (fun v10 S11 => ?_)
        refine ok_lmul hc dX11_chanceOfAtMost_74 ?_
        refine ok_goto 88 hc dX11_chanceOfAtMost_75 (by decide) ?_
        refine ok_sub [] rfl ?_
        exact hk5 _ _
def fX11_isSheet (a0 : Int32) (S : St) : Option (Int32 × St) :=
  bnd (fX11_within a0 0 5 S) (fun v1 S2 => if b01 v1 then some (v1, S2) else none)
set_option maxRecDepth 100000 in
set_option maxHeartbeats 4000000 in
theorem tX11_isSheet (a0 : Int32) (S : St) (q : Int32 × St) (h : fX11_isSheet a0 S = some q) : MT vI wX mX11_isSheet (fun n0 => [.int a0]) S q := by
  refine mt_of (show plainFor yX11_isSheet = true from by decide) (fun _ => Nat.le_of_ble_eq_true rfl) ?_
  intro Γ hc _
  rw [← h]
  show Ok Γ wX 0 [(0, .int a0)] [] S _
  unfold fX11_isSheet
  refine ok_iload_n 0 hc dX11_isSheet_0 rfl rfl ?_
  refine ok_iconst (v := 0) hc dX11_isSheet_1 (by decide) ?_
  refine ok_iconst (v := 5) hc dX11_isSheet_2 (by decide) ?_
  refine ok_callSi (As := [.int a0, .int 0, .int 5]) (st := []) (fun n0 => [.int a0, .int 0, .int 5]) hc SS_X11_93 rfl rfl rfl ⟨Nat.le_of_ble_eq_true rfl, Nat.le_of_ble_eq_true rfl⟩ (Nat.le_of_ble_eq_true rfl) (fun q h => tX11_within a0 0 5 S q h) dX11_isSheet_3 (fun v1 S2 => ?_)
  exact ok_zret hc rfl dX11_isSheet_6
def fX11_isForm (a0 : Int32) (S : St) : Option (Int32 × St) :=
  bnd (fX11_within a0 0 3 S) (fun v1 S2 => if b01 v1 then some (v1, S2) else none)
set_option maxRecDepth 100000 in
set_option maxHeartbeats 4000000 in
theorem tX11_isForm (a0 : Int32) (S : St) (q : Int32 × St) (h : fX11_isForm a0 S = some q) : MT vI wX mX11_isForm (fun n0 => [.int a0]) S q := by
  refine mt_of (show plainFor yX11_isForm = true from by decide) (fun _ => Nat.le_of_ble_eq_true rfl) ?_
  intro Γ hc _
  rw [← h]
  show Ok Γ wX 0 [(0, .int a0)] [] S _
  unfold fX11_isForm
  refine ok_iload_n 0 hc dX11_isForm_0 rfl rfl ?_
  refine ok_iconst (v := 0) hc dX11_isForm_1 (by decide) ?_
  refine ok_iconst (v := 3) hc dX11_isForm_2 (by decide) ?_
  refine ok_callSi (As := [.int a0, .int 0, .int 3]) (st := []) (fun n0 => [.int a0, .int 0, .int 3]) hc SS_X11_93 rfl rfl rfl ⟨Nat.le_of_ble_eq_true rfl, Nat.le_of_ble_eq_true rfl⟩ (Nat.le_of_ble_eq_true rfl) (fun q h => tX11_within a0 0 3 S q h) dX11_isForm_3 (fun v1 S2 => ?_)
  exact ok_zret hc rfl dX11_isForm_6
def fX11_meetings_L6_st (a0 : Int32) (a1 : Int32) (a2 : Int32) (a3 : Int32) (rec : Int32 → Int32 → St → Option (Int32 × St)) (a4 : Int32) (a5 : Int32) (S : St) : Option (Int32 × St) :=
  if a0 ≤ a5 then (some (a4, S)) else (if ¬ a0 = 0 then (jn (fun (v3 : Int32) => rec v3 (a5 + 1) S) (fun k4 => if (ire (((a1 * a5) * a5) - ((a2 * (a5 + a3)) * (a5 + a3))) a0) = 0 then (k4 (a4 + 1)) else (k4 a4))) else none)
def fX11_meetings_L6 (a0 : Int32) (a1 : Int32) (a2 : Int32) (a3 : Int32) : Nat → Int32 → Int32 → St → Option (Int32 × St)
  | 0 => fun _ _ _ => none
  | n + 1 => fun a4 a5 S => fX11_meetings_L6_st a0 a1 a2 a3 (fX11_meetings_L6 a0 a1 a2 a3 n) a4 a5 S
def fX11_meetings (a0 : Int32) (a1 : Int32) (a2 : Int32) (a3 : Int32) (S : St) : Option (Int32 × St) :=
  fX11_meetings_L6 a0 a1 a2 a3 FU 0 0 S
set_option maxRecDepth 100000 in
set_option maxHeartbeats 4000000 in
theorem tX11_meetings_L6 {Γ : Cx Int32} (hc : Cok Γ wX vI mX11_meetings) (a0 : Int32) (a1 : Int32) (a2 : Int32) (a3 : Int32) : ∀ (n : Nat) (a4 : Int32) (a5 : Int32) (S : St), Ok Γ wX 6 [(0, .int a0), (1, .int a1), (2, .int a2), (3, .int a3), (4, .int a4), (5, .int a5)] [] S (fX11_meetings_L6 a0 a1 a2 a3 n a4 a5 S) := by
  intro n
  induction n with
  | zero =>
    intro a4 a5 S
    exact ok_none
  | succ n ih =>
    intro a4 a5 S
    show Ok Γ wX 6 [(0, .int a0), (1, .int a1), (2, .int a2), (3, .int a3), (4, .int a4), (5, .int a5)] [] S (fX11_meetings_L6_st a0 a1 a2 a3 (fX11_meetings_L6 a0 a1 a2 a3 n) a4 a5 S)
    unfold fX11_meetings_L6_st
    refine ok_iload 5 hc dX11_meetings_6 rfl ?_
    refine ok_iload_n 0 hc dX11_meetings_8 rfl rfl ?_
    refine ok_icmp_ge_ite 45 hc dX11_meetings_9 (by decide) (fun h1 => ?_) (fun h1 => ?_)
    · refine ok_iload 4 hc dX11_meetings_45 rfl ?_
      exact ok_iret hc rfl dX11_meetings_47
    · refine ok_iload_n 1 hc dX11_meetings_12 rfl rfl ?_
      refine ok_iload 5 hc dX11_meetings_13 rfl ?_
      refine ok_imul hc dX11_meetings_15 ?_
      refine ok_iload 5 hc dX11_meetings_16 rfl ?_
      refine ok_imul hc dX11_meetings_18 ?_
      refine ok_iload_n 2 hc dX11_meetings_19 rfl rfl ?_
      refine ok_iload 5 hc dX11_meetings_20 rfl ?_
      refine ok_iload_n 3 hc dX11_meetings_22 rfl rfl ?_
      refine ok_iadd hc dX11_meetings_23 ?_
      refine ok_imul hc dX11_meetings_24 ?_
      refine ok_iload 5 hc dX11_meetings_25 rfl ?_
      refine ok_iload_n 3 hc dX11_meetings_27 rfl rfl ?_
      refine ok_iadd hc dX11_meetings_28 ?_
      refine ok_imul hc dX11_meetings_29 ?_
      refine ok_isub hc dX11_meetings_30 ?_
      refine ok_iload_n 0 hc dX11_meetings_31 rfl rfl ?_
      refine ok_irem hc dX11_meetings_32 (fun h2 => ?_)
      refine ok_jn (fun g => ∀ (v3 : Int32), Ok Γ wX 39 [(0, .int a0), (1, .int a1), (2, .int a2), (3, .int a3), (4, .int v3), (5, .int a5)] [] S (g v3)) ?_ (fun k4 hk4 => ?_)
      · intro v3
        refine ok_iinc (v := 1) 5 [(5, .int (a5 + 1)), (0, .int a0), (1, .int a1), (2, .int a2), (3, .int a3), (4, .int v3)] hc dX11_meetings_39 rfl (by decide) (Nat.le_of_ble_eq_true rfl) rfl ?_
        refine ok_goto 6 hc dX11_meetings_42 (by decide) ?_
        refine ok_sub [1, 2, 3, 4, 5, 0] rfl ?_
        exact ih _ _ _
      · refine ok_if_ne_ite 39 hc dX11_meetings_33 (by decide) (fun h5 => ?_) (fun h5 => ?_)
        · exact hk4 _
        · refine ok_iinc (v := 1) 4 [(4, .int (a4 + 1)), (0, .int a0), (1, .int a1), (2, .int a2), (3, .int a3), (5, .int a5)] hc dX11_meetings_36 rfl (by decide) (Nat.le_of_ble_eq_true rfl) rfl ?_
          refine ok_sub [1, 2, 3, 4, 0, 5] rfl ?_
          exact hk4 _
set_option maxRecDepth 100000 in
set_option maxHeartbeats 4000000 in
theorem tX11_meetings (a0 : Int32) (a1 : Int32) (a2 : Int32) (a3 : Int32) (S : St) (q : Int32 × St) (h : fX11_meetings a0 a1 a2 a3 S = some q) : MT vI wX mX11_meetings (fun n0 => [.int a0, .int a1, .int a2, .int a3]) S q := by
  refine mt_of (show plainFor yX11_meetings = true from by decide) (fun _ => Nat.le_of_ble_eq_true rfl) ?_
  intro Γ hc _
  rw [← h]
  show Ok Γ wX 0 [(0, .int a0), (1, .int a1), (2, .int a2), (3, .int a3)] [] S _
  unfold fX11_meetings
  refine ok_iconst (v := 0) hc dX11_meetings_0 (by decide) ?_
  refine ok_istore [(4, .int 0), (0, .int a0), (1, .int a1), (2, .int a2), (3, .int a3)] hc dX11_meetings_1 (Nat.le_of_ble_eq_true rfl) rfl ?_
  refine ok_iconst (v := 0) hc dX11_meetings_3 (by decide) ?_
  refine ok_istore [(5, .int 0), (4, .int 0), (0, .int a0), (1, .int a1), (2, .int a2), (3, .int a3)] hc dX11_meetings_4 (Nat.le_of_ble_eq_true rfl) rfl ?_
  refine ok_sub [2, 3, 4, 5, 1, 0] rfl ?_
  refine tX11_meetings_L6 hc _ _ _ _   FU _ _ _
def fX11_isAsked (a0 : Int32) (a1 : Int32) (a2 : Int32) (S : St) : Option (Int32 × St) :=
  bnd (fX11_within a0 0 5 S) (fun v1 S2 => if v1 = 0 then (some (0, S2)) else (bnd (fX11_within a1 0 11 S2) (fun v4 S5 => if v4 = 0 then (some (0, S5)) else (bnd (fX11_within a2 0 99 S5) (fun v7 S8 => if v7 = 0 then (some (0, S8)) else (some (1, S8)))))))
set_option maxRecDepth 100000 in
set_option maxHeartbeats 4000000 in
theorem tX11_isAsked (a0 : Int32) (a1 : Int32) (a2 : Int32) (S : St) (q : Int32 × St) (h : fX11_isAsked a0 a1 a2 S = some q) : MT vI wX mX11_isAsked (fun n0 => [.int a0, .int a1, .int a2]) S q := by
  refine mt_of (show plainFor yX11_isAsked = true from by decide) (fun _ => Nat.le_of_ble_eq_true rfl) ?_
  intro Γ hc _
  rw [← h]
  show Ok Γ wX 0 [(0, .int a0), (1, .int a1), (2, .int a2)] [] S _
  unfold fX11_isAsked
  refine ok_iload_n 0 hc dX11_isAsked_0 rfl rfl ?_
  refine ok_iconst (v := 0) hc dX11_isAsked_1 (by decide) ?_
  refine ok_iconst (v := 5) hc dX11_isAsked_2 (by decide) ?_
  refine ok_callSi (As := [.int a0, .int 0, .int 5]) (st := []) (fun n0 => [.int a0, .int 0, .int 5]) hc SS_X11_93 rfl rfl rfl ⟨Nat.le_of_ble_eq_true rfl, Nat.le_of_ble_eq_true rfl⟩ (Nat.le_of_ble_eq_true rfl) (fun q h => tX11_within a0 0 5 S q h) dX11_isAsked_3 (fun v1 S2 => ?_)
  refine ok_if_eq_ite 33 hc dX11_isAsked_6 (by decide) (fun h3 => ?_) (fun h3 => ?_)
  · refine ok_iconst (v := 0) hc dX11_isAsked_33 (by decide) ?_
    exact ok_zretK hc rfl (by decide) dX11_isAsked_34
  · refine ok_iload_n 1 hc dX11_isAsked_9 rfl rfl ?_
    refine ok_iconst (v := 0) hc dX11_isAsked_10 (by decide) ?_
    refine ok_bipush (v := 11) hc dX11_isAsked_11 (by decide) ?_
    refine ok_callSi (As := [.int a1, .int 0, .int 11]) (st := []) (fun n0 => [.int a1, .int 0, .int 11]) hc SS_X11_93 rfl rfl rfl ⟨Nat.le_of_ble_eq_true rfl, Nat.le_of_ble_eq_true rfl⟩ (Nat.le_of_ble_eq_true rfl) (fun q h => tX11_within a1 0 11 S2 q h) dX11_isAsked_13 (fun v4 S5 => ?_)
    refine ok_if_eq_ite 33 hc dX11_isAsked_16 (by decide) (fun h6 => ?_) (fun h6 => ?_)
    · refine ok_iconst (v := 0) hc dX11_isAsked_33 (by decide) ?_
      exact ok_zretK hc rfl (by decide) dX11_isAsked_34
    · refine ok_iload_n 2 hc dX11_isAsked_19 rfl rfl ?_
      refine ok_iconst (v := 0) hc dX11_isAsked_20 (by decide) ?_
      refine ok_bipush (v := 99) hc dX11_isAsked_21 (by decide) ?_
      refine ok_callSi (As := [.int a2, .int 0, .int 99]) (st := []) (fun n0 => [.int a2, .int 0, .int 99]) hc SS_X11_93 rfl rfl rfl ⟨Nat.le_of_ble_eq_true rfl, Nat.le_of_ble_eq_true rfl⟩ (Nat.le_of_ble_eq_true rfl) (fun q h => tX11_within a2 0 99 S5 q h) dX11_isAsked_23 (fun v7 S8 => ?_)
      refine ok_if_eq_ite 33 hc dX11_isAsked_26 (by decide) (fun h9 => ?_) (fun h9 => ?_)
      · refine ok_iconst (v := 0) hc dX11_isAsked_33 (by decide) ?_
        exact ok_zretK hc rfl (by decide) dX11_isAsked_34
      · refine ok_iconst (v := 1) hc dX11_isAsked_29 (by decide) ?_
        refine ok_goto 34 hc dX11_isAsked_30 (by decide) ?_
        exact ok_zretK hc rfl (by decide) dX11_isAsked_34
