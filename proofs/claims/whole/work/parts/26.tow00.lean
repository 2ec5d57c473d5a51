def fX10_add (a1 : Int32) (S : St) : Option (Int32 × St) :=
  if ib (S.1 67 3) 8 then lt (wi S 68 (nt (S.1 67 3)) a1) (fun S1 => if ib (S1.1 67 3) 8 then lt (wi S1 69 (nt (S1.1 67 3)) (-1)) (fun S3 => lt (wi S3 67 3 ((S3.1 67 3) + 1)) (fun S5 => some ((S5.1 67 3) - 1, S5))) else none) else none
set_option maxRecDepth 100000 in
set_option maxHeartbeats 4000000 in
theorem tX10_add (a1 : Int32) (S : St) (q : Int32 × St) (h : fX10_add a1 S = some q) : MT vI wX mX10_add (fun n0 => [.ref (n0 + 67), .int a1]) S q := by
  refine mt_of (show plainFor yX10_add = true from by decide) (fun _ => Nat.le_of_ble_eq_true rfl) ?_
  intro Γ hc _
  rw [← h]
  show Ok Γ wX 0 [(0, rv Γ 67), (1, .int a1)] [] S _
  unfold fX10_add
  refine ok_aload_n 0 hc dX10_add_0 rfl rfl ?_
  refine ok_getr 68 hc FS_X10_15 rfl sX_67 rfl dX10_add_1 ?_
  refine ok_aload_n 0 hc dX10_add_4 rfl rfl ?_
  refine ok_geti hc FS_X10_22 rfl sX_67 dX10_add_5 ?_
  refine ok_iload_n 1 hc dX10_add_8 rfl rfl ?_
  refine ok_iast hc sX_68 dX10_add_9 (fun h2 => ?_)
  refine ok_ltS (fun S1 => ?_)
  refine ok_aload_n 0 hc dX10_add_10 rfl rfl ?_
  refine ok_getr 69 hc FS_X10_19 rfl sX_67 rfl dX10_add_11 ?_
  refine ok_aload_n 0 hc dX10_add_14 rfl rfl ?_
  refine ok_geti hc FS_X10_22 rfl sX_67 dX10_add_15 ?_
  refine ok_iconst (v := (-1)) hc dX10_add_18 (by decide) ?_
  refine ok_iast hc sX_69 dX10_add_19 (fun h4 => ?_)
  refine ok_ltS (fun S3 => ?_)
  refine ok_aload_n 0 hc dX10_add_20 rfl rfl ?_
  refine ok_dup hc dX10_add_21 rfl ?_
  refine ok_geti hc FS_X10_22 rfl sX_67 dX10_add_22 ?_
  refine ok_iconst (v := 1) hc dX10_add_25 (by decide) ?_
  refine ok_iadd hc dX10_add_26 ?_
  refine ok_puti hc FP_X10_22 rfl sX_67 dX10_add_27 ?_
  refine ok_ltS (fun S5 => ?_)
  refine ok_aload_n 0 hc dX10_add_30 rfl rfl ?_
  refine ok_geti hc FS_X10_22 rfl sX_67 dX10_add_31 ?_
  refine ok_iconst (v := 1) hc dX10_add_34 (by decide) ?_
  refine ok_isub hc dX10_add_35 ?_
  exact ok_iret hc rfl dX10_add_36
def fX10_agrees_L3_st (a1 : Int32) (a2 : Int32) (a3 : Int32) (rec : Int32 → St → Option (Int32 × St)) (a4 : Int32) (S : St) : Option (Int32 × St) :=
  if (S.1 67 3) ≤ a4 then (some (1, S)) else (if ib a4 8 then (jn (fun (S3 : St) => rec (a4 + 1) S3) (fun k4 => if (S.1 69 (nt a4)) = (-1) then (k4 S) else (if ib a4 8 then (bnd (fX2_gotFrom a2 a1 0 (S.1 68 (nt a4)) 0 S) (fun v7 S8 => lt (v7.toInt64) (fun (v9 : Int64) => if ib a4 8 then (bnd (fJ9_abs_067f4 (((S8.1 69 (nt a4)).toInt64) - v9) S8) (fun v11 S12 => if (100 * v11) ≤ (a3.toInt64 * (v9 + 100)) then (k4 S12) else (some (0, S12)))) else none))) else none))) else none)
def fX10_agrees_L3 (a1 : Int32) (a2 : Int32) (a3 : Int32) : Nat → Int32 → St → Option (Int32 × St)
  | 0 => fun _ _ => none
  | n + 1 => fun a4 S => fX10_agrees_L3_st a1 a2 a3 (fX10_agrees_L3 a1 a2 a3 n) a4 S
def fX10_agrees (a1 : Int32) (a2 : Int32) (a3 : Int32) (S : St) : Option (Int32 × St) :=
  fX10_agrees_L3 a1 a2 a3 FU 0 S
set_option maxRecDepth 100000 in
set_option maxHeartbeats 4000000 in
theorem tX10_agrees_L3 {Γ : Cx Int32} (hc : Cok Γ wX vI mX10_agrees) (a1 : Int32) (a2 : Int32) (a3 : Int32) : ∀ (n : Nat) (a4 : Int32) (S : St), Ok Γ wX 3 [(0, rv Γ 67), (1, .int a1), (2, .int a2), (3, .int a3), (4, .int a4)] [] S (fX10_agrees_L3 a1 a2 a3 n a4 S) := by
  intro n
  induction n with
  | zero =>
    intro a4 S
    exact ok_none
  | succ n ih =>
    intro a4 S
    show Ok Γ wX 3 [(0, rv Γ 67), (1, .int a1), (2, .int a2), (3, .int a3), (4, .int a4)] [] S (fX10_agrees_L3_st a1 a2 a3 (fX10_agrees_L3 a1 a2 a3 n) a4 S)
    unfold fX10_agrees_L3_st
    refine ok_iload 4 hc dX10_agrees_3 rfl ?_
    refine ok_aload_n 0 hc dX10_agrees_5 rfl rfl ?_
    refine ok_geti hc FS_X10_22 rfl sX_67 dX10_agrees_6 ?_
    refine ok_icmp_ge_ite 83 hc dX10_agrees_9 (by decide) (fun h1 => ?_) (fun h1 => ?_)
    · refine ok_iconst (v := 1) hc dX10_agrees_83 (by decide) ?_
      exact ok_zretK hc rfl (by decide) dX10_agrees_84
    · refine ok_aload_n 0 hc dX10_agrees_12 rfl rfl ?_
      refine ok_getr 69 hc FS_X10_19 rfl sX_67 rfl dX10_agrees_13 ?_
      refine ok_iload 4 hc dX10_agrees_16 rfl ?_
      refine ok_iald hc sX_69 dX10_agrees_18 (fun h2 => ?_)
      refine ok_iconst (v := (-1)) hc dX10_agrees_19 (by decide) ?_
      refine ok_jn (fun g => ∀ (S3 : St), Ok Γ wX 77 [(0, rv Γ 67), (1, .int a1), (2, .int a2), (3, .int a3), (4, .int a4)] [] S3 (g S3)) ?_ (fun k4 hk4 => ?_)
      · intro S3
        refine ok_iinc (v := 1) 4 [(4, .int (a4 + 1)), (0, rv Γ 67), (1, .int a1), (2, .int a2), (3, .int a3)] hc dX10_agrees_77 rfl (by decide) (Nat.le_of_ble_eq_true rfl) rfl ?_
        refine ok_goto 3 hc dX10_agrees_80 (by decide) ?_
        refine ok_sub [1, 2, 3, 4, 0] rfl ?_
        exact ih _ _
      · refine ok_icmp_eq_ite 77 hc dX10_agrees_20 (by decide) (fun h5 => ?_) (fun h5 => ?_)
        · exact hk4 _
        · refine ok_aload_n 0 hc dX10_agrees_23 rfl rfl ?_
          refine ok_getr 16 hc FS_X10_9 rfl sX_67 rfl dX10_agrees_24 ?_
          refine ok_iload_n 2 hc dX10_agrees_27 rfl rfl ?_
          refine ok_iload_n 1 hc dX10_agrees_28 rfl rfl ?_
          refine ok_iconst (v := 0) hc dX10_agrees_29 (by decide) ?_
          refine ok_aload_n 0 hc dX10_agrees_30 rfl rfl ?_
          refine ok_getr 68 hc FS_X10_15 rfl sX_67 rfl dX10_agrees_31 ?_
          refine ok_iload 4 hc dX10_agrees_34 rfl ?_
          refine ok_iald hc sX_68 dX10_agrees_36 (fun h6 => ?_)
          refine ok_iconst (v := 0) hc dX10_agrees_37 (by decide) ?_
          refine ok_callVi (As := [.int a2, .int a1, .int 0, .int (S.1 68 (nt a4)), .int 0]) (st := []) (fun n0 => [.ref (n0 + 16), .int a2, .int a1, .int 0, .int (S.1 68 (nt a4)), .int 0]) hc VS_X10_26 sX_16 rfl rfl rfl ⟨Nat.le_of_ble_eq_true rfl, Nat.le_of_ble_eq_true rfl⟩ (Nat.le_of_ble_eq_true rfl) (fun q h => tX2_gotFrom a2 a1 0 (S.1 68 (nt a4)) 0 S q h) dX10_agrees_38 (fun v7 S8 => ?_)
          refine ok_i2l hc dX10_agrees_41 ?_
          refine ok_ltl (fun v9 => ?_)
          refine ok_lstore [(5, .long v9), (0, rv Γ 67), (1, .int a1), (2, .int a2), (3, .int a3), (4, .int a4)] hc dX10_agrees_42 (Nat.le_of_ble_eq_true rfl) rfl ?_
          refine ok_ldc2 hc dX10_agrees_44 W_936 ?_
          refine ok_aload_n 1 hc dX10_agrees_47 rfl rfl ?_
          refine ok_getr 69 hc FS_X10_19 rfl sX_67 rfl dX10_agrees_48 ?_
          refine ok_iload 5 hc dX10_agrees_51 rfl ?_
          refine ok_iald hc sX_69 dX10_agrees_53 (fun h10 => ?_)
          refine ok_i2l hc dX10_agrees_54 ?_
          refine ok_lload 0 hc dX10_agrees_55 rfl ?_
          refine ok_lsub hc dX10_agrees_57 ?_
          refine ok_callSl (As := [.long (((S8.1 69 (nt a4)).toInt64) - v9)]) (st := [.long 100]) (fun n0 => [.long (((S8.1 69 (nt a4)).toInt64) - v9)]) hc SS_X10_34 rfl rfl rfl ⟨Nat.le_of_ble_eq_true rfl, Nat.le_of_ble_eq_true rfl⟩ (Nat.le_of_ble_eq_true rfl) (fun q h => tJ9_abs_067f4 wX (((S8.1 69 (nt a4)).toInt64) - v9) S8 q h) dX10_agrees_58 (fun v11 S12 => ?_)
          refine ok_lmul hc dX10_agrees_61 ?_
          refine ok_iload_n 4 hc dX10_agrees_62 rfl rfl ?_
          refine ok_i2l hc dX10_agrees_63 ?_
          refine ok_lload 0 hc dX10_agrees_64 rfl ?_
          refine ok_ldc2 hc dX10_agrees_66 W_936 ?_
          refine ok_ladd hc dX10_agrees_69 ?_
          refine ok_lmul hc dX10_agrees_70 ?_
          refine ok_lcmp_le_ite 77 hc dX10_agrees_71 dX10_agrees_72 (by decide) (fun h13 => ?_) (fun h13 => ?_)
          · refine ok_sub [1, 2, 3, 4, 5] rfl ?_
            exact hk4 _
          · refine ok_iconst (v := 0) hc dX10_agrees_75 (by decide) ?_
            exact ok_zretK hc rfl (by decide) dX10_agrees_76
set_option maxRecDepth 100000 in
set_option maxHeartbeats 4000000 in
theorem tX10_agrees (a1 : Int32) (a2 : Int32) (a3 : Int32) (S : St) (q : Int32 × St) (h : fX10_agrees a1 a2 a3 S = some q) : MT vI wX mX10_agrees (fun n0 => [.ref (n0 + 67), .int a1, .int a2, .int a3]) S q := by
  refine mt_of (show plainFor yX10_agrees = true from by decide) (fun _ => Nat.le_of_ble_eq_true rfl) ?_
  intro Γ hc _
  rw [← h]
  show Ok Γ wX 0 [(0, rv Γ 67), (1, .int a1), (2, .int a2), (3, .int a3)] [] S _
  unfold fX10_agrees
  refine ok_iconst (v := 0) hc dX10_agrees_0 (by decide) ?_
  refine ok_istore [(4, .int 0), (0, rv Γ 67), (1, .int a1), (2, .int a2), (3, .int a3)] hc dX10_agrees_1 (Nat.le_of_ble_eq_true rfl) rfl ?_
  refine ok_sub [1, 2, 3, 4, 0] rfl ?_
  refine tX10_agrees_L3 hc _ _ _   FU _ _
def fX10_readable_L4_st (rec : Int32 → Int32 → St → Option (Int32 × St)) (a1 : Int32) (a2 : Int32) (S : St) : Option (Int32 × St) :=
  if (S.1 67 3) ≤ a2 then (some (a1, S)) else (if ib a2 8 then (jn (fun (v3 : Int32) => rec v3 (a2 + 1) S) (fun k4 => if (S.1 69 (nt a2)) = (-1) then (k4 a1) else (k4 (a1 + 1)))) else none)
def fX10_readable_L4 : Nat → Int32 → Int32 → St → Option (Int32 × St)
  | 0 => fun _ _ _ => none
  | n + 1 => fun a1 a2 S => fX10_readable_L4_st (fX10_readable_L4 n) a1 a2 S
def fX10_readable (S : St) : Option (Int32 × St) :=
  fX10_readable_L4 FU 0 0 S
set_option maxRecDepth 100000 in
set_option maxHeartbeats 4000000 in
theorem tX10_readable_L4 {Γ : Cx Int32} (hc : Cok Γ wX vI mX10_readable) : ∀ (n : Nat) (a1 : Int32) (a2 : Int32) (S : St), Ok Γ wX 4 [(0, rv Γ 67), (1, .int a1), (2, .int a2)] [] S (fX10_readable_L4 n a1 a2 S) := by
  intro n
  induction n with
  | zero =>
    intro a1 a2 S
    exact ok_none
  | succ n ih =>
    intro a1 a2 S
    show Ok Γ wX 4 [(0, rv Γ 67), (1, .int a1), (2, .int a2)] [] S (fX10_readable_L4_st (fX10_readable_L4 n) a1 a2 S)
    unfold fX10_readable_L4_st
    refine ok_iload_n 2 hc dX10_readable_4 rfl rfl ?_
    refine ok_aload_n 0 hc dX10_readable_5 rfl rfl ?_
    refine ok_geti hc FS_X10_22 rfl sX_67 dX10_readable_6 ?_
    refine ok_icmp_ge_ite 31 hc dX10_readable_9 (by decide) (fun h1 => ?_) (fun h1 => ?_)
    · refine ok_iload_n 1 hc dX10_readable_31 rfl rfl ?_
      exact ok_iret hc rfl dX10_readable_32
    · refine ok_aload_n 0 hc dX10_readable_12 rfl rfl ?_
      refine ok_getr 69 hc FS_X10_19 rfl sX_67 rfl dX10_readable_13 ?_
      refine ok_iload_n 2 hc dX10_readable_16 rfl rfl ?_
      refine ok_iald hc sX_69 dX10_readable_17 (fun h2 => ?_)
      refine ok_iconst (v := (-1)) hc dX10_readable_18 (by decide) ?_
      refine ok_jn (fun g => ∀ (v3 : Int32), Ok Γ wX 25 [(0, rv Γ 67), (1, .int v3), (2, .int a2)] [] S (g v3)) ?_ (fun k4 hk4 => ?_)
      · intro v3
        refine ok_iinc (v := 1) 2 [(2, .int (a2 + 1)), (0, rv Γ 67), (1, .int v3)] hc dX10_readable_25 rfl (by decide) (Nat.le_of_ble_eq_true rfl) rfl ?_
        refine ok_goto 4 hc dX10_readable_28 (by decide) ?_
        refine ok_sub [1, 2, 0] rfl ?_
        exact ih _ _ _
      · refine ok_icmp_eq_ite 25 hc dX10_readable_19 (by decide) (fun h5 => ?_) (fun h5 => ?_)
        · exact hk4 _
        · refine ok_iinc (v := 1) 1 [(1, .int (a1 + 1)), (0, rv Γ 67), (2, .int a2)] hc dX10_readable_22 rfl (by decide) (Nat.le_of_ble_eq_true rfl) rfl ?_
          refine ok_sub [1, 0, 2] rfl ?_
          exact hk4 _
set_option maxRecDepth 100000 in
set_option maxHeartbeats 4000000 in
theorem tX10_readable (S : St) (q : Int32 × St) (h : fX10_readable S = some q) : MT vI wX mX10_readable (fun n0 => [.ref (n0 + 67)]) S q := by
  refine mt_of (show plainFor yX10_readable = true from by decide) (fun _ => Nat.le_of_ble_eq_true rfl) ?_
  intro Γ hc _
  rw [← h]
  show Ok Γ wX 0 [(0, rv Γ 67)] [] S _
  unfold fX10_readable
  refine ok_iconst (v := 0) hc dX10_readable_0 (by decide) ?_
  refine ok_istore_n [(1, .int 0), (0, rv Γ 67)] hc dX10_readable_1 rfl (Nat.le_of_ble_eq_true rfl) rfl ?_
  refine ok_iconst (v := 0) hc dX10_readable_2 (by decide) ?_
  refine ok_istore_n [(2, .int 0), (1, .int 0), (0, rv Γ 67)] hc dX10_readable_3 rfl (Nat.le_of_ble_eq_true rfl) rfl ?_
  refine ok_sub [2, 1, 0] rfl ?_
  refine tX10_readable_L4 hc    FU _ _ _
def fX9_measure_L53_st (kx0 : St → Option (Unit × St)) (a1 : Int32) (a2 : Int32) (a3 : Int32) (rec : Int32 → St → Option (Unit × St)) (a4 : Int32) (S : St) : Option (Unit × St) :=
  if ((a1 + 1) * 3) ≤ a4 then (kx0 S) else (if ib a4 18 then (if ¬ a3 = 0 then (if ib ((a4 * 12) + a2) 216 then lt (wi S 77 (nt ((a4 * 12) + a2)) ((100 * (S.1 73 (nt a4))) / a3)) (fun S4 => rec (a4 + 1) S4) else none) else none) else none)
def fX9_measure_L53 (kx0 : St → Option (Unit × St)) (a1 : Int32) (a2 : Int32) (a3 : Int32) : Nat → Int32 → St → Option (Unit × St)
  | 0 => fun _ _ => none
  | n + 1 => fun a4 S => fX9_measure_L53_st kx0 a1 a2 a3 (fX9_measure_L53 kx0 a1 a2 a3 n) a4 S
def fX9_measure_L12_st (kx0 : St → Option (Unit × St)) (a1 : Int32) (rec : Int32 → St → Option (Unit × St)) (a2 : Int32) (S : St) : Option (Unit × St) :=
  if (S.1 70 10) ≤ a2 then (kx0 S) else (if ib a1 6 then (if ib a1 6 then (if ib a2 12 then (bnd (fX2_lossBetween (S.1 71 (nt a1)) (S.1 72 (nt a1)) (S.1 75 (nt a2)) 0 0 S) (fun v5 S6 => lt (a1 * 3) (fun (v7 : Int32) => fX9_measure_L53 (fun (S8 : St) => rec (a2 + 1) S8) a1 a2 v5 FU v7 S6))) else none) else none) else none)
def fX9_measure_L12 (kx0 : St → Option (Unit × St)) (a1 : Int32) : Nat → Int32 → St → Option (Unit × St)
  | 0 => fun _ _ => none
  | n + 1 => fun a2 S => fX9_measure_L12_st kx0 a1 (fX9_measure_L12 kx0 a1 n) a2 S
def fX9_measure_L2_st (rec : Int32 → St → Option (Unit × St)) (a1 : Int32) (S : St) : Option (Unit × St) :=
  if (S.1 70 9) ≤ a1 then (some ((), S)) else (fX9_measure_L12 (fun (S2 : St) => rec (a1 + 1) S2) a1 FU 0 S)
def fX9_measure_L2 : Nat → Int32 → St → Option (Unit × St)
  | 0 => fun _ _ => none
  | n + 1 => fun a1 S => fX9_measure_L2_st (fX9_measure_L2 n) a1 S
def fX9_measure (S : St) : Option (Unit × St) :=
  fX9_measure_L2 FU 0 S
set_option maxRecDepth 100000 in
set_option maxHeartbeats 4000000 in
theorem tX9_measure_L53 {Γ : Cx Unit} (hc : Cok Γ wX vU mX9_measure) (kx0 : St → Option (Unit × St)) (a1 : Int32) (a2 : Int32) (a3 : Int32) (hx0 : ∀ (S : St), Ok Γ wX 93 [(0, rv Γ 70), (1, .int a1), (2, .int a2)] [] S (kx0 S)) : ∀ (n : Nat) (a4 : Int32) (S : St), Ok Γ wX 53 [(0, rv Γ 70), (1, .int a1), (2, .int a2), (3, .int a3), (4, .int a4)] [] S (fX9_measure_L53 kx0 a1 a2 a3 n a4 S) := by
  intro n
  induction n with
  | zero =>
    intro a4 S
    exact ok_none
  | succ n ih =>
    intro a4 S
    show Ok Γ wX 53 [(0, rv Γ 70), (1, .int a1), (2, .int a2), (3, .int a3), (4, .int a4)] [] S (fX9_measure_L53_st kx0 a1 a2 a3 (fX9_measure_L53 kx0 a1 a2 a3 n) a4 S)
    unfold fX9_measure_L53_st
    refine ok_iload 4 hc dX9_measure_53 rfl ?_
    refine ok_iload_n 1 hc dX9_measure_55 rfl rfl ?_
    refine ok_iconst (v := 1) hc dX9_measure_56 (by decide) ?_
    refine ok_iadd hc dX9_measure_57 ?_
    refine ok_iconst (v := 3) hc dX9_measure_58 (by decide) ?_
    refine ok_imul hc dX9_measure_59 ?_
    refine ok_icmp_ge_ite 93 hc dX9_measure_60 (by decide) (fun h1 => ?_) (fun h1 => ?_)
    · refine ok_sub [0, 1, 2] rfl ?_
      exact hx0 _
    · refine ok_aload_n 0 hc dX9_measure_63 rfl rfl ?_
      refine ok_getr 77 hc FS_X9_36 rfl sX_70 rfl dX9_measure_64 ?_
      refine ok_iload 4 hc dX9_measure_67 rfl ?_
      refine ok_bipush (v := 12) hc dX9_measure_69 (by decide) ?_
      refine ok_imul hc dX9_measure_71 ?_
      refine ok_iload_n 2 hc dX9_measure_72 rfl rfl ?_
      refine ok_iadd hc dX9_measure_73 ?_
      refine ok_bipush (v := 100) hc dX9_measure_74 (by decide) ?_
      refine ok_aload_n 0 hc dX9_measure_76 rfl rfl ?_
      refine ok_getr 73 hc FS_X9_24 rfl sX_70 rfl dX9_measure_77 ?_
      refine ok_iload 4 hc dX9_measure_80 rfl ?_
      refine ok_iald hc sX_73 dX9_measure_82 (fun h2 => ?_)
      refine ok_imul hc dX9_measure_83 ?_
      refine ok_iload_n 3 hc dX9_measure_84 rfl rfl ?_
      refine ok_idiv hc dX9_measure_85 (fun h3 => ?_)
      refine ok_iast hc sX_77 dX9_measure_86 (fun h5 => ?_)
      refine ok_ltS (fun S4 => ?_)
      refine ok_iinc (v := 1) 4 [(4, .int (a4 + 1)), (0, rv Γ 70), (1, .int a1), (2, .int a2), (3, .int a3)] hc dX9_measure_87 rfl (by decide) (Nat.le_of_ble_eq_true rfl) rfl ?_
      refine ok_goto 53 hc dX9_measure_90 (by decide) ?_
      refine ok_sub [1, 2, 3, 4, 0] rfl ?_
      exact ih _ _
set_option maxRecDepth 100000 in
set_option maxHeartbeats 4000000 in
theorem tX9_measure_L12 {Γ : Cx Unit} (hc : Cok Γ wX vU mX9_measure) (kx0 : St → Option (Unit × St)) (a1 : Int32) (hx0 : ∀ (S : St), Ok Γ wX 99 [(0, rv Γ 70), (1, .int a1)] [] S (kx0 S)) : ∀ (n : Nat) (a2 : Int32) (S : St), Ok Γ wX 12 [(0, rv Γ 70), (1, .int a1), (2, .int a2)] [] S (fX9_measure_L12 kx0 a1 n a2 S) := by
  intro n
  induction n with
  | zero =>
    intro a2 S
    exact ok_none
  | succ n ih =>
    intro a2 S
    show Ok Γ wX 12 [(0, rv Γ 70), (1, .int a1), (2, .int a2)] [] S (fX9_measure_L12_st kx0 a1 (fX9_measure_L12 kx0 a1 n) a2 S)
    unfold fX9_measure_L12_st
    refine ok_iload_n 2 hc dX9_measure_12 rfl rfl ?_
    refine ok_aload_n 0 hc dX9_measure_13 rfl rfl ?_
    refine ok_geti hc FS_X9_43 rfl sX_70 dX9_measure_14 ?_
    refine ok_icmp_ge_ite 99 hc dX9_measure_17 (by decide) (fun h1 => ?_) (fun h1 => ?_)
    · refine ok_sub [0, 1] rfl ?_
      exact hx0 _
    · refine ok_aload_n 0 hc dX9_measure_20 rfl rfl ?_
      refine ok_getr 16 hc FS_X9_13 rfl sX_70 rfl dX9_measure_21 ?_
      refine ok_aload_n 0 hc dX9_measure_24 rfl rfl ?_
      refine ok_getr 71 hc FS_X9_17 rfl sX_70 rfl dX9_measure_25 ?_
      refine ok_iload_n 1 hc dX9_measure_28 rfl rfl ?_
      refine ok_iald hc sX_71 dX9_measure_29 (fun h2 => ?_)
      refine ok_aload_n 0 hc dX9_measure_30 rfl rfl ?_
      refine ok_getr 72 hc FS_X9_21 rfl sX_70 rfl dX9_measure_31 ?_
      refine ok_iload_n 1 hc dX9_measure_34 rfl rfl ?_
      refine ok_iald hc sX_72 dX9_measure_35 (fun h3 => ?_)
      refine ok_aload_n 0 hc dX9_measure_36 rfl rfl ?_
      refine ok_getr 75 hc FS_X9_30 rfl sX_70 rfl dX9_measure_37 ?_
      refine ok_iload_n 2 hc dX9_measure_40 rfl rfl ?_
      refine ok_iald hc sX_75 dX9_measure_41 (fun h4 => ?_)
      refine ok_iconst (v := 0) hc dX9_measure_42 (by decide) ?_
      refine ok_iconst (v := 0) hc dX9_measure_43 (by decide) ?_
      refine ok_callVi (As := [.int (S.1 71 (nt a1)), .int (S.1 72 (nt a1)), .int (S.1 75 (nt a2)), .int 0, .int 0]) (st := []) (fun n0 => [.ref (n0 + 16), .int (S.1 71 (nt a1)), .int (S.1 72 (nt a1)), .int (S.1 75 (nt a2)), .int 0, .int 0]) hc VS_X9_46 sX_16 rfl rfl rfl ⟨Nat.le_of_ble_eq_true rfl, Nat.le_of_ble_eq_true rfl⟩ (Nat.le_of_ble_eq_true rfl) (fun q h => tX2_lossBetween (S.1 71 (nt a1)) (S.1 72 (nt a1)) (S.1 75 (nt a2)) 0 0 S q h) dX9_measure_44 (fun v5 S6 => ?_)
      refine ok_istore_n [(3, .int v5), (0, rv Γ 70), (1, .int a1), (2, .int a2)] hc dX9_measure_47 rfl (Nat.le_of_ble_eq_true rfl) rfl ?_
      refine ok_iload_n 2 hc dX9_measure_48 rfl rfl ?_
      refine ok_iconst (v := 3) hc dX9_measure_49 (by decide) ?_
      refine ok_imul hc dX9_measure_50 ?_
      refine ok_lti (fun v7 => ?_)
      refine ok_istore [(4, .int v7), (3, .int v5), (0, rv Γ 70), (1, .int a1), (2, .int a2)] hc dX9_measure_51 (Nat.le_of_ble_eq_true rfl) rfl ?_
      refine ok_sub [2, 3, 4, 1, 0] rfl ?_
      refine tX9_measure_L53 hc _ _ _ _  ?_ FU _ _
      · intro S8
        refine ok_iinc (v := 1) 2 [(2, .int (a2 + 1)), (0, rv Γ 70), (1, .int a1)] hc dX9_measure_93 rfl (by decide) (Nat.le_of_ble_eq_true rfl) rfl ?_
        refine ok_goto 12 hc dX9_measure_96 (by decide) ?_
        refine ok_sub [1, 2, 0] rfl ?_
        exact ih _ _
set_option maxRecDepth 100000 in
set_option maxHeartbeats 4000000 in
theorem tX9_measure_L2 {Γ : Cx Unit} (hc : Cok Γ wX vU mX9_measure) : ∀ (n : Nat) (a1 : Int32) (S : St), Ok Γ wX 2 [(0, rv Γ 70), (1, .int a1)] [] S (fX9_measure_L2 n a1 S) := by
  intro n
  induction n with
  | zero =>
    intro a1 S
    exact ok_none
  | succ n ih =>
    intro a1 S
    show Ok Γ wX 2 [(0, rv Γ 70), (1, .int a1)] [] S (fX9_measure_L2_st (fX9_measure_L2 n) a1 S)
    unfold fX9_measure_L2_st
    refine ok_iload_n 1 hc dX9_measure_2 rfl rfl ?_
    refine ok_aload_n 0 hc dX9_measure_3 rfl rfl ?_
    refine ok_geti hc FS_X9_39 rfl sX_70 dX9_measure_4 ?_
    refine ok_icmp_ge_ite 105 hc dX9_measure_7 (by decide) (fun h1 => ?_) (fun h1 => ?_)
    · exact ok_vret hc rfl dX9_measure_105
    · refine ok_iconst (v := 0) hc dX9_measure_10 (by decide) ?_
      refine ok_istore_n [(2, .int 0), (0, rv Γ 70), (1, .int a1)] hc dX9_measure_11 rfl (Nat.le_of_ble_eq_true rfl) rfl ?_
      refine ok_sub [1, 2, 0] rfl ?_
      refine tX9_measure_L12 hc _ _  ?_ FU _ _
      · intro S2
        refine ok_iinc (v := 1) 1 [(1, .int (a1 + 1)), (0, rv Γ 70)] hc dX9_measure_99 rfl (by decide) (Nat.le_of_ble_eq_true rfl) rfl ?_
        refine ok_goto 2 hc dX9_measure_102 (by decide) ?_
        refine ok_sub [1, 0] rfl ?_
        exact ih _ _
set_option maxRecDepth 100000 in
set_option maxHeartbeats 4000000 in
theorem tX9_measure (S : St) (q : Unit × St) (h : fX9_measure S = some q) : MT vU wX mX9_measure (fun n0 => [.ref (n0 + 70)]) S q := by
  refine mt_of (show plainFor yX9_measure = true from by decide) (fun _ => Nat.le_of_ble_eq_true rfl) ?_
  intro Γ hc _
  rw [← h]
  show Ok Γ wX 0 [(0, rv Γ 70)] [] S _
  unfold fX9_measure
  refine ok_iconst (v := 0) hc dX9_measure_0 (by decide) ?_
  refine ok_istore_n [(1, .int 0), (0, rv Γ 70)] hc dX9_measure_1 rfl (Nat.le_of_ble_eq_true rfl) rfl ?_
  refine ok_sub [1, 0] rfl ?_
  refine tX9_measure_L2 hc    FU _ _
def fX9_plans_L4_st (rec : Int32 → Int32 → St → Option (Int32 × St)) (a1 : Int32) (a2 : Int32) (S : St) : Option (Int32 × St) :=
  if (S.1 70 9) ≤ a2 then (some (a1, S)) else (lt (a1 * 3) (fun (v2 : Int32) => rec v2 (a2 + 1) S))
def fX9_plans_L4 : Nat → Int32 → Int32 → St → Option (Int32 × St)
  | 0 => fun _ _ _ => none
  | n + 1 => fun a1 a2 S => fX9_plans_L4_st (fX9_plans_L4 n) a1 a2 S
def fX9_plans (S : St) : Option (Int32 × St) :=
  fX9_plans_L4 FU 1 0 S
set_option maxRecDepth 100000 in
set_option maxHeartbeats 4000000 in
theorem tX9_plans_L4 {Γ : Cx Int32} (hc : Cok Γ wX vI mX9_plans) : ∀ (n : Nat) (a1 : Int32) (a2 : Int32) (S : St), Ok Γ wX 4 [(0, rv Γ 70), (1, .int a1), (2, .int a2)] [] S (fX9_plans_L4 n a1 a2 S) := by
  intro n
  induction n with
  | zero =>
    intro a1 a2 S
    exact ok_none
  | succ n ih =>
    intro a1 a2 S
    show Ok Γ wX 4 [(0, rv Γ 70), (1, .int a1), (2, .int a2)] [] S (fX9_plans_L4_st (fX9_plans_L4 n) a1 a2 S)
    unfold fX9_plans_L4_st
    refine ok_iload_n 2 hc dX9_plans_4 rfl rfl ?_
    refine ok_aload_n 0 hc dX9_plans_5 rfl rfl ?_
    refine ok_geti hc FS_X9_39 rfl sX_70 dX9_plans_6 ?_
    refine ok_icmp_ge_ite 22 hc dX9_plans_9 (by decide) (fun h1 => ?_) (fun h1 => ?_)
    · refine ok_iload_n 1 hc dX9_plans_22 rfl rfl ?_
      exact ok_iret hc rfl dX9_plans_23
    · refine ok_iload_n 1 hc dX9_plans_12 rfl rfl ?_
      refine ok_iconst (v := 3) hc dX9_plans_13 (by decide) ?_
      refine ok_imul hc dX9_plans_14 ?_
      refine ok_lti (fun v2 => ?_)
      refine ok_istore_n [(1, .int v2), (0, rv Γ 70), (2, .int a2)] hc dX9_plans_15 rfl (Nat.le_of_ble_eq_true rfl) rfl ?_
      refine ok_iinc (v := 1) 2 [(2, .int (a2 + 1)), (1, .int v2), (0, rv Γ 70)] hc dX9_plans_16 rfl (by decide) (Nat.le_of_ble_eq_true rfl) rfl ?_
      refine ok_goto 4 hc dX9_plans_19 (by decide) ?_
      refine ok_sub [2, 1, 0] rfl ?_
      exact ih _ _ _
set_option maxRecDepth 100000 in
set_option maxHeartbeats 4000000 in
theorem tX9_plans (S : St) (q : Int32 × St) (h : fX9_plans S = some q) : MT vI wX mX9_plans (fun n0 => [.ref (n0 + 70)]) S q := by
  refine mt_of (show plainFor yX9_plans = true from by decide) (fun _ => Nat.le_of_ble_eq_true rfl) ?_
  intro Γ hc _
  rw [← h]
  show Ok Γ wX 0 [(0, rv Γ 70)] [] S _
  unfold fX9_plans
  refine ok_iconst (v := 1) hc dX9_plans_0 (by decide) ?_
  refine ok_istore_n [(1, .int 1), (0, rv Γ 70)] hc dX9_plans_1 rfl (Nat.le_of_ble_eq_true rfl) rfl ?_
  refine ok_iconst (v := 0) hc dX9_plans_2 (by decide) ?_
  refine ok_istore_n [(2, .int 0), (1, .int 1), (0, rv Γ 70)] hc dX9_plans_3 rfl (Nat.le_of_ble_eq_true rfl) rfl ?_
  refine ok_sub [2, 1, 0] rfl ?_
  refine tX9_plans_L4 hc    FU _ _ _
def fX9_priceOf_L7_st (rec : Int32 → Int32 → Int32 → St → Option (Int32 × St)) (a2 : Int32) (a3 : Int32) (a4 : Int32) (S : St) : Option (Int32 × St) :=
  if (S.1 70 9) ≤ a4 then (some (a2, S)) else (if ib ((a4 * 3) + (ire a3 3)) 18 then (lt (a2 + (S.1 74 (nt ((a4 * 3) + (ire a3 3))))) (fun (v3 : Int32) => lt (a3 / 3) (fun (v4 : Int32) => rec v3 v4 (a4 + 1) S))) else none)
def fX9_priceOf_L7 : Nat → Int32 → Int32 → Int32 → St → Option (Int32 × St)
  | 0 => fun _ _ _ _ => none
  | n + 1 => fun a2 a3 a4 S => fX9_priceOf_L7_st (fX9_priceOf_L7 n) a2 a3 a4 S
def fX9_priceOf (a1 : Int32) (S : St) : Option (Int32 × St) :=
  fX9_priceOf_L7 FU 0 a1 0 S
set_option maxRecDepth 100000 in
set_option maxHeartbeats 4000000 in
theorem tX9_priceOf_L7 {Γ : Cx Int32} (hc : Cok Γ wX vI mX9_priceOf) : ∀ (n : Nat) (a2 : Int32) (a3 : Int32) (a4 : Int32) (S : St), Ok Γ wX 7 [(0, rv Γ 70), (2, .int a2), (3, .int a3), (4, .int a4)] [] S (fX9_priceOf_L7 n a2 a3 a4 S) := by
  intro n
  induction n with
  | zero =>
    intro a2 a3 a4 S
    exact ok_none
  | succ n ih =>
    intro a2 a3 a4 S
    show Ok Γ wX 7 [(0, rv Γ 70), (2, .int a2), (3, .int a3), (4, .int a4)] [] S (fX9_priceOf_L7_st (fX9_priceOf_L7 n) a2 a3 a4 S)
    unfold fX9_priceOf_L7_st
    refine ok_iload 3 hc dX9_priceOf_7 rfl ?_
    refine ok_aload_n 0 hc dX9_priceOf_9 rfl rfl ?_
    refine ok_geti hc FS_X9_39 rfl sX_70 dX9_priceOf_10 ?_
    refine ok_icmp_ge_ite 42 hc dX9_priceOf_13 (by decide) (fun h1 => ?_) (fun h1 => ?_)
    · refine ok_iload_n 1 hc dX9_priceOf_42 rfl rfl ?_
      exact ok_iret hc rfl dX9_priceOf_43
    · refine ok_iload_n 1 hc dX9_priceOf_16 rfl rfl ?_
      refine ok_aload_n 0 hc dX9_priceOf_17 rfl rfl ?_
      refine ok_getr 74 hc FS_X9_27 rfl sX_70 rfl dX9_priceOf_18 ?_
      refine ok_iload 3 hc dX9_priceOf_21 rfl ?_
      refine ok_iconst (v := 3) hc dX9_priceOf_23 (by decide) ?_
      refine ok_imul hc dX9_priceOf_24 ?_
      refine ok_iload_n 2 hc dX9_priceOf_25 rfl rfl ?_
      refine ok_iconst (v := 3) hc dX9_priceOf_26 (by decide) ?_
      refine ok_iremK hc dX9_priceOf_27 (by decide) ?_
      refine ok_iadd hc dX9_priceOf_28 ?_
      refine ok_iald hc sX_74 dX9_priceOf_29 (fun h2 => ?_)
      refine ok_iadd hc dX9_priceOf_30 ?_
      refine ok_lti (fun v3 => ?_)
      refine ok_istore_n [(2, .int v3), (0, rv Γ 70), (3, .int a3), (4, .int a4)] hc dX9_priceOf_31 rfl (Nat.le_of_ble_eq_true rfl) rfl ?_
      refine ok_iload_n 2 hc dX9_priceOf_32 rfl rfl ?_
      refine ok_iconst (v := 3) hc dX9_priceOf_33 (by decide) ?_
      refine ok_idivK hc dX9_priceOf_34 (by decide) ?_
      refine ok_lti (fun v4 => ?_)
      refine ok_istore_n [(3, .int v4), (2, .int v3), (0, rv Γ 70), (4, .int a4)] hc dX9_priceOf_35 rfl (Nat.le_of_ble_eq_true rfl) rfl ?_
      refine ok_iinc (v := 1) 3 [(4, .int (a4 + 1)), (3, .int v4), (2, .int v3), (0, rv Γ 70)] hc dX9_priceOf_36 rfl (by decide) (Nat.le_of_ble_eq_true rfl) rfl ?_
      refine ok_goto 7 hc dX9_priceOf_39 (by decide) ?_
      refine ok_sub [3, 2, 1, 0] rfl ?_
      exact ih _ _ _ _
set_option maxRecDepth 100000 in
set_option maxHeartbeats 4000000 in
theorem tX9_priceOf (a1 : Int32) (S : St) (q : Int32 × St) (h : fX9_priceOf a1 S = some q) : MT vI wX mX9_priceOf (fun n0 => [.ref (n0 + 70), .int a1]) S q := by
  refine mt_of (show plainFor yX9_priceOf = true from by decide) (fun _ => Nat.le_of_ble_eq_true rfl) ?_
  intro Γ hc _
  rw [← h]
  show Ok Γ wX 0 [(0, rv Γ 70), (1, .int a1)] [] S _
  unfold fX9_priceOf
  refine ok_iconst (v := 0) hc dX9_priceOf_0 (by decide) ?_
  refine ok_istore_n [(2, .int 0), (0, rv Γ 70), (1, .int a1)] hc dX9_priceOf_1 rfl (Nat.le_of_ble_eq_true rfl) rfl ?_
  refine ok_iload_n 2 hc dX9_priceOf_2 rfl rfl ?_
  refine ok_istore_n [(3, .int a1), (2, .int 0), (0, rv Γ 70), (1, .int a1)] hc dX9_priceOf_3 rfl (Nat.le_of_ble_eq_true rfl) rfl ?_
  refine ok_iconst (v := 0) hc dX9_priceOf_4 (by decide) ?_
  refine ok_istore [(4, .int 0), (3, .int a1), (2, .int 0), (0, rv Γ 70), (1, .int a1)] hc dX9_priceOf_5 (Nat.le_of_ble_eq_true rfl) rfl ?_
  refine ok_sub [3, 2, 1, 0] rfl ?_
  refine tX9_priceOf_L7 hc    FU _ _ _ _
def fX9_isServed_L11_st (kx0 : Int64 → Int64 → St → Option (Int32 × St)) (a1 : Int32) (rec : Int64 → Int64 → Int32 → Int32 → St → Option (Int32 × St)) (a3 : Int64) (a5 : Int64) (a7 : Int32) (a8 : Int32) (S : St) : Option (Int32 × St) :=
  if (S.1 70 9) ≤ a8 then (kx0 a3 a5 S) else (if ib ((((a8 * 3) + (ire a7 3)) * 12) + a1) 216 then (lt (S.1 77 (nt ((((a8 * 3) + (ire a7 3)) * 12) + a1))) (fun (v3 : Int32) => lt (a3 + v3.toInt64) (fun (v4 : Int64) => bnd (fJ9_max_f86c9 a5 v3.toInt64 S) (fun v5 S6 => lt (a7 / 3) (fun (v7 : Int32) => rec v4 v5 v7 (a8 + 1) S6))))) else none)
def fX9_isServed_L11 (kx0 : Int64 → Int64 → St → Option (Int32 × St)) (a1 : Int32) : Nat → Int64 → Int64 → Int32 → Int32 → St → Option (Int32 × St)
  | 0 => fun _ _ _ _ _ => none
  | n + 1 => fun a3 a5 a7 a8 S => fX9_isServed_L11_st kx0 a1 (fX9_isServed_L11 kx0 a1 n) a3 a5 a7 a8 S
def fX9_isServed (a1 : Int32) (a2 : Int32) (S : St) : Option (Int32 × St) :=
  fX9_isServed_L11 (fun (v1 : Int64) (v2 : Int64) (S3 : St) => lt ((((S3.1 2 (nt 2)).toInt64) + v1) - v2) (fun (v4 : Int64) => if (100 * v2) < (((S3.1 2 (nt 4)).toInt64) * v4) then (some (0, S3)) else (some (1, S3)))) a1 FU 0 0 a2 0 S
set_option maxRecDepth 100000 in
set_option maxHeartbeats 4000000 in
theorem tX9_isServed_L11 {Γ : Cx Int32} (hc : Cok Γ wX vI mX9_isServed) (kx0 : Int64 → Int64 → St → Option (Int32 × St)) (a1 : Int32) (hx0 : ∀ (a3 : Int64) (a5 : Int64) (S : St), Ok Γ wX 69 [(0, rv Γ 70), (3, .long a3), (5, .long a5)] [] S (kx0 a3 a5 S)) : ∀ (n : Nat) (a3 : Int64) (a5 : Int64) (a7 : Int32) (a8 : Int32) (S : St), Ok Γ wX 11 [(0, rv Γ 70), (1, .int a1), (3, .long a3), (5, .long a5), (7, .int a7), (8, .int a8)] [] S (fX9_isServed_L11 kx0 a1 n a3 a5 a7 a8 S) := by
  intro n
  induction n with
  | zero =>
    intro a3 a5 a7 a8 S
    exact ok_none
  | succ n ih =>
    intro a3 a5 a7 a8 S
    show Ok Γ wX 11 [(0, rv Γ 70), (1, .int a1), (3, .long a3), (5, .long a5), (7, .int a7), (8, .int a8)] [] S (fX9_isServed_L11_st kx0 a1 (fX9_isServed_L11 kx0 a1 n) a3 a5 a7 a8 S)
    unfold fX9_isServed_L11_st
    refine ok_iload 5 hc dX9_isServed_11 rfl ?_
    refine ok_aload_n 0 hc dX9_isServed_13 rfl rfl ?_
    refine ok_geti hc FS_X9_39 rfl sX_70 dX9_isServed_14 ?_
    refine ok_icmp_ge_ite 69 hc dX9_isServed_17 (by decide) (fun h1 => ?_) (fun h1 => ?_)
    · refine ok_sub [0, 2, 3] rfl ?_
      exact hx0 _ _ _
    · refine ok_aload_n 0 hc dX9_isServed_20 rfl rfl ?_
      refine ok_getr 77 hc FS_X9_36 rfl sX_70 rfl dX9_isServed_21 ?_
      refine ok_iload 5 hc dX9_isServed_24 rfl ?_
      refine ok_iconst (v := 3) hc dX9_isServed_26 (by decide) ?_
      refine ok_imul hc dX9_isServed_27 ?_
      refine ok_iload 4 hc dX9_isServed_28 rfl ?_
      refine ok_iconst (v := 3) hc dX9_isServed_30 (by decide) ?_
      refine ok_iremK hc dX9_isServed_31 (by decide) ?_
      refine ok_iadd hc dX9_isServed_32 ?_
      refine ok_bipush (v := 12) hc dX9_isServed_33 (by decide) ?_
      refine ok_imul hc dX9_isServed_35 ?_
      refine ok_iload_n 1 hc dX9_isServed_36 rfl rfl ?_
      refine ok_iadd hc dX9_isServed_37 ?_
      refine ok_iald hc sX_77 dX9_isServed_38 (fun h2 => ?_)
      refine ok_lti (fun v3 => ?_)
      refine ok_istore [(9, .int v3), (0, rv Γ 70), (1, .int a1), (3, .long a3), (5, .long a5), (7, .int a7), (8, .int a8)] hc dX9_isServed_39 (Nat.le_of_ble_eq_true rfl) rfl ?_
      refine ok_lload_n 3 hc dX9_isServed_41 rfl rfl ?_
      refine ok_iload 0 hc dX9_isServed_42 rfl ?_
      refine ok_i2l hc dX9_isServed_44 ?_
      refine ok_ladd hc dX9_isServed_45 ?_
      refine ok_ltl (fun v4 => ?_)
      refine ok_lstore_n [(3, .long v4), (9, .int v3), (0, rv Γ 70), (1, .int a1), (5, .long a5), (7, .int a7), (8, .int a8)] hc dX9_isServed_46 rfl (Nat.le_of_ble_eq_true rfl) rfl ?_
      refine ok_lload 4 hc dX9_isServed_47 rfl ?_
      refine ok_iload 1 hc dX9_isServed_49 rfl ?_
      refine ok_i2l hc dX9_isServed_51 ?_
      refine ok_callSl (As := [.long a5, .long v3.toInt64]) (st := []) (fun n0 => [.long a5, .long v3.toInt64]) hc SS_X9_56 rfl rfl rfl ⟨Nat.le_of_ble_eq_true rfl, Nat.le_of_ble_eq_true rfl⟩ (Nat.le_of_ble_eq_true rfl) (fun q h => tJ9_max_f86c9 wX a5 v3.toInt64 S q h) dX9_isServed_52 (fun v5 S6 => ?_)
      refine ok_lstore [(5, .long v5), (3, .long v4), (9, .int v3), (0, rv Γ 70), (1, .int a1), (7, .int a7), (8, .int a8)] hc dX9_isServed_55 (Nat.le_of_ble_eq_true rfl) rfl ?_
      refine ok_iload 5 hc dX9_isServed_57 rfl ?_
      refine ok_iconst (v := 3) hc dX9_isServed_59 (by decide) ?_
      refine ok_idivK hc dX9_isServed_60 (by decide) ?_
      refine ok_lti (fun v7 => ?_)
      refine ok_istore [(7, .int v7), (5, .long v5), (3, .long v4), (9, .int v3), (0, rv Γ 70), (1, .int a1), (8, .int a8)] hc dX9_isServed_61 (Nat.le_of_ble_eq_true rfl) rfl ?_
      refine ok_iinc (v := 1) 6 [(8, .int (a8 + 1)), (7, .int v7), (5, .long v5), (3, .long v4), (9, .int v3), (0, rv Γ 70), (1, .int a1)] hc dX9_isServed_63 rfl (by decide) (Nat.le_of_ble_eq_true rfl) rfl ?_
      refine ok_goto 11 hc dX9_isServed_66 (by decide) ?_
      refine ok_sub [5, 6, 3, 2, 1, 0] rfl ?_
      exact ih _ _ _ _ _
set_option maxRecDepth 100000 in
set_option maxHeartbeats 4000000 in
theorem tX9_isServed (a1 : Int32) (a2 : Int32) (S : St) (q : Int32 × St) (h : fX9_isServed a1 a2 S = some q) : MT vI wX mX9_isServed (fun n0 => [.ref (n0 + 70), .int a1, .int a2]) S q := by
  refine mt_of (show plainFor yX9_isServed = true from by decide) (fun _ => Nat.le_of_ble_eq_true rfl) ?_
  intro Γ hc _
  rw [← h]
  show Ok Γ wX 0 [(0, rv Γ 70), (1, .int a1), (2, .int a2)] [] S _
  unfold fX9_isServed
  refine ok_lconst (v := 0) hc dX9_isServed_0 (by decide) ?_
  refine ok_lstore_n [(3, .long 0), (0, rv Γ 70), (1, .int a1), (2, .int a2)] hc dX9_isServed_1 rfl (Nat.le_of_ble_eq_true rfl) rfl ?_
  refine ok_lconst (v := 0) hc dX9_isServed_2 (by decide) ?_
  refine ok_lstore [(5, .long 0), (3, .long 0), (0, rv Γ 70), (1, .int a1), (2, .int a2)] hc dX9_isServed_3 (Nat.le_of_ble_eq_true rfl) rfl ?_
  refine ok_iload_n 4 hc dX9_isServed_5 rfl rfl ?_
  refine ok_istore [(7, .int a2), (5, .long 0), (3, .long 0), (0, rv Γ 70), (1, .int a1), (2, .int a2)] hc dX9_isServed_6 (Nat.le_of_ble_eq_true rfl) rfl ?_
  refine ok_iconst (v := 0) hc dX9_isServed_8 (by decide) ?_
  refine ok_istore [(8, .int 0), (7, .int a2), (5, .long 0), (3, .long 0), (0, rv Γ 70), (1, .int a1), (2, .int a2)] hc dX9_isServed_9 (Nat.le_of_ble_eq_true rfl) rfl ?_
  refine ok_sub [4, 5, 3, 2, 1, 0] rfl ?_
  refine tX9_isServed_L11 hc _ _  ?_ FU _ _ _ _ _
  · intro v1 v2 S3
    refine ok_aload_n 0 hc dX9_isServed_69 rfl rfl ?_
    refine ok_getr 1 hc FS_X9_9 rfl sX_70 rfl dX9_isServed_70 ?_
    refine ok_getr 2 hc FS_X9_62 rfl sX_1 rfl dX9_isServed_73 ?_
    refine ok_iconst (v := 2) hc dX9_isServed_76 (by decide) ?_
    refine ok_ialdK hc sX_2 (by decide) dX9_isServed_77 ?_
    refine ok_i2l hc dX9_isServed_78 ?_
    refine ok_lload_n 1 hc dX9_isServed_79 rfl rfl ?_
    refine ok_ladd hc dX9_isServed_80 ?_
    refine ok_lload 2 hc dX9_isServed_81 rfl ?_
    refine ok_lsub hc dX9_isServed_83 ?_
    refine ok_ltl (fun v4 => ?_)
    refine ok_lstore [(8, .long v4), (0, rv Γ 70), (3, .long v1), (5, .long v2)] hc dX9_isServed_84 (Nat.le_of_ble_eq_true rfl) rfl ?_
    refine ok_ldc2 hc dX9_isServed_86 W_997 ?_
    refine ok_lload 3 hc dX9_isServed_89 rfl ?_
    refine ok_lmul hc dX9_isServed_91 ?_
    refine ok_aload_n 1 hc dX9_isServed_92 rfl rfl ?_
    refine ok_getr 1 hc FS_X9_9 rfl sX_70 rfl dX9_isServed_93 ?_
    refine ok_getr 2 hc FS_X9_62 rfl sX_1 rfl dX9_isServed_96 ?_
    refine ok_iconst (v := 4) hc dX9_isServed_99 (by decide) ?_
    refine ok_ialdK hc sX_2 (by decide) dX9_isServed_100 ?_
    refine ok_i2l hc dX9_isServed_101 ?_
    refine ok_lload 0 hc dX9_isServed_102 rfl ?_
    refine ok_lmul hc dX9_isServed_104 ?_
    refine ok_lcmp_lt_ite 113 hc dX9_isServed_105 dX9_isServed_106 (by decide) (fun h5 => ?_) (fun h5 => ?_)
    · refine ok_iconst (v := 0) hc dX9_isServed_113 (by decide) ?_
      exact ok_zretK hc rfl (by decide) dX9_isServed_114
    · refine ok_iconst (v := 1) hc dX9_isServed_109 (by decide) ?_
      refine ok_goto 114 hc dX9_isServed_110 (by decide) ?_
      exact ok_zretK hc rfl (by decide) dX9_isServed_114
def fX9_worthOf_L4_st (a1 : Int32) (rec : Int32 → Int32 → St → Option (Int32 × St)) (a2 : Int32) (a3 : Int32) (S : St) : Option (Int32 × St) :=
  if (S.1 70 10) ≤ a3 then (some (a2, S)) else (bnd (fX9_isServed a3 a1 S) (fun v2 S3 => jn (fun (v4 : Int32) => rec v4 (a3 + 1) S3) (fun k5 => if v2 = 0 then (k5 a2) else (if ib a3 12 then (lt (a2 + (S3.1 76 (nt a3))) (fun (v8 : Int32) => k5 v8)) else none))))
def fX9_worthOf_L4 (a1 : Int32) : Nat → Int32 → Int32 → St → Option (Int32 × St)
  | 0 => fun _ _ _ => none
  | n + 1 => fun a2 a3 S => fX9_worthOf_L4_st a1 (fX9_worthOf_L4 a1 n) a2 a3 S
def fX9_worthOf (a1 : Int32) (S : St) : Option (Int32 × St) :=
  fX9_worthOf_L4 a1 FU 0 0 S
set_option maxRecDepth 100000 in
set_option maxHeartbeats 4000000 in
theorem tX9_worthOf_L4 {Γ : Cx Int32} (hc : Cok Γ wX vI mX9_worthOf) (a1 : Int32) : ∀ (n : Nat) (a2 : Int32) (a3 : Int32) (S : St), Ok Γ wX 4 [(0, rv Γ 70), (1, .int a1), (2, .int a2), (3, .int a3)] [] S (fX9_worthOf_L4 a1 n a2 a3 S) := by
  intro n
  induction n with
  | zero =>
    intro a2 a3 S
    exact ok_none
  | succ n ih =>
    intro a2 a3 S
    show Ok Γ wX 4 [(0, rv Γ 70), (1, .int a1), (2, .int a2), (3, .int a3)] [] S (fX9_worthOf_L4_st a1 (fX9_worthOf_L4 a1 n) a2 a3 S)
    unfold fX9_worthOf_L4_st
    refine ok_iload_n 3 hc dX9_worthOf_4 rfl rfl ?_
    refine ok_aload_n 0 hc dX9_worthOf_5 rfl rfl ?_
    refine ok_geti hc FS_X9_43 rfl sX_70 dX9_worthOf_6 ?_
    refine ok_icmp_ge_ite 36 hc dX9_worthOf_9 (by decide) (fun h1 => ?_) (fun h1 => ?_)
    · refine ok_iload_n 2 hc dX9_worthOf_36 rfl rfl ?_
      exact ok_iret hc rfl dX9_worthOf_37
    · refine ok_aload_n 0 hc dX9_worthOf_12 rfl rfl ?_
      refine ok_iload_n 3 hc dX9_worthOf_13 rfl rfl ?_
      refine ok_iload_n 1 hc dX9_worthOf_14 rfl rfl ?_
      refine ok_callVi (As := [.int a3, .int a1]) (st := []) (fun n0 => [.ref (n0 + 70), .int a3, .int a1]) hc VS_X9_52 sX_70 rfl rfl rfl ⟨Nat.le_of_ble_eq_true rfl, Nat.le_of_ble_eq_true rfl⟩ (Nat.le_of_ble_eq_true rfl) (fun q h => tX9_isServed a3 a1 S q h) dX9_worthOf_15 (fun v2 S3 => ?_)
      refine ok_jn (fun g => ∀ (v4 : Int32), Ok Γ wX 30 [(0, rv Γ 70), (1, .int a1), (2, .int v4), (3, .int a3)] [] S3 (g v4)) ?_ (fun k5 hk5 => ?_)
      · intro v4
        refine ok_iinc (v := 1) 3 [(3, .int (a3 + 1)), (0, rv Γ 70), (1, .int a1), (2, .int v4)] hc dX9_worthOf_30 rfl (by decide) (Nat.le_of_ble_eq_true rfl) rfl ?_
        refine ok_goto 4 hc dX9_worthOf_33 (by decide) ?_
        refine ok_sub [1, 2, 3, 0] rfl ?_
        exact ih _ _ _
      · refine ok_if_eq_ite 30 hc dX9_worthOf_18 (by decide) (fun h6 => ?_) (fun h6 => ?_)
        · exact hk5 _
        · refine ok_iload_n 2 hc dX9_worthOf_21 rfl rfl ?_
          refine ok_aload_n 0 hc dX9_worthOf_22 rfl rfl ?_
          refine ok_getr 76 hc FS_X9_33 rfl sX_70 rfl dX9_worthOf_23 ?_
          refine ok_iload_n 3 hc dX9_worthOf_26 rfl rfl ?_
          refine ok_iald hc sX_76 dX9_worthOf_27 (fun h7 => ?_)
          refine ok_iadd hc dX9_worthOf_28 ?_
          refine ok_lti (fun v8 => ?_)
          refine ok_istore_n [(2, .int v8), (0, rv Γ 70), (1, .int a1), (3, .int a3)] hc dX9_worthOf_29 rfl (Nat.le_of_ble_eq_true rfl) rfl ?_
          refine ok_sub [1, 2, 0, 3] rfl ?_
          exact hk5 _
set_option maxRecDepth 100000 in
set_option maxHeartbeats 4000000 in
theorem tX9_worthOf (a1 : Int32) (S : St) (q : Int32 × St) (h : fX9_worthOf a1 S = some q) : MT vI wX mX9_worthOf (fun n0 => [.ref (n0 + 70), .int a1]) S q := by
  refine mt_of (show plainFor yX9_worthOf = true from by decide) (fun _ => Nat.le_of_ble_eq_true rfl) ?_
  intro Γ hc _
  rw [← h]
  show Ok Γ wX 0 [(0, rv Γ 70), (1, .int a1)] [] S _
  unfold fX9_worthOf
  refine ok_iconst (v := 0) hc dX9_worthOf_0 (by decide) ?_
  refine ok_istore_n [(2, .int 0), (0, rv Γ 70), (1, .int a1)] hc dX9_worthOf_1 rfl (Nat.le_of_ble_eq_true rfl) rfl ?_
  refine ok_iconst (v := 0) hc dX9_worthOf_2 (by decide) ?_
  refine ok_istore_n [(3, .int 0), (2, .int 0), (0, rv Γ 70), (1, .int a1)] hc dX9_worthOf_3 rfl (Nat.le_of_ble_eq_true rfl) rfl ?_
  refine ok_sub [2, 3, 1, 0] rfl ?_
  refine tX9_worthOf_L4 hc _   FU _ _ _
def fX9_choose_L26_st (a1 : Int32) (a2 : Int32) (rec : Int32 → St → Option (Unit × St)) (a3 : Int32) (S : St) : Option (Unit × St) :=
  if a2 ≤ a3 then (some ((), S)) else (bnd (fX9_priceOf a3 S) (fun v2 S3 => jn (fun (S4 : St) => rec (a3 + 1) S4) (fun k5 => if a1 < v2 then (k5 S3) else (bnd (fX9_worthOf a3 S3) (fun v7 S8 => lt (v7 - (S8.1 70 12)) (fun (v9 : Int32) => jn (fun (S10 : St) => lt (wi S10 70 11 a3) (fun S12 => lt (wi S12 70 12 ((S12.1 70 12) + v9)) (fun S13 => lt (wi S13 70 13 v2) (fun S14 => k5 S14)))) (fun k11 => if 0 < v9 then (k11 S8) else (if v9 = 0 then (if (S8.1 70 13) ≤ v2 then (k5 S8) else (k11 S8)) else (k5 S8)))))))))
def fX9_choose_L26 (a1 : Int32) (a2 : Int32) : Nat → Int32 → St → Option (Unit × St)
  | 0 => fun _ _ => none
  | n + 1 => fun a3 S => fX9_choose_L26_st a1 a2 (fX9_choose_L26 a1 a2 n) a3 S
def fX9_choose (a1 : Int32) (S : St) : Option (Unit × St) :=
  bnd (fX9_measure S) (fun _ S1 => lt (wi S1 70 11 0) (fun S2 => lt (wi S2 70 12 0) (fun S3 => lt (wi S3 70 13 0) (fun S4 => bnd (fX9_plans S4) (fun v5 S6 => fX9_choose_L26 a1 v5 FU 1 S6)))))
set_option maxRecDepth 100000 in
set_option maxHeartbeats 4000000 in
theorem tX9_choose_L26 {Γ : Cx Unit} (hc : Cok Γ wX vU mX9_choose) (a1 : Int32) (a2 : Int32) : ∀ (n : Nat) (a3 : Int32) (S : St), Ok Γ wX 26 [(0, rv Γ 70), (1, .int a1), (2, .int a2), (3, .int a3)] [] S (fX9_choose_L26 a1 a2 n a3 S) := by
  intro n
  induction n with
  | zero =>
    intro a3 S
    exact ok_none
  | succ n ih =>
    intro a3 S
    show Ok Γ wX 26 [(0, rv Γ 70), (1, .int a1), (2, .int a2), (3, .int a3)] [] S (fX9_choose_L26_st a1 a2 (fX9_choose_L26 a1 a2 n) a3 S)
    unfold fX9_choose_L26_st
    refine ok_iload_n 3 hc dX9_choose_26 rfl rfl ?_
    refine ok_iload_n 2 hc dX9_choose_27 rfl rfl ?_
    refine ok_icmp_ge_ite 103 hc dX9_choose_28 (by decide) (fun h1 => ?_) (fun h1 => ?_)
    · exact ok_vret hc rfl dX9_choose_103
    · refine ok_aload_n 0 hc dX9_choose_31 rfl rfl ?_
      refine ok_iload_n 3 hc dX9_choose_32 rfl rfl ?_
      refine ok_callVi (As := [.int a3]) (st := []) (fun n0 => [.ref (n0 + 70), .int a3]) hc VS_X9_85 sX_70 rfl rfl rfl ⟨Nat.le_of_ble_eq_true rfl, Nat.le_of_ble_eq_true rfl⟩ (Nat.le_of_ble_eq_true rfl) (fun q h => tX9_priceOf a3 S q h) dX9_choose_33 (fun v2 S3 => ?_)
      refine ok_istore [(4, .int v2), (0, rv Γ 70), (1, .int a1), (2, .int a2), (3, .int a3)] hc dX9_choose_36 (Nat.le_of_ble_eq_true rfl) rfl ?_
      refine ok_iload 0 hc dX9_choose_38 rfl ?_
      refine ok_iload_n 2 hc dX9_choose_40 rfl rfl ?_
      refine ok_jn (fun g => ∀ (S4 : St), Ok Γ wX 97 [(0, rv Γ 70), (1, .int a1), (2, .int a2), (3, .int a3)] [] S4 (g S4)) ?_ (fun k5 hk5 => ?_)
      · intro S4
        refine ok_iinc (v := 1) 3 [(3, .int (a3 + 1)), (0, rv Γ 70), (1, .int a1), (2, .int a2)] hc dX9_choose_97 rfl (by decide) (Nat.le_of_ble_eq_true rfl) rfl ?_
        refine ok_goto 26 hc dX9_choose_100 (by decide) ?_
        refine ok_sub [1, 2, 3, 0] rfl ?_
        exact ih _ _
      · refine ok_icmp_gt_ite 97 hc dX9_choose_41 (by decide) (fun h6 => ?_) (fun h6 => ?_)
        · refine ok_sub [1, 2, 3, 4] rfl ?_
          exact hk5 _
        · refine ok_aload_n 1 hc dX9_choose_44 rfl rfl ?_
          refine ok_iload_n 4 hc dX9_choose_45 rfl rfl ?_
          refine ok_callVi (As := [.int a3]) (st := []) (fun n0 => [.ref (n0 + 70), .int a3]) hc VS_X9_89 sX_70 rfl rfl rfl ⟨Nat.le_of_ble_eq_true rfl, Nat.le_of_ble_eq_true rfl⟩ (Nat.le_of_ble_eq_true rfl) (fun q h => tX9_worthOf a3 S3 q h) dX9_choose_46 (fun v7 S8 => ?_)
          refine ok_aload_n 1 hc dX9_choose_49 rfl rfl ?_
          refine ok_geti hc FS_X9_75 rfl sX_70 dX9_choose_50 ?_
          refine ok_isub hc dX9_choose_53 ?_
          refine ok_lti (fun v9 => ?_)
          refine ok_istore [(5, .int v9), (4, .int v2), (0, rv Γ 70), (1, .int a1), (2, .int a2), (3, .int a3)] hc dX9_choose_54 (Nat.le_of_ble_eq_true rfl) rfl ?_
          refine ok_iload 0 hc dX9_choose_56 rfl ?_
          refine ok_jn (fun g => ∀ (S10 : St), Ok Γ wX 75 [(0, rv Γ 70), (1, .int a1), (2, .int a2), (3, .int a3), (4, .int v2), (5, .int v9)] [] S10 (g S10)) ?_ (fun k11 hk11 => ?_)
          · intro S10
            refine ok_aload_n 0 hc dX9_choose_75 rfl rfl ?_
            refine ok_iload_n 3 hc dX9_choose_76 rfl rfl ?_
            refine ok_puti hc FP_X9_72 rfl sX_70 dX9_choose_77 ?_
            refine ok_ltS (fun S12 => ?_)
            refine ok_aload_n 0 hc dX9_choose_80 rfl rfl ?_
            refine ok_dup hc dX9_choose_81 rfl ?_
            refine ok_geti hc FS_X9_75 rfl sX_70 dX9_choose_82 ?_
            refine ok_iload 5 hc dX9_choose_85 rfl ?_
            refine ok_iadd hc dX9_choose_87 ?_
            refine ok_puti hc FP_X9_75 rfl sX_70 dX9_choose_88 ?_
            refine ok_ltS (fun S13 => ?_)
            refine ok_aload_n 0 hc dX9_choose_91 rfl rfl ?_
            refine ok_iload 4 hc dX9_choose_92 rfl ?_
            refine ok_puti hc FP_X9_78 rfl sX_70 dX9_choose_94 ?_
            refine ok_ltS (fun S14 => ?_)
            refine ok_sub [0, 1, 2, 3] rfl ?_
            exact hk5 _
          · refine ok_if_gt_ite 75 hc dX9_choose_58 (by decide) (fun h15 => ?_) (fun h15 => ?_)
            · refine ok_sub [2, 3, 4, 5, 1, 0] rfl ?_
              exact hk11 _
            · refine ok_iload 0 hc dX9_choose_61 rfl ?_
              refine ok_if_ne_ite 97 hc dX9_choose_63 (by decide) (fun h16 => ?_) (fun h16 => ?_)
              · refine ok_sub [2, 3, 4, 5] rfl ?_
                exact hk5 _
              · refine ok_iload 1 hc dX9_choose_66 rfl ?_
                refine ok_aload_n 2 hc dX9_choose_68 rfl rfl ?_
                refine ok_geti hc FS_X9_78 rfl sX_70 dX9_choose_69 ?_
                refine ok_icmp_ge_ite 97 hc dX9_choose_72 (by decide) (fun h17 => ?_) (fun h17 => ?_)
                · refine ok_sub [2, 3, 4, 5] rfl ?_
                  exact hk5 _
                · refine ok_sub [2, 3, 4, 5, 1, 0] rfl ?_
                  exact hk11 _
set_option maxRecDepth 100000 in
set_option maxHeartbeats 4000000 in
theorem tX9_choose (a1 : Int32) (S : St) (q : Unit × St) (h : fX9_choose a1 S = some q) : MT vU wX mX9_choose (fun n0 => [.ref (n0 + 70), .int a1]) S q := by
  refine mt_of (show plainFor yX9_choose = true from by decide) (fun _ => Nat.le_of_ble_eq_true rfl) ?_
  intro Γ hc _
  rw [← h]
  show Ok Γ wX 0 [(0, rv Γ 70), (1, .int a1)] [] S _
  unfold fX9_choose
  refine ok_aload_n 0 hc dX9_choose_0 rfl rfl ?_
  refine ok_callVu (As := []) (st := []) (fun n0 => [.ref (n0 + 70)]) hc VS_X9_69 sX_70 rfl rfl rfl ⟨Nat.le_of_ble_eq_true rfl, Nat.le_of_ble_eq_true rfl⟩ (Nat.le_of_ble_eq_true rfl) (fun q h => tX9_measure S q h) dX9_choose_1 (fun _ S1 => ?_)
  refine ok_aload_n 0 hc dX9_choose_4 rfl rfl ?_
  refine ok_iconst (v := 0) hc dX9_choose_5 (by decide) ?_
  refine ok_puti hc FP_X9_72 rfl sX_70 dX9_choose_6 ?_
  refine ok_ltS (fun S2 => ?_)
  refine ok_aload_n 0 hc dX9_choose_9 rfl rfl ?_
  refine ok_iconst (v := 0) hc dX9_choose_10 (by decide) ?_
  refine ok_puti hc FP_X9_75 rfl sX_70 dX9_choose_11 ?_
  refine ok_ltS (fun S3 => ?_)
  refine ok_aload_n 0 hc dX9_choose_14 rfl rfl ?_
  refine ok_iconst (v := 0) hc dX9_choose_15 (by decide) ?_
  refine ok_puti hc FP_X9_78 rfl sX_70 dX9_choose_16 ?_
  refine ok_ltS (fun S4 => ?_)
  refine ok_aload_n 0 hc dX9_choose_19 rfl rfl ?_
  refine ok_callVi (As := []) (st := []) (fun n0 => [.ref (n0 + 70)]) hc VS_X9_81 sX_70 rfl rfl rfl ⟨Nat.le_of_ble_eq_true rfl, Nat.le_of_ble_eq_true rfl⟩ (Nat.le_of_ble_eq_true rfl) (fun q h => tX9_plans S4 q h) dX9_choose_20 (fun v5 S6 => ?_)
  refine ok_istore_n [(2, .int v5), (0, rv Γ 70), (1, .int a1)] hc dX9_choose_23 rfl (Nat.le_of_ble_eq_true rfl) rfl ?_
  refine ok_iconst (v := 1) hc dX9_choose_24 (by decide) ?_
  refine ok_istore_n [(3, .int 1), (2, .int v5), (0, rv Γ 70), (1, .int a1)] hc dX9_choose_25 rfl (Nat.le_of_ble_eq_true rfl) rfl ?_
  refine ok_sub [2, 3, 1, 0] rfl ?_
  refine tX9_choose_L26 hc _ _   FU _ _
def fX9_addEar (a1 : Int32) (a2 : Int32) (S : St) : Option (Int32 × St) :=
  if ib (S.1 70 10) 12 then lt (wi S 75 (nt (S.1 70 10)) a1) (fun S1 => if ib (S1.1 70 10) 12 then lt (wi S1 76 (nt (S1.1 70 10)) a2) (fun S3 => lt (wi S3 70 10 ((S3.1 70 10) + 1)) (fun S5 => some ((S5.1 70 10) - 1, S5))) else none) else none
set_option maxRecDepth 100000 in
set_option maxHeartbeats 4000000 in
theorem tX9_addEar (a1 : Int32) (a2 : Int32) (S : St) (q : Int32 × St) (h : fX9_addEar a1 a2 S = some q) : MT vI wX mX9_addEar (fun n0 => [.ref (n0 + 70), .int a1, .int a2]) S q := by
  refine mt_of (show plainFor yX9_addEar = true from by decide) (fun _ => Nat.le_of_ble_eq_true rfl) ?_
  intro Γ hc _
  rw [← h]
  show Ok Γ wX 0 [(0, rv Γ 70), (1, .int a1), (2, .int a2)] [] S _
  unfold fX9_addEar
  refine ok_aload_n 0 hc dX9_addEar_0 rfl rfl ?_
  refine ok_getr 75 hc FS_X9_30 rfl sX_70 rfl dX9_addEar_1 ?_
  refine ok_aload_n 0 hc dX9_addEar_4 rfl rfl ?_
  refine ok_geti hc FS_X9_43 rfl sX_70 dX9_addEar_5 ?_
  refine ok_iload_n 1 hc dX9_addEar_8 rfl rfl ?_
  refine ok_iast hc sX_75 dX9_addEar_9 (fun h2 => ?_)
  refine ok_ltS (fun S1 => ?_)
  refine ok_aload_n 0 hc dX9_addEar_10 rfl rfl ?_
  refine ok_getr 76 hc FS_X9_33 rfl sX_70 rfl dX9_addEar_11 ?_
  refine ok_aload_n 0 hc dX9_addEar_14 rfl rfl ?_
  refine ok_geti hc FS_X9_43 rfl sX_70 dX9_addEar_15 ?_
  refine ok_iload_n 2 hc dX9_addEar_18 rfl rfl ?_
  refine ok_iast hc sX_76 dX9_addEar_19 (fun h4 => ?_)
  refine ok_ltS (fun S3 => ?_)
  refine ok_aload_n 0 hc dX9_addEar_20 rfl rfl ?_
  refine ok_dup hc dX9_addEar_21 rfl ?_
  refine ok_geti hc FS_X9_43 rfl sX_70 dX9_addEar_22 ?_
  refine ok_iconst (v := 1) hc dX9_addEar_25 (by decide) ?_
  refine ok_iadd hc dX9_addEar_26 ?_
  refine ok_puti hc FP_X9_43 rfl sX_70 dX9_addEar_27 ?_
  refine ok_ltS (fun S5 => ?_)
  refine ok_aload_n 0 hc dX9_addEar_30 rfl rfl ?_
  refine ok_geti hc FS_X9_43 rfl sX_70 dX9_addEar_31 ?_
  refine ok_iconst (v := 1) hc dX9_addEar_34 (by decide) ?_
  refine ok_isub hc dX9_addEar_35 ?_
  exact ok_iret hc rfl dX9_addEar_36
def fX9_addSite (a1 : Int32) (a2 : Int32) (a3 : Int32) (a4 : Int32) (a5 : Int32) (a6 : Int32) (S : St) : Option (Int32 × St) :=
  if ib (S.1 70 9) 6 then lt (wi S 71 (nt (S.1 70 9)) a1) (fun S1 => if ib (S1.1 70 9) 6 then lt (wi S1 72 (nt (S1.1 70 9)) a2) (fun S3 => if ib (((S3.1 70 9) * 3) + 1) 18 then lt (wi S3 73 (nt (((S3.1 70 9) * 3) + 1)) a3) (fun S5 => if ib (((S5.1 70 9) * 3) + 2) 18 then lt (wi S5 73 (nt (((S5.1 70 9) * 3) + 2)) a4) (fun S7 => if ib (((S7.1 70 9) * 3) + 1) 18 then lt (wi S7 74 (nt (((S7.1 70 9) * 3) + 1)) a5) (fun S9 => if ib (((S9.1 70 9) * 3) + 2) 18 then lt (wi S9 74 (nt (((S9.1 70 9) * 3) + 2)) a6) (fun S11 => lt (wi S11 70 9 ((S11.1 70 9) + 1)) (fun S13 => some ((S13.1 70 9) - 1, S13))) else none) else none) else none) else none) else none) else none
set_option maxRecDepth 100000 in
set_option maxHeartbeats 4000000 in
theorem tX9_addSite (a1 : Int32) (a2 : Int32) (a3 : Int32) (a4 : Int32) (a5 : Int32) (a6 : Int32) (S : St) (q : Int32 × St) (h : fX9_addSite a1 a2 a3 a4 a5 a6 S = some q) : MT vI wX mX9_addSite (fun n0 => [.ref (n0 + 70), .int a1, .int a2, .int a3, .int a4, .int a5, .int a6]) S q := by
  refine mt_of (show plainFor yX9_addSite = true from by decide) (fun _ => Nat.le_of_ble_eq_true rfl) ?_
  intro Γ hc _
  rw [← h]
  show Ok Γ wX 0 [(0, rv Γ 70), (1, .int a1), (2, .int a2), (3, .int a3), (4, .int a4), (5, .int a5), (6, .int a6)] [] S _
  unfold fX9_addSite
  refine ok_aload_n 0 hc dX9_addSite_0 rfl rfl ?_
  refine ok_getr 71 hc FS_X9_17 rfl sX_70 rfl dX9_addSite_1 ?_
  refine ok_aload_n 0 hc dX9_addSite_4 rfl rfl ?_
  refine ok_geti hc FS_X9_39 rfl sX_70 dX9_addSite_5 ?_
  refine ok_iload_n 1 hc dX9_addSite_8 rfl rfl ?_
  refine ok_iast hc sX_71 dX9_addSite_9 (fun h2 => ?_)
  refine ok_ltS (fun S1 => ?_)
  refine ok_aload_n 0 hc dX9_addSite_10 rfl rfl ?_
  refine ok_getr 72 hc FS_X9_21 rfl sX_70 rfl dX9_addSite_11 ?_
  refine ok_aload_n 0 hc dX9_addSite_14 rfl rfl ?_
  refine ok_geti hc FS_X9_39 rfl sX_70 dX9_addSite_15 ?_
  refine ok_iload_n 2 hc dX9_addSite_18 rfl rfl ?_
  refine ok_iast hc sX_72 dX9_addSite_19 (fun h4 => ?_)
  refine ok_ltS (fun S3 => ?_)
  refine ok_aload_n 0 hc dX9_addSite_20 rfl rfl ?_
  refine ok_getr 73 hc FS_X9_24 rfl sX_70 rfl dX9_addSite_21 ?_
  refine ok_aload_n 0 hc dX9_addSite_24 rfl rfl ?_
  refine ok_geti hc FS_X9_39 rfl sX_70 dX9_addSite_25 ?_
  refine ok_iconst (v := 3) hc dX9_addSite_28 (by decide) ?_
  refine ok_imul hc dX9_addSite_29 ?_
  refine ok_iconst (v := 1) hc dX9_addSite_30 (by decide) ?_
  refine ok_iadd hc dX9_addSite_31 ?_
  refine ok_iload_n 3 hc dX9_addSite_32 rfl rfl ?_
  refine ok_iast hc sX_73 dX9_addSite_33 (fun h6 => ?_)
  refine ok_ltS (fun S5 => ?_)
  refine ok_aload_n 0 hc dX9_addSite_34 rfl rfl ?_
  refine ok_getr 73 hc FS_X9_24 rfl sX_70 rfl dX9_addSite_35 ?_
  refine ok_aload_n 0 hc dX9_addSite_38 rfl rfl ?_
  refine ok_geti hc FS_X9_39 rfl sX_70 dX9_addSite_39 ?_
  refine ok_iconst (v := 3) hc dX9_addSite_42 (by decide) ?_
  refine ok_imul hc dX9_addSite_43 ?_
  refine ok_iconst (v := 2) hc dX9_addSite_44 (by decide) ?_
  refine ok_iadd hc dX9_addSite_45 ?_
  refine ok_iload 4 hc dX9_addSite_46 rfl ?_
  refine ok_iast hc sX_73 dX9_addSite_48 (fun h8 => ?_)
  refine ok_ltS (fun S7 => ?_)
  refine ok_aload_n 0 hc dX9_addSite_49 rfl rfl ?_
  refine ok_getr 74 hc FS_X9_27 rfl sX_70 rfl dX9_addSite_50 ?_
  refine ok_aload_n 0 hc dX9_addSite_53 rfl rfl ?_
  refine ok_geti hc FS_X9_39 rfl sX_70 dX9_addSite_54 ?_
  refine ok_iconst (v := 3) hc dX9_addSite_57 (by decide) ?_
  refine ok_imul hc dX9_addSite_58 ?_
  refine ok_iconst (v := 1) hc dX9_addSite_59 (by decide) ?_
  refine ok_iadd hc dX9_addSite_60 ?_
  refine ok_iload 5 hc dX9_addSite_61 rfl ?_
  refine ok_iast hc sX_74 dX9_addSite_63 (fun h10 => ?_)
  refine ok_ltS (fun S9 => ?_)
  refine ok_aload_n 0 hc dX9_addSite_64 rfl rfl ?_
  refine ok_getr 74 hc FS_X9_27 rfl sX_70 rfl dX9_addSite_65 ?_
  refine ok_aload_n 0 hc dX9_addSite_68 rfl rfl ?_
  refine ok_geti hc FS_X9_39 rfl sX_70 dX9_addSite_69 ?_
  refine ok_iconst (v := 3) hc dX9_addSite_72 (by decide) ?_
  refine ok_imul hc dX9_addSite_73 ?_
  refine ok_iconst (v := 2) hc dX9_addSite_74 (by decide) ?_
  refine ok_iadd hc dX9_addSite_75 ?_
  refine ok_iload 6 hc dX9_addSite_76 rfl ?_
  refine ok_iast hc sX_74 dX9_addSite_78 (fun h12 => ?_)
  refine ok_ltS (fun S11 => ?_)
  refine ok_aload_n 0 hc dX9_addSite_79 rfl rfl ?_
  refine ok_dup hc dX9_addSite_80 rfl ?_
  refine ok_geti hc FS_X9_39 rfl sX_70 dX9_addSite_81 ?_
  refine ok_iconst (v := 1) hc dX9_addSite_84 (by decide) ?_
  refine ok_iadd hc dX9_addSite_85 ?_
  refine ok_puti hc FP_X9_39 rfl sX_70 dX9_addSite_86 ?_
  refine ok_ltS (fun S13 => ?_)
  refine ok_aload_n 0 hc dX9_addSite_89 rfl rfl ?_
  refine ok_geti hc FS_X9_39 rfl sX_70 dX9_addSite_90 ?_
  refine ok_iconst (v := 1) hc dX9_addSite_93 (by decide) ?_
  refine ok_isub hc dX9_addSite_94 ?_
  exact ok_iret hc rfl dX9_addSite_95
