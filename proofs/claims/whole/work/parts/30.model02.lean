def fX12_servedBy_L30_st (kx0 : Int64 → Int64 → St → Option (Int32 × St)) (a1 : Int32) (a2 : Int32) (a3 : Int32) (rec : Int64 → Int64 → Int32 → Int32 → St → Option (Int32 × St)) (a4 : Int64) (a6 : Int64) (a8 : Int32) (a9 : Int32) (S : St) : Option (Int32 × St) :=
  if (S.1 0 46) ≤ a9 then (kx0 a4 a6 S) else (lt (ire a8 3) (fun (v2 : Int32) => lt (a8 / 3) (fun (v3 : Int32) => jn (fun (v4 : Int64) (v5 : Int64) => rec v4 v5 v3 (a9 + 1) S) (fun k6 => if v2 ≤ 0 then (k6 a4 a6) else (if ib ((12 * (((2 * a9) + v2) - 1)) + a3) 144 then (lt ((S.1 42 (nt ((12 * (((2 * a9) + v2) - 1)) + a3))).toInt64) (fun (v9 : Int64) => lt (a4 + v9) (fun (v10 : Int64) => if v9 ≤ a6 then (k6 v10 a6) else (k6 v10 v9)))) else none)))))
def fX12_servedBy_L30 (kx0 : Int64 → Int64 → St → Option (Int32 × St)) (a1 : Int32) (a2 : Int32) (a3 : Int32) : Nat → Int64 → Int64 → Int32 → Int32 → St → Option (Int32 × St)
  | 0 => fun _ _ _ _ _ => none
  | n + 1 => fun a4 a6 a8 a9 S => fX12_servedBy_L30_st kx0 a1 a2 a3 (fX12_servedBy_L30 kx0 a1 a2 a3 n) a4 a6 a8 a9 S
def fX12_servedBy_L4_st (a1 : Int32) (rec : Int32 → Int32 → St → Option (Int32 × St)) (a2 : Int32) (a3 : Int32) (S : St) : Option (Int32 × St) :=
  if (S.1 0 51) ≤ a3 then (some (a2, S)) else (lt ((S.1 5 (nt 2)).toInt64) (fun (v2 : Int64) => fX12_servedBy_L30 (fun (v3 : Int64) (v4 : Int64) (S5 : St) => jn (fun (v6 : Int32) => lt (a2 + v6) (fun (v8 : Int32) => rec v8 (a3 + 1) S5)) (fun k7 => if (100 * v4) < (((S5.1 5 (nt 4)).toInt64) * (v3 - v4)) then (k7 0) else (if ib a3 12 then (k7 (S5.1 41 (nt a3))) else none))) a1 a2 a3 FU v2 0 a1 0 S))
def fX12_servedBy_L4 (a1 : Int32) : Nat → Int32 → Int32 → St → Option (Int32 × St)
  | 0 => fun _ _ _ => none
  | n + 1 => fun a2 a3 S => fX12_servedBy_L4_st a1 (fX12_servedBy_L4 a1 n) a2 a3 S
def fX12_servedBy (a1 : Int32) (S : St) : Option (Int32 × St) :=
  fX12_servedBy_L4 a1 FU 0 0 S
set_option maxRecDepth 100000 in
set_option maxHeartbeats 4000000 in
theorem tX12_servedBy_L30 {Γ : Cx Int32} (hc : Cok Γ wM vI mX12_servedBy) (kx0 : Int64 → Int64 → St → Option (Int32 × St)) (a1 : Int32) (a2 : Int32) (a3 : Int32) (hx0 : ∀ (a4 : Int64) (a6 : Int64) (S : St), Ok Γ wM 108 [(0, rv Γ 0), (1, .int a1), (2, .int a2), (3, .int a3), (4, .long a4), (6, .long a6)] [] S (kx0 a4 a6 S)) : ∀ (n : Nat) (a4 : Int64) (a6 : Int64) (a8 : Int32) (a9 : Int32) (S : St), Ok Γ wM 30 [(0, rv Γ 0), (1, .int a1), (2, .int a2), (3, .int a3), (4, .long a4), (6, .long a6), (8, .int a8), (9, .int a9)] [] S (fX12_servedBy_L30 kx0 a1 a2 a3 n a4 a6 a8 a9 S) := by
  intro n
  induction n with
  | zero =>
    intro a4 a6 a8 a9 S
    exact ok_none
  | succ n ih =>
    intro a4 a6 a8 a9 S
    show Ok Γ wM 30 [(0, rv Γ 0), (1, .int a1), (2, .int a2), (3, .int a3), (4, .long a4), (6, .long a6), (8, .int a8), (9, .int a9)] [] S (fX12_servedBy_L30_st kx0 a1 a2 a3 (fX12_servedBy_L30 kx0 a1 a2 a3 n) a4 a6 a8 a9 S)
    unfold fX12_servedBy_L30_st
    refine ok_iload 7 hc dX12_servedBy_30 rfl ?_
    refine ok_aload_n 0 hc dX12_servedBy_32 rfl rfl ?_
    refine ok_geti hc FS_X12_182 rfl sM_0 dX12_servedBy_33 ?_
    refine ok_icmp_ge_ite 108 hc dX12_servedBy_36 (by decide) (fun h1 => ?_) (fun h1 => ?_)
    · refine ok_sub [0, 1, 2, 3, 4, 5] rfl ?_
      exact hx0 _ _ _
    · refine ok_iload 6 hc dX12_servedBy_39 rfl ?_
      refine ok_iconst (v := 3) hc dX12_servedBy_41 (by decide) ?_
      refine ok_iremK hc dX12_servedBy_42 (by decide) ?_
      refine ok_lti (fun v2 => ?_)
      refine ok_istore [(10, .int v2), (0, rv Γ 0), (1, .int a1), (2, .int a2), (3, .int a3), (4, .long a4), (6, .long a6), (8, .int a8), (9, .int a9)] hc dX12_servedBy_43 (Nat.le_of_ble_eq_true rfl) rfl ?_
      refine ok_iload 7 hc dX12_servedBy_45 rfl ?_
      refine ok_iconst (v := 3) hc dX12_servedBy_47 (by decide) ?_
      refine ok_idivK hc dX12_servedBy_48 (by decide) ?_
      refine ok_lti (fun v3 => ?_)
      refine ok_istore [(8, .int v3), (10, .int v2), (0, rv Γ 0), (1, .int a1), (2, .int a2), (3, .int a3), (4, .long a4), (6, .long a6), (9, .int a9)] hc dX12_servedBy_49 (Nat.le_of_ble_eq_true rfl) rfl ?_
      refine ok_iload 1 hc dX12_servedBy_51 rfl ?_
      refine ok_jn (fun g => ∀ (v4 : Int64) (v5 : Int64), Ok Γ wM 102 [(0, rv Γ 0), (1, .int a1), (2, .int a2), (3, .int a3), (4, .long v4), (6, .long v5), (8, .int v3), (9, .int a9)] [] S (g v4 v5)) ?_ (fun k6 hk6 => ?_)
      · intro v4 v5
        refine ok_iinc (v := 1) 7 [(9, .int (a9 + 1)), (0, rv Γ 0), (1, .int a1), (2, .int a2), (3, .int a3), (4, .long v4), (6, .long v5), (8, .int v3)] hc dX12_servedBy_102 rfl (by decide) (Nat.le_of_ble_eq_true rfl) rfl ?_
        refine ok_goto 30 hc dX12_servedBy_105 (by decide) ?_
        refine ok_sub [1, 2, 3, 4, 5, 6, 7, 0] rfl ?_
        exact ih _ _ _ _ _
      · refine ok_if_le_ite 102 hc dX12_servedBy_53 (by decide) (fun h7 => ?_) (fun h7 => ?_)
        · refine ok_sub [2, 3, 4, 5, 6, 7, 0, 8] rfl ?_
          exact hk6 _ _
        · refine ok_aload_n 2 hc dX12_servedBy_56 rfl rfl ?_
          refine ok_getr 42 hc FS_X12_142 rfl sM_0 rfl dX12_servedBy_57 ?_
          refine ok_bipush (v := 12) hc dX12_servedBy_60 (by decide) ?_
          refine ok_iconst (v := 2) hc dX12_servedBy_62 (by decide) ?_
          refine ok_iload 8 hc dX12_servedBy_63 rfl ?_
          refine ok_imul hc dX12_servedBy_65 ?_
          refine ok_iload 1 hc dX12_servedBy_66 rfl ?_
          refine ok_iadd hc dX12_servedBy_68 ?_
          refine ok_iconst (v := 1) hc dX12_servedBy_69 (by decide) ?_
          refine ok_isub hc dX12_servedBy_70 ?_
          refine ok_imul hc dX12_servedBy_71 ?_
          refine ok_iload_n 5 hc dX12_servedBy_72 rfl rfl ?_
          refine ok_iadd hc dX12_servedBy_73 ?_
          refine ok_iald hc sM_42 dX12_servedBy_74 (fun h8 => ?_)
          refine ok_i2l hc dX12_servedBy_75 ?_
          refine ok_ltl (fun v9 => ?_)
          refine ok_lstore [(11, .long v9), (8, .int v3), (10, .int v2), (0, rv Γ 0), (1, .int a1), (2, .int a2), (3, .int a3), (4, .long a4), (6, .long a6), (9, .int a9)] hc dX12_servedBy_76 (Nat.le_of_ble_eq_true rfl) rfl ?_
          refine ok_lload 7 hc dX12_servedBy_78 rfl ?_
          refine ok_lload 0 hc dX12_servedBy_80 rfl ?_
          refine ok_ladd hc dX12_servedBy_82 ?_
          refine ok_ltl (fun v10 => ?_)
          refine ok_lstore [(4, .long v10), (11, .long v9), (8, .int v3), (10, .int v2), (0, rv Γ 0), (1, .int a1), (2, .int a2), (3, .int a3), (6, .long a6), (9, .int a9)] hc dX12_servedBy_83 (Nat.le_of_ble_eq_true rfl) rfl ?_
          refine ok_lload 1 hc dX12_servedBy_85 rfl ?_
          refine ok_lload 8 hc dX12_servedBy_87 rfl ?_
          refine ok_lcmp_le_ite 98 hc dX12_servedBy_89 dX12_servedBy_90 (by decide) (fun h11 => ?_) (fun h11 => ?_)
          · refine ok_lload 8 hc dX12_servedBy_98 rfl ?_
            refine ok_lstore [(6, .long a6), (4, .long v10), (11, .long v9), (8, .int v3), (10, .int v2), (0, rv Γ 0), (1, .int a1), (2, .int a2), (3, .int a3), (9, .int a9)] hc dX12_servedBy_100 (Nat.le_of_ble_eq_true rfl) rfl ?_
            refine ok_sub [5, 6, 7, 8, 1, 0, 3, 9] rfl ?_
            exact hk6 _ _
          · refine ok_lload 1 hc dX12_servedBy_93 rfl ?_
            refine ok_goto 100 hc dX12_servedBy_95 (by decide) ?_
            refine ok_lstore [(6, .long v9), (4, .long v10), (11, .long v9), (8, .int v3), (10, .int v2), (0, rv Γ 0), (1, .int a1), (2, .int a2), (3, .int a3), (9, .int a9)] hc dX12_servedBy_100 (Nat.le_of_ble_eq_true rfl) rfl ?_
            refine ok_sub [5, 6, 7, 8, 1, 0, 3, 9] rfl ?_
            exact hk6 _ _
set_option maxRecDepth 100000 in
set_option maxHeartbeats 4000000 in
theorem tX12_servedBy_L4 {Γ : Cx Int32} (hc : Cok Γ wM vI mX12_servedBy) (a1 : Int32) : ∀ (n : Nat) (a2 : Int32) (a3 : Int32) (S : St), Ok Γ wM 4 [(0, rv Γ 0), (1, .int a1), (2, .int a2), (3, .int a3)] [] S (fX12_servedBy_L4 a1 n a2 a3 S) := by
  intro n
  induction n with
  | zero =>
    intro a2 a3 S
    exact ok_none
  | succ n ih =>
    intro a2 a3 S
    show Ok Γ wM 4 [(0, rv Γ 0), (1, .int a1), (2, .int a2), (3, .int a3)] [] S (fX12_servedBy_L4_st a1 (fX12_servedBy_L4 a1 n) a2 a3 S)
    unfold fX12_servedBy_L4_st
    refine ok_iload_n 3 hc dX12_servedBy_4 rfl rfl ?_
    refine ok_aload_n 0 hc dX12_servedBy_5 rfl rfl ?_
    refine ok_geti hc FS_X12_185 rfl sM_0 dX12_servedBy_6 ?_
    refine ok_icmp_ge_ite 150 hc dX12_servedBy_9 (by decide) (fun h1 => ?_) (fun h1 => ?_)
    · refine ok_iload_n 2 hc dX12_servedBy_150 rfl rfl ?_
      exact ok_iret hc rfl dX12_servedBy_151
    · refine ok_aload_n 0 hc dX12_servedBy_12 rfl rfl ?_
      refine ok_getr 5 hc FS_X12_30 rfl sM_0 rfl dX12_servedBy_13 ?_
      refine ok_iconst (v := 2) hc dX12_servedBy_16 (by decide) ?_
      refine ok_ialdK hc sM_5 (by decide) dX12_servedBy_17 ?_
      refine ok_i2l hc dX12_servedBy_18 ?_
      refine ok_ltl (fun v2 => ?_)
      refine ok_lstore [(4, .long v2), (0, rv Γ 0), (1, .int a1), (2, .int a2), (3, .int a3)] hc dX12_servedBy_19 (Nat.le_of_ble_eq_true rfl) rfl ?_
      refine ok_lconst (v := 0) hc dX12_servedBy_21 (by decide) ?_
      refine ok_lstore [(6, .long 0), (4, .long v2), (0, rv Γ 0), (1, .int a1), (2, .int a2), (3, .int a3)] hc dX12_servedBy_22 (Nat.le_of_ble_eq_true rfl) rfl ?_
      refine ok_iload_n 3 hc dX12_servedBy_24 rfl rfl ?_
      refine ok_istore [(8, .int a1), (6, .long 0), (4, .long v2), (0, rv Γ 0), (1, .int a1), (2, .int a2), (3, .int a3)] hc dX12_servedBy_25 (Nat.le_of_ble_eq_true rfl) rfl ?_
      refine ok_iconst (v := 0) hc dX12_servedBy_27 (by decide) ?_
      refine ok_istore [(9, .int 0), (8, .int a1), (6, .long 0), (4, .long v2), (0, rv Γ 0), (1, .int a1), (2, .int a2), (3, .int a3)] hc dX12_servedBy_28 (Nat.le_of_ble_eq_true rfl) rfl ?_
      refine ok_sub [4, 5, 6, 7, 3, 2, 1, 0] rfl ?_
      refine tX12_servedBy_L30 hc _ _ _ _  ?_ FU _ _ _ _ _
      · intro v3 v4 S5
        refine ok_iload_n 2 hc dX12_servedBy_108 rfl rfl ?_
        refine ok_ldc2 hc dX12_servedBy_109 W_1425 ?_
        refine ok_lload 5 hc dX12_servedBy_112 rfl ?_
        refine ok_lmul hc dX12_servedBy_114 ?_
        refine ok_aload_n 0 hc dX12_servedBy_115 rfl rfl ?_
        refine ok_getr 5 hc FS_X12_30 rfl sM_0 rfl dX12_servedBy_116 ?_
        refine ok_iconst (v := 4) hc dX12_servedBy_119 (by decide) ?_
        refine ok_ialdK hc sM_5 (by decide) dX12_servedBy_120 ?_
        refine ok_i2l hc dX12_servedBy_121 ?_
        refine ok_lload 4 hc dX12_servedBy_122 rfl ?_
        refine ok_lload 5 hc dX12_servedBy_124 rfl ?_
        refine ok_lsub hc dX12_servedBy_126 ?_
        refine ok_lmul hc dX12_servedBy_127 ?_
        refine ok_jn (fun g => ∀ (v6 : Int32), Ok Γ wM 142 [(0, rv Γ 0), (1, .int a1), (3, .int a3)] [.int v6, .int a2] S5 (g v6)) ?_ (fun k7 hk7 => ?_)
        · intro v6
          refine ok_iadd hc dX12_servedBy_142 ?_
          refine ok_lti (fun v8 => ?_)
          refine ok_istore_n [(2, .int v8), (0, rv Γ 0), (1, .int a1), (3, .int a3)] hc dX12_servedBy_143 rfl (Nat.le_of_ble_eq_true rfl) rfl ?_
          refine ok_iinc (v := 1) 3 [(3, .int (a3 + 1)), (2, .int v8), (0, rv Γ 0), (1, .int a1)] hc dX12_servedBy_144 rfl (by decide) (Nat.le_of_ble_eq_true rfl) rfl ?_
          refine ok_goto 4 hc dX12_servedBy_147 (by decide) ?_
          refine ok_sub [2, 3, 1, 0] rfl ?_
          exact ih _ _ _
        · refine ok_lcmp_lt_ite 141 hc dX12_servedBy_128 dX12_servedBy_129 (by decide) (fun h9 => ?_) (fun h9 => ?_)
          · refine ok_iconst (v := 0) hc dX12_servedBy_141 (by decide) ?_
            refine ok_sub [0, 1, 3] rfl ?_
            exact hk7 _
          · refine ok_aload_n 0 hc dX12_servedBy_132 rfl rfl ?_
            refine ok_getr 41 hc FS_X12_139 rfl sM_0 rfl dX12_servedBy_133 ?_
            refine ok_iload_n 3 hc dX12_servedBy_136 rfl rfl ?_
            refine ok_iald hc sM_41 dX12_servedBy_137 (fun h10 => ?_)
            refine ok_goto 142 hc dX12_servedBy_138 (by decide) ?_
            refine ok_sub [0, 1, 3] rfl ?_
            exact hk7 _
set_option maxRecDepth 100000 in
set_option maxHeartbeats 4000000 in
theorem tX12_servedBy (a1 : Int32) (S : St) (q : Int32 × St) (h : fX12_servedBy a1 S = some q) : MT vI wM mX12_servedBy (fun n0 => [.ref (n0 + 0), .int a1]) S q := by
  refine mt_of (show plainFor yX12_servedBy = true from by decide) (fun _ => Nat.le_of_ble_eq_true rfl) ?_
  intro Γ hc _
  rw [← h]
  show Ok Γ wM 0 [(0, rv Γ 0), (1, .int a1)] [] S _
  unfold fX12_servedBy
  refine ok_iconst (v := 0) hc dX12_servedBy_0 (by decide) ?_
  refine ok_istore_n [(2, .int 0), (0, rv Γ 0), (1, .int a1)] hc dX12_servedBy_1 rfl (Nat.le_of_ble_eq_true rfl) rfl ?_
  refine ok_iconst (v := 0) hc dX12_servedBy_2 (by decide) ?_
  refine ok_istore_n [(3, .int 0), (2, .int 0), (0, rv Γ 0), (1, .int a1)] hc dX12_servedBy_3 rfl (Nat.le_of_ble_eq_true rfl) rfl ?_
  refine ok_sub [2, 3, 1, 0] rfl ?_
  refine tX12_servedBy_L4 hc _   FU _ _ _
def fX12_plans_L4_st (rec : Int32 → Int32 → St → Option (Int32 × St)) (a1 : Int32) (a2 : Int32) (S : St) : Option (Int32 × St) :=
  if (S.1 0 46) ≤ a2 then (some (a1, S)) else (lt (a1 * 3) (fun (v2 : Int32) => rec v2 (a2 + 1) S))
def fX12_plans_L4 : Nat → Int32 → Int32 → St → Option (Int32 × St)
  | 0 => fun _ _ _ => none
  | n + 1 => fun a1 a2 S => fX12_plans_L4_st (fX12_plans_L4 n) a1 a2 S
def fX12_plans (S : St) : Option (Int32 × St) :=
  fX12_plans_L4 FU 1 0 S
set_option maxRecDepth 100000 in
set_option maxHeartbeats 4000000 in
theorem tX12_plans_L4 {Γ : Cx Int32} (hc : Cok Γ wM vI mX12_plans) : ∀ (n : Nat) (a1 : Int32) (a2 : Int32) (S : St), Ok Γ wM 4 [(0, rv Γ 0), (1, .int a1), (2, .int a2)] [] S (fX12_plans_L4 n a1 a2 S) := by
  intro n
  induction n with
  | zero =>
    intro a1 a2 S
    exact ok_none
  | succ n ih =>
    intro a1 a2 S
    show Ok Γ wM 4 [(0, rv Γ 0), (1, .int a1), (2, .int a2)] [] S (fX12_plans_L4_st (fX12_plans_L4 n) a1 a2 S)
    unfold fX12_plans_L4_st
    refine ok_iload_n 2 hc dX12_plans_4 rfl rfl ?_
    refine ok_aload_n 0 hc dX12_plans_5 rfl rfl ?_
    refine ok_geti hc FS_X12_182 rfl sM_0 dX12_plans_6 ?_
    refine ok_icmp_ge_ite 22 hc dX12_plans_9 (by decide) (fun h1 => ?_) (fun h1 => ?_)
    · refine ok_iload_n 1 hc dX12_plans_22 rfl rfl ?_
      exact ok_iret hc rfl dX12_plans_23
    · refine ok_iload_n 1 hc dX12_plans_12 rfl rfl ?_
      refine ok_iconst (v := 3) hc dX12_plans_13 (by decide) ?_
      refine ok_imul hc dX12_plans_14 ?_
      refine ok_lti (fun v2 => ?_)
      refine ok_istore_n [(1, .int v2), (0, rv Γ 0), (2, .int a2)] hc dX12_plans_15 rfl (Nat.le_of_ble_eq_true rfl) rfl ?_
      refine ok_iinc (v := 1) 2 [(2, .int (a2 + 1)), (1, .int v2), (0, rv Γ 0)] hc dX12_plans_16 rfl (by decide) (Nat.le_of_ble_eq_true rfl) rfl ?_
      refine ok_goto 4 hc dX12_plans_19 (by decide) ?_
      refine ok_sub [2, 1, 0] rfl ?_
      exact ih _ _ _
set_option maxRecDepth 100000 in
set_option maxHeartbeats 4000000 in
theorem tX12_plans (S : St) (q : Int32 × St) (h : fX12_plans S = some q) : MT vI wM mX12_plans (fun n0 => [.ref (n0 + 0)]) S q := by
  refine mt_of (show plainFor yX12_plans = true from by decide) (fun _ => Nat.le_of_ble_eq_true rfl) ?_
  intro Γ hc _
  rw [← h]
  show Ok Γ wM 0 [(0, rv Γ 0)] [] S _
  unfold fX12_plans
  refine ok_iconst (v := 1) hc dX12_plans_0 (by decide) ?_
  refine ok_istore_n [(1, .int 1), (0, rv Γ 0)] hc dX12_plans_1 rfl (Nat.le_of_ble_eq_true rfl) rfl ?_
  refine ok_iconst (v := 0) hc dX12_plans_2 (by decide) ?_
  refine ok_istore_n [(2, .int 0), (1, .int 1), (0, rv Γ 0)] hc dX12_plans_3 rfl (Nat.le_of_ble_eq_true rfl) rfl ?_
  refine ok_sub [2, 1, 0] rfl ?_
  refine tX12_plans_L4 hc    FU _ _ _
def fX12_pricedBy_L7_st (rec : Int32 → Int32 → Int32 → St → Option (Int32 × St)) (a2 : Int32) (a3 : Int32) (a4 : Int32) (S : St) : Option (Int32 × St) :=
  if (S.1 0 46) ≤ a4 then (some (a2, S)) else (lt (ire a3 3) (fun (v2 : Int32) => lt (a3 / 3) (fun (v3 : Int32) => jn (fun (v4 : Int32) => lt (a2 + v4) (fun (v6 : Int32) => rec v6 v3 (a4 + 1) S)) (fun k5 => if v2 ≤ 0 then (k5 0) else (if ib (((2 * a4) + v2) - 1) 12 then (k5 (S.1 39 (nt (((2 * a4) + v2) - 1)))) else none)))))
def fX12_pricedBy_L7 : Nat → Int32 → Int32 → Int32 → St → Option (Int32 × St)
  | 0 => fun _ _ _ _ => none
  | n + 1 => fun a2 a3 a4 S => fX12_pricedBy_L7_st (fX12_pricedBy_L7 n) a2 a3 a4 S
def fX12_pricedBy (a1 : Int32) (S : St) : Option (Int32 × St) :=
  fX12_pricedBy_L7 FU 0 a1 0 S
set_option maxRecDepth 100000 in
set_option maxHeartbeats 4000000 in
theorem tX12_pricedBy_L7 {Γ : Cx Int32} (hc : Cok Γ wM vI mX12_pricedBy) : ∀ (n : Nat) (a2 : Int32) (a3 : Int32) (a4 : Int32) (S : St), Ok Γ wM 7 [(0, rv Γ 0), (2, .int a2), (3, .int a3), (4, .int a4)] [] S (fX12_pricedBy_L7 n a2 a3 a4 S) := by
  intro n
  induction n with
  | zero =>
    intro a2 a3 a4 S
    exact ok_none
  | succ n ih =>
    intro a2 a3 a4 S
    show Ok Γ wM 7 [(0, rv Γ 0), (2, .int a2), (3, .int a3), (4, .int a4)] [] S (fX12_pricedBy_L7_st (fX12_pricedBy_L7 n) a2 a3 a4 S)
    unfold fX12_pricedBy_L7_st
    refine ok_iload 3 hc dX12_pricedBy_7 rfl ?_
    refine ok_aload_n 0 hc dX12_pricedBy_9 rfl rfl ?_
    refine ok_geti hc FS_X12_182 rfl sM_0 dX12_pricedBy_10 ?_
    refine ok_icmp_ge_ite 57 hc dX12_pricedBy_13 (by decide) (fun h1 => ?_) (fun h1 => ?_)
    · refine ok_iload_n 1 hc dX12_pricedBy_57 rfl rfl ?_
      exact ok_iret hc rfl dX12_pricedBy_58
    · refine ok_iload_n 2 hc dX12_pricedBy_16 rfl rfl ?_
      refine ok_iconst (v := 3) hc dX12_pricedBy_17 (by decide) ?_
      refine ok_iremK hc dX12_pricedBy_18 (by decide) ?_
      refine ok_lti (fun v2 => ?_)
      refine ok_istore [(5, .int v2), (0, rv Γ 0), (2, .int a2), (3, .int a3), (4, .int a4)] hc dX12_pricedBy_19 (Nat.le_of_ble_eq_true rfl) rfl ?_
      refine ok_iload_n 3 hc dX12_pricedBy_21 rfl rfl ?_
      refine ok_iconst (v := 3) hc dX12_pricedBy_22 (by decide) ?_
      refine ok_idivK hc dX12_pricedBy_23 (by decide) ?_
      refine ok_lti (fun v3 => ?_)
      refine ok_istore_n [(3, .int v3), (5, .int v2), (0, rv Γ 0), (2, .int a2), (4, .int a4)] hc dX12_pricedBy_24 rfl (Nat.le_of_ble_eq_true rfl) rfl ?_
      refine ok_iload_n 3 hc dX12_pricedBy_25 rfl rfl ?_
      refine ok_iload 1 hc dX12_pricedBy_26 rfl ?_
      refine ok_jn (fun g => ∀ (v4 : Int32), Ok Γ wM 49 [(0, rv Γ 0), (3, .int v3), (4, .int a4)] [.int v4, .int a2] S (g v4)) ?_ (fun k5 hk5 => ?_)
      · intro v4
        refine ok_iadd hc dX12_pricedBy_49 ?_
        refine ok_lti (fun v6 => ?_)
        refine ok_istore_n [(2, .int v6), (0, rv Γ 0), (3, .int v3), (4, .int a4)] hc dX12_pricedBy_50 rfl (Nat.le_of_ble_eq_true rfl) rfl ?_
        refine ok_iinc (v := 1) 3 [(4, .int (a4 + 1)), (2, .int v6), (0, rv Γ 0), (3, .int v3)] hc dX12_pricedBy_51 rfl (by decide) (Nat.le_of_ble_eq_true rfl) rfl ?_
        refine ok_goto 7 hc dX12_pricedBy_54 (by decide) ?_
        refine ok_sub [2, 1, 3, 0] rfl ?_
        exact ih _ _ _ _
      · refine ok_if_le_ite 48 hc dX12_pricedBy_28 (by decide) (fun h7 => ?_) (fun h7 => ?_)
        · refine ok_iconst (v := 0) hc dX12_pricedBy_48 (by decide) ?_
          refine ok_sub [2, 0, 4] rfl ?_
          exact hk5 _
        · refine ok_aload_n 2 hc dX12_pricedBy_31 rfl rfl ?_
          refine ok_getr 39 hc FS_X12_133 rfl sM_0 rfl dX12_pricedBy_32 ?_
          refine ok_iconst (v := 2) hc dX12_pricedBy_35 (by decide) ?_
          refine ok_iload 4 hc dX12_pricedBy_36 rfl ?_
          refine ok_imul hc dX12_pricedBy_38 ?_
          refine ok_iload 1 hc dX12_pricedBy_39 rfl ?_
          refine ok_iadd hc dX12_pricedBy_41 ?_
          refine ok_iconst (v := 1) hc dX12_pricedBy_42 (by decide) ?_
          refine ok_isub hc dX12_pricedBy_43 ?_
          refine ok_iald hc sM_39 dX12_pricedBy_44 (fun h8 => ?_)
          refine ok_goto 49 hc dX12_pricedBy_45 (by decide) ?_
          refine ok_sub [2, 0, 4] rfl ?_
          exact hk5 _
set_option maxRecDepth 100000 in
set_option maxHeartbeats 4000000 in
theorem tX12_pricedBy (a1 : Int32) (S : St) (q : Int32 × St) (h : fX12_pricedBy a1 S = some q) : MT vI wM mX12_pricedBy (fun n0 => [.ref (n0 + 0), .int a1]) S q := by
  refine mt_of (show plainFor yX12_pricedBy = true from by decide) (fun _ => Nat.le_of_ble_eq_true rfl) ?_
  intro Γ hc _
  rw [← h]
  show Ok Γ wM 0 [(0, rv Γ 0), (1, .int a1)] [] S _
  unfold fX12_pricedBy
  refine ok_iconst (v := 0) hc dX12_pricedBy_0 (by decide) ?_
  refine ok_istore_n [(2, .int 0), (0, rv Γ 0), (1, .int a1)] hc dX12_pricedBy_1 rfl (Nat.le_of_ble_eq_true rfl) rfl ?_
  refine ok_iload_n 2 hc dX12_pricedBy_2 rfl rfl ?_
  refine ok_istore_n [(3, .int a1), (2, .int 0), (0, rv Γ 0), (1, .int a1)] hc dX12_pricedBy_3 rfl (Nat.le_of_ble_eq_true rfl) rfl ?_
  refine ok_iconst (v := 0) hc dX12_pricedBy_4 (by decide) ?_
  refine ok_istore [(4, .int 0), (3, .int a1), (2, .int 0), (0, rv Γ 0), (1, .int a1)] hc dX12_pricedBy_5 (Nat.le_of_ble_eq_true rfl) rfl ?_
  refine ok_sub [3, 2, 1, 0] rfl ?_
  refine tX12_pricedBy_L7 hc    FU _ _ _ _
def fX12_findPlan_L30_st (a1 : Int32) (a2 : Int32) (rec : Int32 → St → Option (Unit × St)) (a3 : Int32) (S : St) : Option (Unit × St) :=
  if a2 ≤ a3 then (some ((), S)) else (bnd (fX12_pricedBy a3 S) (fun v2 S3 => jn (fun (S4 : St) => rec (a3 + 1) S4) (fun k5 => if a1 < v2 then (k5 S3) else (bnd (fX12_servedBy a3 S3) (fun v7 S8 => jn (fun (S9 : St) => lt (wi S9 0 55 a3) (fun S11 => lt (wi S11 0 56 v7) (fun S12 => lt (wi S12 0 57 v2) (fun S13 => k5 S13)))) (fun k10 => if (S8.1 0 56) < v7 then (k10 S8) else (if v7 = (S8.1 0 56) then (if (S8.1 0 57) ≤ v2 then (k5 S8) else (k10 S8)) else (k5 S8))))))))
def fX12_findPlan_L30 (a1 : Int32) (a2 : Int32) : Nat → Int32 → St → Option (Unit × St)
  | 0 => fun _ _ => none
  | n + 1 => fun a3 S => fX12_findPlan_L30_st a1 a2 (fX12_findPlan_L30 a1 a2 n) a3 S
def fX12_findPlan (a1 : Int32) (S : St) : Option (Unit × St) :=
  bnd (fX12_findGots S) (fun _ S1 => lt (wi S1 0 55 0) (fun S2 => bnd (fX12_servedBy 0 S2) (fun v3 S4 => lt (wi S4 0 56 v3) (fun S5 => lt (wi S5 0 57 0) (fun S6 => bnd (fX12_plans S6) (fun v7 S8 => fX12_findPlan_L30 a1 v7 FU 1 S8))))))
set_option maxRecDepth 100000 in
set_option maxHeartbeats 4000000 in
theorem tX12_findPlan_L30 {Γ : Cx Unit} (hc : Cok Γ wM vU mX12_findPlan) (a1 : Int32) (a2 : Int32) : ∀ (n : Nat) (a3 : Int32) (S : St), Ok Γ wM 30 [(0, rv Γ 0), (1, .int a1), (2, .int a2), (3, .int a3)] [] S (fX12_findPlan_L30 a1 a2 n a3 S) := by
  intro n
  induction n with
  | zero =>
    intro a3 S
    exact ok_none
  | succ n ih =>
    intro a3 S
    show Ok Γ wM 30 [(0, rv Γ 0), (1, .int a1), (2, .int a2), (3, .int a3)] [] S (fX12_findPlan_L30_st a1 a2 (fX12_findPlan_L30 a1 a2 n) a3 S)
    unfold fX12_findPlan_L30_st
    refine ok_iload_n 3 hc dX12_findPlan_30 rfl rfl ?_
    refine ok_iload_n 2 hc dX12_findPlan_31 rfl rfl ?_
    refine ok_icmp_ge_ite 105 hc dX12_findPlan_32 (by decide) (fun h1 => ?_) (fun h1 => ?_)
    · exact ok_vret hc rfl dX12_findPlan_105
    · refine ok_aload_n 0 hc dX12_findPlan_35 rfl rfl ?_
      refine ok_iload_n 3 hc dX12_findPlan_36 rfl rfl ?_
      refine ok_callVi (As := [.int a3]) (st := []) (fun n0 => [.ref (n0 + 0), .int a3]) hc VS_X12_416 sM_0 rfl rfl rfl ⟨Nat.le_of_ble_eq_true rfl, Nat.le_of_ble_eq_true rfl⟩ (Nat.le_of_ble_eq_true rfl) (fun q h => tX12_pricedBy a3 S q h) dX12_findPlan_37 (fun v2 S3 => ?_)
      refine ok_istore [(4, .int v2), (0, rv Γ 0), (1, .int a1), (2, .int a2), (3, .int a3)] hc dX12_findPlan_40 (Nat.le_of_ble_eq_true rfl) rfl ?_
      refine ok_iload 0 hc dX12_findPlan_42 rfl ?_
      refine ok_iload_n 2 hc dX12_findPlan_44 rfl rfl ?_
      refine ok_jn (fun g => ∀ (S4 : St), Ok Γ wM 99 [(0, rv Γ 0), (1, .int a1), (2, .int a2), (3, .int a3)] [] S4 (g S4)) ?_ (fun k5 hk5 => ?_)
      · intro S4
        refine ok_iinc (v := 1) 3 [(3, .int (a3 + 1)), (0, rv Γ 0), (1, .int a1), (2, .int a2)] hc dX12_findPlan_99 rfl (by decide) (Nat.le_of_ble_eq_true rfl) rfl ?_
        refine ok_goto 30 hc dX12_findPlan_102 (by decide) ?_
        refine ok_sub [1, 2, 3, 0] rfl ?_
        exact ih _ _
      · refine ok_icmp_gt_ite 99 hc dX12_findPlan_45 (by decide) (fun h6 => ?_) (fun h6 => ?_)
        · refine ok_sub [1, 2, 3, 4] rfl ?_
          exact hk5 _
        · refine ok_aload_n 1 hc dX12_findPlan_48 rfl rfl ?_
          refine ok_iload_n 4 hc dX12_findPlan_49 rfl rfl ?_
          refine ok_callVi (As := [.int a3]) (st := []) (fun n0 => [.ref (n0 + 0), .int a3]) hc VS_X12_404 sM_0 rfl rfl rfl ⟨Nat.le_of_ble_eq_true rfl, Nat.le_of_ble_eq_true rfl⟩ (Nat.le_of_ble_eq_true rfl) (fun q h => tX12_servedBy a3 S3 q h) dX12_findPlan_50 (fun v7 S8 => ?_)
          refine ok_istore [(5, .int v7), (4, .int v2), (0, rv Γ 0), (1, .int a1), (2, .int a2), (3, .int a3)] hc dX12_findPlan_53 (Nat.le_of_ble_eq_true rfl) rfl ?_
          refine ok_iload 0 hc dX12_findPlan_55 rfl ?_
          refine ok_aload_n 2 hc dX12_findPlan_57 rfl rfl ?_
          refine ok_geti hc FS_X12_410 rfl sM_0 dX12_findPlan_58 ?_
          refine ok_jn (fun g => ∀ (S9 : St), Ok Γ wM 82 [(0, rv Γ 0), (1, .int a1), (2, .int a2), (3, .int a3), (4, .int v2), (5, .int v7)] [] S9 (g S9)) ?_ (fun k10 hk10 => ?_)
          · intro S9
            refine ok_aload_n 0 hc dX12_findPlan_82 rfl rfl ?_
            refine ok_iload_n 3 hc dX12_findPlan_83 rfl rfl ?_
            refine ok_puti hc FP_X12_407 rfl sM_0 dX12_findPlan_84 ?_
            refine ok_ltS (fun S11 => ?_)
            refine ok_aload_n 0 hc dX12_findPlan_87 rfl rfl ?_
            refine ok_iload 5 hc dX12_findPlan_88 rfl ?_
            refine ok_puti hc FP_X12_410 rfl sM_0 dX12_findPlan_90 ?_
            refine ok_ltS (fun S12 => ?_)
            refine ok_aload_n 0 hc dX12_findPlan_93 rfl rfl ?_
            refine ok_iload 4 hc dX12_findPlan_94 rfl ?_
            refine ok_puti hc FP_X12_413 rfl sM_0 dX12_findPlan_96 ?_
            refine ok_ltS (fun S13 => ?_)
            refine ok_sub [0, 1, 2, 3] rfl ?_
            exact hk5 _
          · refine ok_icmp_gt_ite 82 hc dX12_findPlan_61 (by decide) (fun h14 => ?_) (fun h14 => ?_)
            · refine ok_sub [2, 3, 4, 5, 1, 0] rfl ?_
              exact hk10 _
            · refine ok_iload 0 hc dX12_findPlan_64 rfl ?_
              refine ok_aload_n 2 hc dX12_findPlan_66 rfl rfl ?_
              refine ok_geti hc FS_X12_410 rfl sM_0 dX12_findPlan_67 ?_
              refine ok_icmp_ne_ite 99 hc dX12_findPlan_70 (by decide) (fun h15 => ?_) (fun h15 => ?_)
              · refine ok_sub [2, 3, 4, 5] rfl ?_
                exact hk5 _
              · refine ok_iload 1 hc dX12_findPlan_73 rfl ?_
                refine ok_aload_n 2 hc dX12_findPlan_75 rfl rfl ?_
                refine ok_geti hc FS_X12_413 rfl sM_0 dX12_findPlan_76 ?_
                refine ok_icmp_ge_ite 99 hc dX12_findPlan_79 (by decide) (fun h16 => ?_) (fun h16 => ?_)
                · refine ok_sub [2, 3, 4, 5] rfl ?_
                  exact hk5 _
                · refine ok_sub [2, 3, 4, 5, 1, 0] rfl ?_
                  exact hk10 _
set_option maxRecDepth 100000 in
set_option maxHeartbeats 4000000 in
theorem tX12_findPlan (a1 : Int32) (S : St) (q : Unit × St) (h : fX12_findPlan a1 S = some q) : MT vU wM mX12_findPlan (fun n0 => [.ref (n0 + 0), .int a1]) S q := by
  refine mt_of (show plainFor yX12_findPlan = true from by decide) (fun _ => Nat.le_of_ble_eq_true rfl) ?_
  intro Γ hc _
  rw [← h]
  show Ok Γ wM 0 [(0, rv Γ 0), (1, .int a1)] [] S _
  unfold fX12_findPlan
  refine ok_aload_n 0 hc dX12_findPlan_0 rfl rfl ?_
  refine ok_callVu (As := []) (st := []) (fun n0 => [.ref (n0 + 0)]) hc VS_X12_401 sM_0 rfl rfl rfl ⟨Nat.le_of_ble_eq_true rfl, Nat.le_of_ble_eq_true rfl⟩ (Nat.le_of_ble_eq_true rfl) (fun q h => tX12_findGots S q h) dX12_findPlan_1 (fun _ S1 => ?_)
  refine ok_aload_n 0 hc dX12_findPlan_4 rfl rfl ?_
  refine ok_iconst (v := 0) hc dX12_findPlan_5 (by decide) ?_
  refine ok_puti hc FP_X12_407 rfl sM_0 dX12_findPlan_6 ?_
  refine ok_ltS (fun S2 => ?_)
  refine ok_aload_n 0 hc dX12_findPlan_9 rfl rfl ?_
  refine ok_aload_n 0 hc dX12_findPlan_10 rfl rfl ?_
  refine ok_iconst (v := 0) hc dX12_findPlan_11 (by decide) ?_
  refine ok_callVi (As := [.int 0]) (st := [rv Γ 0]) (fun n0 => [.ref (n0 + 0), .int 0]) hc VS_X12_404 sM_0 rfl rfl rfl ⟨Nat.le_of_ble_eq_true rfl, Nat.le_of_ble_eq_true rfl⟩ (Nat.le_of_ble_eq_true rfl) (fun q h => tX12_servedBy 0 S2 q h) dX12_findPlan_12 (fun v3 S4 => ?_)
  refine ok_puti hc FP_X12_410 rfl sM_0 dX12_findPlan_15 ?_
  refine ok_ltS (fun S5 => ?_)
  refine ok_aload_n 0 hc dX12_findPlan_18 rfl rfl ?_
  refine ok_iconst (v := 0) hc dX12_findPlan_19 (by decide) ?_
  refine ok_puti hc FP_X12_413 rfl sM_0 dX12_findPlan_20 ?_
  refine ok_ltS (fun S6 => ?_)
  refine ok_aload_n 0 hc dX12_findPlan_23 rfl rfl ?_
  refine ok_callVi (As := []) (st := []) (fun n0 => [.ref (n0 + 0)]) hc VS_X12_398 sM_0 rfl rfl rfl ⟨Nat.le_of_ble_eq_true rfl, Nat.le_of_ble_eq_true rfl⟩ (Nat.le_of_ble_eq_true rfl) (fun q h => tX12_plans S6 q h) dX12_findPlan_24 (fun v7 S8 => ?_)
  refine ok_istore_n [(2, .int v7), (0, rv Γ 0), (1, .int a1)] hc dX12_findPlan_27 rfl (Nat.le_of_ble_eq_true rfl) rfl ?_
  refine ok_iconst (v := 1) hc dX12_findPlan_28 (by decide) ?_
  refine ok_istore_n [(3, .int 1), (2, .int v7), (0, rv Γ 0), (1, .int a1)] hc dX12_findPlan_29 rfl (Nat.le_of_ble_eq_true rfl) rfl ?_
  refine ok_sub [2, 3, 1, 0] rfl ?_
  refine tX12_findPlan_L30 hc _ _   FU _ _
def fX12_digest_L6_st (kx0 : Int64 → St → Option (Int64 × St)) (rec : Int64 → Int32 → St → Option (Int64 × St)) (a1 : Int64) (a3 : Int32) (S : St) : Option (Int64 × St) :=
  if 12 ≤ a3 then (kx0 a1 S) else (jn (fun (v2 : Int64) (S3 : St) => rec v2 (a3 + 1) S3) (fun k4 => if a3 = 9 then (k4 a1 S) else (bnd (fX12_count a3 S) (fun v6 S7 => k4 ((31 * a1) + v6.toInt64) S7))))
def fX12_digest_L6 (kx0 : Int64 → St → Option (Int64 × St)) : Nat → Int64 → Int32 → St → Option (Int64 × St)
  | 0 => fun _ _ _ => none
  | n + 1 => fun a1 a3 S => fX12_digest_L6_st kx0 (fX12_digest_L6 kx0 n) a1 a3 S
def fX12_digest_L43_st (kx0 : Int64 → St → Option (Int64 × St)) (rec : Int64 → Int32 → St → Option (Int64 × St)) (a1 : Int64) (a3 : Int32) (S : St) : Option (Int64 × St) :=
  if 5 ≤ a3 then (kx0 a1 S) else (if ib a3 5 then (lt ((31 * a1) + ((S.1 5 (nt a3)).toInt64)) (fun (v3 : Int64) => rec v3 (a3 + 1) S)) else none)
def fX12_digest_L43 (kx0 : Int64 → St → Option (Int64 × St)) : Nat → Int64 → Int32 → St → Option (Int64 × St)
  | 0 => fun _ _ _ => none
  | n + 1 => fun a1 a3 S => fX12_digest_L43_st kx0 (fX12_digest_L43 kx0 n) a1 a3 S
def fX12_digest_L81_st (kx0 : Int64 → St → Option (Int64 × St)) (a3 : Int32) (rec : Int64 → Int32 → St → Option (Int64 × St)) (a1 : Int64) (a4 : Int32) (S : St) : Option (Int64 × St) :=
  if 11 ≤ a4 then (kx0 a1 S) else (bnd (fX12_about a3 a4 S) (fun v2 S3 => lt ((31 * a1) + v2.toInt64) (fun (v4 : Int64) => rec v4 (a4 + 1) S3)))
def fX12_digest_L81 (kx0 : Int64 → St → Option (Int64 × St)) (a3 : Int32) : Nat → Int64 → Int32 → St → Option (Int64 × St)
  | 0 => fun _ _ _ => none
  | n + 1 => fun a1 a4 S => fX12_digest_L81_st kx0 a3 (fX12_digest_L81 kx0 a3 n) a1 a4 S
def fX12_digest_L70_st (kx0 : Int64 → St → Option (Int64 × St)) (rec : Int64 → Int32 → St → Option (Int64 × St)) (a1 : Int64) (a3 : Int32) (S : St) : Option (Int64 × St) :=
  if (S.1 0 9) ≤ a3 then (kx0 a1 S) else (fX12_digest_L81 (fun (v2 : Int64) (S3 : St) => bnd (fX12_heard a3 S3) (fun v4 S5 => lt ((31 * v2) + v4.toInt64) (fun (v6 : Int64) => rec v6 (a3 + 1) S5))) a3 FU a1 0 S)
def fX12_digest_L70 (kx0 : Int64 → St → Option (Int64 × St)) : Nat → Int64 → Int32 → St → Option (Int64 × St)
  | 0 => fun _ _ _ => none
  | n + 1 => fun a1 a3 S => fX12_digest_L70_st kx0 (fX12_digest_L70 kx0 n) a1 a3 S
def fX12_digest (S : St) : Option (Int64 × St) :=
  fX12_digest_L6 (fun (v1 : Int64) (S2 : St) => fX12_digest_L43 (fun (v3 : Int64) (S4 : St) => fX12_digest_L70 (fun (v5 : Int64) (S6 : St) => bnd (fX12_won S6) (fun v7 S8 => lt ((31 * v5) + v7.toInt64) (fun (v9 : Int64) => bnd (fX12_findPlan 500 S8) (fun _ S10 => lt ((31 * v9) + ((S10.1 0 55).toInt64)) (fun (v11 : Int64) => some ((31 * v11) + ((S10.1 0 56).toInt64), S10)))))) FU v3 0 S4) FU v1 0 S2) FU 17 0 S
set_option maxRecDepth 100000 in
set_option maxHeartbeats 4000000 in
theorem tX12_digest_L6 {Γ : Cx Int64} (hc : Cok Γ wM vL mX12_digest) (kx0 : Int64 → St → Option (Int64 × St)) (hx0 : ∀ (a1 : Int64) (S : St), Ok Γ wM 41 [(0, rv Γ 0), (1, .long a1)] [] S (kx0 a1 S)) : ∀ (n : Nat) (a1 : Int64) (a3 : Int32) (S : St), Ok Γ wM 6 [(0, rv Γ 0), (1, .long a1), (3, .int a3)] [] S (fX12_digest_L6 kx0 n a1 a3 S) := by
  intro n
  induction n with
  | zero =>
    intro a1 a3 S
    exact ok_none
  | succ n ih =>
    intro a1 a3 S
    show Ok Γ wM 6 [(0, rv Γ 0), (1, .long a1), (3, .int a3)] [] S (fX12_digest_L6_st kx0 (fX12_digest_L6 kx0 n) a1 a3 S)
    unfold fX12_digest_L6_st
    refine ok_iload_n 2 hc dX12_digest_6 rfl rfl ?_
    refine ok_bipush (v := 12) hc dX12_digest_7 (by decide) ?_
    refine ok_icmp_ge_ite 41 hc dX12_digest_9 (by decide) (fun h1 => ?_) (fun h1 => ?_)
    · refine ok_sub [0, 1] rfl ?_
      exact hx0 _ _
    · refine ok_iload_n 2 hc dX12_digest_12 rfl rfl ?_
      refine ok_bipush (v := 9) hc dX12_digest_13 (by decide) ?_
      refine ok_jn (fun g => ∀ (v2 : Int64) (S3 : St), Ok Γ wM 34 [(0, rv Γ 0), (3, .int a3)] [.long v2] S3 (g v2 S3)) ?_ (fun k4 hk4 => ?_)
      · intro v2 S3
        refine ok_lstore_n [(1, .long v2), (0, rv Γ 0), (3, .int a3)] hc dX12_digest_34 rfl (Nat.le_of_ble_eq_true rfl) rfl ?_
        refine ok_iinc (v := 1) 2 [(3, .int (a3 + 1)), (1, .long v2), (0, rv Γ 0)] hc dX12_digest_35 rfl (by decide) (Nat.le_of_ble_eq_true rfl) rfl ?_
        refine ok_goto 6 hc dX12_digest_38 (by decide) ?_
        refine ok_sub [2, 1, 0] rfl ?_
        exact ih _ _ _
      · refine ok_icmp_ne_ite 22 hc dX12_digest_15 (by decide) (fun h5 => ?_) (fun h5 => ?_)
        · refine ok_ldc2 hc dX12_digest_22 W_1708 ?_
          refine ok_lload_n 1 hc dX12_digest_25 rfl rfl ?_
          refine ok_lmul hc dX12_digest_26 ?_
          refine ok_aload_n 0 hc dX12_digest_27 rfl rfl ?_
          refine ok_iload_n 2 hc dX12_digest_28 rfl rfl ?_
          refine ok_callVi (As := [.int a3]) (st := [.long (31 * a1)]) (fun n0 => [.ref (n0 + 0), .int a3]) hc VS_X12_426 sM_0 rfl rfl rfl ⟨Nat.le_of_ble_eq_true rfl, Nat.le_of_ble_eq_true rfl⟩ (Nat.le_of_ble_eq_true rfl) (fun q h => tX12_count a3 S q h) dX12_digest_29 (fun v6 S7 => ?_)
          refine ok_i2l hc dX12_digest_32 ?_
          refine ok_ladd hc dX12_digest_33 ?_
          refine ok_sub [0, 2] rfl ?_
          exact hk4 _ _
        · refine ok_lload_n 1 hc dX12_digest_18 rfl rfl ?_
          refine ok_goto 34 hc dX12_digest_19 (by decide) ?_
          refine ok_sub [0, 2] rfl ?_
          exact hk4 _ _
set_option maxRecDepth 100000 in
set_option maxHeartbeats 4000000 in
theorem tX12_digest_L43 {Γ : Cx Int64} (hc : Cok Γ wM vL mX12_digest) (kx0 : Int64 → St → Option (Int64 × St)) (hx0 : ∀ (a1 : Int64) (S : St), Ok Γ wM 68 [(0, rv Γ 0), (1, .long a1)] [] S (kx0 a1 S)) : ∀ (n : Nat) (a1 : Int64) (a3 : Int32) (S : St), Ok Γ wM 43 [(0, rv Γ 0), (1, .long a1), (3, .int a3)] [] S (fX12_digest_L43 kx0 n a1 a3 S) := by
  intro n
  induction n with
  | zero =>
    intro a1 a3 S
    exact ok_none
  | succ n ih =>
    intro a1 a3 S
    show Ok Γ wM 43 [(0, rv Γ 0), (1, .long a1), (3, .int a3)] [] S (fX12_digest_L43_st kx0 (fX12_digest_L43 kx0 n) a1 a3 S)
    unfold fX12_digest_L43_st
    refine ok_iload_n 2 hc dX12_digest_43 rfl rfl ?_
    refine ok_iconst (v := 5) hc dX12_digest_44 (by decide) ?_
    refine ok_icmp_ge_ite 68 hc dX12_digest_45 (by decide) (fun h1 => ?_) (fun h1 => ?_)
    · refine ok_sub [0, 1] rfl ?_
      exact hx0 _ _
    · refine ok_ldc2 hc dX12_digest_48 W_1708 ?_
      refine ok_lload_n 1 hc dX12_digest_51 rfl rfl ?_
      refine ok_lmul hc dX12_digest_52 ?_
      refine ok_aload_n 0 hc dX12_digest_53 rfl rfl ?_
      refine ok_getr 5 hc FS_X12_30 rfl sM_0 rfl dX12_digest_54 ?_
      refine ok_iload_n 2 hc dX12_digest_57 rfl rfl ?_
      refine ok_iald hc sM_5 dX12_digest_58 (fun h2 => ?_)
      refine ok_i2l hc dX12_digest_59 ?_
      refine ok_ladd hc dX12_digest_60 ?_
      refine ok_ltl (fun v3 => ?_)
      refine ok_lstore_n [(1, .long v3), (0, rv Γ 0), (3, .int a3)] hc dX12_digest_61 rfl (Nat.le_of_ble_eq_true rfl) rfl ?_
      refine ok_iinc (v := 1) 2 [(3, .int (a3 + 1)), (1, .long v3), (0, rv Γ 0)] hc dX12_digest_62 rfl (by decide) (Nat.le_of_ble_eq_true rfl) rfl ?_
      refine ok_goto 43 hc dX12_digest_65 (by decide) ?_
      refine ok_sub [2, 1, 0] rfl ?_
      exact ih _ _ _
set_option maxRecDepth 100000 in
set_option maxHeartbeats 4000000 in
theorem tX12_digest_L81 {Γ : Cx Int64} (hc : Cok Γ wM vL mX12_digest) (kx0 : Int64 → St → Option (Int64 × St)) (a3 : Int32) (hx0 : ∀ (a1 : Int64) (S : St), Ok Γ wM 109 [(0, rv Γ 0), (1, .long a1), (3, .int a3)] [] S (kx0 a1 S)) : ∀ (n : Nat) (a1 : Int64) (a4 : Int32) (S : St), Ok Γ wM 81 [(0, rv Γ 0), (1, .long a1), (3, .int a3), (4, .int a4)] [] S (fX12_digest_L81 kx0 a3 n a1 a4 S) := by
  intro n
  induction n with
  | zero =>
    intro a1 a4 S
    exact ok_none
  | succ n ih =>
    intro a1 a4 S
    show Ok Γ wM 81 [(0, rv Γ 0), (1, .long a1), (3, .int a3), (4, .int a4)] [] S (fX12_digest_L81_st kx0 a3 (fX12_digest_L81 kx0 a3 n) a1 a4 S)
    unfold fX12_digest_L81_st
    refine ok_iload 3 hc dX12_digest_81 rfl ?_
    refine ok_bipush (v := 11) hc dX12_digest_83 (by decide) ?_
    refine ok_icmp_ge_ite 109 hc dX12_digest_85 (by decide) (fun h1 => ?_) (fun h1 => ?_)
    · refine ok_sub [0, 1, 2] rfl ?_
      exact hx0 _ _
    · refine ok_ldc2 hc dX12_digest_88 W_1708 ?_
      refine ok_lload_n 1 hc dX12_digest_91 rfl rfl ?_
      refine ok_lmul hc dX12_digest_92 ?_
      refine ok_aload_n 0 hc dX12_digest_93 rfl rfl ?_
      refine ok_iload_n 2 hc dX12_digest_94 rfl rfl ?_
      refine ok_iload 3 hc dX12_digest_95 rfl ?_
      refine ok_callVi (As := [.int a3, .int a4]) (st := [.long (31 * a1)]) (fun n0 => [.ref (n0 + 0), .int a3, .int a4]) hc VS_X12_429 sM_0 rfl rfl rfl ⟨Nat.le_of_ble_eq_true rfl, Nat.le_of_ble_eq_true rfl⟩ (Nat.le_of_ble_eq_true rfl) (fun q h => tX12_about a3 a4 S q h) dX12_digest_97 (fun v2 S3 => ?_)
      refine ok_i2l hc dX12_digest_100 ?_
      refine ok_ladd hc dX12_digest_101 ?_
      refine ok_ltl (fun v4 => ?_)
      refine ok_lstore_n [(1, .long v4), (0, rv Γ 0), (3, .int a3), (4, .int a4)] hc dX12_digest_102 rfl (Nat.le_of_ble_eq_true rfl) rfl ?_
      refine ok_iinc (v := 1) 3 [(4, .int (a4 + 1)), (1, .long v4), (0, rv Γ 0), (3, .int a3)] hc dX12_digest_103 rfl (by decide) (Nat.le_of_ble_eq_true rfl) rfl ?_
      refine ok_goto 81 hc dX12_digest_106 (by decide) ?_
      refine ok_sub [2, 1, 3, 0] rfl ?_
      exact ih _ _ _
set_option maxRecDepth 100000 in
set_option maxHeartbeats 4000000 in
theorem tX12_digest_L70 {Γ : Cx Int64} (hc : Cok Γ wM vL mX12_digest) (kx0 : Int64 → St → Option (Int64 × St)) (hx0 : ∀ (a1 : Int64) (S : St), Ok Γ wM 128 [(0, rv Γ 0), (1, .long a1)] [] S (kx0 a1 S)) : ∀ (n : Nat) (a1 : Int64) (a3 : Int32) (S : St), Ok Γ wM 70 [(0, rv Γ 0), (1, .long a1), (3, .int a3)] [] S (fX12_digest_L70 kx0 n a1 a3 S) := by
  intro n
  induction n with
  | zero =>
    intro a1 a3 S
    exact ok_none
  | succ n ih =>
    intro a1 a3 S
    show Ok Γ wM 70 [(0, rv Γ 0), (1, .long a1), (3, .int a3)] [] S (fX12_digest_L70_st kx0 (fX12_digest_L70 kx0 n) a1 a3 S)
    unfold fX12_digest_L70_st
    refine ok_iload_n 2 hc dX12_digest_70 rfl rfl ?_
    refine ok_aload_n 0 hc dX12_digest_71 rfl rfl ?_
    refine ok_geti hc FS_X12_176 rfl sM_0 dX12_digest_72 ?_
    refine ok_icmp_ge_ite 128 hc dX12_digest_75 (by decide) (fun h1 => ?_) (fun h1 => ?_)
    · refine ok_sub [0, 1] rfl ?_
      exact hx0 _ _
    · refine ok_iconst (v := 0) hc dX12_digest_78 (by decide) ?_
      refine ok_istore [(4, .int 0), (0, rv Γ 0), (1, .long a1), (3, .int a3)] hc dX12_digest_79 (Nat.le_of_ble_eq_true rfl) rfl ?_
      refine ok_sub [1, 2, 3, 0] rfl ?_
      refine tX12_digest_L81 hc _ _  ?_ FU _ _ _
      · intro v2 S3
        refine ok_ldc2 hc dX12_digest_109 W_1708 ?_
        refine ok_lload_n 1 hc dX12_digest_112 rfl rfl ?_
        refine ok_lmul hc dX12_digest_113 ?_
        refine ok_aload_n 0 hc dX12_digest_114 rfl rfl ?_
        refine ok_iload_n 2 hc dX12_digest_115 rfl rfl ?_
        refine ok_callVi (As := [.int a3]) (st := [.long (31 * v2)]) (fun n0 => [.ref (n0 + 0), .int a3]) hc VS_X12_432 sM_0 rfl rfl rfl ⟨Nat.le_of_ble_eq_true rfl, Nat.le_of_ble_eq_true rfl⟩ (Nat.le_of_ble_eq_true rfl) (fun q h => tX12_heard a3 S3 q h) dX12_digest_116 (fun v4 S5 => ?_)
        refine ok_i2l hc dX12_digest_119 ?_
        refine ok_ladd hc dX12_digest_120 ?_
        refine ok_ltl (fun v6 => ?_)
        refine ok_lstore_n [(1, .long v6), (0, rv Γ 0), (3, .int a3)] hc dX12_digest_121 rfl (Nat.le_of_ble_eq_true rfl) rfl ?_
        refine ok_iinc (v := 1) 2 [(3, .int (a3 + 1)), (1, .long v6), (0, rv Γ 0)] hc dX12_digest_122 rfl (by decide) (Nat.le_of_ble_eq_true rfl) rfl ?_
        refine ok_goto 70 hc dX12_digest_125 (by decide) ?_
        refine ok_sub [2, 1, 0] rfl ?_
        exact ih _ _ _
set_option maxRecDepth 100000 in
set_option maxHeartbeats 4000000 in
theorem tX12_digest (S : St) (q : Int64 × St) (h : fX12_digest S = some q) : MT vL wM mX12_digest (fun n0 => [.ref (n0 + 0)]) S q := by
  refine mt_of (show plainFor yX12_digest = true from by decide) (fun _ => Nat.le_of_ble_eq_true rfl) ?_
  intro Γ hc _
  rw [← h]
  show Ok Γ wM 0 [(0, rv Γ 0)] [] S _
  unfold fX12_digest
  refine ok_ldc2 hc dX12_digest_0 W_1707 ?_
  refine ok_lstore_n [(1, .long 17), (0, rv Γ 0)] hc dX12_digest_3 rfl (Nat.le_of_ble_eq_true rfl) rfl ?_
  refine ok_iconst (v := 0) hc dX12_digest_4 (by decide) ?_
  refine ok_istore_n [(3, .int 0), (1, .long 17), (0, rv Γ 0)] hc dX12_digest_5 rfl (Nat.le_of_ble_eq_true rfl) rfl ?_
  refine ok_sub [2, 1, 0] rfl ?_
  refine tX12_digest_L6 hc _  ?_ FU _ _ _
  · intro v1 S2
    refine ok_iconst (v := 0) hc dX12_digest_41 (by decide) ?_
    refine ok_istore_n [(3, .int 0), (0, rv Γ 0), (1, .long v1)] hc dX12_digest_42 rfl (Nat.le_of_ble_eq_true rfl) rfl ?_
    refine ok_sub [1, 2, 0] rfl ?_
    refine tX12_digest_L43 hc _  ?_ FU _ _ _
    · intro v3 S4
      refine ok_iconst (v := 0) hc dX12_digest_68 (by decide) ?_
      refine ok_istore_n [(3, .int 0), (0, rv Γ 0), (1, .long v3)] hc dX12_digest_69 rfl (Nat.le_of_ble_eq_true rfl) rfl ?_
      refine ok_sub [1, 2, 0] rfl ?_
      refine tX12_digest_L70 hc _  ?_ FU _ _ _
      · intro v5 S6
        refine ok_ldc2 hc dX12_digest_128 W_1708 ?_
        refine ok_lload_n 1 hc dX12_digest_131 rfl rfl ?_
        refine ok_lmul hc dX12_digest_132 ?_
        refine ok_aload_n 0 hc dX12_digest_133 rfl rfl ?_
        refine ok_callVi (As := []) (st := [.long (31 * v5)]) (fun n0 => [.ref (n0 + 0)]) hc VS_X12_435 sM_0 rfl rfl rfl ⟨Nat.le_of_ble_eq_true rfl, Nat.le_of_ble_eq_true rfl⟩ (Nat.le_of_ble_eq_true rfl) (fun q h => tX12_won S6 q h) dX12_digest_134 (fun v7 S8 => ?_)
        refine ok_i2l hc dX12_digest_137 ?_
        refine ok_ladd hc dX12_digest_138 ?_
        refine ok_ltl (fun v9 => ?_)
        refine ok_lstore_n [(1, .long v9), (0, rv Γ 0)] hc dX12_digest_139 rfl (Nat.le_of_ble_eq_true rfl) rfl ?_
        refine ok_aload_n 1 hc dX12_digest_140 rfl rfl ?_
        refine ok_sipush (v := 500) hc dX12_digest_141 (by decide) ?_
        refine ok_callVu (As := [.int 500]) (st := []) (fun n0 => [.ref (n0 + 0), .int 500]) hc VS_X12_419 sM_0 rfl rfl rfl ⟨Nat.le_of_ble_eq_true rfl, Nat.le_of_ble_eq_true rfl⟩ (Nat.le_of_ble_eq_true rfl) (fun q h => tX12_findPlan 500 S8 q h) dX12_digest_144 (fun _ S10 => ?_)
        refine ok_ldc2 hc dX12_digest_147 W_1708 ?_
        refine ok_lload_n 0 hc dX12_digest_150 rfl rfl ?_
        refine ok_lmul hc dX12_digest_151 ?_
        refine ok_aload_n 1 hc dX12_digest_152 rfl rfl ?_
        refine ok_geti hc FS_X12_407 rfl sM_0 dX12_digest_153 ?_
        refine ok_i2l hc dX12_digest_156 ?_
        refine ok_ladd hc dX12_digest_157 ?_
        refine ok_ltl (fun v11 => ?_)
        refine ok_lstore_n [(1, .long v11), (0, rv Γ 0)] hc dX12_digest_158 rfl (Nat.le_of_ble_eq_true rfl) rfl ?_
        refine ok_ldc2 hc dX12_digest_159 W_1708 ?_
        refine ok_lload_n 0 hc dX12_digest_162 rfl rfl ?_
        refine ok_lmul hc dX12_digest_163 ?_
        refine ok_aload_n 1 hc dX12_digest_164 rfl rfl ?_
        refine ok_geti hc FS_X12_410 rfl sM_0 dX12_digest_165 ?_
        refine ok_i2l hc dX12_digest_168 ?_
        refine ok_ladd hc dX12_digest_169 ?_
        exact ok_lret hc rfl dX12_digest_170
def fX12_no (a0 : Int32) (S : St) : Option (Int64 × St) :=
  some ((-9223372036854775808) - a0.toInt64, S)
set_option maxRecDepth 100000 in
set_option maxHeartbeats 4000000 in
theorem tX12_no (a0 : Int32) (S : St) (q : Int64 × St) (h : fX12_no a0 S = some q) : MT vL wM mX12_no (fun n0 => [.int a0]) S q := by
  refine mt_of (show plainFor yX12_no = true from by decide) (fun _ => Nat.le_of_ble_eq_true rfl) ?_
  intro Γ hc _
  rw [← h]
  show Ok Γ wM 0 [(0, .int a0)] [] S _
  unfold fX12_no
  refine ok_ldc2 hc dX12_no_0 W_1297 ?_
  refine ok_iload_n 0 hc dX12_no_3 rfl rfl ?_
  refine ok_i2l hc dX12_no_4 ?_
  refine ok_lsub hc dX12_no_5 ?_
  exact ok_lret hc rfl dX12_no_6
def fX12_drowns (a1 : Int32) (S : St) : Option (Int64 × St) :=
  bnd (fX12_isSender a1 S) (fun v1 S2 => if v1 = 0 then (bnd (fX12_no (-2) S2) (fun v12 S13 => some (v12, S13))) else (if ib a1 20 then (if (S2.1 16 (nt a1)) = 0 then (bnd (fX12_no (-3) S2) (fun v6 S7 => some (v6, S7))) else (bnd (fX12_others a1 S2) (fun v8 S9 => bnd (fX12_drownsBy a1 v8 S9) (fun v10 S11 => some (v10, S11))))) else none))
set_option maxRecDepth 100000 in
set_option maxHeartbeats 4000000 in
theorem tX12_drowns (a1 : Int32) (S : St) (q : Int64 × St) (h : fX12_drowns a1 S = some q) : MT vL wM mX12_drowns (fun n0 => [.ref (n0 + 0), .int a1]) S q := by
  refine mt_of (show plainFor yX12_drowns = true from by decide) (fun _ => Nat.le_of_ble_eq_true rfl) ?_
  intro Γ hc _
  rw [← h]
  show Ok Γ wM 0 [(0, rv Γ 0), (1, .int a1)] [] S _
  unfold fX12_drowns
  refine ok_aload_n 0 hc dX12_drowns_0 rfl rfl ?_
  refine ok_iload_n 1 hc dX12_drowns_1 rfl rfl ?_
  refine ok_callVi (As := [.int a1]) (st := []) (fun n0 => [.ref (n0 + 0), .int a1]) hc VS_X12_237 sM_0 rfl rfl rfl ⟨Nat.le_of_ble_eq_true rfl, Nat.le_of_ble_eq_true rfl⟩ (Nat.le_of_ble_eq_true rfl) (fun q h => tX12_isSender a1 S q h) dX12_drowns_2 (fun v1 S2 => ?_)
  refine ok_if_ne_ite 14 hc dX12_drowns_5 (by decide) (fun h3 => ?_) (fun h3 => ?_)
  · refine ok_aload_n 0 hc dX12_drowns_14 rfl rfl ?_
    refine ok_getr 16 hc FS_X12_63 rfl sM_0 rfl dX12_drowns_15 ?_
    refine ok_iload_n 1 hc dX12_drowns_18 rfl rfl ?_
    refine ok_zald hc sM_16 dX12_drowns_19 (fun h4 => ?_)
    refine ok_if_eq_ite 36 hc dX12_drowns_20 (by decide) (fun h5 => ?_) (fun h5 => ?_)
    · refine ok_bipush (v := (-3)) hc dX12_drowns_36 (by decide) ?_
      refine ok_callSl (As := [.int (-3)]) (st := []) (fun n0 => [.int (-3)]) hc SS_X12_270 rfl rfl rfl ⟨Nat.le_of_ble_eq_true rfl, Nat.le_of_ble_eq_true rfl⟩ (Nat.le_of_ble_eq_true rfl) (fun q h => tX12_no (-3) S2 q h) dX12_drowns_38 (fun v6 S7 => ?_)
      exact ok_lret hc rfl dX12_drowns_41
    · refine ok_aload_n 0 hc dX12_drowns_23 rfl rfl ?_
      refine ok_iload_n 1 hc dX12_drowns_24 rfl rfl ?_
      refine ok_aload_n 0 hc dX12_drowns_25 rfl rfl ?_
      refine ok_iload_n 1 hc dX12_drowns_26 rfl rfl ?_
      refine ok_callVi (As := [.int a1]) (st := [.int a1, rv Γ 0]) (fun n0 => [.ref (n0 + 0), .int a1]) hc VS_X12_259 sM_0 rfl rfl rfl ⟨Nat.le_of_ble_eq_true rfl, Nat.le_of_ble_eq_true rfl⟩ (Nat.le_of_ble_eq_true rfl) (fun q h => tX12_others a1 S2 q h) dX12_drowns_27 (fun v8 S9 => ?_)
      refine ok_callVl (As := [.int a1, .int v8]) (st := []) (fun n0 => [.ref (n0 + 0), .int a1, .int v8]) hc VS_X12_262 sM_0 rfl rfl rfl ⟨Nat.le_of_ble_eq_true rfl, Nat.le_of_ble_eq_true rfl⟩ (Nat.le_of_ble_eq_true rfl) (fun q h => tX12_drownsBy a1 v8 S9 q h) dX12_drowns_30 (fun v10 S11 => ?_)
      refine ok_goto 41 hc dX12_drowns_33 (by decide) ?_
      exact ok_lret hc rfl dX12_drowns_41
  · refine ok_bipush (v := (-2)) hc dX12_drowns_8 (by decide) ?_
    refine ok_callSl (As := [.int (-2)]) (st := []) (fun n0 => [.int (-2)]) hc SS_X12_270 rfl rfl rfl ⟨Nat.le_of_ble_eq_true rfl, Nat.le_of_ble_eq_true rfl⟩ (Nat.le_of_ble_eq_true rfl) (fun q h => tX12_no (-2) S2 q h) dX12_drowns_10 (fun v12 S13 => ?_)
    exact ok_lret hc rfl dX12_drowns_13
def fX12_ear (a1 : Int32) (a2 : Int32) (S : St) : Option (Int32 × St) :=
  bnd (fX12_isCell a1 S) (fun v1 S2 => if v1 = 0 then (some ((-2), S2)) else (bnd (fX12_in a2.toInt64 1 100 S2) (fun v4 S5 => if v4 = 0 then (some ((-2), S5)) else (if (S5.1 0 51) = 12 then (some ((-4), S5)) else (if ib (S5.1 0 51) 12 then lt (wi S5 40 (nt (S5.1 0 51)) a1) (fun S8 => if ib (S8.1 0 51) 12 then lt (wi S8 41 (nt (S8.1 0 51)) a2) (fun S10 => lt (wi S10 0 51 ((S10.1 0 51) + 1)) (fun S12 => some ((S12.1 0 51) - 1, S12))) else none) else none)))))
set_option maxRecDepth 100000 in
set_option maxHeartbeats 4000000 in
theorem tX12_ear (a1 : Int32) (a2 : Int32) (S : St) (q : Int32 × St) (h : fX12_ear a1 a2 S = some q) : MT vI wM mX12_ear (fun n0 => [.ref (n0 + 0), .int a1, .int a2]) S q := by
  refine mt_of (show plainFor yX12_ear = true from by decide) (fun _ => Nat.le_of_ble_eq_true rfl) ?_
  intro Γ hc _
  rw [← h]
  show Ok Γ wM 0 [(0, rv Γ 0), (1, .int a1), (2, .int a2)] [] S _
  unfold fX12_ear
  refine ok_aload_n 0 hc dX12_ear_0 rfl rfl ?_
  refine ok_iload_n 1 hc dX12_ear_1 rfl rfl ?_
  refine ok_callVi (As := [.int a1]) (st := []) (fun n0 => [.ref (n0 + 0), .int a1]) hc VS_X12_191 sM_0 rfl rfl rfl ⟨Nat.le_of_ble_eq_true rfl, Nat.le_of_ble_eq_true rfl⟩ (Nat.le_of_ble_eq_true rfl) (fun q h => tX12_isCell a1 S q h) dX12_ear_2 (fun v1 S2 => ?_)
  refine ok_if_eq_ite 20 hc dX12_ear_5 (by decide) (fun h3 => ?_) (fun h3 => ?_)
  · refine ok_bipush (v := (-2)) hc dX12_ear_20 (by decide) ?_
    exact ok_iret hc rfl dX12_ear_22
  · refine ok_iload_n 2 hc dX12_ear_8 rfl rfl ?_
    refine ok_i2l hc dX12_ear_9 ?_
    refine ok_lconst (v := 1) hc dX12_ear_10 (by decide) ?_
    refine ok_ldc2 hc dX12_ear_11 W_1425 ?_
    refine ok_callSi (As := [.long a2.toInt64, .long 1, .long 100]) (st := []) (fun n0 => [.long a2.toInt64, .long 1, .long 100]) hc SS_X12_152 rfl rfl rfl ⟨Nat.le_of_ble_eq_true rfl, Nat.le_of_ble_eq_true rfl⟩ (Nat.le_of_ble_eq_true rfl) (fun q h => tX12_in a2.toInt64 1 100 S2 q h) dX12_ear_14 (fun v4 S5 => ?_)
    refine ok_if_ne_ite 23 hc dX12_ear_17 (by decide) (fun h6 => ?_) (fun h6 => ?_)
    · refine ok_aload_n 0 hc dX12_ear_23 rfl rfl ?_
      refine ok_geti hc FS_X12_185 rfl sM_0 dX12_ear_24 ?_
      refine ok_bipush (v := 12) hc dX12_ear_27 (by decide) ?_
      refine ok_icmp_ne_ite 35 hc dX12_ear_29 (by decide) (fun h7 => ?_) (fun h7 => ?_)
      · refine ok_aload_n 0 hc dX12_ear_35 rfl rfl ?_
        refine ok_getr 40 hc FS_X12_136 rfl sM_0 rfl dX12_ear_36 ?_
        refine ok_aload_n 0 hc dX12_ear_39 rfl rfl ?_
        refine ok_geti hc FS_X12_185 rfl sM_0 dX12_ear_40 ?_
        refine ok_iload_n 1 hc dX12_ear_43 rfl rfl ?_
        refine ok_iast hc sM_40 dX12_ear_44 (fun h9 => ?_)
        refine ok_ltS (fun S8 => ?_)
        refine ok_aload_n 0 hc dX12_ear_45 rfl rfl ?_
        refine ok_getr 41 hc FS_X12_139 rfl sM_0 rfl dX12_ear_46 ?_
        refine ok_aload_n 0 hc dX12_ear_49 rfl rfl ?_
        refine ok_geti hc FS_X12_185 rfl sM_0 dX12_ear_50 ?_
        refine ok_iload_n 2 hc dX12_ear_53 rfl rfl ?_
        refine ok_iast hc sM_41 dX12_ear_54 (fun h11 => ?_)
        refine ok_ltS (fun S10 => ?_)
        refine ok_aload_n 0 hc dX12_ear_55 rfl rfl ?_
        refine ok_dup hc dX12_ear_56 rfl ?_
        refine ok_geti hc FS_X12_185 rfl sM_0 dX12_ear_57 ?_
        refine ok_iconst (v := 1) hc dX12_ear_60 (by decide) ?_
        refine ok_iadd hc dX12_ear_61 ?_
        refine ok_puti hc FP_X12_185 rfl sM_0 dX12_ear_62 ?_
        refine ok_ltS (fun S12 => ?_)
        refine ok_aload_n 0 hc dX12_ear_65 rfl rfl ?_
        refine ok_geti hc FS_X12_185 rfl sM_0 dX12_ear_66 ?_
        refine ok_iconst (v := 1) hc dX12_ear_69 (by decide) ?_
        refine ok_isub hc dX12_ear_70 ?_
        exact ok_iret hc rfl dX12_ear_71
      · refine ok_bipush (v := (-4)) hc dX12_ear_32 (by decide) ?_
        exact ok_iret hc rfl dX12_ear_34
    · refine ok_bipush (v := (-2)) hc dX12_ear_20 (by decide) ?_
      exact ok_iret hc rfl dX12_ear_22
def fX12_is (a1 : Int32) (S : St) : Option (Int32 × St) :=
  if (S.1 0 34) ≤ (S.1 0 35) then (some (0, S)) else (if ib (S.1 0 35) 120 then (if (S.1 27 (nt (S.1 0 35))) = a1 then (some (1, S)) else (some (0, S))) else none)
set_option maxRecDepth 100000 in
set_option maxHeartbeats 4000000 in
theorem tX12_is (a1 : Int32) (S : St) (q : Int32 × St) (h : fX12_is a1 S = some q) : MT vI wM mX12_is (fun n0 => [.ref (n0 + 0), .int a1]) S q := by
  refine mt_of (show plainFor yX12_is = true from by decide) (fun _ => Nat.le_of_ble_eq_true rfl) ?_
  intro Γ hc _
  rw [← h]
  show Ok Γ wM 0 [(0, rv Γ 0), (1, .int a1)] [] S _
  unfold fX12_is
  refine ok_aload_n 0 hc dX12_is_0 rfl rfl ?_
  refine ok_geti hc FS_X12_348 rfl sM_0 dX12_is_1 ?_
  refine ok_aload_n 0 hc dX12_is_4 rfl rfl ?_
  refine ok_geti hc FS_X12_345 rfl sM_0 dX12_is_5 ?_
  refine ok_icmp_ge_ite 28 hc dX12_is_8 (by decide) (fun h1 => ?_) (fun h1 => ?_)
  · refine ok_iconst (v := 0) hc dX12_is_28 (by decide) ?_
    exact ok_zretK hc rfl (by decide) dX12_is_29
  · refine ok_aload_n 0 hc dX12_is_11 rfl rfl ?_
    refine ok_getr 27 hc FS_X12_97 rfl sM_0 rfl dX12_is_12 ?_
    refine ok_aload_n 0 hc dX12_is_15 rfl rfl ?_
    refine ok_geti hc FS_X12_348 rfl sM_0 dX12_is_16 ?_
    refine ok_iald hc sM_27 dX12_is_19 (fun h2 => ?_)
    refine ok_iload_n 1 hc dX12_is_20 rfl rfl ?_
    refine ok_icmp_ne_ite 28 hc dX12_is_21 (by decide) (fun h3 => ?_) (fun h3 => ?_)
    · refine ok_iconst (v := 0) hc dX12_is_28 (by decide) ?_
      exact ok_zretK hc rfl (by decide) dX12_is_29
    · refine ok_iconst (v := 1) hc dX12_is_24 (by decide) ?_
      refine ok_goto 29 hc dX12_is_25 (by decide) ?_
      exact ok_zretK hc rfl (by decide) dX12_is_29
def fX12_isFigure (S : St) : Option (Int32 × St) :=
  if (S.1 0 34) ≤ (S.1 0 35) then (some (0, S)) else (if ib (S.1 0 35) 120 then (bnd (fX12_in ((S.1 27 (nt (S.1 0 35))).toInt64) 48 57 S) (fun v3 S4 => if v3 = 0 then (some (0, S4)) else (some (1, S4)))) else none)
set_option maxRecDepth 100000 in
set_option maxHeartbeats 4000000 in
theorem tX12_isFigure (S : St) (q : Int32 × St) (h : fX12_isFigure S = some q) : MT vI wM mX12_isFigure (fun n0 => [.ref (n0 + 0)]) S q := by
  refine mt_of (show plainFor yX12_isFigure = true from by decide) (fun _ => Nat.le_of_ble_eq_true rfl) ?_
  intro Γ hc _
  rw [← h]
  show Ok Γ wM 0 [(0, rv Γ 0)] [] S _
  unfold fX12_isFigure
  refine ok_aload_n 0 hc dX12_isFigure_0 rfl rfl ?_
  refine ok_geti hc FS_X12_348 rfl sM_0 dX12_isFigure_1 ?_
  refine ok_aload_n 0 hc dX12_isFigure_4 rfl rfl ?_
  refine ok_geti hc FS_X12_345 rfl sM_0 dX12_isFigure_5 ?_
  refine ok_icmp_ge_ite 37 hc dX12_isFigure_8 (by decide) (fun h1 => ?_) (fun h1 => ?_)
  · refine ok_iconst (v := 0) hc dX12_isFigure_37 (by decide) ?_
    exact ok_zretK hc rfl (by decide) dX12_isFigure_38
  · refine ok_aload_n 0 hc dX12_isFigure_11 rfl rfl ?_
    refine ok_getr 27 hc FS_X12_97 rfl sM_0 rfl dX12_isFigure_12 ?_
    refine ok_aload_n 0 hc dX12_isFigure_15 rfl rfl ?_
    refine ok_geti hc FS_X12_348 rfl sM_0 dX12_isFigure_16 ?_
    refine ok_iald hc sM_27 dX12_isFigure_19 (fun h2 => ?_)
    refine ok_i2l hc dX12_isFigure_20 ?_
    refine ok_ldc2 hc dX12_isFigure_21 W_1595 ?_
    refine ok_ldc2 hc dX12_isFigure_24 W_1605 ?_
    refine ok_callSi (As := [.long ((S.1 27 (nt (S.1 0 35))).toInt64), .long 48, .long 57]) (st := []) (fun n0 => [.long ((S.1 27 (nt (S.1 0 35))).toInt64), .long 48, .long 57]) hc SS_X12_152 rfl rfl rfl ⟨Nat.le_of_ble_eq_true rfl, Nat.le_of_ble_eq_true rfl⟩ (Nat.le_of_ble_eq_true rfl) (fun q h => tX12_in ((S.1 27 (nt (S.1 0 35))).toInt64) 48 57 S q h) dX12_isFigure_27 (fun v3 S4 => ?_)
    refine ok_if_eq_ite 37 hc dX12_isFigure_30 (by decide) (fun h5 => ?_) (fun h5 => ?_)
    · refine ok_iconst (v := 0) hc dX12_isFigure_37 (by decide) ?_
      exact ok_zretK hc rfl (by decide) dX12_isFigure_38
    · refine ok_iconst (v := 1) hc dX12_isFigure_33 (by decide) ?_
      refine ok_goto 38 hc dX12_isFigure_34 (by decide) ?_
      exact ok_zretK hc rfl (by decide) dX12_isFigure_38
def fX12_number_L8_st (kx0 : Int32 → St → Option (Int32 × St)) (a1 : Int32) (a2 : Int32) (a3 : Int32) (rec : Int32 → St → Option (Int32 × St)) (a4 : Int32) (S : St) : Option (Int32 × St) :=
  if (a3 + 2) ≤ (S.1 0 35) then (kx0 a4 S) else (bnd (fX12_isFigure S) (fun v2 S3 => if v2 = 0 then (kx0 a4 S3) else (if ib (S3.1 0 35) 120 then (lt (((10 * a4) + (S3.1 27 (nt (S3.1 0 35)))) - 48) (fun (v6 : Int32) => lt (wi S3 0 35 ((S3.1 0 35) + 1)) (fun S7 => rec v6 S7))) else none)))
def fX12_number_L8 (kx0 : Int32 → St → Option (Int32 × St)) (a1 : Int32) (a2 : Int32) (a3 : Int32) : Nat → Int32 → St → Option (Int32 × St)
  | 0 => fun _ _ => none
  | n + 1 => fun a4 S => fX12_number_L8_st kx0 a1 a2 a3 (fX12_number_L8 kx0 a1 a2 a3 n) a4 S
def fX12_number (a1 : Int32) (a2 : Int32) (S : St) : Option (Int32 × St) :=
  fX12_number_L8 (fun (v1 : Int32) (S2 : St) => jn (fun (S3 : St) => lt (wi S3 0 35 (S.1 0 35)) (fun S5 => some ((-1), S5))) (fun k4 => if (S2.1 0 35) = (S.1 0 35) then (k4 S2) else (bnd (fX12_in v1.toInt64 a1.toInt64 a2.toInt64 S2) (fun v7 S8 => if v7 = 0 then (k4 S8) else (some (v1, S8)))))) a1 a2 (S.1 0 35) FU 0 S
set_option maxRecDepth 100000 in
set_option maxHeartbeats 4000000 in
theorem tX12_number_L8 {Γ : Cx Int32} (hc : Cok Γ wM vI mX12_number) (kx0 : Int32 → St → Option (Int32 × St)) (a1 : Int32) (a2 : Int32) (a3 : Int32) (hx0 : ∀ (a4 : Int32) (S : St), Ok Γ wM 58 [(0, rv Γ 0), (1, .int a1), (2, .int a2), (3, .int a3), (4, .int a4)] [] S (kx0 a4 S)) : ∀ (n : Nat) (a4 : Int32) (S : St), Ok Γ wM 8 [(0, rv Γ 0), (1, .int a1), (2, .int a2), (3, .int a3), (4, .int a4)] [] S (fX12_number_L8 kx0 a1 a2 a3 n a4 S) := by
  intro n
  induction n with
  | zero =>
    intro a4 S
    exact ok_none
  | succ n ih =>
    intro a4 S
    show Ok Γ wM 8 [(0, rv Γ 0), (1, .int a1), (2, .int a2), (3, .int a3), (4, .int a4)] [] S (fX12_number_L8_st kx0 a1 a2 a3 (fX12_number_L8 kx0 a1 a2 a3 n) a4 S)
    unfold fX12_number_L8_st
    refine ok_aload_n 0 hc dX12_number_8 rfl rfl ?_
    refine ok_geti hc FS_X12_348 rfl sM_0 dX12_number_9 ?_
    refine ok_iload_n 3 hc dX12_number_12 rfl rfl ?_
    refine ok_iconst (v := 2) hc dX12_number_13 (by decide) ?_
    refine ok_iadd hc dX12_number_14 ?_
    refine ok_icmp_ge_ite 58 hc dX12_number_15 (by decide) (fun h1 => ?_) (fun h1 => ?_)
    · exact hx0 _ _
    · refine ok_aload_n 0 hc dX12_number_18 rfl rfl ?_
      refine ok_callVi (As := []) (st := []) (fun n0 => [.ref (n0 + 0)]) hc VS_X12_355 sM_0 rfl rfl rfl ⟨Nat.le_of_ble_eq_true rfl, Nat.le_of_ble_eq_true rfl⟩ (Nat.le_of_ble_eq_true rfl) (fun q h => tX12_isFigure S q h) dX12_number_19 (fun v2 S3 => ?_)
      refine ok_if_eq_ite 58 hc dX12_number_22 (by decide) (fun h4 => ?_) (fun h4 => ?_)
      · exact hx0 _ _
      · refine ok_bipush (v := 10) hc dX12_number_25 (by decide) ?_
        refine ok_iload 4 hc dX12_number_27 rfl ?_
        refine ok_imul hc dX12_number_29 ?_
        refine ok_aload_n 0 hc dX12_number_30 rfl rfl ?_
        refine ok_getr 27 hc FS_X12_97 rfl sM_0 rfl dX12_number_31 ?_
        refine ok_aload_n 0 hc dX12_number_34 rfl rfl ?_
        refine ok_geti hc FS_X12_348 rfl sM_0 dX12_number_35 ?_
        refine ok_iald hc sM_27 dX12_number_38 (fun h5 => ?_)
        refine ok_iadd hc dX12_number_39 ?_
        refine ok_bipush (v := 48) hc dX12_number_40 (by decide) ?_
        refine ok_isub hc dX12_number_42 ?_
        refine ok_lti (fun v6 => ?_)
        refine ok_istore [(4, .int v6), (0, rv Γ 0), (1, .int a1), (2, .int a2), (3, .int a3)] hc dX12_number_43 (Nat.le_of_ble_eq_true rfl) rfl ?_
        refine ok_aload_n 1 hc dX12_number_45 rfl rfl ?_
        refine ok_dup hc dX12_number_46 rfl ?_
        refine ok_geti hc FS_X12_348 rfl sM_0 dX12_number_47 ?_
        refine ok_iconst (v := 1) hc dX12_number_50 (by decide) ?_
        refine ok_iadd hc dX12_number_51 ?_
        refine ok_puti hc FP_X12_348 rfl sM_0 dX12_number_52 ?_
        refine ok_ltS (fun S7 => ?_)
        refine ok_goto 8 hc dX12_number_55 (by decide) ?_
        refine ok_sub [1, 2, 3, 4, 0] rfl ?_
        exact ih _ _
set_option maxRecDepth 100000 in
set_option maxHeartbeats 4000000 in
theorem tX12_number (a1 : Int32) (a2 : Int32) (S : St) (q : Int32 × St) (h : fX12_number a1 a2 S = some q) : MT vI wM mX12_number (fun n0 => [.ref (n0 + 0), .int a1, .int a2]) S q := by
  refine mt_of (show plainFor yX12_number = true from by decide) (fun _ => Nat.le_of_ble_eq_true rfl) ?_
  intro Γ hc _
  rw [← h]
  show Ok Γ wM 0 [(0, rv Γ 0), (1, .int a1), (2, .int a2)] [] S _
  unfold fX12_number
  refine ok_aload_n 0 hc dX12_number_0 rfl rfl ?_
  refine ok_geti hc FS_X12_348 rfl sM_0 dX12_number_1 ?_
  refine ok_istore_n [(3, .int (S.1 0 35)), (0, rv Γ 0), (1, .int a1), (2, .int a2)] hc dX12_number_4 rfl (Nat.le_of_ble_eq_true rfl) rfl ?_
  refine ok_iconst (v := 0) hc dX12_number_5 (by decide) ?_
  refine ok_istore [(4, .int 0), (3, .int (S.1 0 35)), (0, rv Γ 0), (1, .int a1), (2, .int a2)] hc dX12_number_6 (Nat.le_of_ble_eq_true rfl) rfl ?_
  refine ok_sub [2, 3, 4, 1, 0] rfl ?_
  refine tX12_number_L8 hc _ _ _ _  ?_ FU _ _
  · intro v1 S2
    refine ok_aload_n 0 hc dX12_number_58 rfl rfl ?_
    refine ok_geti hc FS_X12_348 rfl sM_0 dX12_number_59 ?_
    refine ok_iload_n 3 hc dX12_number_62 rfl rfl ?_
    refine ok_jn (fun g => ∀ (S3 : St), Ok Γ wM 79 [(0, rv Γ 0), (3, .int (S.1 0 35))] [] S3 (g S3)) ?_ (fun k4 hk4 => ?_)
    · intro S3
      refine ok_aload_n 0 hc dX12_number_79 rfl rfl ?_
      refine ok_iload_n 1 hc dX12_number_80 rfl rfl ?_
      refine ok_puti hc FP_X12_348 rfl sM_0 dX12_number_81 ?_
      refine ok_ltS (fun S5 => ?_)
      refine ok_iconst (v := (-1)) hc dX12_number_84 (by decide) ?_
      exact ok_iret hc rfl dX12_number_85
    · refine ok_icmp_eq_ite 79 hc dX12_number_63 (by decide) (fun h6 => ?_) (fun h6 => ?_)
      · refine ok_sub [0, 3] rfl ?_
        exact hk4 _
      · refine ok_iload 4 hc dX12_number_66 rfl ?_
        refine ok_i2l hc dX12_number_68 ?_
        refine ok_iload_n 1 hc dX12_number_69 rfl rfl ?_
        refine ok_i2l hc dX12_number_70 ?_
        refine ok_iload_n 2 hc dX12_number_71 rfl rfl ?_
        refine ok_i2l hc dX12_number_72 ?_
        refine ok_callSi (As := [.long v1.toInt64, .long a1.toInt64, .long a2.toInt64]) (st := []) (fun n0 => [.long v1.toInt64, .long a1.toInt64, .long a2.toInt64]) hc SS_X12_152 rfl rfl rfl ⟨Nat.le_of_ble_eq_true rfl, Nat.le_of_ble_eq_true rfl⟩ (Nat.le_of_ble_eq_true rfl) (fun q h => tX12_in v1.toInt64 a1.toInt64 a2.toInt64 S2 q h) dX12_number_73 (fun v7 S8 => ?_)
        refine ok_if_ne_ite 86 hc dX12_number_76 (by decide) (fun h9 => ?_) (fun h9 => ?_)
        · refine ok_iload 4 hc dX12_number_86 rfl ?_
          exact ok_iret hc rfl dX12_number_88
        · refine ok_sub [0, 3] rfl ?_
          exact hk4 _
def fX12_readsRule (S : St) : Option (Int32 × St) :=
  bnd (fX12_is 43 S) (fun v1 S2 => jn (fun (S3 : St) => bnd (fX12_is 43 S3) (fun v5 S6 => if ib (S3.1 0 36) 30 ∧ b01 v5 then lt (wi S6 28 (nt (S3.1 0 36)) v5) (fun S7 => lt (wi S7 0 35 ((S7.1 0 35) + 1)) (fun S9 => bnd (fX12_is 42 S9) (fun v10 S11 => jn (fun (S12 : St) => lt (wi S12 0 35 ((S12.1 0 35) + 1)) (fun S14 => bnd (fX12_is 58 S14) (fun v15 S16 => if v15 = 0 then (some (0, S16)) else (lt (wi S16 0 35 ((S16.1 0 35) + 1)) (fun S18 => bnd (fX12_number 0 11 S18) (fun v19 S20 => if ib (S18.1 0 36) 30 then lt (wi S20 30 (nt (S18.1 0 36)) v19) (fun S21 => if ib (S21.1 0 36) 30 then (if 0 ≤ (S21.1 30 (nt (S21.1 0 36))) then (if ib (S21.1 0 36) 30 then (if ib (S21.1 0 36) 30 then lt (wi S21 31 (nt (S21.1 0 36)) (S21.1 30 (nt (S21.1 0 36)))) (fun S26 => bnd (fX12_is 45 S26) (fun v28 S29 => jn (fun (S30 : St) => if ib (S30.1 0 36) 30 then lt (wi S30 32 (nt (S30.1 0 36)) 0) (fun S32 => if ib (S32.1 0 36) 30 then lt (wi S32 33 (nt (S32.1 0 36)) 99) (fun S34 => bnd (fX12_is 64 S34) (fun v36 S37 => jn (fun (S38 : St) => lt (wi S38 0 36 ((S38.1 0 36) + 1)) (fun S40 => some (1, S40))) (fun k39 => if v36 = 0 then (k39 S37) else (lt (wi S37 0 35 ((S37.1 0 35) + 1)) (fun S42 => bnd (fX12_number 0 99 S42) (fun v43 S44 => if ib (S42.1 0 36) 30 then lt (wi S44 32 (nt (S42.1 0 36)) v43) (fun S45 => if ib (S45.1 0 36) 30 then (if 0 ≤ (S45.1 32 (nt (S45.1 0 36))) then (if ib (S45.1 0 36) 30 then (if ib (S45.1 0 36) 30 then lt (wi S45 33 (nt (S45.1 0 36)) (S45.1 32 (nt (S45.1 0 36)))) (fun S50 => bnd (fX12_is 45 S50) (fun v52 S53 => if v52 = 0 then (k39 S53) else (lt (wi S53 0 35 ((S53.1 0 35) + 1)) (fun S55 => if ib (S55.1 0 36) 30 then (bnd (fX12_number (S55.1 32 (nt (S55.1 0 36))) 99 S55) (fun v57 S58 => if ib (S55.1 0 36) 30 then lt (wi S58 33 (nt (S55.1 0 36)) v57) (fun S59 => if ib (S59.1 0 36) 30 then (if 0 ≤ (S59.1 33 (nt (S59.1 0 36))) then (k39 S59) else (some (0, S59))) else none) else none)) else none)))) else none) else none) else (some (0, S45))) else none) else none)))))) else none) else none) (fun k31 => if v28 = 0 then (k31 S29) else (lt (wi S29 0 35 ((S29.1 0 35) + 1)) (fun S64 => if ib (S64.1 0 36) 30 then (bnd (fX12_number (S64.1 30 (nt (S64.1 0 36))) 11 S64) (fun v66 S67 => if ib (S64.1 0 36) 30 then lt (wi S67 31 (nt (S64.1 0 36)) v66) (fun S68 => if ib (S68.1 0 36) 30 then (if 0 ≤ (S68.1 31 (nt (S68.1 0 36))) then (k31 S68) else (some (0, S68))) else none) else none)) else none))))) else none) else none) else (some (0, S21))) else none) else none)))))) (fun k13 => if v10 = 0 then (if (S11.1 0 34) ≤ (S11.1 0 35) then (some (0, S11)) else (if ib (S11.1 0 35) 120 then (bnd (fX12_in ((S11.1 27 (nt (S11.1 0 35))).toInt64) 48 53 S11) (fun v75 S76 => if v75 = 0 then (some (0, S76)) else (if ib (S76.1 0 35) 120 then (if ib (S76.1 0 36) 30 then lt (wi S76 29 (nt (S76.1 0 36)) ((S76.1 27 (nt (S76.1 0 35))) - 48)) (fun S79 => k13 S79) else none) else none))) else none)) else (if ib (S11.1 0 36) 30 then lt (wi S11 29 (nt (S11.1 0 36)) (-1)) (fun S81 => k13 S81) else none))))) else none)) (fun k4 => if v1 = 0 then (bnd (fX12_is 45 S2) (fun v84 S85 => if v84 = 0 then (some (0, S85)) else (k4 S85))) else (k4 S2)))
set_option maxRecDepth 100000 in
set_option maxHeartbeats 4000000 in
theorem tX12_readsRule (S : St) (q : Int32 × St) (h : fX12_readsRule S = some q) : MT vI wM mX12_readsRule (fun n0 => [.ref (n0 + 0)]) S q := by
  refine mt_of (show plainFor yX12_readsRule = true from by decide) (fun _ => Nat.le_of_ble_eq_true rfl) ?_
  intro Γ hc _
  rw [← h]
  show Ok Γ wM 0 [(0, rv Γ 0)] [] S _
  unfold fX12_readsRule
  refine ok_aload_n 0 hc dX12_readsRule_0 rfl rfl ?_
  refine ok_bipush (v := 43) hc dX12_readsRule_1 (by decide) ?_
  refine ok_callVi (As := [.int 43]) (st := []) (fun n0 => [.ref (n0 + 0), .int 43]) hc VS_X12_359 sM_0 rfl rfl rfl ⟨Nat.le_of_ble_eq_true rfl, Nat.le_of_ble_eq_true rfl⟩ (Nat.le_of_ble_eq_true rfl) (fun q h => tX12_is 43 S q h) dX12_readsRule_3 (fun v1 S2 => ?_)
  refine ok_jn (fun g => ∀ (S3 : St), Ok Γ wM 20 [(0, rv Γ 0)] [] S3 (g S3)) ?_ (fun k4 hk4 => ?_)
  · intro S3
    refine ok_aload_n 0 hc dX12_readsRule_20 rfl rfl ?_
    refine ok_getr 28 hc FS_X12_100 rfl sM_0 rfl dX12_readsRule_21 ?_
    refine ok_aload_n 0 hc dX12_readsRule_24 rfl rfl ?_
    refine ok_geti hc FS_X12_362 rfl sM_0 dX12_readsRule_25 ?_
    refine ok_aload_n 0 hc dX12_readsRule_28 rfl rfl ?_
    refine ok_bipush (v := 43) hc dX12_readsRule_29 (by decide) ?_
    refine ok_callVi (As := [.int 43]) (st := [.int (S3.1 0 36), rv Γ 28]) (fun n0 => [.ref (n0 + 0), .int 43]) hc VS_X12_359 sM_0 rfl rfl rfl ⟨Nat.le_of_ble_eq_true rfl, Nat.le_of_ble_eq_true rfl⟩ (Nat.le_of_ble_eq_true rfl) (fun q h => tX12_is 43 S3 q h) dX12_readsRule_31 (fun v5 S6 => ?_)
    refine ok_zast hc sM_28 dX12_readsRule_34 (fun h8 => ?_)
    refine ok_ltS (fun S7 => ?_)
    refine ok_aload_n 0 hc dX12_readsRule_35 rfl rfl ?_
    refine ok_dup hc dX12_readsRule_36 rfl ?_
    refine ok_geti hc FS_X12_348 rfl sM_0 dX12_readsRule_37 ?_
    refine ok_iconst (v := 1) hc dX12_readsRule_40 (by decide) ?_
    refine ok_iadd hc dX12_readsRule_41 ?_
    refine ok_puti hc FP_X12_348 rfl sM_0 dX12_readsRule_42 ?_
    refine ok_ltS (fun S9 => ?_)
    refine ok_aload_n 0 hc dX12_readsRule_45 rfl rfl ?_
    refine ok_bipush (v := 42) hc dX12_readsRule_46 (by decide) ?_
    refine ok_callVi (As := [.int 42]) (st := []) (fun n0 => [.ref (n0 + 0), .int 42]) hc VS_X12_359 sM_0 rfl rfl rfl ⟨Nat.le_of_ble_eq_true rfl, Nat.le_of_ble_eq_true rfl⟩ (Nat.le_of_ble_eq_true rfl) (fun q h => tX12_is 42 S9 q h) dX12_readsRule_48 (fun v10 S11 => ?_)
    refine ok_jn (fun g => ∀ (S12 : St), Ok Γ wM 126 [(0, rv Γ 0)] [] S12 (g S12)) ?_ (fun k13 hk13 => ?_)
    · intro S12
      refine ok_aload_n 0 hc dX12_readsRule_126 rfl rfl ?_
      refine ok_dup hc dX12_readsRule_127 rfl ?_
      refine ok_geti hc FS_X12_348 rfl sM_0 dX12_readsRule_128 ?_
      refine ok_iconst (v := 1) hc dX12_readsRule_131 (by decide) ?_
      refine ok_iadd hc dX12_readsRule_132 ?_
      refine ok_puti hc FP_X12_348 rfl sM_0 dX12_readsRule_133 ?_
      refine ok_ltS (fun S14 => ?_)
      refine ok_aload_n 0 hc dX12_readsRule_136 rfl rfl ?_
      refine ok_bipush (v := 58) hc dX12_readsRule_137 (by decide) ?_
      refine ok_callVi (As := [.int 58]) (st := []) (fun n0 => [.ref (n0 + 0), .int 58]) hc VS_X12_359 sM_0 rfl rfl rfl ⟨Nat.le_of_ble_eq_true rfl, Nat.le_of_ble_eq_true rfl⟩ (Nat.le_of_ble_eq_true rfl) (fun q h => tX12_is 58 S14 q h) dX12_readsRule_139 (fun v15 S16 => ?_)
      refine ok_if_ne_ite 147 hc dX12_readsRule_142 (by decide) (fun h17 => ?_) (fun h17 => ?_)
      · refine ok_aload_n 0 hc dX12_readsRule_147 rfl rfl ?_
        refine ok_dup hc dX12_readsRule_148 rfl ?_
        refine ok_geti hc FS_X12_348 rfl sM_0 dX12_readsRule_149 ?_
        refine ok_iconst (v := 1) hc dX12_readsRule_152 (by decide) ?_
        refine ok_iadd hc dX12_readsRule_153 ?_
        refine ok_puti hc FP_X12_348 rfl sM_0 dX12_readsRule_154 ?_
        refine ok_ltS (fun S18 => ?_)
        refine ok_aload_n 0 hc dX12_readsRule_157 rfl rfl ?_
        refine ok_getr 30 hc FS_X12_106 rfl sM_0 rfl dX12_readsRule_158 ?_
        refine ok_aload_n 0 hc dX12_readsRule_161 rfl rfl ?_
        refine ok_geti hc FS_X12_362 rfl sM_0 dX12_readsRule_162 ?_
        refine ok_aload_n 0 hc dX12_readsRule_165 rfl rfl ?_
        refine ok_iconst (v := 0) hc dX12_readsRule_166 (by decide) ?_
        refine ok_bipush (v := 11) hc dX12_readsRule_167 (by decide) ?_
        refine ok_callVi (As := [.int 0, .int 11]) (st := [.int (S18.1 0 36), rv Γ 30]) (fun n0 => [.ref (n0 + 0), .int 0, .int 11]) hc VS_X12_367 sM_0 rfl rfl rfl ⟨Nat.le_of_ble_eq_true rfl, Nat.le_of_ble_eq_true rfl⟩ (Nat.le_of_ble_eq_true rfl) (fun q h => tX12_number 0 11 S18 q h) dX12_readsRule_169 (fun v19 S20 => ?_)
        refine ok_iast hc sM_30 dX12_readsRule_172 (fun h22 => ?_)
        refine ok_ltS (fun S21 => ?_)
        refine ok_aload_n 0 hc dX12_readsRule_173 rfl rfl ?_
        refine ok_getr 30 hc FS_X12_106 rfl sM_0 rfl dX12_readsRule_174 ?_
        refine ok_aload_n 0 hc dX12_readsRule_177 rfl rfl ?_
        refine ok_geti hc FS_X12_362 rfl sM_0 dX12_readsRule_178 ?_
        refine ok_iald hc sM_30 dX12_readsRule_181 (fun h23 => ?_)
        refine ok_if_ge_ite 187 hc dX12_readsRule_182 (by decide) (fun h24 => ?_) (fun h24 => ?_)
        · refine ok_aload_n 0 hc dX12_readsRule_187 rfl rfl ?_
          refine ok_getr 31 hc FS_X12_109 rfl sM_0 rfl dX12_readsRule_188 ?_
          refine ok_aload_n 0 hc dX12_readsRule_191 rfl rfl ?_
          refine ok_geti hc FS_X12_362 rfl sM_0 dX12_readsRule_192 ?_
          refine ok_aload_n 0 hc dX12_readsRule_195 rfl rfl ?_
          refine ok_getr 30 hc FS_X12_106 rfl sM_0 rfl dX12_readsRule_196 ?_
          refine ok_aload_n 0 hc dX12_readsRule_199 rfl rfl ?_
          refine ok_geti hc FS_X12_362 rfl sM_0 dX12_readsRule_200 ?_
          refine ok_iald hc sM_30 dX12_readsRule_203 (fun h25 => ?_)
          refine ok_iast hc sM_31 dX12_readsRule_204 (fun h27 => ?_)
          refine ok_ltS (fun S26 => ?_)
          refine ok_aload_n 0 hc dX12_readsRule_205 rfl rfl ?_
          refine ok_bipush (v := 45) hc dX12_readsRule_206 (by decide) ?_
          refine ok_callVi (As := [.int 45]) (st := []) (fun n0 => [.ref (n0 + 0), .int 45]) hc VS_X12_359 sM_0 rfl rfl rfl ⟨Nat.le_of_ble_eq_true rfl, Nat.le_of_ble_eq_true rfl⟩ (Nat.le_of_ble_eq_true rfl) (fun q h => tX12_is 45 S26 q h) dX12_readsRule_208 (fun v28 S29 => ?_)
          refine ok_jn (fun g => ∀ (S30 : St), Ok Γ wM 262 [(0, rv Γ 0)] [] S30 (g S30)) ?_ (fun k31 hk31 => ?_)
          · intro S30
            refine ok_aload_n 0 hc dX12_readsRule_262 rfl rfl ?_
            refine ok_getr 32 hc FS_X12_112 rfl sM_0 rfl dX12_readsRule_263 ?_
            refine ok_aload_n 0 hc dX12_readsRule_266 rfl rfl ?_
            refine ok_geti hc FS_X12_362 rfl sM_0 dX12_readsRule_267 ?_
            refine ok_iconst (v := 0) hc dX12_readsRule_270 (by decide) ?_
            refine ok_iast hc sM_32 dX12_readsRule_271 (fun h33 => ?_)
            refine ok_ltS (fun S32 => ?_)
            refine ok_aload_n 0 hc dX12_readsRule_272 rfl rfl ?_
            refine ok_getr 33 hc FS_X12_115 rfl sM_0 rfl dX12_readsRule_273 ?_
            refine ok_aload_n 0 hc dX12_readsRule_276 rfl rfl ?_
            refine ok_geti hc FS_X12_362 rfl sM_0 dX12_readsRule_277 ?_
            refine ok_bipush (v := 99) hc dX12_readsRule_280 (by decide) ?_
            refine ok_iast hc sM_33 dX12_readsRule_282 (fun h35 => ?_)
            refine ok_ltS (fun S34 => ?_)
            refine ok_aload_n 0 hc dX12_readsRule_283 rfl rfl ?_
            refine ok_bipush (v := 64) hc dX12_readsRule_284 (by decide) ?_
            refine ok_callVi (As := [.int 64]) (st := []) (fun n0 => [.ref (n0 + 0), .int 64]) hc VS_X12_359 sM_0 rfl rfl rfl ⟨Nat.le_of_ble_eq_true rfl, Nat.le_of_ble_eq_true rfl⟩ (Nat.le_of_ble_eq_true rfl) (fun q h => tX12_is 64 S34 q h) dX12_readsRule_286 (fun v36 S37 => ?_)
            refine ok_jn (fun g => ∀ (S38 : St), Ok Γ wM 407 [(0, rv Γ 0)] [] S38 (g S38)) ?_ (fun k39 hk39 => ?_)
            · intro S38
              refine ok_aload_n 0 hc dX12_readsRule_407 rfl rfl ?_
              refine ok_dup hc dX12_readsRule_408 rfl ?_
              refine ok_geti hc FS_X12_362 rfl sM_0 dX12_readsRule_409 ?_
              refine ok_iconst (v := 1) hc dX12_readsRule_412 (by decide) ?_
              refine ok_iadd hc dX12_readsRule_413 ?_
              refine ok_puti hc FP_X12_362 rfl sM_0 dX12_readsRule_414 ?_
              refine ok_ltS (fun S40 => ?_)
              refine ok_iconst (v := 1) hc dX12_readsRule_417 (by decide) ?_
              exact ok_zretK hc rfl (by decide) dX12_readsRule_418
            · refine ok_if_eq_ite 407 hc dX12_readsRule_289 (by decide) (fun h41 => ?_) (fun h41 => ?_)
              · exact hk39 _
              · refine ok_aload_n 0 hc dX12_readsRule_292 rfl rfl ?_
                refine ok_dup hc dX12_readsRule_293 rfl ?_
                refine ok_geti hc FS_X12_348 rfl sM_0 dX12_readsRule_294 ?_
                refine ok_iconst (v := 1) hc dX12_readsRule_297 (by decide) ?_
                refine ok_iadd hc dX12_readsRule_298 ?_
                refine ok_puti hc FP_X12_348 rfl sM_0 dX12_readsRule_299 ?_
                refine ok_ltS (fun S42 => ?_)
                refine ok_aload_n 0 hc dX12_readsRule_302 rfl rfl ?_
                refine ok_getr 32 hc FS_X12_112 rfl sM_0 rfl dX12_readsRule_303 ?_
                refine ok_aload_n 0 hc dX12_readsRule_306 rfl rfl ?_
                refine ok_geti hc FS_X12_362 rfl sM_0 dX12_readsRule_307 ?_
                refine ok_aload_n 0 hc dX12_readsRule_310 rfl rfl ?_
                refine ok_iconst (v := 0) hc dX12_readsRule_311 (by decide) ?_
                refine ok_bipush (v := 99) hc dX12_readsRule_312 (by decide) ?_
                refine ok_callVi (As := [.int 0, .int 99]) (st := [.int (S42.1 0 36), rv Γ 32]) (fun n0 => [.ref (n0 + 0), .int 0, .int 99]) hc VS_X12_367 sM_0 rfl rfl rfl ⟨Nat.le_of_ble_eq_true rfl, Nat.le_of_ble_eq_true rfl⟩ (Nat.le_of_ble_eq_true rfl) (fun q h => tX12_number 0 99 S42 q h) dX12_readsRule_314 (fun v43 S44 => ?_)
                refine ok_iast hc sM_32 dX12_readsRule_317 (fun h46 => ?_)
                refine ok_ltS (fun S45 => ?_)
                refine ok_aload_n 0 hc dX12_readsRule_318 rfl rfl ?_
                refine ok_getr 32 hc FS_X12_112 rfl sM_0 rfl dX12_readsRule_319 ?_
                refine ok_aload_n 0 hc dX12_readsRule_322 rfl rfl ?_
                refine ok_geti hc FS_X12_362 rfl sM_0 dX12_readsRule_323 ?_
                refine ok_iald hc sM_32 dX12_readsRule_326 (fun h47 => ?_)
                refine ok_if_ge_ite 332 hc dX12_readsRule_327 (by decide) (fun h48 => ?_) (fun h48 => ?_)
                · refine ok_aload_n 0 hc dX12_readsRule_332 rfl rfl ?_
                  refine ok_getr 33 hc FS_X12_115 rfl sM_0 rfl dX12_readsRule_333 ?_
                  refine ok_aload_n 0 hc dX12_readsRule_336 rfl rfl ?_
                  refine ok_geti hc FS_X12_362 rfl sM_0 dX12_readsRule_337 ?_
                  refine ok_aload_n 0 hc dX12_readsRule_340 rfl rfl ?_
                  refine ok_getr 32 hc FS_X12_112 rfl sM_0 rfl dX12_readsRule_341 ?_
                  refine ok_aload_n 0 hc dX12_readsRule_344 rfl rfl ?_
                  refine ok_geti hc FS_X12_362 rfl sM_0 dX12_readsRule_345 ?_
                  refine ok_iald hc sM_32 dX12_readsRule_348 (fun h49 => ?_)
                  refine ok_iast hc sM_33 dX12_readsRule_349 (fun h51 => ?_)
                  refine ok_ltS (fun S50 => ?_)
                  refine ok_aload_n 0 hc dX12_readsRule_350 rfl rfl ?_
                  refine ok_bipush (v := 45) hc dX12_readsRule_351 (by decide) ?_
                  refine ok_callVi (As := [.int 45]) (st := []) (fun n0 => [.ref (n0 + 0), .int 45]) hc VS_X12_359 sM_0 rfl rfl rfl ⟨Nat.le_of_ble_eq_true rfl, Nat.le_of_ble_eq_true rfl⟩ (Nat.le_of_ble_eq_true rfl) (fun q h => tX12_is 45 S50 q h) dX12_readsRule_353 (fun v52 S53 => ?_)
                  refine ok_if_eq_ite 407 hc dX12_readsRule_356 (by decide) (fun h54 => ?_) (fun h54 => ?_)
                  · exact hk39 _
                  · refine ok_aload_n 0 hc dX12_readsRule_359 rfl rfl ?_
                    refine ok_dup hc dX12_readsRule_360 rfl ?_
                    refine ok_geti hc FS_X12_348 rfl sM_0 dX12_readsRule_361 ?_
                    refine ok_iconst (v := 1) hc dX12_readsRule_364 (by decide) ?_
                    refine ok_iadd hc dX12_readsRule_365 ?_
                    refine ok_puti hc FP_X12_348 rfl sM_0 dX12_readsRule_366 ?_
                    refine ok_ltS (fun S55 => ?_)
                    refine ok_aload_n 0 hc dX12_readsRule_369 rfl rfl ?_
                    refine ok_getr 33 hc FS_X12_115 rfl sM_0 rfl dX12_readsRule_370 ?_
                    refine ok_aload_n 0 hc dX12_readsRule_373 rfl rfl ?_
                    refine ok_geti hc FS_X12_362 rfl sM_0 dX12_readsRule_374 ?_
                    refine ok_aload_n 0 hc dX12_readsRule_377 rfl rfl ?_
                    refine ok_aload_n 0 hc dX12_readsRule_378 rfl rfl ?_
                    refine ok_getr 32 hc FS_X12_112 rfl sM_0 rfl dX12_readsRule_379 ?_
                    refine ok_aload_n 0 hc dX12_readsRule_382 rfl rfl ?_
                    refine ok_geti hc FS_X12_362 rfl sM_0 dX12_readsRule_383 ?_
                    refine ok_iald hc sM_32 dX12_readsRule_386 (fun h56 => ?_)
                    refine ok_bipush (v := 99) hc dX12_readsRule_387 (by decide) ?_
                    refine ok_callVi (As := [.int (S55.1 32 (nt (S55.1 0 36))), .int 99]) (st := [.int (S55.1 0 36), rv Γ 33]) (fun n0 => [.ref (n0 + 0), .int (S55.1 32 (nt (S55.1 0 36))), .int 99]) hc VS_X12_367 sM_0 rfl rfl rfl ⟨Nat.le_of_ble_eq_true rfl, Nat.le_of_ble_eq_true rfl⟩ (Nat.le_of_ble_eq_true rfl) (fun q h => tX12_number (S55.1 32 (nt (S55.1 0 36))) 99 S55 q h) dX12_readsRule_389 (fun v57 S58 => ?_)
                    refine ok_iast hc sM_33 dX12_readsRule_392 (fun h60 => ?_)
                    refine ok_ltS (fun S59 => ?_)
                    refine ok_aload_n 0 hc dX12_readsRule_393 rfl rfl ?_
                    refine ok_getr 33 hc FS_X12_115 rfl sM_0 rfl dX12_readsRule_394 ?_
                    refine ok_aload_n 0 hc dX12_readsRule_397 rfl rfl ?_
                    refine ok_geti hc FS_X12_362 rfl sM_0 dX12_readsRule_398 ?_
                    refine ok_iald hc sM_33 dX12_readsRule_401 (fun h61 => ?_)
                    refine ok_if_ge_ite 407 hc dX12_readsRule_402 (by decide) (fun h62 => ?_) (fun h62 => ?_)
                    · exact hk39 _
                    · refine ok_iconst (v := 0) hc dX12_readsRule_405 (by decide) ?_
                      exact ok_zretK hc rfl (by decide) dX12_readsRule_406
                · refine ok_iconst (v := 0) hc dX12_readsRule_330 (by decide) ?_
                  exact ok_zretK hc rfl (by decide) dX12_readsRule_331
          · refine ok_if_eq_ite 262 hc dX12_readsRule_211 (by decide) (fun h63 => ?_) (fun h63 => ?_)
            · exact hk31 _
            · refine ok_aload_n 0 hc dX12_readsRule_214 rfl rfl ?_
              refine ok_dup hc dX12_readsRule_215 rfl ?_
              refine ok_geti hc FS_X12_348 rfl sM_0 dX12_readsRule_216 ?_
              refine ok_iconst (v := 1) hc dX12_readsRule_219 (by decide) ?_
              refine ok_iadd hc dX12_readsRule_220 ?_
              refine ok_puti hc FP_X12_348 rfl sM_0 dX12_readsRule_221 ?_
              refine ok_ltS (fun S64 => ?_)
              refine ok_aload_n 0 hc dX12_readsRule_224 rfl rfl ?_
              refine ok_getr 31 hc FS_X12_109 rfl sM_0 rfl dX12_readsRule_225 ?_
              refine ok_aload_n 0 hc dX12_readsRule_228 rfl rfl ?_
              refine ok_geti hc FS_X12_362 rfl sM_0 dX12_readsRule_229 ?_
              refine ok_aload_n 0 hc dX12_readsRule_232 rfl rfl ?_
              refine ok_aload_n 0 hc dX12_readsRule_233 rfl rfl ?_
              refine ok_getr 30 hc FS_X12_106 rfl sM_0 rfl dX12_readsRule_234 ?_
              refine ok_aload_n 0 hc dX12_readsRule_237 rfl rfl ?_
              refine ok_geti hc FS_X12_362 rfl sM_0 dX12_readsRule_238 ?_
              refine ok_iald hc sM_30 dX12_readsRule_241 (fun h65 => ?_)
              refine ok_bipush (v := 11) hc dX12_readsRule_242 (by decide) ?_
              refine ok_callVi (As := [.int (S64.1 30 (nt (S64.1 0 36))), .int 11]) (st := [.int (S64.1 0 36), rv Γ 31]) (fun n0 => [.ref (n0 + 0), .int (S64.1 30 (nt (S64.1 0 36))), .int 11]) hc VS_X12_367 sM_0 rfl rfl rfl ⟨Nat.le_of_ble_eq_true rfl, Nat.le_of_ble_eq_true rfl⟩ (Nat.le_of_ble_eq_true rfl) (fun q h => tX12_number (S64.1 30 (nt (S64.1 0 36))) 11 S64 q h) dX12_readsRule_244 (fun v66 S67 => ?_)
              refine ok_iast hc sM_31 dX12_readsRule_247 (fun h69 => ?_)
              refine ok_ltS (fun S68 => ?_)
              refine ok_aload_n 0 hc dX12_readsRule_248 rfl rfl ?_
              refine ok_getr 31 hc FS_X12_109 rfl sM_0 rfl dX12_readsRule_249 ?_
              refine ok_aload_n 0 hc dX12_readsRule_252 rfl rfl ?_
              refine ok_geti hc FS_X12_362 rfl sM_0 dX12_readsRule_253 ?_
              refine ok_iald hc sM_31 dX12_readsRule_256 (fun h70 => ?_)
              refine ok_if_ge_ite 262 hc dX12_readsRule_257 (by decide) (fun h71 => ?_) (fun h71 => ?_)
              · exact hk31 _
              · refine ok_iconst (v := 0) hc dX12_readsRule_260 (by decide) ?_
                exact ok_zretK hc rfl (by decide) dX12_readsRule_261
        · refine ok_iconst (v := 0) hc dX12_readsRule_185 (by decide) ?_
          exact ok_zretK hc rfl (by decide) dX12_readsRule_186
      · refine ok_iconst (v := 0) hc dX12_readsRule_145 (by decide) ?_
        exact ok_zretK hc rfl (by decide) dX12_readsRule_146
    · refine ok_if_eq_ite 67 hc dX12_readsRule_51 (by decide) (fun h72 => ?_) (fun h72 => ?_)
      · refine ok_aload_n 0 hc dX12_readsRule_67 rfl rfl ?_
        refine ok_geti hc FS_X12_348 rfl sM_0 dX12_readsRule_68 ?_
        refine ok_aload_n 0 hc dX12_readsRule_71 rfl rfl ?_
        refine ok_geti hc FS_X12_345 rfl sM_0 dX12_readsRule_72 ?_
        refine ok_icmp_ge_ite 124 hc dX12_readsRule_75 (by decide) (fun h73 => ?_) (fun h73 => ?_)
        · refine ok_iconst (v := 0) hc dX12_readsRule_124 (by decide) ?_
          exact ok_zretK hc rfl (by decide) dX12_readsRule_125
        · refine ok_aload_n 0 hc dX12_readsRule_78 rfl rfl ?_
          refine ok_getr 27 hc FS_X12_97 rfl sM_0 rfl dX12_readsRule_79 ?_
          refine ok_aload_n 0 hc dX12_readsRule_82 rfl rfl ?_
          refine ok_geti hc FS_X12_348 rfl sM_0 dX12_readsRule_83 ?_
          refine ok_iald hc sM_27 dX12_readsRule_86 (fun h74 => ?_)
          refine ok_i2l hc dX12_readsRule_87 ?_
          refine ok_ldc2 hc dX12_readsRule_88 W_1595 ?_
          refine ok_ldc2 hc dX12_readsRule_91 W_1596 ?_
          refine ok_callSi (As := [.long ((S11.1 27 (nt (S11.1 0 35))).toInt64), .long 48, .long 53]) (st := []) (fun n0 => [.long ((S11.1 27 (nt (S11.1 0 35))).toInt64), .long 48, .long 53]) hc SS_X12_152 rfl rfl rfl ⟨Nat.le_of_ble_eq_true rfl, Nat.le_of_ble_eq_true rfl⟩ (Nat.le_of_ble_eq_true rfl) (fun q h => tX12_in ((S11.1 27 (nt (S11.1 0 35))).toInt64) 48 53 S11 q h) dX12_readsRule_94 (fun v75 S76 => ?_)
          refine ok_if_eq_ite 124 hc dX12_readsRule_97 (by decide) (fun h77 => ?_) (fun h77 => ?_)
          · refine ok_iconst (v := 0) hc dX12_readsRule_124 (by decide) ?_
            exact ok_zretK hc rfl (by decide) dX12_readsRule_125
          · refine ok_aload_n 0 hc dX12_readsRule_100 rfl rfl ?_
            refine ok_getr 29 hc FS_X12_103 rfl sM_0 rfl dX12_readsRule_101 ?_
            refine ok_aload_n 0 hc dX12_readsRule_104 rfl rfl ?_
            refine ok_geti hc FS_X12_362 rfl sM_0 dX12_readsRule_105 ?_
            refine ok_aload_n 0 hc dX12_readsRule_108 rfl rfl ?_
            refine ok_getr 27 hc FS_X12_97 rfl sM_0 rfl dX12_readsRule_109 ?_
            refine ok_aload_n 0 hc dX12_readsRule_112 rfl rfl ?_
            refine ok_geti hc FS_X12_348 rfl sM_0 dX12_readsRule_113 ?_
            refine ok_iald hc sM_27 dX12_readsRule_116 (fun h78 => ?_)
            refine ok_bipush (v := 48) hc dX12_readsRule_117 (by decide) ?_
            refine ok_isub hc dX12_readsRule_119 ?_
            refine ok_iast hc sM_29 dX12_readsRule_120 (fun h80 => ?_)
            refine ok_ltS (fun S79 => ?_)
            refine ok_goto 126 hc dX12_readsRule_121 (by decide) ?_
            exact hk13 _
      · refine ok_aload_n 0 hc dX12_readsRule_54 rfl rfl ?_
        refine ok_getr 29 hc FS_X12_103 rfl sM_0 rfl dX12_readsRule_55 ?_
        refine ok_aload_n 0 hc dX12_readsRule_58 rfl rfl ?_
        refine ok_geti hc FS_X12_362 rfl sM_0 dX12_readsRule_59 ?_
        refine ok_iconst (v := (-1)) hc dX12_readsRule_62 (by decide) ?_
        refine ok_iast hc sM_29 dX12_readsRule_63 (fun h82 => ?_)
        refine ok_ltS (fun S81 => ?_)
        refine ok_goto 126 hc dX12_readsRule_64 (by decide) ?_
        exact hk13 _
  · refine ok_if_ne_ite 20 hc dX12_readsRule_6 (by decide) (fun h83 => ?_) (fun h83 => ?_)
    · exact hk4 _
    · refine ok_aload_n 0 hc dX12_readsRule_9 rfl rfl ?_
      refine ok_bipush (v := 45) hc dX12_readsRule_10 (by decide) ?_
      refine ok_callVi (As := [.int 45]) (st := []) (fun n0 => [.ref (n0 + 0), .int 45]) hc VS_X12_359 sM_0 rfl rfl rfl ⟨Nat.le_of_ble_eq_true rfl, Nat.le_of_ble_eq_true rfl⟩ (Nat.le_of_ble_eq_true rfl) (fun q h => tX12_is 45 S2 q h) dX12_readsRule_12 (fun v84 S85 => ?_)
      refine ok_if_ne_ite 20 hc dX12_readsRule_15 (by decide) (fun h86 => ?_) (fun h86 => ?_)
      · exact hk4 _
      · refine ok_iconst (v := 0) hc dX12_readsRule_18 (by decide) ?_
        exact ok_zretK hc rfl (by decide) dX12_readsRule_19
def fX12_reads_L12_st (rec : Int32 → St → Option (Int32 × St)) (a1 : Int32) (S : St) : Option (Int32 × St) :=
  if a1 = 0 then (some ((-1), S)) else (bnd (fX12_readsRule S) (fun v2 S3 => if v2 = 0 then (some (S3.1 0 35, S3)) else (lt (if (S3.1 0 34) ≤ (S3.1 0 35) then 0 else 1) (fun (v5 : Int32) => if v5 = 0 then (rec v5 S3) else (bnd (fX12_is 59 S3) (fun v8 S9 => if v8 = 0 then (some (S9.1 0 35, S9)) else (lt (wi S9 0 35 ((S9.1 0 35) + 1)) (fun S11 => rec v5 S11))))))))
def fX12_reads_L12 : Nat → Int32 → St → Option (Int32 × St)
  | 0 => fun _ _ => none
  | n + 1 => fun a1 S => fX12_reads_L12_st (fX12_reads_L12 n) a1 S
def fX12_reads (S : St) : Option (Int32 × St) :=
  lt (wi S 0 35 0) (fun S1 => lt (wi S1 0 36 0) (fun S2 => fX12_reads_L12 FU 1 S2))
set_option maxRecDepth 100000 in
set_option maxHeartbeats 4000000 in
theorem tX12_reads_L12 {Γ : Cx Int32} (hc : Cok Γ wM vI mX12_reads) : ∀ (n : Nat) (a1 : Int32) (S : St), Ok Γ wM 12 [(0, rv Γ 0), (1, .int a1)] [] S (fX12_reads_L12 n a1 S) := by
  intro n
  induction n with
  | zero =>
    intro a1 S
    exact ok_none
  | succ n ih =>
    intro a1 S
    show Ok Γ wM 12 [(0, rv Γ 0), (1, .int a1)] [] S (fX12_reads_L12_st (fX12_reads_L12 n) a1 S)
    unfold fX12_reads_L12_st
    refine ok_iload_n 1 hc dX12_reads_12 rfl rfl ?_
    refine ok_if_eq_ite 76 hc dX12_reads_13 (by decide) (fun h1 => ?_) (fun h1 => ?_)
    · refine ok_iconst (v := (-1)) hc dX12_reads_76 (by decide) ?_
      exact ok_iret hc rfl dX12_reads_77
    · refine ok_aload_n 0 hc dX12_reads_16 rfl rfl ?_
      refine ok_callVi (As := []) (st := []) (fun n0 => [.ref (n0 + 0)]) hc VS_X12_370 sM_0 rfl rfl rfl ⟨Nat.le_of_ble_eq_true rfl, Nat.le_of_ble_eq_true rfl⟩ (Nat.le_of_ble_eq_true rfl) (fun q h => tX12_readsRule S q h) dX12_reads_17 (fun v2 S3 => ?_)
      refine ok_if_ne_ite 28 hc dX12_reads_20 (by decide) (fun h4 => ?_) (fun h4 => ?_)
      · refine ok_aload_n 0 hc dX12_reads_28 rfl rfl ?_
        refine ok_geti hc FS_X12_348 rfl sM_0 dX12_reads_29 ?_
        refine ok_aload_n 0 hc dX12_reads_32 rfl rfl ?_
        refine ok_geti hc FS_X12_345 rfl sM_0 dX12_reads_33 ?_
        refine ok_lt (fun g => ∀ (v5 : Int32), Ok Γ wM 44 [(0, rv Γ 0)] [.int v5] S3 (g v5)) ?_ (fun k6 hk6 => ?_)
        · intro v5
          refine ok_istore_n [(1, .int v5), (0, rv Γ 0)] hc dX12_reads_44 rfl (Nat.le_of_ble_eq_true rfl) rfl ?_
          refine ok_iload_n 0 hc dX12_reads_45 rfl rfl ?_
          refine ok_if_eq_ite 12 hc dX12_reads_46 (by decide) (fun h7 => ?_) (fun h7 => ?_)
          · refine ok_sub [1, 0] rfl ?_
            exact ih _ _
          · refine ok_aload_n 1 hc dX12_reads_49 rfl rfl ?_
            refine ok_bipush (v := 59) hc dX12_reads_50 (by decide) ?_
            refine ok_callVi (As := [.int 59]) (st := []) (fun n0 => [.ref (n0 + 0), .int 59]) hc VS_X12_359 sM_0 rfl rfl rfl ⟨Nat.le_of_ble_eq_true rfl, Nat.le_of_ble_eq_true rfl⟩ (Nat.le_of_ble_eq_true rfl) (fun q h => tX12_is 59 S3 q h) dX12_reads_52 (fun v8 S9 => ?_)
            refine ok_if_ne_ite 63 hc dX12_reads_55 (by decide) (fun h10 => ?_) (fun h10 => ?_)
            · refine ok_aload_n 1 hc dX12_reads_63 rfl rfl ?_
              refine ok_dup hc dX12_reads_64 rfl ?_
              refine ok_geti hc FS_X12_348 rfl sM_0 dX12_reads_65 ?_
              refine ok_iconst (v := 1) hc dX12_reads_68 (by decide) ?_
              refine ok_iadd hc dX12_reads_69 ?_
              refine ok_puti hc FP_X12_348 rfl sM_0 dX12_reads_70 ?_
              refine ok_ltS (fun S11 => ?_)
              refine ok_goto 12 hc dX12_reads_73 (by decide) ?_
              refine ok_sub [1, 0] rfl ?_
              exact ih _ _
            · refine ok_aload_n 1 hc dX12_reads_58 rfl rfl ?_
              refine ok_geti hc FS_X12_348 rfl sM_0 dX12_reads_59 ?_
              exact ok_iret hc rfl dX12_reads_62
        · refine ok_icmp_ge 43 hc dX12_reads_36 (by decide) (fun h12 => ?_) (fun h12 => ?_)
          · rw [if_pos h12]
            refine ok_iconst (v := 0) hc dX12_reads_43 (by decide) ?_
            refine ok_sub [0] rfl ?_
            exact hk6 _
          · rw [if_neg h12]
            refine ok_iconst (v := 1) hc dX12_reads_39 (by decide) ?_
            refine ok_goto 44 hc dX12_reads_40 (by decide) ?_
            refine ok_sub [0] rfl ?_
            exact hk6 _
      · refine ok_aload_n 0 hc dX12_reads_23 rfl rfl ?_
        refine ok_geti hc FS_X12_348 rfl sM_0 dX12_reads_24 ?_
        exact ok_iret hc rfl dX12_reads_27
set_option maxRecDepth 100000 in
set_option maxHeartbeats 4000000 in
theorem tX12_reads (S : St) (q : Int32 × St) (h : fX12_reads S = some q) : MT vI wM mX12_reads (fun n0 => [.ref (n0 + 0)]) S q := by
  refine mt_of (show plainFor yX12_reads = true from by decide) (fun _ => Nat.le_of_ble_eq_true rfl) ?_
  intro Γ hc _
  rw [← h]
  show Ok Γ wM 0 [(0, rv Γ 0)] [] S _
  unfold fX12_reads
  refine ok_aload_n 0 hc dX12_reads_0 rfl rfl ?_
  refine ok_iconst (v := 0) hc dX12_reads_1 (by decide) ?_
  refine ok_puti hc FP_X12_348 rfl sM_0 dX12_reads_2 ?_
  refine ok_ltS (fun S1 => ?_)
  refine ok_aload_n 0 hc dX12_reads_5 rfl rfl ?_
  refine ok_iconst (v := 0) hc dX12_reads_6 (by decide) ?_
  refine ok_puti hc FP_X12_362 rfl sM_0 dX12_reads_7 ?_
  refine ok_ltS (fun S2 => ?_)
  refine ok_iconst (v := 1) hc dX12_reads_10 (by decide) ?_
  refine ok_istore_n [(1, .int 1), (0, rv Γ 0)] hc dX12_reads_11 rfl (Nat.le_of_ble_eq_true rfl) rfl ?_
  refine ok_sub [1, 0] rfl ?_
  refine tX12_reads_L12 hc    FU _ _
def fX12_fault (S : St) : Option (Int32 × St) :=
  bnd (fX12_reads S) (fun v1 S2 => some (v1, S2))
set_option maxRecDepth 100000 in
set_option maxHeartbeats 4000000 in
theorem tX12_fault (S : St) (q : Int32 × St) (h : fX12_fault S = some q) : MT vI wM mX12_fault (fun n0 => [.ref (n0 + 0)]) S q := by
  refine mt_of (show plainFor yX12_fault = true from by decide) (fun _ => Nat.le_of_ble_eq_true rfl) ?_
  intro Γ hc _
  rw [← h]
  show Ok Γ wM 0 [(0, rv Γ 0)] [] S _
  unfold fX12_fault
  refine ok_aload_n 0 hc dX12_fault_0 rfl rfl ?_
  refine ok_callVi (As := []) (st := []) (fun n0 => [.ref (n0 + 0)]) hc VS_X12_373 sM_0 rfl rfl rfl ⟨Nat.le_of_ble_eq_true rfl, Nat.le_of_ble_eq_true rfl⟩ (Nat.le_of_ble_eq_true rfl) (fun q h => tX12_reads S q h) dX12_fault_1 (fun v1 S2 => ?_)
  exact ok_iret hc rfl dX12_fault_4
def fX12_fewest (a1 : Int32) (S : St) : Option (Int32 × St) :=
  bnd (fX12_takesSet a1 S) (fun v1 S2 => if v1 = 0 then (some ((-2), S2)) else (bnd (fX12_findFewest S2) (fun _ S4 => if ib ((1 <<< ((S4.1 0 22) &&& 31)) - 1) 256 then (lt (S4.1 19 (nt ((1 <<< ((S4.1 0 22) &&& 31)) - 1))) (fun (v6 : Int32) => if v6 ≤ 8 then (some (v6, S4)) else (some ((-1), S4)))) else none)))
set_option maxRecDepth 100000 in
set_option maxHeartbeats 4000000 in
theorem tX12_fewest (a1 : Int32) (S : St) (q : Int32 × St) (h : fX12_fewest a1 S = some q) : MT vI wM mX12_fewest (fun n0 => [.ref (n0 + 0), .int a1]) S q := by
  refine mt_of (show plainFor yX12_fewest = true from by decide) (fun _ => Nat.le_of_ble_eq_true rfl) ?_
  intro Γ hc _
  rw [← h]
  show Ok Γ wM 0 [(0, rv Γ 0), (1, .int a1)] [] S _
  unfold fX12_fewest
  refine ok_aload_n 0 hc dX12_fewest_0 rfl rfl ?_
  refine ok_iload_n 1 hc dX12_fewest_1 rfl rfl ?_
  refine ok_callVi (As := [.int a1]) (st := []) (fun n0 => [.ref (n0 + 0), .int a1]) hc VS_X12_283 sM_0 rfl rfl rfl ⟨Nat.le_of_ble_eq_true rfl, Nat.le_of_ble_eq_true rfl⟩ (Nat.le_of_ble_eq_true rfl) (fun q h => tX12_takesSet a1 S q h) dX12_fewest_2 (fun v1 S2 => ?_)
  refine ok_if_ne_ite 11 hc dX12_fewest_5 (by decide) (fun h3 => ?_) (fun h3 => ?_)
  · refine ok_aload_n 0 hc dX12_fewest_11 rfl rfl ?_
    refine ok_callVu (As := []) (st := []) (fun n0 => [.ref (n0 + 0)]) hc VS_X12_286 sM_0 rfl rfl rfl ⟨Nat.le_of_ble_eq_true rfl, Nat.le_of_ble_eq_true rfl⟩ (Nat.le_of_ble_eq_true rfl) (fun q h => tX12_findFewest S2 q h) dX12_fewest_12 (fun _ S4 => ?_)
    refine ok_aload_n 0 hc dX12_fewest_15 rfl rfl ?_
    refine ok_getr 19 hc FS_X12_73 rfl sM_0 rfl dX12_fewest_16 ?_
    refine ok_iconst (v := 1) hc dX12_fewest_19 (by decide) ?_
    refine ok_aload_n 0 hc dX12_fewest_20 rfl rfl ?_
    refine ok_geti hc FS_X12_277 rfl sM_0 dX12_fewest_21 ?_
    refine ok_ishl hc dX12_fewest_24 ?_
    refine ok_iconst (v := 1) hc dX12_fewest_25 (by decide) ?_
    refine ok_isub hc dX12_fewest_26 ?_
    refine ok_iald hc sM_19 dX12_fewest_27 (fun h5 => ?_)
    refine ok_lti (fun v6 => ?_)
    refine ok_istore_n [(2, .int v6), (0, rv Γ 0), (1, .int a1)] hc dX12_fewest_28 rfl (Nat.le_of_ble_eq_true rfl) rfl ?_
    refine ok_iload_n 0 hc dX12_fewest_29 rfl rfl ?_
    refine ok_bipush (v := 8) hc dX12_fewest_30 (by decide) ?_
    refine ok_icmp_le_ite 39 hc dX12_fewest_32 (by decide) (fun h7 => ?_) (fun h7 => ?_)
    · refine ok_iload_n 0 hc dX12_fewest_39 rfl rfl ?_
      exact ok_iret hc rfl dX12_fewest_40
    · refine ok_iconst (v := (-1)) hc dX12_fewest_35 (by decide) ?_
      refine ok_goto 40 hc dX12_fewest_36 (by decide) ?_
      exact ok_iret hc rfl dX12_fewest_40
  · refine ok_bipush (v := (-2)) hc dX12_fewest_8 (by decide) ?_
    exact ok_iret hc rfl dX12_fewest_10
def fX12_isWord (a0 : Int32) (a1 : Int32) (a2 : Int32) (S : St) : Option (Int32 × St) :=
  bnd (fX12_in a0.toInt64 1 8 S) (fun v1 S2 => if v1 = 0 then (some (0, S2)) else (bnd (fX12_in a1.toInt64 0 a0.toInt64 S2) (fun v4 S5 => if v4 = 0 then (some (0, S5)) else (bnd (fX12_in a2.toInt64 0 100 S5) (fun v7 S8 => if v7 = 0 then (some (0, S8)) else (some (1, S8)))))))
set_option maxRecDepth 100000 in
set_option maxHeartbeats 4000000 in
theorem tX12_isWord (a0 : Int32) (a1 : Int32) (a2 : Int32) (S : St) (q : Int32 × St) (h : fX12_isWord a0 a1 a2 S = some q) : MT vI wM mX12_isWord (fun n0 => [.int a0, .int a1, .int a2]) S q := by
  refine mt_of (show plainFor yX12_isWord = true from by decide) (fun _ => Nat.le_of_ble_eq_true rfl) ?_
  intro Γ hc _
  rw [← h]
  show Ok Γ wM 0 [(0, .int a0), (1, .int a1), (2, .int a2)] [] S _
  unfold fX12_isWord
  refine ok_iload_n 0 hc dX12_isWord_0 rfl rfl ?_
  refine ok_i2l hc dX12_isWord_1 ?_
  refine ok_lconst (v := 1) hc dX12_isWord_2 (by decide) ?_
  refine ok_ldc2 hc dX12_isWord_3 W_1476 ?_
  refine ok_callSi (As := [.long a0.toInt64, .long 1, .long 8]) (st := []) (fun n0 => [.long a0.toInt64, .long 1, .long 8]) hc SS_X12_152 rfl rfl rfl ⟨Nat.le_of_ble_eq_true rfl, Nat.le_of_ble_eq_true rfl⟩ (Nat.le_of_ble_eq_true rfl) (fun q h => tX12_in a0.toInt64 1 8 S q h) dX12_isWord_6 (fun v1 S2 => ?_)
  refine ok_if_eq_ite 39 hc dX12_isWord_9 (by decide) (fun h3 => ?_) (fun h3 => ?_)
  · refine ok_iconst (v := 0) hc dX12_isWord_39 (by decide) ?_
    exact ok_zretK hc rfl (by decide) dX12_isWord_40
  · refine ok_iload_n 1 hc dX12_isWord_12 rfl rfl ?_
    refine ok_i2l hc dX12_isWord_13 ?_
    refine ok_lconst (v := 0) hc dX12_isWord_14 (by decide) ?_
    refine ok_iload_n 0 hc dX12_isWord_15 rfl rfl ?_
    refine ok_i2l hc dX12_isWord_16 ?_
    refine ok_callSi (As := [.long a1.toInt64, .long 0, .long a0.toInt64]) (st := []) (fun n0 => [.long a1.toInt64, .long 0, .long a0.toInt64]) hc SS_X12_152 rfl rfl rfl ⟨Nat.le_of_ble_eq_true rfl, Nat.le_of_ble_eq_true rfl⟩ (Nat.le_of_ble_eq_true rfl) (fun q h => tX12_in a1.toInt64 0 a0.toInt64 S2 q h) dX12_isWord_17 (fun v4 S5 => ?_)
    refine ok_if_eq_ite 39 hc dX12_isWord_20 (by decide) (fun h6 => ?_) (fun h6 => ?_)
    · refine ok_iconst (v := 0) hc dX12_isWord_39 (by decide) ?_
      exact ok_zretK hc rfl (by decide) dX12_isWord_40
    · refine ok_iload_n 2 hc dX12_isWord_23 rfl rfl ?_
      refine ok_i2l hc dX12_isWord_24 ?_
      refine ok_lconst (v := 0) hc dX12_isWord_25 (by decide) ?_
      refine ok_ldc2 hc dX12_isWord_26 W_1425 ?_
      refine ok_callSi (As := [.long a2.toInt64, .long 0, .long 100]) (st := []) (fun n0 => [.long a2.toInt64, .long 0, .long 100]) hc SS_X12_152 rfl rfl rfl ⟨Nat.le_of_ble_eq_true rfl, Nat.le_of_ble_eq_true rfl⟩ (Nat.le_of_ble_eq_true rfl) (fun q h => tX12_in a2.toInt64 0 100 S5 q h) dX12_isWord_29 (fun v7 S8 => ?_)
      refine ok_if_eq_ite 39 hc dX12_isWord_32 (by decide) (fun h9 => ?_) (fun h9 => ?_)
      · refine ok_iconst (v := 0) hc dX12_isWord_39 (by decide) ?_
        exact ok_zretK hc rfl (by decide) dX12_isWord_40
      · refine ok_iconst (v := 1) hc dX12_isWord_35 (by decide) ?_
        refine ok_goto 40 hc dX12_isWord_36 (by decide) ?_
        exact ok_zretK hc rfl (by decide) dX12_isWord_40
def fX12_over_L5_st (a0 : Int32) (a1 : Int32) (rec : Int64 → Int32 → St → Option (Int64 × St)) (a2 : Int64) (a4 : Int32) (S : St) : Option (Int64 × St) :=
  if a1 ≤ a4 then (some (a2, S)) else (if ¬ ((a4 + 1).toInt64) = 0 then (lt ((a2 * ((a0 - a4).toInt64)) / ((a4 + 1).toInt64)) (fun (v3 : Int64) => rec v3 (a4 + 1) S)) else none)
def fX12_over_L5 (a0 : Int32) (a1 : Int32) : Nat → Int64 → Int32 → St → Option (Int64 × St)
  | 0 => fun _ _ _ => none
  | n + 1 => fun a2 a4 S => fX12_over_L5_st a0 a1 (fX12_over_L5 a0 a1 n) a2 a4 S
def fX12_over (a0 : Int32) (a1 : Int32) (S : St) : Option (Int64 × St) :=
  fX12_over_L5 a0 a1 FU 1 0 S
set_option maxRecDepth 100000 in
set_option maxHeartbeats 4000000 in
theorem tX12_over_L5 {Γ : Cx Int64} (hc : Cok Γ wM vL mX12_over) (a0 : Int32) (a1 : Int32) : ∀ (n : Nat) (a2 : Int64) (a4 : Int32) (S : St), Ok Γ wM 5 [(0, .int a0), (1, .int a1), (2, .long a2), (4, .int a4)] [] S (fX12_over_L5 a0 a1 n a2 a4 S) := by
  intro n
  induction n with
  | zero =>
    intro a2 a4 S
    exact ok_none
  | succ n ih =>
    intro a2 a4 S
    show Ok Γ wM 5 [(0, .int a0), (1, .int a1), (2, .long a2), (4, .int a4)] [] S (fX12_over_L5_st a0 a1 (fX12_over_L5 a0 a1 n) a2 a4 S)
    unfold fX12_over_L5_st
    refine ok_iload 3 hc dX12_over_5 rfl ?_
    refine ok_iload_n 1 hc dX12_over_7 rfl rfl ?_
    refine ok_icmp_ge_ite 31 hc dX12_over_8 (by decide) (fun h1 => ?_) (fun h1 => ?_)
    · refine ok_lload_n 2 hc dX12_over_31 rfl rfl ?_
      exact ok_lret hc rfl dX12_over_32
    · refine ok_lload_n 2 hc dX12_over_11 rfl rfl ?_
      refine ok_iload_n 0 hc dX12_over_12 rfl rfl ?_
      refine ok_iload 3 hc dX12_over_13 rfl ?_
      refine ok_isub hc dX12_over_15 ?_
      refine ok_i2l hc dX12_over_16 ?_
      refine ok_lmul hc dX12_over_17 ?_
      refine ok_iload 3 hc dX12_over_18 rfl ?_
      refine ok_iconst (v := 1) hc dX12_over_20 (by decide) ?_
      refine ok_iadd hc dX12_over_21 ?_
      refine ok_i2l hc dX12_over_22 ?_
      refine ok_ldiv hc dX12_over_23 (fun h2 => ?_)
      refine ok_ltl (fun v3 => ?_)
      refine ok_lstore_n [(2, .long v3), (0, .int a0), (1, .int a1), (4, .int a4)] hc dX12_over_24 rfl (Nat.le_of_ble_eq_true rfl) rfl ?_
      refine ok_iinc (v := 1) 3 [(4, .int (a4 + 1)), (2, .long v3), (0, .int a0), (1, .int a1)] hc dX12_over_25 rfl (by decide) (Nat.le_of_ble_eq_true rfl) rfl ?_
      refine ok_goto 5 hc dX12_over_28 (by decide) ?_
      refine ok_sub [2, 3, 1, 0] rfl ?_
      exact ih _ _ _
set_option maxRecDepth 100000 in
set_option maxHeartbeats 4000000 in
theorem tX12_over (a0 : Int32) (a1 : Int32) (S : St) (q : Int64 × St) (h : fX12_over a0 a1 S = some q) : MT vL wM mX12_over (fun n0 => [.int a0, .int a1]) S q := by
  refine mt_of (show plainFor yX12_over = true from by decide) (fun _ => Nat.le_of_ble_eq_true rfl) ?_
  intro Γ hc _
  rw [← h]
  show Ok Γ wM 0 [(0, .int a0), (1, .int a1)] [] S _
  unfold fX12_over
  refine ok_lconst (v := 1) hc dX12_over_0 (by decide) ?_
  refine ok_lstore_n [(2, .long 1), (0, .int a0), (1, .int a1)] hc dX12_over_1 rfl (Nat.le_of_ble_eq_true rfl) rfl ?_
  refine ok_iconst (v := 0) hc dX12_over_2 (by decide) ?_
  refine ok_istore [(4, .int 0), (2, .long 1), (0, .int a0), (1, .int a1)] hc dX12_over_3 (Nat.le_of_ble_eq_true rfl) rfl ?_
  refine ok_sub [2, 3, 1, 0] rfl ?_
  refine tX12_over_L5 hc _ _   FU _ _ _
def fX12_raised_L5_st (a0 : Int64) (a2 : Int32) (rec : Int64 → Int32 → St → Option (Int64 × St)) (a3 : Int64) (a5 : Int32) (S : St) : Option (Int64 × St) :=
  if a2 ≤ a5 then (some (a3, S)) else (lt (a3 * a0) (fun (v2 : Int64) => rec v2 (a5 + 1) S))
def fX12_raised_L5 (a0 : Int64) (a2 : Int32) : Nat → Int64 → Int32 → St → Option (Int64 × St)
  | 0 => fun _ _ _ => none
  | n + 1 => fun a3 a5 S => fX12_raised_L5_st a0 a2 (fX12_raised_L5 a0 a2 n) a3 a5 S
def fX12_raised (a0 : Int64) (a2 : Int32) (S : St) : Option (Int64 × St) :=
  fX12_raised_L5 a0 a2 FU 1 0 S
set_option maxRecDepth 100000 in
set_option maxHeartbeats 4000000 in
theorem tX12_raised_L5 {Γ : Cx Int64} (hc : Cok Γ wM vL mX12_raised) (a0 : Int64) (a2 : Int32) : ∀ (n : Nat) (a3 : Int64) (a5 : Int32) (S : St), Ok Γ wM 5 [(0, .long a0), (2, .int a2), (3, .long a3), (5, .int a5)] [] S (fX12_raised_L5 a0 a2 n a3 a5 S) := by
  intro n
  induction n with
  | zero =>
    intro a3 a5 S
    exact ok_none
  | succ n ih =>
    intro a3 a5 S
    show Ok Γ wM 5 [(0, .long a0), (2, .int a2), (3, .long a3), (5, .int a5)] [] S (fX12_raised_L5_st a0 a2 (fX12_raised_L5 a0 a2 n) a3 a5 S)
    unfold fX12_raised_L5_st
    refine ok_iload 3 hc dX12_raised_5 rfl ?_
    refine ok_iload_n 1 hc dX12_raised_7 rfl rfl ?_
    refine ok_icmp_ge_ite 21 hc dX12_raised_8 (by decide) (fun h1 => ?_) (fun h1 => ?_)
    · refine ok_lload_n 2 hc dX12_raised_21 rfl rfl ?_
      exact ok_lret hc rfl dX12_raised_22
    · refine ok_lload_n 2 hc dX12_raised_11 rfl rfl ?_
      refine ok_lload_n 0 hc dX12_raised_12 rfl rfl ?_
      refine ok_lmul hc dX12_raised_13 ?_
      refine ok_ltl (fun v2 => ?_)
      refine ok_lstore_n [(3, .long v2), (0, .long a0), (2, .int a2), (5, .int a5)] hc dX12_raised_14 rfl (Nat.le_of_ble_eq_true rfl) rfl ?_
      refine ok_iinc (v := 1) 3 [(5, .int (a5 + 1)), (3, .long v2), (0, .long a0), (2, .int a2)] hc dX12_raised_15 rfl (by decide) (Nat.le_of_ble_eq_true rfl) rfl ?_
      refine ok_goto 5 hc dX12_raised_18 (by decide) ?_
      refine ok_sub [2, 3, 1, 0] rfl ?_
      exact ih _ _ _
set_option maxRecDepth 100000 in
set_option maxHeartbeats 4000000 in
theorem tX12_raised (a0 : Int64) (a2 : Int32) (S : St) (q : Int64 × St) (h : fX12_raised a0 a2 S = some q) : MT vL wM mX12_raised (fun n0 => [.long a0, .int a2]) S q := by
  refine mt_of (show plainFor yX12_raised = true from by decide) (fun _ => Nat.le_of_ble_eq_true rfl) ?_
  intro Γ hc _
  rw [← h]
  show Ok Γ wM 0 [(0, .long a0), (2, .int a2)] [] S _
  unfold fX12_raised
  refine ok_lconst (v := 1) hc dX12_raised_0 (by decide) ?_
  refine ok_lstore_n [(3, .long 1), (0, .long a0), (2, .int a2)] hc dX12_raised_1 rfl (Nat.le_of_ble_eq_true rfl) rfl ?_
  refine ok_iconst (v := 0) hc dX12_raised_2 (by decide) ?_
  refine ok_istore [(5, .int 0), (3, .long 1), (0, .long a0), (2, .int a2)] hc dX12_raised_3 (Nat.le_of_ble_eq_true rfl) rfl ?_
  refine ok_sub [2, 3, 1, 0] rfl ?_
  refine tX12_raised_L5 hc _ _   FU _ _ _
def fX12_millionths_L6_st (kx0 : Int64 → St → Option (Int32 × St)) (a0 : Int32) (a2 : Int32) (a3 : Int32) (rec : Int64 → Int32 → St → Option (Int32 × St)) (a4 : Int64) (a6 : Int32) (S : St) : Option (Int32 × St) :=
  if a2 < a6 then (kx0 a4 S) else (bnd (fX12_over a0 a6 S) (fun v2 S3 => bnd (fX12_raised a3.toInt64 a6 S3) (fun v4 S5 => bnd (fX12_raised ((100 - a3).toInt64) (a0 - a6) S5) (fun v6 S7 => lt (a4 + ((v2 * v4) * v6)) (fun (v8 : Int64) => rec v8 (a6 + 1) S7)))))
def fX12_millionths_L6 (kx0 : Int64 → St → Option (Int32 × St)) (a0 : Int32) (a2 : Int32) (a3 : Int32) : Nat → Int64 → Int32 → St → Option (Int32 × St)
  | 0 => fun _ _ _ => none
  | n + 1 => fun a4 a6 S => fX12_millionths_L6_st kx0 a0 a2 a3 (fX12_millionths_L6 kx0 a0 a2 a3 n) a4 a6 S
def fX12_millionths (a0 : Int32) (a1 : Int32) (a2 : Int32) (a3 : Int32) (S : St) : Option (Int32 × St) :=
  fX12_millionths_L6 (fun (v1 : Int64) (S2 : St) => jn (fun (v3 : Int64) (S4 : St) => some (v3.toInt32, S4)) (fun k5 => if 3 ≤ a0 then (bnd (fX12_raised 100 (a0 - 3) S2) (fun v7 S8 => if ¬ v7 = 0 then (k5 (v1 / v7) S8) else none)) else (bnd (fX12_raised 100 (3 - a0) S2) (fun v10 S11 => k5 (v1 * v10) S11)))) a0 a2 a3 FU 0 a1 S
set_option maxRecDepth 100000 in
set_option maxHeartbeats 4000000 in
theorem tX12_millionths_L6 {Γ : Cx Int32} (hc : Cok Γ wM vI mX12_millionths) (kx0 : Int64 → St → Option (Int32 × St)) (a0 : Int32) (a2 : Int32) (a3 : Int32) (hx0 : ∀ (a4 : Int64) (S : St), Ok Γ wM 50 [(0, .int a0), (4, .long a4)] [] S (kx0 a4 S)) : ∀ (n : Nat) (a4 : Int64) (a6 : Int32) (S : St), Ok Γ wM 6 [(0, .int a0), (2, .int a2), (3, .int a3), (4, .long a4), (6, .int a6)] [] S (fX12_millionths_L6 kx0 a0 a2 a3 n a4 a6 S) := by
  intro n
  induction n with
  | zero =>
    intro a4 a6 S
    exact ok_none
  | succ n ih =>
    intro a4 a6 S
    show Ok Γ wM 6 [(0, .int a0), (2, .int a2), (3, .int a3), (4, .long a4), (6, .int a6)] [] S (fX12_millionths_L6_st kx0 a0 a2 a3 (fX12_millionths_L6 kx0 a0 a2 a3 n) a4 a6 S)
    unfold fX12_millionths_L6_st
    refine ok_iload 4 hc dX12_millionths_6 rfl ?_
    refine ok_iload_n 1 hc dX12_millionths_8 rfl rfl ?_
    refine ok_icmp_gt_ite 50 hc dX12_millionths_9 (by decide) (fun h1 => ?_) (fun h1 => ?_)
    · refine ok_sub [0, 3] rfl ?_
      exact hx0 _ _
    · refine ok_lload 3 hc dX12_millionths_12 rfl ?_
      refine ok_iload_n 0 hc dX12_millionths_14 rfl rfl ?_
      refine ok_iload 4 hc dX12_millionths_15 rfl ?_
      refine ok_callSl (As := [.int a0, .int a6]) (st := [.long a4]) (fun n0 => [.int a0, .int a6]) hc SS_X12_298 rfl rfl rfl ⟨Nat.le_of_ble_eq_true rfl, Nat.le_of_ble_eq_true rfl⟩ (Nat.le_of_ble_eq_true rfl) (fun q h => tX12_over a0 a6 S q h) dX12_millionths_17 (fun v2 S3 => ?_)
      refine ok_iload_n 2 hc dX12_millionths_20 rfl rfl ?_
      refine ok_i2l hc dX12_millionths_21 ?_
      refine ok_iload 4 hc dX12_millionths_22 rfl ?_
      refine ok_callSl (As := [.long a3.toInt64, .int a6]) (st := [.long v2, .long a4]) (fun n0 => [.long a3.toInt64, .int a6]) hc SS_X12_301 rfl rfl rfl ⟨Nat.le_of_ble_eq_true rfl, Nat.le_of_ble_eq_true rfl⟩ (Nat.le_of_ble_eq_true rfl) (fun q h => tX12_raised a3.toInt64 a6 S3 q h) dX12_millionths_24 (fun v4 S5 => ?_)
      refine ok_lmul hc dX12_millionths_27 ?_
      refine ok_bipush (v := 100) hc dX12_millionths_28 (by decide) ?_
      refine ok_iload_n 2 hc dX12_millionths_30 rfl rfl ?_
      refine ok_isub hc dX12_millionths_31 ?_
      refine ok_i2l hc dX12_millionths_32 ?_
      refine ok_iload_n 0 hc dX12_millionths_33 rfl rfl ?_
      refine ok_iload 4 hc dX12_millionths_34 rfl ?_
      refine ok_isub hc dX12_millionths_36 ?_
      refine ok_callSl (As := [.long ((100 - a3).toInt64), .int (a0 - a6)]) (st := [.long (v2 * v4), .long a4]) (fun n0 => [.long ((100 - a3).toInt64), .int (a0 - a6)]) hc SS_X12_301 rfl rfl rfl ⟨Nat.le_of_ble_eq_true rfl, Nat.le_of_ble_eq_true rfl⟩ (Nat.le_of_ble_eq_true rfl) (fun q h => tX12_raised ((100 - a3).toInt64) (a0 - a6) S5 q h) dX12_millionths_37 (fun v6 S7 => ?_)
      refine ok_lmul hc dX12_millionths_40 ?_
      refine ok_ladd hc dX12_millionths_41 ?_
      refine ok_ltl (fun v8 => ?_)
      refine ok_lstore [(4, .long v8), (0, .int a0), (2, .int a2), (3, .int a3), (6, .int a6)] hc dX12_millionths_42 (Nat.le_of_ble_eq_true rfl) rfl ?_
      refine ok_iinc (v := 1) 4 [(6, .int (a6 + 1)), (4, .long v8), (0, .int a0), (2, .int a2), (3, .int a3)] hc dX12_millionths_44 rfl (by decide) (Nat.le_of_ble_eq_true rfl) rfl ?_
      refine ok_goto 6 hc dX12_millionths_47 (by decide) ?_
      refine ok_sub [2, 3, 4, 1, 0] rfl ?_
      exact ih _ _ _
set_option maxRecDepth 100000 in
set_option maxHeartbeats 4000000 in
theorem tX12_millionths (a0 : Int32) (a1 : Int32) (a2 : Int32) (a3 : Int32) (S : St) (q : Int32 × St) (h : fX12_millionths a0 a1 a2 a3 S = some q) : MT vI wM mX12_millionths (fun n0 => [.int a0, .int a1, .int a2, .int a3]) S q := by
  refine mt_of (show plainFor yX12_millionths = true from by decide) (fun _ => Nat.le_of_ble_eq_true rfl) ?_
  intro Γ hc _
  rw [← h]
  show Ok Γ wM 0 [(0, .int a0), (1, .int a1), (2, .int a2), (3, .int a3)] [] S _
  unfold fX12_millionths
  refine ok_lconst (v := 0) hc dX12_millionths_0 (by decide) ?_
  refine ok_lstore [(4, .long 0), (0, .int a0), (1, .int a1), (2, .int a2), (3, .int a3)] hc dX12_millionths_1 (Nat.le_of_ble_eq_true rfl) rfl ?_
  refine ok_iload_n 2 hc dX12_millionths_3 rfl rfl ?_
  refine ok_istore [(6, .int a1), (4, .long 0), (0, .int a0), (1, .int a1), (2, .int a2), (3, .int a3)] hc dX12_millionths_4 (Nat.le_of_ble_eq_true rfl) rfl ?_
  refine ok_sub [2, 4, 5, 1, 0] rfl ?_
  refine tX12_millionths_L6 hc _ _ _ _  ?_ FU _ _ _
  · intro v1 S2
    refine ok_iload_n 0 hc dX12_millionths_50 rfl rfl ?_
    refine ok_iconst (v := 3) hc dX12_millionths_51 (by decide) ?_
    refine ok_jn (fun g => ∀ (v3 : Int64) (S4 : St), Ok Γ wM 82 [] [.long v3] S4 (g v3 S4)) ?_ (fun k5 hk5 => ?_)
    · intro v3 S4
      refine ok_l2i hc dX12_millionths_82 ?_
      exact ok_iret hc rfl dX12_millionths_83
    · refine ok_icmp_ge_ite 70 hc dX12_millionths_52 (by decide) (fun h6 => ?_) (fun h6 => ?_)
      · refine ok_lload 1 hc dX12_millionths_70 rfl ?_
        refine ok_ldc2 hc dX12_millionths_72 W_1425 ?_
        refine ok_iload_n 0 hc dX12_millionths_75 rfl rfl ?_
        refine ok_iconst (v := 3) hc dX12_millionths_76 (by decide) ?_
        refine ok_isub hc dX12_millionths_77 ?_
        refine ok_callSl (As := [.long 100, .int (a0 - 3)]) (st := [.long v1]) (fun n0 => [.long 100, .int (a0 - 3)]) hc SS_X12_301 rfl rfl rfl ⟨Nat.le_of_ble_eq_true rfl, Nat.le_of_ble_eq_true rfl⟩ (Nat.le_of_ble_eq_true rfl) (fun q h => tX12_raised 100 (a0 - 3) S2 q h) dX12_millionths_78 (fun v7 S8 => ?_)
        refine ok_ldiv hc dX12_millionths_81 (fun h9 => ?_)
        refine ok_sub [] rfl ?_
        exact hk5 _ _
      · refine ok_lload 1 hc dX12_millionths_55 rfl ?_
        refine ok_ldc2 hc dX12_millionths_57 W_1425 ?_
        refine ok_iconst (v := 3) hc dX12_millionths_60 (by decide) ?_
        refine ok_iload_n 0 hc dX12_millionths_61 rfl rfl ?_
        refine ok_isub hc dX12_millionths_62 ?_
        refine ok_callSl (As := [.long 100, .int (3 - a0)]) (st := [.long v1]) (fun n0 => [.long 100, .int (3 - a0)]) hc SS_X12_301 rfl rfl rfl ⟨Nat.le_of_ble_eq_true rfl, Nat.le_of_ble_eq_true rfl⟩ (Nat.le_of_ble_eq_true rfl) (fun q h => tX12_raised 100 (3 - a0) S2 q h) dX12_millionths_63 (fun v10 S11 => ?_)
        refine ok_lmul hc dX12_millionths_66 ?_
        refine ok_goto 82 hc dX12_millionths_67 (by decide) ?_
        refine ok_sub [] rfl ?_
        exact hk5 _ _
def fX12_flow (a1 : Int32) (a2 : Int32) (a3 : Int32) (a4 : Int32) (a5 : Int32) (S : St) : Option (Int32 × St) :=
  bnd (fX12_isWord a1 a2 a3 S) (fun v1 S2 => if v1 = 0 then (some ((-2), S2)) else (bnd (fX12_in a4.toInt64 1 8 S2) (fun v4 S5 => if v4 = 0 then (some ((-2), S5)) else (bnd (fX12_in a5.toInt64 0 a4.toInt64 S5) (fun v7 S8 => if v7 = 0 then (some ((-2), S8)) else (bnd (fX12_millionths a1 0 a2 a3 S8) (fun v10 S11 => bnd (fX12_millionths a4 a5 a4 (v10 / 10000) S11) (fun v12 S13 => some (v12, S13)))))))))
set_option maxRecDepth 100000 in
set_option maxHeartbeats 4000000 in
theorem tX12_flow (a1 : Int32) (a2 : Int32) (a3 : Int32) (a4 : Int32) (a5 : Int32) (S : St) (q : Int32 × St) (h : fX12_flow a1 a2 a3 a4 a5 S = some q) : MT vI wM mX12_flow (fun n0 => [.ref (n0 + 0), .int a1, .int a2, .int a3, .int a4, .int a5]) S q := by
  refine mt_of (show plainFor yX12_flow = true from by decide) (fun _ => Nat.le_of_ble_eq_true rfl) ?_
  intro Γ hc _
  rw [← h]
  show Ok Γ wM 0 [(0, rv Γ 0), (1, .int a1), (2, .int a2), (3, .int a3), (4, .int a4), (5, .int a5)] [] S _
  unfold fX12_flow
  refine ok_iload_n 1 hc dX12_flow_0 rfl rfl ?_
  refine ok_iload_n 2 hc dX12_flow_1 rfl rfl ?_
  refine ok_iload_n 3 hc dX12_flow_2 rfl rfl ?_
  refine ok_callSi (As := [.int a1, .int a2, .int a3]) (st := []) (fun n0 => [.int a1, .int a2, .int a3]) hc SS_X12_305 rfl rfl rfl ⟨Nat.le_of_ble_eq_true rfl, Nat.le_of_ble_eq_true rfl⟩ (Nat.le_of_ble_eq_true rfl) (fun q h => tX12_isWord a1 a2 a3 S q h) dX12_flow_3 (fun v1 S2 => ?_)
  refine ok_if_eq_ite 35 hc dX12_flow_6 (by decide) (fun h3 => ?_) (fun h3 => ?_)
  · refine ok_bipush (v := (-2)) hc dX12_flow_35 (by decide) ?_
    exact ok_iret hc rfl dX12_flow_37
  · refine ok_iload 4 hc dX12_flow_9 rfl ?_
    refine ok_i2l hc dX12_flow_11 ?_
    refine ok_lconst (v := 1) hc dX12_flow_12 (by decide) ?_
    refine ok_ldc2 hc dX12_flow_13 W_1476 ?_
    refine ok_callSi (As := [.long a4.toInt64, .long 1, .long 8]) (st := []) (fun n0 => [.long a4.toInt64, .long 1, .long 8]) hc SS_X12_152 rfl rfl rfl ⟨Nat.le_of_ble_eq_true rfl, Nat.le_of_ble_eq_true rfl⟩ (Nat.le_of_ble_eq_true rfl) (fun q h => tX12_in a4.toInt64 1 8 S2 q h) dX12_flow_16 (fun v4 S5 => ?_)
    refine ok_if_eq_ite 35 hc dX12_flow_19 (by decide) (fun h6 => ?_) (fun h6 => ?_)
    · refine ok_bipush (v := (-2)) hc dX12_flow_35 (by decide) ?_
      exact ok_iret hc rfl dX12_flow_37
    · refine ok_iload 5 hc dX12_flow_22 rfl ?_
      refine ok_i2l hc dX12_flow_24 ?_
      refine ok_lconst (v := 0) hc dX12_flow_25 (by decide) ?_
      refine ok_iload 4 hc dX12_flow_26 rfl ?_
      refine ok_i2l hc dX12_flow_28 ?_
      refine ok_callSi (As := [.long a5.toInt64, .long 0, .long a4.toInt64]) (st := []) (fun n0 => [.long a5.toInt64, .long 0, .long a4.toInt64]) hc SS_X12_152 rfl rfl rfl ⟨Nat.le_of_ble_eq_true rfl, Nat.le_of_ble_eq_true rfl⟩ (Nat.le_of_ble_eq_true rfl) (fun q h => tX12_in a5.toInt64 0 a4.toInt64 S5 q h) dX12_flow_29 (fun v7 S8 => ?_)
      refine ok_if_ne_ite 38 hc dX12_flow_32 (by decide) (fun h9 => ?_) (fun h9 => ?_)
      · refine ok_iload 4 hc dX12_flow_38 rfl ?_
        refine ok_iload 5 hc dX12_flow_40 rfl ?_
        refine ok_iload 4 hc dX12_flow_42 rfl ?_
        refine ok_iload_n 1 hc dX12_flow_44 rfl rfl ?_
        refine ok_iconst (v := 0) hc dX12_flow_45 (by decide) ?_
        refine ok_iload_n 2 hc dX12_flow_46 rfl rfl ?_
        refine ok_iload_n 3 hc dX12_flow_47 rfl rfl ?_
        refine ok_callSi (As := [.int a1, .int 0, .int a2, .int a3]) (st := [.int a4, .int a5, .int a4]) (fun n0 => [.int a1, .int 0, .int a2, .int a3]) hc SS_X12_309 rfl rfl rfl ⟨Nat.le_of_ble_eq_true rfl, Nat.le_of_ble_eq_true rfl⟩ (Nat.le_of_ble_eq_true rfl) (fun q h => tX12_millionths a1 0 a2 a3 S8 q h) dX12_flow_48 (fun v10 S11 => ?_)
        refine ok_sipush (v := 10000) hc dX12_flow_51 (by decide) ?_
        refine ok_idivK hc dX12_flow_54 (by decide) ?_
        refine ok_callSi (As := [.int a4, .int a5, .int a4, .int (v10 / 10000)]) (st := []) (fun n0 => [.int a4, .int a5, .int a4, .int (v10 / 10000)]) hc SS_X12_309 rfl rfl rfl ⟨Nat.le_of_ble_eq_true rfl, Nat.le_of_ble_eq_true rfl⟩ (Nat.le_of_ble_eq_true rfl) (fun q h => tX12_millionths a4 a5 a4 (v10 / 10000) S11 q h) dX12_flow_55 (fun v12 S13 => ?_)
        exact ok_iret hc rfl dX12_flow_58
      · refine ok_bipush (v := (-2)) hc dX12_flow_35 (by decide) ?_
        exact ok_iret hc rfl dX12_flow_37
def fX12_lacks (a1 : Int32) (a2 : Int32) (a3 : Int32) (S : St) : Option (Int32 × St) :=
  if ib a1 6 then (if 0 ≤ (S.1 1 (nt a1)) then (if ib a1 6 then (if (S.1 1 (nt a1)) = a2 then (if ib a1 6 then (bnd (fX12_in a3.toInt64 0 (((S.1 2 (nt a1)) - 1).toInt64) S) (fun v6 S7 => if v6 = 0 then (bnd (fX12_met 2 S7) (fun v9 S10 => some (v9, S10))) else (some (0, S7)))) else none) else (bnd (fX12_met 3 S) (fun v11 S12 => some (v11, S12)))) else none) else (bnd (fX12_met 1 S) (fun v13 S14 => some (v13, S14)))) else none
set_option maxRecDepth 100000 in
set_option maxHeartbeats 4000000 in
theorem tX12_lacks (a1 : Int32) (a2 : Int32) (a3 : Int32) (S : St) (q : Int32 × St) (h : fX12_lacks a1 a2 a3 S = some q) : MT vI wM mX12_lacks (fun n0 => [.ref (n0 + 0), .int a1, .int a2, .int a3]) S q := by
  refine mt_of (show plainFor yX12_lacks = true from by decide) (fun _ => Nat.le_of_ble_eq_true rfl) ?_
  intro Γ hc _
  rw [← h]
  show Ok Γ wM 0 [(0, rv Γ 0), (1, .int a1), (2, .int a2), (3, .int a3)] [] S _
  unfold fX12_lacks
  refine ok_aload_n 0 hc dX12_lacks_0 rfl rfl ?_
  refine ok_getr 1 hc FS_X12_7 rfl sM_0 rfl dX12_lacks_1 ?_
  refine ok_iload_n 1 hc dX12_lacks_4 rfl rfl ?_
  refine ok_iald hc sM_1 dX12_lacks_5 (fun h1 => ?_)
  refine ok_if_ge_ite 15 hc dX12_lacks_6 (by decide) (fun h2 => ?_) (fun h2 => ?_)
  · refine ok_aload_n 0 hc dX12_lacks_15 rfl rfl ?_
    refine ok_getr 1 hc FS_X12_7 rfl sM_0 rfl dX12_lacks_16 ?_
    refine ok_iload_n 1 hc dX12_lacks_19 rfl rfl ?_
    refine ok_iald hc sM_1 dX12_lacks_20 (fun h3 => ?_)
    refine ok_iload_n 2 hc dX12_lacks_21 rfl rfl ?_
    refine ok_icmp_eq_ite 31 hc dX12_lacks_22 (by decide) (fun h4 => ?_) (fun h4 => ?_)
    · refine ok_iload_n 3 hc dX12_lacks_31 rfl rfl ?_
      refine ok_i2l hc dX12_lacks_32 ?_
      refine ok_lconst (v := 0) hc dX12_lacks_33 (by decide) ?_
      refine ok_aload_n 0 hc dX12_lacks_34 rfl rfl ?_
      refine ok_getr 2 hc FS_X12_13 rfl sM_0 rfl dX12_lacks_35 ?_
      refine ok_iload_n 1 hc dX12_lacks_38 rfl rfl ?_
      refine ok_iald hc sM_2 dX12_lacks_39 (fun h5 => ?_)
      refine ok_iconst (v := 1) hc dX12_lacks_40 (by decide) ?_
      refine ok_isub hc dX12_lacks_41 ?_
      refine ok_i2l hc dX12_lacks_42 ?_
      refine ok_callSi (As := [.long a3.toInt64, .long 0, .long (((S.1 2 (nt a1)) - 1).toInt64)]) (st := []) (fun n0 => [.long a3.toInt64, .long 0, .long (((S.1 2 (nt a1)) - 1).toInt64)]) hc SS_X12_152 rfl rfl rfl ⟨Nat.le_of_ble_eq_true rfl, Nat.le_of_ble_eq_true rfl⟩ (Nat.le_of_ble_eq_true rfl) (fun q h => tX12_in a3.toInt64 0 (((S.1 2 (nt a1)) - 1).toInt64) S q h) dX12_lacks_43 (fun v6 S7 => ?_)
      refine ok_if_eq_ite 53 hc dX12_lacks_46 (by decide) (fun h8 => ?_) (fun h8 => ?_)
      · refine ok_aload_n 0 hc dX12_lacks_53 rfl rfl ?_
        refine ok_iconst (v := 2) hc dX12_lacks_54 (by decide) ?_
        refine ok_callVi (As := [.int 2]) (st := []) (fun n0 => [.ref (n0 + 0), .int 2]) hc VS_X12_162 sM_0 rfl rfl rfl ⟨Nat.le_of_ble_eq_true rfl, Nat.le_of_ble_eq_true rfl⟩ (Nat.le_of_ble_eq_true rfl) (fun q h => tX12_met 2 S7 q h) dX12_lacks_55 (fun v9 S10 => ?_)
        exact ok_iret hc rfl dX12_lacks_58
      · refine ok_iconst (v := 0) hc dX12_lacks_49 (by decide) ?_
        refine ok_goto 58 hc dX12_lacks_50 (by decide) ?_
        exact ok_iret hc rfl dX12_lacks_58
    · refine ok_aload_n 0 hc dX12_lacks_25 rfl rfl ?_
      refine ok_iconst (v := 3) hc dX12_lacks_26 (by decide) ?_
      refine ok_callVi (As := [.int 3]) (st := []) (fun n0 => [.ref (n0 + 0), .int 3]) hc VS_X12_162 sM_0 rfl rfl rfl ⟨Nat.le_of_ble_eq_true rfl, Nat.le_of_ble_eq_true rfl⟩ (Nat.le_of_ble_eq_true rfl) (fun q h => tX12_met 3 S q h) dX12_lacks_27 (fun v11 S12 => ?_)
      exact ok_iret hc rfl dX12_lacks_30
  · refine ok_aload_n 0 hc dX12_lacks_9 rfl rfl ?_
    refine ok_iconst (v := 1) hc dX12_lacks_10 (by decide) ?_
    refine ok_callVi (As := [.int 1]) (st := []) (fun n0 => [.ref (n0 + 0), .int 1]) hc VS_X12_162 sM_0 rfl rfl rfl ⟨Nat.le_of_ble_eq_true rfl, Nat.le_of_ble_eq_true rfl⟩ (Nat.le_of_ble_eq_true rfl) (fun q h => tX12_met 1 S q h) dX12_lacks_11 (fun v13 S14 => ?_)
    exact ok_iret hc rfl dX12_lacks_14
def fX12_get (a1 : Int32) (a2 : Int32) (a3 : Int32) (S : St) : Option (Int64 × St) :=
  bnd (fX12_isSheet a1 S) (fun v1 S2 => if v1 = 0 then (some ((-9223372036854775808), S2)) else (bnd (fX12_in a2.toInt64 0 3 S2) (fun v4 S5 => if v4 = 0 then (some ((-9223372036854775808), S5)) else (bnd (fX12_lacks a1 a2 a3 S5) (fun v7 S8 => if v7 = 0 then (if ib ((400 * a1) + a3) 2400 then (some (S8.2 3 (nt ((400 * a1) + a3)), S8)) else none) else (some ((-9223372036854775808), S8)))))))
set_option maxRecDepth 100000 in
set_option maxHeartbeats 4000000 in
theorem tX12_get (a1 : Int32) (a2 : Int32) (a3 : Int32) (S : St) (q : Int64 × St) (h : fX12_get a1 a2 a3 S = some q) : MT vL wM mX12_get (fun n0 => [.ref (n0 + 0), .int a1, .int a2, .int a3]) S q := by
  refine mt_of (show plainFor yX12_get = true from by decide) (fun _ => Nat.le_of_ble_eq_true rfl) ?_
  intro Γ hc _
  rw [← h]
  show Ok Γ wM 0 [(0, rv Γ 0), (1, .int a1), (2, .int a2), (3, .int a3)] [] S _
  unfold fX12_get
  refine ok_iload_n 1 hc dX12_get_0 rfl rfl ?_
  refine ok_callSi (As := [.int a1]) (st := []) (fun n0 => [.int a1]) hc SS_X12_156 rfl rfl rfl ⟨Nat.le_of_ble_eq_true rfl, Nat.le_of_ble_eq_true rfl⟩ (Nat.le_of_ble_eq_true rfl) (fun q h => tX12_isSheet a1 S q h) dX12_get_1 (fun v1 S2 => ?_)
  refine ok_if_eq_ite 29 hc dX12_get_4 (by decide) (fun h3 => ?_) (fun h3 => ?_)
  · refine ok_ldc2 hc dX12_get_29 W_1297 ?_
    exact ok_lret hc rfl dX12_get_32
  · refine ok_iload_n 2 hc dX12_get_7 rfl rfl ?_
    refine ok_i2l hc dX12_get_8 ?_
    refine ok_lconst (v := 0) hc dX12_get_9 (by decide) ?_
    refine ok_ldc2 hc dX12_get_10 W_1273 ?_
    refine ok_callSi (As := [.long a2.toInt64, .long 0, .long 3]) (st := []) (fun n0 => [.long a2.toInt64, .long 0, .long 3]) hc SS_X12_152 rfl rfl rfl ⟨Nat.le_of_ble_eq_true rfl, Nat.le_of_ble_eq_true rfl⟩ (Nat.le_of_ble_eq_true rfl) (fun q h => tX12_in a2.toInt64 0 3 S2 q h) dX12_get_13 (fun v4 S5 => ?_)
    refine ok_if_eq_ite 29 hc dX12_get_16 (by decide) (fun h6 => ?_) (fun h6 => ?_)
    · refine ok_ldc2 hc dX12_get_29 W_1297 ?_
      exact ok_lret hc rfl dX12_get_32
    · refine ok_aload_n 0 hc dX12_get_19 rfl rfl ?_
      refine ok_iload_n 1 hc dX12_get_20 rfl rfl ?_
      refine ok_iload_n 2 hc dX12_get_21 rfl rfl ?_
      refine ok_iload_n 3 hc dX12_get_22 rfl rfl ?_
      refine ok_callVi (As := [.int a1, .int a2, .int a3]) (st := []) (fun n0 => [.ref (n0 + 0), .int a1, .int a2, .int a3]) hc VS_X12_166 sM_0 rfl rfl rfl ⟨Nat.le_of_ble_eq_true rfl, Nat.le_of_ble_eq_true rfl⟩ (Nat.le_of_ble_eq_true rfl) (fun q h => tX12_lacks a1 a2 a3 S5 q h) dX12_get_23 (fun v7 S8 => ?_)
      refine ok_if_eq_ite 33 hc dX12_get_26 (by decide) (fun h9 => ?_) (fun h9 => ?_)
      · refine ok_aload_n 0 hc dX12_get_33 rfl rfl ?_
        refine ok_getr 3 hc FS_X12_16 rfl sM_0 rfl dX12_get_34 ?_
        refine ok_sipush (v := 400) hc dX12_get_37 (by decide) ?_
        refine ok_iload_n 1 hc dX12_get_40 rfl rfl ?_
        refine ok_imul hc dX12_get_41 ?_
        refine ok_iload_n 3 hc dX12_get_42 rfl rfl ?_
        refine ok_iadd hc dX12_get_43 ?_
        refine ok_lald hc sM_3 dX12_get_44 (fun h10 => ?_)
        exact ok_lret hc rfl dX12_get_45
      · refine ok_ldc2 hc dX12_get_29 W_1297 ?_
        exact ok_lret hc rfl dX12_get_32
def fX12_got (a1 : Int32) (a2 : Int32) (S : St) : Option (Int32 × St) :=
  bnd (fX12_isSender a1 S) (fun v1 S2 => if v1 = 0 then (some ((-2), S2)) else (bnd (fX12_isCell a2 S2) (fun v4 S5 => if v4 = 0 then (some ((-2), S5)) else (bnd (fX12_own a1 a2 S5) (fun v7 S8 => some (v7, S8))))))
set_option maxRecDepth 100000 in
set_option maxHeartbeats 4000000 in
theorem tX12_got (a1 : Int32) (a2 : Int32) (S : St) (q : Int32 × St) (h : fX12_got a1 a2 S = some q) : MT vI wM mX12_got (fun n0 => [.ref (n0 + 0), .int a1, .int a2]) S q := by
  refine mt_of (show plainFor yX12_got = true from by decide) (fun _ => Nat.le_of_ble_eq_true rfl) ?_
  intro Γ hc _
  rw [← h]
  show Ok Γ wM 0 [(0, rv Γ 0), (1, .int a1), (2, .int a2)] [] S _
  unfold fX12_got
  refine ok_aload_n 0 hc dX12_got_0 rfl rfl ?_
  refine ok_iload_n 1 hc dX12_got_1 rfl rfl ?_
  refine ok_callVi (As := [.int a1]) (st := []) (fun n0 => [.ref (n0 + 0), .int a1]) hc VS_X12_237 sM_0 rfl rfl rfl ⟨Nat.le_of_ble_eq_true rfl, Nat.le_of_ble_eq_true rfl⟩ (Nat.le_of_ble_eq_true rfl) (fun q h => tX12_isSender a1 S q h) dX12_got_2 (fun v1 S2 => ?_)
  refine ok_if_eq_ite 25 hc dX12_got_5 (by decide) (fun h3 => ?_) (fun h3 => ?_)
  · refine ok_bipush (v := (-2)) hc dX12_got_25 (by decide) ?_
    exact ok_iret hc rfl dX12_got_27
  · refine ok_aload_n 0 hc dX12_got_8 rfl rfl ?_
    refine ok_iload_n 2 hc dX12_got_9 rfl rfl ?_
    refine ok_callVi (As := [.int a2]) (st := []) (fun n0 => [.ref (n0 + 0), .int a2]) hc VS_X12_191 sM_0 rfl rfl rfl ⟨Nat.le_of_ble_eq_true rfl, Nat.le_of_ble_eq_true rfl⟩ (Nat.le_of_ble_eq_true rfl) (fun q h => tX12_isCell a2 S2 q h) dX12_got_10 (fun v4 S5 => ?_)
    refine ok_if_eq_ite 25 hc dX12_got_13 (by decide) (fun h6 => ?_) (fun h6 => ?_)
    · refine ok_bipush (v := (-2)) hc dX12_got_25 (by decide) ?_
      exact ok_iret hc rfl dX12_got_27
    · refine ok_aload_n 0 hc dX12_got_16 rfl rfl ?_
      refine ok_iload_n 1 hc dX12_got_17 rfl rfl ?_
      refine ok_iload_n 2 hc dX12_got_18 rfl rfl ?_
      refine ok_callVi (As := [.int a1, .int a2]) (st := []) (fun n0 => [.ref (n0 + 0), .int a1, .int a2]) hc VS_X12_254 sM_0 rfl rfl rfl ⟨Nat.le_of_ble_eq_true rfl, Nat.le_of_ble_eq_true rfl⟩ (Nat.le_of_ble_eq_true rfl) (fun q h => tX12_own a1 a2 S5 q h) dX12_got_19 (fun v7 S8 => ?_)
      refine ok_goto 27 hc dX12_got_22 (by decide) ?_
      exact ok_iret hc rfl dX12_got_27
def fX12_ground (a1 : Int32) (a2 : Int32) (S : St) : Option (Int32 × St) :=
  bnd (fX12_isCell a1 S) (fun v1 S2 => if v1 = 0 then (some ((-2), S2)) else (bnd (fX12_in a2.toInt64 0 1 S2) (fun v4 S5 => if v4 = 0 then (some ((-2), S5)) else (if a2 = 0 then (bnd (fX12_hillOf a1 S5) (fun v10 S11 => some (v10, S11))) else (bnd (fX12_woodOf a1 S5) (fun v8 S9 => some (v8, S9)))))))
set_option maxRecDepth 100000 in
set_option maxHeartbeats 4000000 in
theorem tX12_ground (a1 : Int32) (a2 : Int32) (S : St) (q : Int32 × St) (h : fX12_ground a1 a2 S = some q) : MT vI wM mX12_ground (fun n0 => [.ref (n0 + 0), .int a1, .int a2]) S q := by
  refine mt_of (show plainFor yX12_ground = true from by decide) (fun _ => Nat.le_of_ble_eq_true rfl) ?_
  intro Γ hc _
  rw [← h]
  show Ok Γ wM 0 [(0, rv Γ 0), (1, .int a1), (2, .int a2)] [] S _
  unfold fX12_ground
  refine ok_aload_n 0 hc dX12_ground_0 rfl rfl ?_
  refine ok_iload_n 1 hc dX12_ground_1 rfl rfl ?_
  refine ok_callVi (As := [.int a1]) (st := []) (fun n0 => [.ref (n0 + 0), .int a1]) hc VS_X12_191 sM_0 rfl rfl rfl ⟨Nat.le_of_ble_eq_true rfl, Nat.le_of_ble_eq_true rfl⟩ (Nat.le_of_ble_eq_true rfl) (fun q h => tX12_isCell a1 S q h) dX12_ground_2 (fun v1 S2 => ?_)
  refine ok_if_eq_ite 18 hc dX12_ground_5 (by decide) (fun h3 => ?_) (fun h3 => ?_)
  · refine ok_bipush (v := (-2)) hc dX12_ground_18 (by decide) ?_
    exact ok_iret hc rfl dX12_ground_20
  · refine ok_iload_n 2 hc dX12_ground_8 rfl rfl ?_
    refine ok_i2l hc dX12_ground_9 ?_
    refine ok_lconst (v := 0) hc dX12_ground_10 (by decide) ?_
    refine ok_lconst (v := 1) hc dX12_ground_11 (by decide) ?_
    refine ok_callSi (As := [.long a2.toInt64, .long 0, .long 1]) (st := []) (fun n0 => [.long a2.toInt64, .long 0, .long 1]) hc SS_X12_152 rfl rfl rfl ⟨Nat.le_of_ble_eq_true rfl, Nat.le_of_ble_eq_true rfl⟩ (Nat.le_of_ble_eq_true rfl) (fun q h => tX12_in a2.toInt64 0 1 S2 q h) dX12_ground_12 (fun v4 S5 => ?_)
    refine ok_if_ne_ite 21 hc dX12_ground_15 (by decide) (fun h6 => ?_) (fun h6 => ?_)
    · refine ok_iload_n 2 hc dX12_ground_21 rfl rfl ?_
      refine ok_if_ne_ite 33 hc dX12_ground_22 (by decide) (fun h7 => ?_) (fun h7 => ?_)
      · refine ok_aload_n 0 hc dX12_ground_33 rfl rfl ?_
        refine ok_iload_n 1 hc dX12_ground_34 rfl rfl ?_
        refine ok_callVi (As := [.int a1]) (st := []) (fun n0 => [.ref (n0 + 0), .int a1]) hc VS_X12_197 sM_0 rfl rfl rfl ⟨Nat.le_of_ble_eq_true rfl, Nat.le_of_ble_eq_true rfl⟩ (Nat.le_of_ble_eq_true rfl) (fun q h => tX12_woodOf a1 S5 q h) dX12_ground_35 (fun v8 S9 => ?_)
        exact ok_iret hc rfl dX12_ground_38
      · refine ok_aload_n 0 hc dX12_ground_25 rfl rfl ?_
        refine ok_iload_n 1 hc dX12_ground_26 rfl rfl ?_
        refine ok_callVi (As := [.int a1]) (st := []) (fun n0 => [.ref (n0 + 0), .int a1]) hc VS_X12_194 sM_0 rfl rfl rfl ⟨Nat.le_of_ble_eq_true rfl, Nat.le_of_ble_eq_true rfl⟩ (Nat.le_of_ble_eq_true rfl) (fun q h => tX12_hillOf a1 S5 q h) dX12_ground_27 (fun v10 S11 => ?_)
        refine ok_goto 38 hc dX12_ground_30 (by decide) ?_
        exact ok_iret hc rfl dX12_ground_38
    · refine ok_bipush (v := (-2)) hc dX12_ground_18 (by decide) ?_
      exact ok_iret hc rfl dX12_ground_20
def fX12_hear_L13_st (a1 : Int32) (rec : Int32 → St → Option (Int32 × St)) (a2 : Int32) (S : St) : Option (Int32 × St) :=
  if (S.1 0 43) ≤ a2 then (some (S.1 0 43, S)) else (if ib a2 8 then (bnd (fX12_gotOf a1 (S.1 34 (nt a2)) 0 S) (fun v3 S4 => if ib a2 8 then lt (wi S4 35 (nt a2) v3) (fun S5 => rec (a2 + 1) S5) else none)) else none)
def fX12_hear_L13 (a1 : Int32) : Nat → Int32 → St → Option (Int32 × St)
  | 0 => fun _ _ => none
  | n + 1 => fun a2 S => fX12_hear_L13_st a1 (fX12_hear_L13 a1 n) a2 S
def fX12_hear (a1 : Int32) (S : St) : Option (Int32 × St) :=
  bnd (fX12_isSender a1 S) (fun v1 S2 => if v1 = 0 then (some ((-2), S2)) else (fX12_hear_L13 a1 FU 0 S2))
set_option maxRecDepth 100000 in
set_option maxHeartbeats 4000000 in
theorem tX12_hear_L13 {Γ : Cx Int32} (hc : Cok Γ wM vI mX12_hear) (a1 : Int32) : ∀ (n : Nat) (a2 : Int32) (S : St), Ok Γ wM 13 [(0, rv Γ 0), (1, .int a1), (2, .int a2)] [] S (fX12_hear_L13 a1 n a2 S) := by
  intro n
  induction n with
  | zero =>
    intro a2 S
    exact ok_none
  | succ n ih =>
    intro a2 S
    show Ok Γ wM 13 [(0, rv Γ 0), (1, .int a1), (2, .int a2)] [] S (fX12_hear_L13_st a1 (fX12_hear_L13 a1 n) a2 S)
    unfold fX12_hear_L13_st
    refine ok_iload_n 2 hc dX12_hear_13 rfl rfl ?_
    refine ok_aload_n 0 hc dX12_hear_14 rfl rfl ?_
    refine ok_geti hc FS_X12_179 rfl sM_0 dX12_hear_15 ?_
    refine ok_icmp_ge_ite 45 hc dX12_hear_18 (by decide) (fun h1 => ?_) (fun h1 => ?_)
    · refine ok_aload_n 0 hc dX12_hear_45 rfl rfl ?_
      refine ok_geti hc FS_X12_179 rfl sM_0 dX12_hear_46 ?_
      exact ok_iret hc rfl dX12_hear_49
    · refine ok_aload_n 0 hc dX12_hear_21 rfl rfl ?_
      refine ok_getr 35 hc FS_X12_121 rfl sM_0 rfl dX12_hear_22 ?_
      refine ok_iload_n 2 hc dX12_hear_25 rfl rfl ?_
      refine ok_aload_n 0 hc dX12_hear_26 rfl rfl ?_
      refine ok_iload_n 1 hc dX12_hear_27 rfl rfl ?_
      refine ok_aload_n 0 hc dX12_hear_28 rfl rfl ?_
      refine ok_getr 34 hc FS_X12_118 rfl sM_0 rfl dX12_hear_29 ?_
      refine ok_iload_n 2 hc dX12_hear_32 rfl rfl ?_
      refine ok_iald hc sM_34 dX12_hear_33 (fun h2 => ?_)
      refine ok_iconst (v := 0) hc dX12_hear_34 (by decide) ?_
      refine ok_callVi (As := [.int a1, .int (S.1 34 (nt a2)), .int 0]) (st := [.int a2, rv Γ 35]) (fun n0 => [.ref (n0 + 0), .int a1, .int (S.1 34 (nt a2)), .int 0]) hc VS_X12_251 sM_0 rfl rfl rfl ⟨Nat.le_of_ble_eq_true rfl, Nat.le_of_ble_eq_true rfl⟩ (Nat.le_of_ble_eq_true rfl) (fun q h => tX12_gotOf a1 (S.1 34 (nt a2)) 0 S q h) dX12_hear_35 (fun v3 S4 => ?_)
      refine ok_iast hc sM_35 dX12_hear_38 (fun h6 => ?_)
      refine ok_ltS (fun S5 => ?_)
      refine ok_iinc (v := 1) 2 [(2, .int (a2 + 1)), (0, rv Γ 0), (1, .int a1)] hc dX12_hear_39 rfl (by decide) (Nat.le_of_ble_eq_true rfl) rfl ?_
      refine ok_goto 13 hc dX12_hear_42 (by decide) ?_
      refine ok_sub [1, 2, 0] rfl ?_
      exact ih _ _
set_option maxRecDepth 100000 in
set_option maxHeartbeats 4000000 in
theorem tX12_hear (a1 : Int32) (S : St) (q : Int32 × St) (h : fX12_hear a1 S = some q) : MT vI wM mX12_hear (fun n0 => [.ref (n0 + 0), .int a1]) S q := by
  refine mt_of (show plainFor yX12_hear = true from by decide) (fun _ => Nat.le_of_ble_eq_true rfl) ?_
  intro Γ hc _
  rw [← h]
  show Ok Γ wM 0 [(0, rv Γ 0), (1, .int a1)] [] S _
  unfold fX12_hear
  refine ok_aload_n 0 hc dX12_hear_0 rfl rfl ?_
  refine ok_iload_n 1 hc dX12_hear_1 rfl rfl ?_
  refine ok_callVi (As := [.int a1]) (st := []) (fun n0 => [.ref (n0 + 0), .int a1]) hc VS_X12_237 sM_0 rfl rfl rfl ⟨Nat.le_of_ble_eq_true rfl, Nat.le_of_ble_eq_true rfl⟩ (Nat.le_of_ble_eq_true rfl) (fun q h => tX12_isSender a1 S q h) dX12_hear_2 (fun v1 S2 => ?_)
  refine ok_if_ne_ite 11 hc dX12_hear_5 (by decide) (fun h3 => ?_) (fun h3 => ?_)
  · refine ok_iconst (v := 0) hc dX12_hear_11 (by decide) ?_
    refine ok_istore_n [(2, .int 0), (0, rv Γ 0), (1, .int a1)] hc dX12_hear_12 rfl (Nat.le_of_ble_eq_true rfl) rfl ?_
    refine ok_sub [1, 2, 0] rfl ?_
    refine tX12_hear_L13 hc _   FU _ _
  · refine ok_bipush (v := (-2)) hc dX12_hear_8 (by decide) ?_
    exact ok_iret hc rfl dX12_hear_10
