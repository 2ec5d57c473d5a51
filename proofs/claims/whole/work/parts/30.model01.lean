def fX12_best_L52_st (kx0 : Int32 → St → Option (Int32 × St)) (a2 : Int32) (a3 : Int32) (a4 : Int32) (a5 : Int32) (rec : Int32 → Int32 → St → Option (Int32 × St)) (a6 : Int32) (a7 : Int32) (S : St) : Option (Int32 × St) :=
  if (S.1 0 22) ≤ a7 then (kx0 a6 S) else (jn (fun (v2 : Int32) => lt (a6 + v2) (fun (v4 : Int32) => rec v4 (a7 + 1) S)) (fun k3 => if ((a5 >>> (a7 &&& 31)) &&& 1) = 1 then (if ib a7 8 then (if ib (S.1 17 (nt a7)) 20 then (k3 (S.1 12 (nt (S.1 17 (nt a7))))) else none) else none) else (k3 0)))
def fX12_best_L52 (kx0 : Int32 → St → Option (Int32 × St)) (a2 : Int32) (a3 : Int32) (a4 : Int32) (a5 : Int32) : Nat → Int32 → Int32 → St → Option (Int32 × St)
  | 0 => fun _ _ _ => none
  | n + 1 => fun a6 a7 S => fX12_best_L52_st kx0 a2 a3 a4 a5 (fX12_best_L52 kx0 a2 a3 a4 a5 n) a6 a7 S
def fX12_best_L35_st (kx0 : Int32 → St → Option (Int32 × St)) (a2 : Int32) (rec : Int32 → Int32 → Int32 → St → Option (Int32 × St)) (a3 : Int32) (a4 : Int32) (a5 : Int32) (S : St) : Option (Int32 × St) :=
  if (1 <<< ((S.1 0 22) &&& 31)) ≤ a5 then (kx0 a3 S) else (fX12_best_L52 (fun (v2 : Int32) (S3 : St) => if ib a5 256 then (jn (fun (v5 : Int32) (v6 : Int32) (S7 : St) => rec v5 v6 (a5 + 1) S7) (fun k8 => if a2 < (S3.1 19 (nt a5)) then (k8 a3 a4 S3) else (jn (fun (S10 : St) => k8 a5 v2 S10) (fun k11 => if a4 < v2 then (k11 S3) else (if v2 = a4 then (bnd (fX12_ones a5 S3) (fun v14 S15 => bnd (fX12_ones a3 S15) (fun v16 S17 => if v16 ≤ v14 then (k8 a3 a4 S17) else (k11 S17)))) else (k8 a3 a4 S3)))))) else none) a2 a3 a4 a5 FU 0 0 S)
def fX12_best_L35 (kx0 : Int32 → St → Option (Int32 × St)) (a2 : Int32) : Nat → Int32 → Int32 → Int32 → St → Option (Int32 × St)
  | 0 => fun _ _ _ _ => none
  | n + 1 => fun a3 a4 a5 S => fX12_best_L35_st kx0 a2 (fX12_best_L35 kx0 a2 n) a3 a4 a5 S
def fX12_best (a1 : Int32) (a2 : Int32) (S : St) : Option (Int32 × St) :=
  bnd (fX12_takesSet a1 S) (fun v1 S2 => if v1 = 0 then (some ((-2), S2)) else (bnd (fX12_in a2.toInt64 1 8 S2) (fun v4 S5 => if v4 = 0 then (some ((-2), S5)) else (bnd (fX12_findFewest S5) (fun _ S7 => fX12_best_L35 (fun (v8 : Int32) (S9 : St) => bnd (fX12_wholeBits v8 S9) (fun v10 S11 => some (v10, S11))) a2 FU 0 0 1 S7)))))
set_option maxRecDepth 100000 in
set_option maxHeartbeats 4000000 in
theorem tX12_best_L52 {Γ : Cx Int32} (hc : Cok Γ wM vI mX12_best) (kx0 : Int32 → St → Option (Int32 × St)) (a2 : Int32) (a3 : Int32) (a4 : Int32) (a5 : Int32) (hx0 : ∀ (a6 : Int32) (S : St), Ok Γ wM 99 [(0, rv Γ 0), (2, .int a2), (3, .int a3), (4, .int a4), (5, .int a5), (6, .int a6)] [] S (kx0 a6 S)) : ∀ (n : Nat) (a6 : Int32) (a7 : Int32) (S : St), Ok Γ wM 52 [(0, rv Γ 0), (2, .int a2), (3, .int a3), (4, .int a4), (5, .int a5), (6, .int a6), (7, .int a7)] [] S (fX12_best_L52 kx0 a2 a3 a4 a5 n a6 a7 S) := by
  intro n
  induction n with
  | zero =>
    intro a6 a7 S
    exact ok_none
  | succ n ih =>
    intro a6 a7 S
    show Ok Γ wM 52 [(0, rv Γ 0), (2, .int a2), (3, .int a3), (4, .int a4), (5, .int a5), (6, .int a6), (7, .int a7)] [] S (fX12_best_L52_st kx0 a2 a3 a4 a5 (fX12_best_L52 kx0 a2 a3 a4 a5 n) a6 a7 S)
    unfold fX12_best_L52_st
    refine ok_iload 6 hc dX12_best_52 rfl ?_
    refine ok_aload_n 0 hc dX12_best_54 rfl rfl ?_
    refine ok_geti hc FS_X12_277 rfl sM_0 dX12_best_55 ?_
    refine ok_icmp_ge_ite 99 hc dX12_best_58 (by decide) (fun h1 => ?_) (fun h1 => ?_)
    · refine ok_sub [0, 1, 2, 3, 4, 5] rfl ?_
      exact hx0 _ _
    · refine ok_iload 5 hc dX12_best_61 rfl ?_
      refine ok_iload 4 hc dX12_best_63 rfl ?_
      refine ok_iload 6 hc dX12_best_65 rfl ?_
      refine ok_ishr hc dX12_best_67 ?_
      refine ok_iconst (v := 1) hc dX12_best_68 (by decide) ?_
      refine ok_iand hc dX12_best_69 ?_
      refine ok_iconst (v := 1) hc dX12_best_70 (by decide) ?_
      refine ok_jn (fun g => ∀ (v2 : Int32), Ok Γ wM 90 [(0, rv Γ 0), (2, .int a2), (3, .int a3), (4, .int a4), (5, .int a5), (7, .int a7)] [.int v2, .int a6] S (g v2)) ?_ (fun k3 hk3 => ?_)
      · intro v2
        refine ok_iadd hc dX12_best_90 ?_
        refine ok_lti (fun v4 => ?_)
        refine ok_istore [(6, .int v4), (0, rv Γ 0), (2, .int a2), (3, .int a3), (4, .int a4), (5, .int a5), (7, .int a7)] hc dX12_best_91 (Nat.le_of_ble_eq_true rfl) rfl ?_
        refine ok_iinc (v := 1) 6 [(7, .int (a7 + 1)), (6, .int v4), (0, rv Γ 0), (2, .int a2), (3, .int a3), (4, .int a4), (5, .int a5)] hc dX12_best_93 rfl (by decide) (Nat.le_of_ble_eq_true rfl) rfl ?_
        refine ok_goto 52 hc dX12_best_96 (by decide) ?_
        refine ok_sub [2, 3, 4, 5, 6, 1, 0] rfl ?_
        exact ih _ _ _
      · refine ok_icmp_ne_ite 89 hc dX12_best_71 (by decide) (fun h5 => ?_) (fun h5 => ?_)
        · refine ok_iconst (v := 0) hc dX12_best_89 (by decide) ?_
          refine ok_sub [0, 1, 2, 3, 4, 6] rfl ?_
          exact hk3 _
        · refine ok_aload_n 0 hc dX12_best_74 rfl rfl ?_
          refine ok_getr 12 hc FS_X12_51 rfl sM_0 rfl dX12_best_75 ?_
          refine ok_aload_n 0 hc dX12_best_78 rfl rfl ?_
          refine ok_getr 17 hc FS_X12_67 rfl sM_0 rfl dX12_best_79 ?_
          refine ok_iload 6 hc dX12_best_82 rfl ?_
          refine ok_iald hc sM_17 dX12_best_84 (fun h6 => ?_)
          refine ok_iald hc sM_12 dX12_best_85 (fun h7 => ?_)
          refine ok_goto 90 hc dX12_best_86 (by decide) ?_
          refine ok_sub [0, 1, 2, 3, 4, 6] rfl ?_
          exact hk3 _
set_option maxRecDepth 100000 in
set_option maxHeartbeats 4000000 in
theorem tX12_best_L35 {Γ : Cx Int32} (hc : Cok Γ wM vI mX12_best) (kx0 : Int32 → St → Option (Int32 × St)) (a2 : Int32) (hx0 : ∀ (a3 : Int32) (S : St), Ok Γ wM 149 [(0, rv Γ 0), (3, .int a3)] [] S (kx0 a3 S)) : ∀ (n : Nat) (a3 : Int32) (a4 : Int32) (a5 : Int32) (S : St), Ok Γ wM 35 [(0, rv Γ 0), (2, .int a2), (3, .int a3), (4, .int a4), (5, .int a5)] [] S (fX12_best_L35 kx0 a2 n a3 a4 a5 S) := by
  intro n
  induction n with
  | zero =>
    intro a3 a4 a5 S
    exact ok_none
  | succ n ih =>
    intro a3 a4 a5 S
    show Ok Γ wM 35 [(0, rv Γ 0), (2, .int a2), (3, .int a3), (4, .int a4), (5, .int a5)] [] S (fX12_best_L35_st kx0 a2 (fX12_best_L35 kx0 a2 n) a3 a4 a5 S)
    unfold fX12_best_L35_st
    refine ok_iload 4 hc dX12_best_35 rfl ?_
    refine ok_iconst (v := 1) hc dX12_best_37 (by decide) ?_
    refine ok_aload_n 0 hc dX12_best_38 rfl rfl ?_
    refine ok_geti hc FS_X12_277 rfl sM_0 dX12_best_39 ?_
    refine ok_ishl hc dX12_best_42 ?_
    refine ok_icmp_ge_ite 149 hc dX12_best_43 (by decide) (fun h1 => ?_) (fun h1 => ?_)
    · refine ok_sub [0, 2] rfl ?_
      exact hx0 _ _
    · refine ok_iconst (v := 0) hc dX12_best_46 (by decide) ?_
      refine ok_istore [(6, .int 0), (0, rv Γ 0), (2, .int a2), (3, .int a3), (4, .int a4), (5, .int a5)] hc dX12_best_47 (Nat.le_of_ble_eq_true rfl) rfl ?_
      refine ok_iconst (v := 0) hc dX12_best_49 (by decide) ?_
      refine ok_istore [(7, .int 0), (6, .int 0), (0, rv Γ 0), (2, .int a2), (3, .int a3), (4, .int a4), (5, .int a5)] hc dX12_best_50 (Nat.le_of_ble_eq_true rfl) rfl ?_
      refine ok_sub [2, 3, 4, 5, 6, 1, 0] rfl ?_
      refine tX12_best_L52 hc _ _ _ _ _  ?_ FU _ _ _
      · intro v2 S3
        refine ok_aload_n 0 hc dX12_best_99 rfl rfl ?_
        refine ok_getr 19 hc FS_X12_73 rfl sM_0 rfl dX12_best_100 ?_
        refine ok_iload 4 hc dX12_best_103 rfl ?_
        refine ok_iald hc sM_19 dX12_best_105 (fun h4 => ?_)
        refine ok_iload_n 1 hc dX12_best_106 rfl rfl ?_
        refine ok_jn (fun g => ∀ (v5 : Int32) (v6 : Int32) (S7 : St), Ok Γ wM 143 [(0, rv Γ 0), (2, .int a2), (3, .int v5), (4, .int v6), (5, .int a5)] [] S7 (g v5 v6 S7)) ?_ (fun k8 hk8 => ?_)
        · intro v5 v6 S7
          refine ok_iinc (v := 1) 4 [(5, .int (a5 + 1)), (0, rv Γ 0), (2, .int a2), (3, .int v5), (4, .int v6)] hc dX12_best_143 rfl (by decide) (Nat.le_of_ble_eq_true rfl) rfl ?_
          refine ok_goto 35 hc dX12_best_146 (by decide) ?_
          refine ok_sub [1, 2, 3, 4, 0] rfl ?_
          exact ih _ _ _ _
        · refine ok_icmp_gt_ite 143 hc dX12_best_107 (by decide) (fun h9 => ?_) (fun h9 => ?_)
          · refine ok_sub [0, 1, 2, 3, 4] rfl ?_
            exact hk8 _ _ _
          · refine ok_iload 5 hc dX12_best_110 rfl ?_
            refine ok_iload 3 hc dX12_best_112 rfl ?_
            refine ok_jn (fun g => ∀ (S10 : St), Ok Γ wM 136 [(0, rv Γ 0), (2, .int a2), (5, .int a5), (6, .int v2)] [] S10 (g S10)) ?_ (fun k11 hk11 => ?_)
            · intro S10
              refine ok_iload 2 hc dX12_best_136 rfl ?_
              refine ok_istore_n [(3, .int a5), (0, rv Γ 0), (2, .int a2), (5, .int a5), (6, .int v2)] hc dX12_best_138 rfl (Nat.le_of_ble_eq_true rfl) rfl ?_
              refine ok_iload 4 hc dX12_best_139 rfl ?_
              refine ok_istore [(4, .int v2), (3, .int a5), (0, rv Γ 0), (2, .int a2), (5, .int a5), (6, .int v2)] hc dX12_best_141 (Nat.le_of_ble_eq_true rfl) rfl ?_
              refine ok_sub [2, 3, 1, 0, 4] rfl ?_
              exact hk8 _ _ _
            · refine ok_icmp_gt_ite 136 hc dX12_best_114 (by decide) (fun h12 => ?_) (fun h12 => ?_)
              · refine ok_sub [0, 1, 4, 5] rfl ?_
                exact hk11 _
              · refine ok_iload 5 hc dX12_best_117 rfl ?_
                refine ok_iload 3 hc dX12_best_119 rfl ?_
                refine ok_icmp_ne_ite 143 hc dX12_best_121 (by decide) (fun h13 => ?_) (fun h13 => ?_)
                · refine ok_sub [0, 1, 2, 3, 4] rfl ?_
                  exact hk8 _ _ _
                · refine ok_iload 4 hc dX12_best_124 rfl ?_
                  refine ok_callSi (As := [.int a5]) (st := []) (fun n0 => [.int a5]) hc SS_X12_274 rfl rfl rfl ⟨Nat.le_of_ble_eq_true rfl, Nat.le_of_ble_eq_true rfl⟩ (Nat.le_of_ble_eq_true rfl) (fun q h => tX12_ones a5 S3 q h) dX12_best_126 (fun v14 S15 => ?_)
                  refine ok_iload_n 2 hc dX12_best_129 rfl rfl ?_
                  refine ok_callSi (As := [.int a3]) (st := [.int v14]) (fun n0 => [.int a3]) hc SS_X12_274 rfl rfl rfl ⟨Nat.le_of_ble_eq_true rfl, Nat.le_of_ble_eq_true rfl⟩ (Nat.le_of_ble_eq_true rfl) (fun q h => tX12_ones a3 S15 q h) dX12_best_130 (fun v16 S17 => ?_)
                  refine ok_icmp_ge_ite 143 hc dX12_best_133 (by decide) (fun h18 => ?_) (fun h18 => ?_)
                  · refine ok_sub [0, 1, 2, 3, 4] rfl ?_
                    exact hk8 _ _ _
                  · refine ok_sub [0, 1, 4, 5] rfl ?_
                    exact hk11 _
set_option maxRecDepth 100000 in
set_option maxHeartbeats 4000000 in
theorem tX12_best (a1 : Int32) (a2 : Int32) (S : St) (q : Int32 × St) (h : fX12_best a1 a2 S = some q) : MT vI wM mX12_best (fun n0 => [.ref (n0 + 0), .int a1, .int a2]) S q := by
  refine mt_of (show plainFor yX12_best = true from by decide) (fun _ => Nat.le_of_ble_eq_true rfl) ?_
  intro Γ hc _
  rw [← h]
  show Ok Γ wM 0 [(0, rv Γ 0), (1, .int a1), (2, .int a2)] [] S _
  unfold fX12_best
  refine ok_aload_n 0 hc dX12_best_0 rfl rfl ?_
  refine ok_iload_n 1 hc dX12_best_1 rfl rfl ?_
  refine ok_callVi (As := [.int a1]) (st := []) (fun n0 => [.ref (n0 + 0), .int a1]) hc VS_X12_283 sM_0 rfl rfl rfl ⟨Nat.le_of_ble_eq_true rfl, Nat.le_of_ble_eq_true rfl⟩ (Nat.le_of_ble_eq_true rfl) (fun q h => tX12_takesSet a1 S q h) dX12_best_2 (fun v1 S2 => ?_)
  refine ok_if_eq_ite 20 hc dX12_best_5 (by decide) (fun h3 => ?_) (fun h3 => ?_)
  · refine ok_bipush (v := (-2)) hc dX12_best_20 (by decide) ?_
    exact ok_iret hc rfl dX12_best_22
  · refine ok_iload_n 2 hc dX12_best_8 rfl rfl ?_
    refine ok_i2l hc dX12_best_9 ?_
    refine ok_lconst (v := 1) hc dX12_best_10 (by decide) ?_
    refine ok_ldc2 hc dX12_best_11 W_1476 ?_
    refine ok_callSi (As := [.long a2.toInt64, .long 1, .long 8]) (st := []) (fun n0 => [.long a2.toInt64, .long 1, .long 8]) hc SS_X12_152 rfl rfl rfl ⟨Nat.le_of_ble_eq_true rfl, Nat.le_of_ble_eq_true rfl⟩ (Nat.le_of_ble_eq_true rfl) (fun q h => tX12_in a2.toInt64 1 8 S2 q h) dX12_best_14 (fun v4 S5 => ?_)
    refine ok_if_ne_ite 23 hc dX12_best_17 (by decide) (fun h6 => ?_) (fun h6 => ?_)
    · refine ok_aload_n 0 hc dX12_best_23 rfl rfl ?_
      refine ok_callVu (As := []) (st := []) (fun n0 => [.ref (n0 + 0)]) hc VS_X12_286 sM_0 rfl rfl rfl ⟨Nat.le_of_ble_eq_true rfl, Nat.le_of_ble_eq_true rfl⟩ (Nat.le_of_ble_eq_true rfl) (fun q h => tX12_findFewest S5 q h) dX12_best_24 (fun _ S7 => ?_)
      refine ok_iconst (v := 0) hc dX12_best_27 (by decide) ?_
      refine ok_istore_n [(3, .int 0), (0, rv Γ 0), (1, .int a1), (2, .int a2)] hc dX12_best_28 rfl (Nat.le_of_ble_eq_true rfl) rfl ?_
      refine ok_iconst (v := 0) hc dX12_best_29 (by decide) ?_
      refine ok_istore [(4, .int 0), (3, .int 0), (0, rv Γ 0), (1, .int a1), (2, .int a2)] hc dX12_best_30 (Nat.le_of_ble_eq_true rfl) rfl ?_
      refine ok_iconst (v := 1) hc dX12_best_32 (by decide) ?_
      refine ok_istore [(5, .int 1), (4, .int 0), (3, .int 0), (0, rv Γ 0), (1, .int a1), (2, .int a2)] hc dX12_best_33 (Nat.le_of_ble_eq_true rfl) rfl ?_
      refine ok_sub [3, 5, 2, 1, 0] rfl ?_
      refine tX12_best_L35 hc _ _  ?_ FU _ _ _ _
      · intro v8 S9
        refine ok_aload_n 0 hc dX12_best_149 rfl rfl ?_
        refine ok_iload_n 1 hc dX12_best_150 rfl rfl ?_
        refine ok_callVi (As := [.int v8]) (st := []) (fun n0 => [.ref (n0 + 0), .int v8]) hc VS_X12_280 sM_0 rfl rfl rfl ⟨Nat.le_of_ble_eq_true rfl, Nat.le_of_ble_eq_true rfl⟩ (Nat.le_of_ble_eq_true rfl) (fun q h => tX12_wholeBits v8 S9 q h) dX12_best_151 (fun v10 S11 => ?_)
        exact ok_iret hc rfl dX12_best_154
    · refine ok_bipush (v := (-2)) hc dX12_best_20 (by decide) ?_
      exact ok_iret hc rfl dX12_best_22
def fX12_priceOf_L7_st (a1 : Int32) (rec : Int32 → Int32 → Int32 → St → Option (Int32 × St)) (a2 : Int32) (a3 : Int32) (a4 : Int32) (S : St) : Option (Int32 × St) :=
  if (S.1 0 30) ≤ a4 then (some (a3, S)) else (jn (fun (v2 : Int32) (v3 : Int32) => rec v2 v3 (a4 + 1) S) (fun k4 => if ((a1 >>> (a4 &&& 31)) &&& 1) = 1 then (if ib a4 8 then (if (a2 &&& (S.1 25 (nt a4))) = 0 then (if ib a4 8 then (lt (a2 ||| (S.1 25 (nt a4))) (fun (v9 : Int32) => if ib a4 8 then (lt (a3 + (S.1 26 (nt a4))) (fun (v11 : Int32) => k4 v9 v11)) else none)) else none) else (some ((-1), S))) else none) else (k4 a2 a3)))
def fX12_priceOf_L7 (a1 : Int32) : Nat → Int32 → Int32 → Int32 → St → Option (Int32 × St)
  | 0 => fun _ _ _ _ => none
  | n + 1 => fun a2 a3 a4 S => fX12_priceOf_L7_st a1 (fX12_priceOf_L7 a1 n) a2 a3 a4 S
def fX12_priceOf (a1 : Int32) (S : St) : Option (Int32 × St) :=
  fX12_priceOf_L7 a1 FU 0 0 0 S
set_option maxRecDepth 100000 in
set_option maxHeartbeats 4000000 in
theorem tX12_priceOf_L7 {Γ : Cx Int32} (hc : Cok Γ wM vI mX12_priceOf) (a1 : Int32) : ∀ (n : Nat) (a2 : Int32) (a3 : Int32) (a4 : Int32) (S : St), Ok Γ wM 7 [(0, rv Γ 0), (1, .int a1), (2, .int a2), (3, .int a3), (4, .int a4)] [] S (fX12_priceOf_L7 a1 n a2 a3 a4 S) := by
  intro n
  induction n with
  | zero =>
    intro a2 a3 a4 S
    exact ok_none
  | succ n ih =>
    intro a2 a3 a4 S
    show Ok Γ wM 7 [(0, rv Γ 0), (1, .int a1), (2, .int a2), (3, .int a3), (4, .int a4)] [] S (fX12_priceOf_L7_st a1 (fX12_priceOf_L7 a1 n) a2 a3 a4 S)
    unfold fX12_priceOf_L7_st
    refine ok_iload 4 hc dX12_priceOf_7 rfl ?_
    refine ok_aload_n 0 hc dX12_priceOf_9 rfl rfl ?_
    refine ok_geti hc FS_X12_334 rfl sM_0 dX12_priceOf_10 ?_
    refine ok_icmp_ge_ite 66 hc dX12_priceOf_13 (by decide) (fun h1 => ?_) (fun h1 => ?_)
    · refine ok_iload_n 3 hc dX12_priceOf_66 rfl rfl ?_
      exact ok_iret hc rfl dX12_priceOf_67
    · refine ok_iload_n 1 hc dX12_priceOf_16 rfl rfl ?_
      refine ok_iload 4 hc dX12_priceOf_17 rfl ?_
      refine ok_ishr hc dX12_priceOf_19 ?_
      refine ok_iconst (v := 1) hc dX12_priceOf_20 (by decide) ?_
      refine ok_iand hc dX12_priceOf_21 ?_
      refine ok_iconst (v := 1) hc dX12_priceOf_22 (by decide) ?_
      refine ok_jn (fun g => ∀ (v2 : Int32) (v3 : Int32), Ok Γ wM 60 [(0, rv Γ 0), (1, .int a1), (2, .int v2), (3, .int v3), (4, .int a4)] [] S (g v2 v3)) ?_ (fun k4 hk4 => ?_)
      · intro v2 v3
        refine ok_iinc (v := 1) 4 [(4, .int (a4 + 1)), (0, rv Γ 0), (1, .int a1), (2, .int v2), (3, .int v3)] hc dX12_priceOf_60 rfl (by decide) (Nat.le_of_ble_eq_true rfl) rfl ?_
        refine ok_goto 7 hc dX12_priceOf_63 (by decide) ?_
        refine ok_sub [1, 2, 3, 4, 0] rfl ?_
        exact ih _ _ _ _
      · refine ok_icmp_ne_ite 60 hc dX12_priceOf_23 (by decide) (fun h5 => ?_) (fun h5 => ?_)
        · exact hk4 _ _
        · refine ok_iload_n 2 hc dX12_priceOf_26 rfl rfl ?_
          refine ok_aload_n 0 hc dX12_priceOf_27 rfl rfl ?_
          refine ok_getr 25 hc FS_X12_91 rfl sM_0 rfl dX12_priceOf_28 ?_
          refine ok_iload 4 hc dX12_priceOf_31 rfl ?_
          refine ok_iald hc sM_25 dX12_priceOf_33 (fun h6 => ?_)
          refine ok_iand hc dX12_priceOf_34 ?_
          refine ok_if_eq_ite 40 hc dX12_priceOf_35 (by decide) (fun h7 => ?_) (fun h7 => ?_)
          · refine ok_iload_n 2 hc dX12_priceOf_40 rfl rfl ?_
            refine ok_aload_n 0 hc dX12_priceOf_41 rfl rfl ?_
            refine ok_getr 25 hc FS_X12_91 rfl sM_0 rfl dX12_priceOf_42 ?_
            refine ok_iload 4 hc dX12_priceOf_45 rfl ?_
            refine ok_iald hc sM_25 dX12_priceOf_47 (fun h8 => ?_)
            refine ok_ior hc dX12_priceOf_48 ?_
            refine ok_lti (fun v9 => ?_)
            refine ok_istore_n [(2, .int v9), (0, rv Γ 0), (1, .int a1), (3, .int a3), (4, .int a4)] hc dX12_priceOf_49 rfl (Nat.le_of_ble_eq_true rfl) rfl ?_
            refine ok_iload_n 3 hc dX12_priceOf_50 rfl rfl ?_
            refine ok_aload_n 1 hc dX12_priceOf_51 rfl rfl ?_
            refine ok_getr 26 hc FS_X12_94 rfl sM_0 rfl dX12_priceOf_52 ?_
            refine ok_iload 4 hc dX12_priceOf_55 rfl ?_
            refine ok_iald hc sM_26 dX12_priceOf_57 (fun h10 => ?_)
            refine ok_iadd hc dX12_priceOf_58 ?_
            refine ok_lti (fun v11 => ?_)
            refine ok_istore_n [(3, .int v11), (2, .int v9), (0, rv Γ 0), (1, .int a1), (4, .int a4)] hc dX12_priceOf_59 rfl (Nat.le_of_ble_eq_true rfl) rfl ?_
            refine ok_sub [2, 3, 1, 0, 4] rfl ?_
            exact hk4 _ _
          · refine ok_iconst (v := (-1)) hc dX12_priceOf_38 (by decide) ?_
            exact ok_iret hc rfl dX12_priceOf_39
set_option maxRecDepth 100000 in
set_option maxHeartbeats 4000000 in
theorem tX12_priceOf (a1 : Int32) (S : St) (q : Int32 × St) (h : fX12_priceOf a1 S = some q) : MT vI wM mX12_priceOf (fun n0 => [.ref (n0 + 0), .int a1]) S q := by
  refine mt_of (show plainFor yX12_priceOf = true from by decide) (fun _ => Nat.le_of_ble_eq_true rfl) ?_
  intro Γ hc _
  rw [← h]
  show Ok Γ wM 0 [(0, rv Γ 0), (1, .int a1)] [] S _
  unfold fX12_priceOf
  refine ok_iconst (v := 0) hc dX12_priceOf_0 (by decide) ?_
  refine ok_istore_n [(2, .int 0), (0, rv Γ 0), (1, .int a1)] hc dX12_priceOf_1 rfl (Nat.le_of_ble_eq_true rfl) rfl ?_
  refine ok_iconst (v := 0) hc dX12_priceOf_2 (by decide) ?_
  refine ok_istore_n [(3, .int 0), (2, .int 0), (0, rv Γ 0), (1, .int a1)] hc dX12_priceOf_3 rfl (Nat.le_of_ble_eq_true rfl) rfl ?_
  refine ok_iconst (v := 0) hc dX12_priceOf_4 (by decide) ?_
  refine ok_istore [(4, .int 0), (3, .int 0), (2, .int 0), (0, rv Γ 0), (1, .int a1)] hc dX12_priceOf_5 (Nat.le_of_ble_eq_true rfl) rfl ?_
  refine ok_sub [3, 4, 2, 1, 0] rfl ?_
  refine tX12_priceOf_L7 hc _   FU _ _ _ _
def fX12_bestBids_L4_st (a1 : Int32) (rec : Int32 → Int32 → St → Option (Int32 × St)) (a2 : Int32) (a3 : Int32) (S : St) : Option (Int32 × St) :=
  if (1 <<< ((S.1 0 30) &&& 31)) ≤ a3 then (some (a2, S)) else (jn (fun (v2 : Int32) (S3 : St) => jn (fun (v5 : Int32) (S6 : St) => rec v5 (a3 + 1) S6) (fun k7 => if 0 < v2 then (k7 a3 S3) else (if v2 = 0 then (bnd (fX12_ones a3 S3) (fun v10 S11 => bnd (fX12_ones a2 S11) (fun v12 S13 => if v12 ≤ v10 then (k7 a2 S13) else (k7 a3 S13)))) else (k7 a2 S3)))) (fun k4 => if (a3 &&& a1) = 0 then (bnd (fX12_priceOf a3 S) (fun v16 S17 => bnd (fX12_priceOf a2 S17) (fun v18 S19 => k4 (v16 - v18) S19))) else (k4 (-1) S)))
def fX12_bestBids_L4 (a1 : Int32) : Nat → Int32 → Int32 → St → Option (Int32 × St)
  | 0 => fun _ _ _ => none
  | n + 1 => fun a2 a3 S => fX12_bestBids_L4_st a1 (fX12_bestBids_L4 a1 n) a2 a3 S
def fX12_bestBids (a1 : Int32) (S : St) : Option (Int32 × St) :=
  fX12_bestBids_L4 a1 FU 0 1 S
set_option maxRecDepth 100000 in
set_option maxHeartbeats 4000000 in
theorem tX12_bestBids_L4 {Γ : Cx Int32} (hc : Cok Γ wM vI mX12_bestBids) (a1 : Int32) : ∀ (n : Nat) (a2 : Int32) (a3 : Int32) (S : St), Ok Γ wM 4 [(0, rv Γ 0), (1, .int a1), (2, .int a2), (3, .int a3)] [] S (fX12_bestBids_L4 a1 n a2 a3 S) := by
  intro n
  induction n with
  | zero =>
    intro a2 a3 S
    exact ok_none
  | succ n ih =>
    intro a2 a3 S
    show Ok Γ wM 4 [(0, rv Γ 0), (1, .int a1), (2, .int a2), (3, .int a3)] [] S (fX12_bestBids_L4_st a1 (fX12_bestBids_L4 a1 n) a2 a3 S)
    unfold fX12_bestBids_L4_st
    refine ok_iload_n 3 hc dX12_bestBids_4 rfl rfl ?_
    refine ok_iconst (v := 1) hc dX12_bestBids_5 (by decide) ?_
    refine ok_aload_n 0 hc dX12_bestBids_6 rfl rfl ?_
    refine ok_geti hc FS_X12_334 rfl sM_0 dX12_bestBids_7 ?_
    refine ok_ishl hc dX12_bestBids_10 ?_
    refine ok_icmp_ge_ite 66 hc dX12_bestBids_11 (by decide) (fun h1 => ?_) (fun h1 => ?_)
    · refine ok_iload_n 2 hc dX12_bestBids_66 rfl rfl ?_
      exact ok_iret hc rfl dX12_bestBids_67
    · refine ok_iload_n 3 hc dX12_bestBids_14 rfl rfl ?_
      refine ok_iload_n 1 hc dX12_bestBids_15 rfl rfl ?_
      refine ok_iand hc dX12_bestBids_16 ?_
      refine ok_jn (fun g => ∀ (v2 : Int32) (S3 : St), Ok Γ wM 35 [(0, rv Γ 0), (1, .int a1), (2, .int a2), (3, .int a3)] [.int v2] S3 (g v2 S3)) ?_ (fun k4 hk4 => ?_)
      · intro v2 S3
        refine ok_istore [(4, .int v2), (0, rv Γ 0), (1, .int a1), (2, .int a2), (3, .int a3)] hc dX12_bestBids_35 (Nat.le_of_ble_eq_true rfl) rfl ?_
        refine ok_iload 0 hc dX12_bestBids_37 rfl ?_
        refine ok_jn (fun g => ∀ (v5 : Int32) (S6 : St), Ok Γ wM 60 [(0, rv Γ 0), (1, .int a1), (2, .int v5), (3, .int a3)] [] S6 (g v5 S6)) ?_ (fun k7 hk7 => ?_)
        · intro v5 S6
          refine ok_iinc (v := 1) 3 [(3, .int (a3 + 1)), (0, rv Γ 0), (1, .int a1), (2, .int v5)] hc dX12_bestBids_60 rfl (by decide) (Nat.le_of_ble_eq_true rfl) rfl ?_
          refine ok_goto 4 hc dX12_bestBids_63 (by decide) ?_
          refine ok_sub [1, 2, 3, 0] rfl ?_
          exact ih _ _ _
        · refine ok_if_gt_ite 58 hc dX12_bestBids_39 (by decide) (fun h8 => ?_) (fun h8 => ?_)
          · refine ok_iload_n 4 hc dX12_bestBids_58 rfl rfl ?_
            refine ok_istore_n [(2, .int a3), (4, .int v2), (0, rv Γ 0), (1, .int a1), (3, .int a3)] hc dX12_bestBids_59 rfl (Nat.le_of_ble_eq_true rfl) rfl ?_
            refine ok_sub [2, 3, 0, 4] rfl ?_
            exact hk7 _ _
          · refine ok_iload 0 hc dX12_bestBids_42 rfl ?_
            refine ok_if_ne_ite 60 hc dX12_bestBids_44 (by decide) (fun h9 => ?_) (fun h9 => ?_)
            · refine ok_sub [1, 2, 3, 4] rfl ?_
              exact hk7 _ _
            · refine ok_iload_n 4 hc dX12_bestBids_47 rfl rfl ?_
              refine ok_callSi (As := [.int a3]) (st := []) (fun n0 => [.int a3]) hc SS_X12_274 rfl rfl rfl ⟨Nat.le_of_ble_eq_true rfl, Nat.le_of_ble_eq_true rfl⟩ (Nat.le_of_ble_eq_true rfl) (fun q h => tX12_ones a3 S3 q h) dX12_bestBids_48 (fun v10 S11 => ?_)
              refine ok_iload_n 3 hc dX12_bestBids_51 rfl rfl ?_
              refine ok_callSi (As := [.int a2]) (st := [.int v10]) (fun n0 => [.int a2]) hc SS_X12_274 rfl rfl rfl ⟨Nat.le_of_ble_eq_true rfl, Nat.le_of_ble_eq_true rfl⟩ (Nat.le_of_ble_eq_true rfl) (fun q h => tX12_ones a2 S11 q h) dX12_bestBids_52 (fun v12 S13 => ?_)
              refine ok_icmp_ge_ite 60 hc dX12_bestBids_55 (by decide) (fun h14 => ?_) (fun h14 => ?_)
              · refine ok_sub [1, 2, 3, 4] rfl ?_
                exact hk7 _ _
              · refine ok_iload_n 4 hc dX12_bestBids_58 rfl rfl ?_
                refine ok_istore_n [(2, .int a3), (4, .int v2), (0, rv Γ 0), (1, .int a1), (3, .int a3)] hc dX12_bestBids_59 rfl (Nat.le_of_ble_eq_true rfl) rfl ?_
                refine ok_sub [2, 3, 0, 4] rfl ?_
                exact hk7 _ _
      · refine ok_if_eq_ite 24 hc dX12_bestBids_17 (by decide) (fun h15 => ?_) (fun h15 => ?_)
        · refine ok_aload_n 0 hc dX12_bestBids_24 rfl rfl ?_
          refine ok_iload_n 3 hc dX12_bestBids_25 rfl rfl ?_
          refine ok_callVi (As := [.int a3]) (st := []) (fun n0 => [.ref (n0 + 0), .int a3]) hc VS_X12_337 sM_0 rfl rfl rfl ⟨Nat.le_of_ble_eq_true rfl, Nat.le_of_ble_eq_true rfl⟩ (Nat.le_of_ble_eq_true rfl) (fun q h => tX12_priceOf a3 S q h) dX12_bestBids_26 (fun v16 S17 => ?_)
          refine ok_aload_n 0 hc dX12_bestBids_29 rfl rfl ?_
          refine ok_iload_n 2 hc dX12_bestBids_30 rfl rfl ?_
          refine ok_callVi (As := [.int a2]) (st := [.int v16]) (fun n0 => [.ref (n0 + 0), .int a2]) hc VS_X12_337 sM_0 rfl rfl rfl ⟨Nat.le_of_ble_eq_true rfl, Nat.le_of_ble_eq_true rfl⟩ (Nat.le_of_ble_eq_true rfl) (fun q h => tX12_priceOf a2 S17 q h) dX12_bestBids_31 (fun v18 S19 => ?_)
          refine ok_isub hc dX12_bestBids_34 ?_
          exact hk4 _ _
        · refine ok_iconst (v := (-1)) hc dX12_bestBids_20 (by decide) ?_
          refine ok_goto 35 hc dX12_bestBids_21 (by decide) ?_
          exact hk4 _ _
set_option maxRecDepth 100000 in
set_option maxHeartbeats 4000000 in
theorem tX12_bestBids (a1 : Int32) (S : St) (q : Int32 × St) (h : fX12_bestBids a1 S = some q) : MT vI wM mX12_bestBids (fun n0 => [.ref (n0 + 0), .int a1]) S q := by
  refine mt_of (show plainFor yX12_bestBids = true from by decide) (fun _ => Nat.le_of_ble_eq_true rfl) ?_
  intro Γ hc _
  rw [← h]
  show Ok Γ wM 0 [(0, rv Γ 0), (1, .int a1)] [] S _
  unfold fX12_bestBids
  refine ok_iconst (v := 0) hc dX12_bestBids_0 (by decide) ?_
  refine ok_istore_n [(2, .int 0), (0, rv Γ 0), (1, .int a1)] hc dX12_bestBids_1 rfl (Nat.le_of_ble_eq_true rfl) rfl ?_
  refine ok_iconst (v := 1) hc dX12_bestBids_2 (by decide) ?_
  refine ok_istore_n [(3, .int 1), (2, .int 0), (0, rv Γ 0), (1, .int a1)] hc dX12_bestBids_3 rfl (Nat.le_of_ble_eq_true rfl) rfl ?_
  refine ok_sub [2, 3, 1, 0] rfl ?_
  refine tX12_bestBids_L4 hc _   FU _ _ _
def fX12_bid (a1 : Int32) (a2 : Int32) (a3 : Int32) (S : St) : Option (Int32 × St) :=
  bnd (fX12_isSender a1 S) (fun v1 S2 => if v1 = 0 then (some ((-2), S2)) else (bnd (fX12_in a2.toInt64 1 4095 S2) (fun v4 S5 => if v4 = 0 then (some ((-2), S5)) else (bnd (fX12_in a3.toInt64 1 10000 S5) (fun v7 S8 => if v7 = 0 then (some ((-2), S8)) else (if (S8.1 0 30) = 8 then (some ((-4), S8)) else (if ib (S8.1 0 30) 8 then lt (wi S8 25 (nt (S8.1 0 30)) a2) (fun S11 => if ib (S11.1 0 30) 8 then lt (wi S11 26 (nt (S11.1 0 30)) a3) (fun S13 => lt (wi S13 0 30 ((S13.1 0 30) + 1)) (fun S15 => some ((S15.1 0 30) - 1, S15))) else none) else none)))))))
set_option maxRecDepth 100000 in
set_option maxHeartbeats 4000000 in
theorem tX12_bid (a1 : Int32) (a2 : Int32) (a3 : Int32) (S : St) (q : Int32 × St) (h : fX12_bid a1 a2 a3 S = some q) : MT vI wM mX12_bid (fun n0 => [.ref (n0 + 0), .int a1, .int a2, .int a3]) S q := by
  refine mt_of (show plainFor yX12_bid = true from by decide) (fun _ => Nat.le_of_ble_eq_true rfl) ?_
  intro Γ hc _
  rw [← h]
  show Ok Γ wM 0 [(0, rv Γ 0), (1, .int a1), (2, .int a2), (3, .int a3)] [] S _
  unfold fX12_bid
  refine ok_aload_n 0 hc dX12_bid_0 rfl rfl ?_
  refine ok_iload_n 1 hc dX12_bid_1 rfl rfl ?_
  refine ok_callVi (As := [.int a1]) (st := []) (fun n0 => [.ref (n0 + 0), .int a1]) hc VS_X12_237 sM_0 rfl rfl rfl ⟨Nat.le_of_ble_eq_true rfl, Nat.le_of_ble_eq_true rfl⟩ (Nat.le_of_ble_eq_true rfl) (fun q h => tX12_isSender a1 S q h) dX12_bid_2 (fun v1 S2 => ?_)
  refine ok_if_eq_ite 32 hc dX12_bid_5 (by decide) (fun h3 => ?_) (fun h3 => ?_)
  · refine ok_bipush (v := (-2)) hc dX12_bid_32 (by decide) ?_
    exact ok_iret hc rfl dX12_bid_34
  · refine ok_iload_n 2 hc dX12_bid_8 rfl rfl ?_
    refine ok_i2l hc dX12_bid_9 ?_
    refine ok_lconst (v := 1) hc dX12_bid_10 (by decide) ?_
    refine ok_ldc2 hc dX12_bid_11 W_1549 ?_
    refine ok_callSi (As := [.long a2.toInt64, .long 1, .long 4095]) (st := []) (fun n0 => [.long a2.toInt64, .long 1, .long 4095]) hc SS_X12_152 rfl rfl rfl ⟨Nat.le_of_ble_eq_true rfl, Nat.le_of_ble_eq_true rfl⟩ (Nat.le_of_ble_eq_true rfl) (fun q h => tX12_in a2.toInt64 1 4095 S2 q h) dX12_bid_14 (fun v4 S5 => ?_)
    refine ok_if_eq_ite 32 hc dX12_bid_17 (by decide) (fun h6 => ?_) (fun h6 => ?_)
    · refine ok_bipush (v := (-2)) hc dX12_bid_32 (by decide) ?_
      exact ok_iret hc rfl dX12_bid_34
    · refine ok_iload_n 3 hc dX12_bid_20 rfl rfl ?_
      refine ok_i2l hc dX12_bid_21 ?_
      refine ok_lconst (v := 1) hc dX12_bid_22 (by decide) ?_
      refine ok_ldc2 hc dX12_bid_23 W_1333 ?_
      refine ok_callSi (As := [.long a3.toInt64, .long 1, .long 10000]) (st := []) (fun n0 => [.long a3.toInt64, .long 1, .long 10000]) hc SS_X12_152 rfl rfl rfl ⟨Nat.le_of_ble_eq_true rfl, Nat.le_of_ble_eq_true rfl⟩ (Nat.le_of_ble_eq_true rfl) (fun q h => tX12_in a3.toInt64 1 10000 S5 q h) dX12_bid_26 (fun v7 S8 => ?_)
      refine ok_if_ne_ite 35 hc dX12_bid_29 (by decide) (fun h9 => ?_) (fun h9 => ?_)
      · refine ok_aload_n 0 hc dX12_bid_35 rfl rfl ?_
        refine ok_geti hc FS_X12_334 rfl sM_0 dX12_bid_36 ?_
        refine ok_bipush (v := 8) hc dX12_bid_39 (by decide) ?_
        refine ok_icmp_ne_ite 47 hc dX12_bid_41 (by decide) (fun h10 => ?_) (fun h10 => ?_)
        · refine ok_aload_n 0 hc dX12_bid_47 rfl rfl ?_
          refine ok_getr 25 hc FS_X12_91 rfl sM_0 rfl dX12_bid_48 ?_
          refine ok_aload_n 0 hc dX12_bid_51 rfl rfl ?_
          refine ok_geti hc FS_X12_334 rfl sM_0 dX12_bid_52 ?_
          refine ok_iload_n 2 hc dX12_bid_55 rfl rfl ?_
          refine ok_iast hc sM_25 dX12_bid_56 (fun h12 => ?_)
          refine ok_ltS (fun S11 => ?_)
          refine ok_aload_n 0 hc dX12_bid_57 rfl rfl ?_
          refine ok_getr 26 hc FS_X12_94 rfl sM_0 rfl dX12_bid_58 ?_
          refine ok_aload_n 0 hc dX12_bid_61 rfl rfl ?_
          refine ok_geti hc FS_X12_334 rfl sM_0 dX12_bid_62 ?_
          refine ok_iload_n 3 hc dX12_bid_65 rfl rfl ?_
          refine ok_iast hc sM_26 dX12_bid_66 (fun h14 => ?_)
          refine ok_ltS (fun S13 => ?_)
          refine ok_aload_n 0 hc dX12_bid_67 rfl rfl ?_
          refine ok_dup hc dX12_bid_68 rfl ?_
          refine ok_geti hc FS_X12_334 rfl sM_0 dX12_bid_69 ?_
          refine ok_iconst (v := 1) hc dX12_bid_72 (by decide) ?_
          refine ok_iadd hc dX12_bid_73 ?_
          refine ok_puti hc FP_X12_334 rfl sM_0 dX12_bid_74 ?_
          refine ok_ltS (fun S15 => ?_)
          refine ok_aload_n 0 hc dX12_bid_77 rfl rfl ?_
          refine ok_geti hc FS_X12_334 rfl sM_0 dX12_bid_78 ?_
          refine ok_iconst (v := 1) hc dX12_bid_81 (by decide) ?_
          refine ok_isub hc dX12_bid_82 ?_
          exact ok_iret hc rfl dX12_bid_83
        · refine ok_bipush (v := (-4)) hc dX12_bid_44 (by decide) ?_
          exact ok_iret hc rfl dX12_bid_46
      · refine ok_bipush (v := (-2)) hc dX12_bid_32 (by decide) ?_
        exact ok_iret hc rfl dX12_bid_34
def fX12_isCell (a1 : Int32) (S : St) : Option (Int32 × St) :=
  bnd (fX12_in a1.toInt64 0 ((((S.1 0 5) * (S.1 0 6)) - 1).toInt64) S) (fun v1 S2 => if b01 v1 then some (v1, S2) else none)
set_option maxRecDepth 100000 in
set_option maxHeartbeats 4000000 in
theorem tX12_isCell (a1 : Int32) (S : St) (q : Int32 × St) (h : fX12_isCell a1 S = some q) : MT vI wM mX12_isCell (fun n0 => [.ref (n0 + 0), .int a1]) S q := by
  refine mt_of (show plainFor yX12_isCell = true from by decide) (fun _ => Nat.le_of_ble_eq_true rfl) ?_
  intro Γ hc _
  rw [← h]
  show Ok Γ wM 0 [(0, rv Γ 0), (1, .int a1)] [] S _
  unfold fX12_isCell
  refine ok_iload_n 1 hc dX12_isCell_0 rfl rfl ?_
  refine ok_i2l hc dX12_isCell_1 ?_
  refine ok_lconst (v := 0) hc dX12_isCell_2 (by decide) ?_
  refine ok_aload_n 0 hc dX12_isCell_3 rfl rfl ?_
  refine ok_geti hc FS_X12_23 rfl sM_0 dX12_isCell_4 ?_
  refine ok_aload_n 0 hc dX12_isCell_7 rfl rfl ?_
  refine ok_geti hc FS_X12_27 rfl sM_0 dX12_isCell_8 ?_
  refine ok_imul hc dX12_isCell_11 ?_
  refine ok_iconst (v := 1) hc dX12_isCell_12 (by decide) ?_
  refine ok_isub hc dX12_isCell_13 ?_
  refine ok_i2l hc dX12_isCell_14 ?_
  refine ok_callSi (As := [.long a1.toInt64, .long 0, .long ((((S.1 0 5) * (S.1 0 6)) - 1).toInt64)]) (st := []) (fun n0 => [.long a1.toInt64, .long 0, .long ((((S.1 0 5) * (S.1 0 6)) - 1).toInt64)]) hc SS_X12_152 rfl rfl rfl ⟨Nat.le_of_ble_eq_true rfl, Nat.le_of_ble_eq_true rfl⟩ (Nat.le_of_ble_eq_true rfl) (fun q h => tX12_in a1.toInt64 0 ((((S.1 0 5) * (S.1 0 6)) - 1).toInt64) S q h) dX12_isCell_15 (fun v1 S2 => ?_)
  exact ok_zret hc rfl dX12_isCell_18
def fX12_box (a1 : Int32) (S : St) : Option (Int32 × St) :=
  bnd (fX12_isCell a1 S) (fun v1 S2 => if v1 = 0 then (some ((-2), S2)) else (if (S2.1 0 43) = 8 then (some ((-4), S2)) else (if ib (S2.1 0 43) 8 then lt (wi S2 34 (nt (S2.1 0 43)) a1) (fun S5 => lt (wi S5 0 43 ((S5.1 0 43) + 1)) (fun S7 => some ((S7.1 0 43) - 1, S7))) else none)))
set_option maxRecDepth 100000 in
set_option maxHeartbeats 4000000 in
theorem tX12_box (a1 : Int32) (S : St) (q : Int32 × St) (h : fX12_box a1 S = some q) : MT vI wM mX12_box (fun n0 => [.ref (n0 + 0), .int a1]) S q := by
  refine mt_of (show plainFor yX12_box = true from by decide) (fun _ => Nat.le_of_ble_eq_true rfl) ?_
  intro Γ hc _
  rw [← h]
  show Ok Γ wM 0 [(0, rv Γ 0), (1, .int a1)] [] S _
  unfold fX12_box
  refine ok_aload_n 0 hc dX12_box_0 rfl rfl ?_
  refine ok_iload_n 1 hc dX12_box_1 rfl rfl ?_
  refine ok_callVi (As := [.int a1]) (st := []) (fun n0 => [.ref (n0 + 0), .int a1]) hc VS_X12_191 sM_0 rfl rfl rfl ⟨Nat.le_of_ble_eq_true rfl, Nat.le_of_ble_eq_true rfl⟩ (Nat.le_of_ble_eq_true rfl) (fun q h => tX12_isCell a1 S q h) dX12_box_2 (fun v1 S2 => ?_)
  refine ok_if_ne_ite 11 hc dX12_box_5 (by decide) (fun h3 => ?_) (fun h3 => ?_)
  · refine ok_aload_n 0 hc dX12_box_11 rfl rfl ?_
    refine ok_geti hc FS_X12_179 rfl sM_0 dX12_box_12 ?_
    refine ok_bipush (v := 8) hc dX12_box_15 (by decide) ?_
    refine ok_icmp_ne_ite 23 hc dX12_box_17 (by decide) (fun h4 => ?_) (fun h4 => ?_)
    · refine ok_aload_n 0 hc dX12_box_23 rfl rfl ?_
      refine ok_getr 34 hc FS_X12_118 rfl sM_0 rfl dX12_box_24 ?_
      refine ok_aload_n 0 hc dX12_box_27 rfl rfl ?_
      refine ok_geti hc FS_X12_179 rfl sM_0 dX12_box_28 ?_
      refine ok_iload_n 1 hc dX12_box_31 rfl rfl ?_
      refine ok_iast hc sM_34 dX12_box_32 (fun h6 => ?_)
      refine ok_ltS (fun S5 => ?_)
      refine ok_aload_n 0 hc dX12_box_33 rfl rfl ?_
      refine ok_dup hc dX12_box_34 rfl ?_
      refine ok_geti hc FS_X12_179 rfl sM_0 dX12_box_35 ?_
      refine ok_iconst (v := 1) hc dX12_box_38 (by decide) ?_
      refine ok_iadd hc dX12_box_39 ?_
      refine ok_puti hc FP_X12_179 rfl sM_0 dX12_box_40 ?_
      refine ok_ltS (fun S7 => ?_)
      refine ok_aload_n 0 hc dX12_box_43 rfl rfl ?_
      refine ok_geti hc FS_X12_179 rfl sM_0 dX12_box_44 ?_
      refine ok_iconst (v := 1) hc dX12_box_47 (by decide) ?_
      refine ok_isub hc dX12_box_48 ?_
      exact ok_iret hc rfl dX12_box_49
    · refine ok_bipush (v := (-4)) hc dX12_box_20 (by decide) ?_
      exact ok_iret hc rfl dX12_box_22
  · refine ok_bipush (v := (-2)) hc dX12_box_8 (by decide) ?_
    exact ok_iret hc rfl dX12_box_10
def fX12_call (S : St) : Option (Int32 × St) :=
  lt (wi S 0 30 0) (fun S1 => some (S.1 0 30, S1))
set_option maxRecDepth 100000 in
set_option maxHeartbeats 4000000 in
theorem tX12_call (S : St) (q : Int32 × St) (h : fX12_call S = some q) : MT vI wM mX12_call (fun n0 => [.ref (n0 + 0)]) S q := by
  refine mt_of (show plainFor yX12_call = true from by decide) (fun _ => Nat.le_of_ble_eq_true rfl) ?_
  intro Γ hc _
  rw [← h]
  show Ok Γ wM 0 [(0, rv Γ 0)] [] S _
  unfold fX12_call
  refine ok_aload_n 0 hc dX12_call_0 rfl rfl ?_
  refine ok_geti hc FS_X12_334 rfl sM_0 dX12_call_1 ?_
  refine ok_istore_n [(1, .int (S.1 0 30)), (0, rv Γ 0)] hc dX12_call_4 rfl (Nat.le_of_ble_eq_true rfl) rfl ?_
  refine ok_aload_n 1 hc dX12_call_5 rfl rfl ?_
  refine ok_iconst (v := 0) hc dX12_call_6 (by decide) ?_
  refine ok_puti hc FP_X12_334 rfl sM_0 dX12_call_7 ?_
  refine ok_ltS (fun S1 => ?_)
  refine ok_iload_n 0 hc dX12_call_10 rfl rfl ?_
  exact ok_iret hc rfl dX12_call_11
def fX12_others_L4_st (a1 : Int32) (rec : Int32 → Int32 → St → Option (Int32 × St)) (a2 : Int32) (a3 : Int32) (S : St) : Option (Int32 × St) :=
  if (S.1 0 9) ≤ a3 then (some (a2, S)) else (jn (fun (v2 : Int32) (S3 : St) => lt (a2 ||| v2) (fun (v5 : Int32) => rec v5 (a3 + 1) S3)) (fun k4 => if a3 = a1 then (k4 0 S) else (if ib a3 20 then (if (S.1 16 (nt a3)) = 0 then (k4 0 S) else (bnd (fX12_slotNow a3 S) (fun v9 S10 => bnd (fX12_slotNow a1 S10) (fun v11 S12 => if v9 = v11 then (k4 (1 <<< (a3 &&& 31)) S12) else (k4 0 S12))))) else none)))
def fX12_others_L4 (a1 : Int32) : Nat → Int32 → Int32 → St → Option (Int32 × St)
  | 0 => fun _ _ _ => none
  | n + 1 => fun a2 a3 S => fX12_others_L4_st a1 (fX12_others_L4 a1 n) a2 a3 S
def fX12_others (a1 : Int32) (S : St) : Option (Int32 × St) :=
  fX12_others_L4 a1 FU 0 0 S
set_option maxRecDepth 100000 in
set_option maxHeartbeats 4000000 in
theorem tX12_others_L4 {Γ : Cx Int32} (hc : Cok Γ wM vI mX12_others) (a1 : Int32) : ∀ (n : Nat) (a2 : Int32) (a3 : Int32) (S : St), Ok Γ wM 4 [(0, rv Γ 0), (1, .int a1), (2, .int a2), (3, .int a3)] [] S (fX12_others_L4 a1 n a2 a3 S) := by
  intro n
  induction n with
  | zero =>
    intro a2 a3 S
    exact ok_none
  | succ n ih =>
    intro a2 a3 S
    show Ok Γ wM 4 [(0, rv Γ 0), (1, .int a1), (2, .int a2), (3, .int a3)] [] S (fX12_others_L4_st a1 (fX12_others_L4 a1 n) a2 a3 S)
    unfold fX12_others_L4_st
    refine ok_iload_n 3 hc dX12_others_4 rfl rfl ?_
    refine ok_aload_n 0 hc dX12_others_5 rfl rfl ?_
    refine ok_geti hc FS_X12_176 rfl sM_0 dX12_others_6 ?_
    refine ok_icmp_ge_ite 55 hc dX12_others_9 (by decide) (fun h1 => ?_) (fun h1 => ?_)
    · refine ok_iload_n 2 hc dX12_others_55 rfl rfl ?_
      exact ok_iret hc rfl dX12_others_56
    · refine ok_iload_n 2 hc dX12_others_12 rfl rfl ?_
      refine ok_iload_n 3 hc dX12_others_13 rfl rfl ?_
      refine ok_iload_n 1 hc dX12_others_14 rfl rfl ?_
      refine ok_jn (fun g => ∀ (v2 : Int32) (S3 : St), Ok Γ wM 47 [(0, rv Γ 0), (1, .int a1), (3, .int a3)] [.int v2, .int a2] S3 (g v2 S3)) ?_ (fun k4 hk4 => ?_)
      · intro v2 S3
        refine ok_ior hc dX12_others_47 ?_
        refine ok_lti (fun v5 => ?_)
        refine ok_istore_n [(2, .int v5), (0, rv Γ 0), (1, .int a1), (3, .int a3)] hc dX12_others_48 rfl (Nat.le_of_ble_eq_true rfl) rfl ?_
        refine ok_iinc (v := 1) 3 [(3, .int (a3 + 1)), (2, .int v5), (0, rv Γ 0), (1, .int a1)] hc dX12_others_49 rfl (by decide) (Nat.le_of_ble_eq_true rfl) rfl ?_
        refine ok_goto 4 hc dX12_others_52 (by decide) ?_
        refine ok_sub [2, 3, 1, 0] rfl ?_
        exact ih _ _ _
      · refine ok_icmp_eq_ite 46 hc dX12_others_15 (by decide) (fun h6 => ?_) (fun h6 => ?_)
        · refine ok_iconst (v := 0) hc dX12_others_46 (by decide) ?_
          refine ok_sub [0, 1, 3] rfl ?_
          exact hk4 _ _
        · refine ok_aload_n 0 hc dX12_others_18 rfl rfl ?_
          refine ok_getr 16 hc FS_X12_63 rfl sM_0 rfl dX12_others_19 ?_
          refine ok_iload_n 3 hc dX12_others_22 rfl rfl ?_
          refine ok_zald hc sM_16 dX12_others_23 (fun h7 => ?_)
          refine ok_if_eq_ite 46 hc dX12_others_24 (by decide) (fun h8 => ?_) (fun h8 => ?_)
          · refine ok_iconst (v := 0) hc dX12_others_46 (by decide) ?_
            refine ok_sub [0, 1, 3] rfl ?_
            exact hk4 _ _
          · refine ok_aload_n 0 hc dX12_others_27 rfl rfl ?_
            refine ok_iload_n 3 hc dX12_others_28 rfl rfl ?_
            refine ok_callVi (As := [.int a3]) (st := [.int a2]) (fun n0 => [.ref (n0 + 0), .int a3]) hc VS_X12_244 sM_0 rfl rfl rfl ⟨Nat.le_of_ble_eq_true rfl, Nat.le_of_ble_eq_true rfl⟩ (Nat.le_of_ble_eq_true rfl) (fun q h => tX12_slotNow a3 S q h) dX12_others_29 (fun v9 S10 => ?_)
            refine ok_aload_n 0 hc dX12_others_32 rfl rfl ?_
            refine ok_iload_n 1 hc dX12_others_33 rfl rfl ?_
            refine ok_callVi (As := [.int a1]) (st := [.int v9, .int a2]) (fun n0 => [.ref (n0 + 0), .int a1]) hc VS_X12_244 sM_0 rfl rfl rfl ⟨Nat.le_of_ble_eq_true rfl, Nat.le_of_ble_eq_true rfl⟩ (Nat.le_of_ble_eq_true rfl) (fun q h => tX12_slotNow a1 S10 q h) dX12_others_34 (fun v11 S12 => ?_)
            refine ok_icmp_ne_ite 46 hc dX12_others_37 (by decide) (fun h13 => ?_) (fun h13 => ?_)
            · refine ok_iconst (v := 0) hc dX12_others_46 (by decide) ?_
              refine ok_sub [0, 1, 3] rfl ?_
              exact hk4 _ _
            · refine ok_iconst (v := 1) hc dX12_others_40 (by decide) ?_
              refine ok_iload_n 3 hc dX12_others_41 rfl rfl ?_
              refine ok_ishl hc dX12_others_42 ?_
              refine ok_goto 47 hc dX12_others_43 (by decide) ?_
              refine ok_sub [0, 1, 3] rfl ?_
              exact hk4 _ _
set_option maxRecDepth 100000 in
set_option maxHeartbeats 4000000 in
theorem tX12_others (a1 : Int32) (S : St) (q : Int32 × St) (h : fX12_others a1 S = some q) : MT vI wM mX12_others (fun n0 => [.ref (n0 + 0), .int a1]) S q := by
  refine mt_of (show plainFor yX12_others = true from by decide) (fun _ => Nat.le_of_ble_eq_true rfl) ?_
  intro Γ hc _
  rw [← h]
  show Ok Γ wM 0 [(0, rv Γ 0), (1, .int a1)] [] S _
  unfold fX12_others
  refine ok_iconst (v := 0) hc dX12_others_0 (by decide) ?_
  refine ok_istore_n [(2, .int 0), (0, rv Γ 0), (1, .int a1)] hc dX12_others_1 rfl (Nat.le_of_ble_eq_true rfl) rfl ?_
  refine ok_iconst (v := 0) hc dX12_others_2 (by decide) ?_
  refine ok_istore_n [(3, .int 0), (2, .int 0), (0, rv Γ 0), (1, .int a1)] hc dX12_others_3 rfl (Nat.le_of_ble_eq_true rfl) rfl ?_
  refine ok_sub [2, 3, 1, 0] rfl ?_
  refine tX12_others_L4 hc _   FU _ _ _
def fX12_cause_L83_st (a1 : Int32) (a2 : Int32) (rec : Int32 → Int32 → St → Option (Int32 × St)) (a3 : Int32) (a4 : Int32) (S : St) : Option (Int32 × St) :=
  if a4 = 0 then (some (a3, S)) else (bnd (fX12_ones a4 S) (fun v2 S3 => bnd (fX12_ones a3 S3) (fun v4 S5 => jn (fun (v6 : Int32) (S7 : St) => lt ((a4 - a2) &&& a2) (fun (v9 : Int32) => rec v6 v9 S7)) (fun k8 => jn (fun (S10 : St) => bnd (fX12_drownsBy a1 (a2 &&& (a4 ^^^ (-1))) S10) (fun v12 S13 => bnd (fX12_isHeard a1 v12 S13) (fun v14 S15 => if v14 = 0 then (k8 a3 S15) else (k8 a4 S15)))) (fun k11 => if v2 < v4 then (k11 S5) else (bnd (fX12_ones a4 S5) (fun v18 S19 => bnd (fX12_ones a3 S19) (fun v20 S21 => if v18 = v20 then (if a3 ≤ a4 then (k8 a3 S21) else (k11 S21)) else (k8 a3 S21)))))))))
def fX12_cause_L83 (a1 : Int32) (a2 : Int32) : Nat → Int32 → Int32 → St → Option (Int32 × St)
  | 0 => fun _ _ _ => none
  | n + 1 => fun a3 a4 S => fX12_cause_L83_st a1 a2 (fX12_cause_L83 a1 a2 n) a3 a4 S
def fX12_cause (a1 : Int32) (S : St) : Option (Int32 × St) :=
  bnd (fX12_isSender a1 S) (fun v1 S2 => if v1 = 0 then (some ((-2), S2)) else (if ib a1 20 then (if (S2.1 16 (nt a1)) = 0 then (some ((-3), S2)) else (bnd (fX12_others a1 S2) (fun v6 S7 => bnd (fX12_ones v6 S7) (fun v8 S9 => if v8 ≤ 10 then (bnd (fX12_drownsBy a1 v6 S9) (fun v11 S12 => bnd (fX12_isHeard a1 v11 S12) (fun v13 S14 => if v13 = 0 then (bnd (fX12_isHeard a1 ((S14.1 5 (nt 2)).toInt64) S14) (fun v16 S17 => if v16 = 0 then (some ((-1), S17)) else (lt ((0 - v6) &&& v6) (fun (v19 : Int32) => fX12_cause_L83 a1 v6 FU v6 v19 S17)))) else (some (0, S14))))) else (some ((-4), S9)))))) else none))
set_option maxRecDepth 100000 in
set_option maxHeartbeats 4000000 in
theorem tX12_cause_L83 {Γ : Cx Int32} (hc : Cok Γ wM vI mX12_cause) (a1 : Int32) (a2 : Int32) : ∀ (n : Nat) (a3 : Int32) (a4 : Int32) (S : St), Ok Γ wM 83 [(0, rv Γ 0), (1, .int a1), (2, .int a2), (3, .int a3), (4, .int a4)] [] S (fX12_cause_L83 a1 a2 n a3 a4 S) := by
  intro n
  induction n with
  | zero =>
    intro a3 a4 S
    exact ok_none
  | succ n ih =>
    intro a3 a4 S
    show Ok Γ wM 83 [(0, rv Γ 0), (1, .int a1), (2, .int a2), (3, .int a3), (4, .int a4)] [] S (fX12_cause_L83_st a1 a2 (fX12_cause_L83 a1 a2 n) a3 a4 S)
    unfold fX12_cause_L83_st
    refine ok_iload 4 hc dX12_cause_83 rfl ?_
    refine ok_if_eq_ite 151 hc dX12_cause_85 (by decide) (fun h1 => ?_) (fun h1 => ?_)
    · refine ok_iload_n 3 hc dX12_cause_151 rfl rfl ?_
      exact ok_iret hc rfl dX12_cause_152
    · refine ok_iload 4 hc dX12_cause_88 rfl ?_
      refine ok_callSi (As := [.int a4]) (st := []) (fun n0 => [.int a4]) hc SS_X12_274 rfl rfl rfl ⟨Nat.le_of_ble_eq_true rfl, Nat.le_of_ble_eq_true rfl⟩ (Nat.le_of_ble_eq_true rfl) (fun q h => tX12_ones a4 S q h) dX12_cause_90 (fun v2 S3 => ?_)
      refine ok_iload_n 3 hc dX12_cause_93 rfl rfl ?_
      refine ok_callSi (As := [.int a3]) (st := [.int v2]) (fun n0 => [.int a3]) hc SS_X12_274 rfl rfl rfl ⟨Nat.le_of_ble_eq_true rfl, Nat.le_of_ble_eq_true rfl⟩ (Nat.le_of_ble_eq_true rfl) (fun q h => tX12_ones a3 S3 q h) dX12_cause_94 (fun v4 S5 => ?_)
      refine ok_jn (fun g => ∀ (v6 : Int32) (S7 : St), Ok Γ wM 140 [(0, rv Γ 0), (1, .int a1), (2, .int a2), (3, .int v6), (4, .int a4)] [] S7 (g v6 S7)) ?_ (fun k8 hk8 => ?_)
      · intro v6 S7
        refine ok_iload 4 hc dX12_cause_140 rfl ?_
        refine ok_iload_n 2 hc dX12_cause_142 rfl rfl ?_
        refine ok_isub hc dX12_cause_143 ?_
        refine ok_iload_n 2 hc dX12_cause_144 rfl rfl ?_
        refine ok_iand hc dX12_cause_145 ?_
        refine ok_lti (fun v9 => ?_)
        refine ok_istore [(4, .int v9), (0, rv Γ 0), (1, .int a1), (2, .int a2), (3, .int v6)] hc dX12_cause_146 (Nat.le_of_ble_eq_true rfl) rfl ?_
        refine ok_goto 83 hc dX12_cause_148 (by decide) ?_
        refine ok_sub [1, 2, 3, 4, 0] rfl ?_
        exact ih _ _ _
      · refine ok_jn (fun g => ∀ (S10 : St), Ok Γ wM 118 [(0, rv Γ 0), (1, .int a1), (2, .int a2), (3, .int a3), (4, .int a4)] [] S10 (g S10)) ?_ (fun k11 hk11 => ?_)
        · intro S10
          refine ok_aload_n 0 hc dX12_cause_118 rfl rfl ?_
          refine ok_iload_n 1 hc dX12_cause_119 rfl rfl ?_
          refine ok_aload_n 0 hc dX12_cause_120 rfl rfl ?_
          refine ok_iload_n 1 hc dX12_cause_121 rfl rfl ?_
          refine ok_iload_n 2 hc dX12_cause_122 rfl rfl ?_
          refine ok_iload 4 hc dX12_cause_123 rfl ?_
          refine ok_iconst (v := (-1)) hc dX12_cause_125 (by decide) ?_
          refine ok_ixor hc dX12_cause_126 ?_
          refine ok_iand hc dX12_cause_127 ?_
          refine ok_callVl (As := [.int a1, .int (a2 &&& (a4 ^^^ (-1)))]) (st := [.int a1, rv Γ 0]) (fun n0 => [.ref (n0 + 0), .int a1, .int (a2 &&& (a4 ^^^ (-1)))]) hc VS_X12_262 sM_0 rfl rfl rfl ⟨Nat.le_of_ble_eq_true rfl, Nat.le_of_ble_eq_true rfl⟩ (Nat.le_of_ble_eq_true rfl) (fun q h => tX12_drownsBy a1 (a2 &&& (a4 ^^^ (-1))) S10 q h) dX12_cause_128 (fun v12 S13 => ?_)
          refine ok_callVi (As := [.int a1, .long v12]) (st := []) (fun n0 => [.ref (n0 + 0), .int a1, .long v12]) hc VS_X12_266 sM_0 rfl rfl rfl ⟨Nat.le_of_ble_eq_true rfl, Nat.le_of_ble_eq_true rfl⟩ (Nat.le_of_ble_eq_true rfl) (fun q h => tX12_isHeard a1 v12 S13 q h) dX12_cause_131 (fun v14 S15 => ?_)
          refine ok_if_eq_ite 140 hc dX12_cause_134 (by decide) (fun h16 => ?_) (fun h16 => ?_)
          · exact hk8 _ _
          · refine ok_iload 4 hc dX12_cause_137 rfl ?_
            refine ok_istore_n [(3, .int a4), (0, rv Γ 0), (1, .int a1), (2, .int a2), (4, .int a4)] hc dX12_cause_139 rfl (Nat.le_of_ble_eq_true rfl) rfl ?_
            refine ok_sub [1, 2, 3, 0, 4] rfl ?_
            exact hk8 _ _
        · refine ok_icmp_lt_ite 118 hc dX12_cause_97 (by decide) (fun h17 => ?_) (fun h17 => ?_)
          · exact hk11 _
          · refine ok_iload 4 hc dX12_cause_100 rfl ?_
            refine ok_callSi (As := [.int a4]) (st := []) (fun n0 => [.int a4]) hc SS_X12_274 rfl rfl rfl ⟨Nat.le_of_ble_eq_true rfl, Nat.le_of_ble_eq_true rfl⟩ (Nat.le_of_ble_eq_true rfl) (fun q h => tX12_ones a4 S5 q h) dX12_cause_102 (fun v18 S19 => ?_)
            refine ok_iload_n 3 hc dX12_cause_105 rfl rfl ?_
            refine ok_callSi (As := [.int a3]) (st := [.int v18]) (fun n0 => [.int a3]) hc SS_X12_274 rfl rfl rfl ⟨Nat.le_of_ble_eq_true rfl, Nat.le_of_ble_eq_true rfl⟩ (Nat.le_of_ble_eq_true rfl) (fun q h => tX12_ones a3 S19 q h) dX12_cause_106 (fun v20 S21 => ?_)
            refine ok_icmp_ne_ite 140 hc dX12_cause_109 (by decide) (fun h22 => ?_) (fun h22 => ?_)
            · exact hk8 _ _
            · refine ok_iload 4 hc dX12_cause_112 rfl ?_
              refine ok_iload_n 3 hc dX12_cause_114 rfl rfl ?_
              refine ok_icmp_ge_ite 140 hc dX12_cause_115 (by decide) (fun h23 => ?_) (fun h23 => ?_)
              · exact hk8 _ _
              · exact hk11 _
set_option maxRecDepth 100000 in
set_option maxHeartbeats 4000000 in
theorem tX12_cause (a1 : Int32) (S : St) (q : Int32 × St) (h : fX12_cause a1 S = some q) : MT vI wM mX12_cause (fun n0 => [.ref (n0 + 0), .int a1]) S q := by
  refine mt_of (show plainFor yX12_cause = true from by decide) (fun _ => Nat.le_of_ble_eq_true rfl) ?_
  intro Γ hc _
  rw [← h]
  show Ok Γ wM 0 [(0, rv Γ 0), (1, .int a1)] [] S _
  unfold fX12_cause
  refine ok_aload_n 0 hc dX12_cause_0 rfl rfl ?_
  refine ok_iload_n 1 hc dX12_cause_1 rfl rfl ?_
  refine ok_callVi (As := [.int a1]) (st := []) (fun n0 => [.ref (n0 + 0), .int a1]) hc VS_X12_237 sM_0 rfl rfl rfl ⟨Nat.le_of_ble_eq_true rfl, Nat.le_of_ble_eq_true rfl⟩ (Nat.le_of_ble_eq_true rfl) (fun q h => tX12_isSender a1 S q h) dX12_cause_2 (fun v1 S2 => ?_)
  refine ok_if_ne_ite 11 hc dX12_cause_5 (by decide) (fun h3 => ?_) (fun h3 => ?_)
  · refine ok_aload_n 0 hc dX12_cause_11 rfl rfl ?_
    refine ok_getr 16 hc FS_X12_63 rfl sM_0 rfl dX12_cause_12 ?_
    refine ok_iload_n 1 hc dX12_cause_15 rfl rfl ?_
    refine ok_zald hc sM_16 dX12_cause_16 (fun h4 => ?_)
    refine ok_if_ne_ite 23 hc dX12_cause_17 (by decide) (fun h5 => ?_) (fun h5 => ?_)
    · refine ok_aload_n 0 hc dX12_cause_23 rfl rfl ?_
      refine ok_iload_n 1 hc dX12_cause_24 rfl rfl ?_
      refine ok_callVi (As := [.int a1]) (st := []) (fun n0 => [.ref (n0 + 0), .int a1]) hc VS_X12_259 sM_0 rfl rfl rfl ⟨Nat.le_of_ble_eq_true rfl, Nat.le_of_ble_eq_true rfl⟩ (Nat.le_of_ble_eq_true rfl) (fun q h => tX12_others a1 S2 q h) dX12_cause_25 (fun v6 S7 => ?_)
      refine ok_istore_n [(2, .int v6), (0, rv Γ 0), (1, .int a1)] hc dX12_cause_28 rfl (Nat.le_of_ble_eq_true rfl) rfl ?_
      refine ok_iload_n 0 hc dX12_cause_29 rfl rfl ?_
      refine ok_callSi (As := [.int v6]) (st := []) (fun n0 => [.int v6]) hc SS_X12_274 rfl rfl rfl ⟨Nat.le_of_ble_eq_true rfl, Nat.le_of_ble_eq_true rfl⟩ (Nat.le_of_ble_eq_true rfl) (fun q h => tX12_ones v6 S7 q h) dX12_cause_30 (fun v8 S9 => ?_)
      refine ok_bipush (v := 10) hc dX12_cause_33 (by decide) ?_
      refine ok_icmp_le_ite 41 hc dX12_cause_35 (by decide) (fun h10 => ?_) (fun h10 => ?_)
      · refine ok_aload_n 1 hc dX12_cause_41 rfl rfl ?_
        refine ok_iload_n 2 hc dX12_cause_42 rfl rfl ?_
        refine ok_aload_n 1 hc dX12_cause_43 rfl rfl ?_
        refine ok_iload_n 2 hc dX12_cause_44 rfl rfl ?_
        refine ok_iload_n 0 hc dX12_cause_45 rfl rfl ?_
        refine ok_callVl (As := [.int a1, .int v6]) (st := [.int a1, rv Γ 0]) (fun n0 => [.ref (n0 + 0), .int a1, .int v6]) hc VS_X12_262 sM_0 rfl rfl rfl ⟨Nat.le_of_ble_eq_true rfl, Nat.le_of_ble_eq_true rfl⟩ (Nat.le_of_ble_eq_true rfl) (fun q h => tX12_drownsBy a1 v6 S9 q h) dX12_cause_46 (fun v11 S12 => ?_)
        refine ok_callVi (As := [.int a1, .long v11]) (st := []) (fun n0 => [.ref (n0 + 0), .int a1, .long v11]) hc VS_X12_266 sM_0 rfl rfl rfl ⟨Nat.le_of_ble_eq_true rfl, Nat.le_of_ble_eq_true rfl⟩ (Nat.le_of_ble_eq_true rfl) (fun q h => tX12_isHeard a1 v11 S12 q h) dX12_cause_49 (fun v13 S14 => ?_)
        refine ok_if_eq_ite 57 hc dX12_cause_52 (by decide) (fun h15 => ?_) (fun h15 => ?_)
        · refine ok_aload_n 1 hc dX12_cause_57 rfl rfl ?_
          refine ok_iload_n 2 hc dX12_cause_58 rfl rfl ?_
          refine ok_aload_n 1 hc dX12_cause_59 rfl rfl ?_
          refine ok_getr 5 hc FS_X12_30 rfl sM_0 rfl dX12_cause_60 ?_
          refine ok_iconst (v := 2) hc dX12_cause_63 (by decide) ?_
          refine ok_ialdK hc sM_5 (by decide) dX12_cause_64 ?_
          refine ok_i2l hc dX12_cause_65 ?_
          refine ok_callVi (As := [.int a1, .long ((S14.1 5 (nt 2)).toInt64)]) (st := []) (fun n0 => [.ref (n0 + 0), .int a1, .long ((S14.1 5 (nt 2)).toInt64)]) hc VS_X12_266 sM_0 rfl rfl rfl ⟨Nat.le_of_ble_eq_true rfl, Nat.le_of_ble_eq_true rfl⟩ (Nat.le_of_ble_eq_true rfl) (fun q h => tX12_isHeard a1 ((S14.1 5 (nt 2)).toInt64) S14 q h) dX12_cause_66 (fun v16 S17 => ?_)
          refine ok_if_ne_ite 74 hc dX12_cause_69 (by decide) (fun h18 => ?_) (fun h18 => ?_)
          · refine ok_iload_n 0 hc dX12_cause_74 rfl rfl ?_
            refine ok_istore_n [(3, .int v6), (2, .int v6), (0, rv Γ 0), (1, .int a1)] hc dX12_cause_75 rfl (Nat.le_of_ble_eq_true rfl) rfl ?_
            refine ok_iconst (v := 0) hc dX12_cause_76 (by decide) ?_
            refine ok_iload_n 1 hc dX12_cause_77 rfl rfl ?_
            refine ok_isub hc dX12_cause_78 ?_
            refine ok_iload_n 1 hc dX12_cause_79 rfl rfl ?_
            refine ok_iand hc dX12_cause_80 ?_
            refine ok_lti (fun v19 => ?_)
            refine ok_istore [(4, .int v19), (3, .int v6), (2, .int v6), (0, rv Γ 0), (1, .int a1)] hc dX12_cause_81 (Nat.le_of_ble_eq_true rfl) rfl ?_
            refine ok_sub [3, 4, 2, 1, 0] rfl ?_
            refine tX12_cause_L83 hc _ _   FU _ _ _
          · refine ok_iconst (v := (-1)) hc dX12_cause_72 (by decide) ?_
            exact ok_iret hc rfl dX12_cause_73
        · refine ok_iconst (v := 0) hc dX12_cause_55 (by decide) ?_
          exact ok_iret hc rfl dX12_cause_56
      · refine ok_bipush (v := (-4)) hc dX12_cause_38 (by decide) ?_
        exact ok_iret hc rfl dX12_cause_40
    · refine ok_bipush (v := (-3)) hc dX12_cause_20 (by decide) ?_
      exact ok_iret hc rfl dX12_cause_22
  · refine ok_bipush (v := (-2)) hc dX12_cause_8 (by decide) ?_
    exact ok_iret hc rfl dX12_cause_10
def fX12_isStrength (a0 : Int32) (S : St) : Option (Int32 × St) :=
  bnd (fX12_in a0.toInt64 1 1000000 S) (fun v1 S2 => if b01 v1 then some (v1, S2) else none)
set_option maxRecDepth 100000 in
set_option maxHeartbeats 4000000 in
theorem tX12_isStrength (a0 : Int32) (S : St) (q : Int32 × St) (h : fX12_isStrength a0 S = some q) : MT vI wM mX12_isStrength (fun n0 => [.int a0]) S q := by
  refine mt_of (show plainFor yX12_isStrength = true from by decide) (fun _ => Nat.le_of_ble_eq_true rfl) ?_
  intro Γ hc _
  rw [← h]
  show Ok Γ wM 0 [(0, .int a0)] [] S _
  unfold fX12_isStrength
  refine ok_iload_n 0 hc dX12_isStrength_0 rfl rfl ?_
  refine ok_i2l hc dX12_isStrength_1 ?_
  refine ok_lconst (v := 1) hc dX12_isStrength_2 (by decide) ?_
  refine ok_ldc2 hc dX12_isStrength_3 W_1335 ?_
  refine ok_callSi (As := [.long a0.toInt64, .long 1, .long 1000000]) (st := []) (fun n0 => [.long a0.toInt64, .long 1, .long 1000000]) hc SS_X12_152 rfl rfl rfl ⟨Nat.le_of_ble_eq_true rfl, Nat.le_of_ble_eq_true rfl⟩ (Nat.le_of_ble_eq_true rfl) (fun q h => tX12_in a0.toInt64 1 1000000 S q h) dX12_isStrength_6 (fun v1 S2 => ?_)
  exact ok_zret hc rfl dX12_isStrength_9
def fX12_isSlack (a0 : Int32) (S : St) : Option (Int32 × St) :=
  bnd (fX12_in a0.toInt64 0 100 S) (fun v1 S2 => if b01 v1 then some (v1, S2) else none)
set_option maxRecDepth 100000 in
set_option maxHeartbeats 4000000 in
theorem tX12_isSlack (a0 : Int32) (S : St) (q : Int32 × St) (h : fX12_isSlack a0 S = some q) : MT vI wM mX12_isSlack (fun n0 => [.int a0]) S q := by
  refine mt_of (show plainFor yX12_isSlack = true from by decide) (fun _ => Nat.le_of_ble_eq_true rfl) ?_
  intro Γ hc _
  rw [← h]
  show Ok Γ wM 0 [(0, .int a0)] [] S _
  unfold fX12_isSlack
  refine ok_iload_n 0 hc dX12_isSlack_0 rfl rfl ?_
  refine ok_i2l hc dX12_isSlack_1 ?_
  refine ok_lconst (v := 0) hc dX12_isSlack_2 (by decide) ?_
  refine ok_ldc2 hc dX12_isSlack_3 W_1425 ?_
  refine ok_callSi (As := [.long a0.toInt64, .long 0, .long 100]) (st := []) (fun n0 => [.long a0.toInt64, .long 0, .long 100]) hc SS_X12_152 rfl rfl rfl ⟨Nat.le_of_ble_eq_true rfl, Nat.le_of_ble_eq_true rfl⟩ (Nat.le_of_ble_eq_true rfl) (fun q h => tX12_in a0.toInt64 0 100 S q h) dX12_isSlack_6 (fun v1 S2 => ?_)
  exact ok_zret hc rfl dX12_isSlack_9
def fX12_cell_L27_st (a1 : Int32) (a2 : Int32) (a3 : Int32) (rec : Int32 → Int32 → St → Option (Int32 × St)) (a4 : Int32) (a5 : Int32) (S : St) : Option (Int32 × St) :=
  if ((S.1 0 5) * (S.1 0 6)) ≤ a5 then (some ((-1), S)) else (bnd (fX12_agrees a5 a1 a2 S) (fun v2 S3 => jn (fun (v4 : Int32) => rec v4 (a5 + 1) S3) (fun k5 => if v2 = 0 then (k5 a4) else (if a4 = a3 then (some (a5, S3)) else (k5 (a4 + 1))))))
def fX12_cell_L27 (a1 : Int32) (a2 : Int32) (a3 : Int32) : Nat → Int32 → Int32 → St → Option (Int32 × St)
  | 0 => fun _ _ _ => none
  | n + 1 => fun a4 a5 S => fX12_cell_L27_st a1 a2 a3 (fX12_cell_L27 a1 a2 a3 n) a4 a5 S
def fX12_cell (a1 : Int32) (a2 : Int32) (a3 : Int32) (S : St) : Option (Int32 × St) :=
  bnd (fX12_isStrength a1 S) (fun v1 S2 => if v1 = 0 then (some ((-2), S2)) else (bnd (fX12_isSlack a2 S2) (fun v4 S5 => if v4 = 0 then (some ((-2), S5)) else (if 0 ≤ a3 then (fX12_cell_L27 a1 a2 a3 FU 0 0 S5) else (some ((-2), S5))))))
set_option maxRecDepth 100000 in
set_option maxHeartbeats 4000000 in
theorem tX12_cell_L27 {Γ : Cx Int32} (hc : Cok Γ wM vI mX12_cell) (a1 : Int32) (a2 : Int32) (a3 : Int32) : ∀ (n : Nat) (a4 : Int32) (a5 : Int32) (S : St), Ok Γ wM 27 [(0, rv Γ 0), (1, .int a1), (2, .int a2), (3, .int a3), (4, .int a4), (5, .int a5)] [] S (fX12_cell_L27 a1 a2 a3 n a4 a5 S) := by
  intro n
  induction n with
  | zero =>
    intro a4 a5 S
    exact ok_none
  | succ n ih =>
    intro a4 a5 S
    show Ok Γ wM 27 [(0, rv Γ 0), (1, .int a1), (2, .int a2), (3, .int a3), (4, .int a4), (5, .int a5)] [] S (fX12_cell_L27_st a1 a2 a3 (fX12_cell_L27 a1 a2 a3 n) a4 a5 S)
    unfold fX12_cell_L27_st
    refine ok_iload 5 hc dX12_cell_27 rfl ?_
    refine ok_aload_n 0 hc dX12_cell_29 rfl rfl ?_
    refine ok_geti hc FS_X12_23 rfl sM_0 dX12_cell_30 ?_
    refine ok_aload_n 0 hc dX12_cell_33 rfl rfl ?_
    refine ok_geti hc FS_X12_27 rfl sM_0 dX12_cell_34 ?_
    refine ok_imul hc dX12_cell_37 ?_
    refine ok_icmp_ge_ite 70 hc dX12_cell_38 (by decide) (fun h1 => ?_) (fun h1 => ?_)
    · refine ok_iconst (v := (-1)) hc dX12_cell_70 (by decide) ?_
      exact ok_iret hc rfl dX12_cell_71
    · refine ok_aload_n 0 hc dX12_cell_41 rfl rfl ?_
      refine ok_iload 5 hc dX12_cell_42 rfl ?_
      refine ok_iload_n 1 hc dX12_cell_44 rfl rfl ?_
      refine ok_iload_n 2 hc dX12_cell_45 rfl rfl ?_
      refine ok_callVi (As := [.int a5, .int a1, .int a2]) (st := []) (fun n0 => [.ref (n0 + 0), .int a5, .int a1, .int a2]) hc VS_X12_390 sM_0 rfl rfl rfl ⟨Nat.le_of_ble_eq_true rfl, Nat.le_of_ble_eq_true rfl⟩ (Nat.le_of_ble_eq_true rfl) (fun q h => tX12_agrees a5 a1 a2 S q h) dX12_cell_46 (fun v2 S3 => ?_)
      refine ok_jn (fun g => ∀ (v4 : Int32), Ok Γ wM 64 [(0, rv Γ 0), (1, .int a1), (2, .int a2), (3, .int a3), (4, .int v4), (5, .int a5)] [] S3 (g v4)) ?_ (fun k5 hk5 => ?_)
      · intro v4
        refine ok_iinc (v := 1) 5 [(5, .int (a5 + 1)), (0, rv Γ 0), (1, .int a1), (2, .int a2), (3, .int a3), (4, .int v4)] hc dX12_cell_64 rfl (by decide) (Nat.le_of_ble_eq_true rfl) rfl ?_
        refine ok_goto 27 hc dX12_cell_67 (by decide) ?_
        refine ok_sub [1, 2, 3, 4, 5, 0] rfl ?_
        exact ih _ _ _
      · refine ok_if_eq_ite 64 hc dX12_cell_49 (by decide) (fun h6 => ?_) (fun h6 => ?_)
        · exact hk5 _
        · refine ok_iload 4 hc dX12_cell_52 rfl ?_
          refine ok_iload_n 3 hc dX12_cell_54 rfl rfl ?_
          refine ok_icmp_ne_ite 61 hc dX12_cell_55 (by decide) (fun h7 => ?_) (fun h7 => ?_)
          · refine ok_iinc (v := 1) 4 [(4, .int (a4 + 1)), (0, rv Γ 0), (1, .int a1), (2, .int a2), (3, .int a3), (5, .int a5)] hc dX12_cell_61 rfl (by decide) (Nat.le_of_ble_eq_true rfl) rfl ?_
            refine ok_sub [1, 2, 3, 4, 0, 5] rfl ?_
            exact hk5 _
          · refine ok_iload 5 hc dX12_cell_58 rfl ?_
            exact ok_iret hc rfl dX12_cell_60
set_option maxRecDepth 100000 in
set_option maxHeartbeats 4000000 in
theorem tX12_cell (a1 : Int32) (a2 : Int32) (a3 : Int32) (S : St) (q : Int32 × St) (h : fX12_cell a1 a2 a3 S = some q) : MT vI wM mX12_cell (fun n0 => [.ref (n0 + 0), .int a1, .int a2, .int a3]) S q := by
  refine mt_of (show plainFor yX12_cell = true from by decide) (fun _ => Nat.le_of_ble_eq_true rfl) ?_
  intro Γ hc _
  rw [← h]
  show Ok Γ wM 0 [(0, rv Γ 0), (1, .int a1), (2, .int a2), (3, .int a3)] [] S _
  unfold fX12_cell
  refine ok_iload_n 1 hc dX12_cell_0 rfl rfl ?_
  refine ok_callSi (As := [.int a1]) (st := []) (fun n0 => [.int a1]) hc SS_X12_229 rfl rfl rfl ⟨Nat.le_of_ble_eq_true rfl, Nat.le_of_ble_eq_true rfl⟩ (Nat.le_of_ble_eq_true rfl) (fun q h => tX12_isStrength a1 S q h) dX12_cell_1 (fun v1 S2 => ?_)
  refine ok_if_eq_ite 18 hc dX12_cell_4 (by decide) (fun h3 => ?_) (fun h3 => ?_)
  · refine ok_bipush (v := (-2)) hc dX12_cell_18 (by decide) ?_
    exact ok_iret hc rfl dX12_cell_20
  · refine ok_iload_n 2 hc dX12_cell_7 rfl rfl ?_
    refine ok_callSi (As := [.int a2]) (st := []) (fun n0 => [.int a2]) hc SS_X12_387 rfl rfl rfl ⟨Nat.le_of_ble_eq_true rfl, Nat.le_of_ble_eq_true rfl⟩ (Nat.le_of_ble_eq_true rfl) (fun q h => tX12_isSlack a2 S2 q h) dX12_cell_8 (fun v4 S5 => ?_)
    refine ok_if_eq_ite 18 hc dX12_cell_11 (by decide) (fun h6 => ?_) (fun h6 => ?_)
    · refine ok_bipush (v := (-2)) hc dX12_cell_18 (by decide) ?_
      exact ok_iret hc rfl dX12_cell_20
    · refine ok_iload_n 3 hc dX12_cell_14 rfl rfl ?_
      refine ok_if_ge_ite 21 hc dX12_cell_15 (by decide) (fun h7 => ?_) (fun h7 => ?_)
      · refine ok_iconst (v := 0) hc dX12_cell_21 (by decide) ?_
        refine ok_istore [(4, .int 0), (0, rv Γ 0), (1, .int a1), (2, .int a2), (3, .int a3)] hc dX12_cell_22 (Nat.le_of_ble_eq_true rfl) rfl ?_
        refine ok_iconst (v := 0) hc dX12_cell_24 (by decide) ?_
        refine ok_istore [(5, .int 0), (4, .int 0), (0, rv Γ 0), (1, .int a1), (2, .int a2), (3, .int a3)] hc dX12_cell_25 (Nat.le_of_ble_eq_true rfl) rfl ?_
        refine ok_sub [2, 3, 4, 5, 1, 0] rfl ?_
        refine tX12_cell_L27 hc _ _ _   FU _ _ _
      · refine ok_bipush (v := (-2)) hc dX12_cell_18 (by decide) ?_
        exact ok_iret hc rfl dX12_cell_20
def fX12_cells_L22_st (a1 : Int32) (a2 : Int32) (rec : Int32 → Int32 → St → Option (Int32 × St)) (a3 : Int32) (a4 : Int32) (S : St) : Option (Int32 × St) :=
  if ((S.1 0 5) * (S.1 0 6)) ≤ a4 then (some (a3, S)) else (bnd (fX12_agrees a4 a1 a2 S) (fun v2 S3 => lt (if v2 = 0 then 0 else 1) (fun (v4 : Int32) => lt (a3 + v4) (fun (v6 : Int32) => rec v6 (a4 + 1) S3))))
def fX12_cells_L22 (a1 : Int32) (a2 : Int32) : Nat → Int32 → Int32 → St → Option (Int32 × St)
  | 0 => fun _ _ _ => none
  | n + 1 => fun a3 a4 S => fX12_cells_L22_st a1 a2 (fX12_cells_L22 a1 a2 n) a3 a4 S
def fX12_cells (a1 : Int32) (a2 : Int32) (S : St) : Option (Int32 × St) :=
  bnd (fX12_isStrength a1 S) (fun v1 S2 => if v1 = 0 then (some ((-2), S2)) else (bnd (fX12_isSlack a2 S2) (fun v4 S5 => if v4 = 0 then (some ((-2), S5)) else (fX12_cells_L22 a1 a2 FU 0 0 S5))))
set_option maxRecDepth 100000 in
set_option maxHeartbeats 4000000 in
theorem tX12_cells_L22 {Γ : Cx Int32} (hc : Cok Γ wM vI mX12_cells) (a1 : Int32) (a2 : Int32) : ∀ (n : Nat) (a3 : Int32) (a4 : Int32) (S : St), Ok Γ wM 22 [(0, rv Γ 0), (1, .int a1), (2, .int a2), (3, .int a3), (4, .int a4)] [] S (fX12_cells_L22 a1 a2 n a3 a4 S) := by
  intro n
  induction n with
  | zero =>
    intro a3 a4 S
    exact ok_none
  | succ n ih =>
    intro a3 a4 S
    show Ok Γ wM 22 [(0, rv Γ 0), (1, .int a1), (2, .int a2), (3, .int a3), (4, .int a4)] [] S (fX12_cells_L22_st a1 a2 (fX12_cells_L22 a1 a2 n) a3 a4 S)
    unfold fX12_cells_L22_st
    refine ok_iload 4 hc dX12_cells_22 rfl ?_
    refine ok_aload_n 0 hc dX12_cells_24 rfl rfl ?_
    refine ok_geti hc FS_X12_23 rfl sM_0 dX12_cells_25 ?_
    refine ok_aload_n 0 hc dX12_cells_28 rfl rfl ?_
    refine ok_geti hc FS_X12_27 rfl sM_0 dX12_cells_29 ?_
    refine ok_imul hc dX12_cells_32 ?_
    refine ok_icmp_ge_ite 61 hc dX12_cells_33 (by decide) (fun h1 => ?_) (fun h1 => ?_)
    · refine ok_iload_n 3 hc dX12_cells_61 rfl rfl ?_
      exact ok_iret hc rfl dX12_cells_62
    · refine ok_iload_n 3 hc dX12_cells_36 rfl rfl ?_
      refine ok_aload_n 0 hc dX12_cells_37 rfl rfl ?_
      refine ok_iload 4 hc dX12_cells_38 rfl ?_
      refine ok_iload_n 1 hc dX12_cells_40 rfl rfl ?_
      refine ok_iload_n 2 hc dX12_cells_41 rfl rfl ?_
      refine ok_callVi (As := [.int a4, .int a1, .int a2]) (st := [.int a3]) (fun n0 => [.ref (n0 + 0), .int a4, .int a1, .int a2]) hc VS_X12_390 sM_0 rfl rfl rfl ⟨Nat.le_of_ble_eq_true rfl, Nat.le_of_ble_eq_true rfl⟩ (Nat.le_of_ble_eq_true rfl) (fun q h => tX12_agrees a4 a1 a2 S q h) dX12_cells_42 (fun v2 S3 => ?_)
      refine ok_lt (fun g => ∀ (v4 : Int32), Ok Γ wM 53 [(0, rv Γ 0), (1, .int a1), (2, .int a2), (4, .int a4)] [.int v4, .int a3] S3 (g v4)) ?_ (fun k5 hk5 => ?_)
      · intro v4
        refine ok_iadd hc dX12_cells_53 ?_
        refine ok_lti (fun v6 => ?_)
        refine ok_istore_n [(3, .int v6), (0, rv Γ 0), (1, .int a1), (2, .int a2), (4, .int a4)] hc dX12_cells_54 rfl (Nat.le_of_ble_eq_true rfl) rfl ?_
        refine ok_iinc (v := 1) 4 [(4, .int (a4 + 1)), (3, .int v6), (0, rv Γ 0), (1, .int a1), (2, .int a2)] hc dX12_cells_55 rfl (by decide) (Nat.le_of_ble_eq_true rfl) rfl ?_
        refine ok_goto 22 hc dX12_cells_58 (by decide) ?_
        refine ok_sub [2, 3, 4, 1, 0] rfl ?_
        exact ih _ _ _
      · refine ok_if_eq 52 hc dX12_cells_45 (by decide) (fun h7 => ?_) (fun h7 => ?_)
        · rw [if_pos h7]
          refine ok_iconst (v := 0) hc dX12_cells_52 (by decide) ?_
          refine ok_sub [0, 1, 2, 4] rfl ?_
          exact hk5 _
        · rw [if_neg h7]
          refine ok_iconst (v := 1) hc dX12_cells_48 (by decide) ?_
          refine ok_goto 53 hc dX12_cells_49 (by decide) ?_
          refine ok_sub [0, 1, 2, 4] rfl ?_
          exact hk5 _
set_option maxRecDepth 100000 in
set_option maxHeartbeats 4000000 in
theorem tX12_cells (a1 : Int32) (a2 : Int32) (S : St) (q : Int32 × St) (h : fX12_cells a1 a2 S = some q) : MT vI wM mX12_cells (fun n0 => [.ref (n0 + 0), .int a1, .int a2]) S q := by
  refine mt_of (show plainFor yX12_cells = true from by decide) (fun _ => Nat.le_of_ble_eq_true rfl) ?_
  intro Γ hc _
  rw [← h]
  show Ok Γ wM 0 [(0, rv Γ 0), (1, .int a1), (2, .int a2)] [] S _
  unfold fX12_cells
  refine ok_iload_n 1 hc dX12_cells_0 rfl rfl ?_
  refine ok_callSi (As := [.int a1]) (st := []) (fun n0 => [.int a1]) hc SS_X12_229 rfl rfl rfl ⟨Nat.le_of_ble_eq_true rfl, Nat.le_of_ble_eq_true rfl⟩ (Nat.le_of_ble_eq_true rfl) (fun q h => tX12_isStrength a1 S q h) dX12_cells_1 (fun v1 S2 => ?_)
  refine ok_if_eq_ite 14 hc dX12_cells_4 (by decide) (fun h3 => ?_) (fun h3 => ?_)
  · refine ok_bipush (v := (-2)) hc dX12_cells_14 (by decide) ?_
    exact ok_iret hc rfl dX12_cells_16
  · refine ok_iload_n 2 hc dX12_cells_7 rfl rfl ?_
    refine ok_callSi (As := [.int a2]) (st := []) (fun n0 => [.int a2]) hc SS_X12_387 rfl rfl rfl ⟨Nat.le_of_ble_eq_true rfl, Nat.le_of_ble_eq_true rfl⟩ (Nat.le_of_ble_eq_true rfl) (fun q h => tX12_isSlack a2 S2 q h) dX12_cells_8 (fun v4 S5 => ?_)
    refine ok_if_ne_ite 17 hc dX12_cells_11 (by decide) (fun h6 => ?_) (fun h6 => ?_)
    · refine ok_iconst (v := 0) hc dX12_cells_17 (by decide) ?_
      refine ok_istore_n [(3, .int 0), (0, rv Γ 0), (1, .int a1), (2, .int a2)] hc dX12_cells_18 rfl (Nat.le_of_ble_eq_true rfl) rfl ?_
      refine ok_iconst (v := 0) hc dX12_cells_19 (by decide) ?_
      refine ok_istore [(4, .int 0), (3, .int 0), (0, rv Γ 0), (1, .int a1), (2, .int a2)] hc dX12_cells_20 (Nat.le_of_ble_eq_true rfl) rfl ?_
      refine ok_sub [2, 3, 4, 1, 0] rfl ?_
      refine tX12_cells_L22 hc _ _   FU _ _ _
    · refine ok_bipush (v := (-2)) hc dX12_cells_14 (by decide) ?_
      exact ok_iret hc rfl dX12_cells_16
def fX12_change (a1 : Int32) (a2 : Int32) (a3 : Int32) (S : St) : Option (Int32 × St) :=
  bnd (fX12_isSender a1 S) (fun v1 S2 => if v1 = 0 then (some ((-2), S2)) else (jn (fun (v4 : Int32) (S5 : St) => if v4 = 0 then (some ((-2), S5)) else (if a2 = 0 then (if ib a1 20 then (lt (S5.1 8 (nt a1)) (fun (v10 : Int32) => if ib a1 20 then lt (wi S5 8 (nt a1) a3) (fun S11 => some (v10, S11)) else none)) else none) else if a2 = 1 then (if ib a1 20 then (lt (S5.1 12 (nt a1)) (fun (v15 : Int32) => if ib a1 20 then lt (wi S5 12 (nt a1) a3) (fun S16 => some (v15, S16)) else none)) else none) else if a2 = 2 then (if ib a1 20 then (lt (S5.1 13 (nt a1)) (fun (v20 : Int32) => if ib a1 20 then lt (wi S5 13 (nt a1) a3) (fun S21 => some (v20, S21)) else none)) else none) else if a2 = 3 then (if ib a1 20 then (lt (S5.1 14 (nt a1)) (fun (v25 : Int32) => if ib a1 20 then lt (wi S5 14 (nt a1) a3) (fun S26 => some (v25, S26)) else none)) else none) else (if ib a1 20 then (lt (S5.1 15 (nt a1)) (fun (v29 : Int32) => if ib a1 20 then lt (wi S5 15 (nt a1) a3) (fun S30 => some (v29, S30)) else none)) else none))) (fun k6 => if a2 = 0 then (bnd (fX12_isStrength a3 S2) (fun v52 S53 => k6 v52 S53)) else (if a2 = 1 then (bnd (fX12_in a3.toInt64 0 1000 S2) (fun v50 S51 => k6 v50 S51)) else (if a2 = 2 then (bnd (fX12_in a3.toInt64 0 11 S2) (fun v48 S49 => k6 v48 S49)) else (if a2 = 3 then (bnd (fX12_isHopping a1 S2) (fun v42 S43 => if v42 = 0 then (k6 0 S43) else (bnd (fX12_in a3.toInt64 0 11 S43) (fun v45 S46 => if v45 = 0 then (k6 0 S46) else (k6 1 S46))))) else (if a2 = 4 then (if ib a1 20 then (if (S2.1 6 (nt a1)) = 1 then (bnd (fX12_in a3.toInt64 (-1) 5 S2) (fun v39 S40 => if v39 = 0 then (k6 0 S40) else (k6 1 S40))) else (k6 0 S2)) else none) else (k6 0 S2))))))))
set_option maxRecDepth 100000 in
set_option maxHeartbeats 4000000 in
theorem tX12_change (a1 : Int32) (a2 : Int32) (a3 : Int32) (S : St) (q : Int32 × St) (h : fX12_change a1 a2 a3 S = some q) : MT vI wM mX12_change (fun n0 => [.ref (n0 + 0), .int a1, .int a2, .int a3]) S q := by
  refine mt_of (show plainFor yX12_change = true from by decide) (fun _ => Nat.le_of_ble_eq_true rfl) ?_
  intro Γ hc _
  rw [← h]
  show Ok Γ wM 0 [(0, rv Γ 0), (1, .int a1), (2, .int a2), (3, .int a3)] [] S _
  unfold fX12_change
  refine ok_aload_n 0 hc dX12_change_0 rfl rfl ?_
  refine ok_iload_n 1 hc dX12_change_1 rfl rfl ?_
  refine ok_callVi (As := [.int a1]) (st := []) (fun n0 => [.ref (n0 + 0), .int a1]) hc VS_X12_237 sM_0 rfl rfl rfl ⟨Nat.le_of_ble_eq_true rfl, Nat.le_of_ble_eq_true rfl⟩ (Nat.le_of_ble_eq_true rfl) (fun q h => tX12_isSender a1 S q h) dX12_change_2 (fun v1 S2 => ?_)
  refine ok_if_ne_ite 11 hc dX12_change_5 (by decide) (fun h3 => ?_) (fun h3 => ?_)
  · refine ok_iload_n 2 hc dX12_change_11 rfl rfl ?_
    refine ok_jn (fun g => ∀ (v4 : Int32) (S5 : St), Ok Γ wM 123 [(0, rv Γ 0), (1, .int a1), (2, .int a2), (3, .int a3)] [.int v4] S5 (g v4 S5)) ?_ (fun k6 hk6 => ?_)
    · intro v4 S5
      refine ok_istore [(4, .int v4), (0, rv Γ 0), (1, .int a1), (2, .int a2), (3, .int a3)] hc dX12_change_123 (Nat.le_of_ble_eq_true rfl) rfl ?_
      refine ok_iload 0 hc dX12_change_125 rfl ?_
      refine ok_if_ne_ite 133 hc dX12_change_127 (by decide) (fun h7 => ?_) (fun h7 => ?_)
      · refine ok_iload_n 3 hc dX12_change_133 rfl rfl ?_
        refine ok_ite (fun h8 => ?_) (fun h8 => ?_)
        · refine ok_tswIn (v := 0) 164 hc dX12_change_134 h8 (by decide) (by decide) rfl (by decide) ?_
          refine ok_aload_n 1 hc dX12_change_164 rfl rfl ?_
          refine ok_getr 8 hc FS_X12_39 rfl sM_0 rfl dX12_change_165 ?_
          refine ok_iload_n 2 hc dX12_change_168 rfl rfl ?_
          refine ok_iald hc sM_8 dX12_change_169 (fun h9 => ?_)
          refine ok_lti (fun v10 => ?_)
          refine ok_istore [(5, .int v10), (4, .int v4), (0, rv Γ 0), (1, .int a1), (2, .int a2), (3, .int a3)] hc dX12_change_170 (Nat.le_of_ble_eq_true rfl) rfl ?_
          refine ok_aload_n 2 hc dX12_change_172 rfl rfl ?_
          refine ok_getr 8 hc FS_X12_39 rfl sM_0 rfl dX12_change_173 ?_
          refine ok_iload_n 3 hc dX12_change_176 rfl rfl ?_
          refine ok_iload_n 5 hc dX12_change_177 rfl rfl ?_
          refine ok_iast hc sM_8 dX12_change_178 (fun h12 => ?_)
          refine ok_ltS (fun S11 => ?_)
          refine ok_iload 0 hc dX12_change_179 rfl ?_
          exact ok_iret hc rfl dX12_change_181
        · refine ok_ite (fun h13 => ?_) (fun h13 => ?_)
          · refine ok_tswIn (v := 1) 182 hc dX12_change_134 h13 (by decide) (by decide) rfl (by decide) ?_
            refine ok_aload_n 1 hc dX12_change_182 rfl rfl ?_
            refine ok_getr 12 hc FS_X12_51 rfl sM_0 rfl dX12_change_183 ?_
            refine ok_iload_n 2 hc dX12_change_186 rfl rfl ?_
            refine ok_iald hc sM_12 dX12_change_187 (fun h14 => ?_)
            refine ok_lti (fun v15 => ?_)
            refine ok_istore [(5, .int v15), (4, .int v4), (0, rv Γ 0), (1, .int a1), (2, .int a2), (3, .int a3)] hc dX12_change_188 (Nat.le_of_ble_eq_true rfl) rfl ?_
            refine ok_aload_n 2 hc dX12_change_190 rfl rfl ?_
            refine ok_getr 12 hc FS_X12_51 rfl sM_0 rfl dX12_change_191 ?_
            refine ok_iload_n 3 hc dX12_change_194 rfl rfl ?_
            refine ok_iload_n 5 hc dX12_change_195 rfl rfl ?_
            refine ok_iast hc sM_12 dX12_change_196 (fun h17 => ?_)
            refine ok_ltS (fun S16 => ?_)
            refine ok_iload 0 hc dX12_change_197 rfl ?_
            exact ok_iret hc rfl dX12_change_199
          · refine ok_ite (fun h18 => ?_) (fun h18 => ?_)
            · refine ok_tswIn (v := 2) 200 hc dX12_change_134 h18 (by decide) (by decide) rfl (by decide) ?_
              refine ok_aload_n 1 hc dX12_change_200 rfl rfl ?_
              refine ok_getr 13 hc FS_X12_54 rfl sM_0 rfl dX12_change_201 ?_
              refine ok_iload_n 2 hc dX12_change_204 rfl rfl ?_
              refine ok_iald hc sM_13 dX12_change_205 (fun h19 => ?_)
              refine ok_lti (fun v20 => ?_)
              refine ok_istore [(5, .int v20), (4, .int v4), (0, rv Γ 0), (1, .int a1), (2, .int a2), (3, .int a3)] hc dX12_change_206 (Nat.le_of_ble_eq_true rfl) rfl ?_
              refine ok_aload_n 2 hc dX12_change_208 rfl rfl ?_
              refine ok_getr 13 hc FS_X12_54 rfl sM_0 rfl dX12_change_209 ?_
              refine ok_iload_n 3 hc dX12_change_212 rfl rfl ?_
              refine ok_iload_n 5 hc dX12_change_213 rfl rfl ?_
              refine ok_iast hc sM_13 dX12_change_214 (fun h22 => ?_)
              refine ok_ltS (fun S21 => ?_)
              refine ok_iload 0 hc dX12_change_215 rfl ?_
              exact ok_iret hc rfl dX12_change_217
            · refine ok_ite (fun h23 => ?_) (fun h23 => ?_)
              · refine ok_tswIn (v := 3) 218 hc dX12_change_134 h23 (by decide) (by decide) rfl (by decide) ?_
                refine ok_aload_n 1 hc dX12_change_218 rfl rfl ?_
                refine ok_getr 14 hc FS_X12_57 rfl sM_0 rfl dX12_change_219 ?_
                refine ok_iload_n 2 hc dX12_change_222 rfl rfl ?_
                refine ok_iald hc sM_14 dX12_change_223 (fun h24 => ?_)
                refine ok_lti (fun v25 => ?_)
                refine ok_istore [(5, .int v25), (4, .int v4), (0, rv Γ 0), (1, .int a1), (2, .int a2), (3, .int a3)] hc dX12_change_224 (Nat.le_of_ble_eq_true rfl) rfl ?_
                refine ok_aload_n 2 hc dX12_change_226 rfl rfl ?_
                refine ok_getr 14 hc FS_X12_57 rfl sM_0 rfl dX12_change_227 ?_
                refine ok_iload_n 3 hc dX12_change_230 rfl rfl ?_
                refine ok_iload_n 5 hc dX12_change_231 rfl rfl ?_
                refine ok_iast hc sM_14 dX12_change_232 (fun h27 => ?_)
                refine ok_ltS (fun S26 => ?_)
                refine ok_iload 0 hc dX12_change_233 rfl ?_
                exact ok_iret hc rfl dX12_change_235
              · refine ok_tswOut 236 hc dX12_change_134 (by have i0 := ne_i (k := 0) h8 (by decide); have i1 := ne_i (k := 1) h13 (by decide); have i2 := ne_i (k := 2) h18 (by decide); have i3 := ne_i (k := 3) h23 (by decide); omega) (by decide) ?_
                refine ok_aload_n 1 hc dX12_change_236 rfl rfl ?_
                refine ok_getr 15 hc FS_X12_60 rfl sM_0 rfl dX12_change_237 ?_
                refine ok_iload_n 2 hc dX12_change_240 rfl rfl ?_
                refine ok_iald hc sM_15 dX12_change_241 (fun h28 => ?_)
                refine ok_lti (fun v29 => ?_)
                refine ok_istore [(5, .int v29), (4, .int v4), (0, rv Γ 0), (1, .int a1), (2, .int a2), (3, .int a3)] hc dX12_change_242 (Nat.le_of_ble_eq_true rfl) rfl ?_
                refine ok_aload_n 2 hc dX12_change_244 rfl rfl ?_
                refine ok_getr 15 hc FS_X12_60 rfl sM_0 rfl dX12_change_245 ?_
                refine ok_iload_n 3 hc dX12_change_248 rfl rfl ?_
                refine ok_iload_n 5 hc dX12_change_249 rfl rfl ?_
                refine ok_iast hc sM_15 dX12_change_250 (fun h31 => ?_)
                refine ok_ltS (fun S30 => ?_)
                refine ok_iload 0 hc dX12_change_251 rfl ?_
                exact ok_iret hc rfl dX12_change_253
      · refine ok_bipush (v := (-2)) hc dX12_change_130 (by decide) ?_
        exact ok_iret hc rfl dX12_change_132
    · refine ok_if_ne_ite 22 hc dX12_change_12 (by decide) (fun h32 => ?_) (fun h32 => ?_)
      · refine ok_iload_n 2 hc dX12_change_22 rfl rfl ?_
        refine ok_iconst (v := 1) hc dX12_change_23 (by decide) ?_
        refine ok_icmp_ne_ite 39 hc dX12_change_24 (by decide) (fun h33 => ?_) (fun h33 => ?_)
        · refine ok_iload_n 2 hc dX12_change_39 rfl rfl ?_
          refine ok_iconst (v := 2) hc dX12_change_40 (by decide) ?_
          refine ok_icmp_ne_ite 56 hc dX12_change_41 (by decide) (fun h34 => ?_) (fun h34 => ?_)
          · refine ok_iload_n 2 hc dX12_change_56 rfl rfl ?_
            refine ok_iconst (v := 3) hc dX12_change_57 (by decide) ?_
            refine ok_icmp_ne_ite 89 hc dX12_change_58 (by decide) (fun h35 => ?_) (fun h35 => ?_)
            · refine ok_iload_n 2 hc dX12_change_89 rfl rfl ?_
              refine ok_iconst (v := 4) hc dX12_change_90 (by decide) ?_
              refine ok_icmp_ne_ite 122 hc dX12_change_91 (by decide) (fun h36 => ?_) (fun h36 => ?_)
              · refine ok_iconst (v := 0) hc dX12_change_122 (by decide) ?_
                exact hk6 _ _
              · refine ok_aload_n 0 hc dX12_change_94 rfl rfl ?_
                refine ok_getr 6 hc FS_X12_33 rfl sM_0 rfl dX12_change_95 ?_
                refine ok_iload_n 1 hc dX12_change_98 rfl rfl ?_
                refine ok_iald hc sM_6 dX12_change_99 (fun h37 => ?_)
                refine ok_iconst (v := 1) hc dX12_change_100 (by decide) ?_
                refine ok_icmp_ne_ite 122 hc dX12_change_101 (by decide) (fun h38 => ?_) (fun h38 => ?_)
                · refine ok_iconst (v := 0) hc dX12_change_122 (by decide) ?_
                  exact hk6 _ _
                · refine ok_iload_n 3 hc dX12_change_104 rfl rfl ?_
                  refine ok_i2l hc dX12_change_105 ?_
                  refine ok_ldc2 hc dX12_change_106 W_1392 ?_
                  refine ok_ldc2 hc dX12_change_109 W_1269 ?_
                  refine ok_callSi (As := [.long a3.toInt64, .long (-1), .long 5]) (st := []) (fun n0 => [.long a3.toInt64, .long (-1), .long 5]) hc SS_X12_152 rfl rfl rfl ⟨Nat.le_of_ble_eq_true rfl, Nat.le_of_ble_eq_true rfl⟩ (Nat.le_of_ble_eq_true rfl) (fun q h => tX12_in a3.toInt64 (-1) 5 S2 q h) dX12_change_112 (fun v39 S40 => ?_)
                  refine ok_if_eq_ite 122 hc dX12_change_115 (by decide) (fun h41 => ?_) (fun h41 => ?_)
                  · refine ok_iconst (v := 0) hc dX12_change_122 (by decide) ?_
                    exact hk6 _ _
                  · refine ok_iconst (v := 1) hc dX12_change_118 (by decide) ?_
                    refine ok_goto 123 hc dX12_change_119 (by decide) ?_
                    exact hk6 _ _
            · refine ok_aload_n 0 hc dX12_change_61 rfl rfl ?_
              refine ok_iload_n 1 hc dX12_change_62 rfl rfl ?_
              refine ok_callVi (As := [.int a1]) (st := []) (fun n0 => [.ref (n0 + 0), .int a1]) hc VS_X12_232 sM_0 rfl rfl rfl ⟨Nat.le_of_ble_eq_true rfl, Nat.le_of_ble_eq_true rfl⟩ (Nat.le_of_ble_eq_true rfl) (fun q h => tX12_isHopping a1 S2 q h) dX12_change_63 (fun v42 S43 => ?_)
              refine ok_if_eq_ite 85 hc dX12_change_66 (by decide) (fun h44 => ?_) (fun h44 => ?_)
              · refine ok_iconst (v := 0) hc dX12_change_85 (by decide) ?_
                refine ok_goto 123 hc dX12_change_86 (by decide) ?_
                exact hk6 _ _
              · refine ok_iload_n 3 hc dX12_change_69 rfl rfl ?_
                refine ok_i2l hc dX12_change_70 ?_
                refine ok_lconst (v := 0) hc dX12_change_71 (by decide) ?_
                refine ok_ldc2 hc dX12_change_72 W_1391 ?_
                refine ok_callSi (As := [.long a3.toInt64, .long 0, .long 11]) (st := []) (fun n0 => [.long a3.toInt64, .long 0, .long 11]) hc SS_X12_152 rfl rfl rfl ⟨Nat.le_of_ble_eq_true rfl, Nat.le_of_ble_eq_true rfl⟩ (Nat.le_of_ble_eq_true rfl) (fun q h => tX12_in a3.toInt64 0 11 S43 q h) dX12_change_75 (fun v45 S46 => ?_)
                refine ok_if_eq_ite 85 hc dX12_change_78 (by decide) (fun h47 => ?_) (fun h47 => ?_)
                · refine ok_iconst (v := 0) hc dX12_change_85 (by decide) ?_
                  refine ok_goto 123 hc dX12_change_86 (by decide) ?_
                  exact hk6 _ _
                · refine ok_iconst (v := 1) hc dX12_change_81 (by decide) ?_
                  refine ok_goto 123 hc dX12_change_82 (by decide) ?_
                  exact hk6 _ _
          · refine ok_iload_n 3 hc dX12_change_44 rfl rfl ?_
            refine ok_i2l hc dX12_change_45 ?_
            refine ok_lconst (v := 0) hc dX12_change_46 (by decide) ?_
            refine ok_ldc2 hc dX12_change_47 W_1391 ?_
            refine ok_callSi (As := [.long a3.toInt64, .long 0, .long 11]) (st := []) (fun n0 => [.long a3.toInt64, .long 0, .long 11]) hc SS_X12_152 rfl rfl rfl ⟨Nat.le_of_ble_eq_true rfl, Nat.le_of_ble_eq_true rfl⟩ (Nat.le_of_ble_eq_true rfl) (fun q h => tX12_in a3.toInt64 0 11 S2 q h) dX12_change_50 (fun v48 S49 => ?_)
            refine ok_goto 123 hc dX12_change_53 (by decide) ?_
            exact hk6 _ _
        · refine ok_iload_n 3 hc dX12_change_27 rfl rfl ?_
          refine ok_i2l hc dX12_change_28 ?_
          refine ok_lconst (v := 0) hc dX12_change_29 (by decide) ?_
          refine ok_ldc2 hc dX12_change_30 W_1357 ?_
          refine ok_callSi (As := [.long a3.toInt64, .long 0, .long 1000]) (st := []) (fun n0 => [.long a3.toInt64, .long 0, .long 1000]) hc SS_X12_152 rfl rfl rfl ⟨Nat.le_of_ble_eq_true rfl, Nat.le_of_ble_eq_true rfl⟩ (Nat.le_of_ble_eq_true rfl) (fun q h => tX12_in a3.toInt64 0 1000 S2 q h) dX12_change_33 (fun v50 S51 => ?_)
          refine ok_goto 123 hc dX12_change_36 (by decide) ?_
          exact hk6 _ _
      · refine ok_iload_n 3 hc dX12_change_15 rfl rfl ?_
        refine ok_callSi (As := [.int a3]) (st := []) (fun n0 => [.int a3]) hc SS_X12_229 rfl rfl rfl ⟨Nat.le_of_ble_eq_true rfl, Nat.le_of_ble_eq_true rfl⟩ (Nat.le_of_ble_eq_true rfl) (fun q h => tX12_isStrength a3 S2 q h) dX12_change_16 (fun v52 S53 => ?_)
        refine ok_goto 123 hc dX12_change_19 (by decide) ?_
        exact hk6 _ _
  · refine ok_bipush (v := (-2)) hc dX12_change_8 (by decide) ?_
    exact ok_iret hc rfl dX12_change_10
def fX12_whole_L4_st (rec : Int32 → Int32 → St → Option (Int32 × St)) (a1 : Int32) (a2 : Int32) (S : St) : Option (Int32 × St) :=
  if (S.1 0 43) ≤ a2 then (some (a1, S)) else (if ib a2 8 then (lt (if (S.1 35 (nt a2)) = (-1) then 0 else 1) (fun (v3 : Int32) => lt (a1 + v3) (fun (v5 : Int32) => rec v5 (a2 + 1) S))) else none)
def fX12_whole_L4 : Nat → Int32 → Int32 → St → Option (Int32 × St)
  | 0 => fun _ _ _ => none
  | n + 1 => fun a1 a2 S => fX12_whole_L4_st (fX12_whole_L4 n) a1 a2 S
def fX12_whole (S : St) : Option (Int32 × St) :=
  fX12_whole_L4 FU 0 0 S
set_option maxRecDepth 100000 in
set_option maxHeartbeats 4000000 in
theorem tX12_whole_L4 {Γ : Cx Int32} (hc : Cok Γ wM vI mX12_whole) : ∀ (n : Nat) (a1 : Int32) (a2 : Int32) (S : St), Ok Γ wM 4 [(0, rv Γ 0), (1, .int a1), (2, .int a2)] [] S (fX12_whole_L4 n a1 a2 S) := by
  intro n
  induction n with
  | zero =>
    intro a1 a2 S
    exact ok_none
  | succ n ih =>
    intro a1 a2 S
    show Ok Γ wM 4 [(0, rv Γ 0), (1, .int a1), (2, .int a2)] [] S (fX12_whole_L4_st (fX12_whole_L4 n) a1 a2 S)
    unfold fX12_whole_L4_st
    refine ok_iload_n 2 hc dX12_whole_4 rfl rfl ?_
    refine ok_aload_n 0 hc dX12_whole_5 rfl rfl ?_
    refine ok_geti hc FS_X12_179 rfl sM_0 dX12_whole_6 ?_
    refine ok_icmp_ge_ite 36 hc dX12_whole_9 (by decide) (fun h1 => ?_) (fun h1 => ?_)
    · refine ok_iload_n 1 hc dX12_whole_36 rfl rfl ?_
      exact ok_iret hc rfl dX12_whole_37
    · refine ok_iload_n 1 hc dX12_whole_12 rfl rfl ?_
      refine ok_aload_n 0 hc dX12_whole_13 rfl rfl ?_
      refine ok_getr 35 hc FS_X12_121 rfl sM_0 rfl dX12_whole_14 ?_
      refine ok_iload_n 2 hc dX12_whole_17 rfl rfl ?_
      refine ok_iald hc sM_35 dX12_whole_18 (fun h2 => ?_)
      refine ok_iconst (v := (-1)) hc dX12_whole_19 (by decide) ?_
      refine ok_lt (fun g => ∀ (v3 : Int32), Ok Γ wM 28 [(0, rv Γ 0), (2, .int a2)] [.int v3, .int a1] S (g v3)) ?_ (fun k4 hk4 => ?_)
      · intro v3
        refine ok_iadd hc dX12_whole_28 ?_
        refine ok_lti (fun v5 => ?_)
        refine ok_istore_n [(1, .int v5), (0, rv Γ 0), (2, .int a2)] hc dX12_whole_29 rfl (Nat.le_of_ble_eq_true rfl) rfl ?_
        refine ok_iinc (v := 1) 2 [(2, .int (a2 + 1)), (1, .int v5), (0, rv Γ 0)] hc dX12_whole_30 rfl (by decide) (Nat.le_of_ble_eq_true rfl) rfl ?_
        refine ok_goto 4 hc dX12_whole_33 (by decide) ?_
        refine ok_sub [2, 1, 0] rfl ?_
        exact ih _ _ _
      · refine ok_icmp_ne 27 hc dX12_whole_20 (by decide) (fun h6 => ?_) (fun h6 => ?_)
        · rw [if_neg h6]
          refine ok_iconst (v := 1) hc dX12_whole_27 (by decide) ?_
          refine ok_sub [0, 2] rfl ?_
          exact hk4 _
        · rw [if_pos h6]
          refine ok_iconst (v := 0) hc dX12_whole_23 (by decide) ?_
          refine ok_goto 28 hc dX12_whole_24 (by decide) ?_
          refine ok_sub [0, 2] rfl ?_
          exact hk4 _
set_option maxRecDepth 100000 in
set_option maxHeartbeats 4000000 in
theorem tX12_whole (S : St) (q : Int32 × St) (h : fX12_whole S = some q) : MT vI wM mX12_whole (fun n0 => [.ref (n0 + 0)]) S q := by
  refine mt_of (show plainFor yX12_whole = true from by decide) (fun _ => Nat.le_of_ble_eq_true rfl) ?_
  intro Γ hc _
  rw [← h]
  show Ok Γ wM 0 [(0, rv Γ 0)] [] S _
  unfold fX12_whole
  refine ok_iconst (v := 0) hc dX12_whole_0 (by decide) ?_
  refine ok_istore_n [(1, .int 0), (0, rv Γ 0)] hc dX12_whole_1 rfl (Nat.le_of_ble_eq_true rfl) rfl ?_
  refine ok_iconst (v := 0) hc dX12_whole_2 (by decide) ?_
  refine ok_istore_n [(2, .int 0), (1, .int 0), (0, rv Γ 0)] hc dX12_whole_3 rfl (Nat.le_of_ble_eq_true rfl) rfl ?_
  refine ok_sub [2, 1, 0] rfl ?_
  refine tX12_whole_L4 hc    FU _ _ _
def fX12_cheats_L50_st (a1 : Int32) (a2 : Int32) (a3 : Int32) (a4 : Int32) (rec : Int32 → St → Option (Int32 × St)) (a5 : Int32) (S : St) : Option (Int32 × St) :=
  if ((S.1 0 5) * (S.1 0 6)) ≤ a5 then (some (1, S)) else (if ¬ (S.1 0 5) = 0 then (if ¬ (S.1 0 5) = 0 then (lt ((ire a5 (S.1 0 5)) - (ire a4 (S.1 0 5))) (fun (v4 : Int32) => if ¬ (S.1 0 5) = 0 then (if ¬ (S.1 0 5) = 0 then (lt ((a5 / (S.1 0 5)) - (a4 / (S.1 0 5))) (fun (v7 : Int32) => jn (fun (S8 : St) => rec (a5 + 1) S8) (fun k9 => if (a2 * a2) < ((v4 * v4) + (v7 * v7)) then (k9 S) else (if ib a1 20 then (bnd (fX12_agrees a5 (S.1 8 (nt a1)) a3 S) (fun v12 S13 => if v12 = 0 then (k9 S13) else (some (0, S13)))) else none)))) else none) else none)) else none) else none)
def fX12_cheats_L50 (a1 : Int32) (a2 : Int32) (a3 : Int32) (a4 : Int32) : Nat → Int32 → St → Option (Int32 × St)
  | 0 => fun _ _ => none
  | n + 1 => fun a5 S => fX12_cheats_L50_st a1 a2 a3 a4 (fX12_cheats_L50 a1 a2 a3 a4 n) a5 S
def fX12_cheats (a1 : Int32) (a2 : Int32) (a3 : Int32) (S : St) : Option (Int32 × St) :=
  bnd (fX12_isSender a1 S) (fun v1 S2 => if v1 = 0 then (some ((-2), S2)) else (bnd (fX12_in a2.toInt64 0 30 S2) (fun v4 S5 => if v4 = 0 then (some ((-2), S5)) else (bnd (fX12_isSlack a3 S5) (fun v7 S8 => if v7 = 0 then (some ((-2), S8)) else (bnd (fX12_whole S8) (fun v10 S11 => if v10 = 0 then (some ((-3), S11)) else (bnd (fX12_cellNow a1 S11) (fun v13 S14 => fX12_cheats_L50 a1 a2 a3 v13 FU 0 S14)))))))))
set_option maxRecDepth 100000 in
set_option maxHeartbeats 4000000 in
theorem tX12_cheats_L50 {Γ : Cx Int32} (hc : Cok Γ wM vI mX12_cheats) (a1 : Int32) (a2 : Int32) (a3 : Int32) (a4 : Int32) : ∀ (n : Nat) (a5 : Int32) (S : St), Ok Γ wM 50 [(0, rv Γ 0), (1, .int a1), (2, .int a2), (3, .int a3), (4, .int a4), (5, .int a5)] [] S (fX12_cheats_L50 a1 a2 a3 a4 n a5 S) := by
  intro n
  induction n with
  | zero =>
    intro a5 S
    exact ok_none
  | succ n ih =>
    intro a5 S
    show Ok Γ wM 50 [(0, rv Γ 0), (1, .int a1), (2, .int a2), (3, .int a3), (4, .int a4), (5, .int a5)] [] S (fX12_cheats_L50_st a1 a2 a3 a4 (fX12_cheats_L50 a1 a2 a3 a4 n) a5 S)
    unfold fX12_cheats_L50_st
    refine ok_iload 5 hc dX12_cheats_50 rfl ?_
    refine ok_aload_n 0 hc dX12_cheats_52 rfl rfl ?_
    refine ok_geti hc FS_X12_23 rfl sM_0 dX12_cheats_53 ?_
    refine ok_aload_n 0 hc dX12_cheats_56 rfl rfl ?_
    refine ok_geti hc FS_X12_27 rfl sM_0 dX12_cheats_57 ?_
    refine ok_imul hc dX12_cheats_60 ?_
    refine ok_icmp_ge_ite 139 hc dX12_cheats_61 (by decide) (fun h1 => ?_) (fun h1 => ?_)
    · refine ok_iconst (v := 1) hc dX12_cheats_139 (by decide) ?_
      exact ok_iret hc rfl dX12_cheats_140
    · refine ok_iload 5 hc dX12_cheats_64 rfl ?_
      refine ok_aload_n 0 hc dX12_cheats_66 rfl rfl ?_
      refine ok_geti hc FS_X12_23 rfl sM_0 dX12_cheats_67 ?_
      refine ok_irem hc dX12_cheats_70 (fun h2 => ?_)
      refine ok_iload 4 hc dX12_cheats_71 rfl ?_
      refine ok_aload_n 0 hc dX12_cheats_73 rfl rfl ?_
      refine ok_geti hc FS_X12_23 rfl sM_0 dX12_cheats_74 ?_
      refine ok_irem hc dX12_cheats_77 (fun h3 => ?_)
      refine ok_isub hc dX12_cheats_78 ?_
      refine ok_lti (fun v4 => ?_)
      refine ok_istore [(6, .int v4), (0, rv Γ 0), (1, .int a1), (2, .int a2), (3, .int a3), (4, .int a4), (5, .int a5)] hc dX12_cheats_79 (Nat.le_of_ble_eq_true rfl) rfl ?_
      refine ok_iload 6 hc dX12_cheats_81 rfl ?_
      refine ok_aload_n 1 hc dX12_cheats_83 rfl rfl ?_
      refine ok_geti hc FS_X12_23 rfl sM_0 dX12_cheats_84 ?_
      refine ok_idiv hc dX12_cheats_87 (fun h5 => ?_)
      refine ok_iload 5 hc dX12_cheats_88 rfl ?_
      refine ok_aload_n 1 hc dX12_cheats_90 rfl rfl ?_
      refine ok_geti hc FS_X12_23 rfl sM_0 dX12_cheats_91 ?_
      refine ok_idiv hc dX12_cheats_94 (fun h6 => ?_)
      refine ok_isub hc dX12_cheats_95 ?_
      refine ok_lti (fun v7 => ?_)
      refine ok_istore [(7, .int v7), (6, .int v4), (0, rv Γ 0), (1, .int a1), (2, .int a2), (3, .int a3), (4, .int a4), (5, .int a5)] hc dX12_cheats_96 (Nat.le_of_ble_eq_true rfl) rfl ?_
      refine ok_iload 1 hc dX12_cheats_98 rfl ?_
      refine ok_iload 1 hc dX12_cheats_100 rfl ?_
      refine ok_imul hc dX12_cheats_102 ?_
      refine ok_iload 0 hc dX12_cheats_103 rfl ?_
      refine ok_iload 0 hc dX12_cheats_105 rfl ?_
      refine ok_imul hc dX12_cheats_107 ?_
      refine ok_iadd hc dX12_cheats_108 ?_
      refine ok_iload_n 4 hc dX12_cheats_109 rfl rfl ?_
      refine ok_iload_n 4 hc dX12_cheats_110 rfl rfl ?_
      refine ok_imul hc dX12_cheats_111 ?_
      refine ok_jn (fun g => ∀ (S8 : St), Ok Γ wM 133 [(0, rv Γ 0), (1, .int a1), (2, .int a2), (3, .int a3), (4, .int a4), (5, .int a5)] [] S8 (g S8)) ?_ (fun k9 hk9 => ?_)
      · intro S8
        refine ok_iinc (v := 1) 5 [(5, .int (a5 + 1)), (0, rv Γ 0), (1, .int a1), (2, .int a2), (3, .int a3), (4, .int a4)] hc dX12_cheats_133 rfl (by decide) (Nat.le_of_ble_eq_true rfl) rfl ?_
        refine ok_goto 50 hc dX12_cheats_136 (by decide) ?_
        refine ok_sub [1, 2, 3, 4, 5, 0] rfl ?_
        exact ih _ _
      · refine ok_icmp_gt_ite 133 hc dX12_cheats_112 (by decide) (fun h10 => ?_) (fun h10 => ?_)
        · refine ok_sub [2, 3, 4, 5, 6, 7] rfl ?_
          exact hk9 _
        · refine ok_aload_n 2 hc dX12_cheats_115 rfl rfl ?_
          refine ok_iload 7 hc dX12_cheats_116 rfl ?_
          refine ok_aload_n 2 hc dX12_cheats_118 rfl rfl ?_
          refine ok_getr 8 hc FS_X12_39 rfl sM_0 rfl dX12_cheats_119 ?_
          refine ok_iload_n 3 hc dX12_cheats_122 rfl rfl ?_
          refine ok_iald hc sM_8 dX12_cheats_123 (fun h11 => ?_)
          refine ok_iload_n 5 hc dX12_cheats_124 rfl rfl ?_
          refine ok_callVi (As := [.int a5, .int (S.1 8 (nt a1)), .int a3]) (st := []) (fun n0 => [.ref (n0 + 0), .int a5, .int (S.1 8 (nt a1)), .int a3]) hc VS_X12_390 sM_0 rfl rfl rfl ⟨Nat.le_of_ble_eq_true rfl, Nat.le_of_ble_eq_true rfl⟩ (Nat.le_of_ble_eq_true rfl) (fun q h => tX12_agrees a5 (S.1 8 (nt a1)) a3 S q h) dX12_cheats_125 (fun v12 S13 => ?_)
          refine ok_if_eq_ite 133 hc dX12_cheats_128 (by decide) (fun h14 => ?_) (fun h14 => ?_)
          · refine ok_sub [2, 3, 4, 5, 6, 7] rfl ?_
            exact hk9 _
          · refine ok_iconst (v := 0) hc dX12_cheats_131 (by decide) ?_
            exact ok_iret hc rfl dX12_cheats_132
set_option maxRecDepth 100000 in
set_option maxHeartbeats 4000000 in
theorem tX12_cheats (a1 : Int32) (a2 : Int32) (a3 : Int32) (S : St) (q : Int32 × St) (h : fX12_cheats a1 a2 a3 S = some q) : MT vI wM mX12_cheats (fun n0 => [.ref (n0 + 0), .int a1, .int a2, .int a3]) S q := by
  refine mt_of (show plainFor yX12_cheats = true from by decide) (fun _ => Nat.le_of_ble_eq_true rfl) ?_
  intro Γ hc _
  rw [← h]
  show Ok Γ wM 0 [(0, rv Γ 0), (1, .int a1), (2, .int a2), (3, .int a3)] [] S _
  unfold fX12_cheats
  refine ok_aload_n 0 hc dX12_cheats_0 rfl rfl ?_
  refine ok_iload_n 1 hc dX12_cheats_1 rfl rfl ?_
  refine ok_callVi (As := [.int a1]) (st := []) (fun n0 => [.ref (n0 + 0), .int a1]) hc VS_X12_237 sM_0 rfl rfl rfl ⟨Nat.le_of_ble_eq_true rfl, Nat.le_of_ble_eq_true rfl⟩ (Nat.le_of_ble_eq_true rfl) (fun q h => tX12_isSender a1 S q h) dX12_cheats_2 (fun v1 S2 => ?_)
  refine ok_if_eq_ite 27 hc dX12_cheats_5 (by decide) (fun h3 => ?_) (fun h3 => ?_)
  · refine ok_bipush (v := (-2)) hc dX12_cheats_27 (by decide) ?_
    exact ok_iret hc rfl dX12_cheats_29
  · refine ok_iload_n 2 hc dX12_cheats_8 rfl rfl ?_
    refine ok_i2l hc dX12_cheats_9 ?_
    refine ok_lconst (v := 0) hc dX12_cheats_10 (by decide) ?_
    refine ok_ldc2 hc dX12_cheats_11 W_1654 ?_
    refine ok_callSi (As := [.long a2.toInt64, .long 0, .long 30]) (st := []) (fun n0 => [.long a2.toInt64, .long 0, .long 30]) hc SS_X12_152 rfl rfl rfl ⟨Nat.le_of_ble_eq_true rfl, Nat.le_of_ble_eq_true rfl⟩ (Nat.le_of_ble_eq_true rfl) (fun q h => tX12_in a2.toInt64 0 30 S2 q h) dX12_cheats_14 (fun v4 S5 => ?_)
    refine ok_if_eq_ite 27 hc dX12_cheats_17 (by decide) (fun h6 => ?_) (fun h6 => ?_)
    · refine ok_bipush (v := (-2)) hc dX12_cheats_27 (by decide) ?_
      exact ok_iret hc rfl dX12_cheats_29
    · refine ok_iload_n 3 hc dX12_cheats_20 rfl rfl ?_
      refine ok_callSi (As := [.int a3]) (st := []) (fun n0 => [.int a3]) hc SS_X12_387 rfl rfl rfl ⟨Nat.le_of_ble_eq_true rfl, Nat.le_of_ble_eq_true rfl⟩ (Nat.le_of_ble_eq_true rfl) (fun q h => tX12_isSlack a3 S5 q h) dX12_cheats_21 (fun v7 S8 => ?_)
      refine ok_if_ne_ite 30 hc dX12_cheats_24 (by decide) (fun h9 => ?_) (fun h9 => ?_)
      · refine ok_aload_n 0 hc dX12_cheats_30 rfl rfl ?_
        refine ok_callVi (As := []) (st := []) (fun n0 => [.ref (n0 + 0)]) hc VS_X12_395 sM_0 rfl rfl rfl ⟨Nat.le_of_ble_eq_true rfl, Nat.le_of_ble_eq_true rfl⟩ (Nat.le_of_ble_eq_true rfl) (fun q h => tX12_whole S8 q h) dX12_cheats_31 (fun v10 S11 => ?_)
        refine ok_if_ne_ite 40 hc dX12_cheats_34 (by decide) (fun h12 => ?_) (fun h12 => ?_)
        · refine ok_aload_n 0 hc dX12_cheats_40 rfl rfl ?_
          refine ok_iload_n 1 hc dX12_cheats_41 rfl rfl ?_
          refine ok_callVi (As := [.int a1]) (st := []) (fun n0 => [.ref (n0 + 0), .int a1]) hc VS_X12_241 sM_0 rfl rfl rfl ⟨Nat.le_of_ble_eq_true rfl, Nat.le_of_ble_eq_true rfl⟩ (Nat.le_of_ble_eq_true rfl) (fun q h => tX12_cellNow a1 S11 q h) dX12_cheats_42 (fun v13 S14 => ?_)
          refine ok_istore [(4, .int v13), (0, rv Γ 0), (1, .int a1), (2, .int a2), (3, .int a3)] hc dX12_cheats_45 (Nat.le_of_ble_eq_true rfl) rfl ?_
          refine ok_iconst (v := 0) hc dX12_cheats_47 (by decide) ?_
          refine ok_istore [(5, .int 0), (4, .int v13), (0, rv Γ 0), (1, .int a1), (2, .int a2), (3, .int a3)] hc dX12_cheats_48 (Nat.le_of_ble_eq_true rfl) rfl ?_
          refine ok_sub [2, 3, 4, 5, 1, 0] rfl ?_
          refine tX12_cheats_L50 hc _ _ _ _   FU _ _
        · refine ok_bipush (v := (-3)) hc dX12_cheats_37 (by decide) ?_
          exact ok_iret hc rfl dX12_cheats_39
      · refine ok_bipush (v := (-2)) hc dX12_cheats_27 (by decide) ?_
        exact ok_iret hc rfl dX12_cheats_29
def fX12_isSheet (a0 : Int32) (S : St) : Option (Int32 × St) :=
  bnd (fX12_in a0.toInt64 0 5 S) (fun v1 S2 => if b01 v1 then some (v1, S2) else none)
set_option maxRecDepth 100000 in
set_option maxHeartbeats 4000000 in
theorem tX12_isSheet (a0 : Int32) (S : St) (q : Int32 × St) (h : fX12_isSheet a0 S = some q) : MT vI wM mX12_isSheet (fun n0 => [.int a0]) S q := by
  refine mt_of (show plainFor yX12_isSheet = true from by decide) (fun _ => Nat.le_of_ble_eq_true rfl) ?_
  intro Γ hc _
  rw [← h]
  show Ok Γ wM 0 [(0, .int a0)] [] S _
  unfold fX12_isSheet
  refine ok_iload_n 0 hc dX12_isSheet_0 rfl rfl ?_
  refine ok_i2l hc dX12_isSheet_1 ?_
  refine ok_lconst (v := 0) hc dX12_isSheet_2 (by decide) ?_
  refine ok_ldc2 hc dX12_isSheet_3 W_1269 ?_
  refine ok_callSi (As := [.long a0.toInt64, .long 0, .long 5]) (st := []) (fun n0 => [.long a0.toInt64, .long 0, .long 5]) hc SS_X12_152 rfl rfl rfl ⟨Nat.le_of_ble_eq_true rfl, Nat.le_of_ble_eq_true rfl⟩ (Nat.le_of_ble_eq_true rfl) (fun q h => tX12_in a0.toInt64 0 5 S q h) dX12_isSheet_6 (fun v1 S2 => ?_)
  exact ok_zret hc rfl dX12_isSheet_9
def fX12_met (a1 : Int32) (S : St) : Option (Int32 × St) :=
  lt (wi S 0 4 a1) (fun S1 => some ((-10) - a1, S1))
set_option maxRecDepth 100000 in
set_option maxHeartbeats 4000000 in
theorem tX12_met (a1 : Int32) (S : St) (q : Int32 × St) (h : fX12_met a1 S = some q) : MT vI wM mX12_met (fun n0 => [.ref (n0 + 0), .int a1]) S q := by
  refine mt_of (show plainFor yX12_met = true from by decide) (fun _ => Nat.le_of_ble_eq_true rfl) ?_
  intro Γ hc _
  rw [← h]
  show Ok Γ wM 0 [(0, rv Γ 0), (1, .int a1)] [] S _
  unfold fX12_met
  refine ok_aload_n 0 hc dX12_met_0 rfl rfl ?_
  refine ok_iload_n 1 hc dX12_met_1 rfl rfl ?_
  refine ok_puti hc FP_X12_147 rfl sM_0 dX12_met_2 ?_
  refine ok_ltS (fun S1 => ?_)
  refine ok_bipush (v := (-10)) hc dX12_met_5 (by decide) ?_
  refine ok_iload_n 1 hc dX12_met_7 rfl rfl ?_
  refine ok_isub hc dX12_met_8 ?_
  exact ok_iret hc rfl dX12_met_9
def fX12_copy_L120_st (kx0 : St → Option (Int32 × St)) (a1 : Int32) (a2 : Int32) (a3 : Int32) (a4 : Int32) (a5 : Int32) (rec : Int32 → St → Option (Int32 × St)) (a6 : Int32) (S : St) : Option (Int32 × St) :=
  if a5 ≤ a6 then (kx0 S) else (if ib (((400 * a1) + a2) + a6) 2400 then (if ib a6 400 then lt (wj S 4 (nt a6) (S.2 3 (nt (((400 * a1) + a2) + a6)))) (fun S3 => rec (a6 + 1) S3) else none) else none)
def fX12_copy_L120 (kx0 : St → Option (Int32 × St)) (a1 : Int32) (a2 : Int32) (a3 : Int32) (a4 : Int32) (a5 : Int32) : Nat → Int32 → St → Option (Int32 × St)
  | 0 => fun _ _ => none
  | n + 1 => fun a6 S => fX12_copy_L120_st kx0 a1 a2 a3 a4 a5 (fX12_copy_L120 kx0 a1 a2 a3 a4 a5 n) a6 S
def fX12_copy_L158_st (a3 : Int32) (a4 : Int32) (a5 : Int32) (rec : Int32 → St → Option (Int32 × St)) (a6 : Int32) (S : St) : Option (Int32 × St) :=
  if a5 ≤ a6 then (some (1, S)) else (if ib a6 400 then (if ib (((400 * a3) + a4) + a6) 2400 then lt (wj S 3 (nt (((400 * a3) + a4) + a6)) (S.2 4 (nt a6))) (fun S3 => rec (a6 + 1) S3) else none) else none)
def fX12_copy_L158 (a3 : Int32) (a4 : Int32) (a5 : Int32) : Nat → Int32 → St → Option (Int32 × St)
  | 0 => fun _ _ => none
  | n + 1 => fun a6 S => fX12_copy_L158_st a3 a4 a5 (fX12_copy_L158 a3 a4 a5 n) a6 S
def fX12_copy (a1 : Int32) (a2 : Int32) (a3 : Int32) (a4 : Int32) (a5 : Int32) (S : St) : Option (Int32 × St) :=
  bnd (fX12_isSheet a1 S) (fun v1 S2 => if v1 = 0 then (some ((-2), S2)) else (bnd (fX12_isSheet a3 S2) (fun v4 S5 => if v4 = 0 then (some ((-2), S5)) else (if ib a1 6 then (jn (fun (S8 : St) => bnd (fX12_met 1 S8) (fun v10 S11 => some (v10, S11))) (fun k9 => if (S5.1 1 (nt a1)) < 0 then (k9 S5) else (if ib a3 6 then (if 0 ≤ (S5.1 1 (nt a3)) then (if ib a1 6 then (if ib a3 6 then (if (S5.1 1 (nt a1)) = (S5.1 1 (nt a3)) then (jn (fun (S18 : St) => bnd (fX12_met 2 S18) (fun v20 S21 => some (v20, S21))) (fun k19 => if a2 < 0 then (k19 S5) else (if a4 < 0 then (k19 S5) else (if a5 < 0 then (k19 S5) else (if ib a1 6 then (if ((S5.1 2 (nt a1)).toInt64) < (a2.toInt64 + a5.toInt64) then (k19 S5) else (if ib a3 6 then (if (a4.toInt64 + a5.toInt64) ≤ ((S5.1 2 (nt a3)).toInt64) then (fX12_copy_L120 (fun (S29 : St) => fX12_copy_L158 a3 a4 a5 FU 0 S29) a1 a2 a3 a4 a5 FU 0 S5) else (k19 S5)) else none)) else none))))) else (bnd (fX12_met 4 S5) (fun v30 S31 => some (v30, S31)))) else none) else none) else (k9 S5)) else none))) else none))))
set_option maxRecDepth 100000 in
set_option maxHeartbeats 4000000 in
theorem tX12_copy_L120 {Γ : Cx Int32} (hc : Cok Γ wM vI mX12_copy) (kx0 : St → Option (Int32 × St)) (a1 : Int32) (a2 : Int32) (a3 : Int32) (a4 : Int32) (a5 : Int32) (hx0 : ∀ (S : St), Ok Γ wM 155 [(0, rv Γ 0), (3, .int a3), (4, .int a4), (5, .int a5)] [] S (kx0 S)) : ∀ (n : Nat) (a6 : Int32) (S : St), Ok Γ wM 120 [(0, rv Γ 0), (1, .int a1), (2, .int a2), (3, .int a3), (4, .int a4), (5, .int a5), (6, .int a6)] [] S (fX12_copy_L120 kx0 a1 a2 a3 a4 a5 n a6 S) := by
  intro n
  induction n with
  | zero =>
    intro a6 S
    exact ok_none
  | succ n ih =>
    intro a6 S
    show Ok Γ wM 120 [(0, rv Γ 0), (1, .int a1), (2, .int a2), (3, .int a3), (4, .int a4), (5, .int a5), (6, .int a6)] [] S (fX12_copy_L120_st kx0 a1 a2 a3 a4 a5 (fX12_copy_L120 kx0 a1 a2 a3 a4 a5 n) a6 S)
    unfold fX12_copy_L120_st
    refine ok_iload 6 hc dX12_copy_120 rfl ?_
    refine ok_iload 5 hc dX12_copy_122 rfl ?_
    refine ok_icmp_ge_ite 155 hc dX12_copy_124 (by decide) (fun h1 => ?_) (fun h1 => ?_)
    · refine ok_sub [0, 3, 4, 5] rfl ?_
      exact hx0 _
    · refine ok_aload_n 0 hc dX12_copy_127 rfl rfl ?_
      refine ok_getr 4 hc FS_X12_20 rfl sM_0 rfl dX12_copy_128 ?_
      refine ok_iload 6 hc dX12_copy_131 rfl ?_
      refine ok_aload_n 0 hc dX12_copy_133 rfl rfl ?_
      refine ok_getr 3 hc FS_X12_16 rfl sM_0 rfl dX12_copy_134 ?_
      refine ok_sipush (v := 400) hc dX12_copy_137 (by decide) ?_
      refine ok_iload_n 1 hc dX12_copy_140 rfl rfl ?_
      refine ok_imul hc dX12_copy_141 ?_
      refine ok_iload_n 2 hc dX12_copy_142 rfl rfl ?_
      refine ok_iadd hc dX12_copy_143 ?_
      refine ok_iload 6 hc dX12_copy_144 rfl ?_
      refine ok_iadd hc dX12_copy_146 ?_
      refine ok_lald hc sM_3 dX12_copy_147 (fun h2 => ?_)
      refine ok_last hc sM_4 dX12_copy_148 (fun h4 => ?_)
      refine ok_ltS (fun S3 => ?_)
      refine ok_iinc (v := 1) 6 [(6, .int (a6 + 1)), (0, rv Γ 0), (1, .int a1), (2, .int a2), (3, .int a3), (4, .int a4), (5, .int a5)] hc dX12_copy_149 rfl (by decide) (Nat.le_of_ble_eq_true rfl) rfl ?_
      refine ok_goto 120 hc dX12_copy_152 (by decide) ?_
      refine ok_sub [1, 2, 3, 4, 5, 6, 0] rfl ?_
      exact ih _ _
set_option maxRecDepth 100000 in
set_option maxHeartbeats 4000000 in
theorem tX12_copy_L158 {Γ : Cx Int32} (hc : Cok Γ wM vI mX12_copy) (a3 : Int32) (a4 : Int32) (a5 : Int32) : ∀ (n : Nat) (a6 : Int32) (S : St), Ok Γ wM 158 [(0, rv Γ 0), (3, .int a3), (4, .int a4), (5, .int a5), (6, .int a6)] [] S (fX12_copy_L158 a3 a4 a5 n a6 S) := by
  intro n
  induction n with
  | zero =>
    intro a6 S
    exact ok_none
  | succ n ih =>
    intro a6 S
    show Ok Γ wM 158 [(0, rv Γ 0), (3, .int a3), (4, .int a4), (5, .int a5), (6, .int a6)] [] S (fX12_copy_L158_st a3 a4 a5 (fX12_copy_L158 a3 a4 a5 n) a6 S)
    unfold fX12_copy_L158_st
    refine ok_iload 4 hc dX12_copy_158 rfl ?_
    refine ok_iload 3 hc dX12_copy_160 rfl ?_
    refine ok_icmp_ge_ite 194 hc dX12_copy_162 (by decide) (fun h1 => ?_) (fun h1 => ?_)
    · refine ok_iconst (v := 1) hc dX12_copy_194 (by decide) ?_
      exact ok_iret hc rfl dX12_copy_195
    · refine ok_aload_n 0 hc dX12_copy_165 rfl rfl ?_
      refine ok_getr 3 hc FS_X12_16 rfl sM_0 rfl dX12_copy_166 ?_
      refine ok_sipush (v := 400) hc dX12_copy_169 (by decide) ?_
      refine ok_iload_n 1 hc dX12_copy_172 rfl rfl ?_
      refine ok_imul hc dX12_copy_173 ?_
      refine ok_iload 2 hc dX12_copy_174 rfl ?_
      refine ok_iadd hc dX12_copy_176 ?_
      refine ok_iload 4 hc dX12_copy_177 rfl ?_
      refine ok_iadd hc dX12_copy_179 ?_
      refine ok_aload_n 0 hc dX12_copy_180 rfl rfl ?_
      refine ok_getr 4 hc FS_X12_20 rfl sM_0 rfl dX12_copy_181 ?_
      refine ok_iload 4 hc dX12_copy_184 rfl ?_
      refine ok_lald hc sM_4 dX12_copy_186 (fun h2 => ?_)
      refine ok_last hc sM_3 dX12_copy_187 (fun h4 => ?_)
      refine ok_ltS (fun S3 => ?_)
      refine ok_iinc (v := 1) 4 [(6, .int (a6 + 1)), (0, rv Γ 0), (3, .int a3), (4, .int a4), (5, .int a5)] hc dX12_copy_188 rfl (by decide) (Nat.le_of_ble_eq_true rfl) rfl ?_
      refine ok_goto 158 hc dX12_copy_191 (by decide) ?_
      refine ok_sub [1, 2, 3, 4, 0] rfl ?_
      exact ih _ _
set_option maxRecDepth 100000 in
set_option maxHeartbeats 4000000 in
theorem tX12_copy (a1 : Int32) (a2 : Int32) (a3 : Int32) (a4 : Int32) (a5 : Int32) (S : St) (q : Int32 × St) (h : fX12_copy a1 a2 a3 a4 a5 S = some q) : MT vI wM mX12_copy (fun n0 => [.ref (n0 + 0), .int a1, .int a2, .int a3, .int a4, .int a5]) S q := by
  refine mt_of (show plainFor yX12_copy = true from by decide) (fun _ => Nat.le_of_ble_eq_true rfl) ?_
  intro Γ hc _
  rw [← h]
  show Ok Γ wM 0 [(0, rv Γ 0), (1, .int a1), (2, .int a2), (3, .int a3), (4, .int a4), (5, .int a5)] [] S _
  unfold fX12_copy
  refine ok_iload_n 1 hc dX12_copy_0 rfl rfl ?_
  refine ok_callSi (As := [.int a1]) (st := []) (fun n0 => [.int a1]) hc SS_X12_156 rfl rfl rfl ⟨Nat.le_of_ble_eq_true rfl, Nat.le_of_ble_eq_true rfl⟩ (Nat.le_of_ble_eq_true rfl) (fun q h => tX12_isSheet a1 S q h) dX12_copy_1 (fun v1 S2 => ?_)
  refine ok_if_eq_ite 14 hc dX12_copy_4 (by decide) (fun h3 => ?_) (fun h3 => ?_)
  · refine ok_bipush (v := (-2)) hc dX12_copy_14 (by decide) ?_
    exact ok_iret hc rfl dX12_copy_16
  · refine ok_iload_n 3 hc dX12_copy_7 rfl rfl ?_
    refine ok_callSi (As := [.int a3]) (st := []) (fun n0 => [.int a3]) hc SS_X12_156 rfl rfl rfl ⟨Nat.le_of_ble_eq_true rfl, Nat.le_of_ble_eq_true rfl⟩ (Nat.le_of_ble_eq_true rfl) (fun q h => tX12_isSheet a3 S2 q h) dX12_copy_8 (fun v4 S5 => ?_)
    refine ok_if_ne_ite 17 hc dX12_copy_11 (by decide) (fun h6 => ?_) (fun h6 => ?_)
    · refine ok_aload_n 0 hc dX12_copy_17 rfl rfl ?_
      refine ok_getr 1 hc FS_X12_7 rfl sM_0 rfl dX12_copy_18 ?_
      refine ok_iload_n 1 hc dX12_copy_21 rfl rfl ?_
      refine ok_iald hc sM_1 dX12_copy_22 (fun h7 => ?_)
      refine ok_jn (fun g => ∀ (S8 : St), Ok Γ wM 35 [(0, rv Γ 0)] [] S8 (g S8)) ?_ (fun k9 hk9 => ?_)
      · intro S8
        refine ok_aload_n 0 hc dX12_copy_35 rfl rfl ?_
        refine ok_iconst (v := 1) hc dX12_copy_36 (by decide) ?_
        refine ok_callVi (As := [.int 1]) (st := []) (fun n0 => [.ref (n0 + 0), .int 1]) hc VS_X12_162 sM_0 rfl rfl rfl ⟨Nat.le_of_ble_eq_true rfl, Nat.le_of_ble_eq_true rfl⟩ (Nat.le_of_ble_eq_true rfl) (fun q h => tX12_met 1 S8 q h) dX12_copy_37 (fun v10 S11 => ?_)
        exact ok_iret hc rfl dX12_copy_40
      · refine ok_if_lt_ite 35 hc dX12_copy_23 (by decide) (fun h12 => ?_) (fun h12 => ?_)
        · refine ok_sub [0] rfl ?_
          exact hk9 _
        · refine ok_aload_n 0 hc dX12_copy_26 rfl rfl ?_
          refine ok_getr 1 hc FS_X12_7 rfl sM_0 rfl dX12_copy_27 ?_
          refine ok_iload_n 3 hc dX12_copy_30 rfl rfl ?_
          refine ok_iald hc sM_1 dX12_copy_31 (fun h13 => ?_)
          refine ok_if_ge_ite 41 hc dX12_copy_32 (by decide) (fun h14 => ?_) (fun h14 => ?_)
          · refine ok_aload_n 0 hc dX12_copy_41 rfl rfl ?_
            refine ok_getr 1 hc FS_X12_7 rfl sM_0 rfl dX12_copy_42 ?_
            refine ok_iload_n 1 hc dX12_copy_45 rfl rfl ?_
            refine ok_iald hc sM_1 dX12_copy_46 (fun h15 => ?_)
            refine ok_aload_n 0 hc dX12_copy_47 rfl rfl ?_
            refine ok_getr 1 hc FS_X12_7 rfl sM_0 rfl dX12_copy_48 ?_
            refine ok_iload_n 3 hc dX12_copy_51 rfl rfl ?_
            refine ok_iald hc sM_1 dX12_copy_52 (fun h16 => ?_)
            refine ok_icmp_eq_ite 62 hc dX12_copy_53 (by decide) (fun h17 => ?_) (fun h17 => ?_)
            · refine ok_iload_n 2 hc dX12_copy_62 rfl rfl ?_
              refine ok_jn (fun g => ∀ (S18 : St), Ok Γ wM 111 [(0, rv Γ 0)] [] S18 (g S18)) ?_ (fun k19 hk19 => ?_)
              · intro S18
                refine ok_aload_n 0 hc dX12_copy_111 rfl rfl ?_
                refine ok_iconst (v := 2) hc dX12_copy_112 (by decide) ?_
                refine ok_callVi (As := [.int 2]) (st := []) (fun n0 => [.ref (n0 + 0), .int 2]) hc VS_X12_162 sM_0 rfl rfl rfl ⟨Nat.le_of_ble_eq_true rfl, Nat.le_of_ble_eq_true rfl⟩ (Nat.le_of_ble_eq_true rfl) (fun q h => tX12_met 2 S18 q h) dX12_copy_113 (fun v20 S21 => ?_)
                exact ok_iret hc rfl dX12_copy_116
              · refine ok_if_lt_ite 111 hc dX12_copy_63 (by decide) (fun h22 => ?_) (fun h22 => ?_)
                · refine ok_sub [0] rfl ?_
                  exact hk19 _
                · refine ok_iload 4 hc dX12_copy_66 rfl ?_
                  refine ok_if_lt_ite 111 hc dX12_copy_68 (by decide) (fun h23 => ?_) (fun h23 => ?_)
                  · refine ok_sub [0] rfl ?_
                    exact hk19 _
                  · refine ok_iload 5 hc dX12_copy_71 rfl ?_
                    refine ok_if_lt_ite 111 hc dX12_copy_73 (by decide) (fun h24 => ?_) (fun h24 => ?_)
                    · refine ok_sub [0] rfl ?_
                      exact hk19 _
                    · refine ok_iload_n 2 hc dX12_copy_76 rfl rfl ?_
                      refine ok_i2l hc dX12_copy_77 ?_
                      refine ok_iload 5 hc dX12_copy_78 rfl ?_
                      refine ok_i2l hc dX12_copy_80 ?_
                      refine ok_ladd hc dX12_copy_81 ?_
                      refine ok_aload_n 0 hc dX12_copy_82 rfl rfl ?_
                      refine ok_getr 2 hc FS_X12_13 rfl sM_0 rfl dX12_copy_83 ?_
                      refine ok_iload_n 1 hc dX12_copy_86 rfl rfl ?_
                      refine ok_iald hc sM_2 dX12_copy_87 (fun h25 => ?_)
                      refine ok_i2l hc dX12_copy_88 ?_
                      refine ok_lcmp_gt_ite 111 hc dX12_copy_89 dX12_copy_90 (by decide) (fun h26 => ?_) (fun h26 => ?_)
                      · refine ok_sub [0] rfl ?_
                        exact hk19 _
                      · refine ok_iload 4 hc dX12_copy_93 rfl ?_
                        refine ok_i2l hc dX12_copy_95 ?_
                        refine ok_iload 5 hc dX12_copy_96 rfl ?_
                        refine ok_i2l hc dX12_copy_98 ?_
                        refine ok_ladd hc dX12_copy_99 ?_
                        refine ok_aload_n 0 hc dX12_copy_100 rfl rfl ?_
                        refine ok_getr 2 hc FS_X12_13 rfl sM_0 rfl dX12_copy_101 ?_
                        refine ok_iload_n 3 hc dX12_copy_104 rfl rfl ?_
                        refine ok_iald hc sM_2 dX12_copy_105 (fun h27 => ?_)
                        refine ok_i2l hc dX12_copy_106 ?_
                        refine ok_lcmp_le_ite 117 hc dX12_copy_107 dX12_copy_108 (by decide) (fun h28 => ?_) (fun h28 => ?_)
                        · refine ok_iconst (v := 0) hc dX12_copy_117 (by decide) ?_
                          refine ok_istore [(6, .int 0), (0, rv Γ 0), (1, .int a1), (2, .int a2), (3, .int a3), (4, .int a4), (5, .int a5)] hc dX12_copy_118 (Nat.le_of_ble_eq_true rfl) rfl ?_
                          refine ok_sub [1, 2, 3, 4, 5, 6, 0] rfl ?_
                          refine tX12_copy_L120 hc _ _ _ _ _ _  ?_ FU _ _
                          · intro S29
                            refine ok_iconst (v := 0) hc dX12_copy_155 (by decide) ?_
                            refine ok_istore [(6, .int 0), (0, rv Γ 0), (3, .int a3), (4, .int a4), (5, .int a5)] hc dX12_copy_156 (Nat.le_of_ble_eq_true rfl) rfl ?_
                            refine ok_sub [1, 2, 3, 4, 0] rfl ?_
                            refine tX12_copy_L158 hc _ _ _   FU _ _
                        · refine ok_sub [0] rfl ?_
                          exact hk19 _
            · refine ok_aload_n 0 hc dX12_copy_56 rfl rfl ?_
              refine ok_iconst (v := 4) hc dX12_copy_57 (by decide) ?_
              refine ok_callVi (As := [.int 4]) (st := []) (fun n0 => [.ref (n0 + 0), .int 4]) hc VS_X12_162 sM_0 rfl rfl rfl ⟨Nat.le_of_ble_eq_true rfl, Nat.le_of_ble_eq_true rfl⟩ (Nat.le_of_ble_eq_true rfl) (fun q h => tX12_met 4 S5 q h) dX12_copy_58 (fun v30 S31 => ?_)
              exact ok_iret hc rfl dX12_copy_61
          · refine ok_sub [0] rfl ?_
            exact hk9 _
    · refine ok_bipush (v := (-2)) hc dX12_copy_14 (by decide) ?_
      exact ok_iret hc rfl dX12_copy_16
def fX12_count_L71_st (rec : Int32 → Int32 → St → Option (Int32 × St)) (a2 : Int32) (a3 : Int32) (S : St) : Option (Int32 × St) :=
  if (S.1 0 9) ≤ a3 then (some (a2, S)) else (if ib a3 20 then (lt (if (S.1 16 (nt a3)) = 0 then 0 else 1) (fun (v3 : Int32) => lt (a2 + v3) (fun (v5 : Int32) => rec v5 (a3 + 1) S))) else none)
def fX12_count_L71 : Nat → Int32 → Int32 → St → Option (Int32 × St)
  | 0 => fun _ _ _ => none
  | n + 1 => fun a2 a3 S => fX12_count_L71_st (fX12_count_L71 n) a2 a3 S
def fX12_count (a1 : Int32) (S : St) : Option (Int32 × St) :=
  if a1 = 0 then (some (S.1 0 9, S)) else if a1 = 1 then (fX12_count_L71 FU 0 0 S) else if a1 = 2 then (some (S.1 0 30, S)) else if a1 = 3 then (some (S.1 0 34, S)) else if a1 = 4 then (some (S.1 0 43, S)) else if a1 = 5 then (bnd (fX12_whole S) (fun v7 S8 => some (v7, S8))) else if a1 = 6 then (some (S.1 0 46, S)) else if a1 = 7 then (some (S.1 0 51, S)) else if a1 = 8 then (some (S.1 0 8, S)) else if a1 = 9 then (some (S.1 0 4, S)) else if a1 = 10 then (some (S.1 0 5, S)) else if a1 = 11 then (some (S.1 0 6, S)) else (some ((-2), S))
set_option maxRecDepth 100000 in
set_option maxHeartbeats 4000000 in
theorem tX12_count_L71 {Γ : Cx Int32} (hc : Cok Γ wM vI mX12_count) : ∀ (n : Nat) (a2 : Int32) (a3 : Int32) (S : St), Ok Γ wM 71 [(0, rv Γ 0), (2, .int a2), (3, .int a3)] [] S (fX12_count_L71 n a2 a3 S) := by
  intro n
  induction n with
  | zero =>
    intro a2 a3 S
    exact ok_none
  | succ n ih =>
    intro a2 a3 S
    show Ok Γ wM 71 [(0, rv Γ 0), (2, .int a2), (3, .int a3)] [] S (fX12_count_L71_st (fX12_count_L71 n) a2 a3 S)
    unfold fX12_count_L71_st
    refine ok_iload_n 2 hc dX12_count_71 rfl rfl ?_
    refine ok_aload_n 0 hc dX12_count_72 rfl rfl ?_
    refine ok_geti hc FS_X12_176 rfl sM_0 dX12_count_73 ?_
    refine ok_icmp_ge_ite 102 hc dX12_count_76 (by decide) (fun h1 => ?_) (fun h1 => ?_)
    · refine ok_iload_n 1 hc dX12_count_102 rfl rfl ?_
      exact ok_iret hc rfl dX12_count_103
    · refine ok_iload_n 1 hc dX12_count_79 rfl rfl ?_
      refine ok_aload_n 0 hc dX12_count_80 rfl rfl ?_
      refine ok_getr 16 hc FS_X12_63 rfl sM_0 rfl dX12_count_81 ?_
      refine ok_iload_n 2 hc dX12_count_84 rfl rfl ?_
      refine ok_zald hc sM_16 dX12_count_85 (fun h2 => ?_)
      refine ok_lt (fun g => ∀ (v3 : Int32), Ok Γ wM 94 [(0, rv Γ 0), (3, .int a3)] [.int v3, .int a2] S (g v3)) ?_ (fun k4 hk4 => ?_)
      · intro v3
        refine ok_iadd hc dX12_count_94 ?_
        refine ok_lti (fun v5 => ?_)
        refine ok_istore_n [(2, .int v5), (0, rv Γ 0), (3, .int a3)] hc dX12_count_95 rfl (Nat.le_of_ble_eq_true rfl) rfl ?_
        refine ok_iinc (v := 1) 2 [(3, .int (a3 + 1)), (2, .int v5), (0, rv Γ 0)] hc dX12_count_96 rfl (by decide) (Nat.le_of_ble_eq_true rfl) rfl ?_
        refine ok_goto 71 hc dX12_count_99 (by decide) ?_
        refine ok_sub [2, 1, 0] rfl ?_
        exact ih _ _ _
      · refine ok_if_eq 93 hc dX12_count_86 (by decide) (fun h6 => ?_) (fun h6 => ?_)
        · rw [if_pos h6]
          refine ok_iconst (v := 0) hc dX12_count_93 (by decide) ?_
          refine ok_sub [0, 2] rfl ?_
          exact hk4 _
        · rw [if_neg h6]
          refine ok_iconst (v := 1) hc dX12_count_89 (by decide) ?_
          refine ok_goto 94 hc dX12_count_90 (by decide) ?_
          refine ok_sub [0, 2] rfl ?_
          exact hk4 _
set_option maxRecDepth 100000 in
set_option maxHeartbeats 4000000 in
theorem tX12_count (a1 : Int32) (S : St) (q : Int32 × St) (h : fX12_count a1 S = some q) : MT vI wM mX12_count (fun n0 => [.ref (n0 + 0), .int a1]) S q := by
  refine mt_of (show plainFor yX12_count = true from by decide) (fun _ => Nat.le_of_ble_eq_true rfl) ?_
  intro Γ hc _
  rw [← h]
  show Ok Γ wM 0 [(0, rv Γ 0), (1, .int a1)] [] S _
  unfold fX12_count
  refine ok_iconst (v := 0) hc dX12_count_0 (by decide) ?_
  refine ok_istore_n [(2, .int 0), (0, rv Γ 0), (1, .int a1)] hc dX12_count_1 rfl (Nat.le_of_ble_eq_true rfl) rfl ?_
  refine ok_iload_n 2 hc dX12_count_2 rfl rfl ?_
  refine ok_ite (fun h1 => ?_) (fun h1 => ?_)
  · refine ok_tswIn (v := 0) 64 hc dX12_count_3 h1 (by decide) (by decide) rfl (by decide) ?_
    refine ok_aload_n 1 hc dX12_count_64 rfl rfl ?_
    refine ok_geti hc FS_X12_176 rfl sM_0 dX12_count_65 ?_
    exact ok_iret hc rfl dX12_count_68
  · refine ok_ite (fun h2 => ?_) (fun h2 => ?_)
    · refine ok_tswIn (v := 1) 69 hc dX12_count_3 h2 (by decide) (by decide) rfl (by decide) ?_
      refine ok_iconst (v := 0) hc dX12_count_69 (by decide) ?_
      refine ok_istore_n [(3, .int 0), (2, .int 0), (0, rv Γ 0), (1, .int a1)] hc dX12_count_70 rfl (Nat.le_of_ble_eq_true rfl) rfl ?_
      refine ok_sub [2, 1, 0] rfl ?_
      refine tX12_count_L71 hc    FU _ _ _
    · refine ok_ite (fun h3 => ?_) (fun h3 => ?_)
      · refine ok_tswIn (v := 2) 104 hc dX12_count_3 h3 (by decide) (by decide) rfl (by decide) ?_
        refine ok_aload_n 1 hc dX12_count_104 rfl rfl ?_
        refine ok_geti hc FS_X12_334 rfl sM_0 dX12_count_105 ?_
        exact ok_iret hc rfl dX12_count_108
      · refine ok_ite (fun h4 => ?_) (fun h4 => ?_)
        · refine ok_tswIn (v := 3) 109 hc dX12_count_3 h4 (by decide) (by decide) rfl (by decide) ?_
          refine ok_aload_n 1 hc dX12_count_109 rfl rfl ?_
          refine ok_geti hc FS_X12_345 rfl sM_0 dX12_count_110 ?_
          exact ok_iret hc rfl dX12_count_113
        · refine ok_ite (fun h5 => ?_) (fun h5 => ?_)
          · refine ok_tswIn (v := 4) 114 hc dX12_count_3 h5 (by decide) (by decide) rfl (by decide) ?_
            refine ok_aload_n 1 hc dX12_count_114 rfl rfl ?_
            refine ok_geti hc FS_X12_179 rfl sM_0 dX12_count_115 ?_
            exact ok_iret hc rfl dX12_count_118
          · refine ok_ite (fun h6 => ?_) (fun h6 => ?_)
            · refine ok_tswIn (v := 5) 119 hc dX12_count_3 h6 (by decide) (by decide) rfl (by decide) ?_
              refine ok_aload_n 1 hc dX12_count_119 rfl rfl ?_
              refine ok_callVi (As := []) (st := []) (fun n0 => [.ref (n0 + 0)]) hc VS_X12_395 sM_0 rfl rfl rfl ⟨Nat.le_of_ble_eq_true rfl, Nat.le_of_ble_eq_true rfl⟩ (Nat.le_of_ble_eq_true rfl) (fun q h => tX12_whole S q h) dX12_count_120 (fun v7 S8 => ?_)
              exact ok_iret hc rfl dX12_count_123
            · refine ok_ite (fun h9 => ?_) (fun h9 => ?_)
              · refine ok_tswIn (v := 6) 124 hc dX12_count_3 h9 (by decide) (by decide) rfl (by decide) ?_
                refine ok_aload_n 1 hc dX12_count_124 rfl rfl ?_
                refine ok_geti hc FS_X12_182 rfl sM_0 dX12_count_125 ?_
                exact ok_iret hc rfl dX12_count_128
              · refine ok_ite (fun h10 => ?_) (fun h10 => ?_)
                · refine ok_tswIn (v := 7) 129 hc dX12_count_3 h10 (by decide) (by decide) rfl (by decide) ?_
                  refine ok_aload_n 1 hc dX12_count_129 rfl rfl ?_
                  refine ok_geti hc FS_X12_185 rfl sM_0 dX12_count_130 ?_
                  exact ok_iret hc rfl dX12_count_133
                · refine ok_ite (fun h11 => ?_) (fun h11 => ?_)
                  · refine ok_tswIn (v := 8) 134 hc dX12_count_3 h11 (by decide) (by decide) rfl (by decide) ?_
                    refine ok_aload_n 1 hc dX12_count_134 rfl rfl ?_
                    refine ok_geti hc FS_X12_226 rfl sM_0 dX12_count_135 ?_
                    exact ok_iret hc rfl dX12_count_138
                  · refine ok_ite (fun h12 => ?_) (fun h12 => ?_)
                    · refine ok_tswIn (v := 9) 139 hc dX12_count_3 h12 (by decide) (by decide) rfl (by decide) ?_
                      refine ok_aload_n 1 hc dX12_count_139 rfl rfl ?_
                      refine ok_geti hc FS_X12_147 rfl sM_0 dX12_count_140 ?_
                      exact ok_iret hc rfl dX12_count_143
                    · refine ok_ite (fun h13 => ?_) (fun h13 => ?_)
                      · refine ok_tswIn (v := 10) 144 hc dX12_count_3 h13 (by decide) (by decide) rfl (by decide) ?_
                        refine ok_aload_n 1 hc dX12_count_144 rfl rfl ?_
                        refine ok_geti hc FS_X12_23 rfl sM_0 dX12_count_145 ?_
                        exact ok_iret hc rfl dX12_count_148
                      · refine ok_ite (fun h14 => ?_) (fun h14 => ?_)
                        · refine ok_tswIn (v := 11) 149 hc dX12_count_3 h14 (by decide) (by decide) rfl (by decide) ?_
                          refine ok_aload_n 1 hc dX12_count_149 rfl rfl ?_
                          refine ok_geti hc FS_X12_27 rfl sM_0 dX12_count_150 ?_
                          exact ok_iret hc rfl dX12_count_153
                        · refine ok_tswOut 154 hc dX12_count_3 (by have i0 := ne_i (k := 0) h1 (by decide); have i1 := ne_i (k := 1) h2 (by decide); have i2 := ne_i (k := 2) h3 (by decide); have i3 := ne_i (k := 3) h4 (by decide); have i4 := ne_i (k := 4) h5 (by decide); have i5 := ne_i (k := 5) h6 (by decide); have i6 := ne_i (k := 6) h9 (by decide); have i7 := ne_i (k := 7) h10 (by decide); have i8 := ne_i (k := 8) h11 (by decide); have i9 := ne_i (k := 9) h12 (by decide); have i10 := ne_i (k := 10) h13 (by decide); have i11 := ne_i (k := 11) h14 (by decide); omega) (by decide) ?_
                          refine ok_bipush (v := (-2)) hc dX12_count_154 (by decide) ?_
                          exact ok_iret hc rfl dX12_count_156
def fX12_cut (a0 : Int32) (a1 : Int64) (S : St) : Option (Int64 × St) :=
  if a0 = 0 then (some (a1.toInt32.toInt8.toInt32.toInt64, S)) else (if a0 = 1 then (some (a1.toInt32.toInt16.toInt32.toInt64, S)) else (if a0 = 2 then (some (a1.toInt32.toInt64, S)) else (some (a1, S))))
set_option maxRecDepth 100000 in
set_option maxHeartbeats 4000000 in
theorem tX12_cut (a0 : Int32) (a1 : Int64) (S : St) (q : Int64 × St) (h : fX12_cut a0 a1 S = some q) : MT vL wM mX12_cut (fun n0 => [.int a0, .long a1]) S q := by
  refine mt_of (show plainFor yX12_cut = true from by decide) (fun _ => Nat.le_of_ble_eq_true rfl) ?_
  intro Γ hc _
  rw [← h]
  show Ok Γ wM 0 [(0, .int a0), (1, .long a1)] [] S _
  unfold fX12_cut
  refine ok_iload_n 0 hc dX12_cut_0 rfl rfl ?_
  refine ok_if_ne_ite 11 hc dX12_cut_1 (by decide) (fun h1 => ?_) (fun h1 => ?_)
  · refine ok_iload_n 0 hc dX12_cut_11 rfl rfl ?_
    refine ok_iconst (v := 1) hc dX12_cut_12 (by decide) ?_
    refine ok_icmp_ne_ite 23 hc dX12_cut_13 (by decide) (fun h2 => ?_) (fun h2 => ?_)
    · refine ok_iload_n 0 hc dX12_cut_23 rfl rfl ?_
      refine ok_iconst (v := 2) hc dX12_cut_24 (by decide) ?_
      refine ok_icmp_ne_ite 34 hc dX12_cut_25 (by decide) (fun h3 => ?_) (fun h3 => ?_)
      · refine ok_lload_n 1 hc dX12_cut_34 rfl rfl ?_
        exact ok_lret hc rfl dX12_cut_35
      · refine ok_lload_n 1 hc dX12_cut_28 rfl rfl ?_
        refine ok_l2i hc dX12_cut_29 ?_
        refine ok_i2l hc dX12_cut_30 ?_
        refine ok_goto 35 hc dX12_cut_31 (by decide) ?_
        exact ok_lret hc rfl dX12_cut_35
    · refine ok_lload_n 1 hc dX12_cut_16 rfl rfl ?_
      refine ok_l2i hc dX12_cut_17 ?_
      refine ok_i2s hc dX12_cut_18 ?_
      refine ok_i2l hc dX12_cut_19 ?_
      refine ok_goto 35 hc dX12_cut_20 (by decide) ?_
      exact ok_lret hc rfl dX12_cut_35
  · refine ok_lload_n 1 hc dX12_cut_4 rfl rfl ?_
    refine ok_l2i hc dX12_cut_5 ?_
    refine ok_i2b hc dX12_cut_6 ?_
    refine ok_i2l hc dX12_cut_7 ?_
    refine ok_goto 35 hc dX12_cut_8 (by decide) ?_
    exact ok_lret hc rfl dX12_cut_35
def fX12_heard (a1 : Int32) (S : St) : Option (Int32 × St) :=
  bnd (fX12_isSender a1 S) (fun v1 S2 => if v1 = 0 then (some ((-2), S2)) else (if ib a1 20 then (if (S2.1 16 (nt a1)) = 0 then (some ((-3), S2)) else (bnd (fX12_others a1 S2) (fun v6 S7 => bnd (fX12_drownsBy a1 v6 S7) (fun v8 S9 => bnd (fX12_isHeard a1 v8 S9) (fun v10 S11 => if v10 = 0 then (some (0, S11)) else (some (1, S11))))))) else none))
set_option maxRecDepth 100000 in
set_option maxHeartbeats 4000000 in
theorem tX12_heard (a1 : Int32) (S : St) (q : Int32 × St) (h : fX12_heard a1 S = some q) : MT vI wM mX12_heard (fun n0 => [.ref (n0 + 0), .int a1]) S q := by
  refine mt_of (show plainFor yX12_heard = true from by decide) (fun _ => Nat.le_of_ble_eq_true rfl) ?_
  intro Γ hc _
  rw [← h]
  show Ok Γ wM 0 [(0, rv Γ 0), (1, .int a1)] [] S _
  unfold fX12_heard
  refine ok_aload_n 0 hc dX12_heard_0 rfl rfl ?_
  refine ok_iload_n 1 hc dX12_heard_1 rfl rfl ?_
  refine ok_callVi (As := [.int a1]) (st := []) (fun n0 => [.ref (n0 + 0), .int a1]) hc VS_X12_237 sM_0 rfl rfl rfl ⟨Nat.le_of_ble_eq_true rfl, Nat.le_of_ble_eq_true rfl⟩ (Nat.le_of_ble_eq_true rfl) (fun q h => tX12_isSender a1 S q h) dX12_heard_2 (fun v1 S2 => ?_)
  refine ok_if_ne_ite 11 hc dX12_heard_5 (by decide) (fun h3 => ?_) (fun h3 => ?_)
  · refine ok_aload_n 0 hc dX12_heard_11 rfl rfl ?_
    refine ok_getr 16 hc FS_X12_63 rfl sM_0 rfl dX12_heard_12 ?_
    refine ok_iload_n 1 hc dX12_heard_15 rfl rfl ?_
    refine ok_zald hc sM_16 dX12_heard_16 (fun h4 => ?_)
    refine ok_if_ne_ite 23 hc dX12_heard_17 (by decide) (fun h5 => ?_) (fun h5 => ?_)
    · refine ok_aload_n 0 hc dX12_heard_23 rfl rfl ?_
      refine ok_iload_n 1 hc dX12_heard_24 rfl rfl ?_
      refine ok_aload_n 0 hc dX12_heard_25 rfl rfl ?_
      refine ok_iload_n 1 hc dX12_heard_26 rfl rfl ?_
      refine ok_aload_n 0 hc dX12_heard_27 rfl rfl ?_
      refine ok_iload_n 1 hc dX12_heard_28 rfl rfl ?_
      refine ok_callVi (As := [.int a1]) (st := [.int a1, rv Γ 0, .int a1, rv Γ 0]) (fun n0 => [.ref (n0 + 0), .int a1]) hc VS_X12_259 sM_0 rfl rfl rfl ⟨Nat.le_of_ble_eq_true rfl, Nat.le_of_ble_eq_true rfl⟩ (Nat.le_of_ble_eq_true rfl) (fun q h => tX12_others a1 S2 q h) dX12_heard_29 (fun v6 S7 => ?_)
      refine ok_callVl (As := [.int a1, .int v6]) (st := [.int a1, rv Γ 0]) (fun n0 => [.ref (n0 + 0), .int a1, .int v6]) hc VS_X12_262 sM_0 rfl rfl rfl ⟨Nat.le_of_ble_eq_true rfl, Nat.le_of_ble_eq_true rfl⟩ (Nat.le_of_ble_eq_true rfl) (fun q h => tX12_drownsBy a1 v6 S7 q h) dX12_heard_32 (fun v8 S9 => ?_)
      refine ok_callVi (As := [.int a1, .long v8]) (st := []) (fun n0 => [.ref (n0 + 0), .int a1, .long v8]) hc VS_X12_266 sM_0 rfl rfl rfl ⟨Nat.le_of_ble_eq_true rfl, Nat.le_of_ble_eq_true rfl⟩ (Nat.le_of_ble_eq_true rfl) (fun q h => tX12_isHeard a1 v8 S9 q h) dX12_heard_35 (fun v10 S11 => ?_)
      refine ok_if_eq_ite 45 hc dX12_heard_38 (by decide) (fun h12 => ?_) (fun h12 => ?_)
      · refine ok_iconst (v := 0) hc dX12_heard_45 (by decide) ?_
        exact ok_iret hc rfl dX12_heard_46
      · refine ok_iconst (v := 1) hc dX12_heard_41 (by decide) ?_
        refine ok_goto 46 hc dX12_heard_42 (by decide) ?_
        exact ok_iret hc rfl dX12_heard_46
    · refine ok_bipush (v := (-3)) hc dX12_heard_20 (by decide) ?_
      exact ok_iret hc rfl dX12_heard_22
  · refine ok_bipush (v := (-2)) hc dX12_heard_8 (by decide) ?_
    exact ok_iret hc rfl dX12_heard_10
def fX12_won (S : St) : Option (Int32 × St) :=
  bnd (fX12_bestBids 0 S) (fun v1 S2 => some (v1, S2))
set_option maxRecDepth 100000 in
set_option maxHeartbeats 4000000 in
theorem tX12_won (S : St) (q : Int32 × St) (h : fX12_won S = some q) : MT vI wM mX12_won (fun n0 => [.ref (n0 + 0)]) S q := by
  refine mt_of (show plainFor yX12_won = true from by decide) (fun _ => Nat.le_of_ble_eq_true rfl) ?_
  intro Γ hc _
  rw [← h]
  show Ok Γ wM 0 [(0, rv Γ 0)] [] S _
  unfold fX12_won
  refine ok_aload_n 0 hc dX12_won_0 rfl rfl ?_
  refine ok_iconst (v := 0) hc dX12_won_1 (by decide) ?_
  refine ok_callVi (As := [.int 0]) (st := []) (fun n0 => [.ref (n0 + 0), .int 0]) hc VS_X12_340 sM_0 rfl rfl rfl ⟨Nat.le_of_ble_eq_true rfl, Nat.le_of_ble_eq_true rfl⟩ (Nat.le_of_ble_eq_true rfl) (fun q h => tX12_bestBids 0 S q h) dX12_won_2 (fun v1 S2 => ?_)
  exact ok_iret hc rfl dX12_won_5
def fX12_findGots_L14_st (kx0 : St → Option (Unit × St)) (a1 : Int32) (rec : Int32 → St → Option (Unit × St)) (a2 : Int32) (S : St) : Option (Unit × St) :=
  if (S.1 0 51) ≤ a2 then (kx0 S) else (if ib a1 12 then (if ib (a1 / 2) 6 then (if ib (a1 / 2) 6 then (if ib a2 12 then (bnd (fX12_lossOf (S.1 36 (nt (a1 / 2))) (S.1 37 (nt (a1 / 2))) (S.1 40 (nt a2)) 0 0 S) (fun v6 S7 => if ¬ v6 = 0 then (if ib ((12 * a1) + a2) 144 then lt (wi S7 42 (nt ((12 * a1) + a2)) ((100 * (S.1 38 (nt a1))) / v6)) (fun S9 => rec (a2 + 1) S9) else none) else none)) else none) else none) else none) else none)
def fX12_findGots_L14 (kx0 : St → Option (Unit × St)) (a1 : Int32) : Nat → Int32 → St → Option (Unit × St)
  | 0 => fun _ _ => none
  | n + 1 => fun a2 S => fX12_findGots_L14_st kx0 a1 (fX12_findGots_L14 kx0 a1 n) a2 S
def fX12_findGots_L2_st (rec : Int32 → St → Option (Unit × St)) (a1 : Int32) (S : St) : Option (Unit × St) :=
  if (2 * (S.1 0 46)) ≤ a1 then (some ((), S)) else (fX12_findGots_L14 (fun (S2 : St) => rec (a1 + 1) S2) a1 FU 0 S)
def fX12_findGots_L2 : Nat → Int32 → St → Option (Unit × St)
  | 0 => fun _ _ => none
  | n + 1 => fun a1 S => fX12_findGots_L2_st (fX12_findGots_L2 n) a1 S
def fX12_findGots (S : St) : Option (Unit × St) :=
  fX12_findGots_L2 FU 0 S
set_option maxRecDepth 100000 in
set_option maxHeartbeats 4000000 in
theorem tX12_findGots_L14 {Γ : Cx Unit} (hc : Cok Γ wM vU mX12_findGots) (kx0 : St → Option (Unit × St)) (a1 : Int32) (hx0 : ∀ (S : St), Ok Γ wM 77 [(0, rv Γ 0), (1, .int a1)] [] S (kx0 S)) : ∀ (n : Nat) (a2 : Int32) (S : St), Ok Γ wM 14 [(0, rv Γ 0), (1, .int a1), (2, .int a2)] [] S (fX12_findGots_L14 kx0 a1 n a2 S) := by
  intro n
  induction n with
  | zero =>
    intro a2 S
    exact ok_none
  | succ n ih =>
    intro a2 S
    show Ok Γ wM 14 [(0, rv Γ 0), (1, .int a1), (2, .int a2)] [] S (fX12_findGots_L14_st kx0 a1 (fX12_findGots_L14 kx0 a1 n) a2 S)
    unfold fX12_findGots_L14_st
    refine ok_iload_n 2 hc dX12_findGots_14 rfl rfl ?_
    refine ok_aload_n 0 hc dX12_findGots_15 rfl rfl ?_
    refine ok_geti hc FS_X12_185 rfl sM_0 dX12_findGots_16 ?_
    refine ok_icmp_ge_ite 77 hc dX12_findGots_19 (by decide) (fun h1 => ?_) (fun h1 => ?_)
    · refine ok_sub [0, 1] rfl ?_
      exact hx0 _
    · refine ok_aload_n 0 hc dX12_findGots_22 rfl rfl ?_
      refine ok_getr 42 hc FS_X12_142 rfl sM_0 rfl dX12_findGots_23 ?_
      refine ok_bipush (v := 12) hc dX12_findGots_26 (by decide) ?_
      refine ok_iload_n 1 hc dX12_findGots_28 rfl rfl ?_
      refine ok_imul hc dX12_findGots_29 ?_
      refine ok_iload_n 2 hc dX12_findGots_30 rfl rfl ?_
      refine ok_iadd hc dX12_findGots_31 ?_
      refine ok_bipush (v := 100) hc dX12_findGots_32 (by decide) ?_
      refine ok_aload_n 0 hc dX12_findGots_34 rfl rfl ?_
      refine ok_getr 38 hc FS_X12_130 rfl sM_0 rfl dX12_findGots_35 ?_
      refine ok_iload_n 1 hc dX12_findGots_38 rfl rfl ?_
      refine ok_iald hc sM_38 dX12_findGots_39 (fun h2 => ?_)
      refine ok_imul hc dX12_findGots_40 ?_
      refine ok_aload_n 0 hc dX12_findGots_41 rfl rfl ?_
      refine ok_aload_n 0 hc dX12_findGots_42 rfl rfl ?_
      refine ok_getr 36 hc FS_X12_124 rfl sM_0 rfl dX12_findGots_43 ?_
      refine ok_iload_n 1 hc dX12_findGots_46 rfl rfl ?_
      refine ok_iconst (v := 2) hc dX12_findGots_47 (by decide) ?_
      refine ok_idivK hc dX12_findGots_48 (by decide) ?_
      refine ok_iald hc sM_36 dX12_findGots_49 (fun h3 => ?_)
      refine ok_aload_n 0 hc dX12_findGots_50 rfl rfl ?_
      refine ok_getr 37 hc FS_X12_127 rfl sM_0 rfl dX12_findGots_51 ?_
      refine ok_iload_n 1 hc dX12_findGots_54 rfl rfl ?_
      refine ok_iconst (v := 2) hc dX12_findGots_55 (by decide) ?_
      refine ok_idivK hc dX12_findGots_56 (by decide) ?_
      refine ok_iald hc sM_37 dX12_findGots_57 (fun h4 => ?_)
      refine ok_aload_n 0 hc dX12_findGots_58 rfl rfl ?_
      refine ok_getr 40 hc FS_X12_136 rfl sM_0 rfl dX12_findGots_59 ?_
      refine ok_iload_n 2 hc dX12_findGots_62 rfl rfl ?_
      refine ok_iald hc sM_40 dX12_findGots_63 (fun h5 => ?_)
      refine ok_iconst (v := 0) hc dX12_findGots_64 (by decide) ?_
      refine ok_iconst (v := 0) hc dX12_findGots_65 (by decide) ?_
      refine ok_callVi (As := [.int (S.1 36 (nt (a1 / 2))), .int (S.1 37 (nt (a1 / 2))), .int (S.1 40 (nt a2)), .int 0, .int 0]) (st := [.int (100 * (S.1 38 (nt a1))), .int ((12 * a1) + a2), rv Γ 42]) (fun n0 => [.ref (n0 + 0), .int (S.1 36 (nt (a1 / 2))), .int (S.1 37 (nt (a1 / 2))), .int (S.1 40 (nt a2)), .int 0, .int 0]) hc VS_X12_220 sM_0 rfl rfl rfl ⟨Nat.le_of_ble_eq_true rfl, Nat.le_of_ble_eq_true rfl⟩ (Nat.le_of_ble_eq_true rfl) (fun q h => tX12_lossOf (S.1 36 (nt (a1 / 2))) (S.1 37 (nt (a1 / 2))) (S.1 40 (nt a2)) 0 0 S q h) dX12_findGots_66 (fun v6 S7 => ?_)
      refine ok_idiv hc dX12_findGots_69 (fun h8 => ?_)
      refine ok_iast hc sM_42 dX12_findGots_70 (fun h10 => ?_)
      refine ok_ltS (fun S9 => ?_)
      refine ok_iinc (v := 1) 2 [(2, .int (a2 + 1)), (0, rv Γ 0), (1, .int a1)] hc dX12_findGots_71 rfl (by decide) (Nat.le_of_ble_eq_true rfl) rfl ?_
      refine ok_goto 14 hc dX12_findGots_74 (by decide) ?_
      refine ok_sub [1, 2, 0] rfl ?_
      exact ih _ _
set_option maxRecDepth 100000 in
set_option maxHeartbeats 4000000 in
theorem tX12_findGots_L2 {Γ : Cx Unit} (hc : Cok Γ wM vU mX12_findGots) : ∀ (n : Nat) (a1 : Int32) (S : St), Ok Γ wM 2 [(0, rv Γ 0), (1, .int a1)] [] S (fX12_findGots_L2 n a1 S) := by
  intro n
  induction n with
  | zero =>
    intro a1 S
    exact ok_none
  | succ n ih =>
    intro a1 S
    show Ok Γ wM 2 [(0, rv Γ 0), (1, .int a1)] [] S (fX12_findGots_L2_st (fX12_findGots_L2 n) a1 S)
    unfold fX12_findGots_L2_st
    refine ok_iload_n 1 hc dX12_findGots_2 rfl rfl ?_
    refine ok_iconst (v := 2) hc dX12_findGots_3 (by decide) ?_
    refine ok_aload_n 0 hc dX12_findGots_4 rfl rfl ?_
    refine ok_geti hc FS_X12_182 rfl sM_0 dX12_findGots_5 ?_
    refine ok_imul hc dX12_findGots_8 ?_
    refine ok_icmp_ge_ite 83 hc dX12_findGots_9 (by decide) (fun h1 => ?_) (fun h1 => ?_)
    · exact ok_vret hc rfl dX12_findGots_83
    · refine ok_iconst (v := 0) hc dX12_findGots_12 (by decide) ?_
      refine ok_istore_n [(2, .int 0), (0, rv Γ 0), (1, .int a1)] hc dX12_findGots_13 rfl (Nat.le_of_ble_eq_true rfl) rfl ?_
      refine ok_sub [1, 2, 0] rfl ?_
      refine tX12_findGots_L14 hc _ _  ?_ FU _ _
      · intro S2
        refine ok_iinc (v := 1) 1 [(1, .int (a1 + 1)), (0, rv Γ 0)] hc dX12_findGots_77 rfl (by decide) (Nat.le_of_ble_eq_true rfl) rfl ?_
        refine ok_goto 2 hc dX12_findGots_80 (by decide) ?_
        refine ok_sub [1, 0] rfl ?_
        exact ih _ _
set_option maxRecDepth 100000 in
set_option maxHeartbeats 4000000 in
theorem tX12_findGots (S : St) (q : Unit × St) (h : fX12_findGots S = some q) : MT vU wM mX12_findGots (fun n0 => [.ref (n0 + 0)]) S q := by
  refine mt_of (show plainFor yX12_findGots = true from by decide) (fun _ => Nat.le_of_ble_eq_true rfl) ?_
  intro Γ hc _
  rw [← h]
  show Ok Γ wM 0 [(0, rv Γ 0)] [] S _
  unfold fX12_findGots
  refine ok_iconst (v := 0) hc dX12_findGots_0 (by decide) ?_
  refine ok_istore_n [(1, .int 0), (0, rv Γ 0)] hc dX12_findGots_1 rfl (Nat.le_of_ble_eq_true rfl) rfl ?_
  refine ok_sub [1, 0] rfl ?_
  refine tX12_findGots_L2 hc    FU _ _
