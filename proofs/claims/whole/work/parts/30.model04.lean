def fX12_proof_L32_st (kx0 : Int32 → St → Option (Int32 × St)) (a2 : Int32) (rec : Int32 → Int32 → St → Option (Int32 × St)) (a3 : Int32) (a4 : Int32) (S : St) : Option (Int32 × St) :=
  if (1 <<< ((S.1 0 22) &&& 31)) ≤ a4 then (kx0 a3 S) else (if ib a4 256 then (jn (fun (v3 : Int32) (S4 : St) => rec v3 (a4 + 1) S4) (fun k5 => if (S.1 19 (nt a4)) ≤ a2 then (k5 a3 S) else (if a3 = 0 then (k5 a4 S) else (bnd (fX12_ones a4 S) (fun v8 S9 => bnd (fX12_ones a3 S9) (fun v10 S11 => if v10 ≤ v8 then (k5 a3 S11) else (k5 a4 S11))))))) else none)
def fX12_proof_L32 (kx0 : Int32 → St → Option (Int32 × St)) (a2 : Int32) : Nat → Int32 → Int32 → St → Option (Int32 × St)
  | 0 => fun _ _ _ => none
  | n + 1 => fun a3 a4 S => fX12_proof_L32_st kx0 a2 (fX12_proof_L32 kx0 a2 n) a3 a4 S
def fX12_proof (a1 : Int32) (a2 : Int32) (S : St) : Option (Int32 × St) :=
  bnd (fX12_takesSet a1 S) (fun v1 S2 => if v1 = 0 then (some ((-2), S2)) else (bnd (fX12_in a2.toInt64 1 8 S2) (fun v4 S5 => if v4 = 0 then (some ((-2), S5)) else (bnd (fX12_findFewest S5) (fun _ S7 => fX12_proof_L32 (fun (v8 : Int32) (S9 : St) => bnd (fX12_wholeBits v8 S9) (fun v10 S11 => some (v10, S11))) a2 FU 0 1 S7)))))
set_option maxRecDepth 100000 in
set_option maxHeartbeats 4000000 in
theorem tX12_proof_L32 {Γ : Cx Int32} (hc : Cok Γ wM vI mX12_proof) (kx0 : Int32 → St → Option (Int32 × St)) (a2 : Int32) (hx0 : ∀ (a3 : Int32) (S : St), Ok Γ wM 79 [(0, rv Γ 0), (3, .int a3)] [] S (kx0 a3 S)) : ∀ (n : Nat) (a3 : Int32) (a4 : Int32) (S : St), Ok Γ wM 32 [(0, rv Γ 0), (2, .int a2), (3, .int a3), (4, .int a4)] [] S (fX12_proof_L32 kx0 a2 n a3 a4 S) := by
  intro n
  induction n with
  | zero =>
    intro a3 a4 S
    exact ok_none
  | succ n ih =>
    intro a3 a4 S
    show Ok Γ wM 32 [(0, rv Γ 0), (2, .int a2), (3, .int a3), (4, .int a4)] [] S (fX12_proof_L32_st kx0 a2 (fX12_proof_L32 kx0 a2 n) a3 a4 S)
    unfold fX12_proof_L32_st
    refine ok_iload 3 hc dX12_proof_32 rfl ?_
    refine ok_iconst (v := 1) hc dX12_proof_34 (by decide) ?_
    refine ok_aload_n 0 hc dX12_proof_35 rfl rfl ?_
    refine ok_geti hc FS_X12_277 rfl sM_0 dX12_proof_36 ?_
    refine ok_ishl hc dX12_proof_39 ?_
    refine ok_icmp_ge_ite 79 hc dX12_proof_40 (by decide) (fun h1 => ?_) (fun h1 => ?_)
    · refine ok_sub [0, 2] rfl ?_
      exact hx0 _ _
    · refine ok_aload_n 0 hc dX12_proof_43 rfl rfl ?_
      refine ok_getr 19 hc FS_X12_73 rfl sM_0 rfl dX12_proof_44 ?_
      refine ok_iload 3 hc dX12_proof_47 rfl ?_
      refine ok_iald hc sM_19 dX12_proof_49 (fun h2 => ?_)
      refine ok_iload_n 1 hc dX12_proof_50 rfl rfl ?_
      refine ok_jn (fun g => ∀ (v3 : Int32) (S4 : St), Ok Γ wM 73 [(0, rv Γ 0), (2, .int a2), (3, .int v3), (4, .int a4)] [] S4 (g v3 S4)) ?_ (fun k5 hk5 => ?_)
      · intro v3 S4
        refine ok_iinc (v := 1) 3 [(4, .int (a4 + 1)), (0, rv Γ 0), (2, .int a2), (3, .int v3)] hc dX12_proof_73 rfl (by decide) (Nat.le_of_ble_eq_true rfl) rfl ?_
        refine ok_goto 32 hc dX12_proof_76 (by decide) ?_
        refine ok_sub [1, 2, 3, 0] rfl ?_
        exact ih _ _ _
      · refine ok_icmp_le_ite 73 hc dX12_proof_51 (by decide) (fun h6 => ?_) (fun h6 => ?_)
        · exact hk5 _ _
        · refine ok_iload_n 2 hc dX12_proof_54 rfl rfl ?_
          refine ok_if_eq_ite 70 hc dX12_proof_55 (by decide) (fun h7 => ?_) (fun h7 => ?_)
          · refine ok_iload 3 hc dX12_proof_70 rfl ?_
            refine ok_istore_n [(3, .int a4), (0, rv Γ 0), (2, .int a2), (4, .int a4)] hc dX12_proof_72 rfl (Nat.le_of_ble_eq_true rfl) rfl ?_
            refine ok_sub [1, 2, 0, 3] rfl ?_
            exact hk5 _ _
          · refine ok_iload 3 hc dX12_proof_58 rfl ?_
            refine ok_callSi (As := [.int a4]) (st := []) (fun n0 => [.int a4]) hc SS_X12_274 rfl rfl rfl ⟨Nat.le_of_ble_eq_true rfl, Nat.le_of_ble_eq_true rfl⟩ (Nat.le_of_ble_eq_true rfl) (fun q h => tX12_ones a4 S q h) dX12_proof_60 (fun v8 S9 => ?_)
            refine ok_iload_n 2 hc dX12_proof_63 rfl rfl ?_
            refine ok_callSi (As := [.int a3]) (st := [.int v8]) (fun n0 => [.int a3]) hc SS_X12_274 rfl rfl rfl ⟨Nat.le_of_ble_eq_true rfl, Nat.le_of_ble_eq_true rfl⟩ (Nat.le_of_ble_eq_true rfl) (fun q h => tX12_ones a3 S9 q h) dX12_proof_64 (fun v10 S11 => ?_)
            refine ok_icmp_ge_ite 73 hc dX12_proof_67 (by decide) (fun h12 => ?_) (fun h12 => ?_)
            · exact hk5 _ _
            · refine ok_iload 3 hc dX12_proof_70 rfl ?_
              refine ok_istore_n [(3, .int a4), (0, rv Γ 0), (2, .int a2), (4, .int a4)] hc dX12_proof_72 rfl (Nat.le_of_ble_eq_true rfl) rfl ?_
              refine ok_sub [1, 2, 0, 3] rfl ?_
              exact hk5 _ _
set_option maxRecDepth 100000 in
set_option maxHeartbeats 4000000 in
theorem tX12_proof (a1 : Int32) (a2 : Int32) (S : St) (q : Int32 × St) (h : fX12_proof a1 a2 S = some q) : MT vI wM mX12_proof (fun n0 => [.ref (n0 + 0), .int a1, .int a2]) S q := by
  refine mt_of (show plainFor yX12_proof = true from by decide) (fun _ => Nat.le_of_ble_eq_true rfl) ?_
  intro Γ hc _
  rw [← h]
  show Ok Γ wM 0 [(0, rv Γ 0), (1, .int a1), (2, .int a2)] [] S _
  unfold fX12_proof
  refine ok_aload_n 0 hc dX12_proof_0 rfl rfl ?_
  refine ok_iload_n 1 hc dX12_proof_1 rfl rfl ?_
  refine ok_callVi (As := [.int a1]) (st := []) (fun n0 => [.ref (n0 + 0), .int a1]) hc VS_X12_283 sM_0 rfl rfl rfl ⟨Nat.le_of_ble_eq_true rfl, Nat.le_of_ble_eq_true rfl⟩ (Nat.le_of_ble_eq_true rfl) (fun q h => tX12_takesSet a1 S q h) dX12_proof_2 (fun v1 S2 => ?_)
  refine ok_if_eq_ite 20 hc dX12_proof_5 (by decide) (fun h3 => ?_) (fun h3 => ?_)
  · refine ok_bipush (v := (-2)) hc dX12_proof_20 (by decide) ?_
    exact ok_iret hc rfl dX12_proof_22
  · refine ok_iload_n 2 hc dX12_proof_8 rfl rfl ?_
    refine ok_i2l hc dX12_proof_9 ?_
    refine ok_lconst (v := 1) hc dX12_proof_10 (by decide) ?_
    refine ok_ldc2 hc dX12_proof_11 W_1476 ?_
    refine ok_callSi (As := [.long a2.toInt64, .long 1, .long 8]) (st := []) (fun n0 => [.long a2.toInt64, .long 1, .long 8]) hc SS_X12_152 rfl rfl rfl ⟨Nat.le_of_ble_eq_true rfl, Nat.le_of_ble_eq_true rfl⟩ (Nat.le_of_ble_eq_true rfl) (fun q h => tX12_in a2.toInt64 1 8 S2 q h) dX12_proof_14 (fun v4 S5 => ?_)
    refine ok_if_ne_ite 23 hc dX12_proof_17 (by decide) (fun h6 => ?_) (fun h6 => ?_)
    · refine ok_aload_n 0 hc dX12_proof_23 rfl rfl ?_
      refine ok_callVu (As := []) (st := []) (fun n0 => [.ref (n0 + 0)]) hc VS_X12_286 sM_0 rfl rfl rfl ⟨Nat.le_of_ble_eq_true rfl, Nat.le_of_ble_eq_true rfl⟩ (Nat.le_of_ble_eq_true rfl) (fun q h => tX12_findFewest S5 q h) dX12_proof_24 (fun _ S7 => ?_)
      refine ok_iconst (v := 0) hc dX12_proof_27 (by decide) ?_
      refine ok_istore_n [(3, .int 0), (0, rv Γ 0), (1, .int a1), (2, .int a2)] hc dX12_proof_28 rfl (Nat.le_of_ble_eq_true rfl) rfl ?_
      refine ok_iconst (v := 1) hc dX12_proof_29 (by decide) ?_
      refine ok_istore [(4, .int 1), (3, .int 0), (0, rv Γ 0), (1, .int a1), (2, .int a2)] hc dX12_proof_30 (Nat.le_of_ble_eq_true rfl) rfl ?_
      refine ok_sub [2, 4, 1, 0] rfl ?_
      refine tX12_proof_L32 hc _ _  ?_ FU _ _ _
      · intro v8 S9
        refine ok_aload_n 0 hc dX12_proof_79 rfl rfl ?_
        refine ok_iload_n 1 hc dX12_proof_80 rfl rfl ?_
        refine ok_callVi (As := [.int v8]) (st := []) (fun n0 => [.ref (n0 + 0), .int v8]) hc VS_X12_280 sM_0 rfl rfl rfl ⟨Nat.le_of_ble_eq_true rfl, Nat.le_of_ble_eq_true rfl⟩ (Nat.le_of_ble_eq_true rfl) (fun q h => tX12_wholeBits v8 S9 q h) dX12_proof_81 (fun v10 S11 => ?_)
        exact ok_iret hc rfl dX12_proof_84
    · refine ok_bipush (v := (-2)) hc dX12_proof_20 (by decide) ?_
      exact ok_iret hc rfl dX12_proof_22
def fX12_put (a1 : Int32) (a2 : Int32) (a3 : Int32) (a4 : Int64) (S : St) : Option (Int32 × St) :=
  bnd (fX12_isSheet a1 S) (fun v1 S2 => if v1 = 0 then (some ((-2), S2)) else (bnd (fX12_in a2.toInt64 0 3 S2) (fun v4 S5 => if v4 = 0 then (some ((-2), S5)) else (bnd (fX12_lacks a1 a2 a3 S5) (fun v7 S8 => if v7 = 0 then (bnd (fX12_cut a2 a4 S8) (fun v10 S11 => if ib ((400 * a1) + a3) 2400 then lt (wj S11 3 (nt ((400 * a1) + a3)) v10) (fun S12 => some (1, S12)) else none)) else (some (v7, S8)))))))
set_option maxRecDepth 100000 in
set_option maxHeartbeats 4000000 in
theorem tX12_put (a1 : Int32) (a2 : Int32) (a3 : Int32) (a4 : Int64) (S : St) (q : Int32 × St) (h : fX12_put a1 a2 a3 a4 S = some q) : MT vI wM mX12_put (fun n0 => [.ref (n0 + 0), .int a1, .int a2, .int a3, .long a4]) S q := by
  refine mt_of (show plainFor yX12_put = true from by decide) (fun _ => Nat.le_of_ble_eq_true rfl) ?_
  intro Γ hc _
  rw [← h]
  show Ok Γ wM 0 [(0, rv Γ 0), (1, .int a1), (2, .int a2), (3, .int a3), (4, .long a4)] [] S _
  unfold fX12_put
  refine ok_iload_n 1 hc dX12_put_0 rfl rfl ?_
  refine ok_callSi (As := [.int a1]) (st := []) (fun n0 => [.int a1]) hc SS_X12_156 rfl rfl rfl ⟨Nat.le_of_ble_eq_true rfl, Nat.le_of_ble_eq_true rfl⟩ (Nat.le_of_ble_eq_true rfl) (fun q h => tX12_isSheet a1 S q h) dX12_put_1 (fun v1 S2 => ?_)
  refine ok_if_eq_ite 19 hc dX12_put_4 (by decide) (fun h3 => ?_) (fun h3 => ?_)
  · refine ok_bipush (v := (-2)) hc dX12_put_19 (by decide) ?_
    exact ok_iret hc rfl dX12_put_21
  · refine ok_iload_n 2 hc dX12_put_7 rfl rfl ?_
    refine ok_i2l hc dX12_put_8 ?_
    refine ok_lconst (v := 0) hc dX12_put_9 (by decide) ?_
    refine ok_ldc2 hc dX12_put_10 W_1273 ?_
    refine ok_callSi (As := [.long a2.toInt64, .long 0, .long 3]) (st := []) (fun n0 => [.long a2.toInt64, .long 0, .long 3]) hc SS_X12_152 rfl rfl rfl ⟨Nat.le_of_ble_eq_true rfl, Nat.le_of_ble_eq_true rfl⟩ (Nat.le_of_ble_eq_true rfl) (fun q h => tX12_in a2.toInt64 0 3 S2 q h) dX12_put_13 (fun v4 S5 => ?_)
    refine ok_if_ne_ite 22 hc dX12_put_16 (by decide) (fun h6 => ?_) (fun h6 => ?_)
    · refine ok_aload_n 0 hc dX12_put_22 rfl rfl ?_
      refine ok_iload_n 1 hc dX12_put_23 rfl rfl ?_
      refine ok_iload_n 2 hc dX12_put_24 rfl rfl ?_
      refine ok_iload_n 3 hc dX12_put_25 rfl rfl ?_
      refine ok_callVi (As := [.int a1, .int a2, .int a3]) (st := []) (fun n0 => [.ref (n0 + 0), .int a1, .int a2, .int a3]) hc VS_X12_166 sM_0 rfl rfl rfl ⟨Nat.le_of_ble_eq_true rfl, Nat.le_of_ble_eq_true rfl⟩ (Nat.le_of_ble_eq_true rfl) (fun q h => tX12_lacks a1 a2 a3 S5 q h) dX12_put_26 (fun v7 S8 => ?_)
      refine ok_istore [(6, .int v7), (0, rv Γ 0), (1, .int a1), (2, .int a2), (3, .int a3), (4, .long a4)] hc dX12_put_29 (Nat.le_of_ble_eq_true rfl) rfl ?_
      refine ok_iload 0 hc dX12_put_31 rfl ?_
      refine ok_if_eq_ite 39 hc dX12_put_33 (by decide) (fun h9 => ?_) (fun h9 => ?_)
      · refine ok_aload_n 1 hc dX12_put_39 rfl rfl ?_
        refine ok_getr 3 hc FS_X12_16 rfl sM_0 rfl dX12_put_40 ?_
        refine ok_sipush (v := 400) hc dX12_put_43 (by decide) ?_
        refine ok_iload_n 2 hc dX12_put_46 rfl rfl ?_
        refine ok_imul hc dX12_put_47 ?_
        refine ok_iload_n 4 hc dX12_put_48 rfl rfl ?_
        refine ok_iadd hc dX12_put_49 ?_
        refine ok_iload_n 3 hc dX12_put_50 rfl rfl ?_
        refine ok_lload 5 hc dX12_put_51 rfl ?_
        refine ok_callSl (As := [.int a2, .long a4]) (st := [.int ((400 * a1) + a3), rv Γ 3]) (fun n0 => [.int a2, .long a4]) hc SS_X12_170 rfl rfl rfl ⟨Nat.le_of_ble_eq_true rfl, Nat.le_of_ble_eq_true rfl⟩ (Nat.le_of_ble_eq_true rfl) (fun q h => tX12_cut a2 a4 S8 q h) dX12_put_53 (fun v10 S11 => ?_)
        refine ok_last hc sM_3 dX12_put_56 (fun h13 => ?_)
        refine ok_ltS (fun S12 => ?_)
        refine ok_iconst (v := 1) hc dX12_put_57 (by decide) ?_
        exact ok_iret hc rfl dX12_put_58
      · refine ok_iload 0 hc dX12_put_36 rfl ?_
        exact ok_iret hc rfl dX12_put_38
    · refine ok_bipush (v := (-2)) hc dX12_put_19 (by decide) ?_
      exact ok_iret hc rfl dX12_put_21
def fX12_rule (a1 : Int32) (a2 : Int32) (a3 : Int32) (S : St) : Option (Int32 × St) :=
  bnd (fX12_isAsked a1 a2 a3 S) (fun v1 S2 => if v1 = 0 then (some ((-2), S2)) else (bnd (fX12_ruleOf a1 a2 a3 S2) (fun v4 S5 => some (v4, S5))))
set_option maxRecDepth 100000 in
set_option maxHeartbeats 4000000 in
theorem tX12_rule (a1 : Int32) (a2 : Int32) (a3 : Int32) (S : St) (q : Int32 × St) (h : fX12_rule a1 a2 a3 S = some q) : MT vI wM mX12_rule (fun n0 => [.ref (n0 + 0), .int a1, .int a2, .int a3]) S q := by
  refine mt_of (show plainFor yX12_rule = true from by decide) (fun _ => Nat.le_of_ble_eq_true rfl) ?_
  intro Γ hc _
  rw [← h]
  show Ok Γ wM 0 [(0, rv Γ 0), (1, .int a1), (2, .int a2), (3, .int a3)] [] S _
  unfold fX12_rule
  refine ok_iload_n 1 hc dX12_rule_0 rfl rfl ?_
  refine ok_iload_n 2 hc dX12_rule_1 rfl rfl ?_
  refine ok_iload_n 3 hc dX12_rule_2 rfl rfl ?_
  refine ok_callSi (As := [.int a1, .int a2, .int a3]) (st := []) (fun n0 => [.int a1, .int a2, .int a3]) hc SS_X12_379 rfl rfl rfl ⟨Nat.le_of_ble_eq_true rfl, Nat.le_of_ble_eq_true rfl⟩ (Nat.le_of_ble_eq_true rfl) (fun q h => tX12_isAsked a1 a2 a3 S q h) dX12_rule_3 (fun v1 S2 => ?_)
  refine ok_if_eq_ite 19 hc dX12_rule_6 (by decide) (fun h3 => ?_) (fun h3 => ?_)
  · refine ok_bipush (v := (-2)) hc dX12_rule_19 (by decide) ?_
    exact ok_iret hc rfl dX12_rule_21
  · refine ok_aload_n 0 hc dX12_rule_9 rfl rfl ?_
    refine ok_iload_n 1 hc dX12_rule_10 rfl rfl ?_
    refine ok_iload_n 2 hc dX12_rule_11 rfl rfl ?_
    refine ok_iload_n 3 hc dX12_rule_12 rfl rfl ?_
    refine ok_callVi (As := [.int a1, .int a2, .int a3]) (st := []) (fun n0 => [.ref (n0 + 0), .int a1, .int a2, .int a3]) hc VS_X12_382 sM_0 rfl rfl rfl ⟨Nat.le_of_ble_eq_true rfl, Nat.le_of_ble_eq_true rfl⟩ (Nat.le_of_ble_eq_true rfl) (fun q h => tX12_ruleOf a1 a2 a3 S2 q h) dX12_rule_13 (fun v4 S5 => ?_)
    refine ok_goto 21 hc dX12_rule_16 (by decide) ?_
    exact ok_iret hc rfl dX12_rule_21
def fX12_sender (a1 : Int32) (a2 : Int32) (a3 : Int32) (a4 : Int32) (a5 : Int32) (a6 : Int32) (S : St) : Option (Int32 × St) :=
  bnd (fX12_in a1.toInt64 0 5 S) (fun v1 S2 => if v1 = 0 then (some ((-2), S2)) else (bnd (fX12_isCell a2 S2) (fun v4 S5 => if v4 = 0 then (some ((-2), S5)) else (bnd (fX12_isStrength a3 S5) (fun v7 S8 => if v7 = 0 then (some ((-2), S8)) else (bnd (fX12_isMast a4 S8) (fun v10 S11 => if v10 = 0 then (some ((-2), S11)) else (bnd (fX12_in a5.toInt64 1 10000 S11) (fun v13 S14 => if v13 = 0 then (some ((-2), S14)) else (bnd (fX12_isCell a6 S14) (fun v16 S17 => if v16 = 0 then (some ((-2), S17)) else (if (S17.1 0 9) = 20 then (some ((-4), S17)) else (if ib (S17.1 0 9) 20 then lt (wi S17 6 (nt (S17.1 0 9)) a1) (fun S20 => if ib (S20.1 0 9) 20 then lt (wi S20 7 (nt (S20.1 0 9)) a2) (fun S22 => if ib (S22.1 0 9) 20 then lt (wi S22 8 (nt (S22.1 0 9)) a3) (fun S24 => if ib (S24.1 0 9) 20 then lt (wi S24 9 (nt (S24.1 0 9)) a4) (fun S26 => if ib (S26.1 0 9) 20 then lt (wi S26 10 (nt (S26.1 0 9)) a5) (fun S28 => if ib (S28.1 0 9) 20 then lt (wi S28 11 (nt (S28.1 0 9)) a6) (fun S30 => if ib (S30.1 0 9) 20 then lt (wi S30 12 (nt (S30.1 0 9)) 1) (fun S32 => if ib (S32.1 0 9) 20 then lt (wi S32 13 (nt (S32.1 0 9)) 0) (fun S34 => if ib (S34.1 0 9) 20 then lt (wi S34 14 (nt (S34.1 0 9)) 1) (fun S36 => if ib (S36.1 0 9) 20 then lt (wi S36 15 (nt (S36.1 0 9)) (-1)) (fun S38 => if ib (S38.1 0 9) 20 ∧ b01 1 then lt (wi S38 16 (nt (S38.1 0 9)) 1) (fun S40 => lt (wi S40 0 9 ((S40.1 0 9) + 1)) (fun S42 => some ((S42.1 0 9) - 1, S42))) else none) else none) else none) else none) else none) else none) else none) else none) else none) else none) else none)))))))))))))
set_option maxRecDepth 100000 in
set_option maxHeartbeats 4000000 in
theorem tX12_sender (a1 : Int32) (a2 : Int32) (a3 : Int32) (a4 : Int32) (a5 : Int32) (a6 : Int32) (S : St) (q : Int32 × St) (h : fX12_sender a1 a2 a3 a4 a5 a6 S = some q) : MT vI wM mX12_sender (fun n0 => [.ref (n0 + 0), .int a1, .int a2, .int a3, .int a4, .int a5, .int a6]) S q := by
  refine mt_of (show plainFor yX12_sender = true from by decide) (fun _ => Nat.le_of_ble_eq_true rfl) ?_
  intro Γ hc _
  rw [← h]
  show Ok Γ wM 0 [(0, rv Γ 0), (1, .int a1), (2, .int a2), (3, .int a3), (4, .int a4), (5, .int a5), (6, .int a6)] [] S _
  unfold fX12_sender
  refine ok_iload_n 1 hc dX12_sender_0 rfl rfl ?_
  refine ok_i2l hc dX12_sender_1 ?_
  refine ok_lconst (v := 0) hc dX12_sender_2 (by decide) ?_
  refine ok_ldc2 hc dX12_sender_3 W_1269 ?_
  refine ok_callSi (As := [.long a1.toInt64, .long 0, .long 5]) (st := []) (fun n0 => [.long a1.toInt64, .long 0, .long 5]) hc SS_X12_152 rfl rfl rfl ⟨Nat.le_of_ble_eq_true rfl, Nat.le_of_ble_eq_true rfl⟩ (Nat.le_of_ble_eq_true rfl) (fun q h => tX12_in a1.toInt64 0 5 S q h) dX12_sender_6 (fun v1 S2 => ?_)
  refine ok_if_eq_ite 57 hc dX12_sender_9 (by decide) (fun h3 => ?_) (fun h3 => ?_)
  · refine ok_bipush (v := (-2)) hc dX12_sender_57 (by decide) ?_
    exact ok_iret hc rfl dX12_sender_59
  · refine ok_aload_n 0 hc dX12_sender_12 rfl rfl ?_
    refine ok_iload_n 2 hc dX12_sender_13 rfl rfl ?_
    refine ok_callVi (As := [.int a2]) (st := []) (fun n0 => [.ref (n0 + 0), .int a2]) hc VS_X12_191 sM_0 rfl rfl rfl ⟨Nat.le_of_ble_eq_true rfl, Nat.le_of_ble_eq_true rfl⟩ (Nat.le_of_ble_eq_true rfl) (fun q h => tX12_isCell a2 S2 q h) dX12_sender_14 (fun v4 S5 => ?_)
    refine ok_if_eq_ite 57 hc dX12_sender_17 (by decide) (fun h6 => ?_) (fun h6 => ?_)
    · refine ok_bipush (v := (-2)) hc dX12_sender_57 (by decide) ?_
      exact ok_iret hc rfl dX12_sender_59
    · refine ok_iload_n 3 hc dX12_sender_20 rfl rfl ?_
      refine ok_callSi (As := [.int a3]) (st := []) (fun n0 => [.int a3]) hc SS_X12_229 rfl rfl rfl ⟨Nat.le_of_ble_eq_true rfl, Nat.le_of_ble_eq_true rfl⟩ (Nat.le_of_ble_eq_true rfl) (fun q h => tX12_isStrength a3 S5 q h) dX12_sender_21 (fun v7 S8 => ?_)
      refine ok_if_eq_ite 57 hc dX12_sender_24 (by decide) (fun h9 => ?_) (fun h9 => ?_)
      · refine ok_bipush (v := (-2)) hc dX12_sender_57 (by decide) ?_
        exact ok_iret hc rfl dX12_sender_59
      · refine ok_iload 4 hc dX12_sender_27 rfl ?_
        refine ok_callSi (As := [.int a4]) (st := []) (fun n0 => [.int a4]) hc SS_X12_217 rfl rfl rfl ⟨Nat.le_of_ble_eq_true rfl, Nat.le_of_ble_eq_true rfl⟩ (Nat.le_of_ble_eq_true rfl) (fun q h => tX12_isMast a4 S8 q h) dX12_sender_29 (fun v10 S11 => ?_)
        refine ok_if_eq_ite 57 hc dX12_sender_32 (by decide) (fun h12 => ?_) (fun h12 => ?_)
        · refine ok_bipush (v := (-2)) hc dX12_sender_57 (by decide) ?_
          exact ok_iret hc rfl dX12_sender_59
        · refine ok_iload 5 hc dX12_sender_35 rfl ?_
          refine ok_i2l hc dX12_sender_37 ?_
          refine ok_lconst (v := 1) hc dX12_sender_38 (by decide) ?_
          refine ok_ldc2 hc dX12_sender_39 W_1333 ?_
          refine ok_callSi (As := [.long a5.toInt64, .long 1, .long 10000]) (st := []) (fun n0 => [.long a5.toInt64, .long 1, .long 10000]) hc SS_X12_152 rfl rfl rfl ⟨Nat.le_of_ble_eq_true rfl, Nat.le_of_ble_eq_true rfl⟩ (Nat.le_of_ble_eq_true rfl) (fun q h => tX12_in a5.toInt64 1 10000 S11 q h) dX12_sender_42 (fun v13 S14 => ?_)
          refine ok_if_eq_ite 57 hc dX12_sender_45 (by decide) (fun h15 => ?_) (fun h15 => ?_)
          · refine ok_bipush (v := (-2)) hc dX12_sender_57 (by decide) ?_
            exact ok_iret hc rfl dX12_sender_59
          · refine ok_aload_n 0 hc dX12_sender_48 rfl rfl ?_
            refine ok_iload 6 hc dX12_sender_49 rfl ?_
            refine ok_callVi (As := [.int a6]) (st := []) (fun n0 => [.ref (n0 + 0), .int a6]) hc VS_X12_191 sM_0 rfl rfl rfl ⟨Nat.le_of_ble_eq_true rfl, Nat.le_of_ble_eq_true rfl⟩ (Nat.le_of_ble_eq_true rfl) (fun q h => tX12_isCell a6 S14 q h) dX12_sender_51 (fun v16 S17 => ?_)
            refine ok_if_ne_ite 60 hc dX12_sender_54 (by decide) (fun h18 => ?_) (fun h18 => ?_)
            · refine ok_aload_n 0 hc dX12_sender_60 rfl rfl ?_
              refine ok_geti hc FS_X12_176 rfl sM_0 dX12_sender_61 ?_
              refine ok_bipush (v := 20) hc dX12_sender_64 (by decide) ?_
              refine ok_icmp_ne_ite 72 hc dX12_sender_66 (by decide) (fun h19 => ?_) (fun h19 => ?_)
              · refine ok_aload_n 0 hc dX12_sender_72 rfl rfl ?_
                refine ok_getr 6 hc FS_X12_33 rfl sM_0 rfl dX12_sender_73 ?_
                refine ok_aload_n 0 hc dX12_sender_76 rfl rfl ?_
                refine ok_geti hc FS_X12_176 rfl sM_0 dX12_sender_77 ?_
                refine ok_iload_n 1 hc dX12_sender_80 rfl rfl ?_
                refine ok_iast hc sM_6 dX12_sender_81 (fun h21 => ?_)
                refine ok_ltS (fun S20 => ?_)
                refine ok_aload_n 0 hc dX12_sender_82 rfl rfl ?_
                refine ok_getr 7 hc FS_X12_36 rfl sM_0 rfl dX12_sender_83 ?_
                refine ok_aload_n 0 hc dX12_sender_86 rfl rfl ?_
                refine ok_geti hc FS_X12_176 rfl sM_0 dX12_sender_87 ?_
                refine ok_iload_n 2 hc dX12_sender_90 rfl rfl ?_
                refine ok_iast hc sM_7 dX12_sender_91 (fun h23 => ?_)
                refine ok_ltS (fun S22 => ?_)
                refine ok_aload_n 0 hc dX12_sender_92 rfl rfl ?_
                refine ok_getr 8 hc FS_X12_39 rfl sM_0 rfl dX12_sender_93 ?_
                refine ok_aload_n 0 hc dX12_sender_96 rfl rfl ?_
                refine ok_geti hc FS_X12_176 rfl sM_0 dX12_sender_97 ?_
                refine ok_iload_n 3 hc dX12_sender_100 rfl rfl ?_
                refine ok_iast hc sM_8 dX12_sender_101 (fun h25 => ?_)
                refine ok_ltS (fun S24 => ?_)
                refine ok_aload_n 0 hc dX12_sender_102 rfl rfl ?_
                refine ok_getr 9 hc FS_X12_42 rfl sM_0 rfl dX12_sender_103 ?_
                refine ok_aload_n 0 hc dX12_sender_106 rfl rfl ?_
                refine ok_geti hc FS_X12_176 rfl sM_0 dX12_sender_107 ?_
                refine ok_iload 4 hc dX12_sender_110 rfl ?_
                refine ok_iast hc sM_9 dX12_sender_112 (fun h27 => ?_)
                refine ok_ltS (fun S26 => ?_)
                refine ok_aload_n 0 hc dX12_sender_113 rfl rfl ?_
                refine ok_getr 10 hc FS_X12_45 rfl sM_0 rfl dX12_sender_114 ?_
                refine ok_aload_n 0 hc dX12_sender_117 rfl rfl ?_
                refine ok_geti hc FS_X12_176 rfl sM_0 dX12_sender_118 ?_
                refine ok_iload 5 hc dX12_sender_121 rfl ?_
                refine ok_iast hc sM_10 dX12_sender_123 (fun h29 => ?_)
                refine ok_ltS (fun S28 => ?_)
                refine ok_aload_n 0 hc dX12_sender_124 rfl rfl ?_
                refine ok_getr 11 hc FS_X12_48 rfl sM_0 rfl dX12_sender_125 ?_
                refine ok_aload_n 0 hc dX12_sender_128 rfl rfl ?_
                refine ok_geti hc FS_X12_176 rfl sM_0 dX12_sender_129 ?_
                refine ok_iload 6 hc dX12_sender_132 rfl ?_
                refine ok_iast hc sM_11 dX12_sender_134 (fun h31 => ?_)
                refine ok_ltS (fun S30 => ?_)
                refine ok_aload_n 0 hc dX12_sender_135 rfl rfl ?_
                refine ok_getr 12 hc FS_X12_51 rfl sM_0 rfl dX12_sender_136 ?_
                refine ok_aload_n 0 hc dX12_sender_139 rfl rfl ?_
                refine ok_geti hc FS_X12_176 rfl sM_0 dX12_sender_140 ?_
                refine ok_iconst (v := 1) hc dX12_sender_143 (by decide) ?_
                refine ok_iast hc sM_12 dX12_sender_144 (fun h33 => ?_)
                refine ok_ltS (fun S32 => ?_)
                refine ok_aload_n 0 hc dX12_sender_145 rfl rfl ?_
                refine ok_getr 13 hc FS_X12_54 rfl sM_0 rfl dX12_sender_146 ?_
                refine ok_aload_n 0 hc dX12_sender_149 rfl rfl ?_
                refine ok_geti hc FS_X12_176 rfl sM_0 dX12_sender_150 ?_
                refine ok_iconst (v := 0) hc dX12_sender_153 (by decide) ?_
                refine ok_iast hc sM_13 dX12_sender_154 (fun h35 => ?_)
                refine ok_ltS (fun S34 => ?_)
                refine ok_aload_n 0 hc dX12_sender_155 rfl rfl ?_
                refine ok_getr 14 hc FS_X12_57 rfl sM_0 rfl dX12_sender_156 ?_
                refine ok_aload_n 0 hc dX12_sender_159 rfl rfl ?_
                refine ok_geti hc FS_X12_176 rfl sM_0 dX12_sender_160 ?_
                refine ok_iconst (v := 1) hc dX12_sender_163 (by decide) ?_
                refine ok_iast hc sM_14 dX12_sender_164 (fun h37 => ?_)
                refine ok_ltS (fun S36 => ?_)
                refine ok_aload_n 0 hc dX12_sender_165 rfl rfl ?_
                refine ok_getr 15 hc FS_X12_60 rfl sM_0 rfl dX12_sender_166 ?_
                refine ok_aload_n 0 hc dX12_sender_169 rfl rfl ?_
                refine ok_geti hc FS_X12_176 rfl sM_0 dX12_sender_170 ?_
                refine ok_iconst (v := (-1)) hc dX12_sender_173 (by decide) ?_
                refine ok_iast hc sM_15 dX12_sender_174 (fun h39 => ?_)
                refine ok_ltS (fun S38 => ?_)
                refine ok_aload_n 0 hc dX12_sender_175 rfl rfl ?_
                refine ok_getr 16 hc FS_X12_63 rfl sM_0 rfl dX12_sender_176 ?_
                refine ok_aload_n 0 hc dX12_sender_179 rfl rfl ?_
                refine ok_geti hc FS_X12_176 rfl sM_0 dX12_sender_180 ?_
                refine ok_iconst (v := 1) hc dX12_sender_183 (by decide) ?_
                refine ok_zast hc sM_16 dX12_sender_184 (fun h41 => ?_)
                refine ok_ltS (fun S40 => ?_)
                refine ok_aload_n 0 hc dX12_sender_185 rfl rfl ?_
                refine ok_dup hc dX12_sender_186 rfl ?_
                refine ok_geti hc FS_X12_176 rfl sM_0 dX12_sender_187 ?_
                refine ok_iconst (v := 1) hc dX12_sender_190 (by decide) ?_
                refine ok_iadd hc dX12_sender_191 ?_
                refine ok_puti hc FP_X12_176 rfl sM_0 dX12_sender_192 ?_
                refine ok_ltS (fun S42 => ?_)
                refine ok_aload_n 0 hc dX12_sender_195 rfl rfl ?_
                refine ok_geti hc FS_X12_176 rfl sM_0 dX12_sender_196 ?_
                refine ok_iconst (v := 1) hc dX12_sender_199 (by decide) ?_
                refine ok_isub hc dX12_sender_200 ?_
                exact ok_iret hc rfl dX12_sender_201
              · refine ok_bipush (v := (-4)) hc dX12_sender_69 (by decide) ?_
                exact ok_iret hc rfl dX12_sender_71
            · refine ok_bipush (v := (-2)) hc dX12_sender_57 (by decide) ?_
              exact ok_iret hc rfl dX12_sender_59
def fX12_serves (a1 : Int32) (S : St) : Option (Int32 × St) :=
  bnd (fX12_plans S) (fun v1 S2 => bnd (fX12_in a1.toInt64 0 ((v1 - 1).toInt64) S2) (fun v3 S4 => if v3 = 0 then (some ((-2), S4)) else (bnd (fX12_findGots S4) (fun _ S6 => bnd (fX12_servedBy a1 S6) (fun v7 S8 => some (v7, S8))))))
set_option maxRecDepth 100000 in
set_option maxHeartbeats 4000000 in
theorem tX12_serves (a1 : Int32) (S : St) (q : Int32 × St) (h : fX12_serves a1 S = some q) : MT vI wM mX12_serves (fun n0 => [.ref (n0 + 0), .int a1]) S q := by
  refine mt_of (show plainFor yX12_serves = true from by decide) (fun _ => Nat.le_of_ble_eq_true rfl) ?_
  intro Γ hc _
  rw [← h]
  show Ok Γ wM 0 [(0, rv Γ 0), (1, .int a1)] [] S _
  unfold fX12_serves
  refine ok_iload_n 1 hc dX12_serves_0 rfl rfl ?_
  refine ok_i2l hc dX12_serves_1 ?_
  refine ok_lconst (v := 0) hc dX12_serves_2 (by decide) ?_
  refine ok_aload_n 0 hc dX12_serves_3 rfl rfl ?_
  refine ok_callVi (As := []) (st := [.long 0, .long a1.toInt64]) (fun n0 => [.ref (n0 + 0)]) hc VS_X12_398 sM_0 rfl rfl rfl ⟨Nat.le_of_ble_eq_true rfl, Nat.le_of_ble_eq_true rfl⟩ (Nat.le_of_ble_eq_true rfl) (fun q h => tX12_plans S q h) dX12_serves_4 (fun v1 S2 => ?_)
  refine ok_iconst (v := 1) hc dX12_serves_7 (by decide) ?_
  refine ok_isub hc dX12_serves_8 ?_
  refine ok_i2l hc dX12_serves_9 ?_
  refine ok_callSi (As := [.long a1.toInt64, .long 0, .long ((v1 - 1).toInt64)]) (st := []) (fun n0 => [.long a1.toInt64, .long 0, .long ((v1 - 1).toInt64)]) hc SS_X12_152 rfl rfl rfl ⟨Nat.le_of_ble_eq_true rfl, Nat.le_of_ble_eq_true rfl⟩ (Nat.le_of_ble_eq_true rfl) (fun q h => tX12_in a1.toInt64 0 ((v1 - 1).toInt64) S2 q h) dX12_serves_10 (fun v3 S4 => ?_)
  refine ok_if_ne_ite 19 hc dX12_serves_13 (by decide) (fun h5 => ?_) (fun h5 => ?_)
  · refine ok_aload_n 0 hc dX12_serves_19 rfl rfl ?_
    refine ok_callVu (As := []) (st := []) (fun n0 => [.ref (n0 + 0)]) hc VS_X12_401 sM_0 rfl rfl rfl ⟨Nat.le_of_ble_eq_true rfl, Nat.le_of_ble_eq_true rfl⟩ (Nat.le_of_ble_eq_true rfl) (fun q h => tX12_findGots S4 q h) dX12_serves_20 (fun _ S6 => ?_)
    refine ok_aload_n 0 hc dX12_serves_23 rfl rfl ?_
    refine ok_iload_n 1 hc dX12_serves_24 rfl rfl ?_
    refine ok_callVi (As := [.int a1]) (st := []) (fun n0 => [.ref (n0 + 0), .int a1]) hc VS_X12_404 sM_0 rfl rfl rfl ⟨Nat.le_of_ble_eq_true rfl, Nat.le_of_ble_eq_true rfl⟩ (Nat.le_of_ble_eq_true rfl) (fun q h => tX12_servedBy a1 S6 q h) dX12_serves_25 (fun v7 S8 => ?_)
    exact ok_iret hc rfl dX12_serves_28
  · refine ok_bipush (v := (-2)) hc dX12_serves_16 (by decide) ?_
    exact ok_iret hc rfl dX12_serves_18
def fX12_set (a1 : Int32) (a2 : Int32) (S : St) : Option (Int32 × St) :=
  jn (fun (v1 : Int32) (S2 : St) => if v1 = 0 then (some ((-2), S2)) else (if ib a1 5 then (lt (S2.1 5 (nt a1)) (fun (v6 : Int32) => if ib a1 5 then lt (wi S2 5 (nt a1) a2) (fun S7 => some (v6, S7)) else none)) else none)) (fun k3 => if a1 = 0 then (bnd (fX12_in a2.toInt64 0 50 S) (fun v22 S23 => k3 v22 S23)) else (if a1 = 1 then (bnd (fX12_in a2.toInt64 0 200 S) (fun v20 S21 => k3 v20 S21)) else (if a1 = 2 then (bnd (fX12_in a2.toInt64 1 10000 S) (fun v18 S19 => k3 v18 S19)) else (bnd (fX12_in a1.toInt64 3 4 S) (fun v12 S13 => if v12 = 0 then (k3 0 S13) else (bnd (fX12_in a2.toInt64 1 1000000 S13) (fun v15 S16 => if v15 = 0 then (k3 0 S16) else (k3 1 S16))))))))
set_option maxRecDepth 100000 in
set_option maxHeartbeats 4000000 in
theorem tX12_set (a1 : Int32) (a2 : Int32) (S : St) (q : Int32 × St) (h : fX12_set a1 a2 S = some q) : MT vI wM mX12_set (fun n0 => [.ref (n0 + 0), .int a1, .int a2]) S q := by
  refine mt_of (show plainFor yX12_set = true from by decide) (fun _ => Nat.le_of_ble_eq_true rfl) ?_
  intro Γ hc _
  rw [← h]
  show Ok Γ wM 0 [(0, rv Γ 0), (1, .int a1), (2, .int a2)] [] S _
  unfold fX12_set
  refine ok_iload_n 1 hc dX12_set_0 rfl rfl ?_
  refine ok_jn (fun g => ∀ (v1 : Int32) (S2 : St), Ok Γ wM 81 [(0, rv Γ 0), (1, .int a1), (2, .int a2)] [.int v1] S2 (g v1 S2)) ?_ (fun k3 hk3 => ?_)
  · intro v1 S2
    refine ok_istore_n [(3, .int v1), (0, rv Γ 0), (1, .int a1), (2, .int a2)] hc dX12_set_81 rfl (Nat.le_of_ble_eq_true rfl) rfl ?_
    refine ok_iload_n 0 hc dX12_set_82 rfl rfl ?_
    refine ok_if_ne_ite 89 hc dX12_set_83 (by decide) (fun h4 => ?_) (fun h4 => ?_)
    · refine ok_aload_n 1 hc dX12_set_89 rfl rfl ?_
      refine ok_getr 5 hc FS_X12_30 rfl sM_0 rfl dX12_set_90 ?_
      refine ok_iload_n 2 hc dX12_set_93 rfl rfl ?_
      refine ok_iald hc sM_5 dX12_set_94 (fun h5 => ?_)
      refine ok_lti (fun v6 => ?_)
      refine ok_istore [(4, .int v6), (3, .int v1), (0, rv Γ 0), (1, .int a1), (2, .int a2)] hc dX12_set_95 (Nat.le_of_ble_eq_true rfl) rfl ?_
      refine ok_aload_n 2 hc dX12_set_97 rfl rfl ?_
      refine ok_getr 5 hc FS_X12_30 rfl sM_0 rfl dX12_set_98 ?_
      refine ok_iload_n 3 hc dX12_set_101 rfl rfl ?_
      refine ok_iload_n 4 hc dX12_set_102 rfl rfl ?_
      refine ok_iast hc sM_5 dX12_set_103 (fun h8 => ?_)
      refine ok_ltS (fun S7 => ?_)
      refine ok_iload 0 hc dX12_set_104 rfl ?_
      exact ok_iret hc rfl dX12_set_106
    · refine ok_bipush (v := (-2)) hc dX12_set_86 (by decide) ?_
      exact ok_iret hc rfl dX12_set_88
  · refine ok_if_ne_ite 16 hc dX12_set_1 (by decide) (fun h9 => ?_) (fun h9 => ?_)
    · refine ok_iload_n 1 hc dX12_set_16 rfl rfl ?_
      refine ok_iconst (v := 1) hc dX12_set_17 (by decide) ?_
      refine ok_icmp_ne_ite 33 hc dX12_set_18 (by decide) (fun h10 => ?_) (fun h10 => ?_)
      · refine ok_iload_n 1 hc dX12_set_33 rfl rfl ?_
        refine ok_iconst (v := 2) hc dX12_set_34 (by decide) ?_
        refine ok_icmp_ne_ite 50 hc dX12_set_35 (by decide) (fun h11 => ?_) (fun h11 => ?_)
        · refine ok_iload_n 1 hc dX12_set_50 rfl rfl ?_
          refine ok_i2l hc dX12_set_51 ?_
          refine ok_ldc2 hc dX12_set_52 W_1273 ?_
          refine ok_ldc2 hc dX12_set_55 W_1334 ?_
          refine ok_callSi (As := [.long a1.toInt64, .long 3, .long 4]) (st := []) (fun n0 => [.long a1.toInt64, .long 3, .long 4]) hc SS_X12_152 rfl rfl rfl ⟨Nat.le_of_ble_eq_true rfl, Nat.le_of_ble_eq_true rfl⟩ (Nat.le_of_ble_eq_true rfl) (fun q h => tX12_in a1.toInt64 3 4 S q h) dX12_set_58 (fun v12 S13 => ?_)
          refine ok_if_eq_ite 80 hc dX12_set_61 (by decide) (fun h14 => ?_) (fun h14 => ?_)
          · refine ok_iconst (v := 0) hc dX12_set_80 (by decide) ?_
            exact hk3 _ _
          · refine ok_iload_n 2 hc dX12_set_64 rfl rfl ?_
            refine ok_i2l hc dX12_set_65 ?_
            refine ok_lconst (v := 1) hc dX12_set_66 (by decide) ?_
            refine ok_ldc2 hc dX12_set_67 W_1335 ?_
            refine ok_callSi (As := [.long a2.toInt64, .long 1, .long 1000000]) (st := []) (fun n0 => [.long a2.toInt64, .long 1, .long 1000000]) hc SS_X12_152 rfl rfl rfl ⟨Nat.le_of_ble_eq_true rfl, Nat.le_of_ble_eq_true rfl⟩ (Nat.le_of_ble_eq_true rfl) (fun q h => tX12_in a2.toInt64 1 1000000 S13 q h) dX12_set_70 (fun v15 S16 => ?_)
            refine ok_if_eq_ite 80 hc dX12_set_73 (by decide) (fun h17 => ?_) (fun h17 => ?_)
            · refine ok_iconst (v := 0) hc dX12_set_80 (by decide) ?_
              exact hk3 _ _
            · refine ok_iconst (v := 1) hc dX12_set_76 (by decide) ?_
              refine ok_goto 81 hc dX12_set_77 (by decide) ?_
              exact hk3 _ _
        · refine ok_iload_n 2 hc dX12_set_38 rfl rfl ?_
          refine ok_i2l hc dX12_set_39 ?_
          refine ok_lconst (v := 1) hc dX12_set_40 (by decide) ?_
          refine ok_ldc2 hc dX12_set_41 W_1333 ?_
          refine ok_callSi (As := [.long a2.toInt64, .long 1, .long 10000]) (st := []) (fun n0 => [.long a2.toInt64, .long 1, .long 10000]) hc SS_X12_152 rfl rfl rfl ⟨Nat.le_of_ble_eq_true rfl, Nat.le_of_ble_eq_true rfl⟩ (Nat.le_of_ble_eq_true rfl) (fun q h => tX12_in a2.toInt64 1 10000 S q h) dX12_set_44 (fun v18 S19 => ?_)
          refine ok_goto 81 hc dX12_set_47 (by decide) ?_
          exact hk3 _ _
      · refine ok_iload_n 2 hc dX12_set_21 rfl rfl ?_
        refine ok_i2l hc dX12_set_22 ?_
        refine ok_lconst (v := 0) hc dX12_set_23 (by decide) ?_
        refine ok_ldc2 hc dX12_set_24 W_1332 ?_
        refine ok_callSi (As := [.long a2.toInt64, .long 0, .long 200]) (st := []) (fun n0 => [.long a2.toInt64, .long 0, .long 200]) hc SS_X12_152 rfl rfl rfl ⟨Nat.le_of_ble_eq_true rfl, Nat.le_of_ble_eq_true rfl⟩ (Nat.le_of_ble_eq_true rfl) (fun q h => tX12_in a2.toInt64 0 200 S q h) dX12_set_27 (fun v20 S21 => ?_)
        refine ok_goto 81 hc dX12_set_30 (by decide) ?_
        exact hk3 _ _
    · refine ok_iload_n 2 hc dX12_set_4 rfl rfl ?_
      refine ok_i2l hc dX12_set_5 ?_
      refine ok_lconst (v := 0) hc dX12_set_6 (by decide) ?_
      refine ok_ldc2 hc dX12_set_7 W_1331 ?_
      refine ok_callSi (As := [.long a2.toInt64, .long 0, .long 50]) (st := []) (fun n0 => [.long a2.toInt64, .long 0, .long 50]) hc SS_X12_152 rfl rfl rfl ⟨Nat.le_of_ble_eq_true rfl, Nat.le_of_ble_eq_true rfl⟩ (Nat.le_of_ble_eq_true rfl) (fun q h => tX12_in a2.toInt64 0 50 S q h) dX12_set_10 (fun v22 S23 => ?_)
      refine ok_goto 81 hc dX12_set_13 (by decide) ?_
      exact hk3 _ _
def fX12_share (a1 : Int32) (S : St) : Option (Int32 × St) :=
  bnd (fX12_takesSet a1 S) (fun v1 S2 => if v1 = 0 then (some ((-2), S2)) else (bnd (fX12_findFewest S2) (fun _ S4 => if ib ((1 <<< ((S4.1 0 22) &&& 31)) - 1) 256 then (if (S4.1 18 (nt ((1 <<< ((S4.1 0 22) &&& 31)) - 1))) = 0 then (some (0, S4)) else (some (1, S4))) else none)))
set_option maxRecDepth 100000 in
set_option maxHeartbeats 4000000 in
theorem tX12_share (a1 : Int32) (S : St) (q : Int32 × St) (h : fX12_share a1 S = some q) : MT vI wM mX12_share (fun n0 => [.ref (n0 + 0), .int a1]) S q := by
  refine mt_of (show plainFor yX12_share = true from by decide) (fun _ => Nat.le_of_ble_eq_true rfl) ?_
  intro Γ hc _
  rw [← h]
  show Ok Γ wM 0 [(0, rv Γ 0), (1, .int a1)] [] S _
  unfold fX12_share
  refine ok_aload_n 0 hc dX12_share_0 rfl rfl ?_
  refine ok_iload_n 1 hc dX12_share_1 rfl rfl ?_
  refine ok_callVi (As := [.int a1]) (st := []) (fun n0 => [.ref (n0 + 0), .int a1]) hc VS_X12_283 sM_0 rfl rfl rfl ⟨Nat.le_of_ble_eq_true rfl, Nat.le_of_ble_eq_true rfl⟩ (Nat.le_of_ble_eq_true rfl) (fun q h => tX12_takesSet a1 S q h) dX12_share_2 (fun v1 S2 => ?_)
  refine ok_if_ne_ite 11 hc dX12_share_5 (by decide) (fun h3 => ?_) (fun h3 => ?_)
  · refine ok_aload_n 0 hc dX12_share_11 rfl rfl ?_
    refine ok_callVu (As := []) (st := []) (fun n0 => [.ref (n0 + 0)]) hc VS_X12_286 sM_0 rfl rfl rfl ⟨Nat.le_of_ble_eq_true rfl, Nat.le_of_ble_eq_true rfl⟩ (Nat.le_of_ble_eq_true rfl) (fun q h => tX12_findFewest S2 q h) dX12_share_12 (fun _ S4 => ?_)
    refine ok_aload_n 0 hc dX12_share_15 rfl rfl ?_
    refine ok_getr 18 hc FS_X12_70 rfl sM_0 rfl dX12_share_16 ?_
    refine ok_iconst (v := 1) hc dX12_share_19 (by decide) ?_
    refine ok_aload_n 0 hc dX12_share_20 rfl rfl ?_
    refine ok_geti hc FS_X12_277 rfl sM_0 dX12_share_21 ?_
    refine ok_ishl hc dX12_share_24 ?_
    refine ok_iconst (v := 1) hc dX12_share_25 (by decide) ?_
    refine ok_isub hc dX12_share_26 ?_
    refine ok_zald hc sM_18 dX12_share_27 (fun h5 => ?_)
    refine ok_if_eq_ite 35 hc dX12_share_28 (by decide) (fun h6 => ?_) (fun h6 => ?_)
    · refine ok_iconst (v := 0) hc dX12_share_35 (by decide) ?_
      exact ok_iret hc rfl dX12_share_36
    · refine ok_iconst (v := 1) hc dX12_share_31 (by decide) ?_
      refine ok_goto 36 hc dX12_share_32 (by decide) ?_
      exact ok_iret hc rfl dX12_share_36
  · refine ok_bipush (v := (-2)) hc dX12_share_8 (by decide) ?_
    exact ok_iret hc rfl dX12_share_10
def fX12_sheet_L56_st (a1 : Int32) (a3 : Int32) (rec : Int32 → St → Option (Int32 × St)) (a4 : Int32) (S : St) : Option (Int32 × St) :=
  if a3 ≤ a4 then (some (a3, S)) else (if ib ((400 * a1) + a4) 2400 then lt (wj S 3 (nt ((400 * a1) + a4)) 0) (fun S2 => rec (a4 + 1) S2) else none)
def fX12_sheet_L56 (a1 : Int32) (a3 : Int32) : Nat → Int32 → St → Option (Int32 × St)
  | 0 => fun _ _ => none
  | n + 1 => fun a4 S => fX12_sheet_L56_st a1 a3 (fX12_sheet_L56 a1 a3 n) a4 S
def fX12_sheet (a1 : Int32) (a2 : Int32) (a3 : Int32) (S : St) : Option (Int32 × St) :=
  bnd (fX12_isSheet a1 S) (fun v1 S2 => if v1 = 0 then (some ((-2), S2)) else (bnd (fX12_in a2.toInt64 0 3 S2) (fun v4 S5 => if v4 = 0 then (some ((-2), S5)) else (if a3 ≤ 400 then (if 0 ≤ a3 then (if ib a1 6 then lt (wi S5 1 (nt a1) a2) (fun S9 => if ib a1 6 then lt (wi S9 2 (nt a1) a3) (fun S11 => fX12_sheet_L56 a1 a3 FU 0 S11) else none) else none) else (bnd (fX12_met 5 S5) (fun v13 S14 => some (v13, S14)))) else (some ((-2), S5))))))
set_option maxRecDepth 100000 in
set_option maxHeartbeats 4000000 in
theorem tX12_sheet_L56 {Γ : Cx Int32} (hc : Cok Γ wM vI mX12_sheet) (a1 : Int32) (a3 : Int32) : ∀ (n : Nat) (a4 : Int32) (S : St), Ok Γ wM 56 [(0, rv Γ 0), (1, .int a1), (3, .int a3), (4, .int a4)] [] S (fX12_sheet_L56 a1 a3 n a4 S) := by
  intro n
  induction n with
  | zero =>
    intro a4 S
    exact ok_none
  | succ n ih =>
    intro a4 S
    show Ok Γ wM 56 [(0, rv Γ 0), (1, .int a1), (3, .int a3), (4, .int a4)] [] S (fX12_sheet_L56_st a1 a3 (fX12_sheet_L56 a1 a3 n) a4 S)
    unfold fX12_sheet_L56_st
    refine ok_iload 3 hc dX12_sheet_56 rfl ?_
    refine ok_iload_n 2 hc dX12_sheet_58 rfl rfl ?_
    refine ok_icmp_ge_ite 82 hc dX12_sheet_59 (by decide) (fun h1 => ?_) (fun h1 => ?_)
    · refine ok_iload_n 2 hc dX12_sheet_82 rfl rfl ?_
      exact ok_iret hc rfl dX12_sheet_83
    · refine ok_aload_n 0 hc dX12_sheet_62 rfl rfl ?_
      refine ok_getr 3 hc FS_X12_16 rfl sM_0 rfl dX12_sheet_63 ?_
      refine ok_sipush (v := 400) hc dX12_sheet_66 (by decide) ?_
      refine ok_iload_n 1 hc dX12_sheet_69 rfl rfl ?_
      refine ok_imul hc dX12_sheet_70 ?_
      refine ok_iload 3 hc dX12_sheet_71 rfl ?_
      refine ok_iadd hc dX12_sheet_73 ?_
      refine ok_lconst (v := 0) hc dX12_sheet_74 (by decide) ?_
      refine ok_last hc sM_3 dX12_sheet_75 (fun h3 => ?_)
      refine ok_ltS (fun S2 => ?_)
      refine ok_iinc (v := 1) 3 [(4, .int (a4 + 1)), (0, rv Γ 0), (1, .int a1), (3, .int a3)] hc dX12_sheet_76 rfl (by decide) (Nat.le_of_ble_eq_true rfl) rfl ?_
      refine ok_goto 56 hc dX12_sheet_79 (by decide) ?_
      refine ok_sub [1, 2, 3, 0] rfl ?_
      exact ih _ _
set_option maxRecDepth 100000 in
set_option maxHeartbeats 4000000 in
theorem tX12_sheet (a1 : Int32) (a2 : Int32) (a3 : Int32) (S : St) (q : Int32 × St) (h : fX12_sheet a1 a2 a3 S = some q) : MT vI wM mX12_sheet (fun n0 => [.ref (n0 + 0), .int a1, .int a2, .int a3]) S q := by
  refine mt_of (show plainFor yX12_sheet = true from by decide) (fun _ => Nat.le_of_ble_eq_true rfl) ?_
  intro Γ hc _
  rw [← h]
  show Ok Γ wM 0 [(0, rv Γ 0), (1, .int a1), (2, .int a2), (3, .int a3)] [] S _
  unfold fX12_sheet
  refine ok_iload_n 1 hc dX12_sheet_0 rfl rfl ?_
  refine ok_callSi (As := [.int a1]) (st := []) (fun n0 => [.int a1]) hc SS_X12_156 rfl rfl rfl ⟨Nat.le_of_ble_eq_true rfl, Nat.le_of_ble_eq_true rfl⟩ (Nat.le_of_ble_eq_true rfl) (fun q h => tX12_isSheet a1 S q h) dX12_sheet_1 (fun v1 S2 => ?_)
  refine ok_if_eq_ite 26 hc dX12_sheet_4 (by decide) (fun h3 => ?_) (fun h3 => ?_)
  · refine ok_bipush (v := (-2)) hc dX12_sheet_26 (by decide) ?_
    exact ok_iret hc rfl dX12_sheet_28
  · refine ok_iload_n 2 hc dX12_sheet_7 rfl rfl ?_
    refine ok_i2l hc dX12_sheet_8 ?_
    refine ok_lconst (v := 0) hc dX12_sheet_9 (by decide) ?_
    refine ok_ldc2 hc dX12_sheet_10 W_1273 ?_
    refine ok_callSi (As := [.long a2.toInt64, .long 0, .long 3]) (st := []) (fun n0 => [.long a2.toInt64, .long 0, .long 3]) hc SS_X12_152 rfl rfl rfl ⟨Nat.le_of_ble_eq_true rfl, Nat.le_of_ble_eq_true rfl⟩ (Nat.le_of_ble_eq_true rfl) (fun q h => tX12_in a2.toInt64 0 3 S2 q h) dX12_sheet_13 (fun v4 S5 => ?_)
    refine ok_if_eq_ite 26 hc dX12_sheet_16 (by decide) (fun h6 => ?_) (fun h6 => ?_)
    · refine ok_bipush (v := (-2)) hc dX12_sheet_26 (by decide) ?_
      exact ok_iret hc rfl dX12_sheet_28
    · refine ok_iload_n 3 hc dX12_sheet_19 rfl rfl ?_
      refine ok_sipush (v := 400) hc dX12_sheet_20 (by decide) ?_
      refine ok_icmp_le_ite 29 hc dX12_sheet_23 (by decide) (fun h7 => ?_) (fun h7 => ?_)
      · refine ok_iload_n 3 hc dX12_sheet_29 rfl rfl ?_
        refine ok_if_ge_ite 39 hc dX12_sheet_30 (by decide) (fun h8 => ?_) (fun h8 => ?_)
        · refine ok_aload_n 0 hc dX12_sheet_39 rfl rfl ?_
          refine ok_getr 1 hc FS_X12_7 rfl sM_0 rfl dX12_sheet_40 ?_
          refine ok_iload_n 1 hc dX12_sheet_43 rfl rfl ?_
          refine ok_iload_n 2 hc dX12_sheet_44 rfl rfl ?_
          refine ok_iast hc sM_1 dX12_sheet_45 (fun h10 => ?_)
          refine ok_ltS (fun S9 => ?_)
          refine ok_aload_n 0 hc dX12_sheet_46 rfl rfl ?_
          refine ok_getr 2 hc FS_X12_13 rfl sM_0 rfl dX12_sheet_47 ?_
          refine ok_iload_n 1 hc dX12_sheet_50 rfl rfl ?_
          refine ok_iload_n 3 hc dX12_sheet_51 rfl rfl ?_
          refine ok_iast hc sM_2 dX12_sheet_52 (fun h12 => ?_)
          refine ok_ltS (fun S11 => ?_)
          refine ok_iconst (v := 0) hc dX12_sheet_53 (by decide) ?_
          refine ok_istore [(4, .int 0), (0, rv Γ 0), (1, .int a1), (2, .int a2), (3, .int a3)] hc dX12_sheet_54 (Nat.le_of_ble_eq_true rfl) rfl ?_
          refine ok_sub [1, 2, 4, 0] rfl ?_
          refine tX12_sheet_L56 hc _ _   FU _ _
        · refine ok_aload_n 0 hc dX12_sheet_33 rfl rfl ?_
          refine ok_iconst (v := 5) hc dX12_sheet_34 (by decide) ?_
          refine ok_callVi (As := [.int 5]) (st := []) (fun n0 => [.ref (n0 + 0), .int 5]) hc VS_X12_162 sM_0 rfl rfl rfl ⟨Nat.le_of_ble_eq_true rfl, Nat.le_of_ble_eq_true rfl⟩ (Nat.le_of_ble_eq_true rfl) (fun q h => tX12_met 5 S5 q h) dX12_sheet_35 (fun v13 S14 => ?_)
          exact ok_iret hc rfl dX12_sheet_38
      · refine ok_bipush (v := (-2)) hc dX12_sheet_26 (by decide) ?_
        exact ok_iret hc rfl dX12_sheet_28
def fX12_site (a1 : Int32) (a2 : Int32) (a3 : Int32) (a4 : Int32) (a5 : Int32) (a6 : Int32) (S : St) : Option (Int32 × St) :=
  bnd (fX12_isCell a1 S) (fun v1 S2 => if v1 = 0 then (some ((-2), S2)) else (bnd (fX12_isMast a2 S2) (fun v4 S5 => if v4 = 0 then (some ((-2), S5)) else (bnd (fX12_isStrength a3 S5) (fun v7 S8 => if v7 = 0 then (some ((-2), S8)) else (bnd (fX12_isStrength a4 S8) (fun v10 S11 => if v10 = 0 then (some ((-2), S11)) else (if a4 ≤ a3 then (some ((-2), S11)) else (bnd (fX12_in a5.toInt64 1 1000 S11) (fun v14 S15 => if v14 = 0 then (some ((-2), S15)) else (bnd (fX12_in a6.toInt64 a5.toInt64 1000 S15) (fun v17 S18 => if v17 = 0 then (some ((-2), S18)) else (if (S18.1 0 46) = 6 then (some ((-4), S18)) else (if ib (S18.1 0 46) 6 then lt (wi S18 36 (nt (S18.1 0 46)) a1) (fun S21 => if ib (S21.1 0 46) 6 then lt (wi S21 37 (nt (S21.1 0 46)) a2) (fun S23 => if ib (2 * (S23.1 0 46)) 12 then lt (wi S23 38 (nt (2 * (S23.1 0 46))) a3) (fun S25 => if ib ((2 * (S25.1 0 46)) + 1) 12 then lt (wi S25 38 (nt ((2 * (S25.1 0 46)) + 1)) a4) (fun S27 => if ib (2 * (S27.1 0 46)) 12 then lt (wi S27 39 (nt (2 * (S27.1 0 46))) a5) (fun S29 => if ib ((2 * (S29.1 0 46)) + 1) 12 then lt (wi S29 39 (nt ((2 * (S29.1 0 46)) + 1)) a6) (fun S31 => lt (wi S31 0 46 ((S31.1 0 46) + 1)) (fun S33 => some ((S33.1 0 46) - 1, S33))) else none) else none) else none) else none) else none) else none))))))))))))))
set_option maxRecDepth 100000 in
set_option maxHeartbeats 4000000 in
theorem tX12_site (a1 : Int32) (a2 : Int32) (a3 : Int32) (a4 : Int32) (a5 : Int32) (a6 : Int32) (S : St) (q : Int32 × St) (h : fX12_site a1 a2 a3 a4 a5 a6 S = some q) : MT vI wM mX12_site (fun n0 => [.ref (n0 + 0), .int a1, .int a2, .int a3, .int a4, .int a5, .int a6]) S q := by
  refine mt_of (show plainFor yX12_site = true from by decide) (fun _ => Nat.le_of_ble_eq_true rfl) ?_
  intro Γ hc _
  rw [← h]
  show Ok Γ wM 0 [(0, rv Γ 0), (1, .int a1), (2, .int a2), (3, .int a3), (4, .int a4), (5, .int a5), (6, .int a6)] [] S _
  unfold fX12_site
  refine ok_aload_n 0 hc dX12_site_0 rfl rfl ?_
  refine ok_iload_n 1 hc dX12_site_1 rfl rfl ?_
  refine ok_callVi (As := [.int a1]) (st := []) (fun n0 => [.ref (n0 + 0), .int a1]) hc VS_X12_191 sM_0 rfl rfl rfl ⟨Nat.le_of_ble_eq_true rfl, Nat.le_of_ble_eq_true rfl⟩ (Nat.le_of_ble_eq_true rfl) (fun q h => tX12_isCell a1 S q h) dX12_site_2 (fun v1 S2 => ?_)
  refine ok_if_eq_ite 64 hc dX12_site_5 (by decide) (fun h3 => ?_) (fun h3 => ?_)
  · refine ok_bipush (v := (-2)) hc dX12_site_64 (by decide) ?_
    exact ok_iret hc rfl dX12_site_66
  · refine ok_iload_n 2 hc dX12_site_8 rfl rfl ?_
    refine ok_callSi (As := [.int a2]) (st := []) (fun n0 => [.int a2]) hc SS_X12_217 rfl rfl rfl ⟨Nat.le_of_ble_eq_true rfl, Nat.le_of_ble_eq_true rfl⟩ (Nat.le_of_ble_eq_true rfl) (fun q h => tX12_isMast a2 S2 q h) dX12_site_9 (fun v4 S5 => ?_)
    refine ok_if_eq_ite 64 hc dX12_site_12 (by decide) (fun h6 => ?_) (fun h6 => ?_)
    · refine ok_bipush (v := (-2)) hc dX12_site_64 (by decide) ?_
      exact ok_iret hc rfl dX12_site_66
    · refine ok_iload_n 3 hc dX12_site_15 rfl rfl ?_
      refine ok_callSi (As := [.int a3]) (st := []) (fun n0 => [.int a3]) hc SS_X12_229 rfl rfl rfl ⟨Nat.le_of_ble_eq_true rfl, Nat.le_of_ble_eq_true rfl⟩ (Nat.le_of_ble_eq_true rfl) (fun q h => tX12_isStrength a3 S5 q h) dX12_site_16 (fun v7 S8 => ?_)
      refine ok_if_eq_ite 64 hc dX12_site_19 (by decide) (fun h9 => ?_) (fun h9 => ?_)
      · refine ok_bipush (v := (-2)) hc dX12_site_64 (by decide) ?_
        exact ok_iret hc rfl dX12_site_66
      · refine ok_iload 4 hc dX12_site_22 rfl ?_
        refine ok_callSi (As := [.int a4]) (st := []) (fun n0 => [.int a4]) hc SS_X12_229 rfl rfl rfl ⟨Nat.le_of_ble_eq_true rfl, Nat.le_of_ble_eq_true rfl⟩ (Nat.le_of_ble_eq_true rfl) (fun q h => tX12_isStrength a4 S8 q h) dX12_site_24 (fun v10 S11 => ?_)
        refine ok_if_eq_ite 64 hc dX12_site_27 (by decide) (fun h12 => ?_) (fun h12 => ?_)
        · refine ok_bipush (v := (-2)) hc dX12_site_64 (by decide) ?_
          exact ok_iret hc rfl dX12_site_66
        · refine ok_iload_n 3 hc dX12_site_30 rfl rfl ?_
          refine ok_iload 4 hc dX12_site_31 rfl ?_
          refine ok_icmp_ge_ite 64 hc dX12_site_33 (by decide) (fun h13 => ?_) (fun h13 => ?_)
          · refine ok_bipush (v := (-2)) hc dX12_site_64 (by decide) ?_
            exact ok_iret hc rfl dX12_site_66
          · refine ok_iload 5 hc dX12_site_36 rfl ?_
            refine ok_i2l hc dX12_site_38 ?_
            refine ok_lconst (v := 1) hc dX12_site_39 (by decide) ?_
            refine ok_ldc2 hc dX12_site_40 W_1357 ?_
            refine ok_callSi (As := [.long a5.toInt64, .long 1, .long 1000]) (st := []) (fun n0 => [.long a5.toInt64, .long 1, .long 1000]) hc SS_X12_152 rfl rfl rfl ⟨Nat.le_of_ble_eq_true rfl, Nat.le_of_ble_eq_true rfl⟩ (Nat.le_of_ble_eq_true rfl) (fun q h => tX12_in a5.toInt64 1 1000 S11 q h) dX12_site_43 (fun v14 S15 => ?_)
            refine ok_if_eq_ite 64 hc dX12_site_46 (by decide) (fun h16 => ?_) (fun h16 => ?_)
            · refine ok_bipush (v := (-2)) hc dX12_site_64 (by decide) ?_
              exact ok_iret hc rfl dX12_site_66
            · refine ok_iload 6 hc dX12_site_49 rfl ?_
              refine ok_i2l hc dX12_site_51 ?_
              refine ok_iload 5 hc dX12_site_52 rfl ?_
              refine ok_i2l hc dX12_site_54 ?_
              refine ok_ldc2 hc dX12_site_55 W_1357 ?_
              refine ok_callSi (As := [.long a6.toInt64, .long a5.toInt64, .long 1000]) (st := []) (fun n0 => [.long a6.toInt64, .long a5.toInt64, .long 1000]) hc SS_X12_152 rfl rfl rfl ⟨Nat.le_of_ble_eq_true rfl, Nat.le_of_ble_eq_true rfl⟩ (Nat.le_of_ble_eq_true rfl) (fun q h => tX12_in a6.toInt64 a5.toInt64 1000 S15 q h) dX12_site_58 (fun v17 S18 => ?_)
              refine ok_if_ne_ite 67 hc dX12_site_61 (by decide) (fun h19 => ?_) (fun h19 => ?_)
              · refine ok_aload_n 0 hc dX12_site_67 rfl rfl ?_
                refine ok_geti hc FS_X12_182 rfl sM_0 dX12_site_68 ?_
                refine ok_bipush (v := 6) hc dX12_site_71 (by decide) ?_
                refine ok_icmp_ne_ite 79 hc dX12_site_73 (by decide) (fun h20 => ?_) (fun h20 => ?_)
                · refine ok_aload_n 0 hc dX12_site_79 rfl rfl ?_
                  refine ok_getr 36 hc FS_X12_124 rfl sM_0 rfl dX12_site_80 ?_
                  refine ok_aload_n 0 hc dX12_site_83 rfl rfl ?_
                  refine ok_geti hc FS_X12_182 rfl sM_0 dX12_site_84 ?_
                  refine ok_iload_n 1 hc dX12_site_87 rfl rfl ?_
                  refine ok_iast hc sM_36 dX12_site_88 (fun h22 => ?_)
                  refine ok_ltS (fun S21 => ?_)
                  refine ok_aload_n 0 hc dX12_site_89 rfl rfl ?_
                  refine ok_getr 37 hc FS_X12_127 rfl sM_0 rfl dX12_site_90 ?_
                  refine ok_aload_n 0 hc dX12_site_93 rfl rfl ?_
                  refine ok_geti hc FS_X12_182 rfl sM_0 dX12_site_94 ?_
                  refine ok_iload_n 2 hc dX12_site_97 rfl rfl ?_
                  refine ok_iast hc sM_37 dX12_site_98 (fun h24 => ?_)
                  refine ok_ltS (fun S23 => ?_)
                  refine ok_aload_n 0 hc dX12_site_99 rfl rfl ?_
                  refine ok_getr 38 hc FS_X12_130 rfl sM_0 rfl dX12_site_100 ?_
                  refine ok_iconst (v := 2) hc dX12_site_103 (by decide) ?_
                  refine ok_aload_n 0 hc dX12_site_104 rfl rfl ?_
                  refine ok_geti hc FS_X12_182 rfl sM_0 dX12_site_105 ?_
                  refine ok_imul hc dX12_site_108 ?_
                  refine ok_iload_n 3 hc dX12_site_109 rfl rfl ?_
                  refine ok_iast hc sM_38 dX12_site_110 (fun h26 => ?_)
                  refine ok_ltS (fun S25 => ?_)
                  refine ok_aload_n 0 hc dX12_site_111 rfl rfl ?_
                  refine ok_getr 38 hc FS_X12_130 rfl sM_0 rfl dX12_site_112 ?_
                  refine ok_iconst (v := 2) hc dX12_site_115 (by decide) ?_
                  refine ok_aload_n 0 hc dX12_site_116 rfl rfl ?_
                  refine ok_geti hc FS_X12_182 rfl sM_0 dX12_site_117 ?_
                  refine ok_imul hc dX12_site_120 ?_
                  refine ok_iconst (v := 1) hc dX12_site_121 (by decide) ?_
                  refine ok_iadd hc dX12_site_122 ?_
                  refine ok_iload 4 hc dX12_site_123 rfl ?_
                  refine ok_iast hc sM_38 dX12_site_125 (fun h28 => ?_)
                  refine ok_ltS (fun S27 => ?_)
                  refine ok_aload_n 0 hc dX12_site_126 rfl rfl ?_
                  refine ok_getr 39 hc FS_X12_133 rfl sM_0 rfl dX12_site_127 ?_
                  refine ok_iconst (v := 2) hc dX12_site_130 (by decide) ?_
                  refine ok_aload_n 0 hc dX12_site_131 rfl rfl ?_
                  refine ok_geti hc FS_X12_182 rfl sM_0 dX12_site_132 ?_
                  refine ok_imul hc dX12_site_135 ?_
                  refine ok_iload 5 hc dX12_site_136 rfl ?_
                  refine ok_iast hc sM_39 dX12_site_138 (fun h30 => ?_)
                  refine ok_ltS (fun S29 => ?_)
                  refine ok_aload_n 0 hc dX12_site_139 rfl rfl ?_
                  refine ok_getr 39 hc FS_X12_133 rfl sM_0 rfl dX12_site_140 ?_
                  refine ok_iconst (v := 2) hc dX12_site_143 (by decide) ?_
                  refine ok_aload_n 0 hc dX12_site_144 rfl rfl ?_
                  refine ok_geti hc FS_X12_182 rfl sM_0 dX12_site_145 ?_
                  refine ok_imul hc dX12_site_148 ?_
                  refine ok_iconst (v := 1) hc dX12_site_149 (by decide) ?_
                  refine ok_iadd hc dX12_site_150 ?_
                  refine ok_iload 6 hc dX12_site_151 rfl ?_
                  refine ok_iast hc sM_39 dX12_site_153 (fun h32 => ?_)
                  refine ok_ltS (fun S31 => ?_)
                  refine ok_aload_n 0 hc dX12_site_154 rfl rfl ?_
                  refine ok_dup hc dX12_site_155 rfl ?_
                  refine ok_geti hc FS_X12_182 rfl sM_0 dX12_site_156 ?_
                  refine ok_iconst (v := 1) hc dX12_site_159 (by decide) ?_
                  refine ok_iadd hc dX12_site_160 ?_
                  refine ok_puti hc FP_X12_182 rfl sM_0 dX12_site_161 ?_
                  refine ok_ltS (fun S33 => ?_)
                  refine ok_aload_n 0 hc dX12_site_164 rfl rfl ?_
                  refine ok_geti hc FS_X12_182 rfl sM_0 dX12_site_165 ?_
                  refine ok_iconst (v := 1) hc dX12_site_168 (by decide) ?_
                  refine ok_isub hc dX12_site_169 ?_
                  exact ok_iret hc rfl dX12_site_170
                · refine ok_bipush (v := (-4)) hc dX12_site_76 (by decide) ?_
                  exact ok_iret hc rfl dX12_site_78
              · refine ok_bipush (v := (-2)) hc dX12_site_64 (by decide) ?_
                exact ok_iret hc rfl dX12_site_66
def fX12_spoke (a1 : Int32) (a2 : Int32) (S : St) : Option (Int32 × St) :=
  bnd (fX12_isSender a1 S) (fun v1 S2 => if v1 = 0 then (some ((-2), S2)) else (bnd (fX12_in a2.toInt64 0 2 S2) (fun v4 S5 => if v4 = 0 then (some ((-2), S5)) else (if a2 = 0 then (if ib a1 20 then (some (S5.1 21 (nt a1), S5)) else none) else (if a2 = 1 then (if ib a1 20 then (some (S5.1 22 (nt a1), S5)) else none) else (if ib a1 20 then (some (S5.1 23 (nt a1), S5)) else none))))))
set_option maxRecDepth 100000 in
set_option maxHeartbeats 4000000 in
theorem tX12_spoke (a1 : Int32) (a2 : Int32) (S : St) (q : Int32 × St) (h : fX12_spoke a1 a2 S = some q) : MT vI wM mX12_spoke (fun n0 => [.ref (n0 + 0), .int a1, .int a2]) S q := by
  refine mt_of (show plainFor yX12_spoke = true from by decide) (fun _ => Nat.le_of_ble_eq_true rfl) ?_
  intro Γ hc _
  rw [← h]
  show Ok Γ wM 0 [(0, rv Γ 0), (1, .int a1), (2, .int a2)] [] S _
  unfold fX12_spoke
  refine ok_aload_n 0 hc dX12_spoke_0 rfl rfl ?_
  refine ok_iload_n 1 hc dX12_spoke_1 rfl rfl ?_
  refine ok_callVi (As := [.int a1]) (st := []) (fun n0 => [.ref (n0 + 0), .int a1]) hc VS_X12_237 sM_0 rfl rfl rfl ⟨Nat.le_of_ble_eq_true rfl, Nat.le_of_ble_eq_true rfl⟩ (Nat.le_of_ble_eq_true rfl) (fun q h => tX12_isSender a1 S q h) dX12_spoke_2 (fun v1 S2 => ?_)
  refine ok_if_eq_ite 20 hc dX12_spoke_5 (by decide) (fun h3 => ?_) (fun h3 => ?_)
  · refine ok_bipush (v := (-2)) hc dX12_spoke_20 (by decide) ?_
    exact ok_iret hc rfl dX12_spoke_22
  · refine ok_iload_n 2 hc dX12_spoke_8 rfl rfl ?_
    refine ok_i2l hc dX12_spoke_9 ?_
    refine ok_lconst (v := 0) hc dX12_spoke_10 (by decide) ?_
    refine ok_ldc2 hc dX12_spoke_11 W_1536 ?_
    refine ok_callSi (As := [.long a2.toInt64, .long 0, .long 2]) (st := []) (fun n0 => [.long a2.toInt64, .long 0, .long 2]) hc SS_X12_152 rfl rfl rfl ⟨Nat.le_of_ble_eq_true rfl, Nat.le_of_ble_eq_true rfl⟩ (Nat.le_of_ble_eq_true rfl) (fun q h => tX12_in a2.toInt64 0 2 S2 q h) dX12_spoke_14 (fun v4 S5 => ?_)
    refine ok_if_ne_ite 23 hc dX12_spoke_17 (by decide) (fun h6 => ?_) (fun h6 => ?_)
    · refine ok_iload_n 2 hc dX12_spoke_23 rfl rfl ?_
      refine ok_if_ne_ite 36 hc dX12_spoke_24 (by decide) (fun h7 => ?_) (fun h7 => ?_)
      · refine ok_iload_n 2 hc dX12_spoke_36 rfl rfl ?_
        refine ok_iconst (v := 1) hc dX12_spoke_37 (by decide) ?_
        refine ok_icmp_ne_ite 50 hc dX12_spoke_38 (by decide) (fun h8 => ?_) (fun h8 => ?_)
        · refine ok_aload_n 0 hc dX12_spoke_50 rfl rfl ?_
          refine ok_getr 23 hc FS_X12_85 rfl sM_0 rfl dX12_spoke_51 ?_
          refine ok_iload_n 1 hc dX12_spoke_54 rfl rfl ?_
          refine ok_iald hc sM_23 dX12_spoke_55 (fun h9 => ?_)
          exact ok_iret hc rfl dX12_spoke_56
        · refine ok_aload_n 0 hc dX12_spoke_41 rfl rfl ?_
          refine ok_getr 22 hc FS_X12_82 rfl sM_0 rfl dX12_spoke_42 ?_
          refine ok_iload_n 1 hc dX12_spoke_45 rfl rfl ?_
          refine ok_iald hc sM_22 dX12_spoke_46 (fun h10 => ?_)
          refine ok_goto 56 hc dX12_spoke_47 (by decide) ?_
          exact ok_iret hc rfl dX12_spoke_56
      · refine ok_aload_n 0 hc dX12_spoke_27 rfl rfl ?_
        refine ok_getr 21 hc FS_X12_79 rfl sM_0 rfl dX12_spoke_28 ?_
        refine ok_iload_n 1 hc dX12_spoke_31 rfl rfl ?_
        refine ok_iald hc sM_21 dX12_spoke_32 (fun h11 => ?_)
        refine ok_goto 56 hc dX12_spoke_33 (by decide) ?_
        exact ok_iret hc rfl dX12_spoke_56
    · refine ok_bipush (v := (-2)) hc dX12_spoke_20 (by decide) ?_
      exact ok_iret hc rfl dX12_spoke_22
def fX12_type (a1 : Int32) (S : St) : Option (Int32 × St) :=
  bnd (fX12_in a1.toInt64 0 255 S) (fun v1 S2 => if v1 = 0 then (some ((-2), S2)) else (if (S2.1 0 34) = 120 then (some ((-4), S2)) else (if ib (S2.1 0 34) 120 then lt (wi S2 27 (nt (S2.1 0 34)) a1) (fun S5 => lt (wi S5 0 34 ((S5.1 0 34) + 1)) (fun S7 => some (S7.1 0 34, S7))) else none)))
set_option maxRecDepth 100000 in
set_option maxHeartbeats 4000000 in
theorem tX12_type (a1 : Int32) (S : St) (q : Int32 × St) (h : fX12_type a1 S = some q) : MT vI wM mX12_type (fun n0 => [.ref (n0 + 0), .int a1]) S q := by
  refine mt_of (show plainFor yX12_type = true from by decide) (fun _ => Nat.le_of_ble_eq_true rfl) ?_
  intro Γ hc _
  rw [← h]
  show Ok Γ wM 0 [(0, rv Γ 0), (1, .int a1)] [] S _
  unfold fX12_type
  refine ok_iload_n 1 hc dX12_type_0 rfl rfl ?_
  refine ok_i2l hc dX12_type_1 ?_
  refine ok_lconst (v := 0) hc dX12_type_2 (by decide) ?_
  refine ok_ldc2 hc dX12_type_3 W_1574 ?_
  refine ok_callSi (As := [.long a1.toInt64, .long 0, .long 255]) (st := []) (fun n0 => [.long a1.toInt64, .long 0, .long 255]) hc SS_X12_152 rfl rfl rfl ⟨Nat.le_of_ble_eq_true rfl, Nat.le_of_ble_eq_true rfl⟩ (Nat.le_of_ble_eq_true rfl) (fun q h => tX12_in a1.toInt64 0 255 S q h) dX12_type_6 (fun v1 S2 => ?_)
  refine ok_if_ne_ite 15 hc dX12_type_9 (by decide) (fun h3 => ?_) (fun h3 => ?_)
  · refine ok_aload_n 0 hc dX12_type_15 rfl rfl ?_
    refine ok_geti hc FS_X12_345 rfl sM_0 dX12_type_16 ?_
    refine ok_bipush (v := 120) hc dX12_type_19 (by decide) ?_
    refine ok_icmp_ne_ite 27 hc dX12_type_21 (by decide) (fun h4 => ?_) (fun h4 => ?_)
    · refine ok_aload_n 0 hc dX12_type_27 rfl rfl ?_
      refine ok_getr 27 hc FS_X12_97 rfl sM_0 rfl dX12_type_28 ?_
      refine ok_aload_n 0 hc dX12_type_31 rfl rfl ?_
      refine ok_geti hc FS_X12_345 rfl sM_0 dX12_type_32 ?_
      refine ok_iload_n 1 hc dX12_type_35 rfl rfl ?_
      refine ok_iast hc sM_27 dX12_type_36 (fun h6 => ?_)
      refine ok_ltS (fun S5 => ?_)
      refine ok_aload_n 0 hc dX12_type_37 rfl rfl ?_
      refine ok_dup hc dX12_type_38 rfl ?_
      refine ok_geti hc FS_X12_345 rfl sM_0 dX12_type_39 ?_
      refine ok_iconst (v := 1) hc dX12_type_42 (by decide) ?_
      refine ok_iadd hc dX12_type_43 ?_
      refine ok_puti hc FP_X12_345 rfl sM_0 dX12_type_44 ?_
      refine ok_ltS (fun S7 => ?_)
      refine ok_aload_n 0 hc dX12_type_47 rfl rfl ?_
      refine ok_geti hc FS_X12_345 rfl sM_0 dX12_type_48 ?_
      exact ok_iret hc rfl dX12_type_51
    · refine ok_bipush (v := (-4)) hc dX12_type_24 (by decide) ?_
      exact ok_iret hc rfl dX12_type_26
  · refine ok_bipush (v := (-2)) hc dX12_type_12 (by decide) ?_
    exact ok_iret hc rfl dX12_type_14
def fX12_wipe (S : St) : Option (Int32 × St) :=
  lt (wi S 0 34 0) (fun S1 => some (S.1 0 34, S1))
set_option maxRecDepth 100000 in
set_option maxHeartbeats 4000000 in
theorem tX12_wipe (S : St) (q : Int32 × St) (h : fX12_wipe S = some q) : MT vI wM mX12_wipe (fun n0 => [.ref (n0 + 0)]) S q := by
  refine mt_of (show plainFor yX12_wipe = true from by decide) (fun _ => Nat.le_of_ble_eq_true rfl) ?_
  intro Γ hc _
  rw [← h]
  show Ok Γ wM 0 [(0, rv Γ 0)] [] S _
  unfold fX12_wipe
  refine ok_aload_n 0 hc dX12_wipe_0 rfl rfl ?_
  refine ok_geti hc FS_X12_345 rfl sM_0 dX12_wipe_1 ?_
  refine ok_istore_n [(1, .int (S.1 0 34)), (0, rv Γ 0)] hc dX12_wipe_4 rfl (Nat.le_of_ble_eq_true rfl) rfl ?_
  refine ok_aload_n 1 hc dX12_wipe_5 rfl rfl ?_
  refine ok_iconst (v := 0) hc dX12_wipe_6 (by decide) ?_
  refine ok_puti hc FP_X12_345 rfl sM_0 dX12_wipe_7 ?_
  refine ok_ltS (fun S1 => ?_)
  refine ok_iload_n 0 hc dX12_wipe_10 rfl rfl ?_
  exact ok_iret hc rfl dX12_wipe_11
