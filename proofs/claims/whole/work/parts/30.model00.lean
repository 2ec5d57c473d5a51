def fX12_in (a0 : Int64) (a2 : Int64) (a4 : Int64) (S : St) : Option (Int32 × St) :=
  if a0 < a2 then (some (0, S)) else (if a4 < a0 then (some (0, S)) else (some (1, S)))
set_option maxRecDepth 100000 in
set_option maxHeartbeats 4000000 in
theorem tX12_in (a0 : Int64) (a2 : Int64) (a4 : Int64) (S : St) (q : Int32 × St) (h : fX12_in a0 a2 a4 S = some q) : MT vI wM mX12_in (fun n0 => [.long a0, .long a2, .long a4]) S q := by
  refine mt_of (show plainFor yX12_in = true from by decide) (fun _ => Nat.le_of_ble_eq_true rfl) ?_
  intro Γ hc _
  rw [← h]
  show Ok Γ wM 0 [(0, .long a0), (2, .long a2), (4, .long a4)] [] S _
  unfold fX12_in
  refine ok_lload_n 0 hc dX12_in_0 rfl rfl ?_
  refine ok_lload_n 1 hc dX12_in_1 rfl rfl ?_
  refine ok_lcmp_lt_ite 17 hc dX12_in_2 dX12_in_3 (by decide) (fun h1 => ?_) (fun h1 => ?_)
  · refine ok_iconst (v := 0) hc dX12_in_17 (by decide) ?_
    exact ok_zretK hc rfl (by decide) dX12_in_18
  · refine ok_lload_n 0 hc dX12_in_6 rfl rfl ?_
    refine ok_lload 2 hc dX12_in_7 rfl ?_
    refine ok_lcmp_gt_ite 17 hc dX12_in_9 dX12_in_10 (by decide) (fun h2 => ?_) (fun h2 => ?_)
    · refine ok_iconst (v := 0) hc dX12_in_17 (by decide) ?_
      exact ok_zretK hc rfl (by decide) dX12_in_18
    · refine ok_iconst (v := 1) hc dX12_in_13 (by decide) ?_
      refine ok_goto 18 hc dX12_in_14 (by decide) ?_
      exact ok_zretK hc rfl (by decide) dX12_in_18
def fX12_isSender (a1 : Int32) (S : St) : Option (Int32 × St) :=
  bnd (fX12_in a1.toInt64 0 (((S.1 0 9) - 1).toInt64) S) (fun v1 S2 => if b01 v1 then some (v1, S2) else none)
set_option maxRecDepth 100000 in
set_option maxHeartbeats 4000000 in
theorem tX12_isSender (a1 : Int32) (S : St) (q : Int32 × St) (h : fX12_isSender a1 S = some q) : MT vI wM mX12_isSender (fun n0 => [.ref (n0 + 0), .int a1]) S q := by
  refine mt_of (show plainFor yX12_isSender = true from by decide) (fun _ => Nat.le_of_ble_eq_true rfl) ?_
  intro Γ hc _
  rw [← h]
  show Ok Γ wM 0 [(0, rv Γ 0), (1, .int a1)] [] S _
  unfold fX12_isSender
  refine ok_iload_n 1 hc dX12_isSender_0 rfl rfl ?_
  refine ok_i2l hc dX12_isSender_1 ?_
  refine ok_lconst (v := 0) hc dX12_isSender_2 (by decide) ?_
  refine ok_aload_n 0 hc dX12_isSender_3 rfl rfl ?_
  refine ok_geti hc FS_X12_176 rfl sM_0 dX12_isSender_4 ?_
  refine ok_iconst (v := 1) hc dX12_isSender_7 (by decide) ?_
  refine ok_isub hc dX12_isSender_8 ?_
  refine ok_i2l hc dX12_isSender_9 ?_
  refine ok_callSi (As := [.long a1.toInt64, .long 0, .long (((S.1 0 9) - 1).toInt64)]) (st := []) (fun n0 => [.long a1.toInt64, .long 0, .long (((S.1 0 9) - 1).toInt64)]) hc SS_X12_152 rfl rfl rfl ⟨Nat.le_of_ble_eq_true rfl, Nat.le_of_ble_eq_true rfl⟩ (Nat.le_of_ble_eq_true rfl) (fun q h => tX12_in a1.toInt64 0 (((S.1 0 9) - 1).toInt64) S q h) dX12_isSender_10 (fun v1 S2 => ?_)
  exact ok_zret hc rfl dX12_isSender_13
def fX12_told (a1 : Int32) (a2 : Int32) (a3 : Int32) (S : St) : Option (Int32 × St) :=
  if ib a1 6 then (if (S.1 1 (nt a1)) < 0 then (some ((-1), S)) else (if ib a1 6 then (if (S.1 2 (nt a1)) ≤ a2 then (some ((-1), S)) else (if ib ((400 * a1) + a2) 2400 then (bnd (fX12_in (S.2 3 (nt ((400 * a1) + a2))) 0 a3.toInt64 S) (fun v6 S7 => if v6 = 0 then (some ((-1), S7)) else (if ib ((400 * a1) + a2) 2400 then (some ((S7.2 3 (nt ((400 * a1) + a2))).toInt32, S7)) else none))) else none)) else none)) else none
set_option maxRecDepth 100000 in
set_option maxHeartbeats 4000000 in
theorem tX12_told (a1 : Int32) (a2 : Int32) (a3 : Int32) (S : St) (q : Int32 × St) (h : fX12_told a1 a2 a3 S = some q) : MT vI wM mX12_told (fun n0 => [.ref (n0 + 0), .int a1, .int a2, .int a3]) S q := by
  refine mt_of (show plainFor yX12_told = true from by decide) (fun _ => Nat.le_of_ble_eq_true rfl) ?_
  intro Γ hc _
  rw [← h]
  show Ok Γ wM 0 [(0, rv Γ 0), (1, .int a1), (2, .int a2), (3, .int a3)] [] S _
  unfold fX12_told
  refine ok_aload_n 0 hc dX12_told_0 rfl rfl ?_
  refine ok_getr 1 hc FS_X12_7 rfl sM_0 rfl dX12_told_1 ?_
  refine ok_iload_n 1 hc dX12_told_4 rfl rfl ?_
  refine ok_iald hc sM_1 dX12_told_5 (fun h1 => ?_)
  refine ok_if_lt_ite 40 hc dX12_told_6 (by decide) (fun h2 => ?_) (fun h2 => ?_)
  · refine ok_iconst (v := (-1)) hc dX12_told_40 (by decide) ?_
    exact ok_iret hc rfl dX12_told_41
  · refine ok_iload_n 2 hc dX12_told_9 rfl rfl ?_
    refine ok_aload_n 0 hc dX12_told_10 rfl rfl ?_
    refine ok_getr 2 hc FS_X12_13 rfl sM_0 rfl dX12_told_11 ?_
    refine ok_iload_n 1 hc dX12_told_14 rfl rfl ?_
    refine ok_iald hc sM_2 dX12_told_15 (fun h3 => ?_)
    refine ok_icmp_ge_ite 40 hc dX12_told_16 (by decide) (fun h4 => ?_) (fun h4 => ?_)
    · refine ok_iconst (v := (-1)) hc dX12_told_40 (by decide) ?_
      exact ok_iret hc rfl dX12_told_41
    · refine ok_aload_n 0 hc dX12_told_19 rfl rfl ?_
      refine ok_getr 3 hc FS_X12_16 rfl sM_0 rfl dX12_told_20 ?_
      refine ok_sipush (v := 400) hc dX12_told_23 (by decide) ?_
      refine ok_iload_n 1 hc dX12_told_26 rfl rfl ?_
      refine ok_imul hc dX12_told_27 ?_
      refine ok_iload_n 2 hc dX12_told_28 rfl rfl ?_
      refine ok_iadd hc dX12_told_29 ?_
      refine ok_lald hc sM_3 dX12_told_30 (fun h5 => ?_)
      refine ok_lconst (v := 0) hc dX12_told_31 (by decide) ?_
      refine ok_iload_n 3 hc dX12_told_32 rfl rfl ?_
      refine ok_i2l hc dX12_told_33 ?_
      refine ok_callSi (As := [.long (S.2 3 (nt ((400 * a1) + a2))), .long 0, .long a3.toInt64]) (st := []) (fun n0 => [.long (S.2 3 (nt ((400 * a1) + a2))), .long 0, .long a3.toInt64]) hc SS_X12_152 rfl rfl rfl ⟨Nat.le_of_ble_eq_true rfl, Nat.le_of_ble_eq_true rfl⟩ (Nat.le_of_ble_eq_true rfl) (fun q h => tX12_in (S.2 3 (nt ((400 * a1) + a2))) 0 a3.toInt64 S q h) dX12_told_34 (fun v6 S7 => ?_)
      refine ok_if_ne_ite 42 hc dX12_told_37 (by decide) (fun h8 => ?_) (fun h8 => ?_)
      · refine ok_aload_n 0 hc dX12_told_42 rfl rfl ?_
        refine ok_getr 3 hc FS_X12_16 rfl sM_0 rfl dX12_told_43 ?_
        refine ok_sipush (v := 400) hc dX12_told_46 (by decide) ?_
        refine ok_iload_n 1 hc dX12_told_49 rfl rfl ?_
        refine ok_imul hc dX12_told_50 ?_
        refine ok_iload_n 2 hc dX12_told_51 rfl rfl ?_
        refine ok_iadd hc dX12_told_52 ?_
        refine ok_lald hc sM_3 dX12_told_53 (fun h9 => ?_)
        refine ok_l2i hc dX12_told_54 ?_
        exact ok_iret hc rfl dX12_told_55
      · refine ok_iconst (v := (-1)) hc dX12_told_40 (by decide) ?_
        exact ok_iret hc rfl dX12_told_41
def fX12_cellNow (a1 : Int32) (S : St) : Option (Int32 × St) :=
  if ib a1 20 then (jn (fun (S2 : St) => if ib a1 20 then (some (S2.1 7 (nt a1), S2)) else none) (fun k3 => if (S.1 6 (nt a1)) = 1 then (if ib a1 20 then (if (S.1 15 (nt a1)) = (-1) then (k3 S) else (if ib a1 20 then (bnd (fX12_told (S.1 15 (nt a1)) (S.1 0 8) (((S.1 0 5) * (S.1 0 6)) - 1) S) (fun v9 S10 => if v9 = (-1) then (if ib a1 20 then (some (S10.1 7 (nt a1), S10)) else none) else (some (v9, S10)))) else none)) else none) else (k3 S))) else none
set_option maxRecDepth 100000 in
set_option maxHeartbeats 4000000 in
theorem tX12_cellNow (a1 : Int32) (S : St) (q : Int32 × St) (h : fX12_cellNow a1 S = some q) : MT vI wM mX12_cellNow (fun n0 => [.ref (n0 + 0), .int a1]) S q := by
  refine mt_of (show plainFor yX12_cellNow = true from by decide) (fun _ => Nat.le_of_ble_eq_true rfl) ?_
  intro Γ hc _
  rw [← h]
  show Ok Γ wM 0 [(0, rv Γ 0), (1, .int a1)] [] S _
  unfold fX12_cellNow
  refine ok_aload_n 0 hc dX12_cellNow_0 rfl rfl ?_
  refine ok_getr 6 hc FS_X12_33 rfl sM_0 rfl dX12_cellNow_1 ?_
  refine ok_iload_n 1 hc dX12_cellNow_4 rfl rfl ?_
  refine ok_iald hc sM_6 dX12_cellNow_5 (fun h1 => ?_)
  refine ok_iconst (v := 1) hc dX12_cellNow_6 (by decide) ?_
  refine ok_jn (fun g => ∀ (S2 : St), Ok Γ wM 20 [(0, rv Γ 0), (1, .int a1)] [] S2 (g S2)) ?_ (fun k3 hk3 => ?_)
  · intro S2
    refine ok_aload_n 0 hc dX12_cellNow_20 rfl rfl ?_
    refine ok_getr 7 hc FS_X12_36 rfl sM_0 rfl dX12_cellNow_21 ?_
    refine ok_iload_n 1 hc dX12_cellNow_24 rfl rfl ?_
    refine ok_iald hc sM_7 dX12_cellNow_25 (fun h4 => ?_)
    exact ok_iret hc rfl dX12_cellNow_26
  · refine ok_icmp_ne_ite 20 hc dX12_cellNow_7 (by decide) (fun h5 => ?_) (fun h5 => ?_)
    · exact hk3 _
    · refine ok_aload_n 0 hc dX12_cellNow_10 rfl rfl ?_
      refine ok_getr 15 hc FS_X12_60 rfl sM_0 rfl dX12_cellNow_11 ?_
      refine ok_iload_n 1 hc dX12_cellNow_14 rfl rfl ?_
      refine ok_iald hc sM_15 dX12_cellNow_15 (fun h6 => ?_)
      refine ok_iconst (v := (-1)) hc dX12_cellNow_16 (by decide) ?_
      refine ok_icmp_ne_ite 27 hc dX12_cellNow_17 (by decide) (fun h7 => ?_) (fun h7 => ?_)
      · refine ok_aload_n 0 hc dX12_cellNow_27 rfl rfl ?_
        refine ok_aload_n 0 hc dX12_cellNow_28 rfl rfl ?_
        refine ok_getr 15 hc FS_X12_60 rfl sM_0 rfl dX12_cellNow_29 ?_
        refine ok_iload_n 1 hc dX12_cellNow_32 rfl rfl ?_
        refine ok_iald hc sM_15 dX12_cellNow_33 (fun h8 => ?_)
        refine ok_aload_n 0 hc dX12_cellNow_34 rfl rfl ?_
        refine ok_geti hc FS_X12_226 rfl sM_0 dX12_cellNow_35 ?_
        refine ok_aload_n 0 hc dX12_cellNow_38 rfl rfl ?_
        refine ok_geti hc FS_X12_23 rfl sM_0 dX12_cellNow_39 ?_
        refine ok_aload_n 0 hc dX12_cellNow_42 rfl rfl ?_
        refine ok_geti hc FS_X12_27 rfl sM_0 dX12_cellNow_43 ?_
        refine ok_imul hc dX12_cellNow_46 ?_
        refine ok_iconst (v := 1) hc dX12_cellNow_47 (by decide) ?_
        refine ok_isub hc dX12_cellNow_48 ?_
        refine ok_callVi (As := [.int (S.1 15 (nt a1)), .int (S.1 0 8), .int (((S.1 0 5) * (S.1 0 6)) - 1)]) (st := []) (fun n0 => [.ref (n0 + 0), .int (S.1 15 (nt a1)), .int (S.1 0 8), .int (((S.1 0 5) * (S.1 0 6)) - 1)]) hc VS_X12_188 sM_0 rfl rfl rfl ⟨Nat.le_of_ble_eq_true rfl, Nat.le_of_ble_eq_true rfl⟩ (Nat.le_of_ble_eq_true rfl) (fun q h => tX12_told (S.1 15 (nt a1)) (S.1 0 8) (((S.1 0 5) * (S.1 0 6)) - 1) S q h) dX12_cellNow_49 (fun v9 S10 => ?_)
        refine ok_istore_n [(2, .int v9), (0, rv Γ 0), (1, .int a1)] hc dX12_cellNow_52 rfl (Nat.le_of_ble_eq_true rfl) rfl ?_
        refine ok_iload_n 0 hc dX12_cellNow_53 rfl rfl ?_
        refine ok_iconst (v := (-1)) hc dX12_cellNow_54 (by decide) ?_
        refine ok_icmp_ne_ite 67 hc dX12_cellNow_55 (by decide) (fun h11 => ?_) (fun h11 => ?_)
        · refine ok_iload_n 0 hc dX12_cellNow_67 rfl rfl ?_
          exact ok_iret hc rfl dX12_cellNow_68
        · refine ok_aload_n 1 hc dX12_cellNow_58 rfl rfl ?_
          refine ok_getr 7 hc FS_X12_36 rfl sM_0 rfl dX12_cellNow_59 ?_
          refine ok_iload_n 2 hc dX12_cellNow_62 rfl rfl ?_
          refine ok_iald hc sM_7 dX12_cellNow_63 (fun h12 => ?_)
          refine ok_goto 68 hc dX12_cellNow_64 (by decide) ?_
          exact ok_iret hc rfl dX12_cellNow_68
      · exact hk3 _
def fX12_isHopping (a1 : Int32) (S : St) : Option (Int32 × St) :=
  if ib a1 20 then (if (S.1 6 (nt a1)) = 2 then (some (1, S)) else (if ib a1 20 then (if (S.1 6 (nt a1)) = 5 then (some (1, S)) else (some (0, S))) else none)) else none
set_option maxRecDepth 100000 in
set_option maxHeartbeats 4000000 in
theorem tX12_isHopping (a1 : Int32) (S : St) (q : Int32 × St) (h : fX12_isHopping a1 S = some q) : MT vI wM mX12_isHopping (fun n0 => [.ref (n0 + 0), .int a1]) S q := by
  refine mt_of (show plainFor yX12_isHopping = true from by decide) (fun _ => Nat.le_of_ble_eq_true rfl) ?_
  intro Γ hc _
  rw [← h]
  show Ok Γ wM 0 [(0, rv Γ 0), (1, .int a1)] [] S _
  unfold fX12_isHopping
  refine ok_aload_n 0 hc dX12_isHopping_0 rfl rfl ?_
  refine ok_getr 6 hc FS_X12_33 rfl sM_0 rfl dX12_isHopping_1 ?_
  refine ok_iload_n 1 hc dX12_isHopping_4 rfl rfl ?_
  refine ok_iald hc sM_6 dX12_isHopping_5 (fun h1 => ?_)
  refine ok_iconst (v := 2) hc dX12_isHopping_6 (by decide) ?_
  refine ok_icmp_eq_ite 20 hc dX12_isHopping_7 (by decide) (fun h2 => ?_) (fun h2 => ?_)
  · refine ok_iconst (v := 1) hc dX12_isHopping_20 (by decide) ?_
    refine ok_goto 25 hc dX12_isHopping_21 (by decide) ?_
    exact ok_zretK hc rfl (by decide) dX12_isHopping_25
  · refine ok_aload_n 0 hc dX12_isHopping_10 rfl rfl ?_
    refine ok_getr 6 hc FS_X12_33 rfl sM_0 rfl dX12_isHopping_11 ?_
    refine ok_iload_n 1 hc dX12_isHopping_14 rfl rfl ?_
    refine ok_iald hc sM_6 dX12_isHopping_15 (fun h3 => ?_)
    refine ok_iconst (v := 5) hc dX12_isHopping_16 (by decide) ?_
    refine ok_icmp_ne_ite 24 hc dX12_isHopping_17 (by decide) (fun h4 => ?_) (fun h4 => ?_)
    · refine ok_iconst (v := 0) hc dX12_isHopping_24 (by decide) ?_
      exact ok_zretK hc rfl (by decide) dX12_isHopping_25
    · refine ok_iconst (v := 1) hc dX12_isHopping_20 (by decide) ?_
      refine ok_goto 25 hc dX12_isHopping_21 (by decide) ?_
      exact ok_zretK hc rfl (by decide) dX12_isHopping_25
def fX12_slotNow (a1 : Int32) (S : St) : Option (Int32 × St) :=
  bnd (fX12_isHopping a1 S) (fun v1 S2 => if v1 = 0 then (if ib a1 20 then (some (S2.1 13 (nt a1), S2)) else none) else (if ib a1 20 then (if ib a1 20 then (some ((lre (((S2.1 13 (nt a1)).toInt64) + (((S2.1 14 (nt a1)).toInt64) * ((S2.1 0 8).toInt64))) 12).toInt32, S2)) else none) else none))
set_option maxRecDepth 100000 in
set_option maxHeartbeats 4000000 in
theorem tX12_slotNow (a1 : Int32) (S : St) (q : Int32 × St) (h : fX12_slotNow a1 S = some q) : MT vI wM mX12_slotNow (fun n0 => [.ref (n0 + 0), .int a1]) S q := by
  refine mt_of (show plainFor yX12_slotNow = true from by decide) (fun _ => Nat.le_of_ble_eq_true rfl) ?_
  intro Γ hc _
  rw [← h]
  show Ok Γ wM 0 [(0, rv Γ 0), (1, .int a1)] [] S _
  unfold fX12_slotNow
  refine ok_aload_n 0 hc dX12_slotNow_0 rfl rfl ?_
  refine ok_iload_n 1 hc dX12_slotNow_1 rfl rfl ?_
  refine ok_callVi (As := [.int a1]) (st := []) (fun n0 => [.ref (n0 + 0), .int a1]) hc VS_X12_232 sM_0 rfl rfl rfl ⟨Nat.le_of_ble_eq_true rfl, Nat.le_of_ble_eq_true rfl⟩ (Nat.le_of_ble_eq_true rfl) (fun q h => tX12_isHopping a1 S q h) dX12_slotNow_2 (fun v1 S2 => ?_)
  refine ok_if_eq_ite 37 hc dX12_slotNow_5 (by decide) (fun h3 => ?_) (fun h3 => ?_)
  · refine ok_aload_n 0 hc dX12_slotNow_37 rfl rfl ?_
    refine ok_getr 13 hc FS_X12_54 rfl sM_0 rfl dX12_slotNow_38 ?_
    refine ok_iload_n 1 hc dX12_slotNow_41 rfl rfl ?_
    refine ok_iald hc sM_13 dX12_slotNow_42 (fun h4 => ?_)
    exact ok_iret hc rfl dX12_slotNow_43
  · refine ok_aload_n 0 hc dX12_slotNow_8 rfl rfl ?_
    refine ok_getr 13 hc FS_X12_54 rfl sM_0 rfl dX12_slotNow_9 ?_
    refine ok_iload_n 1 hc dX12_slotNow_12 rfl rfl ?_
    refine ok_iald hc sM_13 dX12_slotNow_13 (fun h5 => ?_)
    refine ok_i2l hc dX12_slotNow_14 ?_
    refine ok_aload_n 0 hc dX12_slotNow_15 rfl rfl ?_
    refine ok_getr 14 hc FS_X12_57 rfl sM_0 rfl dX12_slotNow_16 ?_
    refine ok_iload_n 1 hc dX12_slotNow_19 rfl rfl ?_
    refine ok_iald hc sM_14 dX12_slotNow_20 (fun h6 => ?_)
    refine ok_i2l hc dX12_slotNow_21 ?_
    refine ok_aload_n 0 hc dX12_slotNow_22 rfl rfl ?_
    refine ok_geti hc FS_X12_226 rfl sM_0 dX12_slotNow_23 ?_
    refine ok_i2l hc dX12_slotNow_26 ?_
    refine ok_lmul hc dX12_slotNow_27 ?_
    refine ok_ladd hc dX12_slotNow_28 ?_
    refine ok_ldc2 hc dX12_slotNow_29 W_1386 ?_
    refine ok_lremK hc dX12_slotNow_32 (by decide) ?_
    refine ok_l2i hc dX12_slotNow_33 ?_
    refine ok_goto 43 hc dX12_slotNow_34 (by decide) ?_
    exact ok_iret hc rfl dX12_slotNow_43
def fX12_about (a1 : Int32) (a2 : Int32) (S : St) : Option (Int32 × St) :=
  bnd (fX12_isSender a1 S) (fun v1 S2 => if v1 = 0 then (some ((-2147483648), S2)) else (if a2 = 0 then (if ib a1 20 then (some (S2.1 6 (nt a1), S2)) else none) else if a2 = 1 then (bnd (fX12_cellNow a1 S2) (fun v7 S8 => some (v7, S8))) else if a2 = 2 then (if ib a1 20 then (some (S2.1 8 (nt a1), S2)) else none) else if a2 = 3 then (if ib a1 20 then (some (S2.1 9 (nt a1), S2)) else none) else if a2 = 4 then (if ib a1 20 then (some (S2.1 10 (nt a1), S2)) else none) else if a2 = 5 then (if ib a1 20 then (some (S2.1 11 (nt a1), S2)) else none) else if a2 = 6 then (if ib a1 20 then (some (S2.1 12 (nt a1), S2)) else none) else if a2 = 7 then (bnd (fX12_slotNow a1 S2) (fun v20 S21 => some (v20, S21))) else if a2 = 8 then (if ib a1 20 then (if (S2.1 16 (nt a1)) = 0 then (some (0, S2)) else (some (1, S2))) else none) else if a2 = 9 then (if ib a1 20 then (some (S2.1 7 (nt a1), S2)) else none) else if a2 = 10 then (if ib a1 20 then (some (S2.1 13 (nt a1), S2)) else none) else (some ((-2147483648), S2))))
set_option maxRecDepth 100000 in
set_option maxHeartbeats 4000000 in
theorem tX12_about (a1 : Int32) (a2 : Int32) (S : St) (q : Int32 × St) (h : fX12_about a1 a2 S = some q) : MT vI wM mX12_about (fun n0 => [.ref (n0 + 0), .int a1, .int a2]) S q := by
  refine mt_of (show plainFor yX12_about = true from by decide) (fun _ => Nat.le_of_ble_eq_true rfl) ?_
  intro Γ hc _
  rw [← h]
  show Ok Γ wM 0 [(0, rv Γ 0), (1, .int a1), (2, .int a2)] [] S _
  unfold fX12_about
  refine ok_aload_n 0 hc dX12_about_0 rfl rfl ?_
  refine ok_iload_n 1 hc dX12_about_1 rfl rfl ?_
  refine ok_callVi (As := [.int a1]) (st := []) (fun n0 => [.ref (n0 + 0), .int a1]) hc VS_X12_237 sM_0 rfl rfl rfl ⟨Nat.le_of_ble_eq_true rfl, Nat.le_of_ble_eq_true rfl⟩ (Nat.le_of_ble_eq_true rfl) (fun q h => tX12_isSender a1 S q h) dX12_about_2 (fun v1 S2 => ?_)
  refine ok_if_ne_ite 11 hc dX12_about_5 (by decide) (fun h3 => ?_) (fun h3 => ?_)
  · refine ok_iload_n 2 hc dX12_about_11 rfl rfl ?_
    refine ok_ite (fun h4 => ?_) (fun h4 => ?_)
    · refine ok_tswIn (v := 0) 72 hc dX12_about_12 h4 (by decide) (by decide) rfl (by decide) ?_
      refine ok_aload_n 0 hc dX12_about_72 rfl rfl ?_
      refine ok_getr 6 hc FS_X12_33 rfl sM_0 rfl dX12_about_73 ?_
      refine ok_iload_n 1 hc dX12_about_76 rfl rfl ?_
      refine ok_iald hc sM_6 dX12_about_77 (fun h5 => ?_)
      exact ok_iret hc rfl dX12_about_78
    · refine ok_ite (fun h6 => ?_) (fun h6 => ?_)
      · refine ok_tswIn (v := 1) 79 hc dX12_about_12 h6 (by decide) (by decide) rfl (by decide) ?_
        refine ok_aload_n 0 hc dX12_about_79 rfl rfl ?_
        refine ok_iload_n 1 hc dX12_about_80 rfl rfl ?_
        refine ok_callVi (As := [.int a1]) (st := []) (fun n0 => [.ref (n0 + 0), .int a1]) hc VS_X12_241 sM_0 rfl rfl rfl ⟨Nat.le_of_ble_eq_true rfl, Nat.le_of_ble_eq_true rfl⟩ (Nat.le_of_ble_eq_true rfl) (fun q h => tX12_cellNow a1 S2 q h) dX12_about_81 (fun v7 S8 => ?_)
        exact ok_iret hc rfl dX12_about_84
      · refine ok_ite (fun h9 => ?_) (fun h9 => ?_)
        · refine ok_tswIn (v := 2) 85 hc dX12_about_12 h9 (by decide) (by decide) rfl (by decide) ?_
          refine ok_aload_n 0 hc dX12_about_85 rfl rfl ?_
          refine ok_getr 8 hc FS_X12_39 rfl sM_0 rfl dX12_about_86 ?_
          refine ok_iload_n 1 hc dX12_about_89 rfl rfl ?_
          refine ok_iald hc sM_8 dX12_about_90 (fun h10 => ?_)
          exact ok_iret hc rfl dX12_about_91
        · refine ok_ite (fun h11 => ?_) (fun h11 => ?_)
          · refine ok_tswIn (v := 3) 92 hc dX12_about_12 h11 (by decide) (by decide) rfl (by decide) ?_
            refine ok_aload_n 0 hc dX12_about_92 rfl rfl ?_
            refine ok_getr 9 hc FS_X12_42 rfl sM_0 rfl dX12_about_93 ?_
            refine ok_iload_n 1 hc dX12_about_96 rfl rfl ?_
            refine ok_iald hc sM_9 dX12_about_97 (fun h12 => ?_)
            exact ok_iret hc rfl dX12_about_98
          · refine ok_ite (fun h13 => ?_) (fun h13 => ?_)
            · refine ok_tswIn (v := 4) 99 hc dX12_about_12 h13 (by decide) (by decide) rfl (by decide) ?_
              refine ok_aload_n 0 hc dX12_about_99 rfl rfl ?_
              refine ok_getr 10 hc FS_X12_45 rfl sM_0 rfl dX12_about_100 ?_
              refine ok_iload_n 1 hc dX12_about_103 rfl rfl ?_
              refine ok_iald hc sM_10 dX12_about_104 (fun h14 => ?_)
              exact ok_iret hc rfl dX12_about_105
            · refine ok_ite (fun h15 => ?_) (fun h15 => ?_)
              · refine ok_tswIn (v := 5) 106 hc dX12_about_12 h15 (by decide) (by decide) rfl (by decide) ?_
                refine ok_aload_n 0 hc dX12_about_106 rfl rfl ?_
                refine ok_getr 11 hc FS_X12_48 rfl sM_0 rfl dX12_about_107 ?_
                refine ok_iload_n 1 hc dX12_about_110 rfl rfl ?_
                refine ok_iald hc sM_11 dX12_about_111 (fun h16 => ?_)
                exact ok_iret hc rfl dX12_about_112
              · refine ok_ite (fun h17 => ?_) (fun h17 => ?_)
                · refine ok_tswIn (v := 6) 113 hc dX12_about_12 h17 (by decide) (by decide) rfl (by decide) ?_
                  refine ok_aload_n 0 hc dX12_about_113 rfl rfl ?_
                  refine ok_getr 12 hc FS_X12_51 rfl sM_0 rfl dX12_about_114 ?_
                  refine ok_iload_n 1 hc dX12_about_117 rfl rfl ?_
                  refine ok_iald hc sM_12 dX12_about_118 (fun h18 => ?_)
                  exact ok_iret hc rfl dX12_about_119
                · refine ok_ite (fun h19 => ?_) (fun h19 => ?_)
                  · refine ok_tswIn (v := 7) 120 hc dX12_about_12 h19 (by decide) (by decide) rfl (by decide) ?_
                    refine ok_aload_n 0 hc dX12_about_120 rfl rfl ?_
                    refine ok_iload_n 1 hc dX12_about_121 rfl rfl ?_
                    refine ok_callVi (As := [.int a1]) (st := []) (fun n0 => [.ref (n0 + 0), .int a1]) hc VS_X12_244 sM_0 rfl rfl rfl ⟨Nat.le_of_ble_eq_true rfl, Nat.le_of_ble_eq_true rfl⟩ (Nat.le_of_ble_eq_true rfl) (fun q h => tX12_slotNow a1 S2 q h) dX12_about_122 (fun v20 S21 => ?_)
                    exact ok_iret hc rfl dX12_about_125
                  · refine ok_ite (fun h22 => ?_) (fun h22 => ?_)
                    · refine ok_tswIn (v := 8) 126 hc dX12_about_12 h22 (by decide) (by decide) rfl (by decide) ?_
                      refine ok_aload_n 0 hc dX12_about_126 rfl rfl ?_
                      refine ok_getr 16 hc FS_X12_63 rfl sM_0 rfl dX12_about_127 ?_
                      refine ok_iload_n 1 hc dX12_about_130 rfl rfl ?_
                      refine ok_zald hc sM_16 dX12_about_131 (fun h23 => ?_)
                      refine ok_if_eq_ite 139 hc dX12_about_132 (by decide) (fun h24 => ?_) (fun h24 => ?_)
                      · refine ok_iconst (v := 0) hc dX12_about_139 (by decide) ?_
                        exact ok_iret hc rfl dX12_about_140
                      · refine ok_iconst (v := 1) hc dX12_about_135 (by decide) ?_
                        refine ok_goto 140 hc dX12_about_136 (by decide) ?_
                        exact ok_iret hc rfl dX12_about_140
                    · refine ok_ite (fun h25 => ?_) (fun h25 => ?_)
                      · refine ok_tswIn (v := 9) 141 hc dX12_about_12 h25 (by decide) (by decide) rfl (by decide) ?_
                        refine ok_aload_n 0 hc dX12_about_141 rfl rfl ?_
                        refine ok_getr 7 hc FS_X12_36 rfl sM_0 rfl dX12_about_142 ?_
                        refine ok_iload_n 1 hc dX12_about_145 rfl rfl ?_
                        refine ok_iald hc sM_7 dX12_about_146 (fun h26 => ?_)
                        exact ok_iret hc rfl dX12_about_147
                      · refine ok_ite (fun h27 => ?_) (fun h27 => ?_)
                        · refine ok_tswIn (v := 10) 148 hc dX12_about_12 h27 (by decide) (by decide) rfl (by decide) ?_
                          refine ok_aload_n 0 hc dX12_about_148 rfl rfl ?_
                          refine ok_getr 13 hc FS_X12_54 rfl sM_0 rfl dX12_about_149 ?_
                          refine ok_iload_n 1 hc dX12_about_152 rfl rfl ?_
                          refine ok_iald hc sM_13 dX12_about_153 (fun h28 => ?_)
                          exact ok_iret hc rfl dX12_about_154
                        · refine ok_tswOut 155 hc dX12_about_12 (by have i0 := ne_i (k := 0) h4 (by decide); have i1 := ne_i (k := 1) h6 (by decide); have i2 := ne_i (k := 2) h9 (by decide); have i3 := ne_i (k := 3) h11 (by decide); have i4 := ne_i (k := 4) h13 (by decide); have i5 := ne_i (k := 5) h15 (by decide); have i6 := ne_i (k := 6) h17 (by decide); have i7 := ne_i (k := 7) h19 (by decide); have i8 := ne_i (k := 8) h22 (by decide); have i9 := ne_i (k := 9) h25 (by decide); have i10 := ne_i (k := 10) h27 (by decide); omega) (by decide) ?_
                          refine ok_ldc hc dX12_about_155 W_1373 ?_
                          exact ok_iret hc rfl dX12_about_157
  · refine ok_ldc hc dX12_about_8 W_1373 ?_
    exact ok_iret hc rfl dX12_about_10
def fX12_hillOf (a1 : Int32) (S : St) : Option (Int32 × St) :=
  bnd (fX12_told 0 a1 99 S) (fun v1 S2 => some (v1, S2))
set_option maxRecDepth 100000 in
set_option maxHeartbeats 4000000 in
theorem tX12_hillOf (a1 : Int32) (S : St) (q : Int32 × St) (h : fX12_hillOf a1 S = some q) : MT vI wM mX12_hillOf (fun n0 => [.ref (n0 + 0), .int a1]) S q := by
  refine mt_of (show plainFor yX12_hillOf = true from by decide) (fun _ => Nat.le_of_ble_eq_true rfl) ?_
  intro Γ hc _
  rw [← h]
  show Ok Γ wM 0 [(0, rv Γ 0), (1, .int a1)] [] S _
  unfold fX12_hillOf
  refine ok_aload_n 0 hc dX12_hillOf_0 rfl rfl ?_
  refine ok_iconst (v := 0) hc dX12_hillOf_1 (by decide) ?_
  refine ok_iload_n 1 hc dX12_hillOf_2 rfl rfl ?_
  refine ok_bipush (v := 99) hc dX12_hillOf_3 (by decide) ?_
  refine ok_callVi (As := [.int 0, .int a1, .int 99]) (st := []) (fun n0 => [.ref (n0 + 0), .int 0, .int a1, .int 99]) hc VS_X12_188 sM_0 rfl rfl rfl ⟨Nat.le_of_ble_eq_true rfl, Nat.le_of_ble_eq_true rfl⟩ (Nat.le_of_ble_eq_true rfl) (fun q h => tX12_told 0 a1 99 S q h) dX12_hillOf_5 (fun v1 S2 => ?_)
  exact ok_iret hc rfl dX12_hillOf_8
def fX12_atLeast0 (a0 : Int32) (S : St) : Option (Int32 × St) :=
  if a0 ≤ 0 then (some (0, S)) else (some (a0, S))
set_option maxRecDepth 100000 in
set_option maxHeartbeats 4000000 in
theorem tX12_atLeast0 (a0 : Int32) (S : St) (q : Int32 × St) (h : fX12_atLeast0 a0 S = some q) : MT vI wM mX12_atLeast0 (fun n0 => [.int a0]) S q := by
  refine mt_of (show plainFor yX12_atLeast0 = true from by decide) (fun _ => Nat.le_of_ble_eq_true rfl) ?_
  intro Γ hc _
  rw [← h]
  show Ok Γ wM 0 [(0, .int a0)] [] S _
  unfold fX12_atLeast0
  refine ok_iload_n 0 hc dX12_atLeast0_0 rfl rfl ?_
  refine ok_if_le_ite 8 hc dX12_atLeast0_1 (by decide) (fun h1 => ?_) (fun h1 => ?_)
  · refine ok_iconst (v := 0) hc dX12_atLeast0_8 (by decide) ?_
    exact ok_iret hc rfl dX12_atLeast0_9
  · refine ok_iload_n 0 hc dX12_atLeast0_4 rfl rfl ?_
    refine ok_goto 9 hc dX12_atLeast0_5 (by decide) ?_
    exact ok_iret hc rfl dX12_atLeast0_9
def fX12_floorBy (a0 : Int32) (a1 : Int32) (S : St) : Option (Int32 × St) :=
  if 0 ≤ a0 then (if ¬ a1 = 0 then (some (a0 / a1, S)) else none) else (if ¬ a1 = 0 then (some (-(((a1 - 1) - a0) / a1), S)) else none)
set_option maxRecDepth 100000 in
set_option maxHeartbeats 4000000 in
theorem tX12_floorBy (a0 : Int32) (a1 : Int32) (S : St) (q : Int32 × St) (h : fX12_floorBy a0 a1 S = some q) : MT vI wM mX12_floorBy (fun n0 => [.int a0, .int a1]) S q := by
  refine mt_of (show plainFor yX12_floorBy = true from by decide) (fun _ => Nat.le_of_ble_eq_true rfl) ?_
  intro Γ hc _
  rw [← h]
  show Ok Γ wM 0 [(0, .int a0), (1, .int a1)] [] S _
  unfold fX12_floorBy
  refine ok_iload_n 0 hc dX12_floorBy_0 rfl rfl ?_
  refine ok_if_ge_ite 15 hc dX12_floorBy_1 (by decide) (fun h1 => ?_) (fun h1 => ?_)
  · refine ok_iload_n 0 hc dX12_floorBy_15 rfl rfl ?_
    refine ok_iload_n 1 hc dX12_floorBy_16 rfl rfl ?_
    refine ok_idiv hc dX12_floorBy_17 (fun h2 => ?_)
    exact ok_iret hc rfl dX12_floorBy_18
  · refine ok_iload_n 1 hc dX12_floorBy_4 rfl rfl ?_
    refine ok_iconst (v := 1) hc dX12_floorBy_5 (by decide) ?_
    refine ok_isub hc dX12_floorBy_6 ?_
    refine ok_iload_n 0 hc dX12_floorBy_7 rfl rfl ?_
    refine ok_isub hc dX12_floorBy_8 ?_
    refine ok_iload_n 1 hc dX12_floorBy_9 rfl rfl ?_
    refine ok_idiv hc dX12_floorBy_10 (fun h3 => ?_)
    refine ok_ineg hc dX12_floorBy_11 ?_
    refine ok_goto 18 hc dX12_floorBy_12 (by decide) ?_
    exact ok_iret hc rfl dX12_floorBy_18
def fX12_woodOf (a1 : Int32) (S : St) : Option (Int32 × St) :=
  bnd (fX12_told 1 a1 9 S) (fun v1 S2 => some (v1, S2))
set_option maxRecDepth 100000 in
set_option maxHeartbeats 4000000 in
theorem tX12_woodOf (a1 : Int32) (S : St) (q : Int32 × St) (h : fX12_woodOf a1 S = some q) : MT vI wM mX12_woodOf (fun n0 => [.ref (n0 + 0), .int a1]) S q := by
  refine mt_of (show plainFor yX12_woodOf = true from by decide) (fun _ => Nat.le_of_ble_eq_true rfl) ?_
  intro Γ hc _
  rw [← h]
  show Ok Γ wM 0 [(0, rv Γ 0), (1, .int a1)] [] S _
  unfold fX12_woodOf
  refine ok_aload_n 0 hc dX12_woodOf_0 rfl rfl ?_
  refine ok_iconst (v := 1) hc dX12_woodOf_1 (by decide) ?_
  refine ok_iload_n 1 hc dX12_woodOf_2 rfl rfl ?_
  refine ok_bipush (v := 9) hc dX12_woodOf_3 (by decide) ?_
  refine ok_callVi (As := [.int 1, .int a1, .int 9]) (st := []) (fun n0 => [.ref (n0 + 0), .int 1, .int a1, .int 9]) hc VS_X12_188 sM_0 rfl rfl rfl ⟨Nat.le_of_ble_eq_true rfl, Nat.le_of_ble_eq_true rfl⟩ (Nat.le_of_ble_eq_true rfl) (fun q h => tX12_told 1 a1 9 S q h) dX12_woodOf_5 (fun v1 S2 => ?_)
  exact ok_iret hc rfl dX12_woodOf_8
def fX12_lossOf_L119_st (a1 : Int32) (a5 : Int32) (a6 : Int32) (a7 : Int32) (a10 : Int32) (a11 : Int32) (a12 : Int32) (rec : Int32 → Int32 → St → Option (Int32 × St)) (a13 : Int32) (a14 : Int32) (S : St) : Option (Int32 × St) :=
  if a10 ≤ a14 then (some (a13, S)) else (if ¬ (S.1 0 5) = 0 then (bnd (fX12_floorBy (((2 * a14) * a6) + a10) (2 * a10) S) (fun v3 S4 => lt ((ire a1 (S.1 0 5)) + v3) (fun (v5 : Int32) => if ¬ (S4.1 0 5) = 0 then (bnd (fX12_floorBy (((2 * a14) * a7) + a10) (2 * a10) S4) (fun v7 S8 => lt ((a1 / (S4.1 0 5)) + v7) (fun (v9 : Int32) => bnd (fX12_woodOf ((v9 * (S8.1 0 5)) + v5) S8) (fun v10 S11 => bnd (fX12_hillOf ((v9 * (S11.1 0 5)) + v5) S11) (fun v12 S13 => lt (if v10 = (-1) then (if a5 = 1 then 9 else 0) else v10) (fun (v14 : Int32) => lt (if v12 = (-1) then (if a5 = 1 then 99 else 0) else v12) (fun (v16 : Int32) => if ¬ a10 = 0 then (bnd (fX12_atLeast0 (((a10 * (v16 - a11)) - (a14 * (a12 - a11))) / a10) S13) (fun v19 S20 => lt (a13 + (((S13.1 5 (nt 0)) * v14) + ((S13.1 5 (nt 1)) * v19))) (fun (v21 : Int32) => rec v21 (a14 + 1) S20))) else none))))))) else none))) else none)
def fX12_lossOf_L119 (a1 : Int32) (a5 : Int32) (a6 : Int32) (a7 : Int32) (a10 : Int32) (a11 : Int32) (a12 : Int32) : Nat → Int32 → Int32 → St → Option (Int32 × St)
  | 0 => fun _ _ _ => none
  | n + 1 => fun a13 a14 S => fX12_lossOf_L119_st a1 a5 a6 a7 a10 a11 a12 (fX12_lossOf_L119 a1 a5 a6 a7 a10 a11 a12 n) a13 a14 S
def fX12_lossOf (a1 : Int32) (a2 : Int32) (a3 : Int32) (a4 : Int32) (a5 : Int32) (S : St) : Option (Int32 × St) :=
  if ¬ (S.1 0 5) = 0 then (if ¬ (S.1 0 5) = 0 then (lt ((ire a3 (S.1 0 5)) - (ire a1 (S.1 0 5))) (fun (v3 : Int32) => if ¬ (S.1 0 5) = 0 then (if ¬ (S.1 0 5) = 0 then (lt ((a3 / (S.1 0 5)) - (a1 / (S.1 0 5))) (fun (v6 : Int32) => lt (if 0 ≤ v3 then v3 else (-v3)) (fun (v7 : Int32) => lt (if 0 ≤ v6 then v6 else (-v6)) (fun (v9 : Int32) => lt (if v7 ≤ v9 then v9 else v7) (fun (v11 : Int32) => bnd (fX12_hillOf a1 S) (fun v13 S14 => bnd (fX12_atLeast0 v13 S14) (fun v15 S16 => lt (a2 + v15) (fun (v17 : Int32) => bnd (fX12_hillOf a3 S16) (fun v18 S19 => bnd (fX12_atLeast0 v18 S19) (fun v20 S21 => lt (a4 + v20) (fun (v22 : Int32) => lt ((1 + (v3 * v3)) + (v6 * v6)) (fun (v23 : Int32) => fX12_lossOf_L119 a1 a5 v3 v6 v11 v17 v22 FU v23 1 S21)))))))))))) else none) else none)) else none) else none
set_option maxRecDepth 100000 in
set_option maxHeartbeats 4000000 in
theorem tX12_lossOf_L119 {Γ : Cx Int32} (hc : Cok Γ wM vI mX12_lossOf) (a1 : Int32) (a5 : Int32) (a6 : Int32) (a7 : Int32) (a10 : Int32) (a11 : Int32) (a12 : Int32) : ∀ (n : Nat) (a13 : Int32) (a14 : Int32) (S : St), Ok Γ wM 119 [(0, rv Γ 0), (1, .int a1), (5, .int a5), (6, .int a6), (7, .int a7), (10, .int a10), (11, .int a11), (12, .int a12), (13, .int a13), (14, .int a14)] [] S (fX12_lossOf_L119 a1 a5 a6 a7 a10 a11 a12 n a13 a14 S) := by
  intro n
  induction n with
  | zero =>
    intro a13 a14 S
    exact ok_none
  | succ n ih =>
    intro a13 a14 S
    show Ok Γ wM 119 [(0, rv Γ 0), (1, .int a1), (5, .int a5), (6, .int a6), (7, .int a7), (10, .int a10), (11, .int a11), (12, .int a12), (13, .int a13), (14, .int a14)] [] S (fX12_lossOf_L119_st a1 a5 a6 a7 a10 a11 a12 (fX12_lossOf_L119 a1 a5 a6 a7 a10 a11 a12 n) a13 a14 S)
    unfold fX12_lossOf_L119_st
    refine ok_iload 9 hc dX12_lossOf_119 rfl ?_
    refine ok_iload 5 hc dX12_lossOf_121 rfl ?_
    refine ok_icmp_ge_ite 311 hc dX12_lossOf_123 (by decide) (fun h1 => ?_) (fun h1 => ?_)
    · refine ok_iload 8 hc dX12_lossOf_311 rfl ?_
      exact ok_iret hc rfl dX12_lossOf_313
    · refine ok_iload_n 1 hc dX12_lossOf_126 rfl rfl ?_
      refine ok_aload_n 0 hc dX12_lossOf_127 rfl rfl ?_
      refine ok_geti hc FS_X12_23 rfl sM_0 dX12_lossOf_128 ?_
      refine ok_irem hc dX12_lossOf_131 (fun h2 => ?_)
      refine ok_iconst (v := 2) hc dX12_lossOf_132 (by decide) ?_
      refine ok_iload 9 hc dX12_lossOf_133 rfl ?_
      refine ok_imul hc dX12_lossOf_135 ?_
      refine ok_iload 3 hc dX12_lossOf_136 rfl ?_
      refine ok_imul hc dX12_lossOf_138 ?_
      refine ok_iload 5 hc dX12_lossOf_139 rfl ?_
      refine ok_iadd hc dX12_lossOf_141 ?_
      refine ok_iconst (v := 2) hc dX12_lossOf_142 (by decide) ?_
      refine ok_iload 5 hc dX12_lossOf_143 rfl ?_
      refine ok_imul hc dX12_lossOf_145 ?_
      refine ok_callSi (As := [.int (((2 * a14) * a6) + a10), .int (2 * a10)]) (st := [.int (ire a1 (S.1 0 5))]) (fun n0 => [.int (((2 * a14) * a6) + a10), .int (2 * a10)]) hc SS_X12_213 rfl rfl rfl ⟨Nat.le_of_ble_eq_true rfl, Nat.le_of_ble_eq_true rfl⟩ (Nat.le_of_ble_eq_true rfl) (fun q h => tX12_floorBy (((2 * a14) * a6) + a10) (2 * a10) S q h) dX12_lossOf_146 (fun v3 S4 => ?_)
      refine ok_iadd hc dX12_lossOf_149 ?_
      refine ok_lti (fun v5 => ?_)
      refine ok_istore [(15, .int v5), (0, rv Γ 0), (1, .int a1), (5, .int a5), (6, .int a6), (7, .int a7), (10, .int a10), (11, .int a11), (12, .int a12), (13, .int a13), (14, .int a14)] hc dX12_lossOf_150 (Nat.le_of_ble_eq_true rfl) rfl ?_
      refine ok_iload_n 2 hc dX12_lossOf_152 rfl rfl ?_
      refine ok_aload_n 1 hc dX12_lossOf_153 rfl rfl ?_
      refine ok_geti hc FS_X12_23 rfl sM_0 dX12_lossOf_154 ?_
      refine ok_idiv hc dX12_lossOf_157 (fun h6 => ?_)
      refine ok_iconst (v := 2) hc dX12_lossOf_158 (by decide) ?_
      refine ok_iload 10 hc dX12_lossOf_159 rfl ?_
      refine ok_imul hc dX12_lossOf_161 ?_
      refine ok_iload 5 hc dX12_lossOf_162 rfl ?_
      refine ok_imul hc dX12_lossOf_164 ?_
      refine ok_iload 6 hc dX12_lossOf_165 rfl ?_
      refine ok_iadd hc dX12_lossOf_167 ?_
      refine ok_iconst (v := 2) hc dX12_lossOf_168 (by decide) ?_
      refine ok_iload 6 hc dX12_lossOf_169 rfl ?_
      refine ok_imul hc dX12_lossOf_171 ?_
      refine ok_callSi (As := [.int (((2 * a14) * a7) + a10), .int (2 * a10)]) (st := [.int (a1 / (S4.1 0 5))]) (fun n0 => [.int (((2 * a14) * a7) + a10), .int (2 * a10)]) hc SS_X12_213 rfl rfl rfl ⟨Nat.le_of_ble_eq_true rfl, Nat.le_of_ble_eq_true rfl⟩ (Nat.le_of_ble_eq_true rfl) (fun q h => tX12_floorBy (((2 * a14) * a7) + a10) (2 * a10) S4 q h) dX12_lossOf_172 (fun v7 S8 => ?_)
      refine ok_iadd hc dX12_lossOf_175 ?_
      refine ok_lti (fun v9 => ?_)
      refine ok_istore [(16, .int v9), (15, .int v5), (0, rv Γ 0), (1, .int a1), (5, .int a5), (6, .int a6), (7, .int a7), (10, .int a10), (11, .int a11), (12, .int a12), (13, .int a13), (14, .int a14)] hc dX12_lossOf_176 (Nat.le_of_ble_eq_true rfl) rfl ?_
      refine ok_aload_n 2 hc dX12_lossOf_178 rfl rfl ?_
      refine ok_iload 0 hc dX12_lossOf_179 rfl ?_
      refine ok_aload_n 2 hc dX12_lossOf_181 rfl rfl ?_
      refine ok_geti hc FS_X12_23 rfl sM_0 dX12_lossOf_182 ?_
      refine ok_imul hc dX12_lossOf_185 ?_
      refine ok_iload 1 hc dX12_lossOf_186 rfl ?_
      refine ok_iadd hc dX12_lossOf_188 ?_
      refine ok_callVi (As := [.int ((v9 * (S8.1 0 5)) + v5)]) (st := []) (fun n0 => [.ref (n0 + 0), .int ((v9 * (S8.1 0 5)) + v5)]) hc VS_X12_197 sM_0 rfl rfl rfl ⟨Nat.le_of_ble_eq_true rfl, Nat.le_of_ble_eq_true rfl⟩ (Nat.le_of_ble_eq_true rfl) (fun q h => tX12_woodOf ((v9 * (S8.1 0 5)) + v5) S8 q h) dX12_lossOf_189 (fun v10 S11 => ?_)
      refine ok_istore [(17, .int v10), (16, .int v9), (15, .int v5), (0, rv Γ 0), (1, .int a1), (5, .int a5), (6, .int a6), (7, .int a7), (10, .int a10), (11, .int a11), (12, .int a12), (13, .int a13), (14, .int a14)] hc dX12_lossOf_192 (Nat.le_of_ble_eq_true rfl) rfl ?_
      refine ok_aload_n 3 hc dX12_lossOf_194 rfl rfl ?_
      refine ok_iload 1 hc dX12_lossOf_195 rfl ?_
      refine ok_aload_n 3 hc dX12_lossOf_197 rfl rfl ?_
      refine ok_geti hc FS_X12_23 rfl sM_0 dX12_lossOf_198 ?_
      refine ok_imul hc dX12_lossOf_201 ?_
      refine ok_iload 2 hc dX12_lossOf_202 rfl ?_
      refine ok_iadd hc dX12_lossOf_204 ?_
      refine ok_callVi (As := [.int ((v9 * (S11.1 0 5)) + v5)]) (st := []) (fun n0 => [.ref (n0 + 0), .int ((v9 * (S11.1 0 5)) + v5)]) hc VS_X12_194 sM_0 rfl rfl rfl ⟨Nat.le_of_ble_eq_true rfl, Nat.le_of_ble_eq_true rfl⟩ (Nat.le_of_ble_eq_true rfl) (fun q h => tX12_hillOf ((v9 * (S11.1 0 5)) + v5) S11 q h) dX12_lossOf_205 (fun v12 S13 => ?_)
      refine ok_istore [(18, .int v12), (17, .int v10), (16, .int v9), (15, .int v5), (0, rv Γ 0), (1, .int a1), (5, .int a5), (6, .int a6), (7, .int a7), (10, .int a10), (11, .int a11), (12, .int a12), (13, .int a13), (14, .int a14)] hc dX12_lossOf_208 (Nat.le_of_ble_eq_true rfl) rfl ?_
      refine ok_iload 1 hc dX12_lossOf_210 rfl ?_
      refine ok_iconst (v := (-1)) hc dX12_lossOf_212 (by decide) ?_
      refine ok_lt (fun g => ∀ (v14 : Int32), Ok Γ wM 233 [(0, rv Γ 0), (1, .int a1), (5, .int a5), (6, .int a6), (7, .int a7), (10, .int a10), (11, .int a11), (12, .int a12), (13, .int a13), (14, .int a14), (18, .int v12)] [.int v14] S13 (g v14)) ?_ (fun k15 hk15 => ?_)
      · intro v14
        refine ok_istore [(17, .int v14), (0, rv Γ 0), (1, .int a1), (5, .int a5), (6, .int a6), (7, .int a7), (10, .int a10), (11, .int a11), (12, .int a12), (13, .int a13), (14, .int a14), (18, .int v12)] hc dX12_lossOf_233 (Nat.le_of_ble_eq_true rfl) rfl ?_
        refine ok_iload 11 hc dX12_lossOf_235 rfl ?_
        refine ok_iconst (v := (-1)) hc dX12_lossOf_237 (by decide) ?_
        refine ok_lt (fun g => ∀ (v16 : Int32), Ok Γ wM 258 [(0, rv Γ 0), (1, .int a1), (5, .int a5), (6, .int a6), (7, .int a7), (10, .int a10), (11, .int a11), (12, .int a12), (13, .int a13), (14, .int a14), (17, .int v14)] [.int v16] S13 (g v16)) ?_ (fun k17 hk17 => ?_)
        · intro v16
          refine ok_istore [(18, .int v16), (0, rv Γ 0), (1, .int a1), (5, .int a5), (6, .int a6), (7, .int a7), (10, .int a10), (11, .int a11), (12, .int a12), (13, .int a13), (14, .int a14), (17, .int v14)] hc dX12_lossOf_258 (Nat.le_of_ble_eq_true rfl) rfl ?_
          refine ok_iload 9 hc dX12_lossOf_260 rfl ?_
          refine ok_aload_n 1 hc dX12_lossOf_262 rfl rfl ?_
          refine ok_getr 5 hc FS_X12_30 rfl sM_0 rfl dX12_lossOf_263 ?_
          refine ok_iconst (v := 0) hc dX12_lossOf_266 (by decide) ?_
          refine ok_ialdK hc sM_5 (by decide) dX12_lossOf_267 ?_
          refine ok_iload 11 hc dX12_lossOf_268 rfl ?_
          refine ok_imul hc dX12_lossOf_270 ?_
          refine ok_aload_n 1 hc dX12_lossOf_271 rfl rfl ?_
          refine ok_getr 5 hc FS_X12_30 rfl sM_0 rfl dX12_lossOf_272 ?_
          refine ok_iconst (v := 1) hc dX12_lossOf_275 (by decide) ?_
          refine ok_ialdK hc sM_5 (by decide) dX12_lossOf_276 ?_
          refine ok_iload 6 hc dX12_lossOf_277 rfl ?_
          refine ok_iload 0 hc dX12_lossOf_279 rfl ?_
          refine ok_iload 7 hc dX12_lossOf_281 rfl ?_
          refine ok_isub hc dX12_lossOf_283 ?_
          refine ok_imul hc dX12_lossOf_284 ?_
          refine ok_iload 10 hc dX12_lossOf_285 rfl ?_
          refine ok_iload 8 hc dX12_lossOf_287 rfl ?_
          refine ok_iload 7 hc dX12_lossOf_289 rfl ?_
          refine ok_isub hc dX12_lossOf_291 ?_
          refine ok_imul hc dX12_lossOf_292 ?_
          refine ok_isub hc dX12_lossOf_293 ?_
          refine ok_iload 6 hc dX12_lossOf_294 rfl ?_
          refine ok_idiv hc dX12_lossOf_296 (fun h18 => ?_)
          refine ok_callSi (As := [.int (((a10 * (v16 - a11)) - (a14 * (a12 - a11))) / a10)]) (st := [.int (S13.1 5 (nt 1)), .int ((S13.1 5 (nt 0)) * v14), .int a13]) (fun n0 => [.int (((a10 * (v16 - a11)) - (a14 * (a12 - a11))) / a10)]) hc SS_X12_210 rfl rfl rfl ⟨Nat.le_of_ble_eq_true rfl, Nat.le_of_ble_eq_true rfl⟩ (Nat.le_of_ble_eq_true rfl) (fun q h => tX12_atLeast0 (((a10 * (v16 - a11)) - (a14 * (a12 - a11))) / a10) S13 q h) dX12_lossOf_297 (fun v19 S20 => ?_)
          refine ok_imul hc dX12_lossOf_300 ?_
          refine ok_iadd hc dX12_lossOf_301 ?_
          refine ok_iadd hc dX12_lossOf_302 ?_
          refine ok_lti (fun v21 => ?_)
          refine ok_istore [(13, .int v21), (18, .int v16), (0, rv Γ 0), (1, .int a1), (5, .int a5), (6, .int a6), (7, .int a7), (10, .int a10), (11, .int a11), (12, .int a12), (14, .int a14), (17, .int v14)] hc dX12_lossOf_303 (Nat.le_of_ble_eq_true rfl) rfl ?_
          refine ok_iinc (v := 1) 10 [(14, .int (a14 + 1)), (13, .int v21), (18, .int v16), (0, rv Γ 0), (1, .int a1), (5, .int a5), (6, .int a6), (7, .int a7), (10, .int a10), (11, .int a11), (12, .int a12), (17, .int v14)] hc dX12_lossOf_305 rfl (by decide) (Nat.le_of_ble_eq_true rfl) rfl ?_
          refine ok_goto 119 hc dX12_lossOf_308 (by decide) ?_
          refine ok_sub [3, 4, 5, 6, 7, 8, 9, 10, 1, 0] rfl ?_
          exact ih _ _ _
        · refine ok_icmp_ne 256 hc dX12_lossOf_238 (by decide) (fun h22 => ?_) (fun h22 => ?_)
          · rw [if_neg h22]
            refine ok_iload 11 hc dX12_lossOf_256 rfl ?_
            refine ok_sub [1, 2, 3, 4, 5, 6, 7, 8, 9, 10, 0] rfl ?_
            exact hk17 _
          · rw [if_pos h22]
            refine ok_iload 3 hc dX12_lossOf_241 rfl ?_
            refine ok_iconst (v := 1) hc dX12_lossOf_243 (by decide) ?_
            refine ok_icmp_ne 252 hc dX12_lossOf_244 (by decide) (fun h23 => ?_) (fun h23 => ?_)
            · rw [if_neg h23]
              refine ok_iconst (v := 0) hc dX12_lossOf_252 (by decide) ?_
              refine ok_goto 258 hc dX12_lossOf_253 (by decide) ?_
              refine ok_sub [1, 2, 3, 4, 5, 6, 7, 8, 9, 10, 0] rfl ?_
              exact hk17 _
            · rw [if_pos h23]
              refine ok_bipush (v := 99) hc dX12_lossOf_247 (by decide) ?_
              refine ok_goto 258 hc dX12_lossOf_249 (by decide) ?_
              refine ok_sub [1, 2, 3, 4, 5, 6, 7, 8, 9, 10, 0] rfl ?_
              exact hk17 _
      · refine ok_icmp_ne 231 hc dX12_lossOf_213 (by decide) (fun h24 => ?_) (fun h24 => ?_)
        · rw [if_neg h24]
          refine ok_iload 1 hc dX12_lossOf_231 rfl ?_
          refine ok_sub [4, 5, 6, 7, 8, 9, 10, 11, 12, 13, 0] rfl ?_
          exact hk15 _
        · rw [if_pos h24]
          refine ok_iload 6 hc dX12_lossOf_216 rfl ?_
          refine ok_iconst (v := 1) hc dX12_lossOf_218 (by decide) ?_
          refine ok_icmp_ne 227 hc dX12_lossOf_219 (by decide) (fun h25 => ?_) (fun h25 => ?_)
          · rw [if_neg h25]
            refine ok_iconst (v := 0) hc dX12_lossOf_227 (by decide) ?_
            refine ok_goto 233 hc dX12_lossOf_228 (by decide) ?_
            refine ok_sub [4, 5, 6, 7, 8, 9, 10, 11, 12, 13, 0] rfl ?_
            exact hk15 _
          · rw [if_pos h25]
            refine ok_bipush (v := 9) hc dX12_lossOf_222 (by decide) ?_
            refine ok_goto 233 hc dX12_lossOf_224 (by decide) ?_
            refine ok_sub [4, 5, 6, 7, 8, 9, 10, 11, 12, 13, 0] rfl ?_
            exact hk15 _
set_option maxRecDepth 100000 in
set_option maxHeartbeats 4000000 in
theorem tX12_lossOf (a1 : Int32) (a2 : Int32) (a3 : Int32) (a4 : Int32) (a5 : Int32) (S : St) (q : Int32 × St) (h : fX12_lossOf a1 a2 a3 a4 a5 S = some q) : MT vI wM mX12_lossOf (fun n0 => [.ref (n0 + 0), .int a1, .int a2, .int a3, .int a4, .int a5]) S q := by
  refine mt_of (show plainFor yX12_lossOf = true from by decide) (fun _ => Nat.le_of_ble_eq_true rfl) ?_
  intro Γ hc _
  rw [← h]
  show Ok Γ wM 0 [(0, rv Γ 0), (1, .int a1), (2, .int a2), (3, .int a3), (4, .int a4), (5, .int a5)] [] S _
  unfold fX12_lossOf
  refine ok_iload_n 3 hc dX12_lossOf_0 rfl rfl ?_
  refine ok_aload_n 0 hc dX12_lossOf_1 rfl rfl ?_
  refine ok_geti hc FS_X12_23 rfl sM_0 dX12_lossOf_2 ?_
  refine ok_irem hc dX12_lossOf_5 (fun h1 => ?_)
  refine ok_iload_n 1 hc dX12_lossOf_6 rfl rfl ?_
  refine ok_aload_n 0 hc dX12_lossOf_7 rfl rfl ?_
  refine ok_geti hc FS_X12_23 rfl sM_0 dX12_lossOf_8 ?_
  refine ok_irem hc dX12_lossOf_11 (fun h2 => ?_)
  refine ok_isub hc dX12_lossOf_12 ?_
  refine ok_lti (fun v3 => ?_)
  refine ok_istore [(6, .int v3), (0, rv Γ 0), (1, .int a1), (2, .int a2), (3, .int a3), (4, .int a4), (5, .int a5)] hc dX12_lossOf_13 (Nat.le_of_ble_eq_true rfl) rfl ?_
  refine ok_iload_n 4 hc dX12_lossOf_15 rfl rfl ?_
  refine ok_aload_n 1 hc dX12_lossOf_16 rfl rfl ?_
  refine ok_geti hc FS_X12_23 rfl sM_0 dX12_lossOf_17 ?_
  refine ok_idiv hc dX12_lossOf_20 (fun h4 => ?_)
  refine ok_iload_n 2 hc dX12_lossOf_21 rfl rfl ?_
  refine ok_aload_n 1 hc dX12_lossOf_22 rfl rfl ?_
  refine ok_geti hc FS_X12_23 rfl sM_0 dX12_lossOf_23 ?_
  refine ok_idiv hc dX12_lossOf_26 (fun h5 => ?_)
  refine ok_isub hc dX12_lossOf_27 ?_
  refine ok_lti (fun v6 => ?_)
  refine ok_istore [(7, .int v6), (6, .int v3), (0, rv Γ 0), (1, .int a1), (2, .int a2), (3, .int a3), (4, .int a4), (5, .int a5)] hc dX12_lossOf_28 (Nat.le_of_ble_eq_true rfl) rfl ?_
  refine ok_iload 1 hc dX12_lossOf_30 rfl ?_
  refine ok_lt (fun g => ∀ (v7 : Int32), Ok Γ wM 43 [(0, rv Γ 0), (1, .int a1), (2, .int a2), (3, .int a3), (4, .int a4), (5, .int a5), (6, .int v3), (7, .int v6)] [.int v7] S (g v7)) ?_ (fun k8 hk8 => ?_)
  · intro v7
    refine ok_istore [(8, .int v7), (0, rv Γ 0), (1, .int a1), (2, .int a2), (3, .int a3), (4, .int a4), (5, .int a5), (6, .int v3), (7, .int v6)] hc dX12_lossOf_43 (Nat.le_of_ble_eq_true rfl) rfl ?_
    refine ok_iload 8 hc dX12_lossOf_45 rfl ?_
    refine ok_lt (fun g => ∀ (v9 : Int32), Ok Γ wM 58 [(0, rv Γ 0), (1, .int a1), (2, .int a2), (3, .int a3), (4, .int a4), (5, .int a5), (6, .int v3), (7, .int v6), (8, .int v7)] [.int v9] S (g v9)) ?_ (fun k10 hk10 => ?_)
    · intro v9
      refine ok_istore [(9, .int v9), (0, rv Γ 0), (1, .int a1), (2, .int a2), (3, .int a3), (4, .int a4), (5, .int a5), (6, .int v3), (7, .int v6), (8, .int v7)] hc dX12_lossOf_58 (Nat.le_of_ble_eq_true rfl) rfl ?_
      refine ok_iload 9 hc dX12_lossOf_60 rfl ?_
      refine ok_iload 0 hc dX12_lossOf_62 rfl ?_
      refine ok_lt (fun g => ∀ (v11 : Int32), Ok Γ wM 74 [(0, rv Γ 0), (1, .int a1), (2, .int a2), (3, .int a3), (4, .int a4), (5, .int a5), (6, .int v3), (7, .int v6)] [.int v11] S (g v11)) ?_ (fun k12 hk12 => ?_)
      · intro v11
        refine ok_istore [(10, .int v11), (0, rv Γ 0), (1, .int a1), (2, .int a2), (3, .int a3), (4, .int a4), (5, .int a5), (6, .int v3), (7, .int v6)] hc dX12_lossOf_74 (Nat.le_of_ble_eq_true rfl) rfl ?_
        refine ok_iload_n 3 hc dX12_lossOf_76 rfl rfl ?_
        refine ok_aload_n 1 hc dX12_lossOf_77 rfl rfl ?_
        refine ok_iload_n 2 hc dX12_lossOf_78 rfl rfl ?_
        refine ok_callVi (As := [.int a1]) (st := [.int a2]) (fun n0 => [.ref (n0 + 0), .int a1]) hc VS_X12_194 sM_0 rfl rfl rfl ⟨Nat.le_of_ble_eq_true rfl, Nat.le_of_ble_eq_true rfl⟩ (Nat.le_of_ble_eq_true rfl) (fun q h => tX12_hillOf a1 S q h) dX12_lossOf_79 (fun v13 S14 => ?_)
        refine ok_callSi (As := [.int v13]) (st := [.int a2]) (fun n0 => [.int v13]) hc SS_X12_210 rfl rfl rfl ⟨Nat.le_of_ble_eq_true rfl, Nat.le_of_ble_eq_true rfl⟩ (Nat.le_of_ble_eq_true rfl) (fun q h => tX12_atLeast0 v13 S14 q h) dX12_lossOf_82 (fun v15 S16 => ?_)
        refine ok_iadd hc dX12_lossOf_85 ?_
        refine ok_lti (fun v17 => ?_)
        refine ok_istore [(11, .int v17), (10, .int v11), (0, rv Γ 0), (1, .int a1), (2, .int a2), (3, .int a3), (4, .int a4), (5, .int a5), (6, .int v3), (7, .int v6)] hc dX12_lossOf_86 (Nat.le_of_ble_eq_true rfl) rfl ?_
        refine ok_iload 6 hc dX12_lossOf_88 rfl ?_
        refine ok_aload_n 2 hc dX12_lossOf_90 rfl rfl ?_
        refine ok_iload_n 5 hc dX12_lossOf_91 rfl rfl ?_
        refine ok_callVi (As := [.int a3]) (st := [.int a4]) (fun n0 => [.ref (n0 + 0), .int a3]) hc VS_X12_194 sM_0 rfl rfl rfl ⟨Nat.le_of_ble_eq_true rfl, Nat.le_of_ble_eq_true rfl⟩ (Nat.le_of_ble_eq_true rfl) (fun q h => tX12_hillOf a3 S16 q h) dX12_lossOf_92 (fun v18 S19 => ?_)
        refine ok_callSi (As := [.int v18]) (st := [.int a4]) (fun n0 => [.int v18]) hc SS_X12_210 rfl rfl rfl ⟨Nat.le_of_ble_eq_true rfl, Nat.le_of_ble_eq_true rfl⟩ (Nat.le_of_ble_eq_true rfl) (fun q h => tX12_atLeast0 v18 S19 q h) dX12_lossOf_95 (fun v20 S21 => ?_)
        refine ok_iadd hc dX12_lossOf_98 ?_
        refine ok_lti (fun v22 => ?_)
        refine ok_istore [(12, .int v22), (11, .int v17), (10, .int v11), (0, rv Γ 0), (1, .int a1), (2, .int a2), (3, .int a3), (4, .int a4), (5, .int a5), (6, .int v3), (7, .int v6)] hc dX12_lossOf_99 (Nat.le_of_ble_eq_true rfl) rfl ?_
        refine ok_iconst (v := 1) hc dX12_lossOf_101 (by decide) ?_
        refine ok_iload 9 hc dX12_lossOf_102 rfl ?_
        refine ok_iload 9 hc dX12_lossOf_104 rfl ?_
        refine ok_imul hc dX12_lossOf_106 ?_
        refine ok_iadd hc dX12_lossOf_107 ?_
        refine ok_iload 10 hc dX12_lossOf_108 rfl ?_
        refine ok_iload 10 hc dX12_lossOf_110 rfl ?_
        refine ok_imul hc dX12_lossOf_112 ?_
        refine ok_iadd hc dX12_lossOf_113 ?_
        refine ok_lti (fun v23 => ?_)
        refine ok_istore [(13, .int v23), (12, .int v22), (11, .int v17), (10, .int v11), (0, rv Γ 0), (1, .int a1), (2, .int a2), (3, .int a3), (4, .int a4), (5, .int a5), (6, .int v3), (7, .int v6)] hc dX12_lossOf_114 (Nat.le_of_ble_eq_true rfl) rfl ?_
        refine ok_iconst (v := 1) hc dX12_lossOf_116 (by decide) ?_
        refine ok_istore [(14, .int 1), (13, .int v23), (12, .int v22), (11, .int v17), (10, .int v11), (0, rv Γ 0), (1, .int a1), (2, .int a2), (3, .int a3), (4, .int a4), (5, .int a5), (6, .int v3), (7, .int v6)] hc dX12_lossOf_117 (Nat.le_of_ble_eq_true rfl) rfl ?_
        refine ok_sub [5, 6, 10, 11, 12, 4, 3, 2, 1, 0] rfl ?_
        refine tX12_lossOf_L119 hc _ _ _ _ _ _ _   FU _ _ _
      · refine ok_icmp_le 72 hc dX12_lossOf_64 (by decide) (fun h24 => ?_) (fun h24 => ?_)
        · rw [if_pos h24]
          refine ok_iload 0 hc dX12_lossOf_72 rfl ?_
          refine ok_sub [1, 2, 3, 4, 5, 6, 7, 8] rfl ?_
          exact hk12 _
        · rw [if_neg h24]
          refine ok_iload 9 hc dX12_lossOf_67 rfl ?_
          refine ok_goto 74 hc dX12_lossOf_69 (by decide) ?_
          refine ok_sub [1, 2, 3, 4, 5, 6, 7, 8] rfl ?_
          exact hk12 _
    · refine ok_if_ge 56 hc dX12_lossOf_47 (by decide) (fun h25 => ?_) (fun h25 => ?_)
      · rw [if_pos h25]
        refine ok_iload 8 hc dX12_lossOf_56 rfl ?_
        refine ok_sub [1, 2, 3, 4, 5, 6, 7, 8, 0] rfl ?_
        exact hk10 _
      · rw [if_neg h25]
        refine ok_iload 8 hc dX12_lossOf_50 rfl ?_
        refine ok_ineg hc dX12_lossOf_52 ?_
        refine ok_goto 58 hc dX12_lossOf_53 (by decide) ?_
        refine ok_sub [1, 2, 3, 4, 5, 6, 7, 8, 0] rfl ?_
        exact hk10 _
  · refine ok_if_ge 41 hc dX12_lossOf_32 (by decide) (fun h26 => ?_) (fun h26 => ?_)
    · rw [if_pos h26]
      refine ok_iload 1 hc dX12_lossOf_41 rfl ?_
      refine ok_sub [2, 3, 4, 5, 6, 7, 1, 0] rfl ?_
      exact hk8 _
    · rw [if_neg h26]
      refine ok_iload 1 hc dX12_lossOf_35 rfl ?_
      refine ok_ineg hc dX12_lossOf_37 ?_
      refine ok_goto 43 hc dX12_lossOf_38 (by decide) ?_
      refine ok_sub [2, 3, 4, 5, 6, 7, 1, 0] rfl ?_
      exact hk8 _
def fX12_agrees_L6_st (a1 : Int32) (a2 : Int32) (a3 : Int32) (rec : Int32 → Int32 → St → Option (Int32 × St)) (a4 : Int32) (a5 : Int32) (S : St) : Option (Int32 × St) :=
  if (S.1 0 43) ≤ a5 then (if b01 a4 then some (a4, S) else none) else (if a4 = 0 then (if b01 a4 then some (a4, S) else none) else (if ib a5 8 then (jn (fun (v4 : Int32) (S5 : St) => rec v4 (a5 + 1) S5) (fun k6 => if (S.1 35 (nt a5)) = (-1) then (k6 a4 S) else (if ib a5 8 then (bnd (fX12_lossOf a1 0 (S.1 34 (nt a5)) 0 0 S) (fun v9 S10 => if ¬ v9.toInt64 = 0 then (lt ((100 * a2.toInt64) / v9.toInt64) (fun (v12 : Int64) => if ib a5 8 then (jn (fun (v14 : Int64) => if (a3.toInt64 * (v12 + 100)) < (100 * v14) then (k6 0 S10) else (k6 1 S10)) (fun k15 => if ((S10.1 35 (nt a5)).toInt64) ≤ v12 then (if ib a5 8 then (k15 (v12 - ((S10.1 35 (nt a5)).toInt64))) else none) else (if ib a5 8 then (k15 (((S10.1 35 (nt a5)).toInt64) - v12)) else none))) else none)) else none)) else none))) else none))
def fX12_agrees_L6 (a1 : Int32) (a2 : Int32) (a3 : Int32) : Nat → Int32 → Int32 → St → Option (Int32 × St)
  | 0 => fun _ _ _ => none
  | n + 1 => fun a4 a5 S => fX12_agrees_L6_st a1 a2 a3 (fX12_agrees_L6 a1 a2 a3 n) a4 a5 S
def fX12_agrees (a1 : Int32) (a2 : Int32) (a3 : Int32) (S : St) : Option (Int32 × St) :=
  fX12_agrees_L6 a1 a2 a3 FU 1 0 S
set_option maxRecDepth 100000 in
set_option maxHeartbeats 4000000 in
theorem tX12_agrees_L6 {Γ : Cx Int32} (hc : Cok Γ wM vI mX12_agrees) (a1 : Int32) (a2 : Int32) (a3 : Int32) : ∀ (n : Nat) (a4 : Int32) (a5 : Int32) (S : St), Ok Γ wM 6 [(0, rv Γ 0), (1, .int a1), (2, .int a2), (3, .int a3), (4, .int a4), (5, .int a5)] [] S (fX12_agrees_L6 a1 a2 a3 n a4 a5 S) := by
  intro n
  induction n with
  | zero =>
    intro a4 a5 S
    exact ok_none
  | succ n ih =>
    intro a4 a5 S
    show Ok Γ wM 6 [(0, rv Γ 0), (1, .int a1), (2, .int a2), (3, .int a3), (4, .int a4), (5, .int a5)] [] S (fX12_agrees_L6_st a1 a2 a3 (fX12_agrees_L6 a1 a2 a3 n) a4 a5 S)
    unfold fX12_agrees_L6_st
    refine ok_iload 5 hc dX12_agrees_6 rfl ?_
    refine ok_aload_n 0 hc dX12_agrees_8 rfl rfl ?_
    refine ok_geti hc FS_X12_179 rfl sM_0 dX12_agrees_9 ?_
    refine ok_icmp_ge_ite 129 hc dX12_agrees_12 (by decide) (fun h1 => ?_) (fun h1 => ?_)
    · refine ok_iload 4 hc dX12_agrees_129 rfl ?_
      exact ok_zret hc rfl dX12_agrees_131
    · refine ok_iload 4 hc dX12_agrees_15 rfl ?_
      refine ok_if_eq_ite 129 hc dX12_agrees_17 (by decide) (fun h2 => ?_) (fun h2 => ?_)
      · refine ok_iload 4 hc dX12_agrees_129 rfl ?_
        exact ok_zret hc rfl dX12_agrees_131
      · refine ok_aload_n 0 hc dX12_agrees_20 rfl rfl ?_
        refine ok_getr 35 hc FS_X12_121 rfl sM_0 rfl dX12_agrees_21 ?_
        refine ok_iload 5 hc dX12_agrees_24 rfl ?_
        refine ok_iald hc sM_35 dX12_agrees_26 (fun h3 => ?_)
        refine ok_iconst (v := (-1)) hc dX12_agrees_27 (by decide) ?_
        refine ok_jn (fun g => ∀ (v4 : Int32) (S5 : St), Ok Γ wM 123 [(0, rv Γ 0), (1, .int a1), (2, .int a2), (3, .int a3), (4, .int v4), (5, .int a5)] [] S5 (g v4 S5)) ?_ (fun k6 hk6 => ?_)
        · intro v4 S5
          refine ok_iinc (v := 1) 5 [(5, .int (a5 + 1)), (0, rv Γ 0), (1, .int a1), (2, .int a2), (3, .int a3), (4, .int v4)] hc dX12_agrees_123 rfl (by decide) (Nat.le_of_ble_eq_true rfl) rfl ?_
          refine ok_goto 6 hc dX12_agrees_126 (by decide) ?_
          refine ok_sub [1, 2, 3, 4, 5, 0] rfl ?_
          exact ih _ _ _
        · refine ok_icmp_eq_ite 123 hc dX12_agrees_28 (by decide) (fun h7 => ?_) (fun h7 => ?_)
          · exact hk6 _ _
          · refine ok_ldc2 hc dX12_agrees_31 W_1425 ?_
            refine ok_iload_n 2 hc dX12_agrees_34 rfl rfl ?_
            refine ok_i2l hc dX12_agrees_35 ?_
            refine ok_lmul hc dX12_agrees_36 ?_
            refine ok_aload_n 0 hc dX12_agrees_37 rfl rfl ?_
            refine ok_iload_n 1 hc dX12_agrees_38 rfl rfl ?_
            refine ok_iconst (v := 0) hc dX12_agrees_39 (by decide) ?_
            refine ok_aload_n 0 hc dX12_agrees_40 rfl rfl ?_
            refine ok_getr 34 hc FS_X12_118 rfl sM_0 rfl dX12_agrees_41 ?_
            refine ok_iload 5 hc dX12_agrees_44 rfl ?_
            refine ok_iald hc sM_34 dX12_agrees_46 (fun h8 => ?_)
            refine ok_iconst (v := 0) hc dX12_agrees_47 (by decide) ?_
            refine ok_iconst (v := 0) hc dX12_agrees_48 (by decide) ?_
            refine ok_callVi (As := [.int a1, .int 0, .int (S.1 34 (nt a5)), .int 0, .int 0]) (st := [.long (100 * a2.toInt64)]) (fun n0 => [.ref (n0 + 0), .int a1, .int 0, .int (S.1 34 (nt a5)), .int 0, .int 0]) hc VS_X12_220 sM_0 rfl rfl rfl ⟨Nat.le_of_ble_eq_true rfl, Nat.le_of_ble_eq_true rfl⟩ (Nat.le_of_ble_eq_true rfl) (fun q h => tX12_lossOf a1 0 (S.1 34 (nt a5)) 0 0 S q h) dX12_agrees_49 (fun v9 S10 => ?_)
            refine ok_i2l hc dX12_agrees_52 ?_
            refine ok_ldiv hc dX12_agrees_53 (fun h11 => ?_)
            refine ok_ltl (fun v12 => ?_)
            refine ok_lstore [(6, .long v12), (0, rv Γ 0), (1, .int a1), (2, .int a2), (3, .int a3), (4, .int a4), (5, .int a5)] hc dX12_agrees_54 (Nat.le_of_ble_eq_true rfl) rfl ?_
            refine ok_aload_n 1 hc dX12_agrees_56 rfl rfl ?_
            refine ok_getr 35 hc FS_X12_121 rfl sM_0 rfl dX12_agrees_57 ?_
            refine ok_iload 6 hc dX12_agrees_60 rfl ?_
            refine ok_iald hc sM_35 dX12_agrees_62 (fun h13 => ?_)
            refine ok_i2l hc dX12_agrees_63 ?_
            refine ok_lload 0 hc dX12_agrees_64 rfl ?_
            refine ok_jn (fun g => ∀ (v14 : Int64), Ok Γ wM 95 [(0, rv Γ 0), (1, .int a1), (2, .int a2), (3, .int a3), (5, .int a5), (6, .long v12)] [.long v14] S10 (g v14)) ?_ (fun k15 hk15 => ?_)
            · intro v14
              refine ok_lstore [(8, .long v14), (0, rv Γ 0), (1, .int a1), (2, .int a2), (3, .int a3), (5, .int a5), (6, .long v12)] hc dX12_agrees_95 (Nat.le_of_ble_eq_true rfl) rfl ?_
              refine ok_ldc2 hc dX12_agrees_97 W_1425 ?_
              refine ok_lload 0 hc dX12_agrees_100 rfl ?_
              refine ok_lmul hc dX12_agrees_102 ?_
              refine ok_iload_n 4 hc dX12_agrees_103 rfl rfl ?_
              refine ok_i2l hc dX12_agrees_104 ?_
              refine ok_lload 6 hc dX12_agrees_105 rfl ?_
              refine ok_ldc2 hc dX12_agrees_107 W_1425 ?_
              refine ok_ladd hc dX12_agrees_110 ?_
              refine ok_lmul hc dX12_agrees_111 ?_
              refine ok_lcmp_gt_ite 120 hc dX12_agrees_112 dX12_agrees_113 (by decide) (fun h16 => ?_) (fun h16 => ?_)
              · refine ok_iconst (v := 0) hc dX12_agrees_120 (by decide) ?_
                refine ok_istore [(4, .int 0), (8, .long v14), (0, rv Γ 0), (1, .int a1), (2, .int a2), (3, .int a3), (5, .int a5), (6, .long v12)] hc dX12_agrees_121 (Nat.le_of_ble_eq_true rfl) rfl ?_
                refine ok_sub [2, 3, 4, 5, 0, 6] rfl ?_
                exact hk6 _ _
              · refine ok_iconst (v := 1) hc dX12_agrees_116 (by decide) ?_
                refine ok_goto 121 hc dX12_agrees_117 (by decide) ?_
                refine ok_istore [(4, .int 1), (8, .long v14), (0, rv Γ 0), (1, .int a1), (2, .int a2), (3, .int a3), (5, .int a5), (6, .long v12)] hc dX12_agrees_121 (Nat.le_of_ble_eq_true rfl) rfl ?_
                refine ok_sub [2, 3, 4, 5, 0, 6] rfl ?_
                exact hk6 _ _
            · refine ok_lcmp_le_ite 84 hc dX12_agrees_66 dX12_agrees_67 (by decide) (fun h17 => ?_) (fun h17 => ?_)
              · refine ok_lload 0 hc dX12_agrees_84 rfl ?_
                refine ok_aload_n 1 hc dX12_agrees_86 rfl rfl ?_
                refine ok_getr 35 hc FS_X12_121 rfl sM_0 rfl dX12_agrees_87 ?_
                refine ok_iload 6 hc dX12_agrees_90 rfl ?_
                refine ok_iald hc sM_35 dX12_agrees_92 (fun h18 => ?_)
                refine ok_i2l hc dX12_agrees_93 ?_
                refine ok_lsub hc dX12_agrees_94 ?_
                refine ok_sub [1, 2, 3, 4, 6, 0] rfl ?_
                exact hk15 _
              · refine ok_aload_n 1 hc dX12_agrees_70 rfl rfl ?_
                refine ok_getr 35 hc FS_X12_121 rfl sM_0 rfl dX12_agrees_71 ?_
                refine ok_iload 6 hc dX12_agrees_74 rfl ?_
                refine ok_iald hc sM_35 dX12_agrees_76 (fun h19 => ?_)
                refine ok_i2l hc dX12_agrees_77 ?_
                refine ok_lload 0 hc dX12_agrees_78 rfl ?_
                refine ok_lsub hc dX12_agrees_80 ?_
                refine ok_goto 95 hc dX12_agrees_81 (by decide) ?_
                refine ok_sub [1, 2, 3, 4, 6, 0] rfl ?_
                exact hk15 _
set_option maxRecDepth 100000 in
set_option maxHeartbeats 4000000 in
theorem tX12_agrees (a1 : Int32) (a2 : Int32) (a3 : Int32) (S : St) (q : Int32 × St) (h : fX12_agrees a1 a2 a3 S = some q) : MT vI wM mX12_agrees (fun n0 => [.ref (n0 + 0), .int a1, .int a2, .int a3]) S q := by
  refine mt_of (show plainFor yX12_agrees = true from by decide) (fun _ => Nat.le_of_ble_eq_true rfl) ?_
  intro Γ hc _
  rw [← h]
  show Ok Γ wM 0 [(0, rv Γ 0), (1, .int a1), (2, .int a2), (3, .int a3)] [] S _
  unfold fX12_agrees
  refine ok_iconst (v := 1) hc dX12_agrees_0 (by decide) ?_
  refine ok_istore [(4, .int 1), (0, rv Γ 0), (1, .int a1), (2, .int a2), (3, .int a3)] hc dX12_agrees_1 (Nat.le_of_ble_eq_true rfl) rfl ?_
  refine ok_iconst (v := 0) hc dX12_agrees_3 (by decide) ?_
  refine ok_istore [(5, .int 0), (4, .int 1), (0, rv Γ 0), (1, .int a1), (2, .int a2), (3, .int a3)] hc dX12_agrees_4 (Nat.le_of_ble_eq_true rfl) rfl ?_
  refine ok_sub [2, 3, 4, 5, 1, 0] rfl ?_
  refine tX12_agrees_L6 hc _ _ _   FU _ _ _
def fX12_areHops (a0 : Int32) (a1 : Int32) (a2 : Int32) (S : St) : Option (Int32 × St) :=
  lt (if a0 = 2 then 1 else (if a0 = 3 then 1 else (if a0 = 5 then 1 else (if a0 = 7 then 1 else (if a0 = 11 then 1 else 0))))) (fun (v1 : Int32) => if v1 = 0 then (some (0, S)) else (bnd (fX12_in a1.toInt64 1 ((a0 - 1).toInt64) S) (fun v4 S5 => if v4 = 0 then (some (0, S5)) else (bnd (fX12_in a2.toInt64 1 ((a0 - 1).toInt64) S5) (fun v7 S8 => if v7 = 0 then (some (0, S8)) else (some (1, S8)))))))
set_option maxRecDepth 100000 in
set_option maxHeartbeats 4000000 in
theorem tX12_areHops (a0 : Int32) (a1 : Int32) (a2 : Int32) (S : St) (q : Int32 × St) (h : fX12_areHops a0 a1 a2 S = some q) : MT vI wM mX12_areHops (fun n0 => [.int a0, .int a1, .int a2]) S q := by
  refine mt_of (show plainFor yX12_areHops = true from by decide) (fun _ => Nat.le_of_ble_eq_true rfl) ?_
  intro Γ hc _
  rw [← h]
  show Ok Γ wM 0 [(0, .int a0), (1, .int a1), (2, .int a2)] [] S _
  unfold fX12_areHops
  refine ok_iload_n 0 hc dX12_areHops_0 rfl rfl ?_
  refine ok_iconst (v := 2) hc dX12_areHops_1 (by decide) ?_
  refine ok_lt (fun g => ∀ (v1 : Int32), Ok Γ wM 32 [(0, .int a0), (1, .int a1), (2, .int a2)] [.int v1] S (g v1)) ?_ (fun k2 hk2 => ?_)
  · intro v1
    refine ok_istore_n [(3, .int v1), (0, .int a0), (1, .int a1), (2, .int a2)] hc dX12_areHops_32 rfl (Nat.le_of_ble_eq_true rfl) rfl ?_
    refine ok_iload_n 0 hc dX12_areHops_33 rfl rfl ?_
    refine ok_if_eq_ite 67 hc dX12_areHops_34 (by decide) (fun h3 => ?_) (fun h3 => ?_)
    · refine ok_iconst (v := 0) hc dX12_areHops_67 (by decide) ?_
      exact ok_zretK hc rfl (by decide) dX12_areHops_68
    · refine ok_iload_n 2 hc dX12_areHops_37 rfl rfl ?_
      refine ok_i2l hc dX12_areHops_38 ?_
      refine ok_lconst (v := 1) hc dX12_areHops_39 (by decide) ?_
      refine ok_iload_n 1 hc dX12_areHops_40 rfl rfl ?_
      refine ok_iconst (v := 1) hc dX12_areHops_41 (by decide) ?_
      refine ok_isub hc dX12_areHops_42 ?_
      refine ok_i2l hc dX12_areHops_43 ?_
      refine ok_callSi (As := [.long a1.toInt64, .long 1, .long ((a0 - 1).toInt64)]) (st := []) (fun n0 => [.long a1.toInt64, .long 1, .long ((a0 - 1).toInt64)]) hc SS_X12_152 rfl rfl rfl ⟨Nat.le_of_ble_eq_true rfl, Nat.le_of_ble_eq_true rfl⟩ (Nat.le_of_ble_eq_true rfl) (fun q h => tX12_in a1.toInt64 1 ((a0 - 1).toInt64) S q h) dX12_areHops_44 (fun v4 S5 => ?_)
      refine ok_if_eq_ite 67 hc dX12_areHops_47 (by decide) (fun h6 => ?_) (fun h6 => ?_)
      · refine ok_iconst (v := 0) hc dX12_areHops_67 (by decide) ?_
        exact ok_zretK hc rfl (by decide) dX12_areHops_68
      · refine ok_iload_n 3 hc dX12_areHops_50 rfl rfl ?_
        refine ok_i2l hc dX12_areHops_51 ?_
        refine ok_lconst (v := 1) hc dX12_areHops_52 (by decide) ?_
        refine ok_iload_n 1 hc dX12_areHops_53 rfl rfl ?_
        refine ok_iconst (v := 1) hc dX12_areHops_54 (by decide) ?_
        refine ok_isub hc dX12_areHops_55 ?_
        refine ok_i2l hc dX12_areHops_56 ?_
        refine ok_callSi (As := [.long a2.toInt64, .long 1, .long ((a0 - 1).toInt64)]) (st := []) (fun n0 => [.long a2.toInt64, .long 1, .long ((a0 - 1).toInt64)]) hc SS_X12_152 rfl rfl rfl ⟨Nat.le_of_ble_eq_true rfl, Nat.le_of_ble_eq_true rfl⟩ (Nat.le_of_ble_eq_true rfl) (fun q h => tX12_in a2.toInt64 1 ((a0 - 1).toInt64) S5 q h) dX12_areHops_57 (fun v7 S8 => ?_)
        refine ok_if_eq_ite 67 hc dX12_areHops_60 (by decide) (fun h9 => ?_) (fun h9 => ?_)
        · refine ok_iconst (v := 0) hc dX12_areHops_67 (by decide) ?_
          exact ok_zretK hc rfl (by decide) dX12_areHops_68
        · refine ok_iconst (v := 1) hc dX12_areHops_63 (by decide) ?_
          refine ok_goto 68 hc dX12_areHops_64 (by decide) ?_
          exact ok_zretK hc rfl (by decide) dX12_areHops_68
  · refine ok_icmp_eq 27 hc dX12_areHops_2 (by decide) (fun h10 => ?_) (fun h10 => ?_)
    · rw [if_pos h10]
      refine ok_iconst (v := 1) hc dX12_areHops_27 (by decide) ?_
      refine ok_goto 32 hc dX12_areHops_28 (by decide) ?_
      exact hk2 _
    · rw [if_neg h10]
      refine ok_iload_n 0 hc dX12_areHops_5 rfl rfl ?_
      refine ok_iconst (v := 3) hc dX12_areHops_6 (by decide) ?_
      refine ok_icmp_eq 27 hc dX12_areHops_7 (by decide) (fun h11 => ?_) (fun h11 => ?_)
      · rw [if_pos h11]
        refine ok_iconst (v := 1) hc dX12_areHops_27 (by decide) ?_
        refine ok_goto 32 hc dX12_areHops_28 (by decide) ?_
        exact hk2 _
      · rw [if_neg h11]
        refine ok_iload_n 0 hc dX12_areHops_10 rfl rfl ?_
        refine ok_iconst (v := 5) hc dX12_areHops_11 (by decide) ?_
        refine ok_icmp_eq 27 hc dX12_areHops_12 (by decide) (fun h12 => ?_) (fun h12 => ?_)
        · rw [if_pos h12]
          refine ok_iconst (v := 1) hc dX12_areHops_27 (by decide) ?_
          refine ok_goto 32 hc dX12_areHops_28 (by decide) ?_
          exact hk2 _
        · rw [if_neg h12]
          refine ok_iload_n 0 hc dX12_areHops_15 rfl rfl ?_
          refine ok_bipush (v := 7) hc dX12_areHops_16 (by decide) ?_
          refine ok_icmp_eq 27 hc dX12_areHops_18 (by decide) (fun h13 => ?_) (fun h13 => ?_)
          · rw [if_pos h13]
            refine ok_iconst (v := 1) hc dX12_areHops_27 (by decide) ?_
            refine ok_goto 32 hc dX12_areHops_28 (by decide) ?_
            exact hk2 _
          · rw [if_neg h13]
            refine ok_iload_n 0 hc dX12_areHops_21 rfl rfl ?_
            refine ok_bipush (v := 11) hc dX12_areHops_22 (by decide) ?_
            refine ok_icmp_ne 31 hc dX12_areHops_24 (by decide) (fun h14 => ?_) (fun h14 => ?_)
            · rw [if_neg h14]
              refine ok_iconst (v := 0) hc dX12_areHops_31 (by decide) ?_
              exact hk2 _
            · rw [if_pos h14]
              refine ok_iconst (v := 1) hc dX12_areHops_27 (by decide) ?_
              refine ok_goto 32 hc dX12_areHops_28 (by decide) ?_
              exact hk2 _
def fX12_ones_L4_st (rec : Int32 → Int32 → St → Option (Int32 × St)) (a1 : Int32) (a2 : Int32) (S : St) : Option (Int32 × St) :=
  if a2 = 0 then (some (a1, S)) else (lt (a2 &&& (a2 - 1)) (fun (v2 : Int32) => rec (a1 + 1) v2 S))
def fX12_ones_L4 : Nat → Int32 → Int32 → St → Option (Int32 × St)
  | 0 => fun _ _ _ => none
  | n + 1 => fun a1 a2 S => fX12_ones_L4_st (fX12_ones_L4 n) a1 a2 S
def fX12_ones (a0 : Int32) (S : St) : Option (Int32 × St) :=
  fX12_ones_L4 FU 0 a0 S
set_option maxRecDepth 100000 in
set_option maxHeartbeats 4000000 in
theorem tX12_ones_L4 {Γ : Cx Int32} (hc : Cok Γ wM vI mX12_ones) : ∀ (n : Nat) (a1 : Int32) (a2 : Int32) (S : St), Ok Γ wM 4 [(1, .int a1), (2, .int a2)] [] S (fX12_ones_L4 n a1 a2 S) := by
  intro n
  induction n with
  | zero =>
    intro a1 a2 S
    exact ok_none
  | succ n ih =>
    intro a1 a2 S
    show Ok Γ wM 4 [(1, .int a1), (2, .int a2)] [] S (fX12_ones_L4_st (fX12_ones_L4 n) a1 a2 S)
    unfold fX12_ones_L4_st
    refine ok_iload_n 1 hc dX12_ones_4 rfl rfl ?_
    refine ok_if_eq_ite 20 hc dX12_ones_5 (by decide) (fun h1 => ?_) (fun h1 => ?_)
    · refine ok_iload_n 0 hc dX12_ones_20 rfl rfl ?_
      exact ok_iret hc rfl dX12_ones_21
    · refine ok_iinc (v := 1) 0 [(1, .int (a1 + 1)), (2, .int a2)] hc dX12_ones_8 rfl (by decide) (Nat.le_of_ble_eq_true rfl) rfl ?_
      refine ok_iload_n 1 hc dX12_ones_11 rfl rfl ?_
      refine ok_iload_n 1 hc dX12_ones_12 rfl rfl ?_
      refine ok_iconst (v := 1) hc dX12_ones_13 (by decide) ?_
      refine ok_isub hc dX12_ones_14 ?_
      refine ok_iand hc dX12_ones_15 ?_
      refine ok_lti (fun v2 => ?_)
      refine ok_istore_n [(2, .int v2), (1, .int (a1 + 1))] hc dX12_ones_16 rfl (Nat.le_of_ble_eq_true rfl) rfl ?_
      refine ok_goto 4 hc dX12_ones_17 (by decide) ?_
      refine ok_sub [1, 0] rfl ?_
      exact ih _ _ _
set_option maxRecDepth 100000 in
set_option maxHeartbeats 4000000 in
theorem tX12_ones (a0 : Int32) (S : St) (q : Int32 × St) (h : fX12_ones a0 S = some q) : MT vI wM mX12_ones (fun n0 => [.int a0]) S q := by
  refine mt_of (show plainFor yX12_ones = true from by decide) (fun _ => Nat.le_of_ble_eq_true rfl) ?_
  intro Γ hc _
  rw [← h]
  show Ok Γ wM 0 [(0, .int a0)] [] S _
  unfold fX12_ones
  refine ok_iconst (v := 0) hc dX12_ones_0 (by decide) ?_
  refine ok_istore_n [(1, .int 0), (0, .int a0)] hc dX12_ones_1 rfl (Nat.le_of_ble_eq_true rfl) rfl ?_
  refine ok_iload_n 1 hc dX12_ones_2 rfl rfl ?_
  refine ok_istore_n [(2, .int a0), (1, .int 0), (0, .int a0)] hc dX12_ones_3 rfl (Nat.le_of_ble_eq_true rfl) rfl ?_
  refine ok_sub [1, 0] rfl ?_
  refine tX12_ones_L4 hc    FU _ _ _
def fX12_takesSet_L32_st (a1 : Int32) (rec : Int32 → St → Option (Int32 × St)) (a2 : Int32) (S : St) : Option (Int32 × St) :=
  if (S.1 0 9) ≤ a2 then (some (1, S)) else (jn (fun (S2 : St) => rec (a2 + 1) S2) (fun k3 => if ((a1 >>> (a2 &&& 31)) &&& 1) = 1 then (if ib (S.1 0 22) 8 then lt (wi S 17 (nt (S.1 0 22)) a2) (fun S5 => lt (wi S5 0 22 ((S5.1 0 22) + 1)) (fun S7 => k3 S7)) else none) else (k3 S)))
def fX12_takesSet_L32 (a1 : Int32) : Nat → Int32 → St → Option (Int32 × St)
  | 0 => fun _ _ => none
  | n + 1 => fun a2 S => fX12_takesSet_L32_st a1 (fX12_takesSet_L32 a1 n) a2 S
def fX12_takesSet (a1 : Int32) (S : St) : Option (Int32 × St) :=
  if a1 ≤ 0 then (some (0, S)) else (if (1 <<< ((S.1 0 9) &&& 31)) ≤ a1 then (some (0, S)) else (bnd (fX12_ones a1 S) (fun v3 S4 => if v3 ≤ 8 then (lt (wi S4 0 22 0) (fun S6 => fX12_takesSet_L32 a1 FU 0 S6)) else (some (0, S4)))))
set_option maxRecDepth 100000 in
set_option maxHeartbeats 4000000 in
theorem tX12_takesSet_L32 {Γ : Cx Int32} (hc : Cok Γ wM vI mX12_takesSet) (a1 : Int32) : ∀ (n : Nat) (a2 : Int32) (S : St), Ok Γ wM 32 [(0, rv Γ 0), (1, .int a1), (2, .int a2)] [] S (fX12_takesSet_L32 a1 n a2 S) := by
  intro n
  induction n with
  | zero =>
    intro a2 S
    exact ok_none
  | succ n ih =>
    intro a2 S
    show Ok Γ wM 32 [(0, rv Γ 0), (1, .int a1), (2, .int a2)] [] S (fX12_takesSet_L32_st a1 (fX12_takesSet_L32 a1 n) a2 S)
    unfold fX12_takesSet_L32_st
    refine ok_iload_n 2 hc dX12_takesSet_32 rfl rfl ?_
    refine ok_aload_n 0 hc dX12_takesSet_33 rfl rfl ?_
    refine ok_geti hc FS_X12_176 rfl sM_0 dX12_takesSet_34 ?_
    refine ok_icmp_ge_ite 75 hc dX12_takesSet_37 (by decide) (fun h1 => ?_) (fun h1 => ?_)
    · refine ok_iconst (v := 1) hc dX12_takesSet_75 (by decide) ?_
      exact ok_zretK hc rfl (by decide) dX12_takesSet_76
    · refine ok_iload_n 1 hc dX12_takesSet_40 rfl rfl ?_
      refine ok_iload_n 2 hc dX12_takesSet_41 rfl rfl ?_
      refine ok_ishr hc dX12_takesSet_42 ?_
      refine ok_iconst (v := 1) hc dX12_takesSet_43 (by decide) ?_
      refine ok_iand hc dX12_takesSet_44 ?_
      refine ok_iconst (v := 1) hc dX12_takesSet_45 (by decide) ?_
      refine ok_jn (fun g => ∀ (S2 : St), Ok Γ wM 69 [(0, rv Γ 0), (1, .int a1), (2, .int a2)] [] S2 (g S2)) ?_ (fun k3 hk3 => ?_)
      · intro S2
        refine ok_iinc (v := 1) 2 [(2, .int (a2 + 1)), (0, rv Γ 0), (1, .int a1)] hc dX12_takesSet_69 rfl (by decide) (Nat.le_of_ble_eq_true rfl) rfl ?_
        refine ok_goto 32 hc dX12_takesSet_72 (by decide) ?_
        refine ok_sub [1, 2, 0] rfl ?_
        exact ih _ _
      · refine ok_icmp_ne_ite 69 hc dX12_takesSet_46 (by decide) (fun h4 => ?_) (fun h4 => ?_)
        · exact hk3 _
        · refine ok_aload_n 0 hc dX12_takesSet_49 rfl rfl ?_
          refine ok_getr 17 hc FS_X12_67 rfl sM_0 rfl dX12_takesSet_50 ?_
          refine ok_aload_n 0 hc dX12_takesSet_53 rfl rfl ?_
          refine ok_geti hc FS_X12_277 rfl sM_0 dX12_takesSet_54 ?_
          refine ok_iload_n 2 hc dX12_takesSet_57 rfl rfl ?_
          refine ok_iast hc sM_17 dX12_takesSet_58 (fun h6 => ?_)
          refine ok_ltS (fun S5 => ?_)
          refine ok_aload_n 0 hc dX12_takesSet_59 rfl rfl ?_
          refine ok_dup hc dX12_takesSet_60 rfl ?_
          refine ok_geti hc FS_X12_277 rfl sM_0 dX12_takesSet_61 ?_
          refine ok_iconst (v := 1) hc dX12_takesSet_64 (by decide) ?_
          refine ok_iadd hc dX12_takesSet_65 ?_
          refine ok_puti hc FP_X12_277 rfl sM_0 dX12_takesSet_66 ?_
          refine ok_ltS (fun S7 => ?_)
          exact hk3 _
set_option maxRecDepth 100000 in
set_option maxHeartbeats 4000000 in
theorem tX12_takesSet (a1 : Int32) (S : St) (q : Int32 × St) (h : fX12_takesSet a1 S = some q) : MT vI wM mX12_takesSet (fun n0 => [.ref (n0 + 0), .int a1]) S q := by
  refine mt_of (show plainFor yX12_takesSet = true from by decide) (fun _ => Nat.le_of_ble_eq_true rfl) ?_
  intro Γ hc _
  rw [← h]
  show Ok Γ wM 0 [(0, rv Γ 0), (1, .int a1)] [] S _
  unfold fX12_takesSet
  refine ok_iload_n 1 hc dX12_takesSet_0 rfl rfl ?_
  refine ok_if_le_ite 23 hc dX12_takesSet_1 (by decide) (fun h1 => ?_) (fun h1 => ?_)
  · refine ok_iconst (v := 0) hc dX12_takesSet_23 (by decide) ?_
    exact ok_zretK hc rfl (by decide) dX12_takesSet_24
  · refine ok_iload_n 1 hc dX12_takesSet_4 rfl rfl ?_
    refine ok_iconst (v := 1) hc dX12_takesSet_5 (by decide) ?_
    refine ok_aload_n 0 hc dX12_takesSet_6 rfl rfl ?_
    refine ok_geti hc FS_X12_176 rfl sM_0 dX12_takesSet_7 ?_
    refine ok_ishl hc dX12_takesSet_10 ?_
    refine ok_icmp_ge_ite 23 hc dX12_takesSet_11 (by decide) (fun h2 => ?_) (fun h2 => ?_)
    · refine ok_iconst (v := 0) hc dX12_takesSet_23 (by decide) ?_
      exact ok_zretK hc rfl (by decide) dX12_takesSet_24
    · refine ok_iload_n 1 hc dX12_takesSet_14 rfl rfl ?_
      refine ok_callSi (As := [.int a1]) (st := []) (fun n0 => [.int a1]) hc SS_X12_274 rfl rfl rfl ⟨Nat.le_of_ble_eq_true rfl, Nat.le_of_ble_eq_true rfl⟩ (Nat.le_of_ble_eq_true rfl) (fun q h => tX12_ones a1 S q h) dX12_takesSet_15 (fun v3 S4 => ?_)
      refine ok_bipush (v := 8) hc dX12_takesSet_18 (by decide) ?_
      refine ok_icmp_le_ite 25 hc dX12_takesSet_20 (by decide) (fun h5 => ?_) (fun h5 => ?_)
      · refine ok_aload_n 0 hc dX12_takesSet_25 rfl rfl ?_
        refine ok_iconst (v := 0) hc dX12_takesSet_26 (by decide) ?_
        refine ok_puti hc FP_X12_277 rfl sM_0 dX12_takesSet_27 ?_
        refine ok_ltS (fun S6 => ?_)
        refine ok_iconst (v := 0) hc dX12_takesSet_30 (by decide) ?_
        refine ok_istore_n [(2, .int 0), (0, rv Γ 0), (1, .int a1)] hc dX12_takesSet_31 rfl (Nat.le_of_ble_eq_true rfl) rfl ?_
        refine ok_sub [1, 2, 0] rfl ?_
        refine tX12_takesSet_L32 hc _   FU _ _
      · refine ok_iconst (v := 0) hc dX12_takesSet_23 (by decide) ?_
        exact ok_zretK hc rfl (by decide) dX12_takesSet_24
def fX12_wholeBits_L4_st (a1 : Int32) (rec : Int32 → Int32 → St → Option (Int32 × St)) (a2 : Int32) (a3 : Int32) (S : St) : Option (Int32 × St) :=
  if (S.1 0 22) ≤ a3 then (some (a2, S)) else (jn (fun (v2 : Int32) => lt (a2 ||| v2) (fun (v4 : Int32) => rec v4 (a3 + 1) S)) (fun k3 => if ((a1 >>> (a3 &&& 31)) &&& 1) = 1 then (if ib a3 8 then (k3 (1 <<< ((S.1 17 (nt a3)) &&& 31))) else none) else (k3 0)))
def fX12_wholeBits_L4 (a1 : Int32) : Nat → Int32 → Int32 → St → Option (Int32 × St)
  | 0 => fun _ _ _ => none
  | n + 1 => fun a2 a3 S => fX12_wholeBits_L4_st a1 (fX12_wholeBits_L4 a1 n) a2 a3 S
def fX12_wholeBits (a1 : Int32) (S : St) : Option (Int32 × St) :=
  fX12_wholeBits_L4 a1 FU 0 0 S
set_option maxRecDepth 100000 in
set_option maxHeartbeats 4000000 in
theorem tX12_wholeBits_L4 {Γ : Cx Int32} (hc : Cok Γ wM vI mX12_wholeBits) (a1 : Int32) : ∀ (n : Nat) (a2 : Int32) (a3 : Int32) (S : St), Ok Γ wM 4 [(0, rv Γ 0), (1, .int a1), (2, .int a2), (3, .int a3)] [] S (fX12_wholeBits_L4 a1 n a2 a3 S) := by
  intro n
  induction n with
  | zero =>
    intro a2 a3 S
    exact ok_none
  | succ n ih =>
    intro a2 a3 S
    show Ok Γ wM 4 [(0, rv Γ 0), (1, .int a1), (2, .int a2), (3, .int a3)] [] S (fX12_wholeBits_L4_st a1 (fX12_wholeBits_L4 a1 n) a2 a3 S)
    unfold fX12_wholeBits_L4_st
    refine ok_iload_n 3 hc dX12_wholeBits_4 rfl rfl ?_
    refine ok_aload_n 0 hc dX12_wholeBits_5 rfl rfl ?_
    refine ok_geti hc FS_X12_277 rfl sM_0 dX12_wholeBits_6 ?_
    refine ok_icmp_ge_ite 42 hc dX12_wholeBits_9 (by decide) (fun h1 => ?_) (fun h1 => ?_)
    · refine ok_iload_n 2 hc dX12_wholeBits_42 rfl rfl ?_
      exact ok_iret hc rfl dX12_wholeBits_43
    · refine ok_iload_n 2 hc dX12_wholeBits_12 rfl rfl ?_
      refine ok_iload_n 1 hc dX12_wholeBits_13 rfl rfl ?_
      refine ok_iload_n 3 hc dX12_wholeBits_14 rfl rfl ?_
      refine ok_ishr hc dX12_wholeBits_15 ?_
      refine ok_iconst (v := 1) hc dX12_wholeBits_16 (by decide) ?_
      refine ok_iand hc dX12_wholeBits_17 ?_
      refine ok_iconst (v := 1) hc dX12_wholeBits_18 (by decide) ?_
      refine ok_jn (fun g => ∀ (v2 : Int32), Ok Γ wM 34 [(0, rv Γ 0), (1, .int a1), (3, .int a3)] [.int v2, .int a2] S (g v2)) ?_ (fun k3 hk3 => ?_)
      · intro v2
        refine ok_ior hc dX12_wholeBits_34 ?_
        refine ok_lti (fun v4 => ?_)
        refine ok_istore_n [(2, .int v4), (0, rv Γ 0), (1, .int a1), (3, .int a3)] hc dX12_wholeBits_35 rfl (Nat.le_of_ble_eq_true rfl) rfl ?_
        refine ok_iinc (v := 1) 3 [(3, .int (a3 + 1)), (2, .int v4), (0, rv Γ 0), (1, .int a1)] hc dX12_wholeBits_36 rfl (by decide) (Nat.le_of_ble_eq_true rfl) rfl ?_
        refine ok_goto 4 hc dX12_wholeBits_39 (by decide) ?_
        refine ok_sub [2, 3, 1, 0] rfl ?_
        exact ih _ _ _
      · refine ok_icmp_ne_ite 33 hc dX12_wholeBits_19 (by decide) (fun h5 => ?_) (fun h5 => ?_)
        · refine ok_iconst (v := 0) hc dX12_wholeBits_33 (by decide) ?_
          refine ok_sub [0, 1, 3] rfl ?_
          exact hk3 _
        · refine ok_iconst (v := 1) hc dX12_wholeBits_22 (by decide) ?_
          refine ok_aload_n 0 hc dX12_wholeBits_23 rfl rfl ?_
          refine ok_getr 17 hc FS_X12_67 rfl sM_0 rfl dX12_wholeBits_24 ?_
          refine ok_iload_n 3 hc dX12_wholeBits_27 rfl rfl ?_
          refine ok_iald hc sM_17 dX12_wholeBits_28 (fun h6 => ?_)
          refine ok_ishl hc dX12_wholeBits_29 ?_
          refine ok_goto 34 hc dX12_wholeBits_30 (by decide) ?_
          refine ok_sub [0, 1, 3] rfl ?_
          exact hk3 _
set_option maxRecDepth 100000 in
set_option maxHeartbeats 4000000 in
theorem tX12_wholeBits (a1 : Int32) (S : St) (q : Int32 × St) (h : fX12_wholeBits a1 S = some q) : MT vI wM mX12_wholeBits (fun n0 => [.ref (n0 + 0), .int a1]) S q := by
  refine mt_of (show plainFor yX12_wholeBits = true from by decide) (fun _ => Nat.le_of_ble_eq_true rfl) ?_
  intro Γ hc _
  rw [← h]
  show Ok Γ wM 0 [(0, rv Γ 0), (1, .int a1)] [] S _
  unfold fX12_wholeBits
  refine ok_iconst (v := 0) hc dX12_wholeBits_0 (by decide) ?_
  refine ok_istore_n [(2, .int 0), (0, rv Γ 0), (1, .int a1)] hc dX12_wholeBits_1 rfl (Nat.le_of_ble_eq_true rfl) rfl ?_
  refine ok_iconst (v := 0) hc dX12_wholeBits_2 (by decide) ?_
  refine ok_istore_n [(3, .int 0), (2, .int 0), (0, rv Γ 0), (1, .int a1)] hc dX12_wholeBits_3 rfl (Nat.le_of_ble_eq_true rfl) rfl ?_
  refine ok_sub [2, 3, 1, 0] rfl ?_
  refine tX12_wholeBits_L4 hc _   FU _ _ _
def fX12_gotOf (a1 : Int32) (a2 : Int32) (a3 : Int32) (S : St) : Option (Int32 × St) :=
  if ib a1 20 then (bnd (fX12_cellNow a1 S) (fun v2 S3 => if ib a1 20 then (bnd (fX12_lossOf v2 (S3.1 9 (nt a1)) a2 0 a3 S3) (fun v5 S6 => if ¬ v5 = 0 then (some ((100 * (S.1 8 (nt a1))) / v5, S6)) else none)) else none)) else none
set_option maxRecDepth 100000 in
set_option maxHeartbeats 4000000 in
theorem tX12_gotOf (a1 : Int32) (a2 : Int32) (a3 : Int32) (S : St) (q : Int32 × St) (h : fX12_gotOf a1 a2 a3 S = some q) : MT vI wM mX12_gotOf (fun n0 => [.ref (n0 + 0), .int a1, .int a2, .int a3]) S q := by
  refine mt_of (show plainFor yX12_gotOf = true from by decide) (fun _ => Nat.le_of_ble_eq_true rfl) ?_
  intro Γ hc _
  rw [← h]
  show Ok Γ wM 0 [(0, rv Γ 0), (1, .int a1), (2, .int a2), (3, .int a3)] [] S _
  unfold fX12_gotOf
  refine ok_bipush (v := 100) hc dX12_gotOf_0 (by decide) ?_
  refine ok_aload_n 0 hc dX12_gotOf_2 rfl rfl ?_
  refine ok_getr 8 hc FS_X12_39 rfl sM_0 rfl dX12_gotOf_3 ?_
  refine ok_iload_n 1 hc dX12_gotOf_6 rfl rfl ?_
  refine ok_iald hc sM_8 dX12_gotOf_7 (fun h1 => ?_)
  refine ok_imul hc dX12_gotOf_8 ?_
  refine ok_aload_n 0 hc dX12_gotOf_9 rfl rfl ?_
  refine ok_aload_n 0 hc dX12_gotOf_10 rfl rfl ?_
  refine ok_iload_n 1 hc dX12_gotOf_11 rfl rfl ?_
  refine ok_callVi (As := [.int a1]) (st := [rv Γ 0, .int (100 * (S.1 8 (nt a1)))]) (fun n0 => [.ref (n0 + 0), .int a1]) hc VS_X12_241 sM_0 rfl rfl rfl ⟨Nat.le_of_ble_eq_true rfl, Nat.le_of_ble_eq_true rfl⟩ (Nat.le_of_ble_eq_true rfl) (fun q h => tX12_cellNow a1 S q h) dX12_gotOf_12 (fun v2 S3 => ?_)
  refine ok_aload_n 0 hc dX12_gotOf_15 rfl rfl ?_
  refine ok_getr 9 hc FS_X12_42 rfl sM_0 rfl dX12_gotOf_16 ?_
  refine ok_iload_n 1 hc dX12_gotOf_19 rfl rfl ?_
  refine ok_iald hc sM_9 dX12_gotOf_20 (fun h4 => ?_)
  refine ok_iload_n 2 hc dX12_gotOf_21 rfl rfl ?_
  refine ok_iconst (v := 0) hc dX12_gotOf_22 (by decide) ?_
  refine ok_iload_n 3 hc dX12_gotOf_23 rfl rfl ?_
  refine ok_callVi (As := [.int v2, .int (S3.1 9 (nt a1)), .int a2, .int 0, .int a3]) (st := [.int (100 * (S.1 8 (nt a1)))]) (fun n0 => [.ref (n0 + 0), .int v2, .int (S3.1 9 (nt a1)), .int a2, .int 0, .int a3]) hc VS_X12_220 sM_0 rfl rfl rfl ⟨Nat.le_of_ble_eq_true rfl, Nat.le_of_ble_eq_true rfl⟩ (Nat.le_of_ble_eq_true rfl) (fun q h => tX12_lossOf v2 (S3.1 9 (nt a1)) a2 0 a3 S3 q h) dX12_gotOf_24 (fun v5 S6 => ?_)
  refine ok_idiv hc dX12_gotOf_27 (fun h7 => ?_)
  exact ok_iret hc rfl dX12_gotOf_28
def fX12_drownsBy_L11_st (a1 : Int32) (a2 : Int32) (rec : Int64 → Int32 → St → Option (Int64 × St)) (a3 : Int64) (a5 : Int32) (S : St) : Option (Int64 × St) :=
  if (S.1 0 9) ≤ a5 then (some (a3, S)) else (jn (fun (v2 : Int64) (S3 : St) => lt (a3 + v2) (fun (v5 : Int64) => rec v5 (a5 + 1) S3)) (fun k4 => if a5 = a1 then (k4 0 S) else (if ((a2 >>> (a5 &&& 31)) &&& 1) = 1 then (if ib a1 20 then (bnd (fX12_gotOf a5 (S.1 11 (nt a1)) 0 S) (fun v9 S10 => k4 v9.toInt64 S10)) else none) else (k4 0 S))))
def fX12_drownsBy_L11 (a1 : Int32) (a2 : Int32) : Nat → Int64 → Int32 → St → Option (Int64 × St)
  | 0 => fun _ _ _ => none
  | n + 1 => fun a3 a5 S => fX12_drownsBy_L11_st a1 a2 (fX12_drownsBy_L11 a1 a2 n) a3 a5 S
def fX12_drownsBy (a1 : Int32) (a2 : Int32) (S : St) : Option (Int64 × St) :=
  lt ((S.1 5 (nt 2)).toInt64) (fun (v1 : Int64) => fX12_drownsBy_L11 a1 a2 FU v1 0 S)
set_option maxRecDepth 100000 in
set_option maxHeartbeats 4000000 in
theorem tX12_drownsBy_L11 {Γ : Cx Int64} (hc : Cok Γ wM vL mX12_drownsBy) (a1 : Int32) (a2 : Int32) : ∀ (n : Nat) (a3 : Int64) (a5 : Int32) (S : St), Ok Γ wM 11 [(0, rv Γ 0), (1, .int a1), (2, .int a2), (3, .long a3), (5, .int a5)] [] S (fX12_drownsBy_L11 a1 a2 n a3 a5 S) := by
  intro n
  induction n with
  | zero =>
    intro a3 a5 S
    exact ok_none
  | succ n ih =>
    intro a3 a5 S
    show Ok Γ wM 11 [(0, rv Γ 0), (1, .int a1), (2, .int a2), (3, .long a3), (5, .int a5)] [] S (fX12_drownsBy_L11_st a1 a2 (fX12_drownsBy_L11 a1 a2 n) a3 a5 S)
    unfold fX12_drownsBy_L11_st
    refine ok_iload 4 hc dX12_drownsBy_11 rfl ?_
    refine ok_aload_n 0 hc dX12_drownsBy_13 rfl rfl ?_
    refine ok_geti hc FS_X12_176 rfl sM_0 dX12_drownsBy_14 ?_
    refine ok_icmp_ge_ite 63 hc dX12_drownsBy_17 (by decide) (fun h1 => ?_) (fun h1 => ?_)
    · refine ok_lload_n 3 hc dX12_drownsBy_63 rfl rfl ?_
      exact ok_lret hc rfl dX12_drownsBy_64
    · refine ok_lload_n 3 hc dX12_drownsBy_20 rfl rfl ?_
      refine ok_iload 4 hc dX12_drownsBy_21 rfl ?_
      refine ok_iload_n 1 hc dX12_drownsBy_23 rfl rfl ?_
      refine ok_jn (fun g => ∀ (v2 : Int64) (S3 : St), Ok Γ wM 55 [(0, rv Γ 0), (1, .int a1), (2, .int a2), (5, .int a5)] [.long v2, .long a3] S3 (g v2 S3)) ?_ (fun k4 hk4 => ?_)
      · intro v2 S3
        refine ok_ladd hc dX12_drownsBy_55 ?_
        refine ok_ltl (fun v5 => ?_)
        refine ok_lstore_n [(3, .long v5), (0, rv Γ 0), (1, .int a1), (2, .int a2), (5, .int a5)] hc dX12_drownsBy_56 rfl (Nat.le_of_ble_eq_true rfl) rfl ?_
        refine ok_iinc (v := 1) 4 [(5, .int (a5 + 1)), (3, .long v5), (0, rv Γ 0), (1, .int a1), (2, .int a2)] hc dX12_drownsBy_57 rfl (by decide) (Nat.le_of_ble_eq_true rfl) rfl ?_
        refine ok_goto 11 hc dX12_drownsBy_60 (by decide) ?_
        refine ok_sub [2, 3, 4, 1, 0] rfl ?_
        exact ih _ _ _
      · refine ok_icmp_eq_ite 54 hc dX12_drownsBy_24 (by decide) (fun h6 => ?_) (fun h6 => ?_)
        · refine ok_lconst (v := 0) hc dX12_drownsBy_54 (by decide) ?_
          refine ok_sub [0, 1, 2, 4] rfl ?_
          exact hk4 _ _
        · refine ok_iload_n 2 hc dX12_drownsBy_27 rfl rfl ?_
          refine ok_iload 4 hc dX12_drownsBy_28 rfl ?_
          refine ok_ishr hc dX12_drownsBy_30 ?_
          refine ok_iconst (v := 1) hc dX12_drownsBy_31 (by decide) ?_
          refine ok_iand hc dX12_drownsBy_32 ?_
          refine ok_iconst (v := 1) hc dX12_drownsBy_33 (by decide) ?_
          refine ok_icmp_ne_ite 54 hc dX12_drownsBy_34 (by decide) (fun h7 => ?_) (fun h7 => ?_)
          · refine ok_lconst (v := 0) hc dX12_drownsBy_54 (by decide) ?_
            refine ok_sub [0, 1, 2, 4] rfl ?_
            exact hk4 _ _
          · refine ok_aload_n 0 hc dX12_drownsBy_37 rfl rfl ?_
            refine ok_iload 4 hc dX12_drownsBy_38 rfl ?_
            refine ok_aload_n 0 hc dX12_drownsBy_40 rfl rfl ?_
            refine ok_getr 11 hc FS_X12_48 rfl sM_0 rfl dX12_drownsBy_41 ?_
            refine ok_iload_n 1 hc dX12_drownsBy_44 rfl rfl ?_
            refine ok_iald hc sM_11 dX12_drownsBy_45 (fun h8 => ?_)
            refine ok_iconst (v := 0) hc dX12_drownsBy_46 (by decide) ?_
            refine ok_callVi (As := [.int a5, .int (S.1 11 (nt a1)), .int 0]) (st := [.long a3]) (fun n0 => [.ref (n0 + 0), .int a5, .int (S.1 11 (nt a1)), .int 0]) hc VS_X12_251 sM_0 rfl rfl rfl ⟨Nat.le_of_ble_eq_true rfl, Nat.le_of_ble_eq_true rfl⟩ (Nat.le_of_ble_eq_true rfl) (fun q h => tX12_gotOf a5 (S.1 11 (nt a1)) 0 S q h) dX12_drownsBy_47 (fun v9 S10 => ?_)
            refine ok_i2l hc dX12_drownsBy_50 ?_
            refine ok_goto 55 hc dX12_drownsBy_51 (by decide) ?_
            refine ok_sub [0, 1, 2, 4] rfl ?_
            exact hk4 _ _
set_option maxRecDepth 100000 in
set_option maxHeartbeats 4000000 in
theorem tX12_drownsBy (a1 : Int32) (a2 : Int32) (S : St) (q : Int64 × St) (h : fX12_drownsBy a1 a2 S = some q) : MT vL wM mX12_drownsBy (fun n0 => [.ref (n0 + 0), .int a1, .int a2]) S q := by
  refine mt_of (show plainFor yX12_drownsBy = true from by decide) (fun _ => Nat.le_of_ble_eq_true rfl) ?_
  intro Γ hc _
  rw [← h]
  show Ok Γ wM 0 [(0, rv Γ 0), (1, .int a1), (2, .int a2)] [] S _
  unfold fX12_drownsBy
  refine ok_aload_n 0 hc dX12_drownsBy_0 rfl rfl ?_
  refine ok_getr 5 hc FS_X12_30 rfl sM_0 rfl dX12_drownsBy_1 ?_
  refine ok_iconst (v := 2) hc dX12_drownsBy_4 (by decide) ?_
  refine ok_ialdK hc sM_5 (by decide) dX12_drownsBy_5 ?_
  refine ok_i2l hc dX12_drownsBy_6 ?_
  refine ok_ltl (fun v1 => ?_)
  refine ok_lstore_n [(3, .long v1), (0, rv Γ 0), (1, .int a1), (2, .int a2)] hc dX12_drownsBy_7 rfl (Nat.le_of_ble_eq_true rfl) rfl ?_
  refine ok_iconst (v := 0) hc dX12_drownsBy_8 (by decide) ?_
  refine ok_istore [(5, .int 0), (3, .long v1), (0, rv Γ 0), (1, .int a1), (2, .int a2)] hc dX12_drownsBy_9 (Nat.le_of_ble_eq_true rfl) rfl ?_
  refine ok_sub [2, 3, 4, 1, 0] rfl ?_
  refine tX12_drownsBy_L11 hc _ _   FU _ _ _
def fX12_own (a1 : Int32) (a2 : Int32) (S : St) : Option (Int32 × St) :=
  if ib a1 20 then (lt (if (S.1 6 (nt a1)) = 4 then 1 else 0) (fun (v2 : Int32) => bnd (fX12_gotOf a1 a2 v2 S) (fun v4 S5 => some (v4, S5)))) else none
set_option maxRecDepth 100000 in
set_option maxHeartbeats 4000000 in
theorem tX12_own (a1 : Int32) (a2 : Int32) (S : St) (q : Int32 × St) (h : fX12_own a1 a2 S = some q) : MT vI wM mX12_own (fun n0 => [.ref (n0 + 0), .int a1, .int a2]) S q := by
  refine mt_of (show plainFor yX12_own = true from by decide) (fun _ => Nat.le_of_ble_eq_true rfl) ?_
  intro Γ hc _
  rw [← h]
  show Ok Γ wM 0 [(0, rv Γ 0), (1, .int a1), (2, .int a2)] [] S _
  unfold fX12_own
  refine ok_aload_n 0 hc dX12_own_0 rfl rfl ?_
  refine ok_iload_n 1 hc dX12_own_1 rfl rfl ?_
  refine ok_iload_n 2 hc dX12_own_2 rfl rfl ?_
  refine ok_aload_n 0 hc dX12_own_3 rfl rfl ?_
  refine ok_getr 6 hc FS_X12_33 rfl sM_0 rfl dX12_own_4 ?_
  refine ok_iload_n 1 hc dX12_own_7 rfl rfl ?_
  refine ok_iald hc sM_6 dX12_own_8 (fun h1 => ?_)
  refine ok_iconst (v := 4) hc dX12_own_9 (by decide) ?_
  refine ok_lt (fun g => ∀ (v2 : Int32), Ok Γ wM 18 [] [.int v2, .int a2, .int a1, rv Γ 0] S (g v2)) ?_ (fun k3 hk3 => ?_)
  · intro v2
    refine ok_callVi (As := [.int a1, .int a2, .int v2]) (st := []) (fun n0 => [.ref (n0 + 0), .int a1, .int a2, .int v2]) hc VS_X12_251 sM_0 rfl rfl rfl ⟨Nat.le_of_ble_eq_true rfl, Nat.le_of_ble_eq_true rfl⟩ (Nat.le_of_ble_eq_true rfl) (fun q h => tX12_gotOf a1 a2 v2 S q h) dX12_own_18 (fun v4 S5 => ?_)
    exact ok_iret hc rfl dX12_own_21
  · refine ok_icmp_ne 17 hc dX12_own_10 (by decide) (fun h6 => ?_) (fun h6 => ?_)
    · rw [if_neg h6]
      refine ok_iconst (v := 0) hc dX12_own_17 (by decide) ?_
      refine ok_sub [] rfl ?_
      exact hk3 _
    · rw [if_pos h6]
      refine ok_iconst (v := 1) hc dX12_own_13 (by decide) ?_
      refine ok_goto 18 hc dX12_own_14 (by decide) ?_
      refine ok_sub [] rfl ?_
      exact hk3 _
def fX12_isHeard (a1 : Int32) (a2 : Int64) (S : St) : Option (Int32 × St) :=
  if ib a1 20 then (bnd (fX12_own a1 (S.1 11 (nt a1)) S) (fun v2 S3 => if ib a1 20 then (if (100 * v2.toInt64) < (((S3.1 10 (nt a1)).toInt64) * a2) then (some (0, S3)) else (some (1, S3))) else none)) else none
set_option maxRecDepth 100000 in
set_option maxHeartbeats 4000000 in
theorem tX12_isHeard (a1 : Int32) (a2 : Int64) (S : St) (q : Int32 × St) (h : fX12_isHeard a1 a2 S = some q) : MT vI wM mX12_isHeard (fun n0 => [.ref (n0 + 0), .int a1, .long a2]) S q := by
  refine mt_of (show plainFor yX12_isHeard = true from by decide) (fun _ => Nat.le_of_ble_eq_true rfl) ?_
  intro Γ hc _
  rw [← h]
  show Ok Γ wM 0 [(0, rv Γ 0), (1, .int a1), (2, .long a2)] [] S _
  unfold fX12_isHeard
  refine ok_ldc2 hc dX12_isHeard_0 W_1425 ?_
  refine ok_aload_n 0 hc dX12_isHeard_3 rfl rfl ?_
  refine ok_iload_n 1 hc dX12_isHeard_4 rfl rfl ?_
  refine ok_aload_n 0 hc dX12_isHeard_5 rfl rfl ?_
  refine ok_getr 11 hc FS_X12_48 rfl sM_0 rfl dX12_isHeard_6 ?_
  refine ok_iload_n 1 hc dX12_isHeard_9 rfl rfl ?_
  refine ok_iald hc sM_11 dX12_isHeard_10 (fun h1 => ?_)
  refine ok_callVi (As := [.int a1, .int (S.1 11 (nt a1))]) (st := [.long 100]) (fun n0 => [.ref (n0 + 0), .int a1, .int (S.1 11 (nt a1))]) hc VS_X12_254 sM_0 rfl rfl rfl ⟨Nat.le_of_ble_eq_true rfl, Nat.le_of_ble_eq_true rfl⟩ (Nat.le_of_ble_eq_true rfl) (fun q h => tX12_own a1 (S.1 11 (nt a1)) S q h) dX12_isHeard_11 (fun v2 S3 => ?_)
  refine ok_i2l hc dX12_isHeard_14 ?_
  refine ok_lmul hc dX12_isHeard_15 ?_
  refine ok_aload_n 0 hc dX12_isHeard_16 rfl rfl ?_
  refine ok_getr 10 hc FS_X12_45 rfl sM_0 rfl dX12_isHeard_17 ?_
  refine ok_iload_n 1 hc dX12_isHeard_20 rfl rfl ?_
  refine ok_iald hc sM_10 dX12_isHeard_21 (fun h4 => ?_)
  refine ok_i2l hc dX12_isHeard_22 ?_
  refine ok_lload_n 2 hc dX12_isHeard_23 rfl rfl ?_
  refine ok_lmul hc dX12_isHeard_24 ?_
  refine ok_lcmp_lt_ite 33 hc dX12_isHeard_25 dX12_isHeard_26 (by decide) (fun h5 => ?_) (fun h5 => ?_)
  · refine ok_iconst (v := 0) hc dX12_isHeard_33 (by decide) ?_
    exact ok_zretK hc rfl (by decide) dX12_isHeard_34
  · refine ok_iconst (v := 1) hc dX12_isHeard_29 (by decide) ?_
    refine ok_goto 34 hc dX12_isHeard_30 (by decide) ?_
    exact ok_zretK hc rfl (by decide) dX12_isHeard_34
def fX12_findFewest_L23_st (kx0 : Int32 → St → Option (Unit × St)) (a1 : Int32) (a3 : Int32) (rec : Int32 → Int32 → St → Option (Unit × St)) (a2 : Int32) (a4 : Int32) (S : St) : Option (Unit × St) :=
  if (S.1 0 22) ≤ a4 then (kx0 a2 S) else (if a2 = 0 then (kx0 a2 S) else (jn (fun (v3 : Int32) (S4 : St) => rec v3 (a4 + 1) S4) (fun k5 => if ((a1 >>> (a4 &&& 31)) &&& 1) = 0 then (k5 1 S) else (if ib a4 8 then (if ib a4 8 then (bnd (fX12_drownsBy (S.1 17 (nt a4)) a3 S) (fun v9 S10 => bnd (fX12_isHeard (S.1 17 (nt a4)) v9 S10) (fun v11 S12 => if v11 = 0 then (k5 0 S12) else (k5 1 S12)))) else none) else none))))
def fX12_findFewest_L23 (kx0 : Int32 → St → Option (Unit × St)) (a1 : Int32) (a3 : Int32) : Nat → Int32 → Int32 → St → Option (Unit × St)
  | 0 => fun _ _ _ => none
  | n + 1 => fun a2 a4 S => fX12_findFewest_L23_st kx0 a1 a3 (fX12_findFewest_L23 kx0 a1 a3 n) a2 a4 S
def fX12_findFewest_L109_st (kx0 : St → Option (Unit × St)) (a1 : Int32) (rec : Int32 → St → Option (Unit × St)) (a4 : Int32) (S : St) : Option (Unit × St) :=
  if a4 ≤ 0 then (kx0 S) else (if ib a4 256 then (jn (fun (S3 : St) => lt ((a4 - 1) &&& a1) (fun (v5 : Int32) => rec v5 S3)) (fun k4 => if (S.1 18 (nt a4)) = 0 then (k4 S) else (if ib (a1 &&& (a4 ^^^ (-1))) 256 then (if ib a1 256 then (if (S.1 19 (nt a1)) ≤ ((S.1 19 (nt (a1 &&& (a4 ^^^ (-1))))) + 1) then (k4 S) else (if ib (a1 &&& (a4 ^^^ (-1))) 256 then (if ib a1 256 then lt (wi S 19 (nt a1) ((S.1 19 (nt (a1 &&& (a4 ^^^ (-1))))) + 1)) (fun S11 => k4 S11) else none) else none)) else none) else none))) else none)
def fX12_findFewest_L109 (kx0 : St → Option (Unit × St)) (a1 : Int32) : Nat → Int32 → St → Option (Unit × St)
  | 0 => fun _ _ => none
  | n + 1 => fun a4 S => fX12_findFewest_L109_st kx0 a1 (fX12_findFewest_L109 kx0 a1 n) a4 S
def fX12_findFewest_L2_st (rec : Int32 → St → Option (Unit × St)) (a1 : Int32) (S : St) : Option (Unit × St) :=
  if (1 <<< ((S.1 0 22) &&& 31)) ≤ a1 then (some ((), S)) else (bnd (fX12_wholeBits a1 S) (fun v2 S3 => fX12_findFewest_L23 (fun (v4 : Int32) (S5 : St) => if ib a1 256 ∧ b01 v4 then lt (wi S5 18 (nt a1) v4) (fun S6 => lt (if a1 = 0 then 0 else 100) (fun (v8 : Int32) => if ib a1 256 then lt (wi S6 19 (nt a1) v8) (fun S10 => fX12_findFewest_L109 (fun (S12 : St) => rec (a1 + 1) S12) a1 FU a1 S10) else none)) else none) a1 v2 FU 1 0 S3))
def fX12_findFewest_L2 : Nat → Int32 → St → Option (Unit × St)
  | 0 => fun _ _ => none
  | n + 1 => fun a1 S => fX12_findFewest_L2_st (fX12_findFewest_L2 n) a1 S
def fX12_findFewest (S : St) : Option (Unit × St) :=
  fX12_findFewest_L2 FU 0 S
set_option maxRecDepth 100000 in
set_option maxHeartbeats 4000000 in
theorem tX12_findFewest_L23 {Γ : Cx Unit} (hc : Cok Γ wM vU mX12_findFewest) (kx0 : Int32 → St → Option (Unit × St)) (a1 : Int32) (a3 : Int32) (hx0 : ∀ (a2 : Int32) (S : St), Ok Γ wM 83 [(0, rv Γ 0), (1, .int a1), (2, .int a2)] [] S (kx0 a2 S)) : ∀ (n : Nat) (a2 : Int32) (a4 : Int32) (S : St), Ok Γ wM 23 [(0, rv Γ 0), (1, .int a1), (2, .int a2), (3, .int a3), (4, .int a4)] [] S (fX12_findFewest_L23 kx0 a1 a3 n a2 a4 S) := by
  intro n
  induction n with
  | zero =>
    intro a2 a4 S
    exact ok_none
  | succ n ih =>
    intro a2 a4 S
    show Ok Γ wM 23 [(0, rv Γ 0), (1, .int a1), (2, .int a2), (3, .int a3), (4, .int a4)] [] S (fX12_findFewest_L23_st kx0 a1 a3 (fX12_findFewest_L23 kx0 a1 a3 n) a2 a4 S)
    unfold fX12_findFewest_L23_st
    refine ok_iload 4 hc dX12_findFewest_23 rfl ?_
    refine ok_aload_n 0 hc dX12_findFewest_25 rfl rfl ?_
    refine ok_geti hc FS_X12_277 rfl sM_0 dX12_findFewest_26 ?_
    refine ok_icmp_ge_ite 83 hc dX12_findFewest_29 (by decide) (fun h1 => ?_) (fun h1 => ?_)
    · refine ok_sub [0, 1, 2] rfl ?_
      exact hx0 _ _
    · refine ok_iload_n 2 hc dX12_findFewest_32 rfl rfl ?_
      refine ok_if_eq_ite 83 hc dX12_findFewest_33 (by decide) (fun h2 => ?_) (fun h2 => ?_)
      · refine ok_sub [0, 1, 2] rfl ?_
        exact hx0 _ _
      · refine ok_iload_n 1 hc dX12_findFewest_36 rfl rfl ?_
        refine ok_iload 4 hc dX12_findFewest_37 rfl ?_
        refine ok_ishr hc dX12_findFewest_39 ?_
        refine ok_iconst (v := 1) hc dX12_findFewest_40 (by decide) ?_
        refine ok_iand hc dX12_findFewest_41 ?_
        refine ok_jn (fun g => ∀ (v3 : Int32) (S4 : St), Ok Γ wM 76 [(0, rv Γ 0), (1, .int a1), (3, .int a3), (4, .int a4)] [.int v3] S4 (g v3 S4)) ?_ (fun k5 hk5 => ?_)
        · intro v3 S4
          refine ok_istore_n [(2, .int v3), (0, rv Γ 0), (1, .int a1), (3, .int a3), (4, .int a4)] hc dX12_findFewest_76 rfl (Nat.le_of_ble_eq_true rfl) rfl ?_
          refine ok_iinc (v := 1) 4 [(4, .int (a4 + 1)), (2, .int v3), (0, rv Γ 0), (1, .int a1), (3, .int a3)] hc dX12_findFewest_77 rfl (by decide) (Nat.le_of_ble_eq_true rfl) rfl ?_
          refine ok_goto 23 hc dX12_findFewest_80 (by decide) ?_
          refine ok_sub [2, 3, 1, 4, 0] rfl ?_
          exact ih _ _ _
        · refine ok_if_eq_ite 71 hc dX12_findFewest_42 (by decide) (fun h6 => ?_) (fun h6 => ?_)
          · refine ok_iconst (v := 1) hc dX12_findFewest_71 (by decide) ?_
            refine ok_goto 76 hc dX12_findFewest_72 (by decide) ?_
            refine ok_sub [0, 1, 3, 4] rfl ?_
            exact hk5 _ _
          · refine ok_aload_n 0 hc dX12_findFewest_45 rfl rfl ?_
            refine ok_aload_n 0 hc dX12_findFewest_46 rfl rfl ?_
            refine ok_getr 17 hc FS_X12_67 rfl sM_0 rfl dX12_findFewest_47 ?_
            refine ok_iload 4 hc dX12_findFewest_50 rfl ?_
            refine ok_iald hc sM_17 dX12_findFewest_52 (fun h7 => ?_)
            refine ok_aload_n 0 hc dX12_findFewest_53 rfl rfl ?_
            refine ok_aload_n 0 hc dX12_findFewest_54 rfl rfl ?_
            refine ok_getr 17 hc FS_X12_67 rfl sM_0 rfl dX12_findFewest_55 ?_
            refine ok_iload 4 hc dX12_findFewest_58 rfl ?_
            refine ok_iald hc sM_17 dX12_findFewest_60 (fun h8 => ?_)
            refine ok_iload_n 3 hc dX12_findFewest_61 rfl rfl ?_
            refine ok_callVl (As := [.int (S.1 17 (nt a4)), .int a3]) (st := [.int (S.1 17 (nt a4)), rv Γ 0]) (fun n0 => [.ref (n0 + 0), .int (S.1 17 (nt a4)), .int a3]) hc VS_X12_262 sM_0 rfl rfl rfl ⟨Nat.le_of_ble_eq_true rfl, Nat.le_of_ble_eq_true rfl⟩ (Nat.le_of_ble_eq_true rfl) (fun q h => tX12_drownsBy (S.1 17 (nt a4)) a3 S q h) dX12_findFewest_62 (fun v9 S10 => ?_)
            refine ok_callVi (As := [.int (S.1 17 (nt a4)), .long v9]) (st := []) (fun n0 => [.ref (n0 + 0), .int (S.1 17 (nt a4)), .long v9]) hc VS_X12_266 sM_0 rfl rfl rfl ⟨Nat.le_of_ble_eq_true rfl, Nat.le_of_ble_eq_true rfl⟩ (Nat.le_of_ble_eq_true rfl) (fun q h => tX12_isHeard (S.1 17 (nt a4)) v9 S10 q h) dX12_findFewest_65 (fun v11 S12 => ?_)
            refine ok_if_eq_ite 75 hc dX12_findFewest_68 (by decide) (fun h13 => ?_) (fun h13 => ?_)
            · refine ok_iconst (v := 0) hc dX12_findFewest_75 (by decide) ?_
              refine ok_sub [0, 1, 3, 4] rfl ?_
              exact hk5 _ _
            · refine ok_iconst (v := 1) hc dX12_findFewest_71 (by decide) ?_
              refine ok_goto 76 hc dX12_findFewest_72 (by decide) ?_
              refine ok_sub [0, 1, 3, 4] rfl ?_
              exact hk5 _ _
set_option maxRecDepth 100000 in
set_option maxHeartbeats 4000000 in
theorem tX12_findFewest_L109 {Γ : Cx Unit} (hc : Cok Γ wM vU mX12_findFewest) (kx0 : St → Option (Unit × St)) (a1 : Int32) (hx0 : ∀ (S : St), Ok Γ wM 176 [(0, rv Γ 0), (1, .int a1)] [] S (kx0 S)) : ∀ (n : Nat) (a4 : Int32) (S : St), Ok Γ wM 109 [(0, rv Γ 0), (1, .int a1), (4, .int a4)] [] S (fX12_findFewest_L109 kx0 a1 n a4 S) := by
  intro n
  induction n with
  | zero =>
    intro a4 S
    exact ok_none
  | succ n ih =>
    intro a4 S
    show Ok Γ wM 109 [(0, rv Γ 0), (1, .int a1), (4, .int a4)] [] S (fX12_findFewest_L109_st kx0 a1 (fX12_findFewest_L109 kx0 a1 n) a4 S)
    unfold fX12_findFewest_L109_st
    refine ok_iload 2 hc dX12_findFewest_109 rfl ?_
    refine ok_if_le_ite 176 hc dX12_findFewest_111 (by decide) (fun h1 => ?_) (fun h1 => ?_)
    · refine ok_sub [0, 1] rfl ?_
      exact hx0 _
    · refine ok_aload_n 0 hc dX12_findFewest_114 rfl rfl ?_
      refine ok_getr 18 hc FS_X12_70 rfl sM_0 rfl dX12_findFewest_115 ?_
      refine ok_iload 2 hc dX12_findFewest_118 rfl ?_
      refine ok_zald hc sM_18 dX12_findFewest_120 (fun h2 => ?_)
      refine ok_jn (fun g => ∀ (S3 : St), Ok Γ wM 165 [(0, rv Γ 0), (1, .int a1), (4, .int a4)] [] S3 (g S3)) ?_ (fun k4 hk4 => ?_)
      · intro S3
        refine ok_iload 2 hc dX12_findFewest_165 rfl ?_
        refine ok_iconst (v := 1) hc dX12_findFewest_167 (by decide) ?_
        refine ok_isub hc dX12_findFewest_168 ?_
        refine ok_iload_n 1 hc dX12_findFewest_169 rfl rfl ?_
        refine ok_iand hc dX12_findFewest_170 ?_
        refine ok_lti (fun v5 => ?_)
        refine ok_istore [(4, .int v5), (0, rv Γ 0), (1, .int a1)] hc dX12_findFewest_171 (Nat.le_of_ble_eq_true rfl) rfl ?_
        refine ok_goto 109 hc dX12_findFewest_173 (by decide) ?_
        refine ok_sub [1, 2, 0] rfl ?_
        exact ih _ _
      · refine ok_if_eq_ite 165 hc dX12_findFewest_121 (by decide) (fun h6 => ?_) (fun h6 => ?_)
        · exact hk4 _
        · refine ok_aload_n 0 hc dX12_findFewest_124 rfl rfl ?_
          refine ok_getr 19 hc FS_X12_73 rfl sM_0 rfl dX12_findFewest_125 ?_
          refine ok_iload_n 1 hc dX12_findFewest_128 rfl rfl ?_
          refine ok_iload 2 hc dX12_findFewest_129 rfl ?_
          refine ok_iconst (v := (-1)) hc dX12_findFewest_131 (by decide) ?_
          refine ok_ixor hc dX12_findFewest_132 ?_
          refine ok_iand hc dX12_findFewest_133 ?_
          refine ok_iald hc sM_19 dX12_findFewest_134 (fun h7 => ?_)
          refine ok_iconst (v := 1) hc dX12_findFewest_135 (by decide) ?_
          refine ok_iadd hc dX12_findFewest_136 ?_
          refine ok_aload_n 0 hc dX12_findFewest_137 rfl rfl ?_
          refine ok_getr 19 hc FS_X12_73 rfl sM_0 rfl dX12_findFewest_138 ?_
          refine ok_iload_n 1 hc dX12_findFewest_141 rfl rfl ?_
          refine ok_iald hc sM_19 dX12_findFewest_142 (fun h8 => ?_)
          refine ok_icmp_ge_ite 165 hc dX12_findFewest_143 (by decide) (fun h9 => ?_) (fun h9 => ?_)
          · exact hk4 _
          · refine ok_aload_n 0 hc dX12_findFewest_146 rfl rfl ?_
            refine ok_getr 19 hc FS_X12_73 rfl sM_0 rfl dX12_findFewest_147 ?_
            refine ok_iload_n 1 hc dX12_findFewest_150 rfl rfl ?_
            refine ok_aload_n 0 hc dX12_findFewest_151 rfl rfl ?_
            refine ok_getr 19 hc FS_X12_73 rfl sM_0 rfl dX12_findFewest_152 ?_
            refine ok_iload_n 1 hc dX12_findFewest_155 rfl rfl ?_
            refine ok_iload 2 hc dX12_findFewest_156 rfl ?_
            refine ok_iconst (v := (-1)) hc dX12_findFewest_158 (by decide) ?_
            refine ok_ixor hc dX12_findFewest_159 ?_
            refine ok_iand hc dX12_findFewest_160 ?_
            refine ok_iald hc sM_19 dX12_findFewest_161 (fun h10 => ?_)
            refine ok_iconst (v := 1) hc dX12_findFewest_162 (by decide) ?_
            refine ok_iadd hc dX12_findFewest_163 ?_
            refine ok_iast hc sM_19 dX12_findFewest_164 (fun h12 => ?_)
            refine ok_ltS (fun S11 => ?_)
            exact hk4 _
set_option maxRecDepth 100000 in
set_option maxHeartbeats 4000000 in
theorem tX12_findFewest_L2 {Γ : Cx Unit} (hc : Cok Γ wM vU mX12_findFewest) : ∀ (n : Nat) (a1 : Int32) (S : St), Ok Γ wM 2 [(0, rv Γ 0), (1, .int a1)] [] S (fX12_findFewest_L2 n a1 S) := by
  intro n
  induction n with
  | zero =>
    intro a1 S
    exact ok_none
  | succ n ih =>
    intro a1 S
    show Ok Γ wM 2 [(0, rv Γ 0), (1, .int a1)] [] S (fX12_findFewest_L2_st (fX12_findFewest_L2 n) a1 S)
    unfold fX12_findFewest_L2_st
    refine ok_iload_n 1 hc dX12_findFewest_2 rfl rfl ?_
    refine ok_iconst (v := 1) hc dX12_findFewest_3 (by decide) ?_
    refine ok_aload_n 0 hc dX12_findFewest_4 rfl rfl ?_
    refine ok_geti hc FS_X12_277 rfl sM_0 dX12_findFewest_5 ?_
    refine ok_ishl hc dX12_findFewest_8 ?_
    refine ok_icmp_ge_ite 182 hc dX12_findFewest_9 (by decide) (fun h1 => ?_) (fun h1 => ?_)
    · exact ok_vret hc rfl dX12_findFewest_182
    · refine ok_iconst (v := 1) hc dX12_findFewest_12 (by decide) ?_
      refine ok_istore_n [(2, .int 1), (0, rv Γ 0), (1, .int a1)] hc dX12_findFewest_13 rfl (Nat.le_of_ble_eq_true rfl) rfl ?_
      refine ok_aload_n 1 hc dX12_findFewest_14 rfl rfl ?_
      refine ok_iload_n 2 hc dX12_findFewest_15 rfl rfl ?_
      refine ok_callVi (As := [.int a1]) (st := []) (fun n0 => [.ref (n0 + 0), .int a1]) hc VS_X12_280 sM_0 rfl rfl rfl ⟨Nat.le_of_ble_eq_true rfl, Nat.le_of_ble_eq_true rfl⟩ (Nat.le_of_ble_eq_true rfl) (fun q h => tX12_wholeBits a1 S q h) dX12_findFewest_16 (fun v2 S3 => ?_)
      refine ok_istore_n [(3, .int v2), (2, .int 1), (0, rv Γ 0), (1, .int a1)] hc dX12_findFewest_19 rfl (Nat.le_of_ble_eq_true rfl) rfl ?_
      refine ok_iconst (v := 0) hc dX12_findFewest_20 (by decide) ?_
      refine ok_istore [(4, .int 0), (3, .int v2), (2, .int 1), (0, rv Γ 0), (1, .int a1)] hc dX12_findFewest_21 (Nat.le_of_ble_eq_true rfl) rfl ?_
      refine ok_sub [3, 4, 2, 1, 0] rfl ?_
      refine tX12_findFewest_L23 hc _ _ _  ?_ FU _ _ _
      · intro v4 S5
        refine ok_aload_n 0 hc dX12_findFewest_83 rfl rfl ?_
        refine ok_getr 18 hc FS_X12_70 rfl sM_0 rfl dX12_findFewest_84 ?_
        refine ok_iload_n 1 hc dX12_findFewest_87 rfl rfl ?_
        refine ok_iload_n 2 hc dX12_findFewest_88 rfl rfl ?_
        refine ok_zast hc sM_18 dX12_findFewest_89 (fun h7 => ?_)
        refine ok_ltS (fun S6 => ?_)
        refine ok_aload_n 0 hc dX12_findFewest_90 rfl rfl ?_
        refine ok_getr 19 hc FS_X12_73 rfl sM_0 rfl dX12_findFewest_91 ?_
        refine ok_iload_n 1 hc dX12_findFewest_94 rfl rfl ?_
        refine ok_iload_n 1 hc dX12_findFewest_95 rfl rfl ?_
        refine ok_lt (fun g => ∀ (v8 : Int32), Ok Γ wM 105 [(0, rv Γ 0), (1, .int a1)] [.int v8, .int a1, rv Γ 19] S6 (g v8)) ?_ (fun k9 hk9 => ?_)
        · intro v8
          refine ok_iast hc sM_19 dX12_findFewest_105 (fun h11 => ?_)
          refine ok_ltS (fun S10 => ?_)
          refine ok_iload_n 1 hc dX12_findFewest_106 rfl rfl ?_
          refine ok_istore [(4, .int a1), (0, rv Γ 0), (1, .int a1)] hc dX12_findFewest_107 (Nat.le_of_ble_eq_true rfl) rfl ?_
          refine ok_sub [1, 2, 0] rfl ?_
          refine tX12_findFewest_L109 hc _ _  ?_ FU _ _
          · intro S12
            refine ok_iinc (v := 1) 1 [(1, .int (a1 + 1)), (0, rv Γ 0)] hc dX12_findFewest_176 rfl (by decide) (Nat.le_of_ble_eq_true rfl) rfl ?_
            refine ok_goto 2 hc dX12_findFewest_179 (by decide) ?_
            refine ok_sub [1, 0] rfl ?_
            exact ih _ _
        · refine ok_if_ne 103 hc dX12_findFewest_96 (by decide) (fun h13 => ?_) (fun h13 => ?_)
          · rw [if_neg h13]
            refine ok_bipush (v := 100) hc dX12_findFewest_103 (by decide) ?_
            refine ok_sub [0, 1] rfl ?_
            exact hk9 _
          · rw [if_pos h13]
            refine ok_iconst (v := 0) hc dX12_findFewest_99 (by decide) ?_
            refine ok_goto 105 hc dX12_findFewest_100 (by decide) ?_
            refine ok_sub [0, 1] rfl ?_
            exact hk9 _
set_option maxRecDepth 100000 in
set_option maxHeartbeats 4000000 in
theorem tX12_findFewest (S : St) (q : Unit × St) (h : fX12_findFewest S = some q) : MT vU wM mX12_findFewest (fun n0 => [.ref (n0 + 0)]) S q := by
  refine mt_of (show plainFor yX12_findFewest = true from by decide) (fun _ => Nat.le_of_ble_eq_true rfl) ?_
  intro Γ hc _
  rw [← h]
  show Ok Γ wM 0 [(0, rv Γ 0)] [] S _
  unfold fX12_findFewest
  refine ok_iconst (v := 0) hc dX12_findFewest_0 (by decide) ?_
  refine ok_istore_n [(1, .int 0), (0, rv Γ 0)] hc dX12_findFewest_1 rfl (Nat.le_of_ble_eq_true rfl) rfl ?_
  refine ok_sub [1, 0] rfl ?_
  refine tX12_findFewest_L2 hc    FU _ _
def fX12_groupOf_L4_st (a1 : Int32) (rec : Int32 → Int32 → St → Option (Int32 × St)) (a2 : Int32) (a3 : Int32) (S : St) : Option (Int32 × St) :=
  if a1 < a3 then (some (a2, S)) else (if ib a3 8 then (if ib a1 8 then (lt (if (S.1 20 (nt a3)) = (S.1 20 (nt a1)) then (1 <<< (a3 &&& 31)) else 0) (fun (v4 : Int32) => lt (a2 ||| v4) (fun (v6 : Int32) => rec v6 (a3 + 1) S))) else none) else none)
def fX12_groupOf_L4 (a1 : Int32) : Nat → Int32 → Int32 → St → Option (Int32 × St)
  | 0 => fun _ _ _ => none
  | n + 1 => fun a2 a3 S => fX12_groupOf_L4_st a1 (fX12_groupOf_L4 a1 n) a2 a3 S
def fX12_groupOf (a1 : Int32) (S : St) : Option (Int32 × St) :=
  fX12_groupOf_L4 a1 FU 0 0 S
set_option maxRecDepth 100000 in
set_option maxHeartbeats 4000000 in
theorem tX12_groupOf_L4 {Γ : Cx Int32} (hc : Cok Γ wM vI mX12_groupOf) (a1 : Int32) : ∀ (n : Nat) (a2 : Int32) (a3 : Int32) (S : St), Ok Γ wM 4 [(0, rv Γ 0), (1, .int a1), (2, .int a2), (3, .int a3)] [] S (fX12_groupOf_L4 a1 n a2 a3 S) := by
  intro n
  induction n with
  | zero =>
    intro a2 a3 S
    exact ok_none
  | succ n ih =>
    intro a2 a3 S
    show Ok Γ wM 4 [(0, rv Γ 0), (1, .int a1), (2, .int a2), (3, .int a3)] [] S (fX12_groupOf_L4_st a1 (fX12_groupOf_L4 a1 n) a2 a3 S)
    unfold fX12_groupOf_L4_st
    refine ok_iload_n 3 hc dX12_groupOf_4 rfl rfl ?_
    refine ok_iload_n 1 hc dX12_groupOf_5 rfl rfl ?_
    refine ok_icmp_gt_ite 40 hc dX12_groupOf_6 (by decide) (fun h1 => ?_) (fun h1 => ?_)
    · refine ok_iload_n 2 hc dX12_groupOf_40 rfl rfl ?_
      exact ok_iret hc rfl dX12_groupOf_41
    · refine ok_iload_n 2 hc dX12_groupOf_9 rfl rfl ?_
      refine ok_aload_n 0 hc dX12_groupOf_10 rfl rfl ?_
      refine ok_getr 20 hc FS_X12_76 rfl sM_0 rfl dX12_groupOf_11 ?_
      refine ok_iload_n 3 hc dX12_groupOf_14 rfl rfl ?_
      refine ok_iald hc sM_20 dX12_groupOf_15 (fun h2 => ?_)
      refine ok_aload_n 0 hc dX12_groupOf_16 rfl rfl ?_
      refine ok_getr 20 hc FS_X12_76 rfl sM_0 rfl dX12_groupOf_17 ?_
      refine ok_iload_n 1 hc dX12_groupOf_20 rfl rfl ?_
      refine ok_iald hc sM_20 dX12_groupOf_21 (fun h3 => ?_)
      refine ok_lt (fun g => ∀ (v4 : Int32), Ok Γ wM 32 [(0, rv Γ 0), (1, .int a1), (3, .int a3)] [.int v4, .int a2] S (g v4)) ?_ (fun k5 hk5 => ?_)
      · intro v4
        refine ok_ior hc dX12_groupOf_32 ?_
        refine ok_lti (fun v6 => ?_)
        refine ok_istore_n [(2, .int v6), (0, rv Γ 0), (1, .int a1), (3, .int a3)] hc dX12_groupOf_33 rfl (Nat.le_of_ble_eq_true rfl) rfl ?_
        refine ok_iinc (v := 1) 3 [(3, .int (a3 + 1)), (2, .int v6), (0, rv Γ 0), (1, .int a1)] hc dX12_groupOf_34 rfl (by decide) (Nat.le_of_ble_eq_true rfl) rfl ?_
        refine ok_goto 4 hc dX12_groupOf_37 (by decide) ?_
        refine ok_sub [2, 3, 1, 0] rfl ?_
        exact ih _ _ _
      · refine ok_icmp_ne 31 hc dX12_groupOf_22 (by decide) (fun h7 => ?_) (fun h7 => ?_)
        · rw [if_neg h7]
          refine ok_iconst (v := 0) hc dX12_groupOf_31 (by decide) ?_
          refine ok_sub [0, 1, 3] rfl ?_
          exact hk5 _
        · rw [if_pos h7]
          refine ok_iconst (v := 1) hc dX12_groupOf_25 (by decide) ?_
          refine ok_iload_n 3 hc dX12_groupOf_26 rfl rfl ?_
          refine ok_ishl hc dX12_groupOf_27 ?_
          refine ok_goto 32 hc dX12_groupOf_28 (by decide) ?_
          refine ok_sub [0, 1, 3] rfl ?_
          exact hk5 _
set_option maxRecDepth 100000 in
set_option maxHeartbeats 4000000 in
theorem tX12_groupOf (a1 : Int32) (S : St) (q : Int32 × St) (h : fX12_groupOf a1 S = some q) : MT vI wM mX12_groupOf (fun n0 => [.ref (n0 + 0), .int a1]) S q := by
  refine mt_of (show plainFor yX12_groupOf = true from by decide) (fun _ => Nat.le_of_ble_eq_true rfl) ?_
  intro Γ hc _
  rw [← h]
  show Ok Γ wM 0 [(0, rv Γ 0), (1, .int a1)] [] S _
  unfold fX12_groupOf
  refine ok_iconst (v := 0) hc dX12_groupOf_0 (by decide) ?_
  refine ok_istore_n [(2, .int 0), (0, rv Γ 0), (1, .int a1)] hc dX12_groupOf_1 rfl (Nat.le_of_ble_eq_true rfl) rfl ?_
  refine ok_iconst (v := 0) hc dX12_groupOf_2 (by decide) ?_
  refine ok_istore_n [(3, .int 0), (2, .int 0), (0, rv Γ 0), (1, .int a1)] hc dX12_groupOf_3 rfl (Nat.le_of_ble_eq_true rfl) rfl ?_
  refine ok_sub [2, 3, 1, 0] rfl ?_
  refine tX12_groupOf_L4 hc _   FU _ _ _
def fX12_parts_L27_st (kx0 : St → Option (Unit × St)) (a1 : Int32) (a2 : Int32) (rec : St → Option (Unit × St)) (S : St) : Option (Unit × St) :=
  if ib a2 8 then (if a1 ≤ (S.1 20 (nt a2)) then (kx0 S) else (bnd (fX12_groupOf a2 S) (fun v3 S4 => if ib v3 256 then (if (S4.1 18 (nt v3)) = 0 then (if ib a2 8 then (if ib a2 8 then lt (wi S4 20 (nt a2) ((S4.1 20 (nt a2)) + 1)) (fun S8 => rec S8) else none) else none) else (kx0 S4)) else none))) else none
def fX12_parts_L27 (kx0 : St → Option (Unit × St)) (a1 : Int32) (a2 : Int32) : Nat → St → Option (Unit × St)
  | 0 => fun _ => none
  | n + 1 => fun S => fX12_parts_L27_st kx0 a1 a2 (fX12_parts_L27 kx0 a1 a2 n) S
def fX12_parts_L9_st (a1 : Int32) (rec : Int32 → St → Option (Unit × St)) (a2 : Int32) (S : St) : Option (Unit × St) :=
  if (S.1 0 22) ≤ a2 then (some ((), S)) else (if ib a2 8 then (if ib a2 8 then lt (wi S 20 (nt a2) ((S.1 20 (nt a2)) + 1)) (fun S3 => fX12_parts_L27 (fun (S5 : St) => if ib a2 8 then (if (S5.1 20 (nt a2)) = a1 then (rec (a2 + (-1)) S5) else (if (S5.1 0 22) ≤ (a2 + 1) then (rec (a2 + 1) S5) else (if ib (a2 + 1) 8 then lt (wi S5 20 (nt (a2 + 1)) (-1)) (fun S9 => rec (a2 + 1) S9) else none))) else none) a1 a2 FU S3) else none) else none)
def fX12_parts_L9 (a1 : Int32) : Nat → Int32 → St → Option (Unit × St)
  | 0 => fun _ _ => none
  | n + 1 => fun a2 S => fX12_parts_L9_st a1 (fX12_parts_L9 a1 n) a2 S
def fX12_parts (a1 : Int32) (S : St) : Option (Unit × St) :=
  lt (wi S 20 (nt 0) (-1)) (fun S1 => fX12_parts_L9 a1 FU 0 S1)
set_option maxRecDepth 100000 in
set_option maxHeartbeats 4000000 in
theorem tX12_parts_L27 {Γ : Cx Unit} (hc : Cok Γ wM vU mX12_parts) (kx0 : St → Option (Unit × St)) (a1 : Int32) (a2 : Int32) (hx0 : ∀ (S : St), Ok Γ wM 63 [(0, rv Γ 0), (1, .int a1), (2, .int a2)] [] S (kx0 S)) : ∀ (n : Nat) (S : St), Ok Γ wM 27 [(0, rv Γ 0), (1, .int a1), (2, .int a2)] [] S (fX12_parts_L27 kx0 a1 a2 n S) := by
  intro n
  induction n with
  | zero =>
    intro S
    exact ok_none
  | succ n ih =>
    intro S
    show Ok Γ wM 27 [(0, rv Γ 0), (1, .int a1), (2, .int a2)] [] S (fX12_parts_L27_st kx0 a1 a2 (fX12_parts_L27 kx0 a1 a2 n) S)
    unfold fX12_parts_L27_st
    refine ok_aload_n 0 hc dX12_parts_27 rfl rfl ?_
    refine ok_getr 20 hc FS_X12_76 rfl sM_0 rfl dX12_parts_28 ?_
    refine ok_iload_n 2 hc dX12_parts_31 rfl rfl ?_
    refine ok_iald hc sM_20 dX12_parts_32 (fun h1 => ?_)
    refine ok_iload_n 1 hc dX12_parts_33 rfl rfl ?_
    refine ok_icmp_ge_ite 63 hc dX12_parts_34 (by decide) (fun h2 => ?_) (fun h2 => ?_)
    · exact hx0 _
    · refine ok_aload_n 0 hc dX12_parts_37 rfl rfl ?_
      refine ok_getr 18 hc FS_X12_70 rfl sM_0 rfl dX12_parts_38 ?_
      refine ok_aload_n 0 hc dX12_parts_41 rfl rfl ?_
      refine ok_iload_n 2 hc dX12_parts_42 rfl rfl ?_
      refine ok_callVi (As := [.int a2]) (st := [rv Γ 18]) (fun n0 => [.ref (n0 + 0), .int a2]) hc VS_X12_289 sM_0 rfl rfl rfl ⟨Nat.le_of_ble_eq_true rfl, Nat.le_of_ble_eq_true rfl⟩ (Nat.le_of_ble_eq_true rfl) (fun q h => tX12_groupOf a2 S q h) dX12_parts_43 (fun v3 S4 => ?_)
      refine ok_zald hc sM_18 dX12_parts_46 (fun h5 => ?_)
      refine ok_if_ne_ite 63 hc dX12_parts_47 (by decide) (fun h6 => ?_) (fun h6 => ?_)
      · exact hx0 _
      · refine ok_aload_n 0 hc dX12_parts_50 rfl rfl ?_
        refine ok_getr 20 hc FS_X12_76 rfl sM_0 rfl dX12_parts_51 ?_
        refine ok_iload_n 2 hc dX12_parts_54 rfl rfl ?_
        refine ok_dup2 hc dX12_parts_55 rfl rfl ?_
        refine ok_iald hc sM_20 dX12_parts_56 (fun h7 => ?_)
        refine ok_iconst (v := 1) hc dX12_parts_57 (by decide) ?_
        refine ok_iadd hc dX12_parts_58 ?_
        refine ok_iast hc sM_20 dX12_parts_59 (fun h9 => ?_)
        refine ok_ltS (fun S8 => ?_)
        refine ok_goto 27 hc dX12_parts_60 (by decide) ?_
        exact ih _
set_option maxRecDepth 100000 in
set_option maxHeartbeats 4000000 in
theorem tX12_parts_L9 {Γ : Cx Unit} (hc : Cok Γ wM vU mX12_parts) (a1 : Int32) : ∀ (n : Nat) (a2 : Int32) (S : St), Ok Γ wM 9 [(0, rv Γ 0), (1, .int a1), (2, .int a2)] [] S (fX12_parts_L9 a1 n a2 S) := by
  intro n
  induction n with
  | zero =>
    intro a2 S
    exact ok_none
  | succ n ih =>
    intro a2 S
    show Ok Γ wM 9 [(0, rv Γ 0), (1, .int a1), (2, .int a2)] [] S (fX12_parts_L9_st a1 (fX12_parts_L9 a1 n) a2 S)
    unfold fX12_parts_L9_st
    refine ok_iload_n 2 hc dX12_parts_9 rfl rfl ?_
    refine ok_aload_n 0 hc dX12_parts_10 rfl rfl ?_
    refine ok_geti hc FS_X12_277 rfl sM_0 dX12_parts_11 ?_
    refine ok_icmp_ge_ite 100 hc dX12_parts_14 (by decide) (fun h1 => ?_) (fun h1 => ?_)
    · exact ok_vret hc rfl dX12_parts_100
    · refine ok_aload_n 0 hc dX12_parts_17 rfl rfl ?_
      refine ok_getr 20 hc FS_X12_76 rfl sM_0 rfl dX12_parts_18 ?_
      refine ok_iload_n 2 hc dX12_parts_21 rfl rfl ?_
      refine ok_dup2 hc dX12_parts_22 rfl rfl ?_
      refine ok_iald hc sM_20 dX12_parts_23 (fun h2 => ?_)
      refine ok_iconst (v := 1) hc dX12_parts_24 (by decide) ?_
      refine ok_iadd hc dX12_parts_25 ?_
      refine ok_iast hc sM_20 dX12_parts_26 (fun h4 => ?_)
      refine ok_ltS (fun S3 => ?_)
      refine tX12_parts_L27 hc _ _ _  ?_ FU _
      · intro S5
        refine ok_aload_n 0 hc dX12_parts_63 rfl rfl ?_
        refine ok_getr 20 hc FS_X12_76 rfl sM_0 rfl dX12_parts_64 ?_
        refine ok_iload_n 2 hc dX12_parts_67 rfl rfl ?_
        refine ok_iald hc sM_20 dX12_parts_68 (fun h6 => ?_)
        refine ok_iload_n 1 hc dX12_parts_69 rfl rfl ?_
        refine ok_icmp_ne_ite 79 hc dX12_parts_70 (by decide) (fun h7 => ?_) (fun h7 => ?_)
        · refine ok_iinc (v := 1) 2 [(2, .int (a2 + 1)), (0, rv Γ 0), (1, .int a1)] hc dX12_parts_79 rfl (by decide) (Nat.le_of_ble_eq_true rfl) rfl ?_
          refine ok_iload_n 0 hc dX12_parts_82 rfl rfl ?_
          refine ok_aload_n 1 hc dX12_parts_83 rfl rfl ?_
          refine ok_geti hc FS_X12_277 rfl sM_0 dX12_parts_84 ?_
          refine ok_icmp_ge_ite 9 hc dX12_parts_87 (by decide) (fun h8 => ?_) (fun h8 => ?_)
          · refine ok_sub [1, 2, 0] rfl ?_
            exact ih _ _
          · refine ok_aload_n 1 hc dX12_parts_90 rfl rfl ?_
            refine ok_getr 20 hc FS_X12_76 rfl sM_0 rfl dX12_parts_91 ?_
            refine ok_iload_n 0 hc dX12_parts_94 rfl rfl ?_
            refine ok_iconst (v := (-1)) hc dX12_parts_95 (by decide) ?_
            refine ok_iast hc sM_20 dX12_parts_96 (fun h10 => ?_)
            refine ok_ltS (fun S9 => ?_)
            refine ok_goto 9 hc dX12_parts_97 (by decide) ?_
            refine ok_sub [1, 2, 0] rfl ?_
            exact ih _ _
        · refine ok_iinc (v := (-1)) 2 [(2, .int (a2 + (-1))), (0, rv Γ 0), (1, .int a1)] hc dX12_parts_73 rfl (by decide) (Nat.le_of_ble_eq_true rfl) rfl ?_
          refine ok_goto 9 hc dX12_parts_76 (by decide) ?_
          refine ok_sub [1, 2, 0] rfl ?_
          exact ih _ _
set_option maxRecDepth 100000 in
set_option maxHeartbeats 4000000 in
theorem tX12_parts (a1 : Int32) (S : St) (q : Unit × St) (h : fX12_parts a1 S = some q) : MT vU wM mX12_parts (fun n0 => [.ref (n0 + 0), .int a1]) S q := by
  refine mt_of (show plainFor yX12_parts = true from by decide) (fun _ => Nat.le_of_ble_eq_true rfl) ?_
  intro Γ hc _
  rw [← h]
  show Ok Γ wM 0 [(0, rv Γ 0), (1, .int a1)] [] S _
  unfold fX12_parts
  refine ok_iconst (v := 0) hc dX12_parts_0 (by decide) ?_
  refine ok_istore_n [(2, .int 0), (0, rv Γ 0), (1, .int a1)] hc dX12_parts_1 rfl (Nat.le_of_ble_eq_true rfl) rfl ?_
  refine ok_aload_n 1 hc dX12_parts_2 rfl rfl ?_
  refine ok_getr 20 hc FS_X12_76 rfl sM_0 rfl dX12_parts_3 ?_
  refine ok_iconst (v := 0) hc dX12_parts_6 (by decide) ?_
  refine ok_iconst (v := (-1)) hc dX12_parts_7 (by decide) ?_
  refine ok_iastK hc sM_20 (by decide) dX12_parts_8 ?_
  refine ok_ltS (fun S1 => ?_)
  refine ok_sub [1, 2, 0] rfl ?_
  refine tX12_parts_L9 hc _   FU _ _
def fX12_assign_L45_st (a2 : Int32) (rec : Int32 → St → Option (Int32 × St)) (a3 : Int32) (S : St) : Option (Int32 × St) :=
  if (S.1 0 22) ≤ a3 then (some (a2, S)) else (if ib a3 8 then (if ib a3 8 then (if ib (S.1 17 (nt a3)) 20 then lt (wi S 13 (nt (S.1 17 (nt a3))) (S.1 20 (nt a3))) (fun S4 => rec (a3 + 1) S4) else none) else none) else none)
def fX12_assign_L45 (a2 : Int32) : Nat → Int32 → St → Option (Int32 × St)
  | 0 => fun _ _ => none
  | n + 1 => fun a3 S => fX12_assign_L45_st a2 (fX12_assign_L45 a2 n) a3 S
def fX12_assign (a1 : Int32) (S : St) : Option (Int32 × St) :=
  bnd (fX12_takesSet a1 S) (fun v1 S2 => if v1 = 0 then (some ((-2), S2)) else (bnd (fX12_findFewest S2) (fun _ S4 => if ib ((1 <<< ((S4.1 0 22) &&& 31)) - 1) 256 then (lt (S4.1 19 (nt ((1 <<< ((S4.1 0 22) &&& 31)) - 1))) (fun (v6 : Int32) => if v6 ≤ 8 then (bnd (fX12_parts v6 S4) (fun _ S8 => fX12_assign_L45 v6 FU 0 S8)) else (some ((-3), S4)))) else none)))
set_option maxRecDepth 100000 in
set_option maxHeartbeats 4000000 in
theorem tX12_assign_L45 {Γ : Cx Int32} (hc : Cok Γ wM vI mX12_assign) (a2 : Int32) : ∀ (n : Nat) (a3 : Int32) (S : St), Ok Γ wM 45 [(0, rv Γ 0), (2, .int a2), (3, .int a3)] [] S (fX12_assign_L45 a2 n a3 S) := by
  intro n
  induction n with
  | zero =>
    intro a3 S
    exact ok_none
  | succ n ih =>
    intro a3 S
    show Ok Γ wM 45 [(0, rv Γ 0), (2, .int a2), (3, .int a3)] [] S (fX12_assign_L45_st a2 (fX12_assign_L45 a2 n) a3 S)
    unfold fX12_assign_L45_st
    refine ok_iload_n 2 hc dX12_assign_45 rfl rfl ?_
    refine ok_aload_n 0 hc dX12_assign_46 rfl rfl ?_
    refine ok_geti hc FS_X12_277 rfl sM_0 dX12_assign_47 ?_
    refine ok_icmp_ge_ite 76 hc dX12_assign_50 (by decide) (fun h1 => ?_) (fun h1 => ?_)
    · refine ok_iload_n 1 hc dX12_assign_76 rfl rfl ?_
      exact ok_iret hc rfl dX12_assign_77
    · refine ok_aload_n 0 hc dX12_assign_53 rfl rfl ?_
      refine ok_getr 13 hc FS_X12_54 rfl sM_0 rfl dX12_assign_54 ?_
      refine ok_aload_n 0 hc dX12_assign_57 rfl rfl ?_
      refine ok_getr 17 hc FS_X12_67 rfl sM_0 rfl dX12_assign_58 ?_
      refine ok_iload_n 2 hc dX12_assign_61 rfl rfl ?_
      refine ok_iald hc sM_17 dX12_assign_62 (fun h2 => ?_)
      refine ok_aload_n 0 hc dX12_assign_63 rfl rfl ?_
      refine ok_getr 20 hc FS_X12_76 rfl sM_0 rfl dX12_assign_64 ?_
      refine ok_iload_n 2 hc dX12_assign_67 rfl rfl ?_
      refine ok_iald hc sM_20 dX12_assign_68 (fun h3 => ?_)
      refine ok_iast hc sM_13 dX12_assign_69 (fun h5 => ?_)
      refine ok_ltS (fun S4 => ?_)
      refine ok_iinc (v := 1) 2 [(3, .int (a3 + 1)), (0, rv Γ 0), (2, .int a2)] hc dX12_assign_70 rfl (by decide) (Nat.le_of_ble_eq_true rfl) rfl ?_
      refine ok_goto 45 hc dX12_assign_73 (by decide) ?_
      refine ok_sub [1, 2, 0] rfl ?_
      exact ih _ _
set_option maxRecDepth 100000 in
set_option maxHeartbeats 4000000 in
theorem tX12_assign (a1 : Int32) (S : St) (q : Int32 × St) (h : fX12_assign a1 S = some q) : MT vI wM mX12_assign (fun n0 => [.ref (n0 + 0), .int a1]) S q := by
  refine mt_of (show plainFor yX12_assign = true from by decide) (fun _ => Nat.le_of_ble_eq_true rfl) ?_
  intro Γ hc _
  rw [← h]
  show Ok Γ wM 0 [(0, rv Γ 0), (1, .int a1)] [] S _
  unfold fX12_assign
  refine ok_aload_n 0 hc dX12_assign_0 rfl rfl ?_
  refine ok_iload_n 1 hc dX12_assign_1 rfl rfl ?_
  refine ok_callVi (As := [.int a1]) (st := []) (fun n0 => [.ref (n0 + 0), .int a1]) hc VS_X12_283 sM_0 rfl rfl rfl ⟨Nat.le_of_ble_eq_true rfl, Nat.le_of_ble_eq_true rfl⟩ (Nat.le_of_ble_eq_true rfl) (fun q h => tX12_takesSet a1 S q h) dX12_assign_2 (fun v1 S2 => ?_)
  refine ok_if_ne_ite 11 hc dX12_assign_5 (by decide) (fun h3 => ?_) (fun h3 => ?_)
  · refine ok_aload_n 0 hc dX12_assign_11 rfl rfl ?_
    refine ok_callVu (As := []) (st := []) (fun n0 => [.ref (n0 + 0)]) hc VS_X12_286 sM_0 rfl rfl rfl ⟨Nat.le_of_ble_eq_true rfl, Nat.le_of_ble_eq_true rfl⟩ (Nat.le_of_ble_eq_true rfl) (fun q h => tX12_findFewest S2 q h) dX12_assign_12 (fun _ S4 => ?_)
    refine ok_aload_n 0 hc dX12_assign_15 rfl rfl ?_
    refine ok_getr 19 hc FS_X12_73 rfl sM_0 rfl dX12_assign_16 ?_
    refine ok_iconst (v := 1) hc dX12_assign_19 (by decide) ?_
    refine ok_aload_n 0 hc dX12_assign_20 rfl rfl ?_
    refine ok_geti hc FS_X12_277 rfl sM_0 dX12_assign_21 ?_
    refine ok_ishl hc dX12_assign_24 ?_
    refine ok_iconst (v := 1) hc dX12_assign_25 (by decide) ?_
    refine ok_isub hc dX12_assign_26 ?_
    refine ok_iald hc sM_19 dX12_assign_27 (fun h5 => ?_)
    refine ok_lti (fun v6 => ?_)
    refine ok_istore_n [(2, .int v6), (0, rv Γ 0), (1, .int a1)] hc dX12_assign_28 rfl (Nat.le_of_ble_eq_true rfl) rfl ?_
    refine ok_iload_n 0 hc dX12_assign_29 rfl rfl ?_
    refine ok_bipush (v := 8) hc dX12_assign_30 (by decide) ?_
    refine ok_icmp_le_ite 38 hc dX12_assign_32 (by decide) (fun h7 => ?_) (fun h7 => ?_)
    · refine ok_aload_n 1 hc dX12_assign_38 rfl rfl ?_
      refine ok_iload_n 0 hc dX12_assign_39 rfl rfl ?_
      refine ok_callVu (As := [.int v6]) (st := []) (fun n0 => [.ref (n0 + 0), .int v6]) hc VS_X12_292 sM_0 rfl rfl rfl ⟨Nat.le_of_ble_eq_true rfl, Nat.le_of_ble_eq_true rfl⟩ (Nat.le_of_ble_eq_true rfl) (fun q h => tX12_parts v6 S4 q h) dX12_assign_40 (fun _ S8 => ?_)
      refine ok_iconst (v := 0) hc dX12_assign_43 (by decide) ?_
      refine ok_istore_n [(3, .int 0), (2, .int v6), (0, rv Γ 0), (1, .int a1)] hc dX12_assign_44 rfl (Nat.le_of_ble_eq_true rfl) rfl ?_
      refine ok_sub [2, 1, 0] rfl ?_
      refine tX12_assign_L45 hc _   FU _ _
    · refine ok_bipush (v := (-3)) hc dX12_assign_35 (by decide) ?_
      exact ok_iret hc rfl dX12_assign_37
  · refine ok_bipush (v := (-2)) hc dX12_assign_8 (by decide) ?_
    exact ok_iret hc rfl dX12_assign_10
