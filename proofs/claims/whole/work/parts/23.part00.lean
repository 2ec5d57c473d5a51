def fX4_isSet (a1 : Int32) (S : St) : Option (Int32 × St) :=
  bnd (fJ6_bitCount_0f7a4 a1 S) (fun v1 S2 => if v1 < 1 then (some (0, S2)) else (if 8 < v1 then (some (0, S2)) else (if (a1 &&& (((1 <<< ((S2.1 17 6) &&& 31)) - 1) ^^^ (-1))) = 0 then (some (1, S2)) else (some (0, S2)))))
set_option maxRecDepth 100000 in
set_option maxHeartbeats 4000000 in
theorem tX4_isSet (a1 : Int32) (S : St) (q : Int32 × St) (h : fX4_isSet a1 S = some q) : MT vI wX mX4_isSet (fun n0 => [.ref (n0 + 41), .int a1]) S q := by
  refine mt_of (show plainFor yX4_isSet = true from by decide) (fun _ => Nat.le_of_ble_eq_true rfl) ?_
  intro Γ hc _
  rw [← h]
  show Ok Γ wX 0 [(0, rv Γ 41), (1, .int a1)] [] S _
  unfold fX4_isSet
  refine ok_iload_n 1 hc dX4_isSet_0 rfl rfl ?_
  refine ok_callSi (As := [.int a1]) (st := []) (fun n0 => [.int a1]) hc SS_X4_39 rfl rfl rfl ⟨Nat.le_of_ble_eq_true rfl, Nat.le_of_ble_eq_true rfl⟩ (Nat.le_of_ble_eq_true rfl) (fun q h => tJ6_bitCount_0f7a4 wX a1 S q h) dX4_isSet_1 (fun v1 S2 => ?_)
  refine ok_istore_n [(2, .int v1), (0, rv Γ 41), (1, .int a1)] hc dX4_isSet_4 rfl (Nat.le_of_ble_eq_true rfl) rfl ?_
  refine ok_iload_n 0 hc dX4_isSet_5 rfl rfl ?_
  refine ok_iconst (v := 1) hc dX4_isSet_6 (by decide) ?_
  refine ok_icmp_lt_ite 38 hc dX4_isSet_7 (by decide) (fun h3 => ?_) (fun h3 => ?_)
  · refine ok_iconst (v := 0) hc dX4_isSet_38 (by decide) ?_
    exact ok_zretK hc rfl (by decide) dX4_isSet_39
  · refine ok_iload_n 0 hc dX4_isSet_10 rfl rfl ?_
    refine ok_bipush (v := 8) hc dX4_isSet_11 (by decide) ?_
    refine ok_icmp_gt_ite 38 hc dX4_isSet_13 (by decide) (fun h4 => ?_) (fun h4 => ?_)
    · refine ok_iconst (v := 0) hc dX4_isSet_38 (by decide) ?_
      exact ok_zretK hc rfl (by decide) dX4_isSet_39
    · refine ok_iload_n 2 hc dX4_isSet_16 rfl rfl ?_
      refine ok_iconst (v := 1) hc dX4_isSet_17 (by decide) ?_
      refine ok_aload_n 1 hc dX4_isSet_18 rfl rfl ?_
      refine ok_getr 17 hc FS_X4_15 rfl sX_41 rfl dX4_isSet_19 ?_
      refine ok_geti hc FS_X4_45 rfl sX_17 dX4_isSet_22 ?_
      refine ok_ishl hc dX4_isSet_25 ?_
      refine ok_iconst (v := 1) hc dX4_isSet_26 (by decide) ?_
      refine ok_isub hc dX4_isSet_27 ?_
      refine ok_iconst (v := (-1)) hc dX4_isSet_28 (by decide) ?_
      refine ok_ixor hc dX4_isSet_29 ?_
      refine ok_iand hc dX4_isSet_30 ?_
      refine ok_if_ne_ite 38 hc dX4_isSet_31 (by decide) (fun h5 => ?_) (fun h5 => ?_)
      · refine ok_iconst (v := 0) hc dX4_isSet_38 (by decide) ?_
        exact ok_zretK hc rfl (by decide) dX4_isSet_39
      · refine ok_iconst (v := 1) hc dX4_isSet_34 (by decide) ?_
        refine ok_goto 39 hc dX4_isSet_35 (by decide) ?_
        exact ok_zretK hc rfl (by decide) dX4_isSet_39
def fX4_whole (S : St) : Option (Int32 × St) :=
  some ((1 <<< ((S.1 41 8) &&& 31)) - 1, S)
set_option maxRecDepth 100000 in
set_option maxHeartbeats 4000000 in
theorem tX4_whole (S : St) (q : Int32 × St) (h : fX4_whole S = some q) : MT vI wX mX4_whole (fun n0 => [.ref (n0 + 41)]) S q := by
  refine mt_of (show plainFor yX4_whole = true from by decide) (fun _ => Nat.le_of_ble_eq_true rfl) ?_
  intro Γ hc _
  rw [← h]
  show Ok Γ wX 0 [(0, rv Γ 41)] [] S _
  unfold fX4_whole
  refine ok_iconst (v := 1) hc dX4_whole_0 (by decide) ?_
  refine ok_aload_n 0 hc dX4_whole_1 rfl rfl ?_
  refine ok_geti hc FS_X4_51 rfl sX_41 dX4_whole_2 ?_
  refine ok_ishl hc dX4_whole_5 ?_
  refine ok_iconst (v := 1) hc dX4_whole_6 (by decide) ?_
  refine ok_isub hc dX4_whole_7 ?_
  exact ok_iret hc rfl dX4_whole_8
def fX4_isHeardIn_L14_st (kx0 : Int64 → St → Option (Int32 × St)) (a1 : Int32) (a2 : Int32) (rec : Int64 → Int32 → St → Option (Int32 × St)) (a3 : Int64) (a5 : Int32) (S : St) : Option (Int32 × St) :=
  if (S.1 41 8) ≤ a5 then (kx0 a3 S) else (jn (fun (v2 : Int64) => rec v2 (a5 + 1) S) (fun k3 => if a5 = a1 then (k3 a3) else (if ((a2 >>> (a5 &&& 31)) &&& 1) = 0 then (k3 a3) else (if ib ((a1 * 8) + a5) 64 then (lt (a3 + ((S.1 43 (nt ((a1 * 8) + a5))).toInt64)) (fun (v7 : Int64) => k3 v7)) else none))))
def fX4_isHeardIn_L14 (kx0 : Int64 → St → Option (Int32 × St)) (a1 : Int32) (a2 : Int32) : Nat → Int64 → Int32 → St → Option (Int32 × St)
  | 0 => fun _ _ _ => none
  | n + 1 => fun a3 a5 S => fX4_isHeardIn_L14_st kx0 a1 a2 (fX4_isHeardIn_L14 kx0 a1 a2 n) a3 a5 S
def fX4_isHeardIn (a1 : Int32) (a2 : Int32) (S : St) : Option (Int32 × St) :=
  lt ((S.1 2 (nt 2)).toInt64) (fun (v1 : Int64) => fX4_isHeardIn_L14 (fun (v2 : Int64) (S3 : St) => if ib a1 8 then (if ib (S3.1 42 (nt a1)) 20 then (if ib ((a1 * 8) + a1) 64 then (bnd (fX5_isEnough (19 + nt (S3.1 42 (nt a1))) (S3.1 43 (nt ((a1 * 8) + a1))) v2 S3) (fun v7 S8 => if b01 v7 then some (v7, S8) else none)) else none) else none) else none) a1 a2 FU v1 0 S)
set_option maxRecDepth 100000 in
set_option maxHeartbeats 4000000 in
theorem tX4_isHeardIn_L14 {Γ : Cx Int32} (hc : Cok Γ wX vI mX4_isHeardIn) (kx0 : Int64 → St → Option (Int32 × St)) (a1 : Int32) (a2 : Int32) (hx0 : ∀ (a3 : Int64) (S : St), Ok Γ wX 60 [(0, rv Γ 41), (1, .int a1), (3, .long a3)] [] S (kx0 a3 S)) : ∀ (n : Nat) (a3 : Int64) (a5 : Int32) (S : St), Ok Γ wX 14 [(0, rv Γ 41), (1, .int a1), (2, .int a2), (3, .long a3), (5, .int a5)] [] S (fX4_isHeardIn_L14 kx0 a1 a2 n a3 a5 S) := by
  intro n
  induction n with
  | zero =>
    intro a3 a5 S
    exact ok_none
  | succ n ih =>
    intro a3 a5 S
    show Ok Γ wX 14 [(0, rv Γ 41), (1, .int a1), (2, .int a2), (3, .long a3), (5, .int a5)] [] S (fX4_isHeardIn_L14_st kx0 a1 a2 (fX4_isHeardIn_L14 kx0 a1 a2 n) a3 a5 S)
    unfold fX4_isHeardIn_L14_st
    refine ok_iload 4 hc dX4_isHeardIn_14 rfl ?_
    refine ok_aload_n 0 hc dX4_isHeardIn_16 rfl rfl ?_
    refine ok_geti hc FS_X4_51 rfl sX_41 dX4_isHeardIn_17 ?_
    refine ok_icmp_ge_ite 60 hc dX4_isHeardIn_20 (by decide) (fun h1 => ?_) (fun h1 => ?_)
    · refine ok_sub [0, 1, 3] rfl ?_
      exact hx0 _ _
    · refine ok_iload 4 hc dX4_isHeardIn_23 rfl ?_
      refine ok_iload_n 1 hc dX4_isHeardIn_25 rfl rfl ?_
      refine ok_jn (fun g => ∀ (v2 : Int64), Ok Γ wX 54 [(0, rv Γ 41), (1, .int a1), (2, .int a2), (3, .long v2), (5, .int a5)] [] S (g v2)) ?_ (fun k3 hk3 => ?_)
      · intro v2
        refine ok_iinc (v := 1) 4 [(5, .int (a5 + 1)), (0, rv Γ 41), (1, .int a1), (2, .int a2), (3, .long v2)] hc dX4_isHeardIn_54 rfl (by decide) (Nat.le_of_ble_eq_true rfl) rfl ?_
        refine ok_goto 14 hc dX4_isHeardIn_57 (by decide) ?_
        refine ok_sub [1, 2, 3, 4, 0] rfl ?_
        exact ih _ _ _
      · refine ok_icmp_eq_ite 54 hc dX4_isHeardIn_26 (by decide) (fun h4 => ?_) (fun h4 => ?_)
        · exact hk3 _
        · refine ok_iload_n 2 hc dX4_isHeardIn_29 rfl rfl ?_
          refine ok_iload 4 hc dX4_isHeardIn_30 rfl ?_
          refine ok_ishr hc dX4_isHeardIn_32 ?_
          refine ok_iconst (v := 1) hc dX4_isHeardIn_33 (by decide) ?_
          refine ok_iand hc dX4_isHeardIn_34 ?_
          refine ok_if_eq_ite 54 hc dX4_isHeardIn_35 (by decide) (fun h5 => ?_) (fun h5 => ?_)
          · exact hk3 _
          · refine ok_lload_n 3 hc dX4_isHeardIn_38 rfl rfl ?_
            refine ok_aload_n 0 hc dX4_isHeardIn_39 rfl rfl ?_
            refine ok_getr 43 hc FS_X4_23 rfl sX_41 rfl dX4_isHeardIn_40 ?_
            refine ok_iload_n 1 hc dX4_isHeardIn_43 rfl rfl ?_
            refine ok_bipush (v := 8) hc dX4_isHeardIn_44 (by decide) ?_
            refine ok_imul hc dX4_isHeardIn_46 ?_
            refine ok_iload 4 hc dX4_isHeardIn_47 rfl ?_
            refine ok_iadd hc dX4_isHeardIn_49 ?_
            refine ok_iald hc sX_43 dX4_isHeardIn_50 (fun h6 => ?_)
            refine ok_i2l hc dX4_isHeardIn_51 ?_
            refine ok_ladd hc dX4_isHeardIn_52 ?_
            refine ok_ltl (fun v7 => ?_)
            refine ok_lstore_n [(3, .long v7), (0, rv Γ 41), (1, .int a1), (2, .int a2), (5, .int a5)] hc dX4_isHeardIn_53 rfl (Nat.le_of_ble_eq_true rfl) rfl ?_
            refine ok_sub [1, 2, 3, 0, 4] rfl ?_
            exact hk3 _
set_option maxRecDepth 100000 in
set_option maxHeartbeats 4000000 in
theorem tX4_isHeardIn (a1 : Int32) (a2 : Int32) (S : St) (q : Int32 × St) (h : fX4_isHeardIn a1 a2 S = some q) : MT vI wX mX4_isHeardIn (fun n0 => [.ref (n0 + 41), .int a1, .int a2]) S q := by
  refine mt_of (show plainFor yX4_isHeardIn = true from by decide) (fun _ => Nat.le_of_ble_eq_true rfl) ?_
  intro Γ hc _
  rw [← h]
  show Ok Γ wX 0 [(0, rv Γ 41), (1, .int a1), (2, .int a2)] [] S _
  unfold fX4_isHeardIn
  refine ok_aload_n 0 hc dX4_isHeardIn_0 rfl rfl ?_
  refine ok_getr 1 hc FS_X4_9 rfl sX_41 rfl dX4_isHeardIn_1 ?_
  refine ok_getr 2 hc FS_X4_83 rfl sX_1 rfl dX4_isHeardIn_4 ?_
  refine ok_iconst (v := 2) hc dX4_isHeardIn_7 (by decide) ?_
  refine ok_ialdK hc sX_2 (by decide) dX4_isHeardIn_8 ?_
  refine ok_i2l hc dX4_isHeardIn_9 ?_
  refine ok_ltl (fun v1 => ?_)
  refine ok_lstore_n [(3, .long v1), (0, rv Γ 41), (1, .int a1), (2, .int a2)] hc dX4_isHeardIn_10 rfl (Nat.le_of_ble_eq_true rfl) rfl ?_
  refine ok_iconst (v := 0) hc dX4_isHeardIn_11 (by decide) ?_
  refine ok_istore [(5, .int 0), (3, .long v1), (0, rv Γ 41), (1, .int a1), (2, .int a2)] hc dX4_isHeardIn_12 (Nat.le_of_ble_eq_true rfl) rfl ?_
  refine ok_sub [2, 3, 4, 1, 0] rfl ?_
  refine tX4_isHeardIn_L14 hc _ _ _  ?_ FU _ _ _
  · intro v2 S3
    refine ok_aload_n 0 hc dX4_isHeardIn_60 rfl rfl ?_
    refine ok_getr 17 hc FS_X4_15 rfl sX_41 rfl dX4_isHeardIn_61 ?_
    refine ok_getr 18 hc FS_X4_52 rfl sX_17 rfl dX4_isHeardIn_64 ?_
    refine ok_aload_n 0 hc dX4_isHeardIn_67 rfl rfl ?_
    refine ok_getr 42 hc FS_X4_19 rfl sX_41 rfl dX4_isHeardIn_68 ?_
    refine ok_iload_n 1 hc dX4_isHeardIn_71 rfl rfl ?_
    refine ok_iald hc sX_42 dX4_isHeardIn_72 (fun h4 => ?_)
    refine ok_aald (fun j => 19 + j) "AirParted$Sender" hc sX_18 rfl snd_rf dX4_isHeardIn_73 (fun h5 => ?_)
    show Ok Γ wX 74 [(0, rv Γ 41), (1, .int a1), (3, .long v2)] (rv Γ (19 + nt (S3.1 42 (nt a1))) :: []) S3 _
    refine ok_aload_n 0 hc dX4_isHeardIn_74 rfl rfl ?_
    refine ok_getr 43 hc FS_X4_23 rfl sX_41 rfl dX4_isHeardIn_75 ?_
    refine ok_iload_n 1 hc dX4_isHeardIn_78 rfl rfl ?_
    refine ok_bipush (v := 8) hc dX4_isHeardIn_79 (by decide) ?_
    refine ok_imul hc dX4_isHeardIn_81 ?_
    refine ok_iload_n 1 hc dX4_isHeardIn_82 rfl rfl ?_
    refine ok_iadd hc dX4_isHeardIn_83 ?_
    refine ok_iald hc sX_43 dX4_isHeardIn_84 (fun h6 => ?_)
    refine ok_lload_n 2 hc dX4_isHeardIn_85 rfl rfl ?_
    refine ok_callVi (As := [.int (S3.1 43 (nt ((a1 * 8) + a1))), .long v2]) (st := []) (fun n0 => [.ref (n0 + (19 + nt (S3.1 42 (nt a1)))), .int (S3.1 43 (nt ((a1 * 8) + a1))), .long v2]) hc VS_X4_88 (snd_ob h5) rfl rfl rfl ⟨Nat.le_of_ble_eq_true rfl, Nat.le_of_ble_eq_true rfl⟩ (Nat.le_of_ble_eq_true rfl) (fun q h => tX5_isEnough (19 + nt (S3.1 42 (nt a1))) (S3.1 43 (nt ((a1 * 8) + a1))) v2 (snd_ob h5) S3 q h) dX4_isHeardIn_86 (fun v7 S8 => ?_)
    exact ok_zret hc rfl dX4_isHeardIn_89
def fX4_mayBeTogether_L2_st (a1 : Int32) (rec : Int32 → St → Option (Int32 × St)) (a2 : Int32) (S : St) : Option (Int32 × St) :=
  if (S.1 41 8) ≤ a2 then (some (1, S)) else (jn (fun (S2 : St) => rec (a2 + 1) S2) (fun k3 => if ((a1 >>> (a2 &&& 31)) &&& 1) = 0 then (k3 S) else (bnd (fX4_isHeardIn a2 a1 S) (fun v5 S6 => if v5 = 0 then (some (0, S6)) else (k3 S6)))))
def fX4_mayBeTogether_L2 (a1 : Int32) : Nat → Int32 → St → Option (Int32 × St)
  | 0 => fun _ _ => none
  | n + 1 => fun a2 S => fX4_mayBeTogether_L2_st a1 (fX4_mayBeTogether_L2 a1 n) a2 S
def fX4_mayBeTogether (a1 : Int32) (S : St) : Option (Int32 × St) :=
  fX4_mayBeTogether_L2 a1 FU 0 S
set_option maxRecDepth 100000 in
set_option maxHeartbeats 4000000 in
theorem tX4_mayBeTogether_L2 {Γ : Cx Int32} (hc : Cok Γ wX vI mX4_mayBeTogether) (a1 : Int32) : ∀ (n : Nat) (a2 : Int32) (S : St), Ok Γ wX 2 [(0, rv Γ 41), (1, .int a1), (2, .int a2)] [] S (fX4_mayBeTogether_L2 a1 n a2 S) := by
  intro n
  induction n with
  | zero =>
    intro a2 S
    exact ok_none
  | succ n ih =>
    intro a2 S
    show Ok Γ wX 2 [(0, rv Γ 41), (1, .int a1), (2, .int a2)] [] S (fX4_mayBeTogether_L2_st a1 (fX4_mayBeTogether_L2 a1 n) a2 S)
    unfold fX4_mayBeTogether_L2_st
    refine ok_iload_n 2 hc dX4_mayBeTogether_2 rfl rfl ?_
    refine ok_aload_n 0 hc dX4_mayBeTogether_3 rfl rfl ?_
    refine ok_geti hc FS_X4_51 rfl sX_41 dX4_mayBeTogether_4 ?_
    refine ok_icmp_ge_ite 35 hc dX4_mayBeTogether_7 (by decide) (fun h1 => ?_) (fun h1 => ?_)
    · refine ok_iconst (v := 1) hc dX4_mayBeTogether_35 (by decide) ?_
      exact ok_zretK hc rfl (by decide) dX4_mayBeTogether_36
    · refine ok_iload_n 1 hc dX4_mayBeTogether_10 rfl rfl ?_
      refine ok_iload_n 2 hc dX4_mayBeTogether_11 rfl rfl ?_
      refine ok_ishr hc dX4_mayBeTogether_12 ?_
      refine ok_iconst (v := 1) hc dX4_mayBeTogether_13 (by decide) ?_
      refine ok_iand hc dX4_mayBeTogether_14 ?_
      refine ok_jn (fun g => ∀ (S2 : St), Ok Γ wX 29 [(0, rv Γ 41), (1, .int a1), (2, .int a2)] [] S2 (g S2)) ?_ (fun k3 hk3 => ?_)
      · intro S2
        refine ok_iinc (v := 1) 2 [(2, .int (a2 + 1)), (0, rv Γ 41), (1, .int a1)] hc dX4_mayBeTogether_29 rfl (by decide) (Nat.le_of_ble_eq_true rfl) rfl ?_
        refine ok_goto 2 hc dX4_mayBeTogether_32 (by decide) ?_
        refine ok_sub [1, 2, 0] rfl ?_
        exact ih _ _
      · refine ok_if_eq_ite 29 hc dX4_mayBeTogether_15 (by decide) (fun h4 => ?_) (fun h4 => ?_)
        · exact hk3 _
        · refine ok_aload_n 0 hc dX4_mayBeTogether_18 rfl rfl ?_
          refine ok_iload_n 2 hc dX4_mayBeTogether_19 rfl rfl ?_
          refine ok_iload_n 1 hc dX4_mayBeTogether_20 rfl rfl ?_
          refine ok_callVi (As := [.int a2, .int a1]) (st := []) (fun n0 => [.ref (n0 + 41), .int a2, .int a1]) hc VS_X4_79 sX_41 rfl rfl rfl ⟨Nat.le_of_ble_eq_true rfl, Nat.le_of_ble_eq_true rfl⟩ (Nat.le_of_ble_eq_true rfl) (fun q h => tX4_isHeardIn a2 a1 S q h) dX4_mayBeTogether_21 (fun v5 S6 => ?_)
          refine ok_if_ne_ite 29 hc dX4_mayBeTogether_24 (by decide) (fun h7 => ?_) (fun h7 => ?_)
          · exact hk3 _
          · refine ok_iconst (v := 0) hc dX4_mayBeTogether_27 (by decide) ?_
            exact ok_zretK hc rfl (by decide) dX4_mayBeTogether_28
set_option maxRecDepth 100000 in
set_option maxHeartbeats 4000000 in
theorem tX4_mayBeTogether (a1 : Int32) (S : St) (q : Int32 × St) (h : fX4_mayBeTogether a1 S = some q) : MT vI wX mX4_mayBeTogether (fun n0 => [.ref (n0 + 41), .int a1]) S q := by
  refine mt_of (show plainFor yX4_mayBeTogether = true from by decide) (fun _ => Nat.le_of_ble_eq_true rfl) ?_
  intro Γ hc _
  rw [← h]
  show Ok Γ wX 0 [(0, rv Γ 41), (1, .int a1)] [] S _
  unfold fX4_mayBeTogether
  refine ok_iconst (v := 0) hc dX4_mayBeTogether_0 (by decide) ?_
  refine ok_istore_n [(2, .int 0), (0, rv Γ 41), (1, .int a1)] hc dX4_mayBeTogether_1 rfl (Nat.le_of_ble_eq_true rfl) rfl ?_
  refine ok_sub [1, 2, 0] rfl ?_
  refine tX4_mayBeTogether_L2 hc _   FU _ _
def fX4_countSlots_L32_st (kx0 : St → Option (Unit × St)) (a1 : Int32) (a2 : Int32) (rec : Int32 → St → Option (Unit × St)) (a3 : Int32) (S : St) : Option (Unit × St) :=
  if a3 ≤ 0 then (kx0 S) else (jn (fun (S2 : St) => lt ((a3 - 1) &&& a1) (fun (v4 : Int32) => rec v4 S2)) (fun k3 => if (a3 &&& a2) = 0 then (k3 S) else (if ib a3 256 then (if (S.1 44 (nt a3)) = 0 then (k3 S) else (if ib a1 256 then (if ib (a1 ^^^ a3) 256 then (bnd (fJ9_min_7cf53 (S.1 45 (nt a1)) (1 + (S.1 45 (nt (a1 ^^^ a3)))) S) (fun v10 S11 => if ib a1 256 then lt (wi S11 45 (nt a1) v10) (fun S12 => k3 S12) else none)) else none) else none)) else none)))
def fX4_countSlots_L32 (kx0 : St → Option (Unit × St)) (a1 : Int32) (a2 : Int32) : Nat → Int32 → St → Option (Unit × St)
  | 0 => fun _ _ => none
  | n + 1 => fun a3 S => fX4_countSlots_L32_st kx0 a1 a2 (fX4_countSlots_L32 kx0 a1 a2 n) a3 S
def fX4_countSlots_L9_st (rec : Int32 → St → Option (Unit × St)) (a1 : Int32) (S : St) : Option (Unit × St) :=
  bnd (fX4_whole S) (fun v1 S2 => if v1 < a1 then (some ((), S2)) else (lt (a1 &&& (-a1)) (fun (v4 : Int32) => if ib a1 256 then lt (wi S2 45 (nt a1) 99) (fun S5 => fX4_countSlots_L32 (fun (S7 : St) => rec (a1 + 1) S7) a1 v4 FU a1 S5) else none)))
def fX4_countSlots_L9 : Nat → Int32 → St → Option (Unit × St)
  | 0 => fun _ _ => none
  | n + 1 => fun a1 S => fX4_countSlots_L9_st (fX4_countSlots_L9 n) a1 S
def fX4_countSlots (S : St) : Option (Unit × St) :=
  lt (wi S 45 (nt 0) 0) (fun S1 => fX4_countSlots_L9 FU 1 S1)
set_option maxRecDepth 100000 in
set_option maxHeartbeats 4000000 in
theorem tX4_countSlots_L32 {Γ : Cx Unit} (hc : Cok Γ wX vU mX4_countSlots) (kx0 : St → Option (Unit × St)) (a1 : Int32) (a2 : Int32) (hx0 : ∀ (S : St), Ok Γ wX 85 [(0, rv Γ 41), (1, .int a1)] [] S (kx0 S)) : ∀ (n : Nat) (a3 : Int32) (S : St), Ok Γ wX 32 [(0, rv Γ 41), (1, .int a1), (2, .int a2), (3, .int a3)] [] S (fX4_countSlots_L32 kx0 a1 a2 n a3 S) := by
  intro n
  induction n with
  | zero =>
    intro a3 S
    exact ok_none
  | succ n ih =>
    intro a3 S
    show Ok Γ wX 32 [(0, rv Γ 41), (1, .int a1), (2, .int a2), (3, .int a3)] [] S (fX4_countSlots_L32_st kx0 a1 a2 (fX4_countSlots_L32 kx0 a1 a2 n) a3 S)
    unfold fX4_countSlots_L32_st
    refine ok_iload_n 3 hc dX4_countSlots_32 rfl rfl ?_
    refine ok_if_le_ite 85 hc dX4_countSlots_33 (by decide) (fun h1 => ?_) (fun h1 => ?_)
    · refine ok_sub [0, 1] rfl ?_
      exact hx0 _
    · refine ok_iload_n 3 hc dX4_countSlots_36 rfl rfl ?_
      refine ok_iload_n 2 hc dX4_countSlots_37 rfl rfl ?_
      refine ok_iand hc dX4_countSlots_38 ?_
      refine ok_jn (fun g => ∀ (S2 : St), Ok Γ wX 76 [(0, rv Γ 41), (1, .int a1), (2, .int a2), (3, .int a3)] [] S2 (g S2)) ?_ (fun k3 hk3 => ?_)
      · intro S2
        refine ok_iload_n 3 hc dX4_countSlots_76 rfl rfl ?_
        refine ok_iconst (v := 1) hc dX4_countSlots_77 (by decide) ?_
        refine ok_isub hc dX4_countSlots_78 ?_
        refine ok_iload_n 1 hc dX4_countSlots_79 rfl rfl ?_
        refine ok_iand hc dX4_countSlots_80 ?_
        refine ok_lti (fun v4 => ?_)
        refine ok_istore_n [(3, .int v4), (0, rv Γ 41), (1, .int a1), (2, .int a2)] hc dX4_countSlots_81 rfl (Nat.le_of_ble_eq_true rfl) rfl ?_
        refine ok_goto 32 hc dX4_countSlots_82 (by decide) ?_
        refine ok_sub [1, 2, 3, 0] rfl ?_
        exact ih _ _
      · refine ok_if_eq_ite 76 hc dX4_countSlots_39 (by decide) (fun h5 => ?_) (fun h5 => ?_)
        · exact hk3 _
        · refine ok_aload_n 0 hc dX4_countSlots_42 rfl rfl ?_
          refine ok_getr 44 hc FS_X4_26 rfl sX_41 rfl dX4_countSlots_43 ?_
          refine ok_iload_n 3 hc dX4_countSlots_46 rfl rfl ?_
          refine ok_zald hc sX_44 dX4_countSlots_47 (fun h6 => ?_)
          refine ok_if_eq_ite 76 hc dX4_countSlots_48 (by decide) (fun h7 => ?_) (fun h7 => ?_)
          · exact hk3 _
          · refine ok_aload_n 0 hc dX4_countSlots_51 rfl rfl ?_
            refine ok_getr 45 hc FS_X4_30 rfl sX_41 rfl dX4_countSlots_52 ?_
            refine ok_iload_n 1 hc dX4_countSlots_55 rfl rfl ?_
            refine ok_aload_n 0 hc dX4_countSlots_56 rfl rfl ?_
            refine ok_getr 45 hc FS_X4_30 rfl sX_41 rfl dX4_countSlots_57 ?_
            refine ok_iload_n 1 hc dX4_countSlots_60 rfl rfl ?_
            refine ok_iald hc sX_45 dX4_countSlots_61 (fun h8 => ?_)
            refine ok_iconst (v := 1) hc dX4_countSlots_62 (by decide) ?_
            refine ok_aload_n 0 hc dX4_countSlots_63 rfl rfl ?_
            refine ok_getr 45 hc FS_X4_30 rfl sX_41 rfl dX4_countSlots_64 ?_
            refine ok_iload_n 1 hc dX4_countSlots_67 rfl rfl ?_
            refine ok_iload_n 3 hc dX4_countSlots_68 rfl rfl ?_
            refine ok_ixor hc dX4_countSlots_69 ?_
            refine ok_iald hc sX_45 dX4_countSlots_70 (fun h9 => ?_)
            refine ok_iadd hc dX4_countSlots_71 ?_
            refine ok_callSi (As := [.int (S.1 45 (nt a1)), .int (1 + (S.1 45 (nt (a1 ^^^ a3))))]) (st := [.int a1, rv Γ 45]) (fun n0 => [.int (S.1 45 (nt a1)), .int (1 + (S.1 45 (nt (a1 ^^^ a3))))]) hc SS_X4_92 rfl rfl rfl ⟨Nat.le_of_ble_eq_true rfl, Nat.le_of_ble_eq_true rfl⟩ (Nat.le_of_ble_eq_true rfl) (fun q h => tJ9_min_7cf53 wX (S.1 45 (nt a1)) (1 + (S.1 45 (nt (a1 ^^^ a3)))) S q h) dX4_countSlots_72 (fun v10 S11 => ?_)
            refine ok_iast hc sX_45 dX4_countSlots_75 (fun h13 => ?_)
            refine ok_ltS (fun S12 => ?_)
            exact hk3 _
set_option maxRecDepth 100000 in
set_option maxHeartbeats 4000000 in
theorem tX4_countSlots_L9 {Γ : Cx Unit} (hc : Cok Γ wX vU mX4_countSlots) : ∀ (n : Nat) (a1 : Int32) (S : St), Ok Γ wX 9 [(0, rv Γ 41), (1, .int a1)] [] S (fX4_countSlots_L9 n a1 S) := by
  intro n
  induction n with
  | zero =>
    intro a1 S
    exact ok_none
  | succ n ih =>
    intro a1 S
    show Ok Γ wX 9 [(0, rv Γ 41), (1, .int a1)] [] S (fX4_countSlots_L9_st (fX4_countSlots_L9 n) a1 S)
    unfold fX4_countSlots_L9_st
    refine ok_iload_n 1 hc dX4_countSlots_9 rfl rfl ?_
    refine ok_aload_n 0 hc dX4_countSlots_10 rfl rfl ?_
    refine ok_callVi (As := []) (st := [.int a1]) (fun n0 => [.ref (n0 + 41)]) hc VS_X4_69 sX_41 rfl rfl rfl ⟨Nat.le_of_ble_eq_true rfl, Nat.le_of_ble_eq_true rfl⟩ (Nat.le_of_ble_eq_true rfl) (fun q h => tX4_whole S q h) dX4_countSlots_11 (fun v1 S2 => ?_)
    refine ok_icmp_gt_ite 91 hc dX4_countSlots_14 (by decide) (fun h3 => ?_) (fun h3 => ?_)
    · exact ok_vret hc rfl dX4_countSlots_91
    · refine ok_iload_n 1 hc dX4_countSlots_17 rfl rfl ?_
      refine ok_iload_n 1 hc dX4_countSlots_18 rfl rfl ?_
      refine ok_ineg hc dX4_countSlots_19 ?_
      refine ok_iand hc dX4_countSlots_20 ?_
      refine ok_lti (fun v4 => ?_)
      refine ok_istore_n [(2, .int v4), (0, rv Γ 41), (1, .int a1)] hc dX4_countSlots_21 rfl (Nat.le_of_ble_eq_true rfl) rfl ?_
      refine ok_aload_n 1 hc dX4_countSlots_22 rfl rfl ?_
      refine ok_getr 45 hc FS_X4_30 rfl sX_41 rfl dX4_countSlots_23 ?_
      refine ok_iload_n 2 hc dX4_countSlots_26 rfl rfl ?_
      refine ok_bipush (v := 99) hc dX4_countSlots_27 (by decide) ?_
      refine ok_iast hc sX_45 dX4_countSlots_29 (fun h6 => ?_)
      refine ok_ltS (fun S5 => ?_)
      refine ok_iload_n 2 hc dX4_countSlots_30 rfl rfl ?_
      refine ok_istore_n [(3, .int a1), (2, .int v4), (0, rv Γ 41), (1, .int a1)] hc dX4_countSlots_31 rfl (Nat.le_of_ble_eq_true rfl) rfl ?_
      refine ok_sub [2, 3, 1, 0] rfl ?_
      refine tX4_countSlots_L32 hc _ _ _  ?_ FU _ _
      · intro S7
        refine ok_iinc (v := 1) 1 [(1, .int (a1 + 1)), (0, rv Γ 41)] hc dX4_countSlots_85 rfl (by decide) (Nat.le_of_ble_eq_true rfl) rfl ?_
        refine ok_goto 9 hc dX4_countSlots_88 (by decide) ?_
        refine ok_sub [1, 0] rfl ?_
        exact ih _ _
set_option maxRecDepth 100000 in
set_option maxHeartbeats 4000000 in
theorem tX4_countSlots (S : St) (q : Unit × St) (h : fX4_countSlots S = some q) : MT vU wX mX4_countSlots (fun n0 => [.ref (n0 + 41)]) S q := by
  refine mt_of (show plainFor yX4_countSlots = true from by decide) (fun _ => Nat.le_of_ble_eq_true rfl) ?_
  intro Γ hc _
  rw [← h]
  show Ok Γ wX 0 [(0, rv Γ 41)] [] S _
  unfold fX4_countSlots
  refine ok_aload_n 0 hc dX4_countSlots_0 rfl rfl ?_
  refine ok_getr 45 hc FS_X4_30 rfl sX_41 rfl dX4_countSlots_1 ?_
  refine ok_iconst (v := 0) hc dX4_countSlots_4 (by decide) ?_
  refine ok_iconst (v := 0) hc dX4_countSlots_5 (by decide) ?_
  refine ok_iastK hc sX_45 (by decide) dX4_countSlots_6 ?_
  refine ok_ltS (fun S1 => ?_)
  refine ok_iconst (v := 1) hc dX4_countSlots_7 (by decide) ?_
  refine ok_istore_n [(1, .int 1), (0, rv Γ 41)] hc dX4_countSlots_8 rfl (Nat.le_of_ble_eq_true rfl) rfl ?_
  refine ok_sub [1, 0] rfl ?_
  refine tX4_countSlots_L9 hc    FU _ _
def fX4_prepare_L7_st (kx0 : St → Option (Unit × St)) (a1 : Int32) (rec : Int32 → St → Option (Unit × St)) (a2 : Int32) (S : St) : Option (Unit × St) :=
  if (S.1 17 6) ≤ a2 then (kx0 S) else (if 8 ≤ (S.1 41 8) then (kx0 S) else (jn (fun (S3 : St) => rec (a2 + 1) S3) (fun k4 => if ((a1 >>> (a2 &&& 31)) &&& 1) = 0 then (k4 S) else (if ib (S.1 41 8) 8 then lt (wi S 42 (nt (S.1 41 8)) a2) (fun S6 => lt (wi S6 41 8 ((S6.1 41 8) + 1)) (fun S8 => k4 S8)) else none))))
def fX4_prepare_L7 (kx0 : St → Option (Unit × St)) (a1 : Int32) : Nat → Int32 → St → Option (Unit × St)
  | 0 => fun _ _ => none
  | n + 1 => fun a2 S => fX4_prepare_L7_st kx0 a1 (fX4_prepare_L7 kx0 a1 n) a2 S
def fX4_prepare_L73_st (kx0 : St → Option (Unit × St)) (a2 : Int32) (rec : Int32 → St → Option (Unit × St)) (a3 : Int32) (S : St) : Option (Unit × St) :=
  if (S.1 41 8) ≤ a3 then (kx0 S) else (jn (fun (v2 : Int32) (S3 : St) => if ib a3 8 then (if ib a2 8 then (if ib (S3.1 42 (nt a2)) 20 then (bnd (fX0_gotAt (S3.1 42 (nt a3)) (S3.1 (19 + nt (S3.1 42 (nt a2))) 5) v2 S3) (fun v8 S9 => if ib ((a2 * 8) + a3) 64 then lt (wi S9 43 (nt ((a2 * 8) + a3)) v8) (fun S10 => rec (a3 + 1) S10) else none)) else none) else none) else none) (fun k4 => if a2 = a3 then (if ib a2 8 then (if ib (S.1 42 (nt a2)) 20 then (bnd (fX5_ownMood (19 + nt (S.1 42 (nt a2))) S) (fun v15 S16 => k4 v15 S16)) else none) else none) else (k4 0 S)))
def fX4_prepare_L73 (kx0 : St → Option (Unit × St)) (a2 : Int32) : Nat → Int32 → St → Option (Unit × St)
  | 0 => fun _ _ => none
  | n + 1 => fun a3 S => fX4_prepare_L73_st kx0 a2 (fX4_prepare_L73 kx0 a2 n) a3 S
def fX4_prepare_L63_st (kx0 : St → Option (Unit × St)) (rec : Int32 → St → Option (Unit × St)) (a2 : Int32) (S : St) : Option (Unit × St) :=
  if (S.1 41 8) ≤ a2 then (kx0 S) else (fX4_prepare_L73 (fun (S2 : St) => rec (a2 + 1) S2) a2 FU 0 S)
def fX4_prepare_L63 (kx0 : St → Option (Unit × St)) : Nat → Int32 → St → Option (Unit × St)
  | 0 => fun _ _ => none
  | n + 1 => fun a2 S => fX4_prepare_L63_st kx0 (fX4_prepare_L63 kx0 n) a2 S
def fX4_prepare_L166_st (kx0 : St → Option (Unit × St)) (rec : Int32 → St → Option (Unit × St)) (a2 : Int32) (S : St) : Option (Unit × St) :=
  bnd (fX4_whole S) (fun v1 S2 => if v1 < a2 then (kx0 S2) else (bnd (fX4_mayBeTogether a2 S2) (fun v4 S5 => if ib a2 256 ∧ b01 v4 then lt (wi S5 44 (nt a2) v4) (fun S6 => rec (a2 + 1) S6) else none)))
def fX4_prepare_L166 (kx0 : St → Option (Unit × St)) : Nat → Int32 → St → Option (Unit × St)
  | 0 => fun _ _ => none
  | n + 1 => fun a2 S => fX4_prepare_L166_st kx0 (fX4_prepare_L166 kx0 n) a2 S
def fX4_prepare (a1 : Int32) (S : St) : Option (Unit × St) :=
  lt (wi S 41 8 0) (fun S1 => fX4_prepare_L7 (fun (S2 : St) => fX4_prepare_L63 (fun (S3 : St) => fX4_prepare_L166 (fun (S4 : St) => bnd (fX4_countSlots S4) (fun _ S5 => some ((), S5))) FU 0 S3) FU 0 S2) a1 FU 0 S1)
set_option maxRecDepth 100000 in
set_option maxHeartbeats 4000000 in
theorem tX4_prepare_L7 {Γ : Cx Unit} (hc : Cok Γ wX vU mX4_prepare) (kx0 : St → Option (Unit × St)) (a1 : Int32) (hx0 : ∀ (S : St), Ok Γ wX 61 [(0, rv Γ 41)] [] S (kx0 S)) : ∀ (n : Nat) (a2 : Int32) (S : St), Ok Γ wX 7 [(0, rv Γ 41), (1, .int a1), (2, .int a2)] [] S (fX4_prepare_L7 kx0 a1 n a2 S) := by
  intro n
  induction n with
  | zero =>
    intro a2 S
    exact ok_none
  | succ n ih =>
    intro a2 S
    show Ok Γ wX 7 [(0, rv Γ 41), (1, .int a1), (2, .int a2)] [] S (fX4_prepare_L7_st kx0 a1 (fX4_prepare_L7 kx0 a1 n) a2 S)
    unfold fX4_prepare_L7_st
    refine ok_iload_n 2 hc dX4_prepare_7 rfl rfl ?_
    refine ok_aload_n 0 hc dX4_prepare_8 rfl rfl ?_
    refine ok_getr 17 hc FS_X4_15 rfl sX_41 rfl dX4_prepare_9 ?_
    refine ok_geti hc FS_X4_45 rfl sX_17 dX4_prepare_12 ?_
    refine ok_icmp_ge_ite 61 hc dX4_prepare_15 (by decide) (fun h1 => ?_) (fun h1 => ?_)
    · refine ok_sub [0] rfl ?_
      exact hx0 _
    · refine ok_aload_n 0 hc dX4_prepare_18 rfl rfl ?_
      refine ok_geti hc FS_X4_51 rfl sX_41 dX4_prepare_19 ?_
      refine ok_bipush (v := 8) hc dX4_prepare_22 (by decide) ?_
      refine ok_icmp_ge_ite 61 hc dX4_prepare_24 (by decide) (fun h2 => ?_) (fun h2 => ?_)
      · refine ok_sub [0] rfl ?_
        exact hx0 _
      · refine ok_iload_n 1 hc dX4_prepare_27 rfl rfl ?_
        refine ok_iload_n 2 hc dX4_prepare_28 rfl rfl ?_
        refine ok_ishr hc dX4_prepare_29 ?_
        refine ok_iconst (v := 1) hc dX4_prepare_30 (by decide) ?_
        refine ok_iand hc dX4_prepare_31 ?_
        refine ok_jn (fun g => ∀ (S3 : St), Ok Γ wX 55 [(0, rv Γ 41), (1, .int a1), (2, .int a2)] [] S3 (g S3)) ?_ (fun k4 hk4 => ?_)
        · intro S3
          refine ok_iinc (v := 1) 2 [(2, .int (a2 + 1)), (0, rv Γ 41), (1, .int a1)] hc dX4_prepare_55 rfl (by decide) (Nat.le_of_ble_eq_true rfl) rfl ?_
          refine ok_goto 7 hc dX4_prepare_58 (by decide) ?_
          refine ok_sub [1, 2, 0] rfl ?_
          exact ih _ _
        · refine ok_if_eq_ite 55 hc dX4_prepare_32 (by decide) (fun h5 => ?_) (fun h5 => ?_)
          · exact hk4 _
          · refine ok_aload_n 0 hc dX4_prepare_35 rfl rfl ?_
            refine ok_getr 42 hc FS_X4_19 rfl sX_41 rfl dX4_prepare_36 ?_
            refine ok_aload_n 0 hc dX4_prepare_39 rfl rfl ?_
            refine ok_geti hc FS_X4_51 rfl sX_41 dX4_prepare_40 ?_
            refine ok_iload_n 2 hc dX4_prepare_43 rfl rfl ?_
            refine ok_iast hc sX_42 dX4_prepare_44 (fun h7 => ?_)
            refine ok_ltS (fun S6 => ?_)
            refine ok_aload_n 0 hc dX4_prepare_45 rfl rfl ?_
            refine ok_dup hc dX4_prepare_46 rfl ?_
            refine ok_geti hc FS_X4_51 rfl sX_41 dX4_prepare_47 ?_
            refine ok_iconst (v := 1) hc dX4_prepare_50 (by decide) ?_
            refine ok_iadd hc dX4_prepare_51 ?_
            refine ok_puti hc FP_X4_51 rfl sX_41 dX4_prepare_52 ?_
            refine ok_ltS (fun S8 => ?_)
            exact hk4 _
set_option maxRecDepth 100000 in
set_option maxHeartbeats 4000000 in
theorem tX4_prepare_L73 {Γ : Cx Unit} (hc : Cok Γ wX vU mX4_prepare) (kx0 : St → Option (Unit × St)) (a2 : Int32) (hx0 : ∀ (S : St), Ok Γ wX 158 [(0, rv Γ 41), (2, .int a2)] [] S (kx0 S)) : ∀ (n : Nat) (a3 : Int32) (S : St), Ok Γ wX 73 [(0, rv Γ 41), (2, .int a2), (3, .int a3)] [] S (fX4_prepare_L73 kx0 a2 n a3 S) := by
  intro n
  induction n with
  | zero =>
    intro a3 S
    exact ok_none
  | succ n ih =>
    intro a3 S
    show Ok Γ wX 73 [(0, rv Γ 41), (2, .int a2), (3, .int a3)] [] S (fX4_prepare_L73_st kx0 a2 (fX4_prepare_L73 kx0 a2 n) a3 S)
    unfold fX4_prepare_L73_st
    refine ok_iload_n 2 hc dX4_prepare_73 rfl rfl ?_
    refine ok_aload_n 0 hc dX4_prepare_74 rfl rfl ?_
    refine ok_geti hc FS_X4_51 rfl sX_41 dX4_prepare_75 ?_
    refine ok_icmp_ge_ite 158 hc dX4_prepare_78 (by decide) (fun h1 => ?_) (fun h1 => ?_)
    · refine ok_sub [0, 1] rfl ?_
      exact hx0 _
    · refine ok_iload_n 1 hc dX4_prepare_81 rfl rfl ?_
      refine ok_iload_n 2 hc dX4_prepare_82 rfl rfl ?_
      refine ok_jn (fun g => ∀ (v2 : Int32) (S3 : St), Ok Γ wX 107 [(0, rv Γ 41), (2, .int a2), (3, .int a3)] [.int v2] S3 (g v2 S3)) ?_ (fun k4 hk4 => ?_)
      · intro v2 S3
        refine ok_istore [(4, .int v2), (0, rv Γ 41), (2, .int a2), (3, .int a3)] hc dX4_prepare_107 (Nat.le_of_ble_eq_true rfl) rfl ?_
        refine ok_aload_n 1 hc dX4_prepare_109 rfl rfl ?_
        refine ok_getr 43 hc FS_X4_23 rfl sX_41 rfl dX4_prepare_110 ?_
        refine ok_iload_n 2 hc dX4_prepare_113 rfl rfl ?_
        refine ok_bipush (v := 8) hc dX4_prepare_114 (by decide) ?_
        refine ok_imul hc dX4_prepare_116 ?_
        refine ok_iload_n 3 hc dX4_prepare_117 rfl rfl ?_
        refine ok_iadd hc dX4_prepare_118 ?_
        refine ok_aload_n 1 hc dX4_prepare_119 rfl rfl ?_
        refine ok_getr 17 hc FS_X4_15 rfl sX_41 rfl dX4_prepare_120 ?_
        refine ok_aload_n 1 hc dX4_prepare_123 rfl rfl ?_
        refine ok_getr 42 hc FS_X4_19 rfl sX_41 rfl dX4_prepare_124 ?_
        refine ok_iload_n 3 hc dX4_prepare_127 rfl rfl ?_
        refine ok_iald hc sX_42 dX4_prepare_128 (fun h5 => ?_)
        refine ok_aload_n 1 hc dX4_prepare_129 rfl rfl ?_
        refine ok_getr 17 hc FS_X4_15 rfl sX_41 rfl dX4_prepare_130 ?_
        refine ok_getr 18 hc FS_X4_52 rfl sX_17 rfl dX4_prepare_133 ?_
        refine ok_aload_n 1 hc dX4_prepare_136 rfl rfl ?_
        refine ok_getr 42 hc FS_X4_19 rfl sX_41 rfl dX4_prepare_137 ?_
        refine ok_iload_n 2 hc dX4_prepare_140 rfl rfl ?_
        refine ok_iald hc sX_42 dX4_prepare_141 (fun h6 => ?_)
        refine ok_aald (fun j => 19 + j) "AirParted$Sender" hc sX_18 rfl snd_rf dX4_prepare_142 (fun h7 => ?_)
        show Ok Γ wX 143 [(4, .int v2), (0, rv Γ 41), (2, .int a2), (3, .int a3)] (rv Γ (19 + nt (S3.1 42 (nt a2))) :: [.int (S3.1 42 (nt a3)), rv Γ 17, .int ((a2 * 8) + a3), rv Γ 43]) S3 _
        refine ok_geti hc FS_X4_62 rfl (snd_ob h7) dX4_prepare_143 ?_
        refine ok_iload 0 hc dX4_prepare_146 rfl ?_
        refine ok_callVi (As := [.int (S3.1 42 (nt a3)), .int (S3.1 (19 + nt (S3.1 42 (nt a2))) 5), .int v2]) (st := [.int ((a2 * 8) + a3), rv Γ 43]) (fun n0 => [.ref (n0 + 17), .int (S3.1 42 (nt a3)), .int (S3.1 (19 + nt (S3.1 42 (nt a2))) 5), .int v2]) hc VS_X4_65 sX_17 rfl rfl rfl ⟨Nat.le_of_ble_eq_true rfl, Nat.le_of_ble_eq_true rfl⟩ (Nat.le_of_ble_eq_true rfl) (fun q h => tX0_gotAt (S3.1 42 (nt a3)) (S3.1 (19 + nt (S3.1 42 (nt a2))) 5) v2 S3 q h) dX4_prepare_148 (fun v8 S9 => ?_)
        refine ok_iast hc sX_43 dX4_prepare_151 (fun h11 => ?_)
        refine ok_ltS (fun S10 => ?_)
        refine ok_iinc (v := 1) 3 [(3, .int (a3 + 1)), (4, .int v2), (0, rv Γ 41), (2, .int a2)] hc dX4_prepare_152 rfl (by decide) (Nat.le_of_ble_eq_true rfl) rfl ?_
        refine ok_goto 73 hc dX4_prepare_155 (by decide) ?_
        refine ok_sub [2, 3, 0] rfl ?_
        exact ih _ _
      · refine ok_icmp_ne_ite 106 hc dX4_prepare_83 (by decide) (fun h12 => ?_) (fun h12 => ?_)
        · refine ok_iconst (v := 0) hc dX4_prepare_106 (by decide) ?_
          exact hk4 _ _
        · refine ok_aload_n 0 hc dX4_prepare_86 rfl rfl ?_
          refine ok_getr 17 hc FS_X4_15 rfl sX_41 rfl dX4_prepare_87 ?_
          refine ok_getr 18 hc FS_X4_52 rfl sX_17 rfl dX4_prepare_90 ?_
          refine ok_aload_n 0 hc dX4_prepare_93 rfl rfl ?_
          refine ok_getr 42 hc FS_X4_19 rfl sX_41 rfl dX4_prepare_94 ?_
          refine ok_iload_n 1 hc dX4_prepare_97 rfl rfl ?_
          refine ok_iald hc sX_42 dX4_prepare_98 (fun h13 => ?_)
          refine ok_aald (fun j => 19 + j) "AirParted$Sender" hc sX_18 rfl snd_rf dX4_prepare_99 (fun h14 => ?_)
          show Ok Γ wX 100 [(0, rv Γ 41), (2, .int a2), (3, .int a3)] (rv Γ (19 + nt (S.1 42 (nt a2))) :: []) S _
          refine ok_callVi (As := []) (st := []) (fun n0 => [.ref (n0 + (19 + nt (S.1 42 (nt a2))))]) hc VS_X4_56 (snd_ob h14) rfl rfl rfl ⟨Nat.le_of_ble_eq_true rfl, Nat.le_of_ble_eq_true rfl⟩ (Nat.le_of_ble_eq_true rfl) (fun q h => tX5_ownMood (19 + nt (S.1 42 (nt a2))) (snd_ob h14) S q h) dX4_prepare_100 (fun v15 S16 => ?_)
          refine ok_goto 107 hc dX4_prepare_103 (by decide) ?_
          exact hk4 _ _
set_option maxRecDepth 100000 in
set_option maxHeartbeats 4000000 in
theorem tX4_prepare_L63 {Γ : Cx Unit} (hc : Cok Γ wX vU mX4_prepare) (kx0 : St → Option (Unit × St)) (hx0 : ∀ (S : St), Ok Γ wX 164 [(0, rv Γ 41)] [] S (kx0 S)) : ∀ (n : Nat) (a2 : Int32) (S : St), Ok Γ wX 63 [(0, rv Γ 41), (2, .int a2)] [] S (fX4_prepare_L63 kx0 n a2 S) := by
  intro n
  induction n with
  | zero =>
    intro a2 S
    exact ok_none
  | succ n ih =>
    intro a2 S
    show Ok Γ wX 63 [(0, rv Γ 41), (2, .int a2)] [] S (fX4_prepare_L63_st kx0 (fX4_prepare_L63 kx0 n) a2 S)
    unfold fX4_prepare_L63_st
    refine ok_iload_n 1 hc dX4_prepare_63 rfl rfl ?_
    refine ok_aload_n 0 hc dX4_prepare_64 rfl rfl ?_
    refine ok_geti hc FS_X4_51 rfl sX_41 dX4_prepare_65 ?_
    refine ok_icmp_ge_ite 164 hc dX4_prepare_68 (by decide) (fun h1 => ?_) (fun h1 => ?_)
    · refine ok_sub [0] rfl ?_
      exact hx0 _
    · refine ok_iconst (v := 0) hc dX4_prepare_71 (by decide) ?_
      refine ok_istore_n [(3, .int 0), (0, rv Γ 41), (2, .int a2)] hc dX4_prepare_72 rfl (Nat.le_of_ble_eq_true rfl) rfl ?_
      refine ok_sub [1, 2, 0] rfl ?_
      refine tX4_prepare_L73 hc _ _  ?_ FU _ _
      · intro S2
        refine ok_iinc (v := 1) 1 [(2, .int (a2 + 1)), (0, rv Γ 41)] hc dX4_prepare_158 rfl (by decide) (Nat.le_of_ble_eq_true rfl) rfl ?_
        refine ok_goto 63 hc dX4_prepare_161 (by decide) ?_
        refine ok_sub [1, 0] rfl ?_
        exact ih _ _
set_option maxRecDepth 100000 in
set_option maxHeartbeats 4000000 in
theorem tX4_prepare_L166 {Γ : Cx Unit} (hc : Cok Γ wX vU mX4_prepare) (kx0 : St → Option (Unit × St)) (hx0 : ∀ (S : St), Ok Γ wX 191 [(0, rv Γ 41)] [] S (kx0 S)) : ∀ (n : Nat) (a2 : Int32) (S : St), Ok Γ wX 166 [(0, rv Γ 41), (2, .int a2)] [] S (fX4_prepare_L166 kx0 n a2 S) := by
  intro n
  induction n with
  | zero =>
    intro a2 S
    exact ok_none
  | succ n ih =>
    intro a2 S
    show Ok Γ wX 166 [(0, rv Γ 41), (2, .int a2)] [] S (fX4_prepare_L166_st kx0 (fX4_prepare_L166 kx0 n) a2 S)
    unfold fX4_prepare_L166_st
    refine ok_iload_n 1 hc dX4_prepare_166 rfl rfl ?_
    refine ok_aload_n 0 hc dX4_prepare_167 rfl rfl ?_
    refine ok_callVi (As := []) (st := [.int a2]) (fun n0 => [.ref (n0 + 41)]) hc VS_X4_69 sX_41 rfl rfl rfl ⟨Nat.le_of_ble_eq_true rfl, Nat.le_of_ble_eq_true rfl⟩ (Nat.le_of_ble_eq_true rfl) (fun q h => tX4_whole S q h) dX4_prepare_168 (fun v1 S2 => ?_)
    refine ok_icmp_gt_ite 191 hc dX4_prepare_171 (by decide) (fun h3 => ?_) (fun h3 => ?_)
    · refine ok_sub [0] rfl ?_
      exact hx0 _
    · refine ok_aload_n 0 hc dX4_prepare_174 rfl rfl ?_
      refine ok_getr 44 hc FS_X4_26 rfl sX_41 rfl dX4_prepare_175 ?_
      refine ok_iload_n 1 hc dX4_prepare_178 rfl rfl ?_
      refine ok_aload_n 0 hc dX4_prepare_179 rfl rfl ?_
      refine ok_iload_n 1 hc dX4_prepare_180 rfl rfl ?_
      refine ok_callVi (As := [.int a2]) (st := [.int a2, rv Γ 44]) (fun n0 => [.ref (n0 + 41), .int a2]) hc VS_X4_72 sX_41 rfl rfl rfl ⟨Nat.le_of_ble_eq_true rfl, Nat.le_of_ble_eq_true rfl⟩ (Nat.le_of_ble_eq_true rfl) (fun q h => tX4_mayBeTogether a2 S2 q h) dX4_prepare_181 (fun v4 S5 => ?_)
      refine ok_zast hc sX_44 dX4_prepare_184 (fun h7 => ?_)
      refine ok_ltS (fun S6 => ?_)
      refine ok_iinc (v := 1) 1 [(2, .int (a2 + 1)), (0, rv Γ 41)] hc dX4_prepare_185 rfl (by decide) (Nat.le_of_ble_eq_true rfl) rfl ?_
      refine ok_goto 166 hc dX4_prepare_188 (by decide) ?_
      refine ok_sub [1, 0] rfl ?_
      exact ih _ _
set_option maxRecDepth 100000 in
set_option maxHeartbeats 4000000 in
theorem tX4_prepare (a1 : Int32) (S : St) (q : Unit × St) (h : fX4_prepare a1 S = some q) : MT vU wX mX4_prepare (fun n0 => [.ref (n0 + 41), .int a1]) S q := by
  refine mt_of (show plainFor yX4_prepare = true from by decide) (fun _ => Nat.le_of_ble_eq_true rfl) ?_
  intro Γ hc _
  rw [← h]
  show Ok Γ wX 0 [(0, rv Γ 41), (1, .int a1)] [] S _
  unfold fX4_prepare
  refine ok_aload_n 0 hc dX4_prepare_0 rfl rfl ?_
  refine ok_iconst (v := 0) hc dX4_prepare_1 (by decide) ?_
  refine ok_puti hc FP_X4_51 rfl sX_41 dX4_prepare_2 ?_
  refine ok_ltS (fun S1 => ?_)
  refine ok_iconst (v := 0) hc dX4_prepare_5 (by decide) ?_
  refine ok_istore_n [(2, .int 0), (0, rv Γ 41), (1, .int a1)] hc dX4_prepare_6 rfl (Nat.le_of_ble_eq_true rfl) rfl ?_
  refine ok_sub [1, 2, 0] rfl ?_
  refine tX4_prepare_L7 hc _ _  ?_ FU _ _
  · intro S2
    refine ok_iconst (v := 0) hc dX4_prepare_61 (by decide) ?_
    refine ok_istore_n [(2, .int 0), (0, rv Γ 41)] hc dX4_prepare_62 rfl (Nat.le_of_ble_eq_true rfl) rfl ?_
    refine ok_sub [1, 0] rfl ?_
    refine tX4_prepare_L63 hc _  ?_ FU _ _
    · intro S3
      refine ok_iconst (v := 0) hc dX4_prepare_164 (by decide) ?_
      refine ok_istore_n [(2, .int 0), (0, rv Γ 41)] hc dX4_prepare_165 rfl (Nat.le_of_ble_eq_true rfl) rfl ?_
      refine ok_sub [1, 0] rfl ?_
      refine tX4_prepare_L166 hc _  ?_ FU _ _
      · intro S4
        refine ok_aload_n 0 hc dX4_prepare_191 rfl rfl ?_
        refine ok_callVu (As := []) (st := []) (fun n0 => [.ref (n0 + 41)]) hc VS_X4_76 sX_41 rfl rfl rfl ⟨Nat.le_of_ble_eq_true rfl, Nat.le_of_ble_eq_true rfl⟩ (Nat.le_of_ble_eq_true rfl) (fun q h => tX4_countSlots S4 q h) dX4_prepare_192 (fun _ S5 => ?_)
        exact ok_vret hc rfl dX4_prepare_195
theorem plc_X4_whole (d : Nat) : mX4_whole.2.2.2.2.frames + 1 ≤ (mX4_place (d + 1)).2.2.2.2.frames ∧ 8 + (mX4_whole.2.2.1 + 11) + mX4_whole.2.2.2.2.locals ≤ (mX4_place (d + 1)).2.2.2.2.locals := ⟨by show 0 + 1 ≤ 1 + (d + 1); omega, by show 8 + (1 + 11) + 0 ≤ 20 + (d + 1) * 23; omega⟩
theorem plc_X4_place (d : Nat) : (mX4_place d).2.2.2.2.frames + 1 ≤ (mX4_place (d + 1)).2.2.2.2.frames ∧ 8 + ((mX4_place d).2.2.1 + 11) + (mX4_place d).2.2.2.2.locals ≤ (mX4_place (d + 1)).2.2.2.2.locals := ⟨by show 1 + d + 1 ≤ 1 + (d + 1); omega, by show 8 + (4 + 11) + (20 + d * 23) ≤ 20 + (d + 1) * 23; omega⟩
def fX4_place_L22_st (rc : Int32 → St → Option (Int32 × St)) (a1 : Int32) (a2 : Int32) (rec : Int32 → St → Option (Int32 × St)) (a3 : Int32) (S : St) : Option (Int32 × St) :=
  if a2 ≤ a3 then (some (0, S)) else (if 8 ≤ a3 then (some (0, S)) else (if ib a3 8 then (if ib ((S.1 46 (nt a3)) ||| (1 <<< (a1 &&& 31))) 256 then (jn (fun (S5 : St) => if ib a3 8 then (if (S5.1 46 (nt a3)) = 0 then (some (0, S5)) else (rec (a3 + 1) S5)) else none) (fun k6 => if (S.1 44 (nt ((S.1 46 (nt a3)) ||| (1 <<< (a1 &&& 31))))) = 0 then (k6 S) else (if ib a3 8 then (if ib a3 8 then lt (wi S 46 (nt a3) ((S.1 46 (nt a3)) ||| (1 <<< (a1 &&& 31)))) (fun S11 => if ib a1 8 then lt (wi S11 47 (nt a1) a3) (fun S13 => bnd (rc (a1 + 1) S13) (fun v15 S16 => if v15 = 0 then (if ib a3 8 then (if ib a3 8 then lt (wi S16 46 (nt a3) ((S16.1 46 (nt a3)) &&& ((1 <<< (a1 &&& 31)) ^^^ (-1)))) (fun S19 => k6 S19) else none) else none) else (some (1, S16)))) else none) else none) else none))) else none) else none))
def fX4_place_L22 (rc : Int32 → St → Option (Int32 × St)) (a1 : Int32) (a2 : Int32) : Nat → Int32 → St → Option (Int32 × St)
  | 0 => fun _ _ => none
  | n + 1 => fun a3 S => fX4_place_L22_st rc a1 a2 (fX4_place_L22 rc a1 a2 n) a3 S
def fX4_place_b (rc : Int32 → St → Option (Int32 × St)) (a1 : Int32) (S : St) : Option (Int32 × St) :=
  if a1 < (S.1 41 8) then (bnd (fX4_whole S) (fun v2 S3 => if ib v2 256 then (lt (S3.1 45 (nt v2)) (fun (v5 : Int32) => fX4_place_L22 rc a1 v5 FU 0 S3)) else none)) else (some (1, S))
def fX4_place : Nat → Int32 → St → Option (Int32 × St)
  | 0 => fun _ _ => none
  | d + 1 => fun a1 S => fX4_place_b (fX4_place d) a1 S
set_option maxRecDepth 100000 in
set_option maxHeartbeats 4000000 in
theorem tX4_place_L22 {Γ : Cx Int32} {d : Nat} {rc : Int32 → St → Option (Int32 × St)} (hrec : ∀ (i : Int32) (S : St) (q : Int32 × St), rc i S = some q → MT vI wX (mX4_place d) (fun n0 => [.ref (n0 + 41), .int i]) S q) (hc : Cok Γ wX vI (mX4_place (d + 1))) (a1 : Int32) (a2 : Int32) : ∀ (n : Nat) (a3 : Int32) (S : St), Ok Γ wX 22 [(0, rv Γ 41), (1, .int a1), (2, .int a2), (3, .int a3)] [] S (fX4_place_L22 rc a1 a2 n a3 S) := by
  intro n
  induction n with
  | zero =>
    intro a3 S
    exact ok_none
  | succ n ih =>
    intro a3 S
    show Ok Γ wX 22 [(0, rv Γ 41), (1, .int a1), (2, .int a2), (3, .int a3)] [] S (fX4_place_L22_st rc a1 a2 (fX4_place_L22 rc a1 a2 n) a3 S)
    unfold fX4_place_L22_st
    refine ok_iload_n 3 hc dX4_place_22 rfl rfl ?_
    refine ok_iload_n 2 hc dX4_place_23 rfl rfl ?_
    refine ok_icmp_ge_ite 113 hc dX4_place_24 (by decide) (fun h1 => ?_) (fun h1 => ?_)
    · refine ok_iconst (v := 0) hc dX4_place_113 (by decide) ?_
      exact ok_zretK hc rfl (by decide) dX4_place_114
    · refine ok_iload_n 3 hc dX4_place_27 rfl rfl ?_
      refine ok_bipush (v := 8) hc dX4_place_28 (by decide) ?_
      refine ok_icmp_ge_ite 113 hc dX4_place_30 (by decide) (fun h2 => ?_) (fun h2 => ?_)
      · refine ok_iconst (v := 0) hc dX4_place_113 (by decide) ?_
        exact ok_zretK hc rfl (by decide) dX4_place_114
      · refine ok_aload_n 0 hc dX4_place_33 rfl rfl ?_
        refine ok_getr 44 hc FS_X4_26 rfl sX_41 rfl dX4_place_34 ?_
        refine ok_aload_n 0 hc dX4_place_37 rfl rfl ?_
        refine ok_getr 46 hc FS_X4_33 rfl sX_41 rfl dX4_place_38 ?_
        refine ok_iload_n 3 hc dX4_place_41 rfl rfl ?_
        refine ok_iald hc sX_46 dX4_place_42 (fun h3 => ?_)
        refine ok_iconst (v := 1) hc dX4_place_43 (by decide) ?_
        refine ok_iload_n 1 hc dX4_place_44 rfl rfl ?_
        refine ok_ishl hc dX4_place_45 ?_
        refine ok_ior hc dX4_place_46 ?_
        refine ok_zald hc sX_44 dX4_place_47 (fun h4 => ?_)
        refine ok_jn (fun g => ∀ (S5 : St), Ok Γ wX 96 [(0, rv Γ 41), (1, .int a1), (2, .int a2), (3, .int a3)] [] S5 (g S5)) ?_ (fun k6 hk6 => ?_)
        · intro S5
          refine ok_aload_n 0 hc dX4_place_96 rfl rfl ?_
          refine ok_getr 46 hc FS_X4_33 rfl sX_41 rfl dX4_place_97 ?_
          refine ok_iload_n 3 hc dX4_place_100 rfl rfl ?_
          refine ok_iald hc sX_46 dX4_place_101 (fun h7 => ?_)
          refine ok_if_ne_ite 107 hc dX4_place_102 (by decide) (fun h8 => ?_) (fun h8 => ?_)
          · refine ok_iinc (v := 1) 3 [(3, .int (a3 + 1)), (0, rv Γ 41), (1, .int a1), (2, .int a2)] hc dX4_place_107 rfl (by decide) (Nat.le_of_ble_eq_true rfl) rfl ?_
            refine ok_goto 22 hc dX4_place_110 (by decide) ?_
            refine ok_sub [1, 2, 3, 0] rfl ?_
            exact ih _ _
          · refine ok_iconst (v := 0) hc dX4_place_105 (by decide) ?_
            exact ok_zretK hc rfl (by decide) dX4_place_106
        · refine ok_if_eq_ite 96 hc dX4_place_48 (by decide) (fun h9 => ?_) (fun h9 => ?_)
          · exact hk6 _
          · refine ok_aload_n 0 hc dX4_place_51 rfl rfl ?_
            refine ok_getr 46 hc FS_X4_33 rfl sX_41 rfl dX4_place_52 ?_
            refine ok_iload_n 3 hc dX4_place_55 rfl rfl ?_
            refine ok_dup2 hc dX4_place_56 rfl rfl ?_
            refine ok_iald hc sX_46 dX4_place_57 (fun h10 => ?_)
            refine ok_iconst (v := 1) hc dX4_place_58 (by decide) ?_
            refine ok_iload_n 1 hc dX4_place_59 rfl rfl ?_
            refine ok_ishl hc dX4_place_60 ?_
            refine ok_ior hc dX4_place_61 ?_
            refine ok_iast hc sX_46 dX4_place_62 (fun h12 => ?_)
            refine ok_ltS (fun S11 => ?_)
            refine ok_aload_n 0 hc dX4_place_63 rfl rfl ?_
            refine ok_getr 47 hc FS_X4_36 rfl sX_41 rfl dX4_place_64 ?_
            refine ok_iload_n 1 hc dX4_place_67 rfl rfl ?_
            refine ok_iload_n 3 hc dX4_place_68 rfl rfl ?_
            refine ok_iast hc sX_47 dX4_place_69 (fun h14 => ?_)
            refine ok_ltS (fun S13 => ?_)
            refine ok_aload_n 0 hc dX4_place_70 rfl rfl ?_
            refine ok_iload_n 1 hc dX4_place_71 rfl rfl ?_
            refine ok_iconst (v := 1) hc dX4_place_72 (by decide) ?_
            refine ok_iadd hc dX4_place_73 ?_
            refine ok_callSi (As := [rv Γ 41, .int (a1 + 1)]) (st := []) (fun n0 => [.ref (n0 + 41), .int (a1 + 1)]) hc (SS_X4_104 d) rfl rfl rfl (plc_X4_place d) (Nat.le_of_ble_eq_true rfl) (fun q h => hrec _ _ q h) dX4_place_74 (fun v15 S16 => ?_)
            refine ok_if_eq_ite 82 hc dX4_place_77 (by decide) (fun h17 => ?_) (fun h17 => ?_)
            · refine ok_aload_n 0 hc dX4_place_82 rfl rfl ?_
              refine ok_getr 46 hc FS_X4_33 rfl sX_41 rfl dX4_place_83 ?_
              refine ok_iload_n 3 hc dX4_place_86 rfl rfl ?_
              refine ok_dup2 hc dX4_place_87 rfl rfl ?_
              refine ok_iald hc sX_46 dX4_place_88 (fun h18 => ?_)
              refine ok_iconst (v := 1) hc dX4_place_89 (by decide) ?_
              refine ok_iload_n 1 hc dX4_place_90 rfl rfl ?_
              refine ok_ishl hc dX4_place_91 ?_
              refine ok_iconst (v := (-1)) hc dX4_place_92 (by decide) ?_
              refine ok_ixor hc dX4_place_93 ?_
              refine ok_iand hc dX4_place_94 ?_
              refine ok_iast hc sX_46 dX4_place_95 (fun h20 => ?_)
              refine ok_ltS (fun S19 => ?_)
              exact hk6 _
            · refine ok_iconst (v := 1) hc dX4_place_80 (by decide) ?_
              exact ok_zretK hc rfl (by decide) dX4_place_81
set_option maxRecDepth 100000 in
set_option maxHeartbeats 4000000 in
theorem tX4_place : ∀ (d : Nat) (a1 : Int32) (S : St) (q : Int32 × St) (h : fX4_place d a1 S = some q), MT vI wX (mX4_place d) (fun n0 => [.ref (n0 + 41), .int a1]) S q := by
  intro d
  induction d with
  | zero => intro a1 S q h; cases h
  | succ d ihd =>
    intro a1 S q h
    have hrec := ihd
    generalize hrc : fX4_place d = rc at hrec
    have h : fX4_place_b rc a1 S = some q := by rw [← hrc]; exact h
    refine mt_of (show plainFor yX4_place = true from by decide) (fun _ => Nat.le_of_ble_eq_true rfl) ?_
    intro Γ hc _
    rw [← h]
    show Ok Γ wX 0 [(0, rv Γ 41), (1, .int a1)] [] S _
    unfold fX4_place_b
    refine ok_iload_n 1 hc dX4_place_0 rfl rfl ?_
    refine ok_aload_n 0 hc dX4_place_1 rfl rfl ?_
    refine ok_geti hc FS_X4_51 rfl sX_41 dX4_place_2 ?_
    refine ok_icmp_lt_ite 10 hc dX4_place_5 (by decide) (fun h1 => ?_) (fun h1 => ?_)
    · refine ok_aload_n 0 hc dX4_place_10 rfl rfl ?_
      refine ok_getr 45 hc FS_X4_30 rfl sX_41 rfl dX4_place_11 ?_
      refine ok_aload_n 0 hc dX4_place_14 rfl rfl ?_
      refine ok_callVi (As := []) (st := [rv Γ 45]) (fun n0 => [.ref (n0 + 41)]) hc VS_X4_69 sX_41 rfl rfl rfl (plc_X4_whole d) (Nat.le_of_ble_eq_true rfl) (fun q h => tX4_whole S q h) dX4_place_15 (fun v2 S3 => ?_)
      refine ok_iald hc sX_45 dX4_place_18 (fun h4 => ?_)
      refine ok_lti (fun v5 => ?_)
      refine ok_istore_n [(2, .int v5), (0, rv Γ 41), (1, .int a1)] hc dX4_place_19 rfl (Nat.le_of_ble_eq_true rfl) rfl ?_
      refine ok_iconst (v := 0) hc dX4_place_20 (by decide) ?_
      refine ok_istore_n [(3, .int 0), (2, .int v5), (0, rv Γ 41), (1, .int a1)] hc dX4_place_21 rfl (Nat.le_of_ble_eq_true rfl) rfl ?_
      refine ok_sub [2, 3, 1, 0] rfl ?_
      refine tX4_place_L22 hrec hc _ _   FU _ _
    · refine ok_iconst (v := 1) hc dX4_place_8 (by decide) ?_
      exact ok_zretK hc rfl (by decide) dX4_place_9
def fX4_divide (S : St) : Option (Int32 × St) :=
  bnd (fJ7_fill_53178 46 8 0 S) (fun _ S1 => bnd (fX4_whole S1) (fun v2 S3 => if ib v2 256 then (if (S3.1 45 (nt v2)) = 99 then (some (0, S3)) else (bnd (fX4_place 10 0 S3) (fun v6 S7 => if v6 = 0 then (some (0, S7)) else (some (1, S7))))) else none))
set_option maxRecDepth 100000 in
set_option maxHeartbeats 4000000 in
theorem tX4_divide (S : St) (q : Int32 × St) (h : fX4_divide S = some q) : MT vI wX mX4_divide (fun n0 => [.ref (n0 + 41)]) S q := by
  refine mt_of (show plainFor yX4_divide = true from by decide) (fun _ => Nat.le_of_ble_eq_true rfl) ?_
  intro Γ hc _
  rw [← h]
  show Ok Γ wX 0 [(0, rv Γ 41)] [] S _
  unfold fX4_divide
  refine ok_aload_n 0 hc dX4_divide_0 rfl rfl ?_
  refine ok_getr 46 hc FS_X4_33 rfl sX_41 rfl dX4_divide_1 ?_
  refine ok_iconst (v := 0) hc dX4_divide_4 (by decide) ?_
  refine ok_callSu (As := [rv Γ 46, .int 0]) (st := []) (fun n0 => [.ref (n0 + 46), .int 0]) hc SS_X4_98 rfl rfl rfl ⟨Nat.le_of_ble_eq_true rfl, Nat.le_of_ble_eq_true rfl⟩ (Nat.le_of_ble_eq_true rfl) (fun q h => tJ7_fill_53178 wX 46 8 0 sX_46 S q h) dX4_divide_5 (fun _ S1 => ?_)
  refine ok_aload_n 0 hc dX4_divide_8 rfl rfl ?_
  refine ok_getr 45 hc FS_X4_30 rfl sX_41 rfl dX4_divide_9 ?_
  refine ok_aload_n 0 hc dX4_divide_12 rfl rfl ?_
  refine ok_callVi (As := []) (st := [rv Γ 45]) (fun n0 => [.ref (n0 + 41)]) hc VS_X4_69 sX_41 rfl rfl rfl ⟨Nat.le_of_ble_eq_true rfl, Nat.le_of_ble_eq_true rfl⟩ (Nat.le_of_ble_eq_true rfl) (fun q h => tX4_whole S1 q h) dX4_divide_13 (fun v2 S3 => ?_)
  refine ok_iald hc sX_45 dX4_divide_16 (fun h4 => ?_)
  refine ok_bipush (v := 99) hc dX4_divide_17 (by decide) ?_
  refine ok_icmp_eq_ite 34 hc dX4_divide_19 (by decide) (fun h5 => ?_) (fun h5 => ?_)
  · refine ok_iconst (v := 0) hc dX4_divide_34 (by decide) ?_
    exact ok_zretK hc rfl (by decide) dX4_divide_35
  · refine ok_aload_n 0 hc dX4_divide_22 rfl rfl ?_
    refine ok_iconst (v := 0) hc dX4_divide_23 (by decide) ?_
    refine ok_callSi (As := [rv Γ 41, .int 0]) (st := []) (fun n0 => [.ref (n0 + 41), .int 0]) hc (SS_X4_104 10) rfl rfl rfl ⟨Nat.le_of_ble_eq_true rfl, Nat.le_of_ble_eq_true rfl⟩ (Nat.le_of_ble_eq_true rfl) (fun q h => tX4_place 10 0 S3 q h) dX4_divide_24 (fun v6 S7 => ?_)
    refine ok_if_eq_ite 34 hc dX4_divide_27 (by decide) (fun h8 => ?_) (fun h8 => ?_)
    · refine ok_iconst (v := 0) hc dX4_divide_34 (by decide) ?_
      exact ok_zretK hc rfl (by decide) dX4_divide_35
    · refine ok_iconst (v := 1) hc dX4_divide_30 (by decide) ?_
      refine ok_goto 35 hc dX4_divide_31 (by decide) ?_
      exact ok_zretK hc rfl (by decide) dX4_divide_35
def fX4_fewestSlots (S : St) : Option (Int32 × St) :=
  bnd (fX4_whole S) (fun v1 S2 => if ib v1 256 then (if (S2.1 45 (nt v1)) = 99 then (some ((-1), S2)) else (bnd (fX4_whole S2) (fun v5 S6 => if ib v5 256 then (some (S6.1 45 (nt v5), S6)) else none))) else none)
set_option maxRecDepth 100000 in
set_option maxHeartbeats 4000000 in
theorem tX4_fewestSlots (S : St) (q : Int32 × St) (h : fX4_fewestSlots S = some q) : MT vI wX mX4_fewestSlots (fun n0 => [.ref (n0 + 41)]) S q := by
  refine mt_of (show plainFor yX4_fewestSlots = true from by decide) (fun _ => Nat.le_of_ble_eq_true rfl) ?_
  intro Γ hc _
  rw [← h]
  show Ok Γ wX 0 [(0, rv Γ 41)] [] S _
  unfold fX4_fewestSlots
  refine ok_aload_n 0 hc dX4_fewestSlots_0 rfl rfl ?_
  refine ok_getr 45 hc FS_X4_30 rfl sX_41 rfl dX4_fewestSlots_1 ?_
  refine ok_aload_n 0 hc dX4_fewestSlots_4 rfl rfl ?_
  refine ok_callVi (As := []) (st := [rv Γ 45]) (fun n0 => [.ref (n0 + 41)]) hc VS_X4_69 sX_41 rfl rfl rfl ⟨Nat.le_of_ble_eq_true rfl, Nat.le_of_ble_eq_true rfl⟩ (Nat.le_of_ble_eq_true rfl) (fun q h => tX4_whole S q h) dX4_fewestSlots_5 (fun v1 S2 => ?_)
  refine ok_iald hc sX_45 dX4_fewestSlots_8 (fun h3 => ?_)
  refine ok_bipush (v := 99) hc dX4_fewestSlots_9 (by decide) ?_
  refine ok_icmp_ne_ite 18 hc dX4_fewestSlots_11 (by decide) (fun h4 => ?_) (fun h4 => ?_)
  · refine ok_aload_n 0 hc dX4_fewestSlots_18 rfl rfl ?_
    refine ok_getr 45 hc FS_X4_30 rfl sX_41 rfl dX4_fewestSlots_19 ?_
    refine ok_aload_n 0 hc dX4_fewestSlots_22 rfl rfl ?_
    refine ok_callVi (As := []) (st := [rv Γ 45]) (fun n0 => [.ref (n0 + 41)]) hc VS_X4_69 sX_41 rfl rfl rfl ⟨Nat.le_of_ble_eq_true rfl, Nat.le_of_ble_eq_true rfl⟩ (Nat.le_of_ble_eq_true rfl) (fun q h => tX4_whole S2 q h) dX4_fewestSlots_23 (fun v5 S6 => ?_)
    refine ok_iald hc sX_45 dX4_fewestSlots_26 (fun h7 => ?_)
    exact ok_iret hc rfl dX4_fewestSlots_27
  · refine ok_iconst (v := (-1)) hc dX4_fewestSlots_14 (by decide) ?_
    refine ok_goto 27 hc dX4_fewestSlots_15 (by decide) ?_
    exact ok_iret hc rfl dX4_fewestSlots_27
def fX4_worthOf_L4_st (a1 : Int32) (rec : Int32 → Int32 → St → Option (Int32 × St)) (a2 : Int32) (a3 : Int32) (S : St) : Option (Int32 × St) :=
  if (S.1 41 8) ≤ a3 then (some (a2, S)) else (jn (fun (v2 : Int32) => rec v2 (a3 + 1) S) (fun k3 => if ((a1 >>> (a3 &&& 31)) &&& 1) = 0 then (k3 a2) else (if ib a3 8 then (if ib (S.1 42 (nt a3)) 20 then (lt (a2 + (S.1 (19 + nt (S.1 42 (nt a3))) 6)) (fun (v7 : Int32) => k3 v7)) else none) else none)))
def fX4_worthOf_L4 (a1 : Int32) : Nat → Int32 → Int32 → St → Option (Int32 × St)
  | 0 => fun _ _ _ => none
  | n + 1 => fun a2 a3 S => fX4_worthOf_L4_st a1 (fX4_worthOf_L4 a1 n) a2 a3 S
def fX4_worthOf (a1 : Int32) (S : St) : Option (Int32 × St) :=
  fX4_worthOf_L4 a1 FU 0 0 S
set_option maxRecDepth 100000 in
set_option maxHeartbeats 4000000 in
theorem tX4_worthOf_L4 {Γ : Cx Int32} (hc : Cok Γ wX vI mX4_worthOf) (a1 : Int32) : ∀ (n : Nat) (a2 : Int32) (a3 : Int32) (S : St), Ok Γ wX 4 [(0, rv Γ 41), (1, .int a1), (2, .int a2), (3, .int a3)] [] S (fX4_worthOf_L4 a1 n a2 a3 S) := by
  intro n
  induction n with
  | zero =>
    intro a2 a3 S
    exact ok_none
  | succ n ih =>
    intro a2 a3 S
    show Ok Γ wX 4 [(0, rv Γ 41), (1, .int a1), (2, .int a2), (3, .int a3)] [] S (fX4_worthOf_L4_st a1 (fX4_worthOf_L4 a1 n) a2 a3 S)
    unfold fX4_worthOf_L4_st
    refine ok_iload_n 3 hc dX4_worthOf_4 rfl rfl ?_
    refine ok_aload_n 0 hc dX4_worthOf_5 rfl rfl ?_
    refine ok_geti hc FS_X4_51 rfl sX_41 dX4_worthOf_6 ?_
    refine ok_icmp_ge_ite 46 hc dX4_worthOf_9 (by decide) (fun h1 => ?_) (fun h1 => ?_)
    · refine ok_iload_n 2 hc dX4_worthOf_46 rfl rfl ?_
      exact ok_iret hc rfl dX4_worthOf_47
    · refine ok_iload_n 1 hc dX4_worthOf_12 rfl rfl ?_
      refine ok_iload_n 3 hc dX4_worthOf_13 rfl rfl ?_
      refine ok_ishr hc dX4_worthOf_14 ?_
      refine ok_iconst (v := 1) hc dX4_worthOf_15 (by decide) ?_
      refine ok_iand hc dX4_worthOf_16 ?_
      refine ok_jn (fun g => ∀ (v2 : Int32), Ok Γ wX 40 [(0, rv Γ 41), (1, .int a1), (2, .int v2), (3, .int a3)] [] S (g v2)) ?_ (fun k3 hk3 => ?_)
      · intro v2
        refine ok_iinc (v := 1) 3 [(3, .int (a3 + 1)), (0, rv Γ 41), (1, .int a1), (2, .int v2)] hc dX4_worthOf_40 rfl (by decide) (Nat.le_of_ble_eq_true rfl) rfl ?_
        refine ok_goto 4 hc dX4_worthOf_43 (by decide) ?_
        refine ok_sub [1, 2, 3, 0] rfl ?_
        exact ih _ _ _
      · refine ok_if_eq_ite 40 hc dX4_worthOf_17 (by decide) (fun h4 => ?_) (fun h4 => ?_)
        · exact hk3 _
        · refine ok_iload_n 2 hc dX4_worthOf_20 rfl rfl ?_
          refine ok_aload_n 0 hc dX4_worthOf_21 rfl rfl ?_
          refine ok_getr 17 hc FS_X4_15 rfl sX_41 rfl dX4_worthOf_22 ?_
          refine ok_getr 18 hc FS_X4_52 rfl sX_17 rfl dX4_worthOf_25 ?_
          refine ok_aload_n 0 hc dX4_worthOf_28 rfl rfl ?_
          refine ok_getr 42 hc FS_X4_19 rfl sX_41 rfl dX4_worthOf_29 ?_
          refine ok_iload_n 3 hc dX4_worthOf_32 rfl rfl ?_
          refine ok_iald hc sX_42 dX4_worthOf_33 (fun h5 => ?_)
          refine ok_aald (fun j => 19 + j) "AirParted$Sender" hc sX_18 rfl snd_rf dX4_worthOf_34 (fun h6 => ?_)
          show Ok Γ wX 35 [(0, rv Γ 41), (1, .int a1), (2, .int a2), (3, .int a3)] (rv Γ (19 + nt (S.1 42 (nt a3))) :: [.int a2]) S _
          refine ok_geti hc FS_X4_114 rfl (snd_ob h6) dX4_worthOf_35 ?_
          refine ok_iadd hc dX4_worthOf_38 ?_
          refine ok_lti (fun v7 => ?_)
          refine ok_istore_n [(2, .int v7), (0, rv Γ 41), (1, .int a1), (3, .int a3)] hc dX4_worthOf_39 rfl (Nat.le_of_ble_eq_true rfl) rfl ?_
          refine ok_sub [1, 2, 0, 3] rfl ?_
          exact hk3 _
set_option maxRecDepth 100000 in
set_option maxHeartbeats 4000000 in
theorem tX4_worthOf (a1 : Int32) (S : St) (q : Int32 × St) (h : fX4_worthOf a1 S = some q) : MT vI wX mX4_worthOf (fun n0 => [.ref (n0 + 41), .int a1]) S q := by
  refine mt_of (show plainFor yX4_worthOf = true from by decide) (fun _ => Nat.le_of_ble_eq_true rfl) ?_
  intro Γ hc _
  rw [← h]
  show Ok Γ wX 0 [(0, rv Γ 41), (1, .int a1)] [] S _
  unfold fX4_worthOf
  refine ok_iconst (v := 0) hc dX4_worthOf_0 (by decide) ?_
  refine ok_istore_n [(2, .int 0), (0, rv Γ 41), (1, .int a1)] hc dX4_worthOf_1 rfl (Nat.le_of_ble_eq_true rfl) rfl ?_
  refine ok_iconst (v := 0) hc dX4_worthOf_2 (by decide) ?_
  refine ok_istore_n [(3, .int 0), (2, .int 0), (0, rv Γ 41), (1, .int a1)] hc dX4_worthOf_3 rfl (Nat.le_of_ble_eq_true rfl) rfl ?_
  refine ok_sub [2, 3, 1, 0] rfl ?_
  refine tX4_worthOf_L4 hc _   FU _ _ _
def fX4_asSenders_L4_st (a1 : Int32) (rec : Int32 → Int32 → St → Option (Int32 × St)) (a2 : Int32) (a3 : Int32) (S : St) : Option (Int32 × St) :=
  if (S.1 41 8) ≤ a3 then (some (a2, S)) else (jn (fun (v2 : Int32) => rec v2 (a3 + 1) S) (fun k3 => if ((a1 >>> (a3 &&& 31)) &&& 1) = 0 then (k3 a2) else (if ib a3 8 then (lt (a2 ||| (1 <<< ((S.1 42 (nt a3)) &&& 31))) (fun (v6 : Int32) => k3 v6)) else none)))
def fX4_asSenders_L4 (a1 : Int32) : Nat → Int32 → Int32 → St → Option (Int32 × St)
  | 0 => fun _ _ _ => none
  | n + 1 => fun a2 a3 S => fX4_asSenders_L4_st a1 (fX4_asSenders_L4 a1 n) a2 a3 S
def fX4_asSenders (a1 : Int32) (S : St) : Option (Int32 × St) :=
  fX4_asSenders_L4 a1 FU 0 0 S
set_option maxRecDepth 100000 in
set_option maxHeartbeats 4000000 in
theorem tX4_asSenders_L4 {Γ : Cx Int32} (hc : Cok Γ wX vI mX4_asSenders) (a1 : Int32) : ∀ (n : Nat) (a2 : Int32) (a3 : Int32) (S : St), Ok Γ wX 4 [(0, rv Γ 41), (1, .int a1), (2, .int a2), (3, .int a3)] [] S (fX4_asSenders_L4 a1 n a2 a3 S) := by
  intro n
  induction n with
  | zero =>
    intro a2 a3 S
    exact ok_none
  | succ n ih =>
    intro a2 a3 S
    show Ok Γ wX 4 [(0, rv Γ 41), (1, .int a1), (2, .int a2), (3, .int a3)] [] S (fX4_asSenders_L4_st a1 (fX4_asSenders_L4 a1 n) a2 a3 S)
    unfold fX4_asSenders_L4_st
    refine ok_iload_n 3 hc dX4_asSenders_4 rfl rfl ?_
    refine ok_aload_n 0 hc dX4_asSenders_5 rfl rfl ?_
    refine ok_geti hc FS_X4_51 rfl sX_41 dX4_asSenders_6 ?_
    refine ok_icmp_ge_ite 37 hc dX4_asSenders_9 (by decide) (fun h1 => ?_) (fun h1 => ?_)
    · refine ok_iload_n 2 hc dX4_asSenders_37 rfl rfl ?_
      exact ok_iret hc rfl dX4_asSenders_38
    · refine ok_iload_n 1 hc dX4_asSenders_12 rfl rfl ?_
      refine ok_iload_n 3 hc dX4_asSenders_13 rfl rfl ?_
      refine ok_ishr hc dX4_asSenders_14 ?_
      refine ok_iconst (v := 1) hc dX4_asSenders_15 (by decide) ?_
      refine ok_iand hc dX4_asSenders_16 ?_
      refine ok_jn (fun g => ∀ (v2 : Int32), Ok Γ wX 31 [(0, rv Γ 41), (1, .int a1), (2, .int v2), (3, .int a3)] [] S (g v2)) ?_ (fun k3 hk3 => ?_)
      · intro v2
        refine ok_iinc (v := 1) 3 [(3, .int (a3 + 1)), (0, rv Γ 41), (1, .int a1), (2, .int v2)] hc dX4_asSenders_31 rfl (by decide) (Nat.le_of_ble_eq_true rfl) rfl ?_
        refine ok_goto 4 hc dX4_asSenders_34 (by decide) ?_
        refine ok_sub [1, 2, 3, 0] rfl ?_
        exact ih _ _ _
      · refine ok_if_eq_ite 31 hc dX4_asSenders_17 (by decide) (fun h4 => ?_) (fun h4 => ?_)
        · exact hk3 _
        · refine ok_iload_n 2 hc dX4_asSenders_20 rfl rfl ?_
          refine ok_iconst (v := 1) hc dX4_asSenders_21 (by decide) ?_
          refine ok_aload_n 0 hc dX4_asSenders_22 rfl rfl ?_
          refine ok_getr 42 hc FS_X4_19 rfl sX_41 rfl dX4_asSenders_23 ?_
          refine ok_iload_n 3 hc dX4_asSenders_26 rfl rfl ?_
          refine ok_iald hc sX_42 dX4_asSenders_27 (fun h5 => ?_)
          refine ok_ishl hc dX4_asSenders_28 ?_
          refine ok_ior hc dX4_asSenders_29 ?_
          refine ok_lti (fun v6 => ?_)
          refine ok_istore_n [(2, .int v6), (0, rv Γ 41), (1, .int a1), (3, .int a3)] hc dX4_asSenders_30 rfl (Nat.le_of_ble_eq_true rfl) rfl ?_
          refine ok_sub [1, 2, 0, 3] rfl ?_
          exact hk3 _
set_option maxRecDepth 100000 in
set_option maxHeartbeats 4000000 in
theorem tX4_asSenders (a1 : Int32) (S : St) (q : Int32 × St) (h : fX4_asSenders a1 S = some q) : MT vI wX mX4_asSenders (fun n0 => [.ref (n0 + 41), .int a1]) S q := by
  refine mt_of (show plainFor yX4_asSenders = true from by decide) (fun _ => Nat.le_of_ble_eq_true rfl) ?_
  intro Γ hc _
  rw [← h]
  show Ok Γ wX 0 [(0, rv Γ 41), (1, .int a1)] [] S _
  unfold fX4_asSenders
  refine ok_iconst (v := 0) hc dX4_asSenders_0 (by decide) ?_
  refine ok_istore_n [(2, .int 0), (0, rv Γ 41), (1, .int a1)] hc dX4_asSenders_1 rfl (Nat.le_of_ble_eq_true rfl) rfl ?_
  refine ok_iconst (v := 0) hc dX4_asSenders_2 (by decide) ?_
  refine ok_istore_n [(3, .int 0), (2, .int 0), (0, rv Γ 41), (1, .int a1)] hc dX4_asSenders_3 rfl (Nat.le_of_ble_eq_true rfl) rfl ?_
  refine ok_sub [2, 3, 1, 0] rfl ?_
  refine tX4_asSenders_L4 hc _   FU _ _ _
def fX4_mostWorth_L4_st (kx0 : Int32 → St → Option (Int32 × St)) (a1 : Int32) (rec : Int32 → Int32 → St → Option (Int32 × St)) (a2 : Int32) (a3 : Int32) (S : St) : Option (Int32 × St) :=
  bnd (fX4_whole S) (fun v1 S2 => if v1 < a3 then (kx0 a2 S2) else (if ib a3 256 then (jn (fun (v5 : Int32) (S6 : St) => rec v5 (a3 + 1) S6) (fun k7 => if a1 < (S2.1 45 (nt a3)) then (k7 a2 S2) else (bnd (fX4_worthOf a3 S2) (fun v9 S10 => bnd (fX4_worthOf a2 S10) (fun v11 S12 => lt (v9 - v11) (fun (v13 : Int32) => if 0 < v13 then (k7 a3 S12) else (if v13 = 0 then (bnd (fJ6_bitCount_0f7a4 a3 S12) (fun v16 S17 => bnd (fJ6_bitCount_0f7a4 a2 S17) (fun v18 S19 => if v18 ≤ v16 then (k7 a2 S19) else (k7 a3 S19)))) else (k7 a2 S12)))))))) else none))
def fX4_mostWorth_L4 (kx0 : Int32 → St → Option (Int32 × St)) (a1 : Int32) : Nat → Int32 → Int32 → St → Option (Int32 × St)
  | 0 => fun _ _ _ => none
  | n + 1 => fun a2 a3 S => fX4_mostWorth_L4_st kx0 a1 (fX4_mostWorth_L4 kx0 a1 n) a2 a3 S
def fX4_mostWorth (a1 : Int32) (S : St) : Option (Int32 × St) :=
  fX4_mostWorth_L4 (fun (v1 : Int32) (S2 : St) => bnd (fX4_asSenders v1 S2) (fun v3 S4 => some (v3, S4))) a1 FU 0 1 S
set_option maxRecDepth 100000 in
set_option maxHeartbeats 4000000 in
theorem tX4_mostWorth_L4 {Γ : Cx Int32} (hc : Cok Γ wX vI mX4_mostWorth) (kx0 : Int32 → St → Option (Int32 × St)) (a1 : Int32) (hx0 : ∀ (a2 : Int32) (S : St), Ok Γ wX 64 [(0, rv Γ 41), (2, .int a2)] [] S (kx0 a2 S)) : ∀ (n : Nat) (a2 : Int32) (a3 : Int32) (S : St), Ok Γ wX 4 [(0, rv Γ 41), (1, .int a1), (2, .int a2), (3, .int a3)] [] S (fX4_mostWorth_L4 kx0 a1 n a2 a3 S) := by
  intro n
  induction n with
  | zero =>
    intro a2 a3 S
    exact ok_none
  | succ n ih =>
    intro a2 a3 S
    show Ok Γ wX 4 [(0, rv Γ 41), (1, .int a1), (2, .int a2), (3, .int a3)] [] S (fX4_mostWorth_L4_st kx0 a1 (fX4_mostWorth_L4 kx0 a1 n) a2 a3 S)
    unfold fX4_mostWorth_L4_st
    refine ok_iload_n 3 hc dX4_mostWorth_4 rfl rfl ?_
    refine ok_aload_n 0 hc dX4_mostWorth_5 rfl rfl ?_
    refine ok_callVi (As := []) (st := [.int a3]) (fun n0 => [.ref (n0 + 41)]) hc VS_X4_69 sX_41 rfl rfl rfl ⟨Nat.le_of_ble_eq_true rfl, Nat.le_of_ble_eq_true rfl⟩ (Nat.le_of_ble_eq_true rfl) (fun q h => tX4_whole S q h) dX4_mostWorth_6 (fun v1 S2 => ?_)
    refine ok_icmp_gt_ite 64 hc dX4_mostWorth_9 (by decide) (fun h3 => ?_) (fun h3 => ?_)
    · refine ok_sub [0, 2] rfl ?_
      exact hx0 _ _
    · refine ok_aload_n 0 hc dX4_mostWorth_12 rfl rfl ?_
      refine ok_getr 45 hc FS_X4_30 rfl sX_41 rfl dX4_mostWorth_13 ?_
      refine ok_iload_n 3 hc dX4_mostWorth_16 rfl rfl ?_
      refine ok_iald hc sX_45 dX4_mostWorth_17 (fun h4 => ?_)
      refine ok_iload_n 1 hc dX4_mostWorth_18 rfl rfl ?_
      refine ok_jn (fun g => ∀ (v5 : Int32) (S6 : St), Ok Γ wX 58 [(0, rv Γ 41), (1, .int a1), (2, .int v5), (3, .int a3)] [] S6 (g v5 S6)) ?_ (fun k7 hk7 => ?_)
      · intro v5 S6
        refine ok_iinc (v := 1) 3 [(3, .int (a3 + 1)), (0, rv Γ 41), (1, .int a1), (2, .int v5)] hc dX4_mostWorth_58 rfl (by decide) (Nat.le_of_ble_eq_true rfl) rfl ?_
        refine ok_goto 4 hc dX4_mostWorth_61 (by decide) ?_
        refine ok_sub [1, 2, 3, 0] rfl ?_
        exact ih _ _ _
      · refine ok_icmp_gt_ite 58 hc dX4_mostWorth_19 (by decide) (fun h8 => ?_) (fun h8 => ?_)
        · exact hk7 _ _
        · refine ok_aload_n 0 hc dX4_mostWorth_22 rfl rfl ?_
          refine ok_iload_n 3 hc dX4_mostWorth_23 rfl rfl ?_
          refine ok_callVi (As := [.int a3]) (st := []) (fun n0 => [.ref (n0 + 41), .int a3]) hc VS_X4_108 sX_41 rfl rfl rfl ⟨Nat.le_of_ble_eq_true rfl, Nat.le_of_ble_eq_true rfl⟩ (Nat.le_of_ble_eq_true rfl) (fun q h => tX4_worthOf a3 S2 q h) dX4_mostWorth_24 (fun v9 S10 => ?_)
          refine ok_aload_n 0 hc dX4_mostWorth_27 rfl rfl ?_
          refine ok_iload_n 2 hc dX4_mostWorth_28 rfl rfl ?_
          refine ok_callVi (As := [.int a2]) (st := [.int v9]) (fun n0 => [.ref (n0 + 41), .int a2]) hc VS_X4_108 sX_41 rfl rfl rfl ⟨Nat.le_of_ble_eq_true rfl, Nat.le_of_ble_eq_true rfl⟩ (Nat.le_of_ble_eq_true rfl) (fun q h => tX4_worthOf a2 S10 q h) dX4_mostWorth_29 (fun v11 S12 => ?_)
          refine ok_isub hc dX4_mostWorth_32 ?_
          refine ok_lti (fun v13 => ?_)
          refine ok_istore [(4, .int v13), (0, rv Γ 41), (1, .int a1), (2, .int a2), (3, .int a3)] hc dX4_mostWorth_33 (Nat.le_of_ble_eq_true rfl) rfl ?_
          refine ok_iload 0 hc dX4_mostWorth_35 rfl ?_
          refine ok_if_gt_ite 56 hc dX4_mostWorth_37 (by decide) (fun h14 => ?_) (fun h14 => ?_)
          · refine ok_iload_n 4 hc dX4_mostWorth_56 rfl rfl ?_
            refine ok_istore_n [(2, .int a3), (4, .int v13), (0, rv Γ 41), (1, .int a1), (3, .int a3)] hc dX4_mostWorth_57 rfl (Nat.le_of_ble_eq_true rfl) rfl ?_
            refine ok_sub [2, 3, 0, 4] rfl ?_
            exact hk7 _ _
          · refine ok_iload 0 hc dX4_mostWorth_40 rfl ?_
            refine ok_if_ne_ite 58 hc dX4_mostWorth_42 (by decide) (fun h15 => ?_) (fun h15 => ?_)
            · refine ok_sub [1, 2, 3, 4] rfl ?_
              exact hk7 _ _
            · refine ok_iload_n 4 hc dX4_mostWorth_45 rfl rfl ?_
              refine ok_callSi (As := [.int a3]) (st := []) (fun n0 => [.int a3]) hc SS_X4_39 rfl rfl rfl ⟨Nat.le_of_ble_eq_true rfl, Nat.le_of_ble_eq_true rfl⟩ (Nat.le_of_ble_eq_true rfl) (fun q h => tJ6_bitCount_0f7a4 wX a3 S12 q h) dX4_mostWorth_46 (fun v16 S17 => ?_)
              refine ok_iload_n 3 hc dX4_mostWorth_49 rfl rfl ?_
              refine ok_callSi (As := [.int a2]) (st := [.int v16]) (fun n0 => [.int a2]) hc SS_X4_39 rfl rfl rfl ⟨Nat.le_of_ble_eq_true rfl, Nat.le_of_ble_eq_true rfl⟩ (Nat.le_of_ble_eq_true rfl) (fun q h => tJ6_bitCount_0f7a4 wX a2 S17 q h) dX4_mostWorth_50 (fun v18 S19 => ?_)
              refine ok_icmp_ge_ite 58 hc dX4_mostWorth_53 (by decide) (fun h20 => ?_) (fun h20 => ?_)
              · refine ok_sub [1, 2, 3, 4] rfl ?_
                exact hk7 _ _
              · refine ok_iload_n 4 hc dX4_mostWorth_56 rfl rfl ?_
                refine ok_istore_n [(2, .int a3), (4, .int v13), (0, rv Γ 41), (1, .int a1), (3, .int a3)] hc dX4_mostWorth_57 rfl (Nat.le_of_ble_eq_true rfl) rfl ?_
                refine ok_sub [2, 3, 0, 4] rfl ?_
                exact hk7 _ _
set_option maxRecDepth 100000 in
set_option maxHeartbeats 4000000 in
theorem tX4_mostWorth (a1 : Int32) (S : St) (q : Int32 × St) (h : fX4_mostWorth a1 S = some q) : MT vI wX mX4_mostWorth (fun n0 => [.ref (n0 + 41), .int a1]) S q := by
  refine mt_of (show plainFor yX4_mostWorth = true from by decide) (fun _ => Nat.le_of_ble_eq_true rfl) ?_
  intro Γ hc _
  rw [← h]
  show Ok Γ wX 0 [(0, rv Γ 41), (1, .int a1)] [] S _
  unfold fX4_mostWorth
  refine ok_iconst (v := 0) hc dX4_mostWorth_0 (by decide) ?_
  refine ok_istore_n [(2, .int 0), (0, rv Γ 41), (1, .int a1)] hc dX4_mostWorth_1 rfl (Nat.le_of_ble_eq_true rfl) rfl ?_
  refine ok_iconst (v := 1) hc dX4_mostWorth_2 (by decide) ?_
  refine ok_istore_n [(3, .int 1), (2, .int 0), (0, rv Γ 41), (1, .int a1)] hc dX4_mostWorth_3 rfl (Nat.le_of_ble_eq_true rfl) rfl ?_
  refine ok_sub [2, 3, 1, 0] rfl ?_
  refine tX4_mostWorth_L4 hc _ _  ?_ FU _ _ _
  · intro v1 S2
    refine ok_aload_n 0 hc dX4_mostWorth_64 rfl rfl ?_
    refine ok_iload_n 1 hc dX4_mostWorth_65 rfl rfl ?_
    refine ok_callVi (As := [.int v1]) (st := []) (fun n0 => [.ref (n0 + 41), .int v1]) hc VS_X4_111 sX_41 rfl rfl rfl ⟨Nat.le_of_ble_eq_true rfl, Nat.le_of_ble_eq_true rfl⟩ (Nat.le_of_ble_eq_true rfl) (fun q h => tX4_asSenders v1 S2 q h) dX4_mostWorth_66 (fun v3 S4 => ?_)
    exact ok_iret hc rfl dX4_mostWorth_69
def fX4_leastThatCannot_L4_st (kx0 : Int32 → St → Option (Int32 × St)) (a1 : Int32) (rec : Int32 → Int32 → St → Option (Int32 × St)) (a2 : Int32) (a3 : Int32) (S : St) : Option (Int32 × St) :=
  bnd (fX4_whole S) (fun v1 S2 => if v1 < a3 then (kx0 a2 S2) else (jn (fun (v4 : Int32) (S5 : St) => jn (fun (v7 : Int32) => rec v7 (a3 + 1) S5) (fun k8 => if v4 = 0 then (k8 a2) else (if ib a3 256 then (if (S5.1 45 (nt a3)) ≤ a1 then (k8 a2) else (k8 a3)) else none))) (fun k6 => if a2 = 0 then (k6 1 S2) else (bnd (fJ6_bitCount_0f7a4 a3 S2) (fun v13 S14 => bnd (fJ6_bitCount_0f7a4 a2 S14) (fun v15 S16 => if v15 ≤ v13 then (k6 0 S16) else (k6 1 S16)))))))
def fX4_leastThatCannot_L4 (kx0 : Int32 → St → Option (Int32 × St)) (a1 : Int32) : Nat → Int32 → Int32 → St → Option (Int32 × St)
  | 0 => fun _ _ _ => none
  | n + 1 => fun a2 a3 S => fX4_leastThatCannot_L4_st kx0 a1 (fX4_leastThatCannot_L4 kx0 a1 n) a2 a3 S
def fX4_leastThatCannot (a1 : Int32) (S : St) : Option (Int32 × St) :=
  fX4_leastThatCannot_L4 (fun (v1 : Int32) (S2 : St) => bnd (fX4_asSenders v1 S2) (fun v3 S4 => some (v3, S4))) a1 FU 0 1 S
set_option maxRecDepth 100000 in
set_option maxHeartbeats 4000000 in
theorem tX4_leastThatCannot_L4 {Γ : Cx Int32} (hc : Cok Γ wX vI mX4_leastThatCannot) (kx0 : Int32 → St → Option (Int32 × St)) (a1 : Int32) (hx0 : ∀ (a2 : Int32) (S : St), Ok Γ wX 57 [(0, rv Γ 41), (2, .int a2)] [] S (kx0 a2 S)) : ∀ (n : Nat) (a2 : Int32) (a3 : Int32) (S : St), Ok Γ wX 4 [(0, rv Γ 41), (1, .int a1), (2, .int a2), (3, .int a3)] [] S (fX4_leastThatCannot_L4 kx0 a1 n a2 a3 S) := by
  intro n
  induction n with
  | zero =>
    intro a2 a3 S
    exact ok_none
  | succ n ih =>
    intro a2 a3 S
    show Ok Γ wX 4 [(0, rv Γ 41), (1, .int a1), (2, .int a2), (3, .int a3)] [] S (fX4_leastThatCannot_L4_st kx0 a1 (fX4_leastThatCannot_L4 kx0 a1 n) a2 a3 S)
    unfold fX4_leastThatCannot_L4_st
    refine ok_iload_n 3 hc dX4_leastThatCannot_4 rfl rfl ?_
    refine ok_aload_n 0 hc dX4_leastThatCannot_5 rfl rfl ?_
    refine ok_callVi (As := []) (st := [.int a3]) (fun n0 => [.ref (n0 + 41)]) hc VS_X4_69 sX_41 rfl rfl rfl ⟨Nat.le_of_ble_eq_true rfl, Nat.le_of_ble_eq_true rfl⟩ (Nat.le_of_ble_eq_true rfl) (fun q h => tX4_whole S q h) dX4_leastThatCannot_6 (fun v1 S2 => ?_)
    refine ok_icmp_gt_ite 57 hc dX4_leastThatCannot_9 (by decide) (fun h3 => ?_) (fun h3 => ?_)
    · refine ok_sub [0, 2] rfl ?_
      exact hx0 _ _
    · refine ok_iload_n 2 hc dX4_leastThatCannot_12 rfl rfl ?_
      refine ok_jn (fun g => ∀ (v4 : Int32) (S5 : St), Ok Γ wX 32 [(0, rv Γ 41), (1, .int a1), (2, .int a2), (3, .int a3)] [.int v4] S5 (g v4 S5)) ?_ (fun k6 hk6 => ?_)
      · intro v4 S5
        refine ok_istore [(4, .int v4), (0, rv Γ 41), (1, .int a1), (2, .int a2), (3, .int a3)] hc dX4_leastThatCannot_32 (Nat.le_of_ble_eq_true rfl) rfl ?_
        refine ok_iload 0 hc dX4_leastThatCannot_34 rfl ?_
        refine ok_jn (fun g => ∀ (v7 : Int32), Ok Γ wX 51 [(0, rv Γ 41), (1, .int a1), (2, .int v7), (3, .int a3)] [] S5 (g v7)) ?_ (fun k8 hk8 => ?_)
        · intro v7
          refine ok_iinc (v := 1) 3 [(3, .int (a3 + 1)), (0, rv Γ 41), (1, .int a1), (2, .int v7)] hc dX4_leastThatCannot_51 rfl (by decide) (Nat.le_of_ble_eq_true rfl) rfl ?_
          refine ok_goto 4 hc dX4_leastThatCannot_54 (by decide) ?_
          refine ok_sub [1, 2, 3, 0] rfl ?_
          exact ih _ _ _
        · refine ok_if_eq_ite 51 hc dX4_leastThatCannot_36 (by decide) (fun h9 => ?_) (fun h9 => ?_)
          · refine ok_sub [1, 2, 3, 4] rfl ?_
            exact hk8 _
          · refine ok_aload_n 1 hc dX4_leastThatCannot_39 rfl rfl ?_
            refine ok_getr 45 hc FS_X4_30 rfl sX_41 rfl dX4_leastThatCannot_40 ?_
            refine ok_iload_n 4 hc dX4_leastThatCannot_43 rfl rfl ?_
            refine ok_iald hc sX_45 dX4_leastThatCannot_44 (fun h10 => ?_)
            refine ok_iload_n 2 hc dX4_leastThatCannot_45 rfl rfl ?_
            refine ok_icmp_le_ite 51 hc dX4_leastThatCannot_46 (by decide) (fun h11 => ?_) (fun h11 => ?_)
            · refine ok_sub [1, 2, 3, 4] rfl ?_
              exact hk8 _
            · refine ok_iload_n 4 hc dX4_leastThatCannot_49 rfl rfl ?_
              refine ok_istore_n [(2, .int a3), (4, .int v4), (0, rv Γ 41), (1, .int a1), (3, .int a3)] hc dX4_leastThatCannot_50 rfl (Nat.le_of_ble_eq_true rfl) rfl ?_
              refine ok_sub [2, 3, 0, 4] rfl ?_
              exact hk8 _
      · refine ok_if_eq_ite 27 hc dX4_leastThatCannot_13 (by decide) (fun h12 => ?_) (fun h12 => ?_)
        · refine ok_iconst (v := 1) hc dX4_leastThatCannot_27 (by decide) ?_
          refine ok_goto 32 hc dX4_leastThatCannot_28 (by decide) ?_
          exact hk6 _ _
        · refine ok_iload_n 3 hc dX4_leastThatCannot_16 rfl rfl ?_
          refine ok_callSi (As := [.int a3]) (st := []) (fun n0 => [.int a3]) hc SS_X4_39 rfl rfl rfl ⟨Nat.le_of_ble_eq_true rfl, Nat.le_of_ble_eq_true rfl⟩ (Nat.le_of_ble_eq_true rfl) (fun q h => tJ6_bitCount_0f7a4 wX a3 S2 q h) dX4_leastThatCannot_17 (fun v13 S14 => ?_)
          refine ok_iload_n 2 hc dX4_leastThatCannot_20 rfl rfl ?_
          refine ok_callSi (As := [.int a2]) (st := [.int v13]) (fun n0 => [.int a2]) hc SS_X4_39 rfl rfl rfl ⟨Nat.le_of_ble_eq_true rfl, Nat.le_of_ble_eq_true rfl⟩ (Nat.le_of_ble_eq_true rfl) (fun q h => tJ6_bitCount_0f7a4 wX a2 S14 q h) dX4_leastThatCannot_21 (fun v15 S16 => ?_)
          refine ok_icmp_ge_ite 31 hc dX4_leastThatCannot_24 (by decide) (fun h17 => ?_) (fun h17 => ?_)
          · refine ok_iconst (v := 0) hc dX4_leastThatCannot_31 (by decide) ?_
            exact hk6 _ _
          · refine ok_iconst (v := 1) hc dX4_leastThatCannot_27 (by decide) ?_
            refine ok_goto 32 hc dX4_leastThatCannot_28 (by decide) ?_
            exact hk6 _ _
set_option maxRecDepth 100000 in
set_option maxHeartbeats 4000000 in
theorem tX4_leastThatCannot (a1 : Int32) (S : St) (q : Int32 × St) (h : fX4_leastThatCannot a1 S = some q) : MT vI wX mX4_leastThatCannot (fun n0 => [.ref (n0 + 41), .int a1]) S q := by
  refine mt_of (show plainFor yX4_leastThatCannot = true from by decide) (fun _ => Nat.le_of_ble_eq_true rfl) ?_
  intro Γ hc _
  rw [← h]
  show Ok Γ wX 0 [(0, rv Γ 41), (1, .int a1)] [] S _
  unfold fX4_leastThatCannot
  refine ok_iconst (v := 0) hc dX4_leastThatCannot_0 (by decide) ?_
  refine ok_istore_n [(2, .int 0), (0, rv Γ 41), (1, .int a1)] hc dX4_leastThatCannot_1 rfl (Nat.le_of_ble_eq_true rfl) rfl ?_
  refine ok_iconst (v := 1) hc dX4_leastThatCannot_2 (by decide) ?_
  refine ok_istore_n [(3, .int 1), (2, .int 0), (0, rv Γ 41), (1, .int a1)] hc dX4_leastThatCannot_3 rfl (Nat.le_of_ble_eq_true rfl) rfl ?_
  refine ok_sub [2, 3, 1, 0] rfl ?_
  refine tX4_leastThatCannot_L4 hc _ _  ?_ FU _ _ _
  · intro v1 S2
    refine ok_aload_n 0 hc dX4_leastThatCannot_57 rfl rfl ?_
    refine ok_iload_n 1 hc dX4_leastThatCannot_58 rfl rfl ?_
    refine ok_callVi (As := [.int v1]) (st := []) (fun n0 => [.ref (n0 + 41), .int v1]) hc VS_X4_111 sX_41 rfl rfl rfl ⟨Nat.le_of_ble_eq_true rfl, Nat.le_of_ble_eq_true rfl⟩ (Nat.le_of_ble_eq_true rfl) (fun q h => tX4_asSenders v1 S2 q h) dX4_leastThatCannot_59 (fun v3 S4 => ?_)
    exact ok_iret hc rfl dX4_leastThatCannot_62
