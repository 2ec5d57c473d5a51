def fX0_againstWithout_L14_st (a1 : Int32) (rec : Int64 → Int32 → St → Option (Int64 × St)) (a2 : Int64) (a4 : Int32) (S : St) : Option (Int64 × St) :=
  if (S.1 17 8) ≤ a4 then (some (a2, S)) else (jn (fun (v2 : Int64) => rec v2 (a4 + 1) S) (fun k3 => if ((a1 >>> (a4 &&& 31)) &&& 1) = 0 then (if ib a4 20 then (lt (a2 + ((S.1 40 (nt a4)).toInt64)) (fun (v6 : Int64) => k3 v6)) else none) else (k3 a2)))
def fX0_againstWithout_L14 (a1 : Int32) : Nat → Int64 → Int32 → St → Option (Int64 × St)
  | 0 => fun _ _ _ => none
  | n + 1 => fun a2 a4 S => fX0_againstWithout_L14_st a1 (fX0_againstWithout_L14 a1 n) a2 a4 S
def fX0_againstWithout (a1 : Int32) (S : St) : Option (Int64 × St) :=
  lt ((S.1 2 (nt 2)).toInt64) (fun (v1 : Int64) => fX0_againstWithout_L14 a1 FU v1 0 S)
set_option maxRecDepth 100000 in
set_option maxHeartbeats 4000000 in
theorem tX0_againstWithout_L14 {Γ : Cx Int64} (hc : Cok Γ wX vL mX0_againstWithout) (a1 : Int32) : ∀ (n : Nat) (a2 : Int64) (a4 : Int32) (S : St), Ok Γ wX 14 [(0, rv Γ 17), (1, .int a1), (2, .long a2), (4, .int a4)] [] S (fX0_againstWithout_L14 a1 n a2 a4 S) := by
  intro n
  induction n with
  | zero =>
    intro a2 a4 S
    exact ok_none
  | succ n ih =>
    intro a2 a4 S
    show Ok Γ wX 14 [(0, rv Γ 17), (1, .int a1), (2, .long a2), (4, .int a4)] [] S (fX0_againstWithout_L14_st a1 (fX0_againstWithout_L14 a1 n) a2 a4 S)
    unfold fX0_againstWithout_L14_st
    refine ok_iload 3 hc dX0_againstWithout_14 rfl ?_
    refine ok_aload_n 0 hc dX0_againstWithout_16 rfl rfl ?_
    refine ok_geti hc FS_X0_124 rfl sX_17 dX0_againstWithout_17 ?_
    refine ok_icmp_ge_ite 49 hc dX0_againstWithout_20 (by decide) (fun h1 => ?_) (fun h1 => ?_)
    · refine ok_lload_n 2 hc dX0_againstWithout_49 rfl rfl ?_
      exact ok_lret hc rfl dX0_againstWithout_50
    · refine ok_iload_n 1 hc dX0_againstWithout_23 rfl rfl ?_
      refine ok_iload 3 hc dX0_againstWithout_24 rfl ?_
      refine ok_ishr hc dX0_againstWithout_26 ?_
      refine ok_iconst (v := 1) hc dX0_againstWithout_27 (by decide) ?_
      refine ok_iand hc dX0_againstWithout_28 ?_
      refine ok_jn (fun g => ∀ (v2 : Int64), Ok Γ wX 43 [(0, rv Γ 17), (1, .int a1), (2, .long v2), (4, .int a4)] [] S (g v2)) ?_ (fun k3 hk3 => ?_)
      · intro v2
        refine ok_iinc (v := 1) 3 [(4, .int (a4 + 1)), (0, rv Γ 17), (1, .int a1), (2, .long v2)] hc dX0_againstWithout_43 rfl (by decide) (Nat.le_of_ble_eq_true rfl) rfl ?_
        refine ok_goto 14 hc dX0_againstWithout_46 (by decide) ?_
        refine ok_sub [1, 2, 3, 0] rfl ?_
        exact ih _ _ _
      · refine ok_if_ne_ite 43 hc dX0_againstWithout_29 (by decide) (fun h4 => ?_) (fun h4 => ?_)
        · exact hk3 _
        · refine ok_lload_n 2 hc dX0_againstWithout_32 rfl rfl ?_
          refine ok_aload_n 0 hc dX0_againstWithout_33 rfl rfl ?_
          refine ok_getr 40 hc FS_X0_34 rfl sX_17 rfl dX0_againstWithout_34 ?_
          refine ok_iload 3 hc dX0_againstWithout_37 rfl ?_
          refine ok_iald hc sX_40 dX0_againstWithout_39 (fun h5 => ?_)
          refine ok_i2l hc dX0_againstWithout_40 ?_
          refine ok_ladd hc dX0_againstWithout_41 ?_
          refine ok_ltl (fun v6 => ?_)
          refine ok_lstore_n [(2, .long v6), (0, rv Γ 17), (1, .int a1), (4, .int a4)] hc dX0_againstWithout_42 rfl (Nat.le_of_ble_eq_true rfl) rfl ?_
          refine ok_sub [1, 2, 0, 3] rfl ?_
          exact hk3 _
set_option maxRecDepth 100000 in
set_option maxHeartbeats 4000000 in
theorem tX0_againstWithout (a1 : Int32) (S : St) (q : Int64 × St) (h : fX0_againstWithout a1 S = some q) : MT vL wX mX0_againstWithout (fun n0 => [.ref (n0 + 17), .int a1]) S q := by
  refine mt_of (show plainFor yX0_againstWithout = true from by decide) (fun _ => Nat.le_of_ble_eq_true rfl) ?_
  intro Γ hc _
  rw [← h]
  show Ok Γ wX 0 [(0, rv Γ 17), (1, .int a1)] [] S _
  unfold fX0_againstWithout
  refine ok_aload_n 0 hc dX0_againstWithout_0 rfl rfl ?_
  refine ok_getr 1 hc FS_X0_9 rfl sX_17 rfl dX0_againstWithout_1 ?_
  refine ok_getr 2 hc FS_X0_127 rfl sX_1 rfl dX0_againstWithout_4 ?_
  refine ok_iconst (v := 2) hc dX0_againstWithout_7 (by decide) ?_
  refine ok_ialdK hc sX_2 (by decide) dX0_againstWithout_8 ?_
  refine ok_i2l hc dX0_againstWithout_9 ?_
  refine ok_ltl (fun v1 => ?_)
  refine ok_lstore_n [(2, .long v1), (0, rv Γ 17), (1, .int a1)] hc dX0_againstWithout_10 rfl (Nat.le_of_ble_eq_true rfl) rfl ?_
  refine ok_iconst (v := 0) hc dX0_againstWithout_11 (by decide) ?_
  refine ok_istore [(4, .int 0), (2, .long v1), (0, rv Γ 17), (1, .int a1)] hc dX0_againstWithout_12 (Nat.le_of_ble_eq_true rfl) rfl ?_
  refine ok_sub [2, 3, 1, 0] rfl ?_
  refine tX0_againstWithout_L14 hc _   FU _ _ _
def fX0_asSenders_L4_st (a1 : Int32) (rec : Int32 → Int32 → St → Option (Int32 × St)) (a2 : Int32) (a3 : Int32) (S : St) : Option (Int32 × St) :=
  if (S.1 17 8) ≤ a3 then (some (a2, S)) else (jn (fun (v2 : Int32) => rec v2 (a3 + 1) S) (fun k3 => if ((a1 >>> (a3 &&& 31)) &&& 1) = 0 then (k3 a2) else (if ib a3 20 then (lt (a2 ||| (1 <<< ((S.1 39 (nt a3)) &&& 31))) (fun (v6 : Int32) => k3 v6)) else none)))
def fX0_asSenders_L4 (a1 : Int32) : Nat → Int32 → Int32 → St → Option (Int32 × St)
  | 0 => fun _ _ _ => none
  | n + 1 => fun a2 a3 S => fX0_asSenders_L4_st a1 (fX0_asSenders_L4 a1 n) a2 a3 S
def fX0_asSenders (a1 : Int32) (S : St) : Option (Int32 × St) :=
  fX0_asSenders_L4 a1 FU 0 0 S
set_option maxRecDepth 100000 in
set_option maxHeartbeats 4000000 in
theorem tX0_asSenders_L4 {Γ : Cx Int32} (hc : Cok Γ wX vI mX0_asSenders) (a1 : Int32) : ∀ (n : Nat) (a2 : Int32) (a3 : Int32) (S : St), Ok Γ wX 4 [(0, rv Γ 17), (1, .int a1), (2, .int a2), (3, .int a3)] [] S (fX0_asSenders_L4 a1 n a2 a3 S) := by
  intro n
  induction n with
  | zero =>
    intro a2 a3 S
    exact ok_none
  | succ n ih =>
    intro a2 a3 S
    show Ok Γ wX 4 [(0, rv Γ 17), (1, .int a1), (2, .int a2), (3, .int a3)] [] S (fX0_asSenders_L4_st a1 (fX0_asSenders_L4 a1 n) a2 a3 S)
    unfold fX0_asSenders_L4_st
    refine ok_iload_n 3 hc dX0_asSenders_4 rfl rfl ?_
    refine ok_aload_n 0 hc dX0_asSenders_5 rfl rfl ?_
    refine ok_geti hc FS_X0_124 rfl sX_17 dX0_asSenders_6 ?_
    refine ok_icmp_ge_ite 37 hc dX0_asSenders_9 (by decide) (fun h1 => ?_) (fun h1 => ?_)
    · refine ok_iload_n 2 hc dX0_asSenders_37 rfl rfl ?_
      exact ok_iret hc rfl dX0_asSenders_38
    · refine ok_iload_n 1 hc dX0_asSenders_12 rfl rfl ?_
      refine ok_iload_n 3 hc dX0_asSenders_13 rfl rfl ?_
      refine ok_ishr hc dX0_asSenders_14 ?_
      refine ok_iconst (v := 1) hc dX0_asSenders_15 (by decide) ?_
      refine ok_iand hc dX0_asSenders_16 ?_
      refine ok_jn (fun g => ∀ (v2 : Int32), Ok Γ wX 31 [(0, rv Γ 17), (1, .int a1), (2, .int v2), (3, .int a3)] [] S (g v2)) ?_ (fun k3 hk3 => ?_)
      · intro v2
        refine ok_iinc (v := 1) 3 [(3, .int (a3 + 1)), (0, rv Γ 17), (1, .int a1), (2, .int v2)] hc dX0_asSenders_31 rfl (by decide) (Nat.le_of_ble_eq_true rfl) rfl ?_
        refine ok_goto 4 hc dX0_asSenders_34 (by decide) ?_
        refine ok_sub [1, 2, 3, 0] rfl ?_
        exact ih _ _ _
      · refine ok_if_eq_ite 31 hc dX0_asSenders_17 (by decide) (fun h4 => ?_) (fun h4 => ?_)
        · exact hk3 _
        · refine ok_iload_n 2 hc dX0_asSenders_20 rfl rfl ?_
          refine ok_iconst (v := 1) hc dX0_asSenders_21 (by decide) ?_
          refine ok_aload_n 0 hc dX0_asSenders_22 rfl rfl ?_
          refine ok_getr 39 hc FS_X0_30 rfl sX_17 rfl dX0_asSenders_23 ?_
          refine ok_iload_n 3 hc dX0_asSenders_26 rfl rfl ?_
          refine ok_iald hc sX_39 dX0_asSenders_27 (fun h5 => ?_)
          refine ok_ishl hc dX0_asSenders_28 ?_
          refine ok_ior hc dX0_asSenders_29 ?_
          refine ok_lti (fun v6 => ?_)
          refine ok_istore_n [(2, .int v6), (0, rv Γ 17), (1, .int a1), (3, .int a3)] hc dX0_asSenders_30 rfl (Nat.le_of_ble_eq_true rfl) rfl ?_
          refine ok_sub [1, 2, 0, 3] rfl ?_
          exact hk3 _
set_option maxRecDepth 100000 in
set_option maxHeartbeats 4000000 in
theorem tX0_asSenders (a1 : Int32) (S : St) (q : Int32 × St) (h : fX0_asSenders a1 S = some q) : MT vI wX mX0_asSenders (fun n0 => [.ref (n0 + 17), .int a1]) S q := by
  refine mt_of (show plainFor yX0_asSenders = true from by decide) (fun _ => Nat.le_of_ble_eq_true rfl) ?_
  intro Γ hc _
  rw [← h]
  show Ok Γ wX 0 [(0, rv Γ 17), (1, .int a1)] [] S _
  unfold fX0_asSenders
  refine ok_iconst (v := 0) hc dX0_asSenders_0 (by decide) ?_
  refine ok_istore_n [(2, .int 0), (0, rv Γ 17), (1, .int a1)] hc dX0_asSenders_1 rfl (Nat.le_of_ble_eq_true rfl) rfl ?_
  refine ok_iconst (v := 0) hc dX0_asSenders_2 (by decide) ?_
  refine ok_istore_n [(3, .int 0), (2, .int 0), (0, rv Γ 17), (1, .int a1)] hc dX0_asSenders_3 rfl (Nat.le_of_ble_eq_true rfl) rfl ?_
  refine ok_sub [2, 3, 1, 0] rfl ?_
  refine tX0_asSenders_L4 hc _   FU _ _ _
def fX0_cellOf (a1 : Int32) (S : St) : Option (Int32 × St) :=
  if ib a1 20 then (if (S.1 (19 + nt a1) 0) = 1 then (if (S.1 (19 + nt a1) 9) = (-1) then (some (S.1 (19 + nt a1) 1, S)) else (if ib (S.1 (19 + nt a1) 9) 6 then (bnd (fX6_holds (4 + 2 * nt (S.1 (19 + nt a1) 9)) (S.1 17 7) 1 S) (fun v5 S6 => if v5 = 0 then (some (S6.1 (19 + nt a1) 1, S6)) else (if ib (S6.1 (19 + nt a1) 9) 6 then (if ib (S6.1 17 7) 400 then (lt (S6.2 (4 + 2 * nt (S6.1 (19 + nt a1) 9) + 1) (nt (S6.1 17 7))) (fun (v10 : Int64) => bnd (fX2_isCell v10 S6) (fun v11 S12 => if v11 = 0 then (some (S12.1 (19 + nt a1) 1, S12)) else (some (v10.toInt32, S12))))) else none) else none))) else none)) else (some (S.1 (19 + nt a1) 1, S))) else none
set_option maxRecDepth 100000 in
set_option maxHeartbeats 4000000 in
theorem tX0_cellOf (a1 : Int32) (S : St) (q : Int32 × St) (h : fX0_cellOf a1 S = some q) : MT vI wX mX0_cellOf (fun n0 => [.ref (n0 + 17), .int a1]) S q := by
  refine mt_of (show plainFor yX0_cellOf = true from by decide) (fun _ => Nat.le_of_ble_eq_true rfl) ?_
  intro Γ hc _
  rw [← h]
  show Ok Γ wX 0 [(0, rv Γ 17), (1, .int a1)] [] S _
  unfold fX0_cellOf
  refine ok_aload_n 0 hc dX0_cellOf_0 rfl rfl ?_
  refine ok_getr 18 hc FS_X0_25 rfl sX_17 rfl dX0_cellOf_1 ?_
  refine ok_iload_n 1 hc dX0_cellOf_4 rfl rfl ?_
  refine ok_aald (fun j => 19 + j) "AirParted$Sender" hc sX_18 rfl snd_rf dX0_cellOf_5 (fun h1 => ?_)
  show Ok Γ wX 6 [(0, rv Γ 17), (1, .int a1)] (rv Γ (19 + nt a1) :: []) S _
  refine ok_astore_n [(2, rv Γ (19 + nt a1)), (0, rv Γ 17), (1, .int a1)] hc dX0_cellOf_6 rfl (Nat.le_of_ble_eq_true rfl) rfl ?_
  refine ok_aload_n 0 hc dX0_cellOf_7 rfl rfl ?_
  refine ok_geti hc FS_X0_45 rfl (snd_ob h1) dX0_cellOf_8 ?_
  refine ok_iconst (v := 1) hc dX0_cellOf_11 (by decide) ?_
  refine ok_icmp_ne_ite 43 hc dX0_cellOf_12 (by decide) (fun h2 => ?_) (fun h2 => ?_)
  · refine ok_aload_n 0 hc dX0_cellOf_43 rfl rfl ?_
    refine ok_geti hc FS_X0_60 rfl (snd_ob h1) dX0_cellOf_44 ?_
    exact ok_iret hc rfl dX0_cellOf_47
  · refine ok_aload_n 0 hc dX0_cellOf_15 rfl rfl ?_
    refine ok_geti hc FS_X0_48 rfl (snd_ob h1) dX0_cellOf_16 ?_
    refine ok_iconst (v := (-1)) hc dX0_cellOf_19 (by decide) ?_
    refine ok_icmp_eq_ite 43 hc dX0_cellOf_20 (by decide) (fun h3 => ?_) (fun h3 => ?_)
    · refine ok_aload_n 0 hc dX0_cellOf_43 rfl rfl ?_
      refine ok_geti hc FS_X0_60 rfl (snd_ob h1) dX0_cellOf_44 ?_
      exact ok_iret hc rfl dX0_cellOf_47
    · refine ok_aload_n 1 hc dX0_cellOf_23 rfl rfl ?_
      refine ok_getr 3 hc FS_X0_19 rfl sX_17 rfl dX0_cellOf_24 ?_
      refine ok_aload_n 0 hc dX0_cellOf_27 rfl rfl ?_
      refine ok_geti hc FS_X0_48 rfl (snd_ob h1) dX0_cellOf_28 ?_
      refine ok_aald (fun j => 4 + 2 * j) "AirParted$Sheet" hc sX_3 rfl sht_rf dX0_cellOf_31 (fun h4 => ?_)
      show Ok Γ wX 32 [(2, rv Γ (19 + nt a1)), (0, rv Γ 17), (1, .int a1)] (rv Γ (4 + 2 * nt (S.1 (19 + nt a1) 9)) :: []) S _
      refine ok_aload_n 1 hc dX0_cellOf_32 rfl rfl ?_
      refine ok_geti hc FS_X0_51 rfl sX_17 dX0_cellOf_33 ?_
      refine ok_iconst (v := 1) hc dX0_cellOf_36 (by decide) ?_
      refine ok_callVi (As := [.int (S.1 17 7), .int 1]) (st := []) (fun n0 => [.ref (n0 + (4 + 2 * nt (S.1 (19 + nt a1) 9))), .int (S.1 17 7), .int 1]) hc VS_X0_54 (sht_ob h4) rfl rfl rfl ⟨Nat.le_of_ble_eq_true rfl, Nat.le_of_ble_eq_true rfl⟩ (Nat.le_of_ble_eq_true rfl) (fun q h => tX6_holds (4 + 2 * nt (S.1 (19 + nt a1) 9)) (S.1 17 7) 1 (sht_ob h4) S q h) dX0_cellOf_37 (fun v5 S6 => ?_)
      refine ok_if_ne_ite 48 hc dX0_cellOf_40 (by decide) (fun h7 => ?_) (fun h7 => ?_)
      · refine ok_aload_n 1 hc dX0_cellOf_48 rfl rfl ?_
        refine ok_getr 3 hc FS_X0_19 rfl sX_17 rfl dX0_cellOf_49 ?_
        refine ok_aload_n 0 hc dX0_cellOf_52 rfl rfl ?_
        refine ok_geti hc FS_X0_48 rfl (snd_ob h1) dX0_cellOf_53 ?_
        refine ok_aald (fun j => 4 + 2 * j) "AirParted$Sheet" hc sX_3 rfl sht_rf dX0_cellOf_56 (fun h8 => ?_)
        show Ok Γ wX 57 [(2, rv Γ (19 + nt a1)), (0, rv Γ 17), (1, .int a1)] (rv Γ (4 + 2 * nt (S6.1 (19 + nt a1) 9)) :: []) S6 _
        refine ok_getr (4 + 2 * nt (S6.1 (19 + nt a1) 9) + 1) hc FS_X0_63 rfl (sht_ob h8) (sht_it (sht_ob h8)).1 dX0_cellOf_57 ?_
        refine ok_aload_n 1 hc dX0_cellOf_60 rfl rfl ?_
        refine ok_geti hc FS_X0_51 rfl sX_17 dX0_cellOf_61 ?_
        refine ok_lald hc (sht_it (sht_ob h8)).2 dX0_cellOf_64 (fun h9 => ?_)
        refine ok_ltl (fun v10 => ?_)
        refine ok_lstore_n [(3, .long v10), (2, rv Γ (19 + nt a1)), (0, rv Γ 17), (1, .int a1)] hc dX0_cellOf_65 rfl (Nat.le_of_ble_eq_true rfl) rfl ?_
        refine ok_aload_n 2 hc dX0_cellOf_66 rfl rfl ?_
        refine ok_getr 16 hc FS_X0_15 rfl sX_17 rfl dX0_cellOf_67 ?_
        refine ok_lload_n 0 hc dX0_cellOf_70 rfl rfl ?_
        refine ok_callVi (As := [.long v10]) (st := []) (fun n0 => [.ref (n0 + 16), .long v10]) hc VS_X0_67 sX_16 rfl rfl rfl ⟨Nat.le_of_ble_eq_true rfl, Nat.le_of_ble_eq_true rfl⟩ (Nat.le_of_ble_eq_true rfl) (fun q h => tX2_isCell v10 S6 q h) dX0_cellOf_71 (fun v11 S12 => ?_)
        refine ok_if_eq_ite 82 hc dX0_cellOf_74 (by decide) (fun h13 => ?_) (fun h13 => ?_)
        · refine ok_aload_n 1 hc dX0_cellOf_82 rfl rfl ?_
          refine ok_geti hc FS_X0_60 rfl (snd_ob h1) dX0_cellOf_83 ?_
          exact ok_iret hc rfl dX0_cellOf_86
        · refine ok_lload_n 0 hc dX0_cellOf_77 rfl rfl ?_
          refine ok_l2i hc dX0_cellOf_78 ?_
          refine ok_goto 86 hc dX0_cellOf_79 (by decide) ?_
          exact ok_iret hc rfl dX0_cellOf_86
      · refine ok_aload_n 0 hc dX0_cellOf_43 rfl rfl ?_
        refine ok_geti hc FS_X0_60 rfl (snd_ob h1) dX0_cellOf_44 ?_
        exact ok_iret hc rfl dX0_cellOf_47
def fX0_gotAt (a1 : Int32) (a2 : Int32) (a3 : Int32) (S : St) : Option (Int32 × St) :=
  if ib a1 20 then (bnd (fX0_cellOf a1 S) (fun v2 S3 => if ib a1 20 then (bnd (fX2_gotFrom (S.1 (19 + nt a1) 2) v2 (S3.1 (19 + nt a1) 3) a2 a3 S3) (fun v5 S6 => some (v5, S6))) else none)) else none
set_option maxRecDepth 100000 in
set_option maxHeartbeats 4000000 in
theorem tX0_gotAt (a1 : Int32) (a2 : Int32) (a3 : Int32) (S : St) (q : Int32 × St) (h : fX0_gotAt a1 a2 a3 S = some q) : MT vI wX mX0_gotAt (fun n0 => [.ref (n0 + 17), .int a1, .int a2, .int a3]) S q := by
  refine mt_of (show plainFor yX0_gotAt = true from by decide) (fun _ => Nat.le_of_ble_eq_true rfl) ?_
  intro Γ hc _
  rw [← h]
  show Ok Γ wX 0 [(0, rv Γ 17), (1, .int a1), (2, .int a2), (3, .int a3)] [] S _
  unfold fX0_gotAt
  refine ok_aload_n 0 hc dX0_gotAt_0 rfl rfl ?_
  refine ok_getr 16 hc FS_X0_15 rfl sX_17 rfl dX0_gotAt_1 ?_
  refine ok_aload_n 0 hc dX0_gotAt_4 rfl rfl ?_
  refine ok_getr 18 hc FS_X0_25 rfl sX_17 rfl dX0_gotAt_5 ?_
  refine ok_iload_n 1 hc dX0_gotAt_8 rfl rfl ?_
  refine ok_aald (fun j => 19 + j) "AirParted$Sender" hc sX_18 rfl snd_rf dX0_gotAt_9 (fun h1 => ?_)
  show Ok Γ wX 10 [(0, rv Γ 17), (1, .int a1), (2, .int a2), (3, .int a3)] (rv Γ (19 + nt a1) :: [rv Γ 16]) S _
  refine ok_geti hc FS_X0_93 rfl (snd_ob h1) dX0_gotAt_10 ?_
  refine ok_aload_n 0 hc dX0_gotAt_13 rfl rfl ?_
  refine ok_iload_n 1 hc dX0_gotAt_14 rfl rfl ?_
  refine ok_callVi (As := [.int a1]) (st := [.int (S.1 (19 + nt a1) 2), rv Γ 16]) (fun n0 => [.ref (n0 + 17), .int a1]) hc VS_X0_89 sX_17 rfl rfl rfl ⟨Nat.le_of_ble_eq_true rfl, Nat.le_of_ble_eq_true rfl⟩ (Nat.le_of_ble_eq_true rfl) (fun q h => tX0_cellOf a1 S q h) dX0_gotAt_15 (fun v2 S3 => ?_)
  refine ok_aload_n 0 hc dX0_gotAt_18 rfl rfl ?_
  refine ok_getr 18 hc FS_X0_25 rfl sX_17 rfl dX0_gotAt_19 ?_
  refine ok_iload_n 1 hc dX0_gotAt_22 rfl rfl ?_
  refine ok_aald (fun j => 19 + j) "AirParted$Sender" hc sX_18 rfl snd_rf dX0_gotAt_23 (fun h4 => ?_)
  show Ok Γ wX 24 [(0, rv Γ 17), (1, .int a1), (2, .int a2), (3, .int a3)] (rv Γ (19 + nt a1) :: [.int v2, .int (S.1 (19 + nt a1) 2), rv Γ 16]) S3 _
  refine ok_geti hc FS_X0_96 rfl (snd_ob h4) dX0_gotAt_24 ?_
  refine ok_iload_n 2 hc dX0_gotAt_27 rfl rfl ?_
  refine ok_iload_n 3 hc dX0_gotAt_28 rfl rfl ?_
  refine ok_callVi (As := [.int (S.1 (19 + nt a1) 2), .int v2, .int (S3.1 (19 + nt a1) 3), .int a2, .int a3]) (st := []) (fun n0 => [.ref (n0 + 16), .int (S.1 (19 + nt a1) 2), .int v2, .int (S3.1 (19 + nt a1) 3), .int a2, .int a3]) hc VS_X0_112 sX_16 rfl rfl rfl ⟨Nat.le_of_ble_eq_true rfl, Nat.le_of_ble_eq_true rfl⟩ (Nat.le_of_ble_eq_true rfl) (fun q h => tX2_gotFrom (S.1 (19 + nt a1) 2) v2 (S3.1 (19 + nt a1) 3) a2 a3 S3 q h) dX0_gotAt_29 (fun v5 S6 => ?_)
  exact ok_iret hc rfl dX0_gotAt_32
def fX0_gotAtGoal (a1 : Int32) (S : St) : Option (Int32 × St) :=
  if ib a1 20 then (if ib a1 20 then (bnd (fX5_ownMood (19 + nt a1) S) (fun v3 S4 => bnd (fX0_gotAt a1 (S.1 (19 + nt a1) 5) v3 S4) (fun v5 S6 => some (v5, S6)))) else none) else none
set_option maxRecDepth 100000 in
set_option maxHeartbeats 4000000 in
theorem tX0_gotAtGoal (a1 : Int32) (S : St) (q : Int32 × St) (h : fX0_gotAtGoal a1 S = some q) : MT vI wX mX0_gotAtGoal (fun n0 => [.ref (n0 + 17), .int a1]) S q := by
  refine mt_of (show plainFor yX0_gotAtGoal = true from by decide) (fun _ => Nat.le_of_ble_eq_true rfl) ?_
  intro Γ hc _
  rw [← h]
  show Ok Γ wX 0 [(0, rv Γ 17), (1, .int a1)] [] S _
  unfold fX0_gotAtGoal
  refine ok_aload_n 0 hc dX0_gotAtGoal_0 rfl rfl ?_
  refine ok_iload_n 1 hc dX0_gotAtGoal_1 rfl rfl ?_
  refine ok_aload_n 0 hc dX0_gotAtGoal_2 rfl rfl ?_
  refine ok_getr 18 hc FS_X0_25 rfl sX_17 rfl dX0_gotAtGoal_3 ?_
  refine ok_iload_n 1 hc dX0_gotAtGoal_6 rfl rfl ?_
  refine ok_aald (fun j => 19 + j) "AirParted$Sender" hc sX_18 rfl snd_rf dX0_gotAtGoal_7 (fun h1 => ?_)
  show Ok Γ wX 8 [(0, rv Γ 17), (1, .int a1)] (rv Γ (19 + nt a1) :: [.int a1, rv Γ 17]) S _
  refine ok_geti hc FS_X0_102 rfl (snd_ob h1) dX0_gotAtGoal_8 ?_
  refine ok_aload_n 0 hc dX0_gotAtGoal_11 rfl rfl ?_
  refine ok_getr 18 hc FS_X0_25 rfl sX_17 rfl dX0_gotAtGoal_12 ?_
  refine ok_iload_n 1 hc dX0_gotAtGoal_15 rfl rfl ?_
  refine ok_aald (fun j => 19 + j) "AirParted$Sender" hc sX_18 rfl snd_rf dX0_gotAtGoal_16 (fun h2 => ?_)
  show Ok Γ wX 17 [(0, rv Γ 17), (1, .int a1)] (rv Γ (19 + nt a1) :: [.int (S.1 (19 + nt a1) 5), .int a1, rv Γ 17]) S _
  refine ok_callVi (As := []) (st := [.int (S.1 (19 + nt a1) 5), .int a1, rv Γ 17]) (fun n0 => [.ref (n0 + (19 + nt a1))]) hc VS_X0_116 (snd_ob h2) rfl rfl rfl ⟨Nat.le_of_ble_eq_true rfl, Nat.le_of_ble_eq_true rfl⟩ (Nat.le_of_ble_eq_true rfl) (fun q h => tX5_ownMood (19 + nt a1) (snd_ob h2) S q h) dX0_gotAtGoal_17 (fun v3 S4 => ?_)
  refine ok_callVi (As := [.int a1, .int (S.1 (19 + nt a1) 5), .int v3]) (st := []) (fun n0 => [.ref (n0 + 17), .int a1, .int (S.1 (19 + nt a1) 5), .int v3]) hc VS_X0_120 sX_17 rfl rfl rfl ⟨Nat.le_of_ble_eq_true rfl, Nat.le_of_ble_eq_true rfl⟩ (Nat.le_of_ble_eq_true rfl) (fun q h => tX0_gotAt a1 (S.1 (19 + nt a1) 5) v3 S4 q h) dX0_gotAtGoal_20 (fun v5 S6 => ?_)
  exact ok_iret hc rfl dX0_gotAtGoal_23
def fX0_causeOf_L11_st (kx0 : Int32 → St → Option (Int32 × St)) (a1 : Int32) (a2 : Int32) (rec : Int32 → Int32 → St → Option (Int32 × St)) (a3 : Int32) (a4 : Int32) (S : St) : Option (Int32 × St) :=
  if (1 <<< ((S.1 17 8) &&& 31)) ≤ a4 then (kx0 a3 S) else (jn (fun (v2 : Int32) (S3 : St) => jn (fun (v5 : Int32) (S6 : St) => rec v5 (a4 + 1) S6) (fun k7 => if v2 = 0 then (k7 a3 S3) else (if ib a1 20 then (bnd (fX0_againstWithout a4 S3) (fun v10 S11 => bnd (fX5_isEnough (19 + nt a1) a2 v10 S11) (fun v12 S13 => if v12 = 0 then (k7 a3 S13) else (k7 a4 S13)))) else none))) (fun k4 => if a3 = (-1) then (k4 1 S) else (bnd (fJ6_bitCount_0f7a4 a4 S) (fun v16 S17 => bnd (fJ6_bitCount_0f7a4 a3 S17) (fun v18 S19 => if v18 ≤ v16 then (k4 0 S19) else (k4 1 S19))))))
def fX0_causeOf_L11 (kx0 : Int32 → St → Option (Int32 × St)) (a1 : Int32) (a2 : Int32) : Nat → Int32 → Int32 → St → Option (Int32 × St)
  | 0 => fun _ _ _ => none
  | n + 1 => fun a3 a4 S => fX0_causeOf_L11_st kx0 a1 a2 (fX0_causeOf_L11 kx0 a1 a2 n) a3 a4 S
def fX0_causeOf (a1 : Int32) (S : St) : Option (Int32 × St) :=
  bnd (fX0_gotAtGoal a1 S) (fun v1 S2 => fX0_causeOf_L11 (fun (v3 : Int32) (S4 : St) => if v3 = (-1) then (some ((-1), S4)) else (bnd (fX0_asSenders v3 S4) (fun v6 S7 => some (v6, S7)))) a1 v1 FU (-1) 0 S2)
set_option maxRecDepth 100000 in
set_option maxHeartbeats 4000000 in
theorem tX0_causeOf_L11 {Γ : Cx Int32} (hc : Cok Γ wX vI mX0_causeOf) (kx0 : Int32 → St → Option (Int32 × St)) (a1 : Int32) (a2 : Int32) (hx0 : ∀ (a3 : Int32) (S : St), Ok Γ wX 79 [(0, rv Γ 17), (3, .int a3)] [] S (kx0 a3 S)) : ∀ (n : Nat) (a3 : Int32) (a4 : Int32) (S : St), Ok Γ wX 11 [(0, rv Γ 17), (1, .int a1), (2, .int a2), (3, .int a3), (4, .int a4)] [] S (fX0_causeOf_L11 kx0 a1 a2 n a3 a4 S) := by
  intro n
  induction n with
  | zero =>
    intro a3 a4 S
    exact ok_none
  | succ n ih =>
    intro a3 a4 S
    show Ok Γ wX 11 [(0, rv Γ 17), (1, .int a1), (2, .int a2), (3, .int a3), (4, .int a4)] [] S (fX0_causeOf_L11_st kx0 a1 a2 (fX0_causeOf_L11 kx0 a1 a2 n) a3 a4 S)
    unfold fX0_causeOf_L11_st
    refine ok_iload 4 hc dX0_causeOf_11 rfl ?_
    refine ok_iconst (v := 1) hc dX0_causeOf_13 (by decide) ?_
    refine ok_aload_n 0 hc dX0_causeOf_14 rfl rfl ?_
    refine ok_geti hc FS_X0_124 rfl sX_17 dX0_causeOf_15 ?_
    refine ok_ishl hc dX0_causeOf_18 ?_
    refine ok_icmp_ge_ite 79 hc dX0_causeOf_19 (by decide) (fun h1 => ?_) (fun h1 => ?_)
    · refine ok_sub [0, 3] rfl ?_
      exact hx0 _ _
    · refine ok_iload_n 3 hc dX0_causeOf_22 rfl rfl ?_
      refine ok_iconst (v := (-1)) hc dX0_causeOf_23 (by decide) ?_
      refine ok_jn (fun g => ∀ (v2 : Int32) (S3 : St), Ok Γ wX 44 [(0, rv Γ 17), (1, .int a1), (2, .int a2), (3, .int a3), (4, .int a4)] [.int v2] S3 (g v2 S3)) ?_ (fun k4 hk4 => ?_)
      · intro v2 S3
        refine ok_istore [(5, .int v2), (0, rv Γ 17), (1, .int a1), (2, .int a2), (3, .int a3), (4, .int a4)] hc dX0_causeOf_44 (Nat.le_of_ble_eq_true rfl) rfl ?_
        refine ok_iload 0 hc dX0_causeOf_46 rfl ?_
        refine ok_jn (fun g => ∀ (v5 : Int32) (S6 : St), Ok Γ wX 73 [(0, rv Γ 17), (1, .int a1), (2, .int a2), (3, .int v5), (4, .int a4)] [] S6 (g v5 S6)) ?_ (fun k7 hk7 => ?_)
        · intro v5 S6
          refine ok_iinc (v := 1) 4 [(4, .int (a4 + 1)), (0, rv Γ 17), (1, .int a1), (2, .int a2), (3, .int v5)] hc dX0_causeOf_73 rfl (by decide) (Nat.le_of_ble_eq_true rfl) rfl ?_
          refine ok_goto 11 hc dX0_causeOf_76 (by decide) ?_
          refine ok_sub [1, 2, 3, 4, 0] rfl ?_
          exact ih _ _ _
        · refine ok_if_eq_ite 73 hc dX0_causeOf_48 (by decide) (fun h8 => ?_) (fun h8 => ?_)
          · refine ok_sub [1, 2, 3, 4, 5] rfl ?_
            exact hk7 _ _
          · refine ok_aload_n 1 hc dX0_causeOf_51 rfl rfl ?_
            refine ok_getr 18 hc FS_X0_25 rfl sX_17 rfl dX0_causeOf_52 ?_
            refine ok_iload_n 2 hc dX0_causeOf_55 rfl rfl ?_
            refine ok_aald (fun j => 19 + j) "AirParted$Sender" hc sX_18 rfl snd_rf dX0_causeOf_56 (fun h9 => ?_)
            show Ok Γ wX 57 [(5, .int v2), (0, rv Γ 17), (1, .int a1), (2, .int a2), (3, .int a3), (4, .int a4)] (rv Γ (19 + nt a1) :: []) S3 _
            refine ok_iload_n 3 hc dX0_causeOf_57 rfl rfl ?_
            refine ok_aload_n 1 hc dX0_causeOf_58 rfl rfl ?_
            refine ok_iload 5 hc dX0_causeOf_59 rfl ?_
            refine ok_callVl (As := [.int a4]) (st := [.int a2, rv Γ (19 + nt a1)]) (fun n0 => [.ref (n0 + 17), .int a4]) hc VS_X0_138 sX_17 rfl rfl rfl ⟨Nat.le_of_ble_eq_true rfl, Nat.le_of_ble_eq_true rfl⟩ (Nat.le_of_ble_eq_true rfl) (fun q h => tX0_againstWithout a4 S3 q h) dX0_causeOf_61 (fun v10 S11 => ?_)
            refine ok_callVi (As := [.int a2, .long v10]) (st := []) (fun n0 => [.ref (n0 + (19 + nt a1)), .int a2, .long v10]) hc VS_X0_142 (snd_ob h9) rfl rfl rfl ⟨Nat.le_of_ble_eq_true rfl, Nat.le_of_ble_eq_true rfl⟩ (Nat.le_of_ble_eq_true rfl) (fun q h => tX5_isEnough (19 + nt a1) a2 v10 (snd_ob h9) S11 q h) dX0_causeOf_64 (fun v12 S13 => ?_)
            refine ok_if_eq_ite 73 hc dX0_causeOf_67 (by decide) (fun h14 => ?_) (fun h14 => ?_)
            · refine ok_sub [1, 2, 3, 4, 5] rfl ?_
              exact hk7 _ _
            · refine ok_iload 5 hc dX0_causeOf_70 rfl ?_
              refine ok_istore_n [(3, .int a4), (5, .int v2), (0, rv Γ 17), (1, .int a1), (2, .int a2), (4, .int a4)] hc dX0_causeOf_72 rfl (Nat.le_of_ble_eq_true rfl) rfl ?_
              refine ok_sub [2, 3, 4, 0, 5] rfl ?_
              exact hk7 _ _
      · refine ok_icmp_eq_ite 39 hc dX0_causeOf_24 (by decide) (fun h15 => ?_) (fun h15 => ?_)
        · refine ok_iconst (v := 1) hc dX0_causeOf_39 (by decide) ?_
          refine ok_goto 44 hc dX0_causeOf_40 (by decide) ?_
          exact hk4 _ _
        · refine ok_iload 4 hc dX0_causeOf_27 rfl ?_
          refine ok_callSi (As := [.int a4]) (st := []) (fun n0 => [.int a4]) hc SS_X0_146 rfl rfl rfl ⟨Nat.le_of_ble_eq_true rfl, Nat.le_of_ble_eq_true rfl⟩ (Nat.le_of_ble_eq_true rfl) (fun q h => tJ6_bitCount_0f7a4 wX a4 S q h) dX0_causeOf_29 (fun v16 S17 => ?_)
          refine ok_iload_n 3 hc dX0_causeOf_32 rfl rfl ?_
          refine ok_callSi (As := [.int a3]) (st := [.int v16]) (fun n0 => [.int a3]) hc SS_X0_146 rfl rfl rfl ⟨Nat.le_of_ble_eq_true rfl, Nat.le_of_ble_eq_true rfl⟩ (Nat.le_of_ble_eq_true rfl) (fun q h => tJ6_bitCount_0f7a4 wX a3 S17 q h) dX0_causeOf_33 (fun v18 S19 => ?_)
          refine ok_icmp_ge_ite 43 hc dX0_causeOf_36 (by decide) (fun h20 => ?_) (fun h20 => ?_)
          · refine ok_iconst (v := 0) hc dX0_causeOf_43 (by decide) ?_
            exact hk4 _ _
          · refine ok_iconst (v := 1) hc dX0_causeOf_39 (by decide) ?_
            refine ok_goto 44 hc dX0_causeOf_40 (by decide) ?_
            exact hk4 _ _
set_option maxRecDepth 100000 in
set_option maxHeartbeats 4000000 in
theorem tX0_causeOf (a1 : Int32) (S : St) (q : Int32 × St) (h : fX0_causeOf a1 S = some q) : MT vI wX mX0_causeOf (fun n0 => [.ref (n0 + 17), .int a1]) S q := by
  refine mt_of (show plainFor yX0_causeOf = true from by decide) (fun _ => Nat.le_of_ble_eq_true rfl) ?_
  intro Γ hc _
  rw [← h]
  show Ok Γ wX 0 [(0, rv Γ 17), (1, .int a1)] [] S _
  unfold fX0_causeOf
  refine ok_aload_n 0 hc dX0_causeOf_0 rfl rfl ?_
  refine ok_iload_n 1 hc dX0_causeOf_1 rfl rfl ?_
  refine ok_callVi (As := [.int a1]) (st := []) (fun n0 => [.ref (n0 + 17), .int a1]) hc VS_X0_135 sX_17 rfl rfl rfl ⟨Nat.le_of_ble_eq_true rfl, Nat.le_of_ble_eq_true rfl⟩ (Nat.le_of_ble_eq_true rfl) (fun q h => tX0_gotAtGoal a1 S q h) dX0_causeOf_2 (fun v1 S2 => ?_)
  refine ok_istore_n [(2, .int v1), (0, rv Γ 17), (1, .int a1)] hc dX0_causeOf_5 rfl (Nat.le_of_ble_eq_true rfl) rfl ?_
  refine ok_iconst (v := (-1)) hc dX0_causeOf_6 (by decide) ?_
  refine ok_istore_n [(3, .int (-1)), (2, .int v1), (0, rv Γ 17), (1, .int a1)] hc dX0_causeOf_7 rfl (Nat.le_of_ble_eq_true rfl) rfl ?_
  refine ok_iconst (v := 0) hc dX0_causeOf_8 (by decide) ?_
  refine ok_istore [(4, .int 0), (3, .int (-1)), (2, .int v1), (0, rv Γ 17), (1, .int a1)] hc dX0_causeOf_9 (Nat.le_of_ble_eq_true rfl) rfl ?_
  refine ok_sub [3, 4, 2, 1, 0] rfl ?_
  refine tX0_causeOf_L11 hc _ _ _  ?_ FU _ _ _
  · intro v3 S4
    refine ok_iload_n 1 hc dX0_causeOf_79 rfl rfl ?_
    refine ok_iconst (v := (-1)) hc dX0_causeOf_80 (by decide) ?_
    refine ok_icmp_ne_ite 88 hc dX0_causeOf_81 (by decide) (fun h5 => ?_) (fun h5 => ?_)
    · refine ok_aload_n 0 hc dX0_causeOf_88 rfl rfl ?_
      refine ok_iload_n 1 hc dX0_causeOf_89 rfl rfl ?_
      refine ok_callVi (As := [.int v3]) (st := []) (fun n0 => [.ref (n0 + 17), .int v3]) hc VS_X0_151 sX_17 rfl rfl rfl ⟨Nat.le_of_ble_eq_true rfl, Nat.le_of_ble_eq_true rfl⟩ (Nat.le_of_ble_eq_true rfl) (fun q h => tX0_asSenders v3 S4 q h) dX0_causeOf_90 (fun v6 S7 => ?_)
      exact ok_iret hc rfl dX0_causeOf_93
    · refine ok_iconst (v := (-1)) hc dX0_causeOf_84 (by decide) ?_
      refine ok_goto 93 hc dX0_causeOf_85 (by decide) ?_
      exact ok_iret hc rfl dX0_causeOf_93
def fX0_slotAt (a1 : Int32) (S : St) : Option (Int32 × St) :=
  if ib a1 20 then (bnd (fX5_isHopping (19 + nt a1) S) (fun v2 S3 => if v2 = 0 then (some (S3.1 (19 + nt a1) 7, S3)) else (bnd (fJ9_floorMod_7cf53 ((S3.1 (19 + nt a1) 7) + ((S3.1 (19 + nt a1) 8) * (S3.1 17 7))) 12 S3) (fun v5 S6 => some (v5, S6))))) else none
set_option maxRecDepth 100000 in
set_option maxHeartbeats 4000000 in
theorem tX0_slotAt (a1 : Int32) (S : St) (q : Int32 × St) (h : fX0_slotAt a1 S = some q) : MT vI wX mX0_slotAt (fun n0 => [.ref (n0 + 17), .int a1]) S q := by
  refine mt_of (show plainFor yX0_slotAt = true from by decide) (fun _ => Nat.le_of_ble_eq_true rfl) ?_
  intro Γ hc _
  rw [← h]
  show Ok Γ wX 0 [(0, rv Γ 17), (1, .int a1)] [] S _
  unfold fX0_slotAt
  refine ok_aload_n 0 hc dX0_slotAt_0 rfl rfl ?_
  refine ok_getr 18 hc FS_X0_25 rfl sX_17 rfl dX0_slotAt_1 ?_
  refine ok_iload_n 1 hc dX0_slotAt_4 rfl rfl ?_
  refine ok_aald (fun j => 19 + j) "AirParted$Sender" hc sX_18 rfl snd_rf dX0_slotAt_5 (fun h1 => ?_)
  show Ok Γ wX 6 [(0, rv Γ 17), (1, .int a1)] (rv Γ (19 + nt a1) :: []) S _
  refine ok_astore_n [(2, rv Γ (19 + nt a1)), (0, rv Γ 17), (1, .int a1)] hc dX0_slotAt_6 rfl (Nat.le_of_ble_eq_true rfl) rfl ?_
  refine ok_aload_n 0 hc dX0_slotAt_7 rfl rfl ?_
  refine ok_callVi (As := []) (st := []) (fun n0 => [.ref (n0 + (19 + nt a1))]) hc VS_X0_73 (snd_ob h1) rfl rfl rfl ⟨Nat.le_of_ble_eq_true rfl, Nat.le_of_ble_eq_true rfl⟩ (Nat.le_of_ble_eq_true rfl) (fun q h => tX5_isHopping (19 + nt a1) (snd_ob h1) S q h) dX0_slotAt_8 (fun v2 S3 => ?_)
  refine ok_if_eq_ite 36 hc dX0_slotAt_11 (by decide) (fun h4 => ?_) (fun h4 => ?_)
  · refine ok_aload_n 0 hc dX0_slotAt_36 rfl rfl ?_
    refine ok_geti hc FS_X0_77 rfl (snd_ob h1) dX0_slotAt_37 ?_
    exact ok_iret hc rfl dX0_slotAt_40
  · refine ok_aload_n 0 hc dX0_slotAt_14 rfl rfl ?_
    refine ok_geti hc FS_X0_77 rfl (snd_ob h1) dX0_slotAt_15 ?_
    refine ok_aload_n 0 hc dX0_slotAt_18 rfl rfl ?_
    refine ok_geti hc FS_X0_80 rfl (snd_ob h1) dX0_slotAt_19 ?_
    refine ok_aload_n 1 hc dX0_slotAt_22 rfl rfl ?_
    refine ok_geti hc FS_X0_51 rfl sX_17 dX0_slotAt_23 ?_
    refine ok_imul hc dX0_slotAt_26 ?_
    refine ok_iadd hc dX0_slotAt_27 ?_
    refine ok_bipush (v := 12) hc dX0_slotAt_28 (by decide) ?_
    refine ok_callSi (As := [.int ((S3.1 (19 + nt a1) 7) + ((S3.1 (19 + nt a1) 8) * (S3.1 17 7))), .int 12]) (st := []) (fun n0 => [.int ((S3.1 (19 + nt a1) 7) + ((S3.1 (19 + nt a1) 8) * (S3.1 17 7))), .int 12]) hc SS_X0_83 rfl rfl rfl ⟨Nat.le_of_ble_eq_true rfl, Nat.le_of_ble_eq_true rfl⟩ (Nat.le_of_ble_eq_true rfl) (fun q h => tJ9_floorMod_7cf53 wX ((S3.1 (19 + nt a1) 7) + ((S3.1 (19 + nt a1) 8) * (S3.1 17 7))) 12 S3 q h) dX0_slotAt_30 (fun v5 S6 => ?_)
    refine ok_goto 40 hc dX0_slotAt_33 (by decide) ?_
    exact ok_iret hc rfl dX0_slotAt_40
def fX0_gatherRivals_L7_st (a1 : Int32) (rec : Int32 → St → Option (Int32 × St)) (a2 : Int32) (S : St) : Option (Int32 × St) :=
  if (S.1 17 6) ≤ a2 then (some (S.1 17 8, S)) else (jn (fun (S2 : St) => rec (a2 + 1) S2) (fun k3 => if a2 = a1 then (k3 S) else (if ib a2 20 then (if (S.1 (19 + nt a2) 10) = 0 then (k3 S) else (bnd (fX0_slotAt a2 S) (fun v7 S8 => bnd (fX0_slotAt a1 S8) (fun v9 S10 => if v7 = v9 then (if ib (S10.1 17 8) 20 then lt (wi S10 39 (nt (S10.1 17 8)) a2) (fun S12 => if ib a1 20 then (bnd (fX0_gotAt a2 (S12.1 (19 + nt a1) 5) 0 S12) (fun v15 S16 => if ib (S12.1 17 8) 20 then lt (wi S16 40 (nt (S12.1 17 8)) v15) (fun S17 => lt (wi S17 17 8 ((S17.1 17 8) + 1)) (fun S19 => k3 S19)) else none)) else none) else none) else (k3 S10))))) else none)))
def fX0_gatherRivals_L7 (a1 : Int32) : Nat → Int32 → St → Option (Int32 × St)
  | 0 => fun _ _ => none
  | n + 1 => fun a2 S => fX0_gatherRivals_L7_st a1 (fX0_gatherRivals_L7 a1 n) a2 S
def fX0_gatherRivals (a1 : Int32) (S : St) : Option (Int32 × St) :=
  lt (wi S 17 8 0) (fun S1 => fX0_gatherRivals_L7 a1 FU 0 S1)
set_option maxRecDepth 100000 in
set_option maxHeartbeats 4000000 in
theorem tX0_gatherRivals_L7 {Γ : Cx Int32} (hc : Cok Γ wX vI mX0_gatherRivals) (a1 : Int32) : ∀ (n : Nat) (a2 : Int32) (S : St), Ok Γ wX 7 [(0, rv Γ 17), (1, .int a1), (2, .int a2)] [] S (fX0_gatherRivals_L7 a1 n a2 S) := by
  intro n
  induction n with
  | zero =>
    intro a2 S
    exact ok_none
  | succ n ih =>
    intro a2 S
    show Ok Γ wX 7 [(0, rv Γ 17), (1, .int a1), (2, .int a2)] [] S (fX0_gatherRivals_L7_st a1 (fX0_gatherRivals_L7 a1 n) a2 S)
    unfold fX0_gatherRivals_L7_st
    refine ok_iload_n 2 hc dX0_gatherRivals_7 rfl rfl ?_
    refine ok_aload_n 0 hc dX0_gatherRivals_8 rfl rfl ?_
    refine ok_geti hc FS_X0_37 rfl sX_17 dX0_gatherRivals_9 ?_
    refine ok_icmp_ge_ite 95 hc dX0_gatherRivals_12 (by decide) (fun h1 => ?_) (fun h1 => ?_)
    · refine ok_aload_n 0 hc dX0_gatherRivals_95 rfl rfl ?_
      refine ok_geti hc FS_X0_124 rfl sX_17 dX0_gatherRivals_96 ?_
      exact ok_iret hc rfl dX0_gatherRivals_99
    · refine ok_iload_n 2 hc dX0_gatherRivals_15 rfl rfl ?_
      refine ok_iload_n 1 hc dX0_gatherRivals_16 rfl rfl ?_
      refine ok_jn (fun g => ∀ (S2 : St), Ok Γ wX 89 [(0, rv Γ 17), (1, .int a1), (2, .int a2)] [] S2 (g S2)) ?_ (fun k3 hk3 => ?_)
      · intro S2
        refine ok_iinc (v := 1) 2 [(2, .int (a2 + 1)), (0, rv Γ 17), (1, .int a1)] hc dX0_gatherRivals_89 rfl (by decide) (Nat.le_of_ble_eq_true rfl) rfl ?_
        refine ok_goto 7 hc dX0_gatherRivals_92 (by decide) ?_
        refine ok_sub [1, 2, 0] rfl ?_
        exact ih _ _
      · refine ok_icmp_eq_ite 89 hc dX0_gatherRivals_17 (by decide) (fun h4 => ?_) (fun h4 => ?_)
        · exact hk3 _
        · refine ok_aload_n 0 hc dX0_gatherRivals_20 rfl rfl ?_
          refine ok_getr 18 hc FS_X0_25 rfl sX_17 rfl dX0_gatherRivals_21 ?_
          refine ok_iload_n 2 hc dX0_gatherRivals_24 rfl rfl ?_
          refine ok_aald (fun j => 19 + j) "AirParted$Sender" hc sX_18 rfl snd_rf dX0_gatherRivals_25 (fun h5 => ?_)
          show Ok Γ wX 26 [(0, rv Γ 17), (1, .int a1), (2, .int a2)] (rv Γ (19 + nt a2) :: []) S _
          refine ok_geti hc FS_X0_41 rfl (snd_ob h5) dX0_gatherRivals_26 ?_
          refine ok_if_eq_ite 89 hc dX0_gatherRivals_29 (by decide) (fun h6 => ?_) (fun h6 => ?_)
          · exact hk3 _
          · refine ok_aload_n 0 hc dX0_gatherRivals_32 rfl rfl ?_
            refine ok_iload_n 2 hc dX0_gatherRivals_33 rfl rfl ?_
            refine ok_callVi (As := [.int a2]) (st := []) (fun n0 => [.ref (n0 + 17), .int a2]) hc VS_X0_108 sX_17 rfl rfl rfl ⟨Nat.le_of_ble_eq_true rfl, Nat.le_of_ble_eq_true rfl⟩ (Nat.le_of_ble_eq_true rfl) (fun q h => tX0_slotAt a2 S q h) dX0_gatherRivals_34 (fun v7 S8 => ?_)
            refine ok_aload_n 0 hc dX0_gatherRivals_37 rfl rfl ?_
            refine ok_iload_n 1 hc dX0_gatherRivals_38 rfl rfl ?_
            refine ok_callVi (As := [.int a1]) (st := [.int v7]) (fun n0 => [.ref (n0 + 17), .int a1]) hc VS_X0_108 sX_17 rfl rfl rfl ⟨Nat.le_of_ble_eq_true rfl, Nat.le_of_ble_eq_true rfl⟩ (Nat.le_of_ble_eq_true rfl) (fun q h => tX0_slotAt a1 S8 q h) dX0_gatherRivals_39 (fun v9 S10 => ?_)
            refine ok_icmp_ne_ite 89 hc dX0_gatherRivals_42 (by decide) (fun h11 => ?_) (fun h11 => ?_)
            · exact hk3 _
            · refine ok_aload_n 0 hc dX0_gatherRivals_45 rfl rfl ?_
              refine ok_getr 39 hc FS_X0_30 rfl sX_17 rfl dX0_gatherRivals_46 ?_
              refine ok_aload_n 0 hc dX0_gatherRivals_49 rfl rfl ?_
              refine ok_geti hc FS_X0_124 rfl sX_17 dX0_gatherRivals_50 ?_
              refine ok_iload_n 2 hc dX0_gatherRivals_53 rfl rfl ?_
              refine ok_iast hc sX_39 dX0_gatherRivals_54 (fun h13 => ?_)
              refine ok_ltS (fun S12 => ?_)
              refine ok_aload_n 0 hc dX0_gatherRivals_55 rfl rfl ?_
              refine ok_getr 40 hc FS_X0_34 rfl sX_17 rfl dX0_gatherRivals_56 ?_
              refine ok_aload_n 0 hc dX0_gatherRivals_59 rfl rfl ?_
              refine ok_geti hc FS_X0_124 rfl sX_17 dX0_gatherRivals_60 ?_
              refine ok_aload_n 0 hc dX0_gatherRivals_63 rfl rfl ?_
              refine ok_iload_n 2 hc dX0_gatherRivals_64 rfl rfl ?_
              refine ok_aload_n 0 hc dX0_gatherRivals_65 rfl rfl ?_
              refine ok_getr 18 hc FS_X0_25 rfl sX_17 rfl dX0_gatherRivals_66 ?_
              refine ok_iload_n 1 hc dX0_gatherRivals_69 rfl rfl ?_
              refine ok_aald (fun j => 19 + j) "AirParted$Sender" hc sX_18 rfl snd_rf dX0_gatherRivals_70 (fun h14 => ?_)
              show Ok Γ wX 71 [(0, rv Γ 17), (1, .int a1), (2, .int a2)] (rv Γ (19 + nt a1) :: [.int a2, rv Γ 17, .int (S12.1 17 8), rv Γ 40]) S12 _
              refine ok_geti hc FS_X0_102 rfl (snd_ob h14) dX0_gatherRivals_71 ?_
              refine ok_iconst (v := 0) hc dX0_gatherRivals_74 (by decide) ?_
              refine ok_callVi (As := [.int a2, .int (S12.1 (19 + nt a1) 5), .int 0]) (st := [.int (S12.1 17 8), rv Γ 40]) (fun n0 => [.ref (n0 + 17), .int a2, .int (S12.1 (19 + nt a1) 5), .int 0]) hc VS_X0_120 sX_17 rfl rfl rfl ⟨Nat.le_of_ble_eq_true rfl, Nat.le_of_ble_eq_true rfl⟩ (Nat.le_of_ble_eq_true rfl) (fun q h => tX0_gotAt a2 (S12.1 (19 + nt a1) 5) 0 S12 q h) dX0_gatherRivals_75 (fun v15 S16 => ?_)
              refine ok_iast hc sX_40 dX0_gatherRivals_78 (fun h18 => ?_)
              refine ok_ltS (fun S17 => ?_)
              refine ok_aload_n 0 hc dX0_gatherRivals_79 rfl rfl ?_
              refine ok_dup hc dX0_gatherRivals_80 rfl ?_
              refine ok_geti hc FS_X0_124 rfl sX_17 dX0_gatherRivals_81 ?_
              refine ok_iconst (v := 1) hc dX0_gatherRivals_84 (by decide) ?_
              refine ok_iadd hc dX0_gatherRivals_85 ?_
              refine ok_puti hc FP_X0_124 rfl sX_17 dX0_gatherRivals_86 ?_
              refine ok_ltS (fun S19 => ?_)
              exact hk3 _
set_option maxRecDepth 100000 in
set_option maxHeartbeats 4000000 in
theorem tX0_gatherRivals (a1 : Int32) (S : St) (q : Int32 × St) (h : fX0_gatherRivals a1 S = some q) : MT vI wX mX0_gatherRivals (fun n0 => [.ref (n0 + 17), .int a1]) S q := by
  refine mt_of (show plainFor yX0_gatherRivals = true from by decide) (fun _ => Nat.le_of_ble_eq_true rfl) ?_
  intro Γ hc _
  rw [← h]
  show Ok Γ wX 0 [(0, rv Γ 17), (1, .int a1)] [] S _
  unfold fX0_gatherRivals
  refine ok_aload_n 0 hc dX0_gatherRivals_0 rfl rfl ?_
  refine ok_iconst (v := 0) hc dX0_gatherRivals_1 (by decide) ?_
  refine ok_puti hc FP_X0_124 rfl sX_17 dX0_gatherRivals_2 ?_
  refine ok_ltS (fun S1 => ?_)
  refine ok_iconst (v := 0) hc dX0_gatherRivals_5 (by decide) ?_
  refine ok_istore_n [(2, .int 0), (0, rv Γ 17), (1, .int a1)] hc dX0_gatherRivals_6 rfl (Nat.le_of_ble_eq_true rfl) rfl ?_
  refine ok_sub [1, 2, 0] rfl ?_
  refine tX0_gatherRivals_L7 hc _   FU _ _
def fX0_has (a1 : Int32) (S : St) : Option (Int32 × St) :=
  if a1 < 0 then (some (0, S)) else (if (S.1 17 6) ≤ a1 then (some (0, S)) else (some (1, S)))
set_option maxRecDepth 100000 in
set_option maxHeartbeats 4000000 in
theorem tX0_has (a1 : Int32) (S : St) (q : Int32 × St) (h : fX0_has a1 S = some q) : MT vI wX mX0_has (fun n0 => [.ref (n0 + 17), .int a1]) S q := by
  refine mt_of (show plainFor yX0_has = true from by decide) (fun _ => Nat.le_of_ble_eq_true rfl) ?_
  intro Γ hc _
  rw [← h]
  show Ok Γ wX 0 [(0, rv Γ 17), (1, .int a1)] [] S _
  unfold fX0_has
  refine ok_iload_n 1 hc dX0_has_0 rfl rfl ?_
  refine ok_if_lt_ite 16 hc dX0_has_1 (by decide) (fun h1 => ?_) (fun h1 => ?_)
  · refine ok_iconst (v := 0) hc dX0_has_16 (by decide) ?_
    exact ok_zretK hc rfl (by decide) dX0_has_17
  · refine ok_iload_n 1 hc dX0_has_4 rfl rfl ?_
    refine ok_aload_n 0 hc dX0_has_5 rfl rfl ?_
    refine ok_geti hc FS_X0_37 rfl sX_17 dX0_has_6 ?_
    refine ok_icmp_ge_ite 16 hc dX0_has_9 (by decide) (fun h2 => ?_) (fun h2 => ?_)
    · refine ok_iconst (v := 0) hc dX0_has_16 (by decide) ?_
      exact ok_zretK hc rfl (by decide) dX0_has_17
    · refine ok_iconst (v := 1) hc dX0_has_12 (by decide) ?_
      refine ok_goto 17 hc dX0_has_13 (by decide) ?_
      exact ok_zretK hc rfl (by decide) dX0_has_17
def fX0_isHeard (a1 : Int32) (S : St) : Option (Int32 × St) :=
  bnd (fX0_gatherRivals a1 S) (fun v1 S2 => if ib a1 20 then (bnd (fX0_gotAtGoal a1 S2) (fun v4 S5 => bnd (fX0_againstWithout 0 S5) (fun v6 S7 => bnd (fX5_isEnough (19 + nt a1) v4 v6 S7) (fun v8 S9 => if b01 v8 then some (v8, S9) else none)))) else none)
set_option maxRecDepth 100000 in
set_option maxHeartbeats 4000000 in
theorem tX0_isHeard (a1 : Int32) (S : St) (q : Int32 × St) (h : fX0_isHeard a1 S = some q) : MT vI wX mX0_isHeard (fun n0 => [.ref (n0 + 17), .int a1]) S q := by
  refine mt_of (show plainFor yX0_isHeard = true from by decide) (fun _ => Nat.le_of_ble_eq_true rfl) ?_
  intro Γ hc _
  rw [← h]
  show Ok Γ wX 0 [(0, rv Γ 17), (1, .int a1)] [] S _
  unfold fX0_isHeard
  refine ok_aload_n 0 hc dX0_isHeard_0 rfl rfl ?_
  refine ok_iload_n 1 hc dX0_isHeard_1 rfl rfl ?_
  refine ok_callVi (As := [.int a1]) (st := []) (fun n0 => [.ref (n0 + 17), .int a1]) hc VS_X0_132 sX_17 rfl rfl rfl ⟨Nat.le_of_ble_eq_true rfl, Nat.le_of_ble_eq_true rfl⟩ (Nat.le_of_ble_eq_true rfl) (fun q h => tX0_gatherRivals a1 S q h) dX0_isHeard_2 (fun v1 S2 => ?_)
  refine ok_pop hc dX0_isHeard_5 rfl ?_
  refine ok_aload_n 0 hc dX0_isHeard_6 rfl rfl ?_
  refine ok_getr 18 hc FS_X0_25 rfl sX_17 rfl dX0_isHeard_7 ?_
  refine ok_iload_n 1 hc dX0_isHeard_10 rfl rfl ?_
  refine ok_aald (fun j => 19 + j) "AirParted$Sender" hc sX_18 rfl snd_rf dX0_isHeard_11 (fun h3 => ?_)
  show Ok Γ wX 12 [(0, rv Γ 17), (1, .int a1)] (rv Γ (19 + nt a1) :: []) S2 _
  refine ok_aload_n 0 hc dX0_isHeard_12 rfl rfl ?_
  refine ok_iload_n 1 hc dX0_isHeard_13 rfl rfl ?_
  refine ok_callVi (As := [.int a1]) (st := [rv Γ (19 + nt a1)]) (fun n0 => [.ref (n0 + 17), .int a1]) hc VS_X0_135 sX_17 rfl rfl rfl ⟨Nat.le_of_ble_eq_true rfl, Nat.le_of_ble_eq_true rfl⟩ (Nat.le_of_ble_eq_true rfl) (fun q h => tX0_gotAtGoal a1 S2 q h) dX0_isHeard_14 (fun v4 S5 => ?_)
  refine ok_aload_n 0 hc dX0_isHeard_17 rfl rfl ?_
  refine ok_iconst (v := 0) hc dX0_isHeard_18 (by decide) ?_
  refine ok_callVl (As := [.int 0]) (st := [.int v4, rv Γ (19 + nt a1)]) (fun n0 => [.ref (n0 + 17), .int 0]) hc VS_X0_138 sX_17 rfl rfl rfl ⟨Nat.le_of_ble_eq_true rfl, Nat.le_of_ble_eq_true rfl⟩ (Nat.le_of_ble_eq_true rfl) (fun q h => tX0_againstWithout 0 S5 q h) dX0_isHeard_19 (fun v6 S7 => ?_)
  refine ok_callVi (As := [.int v4, .long v6]) (st := []) (fun n0 => [.ref (n0 + (19 + nt a1)), .int v4, .long v6]) hc VS_X0_142 (snd_ob h3) rfl rfl rfl ⟨Nat.le_of_ble_eq_true rfl, Nat.le_of_ble_eq_true rfl⟩ (Nat.le_of_ble_eq_true rfl) (fun q h => tX5_isEnough (19 + nt a1) v4 v6 (snd_ob h3) S7 q h) dX0_isHeard_22 (fun v8 S9 => ?_)
  exact ok_zret hc rfl dX0_isHeard_25
def fX0_tell (a1 : Int32) (a2 : Int32) (S : St) : Option (Int32 × St) :=
  if ib a1 20 then (if a2 = 0 then (some (S.1 (19 + nt a1) 0, S)) else if a2 = 1 then (bnd (fX0_cellOf a1 S) (fun v4 S5 => some (v4, S5))) else if a2 = 2 then (some (S.1 (19 + nt a1) 2, S)) else if a2 = 3 then (some (S.1 (19 + nt a1) 3, S)) else if a2 = 4 then (some (S.1 (19 + nt a1) 4, S)) else if a2 = 5 then (some (S.1 (19 + nt a1) 5, S)) else if a2 = 6 then (some (S.1 (19 + nt a1) 6, S)) else if a2 = 7 then (bnd (fX0_slotAt a1 S) (fun v12 S13 => some (v12, S13))) else if a2 = 8 then (if (S.1 (19 + nt a1) 10) = 0 then (some (0, S)) else (some (1, S))) else if a2 = 9 then (some (S.1 (19 + nt a1) 1, S)) else if a2 = 10 then (some (S.1 (19 + nt a1) 7, S)) else (some ((-2147483648), S))) else none
set_option maxRecDepth 100000 in
set_option maxHeartbeats 4000000 in
theorem tX0_tell (a1 : Int32) (a2 : Int32) (S : St) (q : Int32 × St) (h : fX0_tell a1 a2 S = some q) : MT vI wX mX0_tell (fun n0 => [.ref (n0 + 17), .int a1, .int a2]) S q := by
  refine mt_of (show plainFor yX0_tell = true from by decide) (fun _ => Nat.le_of_ble_eq_true rfl) ?_
  intro Γ hc _
  rw [← h]
  show Ok Γ wX 0 [(0, rv Γ 17), (1, .int a1), (2, .int a2)] [] S _
  unfold fX0_tell
  refine ok_aload_n 0 hc dX0_tell_0 rfl rfl ?_
  refine ok_getr 18 hc FS_X0_25 rfl sX_17 rfl dX0_tell_1 ?_
  refine ok_iload_n 1 hc dX0_tell_4 rfl rfl ?_
  refine ok_aald (fun j => 19 + j) "AirParted$Sender" hc sX_18 rfl snd_rf dX0_tell_5 (fun h1 => ?_)
  show Ok Γ wX 6 [(0, rv Γ 17), (1, .int a1), (2, .int a2)] (rv Γ (19 + nt a1) :: []) S _
  refine ok_astore_n [(3, rv Γ (19 + nt a1)), (0, rv Γ 17), (1, .int a1), (2, .int a2)] hc dX0_tell_6 rfl (Nat.le_of_ble_eq_true rfl) rfl ?_
  refine ok_iload_n 3 hc dX0_tell_7 rfl rfl ?_
  refine ok_ite (fun h2 => ?_) (fun h2 => ?_)
  · refine ok_tswIn (v := 0) 68 hc dX0_tell_8 h2 (by decide) (by decide) rfl (by decide) ?_
    refine ok_aload_n 0 hc dX0_tell_68 rfl rfl ?_
    refine ok_geti hc FS_X0_45 rfl (snd_ob h1) dX0_tell_69 ?_
    exact ok_iret hc rfl dX0_tell_72
  · refine ok_ite (fun h3 => ?_) (fun h3 => ?_)
    · refine ok_tswIn (v := 1) 73 hc dX0_tell_8 h3 (by decide) (by decide) rfl (by decide) ?_
      refine ok_aload_n 1 hc dX0_tell_73 rfl rfl ?_
      refine ok_iload_n 2 hc dX0_tell_74 rfl rfl ?_
      refine ok_callVi (As := [.int a1]) (st := []) (fun n0 => [.ref (n0 + 17), .int a1]) hc VS_X0_89 sX_17 rfl rfl rfl ⟨Nat.le_of_ble_eq_true rfl, Nat.le_of_ble_eq_true rfl⟩ (Nat.le_of_ble_eq_true rfl) (fun q h => tX0_cellOf a1 S q h) dX0_tell_75 (fun v4 S5 => ?_)
      exact ok_iret hc rfl dX0_tell_78
    · refine ok_ite (fun h6 => ?_) (fun h6 => ?_)
      · refine ok_tswIn (v := 2) 79 hc dX0_tell_8 h6 (by decide) (by decide) rfl (by decide) ?_
        refine ok_aload_n 0 hc dX0_tell_79 rfl rfl ?_
        refine ok_geti hc FS_X0_93 rfl (snd_ob h1) dX0_tell_80 ?_
        exact ok_iret hc rfl dX0_tell_83
      · refine ok_ite (fun h7 => ?_) (fun h7 => ?_)
        · refine ok_tswIn (v := 3) 84 hc dX0_tell_8 h7 (by decide) (by decide) rfl (by decide) ?_
          refine ok_aload_n 0 hc dX0_tell_84 rfl rfl ?_
          refine ok_geti hc FS_X0_96 rfl (snd_ob h1) dX0_tell_85 ?_
          exact ok_iret hc rfl dX0_tell_88
        · refine ok_ite (fun h8 => ?_) (fun h8 => ?_)
          · refine ok_tswIn (v := 4) 89 hc dX0_tell_8 h8 (by decide) (by decide) rfl (by decide) ?_
            refine ok_aload_n 0 hc dX0_tell_89 rfl rfl ?_
            refine ok_geti hc FS_X0_99 rfl (snd_ob h1) dX0_tell_90 ?_
            exact ok_iret hc rfl dX0_tell_93
          · refine ok_ite (fun h9 => ?_) (fun h9 => ?_)
            · refine ok_tswIn (v := 5) 94 hc dX0_tell_8 h9 (by decide) (by decide) rfl (by decide) ?_
              refine ok_aload_n 0 hc dX0_tell_94 rfl rfl ?_
              refine ok_geti hc FS_X0_102 rfl (snd_ob h1) dX0_tell_95 ?_
              exact ok_iret hc rfl dX0_tell_98
            · refine ok_ite (fun h10 => ?_) (fun h10 => ?_)
              · refine ok_tswIn (v := 6) 99 hc dX0_tell_8 h10 (by decide) (by decide) rfl (by decide) ?_
                refine ok_aload_n 0 hc dX0_tell_99 rfl rfl ?_
                refine ok_geti hc FS_X0_105 rfl (snd_ob h1) dX0_tell_100 ?_
                exact ok_iret hc rfl dX0_tell_103
              · refine ok_ite (fun h11 => ?_) (fun h11 => ?_)
                · refine ok_tswIn (v := 7) 104 hc dX0_tell_8 h11 (by decide) (by decide) rfl (by decide) ?_
                  refine ok_aload_n 1 hc dX0_tell_104 rfl rfl ?_
                  refine ok_iload_n 2 hc dX0_tell_105 rfl rfl ?_
                  refine ok_callVi (As := [.int a1]) (st := []) (fun n0 => [.ref (n0 + 17), .int a1]) hc VS_X0_108 sX_17 rfl rfl rfl ⟨Nat.le_of_ble_eq_true rfl, Nat.le_of_ble_eq_true rfl⟩ (Nat.le_of_ble_eq_true rfl) (fun q h => tX0_slotAt a1 S q h) dX0_tell_106 (fun v12 S13 => ?_)
                  exact ok_iret hc rfl dX0_tell_109
                · refine ok_ite (fun h14 => ?_) (fun h14 => ?_)
                  · refine ok_tswIn (v := 8) 110 hc dX0_tell_8 h14 (by decide) (by decide) rfl (by decide) ?_
                    refine ok_aload_n 0 hc dX0_tell_110 rfl rfl ?_
                    refine ok_geti hc FS_X0_41 rfl (snd_ob h1) dX0_tell_111 ?_
                    refine ok_if_eq_ite 121 hc dX0_tell_114 (by decide) (fun h15 => ?_) (fun h15 => ?_)
                    · refine ok_iconst (v := 0) hc dX0_tell_121 (by decide) ?_
                      exact ok_iret hc rfl dX0_tell_122
                    · refine ok_iconst (v := 1) hc dX0_tell_117 (by decide) ?_
                      refine ok_goto 122 hc dX0_tell_118 (by decide) ?_
                      exact ok_iret hc rfl dX0_tell_122
                  · refine ok_ite (fun h16 => ?_) (fun h16 => ?_)
                    · refine ok_tswIn (v := 9) 123 hc dX0_tell_8 h16 (by decide) (by decide) rfl (by decide) ?_
                      refine ok_aload_n 0 hc dX0_tell_123 rfl rfl ?_
                      refine ok_geti hc FS_X0_60 rfl (snd_ob h1) dX0_tell_124 ?_
                      exact ok_iret hc rfl dX0_tell_127
                    · refine ok_ite (fun h17 => ?_) (fun h17 => ?_)
                      · refine ok_tswIn (v := 10) 128 hc dX0_tell_8 h17 (by decide) (by decide) rfl (by decide) ?_
                        refine ok_aload_n 0 hc dX0_tell_128 rfl rfl ?_
                        refine ok_geti hc FS_X0_77 rfl (snd_ob h1) dX0_tell_129 ?_
                        exact ok_iret hc rfl dX0_tell_132
                      · refine ok_tswOut 133 hc dX0_tell_8 (by have i0 := ne_i (k := 0) h2 (by decide); have i1 := ne_i (k := 1) h3 (by decide); have i2 := ne_i (k := 2) h6 (by decide); have i3 := ne_i (k := 3) h7 (by decide); have i4 := ne_i (k := 4) h8 (by decide); have i5 := ne_i (k := 5) h9 (by decide); have i6 := ne_i (k := 6) h10 (by decide); have i7 := ne_i (k := 7) h11 (by decide); have i8 := ne_i (k := 8) h14 (by decide); have i9 := ne_i (k := 9) h16 (by decide); have i10 := ne_i (k := 10) h17 (by decide); omega) (by decide) ?_
                        refine ok_ldc hc dX0_tell_133 W_554 ?_
                        exact ok_iret hc rfl dX0_tell_135
def fX0_totalOn_L4_st (rec : Int32 → Int32 → St → Option (Int32 × St)) (a1 : Int32) (a2 : Int32) (S : St) : Option (Int32 × St) :=
  if (S.1 17 6) ≤ a2 then (some (a1, S)) else (if ib a2 20 then (jn (fun (v3 : Int32) => rec v3 (a2 + 1) S) (fun k4 => if (S.1 (19 + nt a2) 10) = 0 then (k4 a1) else (k4 (a1 + 1)))) else none)
def fX0_totalOn_L4 : Nat → Int32 → Int32 → St → Option (Int32 × St)
  | 0 => fun _ _ _ => none
  | n + 1 => fun a1 a2 S => fX0_totalOn_L4_st (fX0_totalOn_L4 n) a1 a2 S
def fX0_totalOn (S : St) : Option (Int32 × St) :=
  fX0_totalOn_L4 FU 0 0 S
set_option maxRecDepth 100000 in
set_option maxHeartbeats 4000000 in
theorem tX0_totalOn_L4 {Γ : Cx Int32} (hc : Cok Γ wX vI mX0_totalOn) : ∀ (n : Nat) (a1 : Int32) (a2 : Int32) (S : St), Ok Γ wX 4 [(0, rv Γ 17), (1, .int a1), (2, .int a2)] [] S (fX0_totalOn_L4 n a1 a2 S) := by
  intro n
  induction n with
  | zero =>
    intro a1 a2 S
    exact ok_none
  | succ n ih =>
    intro a1 a2 S
    show Ok Γ wX 4 [(0, rv Γ 17), (1, .int a1), (2, .int a2)] [] S (fX0_totalOn_L4_st (fX0_totalOn_L4 n) a1 a2 S)
    unfold fX0_totalOn_L4_st
    refine ok_iload_n 2 hc dX0_totalOn_4 rfl rfl ?_
    refine ok_aload_n 0 hc dX0_totalOn_5 rfl rfl ?_
    refine ok_geti hc FS_X0_37 rfl sX_17 dX0_totalOn_6 ?_
    refine ok_icmp_ge_ite 33 hc dX0_totalOn_9 (by decide) (fun h1 => ?_) (fun h1 => ?_)
    · refine ok_iload_n 1 hc dX0_totalOn_33 rfl rfl ?_
      exact ok_iret hc rfl dX0_totalOn_34
    · refine ok_aload_n 0 hc dX0_totalOn_12 rfl rfl ?_
      refine ok_getr 18 hc FS_X0_25 rfl sX_17 rfl dX0_totalOn_13 ?_
      refine ok_iload_n 2 hc dX0_totalOn_16 rfl rfl ?_
      refine ok_aald (fun j => 19 + j) "AirParted$Sender" hc sX_18 rfl snd_rf dX0_totalOn_17 (fun h2 => ?_)
      show Ok Γ wX 18 [(0, rv Γ 17), (1, .int a1), (2, .int a2)] (rv Γ (19 + nt a2) :: []) S _
      refine ok_geti hc FS_X0_41 rfl (snd_ob h2) dX0_totalOn_18 ?_
      refine ok_jn (fun g => ∀ (v3 : Int32), Ok Γ wX 27 [(0, rv Γ 17), (1, .int v3), (2, .int a2)] [] S (g v3)) ?_ (fun k4 hk4 => ?_)
      · intro v3
        refine ok_iinc (v := 1) 2 [(2, .int (a2 + 1)), (0, rv Γ 17), (1, .int v3)] hc dX0_totalOn_27 rfl (by decide) (Nat.le_of_ble_eq_true rfl) rfl ?_
        refine ok_goto 4 hc dX0_totalOn_30 (by decide) ?_
        refine ok_sub [1, 2, 0] rfl ?_
        exact ih _ _ _
      · refine ok_if_eq_ite 27 hc dX0_totalOn_21 (by decide) (fun h5 => ?_) (fun h5 => ?_)
        · exact hk4 _
        · refine ok_iinc (v := 1) 1 [(1, .int (a1 + 1)), (0, rv Γ 17), (2, .int a2)] hc dX0_totalOn_24 rfl (by decide) (Nat.le_of_ble_eq_true rfl) rfl ?_
          refine ok_sub [1, 0, 2] rfl ?_
          exact hk4 _
set_option maxRecDepth 100000 in
set_option maxHeartbeats 4000000 in
theorem tX0_totalOn (S : St) (q : Int32 × St) (h : fX0_totalOn S = some q) : MT vI wX mX0_totalOn (fun n0 => [.ref (n0 + 17)]) S q := by
  refine mt_of (show plainFor yX0_totalOn = true from by decide) (fun _ => Nat.le_of_ble_eq_true rfl) ?_
  intro Γ hc _
  rw [← h]
  show Ok Γ wX 0 [(0, rv Γ 17)] [] S _
  unfold fX0_totalOn
  refine ok_iconst (v := 0) hc dX0_totalOn_0 (by decide) ?_
  refine ok_istore_n [(1, .int 0), (0, rv Γ 17)] hc dX0_totalOn_1 rfl (Nat.le_of_ble_eq_true rfl) rfl ?_
  refine ok_iconst (v := 0) hc dX0_totalOn_2 (by decide) ?_
  refine ok_istore_n [(2, .int 0), (1, .int 0), (0, rv Γ 17)] hc dX0_totalOn_3 rfl (Nat.le_of_ble_eq_true rfl) rfl ?_
  refine ok_sub [2, 1, 0] rfl ?_
  refine tX0_totalOn_L4 hc    FU _ _ _
