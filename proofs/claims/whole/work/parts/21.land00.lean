def fX5_ownMood (q0 : Nat) (S : St) : Option (Int32 × St) :=
  if (S.1 q0 0) = 4 then (some (1, S)) else (some (0, S))
set_option maxRecDepth 100000 in
set_option maxHeartbeats 4000000 in
theorem tX5_ownMood (q0 : Nat) (hq0 : Iob wX q0 5 11) (S : St) (q : Int32 × St) (h : fX5_ownMood q0 S = some q) : MT vI wX mX5_ownMood (fun n0 => [.ref (n0 + q0)]) S q := by
  refine mt_of (show plainFor yX5_ownMood = true from by decide) (fun _ => Nat.le_of_ble_eq_true rfl) ?_
  intro Γ hc _
  rw [← h]
  show Ok Γ wX 0 [(0, rv Γ q0)] [] S _
  unfold fX5_ownMood
  refine ok_aload_n 0 hc dX5_ownMood_0 rfl rfl ?_
  refine ok_geti hc FS_X5_11 rfl hq0 dX5_ownMood_1 ?_
  refine ok_iconst (v := 4) hc dX5_ownMood_4 (by decide) ?_
  refine ok_icmp_ne_ite 12 hc dX5_ownMood_5 (by decide) (fun h1 => ?_) (fun h1 => ?_)
  · refine ok_iconst (v := 0) hc dX5_ownMood_12 (by decide) ?_
    exact ok_iret hc rfl dX5_ownMood_13
  · refine ok_iconst (v := 1) hc dX5_ownMood_8 (by decide) ?_
    refine ok_goto 13 hc dX5_ownMood_9 (by decide) ?_
    exact ok_iret hc rfl dX5_ownMood_13
def fX6_holds (q0 : Nat) (a1 : Int32) (a2 : Int32) (S : St) : Option (Int32 × St) :=
  if (S.1 q0 1) = 0 then (if a1 < 0 then (some (0, S)) else (if a2 < 0 then (some (0, S)) else (if (S.1 q0 3) < a1 then (some (0, S)) else (if ((S.1 q0 3) - a1) < a2 then (some (0, S)) else (some (1, S)))))) else (some (0, S))
set_option maxRecDepth 100000 in
set_option maxHeartbeats 4000000 in
theorem tX6_holds (q0 : Nat) (a1 : Int32) (a2 : Int32) (hq0 : Iob wX q0 6 4) (S : St) (q : Int32 × St) (h : fX6_holds q0 a1 a2 S = some q) : MT vI wX mX6_holds (fun n0 => [.ref (n0 + q0), .int a1, .int a2]) S q := by
  refine mt_of (show plainFor yX6_holds = true from by decide) (fun _ => Nat.le_of_ble_eq_true rfl) ?_
  intro Γ hc _
  rw [← h]
  show Ok Γ wX 0 [(0, rv Γ q0), (1, .int a1), (2, .int a2)] [] S _
  unfold fX6_holds
  refine ok_aload_n 0 hc dX6_holds_0 rfl rfl ?_
  refine ok_geti hc FS_X6_13 rfl hq0 dX6_holds_1 ?_
  refine ok_if_ne_ite 37 hc dX6_holds_4 (by decide) (fun h1 => ?_) (fun h1 => ?_)
  · refine ok_iconst (v := 0) hc dX6_holds_37 (by decide) ?_
    exact ok_zretK hc rfl (by decide) dX6_holds_38
  · refine ok_iload_n 1 hc dX6_holds_7 rfl rfl ?_
    refine ok_if_lt_ite 37 hc dX6_holds_8 (by decide) (fun h2 => ?_) (fun h2 => ?_)
    · refine ok_iconst (v := 0) hc dX6_holds_37 (by decide) ?_
      exact ok_zretK hc rfl (by decide) dX6_holds_38
    · refine ok_iload_n 2 hc dX6_holds_11 rfl rfl ?_
      refine ok_if_lt_ite 37 hc dX6_holds_12 (by decide) (fun h3 => ?_) (fun h3 => ?_)
      · refine ok_iconst (v := 0) hc dX6_holds_37 (by decide) ?_
        exact ok_zretK hc rfl (by decide) dX6_holds_38
      · refine ok_iload_n 1 hc dX6_holds_15 rfl rfl ?_
        refine ok_aload_n 0 hc dX6_holds_16 rfl rfl ?_
        refine ok_geti hc FS_X6_21 rfl hq0 dX6_holds_17 ?_
        refine ok_icmp_gt_ite 37 hc dX6_holds_20 (by decide) (fun h4 => ?_) (fun h4 => ?_)
        · refine ok_iconst (v := 0) hc dX6_holds_37 (by decide) ?_
          exact ok_zretK hc rfl (by decide) dX6_holds_38
        · refine ok_iload_n 2 hc dX6_holds_23 rfl rfl ?_
          refine ok_aload_n 0 hc dX6_holds_24 rfl rfl ?_
          refine ok_geti hc FS_X6_21 rfl hq0 dX6_holds_25 ?_
          refine ok_iload_n 1 hc dX6_holds_28 rfl rfl ?_
          refine ok_isub hc dX6_holds_29 ?_
          refine ok_icmp_gt_ite 37 hc dX6_holds_30 (by decide) (fun h5 => ?_) (fun h5 => ?_)
          · refine ok_iconst (v := 0) hc dX6_holds_37 (by decide) ?_
            exact ok_zretK hc rfl (by decide) dX6_holds_38
          · refine ok_iconst (v := 1) hc dX6_holds_33 (by decide) ?_
            refine ok_goto 38 hc dX6_holds_34 (by decide) ?_
            exact ok_zretK hc rfl (by decide) dX6_holds_38
def fX2_size (S : St) : Option (Int32 × St) :=
  some ((S.1 16 3) * (S.1 16 4), S)
set_option maxRecDepth 100000 in
set_option maxHeartbeats 4000000 in
theorem tX2_size (S : St) (q : Int32 × St) (h : fX2_size S = some q) : MT vI wX mX2_size (fun n0 => [.ref (n0 + 16)]) S q := by
  refine mt_of (show plainFor yX2_size = true from by decide) (fun _ => Nat.le_of_ble_eq_true rfl) ?_
  intro Γ hc _
  rw [← h]
  show Ok Γ wX 0 [(0, rv Γ 16)] [] S _
  unfold fX2_size
  refine ok_aload_n 0 hc dX2_size_0 rfl rfl ?_
  refine ok_geti hc FS_X2_22 rfl sX_16 dX2_size_1 ?_
  refine ok_aload_n 0 hc dX2_size_4 rfl rfl ?_
  refine ok_geti hc FS_X2_26 rfl sX_16 dX2_size_5 ?_
  refine ok_imul hc dX2_size_8 ?_
  exact ok_iret hc rfl dX2_size_9
def fX2_isCell (a1 : Int64) (S : St) : Option (Int32 × St) :=
  if a1 < 0 then (some (0, S)) else (bnd (fX2_size S) (fun v2 S3 => if v2.toInt64 ≤ a1 then (some (0, S3)) else (some (1, S3))))
set_option maxRecDepth 100000 in
set_option maxHeartbeats 4000000 in
theorem tX2_isCell (a1 : Int64) (S : St) (q : Int32 × St) (h : fX2_isCell a1 S = some q) : MT vI wX mX2_isCell (fun n0 => [.ref (n0 + 16), .long a1]) S q := by
  refine mt_of (show plainFor yX2_isCell = true from by decide) (fun _ => Nat.le_of_ble_eq_true rfl) ?_
  intro Γ hc _
  rw [← h]
  show Ok Γ wX 0 [(0, rv Γ 16), (1, .long a1)] [] S _
  unfold fX2_isCell
  refine ok_lload_n 1 hc dX2_isCell_0 rfl rfl ?_
  refine ok_lconst (v := 0) hc dX2_isCell_1 (by decide) ?_
  refine ok_lcmp_lt_ite 20 hc dX2_isCell_2 dX2_isCell_3 (by decide) (fun h1 => ?_) (fun h1 => ?_)
  · refine ok_iconst (v := 0) hc dX2_isCell_20 (by decide) ?_
    exact ok_zretK hc rfl (by decide) dX2_isCell_21
  · refine ok_lload_n 1 hc dX2_isCell_6 rfl rfl ?_
    refine ok_aload_n 0 hc dX2_isCell_7 rfl rfl ?_
    refine ok_callVi (As := []) (st := [.long a1]) (fun n0 => [.ref (n0 + 16)]) hc VS_X2_29 sX_16 rfl rfl rfl ⟨Nat.le_of_ble_eq_true rfl, Nat.le_of_ble_eq_true rfl⟩ (Nat.le_of_ble_eq_true rfl) (fun q h => tX2_size S q h) dX2_isCell_8 (fun v2 S3 => ?_)
    refine ok_i2l hc dX2_isCell_11 ?_
    refine ok_lcmp_ge_ite 20 hc dX2_isCell_12 dX2_isCell_13 (by decide) (fun h4 => ?_) (fun h4 => ?_)
    · refine ok_iconst (v := 0) hc dX2_isCell_20 (by decide) ?_
      exact ok_zretK hc rfl (by decide) dX2_isCell_21
    · refine ok_iconst (v := 1) hc dX2_isCell_16 (by decide) ?_
      refine ok_goto 21 hc dX2_isCell_17 (by decide) ?_
      exact ok_zretK hc rfl (by decide) dX2_isCell_21
def fX2_known (q0 : Nat) (a1 : Int32) (a2 : Int32) (S : St) : Option (Int32 × St) :=
  if (S.1 q0 1) = 0 then (if a1 < 0 then (some ((-1), S)) else (if a1 < (S.1 q0 3) then (if ib a1 400 then (lt (S.2 (q0 + 1) (nt a1)) (fun (v5 : Int64) => if v5 < 0 then (some ((-1), S)) else (if a2.toInt64 < v5 then (some ((-1), S)) else (some (v5.toInt32, S))))) else none) else (some ((-1), S)))) else (some ((-1), S))
set_option maxRecDepth 100000 in
set_option maxHeartbeats 4000000 in
theorem tX2_known (q0 : Nat) (a1 : Int32) (a2 : Int32) (hq0 : Iob wX q0 6 4) (S : St) (q : Int32 × St) (h : fX2_known q0 a1 a2 S = some q) : MT vI wX mX2_known (fun n0 => [.ref (n0 + q0), .int a1, .int a2]) S q := by
  refine mt_of (show plainFor yX2_known = true from by decide) (fun _ => Nat.le_of_ble_eq_true rfl) ?_
  intro Γ hc _
  rw [← h]
  show Ok Γ wX 0 [(0, rv Γ q0), (1, .int a1), (2, .int a2)] [] S _
  unfold fX2_known
  refine ok_aload_n 0 hc dX2_known_0 rfl rfl ?_
  refine ok_geti hc FS_X2_37 rfl hq0 dX2_known_1 ?_
  refine ok_if_ne_ite 19 hc dX2_known_4 (by decide) (fun h1 => ?_) (fun h1 => ?_)
  · refine ok_iconst (v := (-1)) hc dX2_known_19 (by decide) ?_
    exact ok_iret hc rfl dX2_known_20
  · refine ok_iload_n 1 hc dX2_known_7 rfl rfl ?_
    refine ok_if_lt_ite 19 hc dX2_known_8 (by decide) (fun h2 => ?_) (fun h2 => ?_)
    · refine ok_iconst (v := (-1)) hc dX2_known_19 (by decide) ?_
      exact ok_iret hc rfl dX2_known_20
    · refine ok_iload_n 1 hc dX2_known_11 rfl rfl ?_
      refine ok_aload_n 0 hc dX2_known_12 rfl rfl ?_
      refine ok_geti hc FS_X2_43 rfl hq0 dX2_known_13 ?_
      refine ok_icmp_lt_ite 21 hc dX2_known_16 (by decide) (fun h3 => ?_) (fun h3 => ?_)
      · refine ok_aload_n 0 hc dX2_known_21 rfl rfl ?_
        refine ok_getr (q0 + 1) hc FS_X2_45 rfl hq0 (sht_it hq0).1 dX2_known_22 ?_
        refine ok_iload_n 1 hc dX2_known_25 rfl rfl ?_
        refine ok_lald hc (sht_it hq0).2 dX2_known_26 (fun h4 => ?_)
        refine ok_ltl (fun v5 => ?_)
        refine ok_lstore_n [(3, .long v5), (0, rv Γ q0), (1, .int a1), (2, .int a2)] hc dX2_known_27 rfl (Nat.le_of_ble_eq_true rfl) rfl ?_
        refine ok_lload_n 0 hc dX2_known_28 rfl rfl ?_
        refine ok_lconst (v := 0) hc dX2_known_29 (by decide) ?_
        refine ok_lcmp_lt_ite 46 hc dX2_known_30 dX2_known_31 (by decide) (fun h6 => ?_) (fun h6 => ?_)
        · refine ok_iconst (v := (-1)) hc dX2_known_46 (by decide) ?_
          exact ok_iret hc rfl dX2_known_47
        · refine ok_lload_n 0 hc dX2_known_34 rfl rfl ?_
          refine ok_iload_n 3 hc dX2_known_35 rfl rfl ?_
          refine ok_i2l hc dX2_known_36 ?_
          refine ok_lcmp_gt_ite 46 hc dX2_known_37 dX2_known_38 (by decide) (fun h7 => ?_) (fun h7 => ?_)
          · refine ok_iconst (v := (-1)) hc dX2_known_46 (by decide) ?_
            exact ok_iret hc rfl dX2_known_47
          · refine ok_lload_n 0 hc dX2_known_41 rfl rfl ?_
            refine ok_l2i hc dX2_known_42 ?_
            refine ok_goto 47 hc dX2_known_43 (by decide) ?_
            exact ok_iret hc rfl dX2_known_47
      · refine ok_iconst (v := (-1)) hc dX2_known_19 (by decide) ?_
        exact ok_iret hc rfl dX2_known_20
def fX2_nearest (a0 : Int32) (a1 : Int32) (S : St) : Option (Int32 × St) :=
  bnd (fJ9_floorDiv_7cf53 ((2 * a0) + a1) (2 * a1) S) (fun v1 S2 => some (v1, S2))
set_option maxRecDepth 100000 in
set_option maxHeartbeats 4000000 in
theorem tX2_nearest (a0 : Int32) (a1 : Int32) (S : St) (q : Int32 × St) (h : fX2_nearest a0 a1 S = some q) : MT vI wX mX2_nearest (fun n0 => [.int a0, .int a1]) S q := by
  refine mt_of (show plainFor yX2_nearest = true from by decide) (fun _ => Nat.le_of_ble_eq_true rfl) ?_
  intro Γ hc _
  rw [← h]
  show Ok Γ wX 0 [(0, .int a0), (1, .int a1)] [] S _
  unfold fX2_nearest
  refine ok_iconst (v := 2) hc dX2_nearest_0 (by decide) ?_
  refine ok_iload_n 0 hc dX2_nearest_1 rfl rfl ?_
  refine ok_imul hc dX2_nearest_2 ?_
  refine ok_iload_n 1 hc dX2_nearest_3 rfl rfl ?_
  refine ok_iadd hc dX2_nearest_4 ?_
  refine ok_iconst (v := 2) hc dX2_nearest_5 (by decide) ?_
  refine ok_iload_n 1 hc dX2_nearest_6 rfl rfl ?_
  refine ok_imul hc dX2_nearest_7 ?_
  refine ok_callSi (As := [.int ((2 * a0) + a1), .int (2 * a1)]) (st := []) (fun n0 => [.int ((2 * a0) + a1), .int (2 * a1)]) hc SS_X2_68 rfl rfl rfl ⟨Nat.le_of_ble_eq_true rfl, Nat.le_of_ble_eq_true rfl⟩ (Nat.le_of_ble_eq_true rfl) (fun q h => tJ9_floorDiv_7cf53 wX ((2 * a0) + a1) (2 * a1) S q h) dX2_nearest_8 (fun v1 S2 => ?_)
  exact ok_iret hc rfl dX2_nearest_11
def fX2_lossBetween_L111_st (a5 : Int32) (a6 : Int32) (a7 : Int32) (a8 : Int32) (a9 : Int32) (a10 : Int32) (a11 : Int32) (a12 : Int32) (rec : Int32 → Int32 → St → Option (Int32 × St)) (a13 : Int32) (a14 : Int32) (S : St) : Option (Int32 × St) :=
  if a10 ≤ a14 then (some (a13, S)) else (bnd (fX2_nearest (a14 * a9) a10 S) (fun v2 S3 => bnd (fX2_nearest (a14 * a8) a10 S3) (fun v4 S5 => lt ((((a7 + v2) * (S3.1 16 3)) + a6) + v4) (fun (v6 : Int32) => bnd (fX2_known 6 v6 9 S5) (fun v7 S8 => bnd (fX2_known 4 v6 99 S8) (fun v9 S10 => lt (if v7 = (-1) then (if a5 = 0 then 0 else 9) else v7) (fun (v11 : Int32) => lt (if v9 = (-1) then (if a5 = 0 then 0 else 99) else v9) (fun (v13 : Int32) => lt ((a10 * (v13 - a11)) - (a14 * a12)) (fun (v15 : Int32) => lt (a13 + ((S10.1 2 (nt 0)) * v11)) (fun (v16 : Int32) => jn (fun (v17 : Int32) => rec v17 (a14 + 1) S10) (fun k18 => if v15 ≤ 0 then (k18 v16) else (if ¬ a10 = 0 then (lt (v16 + ((S10.1 2 (nt 1)) * (v15 / a10))) (fun (v21 : Int32) => k18 v21)) else none))))))))))))
def fX2_lossBetween_L111 (a5 : Int32) (a6 : Int32) (a7 : Int32) (a8 : Int32) (a9 : Int32) (a10 : Int32) (a11 : Int32) (a12 : Int32) : Nat → Int32 → Int32 → St → Option (Int32 × St)
  | 0 => fun _ _ _ => none
  | n + 1 => fun a13 a14 S => fX2_lossBetween_L111_st a5 a6 a7 a8 a9 a10 a11 a12 (fX2_lossBetween_L111 a5 a6 a7 a8 a9 a10 a11 a12 n) a13 a14 S
def fX2_lossBetween (a1 : Int32) (a2 : Int32) (a3 : Int32) (a4 : Int32) (a5 : Int32) (S : St) : Option (Int32 × St) :=
  if ¬ (S.1 16 3) = 0 then (lt (ire a1 (S.1 16 3)) (fun (v2 : Int32) => if ¬ (S.1 16 3) = 0 then (lt (a1 / (S.1 16 3)) (fun (v4 : Int32) => if ¬ (S.1 16 3) = 0 then (lt ((ire a3 (S.1 16 3)) - v2) (fun (v6 : Int32) => if ¬ (S.1 16 3) = 0 then (lt ((a3 / (S.1 16 3)) - v4) (fun (v8 : Int32) => bnd (fJ9_abs_0f7a4 v6 S) (fun v9 S10 => bnd (fJ9_abs_0f7a4 v8 S10) (fun v11 S12 => bnd (fJ9_max_7cf53 v9 v11 S12) (fun v13 S14 => bnd (fX2_known 4 a1 99 S14) (fun v15 S16 => bnd (fJ9_max_7cf53 0 v15 S16) (fun v17 S18 => lt (v17 + a2) (fun (v19 : Int32) => bnd (fX2_known 4 a3 99 S18) (fun v20 S21 => bnd (fJ9_max_7cf53 0 v20 S21) (fun v22 S23 => lt ((v22 + a4) - v19) (fun (v24 : Int32) => lt ((1 + (v6 * v6)) + (v8 * v8)) (fun (v25 : Int32) => fX2_lossBetween_L111 a5 v2 v4 v6 v8 v13 v19 v24 FU v25 1 S23)))))))))))) else none)) else none)) else none)) else none
set_option maxRecDepth 100000 in
set_option maxHeartbeats 4000000 in
theorem tX2_lossBetween_L111 {Γ : Cx Int32} (hc : Cok Γ wX vI mX2_lossBetween) (a5 : Int32) (a6 : Int32) (a7 : Int32) (a8 : Int32) (a9 : Int32) (a10 : Int32) (a11 : Int32) (a12 : Int32) : ∀ (n : Nat) (a13 : Int32) (a14 : Int32) (S : St), Ok Γ wX 111 [(0, rv Γ 16), (5, .int a5), (6, .int a6), (7, .int a7), (8, .int a8), (9, .int a9), (10, .int a10), (11, .int a11), (12, .int a12), (13, .int a13), (14, .int a14)] [] S (fX2_lossBetween_L111 a5 a6 a7 a8 a9 a10 a11 a12 n a13 a14 S) := by
  intro n
  induction n with
  | zero =>
    intro a13 a14 S
    exact ok_none
  | succ n ih =>
    intro a13 a14 S
    show Ok Γ wX 111 [(0, rv Γ 16), (5, .int a5), (6, .int a6), (7, .int a7), (8, .int a8), (9, .int a9), (10, .int a10), (11, .int a11), (12, .int a12), (13, .int a13), (14, .int a14)] [] S (fX2_lossBetween_L111_st a5 a6 a7 a8 a9 a10 a11 a12 (fX2_lossBetween_L111 a5 a6 a7 a8 a9 a10 a11 a12 n) a13 a14 S)
    unfold fX2_lossBetween_L111_st
    refine ok_iload 10 hc dX2_lossBetween_111 rfl ?_
    refine ok_iload 6 hc dX2_lossBetween_113 rfl ?_
    refine ok_icmp_ge_ite 290 hc dX2_lossBetween_115 (by decide) (fun h1 => ?_) (fun h1 => ?_)
    · refine ok_iload 9 hc dX2_lossBetween_290 rfl ?_
      exact ok_iret hc rfl dX2_lossBetween_292
    · refine ok_iload 3 hc dX2_lossBetween_118 rfl ?_
      refine ok_iload 10 hc dX2_lossBetween_120 rfl ?_
      refine ok_iload 5 hc dX2_lossBetween_122 rfl ?_
      refine ok_imul hc dX2_lossBetween_124 ?_
      refine ok_iload 6 hc dX2_lossBetween_125 rfl ?_
      refine ok_callSi (As := [.int (a14 * a9), .int a10]) (st := [.int a7]) (fun n0 => [.int (a14 * a9), .int a10]) hc SS_X2_59 rfl rfl rfl ⟨Nat.le_of_ble_eq_true rfl, Nat.le_of_ble_eq_true rfl⟩ (Nat.le_of_ble_eq_true rfl) (fun q h => tX2_nearest (a14 * a9) a10 S q h) dX2_lossBetween_127 (fun v2 S3 => ?_)
      refine ok_iadd hc dX2_lossBetween_130 ?_
      refine ok_aload_n 0 hc dX2_lossBetween_131 rfl rfl ?_
      refine ok_geti hc FS_X2_22 rfl sX_16 dX2_lossBetween_132 ?_
      refine ok_imul hc dX2_lossBetween_135 ?_
      refine ok_iload 2 hc dX2_lossBetween_136 rfl ?_
      refine ok_iadd hc dX2_lossBetween_138 ?_
      refine ok_iload 10 hc dX2_lossBetween_139 rfl ?_
      refine ok_iload 4 hc dX2_lossBetween_141 rfl ?_
      refine ok_imul hc dX2_lossBetween_143 ?_
      refine ok_iload 6 hc dX2_lossBetween_144 rfl ?_
      refine ok_callSi (As := [.int (a14 * a8), .int a10]) (st := [.int (((a7 + v2) * (S3.1 16 3)) + a6)]) (fun n0 => [.int (a14 * a8), .int a10]) hc SS_X2_59 rfl rfl rfl ⟨Nat.le_of_ble_eq_true rfl, Nat.le_of_ble_eq_true rfl⟩ (Nat.le_of_ble_eq_true rfl) (fun q h => tX2_nearest (a14 * a8) a10 S3 q h) dX2_lossBetween_146 (fun v4 S5 => ?_)
      refine ok_iadd hc dX2_lossBetween_149 ?_
      refine ok_lti (fun v6 => ?_)
      refine ok_istore [(15, .int v6), (0, rv Γ 16), (5, .int a5), (6, .int a6), (7, .int a7), (8, .int a8), (9, .int a9), (10, .int a10), (11, .int a11), (12, .int a12), (13, .int a13), (14, .int a14)] hc dX2_lossBetween_150 (Nat.le_of_ble_eq_true rfl) rfl ?_
      refine ok_aload_n 1 hc dX2_lossBetween_152 rfl rfl ?_
      refine ok_getr 6 hc FS_X2_19 rfl sX_16 rfl dX2_lossBetween_153 ?_
      refine ok_iload 0 hc dX2_lossBetween_156 rfl ?_
      refine ok_bipush (v := 9) hc dX2_lossBetween_158 (by decide) ?_
      refine ok_callSi (As := [rv Γ 6, .int v6, .int 9]) (st := []) (fun n0 => [.ref (n0 + 6), .int v6, .int 9]) hc SS_X2_33 rfl rfl rfl ⟨Nat.le_of_ble_eq_true rfl, Nat.le_of_ble_eq_true rfl⟩ (Nat.le_of_ble_eq_true rfl) (fun q h => tX2_known 6 v6 9 sX_6 S5 q h) dX2_lossBetween_160 (fun v7 S8 => ?_)
      refine ok_istore [(16, .int v7), (15, .int v6), (0, rv Γ 16), (5, .int a5), (6, .int a6), (7, .int a7), (8, .int a8), (9, .int a9), (10, .int a10), (11, .int a11), (12, .int a12), (13, .int a13), (14, .int a14)] hc dX2_lossBetween_163 (Nat.le_of_ble_eq_true rfl) rfl ?_
      refine ok_aload_n 2 hc dX2_lossBetween_165 rfl rfl ?_
      refine ok_getr 4 hc FS_X2_15 rfl sX_16 rfl dX2_lossBetween_166 ?_
      refine ok_iload 1 hc dX2_lossBetween_169 rfl ?_
      refine ok_bipush (v := 99) hc dX2_lossBetween_171 (by decide) ?_
      refine ok_callSi (As := [rv Γ 4, .int v6, .int 99]) (st := []) (fun n0 => [.ref (n0 + 4), .int v6, .int 99]) hc SS_X2_33 rfl rfl rfl ⟨Nat.le_of_ble_eq_true rfl, Nat.le_of_ble_eq_true rfl⟩ (Nat.le_of_ble_eq_true rfl) (fun q h => tX2_known 4 v6 99 sX_4 S8 q h) dX2_lossBetween_173 (fun v9 S10 => ?_)
      refine ok_istore [(17, .int v9), (16, .int v7), (15, .int v6), (0, rv Γ 16), (5, .int a5), (6, .int a6), (7, .int a7), (8, .int a8), (9, .int a9), (10, .int a10), (11, .int a11), (12, .int a12), (13, .int a13), (14, .int a14)] hc dX2_lossBetween_176 (Nat.le_of_ble_eq_true rfl) rfl ?_
      refine ok_iload 1 hc dX2_lossBetween_178 rfl ?_
      refine ok_iconst (v := (-1)) hc dX2_lossBetween_180 (by decide) ?_
      refine ok_lt (fun g => ∀ (v11 : Int32), Ok Γ wX 200 [(0, rv Γ 16), (5, .int a5), (6, .int a6), (7, .int a7), (8, .int a8), (9, .int a9), (10, .int a10), (11, .int a11), (12, .int a12), (13, .int a13), (14, .int a14), (17, .int v9)] [.int v11] S10 (g v11)) ?_ (fun k12 hk12 => ?_)
      · intro v11
        refine ok_istore [(16, .int v11), (0, rv Γ 16), (5, .int a5), (6, .int a6), (7, .int a7), (8, .int a8), (9, .int a9), (10, .int a10), (11, .int a11), (12, .int a12), (13, .int a13), (14, .int a14), (17, .int v9)] hc dX2_lossBetween_200 (Nat.le_of_ble_eq_true rfl) rfl ?_
        refine ok_iload 12 hc dX2_lossBetween_202 rfl ?_
        refine ok_iconst (v := (-1)) hc dX2_lossBetween_204 (by decide) ?_
        refine ok_lt (fun g => ∀ (v13 : Int32), Ok Γ wX 224 [(0, rv Γ 16), (5, .int a5), (6, .int a6), (7, .int a7), (8, .int a8), (9, .int a9), (10, .int a10), (11, .int a11), (12, .int a12), (13, .int a13), (14, .int a14), (16, .int v11)] [.int v13] S10 (g v13)) ?_ (fun k14 hk14 => ?_)
        · intro v13
          refine ok_istore [(17, .int v13), (0, rv Γ 16), (5, .int a5), (6, .int a6), (7, .int a7), (8, .int a8), (9, .int a9), (10, .int a10), (11, .int a11), (12, .int a12), (13, .int a13), (14, .int a14), (16, .int v11)] hc dX2_lossBetween_224 (Nat.le_of_ble_eq_true rfl) rfl ?_
          refine ok_iload 7 hc dX2_lossBetween_226 rfl ?_
          refine ok_iload 0 hc dX2_lossBetween_228 rfl ?_
          refine ok_iload 8 hc dX2_lossBetween_230 rfl ?_
          refine ok_isub hc dX2_lossBetween_232 ?_
          refine ok_imul hc dX2_lossBetween_233 ?_
          refine ok_iload 11 hc dX2_lossBetween_234 rfl ?_
          refine ok_iload 9 hc dX2_lossBetween_236 rfl ?_
          refine ok_imul hc dX2_lossBetween_238 ?_
          refine ok_isub hc dX2_lossBetween_239 ?_
          refine ok_lti (fun v15 => ?_)
          refine ok_istore [(18, .int v15), (17, .int v13), (0, rv Γ 16), (5, .int a5), (6, .int a6), (7, .int a7), (8, .int a8), (9, .int a9), (10, .int a10), (11, .int a11), (12, .int a12), (13, .int a13), (14, .int a14), (16, .int v11)] hc dX2_lossBetween_240 (Nat.le_of_ble_eq_true rfl) rfl ?_
          refine ok_iload 11 hc dX2_lossBetween_242 rfl ?_
          refine ok_aload_n 2 hc dX2_lossBetween_244 rfl rfl ?_
          refine ok_getr 1 hc FS_X2_9 rfl sX_16 rfl dX2_lossBetween_245 ?_
          refine ok_getr 2 hc FS_X2_62 rfl sX_1 rfl dX2_lossBetween_248 ?_
          refine ok_iconst (v := 0) hc dX2_lossBetween_251 (by decide) ?_
          refine ok_ialdK hc sX_2 (by decide) dX2_lossBetween_252 ?_
          refine ok_iload 13 hc dX2_lossBetween_253 rfl ?_
          refine ok_imul hc dX2_lossBetween_255 ?_
          refine ok_iadd hc dX2_lossBetween_256 ?_
          refine ok_lti (fun v16 => ?_)
          refine ok_istore [(13, .int v16), (18, .int v15), (17, .int v13), (0, rv Γ 16), (5, .int a5), (6, .int a6), (7, .int a7), (8, .int a8), (9, .int a9), (10, .int a10), (11, .int a11), (12, .int a12), (14, .int a14), (16, .int v11)] hc dX2_lossBetween_257 (Nat.le_of_ble_eq_true rfl) rfl ?_
          refine ok_iload 1 hc dX2_lossBetween_259 rfl ?_
          refine ok_jn (fun g => ∀ (v17 : Int32), Ok Γ wX 284 [(0, rv Γ 16), (5, .int a5), (6, .int a6), (7, .int a7), (8, .int a8), (9, .int a9), (10, .int a10), (11, .int a11), (12, .int a12), (13, .int v17), (14, .int a14)] [] S10 (g v17)) ?_ (fun k18 hk18 => ?_)
          · intro v17
            refine ok_iinc (v := 1) 10 [(14, .int (a14 + 1)), (0, rv Γ 16), (5, .int a5), (6, .int a6), (7, .int a7), (8, .int a8), (9, .int a9), (10, .int a10), (11, .int a11), (12, .int a12), (13, .int v17)] hc dX2_lossBetween_284 rfl (by decide) (Nat.le_of_ble_eq_true rfl) rfl ?_
            refine ok_goto 111 hc dX2_lossBetween_287 (by decide) ?_
            refine ok_sub [1, 2, 3, 4, 5, 6, 7, 8, 9, 10, 0] rfl ?_
            exact ih _ _ _
          · refine ok_if_le_ite 284 hc dX2_lossBetween_261 (by decide) (fun h19 => ?_) (fun h19 => ?_)
            · refine ok_sub [3, 4, 5, 6, 7, 8, 9, 10, 11, 0, 12] rfl ?_
              exact hk18 _
            · refine ok_iload 0 hc dX2_lossBetween_264 rfl ?_
              refine ok_aload_n 3 hc dX2_lossBetween_266 rfl rfl ?_
              refine ok_getr 1 hc FS_X2_9 rfl sX_16 rfl dX2_lossBetween_267 ?_
              refine ok_getr 2 hc FS_X2_62 rfl sX_1 rfl dX2_lossBetween_270 ?_
              refine ok_iconst (v := 1) hc dX2_lossBetween_273 (by decide) ?_
              refine ok_ialdK hc sX_2 (by decide) dX2_lossBetween_274 ?_
              refine ok_iload 1 hc dX2_lossBetween_275 rfl ?_
              refine ok_iload 9 hc dX2_lossBetween_277 rfl ?_
              refine ok_idiv hc dX2_lossBetween_279 (fun h20 => ?_)
              refine ok_imul hc dX2_lossBetween_280 ?_
              refine ok_iadd hc dX2_lossBetween_281 ?_
              refine ok_lti (fun v21 => ?_)
              refine ok_istore [(13, .int v21), (18, .int v15), (17, .int v13), (0, rv Γ 16), (5, .int a5), (6, .int a6), (7, .int a7), (8, .int a8), (9, .int a9), (10, .int a10), (11, .int a11), (12, .int a12), (14, .int a14), (16, .int v11)] hc dX2_lossBetween_282 (Nat.le_of_ble_eq_true rfl) rfl ?_
              refine ok_sub [3, 4, 5, 6, 7, 8, 9, 10, 11, 0, 12] rfl ?_
              exact hk18 _
        · refine ok_icmp_eq 213 hc dX2_lossBetween_205 (by decide) (fun h22 => ?_) (fun h22 => ?_)
          · rw [if_pos h22]
            refine ok_iload 2 hc dX2_lossBetween_213 rfl ?_
            refine ok_if_ne 222 hc dX2_lossBetween_215 (by decide) (fun h23 => ?_) (fun h23 => ?_)
            · rw [if_neg h23]
              refine ok_bipush (v := 99) hc dX2_lossBetween_222 (by decide) ?_
              refine ok_sub [1, 2, 3, 4, 5, 6, 7, 8, 9, 10, 11, 0] rfl ?_
              exact hk14 _
            · rw [if_pos h23]
              refine ok_iconst (v := 0) hc dX2_lossBetween_218 (by decide) ?_
              refine ok_goto 224 hc dX2_lossBetween_219 (by decide) ?_
              refine ok_sub [1, 2, 3, 4, 5, 6, 7, 8, 9, 10, 11, 0] rfl ?_
              exact hk14 _
          · rw [if_neg h22]
            refine ok_iload 12 hc dX2_lossBetween_208 rfl ?_
            refine ok_goto 224 hc dX2_lossBetween_210 (by decide) ?_
            refine ok_sub [1, 2, 3, 4, 5, 6, 7, 8, 9, 10, 11, 0] rfl ?_
            exact hk14 _
      · refine ok_icmp_eq 189 hc dX2_lossBetween_181 (by decide) (fun h24 => ?_) (fun h24 => ?_)
        · rw [if_pos h24]
          refine ok_iload 4 hc dX2_lossBetween_189 rfl ?_
          refine ok_if_ne 198 hc dX2_lossBetween_191 (by decide) (fun h25 => ?_) (fun h25 => ?_)
          · rw [if_neg h25]
            refine ok_bipush (v := 9) hc dX2_lossBetween_198 (by decide) ?_
            refine ok_sub [3, 4, 5, 6, 7, 8, 9, 10, 11, 12, 13, 0] rfl ?_
            exact hk12 _
          · rw [if_pos h25]
            refine ok_iconst (v := 0) hc dX2_lossBetween_194 (by decide) ?_
            refine ok_goto 200 hc dX2_lossBetween_195 (by decide) ?_
            refine ok_sub [3, 4, 5, 6, 7, 8, 9, 10, 11, 12, 13, 0] rfl ?_
            exact hk12 _
        · rw [if_neg h24]
          refine ok_iload 1 hc dX2_lossBetween_184 rfl ?_
          refine ok_goto 200 hc dX2_lossBetween_186 (by decide) ?_
          refine ok_sub [3, 4, 5, 6, 7, 8, 9, 10, 11, 12, 13, 0] rfl ?_
          exact hk12 _
set_option maxRecDepth 100000 in
set_option maxHeartbeats 4000000 in
theorem tX2_lossBetween (a1 : Int32) (a2 : Int32) (a3 : Int32) (a4 : Int32) (a5 : Int32) (S : St) (q : Int32 × St) (h : fX2_lossBetween a1 a2 a3 a4 a5 S = some q) : MT vI wX mX2_lossBetween (fun n0 => [.ref (n0 + 16), .int a1, .int a2, .int a3, .int a4, .int a5]) S q := by
  refine mt_of (show plainFor yX2_lossBetween = true from by decide) (fun _ => Nat.le_of_ble_eq_true rfl) ?_
  intro Γ hc _
  rw [← h]
  show Ok Γ wX 0 [(0, rv Γ 16), (1, .int a1), (2, .int a2), (3, .int a3), (4, .int a4), (5, .int a5)] [] S _
  unfold fX2_lossBetween
  refine ok_iload_n 1 hc dX2_lossBetween_0 rfl rfl ?_
  refine ok_aload_n 0 hc dX2_lossBetween_1 rfl rfl ?_
  refine ok_geti hc FS_X2_22 rfl sX_16 dX2_lossBetween_2 ?_
  refine ok_irem hc dX2_lossBetween_5 (fun h1 => ?_)
  refine ok_lti (fun v2 => ?_)
  refine ok_istore [(6, .int v2), (0, rv Γ 16), (1, .int a1), (2, .int a2), (3, .int a3), (4, .int a4), (5, .int a5)] hc dX2_lossBetween_6 (Nat.le_of_ble_eq_true rfl) rfl ?_
  refine ok_iload_n 2 hc dX2_lossBetween_8 rfl rfl ?_
  refine ok_aload_n 1 hc dX2_lossBetween_9 rfl rfl ?_
  refine ok_geti hc FS_X2_22 rfl sX_16 dX2_lossBetween_10 ?_
  refine ok_idiv hc dX2_lossBetween_13 (fun h3 => ?_)
  refine ok_lti (fun v4 => ?_)
  refine ok_istore [(7, .int v4), (6, .int v2), (0, rv Γ 16), (1, .int a1), (2, .int a2), (3, .int a3), (4, .int a4), (5, .int a5)] hc dX2_lossBetween_14 (Nat.le_of_ble_eq_true rfl) rfl ?_
  refine ok_iload_n 5 hc dX2_lossBetween_16 rfl rfl ?_
  refine ok_aload_n 2 hc dX2_lossBetween_17 rfl rfl ?_
  refine ok_geti hc FS_X2_22 rfl sX_16 dX2_lossBetween_18 ?_
  refine ok_irem hc dX2_lossBetween_21 (fun h5 => ?_)
  refine ok_iload 1 hc dX2_lossBetween_22 rfl ?_
  refine ok_isub hc dX2_lossBetween_24 ?_
  refine ok_lti (fun v6 => ?_)
  refine ok_istore [(8, .int v6), (7, .int v4), (6, .int v2), (0, rv Γ 16), (1, .int a1), (2, .int a2), (3, .int a3), (4, .int a4), (5, .int a5)] hc dX2_lossBetween_25 (Nat.le_of_ble_eq_true rfl) rfl ?_
  refine ok_iload_n 6 hc dX2_lossBetween_27 rfl rfl ?_
  refine ok_aload_n 3 hc dX2_lossBetween_28 rfl rfl ?_
  refine ok_geti hc FS_X2_22 rfl sX_16 dX2_lossBetween_29 ?_
  refine ok_idiv hc dX2_lossBetween_32 (fun h7 => ?_)
  refine ok_iload 1 hc dX2_lossBetween_33 rfl ?_
  refine ok_isub hc dX2_lossBetween_35 ?_
  refine ok_lti (fun v8 => ?_)
  refine ok_istore [(9, .int v8), (8, .int v6), (7, .int v4), (6, .int v2), (0, rv Γ 16), (1, .int a1), (2, .int a2), (3, .int a3), (4, .int a4), (5, .int a5)] hc dX2_lossBetween_36 (Nat.le_of_ble_eq_true rfl) rfl ?_
  refine ok_iload 1 hc dX2_lossBetween_38 rfl ?_
  refine ok_callSi (As := [.int v6]) (st := []) (fun n0 => [.int v6]) hc SS_X2_49 rfl rfl rfl ⟨Nat.le_of_ble_eq_true rfl, Nat.le_of_ble_eq_true rfl⟩ (Nat.le_of_ble_eq_true rfl) (fun q h => tJ9_abs_0f7a4 wX v6 S q h) dX2_lossBetween_40 (fun v9 S10 => ?_)
  refine ok_iload 0 hc dX2_lossBetween_43 rfl ?_
  refine ok_callSi (As := [.int v8]) (st := [.int v9]) (fun n0 => [.int v8]) hc SS_X2_49 rfl rfl rfl ⟨Nat.le_of_ble_eq_true rfl, Nat.le_of_ble_eq_true rfl⟩ (Nat.le_of_ble_eq_true rfl) (fun q h => tJ9_abs_0f7a4 wX v8 S10 q h) dX2_lossBetween_45 (fun v11 S12 => ?_)
  refine ok_callSi (As := [.int v9, .int v11]) (st := []) (fun n0 => [.int v9, .int v11]) hc SS_X2_55 rfl rfl rfl ⟨Nat.le_of_ble_eq_true rfl, Nat.le_of_ble_eq_true rfl⟩ (Nat.le_of_ble_eq_true rfl) (fun q h => tJ9_max_7cf53 wX v9 v11 S12 q h) dX2_lossBetween_48 (fun v13 S14 => ?_)
  refine ok_istore [(10, .int v13), (9, .int v8), (8, .int v6), (7, .int v4), (6, .int v2), (0, rv Γ 16), (1, .int a1), (2, .int a2), (3, .int a3), (4, .int a4), (5, .int a5)] hc dX2_lossBetween_51 (Nat.le_of_ble_eq_true rfl) rfl ?_
  refine ok_iconst (v := 0) hc dX2_lossBetween_53 (by decide) ?_
  refine ok_aload_n 5 hc dX2_lossBetween_54 rfl rfl ?_
  refine ok_getr 4 hc FS_X2_15 rfl sX_16 rfl dX2_lossBetween_55 ?_
  refine ok_iload_n 6 hc dX2_lossBetween_58 rfl rfl ?_
  refine ok_bipush (v := 99) hc dX2_lossBetween_59 (by decide) ?_
  refine ok_callSi (As := [rv Γ 4, .int a1, .int 99]) (st := [.int 0]) (fun n0 => [.ref (n0 + 4), .int a1, .int 99]) hc SS_X2_33 rfl rfl rfl ⟨Nat.le_of_ble_eq_true rfl, Nat.le_of_ble_eq_true rfl⟩ (Nat.le_of_ble_eq_true rfl) (fun q h => tX2_known 4 a1 99 sX_4 S14 q h) dX2_lossBetween_61 (fun v15 S16 => ?_)
  refine ok_callSi (As := [.int 0, .int v15]) (st := []) (fun n0 => [.int 0, .int v15]) hc SS_X2_55 rfl rfl rfl ⟨Nat.le_of_ble_eq_true rfl, Nat.le_of_ble_eq_true rfl⟩ (Nat.le_of_ble_eq_true rfl) (fun q h => tJ9_max_7cf53 wX 0 v15 S16 q h) dX2_lossBetween_64 (fun v17 S18 => ?_)
  refine ok_iload_n 7 hc dX2_lossBetween_67 rfl rfl ?_
  refine ok_iadd hc dX2_lossBetween_68 ?_
  refine ok_lti (fun v19 => ?_)
  refine ok_istore [(11, .int v19), (10, .int v13), (9, .int v8), (8, .int v6), (7, .int v4), (6, .int v2), (0, rv Γ 16), (1, .int a1), (2, .int a2), (3, .int a3), (4, .int a4), (5, .int a5)] hc dX2_lossBetween_69 (Nat.le_of_ble_eq_true rfl) rfl ?_
  refine ok_iconst (v := 0) hc dX2_lossBetween_71 (by decide) ?_
  refine ok_aload_n 6 hc dX2_lossBetween_72 rfl rfl ?_
  refine ok_getr 4 hc FS_X2_15 rfl sX_16 rfl dX2_lossBetween_73 ?_
  refine ok_iload_n 9 hc dX2_lossBetween_76 rfl rfl ?_
  refine ok_bipush (v := 99) hc dX2_lossBetween_77 (by decide) ?_
  refine ok_callSi (As := [rv Γ 4, .int a3, .int 99]) (st := [.int 0]) (fun n0 => [.ref (n0 + 4), .int a3, .int 99]) hc SS_X2_33 rfl rfl rfl ⟨Nat.le_of_ble_eq_true rfl, Nat.le_of_ble_eq_true rfl⟩ (Nat.le_of_ble_eq_true rfl) (fun q h => tX2_known 4 a3 99 sX_4 S18 q h) dX2_lossBetween_79 (fun v20 S21 => ?_)
  refine ok_callSi (As := [.int 0, .int v20]) (st := []) (fun n0 => [.int 0, .int v20]) hc SS_X2_55 rfl rfl rfl ⟨Nat.le_of_ble_eq_true rfl, Nat.le_of_ble_eq_true rfl⟩ (Nat.le_of_ble_eq_true rfl) (fun q h => tJ9_max_7cf53 wX 0 v20 S21 q h) dX2_lossBetween_82 (fun v22 S23 => ?_)
  refine ok_iload 10 hc dX2_lossBetween_85 rfl ?_
  refine ok_iadd hc dX2_lossBetween_87 ?_
  refine ok_iload 0 hc dX2_lossBetween_88 rfl ?_
  refine ok_isub hc dX2_lossBetween_90 ?_
  refine ok_lti (fun v24 => ?_)
  refine ok_istore [(12, .int v24), (11, .int v19), (10, .int v13), (9, .int v8), (8, .int v6), (7, .int v4), (6, .int v2), (0, rv Γ 16), (1, .int a1), (2, .int a2), (3, .int a3), (4, .int a4), (5, .int a5)] hc dX2_lossBetween_91 (Nat.le_of_ble_eq_true rfl) rfl ?_
  refine ok_iconst (v := 1) hc dX2_lossBetween_93 (by decide) ?_
  refine ok_iload 4 hc dX2_lossBetween_94 rfl ?_
  refine ok_iload 4 hc dX2_lossBetween_96 rfl ?_
  refine ok_imul hc dX2_lossBetween_98 ?_
  refine ok_iadd hc dX2_lossBetween_99 ?_
  refine ok_iload 3 hc dX2_lossBetween_100 rfl ?_
  refine ok_iload 3 hc dX2_lossBetween_102 rfl ?_
  refine ok_imul hc dX2_lossBetween_104 ?_
  refine ok_iadd hc dX2_lossBetween_105 ?_
  refine ok_lti (fun v25 => ?_)
  refine ok_istore [(13, .int v25), (12, .int v24), (11, .int v19), (10, .int v13), (9, .int v8), (8, .int v6), (7, .int v4), (6, .int v2), (0, rv Γ 16), (1, .int a1), (2, .int a2), (3, .int a3), (4, .int a4), (5, .int a5)] hc dX2_lossBetween_106 (Nat.le_of_ble_eq_true rfl) rfl ?_
  refine ok_iconst (v := 1) hc dX2_lossBetween_108 (by decide) ?_
  refine ok_istore [(14, .int 1), (13, .int v25), (12, .int v24), (11, .int v19), (10, .int v13), (9, .int v8), (8, .int v6), (7, .int v4), (6, .int v2), (0, rv Γ 16), (1, .int a1), (2, .int a2), (3, .int a3), (4, .int a4), (5, .int a5)] hc dX2_lossBetween_109 (Nat.le_of_ble_eq_true rfl) rfl ?_
  refine ok_sub [9, 14, 8, 7, 6, 5, 4, 3, 2, 1, 0] rfl ?_
  refine tX2_lossBetween_L111 hc _ _ _ _ _ _ _ _   FU _ _ _
def fX2_gotFrom (a1 : Int32) (a2 : Int32) (a3 : Int32) (a4 : Int32) (a5 : Int32) (S : St) : Option (Int32 × St) :=
  bnd (fX2_lossBetween a2 a3 a4 0 a5 S) (fun v1 S2 => if ¬ v1 = 0 then (some ((100 * a1) / v1, S2)) else none)
set_option maxRecDepth 100000 in
set_option maxHeartbeats 4000000 in
theorem tX2_gotFrom (a1 : Int32) (a2 : Int32) (a3 : Int32) (a4 : Int32) (a5 : Int32) (S : St) (q : Int32 × St) (h : fX2_gotFrom a1 a2 a3 a4 a5 S = some q) : MT vI wX mX2_gotFrom (fun n0 => [.ref (n0 + 16), .int a1, .int a2, .int a3, .int a4, .int a5]) S q := by
  refine mt_of (show plainFor yX2_gotFrom = true from by decide) (fun _ => Nat.le_of_ble_eq_true rfl) ?_
  intro Γ hc _
  rw [← h]
  show Ok Γ wX 0 [(0, rv Γ 16), (1, .int a1), (2, .int a2), (3, .int a3), (4, .int a4), (5, .int a5)] [] S _
  unfold fX2_gotFrom
  refine ok_bipush (v := 100) hc dX2_gotFrom_0 (by decide) ?_
  refine ok_iload_n 1 hc dX2_gotFrom_2 rfl rfl ?_
  refine ok_imul hc dX2_gotFrom_3 ?_
  refine ok_aload_n 0 hc dX2_gotFrom_4 rfl rfl ?_
  refine ok_iload_n 2 hc dX2_gotFrom_5 rfl rfl ?_
  refine ok_iload_n 3 hc dX2_gotFrom_6 rfl rfl ?_
  refine ok_iload 4 hc dX2_gotFrom_7 rfl ?_
  refine ok_iconst (v := 0) hc dX2_gotFrom_9 (by decide) ?_
  refine ok_iload 5 hc dX2_gotFrom_10 rfl ?_
  refine ok_callVi (As := [.int a2, .int a3, .int a4, .int 0, .int a5]) (st := [.int (100 * a1)]) (fun n0 => [.ref (n0 + 16), .int a2, .int a3, .int a4, .int 0, .int a5]) hc VS_X2_71 sX_16 rfl rfl rfl ⟨Nat.le_of_ble_eq_true rfl, Nat.le_of_ble_eq_true rfl⟩ (Nat.le_of_ble_eq_true rfl) (fun q h => tX2_lossBetween a2 a3 a4 0 a5 S q h) dX2_gotFrom_12 (fun v1 S2 => ?_)
  refine ok_idiv hc dX2_gotFrom_15 (fun h3 => ?_)
  exact ok_iret hc rfl dX2_gotFrom_16
def fX5_isEnough (q0 : Nat) (a1 : Int32) (a2 : Int64) (S : St) : Option (Int32 × St) :=
  if (100 * a1.toInt64) < (((S.1 q0 4).toInt64) * a2) then (some (0, S)) else (some (1, S))
set_option maxRecDepth 100000 in
set_option maxHeartbeats 4000000 in
theorem tX5_isEnough (q0 : Nat) (a1 : Int32) (a2 : Int64) (hq0 : Iob wX q0 5 11) (S : St) (q : Int32 × St) (h : fX5_isEnough q0 a1 a2 S = some q) : MT vI wX mX5_isEnough (fun n0 => [.ref (n0 + q0), .int a1, .long a2]) S q := by
  refine mt_of (show plainFor yX5_isEnough = true from by decide) (fun _ => Nat.le_of_ble_eq_true rfl) ?_
  intro Γ hc _
  rw [← h]
  show Ok Γ wX 0 [(0, rv Γ q0), (1, .int a1), (2, .long a2)] [] S _
  unfold fX5_isEnough
  refine ok_ldc2 hc dX5_isEnough_0 W_622 ?_
  refine ok_iload_n 1 hc dX5_isEnough_3 rfl rfl ?_
  refine ok_i2l hc dX5_isEnough_4 ?_
  refine ok_lmul hc dX5_isEnough_5 ?_
  refine ok_aload_n 0 hc dX5_isEnough_6 rfl rfl ?_
  refine ok_geti hc FS_X5_30 rfl hq0 dX5_isEnough_7 ?_
  refine ok_i2l hc dX5_isEnough_10 ?_
  refine ok_lload_n 2 hc dX5_isEnough_11 rfl rfl ?_
  refine ok_lmul hc dX5_isEnough_12 ?_
  refine ok_lcmp_lt_ite 21 hc dX5_isEnough_13 dX5_isEnough_14 (by decide) (fun h1 => ?_) (fun h1 => ?_)
  · refine ok_iconst (v := 0) hc dX5_isEnough_21 (by decide) ?_
    exact ok_zretK hc rfl (by decide) dX5_isEnough_22
  · refine ok_iconst (v := 1) hc dX5_isEnough_17 (by decide) ?_
    refine ok_goto 22 hc dX5_isEnough_18 (by decide) ?_
    exact ok_zretK hc rfl (by decide) dX5_isEnough_22
def fX5_isHopping (q0 : Nat) (S : St) : Option (Int32 × St) :=
  if (S.1 q0 0) = 2 then (some (1, S)) else (if (S.1 q0 0) = 5 then (some (1, S)) else (some (0, S)))
set_option maxRecDepth 100000 in
set_option maxHeartbeats 4000000 in
theorem tX5_isHopping (q0 : Nat) (hq0 : Iob wX q0 5 11) (S : St) (q : Int32 × St) (h : fX5_isHopping q0 S = some q) : MT vI wX mX5_isHopping (fun n0 => [.ref (n0 + q0)]) S q := by
  refine mt_of (show plainFor yX5_isHopping = true from by decide) (fun _ => Nat.le_of_ble_eq_true rfl) ?_
  intro Γ hc _
  rw [← h]
  show Ok Γ wX 0 [(0, rv Γ q0)] [] S _
  unfold fX5_isHopping
  refine ok_aload_n 0 hc dX5_isHopping_0 rfl rfl ?_
  refine ok_geti hc FS_X5_11 rfl hq0 dX5_isHopping_1 ?_
  refine ok_iconst (v := 2) hc dX5_isHopping_4 (by decide) ?_
  refine ok_icmp_eq_ite 16 hc dX5_isHopping_5 (by decide) (fun h1 => ?_) (fun h1 => ?_)
  · refine ok_iconst (v := 1) hc dX5_isHopping_16 (by decide) ?_
    refine ok_goto 21 hc dX5_isHopping_17 (by decide) ?_
    exact ok_zretK hc rfl (by decide) dX5_isHopping_21
  · refine ok_aload_n 0 hc dX5_isHopping_8 rfl rfl ?_
    refine ok_geti hc FS_X5_11 rfl hq0 dX5_isHopping_9 ?_
    refine ok_iconst (v := 5) hc dX5_isHopping_12 (by decide) ?_
    refine ok_icmp_ne_ite 20 hc dX5_isHopping_13 (by decide) (fun h2 => ?_) (fun h2 => ?_)
    · refine ok_iconst (v := 0) hc dX5_isHopping_20 (by decide) ?_
      exact ok_zretK hc rfl (by decide) dX5_isHopping_21
    · refine ok_iconst (v := 1) hc dX5_isHopping_16 (by decide) ?_
      refine ok_goto 21 hc dX5_isHopping_17 (by decide) ?_
      exact ok_zretK hc rfl (by decide) dX5_isHopping_21
def fX5_mayBecome (q0 : Nat) (a1 : Int32) (a2 : Int32) (S : St) : Option (Int32 × St) :=
  if a1 = 0 then (bnd (fX11_within a2 1 1000000 S) (fun v2 S3 => if b01 v2 then some (v2, S3) else none)) else if a1 = 1 then (bnd (fX11_within a2 0 1000 S) (fun v5 S6 => if b01 v5 then some (v5, S6) else none)) else if a1 = 2 then (bnd (fX11_within a2 0 11 S) (fun v8 S9 => if b01 v8 then some (v8, S9) else none)) else if a1 = 3 then (bnd (fX5_isHopping q0 S) (fun v11 S12 => if v11 = 0 then (some (0, S12)) else (bnd (fX11_within a2 0 11 S12) (fun v14 S15 => if v14 = 0 then (some (0, S15)) else (some (1, S15)))))) else if a1 = 4 then (if (S.1 q0 0) = 1 then (bnd (fX11_within a2 (-1) 5 S) (fun v19 S20 => if v19 = 0 then (some (0, S20)) else (some (1, S20)))) else (some (0, S))) else (some (0, S))
set_option maxRecDepth 100000 in
set_option maxHeartbeats 4000000 in
theorem tX5_mayBecome (q0 : Nat) (a1 : Int32) (a2 : Int32) (hq0 : Iob wX q0 5 11) (S : St) (q : Int32 × St) (h : fX5_mayBecome q0 a1 a2 S = some q) : MT vI wX mX5_mayBecome (fun n0 => [.ref (n0 + q0), .int a1, .int a2]) S q := by
  refine mt_of (show plainFor yX5_mayBecome = true from by decide) (fun _ => Nat.le_of_ble_eq_true rfl) ?_
  intro Γ hc _
  rw [← h]
  show Ok Γ wX 0 [(0, rv Γ q0), (1, .int a1), (2, .int a2)] [] S _
  unfold fX5_mayBecome
  refine ok_iload_n 1 hc dX5_mayBecome_0 rfl rfl ?_
  refine ok_ite (fun h1 => ?_) (fun h1 => ?_)
  · refine ok_tswIn (v := 0) 36 hc dX5_mayBecome_1 h1 (by decide) (by decide) rfl (by decide) ?_
    refine ok_iload_n 2 hc dX5_mayBecome_36 rfl rfl ?_
    refine ok_iconst (v := 1) hc dX5_mayBecome_37 (by decide) ?_
    refine ok_ldc hc dX5_mayBecome_38 W_568 ?_
    refine ok_callSi (As := [.int a2, .int 1, .int 1000000]) (st := []) (fun n0 => [.int a2, .int 1, .int 1000000]) hc SS_X5_44 rfl rfl rfl ⟨Nat.le_of_ble_eq_true rfl, Nat.le_of_ble_eq_true rfl⟩ (Nat.le_of_ble_eq_true rfl) (fun q h => tX11_within a2 1 1000000 S q h) dX5_mayBecome_40 (fun v2 S3 => ?_)
    exact ok_zret hc rfl dX5_mayBecome_43
  · refine ok_ite (fun h4 => ?_) (fun h4 => ?_)
    · refine ok_tswIn (v := 1) 44 hc dX5_mayBecome_1 h4 (by decide) (by decide) rfl (by decide) ?_
      refine ok_iload_n 2 hc dX5_mayBecome_44 rfl rfl ?_
      refine ok_iconst (v := 0) hc dX5_mayBecome_45 (by decide) ?_
      refine ok_sipush (v := 1000) hc dX5_mayBecome_46 (by decide) ?_
      refine ok_callSi (As := [.int a2, .int 0, .int 1000]) (st := []) (fun n0 => [.int a2, .int 0, .int 1000]) hc SS_X5_44 rfl rfl rfl ⟨Nat.le_of_ble_eq_true rfl, Nat.le_of_ble_eq_true rfl⟩ (Nat.le_of_ble_eq_true rfl) (fun q h => tX11_within a2 0 1000 S q h) dX5_mayBecome_49 (fun v5 S6 => ?_)
      exact ok_zret hc rfl dX5_mayBecome_52
    · refine ok_ite (fun h7 => ?_) (fun h7 => ?_)
      · refine ok_tswIn (v := 2) 53 hc dX5_mayBecome_1 h7 (by decide) (by decide) rfl (by decide) ?_
        refine ok_iload_n 2 hc dX5_mayBecome_53 rfl rfl ?_
        refine ok_iconst (v := 0) hc dX5_mayBecome_54 (by decide) ?_
        refine ok_bipush (v := 11) hc dX5_mayBecome_55 (by decide) ?_
        refine ok_callSi (As := [.int a2, .int 0, .int 11]) (st := []) (fun n0 => [.int a2, .int 0, .int 11]) hc SS_X5_44 rfl rfl rfl ⟨Nat.le_of_ble_eq_true rfl, Nat.le_of_ble_eq_true rfl⟩ (Nat.le_of_ble_eq_true rfl) (fun q h => tX11_within a2 0 11 S q h) dX5_mayBecome_57 (fun v8 S9 => ?_)
        exact ok_zret hc rfl dX5_mayBecome_60
      · refine ok_ite (fun h10 => ?_) (fun h10 => ?_)
        · refine ok_tswIn (v := 3) 61 hc dX5_mayBecome_1 h10 (by decide) (by decide) rfl (by decide) ?_
          refine ok_aload_n 0 hc dX5_mayBecome_61 rfl rfl ?_
          refine ok_callVi (As := []) (st := []) (fun n0 => [.ref (n0 + q0)]) hc VS_X5_48 hq0 rfl rfl rfl ⟨Nat.le_of_ble_eq_true rfl, Nat.le_of_ble_eq_true rfl⟩ (Nat.le_of_ble_eq_true rfl) (fun q h => tX5_isHopping q0 hq0 S q h) dX5_mayBecome_62 (fun v11 S12 => ?_)
          refine ok_if_eq_ite 82 hc dX5_mayBecome_65 (by decide) (fun h13 => ?_) (fun h13 => ?_)
          · refine ok_iconst (v := 0) hc dX5_mayBecome_82 (by decide) ?_
            exact ok_zretK hc rfl (by decide) dX5_mayBecome_83
          · refine ok_iload_n 2 hc dX5_mayBecome_68 rfl rfl ?_
            refine ok_iconst (v := 0) hc dX5_mayBecome_69 (by decide) ?_
            refine ok_bipush (v := 11) hc dX5_mayBecome_70 (by decide) ?_
            refine ok_callSi (As := [.int a2, .int 0, .int 11]) (st := []) (fun n0 => [.int a2, .int 0, .int 11]) hc SS_X5_44 rfl rfl rfl ⟨Nat.le_of_ble_eq_true rfl, Nat.le_of_ble_eq_true rfl⟩ (Nat.le_of_ble_eq_true rfl) (fun q h => tX11_within a2 0 11 S12 q h) dX5_mayBecome_72 (fun v14 S15 => ?_)
            refine ok_if_eq_ite 82 hc dX5_mayBecome_75 (by decide) (fun h16 => ?_) (fun h16 => ?_)
            · refine ok_iconst (v := 0) hc dX5_mayBecome_82 (by decide) ?_
              exact ok_zretK hc rfl (by decide) dX5_mayBecome_83
            · refine ok_iconst (v := 1) hc dX5_mayBecome_78 (by decide) ?_
              refine ok_goto 83 hc dX5_mayBecome_79 (by decide) ?_
              exact ok_zretK hc rfl (by decide) dX5_mayBecome_83
        · refine ok_ite (fun h17 => ?_) (fun h17 => ?_)
          · refine ok_tswIn (v := 4) 84 hc dX5_mayBecome_1 h17 (by decide) (by decide) rfl (by decide) ?_
            refine ok_aload_n 0 hc dX5_mayBecome_84 rfl rfl ?_
            refine ok_geti hc FS_X5_11 rfl hq0 dX5_mayBecome_85 ?_
            refine ok_iconst (v := 1) hc dX5_mayBecome_88 (by decide) ?_
            refine ok_icmp_ne_ite 105 hc dX5_mayBecome_89 (by decide) (fun h18 => ?_) (fun h18 => ?_)
            · refine ok_iconst (v := 0) hc dX5_mayBecome_105 (by decide) ?_
              exact ok_zretK hc rfl (by decide) dX5_mayBecome_106
            · refine ok_iload_n 2 hc dX5_mayBecome_92 rfl rfl ?_
              refine ok_iconst (v := (-1)) hc dX5_mayBecome_93 (by decide) ?_
              refine ok_iconst (v := 5) hc dX5_mayBecome_94 (by decide) ?_
              refine ok_callSi (As := [.int a2, .int (-1), .int 5]) (st := []) (fun n0 => [.int a2, .int (-1), .int 5]) hc SS_X5_44 rfl rfl rfl ⟨Nat.le_of_ble_eq_true rfl, Nat.le_of_ble_eq_true rfl⟩ (Nat.le_of_ble_eq_true rfl) (fun q h => tX11_within a2 (-1) 5 S q h) dX5_mayBecome_95 (fun v19 S20 => ?_)
              refine ok_if_eq_ite 105 hc dX5_mayBecome_98 (by decide) (fun h21 => ?_) (fun h21 => ?_)
              · refine ok_iconst (v := 0) hc dX5_mayBecome_105 (by decide) ?_
                exact ok_zretK hc rfl (by decide) dX5_mayBecome_106
              · refine ok_iconst (v := 1) hc dX5_mayBecome_101 (by decide) ?_
                refine ok_goto 106 hc dX5_mayBecome_102 (by decide) ?_
                exact ok_zretK hc rfl (by decide) dX5_mayBecome_106
          · refine ok_tswOut 107 hc dX5_mayBecome_1 (by have i0 := ne_i (k := 0) h1 (by decide); have i1 := ne_i (k := 1) h4 (by decide); have i2 := ne_i (k := 2) h7 (by decide); have i3 := ne_i (k := 3) h10 (by decide); have i4 := ne_i (k := 4) h17 (by decide); omega) (by decide) ?_
            refine ok_iconst (v := 0) hc dX5_mayBecome_107 (by decide) ?_
            exact ok_zretK hc rfl (by decide) dX5_mayBecome_108
def fX5_replace (q0 : Nat) (a1 : Int32) (a2 : Int32) (S : St) : Option (Int32 × St) :=
  bnd (fX5_mayBecome q0 a1 a2 S) (fun v1 S2 => if v1 = 0 then (some ((-2), S2)) else (if a1 = 0 then (lt (S2.1 q0 2) (fun (v5 : Int32) => lt (wi S2 q0 2 a2) (fun S6 => some (v5, S6)))) else if a1 = 1 then (lt (S2.1 q0 6) (fun (v8 : Int32) => lt (wi S2 q0 6 a2) (fun S9 => some (v8, S9)))) else if a1 = 2 then (lt (S2.1 q0 7) (fun (v11 : Int32) => lt (wi S2 q0 7 a2) (fun S12 => some (v11, S12)))) else if a1 = 3 then (lt (S2.1 q0 8) (fun (v14 : Int32) => lt (wi S2 q0 8 a2) (fun S15 => some (v14, S15)))) else (lt (S2.1 q0 9) (fun (v16 : Int32) => lt (wi S2 q0 9 a2) (fun S17 => some (v16, S17))))))
set_option maxRecDepth 100000 in
set_option maxHeartbeats 4000000 in
theorem tX5_replace (q0 : Nat) (a1 : Int32) (a2 : Int32) (hq0 : Iob wX q0 5 11) (S : St) (q : Int32 × St) (h : fX5_replace q0 a1 a2 S = some q) : MT vI wX mX5_replace (fun n0 => [.ref (n0 + q0), .int a1, .int a2]) S q := by
  refine mt_of (show plainFor yX5_replace = true from by decide) (fun _ => Nat.le_of_ble_eq_true rfl) ?_
  intro Γ hc _
  rw [← h]
  show Ok Γ wX 0 [(0, rv Γ q0), (1, .int a1), (2, .int a2)] [] S _
  unfold fX5_replace
  refine ok_aload_n 0 hc dX5_replace_0 rfl rfl ?_
  refine ok_iload_n 1 hc dX5_replace_1 rfl rfl ?_
  refine ok_iload_n 2 hc dX5_replace_2 rfl rfl ?_
  refine ok_callVi (As := [.int a1, .int a2]) (st := []) (fun n0 => [.ref (n0 + q0), .int a1, .int a2]) hc VS_X5_33 hq0 rfl rfl rfl ⟨Nat.le_of_ble_eq_true rfl, Nat.le_of_ble_eq_true rfl⟩ (Nat.le_of_ble_eq_true rfl) (fun q h => tX5_mayBecome q0 a1 a2 hq0 S q h) dX5_replace_3 (fun v1 S2 => ?_)
  refine ok_if_ne_ite 12 hc dX5_replace_6 (by decide) (fun h3 => ?_) (fun h3 => ?_)
  · refine ok_iload_n 1 hc dX5_replace_12 rfl rfl ?_
    refine ok_ite (fun h4 => ?_) (fun h4 => ?_)
    · refine ok_tswIn (v := 0) 44 hc dX5_replace_13 h4 (by decide) (by decide) rfl (by decide) ?_
      refine ok_aload_n 0 hc dX5_replace_44 rfl rfl ?_
      refine ok_geti hc FS_X5_37 rfl hq0 dX5_replace_45 ?_
      refine ok_lti (fun v5 => ?_)
      refine ok_istore_n [(3, .int v5), (0, rv Γ q0), (1, .int a1), (2, .int a2)] hc dX5_replace_48 rfl (Nat.le_of_ble_eq_true rfl) rfl ?_
      refine ok_aload_n 1 hc dX5_replace_49 rfl rfl ?_
      refine ok_iload_n 3 hc dX5_replace_50 rfl rfl ?_
      refine ok_puti hc FP_X5_37 rfl hq0 dX5_replace_51 ?_
      refine ok_ltS (fun S6 => ?_)
      refine ok_iload_n 0 hc dX5_replace_54 rfl rfl ?_
      exact ok_iret hc rfl dX5_replace_55
    · refine ok_ite (fun h7 => ?_) (fun h7 => ?_)
      · refine ok_tswIn (v := 1) 56 hc dX5_replace_13 h7 (by decide) (by decide) rfl (by decide) ?_
        refine ok_aload_n 0 hc dX5_replace_56 rfl rfl ?_
        refine ok_geti hc FS_X5_15 rfl hq0 dX5_replace_57 ?_
        refine ok_lti (fun v8 => ?_)
        refine ok_istore_n [(3, .int v8), (0, rv Γ q0), (1, .int a1), (2, .int a2)] hc dX5_replace_60 rfl (Nat.le_of_ble_eq_true rfl) rfl ?_
        refine ok_aload_n 1 hc dX5_replace_61 rfl rfl ?_
        refine ok_iload_n 3 hc dX5_replace_62 rfl rfl ?_
        refine ok_puti hc FP_X5_15 rfl hq0 dX5_replace_63 ?_
        refine ok_ltS (fun S9 => ?_)
        refine ok_iload_n 0 hc dX5_replace_66 rfl rfl ?_
        exact ok_iret hc rfl dX5_replace_67
      · refine ok_ite (fun h10 => ?_) (fun h10 => ?_)
        · refine ok_tswIn (v := 2) 68 hc dX5_replace_13 h10 (by decide) (by decide) rfl (by decide) ?_
          refine ok_aload_n 0 hc dX5_replace_68 rfl rfl ?_
          refine ok_geti hc FS_X5_40 rfl hq0 dX5_replace_69 ?_
          refine ok_lti (fun v11 => ?_)
          refine ok_istore_n [(3, .int v11), (0, rv Γ q0), (1, .int a1), (2, .int a2)] hc dX5_replace_72 rfl (Nat.le_of_ble_eq_true rfl) rfl ?_
          refine ok_aload_n 1 hc dX5_replace_73 rfl rfl ?_
          refine ok_iload_n 3 hc dX5_replace_74 rfl rfl ?_
          refine ok_puti hc FP_X5_40 rfl hq0 dX5_replace_75 ?_
          refine ok_ltS (fun S12 => ?_)
          refine ok_iload_n 0 hc dX5_replace_78 rfl rfl ?_
          exact ok_iret hc rfl dX5_replace_79
        · refine ok_ite (fun h13 => ?_) (fun h13 => ?_)
          · refine ok_tswIn (v := 3) 80 hc dX5_replace_13 h13 (by decide) (by decide) rfl (by decide) ?_
            refine ok_aload_n 0 hc dX5_replace_80 rfl rfl ?_
            refine ok_geti hc FS_X5_18 rfl hq0 dX5_replace_81 ?_
            refine ok_lti (fun v14 => ?_)
            refine ok_istore_n [(3, .int v14), (0, rv Γ q0), (1, .int a1), (2, .int a2)] hc dX5_replace_84 rfl (Nat.le_of_ble_eq_true rfl) rfl ?_
            refine ok_aload_n 1 hc dX5_replace_85 rfl rfl ?_
            refine ok_iload_n 3 hc dX5_replace_86 rfl rfl ?_
            refine ok_puti hc FP_X5_18 rfl hq0 dX5_replace_87 ?_
            refine ok_ltS (fun S15 => ?_)
            refine ok_iload_n 0 hc dX5_replace_90 rfl rfl ?_
            exact ok_iret hc rfl dX5_replace_91
          · refine ok_tswOut 92 hc dX5_replace_13 (by have i0 := ne_i (k := 0) h4 (by decide); have i1 := ne_i (k := 1) h7 (by decide); have i2 := ne_i (k := 2) h10 (by decide); have i3 := ne_i (k := 3) h13 (by decide); omega) (by decide) ?_
            refine ok_aload_n 0 hc dX5_replace_92 rfl rfl ?_
            refine ok_geti hc FS_X5_21 rfl hq0 dX5_replace_93 ?_
            refine ok_lti (fun v16 => ?_)
            refine ok_istore_n [(3, .int v16), (0, rv Γ q0), (1, .int a1), (2, .int a2)] hc dX5_replace_96 rfl (Nat.le_of_ble_eq_true rfl) rfl ?_
            refine ok_aload_n 1 hc dX5_replace_97 rfl rfl ?_
            refine ok_iload_n 3 hc dX5_replace_98 rfl rfl ?_
            refine ok_puti hc FP_X5_21 rfl hq0 dX5_replace_99 ?_
            refine ok_ltS (fun S17 => ?_)
            refine ok_iload_n 0 hc dX5_replace_102 rfl rfl ?_
            exact ok_iret hc rfl dX5_replace_103
  · refine ok_bipush (v := (-2)) hc dX5_replace_9 (by decide) ?_
    exact ok_iret hc rfl dX5_replace_11
def fX2_squaredWay (a1 : Int32) (a2 : Int32) (S : St) : Option (Int32 × St) :=
  if ¬ (S.1 16 3) = 0 then (if ¬ (S.1 16 3) = 0 then (lt ((ire a2 (S.1 16 3)) - (ire a1 (S.1 16 3))) (fun (v3 : Int32) => if ¬ (S.1 16 3) = 0 then (if ¬ (S.1 16 3) = 0 then (lt ((a2 / (S.1 16 3)) - (a1 / (S.1 16 3))) (fun (v6 : Int32) => some ((v3 * v3) + (v6 * v6), S))) else none) else none)) else none) else none
set_option maxRecDepth 100000 in
set_option maxHeartbeats 4000000 in
theorem tX2_squaredWay (a1 : Int32) (a2 : Int32) (S : St) (q : Int32 × St) (h : fX2_squaredWay a1 a2 S = some q) : MT vI wX mX2_squaredWay (fun n0 => [.ref (n0 + 16), .int a1, .int a2]) S q := by
  refine mt_of (show plainFor yX2_squaredWay = true from by decide) (fun _ => Nat.le_of_ble_eq_true rfl) ?_
  intro Γ hc _
  rw [← h]
  show Ok Γ wX 0 [(0, rv Γ 16), (1, .int a1), (2, .int a2)] [] S _
  unfold fX2_squaredWay
  refine ok_iload_n 2 hc dX2_squaredWay_0 rfl rfl ?_
  refine ok_aload_n 0 hc dX2_squaredWay_1 rfl rfl ?_
  refine ok_geti hc FS_X2_22 rfl sX_16 dX2_squaredWay_2 ?_
  refine ok_irem hc dX2_squaredWay_5 (fun h1 => ?_)
  refine ok_iload_n 1 hc dX2_squaredWay_6 rfl rfl ?_
  refine ok_aload_n 0 hc dX2_squaredWay_7 rfl rfl ?_
  refine ok_geti hc FS_X2_22 rfl sX_16 dX2_squaredWay_8 ?_
  refine ok_irem hc dX2_squaredWay_11 (fun h2 => ?_)
  refine ok_isub hc dX2_squaredWay_12 ?_
  refine ok_lti (fun v3 => ?_)
  refine ok_istore_n [(3, .int v3), (0, rv Γ 16), (1, .int a1), (2, .int a2)] hc dX2_squaredWay_13 rfl (Nat.le_of_ble_eq_true rfl) rfl ?_
  refine ok_iload_n 3 hc dX2_squaredWay_14 rfl rfl ?_
  refine ok_aload_n 1 hc dX2_squaredWay_15 rfl rfl ?_
  refine ok_geti hc FS_X2_22 rfl sX_16 dX2_squaredWay_16 ?_
  refine ok_idiv hc dX2_squaredWay_19 (fun h4 => ?_)
  refine ok_iload_n 2 hc dX2_squaredWay_20 rfl rfl ?_
  refine ok_aload_n 1 hc dX2_squaredWay_21 rfl rfl ?_
  refine ok_geti hc FS_X2_22 rfl sX_16 dX2_squaredWay_22 ?_
  refine ok_idiv hc dX2_squaredWay_25 (fun h5 => ?_)
  refine ok_isub hc dX2_squaredWay_26 ?_
  refine ok_lti (fun v6 => ?_)
  refine ok_istore [(4, .int v6), (3, .int v3), (0, rv Γ 16), (1, .int a1), (2, .int a2)] hc dX2_squaredWay_27 (Nat.le_of_ble_eq_true rfl) rfl ?_
  refine ok_iload_n 1 hc dX2_squaredWay_29 rfl rfl ?_
  refine ok_iload_n 1 hc dX2_squaredWay_30 rfl rfl ?_
  refine ok_imul hc dX2_squaredWay_31 ?_
  refine ok_iload 0 hc dX2_squaredWay_32 rfl ?_
  refine ok_iload 0 hc dX2_squaredWay_34 rfl ?_
  refine ok_imul hc dX2_squaredWay_36 ?_
  refine ok_iadd hc dX2_squaredWay_37 ?_
  exact ok_iret hc rfl dX2_squaredWay_38
def fX2_hillOf (a1 : Int32) (S : St) : Option (Int32 × St) :=
  bnd (fX2_known 4 a1 99 S) (fun v1 S2 => some (v1, S2))
set_option maxRecDepth 100000 in
set_option maxHeartbeats 4000000 in
theorem tX2_hillOf (a1 : Int32) (S : St) (q : Int32 × St) (h : fX2_hillOf a1 S = some q) : MT vI wX mX2_hillOf (fun n0 => [.ref (n0 + 16), .int a1]) S q := by
  refine mt_of (show plainFor yX2_hillOf = true from by decide) (fun _ => Nat.le_of_ble_eq_true rfl) ?_
  intro Γ hc _
  rw [← h]
  show Ok Γ wX 0 [(0, rv Γ 16), (1, .int a1)] [] S _
  unfold fX2_hillOf
  refine ok_aload_n 0 hc dX2_hillOf_0 rfl rfl ?_
  refine ok_getr 4 hc FS_X2_15 rfl sX_16 rfl dX2_hillOf_1 ?_
  refine ok_iload_n 1 hc dX2_hillOf_4 rfl rfl ?_
  refine ok_bipush (v := 99) hc dX2_hillOf_5 (by decide) ?_
  refine ok_callSi (As := [rv Γ 4, .int a1, .int 99]) (st := []) (fun n0 => [.ref (n0 + 4), .int a1, .int 99]) hc SS_X2_33 rfl rfl rfl ⟨Nat.le_of_ble_eq_true rfl, Nat.le_of_ble_eq_true rfl⟩ (Nat.le_of_ble_eq_true rfl) (fun q h => tX2_known 4 a1 99 sX_4 S q h) dX2_hillOf_7 (fun v1 S2 => ?_)
  exact ok_iret hc rfl dX2_hillOf_10
def fX2_woodOf (a1 : Int32) (S : St) : Option (Int32 × St) :=
  bnd (fX2_known 6 a1 9 S) (fun v1 S2 => some (v1, S2))
set_option maxRecDepth 100000 in
set_option maxHeartbeats 4000000 in
theorem tX2_woodOf (a1 : Int32) (S : St) (q : Int32 × St) (h : fX2_woodOf a1 S = some q) : MT vI wX mX2_woodOf (fun n0 => [.ref (n0 + 16), .int a1]) S q := by
  refine mt_of (show plainFor yX2_woodOf = true from by decide) (fun _ => Nat.le_of_ble_eq_true rfl) ?_
  intro Γ hc _
  rw [← h]
  show Ok Γ wX 0 [(0, rv Γ 16), (1, .int a1)] [] S _
  unfold fX2_woodOf
  refine ok_aload_n 0 hc dX2_woodOf_0 rfl rfl ?_
  refine ok_getr 6 hc FS_X2_19 rfl sX_16 rfl dX2_woodOf_1 ?_
  refine ok_iload_n 1 hc dX2_woodOf_4 rfl rfl ?_
  refine ok_bipush (v := 9) hc dX2_woodOf_5 (by decide) ?_
  refine ok_callSi (As := [rv Γ 6, .int a1, .int 9]) (st := []) (fun n0 => [.ref (n0 + 6), .int a1, .int 9]) hc SS_X2_33 rfl rfl rfl ⟨Nat.le_of_ble_eq_true rfl, Nat.le_of_ble_eq_true rfl⟩ (Nat.le_of_ble_eq_true rfl) (fun q h => tX2_known 6 a1 9 sX_6 S q h) dX2_woodOf_7 (fun v1 S2 => ?_)
  exact ok_iret hc rfl dX2_woodOf_10
def fX6_store (q0 : Nat) (a1 : Int32) (a2 : Int64) (S : St) : Option (Unit × St) :=
  if (S.1 q0 2) = 0 then (if ib a1 400 then lt (wj S (q0 + 1) (nt a1) a2.toInt32.toInt8.toInt32.toInt64) (fun S10 => some ((), S10)) else none) else (if (S.1 q0 2) = 1 then (if ib a1 400 then lt (wj S (q0 + 1) (nt a1) a2.toInt32.toInt16.toInt32.toInt64) (fun S8 => some ((), S8)) else none) else (if (S.1 q0 2) = 2 then (if ib a1 400 then lt (wj S (q0 + 1) (nt a1) a2.toInt32.toInt64) (fun S6 => some ((), S6)) else none) else (if ib a1 400 then lt (wj S (q0 + 1) (nt a1) a2) (fun S4 => some ((), S4)) else none)))
set_option maxRecDepth 100000 in
set_option maxHeartbeats 4000000 in
theorem tX6_store (q0 : Nat) (a1 : Int32) (a2 : Int64) (hq0 : Iob wX q0 6 4) (S : St) (q : Unit × St) (h : fX6_store q0 a1 a2 S = some q) : MT vU wX mX6_store (fun n0 => [.ref (n0 + q0), .int a1, .long a2]) S q := by
  refine mt_of (show plainFor yX6_store = true from by decide) (fun _ => Nat.le_of_ble_eq_true rfl) ?_
  intro Γ hc _
  rw [← h]
  show Ok Γ wX 0 [(0, rv Γ q0), (1, .int a1), (2, .long a2)] [] S _
  unfold fX6_store
  refine ok_aload_n 0 hc dX6_store_0 rfl rfl ?_
  refine ok_geti hc FS_X6_17 rfl hq0 dX6_store_1 ?_
  refine ok_if_ne_ite 20 hc dX6_store_4 (by decide) (fun h1 => ?_) (fun h1 => ?_)
  · refine ok_aload_n 0 hc dX6_store_20 rfl rfl ?_
    refine ok_geti hc FS_X6_17 rfl hq0 dX6_store_21 ?_
    refine ok_iconst (v := 1) hc dX6_store_24 (by decide) ?_
    refine ok_icmp_ne_ite 41 hc dX6_store_25 (by decide) (fun h2 => ?_) (fun h2 => ?_)
    · refine ok_aload_n 0 hc dX6_store_41 rfl rfl ?_
      refine ok_geti hc FS_X6_17 rfl hq0 dX6_store_42 ?_
      refine ok_iconst (v := 2) hc dX6_store_45 (by decide) ?_
      refine ok_icmp_ne_ite 61 hc dX6_store_46 (by decide) (fun h3 => ?_) (fun h3 => ?_)
      · refine ok_aload_n 0 hc dX6_store_61 rfl rfl ?_
        refine ok_getr (q0 + 1) hc FS_X6_9 rfl hq0 (sht_it hq0).1 dX6_store_62 ?_
        refine ok_iload_n 1 hc dX6_store_65 rfl rfl ?_
        refine ok_lload_n 2 hc dX6_store_66 rfl rfl ?_
        refine ok_last hc (sht_it hq0).2 dX6_store_67 (fun h5 => ?_)
        refine ok_ltS (fun S4 => ?_)
        exact ok_vret hc rfl dX6_store_68
      · refine ok_aload_n 0 hc dX6_store_49 rfl rfl ?_
        refine ok_getr (q0 + 1) hc FS_X6_9 rfl hq0 (sht_it hq0).1 dX6_store_50 ?_
        refine ok_iload_n 1 hc dX6_store_53 rfl rfl ?_
        refine ok_lload_n 2 hc dX6_store_54 rfl rfl ?_
        refine ok_l2i hc dX6_store_55 ?_
        refine ok_i2l hc dX6_store_56 ?_
        refine ok_last hc (sht_it hq0).2 dX6_store_57 (fun h7 => ?_)
        refine ok_ltS (fun S6 => ?_)
        refine ok_goto 68 hc dX6_store_58 (by decide) ?_
        exact ok_vret hc rfl dX6_store_68
    · refine ok_aload_n 0 hc dX6_store_28 rfl rfl ?_
      refine ok_getr (q0 + 1) hc FS_X6_9 rfl hq0 (sht_it hq0).1 dX6_store_29 ?_
      refine ok_iload_n 1 hc dX6_store_32 rfl rfl ?_
      refine ok_lload_n 2 hc dX6_store_33 rfl rfl ?_
      refine ok_l2i hc dX6_store_34 ?_
      refine ok_i2s hc dX6_store_35 ?_
      refine ok_i2l hc dX6_store_36 ?_
      refine ok_last hc (sht_it hq0).2 dX6_store_37 (fun h9 => ?_)
      refine ok_ltS (fun S8 => ?_)
      refine ok_goto 68 hc dX6_store_38 (by decide) ?_
      exact ok_vret hc rfl dX6_store_68
  · refine ok_aload_n 0 hc dX6_store_7 rfl rfl ?_
    refine ok_getr (q0 + 1) hc FS_X6_9 rfl hq0 (sht_it hq0).1 dX6_store_8 ?_
    refine ok_iload_n 1 hc dX6_store_11 rfl rfl ?_
    refine ok_lload_n 2 hc dX6_store_12 rfl rfl ?_
    refine ok_l2i hc dX6_store_13 ?_
    refine ok_i2b hc dX6_store_14 ?_
    refine ok_i2l hc dX6_store_15 ?_
    refine ok_last hc (sht_it hq0).2 dX6_store_16 (fun h11 => ?_)
    refine ok_ltS (fun S10 => ?_)
    refine ok_goto 68 hc dX6_store_17 (by decide) ?_
    exact ok_vret hc rfl dX6_store_68
def fX6_renew (q0 : Nat) (a1 : Int32) (a2 : Int32) (S : St) : Option (Unit × St) :=
  lt (wi S q0 1 0) (fun S1 => lt (wi S1 q0 2 a1) (fun S2 => lt (wi S2 q0 3 a2) (fun S3 => bnd (fJ7_fill_d0a16 (q0 + 1) 400 0 S3) (fun _ S4 => some ((), S4)))))
set_option maxRecDepth 100000 in
set_option maxHeartbeats 4000000 in
theorem tX6_renew (q0 : Nat) (a1 : Int32) (a2 : Int32) (hq0 : Iob wX q0 6 4) (S : St) (q : Unit × St) (h : fX6_renew q0 a1 a2 S = some q) : MT vU wX mX6_renew (fun n0 => [.ref (n0 + q0), .int a1, .int a2]) S q := by
  refine mt_of (show plainFor yX6_renew = true from by decide) (fun _ => Nat.le_of_ble_eq_true rfl) ?_
  intro Γ hc _
  rw [← h]
  show Ok Γ wX 0 [(0, rv Γ q0), (1, .int a1), (2, .int a2)] [] S _
  unfold fX6_renew
  refine ok_aload_n 0 hc dX6_renew_0 rfl rfl ?_
  refine ok_iconst (v := 0) hc dX6_renew_1 (by decide) ?_
  refine ok_putzK hc FP_X6_13 rfl hq0 (by decide) dX6_renew_2 ?_
  refine ok_ltS (fun S1 => ?_)
  refine ok_aload_n 0 hc dX6_renew_5 rfl rfl ?_
  refine ok_iload_n 1 hc dX6_renew_6 rfl rfl ?_
  refine ok_puti hc FP_X6_17 rfl hq0 dX6_renew_7 ?_
  refine ok_ltS (fun S2 => ?_)
  refine ok_aload_n 0 hc dX6_renew_10 rfl rfl ?_
  refine ok_iload_n 2 hc dX6_renew_11 rfl rfl ?_
  refine ok_puti hc FP_X6_21 rfl hq0 dX6_renew_12 ?_
  refine ok_ltS (fun S3 => ?_)
  refine ok_aload_n 0 hc dX6_renew_15 rfl rfl ?_
  refine ok_getr (q0 + 1) hc FS_X6_9 rfl hq0 (sht_it hq0).1 dX6_renew_16 ?_
  refine ok_lconst (v := 0) hc dX6_renew_19 (by decide) ?_
  refine ok_callSu (As := [rv Γ (q0 + 1), .long 0]) (st := []) (fun n0 => [.ref (n0 + (q0 + 1)), .long 0]) hc SS_X6_24 rfl rfl rfl ⟨Nat.le_of_ble_eq_true rfl, Nat.le_of_ble_eq_true rfl⟩ (Nat.le_of_ble_eq_true rfl) (fun q h => tJ7_fill_d0a16 wX (q0 + 1) 400 0 (sht_it hq0).2 S3 q h) dX6_renew_20 (fun _ S4 => ?_)
  exact ok_vret hc rfl dX6_renew_23
