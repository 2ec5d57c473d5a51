def fX1_add (a1 : Int32) (a2 : Int32) (S : St) : Option (Int32 × St) :=
  if ib (S.1 56 2) 8 then lt (wi S 57 (nt (S.1 56 2)) a1) (fun S1 => if ib (S1.1 56 2) 8 then lt (wi S1 58 (nt (S1.1 56 2)) a2) (fun S3 => lt (wi S3 56 2 ((S3.1 56 2) + 1)) (fun S5 => some ((S5.1 56 2) - 1, S5))) else none) else none
set_option maxRecDepth 100000 in
set_option maxHeartbeats 4000000 in
theorem tX1_add (a1 : Int32) (a2 : Int32) (S : St) (q : Int32 × St) (h : fX1_add a1 a2 S = some q) : MT vI wX mX1_add (fun n0 => [.ref (n0 + 56), .int a1, .int a2]) S q := by
  refine mt_of (show plainFor yX1_add = true from by decide) (fun _ => Nat.le_of_ble_eq_true rfl) ?_
  intro Γ hc _
  rw [← h]
  show Ok Γ wX 0 [(0, rv Γ 56), (1, .int a1), (2, .int a2)] [] S _
  unfold fX1_add
  refine ok_aload_n 0 hc dX1_add_0 rfl rfl ?_
  refine ok_getr 57 hc FS_X1_9 rfl sX_56 rfl dX1_add_1 ?_
  refine ok_aload_n 0 hc dX1_add_4 rfl rfl ?_
  refine ok_geti hc FS_X1_16 rfl sX_56 dX1_add_5 ?_
  refine ok_iload_n 1 hc dX1_add_8 rfl rfl ?_
  refine ok_iast hc sX_57 dX1_add_9 (fun h2 => ?_)
  refine ok_ltS (fun S1 => ?_)
  refine ok_aload_n 0 hc dX1_add_10 rfl rfl ?_
  refine ok_getr 58 hc FS_X1_13 rfl sX_56 rfl dX1_add_11 ?_
  refine ok_aload_n 0 hc dX1_add_14 rfl rfl ?_
  refine ok_geti hc FS_X1_16 rfl sX_56 dX1_add_15 ?_
  refine ok_iload_n 2 hc dX1_add_18 rfl rfl ?_
  refine ok_iast hc sX_58 dX1_add_19 (fun h4 => ?_)
  refine ok_ltS (fun S3 => ?_)
  refine ok_aload_n 0 hc dX1_add_20 rfl rfl ?_
  refine ok_dup hc dX1_add_21 rfl ?_
  refine ok_geti hc FS_X1_16 rfl sX_56 dX1_add_22 ?_
  refine ok_iconst (v := 1) hc dX1_add_25 (by decide) ?_
  refine ok_iadd hc dX1_add_26 ?_
  refine ok_puti hc FP_X1_16 rfl sX_56 dX1_add_27 ?_
  refine ok_ltS (fun S5 => ?_)
  refine ok_aload_n 0 hc dX1_add_30 rfl rfl ?_
  refine ok_geti hc FS_X1_16 rfl sX_56 dX1_add_31 ?_
  refine ok_iconst (v := 1) hc dX1_add_34 (by decide) ?_
  refine ok_isub hc dX1_add_35 ?_
  exact ok_iret hc rfl dX1_add_36
def fX1_sharesNoHour_L4_st (a1 : Int32) (rec : Int32 → Int32 → St → Option (Int32 × St)) (a2 : Int32) (a3 : Int32) (S : St) : Option (Int32 × St) :=
  if (S.1 56 2) ≤ a3 then (some (1, S)) else (jn (fun (v2 : Int32) => rec v2 (a3 + 1) S) (fun k3 => if ((a1 >>> (a3 &&& 31)) &&& 1) = 0 then (k3 a2) else (if ib a3 8 then (if (a2 &&& (S.1 57 (nt a3))) = 0 then (if ib a3 8 then (lt (a2 ||| (S.1 57 (nt a3))) (fun (v8 : Int32) => k3 v8)) else none) else (some (0, S))) else none)))
def fX1_sharesNoHour_L4 (a1 : Int32) : Nat → Int32 → Int32 → St → Option (Int32 × St)
  | 0 => fun _ _ _ => none
  | n + 1 => fun a2 a3 S => fX1_sharesNoHour_L4_st a1 (fX1_sharesNoHour_L4 a1 n) a2 a3 S
def fX1_sharesNoHour (a1 : Int32) (S : St) : Option (Int32 × St) :=
  fX1_sharesNoHour_L4 a1 FU 0 0 S
set_option maxRecDepth 100000 in
set_option maxHeartbeats 4000000 in
theorem tX1_sharesNoHour_L4 {Γ : Cx Int32} (hc : Cok Γ wX vI mX1_sharesNoHour) (a1 : Int32) : ∀ (n : Nat) (a2 : Int32) (a3 : Int32) (S : St), Ok Γ wX 4 [(0, rv Γ 56), (1, .int a1), (2, .int a2), (3, .int a3)] [] S (fX1_sharesNoHour_L4 a1 n a2 a3 S) := by
  intro n
  induction n with
  | zero =>
    intro a2 a3 S
    exact ok_none
  | succ n ih =>
    intro a2 a3 S
    show Ok Γ wX 4 [(0, rv Γ 56), (1, .int a1), (2, .int a2), (3, .int a3)] [] S (fX1_sharesNoHour_L4_st a1 (fX1_sharesNoHour_L4 a1 n) a2 a3 S)
    unfold fX1_sharesNoHour_L4_st
    refine ok_iload_n 3 hc dX1_sharesNoHour_4 rfl rfl ?_
    refine ok_aload_n 0 hc dX1_sharesNoHour_5 rfl rfl ?_
    refine ok_geti hc FS_X1_16 rfl sX_56 dX1_sharesNoHour_6 ?_
    refine ok_icmp_ge_ite 48 hc dX1_sharesNoHour_9 (by decide) (fun h1 => ?_) (fun h1 => ?_)
    · refine ok_iconst (v := 1) hc dX1_sharesNoHour_48 (by decide) ?_
      exact ok_zretK hc rfl (by decide) dX1_sharesNoHour_49
    · refine ok_iload_n 1 hc dX1_sharesNoHour_12 rfl rfl ?_
      refine ok_iload_n 3 hc dX1_sharesNoHour_13 rfl rfl ?_
      refine ok_ishr hc dX1_sharesNoHour_14 ?_
      refine ok_iconst (v := 1) hc dX1_sharesNoHour_15 (by decide) ?_
      refine ok_iand hc dX1_sharesNoHour_16 ?_
      refine ok_jn (fun g => ∀ (v2 : Int32), Ok Γ wX 42 [(0, rv Γ 56), (1, .int a1), (2, .int v2), (3, .int a3)] [] S (g v2)) ?_ (fun k3 hk3 => ?_)
      · intro v2
        refine ok_iinc (v := 1) 3 [(3, .int (a3 + 1)), (0, rv Γ 56), (1, .int a1), (2, .int v2)] hc dX1_sharesNoHour_42 rfl (by decide) (Nat.le_of_ble_eq_true rfl) rfl ?_
        refine ok_goto 4 hc dX1_sharesNoHour_45 (by decide) ?_
        refine ok_sub [1, 2, 3, 0] rfl ?_
        exact ih _ _ _
      · refine ok_if_eq_ite 42 hc dX1_sharesNoHour_17 (by decide) (fun h4 => ?_) (fun h4 => ?_)
        · exact hk3 _
        · refine ok_iload_n 2 hc dX1_sharesNoHour_20 rfl rfl ?_
          refine ok_aload_n 0 hc dX1_sharesNoHour_21 rfl rfl ?_
          refine ok_getr 57 hc FS_X1_9 rfl sX_56 rfl dX1_sharesNoHour_22 ?_
          refine ok_iload_n 3 hc dX1_sharesNoHour_25 rfl rfl ?_
          refine ok_iald hc sX_57 dX1_sharesNoHour_26 (fun h5 => ?_)
          refine ok_iand hc dX1_sharesNoHour_27 ?_
          refine ok_if_eq_ite 33 hc dX1_sharesNoHour_28 (by decide) (fun h6 => ?_) (fun h6 => ?_)
          · refine ok_iload_n 2 hc dX1_sharesNoHour_33 rfl rfl ?_
            refine ok_aload_n 0 hc dX1_sharesNoHour_34 rfl rfl ?_
            refine ok_getr 57 hc FS_X1_9 rfl sX_56 rfl dX1_sharesNoHour_35 ?_
            refine ok_iload_n 3 hc dX1_sharesNoHour_38 rfl rfl ?_
            refine ok_iald hc sX_57 dX1_sharesNoHour_39 (fun h7 => ?_)
            refine ok_ior hc dX1_sharesNoHour_40 ?_
            refine ok_lti (fun v8 => ?_)
            refine ok_istore_n [(2, .int v8), (0, rv Γ 56), (1, .int a1), (3, .int a3)] hc dX1_sharesNoHour_41 rfl (Nat.le_of_ble_eq_true rfl) rfl ?_
            refine ok_sub [1, 2, 0, 3] rfl ?_
            exact hk3 _
          · refine ok_iconst (v := 0) hc dX1_sharesNoHour_31 (by decide) ?_
            exact ok_zretK hc rfl (by decide) dX1_sharesNoHour_32
set_option maxRecDepth 100000 in
set_option maxHeartbeats 4000000 in
theorem tX1_sharesNoHour (a1 : Int32) (S : St) (q : Int32 × St) (h : fX1_sharesNoHour a1 S = some q) : MT vI wX mX1_sharesNoHour (fun n0 => [.ref (n0 + 56), .int a1]) S q := by
  refine mt_of (show plainFor yX1_sharesNoHour = true from by decide) (fun _ => Nat.le_of_ble_eq_true rfl) ?_
  intro Γ hc _
  rw [← h]
  show Ok Γ wX 0 [(0, rv Γ 56), (1, .int a1)] [] S _
  unfold fX1_sharesNoHour
  refine ok_iconst (v := 0) hc dX1_sharesNoHour_0 (by decide) ?_
  refine ok_istore_n [(2, .int 0), (0, rv Γ 56), (1, .int a1)] hc dX1_sharesNoHour_1 rfl (Nat.le_of_ble_eq_true rfl) rfl ?_
  refine ok_iconst (v := 0) hc dX1_sharesNoHour_2 (by decide) ?_
  refine ok_istore_n [(3, .int 0), (2, .int 0), (0, rv Γ 56), (1, .int a1)] hc dX1_sharesNoHour_3 rfl (Nat.le_of_ble_eq_true rfl) rfl ?_
  refine ok_sub [2, 3, 1, 0] rfl ?_
  refine tX1_sharesNoHour_L4 hc _   FU _ _ _
def fX1_priceOf_L4_st (a1 : Int32) (rec : Int32 → Int32 → St → Option (Int32 × St)) (a2 : Int32) (a3 : Int32) (S : St) : Option (Int32 × St) :=
  if (S.1 56 2) ≤ a3 then (some (a2, S)) else (jn (fun (v2 : Int32) => rec v2 (a3 + 1) S) (fun k3 => if ((a1 >>> (a3 &&& 31)) &&& 1) = 0 then (k3 a2) else (if ib a3 8 then (lt (a2 + (S.1 58 (nt a3))) (fun (v6 : Int32) => k3 v6)) else none)))
def fX1_priceOf_L4 (a1 : Int32) : Nat → Int32 → Int32 → St → Option (Int32 × St)
  | 0 => fun _ _ _ => none
  | n + 1 => fun a2 a3 S => fX1_priceOf_L4_st a1 (fX1_priceOf_L4 a1 n) a2 a3 S
def fX1_priceOf (a1 : Int32) (S : St) : Option (Int32 × St) :=
  fX1_priceOf_L4 a1 FU 0 0 S
set_option maxRecDepth 100000 in
set_option maxHeartbeats 4000000 in
theorem tX1_priceOf_L4 {Γ : Cx Int32} (hc : Cok Γ wX vI mX1_priceOf) (a1 : Int32) : ∀ (n : Nat) (a2 : Int32) (a3 : Int32) (S : St), Ok Γ wX 4 [(0, rv Γ 56), (1, .int a1), (2, .int a2), (3, .int a3)] [] S (fX1_priceOf_L4 a1 n a2 a3 S) := by
  intro n
  induction n with
  | zero =>
    intro a2 a3 S
    exact ok_none
  | succ n ih =>
    intro a2 a3 S
    show Ok Γ wX 4 [(0, rv Γ 56), (1, .int a1), (2, .int a2), (3, .int a3)] [] S (fX1_priceOf_L4_st a1 (fX1_priceOf_L4 a1 n) a2 a3 S)
    unfold fX1_priceOf_L4_st
    refine ok_iload_n 3 hc dX1_priceOf_4 rfl rfl ?_
    refine ok_aload_n 0 hc dX1_priceOf_5 rfl rfl ?_
    refine ok_geti hc FS_X1_16 rfl sX_56 dX1_priceOf_6 ?_
    refine ok_icmp_ge_ite 35 hc dX1_priceOf_9 (by decide) (fun h1 => ?_) (fun h1 => ?_)
    · refine ok_iload_n 2 hc dX1_priceOf_35 rfl rfl ?_
      exact ok_iret hc rfl dX1_priceOf_36
    · refine ok_iload_n 1 hc dX1_priceOf_12 rfl rfl ?_
      refine ok_iload_n 3 hc dX1_priceOf_13 rfl rfl ?_
      refine ok_ishr hc dX1_priceOf_14 ?_
      refine ok_iconst (v := 1) hc dX1_priceOf_15 (by decide) ?_
      refine ok_iand hc dX1_priceOf_16 ?_
      refine ok_jn (fun g => ∀ (v2 : Int32), Ok Γ wX 29 [(0, rv Γ 56), (1, .int a1), (2, .int v2), (3, .int a3)] [] S (g v2)) ?_ (fun k3 hk3 => ?_)
      · intro v2
        refine ok_iinc (v := 1) 3 [(3, .int (a3 + 1)), (0, rv Γ 56), (1, .int a1), (2, .int v2)] hc dX1_priceOf_29 rfl (by decide) (Nat.le_of_ble_eq_true rfl) rfl ?_
        refine ok_goto 4 hc dX1_priceOf_32 (by decide) ?_
        refine ok_sub [1, 2, 3, 0] rfl ?_
        exact ih _ _ _
      · refine ok_if_eq_ite 29 hc dX1_priceOf_17 (by decide) (fun h4 => ?_) (fun h4 => ?_)
        · exact hk3 _
        · refine ok_iload_n 2 hc dX1_priceOf_20 rfl rfl ?_
          refine ok_aload_n 0 hc dX1_priceOf_21 rfl rfl ?_
          refine ok_getr 58 hc FS_X1_13 rfl sX_56 rfl dX1_priceOf_22 ?_
          refine ok_iload_n 3 hc dX1_priceOf_25 rfl rfl ?_
          refine ok_iald hc sX_58 dX1_priceOf_26 (fun h5 => ?_)
          refine ok_iadd hc dX1_priceOf_27 ?_
          refine ok_lti (fun v6 => ?_)
          refine ok_istore_n [(2, .int v6), (0, rv Γ 56), (1, .int a1), (3, .int a3)] hc dX1_priceOf_28 rfl (Nat.le_of_ble_eq_true rfl) rfl ?_
          refine ok_sub [1, 2, 0, 3] rfl ?_
          exact hk3 _
set_option maxRecDepth 100000 in
set_option maxHeartbeats 4000000 in
theorem tX1_priceOf (a1 : Int32) (S : St) (q : Int32 × St) (h : fX1_priceOf a1 S = some q) : MT vI wX mX1_priceOf (fun n0 => [.ref (n0 + 56), .int a1]) S q := by
  refine mt_of (show plainFor yX1_priceOf = true from by decide) (fun _ => Nat.le_of_ble_eq_true rfl) ?_
  intro Γ hc _
  rw [← h]
  show Ok Γ wX 0 [(0, rv Γ 56), (1, .int a1)] [] S _
  unfold fX1_priceOf
  refine ok_iconst (v := 0) hc dX1_priceOf_0 (by decide) ?_
  refine ok_istore_n [(2, .int 0), (0, rv Γ 56), (1, .int a1)] hc dX1_priceOf_1 rfl (Nat.le_of_ble_eq_true rfl) rfl ?_
  refine ok_iconst (v := 0) hc dX1_priceOf_2 (by decide) ?_
  refine ok_istore_n [(3, .int 0), (2, .int 0), (0, rv Γ 56), (1, .int a1)] hc dX1_priceOf_3 rfl (Nat.le_of_ble_eq_true rfl) rfl ?_
  refine ok_sub [2, 3, 1, 0] rfl ?_
  refine tX1_priceOf_L4 hc _   FU _ _ _
def fX1_winners_L4_st (a1 : Int32) (rec : Int32 → Int32 → St → Option (Int32 × St)) (a2 : Int32) (a3 : Int32) (S : St) : Option (Int32 × St) :=
  if (1 <<< ((S.1 56 2) &&& 31)) ≤ a3 then (some (a2, S)) else (jn (fun (v2 : Int32) (S3 : St) => rec v2 (a3 + 1) S3) (fun k4 => if (a3 &&& a1) = 0 then (bnd (fX1_sharesNoHour a3 S) (fun v6 S7 => if v6 = 0 then (k4 a2 S7) else (bnd (fX1_priceOf a3 S7) (fun v9 S10 => bnd (fX1_priceOf a2 S10) (fun v11 S12 => lt (v9 - v11) (fun (v13 : Int32) => if 0 < v13 then (k4 a3 S12) else (if v13 = 0 then (bnd (fJ6_bitCount_0f7a4 a3 S12) (fun v16 S17 => bnd (fJ6_bitCount_0f7a4 a2 S17) (fun v18 S19 => if v18 ≤ v16 then (k4 a2 S19) else (k4 a3 S19)))) else (k4 a2 S12)))))))) else (k4 a2 S)))
def fX1_winners_L4 (a1 : Int32) : Nat → Int32 → Int32 → St → Option (Int32 × St)
  | 0 => fun _ _ _ => none
  | n + 1 => fun a2 a3 S => fX1_winners_L4_st a1 (fX1_winners_L4 a1 n) a2 a3 S
def fX1_winners (a1 : Int32) (S : St) : Option (Int32 × St) :=
  fX1_winners_L4 a1 FU 0 1 S
set_option maxRecDepth 100000 in
set_option maxHeartbeats 4000000 in
theorem tX1_winners_L4 {Γ : Cx Int32} (hc : Cok Γ wX vI mX1_winners) (a1 : Int32) : ∀ (n : Nat) (a2 : Int32) (a3 : Int32) (S : St), Ok Γ wX 4 [(0, rv Γ 56), (1, .int a1), (2, .int a2), (3, .int a3)] [] S (fX1_winners_L4 a1 n a2 a3 S) := by
  intro n
  induction n with
  | zero =>
    intro a2 a3 S
    exact ok_none
  | succ n ih =>
    intro a2 a3 S
    show Ok Γ wX 4 [(0, rv Γ 56), (1, .int a1), (2, .int a2), (3, .int a3)] [] S (fX1_winners_L4_st a1 (fX1_winners_L4 a1 n) a2 a3 S)
    unfold fX1_winners_L4_st
    refine ok_iload_n 3 hc dX1_winners_4 rfl rfl ?_
    refine ok_iconst (v := 1) hc dX1_winners_5 (by decide) ?_
    refine ok_aload_n 0 hc dX1_winners_6 rfl rfl ?_
    refine ok_geti hc FS_X1_16 rfl sX_56 dX1_winners_7 ?_
    refine ok_ishl hc dX1_winners_10 ?_
    refine ok_icmp_ge_ite 70 hc dX1_winners_11 (by decide) (fun h1 => ?_) (fun h1 => ?_)
    · refine ok_iload_n 2 hc dX1_winners_70 rfl rfl ?_
      exact ok_iret hc rfl dX1_winners_71
    · refine ok_iload_n 3 hc dX1_winners_14 rfl rfl ?_
      refine ok_iload_n 1 hc dX1_winners_15 rfl rfl ?_
      refine ok_iand hc dX1_winners_16 ?_
      refine ok_jn (fun g => ∀ (v2 : Int32) (S3 : St), Ok Γ wX 64 [(0, rv Γ 56), (1, .int a1), (2, .int v2), (3, .int a3)] [] S3 (g v2 S3)) ?_ (fun k4 hk4 => ?_)
      · intro v2 S3
        refine ok_iinc (v := 1) 3 [(3, .int (a3 + 1)), (0, rv Γ 56), (1, .int a1), (2, .int v2)] hc dX1_winners_64 rfl (by decide) (Nat.le_of_ble_eq_true rfl) rfl ?_
        refine ok_goto 4 hc dX1_winners_67 (by decide) ?_
        refine ok_sub [1, 2, 3, 0] rfl ?_
        exact ih _ _ _
      · refine ok_if_ne_ite 64 hc dX1_winners_17 (by decide) (fun h5 => ?_) (fun h5 => ?_)
        · exact hk4 _ _
        · refine ok_aload_n 0 hc dX1_winners_20 rfl rfl ?_
          refine ok_iload_n 3 hc dX1_winners_21 rfl rfl ?_
          refine ok_callVi (As := [.int a3]) (st := []) (fun n0 => [.ref (n0 + 56), .int a3]) hc VS_X1_20 sX_56 rfl rfl rfl ⟨Nat.le_of_ble_eq_true rfl, Nat.le_of_ble_eq_true rfl⟩ (Nat.le_of_ble_eq_true rfl) (fun q h => tX1_sharesNoHour a3 S q h) dX1_winners_22 (fun v6 S7 => ?_)
          refine ok_if_eq_ite 64 hc dX1_winners_25 (by decide) (fun h8 => ?_) (fun h8 => ?_)
          · exact hk4 _ _
          · refine ok_aload_n 0 hc dX1_winners_28 rfl rfl ?_
            refine ok_iload_n 3 hc dX1_winners_29 rfl rfl ?_
            refine ok_callVi (As := [.int a3]) (st := []) (fun n0 => [.ref (n0 + 56), .int a3]) hc VS_X1_24 sX_56 rfl rfl rfl ⟨Nat.le_of_ble_eq_true rfl, Nat.le_of_ble_eq_true rfl⟩ (Nat.le_of_ble_eq_true rfl) (fun q h => tX1_priceOf a3 S7 q h) dX1_winners_30 (fun v9 S10 => ?_)
            refine ok_aload_n 0 hc dX1_winners_33 rfl rfl ?_
            refine ok_iload_n 2 hc dX1_winners_34 rfl rfl ?_
            refine ok_callVi (As := [.int a2]) (st := [.int v9]) (fun n0 => [.ref (n0 + 56), .int a2]) hc VS_X1_24 sX_56 rfl rfl rfl ⟨Nat.le_of_ble_eq_true rfl, Nat.le_of_ble_eq_true rfl⟩ (Nat.le_of_ble_eq_true rfl) (fun q h => tX1_priceOf a2 S10 q h) dX1_winners_35 (fun v11 S12 => ?_)
            refine ok_isub hc dX1_winners_38 ?_
            refine ok_lti (fun v13 => ?_)
            refine ok_istore [(4, .int v13), (0, rv Γ 56), (1, .int a1), (2, .int a2), (3, .int a3)] hc dX1_winners_39 (Nat.le_of_ble_eq_true rfl) rfl ?_
            refine ok_iload 0 hc dX1_winners_41 rfl ?_
            refine ok_if_gt_ite 62 hc dX1_winners_43 (by decide) (fun h14 => ?_) (fun h14 => ?_)
            · refine ok_iload_n 4 hc dX1_winners_62 rfl rfl ?_
              refine ok_istore_n [(2, .int a3), (4, .int v13), (0, rv Γ 56), (1, .int a1), (3, .int a3)] hc dX1_winners_63 rfl (Nat.le_of_ble_eq_true rfl) rfl ?_
              refine ok_sub [2, 3, 0, 4] rfl ?_
              exact hk4 _ _
            · refine ok_iload 0 hc dX1_winners_46 rfl ?_
              refine ok_if_ne_ite 64 hc dX1_winners_48 (by decide) (fun h15 => ?_) (fun h15 => ?_)
              · refine ok_sub [1, 2, 3, 4] rfl ?_
                exact hk4 _ _
              · refine ok_iload_n 4 hc dX1_winners_51 rfl rfl ?_
                refine ok_callSi (As := [.int a3]) (st := []) (fun n0 => [.int a3]) hc SS_X1_28 rfl rfl rfl ⟨Nat.le_of_ble_eq_true rfl, Nat.le_of_ble_eq_true rfl⟩ (Nat.le_of_ble_eq_true rfl) (fun q h => tJ6_bitCount_0f7a4 wX a3 S12 q h) dX1_winners_52 (fun v16 S17 => ?_)
                refine ok_iload_n 3 hc dX1_winners_55 rfl rfl ?_
                refine ok_callSi (As := [.int a2]) (st := [.int v16]) (fun n0 => [.int a2]) hc SS_X1_28 rfl rfl rfl ⟨Nat.le_of_ble_eq_true rfl, Nat.le_of_ble_eq_true rfl⟩ (Nat.le_of_ble_eq_true rfl) (fun q h => tJ6_bitCount_0f7a4 wX a2 S17 q h) dX1_winners_56 (fun v18 S19 => ?_)
                refine ok_icmp_ge_ite 64 hc dX1_winners_59 (by decide) (fun h20 => ?_) (fun h20 => ?_)
                · refine ok_sub [1, 2, 3, 4] rfl ?_
                  exact hk4 _ _
                · refine ok_iload_n 4 hc dX1_winners_62 rfl rfl ?_
                  refine ok_istore_n [(2, .int a3), (4, .int v13), (0, rv Γ 56), (1, .int a1), (3, .int a3)] hc dX1_winners_63 rfl (Nat.le_of_ble_eq_true rfl) rfl ?_
                  refine ok_sub [2, 3, 0, 4] rfl ?_
                  exact hk4 _ _
set_option maxRecDepth 100000 in
set_option maxHeartbeats 4000000 in
theorem tX1_winners (a1 : Int32) (S : St) (q : Int32 × St) (h : fX1_winners a1 S = some q) : MT vI wX mX1_winners (fun n0 => [.ref (n0 + 56), .int a1]) S q := by
  refine mt_of (show plainFor yX1_winners = true from by decide) (fun _ => Nat.le_of_ble_eq_true rfl) ?_
  intro Γ hc _
  rw [← h]
  show Ok Γ wX 0 [(0, rv Γ 56), (1, .int a1)] [] S _
  unfold fX1_winners
  refine ok_iconst (v := 0) hc dX1_winners_0 (by decide) ?_
  refine ok_istore_n [(2, .int 0), (0, rv Γ 56), (1, .int a1)] hc dX1_winners_1 rfl (Nat.le_of_ble_eq_true rfl) rfl ?_
  refine ok_iconst (v := 1) hc dX1_winners_2 (by decide) ?_
  refine ok_istore_n [(3, .int 1), (2, .int 0), (0, rv Γ 56), (1, .int a1)] hc dX1_winners_3 rfl (Nat.le_of_ble_eq_true rfl) rfl ?_
  refine ok_sub [2, 3, 1, 0] rfl ?_
  refine tX1_winners_L4 hc _   FU _ _ _
def fX7_sign (S : St) : Option (Int32 × St) :=
  if (S.1 59 7) ≤ (S.1 59 10) then (some ((-1), S)) else (if ib (S.1 59 10) 120 then (some (S.1 60 (nt (S.1 59 10)), S)) else none)
set_option maxRecDepth 100000 in
set_option maxHeartbeats 4000000 in
theorem tX7_sign (S : St) (q : Int32 × St) (h : fX7_sign S = some q) : MT vI wX mX7_sign (fun n0 => [.ref (n0 + 59)]) S q := by
  refine mt_of (show plainFor yX7_sign = true from by decide) (fun _ => Nat.le_of_ble_eq_true rfl) ?_
  intro Γ hc _
  rw [← h]
  show Ok Γ wX 0 [(0, rv Γ 59)] [] S _
  unfold fX7_sign
  refine ok_aload_n 0 hc dX7_sign_0 rfl rfl ?_
  refine ok_geti hc FS_X7_51 rfl sX_59 dX7_sign_1 ?_
  refine ok_aload_n 0 hc dX7_sign_4 rfl rfl ?_
  refine ok_geti hc FS_X7_34 rfl sX_59 dX7_sign_5 ?_
  refine ok_icmp_ge_ite 23 hc dX7_sign_8 (by decide) (fun h1 => ?_) (fun h1 => ?_)
  · refine ok_iconst (v := (-1)) hc dX7_sign_23 (by decide) ?_
    exact ok_iret hc rfl dX7_sign_24
  · refine ok_aload_n 0 hc dX7_sign_11 rfl rfl ?_
    refine ok_getr 60 hc FS_X7_11 rfl sX_59 rfl dX7_sign_12 ?_
    refine ok_aload_n 0 hc dX7_sign_15 rfl rfl ?_
    refine ok_geti hc FS_X7_51 rfl sX_59 dX7_sign_16 ?_
    refine ok_iald hc sX_60 dX7_sign_19 (fun h2 => ?_)
    refine ok_goto 24 hc dX7_sign_20 (by decide) ?_
    exact ok_iret hc rfl dX7_sign_24
def fX7_failsAt (a1 : Int32) (S : St) : Option (Int32 × St) :=
  lt (wi S 59 9 a1) (fun S1 => some (0, S1))
set_option maxRecDepth 100000 in
set_option maxHeartbeats 4000000 in
theorem tX7_failsAt (a1 : Int32) (S : St) (q : Int32 × St) (h : fX7_failsAt a1 S = some q) : MT vI wX mX7_failsAt (fun n0 => [.ref (n0 + 59), .int a1]) S q := by
  refine mt_of (show plainFor yX7_failsAt = true from by decide) (fun _ => Nat.le_of_ble_eq_true rfl) ?_
  intro Γ hc _
  rw [← h]
  show Ok Γ wX 0 [(0, rv Γ 59), (1, .int a1)] [] S _
  unfold fX7_failsAt
  refine ok_aload_n 0 hc dX7_failsAt_0 rfl rfl ?_
  refine ok_iload_n 1 hc dX7_failsAt_1 rfl rfl ?_
  refine ok_puti hc FP_X7_41 rfl sX_59 dX7_failsAt_2 ?_
  refine ok_ltS (fun S1 => ?_)
  refine ok_iconst (v := 0) hc dX7_failsAt_5 (by decide) ?_
  exact ok_zretK hc rfl (by decide) dX7_failsAt_6
def fX7_isFigure (S : St) : Option (Int32 × St) :=
  bnd (fX7_sign S) (fun v1 S2 => bnd (fX11_within v1 48 57 S2) (fun v3 S4 => if b01 v3 then some (v3, S4) else none))
set_option maxRecDepth 100000 in
set_option maxHeartbeats 4000000 in
theorem tX7_isFigure (S : St) (q : Int32 × St) (h : fX7_isFigure S = some q) : MT vI wX mX7_isFigure (fun n0 => [.ref (n0 + 59)]) S q := by
  refine mt_of (show plainFor yX7_isFigure = true from by decide) (fun _ => Nat.le_of_ble_eq_true rfl) ?_
  intro Γ hc _
  rw [← h]
  show Ok Γ wX 0 [(0, rv Γ 59)] [] S _
  unfold fX7_isFigure
  refine ok_aload_n 0 hc dX7_isFigure_0 rfl rfl ?_
  refine ok_callVi (As := []) (st := []) (fun n0 => [.ref (n0 + 59)]) hc VS_X7_58 sX_59 rfl rfl rfl ⟨Nat.le_of_ble_eq_true rfl, Nat.le_of_ble_eq_true rfl⟩ (Nat.le_of_ble_eq_true rfl) (fun q h => tX7_sign S q h) dX7_isFigure_1 (fun v1 S2 => ?_)
  refine ok_bipush (v := 48) hc dX7_isFigure_4 (by decide) ?_
  refine ok_bipush (v := 57) hc dX7_isFigure_6 (by decide) ?_
  refine ok_callSi (As := [.int v1, .int 48, .int 57]) (st := []) (fun n0 => [.int v1, .int 48, .int 57]) hc SS_X7_47 rfl rfl rfl ⟨Nat.le_of_ble_eq_true rfl, Nat.le_of_ble_eq_true rfl⟩ (Nat.le_of_ble_eq_true rfl) (fun q h => tX11_within v1 48 57 S2 q h) dX7_isFigure_8 (fun v3 S4 => ?_)
  exact ok_zret hc rfl dX7_isFigure_11
def fX7_readNumber_L11_st (kx0 : Int32 → St → Option (Int32 × St)) (a1 : Int32) (a2 : Int32) (a3 : Int32) (rec : Int32 → Int32 → St → Option (Int32 × St)) (a4 : Int32) (a5 : Int32) (S : St) : Option (Int32 × St) :=
  if 2 ≤ a5 then (kx0 a4 S) else (bnd (fX7_isFigure S) (fun v2 S3 => if v2 = 0 then (kx0 a4 S3) else (bnd (fX7_sign S3) (fun v5 S6 => lt (((10 * a4) + v5) - 48) (fun (v7 : Int32) => lt (wi S6 59 10 ((S6.1 59 10) + 1)) (fun S8 => rec v7 (a5 + 1) S8))))))
def fX7_readNumber_L11 (kx0 : Int32 → St → Option (Int32 × St)) (a1 : Int32) (a2 : Int32) (a3 : Int32) : Nat → Int32 → Int32 → St → Option (Int32 × St)
  | 0 => fun _ _ _ => none
  | n + 1 => fun a4 a5 S => fX7_readNumber_L11_st kx0 a1 a2 a3 (fX7_readNumber_L11 kx0 a1 a2 a3 n) a4 a5 S
def fX7_readNumber (a1 : Int32) (a2 : Int32) (S : St) : Option (Int32 × St) :=
  fX7_readNumber_L11 (fun (v1 : Int32) (S2 : St) => jn (fun (S3 : St) => lt (wi S3 59 9 (S.1 59 10)) (fun S5 => some (v1, S5))) (fun k4 => if (S2.1 59 10) = (S.1 59 10) then (k4 S2) else (bnd (fX11_within v1 a1 a2 S2) (fun v7 S8 => if v7 = 0 then (k4 S8) else (some (v1, S8)))))) a1 a2 (S.1 59 10) FU 0 0 S
set_option maxRecDepth 100000 in
set_option maxHeartbeats 4000000 in
theorem tX7_readNumber_L11 {Γ : Cx Int32} (hc : Cok Γ wX vI mX7_readNumber) (kx0 : Int32 → St → Option (Int32 × St)) (a1 : Int32) (a2 : Int32) (a3 : Int32) (hx0 : ∀ (a4 : Int32) (S : St), Ok Γ wX 55 [(0, rv Γ 59), (1, .int a1), (2, .int a2), (3, .int a3), (4, .int a4)] [] S (kx0 a4 S)) : ∀ (n : Nat) (a4 : Int32) (a5 : Int32) (S : St), Ok Γ wX 11 [(0, rv Γ 59), (1, .int a1), (2, .int a2), (3, .int a3), (4, .int a4), (5, .int a5)] [] S (fX7_readNumber_L11 kx0 a1 a2 a3 n a4 a5 S) := by
  intro n
  induction n with
  | zero =>
    intro a4 a5 S
    exact ok_none
  | succ n ih =>
    intro a4 a5 S
    show Ok Γ wX 11 [(0, rv Γ 59), (1, .int a1), (2, .int a2), (3, .int a3), (4, .int a4), (5, .int a5)] [] S (fX7_readNumber_L11_st kx0 a1 a2 a3 (fX7_readNumber_L11 kx0 a1 a2 a3 n) a4 a5 S)
    unfold fX7_readNumber_L11_st
    refine ok_iload 5 hc dX7_readNumber_11 rfl ?_
    refine ok_iconst (v := 2) hc dX7_readNumber_13 (by decide) ?_
    refine ok_icmp_ge_ite 55 hc dX7_readNumber_14 (by decide) (fun h1 => ?_) (fun h1 => ?_)
    · refine ok_sub [0, 1, 2, 3, 4] rfl ?_
      exact hx0 _ _
    · refine ok_aload_n 0 hc dX7_readNumber_17 rfl rfl ?_
      refine ok_callVi (As := []) (st := []) (fun n0 => [.ref (n0 + 59)]) hc VS_X7_73 sX_59 rfl rfl rfl ⟨Nat.le_of_ble_eq_true rfl, Nat.le_of_ble_eq_true rfl⟩ (Nat.le_of_ble_eq_true rfl) (fun q h => tX7_isFigure S q h) dX7_readNumber_18 (fun v2 S3 => ?_)
      refine ok_if_eq_ite 55 hc dX7_readNumber_21 (by decide) (fun h4 => ?_) (fun h4 => ?_)
      · refine ok_sub [0, 1, 2, 3, 4] rfl ?_
        exact hx0 _ _
      · refine ok_bipush (v := 10) hc dX7_readNumber_24 (by decide) ?_
        refine ok_iload 4 hc dX7_readNumber_26 rfl ?_
        refine ok_imul hc dX7_readNumber_28 ?_
        refine ok_aload_n 0 hc dX7_readNumber_29 rfl rfl ?_
        refine ok_callVi (As := []) (st := [.int (10 * a4)]) (fun n0 => [.ref (n0 + 59)]) hc VS_X7_58 sX_59 rfl rfl rfl ⟨Nat.le_of_ble_eq_true rfl, Nat.le_of_ble_eq_true rfl⟩ (Nat.le_of_ble_eq_true rfl) (fun q h => tX7_sign S3 q h) dX7_readNumber_30 (fun v5 S6 => ?_)
        refine ok_iadd hc dX7_readNumber_33 ?_
        refine ok_bipush (v := 48) hc dX7_readNumber_34 (by decide) ?_
        refine ok_isub hc dX7_readNumber_36 ?_
        refine ok_lti (fun v7 => ?_)
        refine ok_istore [(4, .int v7), (0, rv Γ 59), (1, .int a1), (2, .int a2), (3, .int a3), (5, .int a5)] hc dX7_readNumber_37 (Nat.le_of_ble_eq_true rfl) rfl ?_
        refine ok_aload_n 1 hc dX7_readNumber_39 rfl rfl ?_
        refine ok_dup hc dX7_readNumber_40 rfl ?_
        refine ok_geti hc FS_X7_51 rfl sX_59 dX7_readNumber_41 ?_
        refine ok_iconst (v := 1) hc dX7_readNumber_44 (by decide) ?_
        refine ok_iadd hc dX7_readNumber_45 ?_
        refine ok_puti hc FP_X7_51 rfl sX_59 dX7_readNumber_46 ?_
        refine ok_ltS (fun S8 => ?_)
        refine ok_iinc (v := 1) 5 [(5, .int (a5 + 1)), (4, .int v7), (0, rv Γ 59), (1, .int a1), (2, .int a2), (3, .int a3)] hc dX7_readNumber_49 rfl (by decide) (Nat.le_of_ble_eq_true rfl) rfl ?_
        refine ok_goto 11 hc dX7_readNumber_52 (by decide) ?_
        refine ok_sub [2, 3, 4, 5, 1, 0] rfl ?_
        exact ih _ _ _
set_option maxRecDepth 100000 in
set_option maxHeartbeats 4000000 in
theorem tX7_readNumber (a1 : Int32) (a2 : Int32) (S : St) (q : Int32 × St) (h : fX7_readNumber a1 a2 S = some q) : MT vI wX mX7_readNumber (fun n0 => [.ref (n0 + 59), .int a1, .int a2]) S q := by
  refine mt_of (show plainFor yX7_readNumber = true from by decide) (fun _ => Nat.le_of_ble_eq_true rfl) ?_
  intro Γ hc _
  rw [← h]
  show Ok Γ wX 0 [(0, rv Γ 59), (1, .int a1), (2, .int a2)] [] S _
  unfold fX7_readNumber
  refine ok_aload_n 0 hc dX7_readNumber_0 rfl rfl ?_
  refine ok_geti hc FS_X7_51 rfl sX_59 dX7_readNumber_1 ?_
  refine ok_istore_n [(3, .int (S.1 59 10)), (0, rv Γ 59), (1, .int a1), (2, .int a2)] hc dX7_readNumber_4 rfl (Nat.le_of_ble_eq_true rfl) rfl ?_
  refine ok_iconst (v := 0) hc dX7_readNumber_5 (by decide) ?_
  refine ok_istore [(4, .int 0), (3, .int (S.1 59 10)), (0, rv Γ 59), (1, .int a1), (2, .int a2)] hc dX7_readNumber_6 (Nat.le_of_ble_eq_true rfl) rfl ?_
  refine ok_iconst (v := 0) hc dX7_readNumber_8 (by decide) ?_
  refine ok_istore [(5, .int 0), (4, .int 0), (3, .int (S.1 59 10)), (0, rv Γ 59), (1, .int a1), (2, .int a2)] hc dX7_readNumber_9 (Nat.le_of_ble_eq_true rfl) rfl ?_
  refine ok_sub [3, 4, 5, 2, 1, 0] rfl ?_
  refine tX7_readNumber_L11 hc _ _ _ _  ?_ FU _ _ _
  · intro v1 S2
    refine ok_aload_n 0 hc dX7_readNumber_55 rfl rfl ?_
    refine ok_geti hc FS_X7_51 rfl sX_59 dX7_readNumber_56 ?_
    refine ok_iload_n 3 hc dX7_readNumber_59 rfl rfl ?_
    refine ok_jn (fun g => ∀ (S3 : St), Ok Γ wX 73 [(0, rv Γ 59), (3, .int (S.1 59 10)), (4, .int v1)] [] S3 (g S3)) ?_ (fun k4 hk4 => ?_)
    · intro S3
      refine ok_aload_n 0 hc dX7_readNumber_73 rfl rfl ?_
      refine ok_iload_n 1 hc dX7_readNumber_74 rfl rfl ?_
      refine ok_puti hc FP_X7_41 rfl sX_59 dX7_readNumber_75 ?_
      refine ok_ltS (fun S5 => ?_)
      refine ok_iload 2 hc dX7_readNumber_78 rfl ?_
      exact ok_iret hc rfl dX7_readNumber_80
    · refine ok_icmp_eq_ite 73 hc dX7_readNumber_60 (by decide) (fun h6 => ?_) (fun h6 => ?_)
      · refine ok_sub [0, 3, 4] rfl ?_
        exact hk4 _
      · refine ok_iload 4 hc dX7_readNumber_63 rfl ?_
        refine ok_iload_n 1 hc dX7_readNumber_65 rfl rfl ?_
        refine ok_iload_n 2 hc dX7_readNumber_66 rfl rfl ?_
        refine ok_callSi (As := [.int v1, .int a1, .int a2]) (st := []) (fun n0 => [.int v1, .int a1, .int a2]) hc SS_X7_47 rfl rfl rfl ⟨Nat.le_of_ble_eq_true rfl, Nat.le_of_ble_eq_true rfl⟩ (Nat.le_of_ble_eq_true rfl) (fun q h => tX11_within v1 a1 a2 S2 q h) dX7_readNumber_67 (fun v7 S8 => ?_)
        refine ok_if_ne_ite 78 hc dX7_readNumber_70 (by decide) (fun h9 => ?_) (fun h9 => ?_)
        · refine ok_iload 4 hc dX7_readNumber_78 rfl ?_
          exact ok_iret hc rfl dX7_readNumber_80
        · refine ok_sub [0, 3, 4] rfl ?_
          exact hk4 _
def fX7_readSpan (q1 : Nat) (q2 : Nat) (a3 : Int32) (a4 : Int32) (S : St) : Option (Int32 × St) :=
  bnd (fX7_readNumber 0 a4 S) (fun v1 S2 => if ib a3 25 then lt (wi S2 q1 (nt a3) v1) (fun S3 => if ib a3 25 then (if ib a3 25 then lt (wi S3 q2 (nt a3) (S3.1 q1 (nt a3))) (fun S6 => jn (fun (S8 : St) => if (S8.1 59 9) = (-1) then (some (1, S8)) else (some (0, S8))) (fun k9 => if (S6.1 59 9) = (-1) then (bnd (fX7_sign S6) (fun v12 S13 => if v12 = 45 then (lt (wi S13 59 10 ((S13.1 59 10) + 1)) (fun S15 => if ib a3 25 then (bnd (fX7_readNumber (S15.1 q1 (nt a3)) a4 S15) (fun v17 S18 => if ib a3 25 then lt (wi S18 q2 (nt a3) v17) (fun S19 => k9 S19) else none)) else none)) else (k9 S13))) else (k9 S6))) else none) else none) else none)
set_option maxRecDepth 100000 in
set_option maxHeartbeats 4000000 in
theorem tX7_readSpan (q1 : Nat) (q2 : Nat) (a3 : Int32) (a4 : Int32) (hq1 : Iar wX q1 1 25) (hq2 : Iar wX q2 1 25) (S : St) (q : Int32 × St) (h : fX7_readSpan q1 q2 a3 a4 S = some q) : MT vI wX mX7_readSpan (fun n0 => [.ref (n0 + 59), .ref (n0 + q1), .ref (n0 + q2), .int a3, .int a4]) S q := by
  refine mt_of (show plainFor yX7_readSpan = true from by decide) (fun _ => Nat.le_of_ble_eq_true rfl) ?_
  intro Γ hc _
  rw [← h]
  show Ok Γ wX 0 [(0, rv Γ 59), (1, rv Γ q1), (2, rv Γ q2), (3, .int a3), (4, .int a4)] [] S _
  unfold fX7_readSpan
  refine ok_aload_n 1 hc dX7_readSpan_0 rfl rfl ?_
  refine ok_iload_n 3 hc dX7_readSpan_1 rfl rfl ?_
  refine ok_aload_n 0 hc dX7_readSpan_2 rfl rfl ?_
  refine ok_iconst (v := 0) hc dX7_readSpan_3 (by decide) ?_
  refine ok_iload 4 hc dX7_readSpan_4 rfl ?_
  refine ok_callVi (As := [.int 0, .int a4]) (st := [.int a3, rv Γ q1]) (fun n0 => [.ref (n0 + 59), .int 0, .int a4]) hc VS_X7_69 sX_59 rfl rfl rfl ⟨Nat.le_of_ble_eq_true rfl, Nat.le_of_ble_eq_true rfl⟩ (Nat.le_of_ble_eq_true rfl) (fun q h => tX7_readNumber 0 a4 S q h) dX7_readSpan_6 (fun v1 S2 => ?_)
  refine ok_iast hc hq1 dX7_readSpan_9 (fun h4 => ?_)
  refine ok_ltS (fun S3 => ?_)
  refine ok_aload_n 2 hc dX7_readSpan_10 rfl rfl ?_
  refine ok_iload_n 3 hc dX7_readSpan_11 rfl rfl ?_
  refine ok_aload_n 1 hc dX7_readSpan_12 rfl rfl ?_
  refine ok_iload_n 3 hc dX7_readSpan_13 rfl rfl ?_
  refine ok_iald hc hq1 dX7_readSpan_14 (fun h5 => ?_)
  refine ok_iast hc hq2 dX7_readSpan_15 (fun h7 => ?_)
  refine ok_ltS (fun S6 => ?_)
  refine ok_aload_n 0 hc dX7_readSpan_16 rfl rfl ?_
  refine ok_geti hc FS_X7_41 rfl sX_59 dX7_readSpan_17 ?_
  refine ok_iconst (v := (-1)) hc dX7_readSpan_20 (by decide) ?_
  refine ok_jn (fun g => ∀ (S8 : St), Ok Γ wX 55 [(0, rv Γ 59)] [] S8 (g S8)) ?_ (fun k9 hk9 => ?_)
  · intro S8
    refine ok_aload_n 0 hc dX7_readSpan_55 rfl rfl ?_
    refine ok_geti hc FS_X7_41 rfl sX_59 dX7_readSpan_56 ?_
    refine ok_iconst (v := (-1)) hc dX7_readSpan_59 (by decide) ?_
    refine ok_icmp_ne_ite 67 hc dX7_readSpan_60 (by decide) (fun h10 => ?_) (fun h10 => ?_)
    · refine ok_iconst (v := 0) hc dX7_readSpan_67 (by decide) ?_
      exact ok_zretK hc rfl (by decide) dX7_readSpan_68
    · refine ok_iconst (v := 1) hc dX7_readSpan_63 (by decide) ?_
      refine ok_goto 68 hc dX7_readSpan_64 (by decide) ?_
      exact ok_zretK hc rfl (by decide) dX7_readSpan_68
  · refine ok_icmp_ne_ite 55 hc dX7_readSpan_21 (by decide) (fun h11 => ?_) (fun h11 => ?_)
    · refine ok_sub [0] rfl ?_
      exact hk9 _
    · refine ok_aload_n 0 hc dX7_readSpan_24 rfl rfl ?_
      refine ok_callVi (As := []) (st := []) (fun n0 => [.ref (n0 + 59)]) hc VS_X7_58 sX_59 rfl rfl rfl ⟨Nat.le_of_ble_eq_true rfl, Nat.le_of_ble_eq_true rfl⟩ (Nat.le_of_ble_eq_true rfl) (fun q h => tX7_sign S6 q h) dX7_readSpan_25 (fun v12 S13 => ?_)
      refine ok_bipush (v := 45) hc dX7_readSpan_28 (by decide) ?_
      refine ok_icmp_ne_ite 55 hc dX7_readSpan_30 (by decide) (fun h14 => ?_) (fun h14 => ?_)
      · refine ok_sub [0] rfl ?_
        exact hk9 _
      · refine ok_aload_n 0 hc dX7_readSpan_33 rfl rfl ?_
        refine ok_dup hc dX7_readSpan_34 rfl ?_
        refine ok_geti hc FS_X7_51 rfl sX_59 dX7_readSpan_35 ?_
        refine ok_iconst (v := 1) hc dX7_readSpan_38 (by decide) ?_
        refine ok_iadd hc dX7_readSpan_39 ?_
        refine ok_puti hc FP_X7_51 rfl sX_59 dX7_readSpan_40 ?_
        refine ok_ltS (fun S15 => ?_)
        refine ok_aload_n 2 hc dX7_readSpan_43 rfl rfl ?_
        refine ok_iload_n 3 hc dX7_readSpan_44 rfl rfl ?_
        refine ok_aload_n 0 hc dX7_readSpan_45 rfl rfl ?_
        refine ok_aload_n 1 hc dX7_readSpan_46 rfl rfl ?_
        refine ok_iload_n 3 hc dX7_readSpan_47 rfl rfl ?_
        refine ok_iald hc hq1 dX7_readSpan_48 (fun h16 => ?_)
        refine ok_iload 4 hc dX7_readSpan_49 rfl ?_
        refine ok_callVi (As := [.int (S15.1 q1 (nt a3)), .int a4]) (st := [.int a3, rv Γ q2]) (fun n0 => [.ref (n0 + 59), .int (S15.1 q1 (nt a3)), .int a4]) hc VS_X7_69 sX_59 rfl rfl rfl ⟨Nat.le_of_ble_eq_true rfl, Nat.le_of_ble_eq_true rfl⟩ (Nat.le_of_ble_eq_true rfl) (fun q h => tX7_readNumber (S15.1 q1 (nt a3)) a4 S15 q h) dX7_readSpan_51 (fun v17 S18 => ?_)
        refine ok_iast hc hq2 dX7_readSpan_54 (fun h20 => ?_)
        refine ok_ltS (fun S19 => ?_)
        refine ok_sub [0] rfl ?_
        exact hk9 _
def fX7_readRule (a1 : Int32) (S : St) : Option (Int32 × St) :=
  bnd (fX7_sign S) (fun v1 S2 => jn (fun (S3 : St) => bnd (fX7_sign S3) (fun v5 S6 => lt (if v5 = 43 then 1 else 0) (fun (v7 : Int32) => if ib a1 25 ∧ b01 v7 then lt (wi S6 61 (nt a1) v7) (fun S9 => lt (wi S9 59 10 ((S9.1 59 10) + 1)) (fun S11 => bnd (fX7_sign S11) (fun v12 S13 => jn (fun (S14 : St) => bnd (fX7_sign S14) (fun v16 S17 => jn (fun (v18 : Int32) (S19 : St) => if ib a1 25 then lt (wi S19 62 (nt a1) v18) (fun S21 => lt (wi S21 59 10 ((S21.1 59 10) + 1)) (fun S23 => bnd (fX7_sign S23) (fun v24 S25 => if v24 = 58 then (lt (wi S25 59 10 ((S25.1 59 10) + 1)) (fun S27 => bnd (fX7_readSpan 63 64 a1 11 S27) (fun v28 S29 => if v28 = 0 then (some (0, S29)) else (bnd (fX7_sign S29) (fun v31 S32 => if v31 = 64 then (lt (wi S32 59 10 ((S32.1 59 10) + 1)) (fun S38 => bnd (fX7_readSpan 65 66 a1 99 S38) (fun v39 S40 => if b01 v39 then some (v39, S40) else none))) else (if ib a1 25 then lt (wi S32 65 (nt a1) 0) (fun S34 => if ib a1 25 then lt (wi S34 66 (nt a1) 99) (fun S36 => some (1, S36)) else none) else none)))))) else (bnd (fX7_failsAt (S25.1 59 10) S25) (fun v41 S42 => if b01 v41 then some (v41, S42) else none))))) else none) (fun k20 => if v16 = 42 then (k20 (-1) S17) else (bnd (fX7_sign S17) (fun v44 S45 => k20 (v44 - 48) S45))))) (fun k15 => if v12 = 42 then (k15 S13) else (bnd (fX7_sign S13) (fun v47 S48 => bnd (fX11_within v47 48 53 S48) (fun v49 S50 => if v49 = 0 then (bnd (fX7_failsAt (S50.1 59 10) S50) (fun v52 S53 => if b01 v52 then some (v52, S53) else none)) else (k15 S50)))))))) else none))) (fun k4 => if v1 = 43 then (k4 S2) else (bnd (fX7_sign S2) (fun v56 S57 => if v56 = 45 then (k4 S57) else (bnd (fX7_failsAt (S57.1 59 10) S57) (fun v59 S60 => if b01 v59 then some (v59, S60) else none))))))
set_option maxRecDepth 100000 in
set_option maxHeartbeats 4000000 in
theorem tX7_readRule (a1 : Int32) (S : St) (q : Int32 × St) (h : fX7_readRule a1 S = some q) : MT vI wX mX7_readRule (fun n0 => [.ref (n0 + 59), .int a1]) S q := by
  refine mt_of (show plainFor yX7_readRule = true from by decide) (fun _ => Nat.le_of_ble_eq_true rfl) ?_
  intro Γ hc _
  rw [← h]
  show Ok Γ wX 0 [(0, rv Γ 59), (1, .int a1)] [] S _
  unfold fX7_readRule
  refine ok_aload_n 0 hc dX7_readRule_0 rfl rfl ?_
  refine ok_callVi (As := []) (st := []) (fun n0 => [.ref (n0 + 59)]) hc VS_X7_58 sX_59 rfl rfl rfl ⟨Nat.le_of_ble_eq_true rfl, Nat.le_of_ble_eq_true rfl⟩ (Nat.le_of_ble_eq_true rfl) (fun q h => tX7_sign S q h) dX7_readRule_1 (fun v1 S2 => ?_)
  refine ok_bipush (v := 43) hc dX7_readRule_4 (by decide) ?_
  refine ok_jn (fun g => ∀ (S3 : St), Ok Γ wX 27 [(0, rv Γ 59), (1, .int a1)] [] S3 (g S3)) ?_ (fun k4 hk4 => ?_)
  · intro S3
    refine ok_aload_n 0 hc dX7_readRule_27 rfl rfl ?_
    refine ok_getr 61 hc FS_X7_15 rfl sX_59 rfl dX7_readRule_28 ?_
    refine ok_iload_n 1 hc dX7_readRule_31 rfl rfl ?_
    refine ok_aload_n 0 hc dX7_readRule_32 rfl rfl ?_
    refine ok_callVi (As := []) (st := [.int a1, rv Γ 61]) (fun n0 => [.ref (n0 + 59)]) hc VS_X7_58 sX_59 rfl rfl rfl ⟨Nat.le_of_ble_eq_true rfl, Nat.le_of_ble_eq_true rfl⟩ (Nat.le_of_ble_eq_true rfl) (fun q h => tX7_sign S3 q h) dX7_readRule_33 (fun v5 S6 => ?_)
    refine ok_bipush (v := 43) hc dX7_readRule_36 (by decide) ?_
    refine ok_lt (fun g => ∀ (v7 : Int32), Ok Γ wX 46 [(0, rv Γ 59), (1, .int a1)] [.int v7, .int a1, rv Γ 61] S6 (g v7)) ?_ (fun k8 hk8 => ?_)
    · intro v7
      refine ok_zast hc sX_61 dX7_readRule_46 (fun h10 => ?_)
      refine ok_ltS (fun S9 => ?_)
      refine ok_aload_n 0 hc dX7_readRule_47 rfl rfl ?_
      refine ok_dup hc dX7_readRule_48 rfl ?_
      refine ok_geti hc FS_X7_51 rfl sX_59 dX7_readRule_49 ?_
      refine ok_iconst (v := 1) hc dX7_readRule_52 (by decide) ?_
      refine ok_iadd hc dX7_readRule_53 ?_
      refine ok_puti hc FP_X7_51 rfl sX_59 dX7_readRule_54 ?_
      refine ok_ltS (fun S11 => ?_)
      refine ok_aload_n 0 hc dX7_readRule_57 rfl rfl ?_
      refine ok_callVi (As := []) (st := []) (fun n0 => [.ref (n0 + 59)]) hc VS_X7_58 sX_59 rfl rfl rfl ⟨Nat.le_of_ble_eq_true rfl, Nat.le_of_ble_eq_true rfl⟩ (Nat.le_of_ble_eq_true rfl) (fun q h => tX7_sign S11 q h) dX7_readRule_58 (fun v12 S13 => ?_)
      refine ok_bipush (v := 42) hc dX7_readRule_61 (by decide) ?_
      refine ok_jn (fun g => ∀ (S14 : St), Ok Γ wX 89 [(0, rv Γ 59), (1, .int a1)] [] S14 (g S14)) ?_ (fun k15 hk15 => ?_)
      · intro S14
        refine ok_aload_n 0 hc dX7_readRule_89 rfl rfl ?_
        refine ok_getr 62 hc FS_X7_19 rfl sX_59 rfl dX7_readRule_90 ?_
        refine ok_iload_n 1 hc dX7_readRule_93 rfl rfl ?_
        refine ok_aload_n 0 hc dX7_readRule_94 rfl rfl ?_
        refine ok_callVi (As := []) (st := [.int a1, rv Γ 62]) (fun n0 => [.ref (n0 + 59)]) hc VS_X7_58 sX_59 rfl rfl rfl ⟨Nat.le_of_ble_eq_true rfl, Nat.le_of_ble_eq_true rfl⟩ (Nat.le_of_ble_eq_true rfl) (fun q h => tX7_sign S14 q h) dX7_readRule_95 (fun v16 S17 => ?_)
        refine ok_bipush (v := 42) hc dX7_readRule_98 (by decide) ?_
        refine ok_jn (fun g => ∀ (v18 : Int32) (S19 : St), Ok Γ wX 114 [(0, rv Γ 59), (1, .int a1)] [.int v18, .int a1, rv Γ 62] S19 (g v18 S19)) ?_ (fun k20 hk20 => ?_)
        · intro v18 S19
          refine ok_iast hc sX_62 dX7_readRule_114 (fun h22 => ?_)
          refine ok_ltS (fun S21 => ?_)
          refine ok_aload_n 0 hc dX7_readRule_115 rfl rfl ?_
          refine ok_dup hc dX7_readRule_116 rfl ?_
          refine ok_geti hc FS_X7_51 rfl sX_59 dX7_readRule_117 ?_
          refine ok_iconst (v := 1) hc dX7_readRule_120 (by decide) ?_
          refine ok_iadd hc dX7_readRule_121 ?_
          refine ok_puti hc FP_X7_51 rfl sX_59 dX7_readRule_122 ?_
          refine ok_ltS (fun S23 => ?_)
          refine ok_aload_n 0 hc dX7_readRule_125 rfl rfl ?_
          refine ok_callVi (As := []) (st := []) (fun n0 => [.ref (n0 + 59)]) hc VS_X7_58 sX_59 rfl rfl rfl ⟨Nat.le_of_ble_eq_true rfl, Nat.le_of_ble_eq_true rfl⟩ (Nat.le_of_ble_eq_true rfl) (fun q h => tX7_sign S23 q h) dX7_readRule_126 (fun v24 S25 => ?_)
          refine ok_bipush (v := 58) hc dX7_readRule_129 (by decide) ?_
          refine ok_icmp_eq_ite 143 hc dX7_readRule_131 (by decide) (fun h26 => ?_) (fun h26 => ?_)
          · refine ok_aload_n 0 hc dX7_readRule_143 rfl rfl ?_
            refine ok_dup hc dX7_readRule_144 rfl ?_
            refine ok_geti hc FS_X7_51 rfl sX_59 dX7_readRule_145 ?_
            refine ok_iconst (v := 1) hc dX7_readRule_148 (by decide) ?_
            refine ok_iadd hc dX7_readRule_149 ?_
            refine ok_puti hc FP_X7_51 rfl sX_59 dX7_readRule_150 ?_
            refine ok_ltS (fun S27 => ?_)
            refine ok_aload_n 0 hc dX7_readRule_153 rfl rfl ?_
            refine ok_aload_n 0 hc dX7_readRule_154 rfl rfl ?_
            refine ok_getr 63 hc FS_X7_22 rfl sX_59 rfl dX7_readRule_155 ?_
            refine ok_aload_n 0 hc dX7_readRule_158 rfl rfl ?_
            refine ok_getr 64 hc FS_X7_25 rfl sX_59 rfl dX7_readRule_159 ?_
            refine ok_iload_n 1 hc dX7_readRule_162 rfl rfl ?_
            refine ok_bipush (v := 11) hc dX7_readRule_163 (by decide) ?_
            refine ok_callVi (As := [rv Γ 63, rv Γ 64, .int a1, .int 11]) (st := []) (fun n0 => [.ref (n0 + 59), .ref (n0 + 63), .ref (n0 + 64), .int a1, .int 11]) hc VS_X7_65 sX_59 rfl rfl rfl ⟨Nat.le_of_ble_eq_true rfl, Nat.le_of_ble_eq_true rfl⟩ (Nat.le_of_ble_eq_true rfl) (fun q h => tX7_readSpan 63 64 a1 11 sX_63 sX_64 S27 q h) dX7_readRule_165 (fun v28 S29 => ?_)
            refine ok_if_ne_ite 173 hc dX7_readRule_168 (by decide) (fun h30 => ?_) (fun h30 => ?_)
            · refine ok_aload_n 0 hc dX7_readRule_173 rfl rfl ?_
              refine ok_callVi (As := []) (st := []) (fun n0 => [.ref (n0 + 59)]) hc VS_X7_58 sX_59 rfl rfl rfl ⟨Nat.le_of_ble_eq_true rfl, Nat.le_of_ble_eq_true rfl⟩ (Nat.le_of_ble_eq_true rfl) (fun q h => tX7_sign S29 q h) dX7_readRule_174 (fun v31 S32 => ?_)
              refine ok_bipush (v := 64) hc dX7_readRule_177 (by decide) ?_
              refine ok_icmp_ne_ite 208 hc dX7_readRule_179 (by decide) (fun h33 => ?_) (fun h33 => ?_)
              · refine ok_aload_n 0 hc dX7_readRule_208 rfl rfl ?_
                refine ok_getr 65 hc FS_X7_28 rfl sX_59 rfl dX7_readRule_209 ?_
                refine ok_iload_n 1 hc dX7_readRule_212 rfl rfl ?_
                refine ok_iconst (v := 0) hc dX7_readRule_213 (by decide) ?_
                refine ok_iast hc sX_65 dX7_readRule_214 (fun h35 => ?_)
                refine ok_ltS (fun S34 => ?_)
                refine ok_aload_n 0 hc dX7_readRule_215 rfl rfl ?_
                refine ok_getr 66 hc FS_X7_31 rfl sX_59 rfl dX7_readRule_216 ?_
                refine ok_iload_n 1 hc dX7_readRule_219 rfl rfl ?_
                refine ok_bipush (v := 99) hc dX7_readRule_220 (by decide) ?_
                refine ok_iast hc sX_66 dX7_readRule_222 (fun h37 => ?_)
                refine ok_ltS (fun S36 => ?_)
                refine ok_iconst (v := 1) hc dX7_readRule_223 (by decide) ?_
                exact ok_zretK hc rfl (by decide) dX7_readRule_224
              · refine ok_aload_n 0 hc dX7_readRule_182 rfl rfl ?_
                refine ok_dup hc dX7_readRule_183 rfl ?_
                refine ok_geti hc FS_X7_51 rfl sX_59 dX7_readRule_184 ?_
                refine ok_iconst (v := 1) hc dX7_readRule_187 (by decide) ?_
                refine ok_iadd hc dX7_readRule_188 ?_
                refine ok_puti hc FP_X7_51 rfl sX_59 dX7_readRule_189 ?_
                refine ok_ltS (fun S38 => ?_)
                refine ok_aload_n 0 hc dX7_readRule_192 rfl rfl ?_
                refine ok_aload_n 0 hc dX7_readRule_193 rfl rfl ?_
                refine ok_getr 65 hc FS_X7_28 rfl sX_59 rfl dX7_readRule_194 ?_
                refine ok_aload_n 0 hc dX7_readRule_197 rfl rfl ?_
                refine ok_getr 66 hc FS_X7_31 rfl sX_59 rfl dX7_readRule_198 ?_
                refine ok_iload_n 1 hc dX7_readRule_201 rfl rfl ?_
                refine ok_bipush (v := 99) hc dX7_readRule_202 (by decide) ?_
                refine ok_callVi (As := [rv Γ 65, rv Γ 66, .int a1, .int 99]) (st := []) (fun n0 => [.ref (n0 + 59), .ref (n0 + 65), .ref (n0 + 66), .int a1, .int 99]) hc VS_X7_65 sX_59 rfl rfl rfl ⟨Nat.le_of_ble_eq_true rfl, Nat.le_of_ble_eq_true rfl⟩ (Nat.le_of_ble_eq_true rfl) (fun q h => tX7_readSpan 65 66 a1 99 sX_65 sX_66 S38 q h) dX7_readRule_204 (fun v39 S40 => ?_)
                exact ok_zret hc rfl dX7_readRule_207
            · refine ok_iconst (v := 0) hc dX7_readRule_171 (by decide) ?_
              exact ok_zretK hc rfl (by decide) dX7_readRule_172
          · refine ok_aload_n 0 hc dX7_readRule_134 rfl rfl ?_
            refine ok_aload_n 0 hc dX7_readRule_135 rfl rfl ?_
            refine ok_geti hc FS_X7_51 rfl sX_59 dX7_readRule_136 ?_
            refine ok_callVi (As := [.int (S25.1 59 10)]) (st := []) (fun n0 => [.ref (n0 + 59), .int (S25.1 59 10)]) hc VS_X7_62 sX_59 rfl rfl rfl ⟨Nat.le_of_ble_eq_true rfl, Nat.le_of_ble_eq_true rfl⟩ (Nat.le_of_ble_eq_true rfl) (fun q h => tX7_failsAt (S25.1 59 10) S25 q h) dX7_readRule_139 (fun v41 S42 => ?_)
            exact ok_zret hc rfl dX7_readRule_142
        · refine ok_icmp_ne_ite 107 hc dX7_readRule_100 (by decide) (fun h43 => ?_) (fun h43 => ?_)
          · refine ok_aload_n 0 hc dX7_readRule_107 rfl rfl ?_
            refine ok_callVi (As := []) (st := [.int a1, rv Γ 62]) (fun n0 => [.ref (n0 + 59)]) hc VS_X7_58 sX_59 rfl rfl rfl ⟨Nat.le_of_ble_eq_true rfl, Nat.le_of_ble_eq_true rfl⟩ (Nat.le_of_ble_eq_true rfl) (fun q h => tX7_sign S17 q h) dX7_readRule_108 (fun v44 S45 => ?_)
            refine ok_bipush (v := 48) hc dX7_readRule_111 (by decide) ?_
            refine ok_isub hc dX7_readRule_113 ?_
            exact hk20 _ _
          · refine ok_iconst (v := (-1)) hc dX7_readRule_103 (by decide) ?_
            refine ok_goto 114 hc dX7_readRule_104 (by decide) ?_
            exact hk20 _ _
      · refine ok_icmp_eq_ite 89 hc dX7_readRule_63 (by decide) (fun h46 => ?_) (fun h46 => ?_)
        · exact hk15 _
        · refine ok_aload_n 0 hc dX7_readRule_66 rfl rfl ?_
          refine ok_callVi (As := []) (st := []) (fun n0 => [.ref (n0 + 59)]) hc VS_X7_58 sX_59 rfl rfl rfl ⟨Nat.le_of_ble_eq_true rfl, Nat.le_of_ble_eq_true rfl⟩ (Nat.le_of_ble_eq_true rfl) (fun q h => tX7_sign S13 q h) dX7_readRule_67 (fun v47 S48 => ?_)
          refine ok_bipush (v := 48) hc dX7_readRule_70 (by decide) ?_
          refine ok_bipush (v := 53) hc dX7_readRule_72 (by decide) ?_
          refine ok_callSi (As := [.int v47, .int 48, .int 53]) (st := []) (fun n0 => [.int v47, .int 48, .int 53]) hc SS_X7_47 rfl rfl rfl ⟨Nat.le_of_ble_eq_true rfl, Nat.le_of_ble_eq_true rfl⟩ (Nat.le_of_ble_eq_true rfl) (fun q h => tX11_within v47 48 53 S48 q h) dX7_readRule_74 (fun v49 S50 => ?_)
          refine ok_if_ne_ite 89 hc dX7_readRule_77 (by decide) (fun h51 => ?_) (fun h51 => ?_)
          · exact hk15 _
          · refine ok_aload_n 0 hc dX7_readRule_80 rfl rfl ?_
            refine ok_aload_n 0 hc dX7_readRule_81 rfl rfl ?_
            refine ok_geti hc FS_X7_51 rfl sX_59 dX7_readRule_82 ?_
            refine ok_callVi (As := [.int (S50.1 59 10)]) (st := []) (fun n0 => [.ref (n0 + 59), .int (S50.1 59 10)]) hc VS_X7_62 sX_59 rfl rfl rfl ⟨Nat.le_of_ble_eq_true rfl, Nat.le_of_ble_eq_true rfl⟩ (Nat.le_of_ble_eq_true rfl) (fun q h => tX7_failsAt (S50.1 59 10) S50 q h) dX7_readRule_85 (fun v52 S53 => ?_)
            exact ok_zret hc rfl dX7_readRule_88
    · refine ok_icmp_ne 45 hc dX7_readRule_38 (by decide) (fun h54 => ?_) (fun h54 => ?_)
      · rw [if_neg h54]
        refine ok_iconst (v := 0) hc dX7_readRule_45 (by decide) ?_
        exact hk8 _
      · rw [if_pos h54]
        refine ok_iconst (v := 1) hc dX7_readRule_41 (by decide) ?_
        refine ok_goto 46 hc dX7_readRule_42 (by decide) ?_
        exact hk8 _
  · refine ok_icmp_eq_ite 27 hc dX7_readRule_6 (by decide) (fun h55 => ?_) (fun h55 => ?_)
    · exact hk4 _
    · refine ok_aload_n 0 hc dX7_readRule_9 rfl rfl ?_
      refine ok_callVi (As := []) (st := []) (fun n0 => [.ref (n0 + 59)]) hc VS_X7_58 sX_59 rfl rfl rfl ⟨Nat.le_of_ble_eq_true rfl, Nat.le_of_ble_eq_true rfl⟩ (Nat.le_of_ble_eq_true rfl) (fun q h => tX7_sign S2 q h) dX7_readRule_10 (fun v56 S57 => ?_)
      refine ok_bipush (v := 45) hc dX7_readRule_13 (by decide) ?_
      refine ok_icmp_eq_ite 27 hc dX7_readRule_15 (by decide) (fun h58 => ?_) (fun h58 => ?_)
      · exact hk4 _
      · refine ok_aload_n 0 hc dX7_readRule_18 rfl rfl ?_
        refine ok_aload_n 0 hc dX7_readRule_19 rfl rfl ?_
        refine ok_geti hc FS_X7_51 rfl sX_59 dX7_readRule_20 ?_
        refine ok_callVi (As := [.int (S57.1 59 10)]) (st := []) (fun n0 => [.ref (n0 + 59), .int (S57.1 59 10)]) hc VS_X7_62 sX_59 rfl rfl rfl ⟨Nat.le_of_ble_eq_true rfl, Nat.le_of_ble_eq_true rfl⟩ (Nat.le_of_ble_eq_true rfl) (fun q h => tX7_failsAt (S57.1 59 10) S57 q h) dX7_readRule_23 (fun v59 S60 => ?_)
        exact ok_zret hc rfl dX7_readRule_26
def fX7_read_L17_st (rec : Int32 → St → Option (Unit × St)) (a1 : Int32) (S : St) : Option (Unit × St) :=
  if a1 = 0 then (some ((), S)) else (if 25 ≤ (S.1 59 8) then (some ((), S)) else (bnd (fX7_readRule (S.1 59 8) S) (fun v3 S4 => if v3 = 0 then (rec 0 S4) else (lt (wi S4 59 8 ((S4.1 59 8) + 1)) (fun S6 => bnd (fX7_sign S6) (fun v7 S8 => if v7 = 59 then (lt (wi S8 59 10 ((S8.1 59 10) + 1)) (fun S14 => rec 1 S14)) else (bnd (fX7_sign S8) (fun v10 S11 => if v10 = (-1) then (rec 0 S11) else (lt (wi S11 59 9 (S11.1 59 10)) (fun S13 => rec 0 S13))))))))))
def fX7_read_L17 : Nat → Int32 → St → Option (Unit × St)
  | 0 => fun _ _ => none
  | n + 1 => fun a1 S => fX7_read_L17_st (fX7_read_L17 n) a1 S
def fX7_read (S : St) : Option (Unit × St) :=
  lt (wi S 59 10 0) (fun S1 => lt (wi S1 59 9 (-1)) (fun S2 => lt (wi S2 59 8 0) (fun S3 => fX7_read_L17 FU 1 S3)))
set_option maxRecDepth 100000 in
set_option maxHeartbeats 4000000 in
theorem tX7_read_L17 {Γ : Cx Unit} (hc : Cok Γ wX vU mX7_read) : ∀ (n : Nat) (a1 : Int32) (S : St), Ok Γ wX 17 [(0, rv Γ 59), (1, .int a1)] [] S (fX7_read_L17 n a1 S) := by
  intro n
  induction n with
  | zero =>
    intro a1 S
    exact ok_none
  | succ n ih =>
    intro a1 S
    show Ok Γ wX 17 [(0, rv Γ 59), (1, .int a1)] [] S (fX7_read_L17_st (fX7_read_L17 n) a1 S)
    unfold fX7_read_L17_st
    refine ok_iload_n 1 hc dX7_read_17 rfl rfl ?_
    refine ok_if_eq_ite 96 hc dX7_read_18 (by decide) (fun h1 => ?_) (fun h1 => ?_)
    · exact ok_vret hc rfl dX7_read_96
    · refine ok_aload_n 0 hc dX7_read_21 rfl rfl ?_
      refine ok_geti hc FS_X7_44 rfl sX_59 dX7_read_22 ?_
      refine ok_bipush (v := 25) hc dX7_read_25 (by decide) ?_
      refine ok_icmp_ge_ite 96 hc dX7_read_27 (by decide) (fun h2 => ?_) (fun h2 => ?_)
      · exact ok_vret hc rfl dX7_read_96
      · refine ok_iconst (v := 0) hc dX7_read_30 (by decide) ?_
        refine ok_istore_n [(1, .int 0), (0, rv Γ 59)] hc dX7_read_31 rfl (Nat.le_of_ble_eq_true rfl) rfl ?_
        refine ok_aload_n 1 hc dX7_read_32 rfl rfl ?_
        refine ok_aload_n 1 hc dX7_read_33 rfl rfl ?_
        refine ok_geti hc FS_X7_44 rfl sX_59 dX7_read_34 ?_
        refine ok_callVi (As := [.int (S.1 59 8)]) (st := []) (fun n0 => [.ref (n0 + 59), .int (S.1 59 8)]) hc VS_X7_54 sX_59 rfl rfl rfl ⟨Nat.le_of_ble_eq_true rfl, Nat.le_of_ble_eq_true rfl⟩ (Nat.le_of_ble_eq_true rfl) (fun q h => tX7_readRule (S.1 59 8) S q h) dX7_read_37 (fun v3 S4 => ?_)
        refine ok_if_eq_ite 17 hc dX7_read_40 (by decide) (fun h5 => ?_) (fun h5 => ?_)
        · refine ok_sub [1, 0] rfl ?_
          exact ih _ _
        · refine ok_aload_n 1 hc dX7_read_43 rfl rfl ?_
          refine ok_dup hc dX7_read_44 rfl ?_
          refine ok_geti hc FS_X7_44 rfl sX_59 dX7_read_45 ?_
          refine ok_iconst (v := 1) hc dX7_read_48 (by decide) ?_
          refine ok_iadd hc dX7_read_49 ?_
          refine ok_puti hc FP_X7_44 rfl sX_59 dX7_read_50 ?_
          refine ok_ltS (fun S6 => ?_)
          refine ok_aload_n 1 hc dX7_read_53 rfl rfl ?_
          refine ok_callVi (As := []) (st := []) (fun n0 => [.ref (n0 + 59)]) hc VS_X7_58 sX_59 rfl rfl rfl ⟨Nat.le_of_ble_eq_true rfl, Nat.le_of_ble_eq_true rfl⟩ (Nat.le_of_ble_eq_true rfl) (fun q h => tX7_sign S6 q h) dX7_read_54 (fun v7 S8 => ?_)
          refine ok_bipush (v := 59) hc dX7_read_57 (by decide) ?_
          refine ok_icmp_ne_ite 77 hc dX7_read_59 (by decide) (fun h9 => ?_) (fun h9 => ?_)
          · refine ok_aload_n 1 hc dX7_read_77 rfl rfl ?_
            refine ok_callVi (As := []) (st := []) (fun n0 => [.ref (n0 + 59)]) hc VS_X7_58 sX_59 rfl rfl rfl ⟨Nat.le_of_ble_eq_true rfl, Nat.le_of_ble_eq_true rfl⟩ (Nat.le_of_ble_eq_true rfl) (fun q h => tX7_sign S8 q h) dX7_read_78 (fun v10 S11 => ?_)
            refine ok_iconst (v := (-1)) hc dX7_read_81 (by decide) ?_
            refine ok_icmp_eq_ite 17 hc dX7_read_82 (by decide) (fun h12 => ?_) (fun h12 => ?_)
            · refine ok_sub [1, 0] rfl ?_
              exact ih _ _
            · refine ok_aload_n 1 hc dX7_read_85 rfl rfl ?_
              refine ok_aload_n 1 hc dX7_read_86 rfl rfl ?_
              refine ok_geti hc FS_X7_51 rfl sX_59 dX7_read_87 ?_
              refine ok_puti hc FP_X7_41 rfl sX_59 dX7_read_90 ?_
              refine ok_ltS (fun S13 => ?_)
              refine ok_goto 17 hc dX7_read_93 (by decide) ?_
              refine ok_sub [1, 0] rfl ?_
              exact ih _ _
          · refine ok_aload_n 1 hc dX7_read_62 rfl rfl ?_
            refine ok_dup hc dX7_read_63 rfl ?_
            refine ok_geti hc FS_X7_51 rfl sX_59 dX7_read_64 ?_
            refine ok_iconst (v := 1) hc dX7_read_67 (by decide) ?_
            refine ok_iadd hc dX7_read_68 ?_
            refine ok_puti hc FP_X7_51 rfl sX_59 dX7_read_69 ?_
            refine ok_ltS (fun S14 => ?_)
            refine ok_iconst (v := 1) hc dX7_read_72 (by decide) ?_
            refine ok_istore_n [(1, .int 1), (0, rv Γ 59)] hc dX7_read_73 rfl (Nat.le_of_ble_eq_true rfl) rfl ?_
            refine ok_goto 17 hc dX7_read_74 (by decide) ?_
            refine ok_sub [1, 0] rfl ?_
            exact ih _ _
set_option maxRecDepth 100000 in
set_option maxHeartbeats 4000000 in
theorem tX7_read (S : St) (q : Unit × St) (h : fX7_read S = some q) : MT vU wX mX7_read (fun n0 => [.ref (n0 + 59)]) S q := by
  refine mt_of (show plainFor yX7_read = true from by decide) (fun _ => Nat.le_of_ble_eq_true rfl) ?_
  intro Γ hc _
  rw [← h]
  show Ok Γ wX 0 [(0, rv Γ 59)] [] S _
  unfold fX7_read
  refine ok_aload_n 0 hc dX7_read_0 rfl rfl ?_
  refine ok_iconst (v := 0) hc dX7_read_1 (by decide) ?_
  refine ok_puti hc FP_X7_51 rfl sX_59 dX7_read_2 ?_
  refine ok_ltS (fun S1 => ?_)
  refine ok_aload_n 0 hc dX7_read_5 rfl rfl ?_
  refine ok_iconst (v := (-1)) hc dX7_read_6 (by decide) ?_
  refine ok_puti hc FP_X7_41 rfl sX_59 dX7_read_7 ?_
  refine ok_ltS (fun S2 => ?_)
  refine ok_aload_n 0 hc dX7_read_10 rfl rfl ?_
  refine ok_iconst (v := 0) hc dX7_read_11 (by decide) ?_
  refine ok_puti hc FP_X7_44 rfl sX_59 dX7_read_12 ?_
  refine ok_ltS (fun S3 => ?_)
  refine ok_iconst (v := 1) hc dX7_read_15 (by decide) ?_
  refine ok_istore_n [(1, .int 1), (0, rv Γ 59)] hc dX7_read_16 rfl (Nat.le_of_ble_eq_true rfl) rfl ?_
  refine ok_sub [1, 0] rfl ?_
  refine tX7_read_L17 hc    FU _ _
def fX7_lastNaming_L22_st (a1 : Int32) (a2 : Int32) (a3 : Int32) (rec : Int32 → St → Option (Int32 × St)) (a4 : Int32) (S : St) : Option (Int32 × St) :=
  if a4 < 0 then (some ((-1), S)) else (if ib a4 25 then (jn (fun (v3 : Int32) => jn (fun (S5 : St) => rec (a4 + (-1)) S5) (fun k6 => if v3 = 0 then (k6 S) else (if ib a4 25 then (if ib a4 25 then (bnd (fX11_within a2 (S.1 63 (nt a4)) (S.1 64 (nt a4)) S) (fun v10 S11 => if v10 = 0 then (k6 S11) else (if ib a4 25 then (if ib a4 25 then (bnd (fX11_within a3 (S11.1 65 (nt a4)) (S11.1 66 (nt a4)) S11) (fun v15 S16 => if v15 = 0 then (k6 S16) else (some (a4, S16)))) else none) else none))) else none) else none))) (fun k4 => if (S.1 62 (nt a4)) = (-1) then (k4 1) else (if ib a4 25 then (if (S.1 62 (nt a4)) = a1 then (k4 1) else (k4 0)) else none))) else none)
def fX7_lastNaming_L22 (a1 : Int32) (a2 : Int32) (a3 : Int32) : Nat → Int32 → St → Option (Int32 × St)
  | 0 => fun _ _ => none
  | n + 1 => fun a4 S => fX7_lastNaming_L22_st a1 a2 a3 (fX7_lastNaming_L22 a1 a2 a3 n) a4 S
def fX7_lastNaming (a1 : Int32) (a2 : Int32) (a3 : Int32) (S : St) : Option (Int32 × St) :=
  bnd (fX7_read S) (fun _ S1 => if (S1.1 59 9) = (-1) then (lt ((S1.1 59 8) - 1) (fun (v3 : Int32) => fX7_lastNaming_L22 a1 a2 a3 FU v3 S1)) else (some ((-1), S1)))
set_option maxRecDepth 100000 in
set_option maxHeartbeats 4000000 in
theorem tX7_lastNaming_L22 {Γ : Cx Int32} (hc : Cok Γ wX vI mX7_lastNaming) (a1 : Int32) (a2 : Int32) (a3 : Int32) : ∀ (n : Nat) (a4 : Int32) (S : St), Ok Γ wX 22 [(0, rv Γ 59), (1, .int a1), (2, .int a2), (3, .int a3), (4, .int a4)] [] S (fX7_lastNaming_L22 a1 a2 a3 n a4 S) := by
  intro n
  induction n with
  | zero =>
    intro a4 S
    exact ok_none
  | succ n ih =>
    intro a4 S
    show Ok Γ wX 22 [(0, rv Γ 59), (1, .int a1), (2, .int a2), (3, .int a3), (4, .int a4)] [] S (fX7_lastNaming_L22_st a1 a2 a3 (fX7_lastNaming_L22 a1 a2 a3 n) a4 S)
    unfold fX7_lastNaming_L22_st
    refine ok_iload 4 hc dX7_lastNaming_22 rfl ?_
    refine ok_if_lt_ite 112 hc dX7_lastNaming_24 (by decide) (fun h1 => ?_) (fun h1 => ?_)
    · refine ok_iconst (v := (-1)) hc dX7_lastNaming_112 (by decide) ?_
      exact ok_iret hc rfl dX7_lastNaming_113
    · refine ok_aload_n 0 hc dX7_lastNaming_27 rfl rfl ?_
      refine ok_getr 62 hc FS_X7_19 rfl sX_59 rfl dX7_lastNaming_28 ?_
      refine ok_iload 4 hc dX7_lastNaming_31 rfl ?_
      refine ok_iald hc sX_62 dX7_lastNaming_33 (fun h2 => ?_)
      refine ok_iconst (v := (-1)) hc dX7_lastNaming_34 (by decide) ?_
      refine ok_jn (fun g => ∀ (v3 : Int32), Ok Γ wX 54 [(0, rv Γ 59), (1, .int a1), (2, .int a2), (3, .int a3), (4, .int a4)] [.int v3] S (g v3)) ?_ (fun k4 hk4 => ?_)
      · intro v3
        refine ok_istore [(5, .int v3), (0, rv Γ 59), (1, .int a1), (2, .int a2), (3, .int a3), (4, .int a4)] hc dX7_lastNaming_54 (Nat.le_of_ble_eq_true rfl) rfl ?_
        refine ok_iload 0 hc dX7_lastNaming_56 rfl ?_
        refine ok_jn (fun g => ∀ (S5 : St), Ok Γ wX 106 [(0, rv Γ 59), (1, .int a1), (2, .int a2), (3, .int a3), (4, .int a4)] [] S5 (g S5)) ?_ (fun k6 hk6 => ?_)
        · intro S5
          refine ok_iinc (v := (-1)) 4 [(4, .int (a4 + (-1))), (0, rv Γ 59), (1, .int a1), (2, .int a2), (3, .int a3)] hc dX7_lastNaming_106 rfl (by decide) (Nat.le_of_ble_eq_true rfl) rfl ?_
          refine ok_goto 22 hc dX7_lastNaming_109 (by decide) ?_
          refine ok_sub [1, 2, 3, 4, 0] rfl ?_
          exact ih _ _
        · refine ok_if_eq_ite 106 hc dX7_lastNaming_58 (by decide) (fun h7 => ?_) (fun h7 => ?_)
          · refine ok_sub [1, 2, 3, 4, 5] rfl ?_
            exact hk6 _
          · refine ok_iload_n 3 hc dX7_lastNaming_61 rfl rfl ?_
            refine ok_aload_n 1 hc dX7_lastNaming_62 rfl rfl ?_
            refine ok_getr 63 hc FS_X7_22 rfl sX_59 rfl dX7_lastNaming_63 ?_
            refine ok_iload 5 hc dX7_lastNaming_66 rfl ?_
            refine ok_iald hc sX_63 dX7_lastNaming_68 (fun h8 => ?_)
            refine ok_aload_n 1 hc dX7_lastNaming_69 rfl rfl ?_
            refine ok_getr 64 hc FS_X7_25 rfl sX_59 rfl dX7_lastNaming_70 ?_
            refine ok_iload 5 hc dX7_lastNaming_73 rfl ?_
            refine ok_iald hc sX_64 dX7_lastNaming_75 (fun h9 => ?_)
            refine ok_callSi (As := [.int a2, .int (S.1 63 (nt a4)), .int (S.1 64 (nt a4))]) (st := []) (fun n0 => [.int a2, .int (S.1 63 (nt a4)), .int (S.1 64 (nt a4))]) hc SS_X7_47 rfl rfl rfl ⟨Nat.le_of_ble_eq_true rfl, Nat.le_of_ble_eq_true rfl⟩ (Nat.le_of_ble_eq_true rfl) (fun q h => tX11_within a2 (S.1 63 (nt a4)) (S.1 64 (nt a4)) S q h) dX7_lastNaming_76 (fun v10 S11 => ?_)
            refine ok_if_eq_ite 106 hc dX7_lastNaming_79 (by decide) (fun h12 => ?_) (fun h12 => ?_)
            · refine ok_sub [1, 2, 3, 4, 5] rfl ?_
              exact hk6 _
            · refine ok_iload_n 4 hc dX7_lastNaming_82 rfl rfl ?_
              refine ok_aload_n 1 hc dX7_lastNaming_83 rfl rfl ?_
              refine ok_getr 65 hc FS_X7_28 rfl sX_59 rfl dX7_lastNaming_84 ?_
              refine ok_iload 5 hc dX7_lastNaming_87 rfl ?_
              refine ok_iald hc sX_65 dX7_lastNaming_89 (fun h13 => ?_)
              refine ok_aload_n 1 hc dX7_lastNaming_90 rfl rfl ?_
              refine ok_getr 66 hc FS_X7_31 rfl sX_59 rfl dX7_lastNaming_91 ?_
              refine ok_iload 5 hc dX7_lastNaming_94 rfl ?_
              refine ok_iald hc sX_66 dX7_lastNaming_96 (fun h14 => ?_)
              refine ok_callSi (As := [.int a3, .int (S11.1 65 (nt a4)), .int (S11.1 66 (nt a4))]) (st := []) (fun n0 => [.int a3, .int (S11.1 65 (nt a4)), .int (S11.1 66 (nt a4))]) hc SS_X7_47 rfl rfl rfl ⟨Nat.le_of_ble_eq_true rfl, Nat.le_of_ble_eq_true rfl⟩ (Nat.le_of_ble_eq_true rfl) (fun q h => tX11_within a3 (S11.1 65 (nt a4)) (S11.1 66 (nt a4)) S11 q h) dX7_lastNaming_97 (fun v15 S16 => ?_)
              refine ok_if_eq_ite 106 hc dX7_lastNaming_100 (by decide) (fun h17 => ?_) (fun h17 => ?_)
              · refine ok_sub [1, 2, 3, 4, 5] rfl ?_
                exact hk6 _
              · refine ok_iload 5 hc dX7_lastNaming_103 rfl ?_
                exact ok_iret hc rfl dX7_lastNaming_105
      · refine ok_icmp_eq_ite 49 hc dX7_lastNaming_35 (by decide) (fun h18 => ?_) (fun h18 => ?_)
        · refine ok_iconst (v := 1) hc dX7_lastNaming_49 (by decide) ?_
          refine ok_goto 54 hc dX7_lastNaming_50 (by decide) ?_
          exact hk4 _
        · refine ok_aload_n 0 hc dX7_lastNaming_38 rfl rfl ?_
          refine ok_getr 62 hc FS_X7_19 rfl sX_59 rfl dX7_lastNaming_39 ?_
          refine ok_iload 4 hc dX7_lastNaming_42 rfl ?_
          refine ok_iald hc sX_62 dX7_lastNaming_44 (fun h19 => ?_)
          refine ok_iload_n 1 hc dX7_lastNaming_45 rfl rfl ?_
          refine ok_icmp_ne_ite 53 hc dX7_lastNaming_46 (by decide) (fun h20 => ?_) (fun h20 => ?_)
          · refine ok_iconst (v := 0) hc dX7_lastNaming_53 (by decide) ?_
            exact hk4 _
          · refine ok_iconst (v := 1) hc dX7_lastNaming_49 (by decide) ?_
            refine ok_goto 54 hc dX7_lastNaming_50 (by decide) ?_
            exact hk4 _
set_option maxRecDepth 100000 in
set_option maxHeartbeats 4000000 in
theorem tX7_lastNaming (a1 : Int32) (a2 : Int32) (a3 : Int32) (S : St) (q : Int32 × St) (h : fX7_lastNaming a1 a2 a3 S = some q) : MT vI wX mX7_lastNaming (fun n0 => [.ref (n0 + 59), .int a1, .int a2, .int a3]) S q := by
  refine mt_of (show plainFor yX7_lastNaming = true from by decide) (fun _ => Nat.le_of_ble_eq_true rfl) ?_
  intro Γ hc _
  rw [← h]
  show Ok Γ wX 0 [(0, rv Γ 59), (1, .int a1), (2, .int a2), (3, .int a3)] [] S _
  unfold fX7_lastNaming
  refine ok_aload_n 0 hc dX7_lastNaming_0 rfl rfl ?_
  refine ok_callVu (As := []) (st := []) (fun n0 => [.ref (n0 + 59)]) hc VS_X7_38 sX_59 rfl rfl rfl ⟨Nat.le_of_ble_eq_true rfl, Nat.le_of_ble_eq_true rfl⟩ (Nat.le_of_ble_eq_true rfl) (fun q h => tX7_read S q h) dX7_lastNaming_1 (fun _ S1 => ?_)
  refine ok_aload_n 0 hc dX7_lastNaming_4 rfl rfl ?_
  refine ok_geti hc FS_X7_41 rfl sX_59 dX7_lastNaming_5 ?_
  refine ok_iconst (v := (-1)) hc dX7_lastNaming_8 (by decide) ?_
  refine ok_icmp_eq_ite 14 hc dX7_lastNaming_9 (by decide) (fun h2 => ?_) (fun h2 => ?_)
  · refine ok_aload_n 0 hc dX7_lastNaming_14 rfl rfl ?_
    refine ok_geti hc FS_X7_44 rfl sX_59 dX7_lastNaming_15 ?_
    refine ok_iconst (v := 1) hc dX7_lastNaming_18 (by decide) ?_
    refine ok_isub hc dX7_lastNaming_19 ?_
    refine ok_lti (fun v3 => ?_)
    refine ok_istore [(4, .int v3), (0, rv Γ 59), (1, .int a1), (2, .int a2), (3, .int a3)] hc dX7_lastNaming_20 (Nat.le_of_ble_eq_true rfl) rfl ?_
    refine ok_sub [1, 2, 3, 4, 0] rfl ?_
    refine tX7_lastNaming_L22 hc _ _ _   FU _ _
  · refine ok_iconst (v := (-1)) hc dX7_lastNaming_12 (by decide) ?_
    exact ok_iret hc rfl dX7_lastNaming_13
def fX1_dueOf (a1 : Int32) (S : St) : Option (Int32 × St) :=
  bnd (fX1_winners 0 S) (fun v1 S2 => if ((v1 >>> (a1 &&& 31)) &&& 1) = 0 then (some (0, S2)) else (bnd (fX1_winners (1 <<< (a1 &&& 31)) S2) (fun v4 S5 => bnd (fX1_priceOf v4 S5) (fun v6 S7 => bnd (fX1_priceOf (v1 &&& ((1 <<< (a1 &&& 31)) ^^^ (-1))) S7) (fun v8 S9 => some (v6 - v8, S9))))))
set_option maxRecDepth 100000 in
set_option maxHeartbeats 4000000 in
theorem tX1_dueOf (a1 : Int32) (S : St) (q : Int32 × St) (h : fX1_dueOf a1 S = some q) : MT vI wX mX1_dueOf (fun n0 => [.ref (n0 + 56), .int a1]) S q := by
  refine mt_of (show plainFor yX1_dueOf = true from by decide) (fun _ => Nat.le_of_ble_eq_true rfl) ?_
  intro Γ hc _
  rw [← h]
  show Ok Γ wX 0 [(0, rv Γ 56), (1, .int a1)] [] S _
  unfold fX1_dueOf
  refine ok_aload_n 0 hc dX1_dueOf_0 rfl rfl ?_
  refine ok_iconst (v := 0) hc dX1_dueOf_1 (by decide) ?_
  refine ok_callVi (As := [.int 0]) (st := []) (fun n0 => [.ref (n0 + 56), .int 0]) hc VS_X1_33 sX_56 rfl rfl rfl ⟨Nat.le_of_ble_eq_true rfl, Nat.le_of_ble_eq_true rfl⟩ (Nat.le_of_ble_eq_true rfl) (fun q h => tX1_winners 0 S q h) dX1_dueOf_2 (fun v1 S2 => ?_)
  refine ok_istore_n [(2, .int v1), (0, rv Γ 56), (1, .int a1)] hc dX1_dueOf_5 rfl (Nat.le_of_ble_eq_true rfl) rfl ?_
  refine ok_iload_n 0 hc dX1_dueOf_6 rfl rfl ?_
  refine ok_iload_n 2 hc dX1_dueOf_7 rfl rfl ?_
  refine ok_ishr hc dX1_dueOf_8 ?_
  refine ok_iconst (v := 1) hc dX1_dueOf_9 (by decide) ?_
  refine ok_iand hc dX1_dueOf_10 ?_
  refine ok_if_ne_ite 16 hc dX1_dueOf_11 (by decide) (fun h3 => ?_) (fun h3 => ?_)
  · refine ok_aload_n 1 hc dX1_dueOf_16 rfl rfl ?_
    refine ok_aload_n 1 hc dX1_dueOf_17 rfl rfl ?_
    refine ok_iconst (v := 1) hc dX1_dueOf_18 (by decide) ?_
    refine ok_iload_n 2 hc dX1_dueOf_19 rfl rfl ?_
    refine ok_ishl hc dX1_dueOf_20 ?_
    refine ok_callVi (As := [.int (1 <<< (a1 &&& 31))]) (st := [rv Γ 56]) (fun n0 => [.ref (n0 + 56), .int (1 <<< (a1 &&& 31))]) hc VS_X1_33 sX_56 rfl rfl rfl ⟨Nat.le_of_ble_eq_true rfl, Nat.le_of_ble_eq_true rfl⟩ (Nat.le_of_ble_eq_true rfl) (fun q h => tX1_winners (1 <<< (a1 &&& 31)) S2 q h) dX1_dueOf_21 (fun v4 S5 => ?_)
    refine ok_callVi (As := [.int v4]) (st := []) (fun n0 => [.ref (n0 + 56), .int v4]) hc VS_X1_24 sX_56 rfl rfl rfl ⟨Nat.le_of_ble_eq_true rfl, Nat.le_of_ble_eq_true rfl⟩ (Nat.le_of_ble_eq_true rfl) (fun q h => tX1_priceOf v4 S5 q h) dX1_dueOf_24 (fun v6 S7 => ?_)
    refine ok_aload_n 1 hc dX1_dueOf_27 rfl rfl ?_
    refine ok_iload_n 0 hc dX1_dueOf_28 rfl rfl ?_
    refine ok_iconst (v := 1) hc dX1_dueOf_29 (by decide) ?_
    refine ok_iload_n 2 hc dX1_dueOf_30 rfl rfl ?_
    refine ok_ishl hc dX1_dueOf_31 ?_
    refine ok_iconst (v := (-1)) hc dX1_dueOf_32 (by decide) ?_
    refine ok_ixor hc dX1_dueOf_33 ?_
    refine ok_iand hc dX1_dueOf_34 ?_
    refine ok_callVi (As := [.int (v1 &&& ((1 <<< (a1 &&& 31)) ^^^ (-1)))]) (st := [.int v6]) (fun n0 => [.ref (n0 + 56), .int (v1 &&& ((1 <<< (a1 &&& 31)) ^^^ (-1)))]) hc VS_X1_24 sX_56 rfl rfl rfl ⟨Nat.le_of_ble_eq_true rfl, Nat.le_of_ble_eq_true rfl⟩ (Nat.le_of_ble_eq_true rfl) (fun q h => tX1_priceOf (v1 &&& ((1 <<< (a1 &&& 31)) ^^^ (-1))) S7 q h) dX1_dueOf_35 (fun v8 S9 => ?_)
    refine ok_isub hc dX1_dueOf_38 ?_
    exact ok_iret hc rfl dX1_dueOf_39
  · refine ok_iconst (v := 0) hc dX1_dueOf_14 (by decide) ?_
    exact ok_iret hc rfl dX1_dueOf_15
def fX7_append (a1 : Int32) (S : St) : Option (Int32 × St) :=
  if ib (S.1 59 7) 120 then lt (wi S 60 (nt (S.1 59 7)) a1) (fun S1 => lt (wi S1 59 7 ((S1.1 59 7) + 1)) (fun S3 => some (S3.1 59 7, S3))) else none
set_option maxRecDepth 100000 in
set_option maxHeartbeats 4000000 in
theorem tX7_append (a1 : Int32) (S : St) (q : Int32 × St) (h : fX7_append a1 S = some q) : MT vI wX mX7_append (fun n0 => [.ref (n0 + 59), .int a1]) S q := by
  refine mt_of (show plainFor yX7_append = true from by decide) (fun _ => Nat.le_of_ble_eq_true rfl) ?_
  intro Γ hc _
  rw [← h]
  show Ok Γ wX 0 [(0, rv Γ 59), (1, .int a1)] [] S _
  unfold fX7_append
  refine ok_aload_n 0 hc dX7_append_0 rfl rfl ?_
  refine ok_getr 60 hc FS_X7_11 rfl sX_59 rfl dX7_append_1 ?_
  refine ok_aload_n 0 hc dX7_append_4 rfl rfl ?_
  refine ok_geti hc FS_X7_34 rfl sX_59 dX7_append_5 ?_
  refine ok_iload_n 1 hc dX7_append_8 rfl rfl ?_
  refine ok_iast hc sX_60 dX7_append_9 (fun h2 => ?_)
  refine ok_ltS (fun S1 => ?_)
  refine ok_aload_n 0 hc dX7_append_10 rfl rfl ?_
  refine ok_dup hc dX7_append_11 rfl ?_
  refine ok_geti hc FS_X7_34 rfl sX_59 dX7_append_12 ?_
  refine ok_iconst (v := 1) hc dX7_append_15 (by decide) ?_
  refine ok_iadd hc dX7_append_16 ?_
  refine ok_puti hc FP_X7_34 rfl sX_59 dX7_append_17 ?_
  refine ok_ltS (fun S3 => ?_)
  refine ok_aload_n 0 hc dX7_append_20 rfl rfl ?_
  refine ok_geti hc FS_X7_34 rfl sX_59 dX7_append_21 ?_
  exact ok_iret hc rfl dX7_append_24
