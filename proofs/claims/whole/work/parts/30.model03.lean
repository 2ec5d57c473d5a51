def fX12_hears_L5_st (a1 : Int32) (a2 : Int32) (rec : Int64 → Int32 → St → Option (Int64 × St)) (a3 : Int64) (a5 : Int32) (S : St) : Option (Int64 × St) :=
  if (S.1 0 9) ≤ a5 then (some (a3, S)) else (jn (fun (v2 : Int64) (S3 : St) => lt (a3 + v2) (fun (v5 : Int64) => rec v5 (a5 + 1) S3)) (fun k4 => if a5 = a1 then (k4 0 S) else (if ((a2 >>> (a5 &&& 31)) &&& 1) = 1 then (if ib a1 20 then (bnd (fX12_gotOf a5 (S.1 7 (nt a1)) 0 S) (fun v9 S10 => k4 v9.toInt64 S10)) else none) else (k4 0 S))))
def fX12_hears_L5 (a1 : Int32) (a2 : Int32) : Nat → Int64 → Int32 → St → Option (Int64 × St)
  | 0 => fun _ _ _ => none
  | n + 1 => fun a3 a5 S => fX12_hears_L5_st a1 a2 (fX12_hears_L5 a1 a2 n) a3 a5 S
def fX12_hears (a1 : Int32) (a2 : Int32) (S : St) : Option (Int64 × St) :=
  fX12_hears_L5 a1 a2 FU 0 0 S
set_option maxRecDepth 100000 in
set_option maxHeartbeats 4000000 in
theorem tX12_hears_L5 {Γ : Cx Int64} (hc : Cok Γ wM vL mX12_hears) (a1 : Int32) (a2 : Int32) : ∀ (n : Nat) (a3 : Int64) (a5 : Int32) (S : St), Ok Γ wM 5 [(0, rv Γ 0), (1, .int a1), (2, .int a2), (3, .long a3), (5, .int a5)] [] S (fX12_hears_L5 a1 a2 n a3 a5 S) := by
  intro n
  induction n with
  | zero =>
    intro a3 a5 S
    exact ok_none
  | succ n ih =>
    intro a3 a5 S
    show Ok Γ wM 5 [(0, rv Γ 0), (1, .int a1), (2, .int a2), (3, .long a3), (5, .int a5)] [] S (fX12_hears_L5_st a1 a2 (fX12_hears_L5 a1 a2 n) a3 a5 S)
    unfold fX12_hears_L5_st
    refine ok_iload 4 hc dX12_hears_5 rfl ?_
    refine ok_aload_n 0 hc dX12_hears_7 rfl rfl ?_
    refine ok_geti hc FS_X12_176 rfl sM_0 dX12_hears_8 ?_
    refine ok_icmp_ge_ite 57 hc dX12_hears_11 (by decide) (fun h1 => ?_) (fun h1 => ?_)
    · refine ok_lload_n 3 hc dX12_hears_57 rfl rfl ?_
      exact ok_lret hc rfl dX12_hears_58
    · refine ok_lload_n 3 hc dX12_hears_14 rfl rfl ?_
      refine ok_iload 4 hc dX12_hears_15 rfl ?_
      refine ok_iload_n 1 hc dX12_hears_17 rfl rfl ?_
      refine ok_jn (fun g => ∀ (v2 : Int64) (S3 : St), Ok Γ wM 49 [(0, rv Γ 0), (1, .int a1), (2, .int a2), (5, .int a5)] [.long v2, .long a3] S3 (g v2 S3)) ?_ (fun k4 hk4 => ?_)
      · intro v2 S3
        refine ok_ladd hc dX12_hears_49 ?_
        refine ok_ltl (fun v5 => ?_)
        refine ok_lstore_n [(3, .long v5), (0, rv Γ 0), (1, .int a1), (2, .int a2), (5, .int a5)] hc dX12_hears_50 rfl (Nat.le_of_ble_eq_true rfl) rfl ?_
        refine ok_iinc (v := 1) 4 [(5, .int (a5 + 1)), (3, .long v5), (0, rv Γ 0), (1, .int a1), (2, .int a2)] hc dX12_hears_51 rfl (by decide) (Nat.le_of_ble_eq_true rfl) rfl ?_
        refine ok_goto 5 hc dX12_hears_54 (by decide) ?_
        refine ok_sub [2, 3, 4, 1, 0] rfl ?_
        exact ih _ _ _
      · refine ok_icmp_eq_ite 48 hc dX12_hears_18 (by decide) (fun h6 => ?_) (fun h6 => ?_)
        · refine ok_lconst (v := 0) hc dX12_hears_48 (by decide) ?_
          refine ok_sub [0, 1, 2, 4] rfl ?_
          exact hk4 _ _
        · refine ok_iload_n 2 hc dX12_hears_21 rfl rfl ?_
          refine ok_iload 4 hc dX12_hears_22 rfl ?_
          refine ok_ishr hc dX12_hears_24 ?_
          refine ok_iconst (v := 1) hc dX12_hears_25 (by decide) ?_
          refine ok_iand hc dX12_hears_26 ?_
          refine ok_iconst (v := 1) hc dX12_hears_27 (by decide) ?_
          refine ok_icmp_ne_ite 48 hc dX12_hears_28 (by decide) (fun h7 => ?_) (fun h7 => ?_)
          · refine ok_lconst (v := 0) hc dX12_hears_48 (by decide) ?_
            refine ok_sub [0, 1, 2, 4] rfl ?_
            exact hk4 _ _
          · refine ok_aload_n 0 hc dX12_hears_31 rfl rfl ?_
            refine ok_iload 4 hc dX12_hears_32 rfl ?_
            refine ok_aload_n 0 hc dX12_hears_34 rfl rfl ?_
            refine ok_getr 7 hc FS_X12_36 rfl sM_0 rfl dX12_hears_35 ?_
            refine ok_iload_n 1 hc dX12_hears_38 rfl rfl ?_
            refine ok_iald hc sM_7 dX12_hears_39 (fun h8 => ?_)
            refine ok_iconst (v := 0) hc dX12_hears_40 (by decide) ?_
            refine ok_callVi (As := [.int a5, .int (S.1 7 (nt a1)), .int 0]) (st := [.long a3]) (fun n0 => [.ref (n0 + 0), .int a5, .int (S.1 7 (nt a1)), .int 0]) hc VS_X12_251 sM_0 rfl rfl rfl ⟨Nat.le_of_ble_eq_true rfl, Nat.le_of_ble_eq_true rfl⟩ (Nat.le_of_ble_eq_true rfl) (fun q h => tX12_gotOf a5 (S.1 7 (nt a1)) 0 S q h) dX12_hears_41 (fun v9 S10 => ?_)
            refine ok_i2l hc dX12_hears_44 ?_
            refine ok_goto 49 hc dX12_hears_45 (by decide) ?_
            refine ok_sub [0, 1, 2, 4] rfl ?_
            exact hk4 _ _
set_option maxRecDepth 100000 in
set_option maxHeartbeats 4000000 in
theorem tX12_hears (a1 : Int32) (a2 : Int32) (S : St) (q : Int64 × St) (h : fX12_hears a1 a2 S = some q) : MT vL wM mX12_hears (fun n0 => [.ref (n0 + 0), .int a1, .int a2]) S q := by
  refine mt_of (show plainFor yX12_hears = true from by decide) (fun _ => Nat.le_of_ble_eq_true rfl) ?_
  intro Γ hc _
  rw [← h]
  show Ok Γ wM 0 [(0, rv Γ 0), (1, .int a1), (2, .int a2)] [] S _
  unfold fX12_hears
  refine ok_lconst (v := 0) hc dX12_hears_0 (by decide) ?_
  refine ok_lstore_n [(3, .long 0), (0, rv Γ 0), (1, .int a1), (2, .int a2)] hc dX12_hears_1 rfl (Nat.le_of_ble_eq_true rfl) rfl ?_
  refine ok_iconst (v := 0) hc dX12_hears_2 (by decide) ?_
  refine ok_istore [(5, .int 0), (3, .long 0), (0, rv Γ 0), (1, .int a1), (2, .int a2)] hc dX12_hears_3 (Nat.le_of_ble_eq_true rfl) rfl ?_
  refine ok_sub [2, 3, 4, 1, 0] rfl ?_
  refine tX12_hears_L5 hc _ _   FU _ _ _
def fX12_listeners_L4_st (a1 : Int32) (rec : Int32 → Int32 → St → Option (Int32 × St)) (a2 : Int32) (a3 : Int32) (S : St) : Option (Int32 × St) :=
  if (S.1 0 9) ≤ a3 then (some (a2, S)) else (if ib a3 20 then (jn (fun (v3 : Int32) => lt (a2 ||| v3) (fun (v5 : Int32) => rec v5 (a3 + 1) S)) (fun k4 => if (S.1 6 (nt a3)) = 3 then (if ib a3 20 then (if (S.1 16 (nt a3)) = 0 then (k4 0) else (if ib a3 20 then (if (S.1 13 (nt a3)) = a1 then (k4 (1 <<< (a3 &&& 31))) else (k4 0)) else none)) else none) else (k4 0))) else none)
def fX12_listeners_L4 (a1 : Int32) : Nat → Int32 → Int32 → St → Option (Int32 × St)
  | 0 => fun _ _ _ => none
  | n + 1 => fun a2 a3 S => fX12_listeners_L4_st a1 (fX12_listeners_L4 a1 n) a2 a3 S
def fX12_listeners (a1 : Int32) (S : St) : Option (Int32 × St) :=
  fX12_listeners_L4 a1 FU 0 0 S
set_option maxRecDepth 100000 in
set_option maxHeartbeats 4000000 in
theorem tX12_listeners_L4 {Γ : Cx Int32} (hc : Cok Γ wM vI mX12_listeners) (a1 : Int32) : ∀ (n : Nat) (a2 : Int32) (a3 : Int32) (S : St), Ok Γ wM 4 [(0, rv Γ 0), (1, .int a1), (2, .int a2), (3, .int a3)] [] S (fX12_listeners_L4 a1 n a2 a3 S) := by
  intro n
  induction n with
  | zero =>
    intro a2 a3 S
    exact ok_none
  | succ n ih =>
    intro a2 a3 S
    show Ok Γ wM 4 [(0, rv Γ 0), (1, .int a1), (2, .int a2), (3, .int a3)] [] S (fX12_listeners_L4_st a1 (fX12_listeners_L4 a1 n) a2 a3 S)
    unfold fX12_listeners_L4_st
    refine ok_iload_n 3 hc dX12_listeners_4 rfl rfl ?_
    refine ok_aload_n 0 hc dX12_listeners_5 rfl rfl ?_
    refine ok_geti hc FS_X12_176 rfl sM_0 dX12_listeners_6 ?_
    refine ok_icmp_ge_ite 57 hc dX12_listeners_9 (by decide) (fun h1 => ?_) (fun h1 => ?_)
    · refine ok_iload_n 2 hc dX12_listeners_57 rfl rfl ?_
      exact ok_iret hc rfl dX12_listeners_58
    · refine ok_iload_n 2 hc dX12_listeners_12 rfl rfl ?_
      refine ok_aload_n 0 hc dX12_listeners_13 rfl rfl ?_
      refine ok_getr 6 hc FS_X12_33 rfl sM_0 rfl dX12_listeners_14 ?_
      refine ok_iload_n 3 hc dX12_listeners_17 rfl rfl ?_
      refine ok_iald hc sM_6 dX12_listeners_18 (fun h2 => ?_)
      refine ok_iconst (v := 3) hc dX12_listeners_19 (by decide) ?_
      refine ok_jn (fun g => ∀ (v3 : Int32), Ok Γ wM 49 [(0, rv Γ 0), (1, .int a1), (3, .int a3)] [.int v3, .int a2] S (g v3)) ?_ (fun k4 hk4 => ?_)
      · intro v3
        refine ok_ior hc dX12_listeners_49 ?_
        refine ok_lti (fun v5 => ?_)
        refine ok_istore_n [(2, .int v5), (0, rv Γ 0), (1, .int a1), (3, .int a3)] hc dX12_listeners_50 rfl (Nat.le_of_ble_eq_true rfl) rfl ?_
        refine ok_iinc (v := 1) 3 [(3, .int (a3 + 1)), (2, .int v5), (0, rv Γ 0), (1, .int a1)] hc dX12_listeners_51 rfl (by decide) (Nat.le_of_ble_eq_true rfl) rfl ?_
        refine ok_goto 4 hc dX12_listeners_54 (by decide) ?_
        refine ok_sub [2, 3, 1, 0] rfl ?_
        exact ih _ _ _
      · refine ok_icmp_ne_ite 48 hc dX12_listeners_20 (by decide) (fun h6 => ?_) (fun h6 => ?_)
        · refine ok_iconst (v := 0) hc dX12_listeners_48 (by decide) ?_
          refine ok_sub [0, 1, 3] rfl ?_
          exact hk4 _
        · refine ok_aload_n 0 hc dX12_listeners_23 rfl rfl ?_
          refine ok_getr 16 hc FS_X12_63 rfl sM_0 rfl dX12_listeners_24 ?_
          refine ok_iload_n 3 hc dX12_listeners_27 rfl rfl ?_
          refine ok_zald hc sM_16 dX12_listeners_28 (fun h7 => ?_)
          refine ok_if_eq_ite 48 hc dX12_listeners_29 (by decide) (fun h8 => ?_) (fun h8 => ?_)
          · refine ok_iconst (v := 0) hc dX12_listeners_48 (by decide) ?_
            refine ok_sub [0, 1, 3] rfl ?_
            exact hk4 _
          · refine ok_aload_n 0 hc dX12_listeners_32 rfl rfl ?_
            refine ok_getr 13 hc FS_X12_54 rfl sM_0 rfl dX12_listeners_33 ?_
            refine ok_iload_n 3 hc dX12_listeners_36 rfl rfl ?_
            refine ok_iald hc sM_13 dX12_listeners_37 (fun h9 => ?_)
            refine ok_iload_n 1 hc dX12_listeners_38 rfl rfl ?_
            refine ok_icmp_ne_ite 48 hc dX12_listeners_39 (by decide) (fun h10 => ?_) (fun h10 => ?_)
            · refine ok_iconst (v := 0) hc dX12_listeners_48 (by decide) ?_
              refine ok_sub [0, 1, 3] rfl ?_
              exact hk4 _
            · refine ok_iconst (v := 1) hc dX12_listeners_42 (by decide) ?_
              refine ok_iload_n 3 hc dX12_listeners_43 rfl rfl ?_
              refine ok_ishl hc dX12_listeners_44 ?_
              refine ok_goto 49 hc dX12_listeners_45 (by decide) ?_
              refine ok_sub [0, 1, 3] rfl ?_
              exact hk4 _
set_option maxRecDepth 100000 in
set_option maxHeartbeats 4000000 in
theorem tX12_listeners (a1 : Int32) (S : St) (q : Int32 × St) (h : fX12_listeners a1 S = some q) : MT vI wM mX12_listeners (fun n0 => [.ref (n0 + 0), .int a1]) S q := by
  refine mt_of (show plainFor yX12_listeners = true from by decide) (fun _ => Nat.le_of_ble_eq_true rfl) ?_
  intro Γ hc _
  rw [← h]
  show Ok Γ wM 0 [(0, rv Γ 0), (1, .int a1)] [] S _
  unfold fX12_listeners
  refine ok_iconst (v := 0) hc dX12_listeners_0 (by decide) ?_
  refine ok_istore_n [(2, .int 0), (0, rv Γ 0), (1, .int a1)] hc dX12_listeners_1 rfl (Nat.le_of_ble_eq_true rfl) rfl ?_
  refine ok_iconst (v := 0) hc dX12_listeners_2 (by decide) ?_
  refine ok_istore_n [(3, .int 0), (2, .int 0), (0, rv Γ 0), (1, .int a1)] hc dX12_listeners_3 rfl (Nat.le_of_ble_eq_true rfl) rfl ?_
  refine ok_sub [2, 3, 1, 0] rfl ?_
  refine tX12_listeners_L4 hc _   FU _ _ _
def fX12_isDrowned (a1 : Int32) (a2 : Int32) (S : St) : Option (Int32 × St) :=
  bnd (fX12_isHeard a1 ((S.1 5 (nt 2)).toInt64) S) (fun v1 S2 => if v1 = 0 then (some (0, S2)) else (bnd (fX12_drownsBy a1 (1 <<< (a2 &&& 31)) S2) (fun v4 S5 => bnd (fX12_isHeard a1 v4 S5) (fun v6 S7 => if v6 = 0 then (some (1, S7)) else (some (0, S7))))))
set_option maxRecDepth 100000 in
set_option maxHeartbeats 4000000 in
theorem tX12_isDrowned (a1 : Int32) (a2 : Int32) (S : St) (q : Int32 × St) (h : fX12_isDrowned a1 a2 S = some q) : MT vI wM mX12_isDrowned (fun n0 => [.ref (n0 + 0), .int a1, .int a2]) S q := by
  refine mt_of (show plainFor yX12_isDrowned = true from by decide) (fun _ => Nat.le_of_ble_eq_true rfl) ?_
  intro Γ hc _
  rw [← h]
  show Ok Γ wM 0 [(0, rv Γ 0), (1, .int a1), (2, .int a2)] [] S _
  unfold fX12_isDrowned
  refine ok_aload_n 0 hc dX12_isDrowned_0 rfl rfl ?_
  refine ok_iload_n 1 hc dX12_isDrowned_1 rfl rfl ?_
  refine ok_aload_n 0 hc dX12_isDrowned_2 rfl rfl ?_
  refine ok_getr 5 hc FS_X12_30 rfl sM_0 rfl dX12_isDrowned_3 ?_
  refine ok_iconst (v := 2) hc dX12_isDrowned_6 (by decide) ?_
  refine ok_ialdK hc sM_5 (by decide) dX12_isDrowned_7 ?_
  refine ok_i2l hc dX12_isDrowned_8 ?_
  refine ok_callVi (As := [.int a1, .long ((S.1 5 (nt 2)).toInt64)]) (st := []) (fun n0 => [.ref (n0 + 0), .int a1, .long ((S.1 5 (nt 2)).toInt64)]) hc VS_X12_266 sM_0 rfl rfl rfl ⟨Nat.le_of_ble_eq_true rfl, Nat.le_of_ble_eq_true rfl⟩ (Nat.le_of_ble_eq_true rfl) (fun q h => tX12_isHeard a1 ((S.1 5 (nt 2)).toInt64) S q h) dX12_isDrowned_9 (fun v1 S2 => ?_)
  refine ok_if_eq_ite 35 hc dX12_isDrowned_12 (by decide) (fun h3 => ?_) (fun h3 => ?_)
  · refine ok_iconst (v := 0) hc dX12_isDrowned_35 (by decide) ?_
    exact ok_zretK hc rfl (by decide) dX12_isDrowned_36
  · refine ok_aload_n 0 hc dX12_isDrowned_15 rfl rfl ?_
    refine ok_iload_n 1 hc dX12_isDrowned_16 rfl rfl ?_
    refine ok_aload_n 0 hc dX12_isDrowned_17 rfl rfl ?_
    refine ok_iload_n 1 hc dX12_isDrowned_18 rfl rfl ?_
    refine ok_iconst (v := 1) hc dX12_isDrowned_19 (by decide) ?_
    refine ok_iload_n 2 hc dX12_isDrowned_20 rfl rfl ?_
    refine ok_ishl hc dX12_isDrowned_21 ?_
    refine ok_callVl (As := [.int a1, .int (1 <<< (a2 &&& 31))]) (st := [.int a1, rv Γ 0]) (fun n0 => [.ref (n0 + 0), .int a1, .int (1 <<< (a2 &&& 31))]) hc VS_X12_262 sM_0 rfl rfl rfl ⟨Nat.le_of_ble_eq_true rfl, Nat.le_of_ble_eq_true rfl⟩ (Nat.le_of_ble_eq_true rfl) (fun q h => tX12_drownsBy a1 (1 <<< (a2 &&& 31)) S2 q h) dX12_isDrowned_22 (fun v4 S5 => ?_)
    refine ok_callVi (As := [.int a1, .long v4]) (st := []) (fun n0 => [.ref (n0 + 0), .int a1, .long v4]) hc VS_X12_266 sM_0 rfl rfl rfl ⟨Nat.le_of_ble_eq_true rfl, Nat.le_of_ble_eq_true rfl⟩ (Nat.le_of_ble_eq_true rfl) (fun q h => tX12_isHeard a1 v4 S5 q h) dX12_isDrowned_25 (fun v6 S7 => ?_)
    refine ok_if_ne_ite 35 hc dX12_isDrowned_28 (by decide) (fun h8 => ?_) (fun h8 => ?_)
    · refine ok_iconst (v := 0) hc dX12_isDrowned_35 (by decide) ?_
      exact ok_zretK hc rfl (by decide) dX12_isDrowned_36
    · refine ok_iconst (v := 1) hc dX12_isDrowned_31 (by decide) ?_
      refine ok_goto 36 hc dX12_isDrowned_32 (by decide) ?_
      exact ok_zretK hc rfl (by decide) dX12_isDrowned_36
def fX12_hidden_L41_st (kx0 : Int32 → St → Option (Int32 × St)) (a2 : Int32) (a4 : Int32) (rec : Int32 → Int32 → St → Option (Int32 × St)) (a3 : Int32) (a5 : Int32) (S : St) : Option (Int32 × St) :=
  if (S.1 0 9) ≤ a5 then (kx0 a3 S) else (lt (if (((a2 >>> (a4 &&& 31)) &&& (a2 >>> (a5 &&& 31))) &&& 1) = 1 then 1 else 0) (fun (v2 : Int32) => jn (fun (v4 : Int32) (S5 : St) => rec v4 (a5 + 1) S5) (fun k6 => if v2 = 0 then (k6 a3 S) else (bnd (fX12_hears a4 (1 <<< (a5 &&& 31)) S) (fun v8 S9 => if ((S9.1 5 (nt 3)).toInt64) ≤ v8 then (k6 a3 S9) else (bnd (fX12_hears a5 (1 <<< (a4 &&& 31)) S9) (fun v11 S12 => if ((S12.1 5 (nt 3)).toInt64) ≤ v11 then (k6 a3 S12) else (bnd (fX12_isDrowned a4 a5 S12) (fun v14 S15 => jn (fun (v16 : Int32) (S17 : St) => lt (a3 + v16) (fun (v19 : Int32) => k6 v19 S17)) (fun k18 => if v14 = 0 then (bnd (fX12_isDrowned a5 a4 S15) (fun v21 S22 => if v21 = 0 then (k18 0 S22) else (k18 1 S22))) else (k18 1 S15)))))))))))
def fX12_hidden_L41 (kx0 : Int32 → St → Option (Int32 × St)) (a2 : Int32) (a4 : Int32) : Nat → Int32 → Int32 → St → Option (Int32 × St)
  | 0 => fun _ _ _ => none
  | n + 1 => fun a3 a5 S => fX12_hidden_L41_st kx0 a2 a4 (fX12_hidden_L41 kx0 a2 a4 n) a3 a5 S
def fX12_hidden_L26_st (a2 : Int32) (rec : Int32 → Int32 → St → Option (Int32 × St)) (a3 : Int32) (a4 : Int32) (S : St) : Option (Int32 × St) :=
  if (S.1 0 9) ≤ a4 then (some (a3, S)) else (lt (a4 + 1) (fun (v2 : Int32) => fX12_hidden_L41 (fun (v3 : Int32) (S4 : St) => rec v3 (a4 + 1) S4) a2 a4 FU a3 v2 S))
def fX12_hidden_L26 (a2 : Int32) : Nat → Int32 → Int32 → St → Option (Int32 × St)
  | 0 => fun _ _ _ => none
  | n + 1 => fun a3 a4 S => fX12_hidden_L26_st a2 (fX12_hidden_L26 a2 n) a3 a4 S
def fX12_hidden (a1 : Int32) (S : St) : Option (Int32 × St) :=
  bnd (fX12_in a1.toInt64 0 11 S) (fun v1 S2 => if v1 = 0 then (some ((-2), S2)) else (bnd (fX12_listeners a1 S2) (fun v4 S5 => fX12_hidden_L26 v4 FU 0 0 S5)))
set_option maxRecDepth 100000 in
set_option maxHeartbeats 4000000 in
theorem tX12_hidden_L41 {Γ : Cx Int32} (hc : Cok Γ wM vI mX12_hidden) (kx0 : Int32 → St → Option (Int32 × St)) (a2 : Int32) (a4 : Int32) (hx0 : ∀ (a3 : Int32) (S : St), Ok Γ wM 155 [(0, rv Γ 0), (2, .int a2), (3, .int a3), (4, .int a4)] [] S (kx0 a3 S)) : ∀ (n : Nat) (a3 : Int32) (a5 : Int32) (S : St), Ok Γ wM 41 [(0, rv Γ 0), (2, .int a2), (3, .int a3), (4, .int a4), (5, .int a5)] [] S (fX12_hidden_L41 kx0 a2 a4 n a3 a5 S) := by
  intro n
  induction n with
  | zero =>
    intro a3 a5 S
    exact ok_none
  | succ n ih =>
    intro a3 a5 S
    show Ok Γ wM 41 [(0, rv Γ 0), (2, .int a2), (3, .int a3), (4, .int a4), (5, .int a5)] [] S (fX12_hidden_L41_st kx0 a2 a4 (fX12_hidden_L41 kx0 a2 a4 n) a3 a5 S)
    unfold fX12_hidden_L41_st
    refine ok_iload 4 hc dX12_hidden_41 rfl ?_
    refine ok_aload_n 0 hc dX12_hidden_43 rfl rfl ?_
    refine ok_geti hc FS_X12_176 rfl sM_0 dX12_hidden_44 ?_
    refine ok_icmp_ge_ite 155 hc dX12_hidden_47 (by decide) (fun h1 => ?_) (fun h1 => ?_)
    · refine ok_sub [0, 1, 2, 3] rfl ?_
      exact hx0 _ _
    · refine ok_iload_n 1 hc dX12_hidden_50 rfl rfl ?_
      refine ok_iload 3 hc dX12_hidden_51 rfl ?_
      refine ok_ishr hc dX12_hidden_53 ?_
      refine ok_iload_n 1 hc dX12_hidden_54 rfl rfl ?_
      refine ok_iload 4 hc dX12_hidden_55 rfl ?_
      refine ok_ishr hc dX12_hidden_57 ?_
      refine ok_iand hc dX12_hidden_58 ?_
      refine ok_iconst (v := 1) hc dX12_hidden_59 (by decide) ?_
      refine ok_iand hc dX12_hidden_60 ?_
      refine ok_iconst (v := 1) hc dX12_hidden_61 (by decide) ?_
      refine ok_lt (fun g => ∀ (v2 : Int32), Ok Γ wM 70 [(0, rv Γ 0), (2, .int a2), (3, .int a3), (4, .int a4), (5, .int a5)] [.int v2] S (g v2)) ?_ (fun k3 hk3 => ?_)
      · intro v2
        refine ok_istore [(6, .int v2), (0, rv Γ 0), (2, .int a2), (3, .int a3), (4, .int a4), (5, .int a5)] hc dX12_hidden_70 (Nat.le_of_ble_eq_true rfl) rfl ?_
        refine ok_iload 0 hc dX12_hidden_72 rfl ?_
        refine ok_jn (fun g => ∀ (v4 : Int32) (S5 : St), Ok Γ wM 149 [(0, rv Γ 0), (2, .int a2), (3, .int v4), (4, .int a4), (5, .int a5)] [] S5 (g v4 S5)) ?_ (fun k6 hk6 => ?_)
        · intro v4 S5
          refine ok_iinc (v := 1) 4 [(5, .int (a5 + 1)), (0, rv Γ 0), (2, .int a2), (3, .int v4), (4, .int a4)] hc dX12_hidden_149 rfl (by decide) (Nat.le_of_ble_eq_true rfl) rfl ?_
          refine ok_goto 41 hc dX12_hidden_152 (by decide) ?_
          refine ok_sub [1, 2, 3, 4, 0] rfl ?_
          exact ih _ _ _
        · refine ok_if_eq_ite 149 hc dX12_hidden_74 (by decide) (fun h7 => ?_) (fun h7 => ?_)
          · refine ok_sub [1, 2, 3, 4, 5] rfl ?_
            exact hk6 _ _
          · refine ok_aload_n 1 hc dX12_hidden_77 rfl rfl ?_
            refine ok_iload 4 hc dX12_hidden_78 rfl ?_
            refine ok_iconst (v := 1) hc dX12_hidden_80 (by decide) ?_
            refine ok_iload 5 hc dX12_hidden_81 rfl ?_
            refine ok_ishl hc dX12_hidden_83 ?_
            refine ok_callVl (As := [.int a4, .int (1 <<< (a5 &&& 31))]) (st := []) (fun n0 => [.ref (n0 + 0), .int a4, .int (1 <<< (a5 &&& 31))]) hc VS_X12_323 sM_0 rfl rfl rfl ⟨Nat.le_of_ble_eq_true rfl, Nat.le_of_ble_eq_true rfl⟩ (Nat.le_of_ble_eq_true rfl) (fun q h => tX12_hears a4 (1 <<< (a5 &&& 31)) S q h) dX12_hidden_84 (fun v8 S9 => ?_)
            refine ok_aload_n 1 hc dX12_hidden_87 rfl rfl ?_
            refine ok_getr 5 hc FS_X12_30 rfl sM_0 rfl dX12_hidden_88 ?_
            refine ok_iconst (v := 3) hc dX12_hidden_91 (by decide) ?_
            refine ok_ialdK hc sM_5 (by decide) dX12_hidden_92 ?_
            refine ok_i2l hc dX12_hidden_93 ?_
            refine ok_lcmp_ge_ite 149 hc dX12_hidden_94 dX12_hidden_95 (by decide) (fun h10 => ?_) (fun h10 => ?_)
            · refine ok_sub [1, 2, 3, 4, 5] rfl ?_
              exact hk6 _ _
            · refine ok_aload_n 1 hc dX12_hidden_98 rfl rfl ?_
              refine ok_iload 5 hc dX12_hidden_99 rfl ?_
              refine ok_iconst (v := 1) hc dX12_hidden_101 (by decide) ?_
              refine ok_iload 4 hc dX12_hidden_102 rfl ?_
              refine ok_ishl hc dX12_hidden_104 ?_
              refine ok_callVl (As := [.int a5, .int (1 <<< (a4 &&& 31))]) (st := []) (fun n0 => [.ref (n0 + 0), .int a5, .int (1 <<< (a4 &&& 31))]) hc VS_X12_323 sM_0 rfl rfl rfl ⟨Nat.le_of_ble_eq_true rfl, Nat.le_of_ble_eq_true rfl⟩ (Nat.le_of_ble_eq_true rfl) (fun q h => tX12_hears a5 (1 <<< (a4 &&& 31)) S9 q h) dX12_hidden_105 (fun v11 S12 => ?_)
              refine ok_aload_n 1 hc dX12_hidden_108 rfl rfl ?_
              refine ok_getr 5 hc FS_X12_30 rfl sM_0 rfl dX12_hidden_109 ?_
              refine ok_iconst (v := 3) hc dX12_hidden_112 (by decide) ?_
              refine ok_ialdK hc sM_5 (by decide) dX12_hidden_113 ?_
              refine ok_i2l hc dX12_hidden_114 ?_
              refine ok_lcmp_ge_ite 149 hc dX12_hidden_115 dX12_hidden_116 (by decide) (fun h13 => ?_) (fun h13 => ?_)
              · refine ok_sub [1, 2, 3, 4, 5] rfl ?_
                exact hk6 _ _
              · refine ok_iload_n 3 hc dX12_hidden_119 rfl rfl ?_
                refine ok_aload_n 1 hc dX12_hidden_120 rfl rfl ?_
                refine ok_iload 4 hc dX12_hidden_121 rfl ?_
                refine ok_iload 5 hc dX12_hidden_123 rfl ?_
                refine ok_callVi (As := [.int a4, .int a5]) (st := [.int a3]) (fun n0 => [.ref (n0 + 0), .int a4, .int a5]) hc VS_X12_328 sM_0 rfl rfl rfl ⟨Nat.le_of_ble_eq_true rfl, Nat.le_of_ble_eq_true rfl⟩ (Nat.le_of_ble_eq_true rfl) (fun q h => tX12_isDrowned a4 a5 S12 q h) dX12_hidden_125 (fun v14 S15 => ?_)
                refine ok_jn (fun g => ∀ (v16 : Int32) (S17 : St), Ok Γ wM 147 [(0, rv Γ 0), (2, .int a2), (4, .int a4), (5, .int a5)] [.int v16, .int a3] S17 (g v16 S17)) ?_ (fun k18 hk18 => ?_)
                · intro v16 S17
                  refine ok_iadd hc dX12_hidden_147 ?_
                  refine ok_lti (fun v19 => ?_)
                  refine ok_istore_n [(3, .int v19), (0, rv Γ 0), (2, .int a2), (4, .int a4), (5, .int a5)] hc dX12_hidden_148 rfl (Nat.le_of_ble_eq_true rfl) rfl ?_
                  refine ok_sub [1, 2, 0, 3, 4] rfl ?_
                  exact hk6 _ _
                · refine ok_if_ne_ite 142 hc dX12_hidden_128 (by decide) (fun h20 => ?_) (fun h20 => ?_)
                  · refine ok_iconst (v := 1) hc dX12_hidden_142 (by decide) ?_
                    refine ok_goto 147 hc dX12_hidden_143 (by decide) ?_
                    refine ok_sub [1, 2, 4, 5] rfl ?_
                    exact hk18 _ _
                  · refine ok_aload_n 1 hc dX12_hidden_131 rfl rfl ?_
                    refine ok_iload 5 hc dX12_hidden_132 rfl ?_
                    refine ok_iload 4 hc dX12_hidden_134 rfl ?_
                    refine ok_callVi (As := [.int a5, .int a4]) (st := [.int a3]) (fun n0 => [.ref (n0 + 0), .int a5, .int a4]) hc VS_X12_328 sM_0 rfl rfl rfl ⟨Nat.le_of_ble_eq_true rfl, Nat.le_of_ble_eq_true rfl⟩ (Nat.le_of_ble_eq_true rfl) (fun q h => tX12_isDrowned a5 a4 S15 q h) dX12_hidden_136 (fun v21 S22 => ?_)
                    refine ok_if_eq_ite 146 hc dX12_hidden_139 (by decide) (fun h23 => ?_) (fun h23 => ?_)
                    · refine ok_iconst (v := 0) hc dX12_hidden_146 (by decide) ?_
                      refine ok_sub [1, 2, 4, 5] rfl ?_
                      exact hk18 _ _
                    · refine ok_iconst (v := 1) hc dX12_hidden_142 (by decide) ?_
                      refine ok_goto 147 hc dX12_hidden_143 (by decide) ?_
                      refine ok_sub [1, 2, 4, 5] rfl ?_
                      exact hk18 _ _
      · refine ok_icmp_ne 69 hc dX12_hidden_62 (by decide) (fun h24 => ?_) (fun h24 => ?_)
        · rw [if_neg h24]
          refine ok_iconst (v := 0) hc dX12_hidden_69 (by decide) ?_
          exact hk3 _
        · rw [if_pos h24]
          refine ok_iconst (v := 1) hc dX12_hidden_65 (by decide) ?_
          refine ok_goto 70 hc dX12_hidden_66 (by decide) ?_
          exact hk3 _
set_option maxRecDepth 100000 in
set_option maxHeartbeats 4000000 in
theorem tX12_hidden_L26 {Γ : Cx Int32} (hc : Cok Γ wM vI mX12_hidden) (a2 : Int32) : ∀ (n : Nat) (a3 : Int32) (a4 : Int32) (S : St), Ok Γ wM 26 [(0, rv Γ 0), (2, .int a2), (3, .int a3), (4, .int a4)] [] S (fX12_hidden_L26 a2 n a3 a4 S) := by
  intro n
  induction n with
  | zero =>
    intro a3 a4 S
    exact ok_none
  | succ n ih =>
    intro a3 a4 S
    show Ok Γ wM 26 [(0, rv Γ 0), (2, .int a2), (3, .int a3), (4, .int a4)] [] S (fX12_hidden_L26_st a2 (fX12_hidden_L26 a2 n) a3 a4 S)
    unfold fX12_hidden_L26_st
    refine ok_iload 3 hc dX12_hidden_26 rfl ?_
    refine ok_aload_n 0 hc dX12_hidden_28 rfl rfl ?_
    refine ok_geti hc FS_X12_176 rfl sM_0 dX12_hidden_29 ?_
    refine ok_icmp_ge_ite 161 hc dX12_hidden_32 (by decide) (fun h1 => ?_) (fun h1 => ?_)
    · refine ok_iload_n 2 hc dX12_hidden_161 rfl rfl ?_
      exact ok_iret hc rfl dX12_hidden_162
    · refine ok_iload 3 hc dX12_hidden_35 rfl ?_
      refine ok_iconst (v := 1) hc dX12_hidden_37 (by decide) ?_
      refine ok_iadd hc dX12_hidden_38 ?_
      refine ok_lti (fun v2 => ?_)
      refine ok_istore [(5, .int v2), (0, rv Γ 0), (2, .int a2), (3, .int a3), (4, .int a4)] hc dX12_hidden_39 (Nat.le_of_ble_eq_true rfl) rfl ?_
      refine ok_sub [1, 2, 3, 4, 0] rfl ?_
      refine tX12_hidden_L41 hc _ _ _  ?_ FU _ _ _
      · intro v3 S4
        refine ok_iinc (v := 1) 3 [(4, .int (a4 + 1)), (0, rv Γ 0), (2, .int a2), (3, .int v3)] hc dX12_hidden_155 rfl (by decide) (Nat.le_of_ble_eq_true rfl) rfl ?_
        refine ok_goto 26 hc dX12_hidden_158 (by decide) ?_
        refine ok_sub [1, 2, 3, 0] rfl ?_
        exact ih _ _ _
set_option maxRecDepth 100000 in
set_option maxHeartbeats 4000000 in
theorem tX12_hidden (a1 : Int32) (S : St) (q : Int32 × St) (h : fX12_hidden a1 S = some q) : MT vI wM mX12_hidden (fun n0 => [.ref (n0 + 0), .int a1]) S q := by
  refine mt_of (show plainFor yX12_hidden = true from by decide) (fun _ => Nat.le_of_ble_eq_true rfl) ?_
  intro Γ hc _
  rw [← h]
  show Ok Γ wM 0 [(0, rv Γ 0), (1, .int a1)] [] S _
  unfold fX12_hidden
  refine ok_iload_n 1 hc dX12_hidden_0 rfl rfl ?_
  refine ok_i2l hc dX12_hidden_1 ?_
  refine ok_lconst (v := 0) hc dX12_hidden_2 (by decide) ?_
  refine ok_ldc2 hc dX12_hidden_3 W_1391 ?_
  refine ok_callSi (As := [.long a1.toInt64, .long 0, .long 11]) (st := []) (fun n0 => [.long a1.toInt64, .long 0, .long 11]) hc SS_X12_152 rfl rfl rfl ⟨Nat.le_of_ble_eq_true rfl, Nat.le_of_ble_eq_true rfl⟩ (Nat.le_of_ble_eq_true rfl) (fun q h => tX12_in a1.toInt64 0 11 S q h) dX12_hidden_6 (fun v1 S2 => ?_)
  refine ok_if_ne_ite 15 hc dX12_hidden_9 (by decide) (fun h3 => ?_) (fun h3 => ?_)
  · refine ok_aload_n 0 hc dX12_hidden_15 rfl rfl ?_
    refine ok_iload_n 1 hc dX12_hidden_16 rfl rfl ?_
    refine ok_callVi (As := [.int a1]) (st := []) (fun n0 => [.ref (n0 + 0), .int a1]) hc VS_X12_319 sM_0 rfl rfl rfl ⟨Nat.le_of_ble_eq_true rfl, Nat.le_of_ble_eq_true rfl⟩ (Nat.le_of_ble_eq_true rfl) (fun q h => tX12_listeners a1 S2 q h) dX12_hidden_17 (fun v4 S5 => ?_)
    refine ok_istore_n [(2, .int v4), (0, rv Γ 0), (1, .int a1)] hc dX12_hidden_20 rfl (Nat.le_of_ble_eq_true rfl) rfl ?_
    refine ok_iconst (v := 0) hc dX12_hidden_21 (by decide) ?_
    refine ok_istore_n [(3, .int 0), (2, .int v4), (0, rv Γ 0), (1, .int a1)] hc dX12_hidden_22 rfl (Nat.le_of_ble_eq_true rfl) rfl ?_
    refine ok_iconst (v := 0) hc dX12_hidden_23 (by decide) ?_
    refine ok_istore [(4, .int 0), (3, .int 0), (2, .int v4), (0, rv Γ 0), (1, .int a1)] hc dX12_hidden_24 (Nat.le_of_ble_eq_true rfl) rfl ?_
    refine ok_sub [3, 2, 1, 0] rfl ?_
    refine tX12_hidden_L26 hc _   FU _ _ _
  · refine ok_bipush (v := (-2)) hc dX12_hidden_12 (by decide) ?_
    exact ok_iret hc rfl dX12_hidden_14
def fX12_meets_L6_st (a0 : Int32) (a1 : Int32) (a2 : Int32) (a3 : Int32) (rec : Int32 → Int32 → St → Option (Int32 × St)) (a4 : Int32) (a5 : Int32) (S : St) : Option (Int32 × St) :=
  if a0 ≤ a5 then (some (a4, S)) else (if ¬ a0 = 0 then (if ¬ a0 = 0 then (lt (if (ire ((a1 * a5) * a5) a0) = (ire ((a2 * (a5 + a3)) * (a5 + a3)) a0) then 1 else 0) (fun (v4 : Int32) => lt (a4 + v4) (fun (v6 : Int32) => rec v6 (a5 + 1) S))) else none) else none)
def fX12_meets_L6 (a0 : Int32) (a1 : Int32) (a2 : Int32) (a3 : Int32) : Nat → Int32 → Int32 → St → Option (Int32 × St)
  | 0 => fun _ _ _ => none
  | n + 1 => fun a4 a5 S => fX12_meets_L6_st a0 a1 a2 a3 (fX12_meets_L6 a0 a1 a2 a3 n) a4 a5 S
def fX12_meets (a0 : Int32) (a1 : Int32) (a2 : Int32) (a3 : Int32) (S : St) : Option (Int32 × St) :=
  fX12_meets_L6 a0 a1 a2 a3 FU 0 0 S
set_option maxRecDepth 100000 in
set_option maxHeartbeats 4000000 in
theorem tX12_meets_L6 {Γ : Cx Int32} (hc : Cok Γ wM vI mX12_meets) (a0 : Int32) (a1 : Int32) (a2 : Int32) (a3 : Int32) : ∀ (n : Nat) (a4 : Int32) (a5 : Int32) (S : St), Ok Γ wM 6 [(0, .int a0), (1, .int a1), (2, .int a2), (3, .int a3), (4, .int a4), (5, .int a5)] [] S (fX12_meets_L6 a0 a1 a2 a3 n a4 a5 S) := by
  intro n
  induction n with
  | zero =>
    intro a4 a5 S
    exact ok_none
  | succ n ih =>
    intro a4 a5 S
    show Ok Γ wM 6 [(0, .int a0), (1, .int a1), (2, .int a2), (3, .int a3), (4, .int a4), (5, .int a5)] [] S (fX12_meets_L6_st a0 a1 a2 a3 (fX12_meets_L6 a0 a1 a2 a3 n) a4 a5 S)
    unfold fX12_meets_L6_st
    refine ok_iload 5 hc dX12_meets_6 rfl ?_
    refine ok_iload_n 0 hc dX12_meets_8 rfl rfl ?_
    refine ok_icmp_ge_ite 53 hc dX12_meets_9 (by decide) (fun h1 => ?_) (fun h1 => ?_)
    · refine ok_iload 4 hc dX12_meets_53 rfl ?_
      exact ok_iret hc rfl dX12_meets_55
    · refine ok_iload 4 hc dX12_meets_12 rfl ?_
      refine ok_iload_n 1 hc dX12_meets_14 rfl rfl ?_
      refine ok_iload 5 hc dX12_meets_15 rfl ?_
      refine ok_imul hc dX12_meets_17 ?_
      refine ok_iload 5 hc dX12_meets_18 rfl ?_
      refine ok_imul hc dX12_meets_20 ?_
      refine ok_iload_n 0 hc dX12_meets_21 rfl rfl ?_
      refine ok_irem hc dX12_meets_22 (fun h2 => ?_)
      refine ok_iload_n 2 hc dX12_meets_23 rfl rfl ?_
      refine ok_iload 5 hc dX12_meets_24 rfl ?_
      refine ok_iload_n 3 hc dX12_meets_26 rfl rfl ?_
      refine ok_iadd hc dX12_meets_27 ?_
      refine ok_imul hc dX12_meets_28 ?_
      refine ok_iload 5 hc dX12_meets_29 rfl ?_
      refine ok_iload_n 3 hc dX12_meets_31 rfl rfl ?_
      refine ok_iadd hc dX12_meets_32 ?_
      refine ok_imul hc dX12_meets_33 ?_
      refine ok_iload_n 0 hc dX12_meets_34 rfl rfl ?_
      refine ok_irem hc dX12_meets_35 (fun h3 => ?_)
      refine ok_lt (fun g => ∀ (v4 : Int32), Ok Γ wM 44 [(0, .int a0), (1, .int a1), (2, .int a2), (3, .int a3), (5, .int a5)] [.int v4, .int a4] S (g v4)) ?_ (fun k5 hk5 => ?_)
      · intro v4
        refine ok_iadd hc dX12_meets_44 ?_
        refine ok_lti (fun v6 => ?_)
        refine ok_istore [(4, .int v6), (0, .int a0), (1, .int a1), (2, .int a2), (3, .int a3), (5, .int a5)] hc dX12_meets_45 (Nat.le_of_ble_eq_true rfl) rfl ?_
        refine ok_iinc (v := 1) 5 [(5, .int (a5 + 1)), (4, .int v6), (0, .int a0), (1, .int a1), (2, .int a2), (3, .int a3)] hc dX12_meets_47 rfl (by decide) (Nat.le_of_ble_eq_true rfl) rfl ?_
        refine ok_goto 6 hc dX12_meets_50 (by decide) ?_
        refine ok_sub [2, 3, 4, 5, 1, 0] rfl ?_
        exact ih _ _ _
      · refine ok_icmp_ne 43 hc dX12_meets_36 (by decide) (fun h7 => ?_) (fun h7 => ?_)
        · rw [if_neg h7]
          refine ok_iconst (v := 0) hc dX12_meets_43 (by decide) ?_
          refine ok_sub [0, 1, 2, 3, 5] rfl ?_
          exact hk5 _
        · rw [if_pos h7]
          refine ok_iconst (v := 1) hc dX12_meets_39 (by decide) ?_
          refine ok_goto 44 hc dX12_meets_40 (by decide) ?_
          refine ok_sub [0, 1, 2, 3, 5] rfl ?_
          exact hk5 _
set_option maxRecDepth 100000 in
set_option maxHeartbeats 4000000 in
theorem tX12_meets (a0 : Int32) (a1 : Int32) (a2 : Int32) (a3 : Int32) (S : St) (q : Int32 × St) (h : fX12_meets a0 a1 a2 a3 S = some q) : MT vI wM mX12_meets (fun n0 => [.int a0, .int a1, .int a2, .int a3]) S q := by
  refine mt_of (show plainFor yX12_meets = true from by decide) (fun _ => Nat.le_of_ble_eq_true rfl) ?_
  intro Γ hc _
  rw [← h]
  show Ok Γ wM 0 [(0, .int a0), (1, .int a1), (2, .int a2), (3, .int a3)] [] S _
  unfold fX12_meets
  refine ok_iconst (v := 0) hc dX12_meets_0 (by decide) ?_
  refine ok_istore [(4, .int 0), (0, .int a0), (1, .int a1), (2, .int a2), (3, .int a3)] hc dX12_meets_1 (Nat.le_of_ble_eq_true rfl) rfl ?_
  refine ok_iconst (v := 0) hc dX12_meets_3 (by decide) ?_
  refine ok_istore [(5, .int 0), (4, .int 0), (0, .int a0), (1, .int a1), (2, .int a2), (3, .int a3)] hc dX12_meets_4 (Nat.le_of_ble_eq_true rfl) rfl ?_
  refine ok_sub [2, 3, 4, 5, 1, 0] rfl ?_
  refine tX12_meets_L6 hc _ _ _ _   FU _ _ _
def fX12_hops (a1 : Int32) (a2 : Int32) (a3 : Int32) (a4 : Int32) (S : St) : Option (Int32 × St) :=
  bnd (fX12_areHops a1 a2 a3 S) (fun v1 S2 => if v1 = 0 then (some ((-2), S2)) else (bnd (fX12_in a4.toInt64 0 ((a1 - 1).toInt64) S2) (fun v4 S5 => if v4 = 0 then (some ((-2), S5)) else (bnd (fX12_meets a1 a2 a3 a4 S5) (fun v7 S8 => some (v7, S8))))))
set_option maxRecDepth 100000 in
set_option maxHeartbeats 4000000 in
theorem tX12_hops (a1 : Int32) (a2 : Int32) (a3 : Int32) (a4 : Int32) (S : St) (q : Int32 × St) (h : fX12_hops a1 a2 a3 a4 S = some q) : MT vI wM mX12_hops (fun n0 => [.ref (n0 + 0), .int a1, .int a2, .int a3, .int a4]) S q := by
  refine mt_of (show plainFor yX12_hops = true from by decide) (fun _ => Nat.le_of_ble_eq_true rfl) ?_
  intro Γ hc _
  rw [← h]
  show Ok Γ wM 0 [(0, rv Γ 0), (1, .int a1), (2, .int a2), (3, .int a3), (4, .int a4)] [] S _
  unfold fX12_hops
  refine ok_iload_n 1 hc dX12_hops_0 rfl rfl ?_
  refine ok_iload_n 2 hc dX12_hops_1 rfl rfl ?_
  refine ok_iload_n 3 hc dX12_hops_2 rfl rfl ?_
  refine ok_callSi (As := [.int a1, .int a2, .int a3]) (st := []) (fun n0 => [.int a1, .int a2, .int a3]) hc SS_X12_313 rfl rfl rfl ⟨Nat.le_of_ble_eq_true rfl, Nat.le_of_ble_eq_true rfl⟩ (Nat.le_of_ble_eq_true rfl) (fun q h => tX12_areHops a1 a2 a3 S q h) dX12_hops_3 (fun v1 S2 => ?_)
  refine ok_if_eq_ite 34 hc dX12_hops_6 (by decide) (fun h3 => ?_) (fun h3 => ?_)
  · refine ok_bipush (v := (-2)) hc dX12_hops_34 (by decide) ?_
    exact ok_iret hc rfl dX12_hops_36
  · refine ok_iload 4 hc dX12_hops_9 rfl ?_
    refine ok_i2l hc dX12_hops_11 ?_
    refine ok_lconst (v := 0) hc dX12_hops_12 (by decide) ?_
    refine ok_iload_n 1 hc dX12_hops_13 rfl rfl ?_
    refine ok_iconst (v := 1) hc dX12_hops_14 (by decide) ?_
    refine ok_isub hc dX12_hops_15 ?_
    refine ok_i2l hc dX12_hops_16 ?_
    refine ok_callSi (As := [.long a4.toInt64, .long 0, .long ((a1 - 1).toInt64)]) (st := []) (fun n0 => [.long a4.toInt64, .long 0, .long ((a1 - 1).toInt64)]) hc SS_X12_152 rfl rfl rfl ⟨Nat.le_of_ble_eq_true rfl, Nat.le_of_ble_eq_true rfl⟩ (Nat.le_of_ble_eq_true rfl) (fun q h => tX12_in a4.toInt64 0 ((a1 - 1).toInt64) S2 q h) dX12_hops_17 (fun v4 S5 => ?_)
    refine ok_if_eq_ite 34 hc dX12_hops_20 (by decide) (fun h6 => ?_) (fun h6 => ?_)
    · refine ok_bipush (v := (-2)) hc dX12_hops_34 (by decide) ?_
      exact ok_iret hc rfl dX12_hops_36
    · refine ok_iload_n 1 hc dX12_hops_23 rfl rfl ?_
      refine ok_iload_n 2 hc dX12_hops_24 rfl rfl ?_
      refine ok_iload_n 3 hc dX12_hops_25 rfl rfl ?_
      refine ok_iload 4 hc dX12_hops_26 rfl ?_
      refine ok_callSi (As := [.int a1, .int a2, .int a3, .int a4]) (st := []) (fun n0 => [.int a1, .int a2, .int a3, .int a4]) hc SS_X12_316 rfl rfl rfl ⟨Nat.le_of_ble_eq_true rfl, Nat.le_of_ble_eq_true rfl⟩ (Nat.le_of_ble_eq_true rfl) (fun q h => tX12_meets a1 a2 a3 a4 S5 q h) dX12_hops_28 (fun v7 S8 => ?_)
      refine ok_goto 36 hc dX12_hops_31 (by decide) ?_
      exact ok_iret hc rfl dX12_hops_36
def fX12_isAsked (a0 : Int32) (a1 : Int32) (a2 : Int32) (S : St) : Option (Int32 × St) :=
  bnd (fX12_in a0.toInt64 0 5 S) (fun v1 S2 => if v1 = 0 then (some (0, S2)) else (bnd (fX12_in a1.toInt64 0 11 S2) (fun v4 S5 => if v4 = 0 then (some (0, S5)) else (bnd (fX12_in a2.toInt64 0 99 S5) (fun v7 S8 => if v7 = 0 then (some (0, S8)) else (some (1, S8)))))))
set_option maxRecDepth 100000 in
set_option maxHeartbeats 4000000 in
theorem tX12_isAsked (a0 : Int32) (a1 : Int32) (a2 : Int32) (S : St) (q : Int32 × St) (h : fX12_isAsked a0 a1 a2 S = some q) : MT vI wM mX12_isAsked (fun n0 => [.int a0, .int a1, .int a2]) S q := by
  refine mt_of (show plainFor yX12_isAsked = true from by decide) (fun _ => Nat.le_of_ble_eq_true rfl) ?_
  intro Γ hc _
  rw [← h]
  show Ok Γ wM 0 [(0, .int a0), (1, .int a1), (2, .int a2)] [] S _
  unfold fX12_isAsked
  refine ok_iload_n 0 hc dX12_isAsked_0 rfl rfl ?_
  refine ok_i2l hc dX12_isAsked_1 ?_
  refine ok_lconst (v := 0) hc dX12_isAsked_2 (by decide) ?_
  refine ok_ldc2 hc dX12_isAsked_3 W_1269 ?_
  refine ok_callSi (As := [.long a0.toInt64, .long 0, .long 5]) (st := []) (fun n0 => [.long a0.toInt64, .long 0, .long 5]) hc SS_X12_152 rfl rfl rfl ⟨Nat.le_of_ble_eq_true rfl, Nat.le_of_ble_eq_true rfl⟩ (Nat.le_of_ble_eq_true rfl) (fun q h => tX12_in a0.toInt64 0 5 S q h) dX12_isAsked_6 (fun v1 S2 => ?_)
  refine ok_if_eq_ite 40 hc dX12_isAsked_9 (by decide) (fun h3 => ?_) (fun h3 => ?_)
  · refine ok_iconst (v := 0) hc dX12_isAsked_40 (by decide) ?_
    exact ok_zretK hc rfl (by decide) dX12_isAsked_41
  · refine ok_iload_n 1 hc dX12_isAsked_12 rfl rfl ?_
    refine ok_i2l hc dX12_isAsked_13 ?_
    refine ok_lconst (v := 0) hc dX12_isAsked_14 (by decide) ?_
    refine ok_ldc2 hc dX12_isAsked_15 W_1391 ?_
    refine ok_callSi (As := [.long a1.toInt64, .long 0, .long 11]) (st := []) (fun n0 => [.long a1.toInt64, .long 0, .long 11]) hc SS_X12_152 rfl rfl rfl ⟨Nat.le_of_ble_eq_true rfl, Nat.le_of_ble_eq_true rfl⟩ (Nat.le_of_ble_eq_true rfl) (fun q h => tX12_in a1.toInt64 0 11 S2 q h) dX12_isAsked_18 (fun v4 S5 => ?_)
    refine ok_if_eq_ite 40 hc dX12_isAsked_21 (by decide) (fun h6 => ?_) (fun h6 => ?_)
    · refine ok_iconst (v := 0) hc dX12_isAsked_40 (by decide) ?_
      exact ok_zretK hc rfl (by decide) dX12_isAsked_41
    · refine ok_iload_n 2 hc dX12_isAsked_24 rfl rfl ?_
      refine ok_i2l hc dX12_isAsked_25 ?_
      refine ok_lconst (v := 0) hc dX12_isAsked_26 (by decide) ?_
      refine ok_ldc2 hc dX12_isAsked_27 W_1613 ?_
      refine ok_callSi (As := [.long a2.toInt64, .long 0, .long 99]) (st := []) (fun n0 => [.long a2.toInt64, .long 0, .long 99]) hc SS_X12_152 rfl rfl rfl ⟨Nat.le_of_ble_eq_true rfl, Nat.le_of_ble_eq_true rfl⟩ (Nat.le_of_ble_eq_true rfl) (fun q h => tX12_in a2.toInt64 0 99 S5 q h) dX12_isAsked_30 (fun v7 S8 => ?_)
      refine ok_if_eq_ite 40 hc dX12_isAsked_33 (by decide) (fun h9 => ?_) (fun h9 => ?_)
      · refine ok_iconst (v := 0) hc dX12_isAsked_40 (by decide) ?_
        exact ok_zretK hc rfl (by decide) dX12_isAsked_41
      · refine ok_iconst (v := 1) hc dX12_isAsked_36 (by decide) ?_
        refine ok_goto 41 hc dX12_isAsked_37 (by decide) ?_
        exact ok_zretK hc rfl (by decide) dX12_isAsked_41
def fX12_isMast (a0 : Int32) (S : St) : Option (Int32 × St) :=
  bnd (fX12_in a0.toInt64 0 20 S) (fun v1 S2 => if b01 v1 then some (v1, S2) else none)
set_option maxRecDepth 100000 in
set_option maxHeartbeats 4000000 in
theorem tX12_isMast (a0 : Int32) (S : St) (q : Int32 × St) (h : fX12_isMast a0 S = some q) : MT vI wM mX12_isMast (fun n0 => [.int a0]) S q := by
  refine mt_of (show plainFor yX12_isMast = true from by decide) (fun _ => Nat.le_of_ble_eq_true rfl) ?_
  intro Γ hc _
  rw [← h]
  show Ok Γ wM 0 [(0, .int a0)] [] S _
  unfold fX12_isMast
  refine ok_iload_n 0 hc dX12_isMast_0 rfl rfl ?_
  refine ok_i2l hc dX12_isMast_1 ?_
  refine ok_lconst (v := 0) hc dX12_isMast_2 (by decide) ?_
  refine ok_ldc2 hc dX12_isMast_3 W_1306 ?_
  refine ok_callSi (As := [.long a0.toInt64, .long 0, .long 20]) (st := []) (fun n0 => [.long a0.toInt64, .long 0, .long 20]) hc SS_X12_152 rfl rfl rfl ⟨Nat.le_of_ble_eq_true rfl, Nat.le_of_ble_eq_true rfl⟩ (Nat.le_of_ble_eq_true rfl) (fun q h => tX12_in a0.toInt64 0 20 S q h) dX12_isMast_6 (fun v1 S2 => ?_)
  exact ok_zret hc rfl dX12_isMast_9
def fX12_land (a1 : Int32) (a2 : Int32) (S : St) : Option (Int32 × St) :=
  bnd (fX12_in a1.toInt64 1 20 S) (fun v1 S2 => if v1 = 0 then (some ((-2), S2)) else (bnd (fX12_in a2.toInt64 1 20 S2) (fun v4 S5 => if v4 = 0 then (some ((-2), S5)) else (if ((((S5.1 0 9) + (S5.1 0 43)) + (S5.1 0 46)) + (S5.1 0 51)) ≤ 0 then (lt (wi S5 0 5 a1) (fun S8 => lt (wi S8 0 6 a2) (fun S9 => some (1, S9)))) else (some ((-3), S5))))))
set_option maxRecDepth 100000 in
set_option maxHeartbeats 4000000 in
theorem tX12_land (a1 : Int32) (a2 : Int32) (S : St) (q : Int32 × St) (h : fX12_land a1 a2 S = some q) : MT vI wM mX12_land (fun n0 => [.ref (n0 + 0), .int a1, .int a2]) S q := by
  refine mt_of (show plainFor yX12_land = true from by decide) (fun _ => Nat.le_of_ble_eq_true rfl) ?_
  intro Γ hc _
  rw [← h]
  show Ok Γ wM 0 [(0, rv Γ 0), (1, .int a1), (2, .int a2)] [] S _
  unfold fX12_land
  refine ok_iload_n 1 hc dX12_land_0 rfl rfl ?_
  refine ok_i2l hc dX12_land_1 ?_
  refine ok_lconst (v := 1) hc dX12_land_2 (by decide) ?_
  refine ok_ldc2 hc dX12_land_3 W_1306 ?_
  refine ok_callSi (As := [.long a1.toInt64, .long 1, .long 20]) (st := []) (fun n0 => [.long a1.toInt64, .long 1, .long 20]) hc SS_X12_152 rfl rfl rfl ⟨Nat.le_of_ble_eq_true rfl, Nat.le_of_ble_eq_true rfl⟩ (Nat.le_of_ble_eq_true rfl) (fun q h => tX12_in a1.toInt64 1 20 S q h) dX12_land_6 (fun v1 S2 => ?_)
  refine ok_if_eq_ite 24 hc dX12_land_9 (by decide) (fun h3 => ?_) (fun h3 => ?_)
  · refine ok_bipush (v := (-2)) hc dX12_land_24 (by decide) ?_
    exact ok_iret hc rfl dX12_land_26
  · refine ok_iload_n 2 hc dX12_land_12 rfl rfl ?_
    refine ok_i2l hc dX12_land_13 ?_
    refine ok_lconst (v := 1) hc dX12_land_14 (by decide) ?_
    refine ok_ldc2 hc dX12_land_15 W_1306 ?_
    refine ok_callSi (As := [.long a2.toInt64, .long 1, .long 20]) (st := []) (fun n0 => [.long a2.toInt64, .long 1, .long 20]) hc SS_X12_152 rfl rfl rfl ⟨Nat.le_of_ble_eq_true rfl, Nat.le_of_ble_eq_true rfl⟩ (Nat.le_of_ble_eq_true rfl) (fun q h => tX12_in a2.toInt64 1 20 S2 q h) dX12_land_18 (fun v4 S5 => ?_)
    refine ok_if_ne_ite 27 hc dX12_land_21 (by decide) (fun h6 => ?_) (fun h6 => ?_)
    · refine ok_aload_n 0 hc dX12_land_27 rfl rfl ?_
      refine ok_geti hc FS_X12_176 rfl sM_0 dX12_land_28 ?_
      refine ok_aload_n 0 hc dX12_land_31 rfl rfl ?_
      refine ok_geti hc FS_X12_179 rfl sM_0 dX12_land_32 ?_
      refine ok_iadd hc dX12_land_35 ?_
      refine ok_aload_n 0 hc dX12_land_36 rfl rfl ?_
      refine ok_geti hc FS_X12_182 rfl sM_0 dX12_land_37 ?_
      refine ok_iadd hc dX12_land_40 ?_
      refine ok_aload_n 0 hc dX12_land_41 rfl rfl ?_
      refine ok_geti hc FS_X12_185 rfl sM_0 dX12_land_42 ?_
      refine ok_iadd hc dX12_land_45 ?_
      refine ok_if_le_ite 52 hc dX12_land_46 (by decide) (fun h7 => ?_) (fun h7 => ?_)
      · refine ok_aload_n 0 hc dX12_land_52 rfl rfl ?_
        refine ok_iload_n 1 hc dX12_land_53 rfl rfl ?_
        refine ok_puti hc FP_X12_23 rfl sM_0 dX12_land_54 ?_
        refine ok_ltS (fun S8 => ?_)
        refine ok_aload_n 0 hc dX12_land_57 rfl rfl ?_
        refine ok_iload_n 2 hc dX12_land_58 rfl rfl ?_
        refine ok_puti hc FP_X12_27 rfl sM_0 dX12_land_59 ?_
        refine ok_ltS (fun S9 => ?_)
        refine ok_iconst (v := 1) hc dX12_land_62 (by decide) ?_
        exact ok_iret hc rfl dX12_land_63
      · refine ok_bipush (v := (-3)) hc dX12_land_49 (by decide) ?_
        exact ok_iret hc rfl dX12_land_51
    · refine ok_bipush (v := (-2)) hc dX12_land_24 (by decide) ?_
      exact ok_iret hc rfl dX12_land_26
def fX12_listen_L45_st (kx0 : St → Option (Int32 × St)) (a2 : Int32) (a3 : Int32) (a4 : Int32) (rec : Int32 → St → Option (Int32 × St)) (a5 : Int32) (S : St) : Option (Int32 × St) :=
  if 20 ≤ a5 then (kx0 S) else (if ib a5 20 then lt (wi S 21 (nt a5) 0) (fun S2 => if ib a5 20 then lt (wi S2 22 (nt a5) 0) (fun S4 => if ib a5 20 then lt (wi S4 23 (nt a5) 0) (fun S6 => if ib a5 20 then lt (wi S6 24 (nt a5) 0) (fun S8 => rec (a5 + 1) S8) else none) else none) else none) else none)
def fX12_listen_L45 (kx0 : St → Option (Int32 × St)) (a2 : Int32) (a3 : Int32) (a4 : Int32) : Nat → Int32 → St → Option (Int32 × St)
  | 0 => fun _ _ => none
  | n + 1 => fun a5 S => fX12_listen_L45_st kx0 a2 a3 a4 (fX12_listen_L45 kx0 a2 a3 a4 n) a5 S
def fX12_listen_L114_st (kx0 : Int32 → Int32 → St → Option (Int32 × St)) (a3 : Int32) (a4 : Int32) (a6 : Int32) (a7 : Int32) (a8 : Int32) (rec : Int32 → Int32 → Int32 → St → Option (Int32 × St)) (a5 : Int32) (a9 : Int32) (a10 : Int32) (S : St) : Option (Int32 × St) :=
  if (S.1 0 9) ≤ a10 then (kx0 a5 a9 S) else (jn (fun (v2 : Int32) (v3 : Int32) (S4 : St) => rec v2 v3 (a10 + 1) S4) (fun k5 => if ((a4 >>> (a10 &&& 31)) &&& 1) = 1 then (lt ((1103515245 * a5) + 12345) (fun (v7 : Int32) => lt (ire (ush v7 16) 100) (fun (v8 : Int32) => bnd (fX12_hears a10 a6 S) (fun v9 S10 => if ((S10.1 5 (nt 3)).toInt64) ≤ v9 then (k5 v7 a9 S10) else (if ib a10 20 then (if (ire (S10.1 12 (nt a10)) 100) ≤ v8 then (k5 v7 a9 S10) else (lt (a9 ||| (1 <<< (a10 &&& 31))) (fun (v14 : Int32) => k5 v7 v14 S10))) else none))))) else (k5 a5 a9 S)))
def fX12_listen_L114 (kx0 : Int32 → Int32 → St → Option (Int32 × St)) (a3 : Int32) (a4 : Int32) (a6 : Int32) (a7 : Int32) (a8 : Int32) : Nat → Int32 → Int32 → Int32 → St → Option (Int32 × St)
  | 0 => fun _ _ _ _ => none
  | n + 1 => fun a5 a9 a10 S => fX12_listen_L114_st kx0 a3 a4 a6 a7 a8 (fX12_listen_L114 kx0 a3 a4 a6 a7 a8 n) a5 a9 a10 S
def fX12_listen_L208_st (kx0 : Int32 → St → Option (Int32 × St)) (a3 : Int32) (a4 : Int32) (a5 : Int32) (a8 : Int32) (a9 : Int32) (rec : Int32 → Int32 → St → Option (Int32 × St)) (a7 : Int32) (a10 : Int32) (S : St) : Option (Int32 × St) :=
  if (S.1 0 9) ≤ a10 then (kx0 a7 S) else (jn (fun (v2 : Int32) (S3 : St) => rec v2 (a10 + 1) S3) (fun k4 => if ((a4 >>> (a10 &&& 31)) &&& 1) = 1 then (lt (if ((a9 >>> (a10 &&& 31)) &&& 1) = 1 then 1 else 0) (fun (v6 : Int32) => lt (if v6 = 0 then 0 else 1) (fun (v8 : Int32) => lt (a7 + v8) (fun (v10 : Int32) => if ib a10 20 then (lt (if v6 = 0 then 0 else 1) (fun (v12 : Int32) => if ib a10 20 then lt (wi S 21 (nt a10) ((S.1 21 (nt a10)) + v12)) (fun S14 => if ib a10 20 then (jn (fun (v17 : Int32) (S18 : St) => if ib a10 20 then lt (wi S18 22 (nt a10) ((S14.1 22 (nt a10)) + v17)) (fun S20 => jn (fun (v22 : Int32) => if ib a10 20 then lt (wi S20 24 (nt a10) v22) (fun S24 => if ib a10 20 then (if ib a10 20 then (jn (fun (v28 : Int32) => if ib a10 20 then lt (wi S24 23 (nt a10) v28) (fun S30 => k4 v10 S30) else none) (fun k29 => if (S24.1 24 (nt a10)) ≤ (S24.1 23 (nt a10)) then (if ib a10 20 then (k29 (S24.1 23 (nt a10))) else none) else (if ib a10 20 then (k29 (S24.1 24 (nt a10))) else none))) else none) else none) else none) (fun k23 => if v6 = 0 then (if ib a10 20 then (k23 ((S20.1 24 (nt a10)) + 1)) else none) else (k23 0))) else none) (fun k19 => if v6 = 0 then (k19 0 S14) else (bnd (fX12_drownsBy a10 a9 S14) (fun v38 S39 => bnd (fX12_isHeard a10 v38 S39) (fun v40 S41 => if v40 = 0 then (k19 0 S41) else (k19 1 S41)))))) else none) else none)) else none)))) else (k4 a7 S)))
def fX12_listen_L208 (kx0 : Int32 → St → Option (Int32 × St)) (a3 : Int32) (a4 : Int32) (a5 : Int32) (a8 : Int32) (a9 : Int32) : Nat → Int32 → Int32 → St → Option (Int32 × St)
  | 0 => fun _ _ _ => none
  | n + 1 => fun a7 a10 S => fX12_listen_L208_st kx0 a3 a4 a5 a8 a9 (fX12_listen_L208 kx0 a3 a4 a5 a8 a9 n) a7 a10 S
def fX12_listen_L102_st (a3 : Int32) (a4 : Int32) (rec : Int32 → Int32 → Int32 → Int32 → St → Option (Int32 × St)) (a5 : Int32) (a6 : Int32) (a7 : Int32) (a8 : Int32) (S : St) : Option (Int32 × St) :=
  if a3 ≤ a8 then (some (a7, S)) else (fX12_listen_L114 (fun (v2 : Int32) (v3 : Int32) (S4 : St) => fX12_listen_L208 (fun (v5 : Int32) (S6 : St) => rec v2 v3 v5 (a8 + 1) S6) a3 a4 v2 a8 v3 FU a7 0 S4) a3 a4 a6 a7 a8 FU a5 0 0 S)
def fX12_listen_L102 (a3 : Int32) (a4 : Int32) : Nat → Int32 → Int32 → Int32 → Int32 → St → Option (Int32 × St)
  | 0 => fun _ _ _ _ _ => none
  | n + 1 => fun a5 a6 a7 a8 S => fX12_listen_L102_st a3 a4 (fX12_listen_L102 a3 a4 n) a5 a6 a7 a8 S
def fX12_listen (a1 : Int32) (a2 : Int32) (a3 : Int32) (S : St) : Option (Int32 × St) :=
  bnd (fX12_in a1.toInt64 0 11 S) (fun v1 S2 => if v1 = 0 then (some ((-2), S2)) else (bnd (fX12_in a3.toInt64 1 200 S2) (fun v4 S5 => if v4 = 0 then (some ((-2), S5)) else (bnd (fX12_listeners a1 S5) (fun v7 S8 => if v7 = 0 then (some ((-3), S8)) else (fX12_listen_L45 (fun (S10 : St) => fX12_listen_L102 a3 v7 FU a2 0 0 0 S10) a2 a3 v7 FU 0 S8))))))
set_option maxRecDepth 100000 in
set_option maxHeartbeats 4000000 in
theorem tX12_listen_L45 {Γ : Cx Int32} (hc : Cok Γ wM vI mX12_listen) (kx0 : St → Option (Int32 × St)) (a2 : Int32) (a3 : Int32) (a4 : Int32) (hx0 : ∀ (S : St), Ok Γ wM 90 [(0, rv Γ 0), (2, .int a2), (3, .int a3), (4, .int a4)] [] S (kx0 S)) : ∀ (n : Nat) (a5 : Int32) (S : St), Ok Γ wM 45 [(0, rv Γ 0), (2, .int a2), (3, .int a3), (4, .int a4), (5, .int a5)] [] S (fX12_listen_L45 kx0 a2 a3 a4 n a5 S) := by
  intro n
  induction n with
  | zero =>
    intro a5 S
    exact ok_none
  | succ n ih =>
    intro a5 S
    show Ok Γ wM 45 [(0, rv Γ 0), (2, .int a2), (3, .int a3), (4, .int a4), (5, .int a5)] [] S (fX12_listen_L45_st kx0 a2 a3 a4 (fX12_listen_L45 kx0 a2 a3 a4 n) a5 S)
    unfold fX12_listen_L45_st
    refine ok_iload 4 hc dX12_listen_45 rfl ?_
    refine ok_bipush (v := 20) hc dX12_listen_47 (by decide) ?_
    refine ok_icmp_ge_ite 90 hc dX12_listen_49 (by decide) (fun h1 => ?_) (fun h1 => ?_)
    · refine ok_sub [0, 1, 2, 3] rfl ?_
      exact hx0 _
    · refine ok_aload_n 0 hc dX12_listen_52 rfl rfl ?_
      refine ok_getr 21 hc FS_X12_79 rfl sM_0 rfl dX12_listen_53 ?_
      refine ok_iload 4 hc dX12_listen_56 rfl ?_
      refine ok_iconst (v := 0) hc dX12_listen_58 (by decide) ?_
      refine ok_iast hc sM_21 dX12_listen_59 (fun h3 => ?_)
      refine ok_ltS (fun S2 => ?_)
      refine ok_aload_n 0 hc dX12_listen_60 rfl rfl ?_
      refine ok_getr 22 hc FS_X12_82 rfl sM_0 rfl dX12_listen_61 ?_
      refine ok_iload 4 hc dX12_listen_64 rfl ?_
      refine ok_iconst (v := 0) hc dX12_listen_66 (by decide) ?_
      refine ok_iast hc sM_22 dX12_listen_67 (fun h5 => ?_)
      refine ok_ltS (fun S4 => ?_)
      refine ok_aload_n 0 hc dX12_listen_68 rfl rfl ?_
      refine ok_getr 23 hc FS_X12_85 rfl sM_0 rfl dX12_listen_69 ?_
      refine ok_iload 4 hc dX12_listen_72 rfl ?_
      refine ok_iconst (v := 0) hc dX12_listen_74 (by decide) ?_
      refine ok_iast hc sM_23 dX12_listen_75 (fun h7 => ?_)
      refine ok_ltS (fun S6 => ?_)
      refine ok_aload_n 0 hc dX12_listen_76 rfl rfl ?_
      refine ok_getr 24 hc FS_X12_88 rfl sM_0 rfl dX12_listen_77 ?_
      refine ok_iload 4 hc dX12_listen_80 rfl ?_
      refine ok_iconst (v := 0) hc dX12_listen_82 (by decide) ?_
      refine ok_iast hc sM_24 dX12_listen_83 (fun h9 => ?_)
      refine ok_ltS (fun S8 => ?_)
      refine ok_iinc (v := 1) 4 [(5, .int (a5 + 1)), (0, rv Γ 0), (2, .int a2), (3, .int a3), (4, .int a4)] hc dX12_listen_84 rfl (by decide) (Nat.le_of_ble_eq_true rfl) rfl ?_
      refine ok_goto 45 hc dX12_listen_87 (by decide) ?_
      refine ok_sub [1, 2, 3, 4, 0] rfl ?_
      exact ih _ _
set_option maxRecDepth 100000 in
set_option maxHeartbeats 4000000 in
theorem tX12_listen_L114 {Γ : Cx Int32} (hc : Cok Γ wM vI mX12_listen) (kx0 : Int32 → Int32 → St → Option (Int32 × St)) (a3 : Int32) (a4 : Int32) (a6 : Int32) (a7 : Int32) (a8 : Int32) (hx0 : ∀ (a5 : Int32) (a9 : Int32) (S : St), Ok Γ wM 205 [(0, rv Γ 0), (3, .int a3), (4, .int a4), (5, .int a5), (7, .int a7), (8, .int a8), (9, .int a9)] [] S (kx0 a5 a9 S)) : ∀ (n : Nat) (a5 : Int32) (a9 : Int32) (a10 : Int32) (S : St), Ok Γ wM 114 [(0, rv Γ 0), (3, .int a3), (4, .int a4), (5, .int a5), (6, .int a6), (7, .int a7), (8, .int a8), (9, .int a9), (10, .int a10)] [] S (fX12_listen_L114 kx0 a3 a4 a6 a7 a8 n a5 a9 a10 S) := by
  intro n
  induction n with
  | zero =>
    intro a5 a9 a10 S
    exact ok_none
  | succ n ih =>
    intro a5 a9 a10 S
    show Ok Γ wM 114 [(0, rv Γ 0), (3, .int a3), (4, .int a4), (5, .int a5), (6, .int a6), (7, .int a7), (8, .int a8), (9, .int a9), (10, .int a10)] [] S (fX12_listen_L114_st kx0 a3 a4 a6 a7 a8 (fX12_listen_L114 kx0 a3 a4 a6 a7 a8 n) a5 a9 a10 S)
    unfold fX12_listen_L114_st
    refine ok_iload 8 hc dX12_listen_114 rfl ?_
    refine ok_aload_n 0 hc dX12_listen_116 rfl rfl ?_
    refine ok_geti hc FS_X12_176 rfl sM_0 dX12_listen_117 ?_
    refine ok_icmp_ge_ite 205 hc dX12_listen_120 (by decide) (fun h1 => ?_) (fun h1 => ?_)
    · refine ok_sub [0, 1, 2, 3, 5, 6, 7] rfl ?_
      exact hx0 _ _ _
    · refine ok_iload 2 hc dX12_listen_123 rfl ?_
      refine ok_iload 8 hc dX12_listen_125 rfl ?_
      refine ok_ishr hc dX12_listen_127 ?_
      refine ok_iconst (v := 1) hc dX12_listen_128 (by decide) ?_
      refine ok_iand hc dX12_listen_129 ?_
      refine ok_iconst (v := 1) hc dX12_listen_130 (by decide) ?_
      refine ok_jn (fun g => ∀ (v2 : Int32) (v3 : Int32) (S4 : St), Ok Γ wM 199 [(0, rv Γ 0), (3, .int a3), (4, .int a4), (5, .int v2), (6, .int a6), (7, .int a7), (8, .int a8), (9, .int v3), (10, .int a10)] [] S4 (g v2 v3 S4)) ?_ (fun k5 hk5 => ?_)
      · intro v2 v3 S4
        refine ok_iinc (v := 1) 8 [(10, .int (a10 + 1)), (0, rv Γ 0), (3, .int a3), (4, .int a4), (5, .int v2), (6, .int a6), (7, .int a7), (8, .int a8), (9, .int v3)] hc dX12_listen_199 rfl (by decide) (Nat.le_of_ble_eq_true rfl) rfl ?_
        refine ok_goto 114 hc dX12_listen_202 (by decide) ?_
        refine ok_sub [1, 2, 3, 4, 5, 6, 7, 8, 0] rfl ?_
        exact ih _ _ _ _
      · refine ok_icmp_ne_ite 199 hc dX12_listen_131 (by decide) (fun h6 => ?_) (fun h6 => ?_)
        · exact hk5 _ _ _
        · refine ok_ldcw hc dX12_listen_134 W_1527 ?_
          refine ok_iload 3 hc dX12_listen_137 rfl ?_
          refine ok_imul hc dX12_listen_139 ?_
          refine ok_sipush (v := 12345) hc dX12_listen_140 (by decide) ?_
          refine ok_iadd hc dX12_listen_143 ?_
          refine ok_lti (fun v7 => ?_)
          refine ok_istore [(5, .int v7), (0, rv Γ 0), (3, .int a3), (4, .int a4), (6, .int a6), (7, .int a7), (8, .int a8), (9, .int a9), (10, .int a10)] hc dX12_listen_144 (Nat.le_of_ble_eq_true rfl) rfl ?_
          refine ok_iload 0 hc dX12_listen_146 rfl ?_
          refine ok_bipush (v := 16) hc dX12_listen_148 (by decide) ?_
          refine ok_iushr hc dX12_listen_150 ?_
          refine ok_bipush (v := 100) hc dX12_listen_151 (by decide) ?_
          refine ok_iremK hc dX12_listen_153 (by decide) ?_
          refine ok_lti (fun v8 => ?_)
          refine ok_istore [(11, .int v8), (5, .int v7), (0, rv Γ 0), (3, .int a3), (4, .int a4), (6, .int a6), (7, .int a7), (8, .int a8), (9, .int a9), (10, .int a10)] hc dX12_listen_154 (Nat.le_of_ble_eq_true rfl) rfl ?_
          refine ok_aload_n 2 hc dX12_listen_156 rfl rfl ?_
          refine ok_iload 9 hc dX12_listen_157 rfl ?_
          refine ok_iload 5 hc dX12_listen_159 rfl ?_
          refine ok_callVl (As := [.int a10, .int a6]) (st := []) (fun n0 => [.ref (n0 + 0), .int a10, .int a6]) hc VS_X12_323 sM_0 rfl rfl rfl ⟨Nat.le_of_ble_eq_true rfl, Nat.le_of_ble_eq_true rfl⟩ (Nat.le_of_ble_eq_true rfl) (fun q h => tX12_hears a10 a6 S q h) dX12_listen_161 (fun v9 S10 => ?_)
          refine ok_aload_n 2 hc dX12_listen_164 rfl rfl ?_
          refine ok_getr 5 hc FS_X12_30 rfl sM_0 rfl dX12_listen_165 ?_
          refine ok_iconst (v := 3) hc dX12_listen_168 (by decide) ?_
          refine ok_ialdK hc sM_5 (by decide) dX12_listen_169 ?_
          refine ok_i2l hc dX12_listen_170 ?_
          refine ok_lcmp_ge_ite 199 hc dX12_listen_171 dX12_listen_172 (by decide) (fun h11 => ?_) (fun h11 => ?_)
          · refine ok_sub [2, 3, 4, 1, 5, 6, 7, 8, 9] rfl ?_
            exact hk5 _ _ _
          · refine ok_iload 0 hc dX12_listen_175 rfl ?_
            refine ok_aload_n 2 hc dX12_listen_177 rfl rfl ?_
            refine ok_getr 12 hc FS_X12_51 rfl sM_0 rfl dX12_listen_178 ?_
            refine ok_iload 9 hc dX12_listen_181 rfl ?_
            refine ok_iald hc sM_12 dX12_listen_183 (fun h12 => ?_)
            refine ok_bipush (v := 100) hc dX12_listen_184 (by decide) ?_
            refine ok_iremK hc dX12_listen_186 (by decide) ?_
            refine ok_icmp_ge_ite 199 hc dX12_listen_187 (by decide) (fun h13 => ?_) (fun h13 => ?_)
            · refine ok_sub [2, 3, 4, 1, 5, 6, 7, 8, 9] rfl ?_
              exact hk5 _ _ _
            · refine ok_iload 8 hc dX12_listen_190 rfl ?_
              refine ok_iconst (v := 1) hc dX12_listen_192 (by decide) ?_
              refine ok_iload 9 hc dX12_listen_193 rfl ?_
              refine ok_ishl hc dX12_listen_195 ?_
              refine ok_ior hc dX12_listen_196 ?_
              refine ok_lti (fun v14 => ?_)
              refine ok_istore [(9, .int v14), (11, .int v8), (5, .int v7), (0, rv Γ 0), (3, .int a3), (4, .int a4), (6, .int a6), (7, .int a7), (8, .int a8), (10, .int a10)] hc dX12_listen_197 (Nat.le_of_ble_eq_true rfl) rfl ?_
              refine ok_sub [3, 4, 5, 2, 6, 7, 8, 0, 9] rfl ?_
              exact hk5 _ _ _
set_option maxRecDepth 100000 in
set_option maxHeartbeats 4000000 in
theorem tX12_listen_L208 {Γ : Cx Int32} (hc : Cok Γ wM vI mX12_listen) (kx0 : Int32 → St → Option (Int32 × St)) (a3 : Int32) (a4 : Int32) (a5 : Int32) (a8 : Int32) (a9 : Int32) (hx0 : ∀ (a7 : Int32) (S : St), Ok Γ wM 390 [(0, rv Γ 0), (3, .int a3), (4, .int a4), (5, .int a5), (7, .int a7), (8, .int a8), (9, .int a9)] [] S (kx0 a7 S)) : ∀ (n : Nat) (a7 : Int32) (a10 : Int32) (S : St), Ok Γ wM 208 [(0, rv Γ 0), (3, .int a3), (4, .int a4), (5, .int a5), (7, .int a7), (8, .int a8), (9, .int a9), (10, .int a10)] [] S (fX12_listen_L208 kx0 a3 a4 a5 a8 a9 n a7 a10 S) := by
  intro n
  induction n with
  | zero =>
    intro a7 a10 S
    exact ok_none
  | succ n ih =>
    intro a7 a10 S
    show Ok Γ wM 208 [(0, rv Γ 0), (3, .int a3), (4, .int a4), (5, .int a5), (7, .int a7), (8, .int a8), (9, .int a9), (10, .int a10)] [] S (fX12_listen_L208_st kx0 a3 a4 a5 a8 a9 (fX12_listen_L208 kx0 a3 a4 a5 a8 a9 n) a7 a10 S)
    unfold fX12_listen_L208_st
    refine ok_iload 7 hc dX12_listen_208 rfl ?_
    refine ok_aload_n 0 hc dX12_listen_210 rfl rfl ?_
    refine ok_geti hc FS_X12_176 rfl sM_0 dX12_listen_211 ?_
    refine ok_icmp_ge_ite 390 hc dX12_listen_214 (by decide) (fun h1 => ?_) (fun h1 => ?_)
    · refine ok_sub [0, 1, 2, 3, 4, 5, 6] rfl ?_
      exact hx0 _ _
    · refine ok_iload 2 hc dX12_listen_217 rfl ?_
      refine ok_iload 7 hc dX12_listen_219 rfl ?_
      refine ok_ishr hc dX12_listen_221 ?_
      refine ok_iconst (v := 1) hc dX12_listen_222 (by decide) ?_
      refine ok_iand hc dX12_listen_223 ?_
      refine ok_iconst (v := 1) hc dX12_listen_224 (by decide) ?_
      refine ok_jn (fun g => ∀ (v2 : Int32) (S3 : St), Ok Γ wM 384 [(0, rv Γ 0), (3, .int a3), (4, .int a4), (5, .int a5), (7, .int v2), (8, .int a8), (9, .int a9), (10, .int a10)] [] S3 (g v2 S3)) ?_ (fun k4 hk4 => ?_)
      · intro v2 S3
        refine ok_iinc (v := 1) 7 [(10, .int (a10 + 1)), (0, rv Γ 0), (3, .int a3), (4, .int a4), (5, .int a5), (7, .int v2), (8, .int a8), (9, .int a9)] hc dX12_listen_384 rfl (by decide) (Nat.le_of_ble_eq_true rfl) rfl ?_
        refine ok_goto 208 hc dX12_listen_387 (by decide) ?_
        refine ok_sub [1, 2, 3, 4, 5, 6, 7, 0] rfl ?_
        exact ih _ _ _
      · refine ok_icmp_ne_ite 384 hc dX12_listen_225 (by decide) (fun h5 => ?_) (fun h5 => ?_)
        · exact hk4 _ _
        · refine ok_iload 6 hc dX12_listen_228 rfl ?_
          refine ok_iload 7 hc dX12_listen_230 rfl ?_
          refine ok_ishr hc dX12_listen_232 ?_
          refine ok_iconst (v := 1) hc dX12_listen_233 (by decide) ?_
          refine ok_iand hc dX12_listen_234 ?_
          refine ok_iconst (v := 1) hc dX12_listen_235 (by decide) ?_
          refine ok_lt (fun g => ∀ (v6 : Int32), Ok Γ wM 244 [(0, rv Γ 0), (3, .int a3), (4, .int a4), (5, .int a5), (7, .int a7), (8, .int a8), (9, .int a9), (10, .int a10)] [.int v6] S (g v6)) ?_ (fun k7 hk7 => ?_)
          · intro v6
            refine ok_istore [(11, .int v6), (0, rv Γ 0), (3, .int a3), (4, .int a4), (5, .int a5), (7, .int a7), (8, .int a8), (9, .int a9), (10, .int a10)] hc dX12_listen_244 (Nat.le_of_ble_eq_true rfl) rfl ?_
            refine ok_iload 5 hc dX12_listen_246 rfl ?_
            refine ok_iload 0 hc dX12_listen_248 rfl ?_
            refine ok_lt (fun g => ∀ (v8 : Int32), Ok Γ wM 258 [(0, rv Γ 0), (3, .int a3), (4, .int a4), (5, .int a5), (8, .int a8), (9, .int a9), (10, .int a10), (11, .int v6)] [.int v8, .int a7] S (g v8)) ?_ (fun k9 hk9 => ?_)
            · intro v8
              refine ok_iadd hc dX12_listen_258 ?_
              refine ok_lti (fun v10 => ?_)
              refine ok_istore [(7, .int v10), (0, rv Γ 0), (3, .int a3), (4, .int a4), (5, .int a5), (8, .int a8), (9, .int a9), (10, .int a10), (11, .int v6)] hc dX12_listen_259 (Nat.le_of_ble_eq_true rfl) rfl ?_
              refine ok_aload_n 1 hc dX12_listen_261 rfl rfl ?_
              refine ok_getr 21 hc FS_X12_79 rfl sM_0 rfl dX12_listen_262 ?_
              refine ok_iload 7 hc dX12_listen_265 rfl ?_
              refine ok_dup2 hc dX12_listen_267 rfl rfl ?_
              refine ok_iald hc sM_21 dX12_listen_268 (fun h11 => ?_)
              refine ok_iload 8 hc dX12_listen_269 rfl ?_
              refine ok_lt (fun g => ∀ (v12 : Int32), Ok Γ wM 279 [(0, rv Γ 0), (3, .int a3), (4, .int a4), (5, .int a5), (7, .int v10), (8, .int a8), (9, .int a9), (10, .int a10), (11, .int v6)] [.int v12, .int (S.1 21 (nt a10)), .int a10, rv Γ 21] S (g v12)) ?_ (fun k13 hk13 => ?_)
              · intro v12
                refine ok_iadd hc dX12_listen_279 ?_
                refine ok_iast hc sM_21 dX12_listen_280 (fun h15 => ?_)
                refine ok_ltS (fun S14 => ?_)
                refine ok_aload_n 0 hc dX12_listen_281 rfl rfl ?_
                refine ok_getr 22 hc FS_X12_82 rfl sM_0 rfl dX12_listen_282 ?_
                refine ok_iload 7 hc dX12_listen_285 rfl ?_
                refine ok_dup2 hc dX12_listen_287 rfl rfl ?_
                refine ok_iald hc sM_22 dX12_listen_288 (fun h16 => ?_)
                refine ok_iload 8 hc dX12_listen_289 rfl ?_
                refine ok_jn (fun g => ∀ (v17 : Int32) (S18 : St), Ok Γ wM 316 [(0, rv Γ 0), (3, .int a3), (4, .int a4), (5, .int a5), (7, .int v10), (8, .int a8), (9, .int a9), (10, .int a10), (11, .int v6)] [.int v17, .int (S14.1 22 (nt a10)), .int a10, rv Γ 22] S18 (g v17 S18)) ?_ (fun k19 hk19 => ?_)
                · intro v17 S18
                  refine ok_iadd hc dX12_listen_316 ?_
                  refine ok_iast hc sM_22 dX12_listen_317 (fun h21 => ?_)
                  refine ok_ltS (fun S20 => ?_)
                  refine ok_aload_n 0 hc dX12_listen_318 rfl rfl ?_
                  refine ok_getr 24 hc FS_X12_88 rfl sM_0 rfl dX12_listen_319 ?_
                  refine ok_iload 7 hc dX12_listen_322 rfl ?_
                  refine ok_iload 8 hc dX12_listen_324 rfl ?_
                  refine ok_jn (fun g => ∀ (v22 : Int32), Ok Γ wM 342 [(0, rv Γ 0), (3, .int a3), (4, .int a4), (5, .int a5), (7, .int v10), (8, .int a8), (9, .int a9), (10, .int a10)] [.int v22, .int a10, rv Γ 24] S20 (g v22)) ?_ (fun k23 hk23 => ?_)
                  · intro v22
                    refine ok_iast hc sM_24 dX12_listen_342 (fun h25 => ?_)
                    refine ok_ltS (fun S24 => ?_)
                    refine ok_aload_n 0 hc dX12_listen_343 rfl rfl ?_
                    refine ok_getr 23 hc FS_X12_85 rfl sM_0 rfl dX12_listen_344 ?_
                    refine ok_iload 7 hc dX12_listen_347 rfl ?_
                    refine ok_aload_n 0 hc dX12_listen_349 rfl rfl ?_
                    refine ok_getr 24 hc FS_X12_88 rfl sM_0 rfl dX12_listen_350 ?_
                    refine ok_iload 7 hc dX12_listen_353 rfl ?_
                    refine ok_iald hc sM_24 dX12_listen_355 (fun h26 => ?_)
                    refine ok_aload_n 0 hc dX12_listen_356 rfl rfl ?_
                    refine ok_getr 23 hc FS_X12_85 rfl sM_0 rfl dX12_listen_357 ?_
                    refine ok_iload 7 hc dX12_listen_360 rfl ?_
                    refine ok_iald hc sM_23 dX12_listen_362 (fun h27 => ?_)
                    refine ok_jn (fun g => ∀ (v28 : Int32), Ok Γ wM 383 [(0, rv Γ 0), (3, .int a3), (4, .int a4), (5, .int a5), (7, .int v10), (8, .int a8), (9, .int a9), (10, .int a10)] [.int v28, .int a10, rv Γ 23] S24 (g v28)) ?_ (fun k29 hk29 => ?_)
                    · intro v28
                      refine ok_iast hc sM_23 dX12_listen_383 (fun h31 => ?_)
                      refine ok_ltS (fun S30 => ?_)
                      exact hk4 _ _
                    · refine ok_icmp_le_ite 376 hc dX12_listen_363 (by decide) (fun h32 => ?_) (fun h32 => ?_)
                      · refine ok_aload_n 0 hc dX12_listen_376 rfl rfl ?_
                        refine ok_getr 23 hc FS_X12_85 rfl sM_0 rfl dX12_listen_377 ?_
                        refine ok_iload 7 hc dX12_listen_380 rfl ?_
                        refine ok_iald hc sM_23 dX12_listen_382 (fun h33 => ?_)
                        exact hk29 _
                      · refine ok_aload_n 0 hc dX12_listen_366 rfl rfl ?_
                        refine ok_getr 24 hc FS_X12_88 rfl sM_0 rfl dX12_listen_367 ?_
                        refine ok_iload 7 hc dX12_listen_370 rfl ?_
                        refine ok_iald hc sM_24 dX12_listen_372 (fun h34 => ?_)
                        refine ok_goto 383 hc dX12_listen_373 (by decide) ?_
                        exact hk29 _
                  · refine ok_if_eq_ite 333 hc dX12_listen_326 (by decide) (fun h35 => ?_) (fun h35 => ?_)
                    · refine ok_aload_n 0 hc dX12_listen_333 rfl rfl ?_
                      refine ok_getr 24 hc FS_X12_88 rfl sM_0 rfl dX12_listen_334 ?_
                      refine ok_iload 7 hc dX12_listen_337 rfl ?_
                      refine ok_iald hc sM_24 dX12_listen_339 (fun h36 => ?_)
                      refine ok_iconst (v := 1) hc dX12_listen_340 (by decide) ?_
                      refine ok_iadd hc dX12_listen_341 ?_
                      refine ok_sub [0, 1, 2, 3, 4, 5, 6, 7] rfl ?_
                      exact hk23 _
                    · refine ok_iconst (v := 0) hc dX12_listen_329 (by decide) ?_
                      refine ok_goto 342 hc dX12_listen_330 (by decide) ?_
                      refine ok_sub [0, 1, 2, 3, 4, 5, 6, 7] rfl ?_
                      exact hk23 _
                · refine ok_if_eq_ite 315 hc dX12_listen_291 (by decide) (fun h37 => ?_) (fun h37 => ?_)
                  · refine ok_iconst (v := 0) hc dX12_listen_315 (by decide) ?_
                    exact hk19 _ _
                  · refine ok_aload_n 0 hc dX12_listen_294 rfl rfl ?_
                    refine ok_iload 7 hc dX12_listen_295 rfl ?_
                    refine ok_aload_n 0 hc dX12_listen_297 rfl rfl ?_
                    refine ok_iload 7 hc dX12_listen_298 rfl ?_
                    refine ok_iload 6 hc dX12_listen_300 rfl ?_
                    refine ok_callVl (As := [.int a10, .int a9]) (st := [.int a10, rv Γ 0, .int (S14.1 22 (nt a10)), .int a10, rv Γ 22]) (fun n0 => [.ref (n0 + 0), .int a10, .int a9]) hc VS_X12_262 sM_0 rfl rfl rfl ⟨Nat.le_of_ble_eq_true rfl, Nat.le_of_ble_eq_true rfl⟩ (Nat.le_of_ble_eq_true rfl) (fun q h => tX12_drownsBy a10 a9 S14 q h) dX12_listen_302 (fun v38 S39 => ?_)
                    refine ok_callVi (As := [.int a10, .long v38]) (st := [.int (S14.1 22 (nt a10)), .int a10, rv Γ 22]) (fun n0 => [.ref (n0 + 0), .int a10, .long v38]) hc VS_X12_266 sM_0 rfl rfl rfl ⟨Nat.le_of_ble_eq_true rfl, Nat.le_of_ble_eq_true rfl⟩ (Nat.le_of_ble_eq_true rfl) (fun q h => tX12_isHeard a10 v38 S39 q h) dX12_listen_305 (fun v40 S41 => ?_)
                    refine ok_if_eq_ite 315 hc dX12_listen_308 (by decide) (fun h42 => ?_) (fun h42 => ?_)
                    · refine ok_iconst (v := 0) hc dX12_listen_315 (by decide) ?_
                      exact hk19 _ _
                    · refine ok_iconst (v := 1) hc dX12_listen_311 (by decide) ?_
                      refine ok_goto 316 hc dX12_listen_312 (by decide) ?_
                      exact hk19 _ _
              · refine ok_if_eq 278 hc dX12_listen_271 (by decide) (fun h43 => ?_) (fun h43 => ?_)
                · rw [if_pos h43]
                  refine ok_iconst (v := 0) hc dX12_listen_278 (by decide) ?_
                  refine ok_sub [1, 2, 3, 4, 0, 5, 6, 7, 8] rfl ?_
                  exact hk13 _
                · rw [if_neg h43]
                  refine ok_iconst (v := 1) hc dX12_listen_274 (by decide) ?_
                  refine ok_goto 279 hc dX12_listen_275 (by decide) ?_
                  refine ok_sub [1, 2, 3, 4, 0, 5, 6, 7, 8] rfl ?_
                  exact hk13 _
            · refine ok_if_eq 257 hc dX12_listen_250 (by decide) (fun h44 => ?_) (fun h44 => ?_)
              · rw [if_pos h44]
                refine ok_iconst (v := 0) hc dX12_listen_257 (by decide) ?_
                refine ok_sub [1, 2, 3, 4, 6, 7, 8, 0] rfl ?_
                exact hk9 _
              · rw [if_neg h44]
                refine ok_iconst (v := 1) hc dX12_listen_253 (by decide) ?_
                refine ok_goto 258 hc dX12_listen_254 (by decide) ?_
                refine ok_sub [1, 2, 3, 4, 6, 7, 8, 0] rfl ?_
                exact hk9 _
          · refine ok_icmp_ne 243 hc dX12_listen_236 (by decide) (fun h45 => ?_) (fun h45 => ?_)
            · rw [if_neg h45]
              refine ok_iconst (v := 0) hc dX12_listen_243 (by decide) ?_
              exact hk7 _
            · rw [if_pos h45]
              refine ok_iconst (v := 1) hc dX12_listen_239 (by decide) ?_
              refine ok_goto 244 hc dX12_listen_240 (by decide) ?_
              exact hk7 _
set_option maxRecDepth 100000 in
set_option maxHeartbeats 4000000 in
theorem tX12_listen_L102 {Γ : Cx Int32} (hc : Cok Γ wM vI mX12_listen) (a3 : Int32) (a4 : Int32) : ∀ (n : Nat) (a5 : Int32) (a6 : Int32) (a7 : Int32) (a8 : Int32) (S : St), Ok Γ wM 102 [(0, rv Γ 0), (3, .int a3), (4, .int a4), (5, .int a5), (6, .int a6), (7, .int a7), (8, .int a8)] [] S (fX12_listen_L102 a3 a4 n a5 a6 a7 a8 S) := by
  intro n
  induction n with
  | zero =>
    intro a5 a6 a7 a8 S
    exact ok_none
  | succ n ih =>
    intro a5 a6 a7 a8 S
    show Ok Γ wM 102 [(0, rv Γ 0), (3, .int a3), (4, .int a4), (5, .int a5), (6, .int a6), (7, .int a7), (8, .int a8)] [] S (fX12_listen_L102_st a3 a4 (fX12_listen_L102 a3 a4 n) a5 a6 a7 a8 S)
    unfold fX12_listen_L102_st
    refine ok_iload 6 hc dX12_listen_102 rfl ?_
    refine ok_iload_n 1 hc dX12_listen_104 rfl rfl ?_
    refine ok_icmp_ge_ite 400 hc dX12_listen_105 (by decide) (fun h1 => ?_) (fun h1 => ?_)
    · refine ok_iload 5 hc dX12_listen_400 rfl ?_
      exact ok_iret hc rfl dX12_listen_402
    · refine ok_iconst (v := 0) hc dX12_listen_108 (by decide) ?_
      refine ok_istore [(9, .int 0), (0, rv Γ 0), (3, .int a3), (4, .int a4), (5, .int a5), (6, .int a6), (7, .int a7), (8, .int a8)] hc dX12_listen_109 (Nat.le_of_ble_eq_true rfl) rfl ?_
      refine ok_iconst (v := 0) hc dX12_listen_111 (by decide) ?_
      refine ok_istore [(10, .int 0), (9, .int 0), (0, rv Γ 0), (3, .int a3), (4, .int a4), (5, .int a5), (6, .int a6), (7, .int a7), (8, .int a8)] hc dX12_listen_112 (Nat.le_of_ble_eq_true rfl) rfl ?_
      refine ok_sub [2, 3, 4, 5, 6, 7, 8, 1, 0] rfl ?_
      refine tX12_listen_L114 hc _ _ _ _ _ _  ?_ FU _ _ _ _
      · intro v2 v3 S4
        refine ok_iconst (v := 0) hc dX12_listen_205 (by decide) ?_
        refine ok_istore [(10, .int 0), (0, rv Γ 0), (3, .int a3), (4, .int a4), (5, .int v2), (7, .int a7), (8, .int a8), (9, .int v3)] hc dX12_listen_206 (Nat.le_of_ble_eq_true rfl) rfl ?_
        refine ok_sub [1, 2, 3, 4, 5, 6, 7, 0] rfl ?_
        refine tX12_listen_L208 hc _ _ _ _ _ _  ?_ FU _ _ _
        · intro v5 S6
          refine ok_iload 6 hc dX12_listen_390 rfl ?_
          refine ok_istore [(6, .int v3), (0, rv Γ 0), (3, .int a3), (4, .int a4), (5, .int v2), (7, .int v5), (8, .int a8), (9, .int v3)] hc dX12_listen_392 (Nat.le_of_ble_eq_true rfl) rfl ?_
          refine ok_iinc (v := 1) 6 [(8, .int (a8 + 1)), (6, .int v3), (0, rv Γ 0), (3, .int a3), (4, .int a4), (5, .int v2), (7, .int v5), (9, .int v3)] hc dX12_listen_394 rfl (by decide) (Nat.le_of_ble_eq_true rfl) rfl ?_
          refine ok_goto 102 hc dX12_listen_397 (by decide) ?_
          refine ok_sub [2, 3, 4, 5, 1, 6, 0] rfl ?_
          exact ih _ _ _ _ _
set_option maxRecDepth 100000 in
set_option maxHeartbeats 4000000 in
theorem tX12_listen (a1 : Int32) (a2 : Int32) (a3 : Int32) (S : St) (q : Int32 × St) (h : fX12_listen a1 a2 a3 S = some q) : MT vI wM mX12_listen (fun n0 => [.ref (n0 + 0), .int a1, .int a2, .int a3]) S q := by
  refine mt_of (show plainFor yX12_listen = true from by decide) (fun _ => Nat.le_of_ble_eq_true rfl) ?_
  intro Γ hc _
  rw [← h]
  show Ok Γ wM 0 [(0, rv Γ 0), (1, .int a1), (2, .int a2), (3, .int a3)] [] S _
  unfold fX12_listen
  refine ok_iload_n 1 hc dX12_listen_0 rfl rfl ?_
  refine ok_i2l hc dX12_listen_1 ?_
  refine ok_lconst (v := 0) hc dX12_listen_2 (by decide) ?_
  refine ok_ldc2 hc dX12_listen_3 W_1391 ?_
  refine ok_callSi (As := [.long a1.toInt64, .long 0, .long 11]) (st := []) (fun n0 => [.long a1.toInt64, .long 0, .long 11]) hc SS_X12_152 rfl rfl rfl ⟨Nat.le_of_ble_eq_true rfl, Nat.le_of_ble_eq_true rfl⟩ (Nat.le_of_ble_eq_true rfl) (fun q h => tX12_in a1.toInt64 0 11 S q h) dX12_listen_6 (fun v1 S2 => ?_)
  refine ok_if_eq_ite 24 hc dX12_listen_9 (by decide) (fun h3 => ?_) (fun h3 => ?_)
  · refine ok_bipush (v := (-2)) hc dX12_listen_24 (by decide) ?_
    exact ok_iret hc rfl dX12_listen_26
  · refine ok_iload_n 3 hc dX12_listen_12 rfl rfl ?_
    refine ok_i2l hc dX12_listen_13 ?_
    refine ok_lconst (v := 1) hc dX12_listen_14 (by decide) ?_
    refine ok_ldc2 hc dX12_listen_15 W_1332 ?_
    refine ok_callSi (As := [.long a3.toInt64, .long 1, .long 200]) (st := []) (fun n0 => [.long a3.toInt64, .long 1, .long 200]) hc SS_X12_152 rfl rfl rfl ⟨Nat.le_of_ble_eq_true rfl, Nat.le_of_ble_eq_true rfl⟩ (Nat.le_of_ble_eq_true rfl) (fun q h => tX12_in a3.toInt64 1 200 S2 q h) dX12_listen_18 (fun v4 S5 => ?_)
    refine ok_if_ne_ite 27 hc dX12_listen_21 (by decide) (fun h6 => ?_) (fun h6 => ?_)
    · refine ok_aload_n 0 hc dX12_listen_27 rfl rfl ?_
      refine ok_iload_n 1 hc dX12_listen_28 rfl rfl ?_
      refine ok_callVi (As := [.int a1]) (st := []) (fun n0 => [.ref (n0 + 0), .int a1]) hc VS_X12_319 sM_0 rfl rfl rfl ⟨Nat.le_of_ble_eq_true rfl, Nat.le_of_ble_eq_true rfl⟩ (Nat.le_of_ble_eq_true rfl) (fun q h => tX12_listeners a1 S5 q h) dX12_listen_29 (fun v7 S8 => ?_)
      refine ok_istore [(4, .int v7), (0, rv Γ 0), (1, .int a1), (2, .int a2), (3, .int a3)] hc dX12_listen_32 (Nat.le_of_ble_eq_true rfl) rfl ?_
      refine ok_iload 0 hc dX12_listen_34 rfl ?_
      refine ok_if_ne_ite 42 hc dX12_listen_36 (by decide) (fun h9 => ?_) (fun h9 => ?_)
      · refine ok_iconst (v := 0) hc dX12_listen_42 (by decide) ?_
        refine ok_istore [(5, .int 0), (4, .int v7), (0, rv Γ 0), (1, .int a1), (2, .int a2), (3, .int a3)] hc dX12_listen_43 (Nat.le_of_ble_eq_true rfl) rfl ?_
        refine ok_sub [2, 4, 5, 1, 0] rfl ?_
        refine tX12_listen_L45 hc _ _ _ _  ?_ FU _ _
        · intro S10
          refine ok_iload_n 1 hc dX12_listen_90 rfl rfl ?_
          refine ok_istore [(5, .int a2), (0, rv Γ 0), (2, .int a2), (3, .int a3), (4, .int v7)] hc dX12_listen_91 (Nat.le_of_ble_eq_true rfl) rfl ?_
          refine ok_iconst (v := 0) hc dX12_listen_93 (by decide) ?_
          refine ok_istore [(6, .int 0), (5, .int a2), (0, rv Γ 0), (2, .int a2), (3, .int a3), (4, .int v7)] hc dX12_listen_94 (Nat.le_of_ble_eq_true rfl) rfl ?_
          refine ok_iconst (v := 0) hc dX12_listen_96 (by decide) ?_
          refine ok_istore [(7, .int 0), (6, .int 0), (5, .int a2), (0, rv Γ 0), (2, .int a2), (3, .int a3), (4, .int v7)] hc dX12_listen_97 (Nat.le_of_ble_eq_true rfl) rfl ?_
          refine ok_iconst (v := 0) hc dX12_listen_99 (by decide) ?_
          refine ok_istore [(8, .int 0), (7, .int 0), (6, .int 0), (5, .int a2), (0, rv Γ 0), (2, .int a2), (3, .int a3), (4, .int v7)] hc dX12_listen_100 (Nat.le_of_ble_eq_true rfl) rfl ?_
          refine ok_sub [4, 6, 7, 3, 2, 1, 0] rfl ?_
          refine tX12_listen_L102 hc _ _   FU _ _ _ _ _
      · refine ok_bipush (v := (-3)) hc dX12_listen_39 (by decide) ?_
        exact ok_iret hc rfl dX12_listen_41
    · refine ok_bipush (v := (-2)) hc dX12_listen_24 (by decide) ?_
      exact ok_iret hc rfl dX12_listen_26
def fX12_log (a1 : Int32) (a2 : Int32) (S : St) : Option (Int32 × St) :=
  bnd (fX12_in a1.toInt64 0 (((S.1 0 43) - 1).toInt64) S) (fun v1 S2 => if v1 = 0 then (some ((-3), S2)) else (bnd (fX12_in a2.toInt64 (-1) 100000000 S2) (fun v4 S5 => if v4 = 0 then (some ((-3), S5)) else (if ib a1 8 then (lt (S5.1 35 (nt a1)) (fun (v8 : Int32) => if ib a1 8 then lt (wi S5 35 (nt a1) a2) (fun S9 => some (v8, S9)) else none)) else none))))
set_option maxRecDepth 100000 in
set_option maxHeartbeats 4000000 in
theorem tX12_log (a1 : Int32) (a2 : Int32) (S : St) (q : Int32 × St) (h : fX12_log a1 a2 S = some q) : MT vI wM mX12_log (fun n0 => [.ref (n0 + 0), .int a1, .int a2]) S q := by
  refine mt_of (show plainFor yX12_log = true from by decide) (fun _ => Nat.le_of_ble_eq_true rfl) ?_
  intro Γ hc _
  rw [← h]
  show Ok Γ wM 0 [(0, rv Γ 0), (1, .int a1), (2, .int a2)] [] S _
  unfold fX12_log
  refine ok_iload_n 1 hc dX12_log_0 rfl rfl ?_
  refine ok_i2l hc dX12_log_1 ?_
  refine ok_lconst (v := 0) hc dX12_log_2 (by decide) ?_
  refine ok_aload_n 0 hc dX12_log_3 rfl rfl ?_
  refine ok_geti hc FS_X12_179 rfl sM_0 dX12_log_4 ?_
  refine ok_iconst (v := 1) hc dX12_log_7 (by decide) ?_
  refine ok_isub hc dX12_log_8 ?_
  refine ok_i2l hc dX12_log_9 ?_
  refine ok_callSi (As := [.long a1.toInt64, .long 0, .long (((S.1 0 43) - 1).toInt64)]) (st := []) (fun n0 => [.long a1.toInt64, .long 0, .long (((S.1 0 43) - 1).toInt64)]) hc SS_X12_152 rfl rfl rfl ⟨Nat.le_of_ble_eq_true rfl, Nat.le_of_ble_eq_true rfl⟩ (Nat.le_of_ble_eq_true rfl) (fun q h => tX12_in a1.toInt64 0 (((S.1 0 43) - 1).toInt64) S q h) dX12_log_10 (fun v1 S2 => ?_)
  refine ok_if_eq_ite 30 hc dX12_log_13 (by decide) (fun h3 => ?_) (fun h3 => ?_)
  · refine ok_bipush (v := (-3)) hc dX12_log_30 (by decide) ?_
    exact ok_iret hc rfl dX12_log_32
  · refine ok_iload_n 2 hc dX12_log_16 rfl rfl ?_
    refine ok_i2l hc dX12_log_17 ?_
    refine ok_ldc2 hc dX12_log_18 W_1392 ?_
    refine ok_ldc2 hc dX12_log_21 W_1630 ?_
    refine ok_callSi (As := [.long a2.toInt64, .long (-1), .long 100000000]) (st := []) (fun n0 => [.long a2.toInt64, .long (-1), .long 100000000]) hc SS_X12_152 rfl rfl rfl ⟨Nat.le_of_ble_eq_true rfl, Nat.le_of_ble_eq_true rfl⟩ (Nat.le_of_ble_eq_true rfl) (fun q h => tX12_in a2.toInt64 (-1) 100000000 S2 q h) dX12_log_24 (fun v4 S5 => ?_)
    refine ok_if_ne_ite 33 hc dX12_log_27 (by decide) (fun h6 => ?_) (fun h6 => ?_)
    · refine ok_aload_n 0 hc dX12_log_33 rfl rfl ?_
      refine ok_getr 35 hc FS_X12_121 rfl sM_0 rfl dX12_log_34 ?_
      refine ok_iload_n 1 hc dX12_log_37 rfl rfl ?_
      refine ok_iald hc sM_35 dX12_log_38 (fun h7 => ?_)
      refine ok_lti (fun v8 => ?_)
      refine ok_istore_n [(3, .int v8), (0, rv Γ 0), (1, .int a1), (2, .int a2)] hc dX12_log_39 rfl (Nat.le_of_ble_eq_true rfl) rfl ?_
      refine ok_aload_n 1 hc dX12_log_40 rfl rfl ?_
      refine ok_getr 35 hc FS_X12_121 rfl sM_0 rfl dX12_log_41 ?_
      refine ok_iload_n 2 hc dX12_log_44 rfl rfl ?_
      refine ok_iload_n 3 hc dX12_log_45 rfl rfl ?_
      refine ok_iast hc sM_35 dX12_log_46 (fun h10 => ?_)
      refine ok_ltS (fun S9 => ?_)
      refine ok_iload_n 0 hc dX12_log_47 rfl rfl ?_
      exact ok_iret hc rfl dX12_log_48
    · refine ok_bipush (v := (-3)) hc dX12_log_30 (by decide) ?_
      exact ok_iret hc rfl dX12_log_32
def fX12_lose (a1 : Int32) (S : St) : Option (Int32 × St) :=
  bnd (fX12_isSheet a1 S) (fun v1 S2 => if v1 = 0 then (some ((-2), S2)) else (if ib a1 6 then (if 0 ≤ (S2.1 1 (nt a1)) then (if ib a1 6 then lt (wi S2 1 (nt a1) (-1)) (fun S6 => if ib a1 6 then (some (S6.1 2 (nt a1), S6)) else none) else none) else (bnd (fX12_met 1 S2) (fun v9 S10 => some (v9, S10)))) else none))
set_option maxRecDepth 100000 in
set_option maxHeartbeats 4000000 in
theorem tX12_lose (a1 : Int32) (S : St) (q : Int32 × St) (h : fX12_lose a1 S = some q) : MT vI wM mX12_lose (fun n0 => [.ref (n0 + 0), .int a1]) S q := by
  refine mt_of (show plainFor yX12_lose = true from by decide) (fun _ => Nat.le_of_ble_eq_true rfl) ?_
  intro Γ hc _
  rw [← h]
  show Ok Γ wM 0 [(0, rv Γ 0), (1, .int a1)] [] S _
  unfold fX12_lose
  refine ok_iload_n 1 hc dX12_lose_0 rfl rfl ?_
  refine ok_callSi (As := [.int a1]) (st := []) (fun n0 => [.int a1]) hc SS_X12_156 rfl rfl rfl ⟨Nat.le_of_ble_eq_true rfl, Nat.le_of_ble_eq_true rfl⟩ (Nat.le_of_ble_eq_true rfl) (fun q h => tX12_isSheet a1 S q h) dX12_lose_1 (fun v1 S2 => ?_)
  refine ok_if_ne_ite 10 hc dX12_lose_4 (by decide) (fun h3 => ?_) (fun h3 => ?_)
  · refine ok_aload_n 0 hc dX12_lose_10 rfl rfl ?_
    refine ok_getr 1 hc FS_X12_7 rfl sM_0 rfl dX12_lose_11 ?_
    refine ok_iload_n 1 hc dX12_lose_14 rfl rfl ?_
    refine ok_iald hc sM_1 dX12_lose_15 (fun h4 => ?_)
    refine ok_if_ge_ite 25 hc dX12_lose_16 (by decide) (fun h5 => ?_) (fun h5 => ?_)
    · refine ok_aload_n 0 hc dX12_lose_25 rfl rfl ?_
      refine ok_getr 1 hc FS_X12_7 rfl sM_0 rfl dX12_lose_26 ?_
      refine ok_iload_n 1 hc dX12_lose_29 rfl rfl ?_
      refine ok_iconst (v := (-1)) hc dX12_lose_30 (by decide) ?_
      refine ok_iast hc sM_1 dX12_lose_31 (fun h7 => ?_)
      refine ok_ltS (fun S6 => ?_)
      refine ok_aload_n 0 hc dX12_lose_32 rfl rfl ?_
      refine ok_getr 2 hc FS_X12_13 rfl sM_0 rfl dX12_lose_33 ?_
      refine ok_iload_n 1 hc dX12_lose_36 rfl rfl ?_
      refine ok_iald hc sM_2 dX12_lose_37 (fun h8 => ?_)
      exact ok_iret hc rfl dX12_lose_38
    · refine ok_aload_n 0 hc dX12_lose_19 rfl rfl ?_
      refine ok_iconst (v := 1) hc dX12_lose_20 (by decide) ?_
      refine ok_callVi (As := [.int 1]) (st := []) (fun n0 => [.ref (n0 + 0), .int 1]) hc VS_X12_162 sM_0 rfl rfl rfl ⟨Nat.le_of_ble_eq_true rfl, Nat.le_of_ble_eq_true rfl⟩ (Nat.le_of_ble_eq_true rfl) (fun q h => tX12_met 1 S2 q h) dX12_lose_21 (fun v9 S10 => ?_)
      exact ok_iret hc rfl dX12_lose_24
  · refine ok_bipush (v := (-2)) hc dX12_lose_7 (by decide) ?_
    exact ok_iret hc rfl dX12_lose_9
def fX12_loss (a1 : Int32) (a2 : Int32) (a3 : Int32) (a4 : Int32) (a5 : Int32) (S : St) : Option (Int32 × St) :=
  bnd (fX12_isCell a1 S) (fun v1 S2 => if v1 = 0 then (some ((-2), S2)) else (bnd (fX12_isMast a2 S2) (fun v4 S5 => if v4 = 0 then (some ((-2), S5)) else (bnd (fX12_isCell a3 S5) (fun v7 S8 => if v7 = 0 then (some ((-2), S8)) else (bnd (fX12_isMast a4 S8) (fun v10 S11 => if v10 = 0 then (some ((-2), S11)) else (bnd (fX12_in a5.toInt64 0 1 S11) (fun v13 S14 => if v13 = 0 then (some ((-2), S14)) else (bnd (fX12_lossOf a1 a2 a3 a4 a5 S14) (fun v16 S17 => some (v16, S17))))))))))))
set_option maxRecDepth 100000 in
set_option maxHeartbeats 4000000 in
theorem tX12_loss (a1 : Int32) (a2 : Int32) (a3 : Int32) (a4 : Int32) (a5 : Int32) (S : St) (q : Int32 × St) (h : fX12_loss a1 a2 a3 a4 a5 S = some q) : MT vI wM mX12_loss (fun n0 => [.ref (n0 + 0), .int a1, .int a2, .int a3, .int a4, .int a5]) S q := by
  refine mt_of (show plainFor yX12_loss = true from by decide) (fun _ => Nat.le_of_ble_eq_true rfl) ?_
  intro Γ hc _
  rw [← h]
  show Ok Γ wM 0 [(0, rv Γ 0), (1, .int a1), (2, .int a2), (3, .int a3), (4, .int a4), (5, .int a5)] [] S _
  unfold fX12_loss
  refine ok_aload_n 0 hc dX12_loss_0 rfl rfl ?_
  refine ok_iload_n 1 hc dX12_loss_1 rfl rfl ?_
  refine ok_callVi (As := [.int a1]) (st := []) (fun n0 => [.ref (n0 + 0), .int a1]) hc VS_X12_191 sM_0 rfl rfl rfl ⟨Nat.le_of_ble_eq_true rfl, Nat.le_of_ble_eq_true rfl⟩ (Nat.le_of_ble_eq_true rfl) (fun q h => tX12_isCell a1 S q h) dX12_loss_2 (fun v1 S2 => ?_)
  refine ok_if_eq_ite 56 hc dX12_loss_5 (by decide) (fun h3 => ?_) (fun h3 => ?_)
  · refine ok_bipush (v := (-2)) hc dX12_loss_56 (by decide) ?_
    exact ok_iret hc rfl dX12_loss_58
  · refine ok_iload_n 2 hc dX12_loss_8 rfl rfl ?_
    refine ok_callSi (As := [.int a2]) (st := []) (fun n0 => [.int a2]) hc SS_X12_217 rfl rfl rfl ⟨Nat.le_of_ble_eq_true rfl, Nat.le_of_ble_eq_true rfl⟩ (Nat.le_of_ble_eq_true rfl) (fun q h => tX12_isMast a2 S2 q h) dX12_loss_9 (fun v4 S5 => ?_)
    refine ok_if_eq_ite 56 hc dX12_loss_12 (by decide) (fun h6 => ?_) (fun h6 => ?_)
    · refine ok_bipush (v := (-2)) hc dX12_loss_56 (by decide) ?_
      exact ok_iret hc rfl dX12_loss_58
    · refine ok_aload_n 0 hc dX12_loss_15 rfl rfl ?_
      refine ok_iload_n 3 hc dX12_loss_16 rfl rfl ?_
      refine ok_callVi (As := [.int a3]) (st := []) (fun n0 => [.ref (n0 + 0), .int a3]) hc VS_X12_191 sM_0 rfl rfl rfl ⟨Nat.le_of_ble_eq_true rfl, Nat.le_of_ble_eq_true rfl⟩ (Nat.le_of_ble_eq_true rfl) (fun q h => tX12_isCell a3 S5 q h) dX12_loss_17 (fun v7 S8 => ?_)
      refine ok_if_eq_ite 56 hc dX12_loss_20 (by decide) (fun h9 => ?_) (fun h9 => ?_)
      · refine ok_bipush (v := (-2)) hc dX12_loss_56 (by decide) ?_
        exact ok_iret hc rfl dX12_loss_58
      · refine ok_iload 4 hc dX12_loss_23 rfl ?_
        refine ok_callSi (As := [.int a4]) (st := []) (fun n0 => [.int a4]) hc SS_X12_217 rfl rfl rfl ⟨Nat.le_of_ble_eq_true rfl, Nat.le_of_ble_eq_true rfl⟩ (Nat.le_of_ble_eq_true rfl) (fun q h => tX12_isMast a4 S8 q h) dX12_loss_25 (fun v10 S11 => ?_)
        refine ok_if_eq_ite 56 hc dX12_loss_28 (by decide) (fun h12 => ?_) (fun h12 => ?_)
        · refine ok_bipush (v := (-2)) hc dX12_loss_56 (by decide) ?_
          exact ok_iret hc rfl dX12_loss_58
        · refine ok_iload 5 hc dX12_loss_31 rfl ?_
          refine ok_i2l hc dX12_loss_33 ?_
          refine ok_lconst (v := 0) hc dX12_loss_34 (by decide) ?_
          refine ok_lconst (v := 1) hc dX12_loss_35 (by decide) ?_
          refine ok_callSi (As := [.long a5.toInt64, .long 0, .long 1]) (st := []) (fun n0 => [.long a5.toInt64, .long 0, .long 1]) hc SS_X12_152 rfl rfl rfl ⟨Nat.le_of_ble_eq_true rfl, Nat.le_of_ble_eq_true rfl⟩ (Nat.le_of_ble_eq_true rfl) (fun q h => tX12_in a5.toInt64 0 1 S11 q h) dX12_loss_36 (fun v13 S14 => ?_)
          refine ok_if_eq_ite 56 hc dX12_loss_39 (by decide) (fun h15 => ?_) (fun h15 => ?_)
          · refine ok_bipush (v := (-2)) hc dX12_loss_56 (by decide) ?_
            exact ok_iret hc rfl dX12_loss_58
          · refine ok_aload_n 0 hc dX12_loss_42 rfl rfl ?_
            refine ok_iload_n 1 hc dX12_loss_43 rfl rfl ?_
            refine ok_iload_n 2 hc dX12_loss_44 rfl rfl ?_
            refine ok_iload_n 3 hc dX12_loss_45 rfl rfl ?_
            refine ok_iload 4 hc dX12_loss_46 rfl ?_
            refine ok_iload 5 hc dX12_loss_48 rfl ?_
            refine ok_callVi (As := [.int a1, .int a2, .int a3, .int a4, .int a5]) (st := []) (fun n0 => [.ref (n0 + 0), .int a1, .int a2, .int a3, .int a4, .int a5]) hc VS_X12_220 sM_0 rfl rfl rfl ⟨Nat.le_of_ble_eq_true rfl, Nat.le_of_ble_eq_true rfl⟩ (Nat.le_of_ble_eq_true rfl) (fun q h => tX12_lossOf a1 a2 a3 a4 a5 S14 q h) dX12_loss_50 (fun v16 S17 => ?_)
            refine ok_goto 58 hc dX12_loss_53 (by decide) ?_
            exact ok_iret hc rfl dX12_loss_58
def fX12_map_L73_st (kx0 : St → Option (Int32 × St)) (a1 : Int32) (a2 : Int32) (a3 : Int32) (rec : Int32 → St → Option (Int32 × St)) (a4 : Int32) (S : St) : Option (Int32 × St) :=
  if a3 ≤ a4 then (kx0 S) else (bnd (fX12_gotOf a1 a4 0 S) (fun v2 S3 => if ib a4 400 then lt (wj S3 4 (nt a4) v2.toInt64) (fun S4 => rec (a4 + 1) S4) else none))
def fX12_map_L73 (kx0 : St → Option (Int32 × St)) (a1 : Int32) (a2 : Int32) (a3 : Int32) : Nat → Int32 → St → Option (Int32 × St)
  | 0 => fun _ _ => none
  | n + 1 => fun a4 S => fX12_map_L73_st kx0 a1 a2 a3 (fX12_map_L73 kx0 a1 a2 a3 n) a4 S
def fX12_map_L104_st (a2 : Int32) (a3 : Int32) (rec : Int32 → St → Option (Int32 × St)) (a4 : Int32) (S : St) : Option (Int32 × St) :=
  if a3 ≤ a4 then (some (a3, S)) else (if ib a2 6 then (if ib a4 400 then (bnd (fX12_cut (S.1 1 (nt a2)) (S.2 4 (nt a4)) S) (fun v4 S5 => if ib ((400 * a2) + a4) 2400 then lt (wj S5 3 (nt ((400 * a2) + a4)) v4) (fun S6 => rec (a4 + 1) S6) else none)) else none) else none)
def fX12_map_L104 (a2 : Int32) (a3 : Int32) : Nat → Int32 → St → Option (Int32 × St)
  | 0 => fun _ _ => none
  | n + 1 => fun a4 S => fX12_map_L104_st a2 a3 (fX12_map_L104 a2 a3 n) a4 S
def fX12_map (a1 : Int32) (a2 : Int32) (S : St) : Option (Int32 × St) :=
  bnd (fX12_isSender a1 S) (fun v1 S2 => if v1 = 0 then (some ((-2), S2)) else (bnd (fX12_isSheet a2 S2) (fun v4 S5 => if v4 = 0 then (some ((-2), S5)) else (if ib a2 6 then (if 0 ≤ (S5.1 1 (nt a2)) then (if ib a2 6 then (if (S5.1 2 (nt a2)) ≤ ((S5.1 0 5) * (S5.1 0 6)) then (if ib a2 6 then (lt (S5.1 2 (nt a2)) (fun (v12 : Int32) => fX12_map_L73 (fun (S13 : St) => fX12_map_L104 a2 v12 FU 0 S13) a1 a2 v12 FU 0 S5)) else none) else (lt ((S5.1 0 5) * (S5.1 0 6)) (fun (v14 : Int32) => fX12_map_L73 (fun (S15 : St) => fX12_map_L104 a2 v14 FU 0 S15) a1 a2 v14 FU 0 S5))) else none) else (bnd (fX12_met 1 S5) (fun v16 S17 => some (v16, S17)))) else none))))
set_option maxRecDepth 100000 in
set_option maxHeartbeats 4000000 in
theorem tX12_map_L73 {Γ : Cx Int32} (hc : Cok Γ wM vI mX12_map) (kx0 : St → Option (Int32 × St)) (a1 : Int32) (a2 : Int32) (a3 : Int32) (hx0 : ∀ (S : St), Ok Γ wM 101 [(0, rv Γ 0), (2, .int a2), (3, .int a3)] [] S (kx0 S)) : ∀ (n : Nat) (a4 : Int32) (S : St), Ok Γ wM 73 [(0, rv Γ 0), (1, .int a1), (2, .int a2), (3, .int a3), (4, .int a4)] [] S (fX12_map_L73 kx0 a1 a2 a3 n a4 S) := by
  intro n
  induction n with
  | zero =>
    intro a4 S
    exact ok_none
  | succ n ih =>
    intro a4 S
    show Ok Γ wM 73 [(0, rv Γ 0), (1, .int a1), (2, .int a2), (3, .int a3), (4, .int a4)] [] S (fX12_map_L73_st kx0 a1 a2 a3 (fX12_map_L73 kx0 a1 a2 a3 n) a4 S)
    unfold fX12_map_L73_st
    refine ok_iload 4 hc dX12_map_73 rfl ?_
    refine ok_iload_n 3 hc dX12_map_75 rfl rfl ?_
    refine ok_icmp_ge_ite 101 hc dX12_map_76 (by decide) (fun h1 => ?_) (fun h1 => ?_)
    · refine ok_sub [0, 2, 3] rfl ?_
      exact hx0 _
    · refine ok_aload_n 0 hc dX12_map_79 rfl rfl ?_
      refine ok_getr 4 hc FS_X12_20 rfl sM_0 rfl dX12_map_80 ?_
      refine ok_iload 4 hc dX12_map_83 rfl ?_
      refine ok_aload_n 0 hc dX12_map_85 rfl rfl ?_
      refine ok_iload_n 1 hc dX12_map_86 rfl rfl ?_
      refine ok_iload 4 hc dX12_map_87 rfl ?_
      refine ok_iconst (v := 0) hc dX12_map_89 (by decide) ?_
      refine ok_callVi (As := [.int a1, .int a4, .int 0]) (st := [.int a4, rv Γ 4]) (fun n0 => [.ref (n0 + 0), .int a1, .int a4, .int 0]) hc VS_X12_251 sM_0 rfl rfl rfl ⟨Nat.le_of_ble_eq_true rfl, Nat.le_of_ble_eq_true rfl⟩ (Nat.le_of_ble_eq_true rfl) (fun q h => tX12_gotOf a1 a4 0 S q h) dX12_map_90 (fun v2 S3 => ?_)
      refine ok_i2l hc dX12_map_93 ?_
      refine ok_last hc sM_4 dX12_map_94 (fun h5 => ?_)
      refine ok_ltS (fun S4 => ?_)
      refine ok_iinc (v := 1) 4 [(4, .int (a4 + 1)), (0, rv Γ 0), (1, .int a1), (2, .int a2), (3, .int a3)] hc dX12_map_95 rfl (by decide) (Nat.le_of_ble_eq_true rfl) rfl ?_
      refine ok_goto 73 hc dX12_map_98 (by decide) ?_
      refine ok_sub [1, 2, 3, 4, 0] rfl ?_
      exact ih _ _
set_option maxRecDepth 100000 in
set_option maxHeartbeats 4000000 in
theorem tX12_map_L104 {Γ : Cx Int32} (hc : Cok Γ wM vI mX12_map) (a2 : Int32) (a3 : Int32) : ∀ (n : Nat) (a4 : Int32) (S : St), Ok Γ wM 104 [(0, rv Γ 0), (2, .int a2), (3, .int a3), (4, .int a4)] [] S (fX12_map_L104 a2 a3 n a4 S) := by
  intro n
  induction n with
  | zero =>
    intro a4 S
    exact ok_none
  | succ n ih =>
    intro a4 S
    show Ok Γ wM 104 [(0, rv Γ 0), (2, .int a2), (3, .int a3), (4, .int a4)] [] S (fX12_map_L104_st a2 a3 (fX12_map_L104 a2 a3 n) a4 S)
    unfold fX12_map_L104_st
    refine ok_iload 3 hc dX12_map_104 rfl ?_
    refine ok_iload_n 2 hc dX12_map_106 rfl rfl ?_
    refine ok_icmp_ge_ite 145 hc dX12_map_107 (by decide) (fun h1 => ?_) (fun h1 => ?_)
    · refine ok_iload_n 2 hc dX12_map_145 rfl rfl ?_
      exact ok_iret hc rfl dX12_map_146
    · refine ok_aload_n 0 hc dX12_map_110 rfl rfl ?_
      refine ok_getr 3 hc FS_X12_16 rfl sM_0 rfl dX12_map_111 ?_
      refine ok_sipush (v := 400) hc dX12_map_114 (by decide) ?_
      refine ok_iload_n 1 hc dX12_map_117 rfl rfl ?_
      refine ok_imul hc dX12_map_118 ?_
      refine ok_iload 3 hc dX12_map_119 rfl ?_
      refine ok_iadd hc dX12_map_121 ?_
      refine ok_aload_n 0 hc dX12_map_122 rfl rfl ?_
      refine ok_getr 1 hc FS_X12_7 rfl sM_0 rfl dX12_map_123 ?_
      refine ok_iload_n 1 hc dX12_map_126 rfl rfl ?_
      refine ok_iald hc sM_1 dX12_map_127 (fun h2 => ?_)
      refine ok_aload_n 0 hc dX12_map_128 rfl rfl ?_
      refine ok_getr 4 hc FS_X12_20 rfl sM_0 rfl dX12_map_129 ?_
      refine ok_iload 3 hc dX12_map_132 rfl ?_
      refine ok_lald hc sM_4 dX12_map_134 (fun h3 => ?_)
      refine ok_callSl (As := [.int (S.1 1 (nt a2)), .long (S.2 4 (nt a4))]) (st := [.int ((400 * a2) + a4), rv Γ 3]) (fun n0 => [.int (S.1 1 (nt a2)), .long (S.2 4 (nt a4))]) hc SS_X12_170 rfl rfl rfl ⟨Nat.le_of_ble_eq_true rfl, Nat.le_of_ble_eq_true rfl⟩ (Nat.le_of_ble_eq_true rfl) (fun q h => tX12_cut (S.1 1 (nt a2)) (S.2 4 (nt a4)) S q h) dX12_map_135 (fun v4 S5 => ?_)
      refine ok_last hc sM_3 dX12_map_138 (fun h7 => ?_)
      refine ok_ltS (fun S6 => ?_)
      refine ok_iinc (v := 1) 3 [(4, .int (a4 + 1)), (0, rv Γ 0), (2, .int a2), (3, .int a3)] hc dX12_map_139 rfl (by decide) (Nat.le_of_ble_eq_true rfl) rfl ?_
      refine ok_goto 104 hc dX12_map_142 (by decide) ?_
      refine ok_sub [1, 2, 3, 0] rfl ?_
      exact ih _ _
set_option maxRecDepth 100000 in
set_option maxHeartbeats 4000000 in
theorem tX12_map (a1 : Int32) (a2 : Int32) (S : St) (q : Int32 × St) (h : fX12_map a1 a2 S = some q) : MT vI wM mX12_map (fun n0 => [.ref (n0 + 0), .int a1, .int a2]) S q := by
  refine mt_of (show plainFor yX12_map = true from by decide) (fun _ => Nat.le_of_ble_eq_true rfl) ?_
  intro Γ hc _
  rw [← h]
  show Ok Γ wM 0 [(0, rv Γ 0), (1, .int a1), (2, .int a2)] [] S _
  unfold fX12_map
  refine ok_aload_n 0 hc dX12_map_0 rfl rfl ?_
  refine ok_iload_n 1 hc dX12_map_1 rfl rfl ?_
  refine ok_callVi (As := [.int a1]) (st := []) (fun n0 => [.ref (n0 + 0), .int a1]) hc VS_X12_237 sM_0 rfl rfl rfl ⟨Nat.le_of_ble_eq_true rfl, Nat.le_of_ble_eq_true rfl⟩ (Nat.le_of_ble_eq_true rfl) (fun q h => tX12_isSender a1 S q h) dX12_map_2 (fun v1 S2 => ?_)
  refine ok_if_eq_ite 15 hc dX12_map_5 (by decide) (fun h3 => ?_) (fun h3 => ?_)
  · refine ok_bipush (v := (-2)) hc dX12_map_15 (by decide) ?_
    exact ok_iret hc rfl dX12_map_17
  · refine ok_iload_n 2 hc dX12_map_8 rfl rfl ?_
    refine ok_callSi (As := [.int a2]) (st := []) (fun n0 => [.int a2]) hc SS_X12_156 rfl rfl rfl ⟨Nat.le_of_ble_eq_true rfl, Nat.le_of_ble_eq_true rfl⟩ (Nat.le_of_ble_eq_true rfl) (fun q h => tX12_isSheet a2 S2 q h) dX12_map_9 (fun v4 S5 => ?_)
    refine ok_if_ne_ite 18 hc dX12_map_12 (by decide) (fun h6 => ?_) (fun h6 => ?_)
    · refine ok_aload_n 0 hc dX12_map_18 rfl rfl ?_
      refine ok_getr 1 hc FS_X12_7 rfl sM_0 rfl dX12_map_19 ?_
      refine ok_iload_n 2 hc dX12_map_22 rfl rfl ?_
      refine ok_iald hc sM_1 dX12_map_23 (fun h7 => ?_)
      refine ok_if_ge_ite 33 hc dX12_map_24 (by decide) (fun h8 => ?_) (fun h8 => ?_)
      · refine ok_aload_n 0 hc dX12_map_33 rfl rfl ?_
        refine ok_geti hc FS_X12_23 rfl sM_0 dX12_map_34 ?_
        refine ok_aload_n 0 hc dX12_map_37 rfl rfl ?_
        refine ok_geti hc FS_X12_27 rfl sM_0 dX12_map_38 ?_
        refine ok_imul hc dX12_map_41 ?_
        refine ok_aload_n 0 hc dX12_map_42 rfl rfl ?_
        refine ok_getr 2 hc FS_X12_13 rfl sM_0 rfl dX12_map_43 ?_
        refine ok_iload_n 2 hc dX12_map_46 rfl rfl ?_
        refine ok_iald hc sM_2 dX12_map_47 (fun h9 => ?_)
        refine ok_icmp_ge_ite 63 hc dX12_map_48 (by decide) (fun h10 => ?_) (fun h10 => ?_)
        · refine ok_aload_n 0 hc dX12_map_63 rfl rfl ?_
          refine ok_getr 2 hc FS_X12_13 rfl sM_0 rfl dX12_map_64 ?_
          refine ok_iload_n 2 hc dX12_map_67 rfl rfl ?_
          refine ok_iald hc sM_2 dX12_map_68 (fun h11 => ?_)
          refine ok_lti (fun v12 => ?_)
          refine ok_istore_n [(3, .int v12), (0, rv Γ 0), (1, .int a1), (2, .int a2)] hc dX12_map_69 rfl (Nat.le_of_ble_eq_true rfl) rfl ?_
          refine ok_iconst (v := 0) hc dX12_map_70 (by decide) ?_
          refine ok_istore [(4, .int 0), (3, .int v12), (0, rv Γ 0), (1, .int a1), (2, .int a2)] hc dX12_map_71 (Nat.le_of_ble_eq_true rfl) rfl ?_
          refine ok_sub [2, 3, 4, 1, 0] rfl ?_
          refine tX12_map_L73 hc _ _ _ _  ?_ FU _ _
          · intro S13
            refine ok_iconst (v := 0) hc dX12_map_101 (by decide) ?_
            refine ok_istore [(4, .int 0), (0, rv Γ 0), (2, .int a2), (3, .int v12)] hc dX12_map_102 (Nat.le_of_ble_eq_true rfl) rfl ?_
            refine ok_sub [1, 2, 3, 0] rfl ?_
            refine tX12_map_L104 hc _ _   FU _ _
        · refine ok_aload_n 0 hc dX12_map_51 rfl rfl ?_
          refine ok_geti hc FS_X12_23 rfl sM_0 dX12_map_52 ?_
          refine ok_aload_n 0 hc dX12_map_55 rfl rfl ?_
          refine ok_geti hc FS_X12_27 rfl sM_0 dX12_map_56 ?_
          refine ok_imul hc dX12_map_59 ?_
          refine ok_goto 69 hc dX12_map_60 (by decide) ?_
          refine ok_lti (fun v14 => ?_)
          refine ok_istore_n [(3, .int v14), (0, rv Γ 0), (1, .int a1), (2, .int a2)] hc dX12_map_69 rfl (Nat.le_of_ble_eq_true rfl) rfl ?_
          refine ok_iconst (v := 0) hc dX12_map_70 (by decide) ?_
          refine ok_istore [(4, .int 0), (3, .int v14), (0, rv Γ 0), (1, .int a1), (2, .int a2)] hc dX12_map_71 (Nat.le_of_ble_eq_true rfl) rfl ?_
          refine ok_sub [2, 3, 4, 1, 0] rfl ?_
          refine tX12_map_L73 hc _ _ _ _  ?_ FU _ _
          · intro S15
            refine ok_iconst (v := 0) hc dX12_map_101 (by decide) ?_
            refine ok_istore [(4, .int 0), (0, rv Γ 0), (2, .int a2), (3, .int v14)] hc dX12_map_102 (Nat.le_of_ble_eq_true rfl) rfl ?_
            refine ok_sub [1, 2, 3, 0] rfl ?_
            refine tX12_map_L104 hc _ _   FU _ _
      · refine ok_aload_n 0 hc dX12_map_27 rfl rfl ?_
        refine ok_iconst (v := 1) hc dX12_map_28 (by decide) ?_
        refine ok_callVi (As := [.int 1]) (st := []) (fun n0 => [.ref (n0 + 0), .int 1]) hc VS_X12_162 sM_0 rfl rfl rfl ⟨Nat.le_of_ble_eq_true rfl, Nat.le_of_ble_eq_true rfl⟩ (Nat.le_of_ble_eq_true rfl) (fun q h => tX12_met 1 S5 q h) dX12_map_29 (fun v16 S17 => ?_)
        exact ok_iret hc rfl dX12_map_32
    · refine ok_bipush (v := (-2)) hc dX12_map_15 (by decide) ?_
      exact ok_iret hc rfl dX12_map_17
def fX12_ruleOf_L14_st (a1 : Int32) (a2 : Int32) (a3 : Int32) (rec : Int32 → Int32 → St → Option (Int32 × St)) (a4 : Int32) (a5 : Int32) (S : St) : Option (Int32 × St) :=
  if (S.1 0 36) ≤ a5 then (some (a4, S)) else (if ib a5 30 then (jn (fun (v3 : Int32) (S4 : St) => lt (if v3 = 0 then a4 else a5) (fun (v6 : Int32) => rec v6 (a5 + 1) S4)) (fun k5 => jn (fun (S9 : St) => if ib a5 30 then (if ib a5 30 then (bnd (fX12_in a2.toInt64 ((S9.1 30 (nt a5)).toInt64) ((S9.1 31 (nt a5)).toInt64) S9) (fun v13 S14 => if v13 = 0 then (k5 0 S14) else (if ib a5 30 then (if ib a5 30 then (bnd (fX12_in a3.toInt64 ((S14.1 32 (nt a5)).toInt64) ((S14.1 33 (nt a5)).toInt64) S14) (fun v18 S19 => if v18 = 0 then (k5 0 S19) else (k5 1 S19))) else none) else none))) else none) else none) (fun k10 => if (S.1 29 (nt a5)) = (-1) then (k10 S) else (if ib a5 30 then (if (S.1 29 (nt a5)) = a1 then (k10 S) else (k5 0 S)) else none)))) else none)
def fX12_ruleOf_L14 (a1 : Int32) (a2 : Int32) (a3 : Int32) : Nat → Int32 → Int32 → St → Option (Int32 × St)
  | 0 => fun _ _ _ => none
  | n + 1 => fun a4 a5 S => fX12_ruleOf_L14_st a1 a2 a3 (fX12_ruleOf_L14 a1 a2 a3 n) a4 a5 S
def fX12_ruleOf (a1 : Int32) (a2 : Int32) (a3 : Int32) (S : St) : Option (Int32 × St) :=
  bnd (fX12_reads S) (fun v1 S2 => if v1 = (-1) then (fX12_ruleOf_L14 a1 a2 a3 FU (-1) 0 S2) else (some ((-1), S2)))
set_option maxRecDepth 100000 in
set_option maxHeartbeats 4000000 in
theorem tX12_ruleOf_L14 {Γ : Cx Int32} (hc : Cok Γ wM vI mX12_ruleOf) (a1 : Int32) (a2 : Int32) (a3 : Int32) : ∀ (n : Nat) (a4 : Int32) (a5 : Int32) (S : St), Ok Γ wM 14 [(0, rv Γ 0), (1, .int a1), (2, .int a2), (3, .int a3), (4, .int a4), (5, .int a5)] [] S (fX12_ruleOf_L14 a1 a2 a3 n a4 a5 S) := by
  intro n
  induction n with
  | zero =>
    intro a4 a5 S
    exact ok_none
  | succ n ih =>
    intro a4 a5 S
    show Ok Γ wM 14 [(0, rv Γ 0), (1, .int a1), (2, .int a2), (3, .int a3), (4, .int a4), (5, .int a5)] [] S (fX12_ruleOf_L14_st a1 a2 a3 (fX12_ruleOf_L14 a1 a2 a3 n) a4 a5 S)
    unfold fX12_ruleOf_L14_st
    refine ok_iload 5 hc dX12_ruleOf_14 rfl ?_
    refine ok_aload_n 0 hc dX12_ruleOf_16 rfl rfl ?_
    refine ok_geti hc FS_X12_362 rfl sM_0 dX12_ruleOf_17 ?_
    refine ok_icmp_ge_ite 120 hc dX12_ruleOf_20 (by decide) (fun h1 => ?_) (fun h1 => ?_)
    · refine ok_iload 4 hc dX12_ruleOf_120 rfl ?_
      exact ok_iret hc rfl dX12_ruleOf_122
    · refine ok_aload_n 0 hc dX12_ruleOf_23 rfl rfl ?_
      refine ok_getr 29 hc FS_X12_103 rfl sM_0 rfl dX12_ruleOf_24 ?_
      refine ok_iload 5 hc dX12_ruleOf_27 rfl ?_
      refine ok_iald hc sM_29 dX12_ruleOf_29 (fun h2 => ?_)
      refine ok_iconst (v := (-1)) hc dX12_ruleOf_30 (by decide) ?_
      refine ok_jn (fun g => ∀ (v3 : Int32) (S4 : St), Ok Γ wM 98 [(0, rv Γ 0), (1, .int a1), (2, .int a2), (3, .int a3), (4, .int a4), (5, .int a5)] [.int v3] S4 (g v3 S4)) ?_ (fun k5 hk5 => ?_)
      · intro v3 S4
        refine ok_istore [(6, .int v3), (0, rv Γ 0), (1, .int a1), (2, .int a2), (3, .int a3), (4, .int a4), (5, .int a5)] hc dX12_ruleOf_98 (Nat.le_of_ble_eq_true rfl) rfl ?_
        refine ok_iload 0 hc dX12_ruleOf_100 rfl ?_
        refine ok_lt (fun g => ∀ (v6 : Int32), Ok Γ wM 112 [(0, rv Γ 0), (1, .int a1), (2, .int a2), (3, .int a3), (5, .int a5)] [.int v6] S4 (g v6)) ?_ (fun k7 hk7 => ?_)
        · intro v6
          refine ok_istore [(4, .int v6), (0, rv Γ 0), (1, .int a1), (2, .int a2), (3, .int a3), (5, .int a5)] hc dX12_ruleOf_112 (Nat.le_of_ble_eq_true rfl) rfl ?_
          refine ok_iinc (v := 1) 5 [(5, .int (a5 + 1)), (4, .int v6), (0, rv Γ 0), (1, .int a1), (2, .int a2), (3, .int a3)] hc dX12_ruleOf_114 rfl (by decide) (Nat.le_of_ble_eq_true rfl) rfl ?_
          refine ok_goto 14 hc dX12_ruleOf_117 (by decide) ?_
          refine ok_sub [2, 3, 4, 5, 1, 0] rfl ?_
          exact ih _ _ _
        · refine ok_if_eq 110 hc dX12_ruleOf_102 (by decide) (fun h8 => ?_) (fun h8 => ?_)
          · rw [if_pos h8]
            refine ok_iload 5 hc dX12_ruleOf_110 rfl ?_
            refine ok_sub [1, 2, 3, 4, 6] rfl ?_
            exact hk7 _
          · rw [if_neg h8]
            refine ok_iload 6 hc dX12_ruleOf_105 rfl ?_
            refine ok_goto 112 hc dX12_ruleOf_107 (by decide) ?_
            refine ok_sub [1, 2, 3, 4, 6] rfl ?_
            exact hk7 _
      · refine ok_jn (fun g => ∀ (S9 : St), Ok Γ wM 45 [(0, rv Γ 0), (1, .int a1), (2, .int a2), (3, .int a3), (4, .int a4), (5, .int a5)] [] S9 (g S9)) ?_ (fun k10 hk10 => ?_)
        · intro S9
          refine ok_iload_n 2 hc dX12_ruleOf_45 rfl rfl ?_
          refine ok_i2l hc dX12_ruleOf_46 ?_
          refine ok_aload_n 0 hc dX12_ruleOf_47 rfl rfl ?_
          refine ok_getr 30 hc FS_X12_106 rfl sM_0 rfl dX12_ruleOf_48 ?_
          refine ok_iload 5 hc dX12_ruleOf_51 rfl ?_
          refine ok_iald hc sM_30 dX12_ruleOf_53 (fun h11 => ?_)
          refine ok_i2l hc dX12_ruleOf_54 ?_
          refine ok_aload_n 0 hc dX12_ruleOf_55 rfl rfl ?_
          refine ok_getr 31 hc FS_X12_109 rfl sM_0 rfl dX12_ruleOf_56 ?_
          refine ok_iload 5 hc dX12_ruleOf_59 rfl ?_
          refine ok_iald hc sM_31 dX12_ruleOf_61 (fun h12 => ?_)
          refine ok_i2l hc dX12_ruleOf_62 ?_
          refine ok_callSi (As := [.long a2.toInt64, .long ((S9.1 30 (nt a5)).toInt64), .long ((S9.1 31 (nt a5)).toInt64)]) (st := []) (fun n0 => [.long a2.toInt64, .long ((S9.1 30 (nt a5)).toInt64), .long ((S9.1 31 (nt a5)).toInt64)]) hc SS_X12_152 rfl rfl rfl ⟨Nat.le_of_ble_eq_true rfl, Nat.le_of_ble_eq_true rfl⟩ (Nat.le_of_ble_eq_true rfl) (fun q h => tX12_in a2.toInt64 ((S9.1 30 (nt a5)).toInt64) ((S9.1 31 (nt a5)).toInt64) S9 q h) dX12_ruleOf_63 (fun v13 S14 => ?_)
          refine ok_if_eq_ite 97 hc dX12_ruleOf_66 (by decide) (fun h15 => ?_) (fun h15 => ?_)
          · refine ok_iconst (v := 0) hc dX12_ruleOf_97 (by decide) ?_
            exact hk5 _ _
          · refine ok_iload_n 3 hc dX12_ruleOf_69 rfl rfl ?_
            refine ok_i2l hc dX12_ruleOf_70 ?_
            refine ok_aload_n 0 hc dX12_ruleOf_71 rfl rfl ?_
            refine ok_getr 32 hc FS_X12_112 rfl sM_0 rfl dX12_ruleOf_72 ?_
            refine ok_iload 5 hc dX12_ruleOf_75 rfl ?_
            refine ok_iald hc sM_32 dX12_ruleOf_77 (fun h16 => ?_)
            refine ok_i2l hc dX12_ruleOf_78 ?_
            refine ok_aload_n 0 hc dX12_ruleOf_79 rfl rfl ?_
            refine ok_getr 33 hc FS_X12_115 rfl sM_0 rfl dX12_ruleOf_80 ?_
            refine ok_iload 5 hc dX12_ruleOf_83 rfl ?_
            refine ok_iald hc sM_33 dX12_ruleOf_85 (fun h17 => ?_)
            refine ok_i2l hc dX12_ruleOf_86 ?_
            refine ok_callSi (As := [.long a3.toInt64, .long ((S14.1 32 (nt a5)).toInt64), .long ((S14.1 33 (nt a5)).toInt64)]) (st := []) (fun n0 => [.long a3.toInt64, .long ((S14.1 32 (nt a5)).toInt64), .long ((S14.1 33 (nt a5)).toInt64)]) hc SS_X12_152 rfl rfl rfl ⟨Nat.le_of_ble_eq_true rfl, Nat.le_of_ble_eq_true rfl⟩ (Nat.le_of_ble_eq_true rfl) (fun q h => tX12_in a3.toInt64 ((S14.1 32 (nt a5)).toInt64) ((S14.1 33 (nt a5)).toInt64) S14 q h) dX12_ruleOf_87 (fun v18 S19 => ?_)
            refine ok_if_eq_ite 97 hc dX12_ruleOf_90 (by decide) (fun h20 => ?_) (fun h20 => ?_)
            · refine ok_iconst (v := 0) hc dX12_ruleOf_97 (by decide) ?_
              exact hk5 _ _
            · refine ok_iconst (v := 1) hc dX12_ruleOf_93 (by decide) ?_
              refine ok_goto 98 hc dX12_ruleOf_94 (by decide) ?_
              exact hk5 _ _
        · refine ok_icmp_eq_ite 45 hc dX12_ruleOf_31 (by decide) (fun h21 => ?_) (fun h21 => ?_)
          · exact hk10 _
          · refine ok_aload_n 0 hc dX12_ruleOf_34 rfl rfl ?_
            refine ok_getr 29 hc FS_X12_103 rfl sM_0 rfl dX12_ruleOf_35 ?_
            refine ok_iload 5 hc dX12_ruleOf_38 rfl ?_
            refine ok_iald hc sM_29 dX12_ruleOf_40 (fun h22 => ?_)
            refine ok_iload_n 1 hc dX12_ruleOf_41 rfl rfl ?_
            refine ok_icmp_ne_ite 97 hc dX12_ruleOf_42 (by decide) (fun h23 => ?_) (fun h23 => ?_)
            · refine ok_iconst (v := 0) hc dX12_ruleOf_97 (by decide) ?_
              exact hk5 _ _
            · exact hk10 _
set_option maxRecDepth 100000 in
set_option maxHeartbeats 4000000 in
theorem tX12_ruleOf (a1 : Int32) (a2 : Int32) (a3 : Int32) (S : St) (q : Int32 × St) (h : fX12_ruleOf a1 a2 a3 S = some q) : MT vI wM mX12_ruleOf (fun n0 => [.ref (n0 + 0), .int a1, .int a2, .int a3]) S q := by
  refine mt_of (show plainFor yX12_ruleOf = true from by decide) (fun _ => Nat.le_of_ble_eq_true rfl) ?_
  intro Γ hc _
  rw [← h]
  show Ok Γ wM 0 [(0, rv Γ 0), (1, .int a1), (2, .int a2), (3, .int a3)] [] S _
  unfold fX12_ruleOf
  refine ok_iconst (v := (-1)) hc dX12_ruleOf_0 (by decide) ?_
  refine ok_istore [(4, .int (-1)), (0, rv Γ 0), (1, .int a1), (2, .int a2), (3, .int a3)] hc dX12_ruleOf_1 (Nat.le_of_ble_eq_true rfl) rfl ?_
  refine ok_aload_n 1 hc dX12_ruleOf_3 rfl rfl ?_
  refine ok_callVi (As := []) (st := []) (fun n0 => [.ref (n0 + 0)]) hc VS_X12_373 sM_0 rfl rfl rfl ⟨Nat.le_of_ble_eq_true rfl, Nat.le_of_ble_eq_true rfl⟩ (Nat.le_of_ble_eq_true rfl) (fun q h => tX12_reads S q h) dX12_ruleOf_4 (fun v1 S2 => ?_)
  refine ok_iconst (v := (-1)) hc dX12_ruleOf_7 (by decide) ?_
  refine ok_icmp_ne_ite 120 hc dX12_ruleOf_8 (by decide) (fun h3 => ?_) (fun h3 => ?_)
  · refine ok_iload 0 hc dX12_ruleOf_120 rfl ?_
    exact ok_iret hc rfl dX12_ruleOf_122
  · refine ok_iconst (v := 0) hc dX12_ruleOf_11 (by decide) ?_
    refine ok_istore [(5, .int 0), (4, .int (-1)), (0, rv Γ 0), (1, .int a1), (2, .int a2), (3, .int a3)] hc dX12_ruleOf_12 (Nat.le_of_ble_eq_true rfl) rfl ?_
    refine ok_sub [2, 3, 4, 5, 1, 0] rfl ?_
    refine tX12_ruleOf_L14 hc _ _ _   FU _ _ _
def fX12_may (a1 : Int32) (a2 : Int32) (a3 : Int32) (S : St) : Option (Int32 × St) :=
  bnd (fX12_isAsked a1 a2 a3 S) (fun v1 S2 => if v1 = 0 then (some ((-2), S2)) else (bnd (fX12_ruleOf a1 a2 a3 S2) (fun v4 S5 => if v4 = (-1) then (some (0, S5)) else (if ib v4 30 then (if (S5.1 28 (nt v4)) = 0 then (some (0, S5)) else (some (1, S5))) else none))))
set_option maxRecDepth 100000 in
set_option maxHeartbeats 4000000 in
theorem tX12_may (a1 : Int32) (a2 : Int32) (a3 : Int32) (S : St) (q : Int32 × St) (h : fX12_may a1 a2 a3 S = some q) : MT vI wM mX12_may (fun n0 => [.ref (n0 + 0), .int a1, .int a2, .int a3]) S q := by
  refine mt_of (show plainFor yX12_may = true from by decide) (fun _ => Nat.le_of_ble_eq_true rfl) ?_
  intro Γ hc _
  rw [← h]
  show Ok Γ wM 0 [(0, rv Γ 0), (1, .int a1), (2, .int a2), (3, .int a3)] [] S _
  unfold fX12_may
  refine ok_iload_n 1 hc dX12_may_0 rfl rfl ?_
  refine ok_iload_n 2 hc dX12_may_1 rfl rfl ?_
  refine ok_iload_n 3 hc dX12_may_2 rfl rfl ?_
  refine ok_callSi (As := [.int a1, .int a2, .int a3]) (st := []) (fun n0 => [.int a1, .int a2, .int a3]) hc SS_X12_379 rfl rfl rfl ⟨Nat.le_of_ble_eq_true rfl, Nat.le_of_ble_eq_true rfl⟩ (Nat.le_of_ble_eq_true rfl) (fun q h => tX12_isAsked a1 a2 a3 S q h) dX12_may_3 (fun v1 S2 => ?_)
  refine ok_if_ne_ite 12 hc dX12_may_6 (by decide) (fun h3 => ?_) (fun h3 => ?_)
  · refine ok_aload_n 0 hc dX12_may_12 rfl rfl ?_
    refine ok_iload_n 1 hc dX12_may_13 rfl rfl ?_
    refine ok_iload_n 2 hc dX12_may_14 rfl rfl ?_
    refine ok_iload_n 3 hc dX12_may_15 rfl rfl ?_
    refine ok_callVi (As := [.int a1, .int a2, .int a3]) (st := []) (fun n0 => [.ref (n0 + 0), .int a1, .int a2, .int a3]) hc VS_X12_382 sM_0 rfl rfl rfl ⟨Nat.le_of_ble_eq_true rfl, Nat.le_of_ble_eq_true rfl⟩ (Nat.le_of_ble_eq_true rfl) (fun q h => tX12_ruleOf a1 a2 a3 S2 q h) dX12_may_16 (fun v4 S5 => ?_)
    refine ok_istore [(4, .int v4), (0, rv Γ 0), (1, .int a1), (2, .int a2), (3, .int a3)] hc dX12_may_19 (Nat.le_of_ble_eq_true rfl) rfl ?_
    refine ok_iload 0 hc dX12_may_21 rfl ?_
    refine ok_iconst (v := (-1)) hc dX12_may_23 (by decide) ?_
    refine ok_icmp_eq_ite 41 hc dX12_may_24 (by decide) (fun h6 => ?_) (fun h6 => ?_)
    · refine ok_iconst (v := 0) hc dX12_may_41 (by decide) ?_
      exact ok_iret hc rfl dX12_may_42
    · refine ok_aload_n 1 hc dX12_may_27 rfl rfl ?_
      refine ok_getr 28 hc FS_X12_100 rfl sM_0 rfl dX12_may_28 ?_
      refine ok_iload 0 hc dX12_may_31 rfl ?_
      refine ok_zald hc sM_28 dX12_may_33 (fun h7 => ?_)
      refine ok_if_eq_ite 41 hc dX12_may_34 (by decide) (fun h8 => ?_) (fun h8 => ?_)
      · refine ok_iconst (v := 0) hc dX12_may_41 (by decide) ?_
        exact ok_iret hc rfl dX12_may_42
      · refine ok_iconst (v := 1) hc dX12_may_37 (by decide) ?_
        refine ok_goto 42 hc dX12_may_38 (by decide) ?_
        exact ok_iret hc rfl dX12_may_42
  · refine ok_bipush (v := (-2)) hc dX12_may_9 (by decide) ?_
    exact ok_iret hc rfl dX12_may_11
def fX12_most_L27_st (a1 : Int32) (a2 : Int32) (a3 : Int32) (rec : Int32 → Int32 → St → Option (Int32 × St)) (a4 : Int32) (a5 : Int32) (S : St) : Option (Int32 × St) :=
  if a1 ≤ a5 then (some (a4, S)) else (bnd (fX12_meets a1 a2 a3 a5 S) (fun v2 S3 => lt (if v2 ≤ a4 then a4 else v2) (fun (v4 : Int32) => rec v4 (a5 + 1) S3)))
def fX12_most_L27 (a1 : Int32) (a2 : Int32) (a3 : Int32) : Nat → Int32 → Int32 → St → Option (Int32 × St)
  | 0 => fun _ _ _ => none
  | n + 1 => fun a4 a5 S => fX12_most_L27_st a1 a2 a3 (fX12_most_L27 a1 a2 a3 n) a4 a5 S
def fX12_most (a1 : Int32) (a2 : Int32) (a3 : Int32) (S : St) : Option (Int32 × St) :=
  bnd (fX12_areHops a1 a2 a3 S) (fun v1 S2 => if v1 = 0 then (some ((-2), S2)) else (if a2 = a3 then (fX12_most_L27 a1 a2 a3 FU 0 1 S2) else (fX12_most_L27 a1 a2 a3 FU 0 0 S2)))
set_option maxRecDepth 100000 in
set_option maxHeartbeats 4000000 in
theorem tX12_most_L27 {Γ : Cx Int32} (hc : Cok Γ wM vI mX12_most) (a1 : Int32) (a2 : Int32) (a3 : Int32) : ∀ (n : Nat) (a4 : Int32) (a5 : Int32) (S : St), Ok Γ wM 27 [(1, .int a1), (2, .int a2), (3, .int a3), (4, .int a4), (5, .int a5)] [] S (fX12_most_L27 a1 a2 a3 n a4 a5 S) := by
  intro n
  induction n with
  | zero =>
    intro a4 a5 S
    exact ok_none
  | succ n ih =>
    intro a4 a5 S
    show Ok Γ wM 27 [(1, .int a1), (2, .int a2), (3, .int a3), (4, .int a4), (5, .int a5)] [] S (fX12_most_L27_st a1 a2 a3 (fX12_most_L27 a1 a2 a3 n) a4 a5 S)
    unfold fX12_most_L27_st
    refine ok_iload 4 hc dX12_most_27 rfl ?_
    refine ok_iload_n 0 hc dX12_most_29 rfl rfl ?_
    refine ok_icmp_ge_ite 65 hc dX12_most_30 (by decide) (fun h1 => ?_) (fun h1 => ?_)
    · refine ok_iload 3 hc dX12_most_65 rfl ?_
      exact ok_iret hc rfl dX12_most_67
    · refine ok_iload_n 0 hc dX12_most_33 rfl rfl ?_
      refine ok_iload_n 1 hc dX12_most_34 rfl rfl ?_
      refine ok_iload_n 2 hc dX12_most_35 rfl rfl ?_
      refine ok_iload 4 hc dX12_most_36 rfl ?_
      refine ok_callSi (As := [.int a1, .int a2, .int a3, .int a5]) (st := []) (fun n0 => [.int a1, .int a2, .int a3, .int a5]) hc SS_X12_316 rfl rfl rfl ⟨Nat.le_of_ble_eq_true rfl, Nat.le_of_ble_eq_true rfl⟩ (Nat.le_of_ble_eq_true rfl) (fun q h => tX12_meets a1 a2 a3 a5 S q h) dX12_most_38 (fun v2 S3 => ?_)
      refine ok_istore [(6, .int v2), (1, .int a1), (2, .int a2), (3, .int a3), (4, .int a4), (5, .int a5)] hc dX12_most_41 (Nat.le_of_ble_eq_true rfl) rfl ?_
      refine ok_iload 0 hc dX12_most_43 rfl ?_
      refine ok_iload 4 hc dX12_most_45 rfl ?_
      refine ok_lt (fun g => ∀ (v4 : Int32), Ok Γ wM 57 [(1, .int a1), (2, .int a2), (3, .int a3), (5, .int a5)] [.int v4] S3 (g v4)) ?_ (fun k5 hk5 => ?_)
      · intro v4
        refine ok_istore [(4, .int v4), (1, .int a1), (2, .int a2), (3, .int a3), (5, .int a5)] hc dX12_most_57 (Nat.le_of_ble_eq_true rfl) rfl ?_
        refine ok_iinc (v := 1) 4 [(5, .int (a5 + 1)), (4, .int v4), (1, .int a1), (2, .int a2), (3, .int a3)] hc dX12_most_59 rfl (by decide) (Nat.le_of_ble_eq_true rfl) rfl ?_
        refine ok_goto 27 hc dX12_most_62 (by decide) ?_
        refine ok_sub [2, 3, 4, 1, 0] rfl ?_
        exact ih _ _ _
      · refine ok_icmp_le 55 hc dX12_most_47 (by decide) (fun h6 => ?_) (fun h6 => ?_)
        · rw [if_pos h6]
          refine ok_iload 4 hc dX12_most_55 rfl ?_
          refine ok_sub [1, 2, 3, 5] rfl ?_
          exact hk5 _
        · rw [if_neg h6]
          refine ok_iload 0 hc dX12_most_50 rfl ?_
          refine ok_goto 57 hc dX12_most_52 (by decide) ?_
          refine ok_sub [1, 2, 3, 5] rfl ?_
          exact hk5 _
set_option maxRecDepth 100000 in
set_option maxHeartbeats 4000000 in
theorem tX12_most (a1 : Int32) (a2 : Int32) (a3 : Int32) (S : St) (q : Int32 × St) (h : fX12_most a1 a2 a3 S = some q) : MT vI wM mX12_most (fun n0 => [.ref (n0 + 0), .int a1, .int a2, .int a3]) S q := by
  refine mt_of (show plainFor yX12_most = true from by decide) (fun _ => Nat.le_of_ble_eq_true rfl) ?_
  intro Γ hc _
  rw [← h]
  show Ok Γ wM 0 [(0, rv Γ 0), (1, .int a1), (2, .int a2), (3, .int a3)] [] S _
  unfold fX12_most
  refine ok_iload_n 1 hc dX12_most_0 rfl rfl ?_
  refine ok_iload_n 2 hc dX12_most_1 rfl rfl ?_
  refine ok_iload_n 3 hc dX12_most_2 rfl rfl ?_
  refine ok_callSi (As := [.int a1, .int a2, .int a3]) (st := []) (fun n0 => [.int a1, .int a2, .int a3]) hc SS_X12_313 rfl rfl rfl ⟨Nat.le_of_ble_eq_true rfl, Nat.le_of_ble_eq_true rfl⟩ (Nat.le_of_ble_eq_true rfl) (fun q h => tX12_areHops a1 a2 a3 S q h) dX12_most_3 (fun v1 S2 => ?_)
  refine ok_if_ne_ite 12 hc dX12_most_6 (by decide) (fun h3 => ?_) (fun h3 => ?_)
  · refine ok_iconst (v := 0) hc dX12_most_12 (by decide) ?_
    refine ok_istore [(4, .int 0), (0, rv Γ 0), (1, .int a1), (2, .int a2), (3, .int a3)] hc dX12_most_13 (Nat.le_of_ble_eq_true rfl) rfl ?_
    refine ok_iload_n 3 hc dX12_most_15 rfl rfl ?_
    refine ok_iload_n 4 hc dX12_most_16 rfl rfl ?_
    refine ok_icmp_ne_ite 24 hc dX12_most_17 (by decide) (fun h4 => ?_) (fun h4 => ?_)
    · refine ok_iconst (v := 0) hc dX12_most_24 (by decide) ?_
      refine ok_istore [(5, .int 0), (4, .int 0), (0, rv Γ 0), (1, .int a1), (2, .int a2), (3, .int a3)] hc dX12_most_25 (Nat.le_of_ble_eq_true rfl) rfl ?_
      refine ok_sub [3, 4, 5, 1, 0] rfl ?_
      refine tX12_most_L27 hc _ _ _   FU _ _ _
    · refine ok_iconst (v := 1) hc dX12_most_20 (by decide) ?_
      refine ok_goto 25 hc dX12_most_21 (by decide) ?_
      refine ok_istore [(5, .int 1), (4, .int 0), (0, rv Γ 0), (1, .int a1), (2, .int a2), (3, .int a3)] hc dX12_most_25 (Nat.le_of_ble_eq_true rfl) rfl ?_
      refine ok_sub [3, 4, 5, 1, 0] rfl ?_
      refine tX12_most_L27 hc _ _ _   FU _ _ _
  · refine ok_bipush (v := (-2)) hc dX12_most_9 (by decide) ?_
    exact ok_iret hc rfl dX12_most_11
def fX12_odds (a1 : Int32) (a2 : Int32) (a3 : Int32) (S : St) : Option (Int32 × St) :=
  bnd (fX12_isWord a1 a2 a3 S) (fun v1 S2 => if v1 = 0 then (some ((-2), S2)) else (bnd (fX12_millionths a1 0 a2 a3 S2) (fun v4 S5 => some (v4, S5))))
set_option maxRecDepth 100000 in
set_option maxHeartbeats 4000000 in
theorem tX12_odds (a1 : Int32) (a2 : Int32) (a3 : Int32) (S : St) (q : Int32 × St) (h : fX12_odds a1 a2 a3 S = some q) : MT vI wM mX12_odds (fun n0 => [.ref (n0 + 0), .int a1, .int a2, .int a3]) S q := by
  refine mt_of (show plainFor yX12_odds = true from by decide) (fun _ => Nat.le_of_ble_eq_true rfl) ?_
  intro Γ hc _
  rw [← h]
  show Ok Γ wM 0 [(0, rv Γ 0), (1, .int a1), (2, .int a2), (3, .int a3)] [] S _
  unfold fX12_odds
  refine ok_iload_n 1 hc dX12_odds_0 rfl rfl ?_
  refine ok_iload_n 2 hc dX12_odds_1 rfl rfl ?_
  refine ok_iload_n 3 hc dX12_odds_2 rfl rfl ?_
  refine ok_callSi (As := [.int a1, .int a2, .int a3]) (st := []) (fun n0 => [.int a1, .int a2, .int a3]) hc SS_X12_305 rfl rfl rfl ⟨Nat.le_of_ble_eq_true rfl, Nat.le_of_ble_eq_true rfl⟩ (Nat.le_of_ble_eq_true rfl) (fun q h => tX12_isWord a1 a2 a3 S q h) dX12_odds_3 (fun v1 S2 => ?_)
  refine ok_if_eq_ite 19 hc dX12_odds_6 (by decide) (fun h3 => ?_) (fun h3 => ?_)
  · refine ok_bipush (v := (-2)) hc dX12_odds_19 (by decide) ?_
    exact ok_iret hc rfl dX12_odds_21
  · refine ok_iload_n 1 hc dX12_odds_9 rfl rfl ?_
    refine ok_iconst (v := 0) hc dX12_odds_10 (by decide) ?_
    refine ok_iload_n 2 hc dX12_odds_11 rfl rfl ?_
    refine ok_iload_n 3 hc dX12_odds_12 rfl rfl ?_
    refine ok_callSi (As := [.int a1, .int 0, .int a2, .int a3]) (st := []) (fun n0 => [.int a1, .int 0, .int a2, .int a3]) hc SS_X12_309 rfl rfl rfl ⟨Nat.le_of_ble_eq_true rfl, Nat.le_of_ble_eq_true rfl⟩ (Nat.le_of_ble_eq_true rfl) (fun q h => tX12_millionths a1 0 a2 a3 S2 q h) dX12_odds_13 (fun v4 S5 => ?_)
    refine ok_goto 21 hc dX12_odds_16 (by decide) ?_
    exact ok_iret hc rfl dX12_odds_21
def fX12_on (a1 : Int32) (a2 : Int32) (S : St) : Option (Int32 × St) :=
  bnd (fX12_isSender a1 S) (fun v1 S2 => if v1 = 0 then (some ((-2), S2)) else (if ib a1 20 then (lt (if (S2.1 16 (nt a1)) = a2 then 0 else 1) (fun (v5 : Int32) => if ib a1 20 ∧ b01 a2 then lt (wi S2 16 (nt a1) a2) (fun S7 => if v5 = 0 then (some (0, S7)) else (some (1, S7))) else none)) else none))
set_option maxRecDepth 100000 in
set_option maxHeartbeats 4000000 in
theorem tX12_on (a1 : Int32) (a2 : Int32) (S : St) (q : Int32 × St) (h : fX12_on a1 a2 S = some q) : MT vI wM mX12_on (fun n0 => [.ref (n0 + 0), .int a1, .int a2]) S q := by
  refine mt_of (show plainFor yX12_on = true from by decide) (fun _ => Nat.le_of_ble_eq_true rfl) ?_
  intro Γ hc _
  rw [← h]
  show Ok Γ wM 0 [(0, rv Γ 0), (1, .int a1), (2, .int a2)] [] S _
  unfold fX12_on
  refine ok_aload_n 0 hc dX12_on_0 rfl rfl ?_
  refine ok_iload_n 1 hc dX12_on_1 rfl rfl ?_
  refine ok_callVi (As := [.int a1]) (st := []) (fun n0 => [.ref (n0 + 0), .int a1]) hc VS_X12_237 sM_0 rfl rfl rfl ⟨Nat.le_of_ble_eq_true rfl, Nat.le_of_ble_eq_true rfl⟩ (Nat.le_of_ble_eq_true rfl) (fun q h => tX12_isSender a1 S q h) dX12_on_2 (fun v1 S2 => ?_)
  refine ok_if_ne_ite 11 hc dX12_on_5 (by decide) (fun h3 => ?_) (fun h3 => ?_)
  · refine ok_aload_n 0 hc dX12_on_11 rfl rfl ?_
    refine ok_getr 16 hc FS_X12_63 rfl sM_0 rfl dX12_on_12 ?_
    refine ok_iload_n 1 hc dX12_on_15 rfl rfl ?_
    refine ok_zald hc sM_16 dX12_on_16 (fun h4 => ?_)
    refine ok_iload_n 2 hc dX12_on_17 rfl rfl ?_
    refine ok_lt (fun g => ∀ (v5 : Int32), Ok Γ wM 26 [(0, rv Γ 0), (1, .int a1), (2, .int a2)] [.int v5] S2 (g v5)) ?_ (fun k6 hk6 => ?_)
    · intro v5
      refine ok_istore_n [(3, .int v5), (0, rv Γ 0), (1, .int a1), (2, .int a2)] hc dX12_on_26 rfl (Nat.le_of_ble_eq_true rfl) rfl ?_
      refine ok_aload_n 1 hc dX12_on_27 rfl rfl ?_
      refine ok_getr 16 hc FS_X12_63 rfl sM_0 rfl dX12_on_28 ?_
      refine ok_iload_n 2 hc dX12_on_31 rfl rfl ?_
      refine ok_iload_n 3 hc dX12_on_32 rfl rfl ?_
      refine ok_zast hc sM_16 dX12_on_33 (fun h8 => ?_)
      refine ok_ltS (fun S7 => ?_)
      refine ok_iload_n 0 hc dX12_on_34 rfl rfl ?_
      refine ok_if_eq_ite 42 hc dX12_on_35 (by decide) (fun h9 => ?_) (fun h9 => ?_)
      · refine ok_iconst (v := 0) hc dX12_on_42 (by decide) ?_
        exact ok_iret hc rfl dX12_on_43
      · refine ok_iconst (v := 1) hc dX12_on_38 (by decide) ?_
        refine ok_goto 43 hc dX12_on_39 (by decide) ?_
        exact ok_iret hc rfl dX12_on_43
    · refine ok_icmp_eq 25 hc dX12_on_18 (by decide) (fun h10 => ?_) (fun h10 => ?_)
      · rw [if_pos h10]
        refine ok_iconst (v := 0) hc dX12_on_25 (by decide) ?_
        exact hk6 _
      · rw [if_neg h10]
        refine ok_iconst (v := 1) hc dX12_on_21 (by decide) ?_
        refine ok_goto 26 hc dX12_on_22 (by decide) ?_
        exact hk6 _
  · refine ok_bipush (v := (-2)) hc dX12_on_8 (by decide) ?_
    exact ok_iret hc rfl dX12_on_10
def fX12_part_L62_st (kx0 : Int32 → St → Option (Int32 × St)) (a2 : Int32) (rec : Int32 → St → Option (Int32 × St)) (a4 : Int32) (S : St) : Option (Int32 × St) :=
  if ib a4 8 then (if (S.1 17 (nt a4)) = a2 then (kx0 a4 S) else (rec (a4 + 1) S)) else none
def fX12_part_L62 (kx0 : Int32 → St → Option (Int32 × St)) (a2 : Int32) : Nat → Int32 → St → Option (Int32 × St)
  | 0 => fun _ _ => none
  | n + 1 => fun a4 S => fX12_part_L62_st kx0 a2 (fX12_part_L62 kx0 a2 n) a4 S
def fX12_part (a1 : Int32) (a2 : Int32) (S : St) : Option (Int32 × St) :=
  bnd (fX12_takesSet a1 S) (fun v1 S2 => if v1 = 0 then (some ((-2), S2)) else (bnd (fX12_isSender a2 S2) (fun v4 S5 => if v4 = 0 then (some ((-2), S5)) else (if ((a1 >>> (a2 &&& 31)) &&& 1) = 0 then (some ((-2), S5)) else (bnd (fX12_findFewest S5) (fun _ S8 => if ib ((1 <<< ((S8.1 0 22) &&& 31)) - 1) 256 then (lt (S8.1 19 (nt ((1 <<< ((S8.1 0 22) &&& 31)) - 1))) (fun (v10 : Int32) => if v10 ≤ 8 then (bnd (fX12_parts v10 S8) (fun _ S12 => fX12_part_L62 (fun (v13 : Int32) (S14 : St) => if ib v13 8 then (some (S14.1 20 (nt v13), S14)) else none) a2 FU 0 S12)) else (some ((-3), S8)))) else none))))))
set_option maxRecDepth 100000 in
set_option maxHeartbeats 4000000 in
theorem tX12_part_L62 {Γ : Cx Int32} (hc : Cok Γ wM vI mX12_part) (kx0 : Int32 → St → Option (Int32 × St)) (a2 : Int32) (hx0 : ∀ (a4 : Int32) (S : St), Ok Γ wM 79 [(0, rv Γ 0), (4, .int a4)] [] S (kx0 a4 S)) : ∀ (n : Nat) (a4 : Int32) (S : St), Ok Γ wM 62 [(0, rv Γ 0), (2, .int a2), (4, .int a4)] [] S (fX12_part_L62 kx0 a2 n a4 S) := by
  intro n
  induction n with
  | zero =>
    intro a4 S
    exact ok_none
  | succ n ih =>
    intro a4 S
    show Ok Γ wM 62 [(0, rv Γ 0), (2, .int a2), (4, .int a4)] [] S (fX12_part_L62_st kx0 a2 (fX12_part_L62 kx0 a2 n) a4 S)
    unfold fX12_part_L62_st
    refine ok_aload_n 0 hc dX12_part_62 rfl rfl ?_
    refine ok_getr 17 hc FS_X12_67 rfl sM_0 rfl dX12_part_63 ?_
    refine ok_iload 2 hc dX12_part_66 rfl ?_
    refine ok_iald hc sM_17 dX12_part_68 (fun h1 => ?_)
    refine ok_iload_n 1 hc dX12_part_69 rfl rfl ?_
    refine ok_icmp_eq_ite 79 hc dX12_part_70 (by decide) (fun h2 => ?_) (fun h2 => ?_)
    · refine ok_sub [0, 2] rfl ?_
      exact hx0 _ _
    · refine ok_iinc (v := 1) 2 [(4, .int (a4 + 1)), (0, rv Γ 0), (2, .int a2)] hc dX12_part_73 rfl (by decide) (Nat.le_of_ble_eq_true rfl) rfl ?_
      refine ok_goto 62 hc dX12_part_76 (by decide) ?_
      refine ok_sub [1, 2, 0] rfl ?_
      exact ih _ _
set_option maxRecDepth 100000 in
set_option maxHeartbeats 4000000 in
theorem tX12_part (a1 : Int32) (a2 : Int32) (S : St) (q : Int32 × St) (h : fX12_part a1 a2 S = some q) : MT vI wM mX12_part (fun n0 => [.ref (n0 + 0), .int a1, .int a2]) S q := by
  refine mt_of (show plainFor yX12_part = true from by decide) (fun _ => Nat.le_of_ble_eq_true rfl) ?_
  intro Γ hc _
  rw [← h]
  show Ok Γ wM 0 [(0, rv Γ 0), (1, .int a1), (2, .int a2)] [] S _
  unfold fX12_part
  refine ok_aload_n 0 hc dX12_part_0 rfl rfl ?_
  refine ok_iload_n 1 hc dX12_part_1 rfl rfl ?_
  refine ok_callVi (As := [.int a1]) (st := []) (fun n0 => [.ref (n0 + 0), .int a1]) hc VS_X12_283 sM_0 rfl rfl rfl ⟨Nat.le_of_ble_eq_true rfl, Nat.le_of_ble_eq_true rfl⟩ (Nat.le_of_ble_eq_true rfl) (fun q h => tX12_takesSet a1 S q h) dX12_part_2 (fun v1 S2 => ?_)
  refine ok_if_eq_ite 24 hc dX12_part_5 (by decide) (fun h3 => ?_) (fun h3 => ?_)
  · refine ok_bipush (v := (-2)) hc dX12_part_24 (by decide) ?_
    exact ok_iret hc rfl dX12_part_26
  · refine ok_aload_n 0 hc dX12_part_8 rfl rfl ?_
    refine ok_iload_n 2 hc dX12_part_9 rfl rfl ?_
    refine ok_callVi (As := [.int a2]) (st := []) (fun n0 => [.ref (n0 + 0), .int a2]) hc VS_X12_237 sM_0 rfl rfl rfl ⟨Nat.le_of_ble_eq_true rfl, Nat.le_of_ble_eq_true rfl⟩ (Nat.le_of_ble_eq_true rfl) (fun q h => tX12_isSender a2 S2 q h) dX12_part_10 (fun v4 S5 => ?_)
    refine ok_if_eq_ite 24 hc dX12_part_13 (by decide) (fun h6 => ?_) (fun h6 => ?_)
    · refine ok_bipush (v := (-2)) hc dX12_part_24 (by decide) ?_
      exact ok_iret hc rfl dX12_part_26
    · refine ok_iload_n 1 hc dX12_part_16 rfl rfl ?_
      refine ok_iload_n 2 hc dX12_part_17 rfl rfl ?_
      refine ok_ishr hc dX12_part_18 ?_
      refine ok_iconst (v := 1) hc dX12_part_19 (by decide) ?_
      refine ok_iand hc dX12_part_20 ?_
      refine ok_if_ne_ite 27 hc dX12_part_21 (by decide) (fun h7 => ?_) (fun h7 => ?_)
      · refine ok_aload_n 0 hc dX12_part_27 rfl rfl ?_
        refine ok_callVu (As := []) (st := []) (fun n0 => [.ref (n0 + 0)]) hc VS_X12_286 sM_0 rfl rfl rfl ⟨Nat.le_of_ble_eq_true rfl, Nat.le_of_ble_eq_true rfl⟩ (Nat.le_of_ble_eq_true rfl) (fun q h => tX12_findFewest S5 q h) dX12_part_28 (fun _ S8 => ?_)
        refine ok_aload_n 0 hc dX12_part_31 rfl rfl ?_
        refine ok_getr 19 hc FS_X12_73 rfl sM_0 rfl dX12_part_32 ?_
        refine ok_iconst (v := 1) hc dX12_part_35 (by decide) ?_
        refine ok_aload_n 0 hc dX12_part_36 rfl rfl ?_
        refine ok_geti hc FS_X12_277 rfl sM_0 dX12_part_37 ?_
        refine ok_ishl hc dX12_part_40 ?_
        refine ok_iconst (v := 1) hc dX12_part_41 (by decide) ?_
        refine ok_isub hc dX12_part_42 ?_
        refine ok_iald hc sM_19 dX12_part_43 (fun h9 => ?_)
        refine ok_lti (fun v10 => ?_)
        refine ok_istore_n [(3, .int v10), (0, rv Γ 0), (1, .int a1), (2, .int a2)] hc dX12_part_44 rfl (Nat.le_of_ble_eq_true rfl) rfl ?_
        refine ok_iload_n 0 hc dX12_part_45 rfl rfl ?_
        refine ok_bipush (v := 8) hc dX12_part_46 (by decide) ?_
        refine ok_icmp_le_ite 54 hc dX12_part_48 (by decide) (fun h11 => ?_) (fun h11 => ?_)
        · refine ok_aload_n 1 hc dX12_part_54 rfl rfl ?_
          refine ok_iload_n 0 hc dX12_part_55 rfl rfl ?_
          refine ok_callVu (As := [.int v10]) (st := []) (fun n0 => [.ref (n0 + 0), .int v10]) hc VS_X12_292 sM_0 rfl rfl rfl ⟨Nat.le_of_ble_eq_true rfl, Nat.le_of_ble_eq_true rfl⟩ (Nat.le_of_ble_eq_true rfl) (fun q h => tX12_parts v10 S8 q h) dX12_part_56 (fun _ S12 => ?_)
          refine ok_iconst (v := 0) hc dX12_part_59 (by decide) ?_
          refine ok_istore [(4, .int 0), (3, .int v10), (0, rv Γ 0), (1, .int a1), (2, .int a2)] hc dX12_part_60 (Nat.le_of_ble_eq_true rfl) rfl ?_
          refine ok_sub [2, 4, 0] rfl ?_
          refine tX12_part_L62 hc _ _  ?_ FU _ _
          · intro v13 S14
            refine ok_aload_n 0 hc dX12_part_79 rfl rfl ?_
            refine ok_getr 20 hc FS_X12_76 rfl sM_0 rfl dX12_part_80 ?_
            refine ok_iload 1 hc dX12_part_83 rfl ?_
            refine ok_iald hc sM_20 dX12_part_85 (fun h15 => ?_)
            exact ok_iret hc rfl dX12_part_86
        · refine ok_bipush (v := (-3)) hc dX12_part_51 (by decide) ?_
          exact ok_iret hc rfl dX12_part_53
      · refine ok_bipush (v := (-2)) hc dX12_part_24 (by decide) ?_
        exact ok_iret hc rfl dX12_part_26
def fX12_pass (a1 : Int32) (S : St) : Option (Int32 × St) :=
  bnd (fX12_in a1.toInt64 1 1000 S) (fun v1 S2 => if v1 = 0 then (some ((-2), S2)) else (lt (wi S2 0 8 ((S2.1 0 8) + a1)) (fun S4 => some (S4.1 0 8, S4))))
set_option maxRecDepth 100000 in
set_option maxHeartbeats 4000000 in
theorem tX12_pass (a1 : Int32) (S : St) (q : Int32 × St) (h : fX12_pass a1 S = some q) : MT vI wM mX12_pass (fun n0 => [.ref (n0 + 0), .int a1]) S q := by
  refine mt_of (show plainFor yX12_pass = true from by decide) (fun _ => Nat.le_of_ble_eq_true rfl) ?_
  intro Γ hc _
  rw [← h]
  show Ok Γ wM 0 [(0, rv Γ 0), (1, .int a1)] [] S _
  unfold fX12_pass
  refine ok_iload_n 1 hc dX12_pass_0 rfl rfl ?_
  refine ok_i2l hc dX12_pass_1 ?_
  refine ok_lconst (v := 1) hc dX12_pass_2 (by decide) ?_
  refine ok_ldc2 hc dX12_pass_3 W_1357 ?_
  refine ok_callSi (As := [.long a1.toInt64, .long 1, .long 1000]) (st := []) (fun n0 => [.long a1.toInt64, .long 1, .long 1000]) hc SS_X12_152 rfl rfl rfl ⟨Nat.le_of_ble_eq_true rfl, Nat.le_of_ble_eq_true rfl⟩ (Nat.le_of_ble_eq_true rfl) (fun q h => tX12_in a1.toInt64 1 1000 S q h) dX12_pass_6 (fun v1 S2 => ?_)
  refine ok_if_ne_ite 15 hc dX12_pass_9 (by decide) (fun h3 => ?_) (fun h3 => ?_)
  · refine ok_aload_n 0 hc dX12_pass_15 rfl rfl ?_
    refine ok_dup hc dX12_pass_16 rfl ?_
    refine ok_geti hc FS_X12_226 rfl sM_0 dX12_pass_17 ?_
    refine ok_iload_n 1 hc dX12_pass_20 rfl rfl ?_
    refine ok_iadd hc dX12_pass_21 ?_
    refine ok_puti hc FP_X12_226 rfl sM_0 dX12_pass_22 ?_
    refine ok_ltS (fun S4 => ?_)
    refine ok_aload_n 0 hc dX12_pass_25 rfl rfl ?_
    refine ok_geti hc FS_X12_226 rfl sM_0 dX12_pass_26 ?_
    exact ok_iret hc rfl dX12_pass_29
  · refine ok_bipush (v := (-2)) hc dX12_pass_12 (by decide) ?_
    exact ok_iret hc rfl dX12_pass_14
def fX12_pays (a1 : Int32) (S : St) : Option (Int32 × St) :=
  bnd (fX12_in a1.toInt64 0 (((S.1 0 30) - 1).toInt64) S) (fun v1 S2 => if v1 = 0 then (some ((-2), S2)) else (bnd (fX12_bestBids 0 S2) (fun v4 S5 => if ((v4 >>> (a1 &&& 31)) &&& 1) = 0 then (some (0, S5)) else (bnd (fX12_bestBids (1 <<< (a1 &&& 31)) S5) (fun v7 S8 => bnd (fX12_priceOf v7 S8) (fun v9 S10 => bnd (fX12_priceOf v4 S10) (fun v11 S12 => if ib a1 8 then (some (v9 - (v11 - (S12.1 26 (nt a1))), S12)) else none)))))))
set_option maxRecDepth 100000 in
set_option maxHeartbeats 4000000 in
theorem tX12_pays (a1 : Int32) (S : St) (q : Int32 × St) (h : fX12_pays a1 S = some q) : MT vI wM mX12_pays (fun n0 => [.ref (n0 + 0), .int a1]) S q := by
  refine mt_of (show plainFor yX12_pays = true from by decide) (fun _ => Nat.le_of_ble_eq_true rfl) ?_
  intro Γ hc _
  rw [← h]
  show Ok Γ wM 0 [(0, rv Γ 0), (1, .int a1)] [] S _
  unfold fX12_pays
  refine ok_iload_n 1 hc dX12_pays_0 rfl rfl ?_
  refine ok_i2l hc dX12_pays_1 ?_
  refine ok_lconst (v := 0) hc dX12_pays_2 (by decide) ?_
  refine ok_aload_n 0 hc dX12_pays_3 rfl rfl ?_
  refine ok_geti hc FS_X12_334 rfl sM_0 dX12_pays_4 ?_
  refine ok_iconst (v := 1) hc dX12_pays_7 (by decide) ?_
  refine ok_isub hc dX12_pays_8 ?_
  refine ok_i2l hc dX12_pays_9 ?_
  refine ok_callSi (As := [.long a1.toInt64, .long 0, .long (((S.1 0 30) - 1).toInt64)]) (st := []) (fun n0 => [.long a1.toInt64, .long 0, .long (((S.1 0 30) - 1).toInt64)]) hc SS_X12_152 rfl rfl rfl ⟨Nat.le_of_ble_eq_true rfl, Nat.le_of_ble_eq_true rfl⟩ (Nat.le_of_ble_eq_true rfl) (fun q h => tX12_in a1.toInt64 0 (((S.1 0 30) - 1).toInt64) S q h) dX12_pays_10 (fun v1 S2 => ?_)
  refine ok_if_ne_ite 19 hc dX12_pays_13 (by decide) (fun h3 => ?_) (fun h3 => ?_)
  · refine ok_aload_n 0 hc dX12_pays_19 rfl rfl ?_
    refine ok_iconst (v := 0) hc dX12_pays_20 (by decide) ?_
    refine ok_callVi (As := [.int 0]) (st := []) (fun n0 => [.ref (n0 + 0), .int 0]) hc VS_X12_340 sM_0 rfl rfl rfl ⟨Nat.le_of_ble_eq_true rfl, Nat.le_of_ble_eq_true rfl⟩ (Nat.le_of_ble_eq_true rfl) (fun q h => tX12_bestBids 0 S2 q h) dX12_pays_21 (fun v4 S5 => ?_)
    refine ok_istore_n [(2, .int v4), (0, rv Γ 0), (1, .int a1)] hc dX12_pays_24 rfl (Nat.le_of_ble_eq_true rfl) rfl ?_
    refine ok_iload_n 0 hc dX12_pays_25 rfl rfl ?_
    refine ok_iload_n 2 hc dX12_pays_26 rfl rfl ?_
    refine ok_ishr hc dX12_pays_27 ?_
    refine ok_iconst (v := 1) hc dX12_pays_28 (by decide) ?_
    refine ok_iand hc dX12_pays_29 ?_
    refine ok_if_ne_ite 35 hc dX12_pays_30 (by decide) (fun h6 => ?_) (fun h6 => ?_)
    · refine ok_aload_n 1 hc dX12_pays_35 rfl rfl ?_
      refine ok_aload_n 1 hc dX12_pays_36 rfl rfl ?_
      refine ok_iconst (v := 1) hc dX12_pays_37 (by decide) ?_
      refine ok_iload_n 2 hc dX12_pays_38 rfl rfl ?_
      refine ok_ishl hc dX12_pays_39 ?_
      refine ok_callVi (As := [.int (1 <<< (a1 &&& 31))]) (st := [rv Γ 0]) (fun n0 => [.ref (n0 + 0), .int (1 <<< (a1 &&& 31))]) hc VS_X12_340 sM_0 rfl rfl rfl ⟨Nat.le_of_ble_eq_true rfl, Nat.le_of_ble_eq_true rfl⟩ (Nat.le_of_ble_eq_true rfl) (fun q h => tX12_bestBids (1 <<< (a1 &&& 31)) S5 q h) dX12_pays_40 (fun v7 S8 => ?_)
      refine ok_callVi (As := [.int v7]) (st := []) (fun n0 => [.ref (n0 + 0), .int v7]) hc VS_X12_337 sM_0 rfl rfl rfl ⟨Nat.le_of_ble_eq_true rfl, Nat.le_of_ble_eq_true rfl⟩ (Nat.le_of_ble_eq_true rfl) (fun q h => tX12_priceOf v7 S8 q h) dX12_pays_43 (fun v9 S10 => ?_)
      refine ok_aload_n 1 hc dX12_pays_46 rfl rfl ?_
      refine ok_iload_n 0 hc dX12_pays_47 rfl rfl ?_
      refine ok_callVi (As := [.int v4]) (st := [.int v9]) (fun n0 => [.ref (n0 + 0), .int v4]) hc VS_X12_337 sM_0 rfl rfl rfl ⟨Nat.le_of_ble_eq_true rfl, Nat.le_of_ble_eq_true rfl⟩ (Nat.le_of_ble_eq_true rfl) (fun q h => tX12_priceOf v4 S10 q h) dX12_pays_48 (fun v11 S12 => ?_)
      refine ok_aload_n 1 hc dX12_pays_51 rfl rfl ?_
      refine ok_getr 26 hc FS_X12_94 rfl sM_0 rfl dX12_pays_52 ?_
      refine ok_iload_n 2 hc dX12_pays_55 rfl rfl ?_
      refine ok_iald hc sM_26 dX12_pays_56 (fun h13 => ?_)
      refine ok_isub hc dX12_pays_57 ?_
      refine ok_isub hc dX12_pays_58 ?_
      exact ok_iret hc rfl dX12_pays_59
    · refine ok_iconst (v := 0) hc dX12_pays_33 (by decide) ?_
      exact ok_iret hc rfl dX12_pays_34
  · refine ok_bipush (v := (-2)) hc dX12_pays_16 (by decide) ?_
    exact ok_iret hc rfl dX12_pays_18
def fX12_plan (a1 : Int32) (a2 : Int32) (S : St) : Option (Int32 × St) :=
  bnd (fX12_in a1.toInt64 0 10000 S) (fun v1 S2 => if v1 = 0 then (some ((-2), S2)) else (bnd (fX12_in a2.toInt64 0 2 S2) (fun v4 S5 => if v4 = 0 then (some ((-2), S5)) else (bnd (fX12_findPlan a1 S5) (fun _ S7 => if a2 = 0 then (some (S7.1 0 55, S7)) else (if a2 = 1 then (some (S7.1 0 56, S7)) else (some (S7.1 0 57, S7))))))))
set_option maxRecDepth 100000 in
set_option maxHeartbeats 4000000 in
theorem tX12_plan (a1 : Int32) (a2 : Int32) (S : St) (q : Int32 × St) (h : fX12_plan a1 a2 S = some q) : MT vI wM mX12_plan (fun n0 => [.ref (n0 + 0), .int a1, .int a2]) S q := by
  refine mt_of (show plainFor yX12_plan = true from by decide) (fun _ => Nat.le_of_ble_eq_true rfl) ?_
  intro Γ hc _
  rw [← h]
  show Ok Γ wM 0 [(0, rv Γ 0), (1, .int a1), (2, .int a2)] [] S _
  unfold fX12_plan
  refine ok_iload_n 1 hc dX12_plan_0 rfl rfl ?_
  refine ok_i2l hc dX12_plan_1 ?_
  refine ok_lconst (v := 0) hc dX12_plan_2 (by decide) ?_
  refine ok_ldc2 hc dX12_plan_3 W_1333 ?_
  refine ok_callSi (As := [.long a1.toInt64, .long 0, .long 10000]) (st := []) (fun n0 => [.long a1.toInt64, .long 0, .long 10000]) hc SS_X12_152 rfl rfl rfl ⟨Nat.le_of_ble_eq_true rfl, Nat.le_of_ble_eq_true rfl⟩ (Nat.le_of_ble_eq_true rfl) (fun q h => tX12_in a1.toInt64 0 10000 S q h) dX12_plan_6 (fun v1 S2 => ?_)
  refine ok_if_eq_ite 24 hc dX12_plan_9 (by decide) (fun h3 => ?_) (fun h3 => ?_)
  · refine ok_bipush (v := (-2)) hc dX12_plan_24 (by decide) ?_
    exact ok_iret hc rfl dX12_plan_26
  · refine ok_iload_n 2 hc dX12_plan_12 rfl rfl ?_
    refine ok_i2l hc dX12_plan_13 ?_
    refine ok_lconst (v := 0) hc dX12_plan_14 (by decide) ?_
    refine ok_ldc2 hc dX12_plan_15 W_1536 ?_
    refine ok_callSi (As := [.long a2.toInt64, .long 0, .long 2]) (st := []) (fun n0 => [.long a2.toInt64, .long 0, .long 2]) hc SS_X12_152 rfl rfl rfl ⟨Nat.le_of_ble_eq_true rfl, Nat.le_of_ble_eq_true rfl⟩ (Nat.le_of_ble_eq_true rfl) (fun q h => tX12_in a2.toInt64 0 2 S2 q h) dX12_plan_18 (fun v4 S5 => ?_)
    refine ok_if_ne_ite 27 hc dX12_plan_21 (by decide) (fun h6 => ?_) (fun h6 => ?_)
    · refine ok_aload_n 0 hc dX12_plan_27 rfl rfl ?_
      refine ok_iload_n 1 hc dX12_plan_28 rfl rfl ?_
      refine ok_callVu (As := [.int a1]) (st := []) (fun n0 => [.ref (n0 + 0), .int a1]) hc VS_X12_419 sM_0 rfl rfl rfl ⟨Nat.le_of_ble_eq_true rfl, Nat.le_of_ble_eq_true rfl⟩ (Nat.le_of_ble_eq_true rfl) (fun q h => tX12_findPlan a1 S5 q h) dX12_plan_29 (fun _ S7 => ?_)
      refine ok_iload_n 2 hc dX12_plan_32 rfl rfl ?_
      refine ok_if_ne_ite 43 hc dX12_plan_33 (by decide) (fun h8 => ?_) (fun h8 => ?_)
      · refine ok_iload_n 2 hc dX12_plan_43 rfl rfl ?_
        refine ok_iconst (v := 1) hc dX12_plan_44 (by decide) ?_
        refine ok_icmp_ne_ite 55 hc dX12_plan_45 (by decide) (fun h9 => ?_) (fun h9 => ?_)
        · refine ok_aload_n 0 hc dX12_plan_55 rfl rfl ?_
          refine ok_geti hc FS_X12_413 rfl sM_0 dX12_plan_56 ?_
          exact ok_iret hc rfl dX12_plan_59
        · refine ok_aload_n 0 hc dX12_plan_48 rfl rfl ?_
          refine ok_geti hc FS_X12_410 rfl sM_0 dX12_plan_49 ?_
          refine ok_goto 59 hc dX12_plan_52 (by decide) ?_
          exact ok_iret hc rfl dX12_plan_59
      · refine ok_aload_n 0 hc dX12_plan_36 rfl rfl ?_
        refine ok_geti hc FS_X12_407 rfl sM_0 dX12_plan_37 ?_
        refine ok_goto 59 hc dX12_plan_40 (by decide) ?_
        exact ok_iret hc rfl dX12_plan_59
    · refine ok_bipush (v := (-2)) hc dX12_plan_24 (by decide) ?_
      exact ok_iret hc rfl dX12_plan_26
