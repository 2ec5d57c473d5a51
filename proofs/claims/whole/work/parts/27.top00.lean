def fX11_about (a1 : Int32) (a2 : Int32) (S : St) : Option (Int32 × St) :=
  bnd (fX0_has a1 S) (fun v1 S2 => if v1 = 0 then (some ((-2147483648), S2)) else (bnd (fX0_tell a1 a2 S2) (fun v4 S5 => some (v4, S5))))
set_option maxRecDepth 100000 in
set_option maxHeartbeats 4000000 in
theorem tX11_about (a1 : Int32) (a2 : Int32) (S : St) (q : Int32 × St) (h : fX11_about a1 a2 S = some q) : MT vI wX mX11_about (fun n0 => [.ref (n0 + 0), .int a1, .int a2]) S q := by
  refine mt_of (show plainFor yX11_about = true from by decide) (fun _ => Nat.le_of_ble_eq_true rfl) ?_
  intro Γ hc _
  rw [← h]
  show Ok Γ wX 0 [(0, rv Γ 0), (1, .int a1), (2, .int a2)] [] S _
  unfold fX11_about
  refine ok_aload_n 0 hc dX11_about_0 rfl rfl ?_
  refine ok_getr 17 hc FS_X11_37 rfl sX_0 rfl dX11_about_1 ?_
  refine ok_iload_n 1 hc dX11_about_4 rfl rfl ?_
  refine ok_callVi (As := [.int a1]) (st := []) (fun n0 => [.ref (n0 + 17), .int a1]) hc VS_X11_167 sX_17 rfl rfl rfl ⟨Nat.le_of_ble_eq_true rfl, Nat.le_of_ble_eq_true rfl⟩ (Nat.le_of_ble_eq_true rfl) (fun q h => tX0_has a1 S q h) dX11_about_5 (fun v1 S2 => ?_)
  refine ok_if_eq_ite 23 hc dX11_about_8 (by decide) (fun h3 => ?_) (fun h3 => ?_)
  · refine ok_ldc hc dX11_about_23 W_555 ?_
    exact ok_iret hc rfl dX11_about_25
  · refine ok_aload_n 0 hc dX11_about_11 rfl rfl ?_
    refine ok_getr 17 hc FS_X11_37 rfl sX_0 rfl dX11_about_12 ?_
    refine ok_iload_n 1 hc dX11_about_15 rfl rfl ?_
    refine ok_iload_n 2 hc dX11_about_16 rfl rfl ?_
    refine ok_callVi (As := [.int a1, .int a2]) (st := []) (fun n0 => [.ref (n0 + 17), .int a1, .int a2]) hc VS_X11_171 sX_17 rfl rfl rfl ⟨Nat.le_of_ble_eq_true rfl, Nat.le_of_ble_eq_true rfl⟩ (Nat.le_of_ble_eq_true rfl) (fun q h => tX0_tell a1 a2 S2 q h) dX11_about_17 (fun v4 S5 => ?_)
    refine ok_goto 25 hc dX11_about_20 (by decide) ?_
    exact ok_iret hc rfl dX11_about_25
def fX11_assign_L37_st (kx0 : St → Option (Int32 × St)) (rec : Int32 → St → Option (Int32 × St)) (a2 : Int32) (S : St) : Option (Int32 × St) :=
  if (S.1 41 8) ≤ a2 then (kx0 S) else (if ib a2 8 then (if ib (S.1 42 (nt a2)) 20 then (if ib a2 8 then (lt (wi S (19 + nt (S.1 42 (nt a2))) 7 (S.1 47 (nt a2))) (fun S5 => rec (a2 + 1) S5)) else none) else none) else none)
def fX11_assign_L37 (kx0 : St → Option (Int32 × St)) : Nat → Int32 → St → Option (Int32 × St)
  | 0 => fun _ _ => none
  | n + 1 => fun a2 S => fX11_assign_L37_st kx0 (fX11_assign_L37 kx0 n) a2 S
def fX11_assign (a1 : Int32) (S : St) : Option (Int32 × St) :=
  bnd (fX4_isSet a1 S) (fun v1 S2 => if v1 = 0 then (some ((-2), S2)) else (bnd (fX4_prepare a1 S2) (fun _ S4 => bnd (fX4_divide S4) (fun v5 S6 => if v5 = 0 then (some ((-3), S6)) else (fX11_assign_L37 (fun (S8 : St) => bnd (fX4_fewestSlots S8) (fun v9 S10 => some (v9, S10))) FU 0 S6)))))
set_option maxRecDepth 100000 in
set_option maxHeartbeats 4000000 in
theorem tX11_assign_L37 {Γ : Cx Int32} (hc : Cok Γ wX vI mX11_assign) (kx0 : St → Option (Int32 × St)) (hx0 : ∀ (S : St), Ok Γ wX 83 [(0, rv Γ 0)] [] S (kx0 S)) : ∀ (n : Nat) (a2 : Int32) (S : St), Ok Γ wX 37 [(0, rv Γ 0), (2, .int a2)] [] S (fX11_assign_L37 kx0 n a2 S) := by
  intro n
  induction n with
  | zero =>
    intro a2 S
    exact ok_none
  | succ n ih =>
    intro a2 S
    show Ok Γ wX 37 [(0, rv Γ 0), (2, .int a2)] [] S (fX11_assign_L37_st kx0 (fX11_assign_L37 kx0 n) a2 S)
    unfold fX11_assign_L37_st
    refine ok_iload_n 1 hc dX11_assign_37 rfl rfl ?_
    refine ok_aload_n 0 hc dX11_assign_38 rfl rfl ?_
    refine ok_getr 41 hc FS_X11_46 rfl sX_0 rfl dX11_assign_39 ?_
    refine ok_geti hc FS_X11_244 rfl sX_41 dX11_assign_42 ?_
    refine ok_icmp_ge_ite 83 hc dX11_assign_45 (by decide) (fun h1 => ?_) (fun h1 => ?_)
    · refine ok_sub [0] rfl ?_
      exact hx0 _
    · refine ok_aload_n 0 hc dX11_assign_48 rfl rfl ?_
      refine ok_getr 17 hc FS_X11_37 rfl sX_0 rfl dX11_assign_49 ?_
      refine ok_getr 18 hc FS_X11_143 rfl sX_17 rfl dX11_assign_52 ?_
      refine ok_aload_n 0 hc dX11_assign_55 rfl rfl ?_
      refine ok_getr 41 hc FS_X11_46 rfl sX_0 rfl dX11_assign_56 ?_
      refine ok_getr 42 hc FS_X11_245 rfl sX_41 rfl dX11_assign_59 ?_
      refine ok_iload_n 1 hc dX11_assign_62 rfl rfl ?_
      refine ok_iald hc sX_42 dX11_assign_63 (fun h2 => ?_)
      refine ok_aald (fun j => 19 + j) "AirParted$Sender" hc sX_18 rfl snd_rf dX11_assign_64 (fun h3 => ?_)
      show Ok Γ wX 65 [(0, rv Γ 0), (2, .int a2)] (rv Γ (19 + nt (S.1 42 (nt a2))) :: []) S _
      refine ok_aload_n 0 hc dX11_assign_65 rfl rfl ?_
      refine ok_getr 41 hc FS_X11_46 rfl sX_0 rfl dX11_assign_66 ?_
      refine ok_getr 47 hc FS_X11_230 rfl sX_41 rfl dX11_assign_69 ?_
      refine ok_iload_n 1 hc dX11_assign_72 rfl rfl ?_
      refine ok_iald hc sX_47 dX11_assign_73 (fun h4 => ?_)
      refine ok_puti hc FP_X11_248 rfl (snd_ob h3) dX11_assign_74 ?_
      refine ok_ltS (fun S5 => ?_)
      refine ok_iinc (v := 1) 1 [(2, .int (a2 + 1)), (0, rv Γ 0)] hc dX11_assign_77 rfl (by decide) (Nat.le_of_ble_eq_true rfl) rfl ?_
      refine ok_goto 37 hc dX11_assign_80 (by decide) ?_
      refine ok_sub [1, 0] rfl ?_
      exact ih _ _
set_option maxRecDepth 100000 in
set_option maxHeartbeats 4000000 in
theorem tX11_assign (a1 : Int32) (S : St) (q : Int32 × St) (h : fX11_assign a1 S = some q) : MT vI wX mX11_assign (fun n0 => [.ref (n0 + 0), .int a1]) S q := by
  refine mt_of (show plainFor yX11_assign = true from by decide) (fun _ => Nat.le_of_ble_eq_true rfl) ?_
  intro Γ hc _
  rw [← h]
  show Ok Γ wX 0 [(0, rv Γ 0), (1, .int a1)] [] S _
  unfold fX11_assign
  refine ok_aload_n 0 hc dX11_assign_0 rfl rfl ?_
  refine ok_getr 41 hc FS_X11_46 rfl sX_0 rfl dX11_assign_1 ?_
  refine ok_iload_n 1 hc dX11_assign_4 rfl rfl ?_
  refine ok_callVi (As := [.int a1]) (st := []) (fun n0 => [.ref (n0 + 41), .int a1]) hc VS_X11_209 sX_41 rfl rfl rfl ⟨Nat.le_of_ble_eq_true rfl, Nat.le_of_ble_eq_true rfl⟩ (Nat.le_of_ble_eq_true rfl) (fun q h => tX4_isSet a1 S q h) dX11_assign_5 (fun v1 S2 => ?_)
  refine ok_if_ne_ite 14 hc dX11_assign_8 (by decide) (fun h3 => ?_) (fun h3 => ?_)
  · refine ok_aload_n 0 hc dX11_assign_14 rfl rfl ?_
    refine ok_getr 41 hc FS_X11_46 rfl sX_0 rfl dX11_assign_15 ?_
    refine ok_iload_n 1 hc dX11_assign_18 rfl rfl ?_
    refine ok_callVu (As := [.int a1]) (st := []) (fun n0 => [.ref (n0 + 41), .int a1]) hc VS_X11_212 sX_41 rfl rfl rfl ⟨Nat.le_of_ble_eq_true rfl, Nat.le_of_ble_eq_true rfl⟩ (Nat.le_of_ble_eq_true rfl) (fun q h => tX4_prepare a1 S2 q h) dX11_assign_19 (fun _ S4 => ?_)
    refine ok_aload_n 0 hc dX11_assign_22 rfl rfl ?_
    refine ok_getr 41 hc FS_X11_46 rfl sX_0 rfl dX11_assign_23 ?_
    refine ok_callVi (As := []) (st := []) (fun n0 => [.ref (n0 + 41)]) hc VS_X11_226 sX_41 rfl rfl rfl ⟨Nat.le_of_ble_eq_true rfl, Nat.le_of_ble_eq_true rfl⟩ (Nat.le_of_ble_eq_true rfl) (fun q h => tX4_divide S4 q h) dX11_assign_26 (fun v5 S6 => ?_)
    refine ok_if_ne_ite 35 hc dX11_assign_29 (by decide) (fun h7 => ?_) (fun h7 => ?_)
    · refine ok_iconst (v := 0) hc dX11_assign_35 (by decide) ?_
      refine ok_istore_n [(2, .int 0), (0, rv Γ 0), (1, .int a1)] hc dX11_assign_36 rfl (Nat.le_of_ble_eq_true rfl) rfl ?_
      refine ok_sub [1, 0] rfl ?_
      refine tX11_assign_L37 hc _  ?_ FU _ _
      · intro S8
        refine ok_aload_n 0 hc dX11_assign_83 rfl rfl ?_
        refine ok_getr 41 hc FS_X11_46 rfl sX_0 rfl dX11_assign_84 ?_
        refine ok_callVi (As := []) (st := []) (fun n0 => [.ref (n0 + 41)]) hc VS_X11_223 sX_41 rfl rfl rfl ⟨Nat.le_of_ble_eq_true rfl, Nat.le_of_ble_eq_true rfl⟩ (Nat.le_of_ble_eq_true rfl) (fun q h => tX4_fewestSlots S8 q h) dX11_assign_87 (fun v9 S10 => ?_)
        exact ok_iret hc rfl dX11_assign_90
    · refine ok_bipush (v := (-3)) hc dX11_assign_32 (by decide) ?_
      exact ok_iret hc rfl dX11_assign_34
  · refine ok_bipush (v := (-2)) hc dX11_assign_11 (by decide) ?_
    exact ok_iret hc rfl dX11_assign_13
def fX11_best (a1 : Int32) (a2 : Int32) (S : St) : Option (Int32 × St) :=
  bnd (fX4_isSet a1 S) (fun v1 S2 => if v1 = 0 then (some ((-2), S2)) else (bnd (fX11_within a2 1 8 S2) (fun v4 S5 => if v4 = 0 then (some ((-2), S5)) else (bnd (fX4_prepare a1 S5) (fun _ S7 => bnd (fX4_mostWorth a2 S7) (fun v8 S9 => some (v8, S9)))))))
set_option maxRecDepth 100000 in
set_option maxHeartbeats 4000000 in
theorem tX11_best (a1 : Int32) (a2 : Int32) (S : St) (q : Int32 × St) (h : fX11_best a1 a2 S = some q) : MT vI wX mX11_best (fun n0 => [.ref (n0 + 0), .int a1, .int a2]) S q := by
  refine mt_of (show plainFor yX11_best = true from by decide) (fun _ => Nat.le_of_ble_eq_true rfl) ?_
  intro Γ hc _
  rw [← h]
  show Ok Γ wX 0 [(0, rv Γ 0), (1, .int a1), (2, .int a2)] [] S _
  unfold fX11_best
  refine ok_aload_n 0 hc dX11_best_0 rfl rfl ?_
  refine ok_getr 41 hc FS_X11_46 rfl sX_0 rfl dX11_best_1 ?_
  refine ok_iload_n 1 hc dX11_best_4 rfl rfl ?_
  refine ok_callVi (As := [.int a1]) (st := []) (fun n0 => [.ref (n0 + 41), .int a1]) hc VS_X11_209 sX_41 rfl rfl rfl ⟨Nat.le_of_ble_eq_true rfl, Nat.le_of_ble_eq_true rfl⟩ (Nat.le_of_ble_eq_true rfl) (fun q h => tX4_isSet a1 S q h) dX11_best_5 (fun v1 S2 => ?_)
  refine ok_if_eq_ite 21 hc dX11_best_8 (by decide) (fun h3 => ?_) (fun h3 => ?_)
  · refine ok_bipush (v := (-2)) hc dX11_best_21 (by decide) ?_
    exact ok_iret hc rfl dX11_best_23
  · refine ok_iload_n 2 hc dX11_best_11 rfl rfl ?_
    refine ok_iconst (v := 1) hc dX11_best_12 (by decide) ?_
    refine ok_bipush (v := 8) hc dX11_best_13 (by decide) ?_
    refine ok_callSi (As := [.int a2, .int 1, .int 8]) (st := []) (fun n0 => [.int a2, .int 1, .int 8]) hc SS_X11_93 rfl rfl rfl ⟨Nat.le_of_ble_eq_true rfl, Nat.le_of_ble_eq_true rfl⟩ (Nat.le_of_ble_eq_true rfl) (fun q h => tX11_within a2 1 8 S2 q h) dX11_best_15 (fun v4 S5 => ?_)
    refine ok_if_ne_ite 24 hc dX11_best_18 (by decide) (fun h6 => ?_) (fun h6 => ?_)
    · refine ok_aload_n 0 hc dX11_best_24 rfl rfl ?_
      refine ok_getr 41 hc FS_X11_46 rfl sX_0 rfl dX11_best_25 ?_
      refine ok_iload_n 1 hc dX11_best_28 rfl rfl ?_
      refine ok_callVu (As := [.int a1]) (st := []) (fun n0 => [.ref (n0 + 41), .int a1]) hc VS_X11_212 sX_41 rfl rfl rfl ⟨Nat.le_of_ble_eq_true rfl, Nat.le_of_ble_eq_true rfl⟩ (Nat.le_of_ble_eq_true rfl) (fun q h => tX4_prepare a1 S5 q h) dX11_best_29 (fun _ S7 => ?_)
      refine ok_aload_n 0 hc dX11_best_32 rfl rfl ?_
      refine ok_getr 41 hc FS_X11_46 rfl sX_0 rfl dX11_best_33 ?_
      refine ok_iload_n 2 hc dX11_best_36 rfl rfl ?_
      refine ok_callVi (As := [.int a2]) (st := []) (fun n0 => [.ref (n0 + 41), .int a2]) hc VS_X11_238 sX_41 rfl rfl rfl ⟨Nat.le_of_ble_eq_true rfl, Nat.le_of_ble_eq_true rfl⟩ (Nat.le_of_ble_eq_true rfl) (fun q h => tX4_mostWorth a2 S7 q h) dX11_best_37 (fun v8 S9 => ?_)
      exact ok_iret hc rfl dX11_best_40
    · refine ok_bipush (v := (-2)) hc dX11_best_21 (by decide) ?_
      exact ok_iret hc rfl dX11_best_23
def fX11_bid (a1 : Int32) (a2 : Int32) (a3 : Int32) (S : St) : Option (Int32 × St) :=
  bnd (fX0_has a1 S) (fun v1 S2 => if v1 = 0 then (some ((-2), S2)) else (bnd (fX11_within a2 1 4095 S2) (fun v4 S5 => if v4 = 0 then (some ((-2), S5)) else (bnd (fX11_within a3 1 10000 S5) (fun v7 S8 => if v7 = 0 then (some ((-2), S8)) else (if (S8.1 56 2) < 8 then (bnd (fX1_add a2 a3 S8) (fun v11 S12 => some (v11, S12))) else (some ((-4), S8))))))))
set_option maxRecDepth 100000 in
set_option maxHeartbeats 4000000 in
theorem tX11_bid (a1 : Int32) (a2 : Int32) (a3 : Int32) (S : St) (q : Int32 × St) (h : fX11_bid a1 a2 a3 S = some q) : MT vI wX mX11_bid (fun n0 => [.ref (n0 + 0), .int a1, .int a2, .int a3]) S q := by
  refine mt_of (show plainFor yX11_bid = true from by decide) (fun _ => Nat.le_of_ble_eq_true rfl) ?_
  intro Γ hc _
  rw [← h]
  show Ok Γ wX 0 [(0, rv Γ 0), (1, .int a1), (2, .int a2), (3, .int a3)] [] S _
  unfold fX11_bid
  refine ok_aload_n 0 hc dX11_bid_0 rfl rfl ?_
  refine ok_getr 17 hc FS_X11_37 rfl sX_0 rfl dX11_bid_1 ?_
  refine ok_iload_n 1 hc dX11_bid_4 rfl rfl ?_
  refine ok_callVi (As := [.int a1]) (st := []) (fun n0 => [.ref (n0 + 17), .int a1]) hc VS_X11_167 sX_17 rfl rfl rfl ⟨Nat.le_of_ble_eq_true rfl, Nat.le_of_ble_eq_true rfl⟩ (Nat.le_of_ble_eq_true rfl) (fun q h => tX0_has a1 S q h) dX11_bid_5 (fun v1 S2 => ?_)
  refine ok_if_eq_ite 33 hc dX11_bid_8 (by decide) (fun h3 => ?_) (fun h3 => ?_)
  · refine ok_bipush (v := (-2)) hc dX11_bid_33 (by decide) ?_
    exact ok_iret hc rfl dX11_bid_35
  · refine ok_iload_n 2 hc dX11_bid_11 rfl rfl ?_
    refine ok_iconst (v := 1) hc dX11_bid_12 (by decide) ?_
    refine ok_sipush (v := 4095) hc dX11_bid_13 (by decide) ?_
    refine ok_callSi (As := [.int a2, .int 1, .int 4095]) (st := []) (fun n0 => [.int a2, .int 1, .int 4095]) hc SS_X11_93 rfl rfl rfl ⟨Nat.le_of_ble_eq_true rfl, Nat.le_of_ble_eq_true rfl⟩ (Nat.le_of_ble_eq_true rfl) (fun q h => tX11_within a2 1 4095 S2 q h) dX11_bid_16 (fun v4 S5 => ?_)
    refine ok_if_eq_ite 33 hc dX11_bid_19 (by decide) (fun h6 => ?_) (fun h6 => ?_)
    · refine ok_bipush (v := (-2)) hc dX11_bid_33 (by decide) ?_
      exact ok_iret hc rfl dX11_bid_35
    · refine ok_iload_n 3 hc dX11_bid_22 rfl rfl ?_
      refine ok_iconst (v := 1) hc dX11_bid_23 (by decide) ?_
      refine ok_sipush (v := 10000) hc dX11_bid_24 (by decide) ?_
      refine ok_callSi (As := [.int a3, .int 1, .int 10000]) (st := []) (fun n0 => [.int a3, .int 1, .int 10000]) hc SS_X11_93 rfl rfl rfl ⟨Nat.le_of_ble_eq_true rfl, Nat.le_of_ble_eq_true rfl⟩ (Nat.le_of_ble_eq_true rfl) (fun q h => tX11_within a3 1 10000 S5 q h) dX11_bid_27 (fun v7 S8 => ?_)
      refine ok_if_ne_ite 36 hc dX11_bid_30 (by decide) (fun h9 => ?_) (fun h9 => ?_)
      · refine ok_aload_n 0 hc dX11_bid_36 rfl rfl ?_
        refine ok_getr 56 hc FS_X11_60 rfl sX_0 rfl dX11_bid_37 ?_
        refine ok_geti hc FS_X11_285 rfl sX_56 dX11_bid_40 ?_
        refine ok_bipush (v := 8) hc dX11_bid_43 (by decide) ?_
        refine ok_icmp_lt_ite 53 hc dX11_bid_45 (by decide) (fun h10 => ?_) (fun h10 => ?_)
        · refine ok_aload_n 0 hc dX11_bid_53 rfl rfl ?_
          refine ok_getr 56 hc FS_X11_60 rfl sX_0 rfl dX11_bid_54 ?_
          refine ok_iload_n 2 hc dX11_bid_57 rfl rfl ?_
          refine ok_iload_n 3 hc dX11_bid_58 rfl rfl ?_
          refine ok_callVi (As := [.int a2, .int a3]) (st := []) (fun n0 => [.ref (n0 + 56), .int a2, .int a3]) hc VS_X11_286 sX_56 rfl rfl rfl ⟨Nat.le_of_ble_eq_true rfl, Nat.le_of_ble_eq_true rfl⟩ (Nat.le_of_ble_eq_true rfl) (fun q h => tX1_add a2 a3 S8 q h) dX11_bid_59 (fun v11 S12 => ?_)
          exact ok_iret hc rfl dX11_bid_62
        · refine ok_bipush (v := (-4)) hc dX11_bid_48 (by decide) ?_
          refine ok_goto 62 hc dX11_bid_50 (by decide) ?_
          exact ok_iret hc rfl dX11_bid_62
      · refine ok_bipush (v := (-2)) hc dX11_bid_33 (by decide) ?_
        exact ok_iret hc rfl dX11_bid_35
def fX11_box (a1 : Int32) (S : St) : Option (Int32 × St) :=
  bnd (fX2_isCell a1.toInt64 S) (fun v1 S2 => if v1 = 0 then (some ((-2), S2)) else (if (S2.1 67 3) < 8 then (bnd (fX10_add a1 S2) (fun v5 S6 => some (v5, S6))) else (some ((-4), S2))))
set_option maxRecDepth 100000 in
set_option maxHeartbeats 4000000 in
theorem tX11_box (a1 : Int32) (S : St) (q : Int32 × St) (h : fX11_box a1 S = some q) : MT vI wX mX11_box (fun n0 => [.ref (n0 + 0), .int a1]) S q := by
  refine mt_of (show plainFor yX11_box = true from by decide) (fun _ => Nat.le_of_ble_eq_true rfl) ?_
  intro Γ hc _
  rw [← h]
  show Ok Γ wX 0 [(0, rv Γ 0), (1, .int a1)] [] S _
  unfold fX11_box
  refine ok_aload_n 0 hc dX11_box_0 rfl rfl ?_
  refine ok_getr 16 hc FS_X11_28 rfl sX_0 rfl dX11_box_1 ?_
  refine ok_iload_n 1 hc dX11_box_4 rfl rfl ?_
  refine ok_i2l hc dX11_box_5 ?_
  refine ok_callVi (As := [.long a1.toInt64]) (st := []) (fun n0 => [.ref (n0 + 16), .long a1.toInt64]) hc VS_X11_114 sX_16 rfl rfl rfl ⟨Nat.le_of_ble_eq_true rfl, Nat.le_of_ble_eq_true rfl⟩ (Nat.le_of_ble_eq_true rfl) (fun q h => tX2_isCell a1.toInt64 S q h) dX11_box_6 (fun v1 S2 => ?_)
  refine ok_if_ne_ite 15 hc dX11_box_9 (by decide) (fun h3 => ?_) (fun h3 => ?_)
  · refine ok_aload_n 0 hc dX11_box_15 rfl rfl ?_
    refine ok_getr 67 hc FS_X11_76 rfl sX_0 rfl dX11_box_16 ?_
    refine ok_geti hc FS_X11_101 rfl sX_67 dX11_box_19 ?_
    refine ok_bipush (v := 8) hc dX11_box_22 (by decide) ?_
    refine ok_icmp_lt_ite 32 hc dX11_box_24 (by decide) (fun h4 => ?_) (fun h4 => ?_)
    · refine ok_aload_n 0 hc dX11_box_32 rfl rfl ?_
      refine ok_getr 67 hc FS_X11_76 rfl sX_0 rfl dX11_box_33 ?_
      refine ok_iload_n 1 hc dX11_box_36 rfl rfl ?_
      refine ok_callVi (As := [.int a1]) (st := []) (fun n0 => [.ref (n0 + 67), .int a1]) hc VS_X11_316 sX_67 rfl rfl rfl ⟨Nat.le_of_ble_eq_true rfl, Nat.le_of_ble_eq_true rfl⟩ (Nat.le_of_ble_eq_true rfl) (fun q h => tX10_add a1 S2 q h) dX11_box_37 (fun v5 S6 => ?_)
      exact ok_iret hc rfl dX11_box_40
    · refine ok_bipush (v := (-4)) hc dX11_box_27 (by decide) ?_
      refine ok_goto 40 hc dX11_box_29 (by decide) ?_
      exact ok_iret hc rfl dX11_box_40
  · refine ok_bipush (v := (-2)) hc dX11_box_12 (by decide) ?_
    exact ok_iret hc rfl dX11_box_14
def fX11_call (S : St) : Option (Int32 × St) :=
  lt (wi S 56 2 0) (fun S1 => some (S.1 56 2, S1))
set_option maxRecDepth 100000 in
set_option maxHeartbeats 4000000 in
theorem tX11_call (S : St) (q : Int32 × St) (h : fX11_call S = some q) : MT vI wX mX11_call (fun n0 => [.ref (n0 + 0)]) S q := by
  refine mt_of (show plainFor yX11_call = true from by decide) (fun _ => Nat.le_of_ble_eq_true rfl) ?_
  intro Γ hc _
  rw [← h]
  show Ok Γ wX 0 [(0, rv Γ 0)] [] S _
  unfold fX11_call
  refine ok_aload_n 0 hc dX11_call_0 rfl rfl ?_
  refine ok_getr 56 hc FS_X11_60 rfl sX_0 rfl dX11_call_1 ?_
  refine ok_geti hc FS_X11_285 rfl sX_56 dX11_call_4 ?_
  refine ok_istore_n [(1, .int (S.1 56 2)), (0, rv Γ 0)] hc dX11_call_7 rfl (Nat.le_of_ble_eq_true rfl) rfl ?_
  refine ok_aload_n 1 hc dX11_call_8 rfl rfl ?_
  refine ok_getr 56 hc FS_X11_60 rfl sX_0 rfl dX11_call_9 ?_
  refine ok_iconst (v := 0) hc dX11_call_12 (by decide) ?_
  refine ok_puti hc FP_X11_285 rfl sX_56 dX11_call_13 ?_
  refine ok_ltS (fun S1 => ?_)
  refine ok_iload_n 0 hc dX11_call_16 rfl rfl ?_
  exact ok_iret hc rfl dX11_call_17
def fX11_refusalUnlessOn (a1 : Int32) (S : St) : Option (Int32 × St) :=
  bnd (fX0_has a1 S) (fun v1 S2 => if v1 = 0 then (some ((-2), S2)) else (if ib a1 20 then (if (S2.1 (19 + nt a1) 10) = 0 then (some ((-3), S2)) else (some (0, S2))) else none))
set_option maxRecDepth 100000 in
set_option maxHeartbeats 4000000 in
theorem tX11_refusalUnlessOn (a1 : Int32) (S : St) (q : Int32 × St) (h : fX11_refusalUnlessOn a1 S = some q) : MT vI wX mX11_refusalUnlessOn (fun n0 => [.ref (n0 + 0), .int a1]) S q := by
  refine mt_of (show plainFor yX11_refusalUnlessOn = true from by decide) (fun _ => Nat.le_of_ble_eq_true rfl) ?_
  intro Γ hc _
  rw [← h]
  show Ok Γ wX 0 [(0, rv Γ 0), (1, .int a1)] [] S _
  unfold fX11_refusalUnlessOn
  refine ok_aload_n 0 hc dX11_refusalUnlessOn_0 rfl rfl ?_
  refine ok_getr 17 hc FS_X11_37 rfl sX_0 rfl dX11_refusalUnlessOn_1 ?_
  refine ok_iload_n 1 hc dX11_refusalUnlessOn_4 rfl rfl ?_
  refine ok_callVi (As := [.int a1]) (st := []) (fun n0 => [.ref (n0 + 17), .int a1]) hc VS_X11_167 sX_17 rfl rfl rfl ⟨Nat.le_of_ble_eq_true rfl, Nat.le_of_ble_eq_true rfl⟩ (Nat.le_of_ble_eq_true rfl) (fun q h => tX0_has a1 S q h) dX11_refusalUnlessOn_5 (fun v1 S2 => ?_)
  refine ok_if_ne_ite 14 hc dX11_refusalUnlessOn_8 (by decide) (fun h3 => ?_) (fun h3 => ?_)
  · refine ok_aload_n 0 hc dX11_refusalUnlessOn_14 rfl rfl ?_
    refine ok_getr 17 hc FS_X11_37 rfl sX_0 rfl dX11_refusalUnlessOn_15 ?_
    refine ok_getr 18 hc FS_X11_143 rfl sX_17 rfl dX11_refusalUnlessOn_18 ?_
    refine ok_iload_n 1 hc dX11_refusalUnlessOn_21 rfl rfl ?_
    refine ok_aald (fun j => 19 + j) "AirParted$Sender" hc sX_18 rfl snd_rf dX11_refusalUnlessOn_22 (fun h4 => ?_)
    show Ok Γ wX 23 [(0, rv Γ 0), (1, .int a1)] (rv Γ (19 + nt a1) :: []) S2 _
    refine ok_geti hc FS_X11_179 rfl (snd_ob h4) dX11_refusalUnlessOn_23 ?_
    refine ok_if_eq_ite 33 hc dX11_refusalUnlessOn_26 (by decide) (fun h5 => ?_) (fun h5 => ?_)
    · refine ok_bipush (v := (-3)) hc dX11_refusalUnlessOn_33 (by decide) ?_
      exact ok_iret hc rfl dX11_refusalUnlessOn_35
    · refine ok_iconst (v := 0) hc dX11_refusalUnlessOn_29 (by decide) ?_
      refine ok_goto 35 hc dX11_refusalUnlessOn_30 (by decide) ?_
      exact ok_iret hc rfl dX11_refusalUnlessOn_35
  · refine ok_bipush (v := (-2)) hc dX11_refusalUnlessOn_11 (by decide) ?_
    exact ok_iret hc rfl dX11_refusalUnlessOn_13
def fX11_cause (a1 : Int32) (S : St) : Option (Int32 × St) :=
  bnd (fX11_refusalUnlessOn a1 S) (fun v1 S2 => if v1 = 0 then (bnd (fX0_gatherRivals a1 S2) (fun v4 S5 => if v4 ≤ 10 then (bnd (fX0_causeOf a1 S5) (fun v7 S8 => some (v7, S8))) else (some ((-4), S5)))) else (some (v1, S2)))
set_option maxRecDepth 100000 in
set_option maxHeartbeats 4000000 in
theorem tX11_cause (a1 : Int32) (S : St) (q : Int32 × St) (h : fX11_cause a1 S = some q) : MT vI wX mX11_cause (fun n0 => [.ref (n0 + 0), .int a1]) S q := by
  refine mt_of (show plainFor yX11_cause = true from by decide) (fun _ => Nat.le_of_ble_eq_true rfl) ?_
  intro Γ hc _
  rw [← h]
  show Ok Γ wX 0 [(0, rv Γ 0), (1, .int a1)] [] S _
  unfold fX11_cause
  refine ok_aload_n 0 hc dX11_cause_0 rfl rfl ?_
  refine ok_iload_n 1 hc dX11_cause_1 rfl rfl ?_
  refine ok_callVi (As := [.int a1]) (st := []) (fun n0 => [.ref (n0 + 0), .int a1]) hc VS_X11_191 sX_0 rfl rfl rfl ⟨Nat.le_of_ble_eq_true rfl, Nat.le_of_ble_eq_true rfl⟩ (Nat.le_of_ble_eq_true rfl) (fun q h => tX11_refusalUnlessOn a1 S q h) dX11_cause_2 (fun v1 S2 => ?_)
  refine ok_istore_n [(2, .int v1), (0, rv Γ 0), (1, .int a1)] hc dX11_cause_5 rfl (Nat.le_of_ble_eq_true rfl) rfl ?_
  refine ok_iload_n 0 hc dX11_cause_6 rfl rfl ?_
  refine ok_if_eq_ite 12 hc dX11_cause_7 (by decide) (fun h3 => ?_) (fun h3 => ?_)
  · refine ok_aload_n 1 hc dX11_cause_12 rfl rfl ?_
    refine ok_getr 17 hc FS_X11_37 rfl sX_0 rfl dX11_cause_13 ?_
    refine ok_iload_n 2 hc dX11_cause_16 rfl rfl ?_
    refine ok_callVi (As := [.int a1]) (st := []) (fun n0 => [.ref (n0 + 17), .int a1]) hc VS_X11_199 sX_17 rfl rfl rfl ⟨Nat.le_of_ble_eq_true rfl, Nat.le_of_ble_eq_true rfl⟩ (Nat.le_of_ble_eq_true rfl) (fun q h => tX0_gatherRivals a1 S2 q h) dX11_cause_17 (fun v4 S5 => ?_)
    refine ok_bipush (v := 10) hc dX11_cause_20 (by decide) ?_
    refine ok_icmp_le_ite 30 hc dX11_cause_22 (by decide) (fun h6 => ?_) (fun h6 => ?_)
    · refine ok_aload_n 1 hc dX11_cause_30 rfl rfl ?_
      refine ok_getr 17 hc FS_X11_37 rfl sX_0 rfl dX11_cause_31 ?_
      refine ok_iload_n 2 hc dX11_cause_34 rfl rfl ?_
      refine ok_callVi (As := [.int a1]) (st := []) (fun n0 => [.ref (n0 + 17), .int a1]) hc VS_X11_206 sX_17 rfl rfl rfl ⟨Nat.le_of_ble_eq_true rfl, Nat.le_of_ble_eq_true rfl⟩ (Nat.le_of_ble_eq_true rfl) (fun q h => tX0_causeOf a1 S5 q h) dX11_cause_35 (fun v7 S8 => ?_)
      exact ok_iret hc rfl dX11_cause_38
    · refine ok_bipush (v := (-4)) hc dX11_cause_25 (by decide) ?_
      refine ok_goto 38 hc dX11_cause_27 (by decide) ?_
      exact ok_iret hc rfl dX11_cause_38
  · refine ok_iload_n 0 hc dX11_cause_10 rfl rfl ?_
    exact ok_iret hc rfl dX11_cause_11
def fX11_cell_L33_st (a1 : Int32) (a2 : Int32) (a3 : Int32) (rec : Int32 → Int32 → St → Option (Int32 × St)) (a4 : Int32) (a5 : Int32) (S : St) : Option (Int32 × St) :=
  bnd (fX2_size S) (fun v1 S2 => if v1 ≤ a5 then (some ((-1), S2)) else (bnd (fX2_size S2) (fun v4 S5 => if v4 ≤ a3 then (some ((-1), S5)) else (bnd (fX10_agrees a5 a1 a2 S5) (fun v7 S8 => jn (fun (v9 : Int32) => rec v9 (a5 + 1) S8) (fun k10 => if v7 = 0 then (k10 a4) else (if a4 = a3 then (some (a5, S8)) else (k10 (a4 + 1)))))))))
def fX11_cell_L33 (a1 : Int32) (a2 : Int32) (a3 : Int32) : Nat → Int32 → Int32 → St → Option (Int32 × St)
  | 0 => fun _ _ _ => none
  | n + 1 => fun a4 a5 S => fX11_cell_L33_st a1 a2 a3 (fX11_cell_L33 a1 a2 a3 n) a4 a5 S
def fX11_cell (a1 : Int32) (a2 : Int32) (a3 : Int32) (S : St) : Option (Int32 × St) :=
  bnd (fX11_within a1 1 1000000 S) (fun v1 S2 => if v1 = 0 then (some ((-2), S2)) else (bnd (fX11_within a2 0 100 S2) (fun v4 S5 => if v4 = 0 then (some ((-2), S5)) else (if 0 ≤ a3 then (fX11_cell_L33 a1 a2 a3 FU 0 0 S5) else (some ((-2), S5))))))
set_option maxRecDepth 100000 in
set_option maxHeartbeats 4000000 in
theorem tX11_cell_L33 {Γ : Cx Int32} (hc : Cok Γ wX vI mX11_cell) (a1 : Int32) (a2 : Int32) (a3 : Int32) : ∀ (n : Nat) (a4 : Int32) (a5 : Int32) (S : St), Ok Γ wX 33 [(0, rv Γ 0), (1, .int a1), (2, .int a2), (3, .int a3), (4, .int a4), (5, .int a5)] [] S (fX11_cell_L33 a1 a2 a3 n a4 a5 S) := by
  intro n
  induction n with
  | zero =>
    intro a4 a5 S
    exact ok_none
  | succ n ih =>
    intro a4 a5 S
    show Ok Γ wX 33 [(0, rv Γ 0), (1, .int a1), (2, .int a2), (3, .int a3), (4, .int a4), (5, .int a5)] [] S (fX11_cell_L33_st a1 a2 a3 (fX11_cell_L33 a1 a2 a3 n) a4 a5 S)
    unfold fX11_cell_L33_st
    refine ok_iload 5 hc dX11_cell_33 rfl ?_
    refine ok_aload_n 0 hc dX11_cell_35 rfl rfl ?_
    refine ok_getr 16 hc FS_X11_28 rfl sX_0 rfl dX11_cell_36 ?_
    refine ok_callVi (As := []) (st := [.int a5]) (fun n0 => [.ref (n0 + 16)]) hc VS_X11_325 sX_16 rfl rfl rfl ⟨Nat.le_of_ble_eq_true rfl, Nat.le_of_ble_eq_true rfl⟩ (Nat.le_of_ble_eq_true rfl) (fun q h => tX2_size S q h) dX11_cell_39 (fun v1 S2 => ?_)
    refine ok_icmp_ge_ite 88 hc dX11_cell_42 (by decide) (fun h3 => ?_) (fun h3 => ?_)
    · refine ok_iconst (v := (-1)) hc dX11_cell_88 (by decide) ?_
      exact ok_iret hc rfl dX11_cell_89
    · refine ok_iload_n 3 hc dX11_cell_45 rfl rfl ?_
      refine ok_aload_n 0 hc dX11_cell_46 rfl rfl ?_
      refine ok_getr 16 hc FS_X11_28 rfl sX_0 rfl dX11_cell_47 ?_
      refine ok_callVi (As := []) (st := [.int a3]) (fun n0 => [.ref (n0 + 16)]) hc VS_X11_325 sX_16 rfl rfl rfl ⟨Nat.le_of_ble_eq_true rfl, Nat.le_of_ble_eq_true rfl⟩ (Nat.le_of_ble_eq_true rfl) (fun q h => tX2_size S2 q h) dX11_cell_50 (fun v4 S5 => ?_)
      refine ok_icmp_ge_ite 88 hc dX11_cell_53 (by decide) (fun h6 => ?_) (fun h6 => ?_)
      · refine ok_iconst (v := (-1)) hc dX11_cell_88 (by decide) ?_
        exact ok_iret hc rfl dX11_cell_89
      · refine ok_aload_n 0 hc dX11_cell_56 rfl rfl ?_
        refine ok_getr 67 hc FS_X11_76 rfl sX_0 rfl dX11_cell_57 ?_
        refine ok_iload 5 hc dX11_cell_60 rfl ?_
        refine ok_iload_n 1 hc dX11_cell_62 rfl rfl ?_
        refine ok_iload_n 2 hc dX11_cell_63 rfl rfl ?_
        refine ok_callVi (As := [.int a5, .int a1, .int a2]) (st := []) (fun n0 => [.ref (n0 + 67), .int a5, .int a1, .int a2]) hc VS_X11_328 sX_67 rfl rfl rfl ⟨Nat.le_of_ble_eq_true rfl, Nat.le_of_ble_eq_true rfl⟩ (Nat.le_of_ble_eq_true rfl) (fun q h => tX10_agrees a5 a1 a2 S5 q h) dX11_cell_64 (fun v7 S8 => ?_)
        refine ok_jn (fun g => ∀ (v9 : Int32), Ok Γ wX 82 [(0, rv Γ 0), (1, .int a1), (2, .int a2), (3, .int a3), (4, .int v9), (5, .int a5)] [] S8 (g v9)) ?_ (fun k10 hk10 => ?_)
        · intro v9
          refine ok_iinc (v := 1) 5 [(5, .int (a5 + 1)), (0, rv Γ 0), (1, .int a1), (2, .int a2), (3, .int a3), (4, .int v9)] hc dX11_cell_82 rfl (by decide) (Nat.le_of_ble_eq_true rfl) rfl ?_
          refine ok_goto 33 hc dX11_cell_85 (by decide) ?_
          refine ok_sub [1, 2, 3, 4, 5, 0] rfl ?_
          exact ih _ _ _
        · refine ok_if_eq_ite 82 hc dX11_cell_67 (by decide) (fun h11 => ?_) (fun h11 => ?_)
          · exact hk10 _
          · refine ok_iload 4 hc dX11_cell_70 rfl ?_
            refine ok_iload_n 3 hc dX11_cell_72 rfl rfl ?_
            refine ok_icmp_ne_ite 79 hc dX11_cell_73 (by decide) (fun h12 => ?_) (fun h12 => ?_)
            · refine ok_iinc (v := 1) 4 [(4, .int (a4 + 1)), (0, rv Γ 0), (1, .int a1), (2, .int a2), (3, .int a3), (5, .int a5)] hc dX11_cell_79 rfl (by decide) (Nat.le_of_ble_eq_true rfl) rfl ?_
              refine ok_sub [1, 2, 3, 4, 0, 5] rfl ?_
              exact hk10 _
            · refine ok_iload 5 hc dX11_cell_76 rfl ?_
              exact ok_iret hc rfl dX11_cell_78
set_option maxRecDepth 100000 in
set_option maxHeartbeats 4000000 in
theorem tX11_cell (a1 : Int32) (a2 : Int32) (a3 : Int32) (S : St) (q : Int32 × St) (h : fX11_cell a1 a2 a3 S = some q) : MT vI wX mX11_cell (fun n0 => [.ref (n0 + 0), .int a1, .int a2, .int a3]) S q := by
  refine mt_of (show plainFor yX11_cell = true from by decide) (fun _ => Nat.le_of_ble_eq_true rfl) ?_
  intro Γ hc _
  rw [← h]
  show Ok Γ wX 0 [(0, rv Γ 0), (1, .int a1), (2, .int a2), (3, .int a3)] [] S _
  unfold fX11_cell
  refine ok_iload_n 1 hc dX11_cell_0 rfl rfl ?_
  refine ok_iconst (v := 1) hc dX11_cell_1 (by decide) ?_
  refine ok_ldc hc dX11_cell_2 W_521 ?_
  refine ok_callSi (As := [.int a1, .int 1, .int 1000000]) (st := []) (fun n0 => [.int a1, .int 1, .int 1000000]) hc SS_X11_93 rfl rfl rfl ⟨Nat.le_of_ble_eq_true rfl, Nat.le_of_ble_eq_true rfl⟩ (Nat.le_of_ble_eq_true rfl) (fun q h => tX11_within a1 1 1000000 S q h) dX11_cell_4 (fun v1 S2 => ?_)
  refine ok_if_eq_ite 24 hc dX11_cell_7 (by decide) (fun h3 => ?_) (fun h3 => ?_)
  · refine ok_bipush (v := (-2)) hc dX11_cell_24 (by decide) ?_
    exact ok_iret hc rfl dX11_cell_26
  · refine ok_iload_n 2 hc dX11_cell_10 rfl rfl ?_
    refine ok_iconst (v := 0) hc dX11_cell_11 (by decide) ?_
    refine ok_bipush (v := 100) hc dX11_cell_12 (by decide) ?_
    refine ok_callSi (As := [.int a2, .int 0, .int 100]) (st := []) (fun n0 => [.int a2, .int 0, .int 100]) hc SS_X11_93 rfl rfl rfl ⟨Nat.le_of_ble_eq_true rfl, Nat.le_of_ble_eq_true rfl⟩ (Nat.le_of_ble_eq_true rfl) (fun q h => tX11_within a2 0 100 S2 q h) dX11_cell_14 (fun v4 S5 => ?_)
    refine ok_if_eq_ite 24 hc dX11_cell_17 (by decide) (fun h6 => ?_) (fun h6 => ?_)
    · refine ok_bipush (v := (-2)) hc dX11_cell_24 (by decide) ?_
      exact ok_iret hc rfl dX11_cell_26
    · refine ok_iload_n 3 hc dX11_cell_20 rfl rfl ?_
      refine ok_if_ge_ite 27 hc dX11_cell_21 (by decide) (fun h7 => ?_) (fun h7 => ?_)
      · refine ok_iconst (v := 0) hc dX11_cell_27 (by decide) ?_
        refine ok_istore [(4, .int 0), (0, rv Γ 0), (1, .int a1), (2, .int a2), (3, .int a3)] hc dX11_cell_28 (Nat.le_of_ble_eq_true rfl) rfl ?_
        refine ok_iconst (v := 0) hc dX11_cell_30 (by decide) ?_
        refine ok_istore [(5, .int 0), (4, .int 0), (0, rv Γ 0), (1, .int a1), (2, .int a2), (3, .int a3)] hc dX11_cell_31 (Nat.le_of_ble_eq_true rfl) rfl ?_
        refine ok_sub [2, 3, 4, 5, 1, 0] rfl ?_
        refine tX11_cell_L33 hc _ _ _   FU _ _ _
      · refine ok_bipush (v := (-2)) hc dX11_cell_24 (by decide) ?_
        exact ok_iret hc rfl dX11_cell_26
def fX11_cells_L28_st (a1 : Int32) (a2 : Int32) (rec : Int32 → Int32 → St → Option (Int32 × St)) (a3 : Int32) (a4 : Int32) (S : St) : Option (Int32 × St) :=
  bnd (fX2_size S) (fun v1 S2 => if v1 ≤ a4 then (some (a3, S2)) else (bnd (fX10_agrees a4 a1 a2 S2) (fun v4 S5 => jn (fun (v6 : Int32) => rec v6 (a4 + 1) S5) (fun k7 => if v4 = 0 then (k7 a3) else (k7 (a3 + 1))))))
def fX11_cells_L28 (a1 : Int32) (a2 : Int32) : Nat → Int32 → Int32 → St → Option (Int32 × St)
  | 0 => fun _ _ _ => none
  | n + 1 => fun a3 a4 S => fX11_cells_L28_st a1 a2 (fX11_cells_L28 a1 a2 n) a3 a4 S
def fX11_cells (a1 : Int32) (a2 : Int32) (S : St) : Option (Int32 × St) :=
  bnd (fX11_within a1 1 1000000 S) (fun v1 S2 => if v1 = 0 then (some ((-2), S2)) else (bnd (fX11_within a2 0 100 S2) (fun v4 S5 => if v4 = 0 then (some ((-2), S5)) else (fX11_cells_L28 a1 a2 FU 0 0 S5))))
set_option maxRecDepth 100000 in
set_option maxHeartbeats 4000000 in
theorem tX11_cells_L28 {Γ : Cx Int32} (hc : Cok Γ wX vI mX11_cells) (a1 : Int32) (a2 : Int32) : ∀ (n : Nat) (a3 : Int32) (a4 : Int32) (S : St), Ok Γ wX 28 [(0, rv Γ 0), (1, .int a1), (2, .int a2), (3, .int a3), (4, .int a4)] [] S (fX11_cells_L28 a1 a2 n a3 a4 S) := by
  intro n
  induction n with
  | zero =>
    intro a3 a4 S
    exact ok_none
  | succ n ih =>
    intro a3 a4 S
    show Ok Γ wX 28 [(0, rv Γ 0), (1, .int a1), (2, .int a2), (3, .int a3), (4, .int a4)] [] S (fX11_cells_L28_st a1 a2 (fX11_cells_L28 a1 a2 n) a3 a4 S)
    unfold fX11_cells_L28_st
    refine ok_iload 4 hc dX11_cells_28 rfl ?_
    refine ok_aload_n 0 hc dX11_cells_30 rfl rfl ?_
    refine ok_getr 16 hc FS_X11_28 rfl sX_0 rfl dX11_cells_31 ?_
    refine ok_callVi (As := []) (st := [.int a4]) (fun n0 => [.ref (n0 + 16)]) hc VS_X11_325 sX_16 rfl rfl rfl ⟨Nat.le_of_ble_eq_true rfl, Nat.le_of_ble_eq_true rfl⟩ (Nat.le_of_ble_eq_true rfl) (fun q h => tX2_size S q h) dX11_cells_34 (fun v1 S2 => ?_)
    refine ok_icmp_ge_ite 63 hc dX11_cells_37 (by decide) (fun h3 => ?_) (fun h3 => ?_)
    · refine ok_iload_n 3 hc dX11_cells_63 rfl rfl ?_
      exact ok_iret hc rfl dX11_cells_64
    · refine ok_aload_n 0 hc dX11_cells_40 rfl rfl ?_
      refine ok_getr 67 hc FS_X11_76 rfl sX_0 rfl dX11_cells_41 ?_
      refine ok_iload 4 hc dX11_cells_44 rfl ?_
      refine ok_iload_n 1 hc dX11_cells_46 rfl rfl ?_
      refine ok_iload_n 2 hc dX11_cells_47 rfl rfl ?_
      refine ok_callVi (As := [.int a4, .int a1, .int a2]) (st := []) (fun n0 => [.ref (n0 + 67), .int a4, .int a1, .int a2]) hc VS_X11_328 sX_67 rfl rfl rfl ⟨Nat.le_of_ble_eq_true rfl, Nat.le_of_ble_eq_true rfl⟩ (Nat.le_of_ble_eq_true rfl) (fun q h => tX10_agrees a4 a1 a2 S2 q h) dX11_cells_48 (fun v4 S5 => ?_)
      refine ok_jn (fun g => ∀ (v6 : Int32), Ok Γ wX 57 [(0, rv Γ 0), (1, .int a1), (2, .int a2), (3, .int v6), (4, .int a4)] [] S5 (g v6)) ?_ (fun k7 hk7 => ?_)
      · intro v6
        refine ok_iinc (v := 1) 4 [(4, .int (a4 + 1)), (0, rv Γ 0), (1, .int a1), (2, .int a2), (3, .int v6)] hc dX11_cells_57 rfl (by decide) (Nat.le_of_ble_eq_true rfl) rfl ?_
        refine ok_goto 28 hc dX11_cells_60 (by decide) ?_
        refine ok_sub [1, 2, 3, 4, 0] rfl ?_
        exact ih _ _ _
      · refine ok_if_eq_ite 57 hc dX11_cells_51 (by decide) (fun h8 => ?_) (fun h8 => ?_)
        · exact hk7 _
        · refine ok_iinc (v := 1) 3 [(3, .int (a3 + 1)), (0, rv Γ 0), (1, .int a1), (2, .int a2), (4, .int a4)] hc dX11_cells_54 rfl (by decide) (Nat.le_of_ble_eq_true rfl) rfl ?_
          refine ok_sub [1, 2, 3, 0, 4] rfl ?_
          exact hk7 _
set_option maxRecDepth 100000 in
set_option maxHeartbeats 4000000 in
theorem tX11_cells (a1 : Int32) (a2 : Int32) (S : St) (q : Int32 × St) (h : fX11_cells a1 a2 S = some q) : MT vI wX mX11_cells (fun n0 => [.ref (n0 + 0), .int a1, .int a2]) S q := by
  refine mt_of (show plainFor yX11_cells = true from by decide) (fun _ => Nat.le_of_ble_eq_true rfl) ?_
  intro Γ hc _
  rw [← h]
  show Ok Γ wX 0 [(0, rv Γ 0), (1, .int a1), (2, .int a2)] [] S _
  unfold fX11_cells
  refine ok_iload_n 1 hc dX11_cells_0 rfl rfl ?_
  refine ok_iconst (v := 1) hc dX11_cells_1 (by decide) ?_
  refine ok_ldc hc dX11_cells_2 W_521 ?_
  refine ok_callSi (As := [.int a1, .int 1, .int 1000000]) (st := []) (fun n0 => [.int a1, .int 1, .int 1000000]) hc SS_X11_93 rfl rfl rfl ⟨Nat.le_of_ble_eq_true rfl, Nat.le_of_ble_eq_true rfl⟩ (Nat.le_of_ble_eq_true rfl) (fun q h => tX11_within a1 1 1000000 S q h) dX11_cells_4 (fun v1 S2 => ?_)
  refine ok_if_eq_ite 20 hc dX11_cells_7 (by decide) (fun h3 => ?_) (fun h3 => ?_)
  · refine ok_bipush (v := (-2)) hc dX11_cells_20 (by decide) ?_
    exact ok_iret hc rfl dX11_cells_22
  · refine ok_iload_n 2 hc dX11_cells_10 rfl rfl ?_
    refine ok_iconst (v := 0) hc dX11_cells_11 (by decide) ?_
    refine ok_bipush (v := 100) hc dX11_cells_12 (by decide) ?_
    refine ok_callSi (As := [.int a2, .int 0, .int 100]) (st := []) (fun n0 => [.int a2, .int 0, .int 100]) hc SS_X11_93 rfl rfl rfl ⟨Nat.le_of_ble_eq_true rfl, Nat.le_of_ble_eq_true rfl⟩ (Nat.le_of_ble_eq_true rfl) (fun q h => tX11_within a2 0 100 S2 q h) dX11_cells_14 (fun v4 S5 => ?_)
    refine ok_if_ne_ite 23 hc dX11_cells_17 (by decide) (fun h6 => ?_) (fun h6 => ?_)
    · refine ok_iconst (v := 0) hc dX11_cells_23 (by decide) ?_
      refine ok_istore_n [(3, .int 0), (0, rv Γ 0), (1, .int a1), (2, .int a2)] hc dX11_cells_24 rfl (Nat.le_of_ble_eq_true rfl) rfl ?_
      refine ok_iconst (v := 0) hc dX11_cells_25 (by decide) ?_
      refine ok_istore [(4, .int 0), (3, .int 0), (0, rv Γ 0), (1, .int a1), (2, .int a2)] hc dX11_cells_26 (Nat.le_of_ble_eq_true rfl) rfl ?_
      refine ok_sub [2, 3, 4, 1, 0] rfl ?_
      refine tX11_cells_L28 hc _ _   FU _ _ _
    · refine ok_bipush (v := (-2)) hc dX11_cells_20 (by decide) ?_
      exact ok_iret hc rfl dX11_cells_22
def fX11_change (a1 : Int32) (a2 : Int32) (a3 : Int32) (S : St) : Option (Int32 × St) :=
  bnd (fX0_has a1 S) (fun v1 S2 => if v1 = 0 then (some ((-2), S2)) else (if ib a1 20 then (bnd (fX5_replace (19 + nt a1) a2 a3 S2) (fun v5 S6 => some (v5, S6))) else none))
set_option maxRecDepth 100000 in
set_option maxHeartbeats 4000000 in
theorem tX11_change (a1 : Int32) (a2 : Int32) (a3 : Int32) (S : St) (q : Int32 × St) (h : fX11_change a1 a2 a3 S = some q) : MT vI wX mX11_change (fun n0 => [.ref (n0 + 0), .int a1, .int a2, .int a3]) S q := by
  refine mt_of (show plainFor yX11_change = true from by decide) (fun _ => Nat.le_of_ble_eq_true rfl) ?_
  intro Γ hc _
  rw [← h]
  show Ok Γ wX 0 [(0, rv Γ 0), (1, .int a1), (2, .int a2), (3, .int a3)] [] S _
  unfold fX11_change
  refine ok_aload_n 0 hc dX11_change_0 rfl rfl ?_
  refine ok_getr 17 hc FS_X11_37 rfl sX_0 rfl dX11_change_1 ?_
  refine ok_iload_n 1 hc dX11_change_4 rfl rfl ?_
  refine ok_callVi (As := [.int a1]) (st := []) (fun n0 => [.ref (n0 + 17), .int a1]) hc VS_X11_167 sX_17 rfl rfl rfl ⟨Nat.le_of_ble_eq_true rfl, Nat.le_of_ble_eq_true rfl⟩ (Nat.le_of_ble_eq_true rfl) (fun q h => tX0_has a1 S q h) dX11_change_5 (fun v1 S2 => ?_)
  refine ok_if_eq_ite 28 hc dX11_change_8 (by decide) (fun h3 => ?_) (fun h3 => ?_)
  · refine ok_bipush (v := (-2)) hc dX11_change_28 (by decide) ?_
    exact ok_iret hc rfl dX11_change_30
  · refine ok_aload_n 0 hc dX11_change_11 rfl rfl ?_
    refine ok_getr 17 hc FS_X11_37 rfl sX_0 rfl dX11_change_12 ?_
    refine ok_getr 18 hc FS_X11_143 rfl sX_17 rfl dX11_change_15 ?_
    refine ok_iload_n 1 hc dX11_change_18 rfl rfl ?_
    refine ok_aald (fun j => 19 + j) "AirParted$Sender" hc sX_18 rfl snd_rf dX11_change_19 (fun h4 => ?_)
    show Ok Γ wX 20 [(0, rv Γ 0), (1, .int a1), (2, .int a2), (3, .int a3)] (rv Γ (19 + nt a1) :: []) S2 _
    refine ok_iload_n 2 hc dX11_change_20 rfl rfl ?_
    refine ok_iload_n 3 hc dX11_change_21 rfl rfl ?_
    refine ok_callVi (As := [.int a2, .int a3]) (st := []) (fun n0 => [.ref (n0 + (19 + nt a1)), .int a2, .int a3]) hc VS_X11_176 (snd_ob h4) rfl rfl rfl ⟨Nat.le_of_ble_eq_true rfl, Nat.le_of_ble_eq_true rfl⟩ (Nat.le_of_ble_eq_true rfl) (fun q h => tX5_replace (19 + nt a1) a2 a3 (snd_ob h4) S2 q h) dX11_change_22 (fun v5 S6 => ?_)
    refine ok_goto 30 hc dX11_change_25 (by decide) ?_
    exact ok_iret hc rfl dX11_change_30
def fX11_cheats_L74_st (a2 : Int32) (a3 : Int32) (a4 : Int32) (a5 : Int32) (rec : Int32 → St → Option (Int32 × St)) (a6 : Int32) (S : St) : Option (Int32 × St) :=
  bnd (fX2_size S) (fun v1 S2 => if v1 ≤ a6 then (some (1, S2)) else (bnd (fX2_squaredWay a6 a4 S2) (fun v4 S5 => jn (fun (S6 : St) => rec (a6 + 1) S6) (fun k7 => if (a2 * a2) < v4 then (k7 S5) else (bnd (fX10_agrees a6 a5 a3 S5) (fun v9 S10 => if v9 = 0 then (k7 S10) else (some (0, S10))))))))
def fX11_cheats_L74 (a2 : Int32) (a3 : Int32) (a4 : Int32) (a5 : Int32) : Nat → Int32 → St → Option (Int32 × St)
  | 0 => fun _ _ => none
  | n + 1 => fun a6 S => fX11_cheats_L74_st a2 a3 a4 a5 (fX11_cheats_L74 a2 a3 a4 a5 n) a6 S
def fX11_cheats (a1 : Int32) (a2 : Int32) (a3 : Int32) (S : St) : Option (Int32 × St) :=
  bnd (fX0_has a1 S) (fun v1 S2 => if v1 = 0 then (some ((-2), S2)) else (bnd (fX11_within a2 0 30 S2) (fun v4 S5 => if v4 = 0 then (some ((-2), S5)) else (bnd (fX11_within a3 0 100 S5) (fun v7 S8 => if v7 = 0 then (some ((-2), S8)) else (bnd (fX10_readable S8) (fun v10 S11 => if v10 = 0 then (some ((-3), S11)) else (bnd (fX0_cellOf a1 S11) (fun v13 S14 => if ib a1 20 then (lt (S14.1 (19 + nt a1) 2) (fun (v16 : Int32) => fX11_cheats_L74 a2 a3 v13 v16 FU 0 S14)) else none)))))))))
set_option maxRecDepth 100000 in
set_option maxHeartbeats 4000000 in
theorem tX11_cheats_L74 {Γ : Cx Int32} (hc : Cok Γ wX vI mX11_cheats) (a2 : Int32) (a3 : Int32) (a4 : Int32) (a5 : Int32) : ∀ (n : Nat) (a6 : Int32) (S : St), Ok Γ wX 74 [(0, rv Γ 0), (2, .int a2), (3, .int a3), (4, .int a4), (5, .int a5), (6, .int a6)] [] S (fX11_cheats_L74 a2 a3 a4 a5 n a6 S) := by
  intro n
  induction n with
  | zero =>
    intro a6 S
    exact ok_none
  | succ n ih =>
    intro a6 S
    show Ok Γ wX 74 [(0, rv Γ 0), (2, .int a2), (3, .int a3), (4, .int a4), (5, .int a5), (6, .int a6)] [] S (fX11_cheats_L74_st a2 a3 a4 a5 (fX11_cheats_L74 a2 a3 a4 a5 n) a6 S)
    unfold fX11_cheats_L74_st
    refine ok_iload 5 hc dX11_cheats_74 rfl ?_
    refine ok_aload_n 0 hc dX11_cheats_76 rfl rfl ?_
    refine ok_getr 16 hc FS_X11_28 rfl sX_0 rfl dX11_cheats_77 ?_
    refine ok_callVi (As := []) (st := [.int a6]) (fun n0 => [.ref (n0 + 16)]) hc VS_X11_325 sX_16 rfl rfl rfl ⟨Nat.le_of_ble_eq_true rfl, Nat.le_of_ble_eq_true rfl⟩ (Nat.le_of_ble_eq_true rfl) (fun q h => tX2_size S q h) dX11_cheats_80 (fun v1 S2 => ?_)
    refine ok_icmp_ge_ite 126 hc dX11_cheats_83 (by decide) (fun h3 => ?_) (fun h3 => ?_)
    · refine ok_iconst (v := 1) hc dX11_cheats_126 (by decide) ?_
      exact ok_iret hc rfl dX11_cheats_127
    · refine ok_aload_n 0 hc dX11_cheats_86 rfl rfl ?_
      refine ok_getr 16 hc FS_X11_28 rfl sX_0 rfl dX11_cheats_87 ?_
      refine ok_iload 5 hc dX11_cheats_90 rfl ?_
      refine ok_iload 3 hc dX11_cheats_92 rfl ?_
      refine ok_callVi (As := [.int a6, .int a4]) (st := []) (fun n0 => [.ref (n0 + 16), .int a6, .int a4]) hc VS_X11_337 sX_16 rfl rfl rfl ⟨Nat.le_of_ble_eq_true rfl, Nat.le_of_ble_eq_true rfl⟩ (Nat.le_of_ble_eq_true rfl) (fun q h => tX2_squaredWay a6 a4 S2 q h) dX11_cheats_94 (fun v4 S5 => ?_)
      refine ok_iload_n 1 hc dX11_cheats_97 rfl rfl ?_
      refine ok_iload_n 1 hc dX11_cheats_98 rfl rfl ?_
      refine ok_imul hc dX11_cheats_99 ?_
      refine ok_jn (fun g => ∀ (S6 : St), Ok Γ wX 120 [(0, rv Γ 0), (2, .int a2), (3, .int a3), (4, .int a4), (5, .int a5), (6, .int a6)] [] S6 (g S6)) ?_ (fun k7 hk7 => ?_)
      · intro S6
        refine ok_iinc (v := 1) 5 [(6, .int (a6 + 1)), (0, rv Γ 0), (2, .int a2), (3, .int a3), (4, .int a4), (5, .int a5)] hc dX11_cheats_120 rfl (by decide) (Nat.le_of_ble_eq_true rfl) rfl ?_
        refine ok_goto 74 hc dX11_cheats_123 (by decide) ?_
        refine ok_sub [1, 2, 3, 4, 5, 0] rfl ?_
        exact ih _ _
      · refine ok_icmp_gt_ite 120 hc dX11_cheats_100 (by decide) (fun h8 => ?_) (fun h8 => ?_)
        · exact hk7 _
        · refine ok_aload_n 0 hc dX11_cheats_103 rfl rfl ?_
          refine ok_getr 67 hc FS_X11_76 rfl sX_0 rfl dX11_cheats_104 ?_
          refine ok_iload 5 hc dX11_cheats_107 rfl ?_
          refine ok_iload 4 hc dX11_cheats_109 rfl ?_
          refine ok_iload_n 2 hc dX11_cheats_111 rfl rfl ?_
          refine ok_callVi (As := [.int a6, .int a5, .int a3]) (st := []) (fun n0 => [.ref (n0 + 67), .int a6, .int a5, .int a3]) hc VS_X11_328 sX_67 rfl rfl rfl ⟨Nat.le_of_ble_eq_true rfl, Nat.le_of_ble_eq_true rfl⟩ (Nat.le_of_ble_eq_true rfl) (fun q h => tX10_agrees a6 a5 a3 S5 q h) dX11_cheats_112 (fun v9 S10 => ?_)
          refine ok_if_eq_ite 120 hc dX11_cheats_115 (by decide) (fun h11 => ?_) (fun h11 => ?_)
          · exact hk7 _
          · refine ok_iconst (v := 0) hc dX11_cheats_118 (by decide) ?_
            exact ok_iret hc rfl dX11_cheats_119
set_option maxRecDepth 100000 in
set_option maxHeartbeats 4000000 in
theorem tX11_cheats (a1 : Int32) (a2 : Int32) (a3 : Int32) (S : St) (q : Int32 × St) (h : fX11_cheats a1 a2 a3 S = some q) : MT vI wX mX11_cheats (fun n0 => [.ref (n0 + 0), .int a1, .int a2, .int a3]) S q := by
  refine mt_of (show plainFor yX11_cheats = true from by decide) (fun _ => Nat.le_of_ble_eq_true rfl) ?_
  intro Γ hc _
  rw [← h]
  show Ok Γ wX 0 [(0, rv Γ 0), (1, .int a1), (2, .int a2), (3, .int a3)] [] S _
  unfold fX11_cheats
  refine ok_aload_n 0 hc dX11_cheats_0 rfl rfl ?_
  refine ok_getr 17 hc FS_X11_37 rfl sX_0 rfl dX11_cheats_1 ?_
  refine ok_iload_n 1 hc dX11_cheats_4 rfl rfl ?_
  refine ok_callVi (As := [.int a1]) (st := []) (fun n0 => [.ref (n0 + 17), .int a1]) hc VS_X11_167 sX_17 rfl rfl rfl ⟨Nat.le_of_ble_eq_true rfl, Nat.le_of_ble_eq_true rfl⟩ (Nat.le_of_ble_eq_true rfl) (fun q h => tX0_has a1 S q h) dX11_cheats_5 (fun v1 S2 => ?_)
  refine ok_if_eq_ite 31 hc dX11_cheats_8 (by decide) (fun h3 => ?_) (fun h3 => ?_)
  · refine ok_bipush (v := (-2)) hc dX11_cheats_31 (by decide) ?_
    exact ok_iret hc rfl dX11_cheats_33
  · refine ok_iload_n 2 hc dX11_cheats_11 rfl rfl ?_
    refine ok_iconst (v := 0) hc dX11_cheats_12 (by decide) ?_
    refine ok_bipush (v := 30) hc dX11_cheats_13 (by decide) ?_
    refine ok_callSi (As := [.int a2, .int 0, .int 30]) (st := []) (fun n0 => [.int a2, .int 0, .int 30]) hc SS_X11_93 rfl rfl rfl ⟨Nat.le_of_ble_eq_true rfl, Nat.le_of_ble_eq_true rfl⟩ (Nat.le_of_ble_eq_true rfl) (fun q h => tX11_within a2 0 30 S2 q h) dX11_cheats_15 (fun v4 S5 => ?_)
    refine ok_if_eq_ite 31 hc dX11_cheats_18 (by decide) (fun h6 => ?_) (fun h6 => ?_)
    · refine ok_bipush (v := (-2)) hc dX11_cheats_31 (by decide) ?_
      exact ok_iret hc rfl dX11_cheats_33
    · refine ok_iload_n 3 hc dX11_cheats_21 rfl rfl ?_
      refine ok_iconst (v := 0) hc dX11_cheats_22 (by decide) ?_
      refine ok_bipush (v := 100) hc dX11_cheats_23 (by decide) ?_
      refine ok_callSi (As := [.int a3, .int 0, .int 100]) (st := []) (fun n0 => [.int a3, .int 0, .int 100]) hc SS_X11_93 rfl rfl rfl ⟨Nat.le_of_ble_eq_true rfl, Nat.le_of_ble_eq_true rfl⟩ (Nat.le_of_ble_eq_true rfl) (fun q h => tX11_within a3 0 100 S5 q h) dX11_cheats_25 (fun v7 S8 => ?_)
      refine ok_if_ne_ite 34 hc dX11_cheats_28 (by decide) (fun h9 => ?_) (fun h9 => ?_)
      · refine ok_aload_n 0 hc dX11_cheats_34 rfl rfl ?_
        refine ok_getr 67 hc FS_X11_76 rfl sX_0 rfl dX11_cheats_35 ?_
        refine ok_callVi (As := []) (st := []) (fun n0 => [.ref (n0 + 67)]) hc VS_X11_331 sX_67 rfl rfl rfl ⟨Nat.le_of_ble_eq_true rfl, Nat.le_of_ble_eq_true rfl⟩ (Nat.le_of_ble_eq_true rfl) (fun q h => tX10_readable S8 q h) dX11_cheats_38 (fun v10 S11 => ?_)
        refine ok_if_ne_ite 47 hc dX11_cheats_41 (by decide) (fun h12 => ?_) (fun h12 => ?_)
        · refine ok_aload_n 0 hc dX11_cheats_47 rfl rfl ?_
          refine ok_getr 17 hc FS_X11_37 rfl sX_0 rfl dX11_cheats_48 ?_
          refine ok_iload_n 1 hc dX11_cheats_51 rfl rfl ?_
          refine ok_callVi (As := [.int a1]) (st := []) (fun n0 => [.ref (n0 + 17), .int a1]) hc VS_X11_334 sX_17 rfl rfl rfl ⟨Nat.le_of_ble_eq_true rfl, Nat.le_of_ble_eq_true rfl⟩ (Nat.le_of_ble_eq_true rfl) (fun q h => tX0_cellOf a1 S11 q h) dX11_cheats_52 (fun v13 S14 => ?_)
          refine ok_istore [(4, .int v13), (0, rv Γ 0), (1, .int a1), (2, .int a2), (3, .int a3)] hc dX11_cheats_55 (Nat.le_of_ble_eq_true rfl) rfl ?_
          refine ok_aload_n 1 hc dX11_cheats_57 rfl rfl ?_
          refine ok_getr 17 hc FS_X11_37 rfl sX_0 rfl dX11_cheats_58 ?_
          refine ok_getr 18 hc FS_X11_143 rfl sX_17 rfl dX11_cheats_61 ?_
          refine ok_iload_n 2 hc dX11_cheats_64 rfl rfl ?_
          refine ok_aald (fun j => 19 + j) "AirParted$Sender" hc sX_18 rfl snd_rf dX11_cheats_65 (fun h15 => ?_)
          show Ok Γ wX 66 [(4, .int v13), (0, rv Γ 0), (1, .int a1), (2, .int a2), (3, .int a3)] (rv Γ (19 + nt a1) :: []) S14 _
          refine ok_geti hc FS_X11_155 rfl (snd_ob h15) dX11_cheats_66 ?_
          refine ok_lti (fun v16 => ?_)
          refine ok_istore [(5, .int v16), (4, .int v13), (0, rv Γ 0), (1, .int a1), (2, .int a2), (3, .int a3)] hc dX11_cheats_69 (Nat.le_of_ble_eq_true rfl) rfl ?_
          refine ok_iconst (v := 0) hc dX11_cheats_71 (by decide) ?_
          refine ok_istore [(6, .int 0), (5, .int v16), (4, .int v13), (0, rv Γ 0), (1, .int a1), (2, .int a2), (3, .int a3)] hc dX11_cheats_72 (Nat.le_of_ble_eq_true rfl) rfl ?_
          refine ok_sub [3, 5, 6, 2, 1, 0] rfl ?_
          refine tX11_cheats_L74 hc _ _ _ _   FU _ _
        · refine ok_bipush (v := (-3)) hc dX11_cheats_44 (by decide) ?_
          exact ok_iret hc rfl dX11_cheats_46
      · refine ok_bipush (v := (-2)) hc dX11_cheats_31 (by decide) ?_
        exact ok_iret hc rfl dX11_cheats_33
def fX11_found (a1 : Int32) (S : St) : Option (Int32 × St) :=
  lt (wi S 0 11 a1) (fun S1 => some ((-10) - a1, S1))
set_option maxRecDepth 100000 in
set_option maxHeartbeats 4000000 in
theorem tX11_found (a1 : Int32) (S : St) (q : Int32 × St) (h : fX11_found a1 S = some q) : MT vI wX mX11_found (fun n0 => [.ref (n0 + 0), .int a1]) S q := by
  refine mt_of (show plainFor yX11_found = true from by decide) (fun _ => Nat.le_of_ble_eq_true rfl) ?_
  intro Γ hc _
  rw [← h]
  show Ok Γ wX 0 [(0, rv Γ 0), (1, .int a1)] [] S _
  unfold fX11_found
  refine ok_aload_n 0 hc dX11_found_0 rfl rfl ?_
  refine ok_iload_n 1 hc dX11_found_1 rfl rfl ?_
  refine ok_puti hc FP_X11_394 rfl sX_0 dX11_found_2 ?_
  refine ok_ltS (fun S1 => ?_)
  refine ok_bipush (v := (-10)) hc dX11_found_5 (by decide) ?_
  refine ok_iload_n 1 hc dX11_found_7 rfl rfl ?_
  refine ok_isub hc dX11_found_8 ?_
  exact ok_iret hc rfl dX11_found_9
def fX11_copy (a1 : Int32) (a2 : Int32) (a3 : Int32) (a4 : Int32) (a5 : Int32) (S : St) : Option (Int32 × St) :=
  bnd (fX11_isSheet a1 S) (fun v1 S2 => if v1 = 0 then (some ((-2), S2)) else (bnd (fX11_isSheet a3 S2) (fun v4 S5 => if v4 = 0 then (some ((-2), S5)) else (if ib a1 6 then (if ib a3 6 then (jn (fun (S9 : St) => bnd (fX11_found 1 S9) (fun v11 S12 => some (v11, S12))) (fun k10 => if (S5.1 (4 + 2 * nt a1) 1) = 0 then (if (S5.1 (4 + 2 * nt a3) 1) = 0 then (if (S5.1 (4 + 2 * nt a1) 2) = (S5.1 (4 + 2 * nt a3) 2) then (bnd (fX6_holds (4 + 2 * nt a1) a2 a5 S5) (fun v16 S17 => jn (fun (S18 : St) => bnd (fX11_found 2 S18) (fun v20 S21 => some (v20, S21))) (fun k19 => if v16 = 0 then (k19 S17) else (bnd (fX6_holds (4 + 2 * nt a3) a4 a5 S17) (fun v23 S24 => if v23 = 0 then (k19 S24) else (if cpg a2 a4 a5 400 then lt (cpj S24 (4 + 2 * nt a1 + 1) (nt a2) (4 + 2 * nt a3 + 1) (nt a4) (nt a5)) (fun S26 => some (1, S26)) else none)))))) else (bnd (fX11_found 4 S5) (fun v28 S29 => some (v28, S29)))) else (k10 S5)) else (k10 S5))) else none) else none))))
set_option maxRecDepth 100000 in
set_option maxHeartbeats 4000000 in
theorem tX11_copy (a1 : Int32) (a2 : Int32) (a3 : Int32) (a4 : Int32) (a5 : Int32) (S : St) (q : Int32 × St) (h : fX11_copy a1 a2 a3 a4 a5 S = some q) : MT vI wX mX11_copy (fun n0 => [.ref (n0 + 0), .int a1, .int a2, .int a3, .int a4, .int a5]) S q := by
  refine mt_of (show plainFor yX11_copy = true from by decide) (fun _ => Nat.le_of_ble_eq_true rfl) ?_
  intro Γ hc _
  rw [← h]
  show Ok Γ wX 0 [(0, rv Γ 0), (1, .int a1), (2, .int a2), (3, .int a3), (4, .int a4), (5, .int a5)] [] S _
  unfold fX11_copy
  refine ok_iload_n 1 hc dX11_copy_0 rfl rfl ?_
  refine ok_callSi (As := [.int a1]) (st := []) (fun n0 => [.int a1]) hc SS_X11_368 rfl rfl rfl ⟨Nat.le_of_ble_eq_true rfl, Nat.le_of_ble_eq_true rfl⟩ (Nat.le_of_ble_eq_true rfl) (fun q h => tX11_isSheet a1 S q h) dX11_copy_1 (fun v1 S2 => ?_)
  refine ok_if_eq_ite 14 hc dX11_copy_4 (by decide) (fun h3 => ?_) (fun h3 => ?_)
  · refine ok_bipush (v := (-2)) hc dX11_copy_14 (by decide) ?_
    exact ok_iret hc rfl dX11_copy_16
  · refine ok_iload_n 3 hc dX11_copy_7 rfl rfl ?_
    refine ok_callSi (As := [.int a3]) (st := []) (fun n0 => [.int a3]) hc SS_X11_368 rfl rfl rfl ⟨Nat.le_of_ble_eq_true rfl, Nat.le_of_ble_eq_true rfl⟩ (Nat.le_of_ble_eq_true rfl) (fun q h => tX11_isSheet a3 S2 q h) dX11_copy_8 (fun v4 S5 => ?_)
    refine ok_if_ne_ite 17 hc dX11_copy_11 (by decide) (fun h6 => ?_) (fun h6 => ?_)
    · refine ok_aload_n 0 hc dX11_copy_17 rfl rfl ?_
      refine ok_getr 3 hc FS_X11_18 rfl sX_0 rfl dX11_copy_18 ?_
      refine ok_iload_n 1 hc dX11_copy_21 rfl rfl ?_
      refine ok_aald (fun j => 4 + 2 * j) "AirParted$Sheet" hc sX_3 rfl sht_rf dX11_copy_22 (fun h7 => ?_)
      show Ok Γ wX 23 [(0, rv Γ 0), (1, .int a1), (2, .int a2), (3, .int a3), (4, .int a4), (5, .int a5)] (rv Γ (4 + 2 * nt a1) :: []) S5 _
      refine ok_astore [(6, rv Γ (4 + 2 * nt a1)), (0, rv Γ 0), (1, .int a1), (2, .int a2), (3, .int a3), (4, .int a4), (5, .int a5)] hc dX11_copy_23 (Nat.le_of_ble_eq_true rfl) rfl ?_
      refine ok_aload_n 1 hc dX11_copy_25 rfl rfl ?_
      refine ok_getr 3 hc FS_X11_18 rfl sX_0 rfl dX11_copy_26 ?_
      refine ok_iload_n 4 hc dX11_copy_29 rfl rfl ?_
      refine ok_aald (fun j => 4 + 2 * j) "AirParted$Sheet" hc sX_3 rfl sht_rf dX11_copy_30 (fun h8 => ?_)
      show Ok Γ wX 31 [(6, rv Γ (4 + 2 * nt a1)), (0, rv Γ 0), (1, .int a1), (2, .int a2), (3, .int a3), (4, .int a4), (5, .int a5)] (rv Γ (4 + 2 * nt a3) :: []) S5 _
      refine ok_astore [(7, rv Γ (4 + 2 * nt a3)), (6, rv Γ (4 + 2 * nt a1)), (0, rv Γ 0), (1, .int a1), (2, .int a2), (3, .int a3), (4, .int a4), (5, .int a5)] hc dX11_copy_31 (Nat.le_of_ble_eq_true rfl) rfl ?_
      refine ok_aload 1 hc dX11_copy_33 rfl ?_
      refine ok_geti hc FS_X11_381 rfl (sht_ob h7) dX11_copy_35 ?_
      refine ok_jn (fun g => ∀ (S9 : St), Ok Γ wX 49 [(0, rv Γ 0)] [] S9 (g S9)) ?_ (fun k10 hk10 => ?_)
      · intro S9
        refine ok_aload_n 0 hc dX11_copy_49 rfl rfl ?_
        refine ok_iconst (v := 1) hc dX11_copy_50 (by decide) ?_
        refine ok_callVi (As := [.int 1]) (st := []) (fun n0 => [.ref (n0 + 0), .int 1]) hc VS_X11_374 sX_0 rfl rfl rfl ⟨Nat.le_of_ble_eq_true rfl, Nat.le_of_ble_eq_true rfl⟩ (Nat.le_of_ble_eq_true rfl) (fun q h => tX11_found 1 S9 q h) dX11_copy_51 (fun v11 S12 => ?_)
        exact ok_iret hc rfl dX11_copy_54
      · refine ok_if_ne_ite 49 hc dX11_copy_38 (by decide) (fun h13 => ?_) (fun h13 => ?_)
        · refine ok_sub [2] rfl ?_
          exact hk10 _
        · refine ok_aload 0 hc dX11_copy_41 rfl ?_
          refine ok_geti hc FS_X11_381 rfl (sht_ob h8) dX11_copy_43 ?_
          refine ok_if_eq_ite 55 hc dX11_copy_46 (by decide) (fun h14 => ?_) (fun h14 => ?_)
          · refine ok_aload 1 hc dX11_copy_55 rfl ?_
            refine ok_geti hc FS_X11_400 rfl (sht_ob h7) dX11_copy_57 ?_
            refine ok_aload 0 hc dX11_copy_60 rfl ?_
            refine ok_geti hc FS_X11_400 rfl (sht_ob h8) dX11_copy_62 ?_
            refine ok_icmp_eq_ite 74 hc dX11_copy_65 (by decide) (fun h15 => ?_) (fun h15 => ?_)
            · refine ok_aload 1 hc dX11_copy_74 rfl ?_
              refine ok_iload_n 4 hc dX11_copy_76 rfl rfl ?_
              refine ok_iload 7 hc dX11_copy_77 rfl ?_
              refine ok_callVi (As := [.int a2, .int a5]) (st := []) (fun n0 => [.ref (n0 + (4 + 2 * nt a1)), .int a2, .int a5]) hc VS_X11_403 (sht_ob h7) rfl rfl rfl ⟨Nat.le_of_ble_eq_true rfl, Nat.le_of_ble_eq_true rfl⟩ (Nat.le_of_ble_eq_true rfl) (fun q h => tX6_holds (4 + 2 * nt a1) a2 a5 (sht_ob h7) S5 q h) dX11_copy_79 (fun v16 S17 => ?_)
              refine ok_jn (fun g => ∀ (S18 : St), Ok Γ wX 97 [(0, rv Γ 0)] [] S18 (g S18)) ?_ (fun k19 hk19 => ?_)
              · intro S18
                refine ok_aload_n 0 hc dX11_copy_97 rfl rfl ?_
                refine ok_iconst (v := 2) hc dX11_copy_98 (by decide) ?_
                refine ok_callVi (As := [.int 2]) (st := []) (fun n0 => [.ref (n0 + 0), .int 2]) hc VS_X11_374 sX_0 rfl rfl rfl ⟨Nat.le_of_ble_eq_true rfl, Nat.le_of_ble_eq_true rfl⟩ (Nat.le_of_ble_eq_true rfl) (fun q h => tX11_found 2 S18 q h) dX11_copy_99 (fun v20 S21 => ?_)
                exact ok_iret hc rfl dX11_copy_102
              · refine ok_if_eq_ite 97 hc dX11_copy_82 (by decide) (fun h22 => ?_) (fun h22 => ?_)
                · refine ok_sub [2] rfl ?_
                  exact hk19 _
                · refine ok_aload 0 hc dX11_copy_85 rfl ?_
                  refine ok_iload 6 hc dX11_copy_87 rfl ?_
                  refine ok_iload 7 hc dX11_copy_89 rfl ?_
                  refine ok_callVi (As := [.int a4, .int a5]) (st := []) (fun n0 => [.ref (n0 + (4 + 2 * nt a3)), .int a4, .int a5]) hc VS_X11_403 (sht_ob h8) rfl rfl rfl ⟨Nat.le_of_ble_eq_true rfl, Nat.le_of_ble_eq_true rfl⟩ (Nat.le_of_ble_eq_true rfl) (fun q h => tX6_holds (4 + 2 * nt a3) a4 a5 (sht_ob h8) S17 q h) dX11_copy_91 (fun v23 S24 => ?_)
                  refine ok_if_ne_ite 103 hc dX11_copy_94 (by decide) (fun h25 => ?_) (fun h25 => ?_)
                  · refine ok_aload 1 hc dX11_copy_103 rfl ?_
                    refine ok_getr (4 + 2 * nt a1 + 1) hc FS_X11_397 rfl (sht_ob h7) (sht_it (sht_ob h7)).1 dX11_copy_105 ?_
                    refine ok_iload_n 4 hc dX11_copy_108 rfl rfl ?_
                    refine ok_aload 0 hc dX11_copy_109 rfl ?_
                    refine ok_getr (4 + 2 * nt a3 + 1) hc FS_X11_397 rfl (sht_ob h8) (sht_it (sht_ob h8)).1 dX11_copy_111 ?_
                    refine ok_iload 6 hc dX11_copy_114 rfl ?_
                    refine ok_iload 7 hc dX11_copy_116 rfl ?_
                    refine ok_copyJ hc W_1058 W_1060 W_1059 W_17 (sht_it (sht_ob h7)).2 (sht_it (sht_ob h8)).2 (Nat.le_of_ble_eq_true rfl) (by decide +kernel) dX11_copy_118 (fun h27 => ?_)
                    refine ok_ltS (fun S26 => ?_)
                    refine ok_iconst (v := 1) hc dX11_copy_121 (by decide) ?_
                    exact ok_iret hc rfl dX11_copy_122
                  · refine ok_sub [2] rfl ?_
                    exact hk19 _
            · refine ok_aload_n 2 hc dX11_copy_68 rfl rfl ?_
              refine ok_iconst (v := 4) hc dX11_copy_69 (by decide) ?_
              refine ok_callVi (As := [.int 4]) (st := []) (fun n0 => [.ref (n0 + 0), .int 4]) hc VS_X11_374 sX_0 rfl rfl rfl ⟨Nat.le_of_ble_eq_true rfl, Nat.le_of_ble_eq_true rfl⟩ (Nat.le_of_ble_eq_true rfl) (fun q h => tX11_found 4 S5 q h) dX11_copy_70 (fun v28 S29 => ?_)
              exact ok_iret hc rfl dX11_copy_73
          · refine ok_sub [2] rfl ?_
            exact hk10 _
    · refine ok_bipush (v := (-2)) hc dX11_copy_14 (by decide) ?_
      exact ok_iret hc rfl dX11_copy_16
def fX11_count (a1 : Int32) (S : St) : Option (Int32 × St) :=
  if a1 = 0 then (some (S.1 17 6, S)) else if a1 = 1 then (bnd (fX0_totalOn S) (fun v3 S4 => some (v3, S4))) else if a1 = 2 then (some (S.1 56 2, S)) else if a1 = 3 then (some (S.1 59 7, S)) else if a1 = 4 then (some (S.1 67 3, S)) else if a1 = 5 then (bnd (fX10_readable S) (fun v9 S10 => some (v9, S10))) else if a1 = 6 then (some (S.1 70 9, S)) else if a1 = 7 then (some (S.1 70 10, S)) else if a1 = 8 then (some (S.1 17 7, S)) else if a1 = 9 then (some (S.1 0 11, S)) else if a1 = 10 then (some (S.1 16 3, S)) else if a1 = 11 then (some (S.1 16 4, S)) else (some ((-2), S))
set_option maxRecDepth 100000 in
set_option maxHeartbeats 4000000 in
theorem tX11_count (a1 : Int32) (S : St) (q : Int32 × St) (h : fX11_count a1 S = some q) : MT vI wX mX11_count (fun n0 => [.ref (n0 + 0), .int a1]) S q := by
  refine mt_of (show plainFor yX11_count = true from by decide) (fun _ => Nat.le_of_ble_eq_true rfl) ?_
  intro Γ hc _
  rw [← h]
  show Ok Γ wX 0 [(0, rv Γ 0), (1, .int a1)] [] S _
  unfold fX11_count
  refine ok_iload_n 1 hc dX11_count_0 rfl rfl ?_
  refine ok_ite (fun h1 => ?_) (fun h1 => ?_)
  · refine ok_tswIn (v := 0) 64 hc dX11_count_1 h1 (by decide) (by decide) rfl (by decide) ?_
    refine ok_aload_n 0 hc dX11_count_64 rfl rfl ?_
    refine ok_getr 17 hc FS_X11_37 rfl sX_0 rfl dX11_count_65 ?_
    refine ok_geti hc FS_X11_97 rfl sX_17 dX11_count_68 ?_
    exact ok_iret hc rfl dX11_count_71
  · refine ok_ite (fun h2 => ?_) (fun h2 => ?_)
    · refine ok_tswIn (v := 1) 72 hc dX11_count_1 h2 (by decide) (by decide) rfl (by decide) ?_
      refine ok_aload_n 0 hc dX11_count_72 rfl rfl ?_
      refine ok_getr 17 hc FS_X11_37 rfl sX_0 rfl dX11_count_73 ?_
      refine ok_callVi (As := []) (st := []) (fun n0 => [.ref (n0 + 17)]) hc VS_X11_416 sX_17 rfl rfl rfl ⟨Nat.le_of_ble_eq_true rfl, Nat.le_of_ble_eq_true rfl⟩ (Nat.le_of_ble_eq_true rfl) (fun q h => tX0_totalOn S q h) dX11_count_76 (fun v3 S4 => ?_)
      exact ok_iret hc rfl dX11_count_79
    · refine ok_ite (fun h5 => ?_) (fun h5 => ?_)
      · refine ok_tswIn (v := 2) 80 hc dX11_count_1 h5 (by decide) (by decide) rfl (by decide) ?_
        refine ok_aload_n 0 hc dX11_count_80 rfl rfl ?_
        refine ok_getr 56 hc FS_X11_60 rfl sX_0 rfl dX11_count_81 ?_
        refine ok_geti hc FS_X11_285 rfl sX_56 dX11_count_84 ?_
        exact ok_iret hc rfl dX11_count_87
      · refine ok_ite (fun h6 => ?_) (fun h6 => ?_)
        · refine ok_tswIn (v := 3) 88 hc dX11_count_1 h6 (by decide) (by decide) rfl (by decide) ?_
          refine ok_aload_n 0 hc dX11_count_88 rfl rfl ?_
          refine ok_getr 59 hc FS_X11_67 rfl sX_0 rfl dX11_count_89 ?_
          refine ok_geti hc FS_X11_295 rfl sX_59 dX11_count_92 ?_
          exact ok_iret hc rfl dX11_count_95
        · refine ok_ite (fun h7 => ?_) (fun h7 => ?_)
          · refine ok_tswIn (v := 4) 96 hc dX11_count_1 h7 (by decide) (by decide) rfl (by decide) ?_
            refine ok_aload_n 0 hc dX11_count_96 rfl rfl ?_
            refine ok_getr 67 hc FS_X11_76 rfl sX_0 rfl dX11_count_97 ?_
            refine ok_geti hc FS_X11_101 rfl sX_67 dX11_count_100 ?_
            exact ok_iret hc rfl dX11_count_103
          · refine ok_ite (fun h8 => ?_) (fun h8 => ?_)
            · refine ok_tswIn (v := 5) 104 hc dX11_count_1 h8 (by decide) (by decide) rfl (by decide) ?_
              refine ok_aload_n 0 hc dX11_count_104 rfl rfl ?_
              refine ok_getr 67 hc FS_X11_76 rfl sX_0 rfl dX11_count_105 ?_
              refine ok_callVi (As := []) (st := []) (fun n0 => [.ref (n0 + 67)]) hc VS_X11_331 sX_67 rfl rfl rfl ⟨Nat.le_of_ble_eq_true rfl, Nat.le_of_ble_eq_true rfl⟩ (Nat.le_of_ble_eq_true rfl) (fun q h => tX10_readable S q h) dX11_count_108 (fun v9 S10 => ?_)
              exact ok_iret hc rfl dX11_count_111
            · refine ok_ite (fun h11 => ?_) (fun h11 => ?_)
              · refine ok_tswIn (v := 6) 112 hc dX11_count_1 h11 (by decide) (by decide) rfl (by decide) ?_
                refine ok_aload_n 0 hc dX11_count_112 rfl rfl ?_
                refine ok_getr 70 hc FS_X11_85 rfl sX_0 rfl dX11_count_113 ?_
                refine ok_geti hc FS_X11_102 rfl sX_70 dX11_count_116 ?_
                exact ok_iret hc rfl dX11_count_119
              · refine ok_ite (fun h12 => ?_) (fun h12 => ?_)
                · refine ok_tswIn (v := 7) 120 hc dX11_count_1 h12 (by decide) (by decide) rfl (by decide) ?_
                  refine ok_aload_n 0 hc dX11_count_120 rfl rfl ?_
                  refine ok_getr 70 hc FS_X11_85 rfl sX_0 rfl dX11_count_121 ?_
                  refine ok_geti hc FS_X11_105 rfl sX_70 dX11_count_124 ?_
                  exact ok_iret hc rfl dX11_count_127
                · refine ok_ite (fun h13 => ?_) (fun h13 => ?_)
                  · refine ok_tswIn (v := 8) 128 hc dX11_count_1 h13 (by decide) (by decide) rfl (by decide) ?_
                    refine ok_aload_n 0 hc dX11_count_128 rfl rfl ?_
                    refine ok_getr 17 hc FS_X11_37 rfl sX_0 rfl dX11_count_129 ?_
                    refine ok_geti hc FS_X11_139 rfl sX_17 dX11_count_132 ?_
                    exact ok_iret hc rfl dX11_count_135
                  · refine ok_ite (fun h14 => ?_) (fun h14 => ?_)
                    · refine ok_tswIn (v := 9) 136 hc dX11_count_1 h14 (by decide) (by decide) rfl (by decide) ?_
                      refine ok_aload_n 0 hc dX11_count_136 rfl rfl ?_
                      refine ok_geti hc FS_X11_394 rfl sX_0 dX11_count_137 ?_
                      exact ok_iret hc rfl dX11_count_140
                    · refine ok_ite (fun h15 => ?_) (fun h15 => ?_)
                      · refine ok_tswIn (v := 10) 141 hc dX11_count_1 h15 (by decide) (by decide) rfl (by decide) ?_
                        refine ok_aload_n 0 hc dX11_count_141 rfl rfl ?_
                        refine ok_getr 16 hc FS_X11_28 rfl sX_0 rfl dX11_count_142 ?_
                        refine ok_geti hc FS_X11_108 rfl sX_16 dX11_count_145 ?_
                        exact ok_iret hc rfl dX11_count_148
                      · refine ok_ite (fun h16 => ?_) (fun h16 => ?_)
                        · refine ok_tswIn (v := 11) 149 hc dX11_count_1 h16 (by decide) (by decide) rfl (by decide) ?_
                          refine ok_aload_n 0 hc dX11_count_149 rfl rfl ?_
                          refine ok_getr 16 hc FS_X11_28 rfl sX_0 rfl dX11_count_150 ?_
                          refine ok_geti hc FS_X11_111 rfl sX_16 dX11_count_153 ?_
                          exact ok_iret hc rfl dX11_count_156
                        · refine ok_tswOut 157 hc dX11_count_1 (by have i0 := ne_i (k := 0) h1 (by decide); have i1 := ne_i (k := 1) h2 (by decide); have i2 := ne_i (k := 2) h5 (by decide); have i3 := ne_i (k := 3) h6 (by decide); have i4 := ne_i (k := 4) h7 (by decide); have i5 := ne_i (k := 5) h8 (by decide); have i6 := ne_i (k := 6) h11 (by decide); have i7 := ne_i (k := 7) h12 (by decide); have i8 := ne_i (k := 8) h13 (by decide); have i9 := ne_i (k := 9) h14 (by decide); have i10 := ne_i (k := 10) h15 (by decide); have i11 := ne_i (k := 11) h16 (by decide); omega) (by decide) ?_
                          refine ok_bipush (v := (-2)) hc dX11_count_157 (by decide) ?_
                          exact ok_iret hc rfl dX11_count_159
def fX11_digest_L6_st (kx0 : Int64 → St → Option (Int64 × St)) (rec : Int64 → Int32 → St → Option (Int64 × St)) (a1 : Int64) (a3 : Int32) (S : St) : Option (Int64 × St) :=
  if 12 ≤ a3 then (kx0 a1 S) else (jn (fun (v2 : Int64) (S3 : St) => rec v2 (a3 + 1) S3) (fun k4 => if a3 = 9 then (k4 a1 S) else (bnd (fX11_count a3 S) (fun v6 S7 => lt ((31 * a1) + v6.toInt64) (fun (v8 : Int64) => k4 v8 S7)))))
def fX11_digest_L6 (kx0 : Int64 → St → Option (Int64 × St)) : Nat → Int64 → Int32 → St → Option (Int64 × St)
  | 0 => fun _ _ _ => none
  | n + 1 => fun a1 a3 S => fX11_digest_L6_st kx0 (fX11_digest_L6 kx0 n) a1 a3 S
def fX11_digest_L39_st (kx0 : Int64 → St → Option (Int64 × St)) (rec : Int64 → Int32 → St → Option (Int64 × St)) (a1 : Int64) (a3 : Int32) (S : St) : Option (Int64 × St) :=
  if 5 ≤ a3 then (kx0 a1 S) else (if ib a3 5 then (lt ((31 * a1) + ((S.1 2 (nt a3)).toInt64)) (fun (v3 : Int64) => rec v3 (a3 + 1) S)) else none)
def fX11_digest_L39 (kx0 : Int64 → St → Option (Int64 × St)) : Nat → Int64 → Int32 → St → Option (Int64 × St)
  | 0 => fun _ _ _ => none
  | n + 1 => fun a1 a3 S => fX11_digest_L39_st kx0 (fX11_digest_L39 kx0 n) a1 a3 S
def fX11_digest_L83_st (kx0 : Int64 → St → Option (Int64 × St)) (a3 : Int32) (rec : Int64 → Int32 → St → Option (Int64 × St)) (a1 : Int64) (a4 : Int32) (S : St) : Option (Int64 × St) :=
  if 11 ≤ a4 then (kx0 a1 S) else (bnd (fX0_tell a3 a4 S) (fun v2 S3 => lt ((31 * a1) + v2.toInt64) (fun (v4 : Int64) => rec v4 (a4 + 1) S3)))
def fX11_digest_L83 (kx0 : Int64 → St → Option (Int64 × St)) (a3 : Int32) : Nat → Int64 → Int32 → St → Option (Int64 × St)
  | 0 => fun _ _ _ => none
  | n + 1 => fun a1 a4 S => fX11_digest_L83_st kx0 a3 (fX11_digest_L83 kx0 a3 n) a1 a4 S
def fX11_digest_L69_st (kx0 : Int64 → St → Option (Int64 × St)) (rec : Int64 → Int32 → St → Option (Int64 × St)) (a1 : Int64) (a3 : Int32) (S : St) : Option (Int64 × St) :=
  if (S.1 17 6) ≤ a3 then (kx0 a1 S) else (fX11_digest_L83 (fun (v2 : Int64) (S3 : St) => if ib a3 20 then (jn (fun (v5 : Int32) (S6 : St) => lt ((31 * v2) + v5.toInt64) (fun (v8 : Int64) => rec v8 (a3 + 1) S6)) (fun k7 => if (S3.1 (19 + nt a3) 10) = 0 then (k7 (-3) S3) else (bnd (fX0_isHeard a3 S3) (fun v10 S11 => if v10 = 0 then (k7 0 S11) else (k7 1 S11))))) else none) a3 FU a1 0 S)
def fX11_digest_L69 (kx0 : Int64 → St → Option (Int64 × St)) : Nat → Int64 → Int32 → St → Option (Int64 × St)
  | 0 => fun _ _ _ => none
  | n + 1 => fun a1 a3 S => fX11_digest_L69_st kx0 (fX11_digest_L69 kx0 n) a1 a3 S
def fX11_digest (S : St) : Option (Int64 × St) :=
  fX11_digest_L6 (fun (v1 : Int64) (S2 : St) => fX11_digest_L39 (fun (v3 : Int64) (S4 : St) => fX11_digest_L69 (fun (v5 : Int64) (S6 : St) => bnd (fX9_choose 500 S6) (fun _ S7 => bnd (fX1_winners 0 S7) (fun v8 S9 => lt ((31 * v5) + v8.toInt64) (fun (v10 : Int64) => lt ((31 * v10) + ((S9.1 70 11).toInt64)) (fun (v11 : Int64) => some ((31 * v11) + ((S9.1 70 12).toInt64), S9)))))) FU v3 0 S4) FU v1 0 S2) FU 17 0 S
set_option maxRecDepth 100000 in
set_option maxHeartbeats 4000000 in
theorem tX11_digest_L6 {Γ : Cx Int64} (hc : Cok Γ wX vL mX11_digest) (kx0 : Int64 → St → Option (Int64 × St)) (hx0 : ∀ (a1 : Int64) (S : St), Ok Γ wX 37 [(0, rv Γ 0), (1, .long a1)] [] S (kx0 a1 S)) : ∀ (n : Nat) (a1 : Int64) (a3 : Int32) (S : St), Ok Γ wX 6 [(0, rv Γ 0), (1, .long a1), (3, .int a3)] [] S (fX11_digest_L6 kx0 n a1 a3 S) := by
  intro n
  induction n with
  | zero =>
    intro a1 a3 S
    exact ok_none
  | succ n ih =>
    intro a1 a3 S
    show Ok Γ wX 6 [(0, rv Γ 0), (1, .long a1), (3, .int a3)] [] S (fX11_digest_L6_st kx0 (fX11_digest_L6 kx0 n) a1 a3 S)
    unfold fX11_digest_L6_st
    refine ok_iload_n 2 hc dX11_digest_6 rfl rfl ?_
    refine ok_bipush (v := 12) hc dX11_digest_7 (by decide) ?_
    refine ok_icmp_ge_ite 37 hc dX11_digest_9 (by decide) (fun h1 => ?_) (fun h1 => ?_)
    · refine ok_sub [0, 1] rfl ?_
      exact hx0 _ _
    · refine ok_iload_n 2 hc dX11_digest_12 rfl rfl ?_
      refine ok_bipush (v := 9) hc dX11_digest_13 (by decide) ?_
      refine ok_jn (fun g => ∀ (v2 : Int64) (S3 : St), Ok Γ wX 31 [(0, rv Γ 0), (1, .long v2), (3, .int a3)] [] S3 (g v2 S3)) ?_ (fun k4 hk4 => ?_)
      · intro v2 S3
        refine ok_iinc (v := 1) 2 [(3, .int (a3 + 1)), (0, rv Γ 0), (1, .long v2)] hc dX11_digest_31 rfl (by decide) (Nat.le_of_ble_eq_true rfl) rfl ?_
        refine ok_goto 6 hc dX11_digest_34 (by decide) ?_
        refine ok_sub [1, 2, 0] rfl ?_
        exact ih _ _ _
      · refine ok_icmp_eq_ite 31 hc dX11_digest_15 (by decide) (fun h5 => ?_) (fun h5 => ?_)
        · exact hk4 _ _
        · refine ok_ldc2 hc dX11_digest_18 W_1079 ?_
          refine ok_lload_n 1 hc dX11_digest_21 rfl rfl ?_
          refine ok_lmul hc dX11_digest_22 ?_
          refine ok_aload_n 0 hc dX11_digest_23 rfl rfl ?_
          refine ok_iload_n 2 hc dX11_digest_24 rfl rfl ?_
          refine ok_callVi (As := [.int a3]) (st := [.long (31 * a1)]) (fun n0 => [.ref (n0 + 0), .int a3]) hc VS_X11_423 sX_0 rfl rfl rfl ⟨Nat.le_of_ble_eq_true rfl, Nat.le_of_ble_eq_true rfl⟩ (Nat.le_of_ble_eq_true rfl) (fun q h => tX11_count a3 S q h) dX11_digest_25 (fun v6 S7 => ?_)
          refine ok_i2l hc dX11_digest_28 ?_
          refine ok_ladd hc dX11_digest_29 ?_
          refine ok_ltl (fun v8 => ?_)
          refine ok_lstore_n [(1, .long v8), (0, rv Γ 0), (3, .int a3)] hc dX11_digest_30 rfl (Nat.le_of_ble_eq_true rfl) rfl ?_
          refine ok_sub [1, 0, 2] rfl ?_
          exact hk4 _ _
set_option maxRecDepth 100000 in
set_option maxHeartbeats 4000000 in
theorem tX11_digest_L39 {Γ : Cx Int64} (hc : Cok Γ wX vL mX11_digest) (kx0 : Int64 → St → Option (Int64 × St)) (hx0 : ∀ (a1 : Int64) (S : St), Ok Γ wX 67 [(0, rv Γ 0), (1, .long a1)] [] S (kx0 a1 S)) : ∀ (n : Nat) (a1 : Int64) (a3 : Int32) (S : St), Ok Γ wX 39 [(0, rv Γ 0), (1, .long a1), (3, .int a3)] [] S (fX11_digest_L39 kx0 n a1 a3 S) := by
  intro n
  induction n with
  | zero =>
    intro a1 a3 S
    exact ok_none
  | succ n ih =>
    intro a1 a3 S
    show Ok Γ wX 39 [(0, rv Γ 0), (1, .long a1), (3, .int a3)] [] S (fX11_digest_L39_st kx0 (fX11_digest_L39 kx0 n) a1 a3 S)
    unfold fX11_digest_L39_st
    refine ok_iload_n 2 hc dX11_digest_39 rfl rfl ?_
    refine ok_iconst (v := 5) hc dX11_digest_40 (by decide) ?_
    refine ok_icmp_ge_ite 67 hc dX11_digest_41 (by decide) (fun h1 => ?_) (fun h1 => ?_)
    · refine ok_sub [0, 1] rfl ?_
      exact hx0 _ _
    · refine ok_ldc2 hc dX11_digest_44 W_1079 ?_
      refine ok_lload_n 1 hc dX11_digest_47 rfl rfl ?_
      refine ok_lmul hc dX11_digest_48 ?_
      refine ok_aload_n 0 hc dX11_digest_49 rfl rfl ?_
      refine ok_getr 1 hc FS_X11_10 rfl sX_0 rfl dX11_digest_50 ?_
      refine ok_getr 2 hc FS_X11_132 rfl sX_1 rfl dX11_digest_53 ?_
      refine ok_iload_n 2 hc dX11_digest_56 rfl rfl ?_
      refine ok_iald hc sX_2 dX11_digest_57 (fun h2 => ?_)
      refine ok_i2l hc dX11_digest_58 ?_
      refine ok_ladd hc dX11_digest_59 ?_
      refine ok_ltl (fun v3 => ?_)
      refine ok_lstore_n [(1, .long v3), (0, rv Γ 0), (3, .int a3)] hc dX11_digest_60 rfl (Nat.le_of_ble_eq_true rfl) rfl ?_
      refine ok_iinc (v := 1) 2 [(3, .int (a3 + 1)), (1, .long v3), (0, rv Γ 0)] hc dX11_digest_61 rfl (by decide) (Nat.le_of_ble_eq_true rfl) rfl ?_
      refine ok_goto 39 hc dX11_digest_64 (by decide) ?_
      refine ok_sub [2, 1, 0] rfl ?_
      exact ih _ _ _
set_option maxRecDepth 100000 in
set_option maxHeartbeats 4000000 in
theorem tX11_digest_L83 {Γ : Cx Int64} (hc : Cok Γ wX vL mX11_digest) (kx0 : Int64 → St → Option (Int64 × St)) (a3 : Int32) (hx0 : ∀ (a1 : Int64) (S : St), Ok Γ wX 114 [(0, rv Γ 0), (1, .long a1), (3, .int a3)] [] S (kx0 a1 S)) : ∀ (n : Nat) (a1 : Int64) (a4 : Int32) (S : St), Ok Γ wX 83 [(0, rv Γ 0), (1, .long a1), (3, .int a3), (4, .int a4)] [] S (fX11_digest_L83 kx0 a3 n a1 a4 S) := by
  intro n
  induction n with
  | zero =>
    intro a1 a4 S
    exact ok_none
  | succ n ih =>
    intro a1 a4 S
    show Ok Γ wX 83 [(0, rv Γ 0), (1, .long a1), (3, .int a3), (4, .int a4)] [] S (fX11_digest_L83_st kx0 a3 (fX11_digest_L83 kx0 a3 n) a1 a4 S)
    unfold fX11_digest_L83_st
    refine ok_iload 3 hc dX11_digest_83 rfl ?_
    refine ok_bipush (v := 11) hc dX11_digest_85 (by decide) ?_
    refine ok_icmp_ge_ite 114 hc dX11_digest_87 (by decide) (fun h1 => ?_) (fun h1 => ?_)
    · refine ok_sub [0, 1, 2] rfl ?_
      exact hx0 _ _
    · refine ok_ldc2 hc dX11_digest_90 W_1079 ?_
      refine ok_lload_n 1 hc dX11_digest_93 rfl rfl ?_
      refine ok_lmul hc dX11_digest_94 ?_
      refine ok_aload_n 0 hc dX11_digest_95 rfl rfl ?_
      refine ok_getr 17 hc FS_X11_37 rfl sX_0 rfl dX11_digest_96 ?_
      refine ok_iload_n 2 hc dX11_digest_99 rfl rfl ?_
      refine ok_iload 3 hc dX11_digest_100 rfl ?_
      refine ok_callVi (As := [.int a3, .int a4]) (st := [.long (31 * a1)]) (fun n0 => [.ref (n0 + 17), .int a3, .int a4]) hc VS_X11_171 sX_17 rfl rfl rfl ⟨Nat.le_of_ble_eq_true rfl, Nat.le_of_ble_eq_true rfl⟩ (Nat.le_of_ble_eq_true rfl) (fun q h => tX0_tell a3 a4 S q h) dX11_digest_102 (fun v2 S3 => ?_)
      refine ok_i2l hc dX11_digest_105 ?_
      refine ok_ladd hc dX11_digest_106 ?_
      refine ok_ltl (fun v4 => ?_)
      refine ok_lstore_n [(1, .long v4), (0, rv Γ 0), (3, .int a3), (4, .int a4)] hc dX11_digest_107 rfl (Nat.le_of_ble_eq_true rfl) rfl ?_
      refine ok_iinc (v := 1) 3 [(4, .int (a4 + 1)), (1, .long v4), (0, rv Γ 0), (3, .int a3)] hc dX11_digest_108 rfl (by decide) (Nat.le_of_ble_eq_true rfl) rfl ?_
      refine ok_goto 83 hc dX11_digest_111 (by decide) ?_
      refine ok_sub [2, 1, 3, 0] rfl ?_
      exact ih _ _ _
set_option maxRecDepth 100000 in
set_option maxHeartbeats 4000000 in
theorem tX11_digest_L69 {Γ : Cx Int64} (hc : Cok Γ wX vL mX11_digest) (kx0 : Int64 → St → Option (Int64 × St)) (hx0 : ∀ (a1 : Int64) (S : St), Ok Γ wX 164 [(0, rv Γ 0), (1, .long a1)] [] S (kx0 a1 S)) : ∀ (n : Nat) (a1 : Int64) (a3 : Int32) (S : St), Ok Γ wX 69 [(0, rv Γ 0), (1, .long a1), (3, .int a3)] [] S (fX11_digest_L69 kx0 n a1 a3 S) := by
  intro n
  induction n with
  | zero =>
    intro a1 a3 S
    exact ok_none
  | succ n ih =>
    intro a1 a3 S
    show Ok Γ wX 69 [(0, rv Γ 0), (1, .long a1), (3, .int a3)] [] S (fX11_digest_L69_st kx0 (fX11_digest_L69 kx0 n) a1 a3 S)
    unfold fX11_digest_L69_st
    refine ok_iload_n 2 hc dX11_digest_69 rfl rfl ?_
    refine ok_aload_n 0 hc dX11_digest_70 rfl rfl ?_
    refine ok_getr 17 hc FS_X11_37 rfl sX_0 rfl dX11_digest_71 ?_
    refine ok_geti hc FS_X11_97 rfl sX_17 dX11_digest_74 ?_
    refine ok_icmp_ge_ite 164 hc dX11_digest_77 (by decide) (fun h1 => ?_) (fun h1 => ?_)
    · refine ok_sub [0, 1] rfl ?_
      exact hx0 _ _
    · refine ok_iconst (v := 0) hc dX11_digest_80 (by decide) ?_
      refine ok_istore [(4, .int 0), (0, rv Γ 0), (1, .long a1), (3, .int a3)] hc dX11_digest_81 (Nat.le_of_ble_eq_true rfl) rfl ?_
      refine ok_sub [1, 2, 3, 0] rfl ?_
      refine tX11_digest_L83 hc _ _  ?_ FU _ _ _
      · intro v2 S3
        refine ok_ldc2 hc dX11_digest_114 W_1079 ?_
        refine ok_lload_n 1 hc dX11_digest_117 rfl rfl ?_
        refine ok_lmul hc dX11_digest_118 ?_
        refine ok_aload_n 0 hc dX11_digest_119 rfl rfl ?_
        refine ok_getr 17 hc FS_X11_37 rfl sX_0 rfl dX11_digest_120 ?_
        refine ok_getr 18 hc FS_X11_143 rfl sX_17 rfl dX11_digest_123 ?_
        refine ok_iload_n 2 hc dX11_digest_126 rfl rfl ?_
        refine ok_aald (fun j => 19 + j) "AirParted$Sender" hc sX_18 rfl snd_rf dX11_digest_127 (fun h4 => ?_)
        show Ok Γ wX 128 [(0, rv Γ 0), (1, .long v2), (3, .int a3)] (rv Γ (19 + nt a3) :: [.long (31 * v2)]) S3 _
        refine ok_geti hc FS_X11_179 rfl (snd_ob h4) dX11_digest_128 ?_
        refine ok_jn (fun g => ∀ (v5 : Int32) (S6 : St), Ok Γ wX 155 [(0, rv Γ 0), (3, .int a3)] [.int v5, .long (31 * v2)] S6 (g v5 S6)) ?_ (fun k7 hk7 => ?_)
        · intro v5 S6
          refine ok_i2l hc dX11_digest_155 ?_
          refine ok_ladd hc dX11_digest_156 ?_
          refine ok_ltl (fun v8 => ?_)
          refine ok_lstore_n [(1, .long v8), (0, rv Γ 0), (3, .int a3)] hc dX11_digest_157 rfl (Nat.le_of_ble_eq_true rfl) rfl ?_
          refine ok_iinc (v := 1) 2 [(3, .int (a3 + 1)), (1, .long v8), (0, rv Γ 0)] hc dX11_digest_158 rfl (by decide) (Nat.le_of_ble_eq_true rfl) rfl ?_
          refine ok_goto 69 hc dX11_digest_161 (by decide) ?_
          refine ok_sub [2, 1, 0] rfl ?_
          exact ih _ _ _
        · refine ok_if_ne_ite 139 hc dX11_digest_131 (by decide) (fun h9 => ?_) (fun h9 => ?_)
          · refine ok_aload_n 0 hc dX11_digest_139 rfl rfl ?_
            refine ok_getr 17 hc FS_X11_37 rfl sX_0 rfl dX11_digest_140 ?_
            refine ok_iload_n 2 hc dX11_digest_143 rfl rfl ?_
            refine ok_callVi (As := [.int a3]) (st := [.long (31 * v2)]) (fun n0 => [.ref (n0 + 17), .int a3]) hc VS_X11_194 sX_17 rfl rfl rfl ⟨Nat.le_of_ble_eq_true rfl, Nat.le_of_ble_eq_true rfl⟩ (Nat.le_of_ble_eq_true rfl) (fun q h => tX0_isHeard a3 S3 q h) dX11_digest_144 (fun v10 S11 => ?_)
            refine ok_if_eq_ite 154 hc dX11_digest_147 (by decide) (fun h12 => ?_) (fun h12 => ?_)
            · refine ok_iconst (v := 0) hc dX11_digest_154 (by decide) ?_
              refine ok_sub [0, 2] rfl ?_
              exact hk7 _ _
            · refine ok_iconst (v := 1) hc dX11_digest_150 (by decide) ?_
              refine ok_goto 155 hc dX11_digest_151 (by decide) ?_
              refine ok_sub [0, 2] rfl ?_
              exact hk7 _ _
          · refine ok_bipush (v := (-3)) hc dX11_digest_134 (by decide) ?_
            refine ok_goto 155 hc dX11_digest_136 (by decide) ?_
            refine ok_sub [0, 2] rfl ?_
            exact hk7 _ _
set_option maxRecDepth 100000 in
set_option maxHeartbeats 4000000 in
theorem tX11_digest (S : St) (q : Int64 × St) (h : fX11_digest S = some q) : MT vL wX mX11_digest (fun n0 => [.ref (n0 + 0)]) S q := by
  refine mt_of (show plainFor yX11_digest = true from by decide) (fun _ => Nat.le_of_ble_eq_true rfl) ?_
  intro Γ hc _
  rw [← h]
  show Ok Γ wX 0 [(0, rv Γ 0)] [] S _
  unfold fX11_digest
  refine ok_ldc2 hc dX11_digest_0 W_1078 ?_
  refine ok_lstore_n [(1, .long 17), (0, rv Γ 0)] hc dX11_digest_3 rfl (Nat.le_of_ble_eq_true rfl) rfl ?_
  refine ok_iconst (v := 0) hc dX11_digest_4 (by decide) ?_
  refine ok_istore_n [(3, .int 0), (1, .long 17), (0, rv Γ 0)] hc dX11_digest_5 rfl (Nat.le_of_ble_eq_true rfl) rfl ?_
  refine ok_sub [2, 1, 0] rfl ?_
  refine tX11_digest_L6 hc _  ?_ FU _ _ _
  · intro v1 S2
    refine ok_iconst (v := 0) hc dX11_digest_37 (by decide) ?_
    refine ok_istore_n [(3, .int 0), (0, rv Γ 0), (1, .long v1)] hc dX11_digest_38 rfl (Nat.le_of_ble_eq_true rfl) rfl ?_
    refine ok_sub [1, 2, 0] rfl ?_
    refine tX11_digest_L39 hc _  ?_ FU _ _ _
    · intro v3 S4
      refine ok_iconst (v := 0) hc dX11_digest_67 (by decide) ?_
      refine ok_istore_n [(3, .int 0), (0, rv Γ 0), (1, .long v3)] hc dX11_digest_68 rfl (Nat.le_of_ble_eq_true rfl) rfl ?_
      refine ok_sub [1, 2, 0] rfl ?_
      refine tX11_digest_L69 hc _  ?_ FU _ _ _
      · intro v5 S6
        refine ok_aload_n 0 hc dX11_digest_164 rfl rfl ?_
        refine ok_getr 70 hc FS_X11_85 rfl sX_0 rfl dX11_digest_165 ?_
        refine ok_sipush (v := 500) hc dX11_digest_168 (by decide) ?_
        refine ok_callVu (As := [.int 500]) (st := []) (fun n0 => [.ref (n0 + 70), .int 500]) hc VS_X11_356 sX_70 rfl rfl rfl ⟨Nat.le_of_ble_eq_true rfl, Nat.le_of_ble_eq_true rfl⟩ (Nat.le_of_ble_eq_true rfl) (fun q h => tX9_choose 500 S6 q h) dX11_digest_171 (fun _ S7 => ?_)
        refine ok_ldc2 hc dX11_digest_174 W_1079 ?_
        refine ok_lload_n 1 hc dX11_digest_177 rfl rfl ?_
        refine ok_lmul hc dX11_digest_178 ?_
        refine ok_aload_n 0 hc dX11_digest_179 rfl rfl ?_
        refine ok_getr 56 hc FS_X11_60 rfl sX_0 rfl dX11_digest_180 ?_
        refine ok_iconst (v := 0) hc dX11_digest_183 (by decide) ?_
        refine ok_callVi (As := [.int 0]) (st := [.long (31 * v5)]) (fun n0 => [.ref (n0 + 56), .int 0]) hc VS_X11_289 sX_56 rfl rfl rfl ⟨Nat.le_of_ble_eq_true rfl, Nat.le_of_ble_eq_true rfl⟩ (Nat.le_of_ble_eq_true rfl) (fun q h => tX1_winners 0 S7 q h) dX11_digest_184 (fun v8 S9 => ?_)
        refine ok_i2l hc dX11_digest_187 ?_
        refine ok_ladd hc dX11_digest_188 ?_
        refine ok_ltl (fun v10 => ?_)
        refine ok_lstore_n [(1, .long v10), (0, rv Γ 0)] hc dX11_digest_189 rfl (Nat.le_of_ble_eq_true rfl) rfl ?_
        refine ok_ldc2 hc dX11_digest_190 W_1079 ?_
        refine ok_lload_n 0 hc dX11_digest_193 rfl rfl ?_
        refine ok_lmul hc dX11_digest_194 ?_
        refine ok_aload_n 1 hc dX11_digest_195 rfl rfl ?_
        refine ok_getr 70 hc FS_X11_85 rfl sX_0 rfl dX11_digest_196 ?_
        refine ok_geti hc FS_X11_359 rfl sX_70 dX11_digest_199 ?_
        refine ok_i2l hc dX11_digest_202 ?_
        refine ok_ladd hc dX11_digest_203 ?_
        refine ok_ltl (fun v11 => ?_)
        refine ok_lstore_n [(1, .long v11), (0, rv Γ 0)] hc dX11_digest_204 rfl (Nat.le_of_ble_eq_true rfl) rfl ?_
        refine ok_ldc2 hc dX11_digest_205 W_1079 ?_
        refine ok_lload_n 0 hc dX11_digest_208 rfl rfl ?_
        refine ok_lmul hc dX11_digest_209 ?_
        refine ok_aload_n 1 hc dX11_digest_210 rfl rfl ?_
        refine ok_getr 70 hc FS_X11_85 rfl sX_0 rfl dX11_digest_211 ?_
        refine ok_geti hc FS_X11_362 rfl sX_70 dX11_digest_214 ?_
        refine ok_i2l hc dX11_digest_217 ?_
        refine ok_ladd hc dX11_digest_218 ?_
        exact ok_lret hc rfl dX11_digest_219
def fX11_drowns (a1 : Int32) (S : St) : Option (Int64 × St) :=
  bnd (fX11_refusalUnlessOn a1 S) (fun v1 S2 => if v1 = 0 then (bnd (fX0_gatherRivals a1 S2) (fun v4 S5 => bnd (fX0_againstWithout 0 S5) (fun v6 S7 => some (v6, S7)))) else (some ((-9223372036854775808) - v1.toInt64, S2)))
set_option maxRecDepth 100000 in
set_option maxHeartbeats 4000000 in
theorem tX11_drowns (a1 : Int32) (S : St) (q : Int64 × St) (h : fX11_drowns a1 S = some q) : MT vL wX mX11_drowns (fun n0 => [.ref (n0 + 0), .int a1]) S q := by
  refine mt_of (show plainFor yX11_drowns = true from by decide) (fun _ => Nat.le_of_ble_eq_true rfl) ?_
  intro Γ hc _
  rw [← h]
  show Ok Γ wX 0 [(0, rv Γ 0), (1, .int a1)] [] S _
  unfold fX11_drowns
  refine ok_aload_n 0 hc dX11_drowns_0 rfl rfl ?_
  refine ok_iload_n 1 hc dX11_drowns_1 rfl rfl ?_
  refine ok_callVi (As := [.int a1]) (st := []) (fun n0 => [.ref (n0 + 0), .int a1]) hc VS_X11_191 sX_0 rfl rfl rfl ⟨Nat.le_of_ble_eq_true rfl, Nat.le_of_ble_eq_true rfl⟩ (Nat.le_of_ble_eq_true rfl) (fun q h => tX11_refusalUnlessOn a1 S q h) dX11_drowns_2 (fun v1 S2 => ?_)
  refine ok_istore_n [(2, .int v1), (0, rv Γ 0), (1, .int a1)] hc dX11_drowns_5 rfl (Nat.le_of_ble_eq_true rfl) rfl ?_
  refine ok_iload_n 0 hc dX11_drowns_6 rfl rfl ?_
  refine ok_if_eq_ite 17 hc dX11_drowns_7 (by decide) (fun h3 => ?_) (fun h3 => ?_)
  · refine ok_aload_n 1 hc dX11_drowns_17 rfl rfl ?_
    refine ok_getr 17 hc FS_X11_37 rfl sX_0 rfl dX11_drowns_18 ?_
    refine ok_iload_n 2 hc dX11_drowns_21 rfl rfl ?_
    refine ok_callVi (As := [.int a1]) (st := []) (fun n0 => [.ref (n0 + 17), .int a1]) hc VS_X11_199 sX_17 rfl rfl rfl ⟨Nat.le_of_ble_eq_true rfl, Nat.le_of_ble_eq_true rfl⟩ (Nat.le_of_ble_eq_true rfl) (fun q h => tX0_gatherRivals a1 S2 q h) dX11_drowns_22 (fun v4 S5 => ?_)
    refine ok_pop hc dX11_drowns_25 rfl ?_
    refine ok_aload_n 1 hc dX11_drowns_26 rfl rfl ?_
    refine ok_getr 17 hc FS_X11_37 rfl sX_0 rfl dX11_drowns_27 ?_
    refine ok_iconst (v := 0) hc dX11_drowns_30 (by decide) ?_
    refine ok_callVl (As := [.int 0]) (st := []) (fun n0 => [.ref (n0 + 17), .int 0]) hc VS_X11_202 sX_17 rfl rfl rfl ⟨Nat.le_of_ble_eq_true rfl, Nat.le_of_ble_eq_true rfl⟩ (Nat.le_of_ble_eq_true rfl) (fun q h => tX0_againstWithout 0 S5 q h) dX11_drowns_31 (fun v6 S7 => ?_)
    exact ok_lret hc rfl dX11_drowns_34
  · refine ok_ldc2 hc dX11_drowns_10 W_627 ?_
    refine ok_iload_n 0 hc dX11_drowns_13 rfl rfl ?_
    refine ok_i2l hc dX11_drowns_14 ?_
    refine ok_lsub hc dX11_drowns_15 ?_
    exact ok_lret hc rfl dX11_drowns_16
def fX11_ear (a1 : Int32) (a2 : Int32) (S : St) : Option (Int32 × St) :=
  bnd (fX2_isCell a1.toInt64 S) (fun v1 S2 => if v1 = 0 then (some ((-2), S2)) else (bnd (fX11_within a2 1 100 S2) (fun v4 S5 => if v4 = 0 then (some ((-2), S5)) else (if (S5.1 70 10) < 12 then (bnd (fX9_addEar a1 a2 S5) (fun v8 S9 => some (v8, S9))) else (some ((-4), S5))))))
set_option maxRecDepth 100000 in
set_option maxHeartbeats 4000000 in
theorem tX11_ear (a1 : Int32) (a2 : Int32) (S : St) (q : Int32 × St) (h : fX11_ear a1 a2 S = some q) : MT vI wX mX11_ear (fun n0 => [.ref (n0 + 0), .int a1, .int a2]) S q := by
  refine mt_of (show plainFor yX11_ear = true from by decide) (fun _ => Nat.le_of_ble_eq_true rfl) ?_
  intro Γ hc _
  rw [← h]
  show Ok Γ wX 0 [(0, rv Γ 0), (1, .int a1), (2, .int a2)] [] S _
  unfold fX11_ear
  refine ok_aload_n 0 hc dX11_ear_0 rfl rfl ?_
  refine ok_getr 16 hc FS_X11_28 rfl sX_0 rfl dX11_ear_1 ?_
  refine ok_iload_n 1 hc dX11_ear_4 rfl rfl ?_
  refine ok_i2l hc dX11_ear_5 ?_
  refine ok_callVi (As := [.long a1.toInt64]) (st := []) (fun n0 => [.ref (n0 + 16), .long a1.toInt64]) hc VS_X11_114 sX_16 rfl rfl rfl ⟨Nat.le_of_ble_eq_true rfl, Nat.le_of_ble_eq_true rfl⟩ (Nat.le_of_ble_eq_true rfl) (fun q h => tX2_isCell a1.toInt64 S q h) dX11_ear_6 (fun v1 S2 => ?_)
  refine ok_if_eq_ite 22 hc dX11_ear_9 (by decide) (fun h3 => ?_) (fun h3 => ?_)
  · refine ok_bipush (v := (-2)) hc dX11_ear_22 (by decide) ?_
    exact ok_iret hc rfl dX11_ear_24
  · refine ok_iload_n 2 hc dX11_ear_12 rfl rfl ?_
    refine ok_iconst (v := 1) hc dX11_ear_13 (by decide) ?_
    refine ok_bipush (v := 100) hc dX11_ear_14 (by decide) ?_
    refine ok_callSi (As := [.int a2, .int 1, .int 100]) (st := []) (fun n0 => [.int a2, .int 1, .int 100]) hc SS_X11_93 rfl rfl rfl ⟨Nat.le_of_ble_eq_true rfl, Nat.le_of_ble_eq_true rfl⟩ (Nat.le_of_ble_eq_true rfl) (fun q h => tX11_within a2 1 100 S2 q h) dX11_ear_16 (fun v4 S5 => ?_)
    refine ok_if_ne_ite 25 hc dX11_ear_19 (by decide) (fun h6 => ?_) (fun h6 => ?_)
    · refine ok_aload_n 0 hc dX11_ear_25 rfl rfl ?_
      refine ok_getr 70 hc FS_X11_85 rfl sX_0 rfl dX11_ear_26 ?_
      refine ok_geti hc FS_X11_105 rfl sX_70 dX11_ear_29 ?_
      refine ok_bipush (v := 12) hc dX11_ear_32 (by decide) ?_
      refine ok_icmp_lt_ite 42 hc dX11_ear_34 (by decide) (fun h7 => ?_) (fun h7 => ?_)
      · refine ok_aload_n 0 hc dX11_ear_42 rfl rfl ?_
        refine ok_getr 70 hc FS_X11_85 rfl sX_0 rfl dX11_ear_43 ?_
        refine ok_iload_n 1 hc dX11_ear_46 rfl rfl ?_
        refine ok_iload_n 2 hc dX11_ear_47 rfl rfl ?_
        refine ok_callVi (As := [.int a1, .int a2]) (st := []) (fun n0 => [.ref (n0 + 70), .int a1, .int a2]) hc VS_X11_344 sX_70 rfl rfl rfl ⟨Nat.le_of_ble_eq_true rfl, Nat.le_of_ble_eq_true rfl⟩ (Nat.le_of_ble_eq_true rfl) (fun q h => tX9_addEar a1 a2 S5 q h) dX11_ear_48 (fun v8 S9 => ?_)
        exact ok_iret hc rfl dX11_ear_51
      · refine ok_bipush (v := (-4)) hc dX11_ear_37 (by decide) ?_
        refine ok_goto 51 hc dX11_ear_39 (by decide) ?_
        exact ok_iret hc rfl dX11_ear_51
    · refine ok_bipush (v := (-2)) hc dX11_ear_22 (by decide) ?_
      exact ok_iret hc rfl dX11_ear_24
def fX11_fault (S : St) : Option (Int32 × St) :=
  bnd (fX7_read S) (fun _ S1 => some (S1.1 59 9, S1))
set_option maxRecDepth 100000 in
set_option maxHeartbeats 4000000 in
theorem tX11_fault (S : St) (q : Int32 × St) (h : fX11_fault S = some q) : MT vI wX mX11_fault (fun n0 => [.ref (n0 + 0)]) S q := by
  refine mt_of (show plainFor yX11_fault = true from by decide) (fun _ => Nat.le_of_ble_eq_true rfl) ?_
  intro Γ hc _
  rw [← h]
  show Ok Γ wX 0 [(0, rv Γ 0)] [] S _
  unfold fX11_fault
  refine ok_aload_n 0 hc dX11_fault_0 rfl rfl ?_
  refine ok_getr 59 hc FS_X11_67 rfl sX_0 rfl dX11_fault_1 ?_
  refine ok_callVu (As := []) (st := []) (fun n0 => [.ref (n0 + 59)]) hc VS_X11_301 sX_59 rfl rfl rfl ⟨Nat.le_of_ble_eq_true rfl, Nat.le_of_ble_eq_true rfl⟩ (Nat.le_of_ble_eq_true rfl) (fun q h => tX7_read S q h) dX11_fault_4 (fun _ S1 => ?_)
  refine ok_aload_n 0 hc dX11_fault_7 rfl rfl ?_
  refine ok_getr 59 hc FS_X11_67 rfl sX_0 rfl dX11_fault_8 ?_
  refine ok_geti hc FS_X11_304 rfl sX_59 dX11_fault_11 ?_
  exact ok_iret hc rfl dX11_fault_14
def fX11_fewest (a1 : Int32) (S : St) : Option (Int32 × St) :=
  bnd (fX4_isSet a1 S) (fun v1 S2 => if v1 = 0 then (some ((-2), S2)) else (bnd (fX4_prepare a1 S2) (fun _ S4 => bnd (fX4_fewestSlots S4) (fun v5 S6 => some (v5, S6)))))
set_option maxRecDepth 100000 in
set_option maxHeartbeats 4000000 in
theorem tX11_fewest (a1 : Int32) (S : St) (q : Int32 × St) (h : fX11_fewest a1 S = some q) : MT vI wX mX11_fewest (fun n0 => [.ref (n0 + 0), .int a1]) S q := by
  refine mt_of (show plainFor yX11_fewest = true from by decide) (fun _ => Nat.le_of_ble_eq_true rfl) ?_
  intro Γ hc _
  rw [← h]
  show Ok Γ wX 0 [(0, rv Γ 0), (1, .int a1)] [] S _
  unfold fX11_fewest
  refine ok_aload_n 0 hc dX11_fewest_0 rfl rfl ?_
  refine ok_getr 41 hc FS_X11_46 rfl sX_0 rfl dX11_fewest_1 ?_
  refine ok_iload_n 1 hc dX11_fewest_4 rfl rfl ?_
  refine ok_callVi (As := [.int a1]) (st := []) (fun n0 => [.ref (n0 + 41), .int a1]) hc VS_X11_209 sX_41 rfl rfl rfl ⟨Nat.le_of_ble_eq_true rfl, Nat.le_of_ble_eq_true rfl⟩ (Nat.le_of_ble_eq_true rfl) (fun q h => tX4_isSet a1 S q h) dX11_fewest_5 (fun v1 S2 => ?_)
  refine ok_if_ne_ite 14 hc dX11_fewest_8 (by decide) (fun h3 => ?_) (fun h3 => ?_)
  · refine ok_aload_n 0 hc dX11_fewest_14 rfl rfl ?_
    refine ok_getr 41 hc FS_X11_46 rfl sX_0 rfl dX11_fewest_15 ?_
    refine ok_iload_n 1 hc dX11_fewest_18 rfl rfl ?_
    refine ok_callVu (As := [.int a1]) (st := []) (fun n0 => [.ref (n0 + 41), .int a1]) hc VS_X11_212 sX_41 rfl rfl rfl ⟨Nat.le_of_ble_eq_true rfl, Nat.le_of_ble_eq_true rfl⟩ (Nat.le_of_ble_eq_true rfl) (fun q h => tX4_prepare a1 S2 q h) dX11_fewest_19 (fun _ S4 => ?_)
    refine ok_aload_n 0 hc dX11_fewest_22 rfl rfl ?_
    refine ok_getr 41 hc FS_X11_46 rfl sX_0 rfl dX11_fewest_23 ?_
    refine ok_callVi (As := []) (st := []) (fun n0 => [.ref (n0 + 41)]) hc VS_X11_223 sX_41 rfl rfl rfl ⟨Nat.le_of_ble_eq_true rfl, Nat.le_of_ble_eq_true rfl⟩ (Nat.le_of_ble_eq_true rfl) (fun q h => tX4_fewestSlots S4 q h) dX11_fewest_26 (fun v5 S6 => ?_)
    exact ok_iret hc rfl dX11_fewest_29
  · refine ok_bipush (v := (-2)) hc dX11_fewest_11 (by decide) ?_
    exact ok_iret hc rfl dX11_fewest_13
def fX11_flow (a1 : Int32) (a2 : Int32) (a3 : Int32) (a4 : Int32) (a5 : Int32) (S : St) : Option (Int32 × St) :=
  bnd (fX11_within a1 1 8 S) (fun v1 S2 => if v1 = 0 then (some ((-2), S2)) else (bnd (fX11_within a2 0 a1 S2) (fun v4 S5 => if v4 = 0 then (some ((-2), S5)) else (bnd (fX11_within a3 0 100 S5) (fun v7 S8 => if v7 = 0 then (some ((-2), S8)) else (bnd (fX11_within a4 1 8 S8) (fun v10 S11 => if v10 = 0 then (some ((-2), S11)) else (bnd (fX11_within a5 0 a4 S11) (fun v13 S14 => if v13 = 0 then (some ((-2), S14)) else (bnd (fX11_chanceOfAtMost a2 a1 a3 S14) (fun v16 S17 => lt (100 - (v16 / 10000)) (fun (v18 : Int32) => bnd (fX11_chanceOfAtMost (a4 - a5) a4 v18 S17) (fun v19 S20 => some (v19, S20))))))))))))))
set_option maxRecDepth 100000 in
set_option maxHeartbeats 4000000 in
theorem tX11_flow (a1 : Int32) (a2 : Int32) (a3 : Int32) (a4 : Int32) (a5 : Int32) (S : St) (q : Int32 × St) (h : fX11_flow a1 a2 a3 a4 a5 S = some q) : MT vI wX mX11_flow (fun n0 => [.ref (n0 + 0), .int a1, .int a2, .int a3, .int a4, .int a5]) S q := by
  refine mt_of (show plainFor yX11_flow = true from by decide) (fun _ => Nat.le_of_ble_eq_true rfl) ?_
  intro Γ hc _
  rw [← h]
  show Ok Γ wX 0 [(0, rv Γ 0), (1, .int a1), (2, .int a2), (3, .int a3), (4, .int a4), (5, .int a5)] [] S _
  unfold fX11_flow
  refine ok_iload_n 1 hc dX11_flow_0 rfl rfl ?_
  refine ok_iconst (v := 1) hc dX11_flow_1 (by decide) ?_
  refine ok_bipush (v := 8) hc dX11_flow_2 (by decide) ?_
  refine ok_callSi (As := [.int a1, .int 1, .int 8]) (st := []) (fun n0 => [.int a1, .int 1, .int 8]) hc SS_X11_93 rfl rfl rfl ⟨Nat.le_of_ble_eq_true rfl, Nat.le_of_ble_eq_true rfl⟩ (Nat.le_of_ble_eq_true rfl) (fun q h => tX11_within a1 1 8 S q h) dX11_flow_4 (fun v1 S2 => ?_)
  refine ok_if_eq_ite 29 hc dX11_flow_7 (by decide) (fun h3 => ?_) (fun h3 => ?_)
  · refine ok_bipush (v := (-2)) hc dX11_flow_29 (by decide) ?_
    exact ok_iret hc rfl dX11_flow_31
  · refine ok_iload_n 2 hc dX11_flow_10 rfl rfl ?_
    refine ok_iconst (v := 0) hc dX11_flow_11 (by decide) ?_
    refine ok_iload_n 1 hc dX11_flow_12 rfl rfl ?_
    refine ok_callSi (As := [.int a2, .int 0, .int a1]) (st := []) (fun n0 => [.int a2, .int 0, .int a1]) hc SS_X11_93 rfl rfl rfl ⟨Nat.le_of_ble_eq_true rfl, Nat.le_of_ble_eq_true rfl⟩ (Nat.le_of_ble_eq_true rfl) (fun q h => tX11_within a2 0 a1 S2 q h) dX11_flow_13 (fun v4 S5 => ?_)
    refine ok_if_eq_ite 29 hc dX11_flow_16 (by decide) (fun h6 => ?_) (fun h6 => ?_)
    · refine ok_bipush (v := (-2)) hc dX11_flow_29 (by decide) ?_
      exact ok_iret hc rfl dX11_flow_31
    · refine ok_iload_n 3 hc dX11_flow_19 rfl rfl ?_
      refine ok_iconst (v := 0) hc dX11_flow_20 (by decide) ?_
      refine ok_bipush (v := 100) hc dX11_flow_21 (by decide) ?_
      refine ok_callSi (As := [.int a3, .int 0, .int 100]) (st := []) (fun n0 => [.int a3, .int 0, .int 100]) hc SS_X11_93 rfl rfl rfl ⟨Nat.le_of_ble_eq_true rfl, Nat.le_of_ble_eq_true rfl⟩ (Nat.le_of_ble_eq_true rfl) (fun q h => tX11_within a3 0 100 S5 q h) dX11_flow_23 (fun v7 S8 => ?_)
      refine ok_if_ne_ite 32 hc dX11_flow_26 (by decide) (fun h9 => ?_) (fun h9 => ?_)
      · refine ok_iload 4 hc dX11_flow_32 rfl ?_
        refine ok_iconst (v := 1) hc dX11_flow_34 (by decide) ?_
        refine ok_bipush (v := 8) hc dX11_flow_35 (by decide) ?_
        refine ok_callSi (As := [.int a4, .int 1, .int 8]) (st := []) (fun n0 => [.int a4, .int 1, .int 8]) hc SS_X11_93 rfl rfl rfl ⟨Nat.le_of_ble_eq_true rfl, Nat.le_of_ble_eq_true rfl⟩ (Nat.le_of_ble_eq_true rfl) (fun q h => tX11_within a4 1 8 S8 q h) dX11_flow_37 (fun v10 S11 => ?_)
        refine ok_if_eq_ite 54 hc dX11_flow_40 (by decide) (fun h12 => ?_) (fun h12 => ?_)
        · refine ok_bipush (v := (-2)) hc dX11_flow_54 (by decide) ?_
          exact ok_iret hc rfl dX11_flow_56
        · refine ok_iload 5 hc dX11_flow_43 rfl ?_
          refine ok_iconst (v := 0) hc dX11_flow_45 (by decide) ?_
          refine ok_iload 4 hc dX11_flow_46 rfl ?_
          refine ok_callSi (As := [.int a5, .int 0, .int a4]) (st := []) (fun n0 => [.int a5, .int 0, .int a4]) hc SS_X11_93 rfl rfl rfl ⟨Nat.le_of_ble_eq_true rfl, Nat.le_of_ble_eq_true rfl⟩ (Nat.le_of_ble_eq_true rfl) (fun q h => tX11_within a5 0 a4 S11 q h) dX11_flow_48 (fun v13 S14 => ?_)
          refine ok_if_ne_ite 57 hc dX11_flow_51 (by decide) (fun h15 => ?_) (fun h15 => ?_)
          · refine ok_bipush (v := 100) hc dX11_flow_57 (by decide) ?_
            refine ok_iload_n 2 hc dX11_flow_59 rfl rfl ?_
            refine ok_iload_n 1 hc dX11_flow_60 rfl rfl ?_
            refine ok_iload_n 3 hc dX11_flow_61 rfl rfl ?_
            refine ok_callSi (As := [.int a2, .int a1, .int a3]) (st := [.int 100]) (fun n0 => [.int a2, .int a1, .int a3]) hc SS_X11_251 rfl rfl rfl ⟨Nat.le_of_ble_eq_true rfl, Nat.le_of_ble_eq_true rfl⟩ (Nat.le_of_ble_eq_true rfl) (fun q h => tX11_chanceOfAtMost a2 a1 a3 S14 q h) dX11_flow_62 (fun v16 S17 => ?_)
            refine ok_sipush (v := 10000) hc dX11_flow_65 (by decide) ?_
            refine ok_idivK hc dX11_flow_68 (by decide) ?_
            refine ok_isub hc dX11_flow_69 ?_
            refine ok_lti (fun v18 => ?_)
            refine ok_istore [(6, .int v18), (0, rv Γ 0), (1, .int a1), (2, .int a2), (3, .int a3), (4, .int a4), (5, .int a5)] hc dX11_flow_70 (Nat.le_of_ble_eq_true rfl) rfl ?_
            refine ok_iload 5 hc dX11_flow_72 rfl ?_
            refine ok_iload 6 hc dX11_flow_74 rfl ?_
            refine ok_isub hc dX11_flow_76 ?_
            refine ok_iload 5 hc dX11_flow_77 rfl ?_
            refine ok_iload 0 hc dX11_flow_79 rfl ?_
            refine ok_callSi (As := [.int (a4 - a5), .int a4, .int v18]) (st := []) (fun n0 => [.int (a4 - a5), .int a4, .int v18]) hc SS_X11_251 rfl rfl rfl ⟨Nat.le_of_ble_eq_true rfl, Nat.le_of_ble_eq_true rfl⟩ (Nat.le_of_ble_eq_true rfl) (fun q h => tX11_chanceOfAtMost (a4 - a5) a4 v18 S17 q h) dX11_flow_81 (fun v19 S20 => ?_)
            exact ok_iret hc rfl dX11_flow_84
          · refine ok_bipush (v := (-2)) hc dX11_flow_54 (by decide) ?_
            exact ok_iret hc rfl dX11_flow_56
      · refine ok_bipush (v := (-2)) hc dX11_flow_29 (by decide) ?_
        exact ok_iret hc rfl dX11_flow_31
def fX11_wrongItem (q0 : Nat) (a1 : Int32) (a2 : Int32) (S : St) : Option (Int32 × St) :=
  if (S.1 q0 1) = 0 then (if (S.1 q0 2) = a1 then (bnd (fX6_holds q0 a2 1 S) (fun v3 S4 => if v3 = 0 then (some (2, S4)) else (some (0, S4)))) else (some (3, S))) else (some (1, S))
set_option maxRecDepth 100000 in
set_option maxHeartbeats 4000000 in
theorem tX11_wrongItem (q0 : Nat) (a1 : Int32) (a2 : Int32) (hq0 : Iob wX q0 6 4) (S : St) (q : Int32 × St) (h : fX11_wrongItem q0 a1 a2 S = some q) : MT vI wX mX11_wrongItem (fun n0 => [.ref (n0 + q0), .int a1, .int a2]) S q := by
  refine mt_of (show plainFor yX11_wrongItem = true from by decide) (fun _ => Nat.le_of_ble_eq_true rfl) ?_
  intro Γ hc _
  rw [← h]
  show Ok Γ wX 0 [(0, rv Γ q0), (1, .int a1), (2, .int a2)] [] S _
  unfold fX11_wrongItem
  refine ok_aload_n 0 hc dX11_wrongItem_0 rfl rfl ?_
  refine ok_geti hc FS_X11_381 rfl hq0 dX11_wrongItem_1 ?_
  refine ok_if_eq_ite 9 hc dX11_wrongItem_4 (by decide) (fun h1 => ?_) (fun h1 => ?_)
  · refine ok_aload_n 0 hc dX11_wrongItem_9 rfl rfl ?_
    refine ok_geti hc FS_X11_400 rfl hq0 dX11_wrongItem_10 ?_
    refine ok_iload_n 1 hc dX11_wrongItem_13 rfl rfl ?_
    refine ok_icmp_eq_ite 19 hc dX11_wrongItem_14 (by decide) (fun h2 => ?_) (fun h2 => ?_)
    · refine ok_aload_n 0 hc dX11_wrongItem_19 rfl rfl ?_
      refine ok_iload_n 2 hc dX11_wrongItem_20 rfl rfl ?_
      refine ok_iconst (v := 1) hc dX11_wrongItem_21 (by decide) ?_
      refine ok_callVi (As := [.int a2, .int 1]) (st := []) (fun n0 => [.ref (n0 + q0), .int a2, .int 1]) hc VS_X11_403 hq0 rfl rfl rfl ⟨Nat.le_of_ble_eq_true rfl, Nat.le_of_ble_eq_true rfl⟩ (Nat.le_of_ble_eq_true rfl) (fun q h => tX6_holds q0 a2 1 hq0 S q h) dX11_wrongItem_22 (fun v3 S4 => ?_)
      refine ok_if_eq_ite 32 hc dX11_wrongItem_25 (by decide) (fun h5 => ?_) (fun h5 => ?_)
      · refine ok_iconst (v := 2) hc dX11_wrongItem_32 (by decide) ?_
        exact ok_iret hc rfl dX11_wrongItem_33
      · refine ok_iconst (v := 0) hc dX11_wrongItem_28 (by decide) ?_
        refine ok_goto 33 hc dX11_wrongItem_29 (by decide) ?_
        exact ok_iret hc rfl dX11_wrongItem_33
    · refine ok_iconst (v := 3) hc dX11_wrongItem_17 (by decide) ?_
      exact ok_iret hc rfl dX11_wrongItem_18
  · refine ok_iconst (v := 1) hc dX11_wrongItem_7 (by decide) ?_
    exact ok_iret hc rfl dX11_wrongItem_8
def fX11_get (a1 : Int32) (a2 : Int32) (a3 : Int32) (S : St) : Option (Int64 × St) :=
  bnd (fX11_isSheet a1 S) (fun v1 S2 => if v1 = 0 then (some ((-9223372036854775808), S2)) else (bnd (fX11_isForm a2 S2) (fun v4 S5 => if v4 = 0 then (some ((-9223372036854775808), S5)) else (if ib a1 6 then (bnd (fX11_wrongItem (4 + 2 * nt a1) a2 a3 S5) (fun v8 S9 => if v8 = 0 then (if ib a1 6 then (if ib a3 400 then (some (S9.2 (4 + 2 * nt a1 + 1) (nt a3), S9)) else none) else none) else (lt (wi S9 0 11 v8) (fun S13 => some ((-9223372036854775808), S13))))) else none))))
set_option maxRecDepth 100000 in
set_option maxHeartbeats 4000000 in
theorem tX11_get (a1 : Int32) (a2 : Int32) (a3 : Int32) (S : St) (q : Int64 × St) (h : fX11_get a1 a2 a3 S = some q) : MT vL wX mX11_get (fun n0 => [.ref (n0 + 0), .int a1, .int a2, .int a3]) S q := by
  refine mt_of (show plainFor yX11_get = true from by decide) (fun _ => Nat.le_of_ble_eq_true rfl) ?_
  intro Γ hc _
  rw [← h]
  show Ok Γ wX 0 [(0, rv Γ 0), (1, .int a1), (2, .int a2), (3, .int a3)] [] S _
  unfold fX11_get
  refine ok_iload_n 1 hc dX11_get_0 rfl rfl ?_
  refine ok_callSi (As := [.int a1]) (st := []) (fun n0 => [.int a1]) hc SS_X11_368 rfl rfl rfl ⟨Nat.le_of_ble_eq_true rfl, Nat.le_of_ble_eq_true rfl⟩ (Nat.le_of_ble_eq_true rfl) (fun q h => tX11_isSheet a1 S q h) dX11_get_1 (fun v1 S2 => ?_)
  refine ok_if_eq_ite 14 hc dX11_get_4 (by decide) (fun h3 => ?_) (fun h3 => ?_)
  · refine ok_ldc2 hc dX11_get_14 W_627 ?_
    exact ok_lret hc rfl dX11_get_17
  · refine ok_iload_n 2 hc dX11_get_7 rfl rfl ?_
    refine ok_callSi (As := [.int a2]) (st := []) (fun n0 => [.int a2]) hc SS_X11_371 rfl rfl rfl ⟨Nat.le_of_ble_eq_true rfl, Nat.le_of_ble_eq_true rfl⟩ (Nat.le_of_ble_eq_true rfl) (fun q h => tX11_isForm a2 S2 q h) dX11_get_8 (fun v4 S5 => ?_)
    refine ok_if_ne_ite 18 hc dX11_get_11 (by decide) (fun h6 => ?_) (fun h6 => ?_)
    · refine ok_aload_n 0 hc dX11_get_18 rfl rfl ?_
      refine ok_getr 3 hc FS_X11_18 rfl sX_0 rfl dX11_get_19 ?_
      refine ok_iload_n 1 hc dX11_get_22 rfl rfl ?_
      refine ok_aald (fun j => 4 + 2 * j) "AirParted$Sheet" hc sX_3 rfl sht_rf dX11_get_23 (fun h7 => ?_)
      show Ok Γ wX 24 [(0, rv Γ 0), (1, .int a1), (2, .int a2), (3, .int a3)] (rv Γ (4 + 2 * nt a1) :: []) S5 _
      refine ok_iload_n 2 hc dX11_get_24 rfl rfl ?_
      refine ok_iload_n 3 hc dX11_get_25 rfl rfl ?_
      refine ok_callSi (As := [rv Γ (4 + 2 * nt a1), .int a2, .int a3]) (st := []) (fun n0 => [.ref (n0 + (4 + 2 * nt a1)), .int a2, .int a3]) hc SS_X11_386 rfl rfl rfl ⟨Nat.le_of_ble_eq_true rfl, Nat.le_of_ble_eq_true rfl⟩ (Nat.le_of_ble_eq_true rfl) (fun q h => tX11_wrongItem (4 + 2 * nt a1) a2 a3 (sht_ob h7) S5 q h) dX11_get_26 (fun v8 S9 => ?_)
      refine ok_istore [(4, .int v8), (0, rv Γ 0), (1, .int a1), (2, .int a2), (3, .int a3)] hc dX11_get_29 (Nat.le_of_ble_eq_true rfl) rfl ?_
      refine ok_iload 0 hc dX11_get_31 rfl ?_
      refine ok_if_eq_ite 46 hc dX11_get_33 (by decide) (fun h10 => ?_) (fun h10 => ?_)
      · refine ok_aload_n 1 hc dX11_get_46 rfl rfl ?_
        refine ok_getr 3 hc FS_X11_18 rfl sX_0 rfl dX11_get_47 ?_
        refine ok_iload_n 2 hc dX11_get_50 rfl rfl ?_
        refine ok_aald (fun j => 4 + 2 * j) "AirParted$Sheet" hc sX_3 rfl sht_rf dX11_get_51 (fun h11 => ?_)
        show Ok Γ wX 52 [(4, .int v8), (0, rv Γ 0), (1, .int a1), (2, .int a2), (3, .int a3)] (rv Γ (4 + 2 * nt a1) :: []) S9 _
        refine ok_getr (4 + 2 * nt a1 + 1) hc FS_X11_397 rfl (sht_ob h11) (sht_it (sht_ob h11)).1 dX11_get_52 ?_
        refine ok_iload_n 4 hc dX11_get_55 rfl rfl ?_
        refine ok_lald hc (sht_it (sht_ob h11)).2 dX11_get_56 (fun h12 => ?_)
        exact ok_lret hc rfl dX11_get_57
      · refine ok_aload_n 1 hc dX11_get_36 rfl rfl ?_
        refine ok_iload 0 hc dX11_get_37 rfl ?_
        refine ok_puti hc FP_X11_394 rfl sX_0 dX11_get_39 ?_
        refine ok_ltS (fun S13 => ?_)
        refine ok_ldc2 hc dX11_get_42 W_627 ?_
        exact ok_lret hc rfl dX11_get_45
    · refine ok_ldc2 hc dX11_get_14 W_627 ?_
      exact ok_lret hc rfl dX11_get_17
def fX11_got (a1 : Int32) (a2 : Int32) (S : St) : Option (Int32 × St) :=
  bnd (fX0_has a1 S) (fun v1 S2 => if v1 = 0 then (some ((-2), S2)) else (bnd (fX2_isCell a2.toInt64 S2) (fun v4 S5 => if v4 = 0 then (some ((-2), S5)) else (if ib a1 20 then (bnd (fX5_ownMood (19 + nt a1) S5) (fun v8 S9 => bnd (fX0_gotAt a1 a2 v8 S9) (fun v10 S11 => some (v10, S11)))) else none))))
set_option maxRecDepth 100000 in
set_option maxHeartbeats 4000000 in
theorem tX11_got (a1 : Int32) (a2 : Int32) (S : St) (q : Int32 × St) (h : fX11_got a1 a2 S = some q) : MT vI wX mX11_got (fun n0 => [.ref (n0 + 0), .int a1, .int a2]) S q := by
  refine mt_of (show plainFor yX11_got = true from by decide) (fun _ => Nat.le_of_ble_eq_true rfl) ?_
  intro Γ hc _
  rw [← h]
  show Ok Γ wX 0 [(0, rv Γ 0), (1, .int a1), (2, .int a2)] [] S _
  unfold fX11_got
  refine ok_aload_n 0 hc dX11_got_0 rfl rfl ?_
  refine ok_getr 17 hc FS_X11_37 rfl sX_0 rfl dX11_got_1 ?_
  refine ok_iload_n 1 hc dX11_got_4 rfl rfl ?_
  refine ok_callVi (As := [.int a1]) (st := []) (fun n0 => [.ref (n0 + 17), .int a1]) hc VS_X11_167 sX_17 rfl rfl rfl ⟨Nat.le_of_ble_eq_true rfl, Nat.le_of_ble_eq_true rfl⟩ (Nat.le_of_ble_eq_true rfl) (fun q h => tX0_has a1 S q h) dX11_got_5 (fun v1 S2 => ?_)
  refine ok_if_eq_ite 23 hc dX11_got_8 (by decide) (fun h3 => ?_) (fun h3 => ?_)
  · refine ok_bipush (v := (-2)) hc dX11_got_23 (by decide) ?_
    exact ok_iret hc rfl dX11_got_25
  · refine ok_aload_n 0 hc dX11_got_11 rfl rfl ?_
    refine ok_getr 16 hc FS_X11_28 rfl sX_0 rfl dX11_got_12 ?_
    refine ok_iload_n 2 hc dX11_got_15 rfl rfl ?_
    refine ok_i2l hc dX11_got_16 ?_
    refine ok_callVi (As := [.long a2.toInt64]) (st := []) (fun n0 => [.ref (n0 + 16), .long a2.toInt64]) hc VS_X11_114 sX_16 rfl rfl rfl ⟨Nat.le_of_ble_eq_true rfl, Nat.le_of_ble_eq_true rfl⟩ (Nat.le_of_ble_eq_true rfl) (fun q h => tX2_isCell a2.toInt64 S2 q h) dX11_got_17 (fun v4 S5 => ?_)
    refine ok_if_ne_ite 26 hc dX11_got_20 (by decide) (fun h6 => ?_) (fun h6 => ?_)
    · refine ok_aload_n 0 hc dX11_got_26 rfl rfl ?_
      refine ok_getr 17 hc FS_X11_37 rfl sX_0 rfl dX11_got_27 ?_
      refine ok_iload_n 1 hc dX11_got_30 rfl rfl ?_
      refine ok_iload_n 2 hc dX11_got_31 rfl rfl ?_
      refine ok_aload_n 0 hc dX11_got_32 rfl rfl ?_
      refine ok_getr 17 hc FS_X11_37 rfl sX_0 rfl dX11_got_33 ?_
      refine ok_getr 18 hc FS_X11_143 rfl sX_17 rfl dX11_got_36 ?_
      refine ok_iload_n 1 hc dX11_got_39 rfl rfl ?_
      refine ok_aald (fun j => 19 + j) "AirParted$Sender" hc sX_18 rfl snd_rf dX11_got_40 (fun h7 => ?_)
      show Ok Γ wX 41 [(0, rv Γ 0), (1, .int a1), (2, .int a2)] (rv Γ (19 + nt a1) :: [.int a2, .int a1, rv Γ 17]) S5 _
      refine ok_callVi (As := []) (st := [.int a2, .int a1, rv Γ 17]) (fun n0 => [.ref (n0 + (19 + nt a1))]) hc VS_X11_183 (snd_ob h7) rfl rfl rfl ⟨Nat.le_of_ble_eq_true rfl, Nat.le_of_ble_eq_true rfl⟩ (Nat.le_of_ble_eq_true rfl) (fun q h => tX5_ownMood (19 + nt a1) (snd_ob h7) S5 q h) dX11_got_41 (fun v8 S9 => ?_)
      refine ok_callVi (As := [.int a1, .int a2, .int v8]) (st := []) (fun n0 => [.ref (n0 + 17), .int a1, .int a2, .int v8]) hc VS_X11_187 sX_17 rfl rfl rfl ⟨Nat.le_of_ble_eq_true rfl, Nat.le_of_ble_eq_true rfl⟩ (Nat.le_of_ble_eq_true rfl) (fun q h => tX0_gotAt a1 a2 v8 S9 q h) dX11_got_44 (fun v10 S11 => ?_)
      exact ok_iret hc rfl dX11_got_47
    · refine ok_bipush (v := (-2)) hc dX11_got_23 (by decide) ?_
      exact ok_iret hc rfl dX11_got_25
def fX11_ground (a1 : Int32) (a2 : Int32) (S : St) : Option (Int32 × St) :=
  bnd (fX2_isCell a1.toInt64 S) (fun v1 S2 => if v1 = 0 then (some ((-2), S2)) else (bnd (fX11_within a2 0 1 S2) (fun v4 S5 => if v4 = 0 then (some ((-2), S5)) else (if a2 = 0 then (bnd (fX2_hillOf a1 S5) (fun v10 S11 => some (v10, S11))) else (bnd (fX2_woodOf a1 S5) (fun v8 S9 => some (v8, S9)))))))
set_option maxRecDepth 100000 in
set_option maxHeartbeats 4000000 in
theorem tX11_ground (a1 : Int32) (a2 : Int32) (S : St) (q : Int32 × St) (h : fX11_ground a1 a2 S = some q) : MT vI wX mX11_ground (fun n0 => [.ref (n0 + 0), .int a1, .int a2]) S q := by
  refine mt_of (show plainFor yX11_ground = true from by decide) (fun _ => Nat.le_of_ble_eq_true rfl) ?_
  intro Γ hc _
  rw [← h]
  show Ok Γ wX 0 [(0, rv Γ 0), (1, .int a1), (2, .int a2)] [] S _
  unfold fX11_ground
  refine ok_aload_n 0 hc dX11_ground_0 rfl rfl ?_
  refine ok_getr 16 hc FS_X11_28 rfl sX_0 rfl dX11_ground_1 ?_
  refine ok_iload_n 1 hc dX11_ground_4 rfl rfl ?_
  refine ok_i2l hc dX11_ground_5 ?_
  refine ok_callVi (As := [.long a1.toInt64]) (st := []) (fun n0 => [.ref (n0 + 16), .long a1.toInt64]) hc VS_X11_114 sX_16 rfl rfl rfl ⟨Nat.le_of_ble_eq_true rfl, Nat.le_of_ble_eq_true rfl⟩ (Nat.le_of_ble_eq_true rfl) (fun q h => tX2_isCell a1.toInt64 S q h) dX11_ground_6 (fun v1 S2 => ?_)
  refine ok_if_eq_ite 21 hc dX11_ground_9 (by decide) (fun h3 => ?_) (fun h3 => ?_)
  · refine ok_bipush (v := (-2)) hc dX11_ground_21 (by decide) ?_
    exact ok_iret hc rfl dX11_ground_23
  · refine ok_iload_n 2 hc dX11_ground_12 rfl rfl ?_
    refine ok_iconst (v := 0) hc dX11_ground_13 (by decide) ?_
    refine ok_iconst (v := 1) hc dX11_ground_14 (by decide) ?_
    refine ok_callSi (As := [.int a2, .int 0, .int 1]) (st := []) (fun n0 => [.int a2, .int 0, .int 1]) hc SS_X11_93 rfl rfl rfl ⟨Nat.le_of_ble_eq_true rfl, Nat.le_of_ble_eq_true rfl⟩ (Nat.le_of_ble_eq_true rfl) (fun q h => tX11_within a2 0 1 S2 q h) dX11_ground_15 (fun v4 S5 => ?_)
    refine ok_if_ne_ite 24 hc dX11_ground_18 (by decide) (fun h6 => ?_) (fun h6 => ?_)
    · refine ok_iload_n 2 hc dX11_ground_24 rfl rfl ?_
      refine ok_if_ne_ite 39 hc dX11_ground_25 (by decide) (fun h7 => ?_) (fun h7 => ?_)
      · refine ok_aload_n 0 hc dX11_ground_39 rfl rfl ?_
        refine ok_getr 16 hc FS_X11_28 rfl sX_0 rfl dX11_ground_40 ?_
        refine ok_iload_n 1 hc dX11_ground_43 rfl rfl ?_
        refine ok_callVi (As := [.int a1]) (st := []) (fun n0 => [.ref (n0 + 16), .int a1]) hc VS_X11_122 sX_16 rfl rfl rfl ⟨Nat.le_of_ble_eq_true rfl, Nat.le_of_ble_eq_true rfl⟩ (Nat.le_of_ble_eq_true rfl) (fun q h => tX2_woodOf a1 S5 q h) dX11_ground_44 (fun v8 S9 => ?_)
        exact ok_iret hc rfl dX11_ground_47
      · refine ok_aload_n 0 hc dX11_ground_28 rfl rfl ?_
        refine ok_getr 16 hc FS_X11_28 rfl sX_0 rfl dX11_ground_29 ?_
        refine ok_iload_n 1 hc dX11_ground_32 rfl rfl ?_
        refine ok_callVi (As := [.int a1]) (st := []) (fun n0 => [.ref (n0 + 16), .int a1]) hc VS_X11_118 sX_16 rfl rfl rfl ⟨Nat.le_of_ble_eq_true rfl, Nat.le_of_ble_eq_true rfl⟩ (Nat.le_of_ble_eq_true rfl) (fun q h => tX2_hillOf a1 S5 q h) dX11_ground_33 (fun v10 S11 => ?_)
        refine ok_goto 47 hc dX11_ground_36 (by decide) ?_
        exact ok_iret hc rfl dX11_ground_47
    · refine ok_bipush (v := (-2)) hc dX11_ground_21 (by decide) ?_
      exact ok_iret hc rfl dX11_ground_23
def fX11_hear_L16_st (kx0 : St → Option (Int32 × St)) (a1 : Int32) (rec : Int32 → St → Option (Int32 × St)) (a2 : Int32) (S : St) : Option (Int32 × St) :=
  if (S.1 67 3) ≤ a2 then (kx0 S) else (if ib a2 8 then (bnd (fX0_gotAt a1 (S.1 68 (nt a2)) 0 S) (fun v3 S4 => if ib a2 8 then lt (wi S4 69 (nt a2) v3) (fun S5 => rec (a2 + 1) S5) else none)) else none)
def fX11_hear_L16 (kx0 : St → Option (Int32 × St)) (a1 : Int32) : Nat → Int32 → St → Option (Int32 × St)
  | 0 => fun _ _ => none
  | n + 1 => fun a2 S => fX11_hear_L16_st kx0 a1 (fX11_hear_L16 kx0 a1 n) a2 S
def fX11_hear (a1 : Int32) (S : St) : Option (Int32 × St) :=
  bnd (fX0_has a1 S) (fun v1 S2 => if v1 = 0 then (some ((-2), S2)) else (fX11_hear_L16 (fun (S4 : St) => some (S4.1 67 3, S4)) a1 FU 0 S2))
set_option maxRecDepth 100000 in
set_option maxHeartbeats 4000000 in
theorem tX11_hear_L16 {Γ : Cx Int32} (hc : Cok Γ wX vI mX11_hear) (kx0 : St → Option (Int32 × St)) (a1 : Int32) (hx0 : ∀ (S : St), Ok Γ wX 60 [(0, rv Γ 0)] [] S (kx0 S)) : ∀ (n : Nat) (a2 : Int32) (S : St), Ok Γ wX 16 [(0, rv Γ 0), (1, .int a1), (2, .int a2)] [] S (fX11_hear_L16 kx0 a1 n a2 S) := by
  intro n
  induction n with
  | zero =>
    intro a2 S
    exact ok_none
  | succ n ih =>
    intro a2 S
    show Ok Γ wX 16 [(0, rv Γ 0), (1, .int a1), (2, .int a2)] [] S (fX11_hear_L16_st kx0 a1 (fX11_hear_L16 kx0 a1 n) a2 S)
    unfold fX11_hear_L16_st
    refine ok_iload_n 2 hc dX11_hear_16 rfl rfl ?_
    refine ok_aload_n 0 hc dX11_hear_17 rfl rfl ?_
    refine ok_getr 67 hc FS_X11_76 rfl sX_0 rfl dX11_hear_18 ?_
    refine ok_geti hc FS_X11_101 rfl sX_67 dX11_hear_21 ?_
    refine ok_icmp_ge_ite 60 hc dX11_hear_24 (by decide) (fun h1 => ?_) (fun h1 => ?_)
    · refine ok_sub [0] rfl ?_
      exact hx0 _
    · refine ok_aload_n 0 hc dX11_hear_27 rfl rfl ?_
      refine ok_getr 67 hc FS_X11_76 rfl sX_0 rfl dX11_hear_28 ?_
      refine ok_getr 69 hc FS_X11_319 rfl sX_67 rfl dX11_hear_31 ?_
      refine ok_iload_n 2 hc dX11_hear_34 rfl rfl ?_
      refine ok_aload_n 0 hc dX11_hear_35 rfl rfl ?_
      refine ok_getr 17 hc FS_X11_37 rfl sX_0 rfl dX11_hear_36 ?_
      refine ok_iload_n 1 hc dX11_hear_39 rfl rfl ?_
      refine ok_aload_n 0 hc dX11_hear_40 rfl rfl ?_
      refine ok_getr 67 hc FS_X11_76 rfl sX_0 rfl dX11_hear_41 ?_
      refine ok_getr 68 hc FS_X11_322 rfl sX_67 rfl dX11_hear_44 ?_
      refine ok_iload_n 2 hc dX11_hear_47 rfl rfl ?_
      refine ok_iald hc sX_68 dX11_hear_48 (fun h2 => ?_)
      refine ok_iconst (v := 0) hc dX11_hear_49 (by decide) ?_
      refine ok_callVi (As := [.int a1, .int (S.1 68 (nt a2)), .int 0]) (st := [.int a2, rv Γ 69]) (fun n0 => [.ref (n0 + 17), .int a1, .int (S.1 68 (nt a2)), .int 0]) hc VS_X11_187 sX_17 rfl rfl rfl ⟨Nat.le_of_ble_eq_true rfl, Nat.le_of_ble_eq_true rfl⟩ (Nat.le_of_ble_eq_true rfl) (fun q h => tX0_gotAt a1 (S.1 68 (nt a2)) 0 S q h) dX11_hear_50 (fun v3 S4 => ?_)
      refine ok_iast hc sX_69 dX11_hear_53 (fun h6 => ?_)
      refine ok_ltS (fun S5 => ?_)
      refine ok_iinc (v := 1) 2 [(2, .int (a2 + 1)), (0, rv Γ 0), (1, .int a1)] hc dX11_hear_54 rfl (by decide) (Nat.le_of_ble_eq_true rfl) rfl ?_
      refine ok_goto 16 hc dX11_hear_57 (by decide) ?_
      refine ok_sub [1, 2, 0] rfl ?_
      exact ih _ _
set_option maxRecDepth 100000 in
set_option maxHeartbeats 4000000 in
theorem tX11_hear (a1 : Int32) (S : St) (q : Int32 × St) (h : fX11_hear a1 S = some q) : MT vI wX mX11_hear (fun n0 => [.ref (n0 + 0), .int a1]) S q := by
  refine mt_of (show plainFor yX11_hear = true from by decide) (fun _ => Nat.le_of_ble_eq_true rfl) ?_
  intro Γ hc _
  rw [← h]
  show Ok Γ wX 0 [(0, rv Γ 0), (1, .int a1)] [] S _
  unfold fX11_hear
  refine ok_aload_n 0 hc dX11_hear_0 rfl rfl ?_
  refine ok_getr 17 hc FS_X11_37 rfl sX_0 rfl dX11_hear_1 ?_
  refine ok_iload_n 1 hc dX11_hear_4 rfl rfl ?_
  refine ok_callVi (As := [.int a1]) (st := []) (fun n0 => [.ref (n0 + 17), .int a1]) hc VS_X11_167 sX_17 rfl rfl rfl ⟨Nat.le_of_ble_eq_true rfl, Nat.le_of_ble_eq_true rfl⟩ (Nat.le_of_ble_eq_true rfl) (fun q h => tX0_has a1 S q h) dX11_hear_5 (fun v1 S2 => ?_)
  refine ok_if_ne_ite 14 hc dX11_hear_8 (by decide) (fun h3 => ?_) (fun h3 => ?_)
  · refine ok_iconst (v := 0) hc dX11_hear_14 (by decide) ?_
    refine ok_istore_n [(2, .int 0), (0, rv Γ 0), (1, .int a1)] hc dX11_hear_15 rfl (Nat.le_of_ble_eq_true rfl) rfl ?_
    refine ok_sub [1, 2, 0] rfl ?_
    refine tX11_hear_L16 hc _ _  ?_ FU _ _
    · intro S4
      refine ok_aload_n 0 hc dX11_hear_60 rfl rfl ?_
      refine ok_getr 67 hc FS_X11_76 rfl sX_0 rfl dX11_hear_61 ?_
      refine ok_geti hc FS_X11_101 rfl sX_67 dX11_hear_64 ?_
      exact ok_iret hc rfl dX11_hear_67
  · refine ok_bipush (v := (-2)) hc dX11_hear_11 (by decide) ?_
    exact ok_iret hc rfl dX11_hear_13
def fX11_heard (a1 : Int32) (S : St) : Option (Int32 × St) :=
  bnd (fX11_refusalUnlessOn a1 S) (fun v1 S2 => if v1 = 0 then (bnd (fX0_isHeard a1 S2) (fun v4 S5 => if v4 = 0 then (some (0, S5)) else (some (1, S5)))) else (some (v1, S2)))
set_option maxRecDepth 100000 in
set_option maxHeartbeats 4000000 in
theorem tX11_heard (a1 : Int32) (S : St) (q : Int32 × St) (h : fX11_heard a1 S = some q) : MT vI wX mX11_heard (fun n0 => [.ref (n0 + 0), .int a1]) S q := by
  refine mt_of (show plainFor yX11_heard = true from by decide) (fun _ => Nat.le_of_ble_eq_true rfl) ?_
  intro Γ hc _
  rw [← h]
  show Ok Γ wX 0 [(0, rv Γ 0), (1, .int a1)] [] S _
  unfold fX11_heard
  refine ok_aload_n 0 hc dX11_heard_0 rfl rfl ?_
  refine ok_iload_n 1 hc dX11_heard_1 rfl rfl ?_
  refine ok_callVi (As := [.int a1]) (st := []) (fun n0 => [.ref (n0 + 0), .int a1]) hc VS_X11_191 sX_0 rfl rfl rfl ⟨Nat.le_of_ble_eq_true rfl, Nat.le_of_ble_eq_true rfl⟩ (Nat.le_of_ble_eq_true rfl) (fun q h => tX11_refusalUnlessOn a1 S q h) dX11_heard_2 (fun v1 S2 => ?_)
  refine ok_istore_n [(2, .int v1), (0, rv Γ 0), (1, .int a1)] hc dX11_heard_5 rfl (Nat.le_of_ble_eq_true rfl) rfl ?_
  refine ok_iload_n 0 hc dX11_heard_6 rfl rfl ?_
  refine ok_if_eq_ite 12 hc dX11_heard_7 (by decide) (fun h3 => ?_) (fun h3 => ?_)
  · refine ok_aload_n 1 hc dX11_heard_12 rfl rfl ?_
    refine ok_getr 17 hc FS_X11_37 rfl sX_0 rfl dX11_heard_13 ?_
    refine ok_iload_n 2 hc dX11_heard_16 rfl rfl ?_
    refine ok_callVi (As := [.int a1]) (st := []) (fun n0 => [.ref (n0 + 17), .int a1]) hc VS_X11_194 sX_17 rfl rfl rfl ⟨Nat.le_of_ble_eq_true rfl, Nat.le_of_ble_eq_true rfl⟩ (Nat.le_of_ble_eq_true rfl) (fun q h => tX0_isHeard a1 S2 q h) dX11_heard_17 (fun v4 S5 => ?_)
    refine ok_if_eq_ite 27 hc dX11_heard_20 (by decide) (fun h6 => ?_) (fun h6 => ?_)
    · refine ok_iconst (v := 0) hc dX11_heard_27 (by decide) ?_
      exact ok_iret hc rfl dX11_heard_28
    · refine ok_iconst (v := 1) hc dX11_heard_23 (by decide) ?_
      refine ok_goto 28 hc dX11_heard_24 (by decide) ?_
      exact ok_iret hc rfl dX11_heard_28
  · refine ok_iload_n 0 hc dX11_heard_10 rfl rfl ?_
    exact ok_iret hc rfl dX11_heard_11
def fX11_hidden (a1 : Int32) (S : St) : Option (Int32 × St) :=
  bnd (fX11_within a1 0 11 S) (fun v1 S2 => if v1 = 0 then (some ((-2), S2)) else (bnd (fX3_gather a1 S2) (fun _ S4 => bnd (fX3_hiddenPairs S4) (fun v5 S6 => some (v5, S6)))))
set_option maxRecDepth 100000 in
set_option maxHeartbeats 4000000 in
theorem tX11_hidden (a1 : Int32) (S : St) (q : Int32 × St) (h : fX11_hidden a1 S = some q) : MT vI wX mX11_hidden (fun n0 => [.ref (n0 + 0), .int a1]) S q := by
  refine mt_of (show plainFor yX11_hidden = true from by decide) (fun _ => Nat.le_of_ble_eq_true rfl) ?_
  intro Γ hc _
  rw [← h]
  show Ok Γ wX 0 [(0, rv Γ 0), (1, .int a1)] [] S _
  unfold fX11_hidden
  refine ok_iload_n 1 hc dX11_hidden_0 rfl rfl ?_
  refine ok_iconst (v := 0) hc dX11_hidden_1 (by decide) ?_
  refine ok_bipush (v := 11) hc dX11_hidden_2 (by decide) ?_
  refine ok_callSi (As := [.int a1, .int 0, .int 11]) (st := []) (fun n0 => [.int a1, .int 0, .int 11]) hc SS_X11_93 rfl rfl rfl ⟨Nat.le_of_ble_eq_true rfl, Nat.le_of_ble_eq_true rfl⟩ (Nat.le_of_ble_eq_true rfl) (fun q h => tX11_within a1 0 11 S q h) dX11_hidden_4 (fun v1 S2 => ?_)
  refine ok_if_ne_ite 13 hc dX11_hidden_7 (by decide) (fun h3 => ?_) (fun h3 => ?_)
  · refine ok_aload_n 0 hc dX11_hidden_13 rfl rfl ?_
    refine ok_getr 48 hc FS_X11_53 rfl sX_0 rfl dX11_hidden_14 ?_
    refine ok_iload_n 1 hc dX11_hidden_17 rfl rfl ?_
    refine ok_callVu (As := [.int a1]) (st := []) (fun n0 => [.ref (n0 + 48), .int a1]) hc VS_X11_266 sX_48 rfl rfl rfl ⟨Nat.le_of_ble_eq_true rfl, Nat.le_of_ble_eq_true rfl⟩ (Nat.le_of_ble_eq_true rfl) (fun q h => tX3_gather a1 S2 q h) dX11_hidden_18 (fun _ S4 => ?_)
    refine ok_aload_n 0 hc dX11_hidden_21 rfl rfl ?_
    refine ok_getr 48 hc FS_X11_53 rfl sX_0 rfl dX11_hidden_22 ?_
    refine ok_callVi (As := []) (st := []) (fun n0 => [.ref (n0 + 48)]) hc VS_X11_282 sX_48 rfl rfl rfl ⟨Nat.le_of_ble_eq_true rfl, Nat.le_of_ble_eq_true rfl⟩ (Nat.le_of_ble_eq_true rfl) (fun q h => tX3_hiddenPairs S4 q h) dX11_hidden_25 (fun v5 S6 => ?_)
    exact ok_iret hc rfl dX11_hidden_28
  · refine ok_bipush (v := (-2)) hc dX11_hidden_10 (by decide) ?_
    exact ok_iret hc rfl dX11_hidden_12
def fX11_hops (a1 : Int32) (a2 : Int32) (a3 : Int32) (a4 : Int32) (S : St) : Option (Int32 × St) :=
  bnd (fX11_areRows a1 a2 a3 S) (fun v1 S2 => if v1 = 0 then (some ((-2), S2)) else (bnd (fX11_within a4 0 (a1 - 1) S2) (fun v4 S5 => if v4 = 0 then (some ((-2), S5)) else (bnd (fX11_meetings a1 a2 a3 a4 S5) (fun v7 S8 => some (v7, S8))))))
set_option maxRecDepth 100000 in
set_option maxHeartbeats 4000000 in
theorem tX11_hops (a1 : Int32) (a2 : Int32) (a3 : Int32) (a4 : Int32) (S : St) (q : Int32 × St) (h : fX11_hops a1 a2 a3 a4 S = some q) : MT vI wX mX11_hops (fun n0 => [.ref (n0 + 0), .int a1, .int a2, .int a3, .int a4]) S q := by
  refine mt_of (show plainFor yX11_hops = true from by decide) (fun _ => Nat.le_of_ble_eq_true rfl) ?_
  intro Γ hc _
  rw [← h]
  show Ok Γ wX 0 [(0, rv Γ 0), (1, .int a1), (2, .int a2), (3, .int a3), (4, .int a4)] [] S _
  unfold fX11_hops
  refine ok_iload_n 1 hc dX11_hops_0 rfl rfl ?_
  refine ok_iload_n 2 hc dX11_hops_1 rfl rfl ?_
  refine ok_iload_n 3 hc dX11_hops_2 rfl rfl ?_
  refine ok_callSi (As := [.int a1, .int a2, .int a3]) (st := []) (fun n0 => [.int a1, .int a2, .int a3]) hc SS_X11_254 rfl rfl rfl ⟨Nat.le_of_ble_eq_true rfl, Nat.le_of_ble_eq_true rfl⟩ (Nat.le_of_ble_eq_true rfl) (fun q h => tX11_areRows a1 a2 a3 S q h) dX11_hops_3 (fun v1 S2 => ?_)
  refine ok_if_eq_ite 21 hc dX11_hops_6 (by decide) (fun h3 => ?_) (fun h3 => ?_)
  · refine ok_bipush (v := (-2)) hc dX11_hops_21 (by decide) ?_
    exact ok_iret hc rfl dX11_hops_23
  · refine ok_iload 4 hc dX11_hops_9 rfl ?_
    refine ok_iconst (v := 0) hc dX11_hops_11 (by decide) ?_
    refine ok_iload_n 1 hc dX11_hops_12 rfl rfl ?_
    refine ok_iconst (v := 1) hc dX11_hops_13 (by decide) ?_
    refine ok_isub hc dX11_hops_14 ?_
    refine ok_callSi (As := [.int a4, .int 0, .int (a1 - 1)]) (st := []) (fun n0 => [.int a4, .int 0, .int (a1 - 1)]) hc SS_X11_93 rfl rfl rfl ⟨Nat.le_of_ble_eq_true rfl, Nat.le_of_ble_eq_true rfl⟩ (Nat.le_of_ble_eq_true rfl) (fun q h => tX11_within a4 0 (a1 - 1) S2 q h) dX11_hops_15 (fun v4 S5 => ?_)
    refine ok_if_ne_ite 24 hc dX11_hops_18 (by decide) (fun h6 => ?_) (fun h6 => ?_)
    · refine ok_iload_n 1 hc dX11_hops_24 rfl rfl ?_
      refine ok_iload_n 2 hc dX11_hops_25 rfl rfl ?_
      refine ok_iload_n 3 hc dX11_hops_26 rfl rfl ?_
      refine ok_iload 4 hc dX11_hops_27 rfl ?_
      refine ok_callSi (As := [.int a1, .int a2, .int a3, .int a4]) (st := []) (fun n0 => [.int a1, .int a2, .int a3, .int a4]) hc SS_X11_257 rfl rfl rfl ⟨Nat.le_of_ble_eq_true rfl, Nat.le_of_ble_eq_true rfl⟩ (Nat.le_of_ble_eq_true rfl) (fun q h => tX11_meetings a1 a2 a3 a4 S5 q h) dX11_hops_29 (fun v7 S8 => ?_)
      exact ok_iret hc rfl dX11_hops_32
    · refine ok_bipush (v := (-2)) hc dX11_hops_21 (by decide) ?_
      exact ok_iret hc rfl dX11_hops_23
def fX11_land (a1 : Int32) (a2 : Int32) (S : St) : Option (Int32 × St) :=
  bnd (fX11_within a1 1 20 S) (fun v1 S2 => if v1 = 0 then (some ((-2), S2)) else (bnd (fX11_within a2 1 20 S2) (fun v4 S5 => if v4 = 0 then (some ((-2), S5)) else (if 0 < (S5.1 17 6) then (some ((-3), S5)) else (if 0 < (S5.1 67 3) then (some ((-3), S5)) else (if 0 < (S5.1 70 9) then (some ((-3), S5)) else (if (S5.1 70 10) ≤ 0 then (lt (wi S5 16 3 a1) (fun S11 => lt (wi S11 16 4 a2) (fun S12 => some (1, S12)))) else (some ((-3), S5)))))))))
set_option maxRecDepth 100000 in
set_option maxHeartbeats 4000000 in
theorem tX11_land (a1 : Int32) (a2 : Int32) (S : St) (q : Int32 × St) (h : fX11_land a1 a2 S = some q) : MT vI wX mX11_land (fun n0 => [.ref (n0 + 0), .int a1, .int a2]) S q := by
  refine mt_of (show plainFor yX11_land = true from by decide) (fun _ => Nat.le_of_ble_eq_true rfl) ?_
  intro Γ hc _
  rw [← h]
  show Ok Γ wX 0 [(0, rv Γ 0), (1, .int a1), (2, .int a2)] [] S _
  unfold fX11_land
  refine ok_iload_n 1 hc dX11_land_0 rfl rfl ?_
  refine ok_iconst (v := 1) hc dX11_land_1 (by decide) ?_
  refine ok_bipush (v := 20) hc dX11_land_2 (by decide) ?_
  refine ok_callSi (As := [.int a1, .int 1, .int 20]) (st := []) (fun n0 => [.int a1, .int 1, .int 20]) hc SS_X11_93 rfl rfl rfl ⟨Nat.le_of_ble_eq_true rfl, Nat.le_of_ble_eq_true rfl⟩ (Nat.le_of_ble_eq_true rfl) (fun q h => tX11_within a1 1 20 S q h) dX11_land_4 (fun v1 S2 => ?_)
  refine ok_if_eq_ite 20 hc dX11_land_7 (by decide) (fun h3 => ?_) (fun h3 => ?_)
  · refine ok_bipush (v := (-2)) hc dX11_land_20 (by decide) ?_
    exact ok_iret hc rfl dX11_land_22
  · refine ok_iload_n 2 hc dX11_land_10 rfl rfl ?_
    refine ok_iconst (v := 1) hc dX11_land_11 (by decide) ?_
    refine ok_bipush (v := 20) hc dX11_land_12 (by decide) ?_
    refine ok_callSi (As := [.int a2, .int 1, .int 20]) (st := []) (fun n0 => [.int a2, .int 1, .int 20]) hc SS_X11_93 rfl rfl rfl ⟨Nat.le_of_ble_eq_true rfl, Nat.le_of_ble_eq_true rfl⟩ (Nat.le_of_ble_eq_true rfl) (fun q h => tX11_within a2 1 20 S2 q h) dX11_land_14 (fun v4 S5 => ?_)
    refine ok_if_ne_ite 23 hc dX11_land_17 (by decide) (fun h6 => ?_) (fun h6 => ?_)
    · refine ok_aload_n 0 hc dX11_land_23 rfl rfl ?_
      refine ok_getr 17 hc FS_X11_37 rfl sX_0 rfl dX11_land_24 ?_
      refine ok_geti hc FS_X11_97 rfl sX_17 dX11_land_27 ?_
      refine ok_if_gt_ite 63 hc dX11_land_30 (by decide) (fun h7 => ?_) (fun h7 => ?_)
      · refine ok_bipush (v := (-3)) hc dX11_land_63 (by decide) ?_
        exact ok_iret hc rfl dX11_land_65
      · refine ok_aload_n 0 hc dX11_land_33 rfl rfl ?_
        refine ok_getr 67 hc FS_X11_76 rfl sX_0 rfl dX11_land_34 ?_
        refine ok_geti hc FS_X11_101 rfl sX_67 dX11_land_37 ?_
        refine ok_if_gt_ite 63 hc dX11_land_40 (by decide) (fun h8 => ?_) (fun h8 => ?_)
        · refine ok_bipush (v := (-3)) hc dX11_land_63 (by decide) ?_
          exact ok_iret hc rfl dX11_land_65
        · refine ok_aload_n 0 hc dX11_land_43 rfl rfl ?_
          refine ok_getr 70 hc FS_X11_85 rfl sX_0 rfl dX11_land_44 ?_
          refine ok_geti hc FS_X11_102 rfl sX_70 dX11_land_47 ?_
          refine ok_if_gt_ite 63 hc dX11_land_50 (by decide) (fun h9 => ?_) (fun h9 => ?_)
          · refine ok_bipush (v := (-3)) hc dX11_land_63 (by decide) ?_
            exact ok_iret hc rfl dX11_land_65
          · refine ok_aload_n 0 hc dX11_land_53 rfl rfl ?_
            refine ok_getr 70 hc FS_X11_85 rfl sX_0 rfl dX11_land_54 ?_
            refine ok_geti hc FS_X11_105 rfl sX_70 dX11_land_57 ?_
            refine ok_if_le_ite 66 hc dX11_land_60 (by decide) (fun h10 => ?_) (fun h10 => ?_)
            · refine ok_aload_n 0 hc dX11_land_66 rfl rfl ?_
              refine ok_getr 16 hc FS_X11_28 rfl sX_0 rfl dX11_land_67 ?_
              refine ok_iload_n 1 hc dX11_land_70 rfl rfl ?_
              refine ok_puti hc FP_X11_108 rfl sX_16 dX11_land_71 ?_
              refine ok_ltS (fun S11 => ?_)
              refine ok_aload_n 0 hc dX11_land_74 rfl rfl ?_
              refine ok_getr 16 hc FS_X11_28 rfl sX_0 rfl dX11_land_75 ?_
              refine ok_iload_n 2 hc dX11_land_78 rfl rfl ?_
              refine ok_puti hc FP_X11_111 rfl sX_16 dX11_land_79 ?_
              refine ok_ltS (fun S12 => ?_)
              refine ok_iconst (v := 1) hc dX11_land_82 (by decide) ?_
              exact ok_iret hc rfl dX11_land_83
            · refine ok_bipush (v := (-3)) hc dX11_land_63 (by decide) ?_
              exact ok_iret hc rfl dX11_land_65
    · refine ok_bipush (v := (-2)) hc dX11_land_20 (by decide) ?_
      exact ok_iret hc rfl dX11_land_22
def fX11_listen (a1 : Int32) (a2 : Int32) (a3 : Int32) (S : St) : Option (Int32 × St) :=
  bnd (fX11_within a1 0 11 S) (fun v1 S2 => if v1 = 0 then (some ((-2), S2)) else (bnd (fX11_within a3 1 200 S2) (fun v4 S5 => if v4 = 0 then (some ((-2), S5)) else (bnd (fX3_gather a1 S5) (fun _ S7 => if (S7.1 48 9) = 0 then (some ((-3), S7)) else (bnd (fX3_run a2 a3 S7) (fun v9 S10 => some (v9, S10))))))))
set_option maxRecDepth 100000 in
set_option maxHeartbeats 4000000 in
theorem tX11_listen (a1 : Int32) (a2 : Int32) (a3 : Int32) (S : St) (q : Int32 × St) (h : fX11_listen a1 a2 a3 S = some q) : MT vI wX mX11_listen (fun n0 => [.ref (n0 + 0), .int a1, .int a2, .int a3]) S q := by
  refine mt_of (show plainFor yX11_listen = true from by decide) (fun _ => Nat.le_of_ble_eq_true rfl) ?_
  intro Γ hc _
  rw [← h]
  show Ok Γ wX 0 [(0, rv Γ 0), (1, .int a1), (2, .int a2), (3, .int a3)] [] S _
  unfold fX11_listen
  refine ok_iload_n 1 hc dX11_listen_0 rfl rfl ?_
  refine ok_iconst (v := 0) hc dX11_listen_1 (by decide) ?_
  refine ok_bipush (v := 11) hc dX11_listen_2 (by decide) ?_
  refine ok_callSi (As := [.int a1, .int 0, .int 11]) (st := []) (fun n0 => [.int a1, .int 0, .int 11]) hc SS_X11_93 rfl rfl rfl ⟨Nat.le_of_ble_eq_true rfl, Nat.le_of_ble_eq_true rfl⟩ (Nat.le_of_ble_eq_true rfl) (fun q h => tX11_within a1 0 11 S q h) dX11_listen_4 (fun v1 S2 => ?_)
  refine ok_if_eq_ite 21 hc dX11_listen_7 (by decide) (fun h3 => ?_) (fun h3 => ?_)
  · refine ok_bipush (v := (-2)) hc dX11_listen_21 (by decide) ?_
    exact ok_iret hc rfl dX11_listen_23
  · refine ok_iload_n 3 hc dX11_listen_10 rfl rfl ?_
    refine ok_iconst (v := 1) hc dX11_listen_11 (by decide) ?_
    refine ok_sipush (v := 200) hc dX11_listen_12 (by decide) ?_
    refine ok_callSi (As := [.int a3, .int 1, .int 200]) (st := []) (fun n0 => [.int a3, .int 1, .int 200]) hc SS_X11_93 rfl rfl rfl ⟨Nat.le_of_ble_eq_true rfl, Nat.le_of_ble_eq_true rfl⟩ (Nat.le_of_ble_eq_true rfl) (fun q h => tX11_within a3 1 200 S2 q h) dX11_listen_15 (fun v4 S5 => ?_)
    refine ok_if_ne_ite 24 hc dX11_listen_18 (by decide) (fun h6 => ?_) (fun h6 => ?_)
    · refine ok_aload_n 0 hc dX11_listen_24 rfl rfl ?_
      refine ok_getr 48 hc FS_X11_53 rfl sX_0 rfl dX11_listen_25 ?_
      refine ok_iload_n 1 hc dX11_listen_28 rfl rfl ?_
      refine ok_callVu (As := [.int a1]) (st := []) (fun n0 => [.ref (n0 + 48), .int a1]) hc VS_X11_266 sX_48 rfl rfl rfl ⟨Nat.le_of_ble_eq_true rfl, Nat.le_of_ble_eq_true rfl⟩ (Nat.le_of_ble_eq_true rfl) (fun q h => tX3_gather a1 S5 q h) dX11_listen_29 (fun _ S7 => ?_)
      refine ok_aload_n 0 hc dX11_listen_32 rfl rfl ?_
      refine ok_getr 48 hc FS_X11_53 rfl sX_0 rfl dX11_listen_33 ?_
      refine ok_geti hc FS_X11_269 rfl sX_48 dX11_listen_36 ?_
      refine ok_if_ne_ite 47 hc dX11_listen_39 (by decide) (fun h8 => ?_) (fun h8 => ?_)
      · refine ok_aload_n 0 hc dX11_listen_47 rfl rfl ?_
        refine ok_getr 48 hc FS_X11_53 rfl sX_0 rfl dX11_listen_48 ?_
        refine ok_iload_n 2 hc dX11_listen_51 rfl rfl ?_
        refine ok_iload_n 3 hc dX11_listen_52 rfl rfl ?_
        refine ok_callVi (As := [.int a2, .int a3]) (st := []) (fun n0 => [.ref (n0 + 48), .int a2, .int a3]) hc VS_X11_270 sX_48 rfl rfl rfl ⟨Nat.le_of_ble_eq_true rfl, Nat.le_of_ble_eq_true rfl⟩ (Nat.le_of_ble_eq_true rfl) (fun q h => tX3_run a2 a3 S7 q h) dX11_listen_53 (fun v9 S10 => ?_)
        exact ok_iret hc rfl dX11_listen_56
      · refine ok_bipush (v := (-3)) hc dX11_listen_42 (by decide) ?_
        refine ok_goto 56 hc dX11_listen_44 (by decide) ?_
        exact ok_iret hc rfl dX11_listen_56
    · refine ok_bipush (v := (-2)) hc dX11_listen_21 (by decide) ?_
      exact ok_iret hc rfl dX11_listen_23
def fX11_log (a1 : Int32) (a2 : Int32) (S : St) : Option (Int32 × St) :=
  bnd (fX11_within a1 0 ((S.1 67 3) - 1) S) (fun v1 S2 => if v1 = 0 then (some ((-3), S2)) else (bnd (fX11_within a2 (-1) 100000000 S2) (fun v4 S5 => if v4 = 0 then (some ((-3), S5)) else (if ib a1 8 then (lt (S5.1 69 (nt a1)) (fun (v8 : Int32) => if ib a1 8 then lt (wi S5 69 (nt a1) a2) (fun S9 => some (v8, S9)) else none)) else none))))
set_option maxRecDepth 100000 in
set_option maxHeartbeats 4000000 in
theorem tX11_log (a1 : Int32) (a2 : Int32) (S : St) (q : Int32 × St) (h : fX11_log a1 a2 S = some q) : MT vI wX mX11_log (fun n0 => [.ref (n0 + 0), .int a1, .int a2]) S q := by
  refine mt_of (show plainFor yX11_log = true from by decide) (fun _ => Nat.le_of_ble_eq_true rfl) ?_
  intro Γ hc _
  rw [← h]
  show Ok Γ wX 0 [(0, rv Γ 0), (1, .int a1), (2, .int a2)] [] S _
  unfold fX11_log
  refine ok_iload_n 1 hc dX11_log_0 rfl rfl ?_
  refine ok_iconst (v := 0) hc dX11_log_1 (by decide) ?_
  refine ok_aload_n 0 hc dX11_log_2 rfl rfl ?_
  refine ok_getr 67 hc FS_X11_76 rfl sX_0 rfl dX11_log_3 ?_
  refine ok_geti hc FS_X11_101 rfl sX_67 dX11_log_6 ?_
  refine ok_iconst (v := 1) hc dX11_log_9 (by decide) ?_
  refine ok_isub hc dX11_log_10 ?_
  refine ok_callSi (As := [.int a1, .int 0, .int ((S.1 67 3) - 1)]) (st := []) (fun n0 => [.int a1, .int 0, .int ((S.1 67 3) - 1)]) hc SS_X11_93 rfl rfl rfl ⟨Nat.le_of_ble_eq_true rfl, Nat.le_of_ble_eq_true rfl⟩ (Nat.le_of_ble_eq_true rfl) (fun q h => tX11_within a1 0 ((S.1 67 3) - 1) S q h) dX11_log_11 (fun v1 S2 => ?_)
  refine ok_if_eq_ite 28 hc dX11_log_14 (by decide) (fun h3 => ?_) (fun h3 => ?_)
  · refine ok_bipush (v := (-3)) hc dX11_log_28 (by decide) ?_
    exact ok_iret hc rfl dX11_log_30
  · refine ok_iload_n 2 hc dX11_log_17 rfl rfl ?_
    refine ok_iconst (v := (-1)) hc dX11_log_18 (by decide) ?_
    refine ok_ldcw hc dX11_log_19 W_921 ?_
    refine ok_callSi (As := [.int a2, .int (-1), .int 100000000]) (st := []) (fun n0 => [.int a2, .int (-1), .int 100000000]) hc SS_X11_93 rfl rfl rfl ⟨Nat.le_of_ble_eq_true rfl, Nat.le_of_ble_eq_true rfl⟩ (Nat.le_of_ble_eq_true rfl) (fun q h => tX11_within a2 (-1) 100000000 S2 q h) dX11_log_22 (fun v4 S5 => ?_)
    refine ok_if_ne_ite 31 hc dX11_log_25 (by decide) (fun h6 => ?_) (fun h6 => ?_)
    · refine ok_aload_n 0 hc dX11_log_31 rfl rfl ?_
      refine ok_getr 67 hc FS_X11_76 rfl sX_0 rfl dX11_log_32 ?_
      refine ok_getr 69 hc FS_X11_319 rfl sX_67 rfl dX11_log_35 ?_
      refine ok_iload_n 1 hc dX11_log_38 rfl rfl ?_
      refine ok_iald hc sX_69 dX11_log_39 (fun h7 => ?_)
      refine ok_lti (fun v8 => ?_)
      refine ok_istore_n [(3, .int v8), (0, rv Γ 0), (1, .int a1), (2, .int a2)] hc dX11_log_40 rfl (Nat.le_of_ble_eq_true rfl) rfl ?_
      refine ok_aload_n 1 hc dX11_log_41 rfl rfl ?_
      refine ok_getr 67 hc FS_X11_76 rfl sX_0 rfl dX11_log_42 ?_
      refine ok_getr 69 hc FS_X11_319 rfl sX_67 rfl dX11_log_45 ?_
      refine ok_iload_n 2 hc dX11_log_48 rfl rfl ?_
      refine ok_iload_n 3 hc dX11_log_49 rfl rfl ?_
      refine ok_iast hc sX_69 dX11_log_50 (fun h10 => ?_)
      refine ok_ltS (fun S9 => ?_)
      refine ok_iload_n 0 hc dX11_log_51 rfl rfl ?_
      exact ok_iret hc rfl dX11_log_52
    · refine ok_bipush (v := (-3)) hc dX11_log_28 (by decide) ?_
      exact ok_iret hc rfl dX11_log_30
def fX11_lose (a1 : Int32) (S : St) : Option (Int32 × St) :=
  bnd (fX11_isSheet a1 S) (fun v1 S2 => if v1 = 0 then (some ((-2), S2)) else (if ib a1 6 then (if (S2.1 (4 + 2 * nt a1) 1) = 0 then (if ib a1 6 then (lt (wi S2 (4 + 2 * nt a1) 1 1) (fun S7 => if ib a1 6 then (some (S7.1 (4 + 2 * nt a1) 3, S7)) else none)) else none) else (bnd (fX11_found 1 S2) (fun v9 S10 => some (v9, S10)))) else none))
set_option maxRecDepth 100000 in
set_option maxHeartbeats 4000000 in
theorem tX11_lose (a1 : Int32) (S : St) (q : Int32 × St) (h : fX11_lose a1 S = some q) : MT vI wX mX11_lose (fun n0 => [.ref (n0 + 0), .int a1]) S q := by
  refine mt_of (show plainFor yX11_lose = true from by decide) (fun _ => Nat.le_of_ble_eq_true rfl) ?_
  intro Γ hc _
  rw [← h]
  show Ok Γ wX 0 [(0, rv Γ 0), (1, .int a1)] [] S _
  unfold fX11_lose
  refine ok_iload_n 1 hc dX11_lose_0 rfl rfl ?_
  refine ok_callSi (As := [.int a1]) (st := []) (fun n0 => [.int a1]) hc SS_X11_368 rfl rfl rfl ⟨Nat.le_of_ble_eq_true rfl, Nat.le_of_ble_eq_true rfl⟩ (Nat.le_of_ble_eq_true rfl) (fun q h => tX11_isSheet a1 S q h) dX11_lose_1 (fun v1 S2 => ?_)
  refine ok_if_ne_ite 10 hc dX11_lose_4 (by decide) (fun h3 => ?_) (fun h3 => ?_)
  · refine ok_aload_n 0 hc dX11_lose_10 rfl rfl ?_
    refine ok_getr 3 hc FS_X11_18 rfl sX_0 rfl dX11_lose_11 ?_
    refine ok_iload_n 1 hc dX11_lose_14 rfl rfl ?_
    refine ok_aald (fun j => 4 + 2 * j) "AirParted$Sheet" hc sX_3 rfl sht_rf dX11_lose_15 (fun h4 => ?_)
    show Ok Γ wX 16 [(0, rv Γ 0), (1, .int a1)] (rv Γ (4 + 2 * nt a1) :: []) S2 _
    refine ok_geti hc FS_X11_381 rfl (sht_ob h4) dX11_lose_16 ?_
    refine ok_if_eq_ite 28 hc dX11_lose_19 (by decide) (fun h5 => ?_) (fun h5 => ?_)
    · refine ok_aload_n 0 hc dX11_lose_28 rfl rfl ?_
      refine ok_getr 3 hc FS_X11_18 rfl sX_0 rfl dX11_lose_29 ?_
      refine ok_iload_n 1 hc dX11_lose_32 rfl rfl ?_
      refine ok_aald (fun j => 4 + 2 * j) "AirParted$Sheet" hc sX_3 rfl sht_rf dX11_lose_33 (fun h6 => ?_)
      show Ok Γ wX 34 [(0, rv Γ 0), (1, .int a1)] (rv Γ (4 + 2 * nt a1) :: []) S2 _
      refine ok_iconst (v := 1) hc dX11_lose_34 (by decide) ?_
      refine ok_putzK hc FP_X11_381 rfl (sht_ob h6) (by decide) dX11_lose_35 ?_
      refine ok_ltS (fun S7 => ?_)
      refine ok_aload_n 0 hc dX11_lose_38 rfl rfl ?_
      refine ok_getr 3 hc FS_X11_18 rfl sX_0 rfl dX11_lose_39 ?_
      refine ok_iload_n 1 hc dX11_lose_42 rfl rfl ?_
      refine ok_aald (fun j => 4 + 2 * j) "AirParted$Sheet" hc sX_3 rfl sht_rf dX11_lose_43 (fun h8 => ?_)
      show Ok Γ wX 44 [(0, rv Γ 0), (1, .int a1)] (rv Γ (4 + 2 * nt a1) :: []) S7 _
      refine ok_geti hc FS_X11_384 rfl (sht_ob h8) dX11_lose_44 ?_
      exact ok_iret hc rfl dX11_lose_47
    · refine ok_aload_n 0 hc dX11_lose_22 rfl rfl ?_
      refine ok_iconst (v := 1) hc dX11_lose_23 (by decide) ?_
      refine ok_callVi (As := [.int 1]) (st := []) (fun n0 => [.ref (n0 + 0), .int 1]) hc VS_X11_374 sX_0 rfl rfl rfl ⟨Nat.le_of_ble_eq_true rfl, Nat.le_of_ble_eq_true rfl⟩ (Nat.le_of_ble_eq_true rfl) (fun q h => tX11_found 1 S2 q h) dX11_lose_24 (fun v9 S10 => ?_)
      exact ok_iret hc rfl dX11_lose_27
  · refine ok_bipush (v := (-2)) hc dX11_lose_7 (by decide) ?_
    exact ok_iret hc rfl dX11_lose_9
def fX11_loss (a1 : Int32) (a2 : Int32) (a3 : Int32) (a4 : Int32) (a5 : Int32) (S : St) : Option (Int32 × St) :=
  bnd (fX2_isCell a1.toInt64 S) (fun v1 S2 => if v1 = 0 then (some ((-2), S2)) else (bnd (fX2_isCell a3.toInt64 S2) (fun v4 S5 => if v4 = 0 then (some ((-2), S5)) else (bnd (fX11_within a5 0 1 S5) (fun v7 S8 => if v7 = 0 then (some ((-2), S8)) else (bnd (fX11_within a2 0 20 S8) (fun v10 S11 => if v10 = 0 then (some ((-2), S11)) else (bnd (fX11_within a4 0 20 S11) (fun v13 S14 => if v13 = 0 then (some ((-2), S14)) else (bnd (fX2_lossBetween a1 a2 a3 a4 a5 S14) (fun v16 S17 => some (v16, S17))))))))))))
set_option maxRecDepth 100000 in
set_option maxHeartbeats 4000000 in
theorem tX11_loss (a1 : Int32) (a2 : Int32) (a3 : Int32) (a4 : Int32) (a5 : Int32) (S : St) (q : Int32 × St) (h : fX11_loss a1 a2 a3 a4 a5 S = some q) : MT vI wX mX11_loss (fun n0 => [.ref (n0 + 0), .int a1, .int a2, .int a3, .int a4, .int a5]) S q := by
  refine mt_of (show plainFor yX11_loss = true from by decide) (fun _ => Nat.le_of_ble_eq_true rfl) ?_
  intro Γ hc _
  rw [← h]
  show Ok Γ wX 0 [(0, rv Γ 0), (1, .int a1), (2, .int a2), (3, .int a3), (4, .int a4), (5, .int a5)] [] S _
  unfold fX11_loss
  refine ok_aload_n 0 hc dX11_loss_0 rfl rfl ?_
  refine ok_getr 16 hc FS_X11_28 rfl sX_0 rfl dX11_loss_1 ?_
  refine ok_iload_n 1 hc dX11_loss_4 rfl rfl ?_
  refine ok_i2l hc dX11_loss_5 ?_
  refine ok_callVi (As := [.long a1.toInt64]) (st := []) (fun n0 => [.ref (n0 + 16), .long a1.toInt64]) hc VS_X11_114 sX_16 rfl rfl rfl ⟨Nat.le_of_ble_eq_true rfl, Nat.le_of_ble_eq_true rfl⟩ (Nat.le_of_ble_eq_true rfl) (fun q h => tX2_isCell a1.toInt64 S q h) dX11_loss_6 (fun v1 S2 => ?_)
  refine ok_if_eq_ite 34 hc dX11_loss_9 (by decide) (fun h3 => ?_) (fun h3 => ?_)
  · refine ok_bipush (v := (-2)) hc dX11_loss_34 (by decide) ?_
    exact ok_iret hc rfl dX11_loss_36
  · refine ok_aload_n 0 hc dX11_loss_12 rfl rfl ?_
    refine ok_getr 16 hc FS_X11_28 rfl sX_0 rfl dX11_loss_13 ?_
    refine ok_iload_n 3 hc dX11_loss_16 rfl rfl ?_
    refine ok_i2l hc dX11_loss_17 ?_
    refine ok_callVi (As := [.long a3.toInt64]) (st := []) (fun n0 => [.ref (n0 + 16), .long a3.toInt64]) hc VS_X11_114 sX_16 rfl rfl rfl ⟨Nat.le_of_ble_eq_true rfl, Nat.le_of_ble_eq_true rfl⟩ (Nat.le_of_ble_eq_true rfl) (fun q h => tX2_isCell a3.toInt64 S2 q h) dX11_loss_18 (fun v4 S5 => ?_)
    refine ok_if_eq_ite 34 hc dX11_loss_21 (by decide) (fun h6 => ?_) (fun h6 => ?_)
    · refine ok_bipush (v := (-2)) hc dX11_loss_34 (by decide) ?_
      exact ok_iret hc rfl dX11_loss_36
    · refine ok_iload 5 hc dX11_loss_24 rfl ?_
      refine ok_iconst (v := 0) hc dX11_loss_26 (by decide) ?_
      refine ok_iconst (v := 1) hc dX11_loss_27 (by decide) ?_
      refine ok_callSi (As := [.int a5, .int 0, .int 1]) (st := []) (fun n0 => [.int a5, .int 0, .int 1]) hc SS_X11_93 rfl rfl rfl ⟨Nat.le_of_ble_eq_true rfl, Nat.le_of_ble_eq_true rfl⟩ (Nat.le_of_ble_eq_true rfl) (fun q h => tX11_within a5 0 1 S5 q h) dX11_loss_28 (fun v7 S8 => ?_)
      refine ok_if_ne_ite 37 hc dX11_loss_31 (by decide) (fun h9 => ?_) (fun h9 => ?_)
      · refine ok_iload_n 2 hc dX11_loss_37 rfl rfl ?_
        refine ok_iconst (v := 0) hc dX11_loss_38 (by decide) ?_
        refine ok_bipush (v := 20) hc dX11_loss_39 (by decide) ?_
        refine ok_callSi (As := [.int a2, .int 0, .int 20]) (st := []) (fun n0 => [.int a2, .int 0, .int 20]) hc SS_X11_93 rfl rfl rfl ⟨Nat.le_of_ble_eq_true rfl, Nat.le_of_ble_eq_true rfl⟩ (Nat.le_of_ble_eq_true rfl) (fun q h => tX11_within a2 0 20 S8 q h) dX11_loss_41 (fun v10 S11 => ?_)
        refine ok_if_eq_ite 58 hc dX11_loss_44 (by decide) (fun h12 => ?_) (fun h12 => ?_)
        · refine ok_bipush (v := (-2)) hc dX11_loss_58 (by decide) ?_
          exact ok_iret hc rfl dX11_loss_60
        · refine ok_iload 4 hc dX11_loss_47 rfl ?_
          refine ok_iconst (v := 0) hc dX11_loss_49 (by decide) ?_
          refine ok_bipush (v := 20) hc dX11_loss_50 (by decide) ?_
          refine ok_callSi (As := [.int a4, .int 0, .int 20]) (st := []) (fun n0 => [.int a4, .int 0, .int 20]) hc SS_X11_93 rfl rfl rfl ⟨Nat.le_of_ble_eq_true rfl, Nat.le_of_ble_eq_true rfl⟩ (Nat.le_of_ble_eq_true rfl) (fun q h => tX11_within a4 0 20 S11 q h) dX11_loss_52 (fun v13 S14 => ?_)
          refine ok_if_ne_ite 61 hc dX11_loss_55 (by decide) (fun h15 => ?_) (fun h15 => ?_)
          · refine ok_aload_n 0 hc dX11_loss_61 rfl rfl ?_
            refine ok_getr 16 hc FS_X11_28 rfl sX_0 rfl dX11_loss_62 ?_
            refine ok_iload_n 1 hc dX11_loss_65 rfl rfl ?_
            refine ok_iload_n 2 hc dX11_loss_66 rfl rfl ?_
            refine ok_iload_n 3 hc dX11_loss_67 rfl rfl ?_
            refine ok_iload 4 hc dX11_loss_68 rfl ?_
            refine ok_iload 5 hc dX11_loss_70 rfl ?_
            refine ok_callVi (As := [.int a1, .int a2, .int a3, .int a4, .int a5]) (st := []) (fun n0 => [.ref (n0 + 16), .int a1, .int a2, .int a3, .int a4, .int a5]) hc VS_X11_135 sX_16 rfl rfl rfl ⟨Nat.le_of_ble_eq_true rfl, Nat.le_of_ble_eq_true rfl⟩ (Nat.le_of_ble_eq_true rfl) (fun q h => tX2_lossBetween a1 a2 a3 a4 a5 S14 q h) dX11_loss_72 (fun v16 S17 => ?_)
            exact ok_iret hc rfl dX11_loss_75
          · refine ok_bipush (v := (-2)) hc dX11_loss_58 (by decide) ?_
            exact ok_iret hc rfl dX11_loss_60
      · refine ok_bipush (v := (-2)) hc dX11_loss_34 (by decide) ?_
        exact ok_iret hc rfl dX11_loss_36
