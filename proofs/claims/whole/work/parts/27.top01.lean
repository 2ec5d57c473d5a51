def fX11_map_L60_st (kx0 : St → Option (Int32 × St)) (a1 : Int32) (q3 : Nat) (a4 : Int32) (rec : Int32 → St → Option (Int32 × St)) (a5 : Int32) (S : St) : Option (Int32 × St) :=
  if a4 ≤ a5 then (kx0 S) else (bnd (fX0_gotAt a1 a5 0 S) (fun v2 S3 => if ib a5 400 then lt (wj S3 78 (nt a5) v2.toInt64) (fun S4 => rec (a5 + 1) S4) else none))
def fX11_map_L60 (kx0 : St → Option (Int32 × St)) (a1 : Int32) (q3 : Nat) (a4 : Int32) : Nat → Int32 → St → Option (Int32 × St)
  | 0 => fun _ _ => none
  | n + 1 => fun a5 S => fX11_map_L60_st kx0 a1 q3 a4 (fX11_map_L60 kx0 a1 q3 a4 n) a5 S
def fX11_map_L95_st (q3 : Nat) (a4 : Int32) (rec : Int32 → St → Option (Int32 × St)) (a5 : Int32) (S : St) : Option (Int32 × St) :=
  if a4 ≤ a5 then (some (a4, S)) else (if ib a5 400 then (bnd (fX6_store q3 a5 (S.2 78 (nt a5)) S) (fun _ S3 => rec (a5 + 1) S3)) else none)
def fX11_map_L95 (q3 : Nat) (a4 : Int32) : Nat → Int32 → St → Option (Int32 × St)
  | 0 => fun _ _ => none
  | n + 1 => fun a5 S => fX11_map_L95_st q3 a4 (fX11_map_L95 q3 a4 n) a5 S
def fX11_map (a1 : Int32) (a2 : Int32) (S : St) : Option (Int32 × St) :=
  bnd (fX0_has a1 S) (fun v1 S2 => if v1 = 0 then (some ((-2), S2)) else (bnd (fX11_isSheet a2 S2) (fun v4 S5 => if v4 = 0 then (some ((-2), S5)) else (if ib a2 6 then (if (S5.1 (4 + 2 * nt a2) 1) = 0 then (bnd (fX2_size S5) (fun v9 S10 => bnd (fJ9_min_7cf53 (S5.1 (4 + 2 * nt a2) 3) v9 S10) (fun v11 S12 => fX11_map_L60 (fun (S13 : St) => fX11_map_L95 (4 + 2 * nt a2) v11 FU 0 S13) a1 (4 + 2 * nt a2) v11 FU 0 S12))) else (bnd (fX11_found 1 S5) (fun v14 S15 => some (v14, S15)))) else none))))
set_option maxRecDepth 100000 in
set_option maxHeartbeats 4000000 in
theorem tX11_map_L60 {Γ : Cx Int32} (hc : Cok Γ wX vI mX11_map) (kx0 : St → Option (Int32 × St)) (a1 : Int32) (q3 : Nat) (a4 : Int32) (hq3 : Iob wX q3 6 4) (hx0 : ∀ (S : St), Ok Γ wX 92 [(0, rv Γ 0), (3, rv Γ q3), (4, .int a4)] [] S (kx0 S)) : ∀ (n : Nat) (a5 : Int32) (S : St), Ok Γ wX 60 [(0, rv Γ 0), (1, .int a1), (3, rv Γ q3), (4, .int a4), (5, .int a5)] [] S (fX11_map_L60 kx0 a1 q3 a4 n a5 S) := by
  intro n
  induction n with
  | zero =>
    intro a5 S
    exact ok_none
  | succ n ih =>
    intro a5 S
    show Ok Γ wX 60 [(0, rv Γ 0), (1, .int a1), (3, rv Γ q3), (4, .int a4), (5, .int a5)] [] S (fX11_map_L60_st kx0 a1 q3 a4 (fX11_map_L60 kx0 a1 q3 a4 n) a5 S)
    unfold fX11_map_L60_st
    refine ok_iload 4 hc dX11_map_60 rfl ?_
    refine ok_iload 3 hc dX11_map_62 rfl ?_
    refine ok_icmp_ge_ite 92 hc dX11_map_64 (by decide) (fun h1 => ?_) (fun h1 => ?_)
    · refine ok_sub [0, 2, 3] rfl ?_
      exact hx0 _
    · refine ok_aload_n 0 hc dX11_map_67 rfl rfl ?_
      refine ok_getr 78 hc FS_X11_89 rfl sX_0 rfl dX11_map_68 ?_
      refine ok_iload 4 hc dX11_map_71 rfl ?_
      refine ok_aload_n 0 hc dX11_map_73 rfl rfl ?_
      refine ok_getr 17 hc FS_X11_37 rfl sX_0 rfl dX11_map_74 ?_
      refine ok_iload_n 1 hc dX11_map_77 rfl rfl ?_
      refine ok_iload 4 hc dX11_map_78 rfl ?_
      refine ok_iconst (v := 0) hc dX11_map_80 (by decide) ?_
      refine ok_callVi (As := [.int a1, .int a5, .int 0]) (st := [.int a5, rv Γ 78]) (fun n0 => [.ref (n0 + 17), .int a1, .int a5, .int 0]) hc VS_X11_187 sX_17 rfl rfl rfl ⟨Nat.le_of_ble_eq_true rfl, Nat.le_of_ble_eq_true rfl⟩ (Nat.le_of_ble_eq_true rfl) (fun q h => tX0_gotAt a1 a5 0 S q h) dX11_map_81 (fun v2 S3 => ?_)
      refine ok_i2l hc dX11_map_84 ?_
      refine ok_last hc sX_78 dX11_map_85 (fun h5 => ?_)
      refine ok_ltS (fun S4 => ?_)
      refine ok_iinc (v := 1) 4 [(5, .int (a5 + 1)), (0, rv Γ 0), (1, .int a1), (3, rv Γ q3), (4, .int a4)] hc dX11_map_86 rfl (by decide) (Nat.le_of_ble_eq_true rfl) rfl ?_
      refine ok_goto 60 hc dX11_map_89 (by decide) ?_
      refine ok_sub [1, 2, 3, 4, 0] rfl ?_
      exact ih _ _
set_option maxRecDepth 100000 in
set_option maxHeartbeats 4000000 in
theorem tX11_map_L95 {Γ : Cx Int32} (hc : Cok Γ wX vI mX11_map) (q3 : Nat) (a4 : Int32) (hq3 : Iob wX q3 6 4) : ∀ (n : Nat) (a5 : Int32) (S : St), Ok Γ wX 95 [(0, rv Γ 0), (3, rv Γ q3), (4, .int a4), (5, .int a5)] [] S (fX11_map_L95 q3 a4 n a5 S) := by
  intro n
  induction n with
  | zero =>
    intro a5 S
    exact ok_none
  | succ n ih =>
    intro a5 S
    show Ok Γ wX 95 [(0, rv Γ 0), (3, rv Γ q3), (4, .int a4), (5, .int a5)] [] S (fX11_map_L95_st q3 a4 (fX11_map_L95 q3 a4 n) a5 S)
    unfold fX11_map_L95_st
    refine ok_iload 3 hc dX11_map_95 rfl ?_
    refine ok_iload 2 hc dX11_map_97 rfl ?_
    refine ok_icmp_ge_ite 121 hc dX11_map_99 (by decide) (fun h1 => ?_) (fun h1 => ?_)
    · refine ok_iload 2 hc dX11_map_121 rfl ?_
      exact ok_iret hc rfl dX11_map_123
    · refine ok_aload_n 1 hc dX11_map_102 rfl rfl ?_
      refine ok_iload 3 hc dX11_map_103 rfl ?_
      refine ok_aload_n 0 hc dX11_map_105 rfl rfl ?_
      refine ok_getr 78 hc FS_X11_89 rfl sX_0 rfl dX11_map_106 ?_
      refine ok_iload 3 hc dX11_map_109 rfl ?_
      refine ok_lald hc sX_78 dX11_map_111 (fun h2 => ?_)
      refine ok_callVu (As := [.int a5, .long (S.2 78 (nt a5))]) (st := []) (fun n0 => [.ref (n0 + q3), .int a5, .long (S.2 78 (nt a5))]) hc VS_X11_390 hq3 rfl rfl rfl ⟨Nat.le_of_ble_eq_true rfl, Nat.le_of_ble_eq_true rfl⟩ (Nat.le_of_ble_eq_true rfl) (fun q h => tX6_store q3 a5 (S.2 78 (nt a5)) hq3 S q h) dX11_map_112 (fun _ S3 => ?_)
      refine ok_iinc (v := 1) 3 [(5, .int (a5 + 1)), (0, rv Γ 0), (3, rv Γ q3), (4, .int a4)] hc dX11_map_115 rfl (by decide) (Nat.le_of_ble_eq_true rfl) rfl ?_
      refine ok_goto 95 hc dX11_map_118 (by decide) ?_
      refine ok_sub [1, 2, 3, 0] rfl ?_
      exact ih _ _
set_option maxRecDepth 100000 in
set_option maxHeartbeats 4000000 in
theorem tX11_map (a1 : Int32) (a2 : Int32) (S : St) (q : Int32 × St) (h : fX11_map a1 a2 S = some q) : MT vI wX mX11_map (fun n0 => [.ref (n0 + 0), .int a1, .int a2]) S q := by
  refine mt_of (show plainFor yX11_map = true from by decide) (fun _ => Nat.le_of_ble_eq_true rfl) ?_
  intro Γ hc _
  rw [← h]
  show Ok Γ wX 0 [(0, rv Γ 0), (1, .int a1), (2, .int a2)] [] S _
  unfold fX11_map
  refine ok_aload_n 0 hc dX11_map_0 rfl rfl ?_
  refine ok_getr 17 hc FS_X11_37 rfl sX_0 rfl dX11_map_1 ?_
  refine ok_iload_n 1 hc dX11_map_4 rfl rfl ?_
  refine ok_callVi (As := [.int a1]) (st := []) (fun n0 => [.ref (n0 + 17), .int a1]) hc VS_X11_167 sX_17 rfl rfl rfl ⟨Nat.le_of_ble_eq_true rfl, Nat.le_of_ble_eq_true rfl⟩ (Nat.le_of_ble_eq_true rfl) (fun q h => tX0_has a1 S q h) dX11_map_5 (fun v1 S2 => ?_)
  refine ok_if_eq_ite 18 hc dX11_map_8 (by decide) (fun h3 => ?_) (fun h3 => ?_)
  · refine ok_bipush (v := (-2)) hc dX11_map_18 (by decide) ?_
    exact ok_iret hc rfl dX11_map_20
  · refine ok_iload_n 2 hc dX11_map_11 rfl rfl ?_
    refine ok_callSi (As := [.int a2]) (st := []) (fun n0 => [.int a2]) hc SS_X11_368 rfl rfl rfl ⟨Nat.le_of_ble_eq_true rfl, Nat.le_of_ble_eq_true rfl⟩ (Nat.le_of_ble_eq_true rfl) (fun q h => tX11_isSheet a2 S2 q h) dX11_map_12 (fun v4 S5 => ?_)
    refine ok_if_ne_ite 21 hc dX11_map_15 (by decide) (fun h6 => ?_) (fun h6 => ?_)
    · refine ok_aload_n 0 hc dX11_map_21 rfl rfl ?_
      refine ok_getr 3 hc FS_X11_18 rfl sX_0 rfl dX11_map_22 ?_
      refine ok_iload_n 2 hc dX11_map_25 rfl rfl ?_
      refine ok_aald (fun j => 4 + 2 * j) "AirParted$Sheet" hc sX_3 rfl sht_rf dX11_map_26 (fun h7 => ?_)
      show Ok Γ wX 27 [(0, rv Γ 0), (1, .int a1), (2, .int a2)] (rv Γ (4 + 2 * nt a2) :: []) S5 _
      refine ok_astore_n [(3, rv Γ (4 + 2 * nt a2)), (0, rv Γ 0), (1, .int a1), (2, .int a2)] hc dX11_map_27 rfl (Nat.le_of_ble_eq_true rfl) rfl ?_
      refine ok_aload_n 0 hc dX11_map_28 rfl rfl ?_
      refine ok_geti hc FS_X11_381 rfl (sht_ob h7) dX11_map_29 ?_
      refine ok_if_eq_ite 41 hc dX11_map_32 (by decide) (fun h8 => ?_) (fun h8 => ?_)
      · refine ok_aload_n 0 hc dX11_map_41 rfl rfl ?_
        refine ok_geti hc FS_X11_384 rfl (sht_ob h7) dX11_map_42 ?_
        refine ok_aload_n 1 hc dX11_map_45 rfl rfl ?_
        refine ok_getr 16 hc FS_X11_28 rfl sX_0 rfl dX11_map_46 ?_
        refine ok_callVi (As := []) (st := [.int (S5.1 (4 + 2 * nt a2) 3)]) (fun n0 => [.ref (n0 + 16)]) hc VS_X11_325 sX_16 rfl rfl rfl ⟨Nat.le_of_ble_eq_true rfl, Nat.le_of_ble_eq_true rfl⟩ (Nat.le_of_ble_eq_true rfl) (fun q h => tX2_size S5 q h) dX11_map_49 (fun v9 S10 => ?_)
        refine ok_callSi (As := [.int (S5.1 (4 + 2 * nt a2) 3), .int v9]) (st := []) (fun n0 => [.int (S5.1 (4 + 2 * nt a2) 3), .int v9]) hc SS_X11_413 rfl rfl rfl ⟨Nat.le_of_ble_eq_true rfl, Nat.le_of_ble_eq_true rfl⟩ (Nat.le_of_ble_eq_true rfl) (fun q h => tJ9_min_7cf53 wX (S5.1 (4 + 2 * nt a2) 3) v9 S10 q h) dX11_map_52 (fun v11 S12 => ?_)
        refine ok_istore [(4, .int v11), (3, rv Γ (4 + 2 * nt a2)), (0, rv Γ 0), (1, .int a1), (2, .int a2)] hc dX11_map_55 (Nat.le_of_ble_eq_true rfl) rfl ?_
        refine ok_iconst (v := 0) hc dX11_map_57 (by decide) ?_
        refine ok_istore [(5, .int 0), (4, .int v11), (3, rv Γ (4 + 2 * nt a2)), (0, rv Γ 0), (1, .int a1), (2, .int a2)] hc dX11_map_58 (Nat.le_of_ble_eq_true rfl) rfl ?_
        refine ok_sub [3, 4, 2, 1, 0] rfl ?_
        refine tX11_map_L60 hc _ _ _ _ (sht_ob h7) ?_ FU _ _
        · intro S13
          refine ok_iconst (v := 0) hc dX11_map_92 (by decide) ?_
          refine ok_istore [(5, .int 0), (0, rv Γ 0), (3, rv Γ (4 + 2 * nt a2)), (4, .int v11)] hc dX11_map_93 (Nat.le_of_ble_eq_true rfl) rfl ?_
          refine ok_sub [1, 2, 3, 0] rfl ?_
          refine tX11_map_L95 hc _ _ (sht_ob h7)  FU _ _
      · refine ok_aload_n 1 hc dX11_map_35 rfl rfl ?_
        refine ok_iconst (v := 1) hc dX11_map_36 (by decide) ?_
        refine ok_callVi (As := [.int 1]) (st := []) (fun n0 => [.ref (n0 + 0), .int 1]) hc VS_X11_374 sX_0 rfl rfl rfl ⟨Nat.le_of_ble_eq_true rfl, Nat.le_of_ble_eq_true rfl⟩ (Nat.le_of_ble_eq_true rfl) (fun q h => tX11_found 1 S5 q h) dX11_map_37 (fun v14 S15 => ?_)
        exact ok_iret hc rfl dX11_map_40
    · refine ok_bipush (v := (-2)) hc dX11_map_18 (by decide) ?_
      exact ok_iret hc rfl dX11_map_20
def fX11_may (a1 : Int32) (a2 : Int32) (a3 : Int32) (S : St) : Option (Int32 × St) :=
  bnd (fX11_isAsked a1 a2 a3 S) (fun v1 S2 => if v1 = 0 then (some ((-2), S2)) else (bnd (fX7_lastNaming a1 a2 a3 S2) (fun v4 S5 => if v4 = (-1) then (some (0, S5)) else (if ib v4 25 then (if (S5.1 61 (nt v4)) = 0 then (some (0, S5)) else (some (1, S5))) else none))))
set_option maxRecDepth 100000 in
set_option maxHeartbeats 4000000 in
theorem tX11_may (a1 : Int32) (a2 : Int32) (a3 : Int32) (S : St) (q : Int32 × St) (h : fX11_may a1 a2 a3 S = some q) : MT vI wX mX11_may (fun n0 => [.ref (n0 + 0), .int a1, .int a2, .int a3]) S q := by
  refine mt_of (show plainFor yX11_may = true from by decide) (fun _ => Nat.le_of_ble_eq_true rfl) ?_
  intro Γ hc _
  rw [← h]
  show Ok Γ wX 0 [(0, rv Γ 0), (1, .int a1), (2, .int a2), (3, .int a3)] [] S _
  unfold fX11_may
  refine ok_iload_n 1 hc dX11_may_0 rfl rfl ?_
  refine ok_iload_n 2 hc dX11_may_1 rfl rfl ?_
  refine ok_iload_n 3 hc dX11_may_2 rfl rfl ?_
  refine ok_callSi (As := [.int a1, .int a2, .int a3]) (st := []) (fun n0 => [.int a1, .int a2, .int a3]) hc SS_X11_307 rfl rfl rfl ⟨Nat.le_of_ble_eq_true rfl, Nat.le_of_ble_eq_true rfl⟩ (Nat.le_of_ble_eq_true rfl) (fun q h => tX11_isAsked a1 a2 a3 S q h) dX11_may_3 (fun v1 S2 => ?_)
  refine ok_if_ne_ite 12 hc dX11_may_6 (by decide) (fun h3 => ?_) (fun h3 => ?_)
  · refine ok_aload_n 0 hc dX11_may_12 rfl rfl ?_
    refine ok_getr 59 hc FS_X11_67 rfl sX_0 rfl dX11_may_13 ?_
    refine ok_iload_n 1 hc dX11_may_16 rfl rfl ?_
    refine ok_iload_n 2 hc dX11_may_17 rfl rfl ?_
    refine ok_iload_n 3 hc dX11_may_18 rfl rfl ?_
    refine ok_callVi (As := [.int a1, .int a2, .int a3]) (st := []) (fun n0 => [.ref (n0 + 59), .int a1, .int a2, .int a3]) hc VS_X11_310 sX_59 rfl rfl rfl ⟨Nat.le_of_ble_eq_true rfl, Nat.le_of_ble_eq_true rfl⟩ (Nat.le_of_ble_eq_true rfl) (fun q h => tX7_lastNaming a1 a2 a3 S2 q h) dX11_may_19 (fun v4 S5 => ?_)
    refine ok_istore [(4, .int v4), (0, rv Γ 0), (1, .int a1), (2, .int a2), (3, .int a3)] hc dX11_may_22 (Nat.le_of_ble_eq_true rfl) rfl ?_
    refine ok_iload 0 hc dX11_may_24 rfl ?_
    refine ok_iconst (v := (-1)) hc dX11_may_26 (by decide) ?_
    refine ok_icmp_eq_ite 47 hc dX11_may_27 (by decide) (fun h6 => ?_) (fun h6 => ?_)
    · refine ok_iconst (v := 0) hc dX11_may_47 (by decide) ?_
      exact ok_iret hc rfl dX11_may_48
    · refine ok_aload_n 1 hc dX11_may_30 rfl rfl ?_
      refine ok_getr 59 hc FS_X11_67 rfl sX_0 rfl dX11_may_31 ?_
      refine ok_getr 61 hc FS_X11_313 rfl sX_59 rfl dX11_may_34 ?_
      refine ok_iload 0 hc dX11_may_37 rfl ?_
      refine ok_zald hc sX_61 dX11_may_39 (fun h7 => ?_)
      refine ok_if_eq_ite 47 hc dX11_may_40 (by decide) (fun h8 => ?_) (fun h8 => ?_)
      · refine ok_iconst (v := 0) hc dX11_may_47 (by decide) ?_
        exact ok_iret hc rfl dX11_may_48
      · refine ok_iconst (v := 1) hc dX11_may_43 (by decide) ?_
        refine ok_goto 48 hc dX11_may_44 (by decide) ?_
        exact ok_iret hc rfl dX11_may_48
  · refine ok_bipush (v := (-2)) hc dX11_may_9 (by decide) ?_
    exact ok_iret hc rfl dX11_may_11
def fX11_most_L27_st (a1 : Int32) (a2 : Int32) (a3 : Int32) (rec : Int32 → Int32 → St → Option (Int32 × St)) (a4 : Int32) (a5 : Int32) (S : St) : Option (Int32 × St) :=
  if a1 ≤ a5 then (some (a4, S)) else (bnd (fX11_meetings a1 a2 a3 a5 S) (fun v2 S3 => bnd (fJ9_max_7cf53 a4 v2 S3) (fun v4 S5 => rec v4 (a5 + 1) S5)))
def fX11_most_L27 (a1 : Int32) (a2 : Int32) (a3 : Int32) : Nat → Int32 → Int32 → St → Option (Int32 × St)
  | 0 => fun _ _ _ => none
  | n + 1 => fun a4 a5 S => fX11_most_L27_st a1 a2 a3 (fX11_most_L27 a1 a2 a3 n) a4 a5 S
def fX11_most (a1 : Int32) (a2 : Int32) (a3 : Int32) (S : St) : Option (Int32 × St) :=
  bnd (fX11_areRows a1 a2 a3 S) (fun v1 S2 => if v1 = 0 then (some ((-2), S2)) else (if a2 = a3 then (fX11_most_L27 a1 a2 a3 FU 0 1 S2) else (fX11_most_L27 a1 a2 a3 FU 0 0 S2)))
set_option maxRecDepth 100000 in
set_option maxHeartbeats 4000000 in
theorem tX11_most_L27 {Γ : Cx Int32} (hc : Cok Γ wX vI mX11_most) (a1 : Int32) (a2 : Int32) (a3 : Int32) : ∀ (n : Nat) (a4 : Int32) (a5 : Int32) (S : St), Ok Γ wX 27 [(1, .int a1), (2, .int a2), (3, .int a3), (4, .int a4), (5, .int a5)] [] S (fX11_most_L27 a1 a2 a3 n a4 a5 S) := by
  intro n
  induction n with
  | zero =>
    intro a4 a5 S
    exact ok_none
  | succ n ih =>
    intro a4 a5 S
    show Ok Γ wX 27 [(1, .int a1), (2, .int a2), (3, .int a3), (4, .int a4), (5, .int a5)] [] S (fX11_most_L27_st a1 a2 a3 (fX11_most_L27 a1 a2 a3 n) a4 a5 S)
    unfold fX11_most_L27_st
    refine ok_iload 4 hc dX11_most_27 rfl ?_
    refine ok_iload_n 0 hc dX11_most_29 rfl rfl ?_
    refine ok_icmp_ge_ite 54 hc dX11_most_30 (by decide) (fun h1 => ?_) (fun h1 => ?_)
    · refine ok_iload 3 hc dX11_most_54 rfl ?_
      exact ok_iret hc rfl dX11_most_56
    · refine ok_iload 3 hc dX11_most_33 rfl ?_
      refine ok_iload_n 0 hc dX11_most_35 rfl rfl ?_
      refine ok_iload_n 1 hc dX11_most_36 rfl rfl ?_
      refine ok_iload_n 2 hc dX11_most_37 rfl rfl ?_
      refine ok_iload 4 hc dX11_most_38 rfl ?_
      refine ok_callSi (As := [.int a1, .int a2, .int a3, .int a5]) (st := [.int a4]) (fun n0 => [.int a1, .int a2, .int a3, .int a5]) hc SS_X11_257 rfl rfl rfl ⟨Nat.le_of_ble_eq_true rfl, Nat.le_of_ble_eq_true rfl⟩ (Nat.le_of_ble_eq_true rfl) (fun q h => tX11_meetings a1 a2 a3 a5 S q h) dX11_most_40 (fun v2 S3 => ?_)
      refine ok_callSi (As := [.int a4, .int v2]) (st := []) (fun n0 => [.int a4, .int v2]) hc SS_X11_261 rfl rfl rfl ⟨Nat.le_of_ble_eq_true rfl, Nat.le_of_ble_eq_true rfl⟩ (Nat.le_of_ble_eq_true rfl) (fun q h => tJ9_max_7cf53 wX a4 v2 S3 q h) dX11_most_43 (fun v4 S5 => ?_)
      refine ok_istore [(4, .int v4), (1, .int a1), (2, .int a2), (3, .int a3), (5, .int a5)] hc dX11_most_46 (Nat.le_of_ble_eq_true rfl) rfl ?_
      refine ok_iinc (v := 1) 4 [(5, .int (a5 + 1)), (4, .int v4), (1, .int a1), (2, .int a2), (3, .int a3)] hc dX11_most_48 rfl (by decide) (Nat.le_of_ble_eq_true rfl) rfl ?_
      refine ok_goto 27 hc dX11_most_51 (by decide) ?_
      refine ok_sub [2, 3, 4, 1, 0] rfl ?_
      exact ih _ _ _
set_option maxRecDepth 100000 in
set_option maxHeartbeats 4000000 in
theorem tX11_most (a1 : Int32) (a2 : Int32) (a3 : Int32) (S : St) (q : Int32 × St) (h : fX11_most a1 a2 a3 S = some q) : MT vI wX mX11_most (fun n0 => [.ref (n0 + 0), .int a1, .int a2, .int a3]) S q := by
  refine mt_of (show plainFor yX11_most = true from by decide) (fun _ => Nat.le_of_ble_eq_true rfl) ?_
  intro Γ hc _
  rw [← h]
  show Ok Γ wX 0 [(0, rv Γ 0), (1, .int a1), (2, .int a2), (3, .int a3)] [] S _
  unfold fX11_most
  refine ok_iload_n 1 hc dX11_most_0 rfl rfl ?_
  refine ok_iload_n 2 hc dX11_most_1 rfl rfl ?_
  refine ok_iload_n 3 hc dX11_most_2 rfl rfl ?_
  refine ok_callSi (As := [.int a1, .int a2, .int a3]) (st := []) (fun n0 => [.int a1, .int a2, .int a3]) hc SS_X11_254 rfl rfl rfl ⟨Nat.le_of_ble_eq_true rfl, Nat.le_of_ble_eq_true rfl⟩ (Nat.le_of_ble_eq_true rfl) (fun q h => tX11_areRows a1 a2 a3 S q h) dX11_most_3 (fun v1 S2 => ?_)
  refine ok_if_ne_ite 12 hc dX11_most_6 (by decide) (fun h3 => ?_) (fun h3 => ?_)
  · refine ok_iconst (v := 0) hc dX11_most_12 (by decide) ?_
    refine ok_istore [(4, .int 0), (0, rv Γ 0), (1, .int a1), (2, .int a2), (3, .int a3)] hc dX11_most_13 (Nat.le_of_ble_eq_true rfl) rfl ?_
    refine ok_iload_n 3 hc dX11_most_15 rfl rfl ?_
    refine ok_iload_n 4 hc dX11_most_16 rfl rfl ?_
    refine ok_icmp_ne_ite 24 hc dX11_most_17 (by decide) (fun h4 => ?_) (fun h4 => ?_)
    · refine ok_iconst (v := 0) hc dX11_most_24 (by decide) ?_
      refine ok_istore [(5, .int 0), (4, .int 0), (0, rv Γ 0), (1, .int a1), (2, .int a2), (3, .int a3)] hc dX11_most_25 (Nat.le_of_ble_eq_true rfl) rfl ?_
      refine ok_sub [3, 4, 5, 1, 0] rfl ?_
      refine tX11_most_L27 hc _ _ _   FU _ _ _
    · refine ok_iconst (v := 1) hc dX11_most_20 (by decide) ?_
      refine ok_goto 25 hc dX11_most_21 (by decide) ?_
      refine ok_istore [(5, .int 1), (4, .int 0), (0, rv Γ 0), (1, .int a1), (2, .int a2), (3, .int a3)] hc dX11_most_25 (Nat.le_of_ble_eq_true rfl) rfl ?_
      refine ok_sub [3, 4, 5, 1, 0] rfl ?_
      refine tX11_most_L27 hc _ _ _   FU _ _ _
  · refine ok_bipush (v := (-2)) hc dX11_most_9 (by decide) ?_
    exact ok_iret hc rfl dX11_most_11
def fX11_odds (a1 : Int32) (a2 : Int32) (a3 : Int32) (S : St) : Option (Int32 × St) :=
  bnd (fX11_within a1 1 8 S) (fun v1 S2 => if v1 = 0 then (some ((-2), S2)) else (bnd (fX11_within a2 0 a1 S2) (fun v4 S5 => if v4 = 0 then (some ((-2), S5)) else (bnd (fX11_within a3 0 100 S5) (fun v7 S8 => if v7 = 0 then (some ((-2), S8)) else (bnd (fX11_chanceOfAtMost a2 a1 a3 S8) (fun v10 S11 => some (v10, S11))))))))
set_option maxRecDepth 100000 in
set_option maxHeartbeats 4000000 in
theorem tX11_odds (a1 : Int32) (a2 : Int32) (a3 : Int32) (S : St) (q : Int32 × St) (h : fX11_odds a1 a2 a3 S = some q) : MT vI wX mX11_odds (fun n0 => [.ref (n0 + 0), .int a1, .int a2, .int a3]) S q := by
  refine mt_of (show plainFor yX11_odds = true from by decide) (fun _ => Nat.le_of_ble_eq_true rfl) ?_
  intro Γ hc _
  rw [← h]
  show Ok Γ wX 0 [(0, rv Γ 0), (1, .int a1), (2, .int a2), (3, .int a3)] [] S _
  unfold fX11_odds
  refine ok_iload_n 1 hc dX11_odds_0 rfl rfl ?_
  refine ok_iconst (v := 1) hc dX11_odds_1 (by decide) ?_
  refine ok_bipush (v := 8) hc dX11_odds_2 (by decide) ?_
  refine ok_callSi (As := [.int a1, .int 1, .int 8]) (st := []) (fun n0 => [.int a1, .int 1, .int 8]) hc SS_X11_93 rfl rfl rfl ⟨Nat.le_of_ble_eq_true rfl, Nat.le_of_ble_eq_true rfl⟩ (Nat.le_of_ble_eq_true rfl) (fun q h => tX11_within a1 1 8 S q h) dX11_odds_4 (fun v1 S2 => ?_)
  refine ok_if_eq_ite 29 hc dX11_odds_7 (by decide) (fun h3 => ?_) (fun h3 => ?_)
  · refine ok_bipush (v := (-2)) hc dX11_odds_29 (by decide) ?_
    exact ok_iret hc rfl dX11_odds_31
  · refine ok_iload_n 2 hc dX11_odds_10 rfl rfl ?_
    refine ok_iconst (v := 0) hc dX11_odds_11 (by decide) ?_
    refine ok_iload_n 1 hc dX11_odds_12 rfl rfl ?_
    refine ok_callSi (As := [.int a2, .int 0, .int a1]) (st := []) (fun n0 => [.int a2, .int 0, .int a1]) hc SS_X11_93 rfl rfl rfl ⟨Nat.le_of_ble_eq_true rfl, Nat.le_of_ble_eq_true rfl⟩ (Nat.le_of_ble_eq_true rfl) (fun q h => tX11_within a2 0 a1 S2 q h) dX11_odds_13 (fun v4 S5 => ?_)
    refine ok_if_eq_ite 29 hc dX11_odds_16 (by decide) (fun h6 => ?_) (fun h6 => ?_)
    · refine ok_bipush (v := (-2)) hc dX11_odds_29 (by decide) ?_
      exact ok_iret hc rfl dX11_odds_31
    · refine ok_iload_n 3 hc dX11_odds_19 rfl rfl ?_
      refine ok_iconst (v := 0) hc dX11_odds_20 (by decide) ?_
      refine ok_bipush (v := 100) hc dX11_odds_21 (by decide) ?_
      refine ok_callSi (As := [.int a3, .int 0, .int 100]) (st := []) (fun n0 => [.int a3, .int 0, .int 100]) hc SS_X11_93 rfl rfl rfl ⟨Nat.le_of_ble_eq_true rfl, Nat.le_of_ble_eq_true rfl⟩ (Nat.le_of_ble_eq_true rfl) (fun q h => tX11_within a3 0 100 S5 q h) dX11_odds_23 (fun v7 S8 => ?_)
      refine ok_if_ne_ite 32 hc dX11_odds_26 (by decide) (fun h9 => ?_) (fun h9 => ?_)
      · refine ok_iload_n 2 hc dX11_odds_32 rfl rfl ?_
        refine ok_iload_n 1 hc dX11_odds_33 rfl rfl ?_
        refine ok_iload_n 3 hc dX11_odds_34 rfl rfl ?_
        refine ok_callSi (As := [.int a2, .int a1, .int a3]) (st := []) (fun n0 => [.int a2, .int a1, .int a3]) hc SS_X11_251 rfl rfl rfl ⟨Nat.le_of_ble_eq_true rfl, Nat.le_of_ble_eq_true rfl⟩ (Nat.le_of_ble_eq_true rfl) (fun q h => tX11_chanceOfAtMost a2 a1 a3 S8 q h) dX11_odds_35 (fun v10 S11 => ?_)
        exact ok_iret hc rfl dX11_odds_38
      · refine ok_bipush (v := (-2)) hc dX11_odds_29 (by decide) ?_
        exact ok_iret hc rfl dX11_odds_31
def fX11_on (a1 : Int32) (a2 : Int32) (S : St) : Option (Int32 × St) :=
  bnd (fX0_has a1 S) (fun v1 S2 => if v1 = 0 then (some ((-2), S2)) else (if ib a1 20 then (lt (S2.1 (19 + nt a1) 10) (fun (v5 : Int32) => if ib a1 20 then (if b01 a2 then lt (wi S2 (19 + nt a1) 10 a2) (fun S7 => if v5 = a2 then (some (0, S7)) else (some (1, S7))) else none) else none)) else none))
set_option maxRecDepth 100000 in
set_option maxHeartbeats 4000000 in
theorem tX11_on (a1 : Int32) (a2 : Int32) (S : St) (q : Int32 × St) (h : fX11_on a1 a2 S = some q) : MT vI wX mX11_on (fun n0 => [.ref (n0 + 0), .int a1, .int a2]) S q := by
  refine mt_of (show plainFor yX11_on = true from by decide) (fun _ => Nat.le_of_ble_eq_true rfl) ?_
  intro Γ hc _
  rw [← h]
  show Ok Γ wX 0 [(0, rv Γ 0), (1, .int a1), (2, .int a2)] [] S _
  unfold fX11_on
  refine ok_aload_n 0 hc dX11_on_0 rfl rfl ?_
  refine ok_getr 17 hc FS_X11_37 rfl sX_0 rfl dX11_on_1 ?_
  refine ok_iload_n 1 hc dX11_on_4 rfl rfl ?_
  refine ok_callVi (As := [.int a1]) (st := []) (fun n0 => [.ref (n0 + 17), .int a1]) hc VS_X11_167 sX_17 rfl rfl rfl ⟨Nat.le_of_ble_eq_true rfl, Nat.le_of_ble_eq_true rfl⟩ (Nat.le_of_ble_eq_true rfl) (fun q h => tX0_has a1 S q h) dX11_on_5 (fun v1 S2 => ?_)
  refine ok_if_ne_ite 14 hc dX11_on_8 (by decide) (fun h3 => ?_) (fun h3 => ?_)
  · refine ok_aload_n 0 hc dX11_on_14 rfl rfl ?_
    refine ok_getr 17 hc FS_X11_37 rfl sX_0 rfl dX11_on_15 ?_
    refine ok_getr 18 hc FS_X11_143 rfl sX_17 rfl dX11_on_18 ?_
    refine ok_iload_n 1 hc dX11_on_21 rfl rfl ?_
    refine ok_aald (fun j => 19 + j) "AirParted$Sender" hc sX_18 rfl snd_rf dX11_on_22 (fun h4 => ?_)
    show Ok Γ wX 23 [(0, rv Γ 0), (1, .int a1), (2, .int a2)] (rv Γ (19 + nt a1) :: []) S2 _
    refine ok_geti hc FS_X11_179 rfl (snd_ob h4) dX11_on_23 ?_
    refine ok_lti (fun v5 => ?_)
    refine ok_istore_n [(3, .int v5), (0, rv Γ 0), (1, .int a1), (2, .int a2)] hc dX11_on_26 rfl (Nat.le_of_ble_eq_true rfl) rfl ?_
    refine ok_aload_n 1 hc dX11_on_27 rfl rfl ?_
    refine ok_getr 17 hc FS_X11_37 rfl sX_0 rfl dX11_on_28 ?_
    refine ok_getr 18 hc FS_X11_143 rfl sX_17 rfl dX11_on_31 ?_
    refine ok_iload_n 2 hc dX11_on_34 rfl rfl ?_
    refine ok_aald (fun j => 19 + j) "AirParted$Sender" hc sX_18 rfl snd_rf dX11_on_35 (fun h6 => ?_)
    show Ok Γ wX 36 [(3, .int v5), (0, rv Γ 0), (1, .int a1), (2, .int a2)] (rv Γ (19 + nt a1) :: []) S2 _
    refine ok_iload_n 3 hc dX11_on_36 rfl rfl ?_
    refine ok_putz hc FP_X11_179 rfl (snd_ob h6) dX11_on_37 (fun h8 => ?_)
    refine ok_ltS (fun S7 => ?_)
    refine ok_iload_n 0 hc dX11_on_40 rfl rfl ?_
    refine ok_iload_n 3 hc dX11_on_41 rfl rfl ?_
    refine ok_icmp_ne_ite 49 hc dX11_on_42 (by decide) (fun h9 => ?_) (fun h9 => ?_)
    · refine ok_iconst (v := 1) hc dX11_on_49 (by decide) ?_
      exact ok_iret hc rfl dX11_on_50
    · refine ok_iconst (v := 0) hc dX11_on_45 (by decide) ?_
      refine ok_goto 50 hc dX11_on_46 (by decide) ?_
      exact ok_iret hc rfl dX11_on_50
  · refine ok_bipush (v := (-2)) hc dX11_on_11 (by decide) ?_
    exact ok_iret hc rfl dX11_on_13
def fX11_part (a1 : Int32) (a2 : Int32) (S : St) : Option (Int32 × St) :=
  bnd (fX4_isSet a1 S) (fun v1 S2 => if v1 = 0 then (some ((-2), S2)) else (bnd (fX0_has a2 S2) (fun v4 S5 => if v4 = 0 then (some ((-2), S5)) else (if ((a1 >>> (a2 &&& 31)) &&& 1) = 0 then (some ((-2), S5)) else (bnd (fX4_prepare a1 S5) (fun _ S8 => bnd (fX4_divide S8) (fun v9 S10 => if v9 = 0 then (some ((-3), S10)) else (bnd (fJ6_bitCount_0f7a4 (a1 &&& ((1 <<< (a2 &&& 31)) - 1)) S10) (fun v12 S13 => if ib v12 8 then (some (S13.1 47 (nt v12), S13)) else none)))))))))
set_option maxRecDepth 100000 in
set_option maxHeartbeats 4000000 in
theorem tX11_part (a1 : Int32) (a2 : Int32) (S : St) (q : Int32 × St) (h : fX11_part a1 a2 S = some q) : MT vI wX mX11_part (fun n0 => [.ref (n0 + 0), .int a1, .int a2]) S q := by
  refine mt_of (show plainFor yX11_part = true from by decide) (fun _ => Nat.le_of_ble_eq_true rfl) ?_
  intro Γ hc _
  rw [← h]
  show Ok Γ wX 0 [(0, rv Γ 0), (1, .int a1), (2, .int a2)] [] S _
  unfold fX11_part
  refine ok_aload_n 0 hc dX11_part_0 rfl rfl ?_
  refine ok_getr 41 hc FS_X11_46 rfl sX_0 rfl dX11_part_1 ?_
  refine ok_iload_n 1 hc dX11_part_4 rfl rfl ?_
  refine ok_callVi (As := [.int a1]) (st := []) (fun n0 => [.ref (n0 + 41), .int a1]) hc VS_X11_209 sX_41 rfl rfl rfl ⟨Nat.le_of_ble_eq_true rfl, Nat.le_of_ble_eq_true rfl⟩ (Nat.le_of_ble_eq_true rfl) (fun q h => tX4_isSet a1 S q h) dX11_part_5 (fun v1 S2 => ?_)
  refine ok_if_eq_ite 30 hc dX11_part_8 (by decide) (fun h3 => ?_) (fun h3 => ?_)
  · refine ok_bipush (v := (-2)) hc dX11_part_30 (by decide) ?_
    exact ok_iret hc rfl dX11_part_32
  · refine ok_aload_n 0 hc dX11_part_11 rfl rfl ?_
    refine ok_getr 17 hc FS_X11_37 rfl sX_0 rfl dX11_part_12 ?_
    refine ok_iload_n 2 hc dX11_part_15 rfl rfl ?_
    refine ok_callVi (As := [.int a2]) (st := []) (fun n0 => [.ref (n0 + 17), .int a2]) hc VS_X11_167 sX_17 rfl rfl rfl ⟨Nat.le_of_ble_eq_true rfl, Nat.le_of_ble_eq_true rfl⟩ (Nat.le_of_ble_eq_true rfl) (fun q h => tX0_has a2 S2 q h) dX11_part_16 (fun v4 S5 => ?_)
    refine ok_if_eq_ite 30 hc dX11_part_19 (by decide) (fun h6 => ?_) (fun h6 => ?_)
    · refine ok_bipush (v := (-2)) hc dX11_part_30 (by decide) ?_
      exact ok_iret hc rfl dX11_part_32
    · refine ok_iload_n 1 hc dX11_part_22 rfl rfl ?_
      refine ok_iload_n 2 hc dX11_part_23 rfl rfl ?_
      refine ok_ishr hc dX11_part_24 ?_
      refine ok_iconst (v := 1) hc dX11_part_25 (by decide) ?_
      refine ok_iand hc dX11_part_26 ?_
      refine ok_if_ne_ite 33 hc dX11_part_27 (by decide) (fun h7 => ?_) (fun h7 => ?_)
      · refine ok_aload_n 0 hc dX11_part_33 rfl rfl ?_
        refine ok_getr 41 hc FS_X11_46 rfl sX_0 rfl dX11_part_34 ?_
        refine ok_iload_n 1 hc dX11_part_37 rfl rfl ?_
        refine ok_callVu (As := [.int a1]) (st := []) (fun n0 => [.ref (n0 + 41), .int a1]) hc VS_X11_212 sX_41 rfl rfl rfl ⟨Nat.le_of_ble_eq_true rfl, Nat.le_of_ble_eq_true rfl⟩ (Nat.le_of_ble_eq_true rfl) (fun q h => tX4_prepare a1 S5 q h) dX11_part_38 (fun _ S8 => ?_)
        refine ok_aload_n 0 hc dX11_part_41 rfl rfl ?_
        refine ok_getr 41 hc FS_X11_46 rfl sX_0 rfl dX11_part_42 ?_
        refine ok_callVi (As := []) (st := []) (fun n0 => [.ref (n0 + 41)]) hc VS_X11_226 sX_41 rfl rfl rfl ⟨Nat.le_of_ble_eq_true rfl, Nat.le_of_ble_eq_true rfl⟩ (Nat.le_of_ble_eq_true rfl) (fun q h => tX4_divide S8 q h) dX11_part_45 (fun v9 S10 => ?_)
        refine ok_if_ne_ite 54 hc dX11_part_48 (by decide) (fun h11 => ?_) (fun h11 => ?_)
        · refine ok_aload_n 0 hc dX11_part_54 rfl rfl ?_
          refine ok_getr 41 hc FS_X11_46 rfl sX_0 rfl dX11_part_55 ?_
          refine ok_getr 47 hc FS_X11_230 rfl sX_41 rfl dX11_part_58 ?_
          refine ok_iload_n 1 hc dX11_part_61 rfl rfl ?_
          refine ok_iconst (v := 1) hc dX11_part_62 (by decide) ?_
          refine ok_iload_n 2 hc dX11_part_63 rfl rfl ?_
          refine ok_ishl hc dX11_part_64 ?_
          refine ok_iconst (v := 1) hc dX11_part_65 (by decide) ?_
          refine ok_isub hc dX11_part_66 ?_
          refine ok_iand hc dX11_part_67 ?_
          refine ok_callSi (As := [.int (a1 &&& ((1 <<< (a2 &&& 31)) - 1))]) (st := [rv Γ 47]) (fun n0 => [.int (a1 &&& ((1 <<< (a2 &&& 31)) - 1))]) hc SS_X11_233 rfl rfl rfl ⟨Nat.le_of_ble_eq_true rfl, Nat.le_of_ble_eq_true rfl⟩ (Nat.le_of_ble_eq_true rfl) (fun q h => tJ6_bitCount_0f7a4 wX (a1 &&& ((1 <<< (a2 &&& 31)) - 1)) S10 q h) dX11_part_68 (fun v12 S13 => ?_)
          refine ok_iald hc sX_47 dX11_part_71 (fun h14 => ?_)
          exact ok_iret hc rfl dX11_part_72
        · refine ok_bipush (v := (-3)) hc dX11_part_51 (by decide) ?_
          exact ok_iret hc rfl dX11_part_53
      · refine ok_bipush (v := (-2)) hc dX11_part_30 (by decide) ?_
        exact ok_iret hc rfl dX11_part_32
def fX11_pass (a1 : Int32) (S : St) : Option (Int32 × St) :=
  bnd (fX11_within a1 1 1000 S) (fun v1 S2 => if v1 = 0 then (some ((-2), S2)) else (lt (wi S2 17 7 ((S2.1 17 7) + a1)) (fun S4 => some (S4.1 17 7, S4))))
set_option maxRecDepth 100000 in
set_option maxHeartbeats 4000000 in
theorem tX11_pass (a1 : Int32) (S : St) (q : Int32 × St) (h : fX11_pass a1 S = some q) : MT vI wX mX11_pass (fun n0 => [.ref (n0 + 0), .int a1]) S q := by
  refine mt_of (show plainFor yX11_pass = true from by decide) (fun _ => Nat.le_of_ble_eq_true rfl) ?_
  intro Γ hc _
  rw [← h]
  show Ok Γ wX 0 [(0, rv Γ 0), (1, .int a1)] [] S _
  unfold fX11_pass
  refine ok_iload_n 1 hc dX11_pass_0 rfl rfl ?_
  refine ok_iconst (v := 1) hc dX11_pass_1 (by decide) ?_
  refine ok_sipush (v := 1000) hc dX11_pass_2 (by decide) ?_
  refine ok_callSi (As := [.int a1, .int 1, .int 1000]) (st := []) (fun n0 => [.int a1, .int 1, .int 1000]) hc SS_X11_93 rfl rfl rfl ⟨Nat.le_of_ble_eq_true rfl, Nat.le_of_ble_eq_true rfl⟩ (Nat.le_of_ble_eq_true rfl) (fun q h => tX11_within a1 1 1000 S q h) dX11_pass_5 (fun v1 S2 => ?_)
  refine ok_if_ne_ite 14 hc dX11_pass_8 (by decide) (fun h3 => ?_) (fun h3 => ?_)
  · refine ok_aload_n 0 hc dX11_pass_14 rfl rfl ?_
    refine ok_getr 17 hc FS_X11_37 rfl sX_0 rfl dX11_pass_15 ?_
    refine ok_dup hc dX11_pass_18 rfl ?_
    refine ok_geti hc FS_X11_139 rfl sX_17 dX11_pass_19 ?_
    refine ok_iload_n 1 hc dX11_pass_22 rfl rfl ?_
    refine ok_iadd hc dX11_pass_23 ?_
    refine ok_puti hc FP_X11_139 rfl sX_17 dX11_pass_24 ?_
    refine ok_ltS (fun S4 => ?_)
    refine ok_aload_n 0 hc dX11_pass_27 rfl rfl ?_
    refine ok_getr 17 hc FS_X11_37 rfl sX_0 rfl dX11_pass_28 ?_
    refine ok_geti hc FS_X11_139 rfl sX_17 dX11_pass_31 ?_
    exact ok_iret hc rfl dX11_pass_34
  · refine ok_bipush (v := (-2)) hc dX11_pass_11 (by decide) ?_
    exact ok_iret hc rfl dX11_pass_13
def fX11_pays (a1 : Int32) (S : St) : Option (Int32 × St) :=
  bnd (fX11_within a1 0 ((S.1 56 2) - 1) S) (fun v1 S2 => if v1 = 0 then (some ((-2), S2)) else (bnd (fX1_dueOf a1 S2) (fun v4 S5 => some (v4, S5))))
set_option maxRecDepth 100000 in
set_option maxHeartbeats 4000000 in
theorem tX11_pays (a1 : Int32) (S : St) (q : Int32 × St) (h : fX11_pays a1 S = some q) : MT vI wX mX11_pays (fun n0 => [.ref (n0 + 0), .int a1]) S q := by
  refine mt_of (show plainFor yX11_pays = true from by decide) (fun _ => Nat.le_of_ble_eq_true rfl) ?_
  intro Γ hc _
  rw [← h]
  show Ok Γ wX 0 [(0, rv Γ 0), (1, .int a1)] [] S _
  unfold fX11_pays
  refine ok_iload_n 1 hc dX11_pays_0 rfl rfl ?_
  refine ok_iconst (v := 0) hc dX11_pays_1 (by decide) ?_
  refine ok_aload_n 0 hc dX11_pays_2 rfl rfl ?_
  refine ok_getr 56 hc FS_X11_60 rfl sX_0 rfl dX11_pays_3 ?_
  refine ok_geti hc FS_X11_285 rfl sX_56 dX11_pays_6 ?_
  refine ok_iconst (v := 1) hc dX11_pays_9 (by decide) ?_
  refine ok_isub hc dX11_pays_10 ?_
  refine ok_callSi (As := [.int a1, .int 0, .int ((S.1 56 2) - 1)]) (st := []) (fun n0 => [.int a1, .int 0, .int ((S.1 56 2) - 1)]) hc SS_X11_93 rfl rfl rfl ⟨Nat.le_of_ble_eq_true rfl, Nat.le_of_ble_eq_true rfl⟩ (Nat.le_of_ble_eq_true rfl) (fun q h => tX11_within a1 0 ((S.1 56 2) - 1) S q h) dX11_pays_11 (fun v1 S2 => ?_)
  refine ok_if_eq_ite 28 hc dX11_pays_14 (by decide) (fun h3 => ?_) (fun h3 => ?_)
  · refine ok_bipush (v := (-2)) hc dX11_pays_28 (by decide) ?_
    exact ok_iret hc rfl dX11_pays_30
  · refine ok_aload_n 0 hc dX11_pays_17 rfl rfl ?_
    refine ok_getr 56 hc FS_X11_60 rfl sX_0 rfl dX11_pays_18 ?_
    refine ok_iload_n 1 hc dX11_pays_21 rfl rfl ?_
    refine ok_callVi (As := [.int a1]) (st := []) (fun n0 => [.ref (n0 + 56), .int a1]) hc VS_X11_292 sX_56 rfl rfl rfl ⟨Nat.le_of_ble_eq_true rfl, Nat.le_of_ble_eq_true rfl⟩ (Nat.le_of_ble_eq_true rfl) (fun q h => tX1_dueOf a1 S2 q h) dX11_pays_22 (fun v4 S5 => ?_)
    refine ok_goto 30 hc dX11_pays_25 (by decide) ?_
    exact ok_iret hc rfl dX11_pays_30
def fX11_plan (a1 : Int32) (a2 : Int32) (S : St) : Option (Int32 × St) :=
  bnd (fX11_within a1 0 10000 S) (fun v1 S2 => if v1 = 0 then (some ((-2), S2)) else (bnd (fX11_within a2 0 2 S2) (fun v4 S5 => if v4 = 0 then (some ((-2), S5)) else (bnd (fX9_choose a1 S5) (fun _ S7 => if a2 = 0 then (some (S7.1 70 11, S7)) else (if a2 = 1 then (some (S7.1 70 12, S7)) else (some (S7.1 70 13, S7))))))))
set_option maxRecDepth 100000 in
set_option maxHeartbeats 4000000 in
theorem tX11_plan (a1 : Int32) (a2 : Int32) (S : St) (q : Int32 × St) (h : fX11_plan a1 a2 S = some q) : MT vI wX mX11_plan (fun n0 => [.ref (n0 + 0), .int a1, .int a2]) S q := by
  refine mt_of (show plainFor yX11_plan = true from by decide) (fun _ => Nat.le_of_ble_eq_true rfl) ?_
  intro Γ hc _
  rw [← h]
  show Ok Γ wX 0 [(0, rv Γ 0), (1, .int a1), (2, .int a2)] [] S _
  unfold fX11_plan
  refine ok_iload_n 1 hc dX11_plan_0 rfl rfl ?_
  refine ok_iconst (v := 0) hc dX11_plan_1 (by decide) ?_
  refine ok_sipush (v := 10000) hc dX11_plan_2 (by decide) ?_
  refine ok_callSi (As := [.int a1, .int 0, .int 10000]) (st := []) (fun n0 => [.int a1, .int 0, .int 10000]) hc SS_X11_93 rfl rfl rfl ⟨Nat.le_of_ble_eq_true rfl, Nat.le_of_ble_eq_true rfl⟩ (Nat.le_of_ble_eq_true rfl) (fun q h => tX11_within a1 0 10000 S q h) dX11_plan_5 (fun v1 S2 => ?_)
  refine ok_if_eq_ite 20 hc dX11_plan_8 (by decide) (fun h3 => ?_) (fun h3 => ?_)
  · refine ok_bipush (v := (-2)) hc dX11_plan_20 (by decide) ?_
    exact ok_iret hc rfl dX11_plan_22
  · refine ok_iload_n 2 hc dX11_plan_11 rfl rfl ?_
    refine ok_iconst (v := 0) hc dX11_plan_12 (by decide) ?_
    refine ok_iconst (v := 2) hc dX11_plan_13 (by decide) ?_
    refine ok_callSi (As := [.int a2, .int 0, .int 2]) (st := []) (fun n0 => [.int a2, .int 0, .int 2]) hc SS_X11_93 rfl rfl rfl ⟨Nat.le_of_ble_eq_true rfl, Nat.le_of_ble_eq_true rfl⟩ (Nat.le_of_ble_eq_true rfl) (fun q h => tX11_within a2 0 2 S2 q h) dX11_plan_14 (fun v4 S5 => ?_)
    refine ok_if_ne_ite 23 hc dX11_plan_17 (by decide) (fun h6 => ?_) (fun h6 => ?_)
    · refine ok_aload_n 0 hc dX11_plan_23 rfl rfl ?_
      refine ok_getr 70 hc FS_X11_85 rfl sX_0 rfl dX11_plan_24 ?_
      refine ok_iload_n 1 hc dX11_plan_27 rfl rfl ?_
      refine ok_callVu (As := [.int a1]) (st := []) (fun n0 => [.ref (n0 + 70), .int a1]) hc VS_X11_356 sX_70 rfl rfl rfl ⟨Nat.le_of_ble_eq_true rfl, Nat.le_of_ble_eq_true rfl⟩ (Nat.le_of_ble_eq_true rfl) (fun q h => tX9_choose a1 S5 q h) dX11_plan_28 (fun _ S7 => ?_)
      refine ok_iload_n 2 hc dX11_plan_31 rfl rfl ?_
      refine ok_if_ne_ite 43 hc dX11_plan_32 (by decide) (fun h8 => ?_) (fun h8 => ?_)
      · refine ok_iload_n 2 hc dX11_plan_43 rfl rfl ?_
        refine ok_iconst (v := 1) hc dX11_plan_44 (by decide) ?_
        refine ok_icmp_ne_ite 58 hc dX11_plan_45 (by decide) (fun h9 => ?_) (fun h9 => ?_)
        · refine ok_aload_n 0 hc dX11_plan_58 rfl rfl ?_
          refine ok_getr 70 hc FS_X11_85 rfl sX_0 rfl dX11_plan_59 ?_
          refine ok_geti hc FS_X11_365 rfl sX_70 dX11_plan_62 ?_
          exact ok_iret hc rfl dX11_plan_65
        · refine ok_aload_n 0 hc dX11_plan_48 rfl rfl ?_
          refine ok_getr 70 hc FS_X11_85 rfl sX_0 rfl dX11_plan_49 ?_
          refine ok_geti hc FS_X11_362 rfl sX_70 dX11_plan_52 ?_
          refine ok_goto 65 hc dX11_plan_55 (by decide) ?_
          exact ok_iret hc rfl dX11_plan_65
      · refine ok_aload_n 0 hc dX11_plan_35 rfl rfl ?_
        refine ok_getr 70 hc FS_X11_85 rfl sX_0 rfl dX11_plan_36 ?_
        refine ok_geti hc FS_X11_359 rfl sX_70 dX11_plan_39 ?_
        exact ok_iret hc rfl dX11_plan_42
    · refine ok_bipush (v := (-2)) hc dX11_plan_20 (by decide) ?_
      exact ok_iret hc rfl dX11_plan_22
def fX11_proof (a1 : Int32) (a2 : Int32) (S : St) : Option (Int32 × St) :=
  bnd (fX4_isSet a1 S) (fun v1 S2 => if v1 = 0 then (some ((-2), S2)) else (bnd (fX11_within a2 1 8 S2) (fun v4 S5 => if v4 = 0 then (some ((-2), S5)) else (bnd (fX4_prepare a1 S5) (fun _ S7 => bnd (fX4_leastThatCannot a2 S7) (fun v8 S9 => some (v8, S9)))))))
set_option maxRecDepth 100000 in
set_option maxHeartbeats 4000000 in
theorem tX11_proof (a1 : Int32) (a2 : Int32) (S : St) (q : Int32 × St) (h : fX11_proof a1 a2 S = some q) : MT vI wX mX11_proof (fun n0 => [.ref (n0 + 0), .int a1, .int a2]) S q := by
  refine mt_of (show plainFor yX11_proof = true from by decide) (fun _ => Nat.le_of_ble_eq_true rfl) ?_
  intro Γ hc _
  rw [← h]
  show Ok Γ wX 0 [(0, rv Γ 0), (1, .int a1), (2, .int a2)] [] S _
  unfold fX11_proof
  refine ok_aload_n 0 hc dX11_proof_0 rfl rfl ?_
  refine ok_getr 41 hc FS_X11_46 rfl sX_0 rfl dX11_proof_1 ?_
  refine ok_iload_n 1 hc dX11_proof_4 rfl rfl ?_
  refine ok_callVi (As := [.int a1]) (st := []) (fun n0 => [.ref (n0 + 41), .int a1]) hc VS_X11_209 sX_41 rfl rfl rfl ⟨Nat.le_of_ble_eq_true rfl, Nat.le_of_ble_eq_true rfl⟩ (Nat.le_of_ble_eq_true rfl) (fun q h => tX4_isSet a1 S q h) dX11_proof_5 (fun v1 S2 => ?_)
  refine ok_if_eq_ite 21 hc dX11_proof_8 (by decide) (fun h3 => ?_) (fun h3 => ?_)
  · refine ok_bipush (v := (-2)) hc dX11_proof_21 (by decide) ?_
    exact ok_iret hc rfl dX11_proof_23
  · refine ok_iload_n 2 hc dX11_proof_11 rfl rfl ?_
    refine ok_iconst (v := 1) hc dX11_proof_12 (by decide) ?_
    refine ok_bipush (v := 8) hc dX11_proof_13 (by decide) ?_
    refine ok_callSi (As := [.int a2, .int 1, .int 8]) (st := []) (fun n0 => [.int a2, .int 1, .int 8]) hc SS_X11_93 rfl rfl rfl ⟨Nat.le_of_ble_eq_true rfl, Nat.le_of_ble_eq_true rfl⟩ (Nat.le_of_ble_eq_true rfl) (fun q h => tX11_within a2 1 8 S2 q h) dX11_proof_15 (fun v4 S5 => ?_)
    refine ok_if_ne_ite 24 hc dX11_proof_18 (by decide) (fun h6 => ?_) (fun h6 => ?_)
    · refine ok_aload_n 0 hc dX11_proof_24 rfl rfl ?_
      refine ok_getr 41 hc FS_X11_46 rfl sX_0 rfl dX11_proof_25 ?_
      refine ok_iload_n 1 hc dX11_proof_28 rfl rfl ?_
      refine ok_callVu (As := [.int a1]) (st := []) (fun n0 => [.ref (n0 + 41), .int a1]) hc VS_X11_212 sX_41 rfl rfl rfl ⟨Nat.le_of_ble_eq_true rfl, Nat.le_of_ble_eq_true rfl⟩ (Nat.le_of_ble_eq_true rfl) (fun q h => tX4_prepare a1 S5 q h) dX11_proof_29 (fun _ S7 => ?_)
      refine ok_aload_n 0 hc dX11_proof_32 rfl rfl ?_
      refine ok_getr 41 hc FS_X11_46 rfl sX_0 rfl dX11_proof_33 ?_
      refine ok_iload_n 2 hc dX11_proof_36 rfl rfl ?_
      refine ok_callVi (As := [.int a2]) (st := []) (fun n0 => [.ref (n0 + 41), .int a2]) hc VS_X11_241 sX_41 rfl rfl rfl ⟨Nat.le_of_ble_eq_true rfl, Nat.le_of_ble_eq_true rfl⟩ (Nat.le_of_ble_eq_true rfl) (fun q h => tX4_leastThatCannot a2 S7 q h) dX11_proof_37 (fun v8 S9 => ?_)
      exact ok_iret hc rfl dX11_proof_40
    · refine ok_bipush (v := (-2)) hc dX11_proof_21 (by decide) ?_
      exact ok_iret hc rfl dX11_proof_23
def fX11_put (a1 : Int32) (a2 : Int32) (a3 : Int32) (a4 : Int64) (S : St) : Option (Int32 × St) :=
  bnd (fX11_isSheet a1 S) (fun v1 S2 => if v1 = 0 then (some ((-2), S2)) else (bnd (fX11_isForm a2 S2) (fun v4 S5 => if v4 = 0 then (some ((-2), S5)) else (if ib a1 6 then (bnd (fX11_wrongItem (4 + 2 * nt a1) a2 a3 S5) (fun v8 S9 => if v8 = 0 then (if ib a1 6 then (bnd (fX6_store (4 + 2 * nt a1) a3 a4 S9) (fun _ S12 => some (1, S12))) else none) else (bnd (fX11_found v8 S9) (fun v13 S14 => some (v13, S14))))) else none))))
set_option maxRecDepth 100000 in
set_option maxHeartbeats 4000000 in
theorem tX11_put (a1 : Int32) (a2 : Int32) (a3 : Int32) (a4 : Int64) (S : St) (q : Int32 × St) (h : fX11_put a1 a2 a3 a4 S = some q) : MT vI wX mX11_put (fun n0 => [.ref (n0 + 0), .int a1, .int a2, .int a3, .long a4]) S q := by
  refine mt_of (show plainFor yX11_put = true from by decide) (fun _ => Nat.le_of_ble_eq_true rfl) ?_
  intro Γ hc _
  rw [← h]
  show Ok Γ wX 0 [(0, rv Γ 0), (1, .int a1), (2, .int a2), (3, .int a3), (4, .long a4)] [] S _
  unfold fX11_put
  refine ok_iload_n 1 hc dX11_put_0 rfl rfl ?_
  refine ok_callSi (As := [.int a1]) (st := []) (fun n0 => [.int a1]) hc SS_X11_368 rfl rfl rfl ⟨Nat.le_of_ble_eq_true rfl, Nat.le_of_ble_eq_true rfl⟩ (Nat.le_of_ble_eq_true rfl) (fun q h => tX11_isSheet a1 S q h) dX11_put_1 (fun v1 S2 => ?_)
  refine ok_if_eq_ite 14 hc dX11_put_4 (by decide) (fun h3 => ?_) (fun h3 => ?_)
  · refine ok_bipush (v := (-2)) hc dX11_put_14 (by decide) ?_
    exact ok_iret hc rfl dX11_put_16
  · refine ok_iload_n 2 hc dX11_put_7 rfl rfl ?_
    refine ok_callSi (As := [.int a2]) (st := []) (fun n0 => [.int a2]) hc SS_X11_371 rfl rfl rfl ⟨Nat.le_of_ble_eq_true rfl, Nat.le_of_ble_eq_true rfl⟩ (Nat.le_of_ble_eq_true rfl) (fun q h => tX11_isForm a2 S2 q h) dX11_put_8 (fun v4 S5 => ?_)
    refine ok_if_ne_ite 17 hc dX11_put_11 (by decide) (fun h6 => ?_) (fun h6 => ?_)
    · refine ok_aload_n 0 hc dX11_put_17 rfl rfl ?_
      refine ok_getr 3 hc FS_X11_18 rfl sX_0 rfl dX11_put_18 ?_
      refine ok_iload_n 1 hc dX11_put_21 rfl rfl ?_
      refine ok_aald (fun j => 4 + 2 * j) "AirParted$Sheet" hc sX_3 rfl sht_rf dX11_put_22 (fun h7 => ?_)
      show Ok Γ wX 23 [(0, rv Γ 0), (1, .int a1), (2, .int a2), (3, .int a3), (4, .long a4)] (rv Γ (4 + 2 * nt a1) :: []) S5 _
      refine ok_iload_n 2 hc dX11_put_23 rfl rfl ?_
      refine ok_iload_n 3 hc dX11_put_24 rfl rfl ?_
      refine ok_callSi (As := [rv Γ (4 + 2 * nt a1), .int a2, .int a3]) (st := []) (fun n0 => [.ref (n0 + (4 + 2 * nt a1)), .int a2, .int a3]) hc SS_X11_386 rfl rfl rfl ⟨Nat.le_of_ble_eq_true rfl, Nat.le_of_ble_eq_true rfl⟩ (Nat.le_of_ble_eq_true rfl) (fun q h => tX11_wrongItem (4 + 2 * nt a1) a2 a3 (sht_ob h7) S5 q h) dX11_put_25 (fun v8 S9 => ?_)
      refine ok_istore [(6, .int v8), (0, rv Γ 0), (1, .int a1), (2, .int a2), (3, .int a3), (4, .long a4)] hc dX11_put_28 (Nat.le_of_ble_eq_true rfl) rfl ?_
      refine ok_iload 0 hc dX11_put_30 rfl ?_
      refine ok_if_eq_ite 42 hc dX11_put_32 (by decide) (fun h10 => ?_) (fun h10 => ?_)
      · refine ok_aload_n 1 hc dX11_put_42 rfl rfl ?_
        refine ok_getr 3 hc FS_X11_18 rfl sX_0 rfl dX11_put_43 ?_
        refine ok_iload_n 2 hc dX11_put_46 rfl rfl ?_
        refine ok_aald (fun j => 4 + 2 * j) "AirParted$Sheet" hc sX_3 rfl sht_rf dX11_put_47 (fun h11 => ?_)
        show Ok Γ wX 48 [(6, .int v8), (0, rv Γ 0), (1, .int a1), (2, .int a2), (3, .int a3), (4, .long a4)] (rv Γ (4 + 2 * nt a1) :: []) S9 _
        refine ok_iload_n 4 hc dX11_put_48 rfl rfl ?_
        refine ok_lload 5 hc dX11_put_49 rfl ?_
        refine ok_callVu (As := [.int a3, .long a4]) (st := []) (fun n0 => [.ref (n0 + (4 + 2 * nt a1)), .int a3, .long a4]) hc VS_X11_390 (sht_ob h11) rfl rfl rfl ⟨Nat.le_of_ble_eq_true rfl, Nat.le_of_ble_eq_true rfl⟩ (Nat.le_of_ble_eq_true rfl) (fun q h => tX6_store (4 + 2 * nt a1) a3 a4 (sht_ob h11) S9 q h) dX11_put_51 (fun _ S12 => ?_)
        refine ok_iconst (v := 1) hc dX11_put_54 (by decide) ?_
        exact ok_iret hc rfl dX11_put_55
      · refine ok_aload_n 1 hc dX11_put_35 rfl rfl ?_
        refine ok_iload 0 hc dX11_put_36 rfl ?_
        refine ok_callVi (As := [.int v8]) (st := []) (fun n0 => [.ref (n0 + 0), .int v8]) hc VS_X11_374 sX_0 rfl rfl rfl ⟨Nat.le_of_ble_eq_true rfl, Nat.le_of_ble_eq_true rfl⟩ (Nat.le_of_ble_eq_true rfl) (fun q h => tX11_found v8 S9 q h) dX11_put_38 (fun v13 S14 => ?_)
        exact ok_iret hc rfl dX11_put_41
    · refine ok_bipush (v := (-2)) hc dX11_put_14 (by decide) ?_
      exact ok_iret hc rfl dX11_put_16
def fX11_rule (a1 : Int32) (a2 : Int32) (a3 : Int32) (S : St) : Option (Int32 × St) :=
  bnd (fX11_isAsked a1 a2 a3 S) (fun v1 S2 => if v1 = 0 then (some ((-2), S2)) else (bnd (fX7_lastNaming a1 a2 a3 S2) (fun v4 S5 => some (v4, S5))))
set_option maxRecDepth 100000 in
set_option maxHeartbeats 4000000 in
theorem tX11_rule (a1 : Int32) (a2 : Int32) (a3 : Int32) (S : St) (q : Int32 × St) (h : fX11_rule a1 a2 a3 S = some q) : MT vI wX mX11_rule (fun n0 => [.ref (n0 + 0), .int a1, .int a2, .int a3]) S q := by
  refine mt_of (show plainFor yX11_rule = true from by decide) (fun _ => Nat.le_of_ble_eq_true rfl) ?_
  intro Γ hc _
  rw [← h]
  show Ok Γ wX 0 [(0, rv Γ 0), (1, .int a1), (2, .int a2), (3, .int a3)] [] S _
  unfold fX11_rule
  refine ok_iload_n 1 hc dX11_rule_0 rfl rfl ?_
  refine ok_iload_n 2 hc dX11_rule_1 rfl rfl ?_
  refine ok_iload_n 3 hc dX11_rule_2 rfl rfl ?_
  refine ok_callSi (As := [.int a1, .int a2, .int a3]) (st := []) (fun n0 => [.int a1, .int a2, .int a3]) hc SS_X11_307 rfl rfl rfl ⟨Nat.le_of_ble_eq_true rfl, Nat.le_of_ble_eq_true rfl⟩ (Nat.le_of_ble_eq_true rfl) (fun q h => tX11_isAsked a1 a2 a3 S q h) dX11_rule_3 (fun v1 S2 => ?_)
  refine ok_if_eq_ite 22 hc dX11_rule_6 (by decide) (fun h3 => ?_) (fun h3 => ?_)
  · refine ok_bipush (v := (-2)) hc dX11_rule_22 (by decide) ?_
    exact ok_iret hc rfl dX11_rule_24
  · refine ok_aload_n 0 hc dX11_rule_9 rfl rfl ?_
    refine ok_getr 59 hc FS_X11_67 rfl sX_0 rfl dX11_rule_10 ?_
    refine ok_iload_n 1 hc dX11_rule_13 rfl rfl ?_
    refine ok_iload_n 2 hc dX11_rule_14 rfl rfl ?_
    refine ok_iload_n 3 hc dX11_rule_15 rfl rfl ?_
    refine ok_callVi (As := [.int a1, .int a2, .int a3]) (st := []) (fun n0 => [.ref (n0 + 59), .int a1, .int a2, .int a3]) hc VS_X11_310 sX_59 rfl rfl rfl ⟨Nat.le_of_ble_eq_true rfl, Nat.le_of_ble_eq_true rfl⟩ (Nat.le_of_ble_eq_true rfl) (fun q h => tX7_lastNaming a1 a2 a3 S2 q h) dX11_rule_16 (fun v4 S5 => ?_)
    refine ok_goto 24 hc dX11_rule_19 (by decide) ?_
    exact ok_iret hc rfl dX11_rule_24
def fX11_sender (a1 : Int32) (a2 : Int32) (a3 : Int32) (a4 : Int32) (a5 : Int32) (a6 : Int32) (S : St) : Option (Int32 × St) :=
  bnd (fX11_within a1 0 5 S) (fun v1 S2 => if v1 = 0 then (some ((-2), S2)) else (bnd (fX2_isCell a2.toInt64 S2) (fun v4 S5 => if v4 = 0 then (some ((-2), S5)) else (bnd (fX2_isCell a6.toInt64 S5) (fun v7 S8 => if v7 = 0 then (some ((-2), S8)) else (bnd (fX11_within a3 1 1000000 S8) (fun v10 S11 => if v10 = 0 then (some ((-2), S11)) else (bnd (fX11_within a4 0 20 S11) (fun v13 S14 => if v13 = 0 then (some ((-2), S14)) else (bnd (fX11_within a5 1 10000 S14) (fun v16 S17 => if v16 = 0 then (some ((-2), S17)) else (if (S17.1 17 6) < 20 then (if ib (S17.1 17 6) 20 then (lt (wi S17 (19 + nt (S17.1 17 6)) 0 a1) (fun S21 => lt (wi S21 (19 + nt (S17.1 17 6)) 1 a2) (fun S22 => lt (wi S22 (19 + nt (S17.1 17 6)) 2 a3) (fun S23 => lt (wi S23 (19 + nt (S17.1 17 6)) 3 a4) (fun S24 => lt (wi S24 (19 + nt (S17.1 17 6)) 4 a5) (fun S25 => lt (wi S25 (19 + nt (S17.1 17 6)) 5 a6) (fun S26 => lt (wi S26 17 6 ((S26.1 17 6) + 1)) (fun S27 => some ((S27.1 17 6) - 1, S27))))))))) else none) else (some ((-4), S17))))))))))))))
set_option maxRecDepth 100000 in
set_option maxHeartbeats 4000000 in
theorem tX11_sender (a1 : Int32) (a2 : Int32) (a3 : Int32) (a4 : Int32) (a5 : Int32) (a6 : Int32) (S : St) (q : Int32 × St) (h : fX11_sender a1 a2 a3 a4 a5 a6 S = some q) : MT vI wX mX11_sender (fun n0 => [.ref (n0 + 0), .int a1, .int a2, .int a3, .int a4, .int a5, .int a6]) S q := by
  refine mt_of (show plainFor yX11_sender = true from by decide) (fun _ => Nat.le_of_ble_eq_true rfl) ?_
  intro Γ hc _
  rw [← h]
  show Ok Γ wX 0 [(0, rv Γ 0), (1, .int a1), (2, .int a2), (3, .int a3), (4, .int a4), (5, .int a5), (6, .int a6)] [] S _
  unfold fX11_sender
  refine ok_iload_n 1 hc dX11_sender_0 rfl rfl ?_
  refine ok_iconst (v := 0) hc dX11_sender_1 (by decide) ?_
  refine ok_iconst (v := 5) hc dX11_sender_2 (by decide) ?_
  refine ok_callSi (As := [.int a1, .int 0, .int 5]) (st := []) (fun n0 => [.int a1, .int 0, .int 5]) hc SS_X11_93 rfl rfl rfl ⟨Nat.le_of_ble_eq_true rfl, Nat.le_of_ble_eq_true rfl⟩ (Nat.le_of_ble_eq_true rfl) (fun q h => tX11_within a1 0 5 S q h) dX11_sender_3 (fun v1 S2 => ?_)
  refine ok_if_eq_ite 34 hc dX11_sender_6 (by decide) (fun h3 => ?_) (fun h3 => ?_)
  · refine ok_bipush (v := (-2)) hc dX11_sender_34 (by decide) ?_
    exact ok_iret hc rfl dX11_sender_36
  · refine ok_aload_n 0 hc dX11_sender_9 rfl rfl ?_
    refine ok_getr 16 hc FS_X11_28 rfl sX_0 rfl dX11_sender_10 ?_
    refine ok_iload_n 2 hc dX11_sender_13 rfl rfl ?_
    refine ok_i2l hc dX11_sender_14 ?_
    refine ok_callVi (As := [.long a2.toInt64]) (st := []) (fun n0 => [.ref (n0 + 16), .long a2.toInt64]) hc VS_X11_114 sX_16 rfl rfl rfl ⟨Nat.le_of_ble_eq_true rfl, Nat.le_of_ble_eq_true rfl⟩ (Nat.le_of_ble_eq_true rfl) (fun q h => tX2_isCell a2.toInt64 S2 q h) dX11_sender_15 (fun v4 S5 => ?_)
    refine ok_if_eq_ite 34 hc dX11_sender_18 (by decide) (fun h6 => ?_) (fun h6 => ?_)
    · refine ok_bipush (v := (-2)) hc dX11_sender_34 (by decide) ?_
      exact ok_iret hc rfl dX11_sender_36
    · refine ok_aload_n 0 hc dX11_sender_21 rfl rfl ?_
      refine ok_getr 16 hc FS_X11_28 rfl sX_0 rfl dX11_sender_22 ?_
      refine ok_iload 6 hc dX11_sender_25 rfl ?_
      refine ok_i2l hc dX11_sender_27 ?_
      refine ok_callVi (As := [.long a6.toInt64]) (st := []) (fun n0 => [.ref (n0 + 16), .long a6.toInt64]) hc VS_X11_114 sX_16 rfl rfl rfl ⟨Nat.le_of_ble_eq_true rfl, Nat.le_of_ble_eq_true rfl⟩ (Nat.le_of_ble_eq_true rfl) (fun q h => tX2_isCell a6.toInt64 S5 q h) dX11_sender_28 (fun v7 S8 => ?_)
      refine ok_if_ne_ite 37 hc dX11_sender_31 (by decide) (fun h9 => ?_) (fun h9 => ?_)
      · refine ok_iload_n 3 hc dX11_sender_37 rfl rfl ?_
        refine ok_iconst (v := 1) hc dX11_sender_38 (by decide) ?_
        refine ok_ldc hc dX11_sender_39 W_521 ?_
        refine ok_callSi (As := [.int a3, .int 1, .int 1000000]) (st := []) (fun n0 => [.int a3, .int 1, .int 1000000]) hc SS_X11_93 rfl rfl rfl ⟨Nat.le_of_ble_eq_true rfl, Nat.le_of_ble_eq_true rfl⟩ (Nat.le_of_ble_eq_true rfl) (fun q h => tX11_within a3 1 1000000 S8 q h) dX11_sender_41 (fun v10 S11 => ?_)
        refine ok_if_eq_ite 70 hc dX11_sender_44 (by decide) (fun h12 => ?_) (fun h12 => ?_)
        · refine ok_bipush (v := (-2)) hc dX11_sender_70 (by decide) ?_
          exact ok_iret hc rfl dX11_sender_72
        · refine ok_iload 4 hc dX11_sender_47 rfl ?_
          refine ok_iconst (v := 0) hc dX11_sender_49 (by decide) ?_
          refine ok_bipush (v := 20) hc dX11_sender_50 (by decide) ?_
          refine ok_callSi (As := [.int a4, .int 0, .int 20]) (st := []) (fun n0 => [.int a4, .int 0, .int 20]) hc SS_X11_93 rfl rfl rfl ⟨Nat.le_of_ble_eq_true rfl, Nat.le_of_ble_eq_true rfl⟩ (Nat.le_of_ble_eq_true rfl) (fun q h => tX11_within a4 0 20 S11 q h) dX11_sender_52 (fun v13 S14 => ?_)
          refine ok_if_eq_ite 70 hc dX11_sender_55 (by decide) (fun h15 => ?_) (fun h15 => ?_)
          · refine ok_bipush (v := (-2)) hc dX11_sender_70 (by decide) ?_
            exact ok_iret hc rfl dX11_sender_72
          · refine ok_iload 5 hc dX11_sender_58 rfl ?_
            refine ok_iconst (v := 1) hc dX11_sender_60 (by decide) ?_
            refine ok_sipush (v := 10000) hc dX11_sender_61 (by decide) ?_
            refine ok_callSi (As := [.int a5, .int 1, .int 10000]) (st := []) (fun n0 => [.int a5, .int 1, .int 10000]) hc SS_X11_93 rfl rfl rfl ⟨Nat.le_of_ble_eq_true rfl, Nat.le_of_ble_eq_true rfl⟩ (Nat.le_of_ble_eq_true rfl) (fun q h => tX11_within a5 1 10000 S14 q h) dX11_sender_64 (fun v16 S17 => ?_)
            refine ok_if_ne_ite 73 hc dX11_sender_67 (by decide) (fun h18 => ?_) (fun h18 => ?_)
            · refine ok_aload_n 0 hc dX11_sender_73 rfl rfl ?_
              refine ok_getr 17 hc FS_X11_37 rfl sX_0 rfl dX11_sender_74 ?_
              refine ok_geti hc FS_X11_97 rfl sX_17 dX11_sender_77 ?_
              refine ok_bipush (v := 20) hc dX11_sender_80 (by decide) ?_
              refine ok_icmp_lt_ite 88 hc dX11_sender_82 (by decide) (fun h19 => ?_) (fun h19 => ?_)
              · refine ok_aload_n 0 hc dX11_sender_88 rfl rfl ?_
                refine ok_getr 17 hc FS_X11_37 rfl sX_0 rfl dX11_sender_89 ?_
                refine ok_getr 18 hc FS_X11_143 rfl sX_17 rfl dX11_sender_92 ?_
                refine ok_aload_n 0 hc dX11_sender_95 rfl rfl ?_
                refine ok_getr 17 hc FS_X11_37 rfl sX_0 rfl dX11_sender_96 ?_
                refine ok_geti hc FS_X11_97 rfl sX_17 dX11_sender_99 ?_
                refine ok_aald (fun j => 19 + j) "AirParted$Sender" hc sX_18 rfl snd_rf dX11_sender_102 (fun h20 => ?_)
                show Ok Γ wX 103 [(0, rv Γ 0), (1, .int a1), (2, .int a2), (3, .int a3), (4, .int a4), (5, .int a5), (6, .int a6)] (rv Γ (19 + nt (S17.1 17 6)) :: []) S17 _
                refine ok_astore [(7, rv Γ (19 + nt (S17.1 17 6))), (0, rv Γ 0), (1, .int a1), (2, .int a2), (3, .int a3), (4, .int a4), (5, .int a5), (6, .int a6)] hc dX11_sender_103 (Nat.le_of_ble_eq_true rfl) rfl ?_
                refine ok_aload 0 hc dX11_sender_105 rfl ?_
                refine ok_iload_n 2 hc dX11_sender_107 rfl rfl ?_
                refine ok_puti hc FP_X11_147 rfl (snd_ob h20) dX11_sender_108 ?_
                refine ok_ltS (fun S21 => ?_)
                refine ok_aload 0 hc dX11_sender_111 rfl ?_
                refine ok_iload_n 3 hc dX11_sender_113 rfl rfl ?_
                refine ok_puti hc FP_X11_152 rfl (snd_ob h20) dX11_sender_114 ?_
                refine ok_ltS (fun S22 => ?_)
                refine ok_aload 0 hc dX11_sender_117 rfl ?_
                refine ok_iload_n 4 hc dX11_sender_119 rfl rfl ?_
                refine ok_puti hc FP_X11_155 rfl (snd_ob h20) dX11_sender_120 ?_
                refine ok_ltS (fun S23 => ?_)
                refine ok_aload 0 hc dX11_sender_123 rfl ?_
                refine ok_iload 5 hc dX11_sender_125 rfl ?_
                refine ok_puti hc FP_X11_158 rfl (snd_ob h20) dX11_sender_127 ?_
                refine ok_ltS (fun S24 => ?_)
                refine ok_aload 0 hc dX11_sender_130 rfl ?_
                refine ok_iload 6 hc dX11_sender_132 rfl ?_
                refine ok_puti hc FP_X11_161 rfl (snd_ob h20) dX11_sender_134 ?_
                refine ok_ltS (fun S25 => ?_)
                refine ok_aload 0 hc dX11_sender_137 rfl ?_
                refine ok_iload 7 hc dX11_sender_139 rfl ?_
                refine ok_puti hc FP_X11_164 rfl (snd_ob h20) dX11_sender_141 ?_
                refine ok_ltS (fun S26 => ?_)
                refine ok_aload_n 1 hc dX11_sender_144 rfl rfl ?_
                refine ok_getr 17 hc FS_X11_37 rfl sX_0 rfl dX11_sender_145 ?_
                refine ok_dup hc dX11_sender_148 rfl ?_
                refine ok_geti hc FS_X11_97 rfl sX_17 dX11_sender_149 ?_
                refine ok_iconst (v := 1) hc dX11_sender_152 (by decide) ?_
                refine ok_iadd hc dX11_sender_153 ?_
                refine ok_puti hc FP_X11_97 rfl sX_17 dX11_sender_154 ?_
                refine ok_ltS (fun S27 => ?_)
                refine ok_aload_n 1 hc dX11_sender_157 rfl rfl ?_
                refine ok_getr 17 hc FS_X11_37 rfl sX_0 rfl dX11_sender_158 ?_
                refine ok_geti hc FS_X11_97 rfl sX_17 dX11_sender_161 ?_
                refine ok_iconst (v := 1) hc dX11_sender_164 (by decide) ?_
                refine ok_isub hc dX11_sender_165 ?_
                exact ok_iret hc rfl dX11_sender_166
              · refine ok_bipush (v := (-4)) hc dX11_sender_85 (by decide) ?_
                exact ok_iret hc rfl dX11_sender_87
            · refine ok_bipush (v := (-2)) hc dX11_sender_70 (by decide) ?_
              exact ok_iret hc rfl dX11_sender_72
      · refine ok_bipush (v := (-2)) hc dX11_sender_34 (by decide) ?_
        exact ok_iret hc rfl dX11_sender_36
def fX11_serves (a1 : Int32) (S : St) : Option (Int32 × St) :=
  bnd (fX9_plans S) (fun v1 S2 => bnd (fX11_within a1 0 (v1 - 1) S2) (fun v3 S4 => if v3 = 0 then (some ((-2), S4)) else (bnd (fX9_measure S4) (fun _ S6 => bnd (fX9_worthOf a1 S6) (fun v7 S8 => some (v7, S8))))))
set_option maxRecDepth 100000 in
set_option maxHeartbeats 4000000 in
theorem tX11_serves (a1 : Int32) (S : St) (q : Int32 × St) (h : fX11_serves a1 S = some q) : MT vI wX mX11_serves (fun n0 => [.ref (n0 + 0), .int a1]) S q := by
  refine mt_of (show plainFor yX11_serves = true from by decide) (fun _ => Nat.le_of_ble_eq_true rfl) ?_
  intro Γ hc _
  rw [← h]
  show Ok Γ wX 0 [(0, rv Γ 0), (1, .int a1)] [] S _
  unfold fX11_serves
  refine ok_iload_n 1 hc dX11_serves_0 rfl rfl ?_
  refine ok_iconst (v := 0) hc dX11_serves_1 (by decide) ?_
  refine ok_aload_n 0 hc dX11_serves_2 rfl rfl ?_
  refine ok_getr 70 hc FS_X11_85 rfl sX_0 rfl dX11_serves_3 ?_
  refine ok_callVi (As := []) (st := [.int 0, .int a1]) (fun n0 => [.ref (n0 + 70)]) hc VS_X11_347 sX_70 rfl rfl rfl ⟨Nat.le_of_ble_eq_true rfl, Nat.le_of_ble_eq_true rfl⟩ (Nat.le_of_ble_eq_true rfl) (fun q h => tX9_plans S q h) dX11_serves_6 (fun v1 S2 => ?_)
  refine ok_iconst (v := 1) hc dX11_serves_9 (by decide) ?_
  refine ok_isub hc dX11_serves_10 ?_
  refine ok_callSi (As := [.int a1, .int 0, .int (v1 - 1)]) (st := []) (fun n0 => [.int a1, .int 0, .int (v1 - 1)]) hc SS_X11_93 rfl rfl rfl ⟨Nat.le_of_ble_eq_true rfl, Nat.le_of_ble_eq_true rfl⟩ (Nat.le_of_ble_eq_true rfl) (fun q h => tX11_within a1 0 (v1 - 1) S2 q h) dX11_serves_11 (fun v3 S4 => ?_)
  refine ok_if_ne_ite 20 hc dX11_serves_14 (by decide) (fun h5 => ?_) (fun h5 => ?_)
  · refine ok_aload_n 0 hc dX11_serves_20 rfl rfl ?_
    refine ok_getr 70 hc FS_X11_85 rfl sX_0 rfl dX11_serves_21 ?_
    refine ok_callVu (As := []) (st := []) (fun n0 => [.ref (n0 + 70)]) hc VS_X11_350 sX_70 rfl rfl rfl ⟨Nat.le_of_ble_eq_true rfl, Nat.le_of_ble_eq_true rfl⟩ (Nat.le_of_ble_eq_true rfl) (fun q h => tX9_measure S4 q h) dX11_serves_24 (fun _ S6 => ?_)
    refine ok_aload_n 0 hc dX11_serves_27 rfl rfl ?_
    refine ok_getr 70 hc FS_X11_85 rfl sX_0 rfl dX11_serves_28 ?_
    refine ok_iload_n 1 hc dX11_serves_31 rfl rfl ?_
    refine ok_callVi (As := [.int a1]) (st := []) (fun n0 => [.ref (n0 + 70), .int a1]) hc VS_X11_353 sX_70 rfl rfl rfl ⟨Nat.le_of_ble_eq_true rfl, Nat.le_of_ble_eq_true rfl⟩ (Nat.le_of_ble_eq_true rfl) (fun q h => tX9_worthOf a1 S6 q h) dX11_serves_32 (fun v7 S8 => ?_)
    exact ok_iret hc rfl dX11_serves_35
  · refine ok_bipush (v := (-2)) hc dX11_serves_17 (by decide) ?_
    exact ok_iret hc rfl dX11_serves_19
def fX11_set (a1 : Int32) (a2 : Int32) (S : St) : Option (Int32 × St) :=
  bnd (fX11_within a1 0 4 S) (fun v1 S2 => if v1 = 0 then (some ((-2), S2)) else (if ib a1 5 then (if ib a1 5 then (bnd (fX11_within a2 (tlL (nt a1)) (tlG (nt a1)) S2) (fun v6 S7 => if v6 = 0 then (some ((-2), S7)) else (if ib a1 5 then (lt (S7.1 2 (nt a1)) (fun (v10 : Int32) => if ib a1 5 then lt (wi S7 2 (nt a1) a2) (fun S11 => some (v10, S11)) else none)) else none))) else none) else none))
set_option maxRecDepth 100000 in
set_option maxHeartbeats 4000000 in
theorem tX11_set (a1 : Int32) (a2 : Int32) (S : St) (q : Int32 × St) (h : fX11_set a1 a2 S = some q) : MTz vI wX mX11_set (fun n0 => [.ref (n0 + 0), .int a1, .int a2]) S q := by
  refine mtz_of (show plainFor yX11_set = true from by decide) (fun _ => Nat.le_of_ble_eq_true rfl) ?_
  intro Γ aL aG hc _ ⟨hZL, hZG⟩
  rw [← h]
  show Ok Γ wX 0 [(0, rv Γ 0), (1, .int a1), (2, .int a2)] [] S _
  unfold fX11_set
  refine ok_iload_n 1 hc dX11_set_0 rfl rfl ?_
  refine ok_iconst (v := 0) hc dX11_set_1 (by decide) ?_
  refine ok_iconst (v := 4) hc dX11_set_2 (by decide) ?_
  refine ok_callSi (As := [.int a1, .int 0, .int 4]) (st := []) (fun n0 => [.int a1, .int 0, .int 4]) hc SS_X11_93 rfl rfl rfl ⟨Nat.le_of_ble_eq_true rfl, Nat.le_of_ble_eq_true rfl⟩ (Nat.le_of_ble_eq_true rfl) (fun q h => tX11_within a1 0 4 S q h) dX11_set_3 (fun v1 S2 => ?_)
  refine ok_if_eq_ite 26 hc dX11_set_6 (by decide) (fun h3 => ?_) (fun h3 => ?_)
  · refine ok_bipush (v := (-2)) hc dX11_set_26 (by decide) ?_
    exact ok_iret hc rfl dX11_set_28
  · refine ok_iload_n 2 hc dX11_set_9 rfl rfl ?_
    refine ok_gets hc (hZL.1.narrow (fun q h => h.1)) N_489 dX11_set_10 ?_
    refine ok_iload_n 1 hc dX11_set_13 rfl rfl ?_
    refine ok_sald hc (hZL.2.narrow (fun q h => h.1)) dX11_set_14 (fun h4 => ?_)
    refine ok_gets hc (hZG.1.narrow (fun q h => h.1)) N_491 dX11_set_15 ?_
    refine ok_iload_n 1 hc dX11_set_18 rfl rfl ?_
    refine ok_sald hc (hZG.2.narrow (fun q h => h.1)) dX11_set_19 (fun h5 => ?_)
    refine ok_callSi (As := [.int a2, .int (tlL (nt a1)), .int (tlG (nt a1))]) (st := []) (fun n0 => [.int a2, .int (tlL (nt a1)), .int (tlG (nt a1))]) hc SS_X11_93 rfl rfl rfl ⟨Nat.le_of_ble_eq_true rfl, Nat.le_of_ble_eq_true rfl⟩ (Nat.le_of_ble_eq_true rfl) (fun q h => tX11_within a2 (tlL (nt a1)) (tlG (nt a1)) S2 q h) dX11_set_20 (fun v6 S7 => ?_)
    refine ok_if_ne_ite 29 hc dX11_set_23 (by decide) (fun h8 => ?_) (fun h8 => ?_)
    · refine ok_aload_n 0 hc dX11_set_29 rfl rfl ?_
      refine ok_getr 1 hc FS_X11_10 rfl sX_0 rfl dX11_set_30 ?_
      refine ok_getr 2 hc FS_X11_132 rfl sX_1 rfl dX11_set_33 ?_
      refine ok_iload_n 1 hc dX11_set_36 rfl rfl ?_
      refine ok_iald hc sX_2 dX11_set_37 (fun h9 => ?_)
      refine ok_lti (fun v10 => ?_)
      refine ok_istore_n [(3, .int v10), (0, rv Γ 0), (1, .int a1), (2, .int a2)] hc dX11_set_38 rfl (Nat.le_of_ble_eq_true rfl) rfl ?_
      refine ok_aload_n 1 hc dX11_set_39 rfl rfl ?_
      refine ok_getr 1 hc FS_X11_10 rfl sX_0 rfl dX11_set_40 ?_
      refine ok_getr 2 hc FS_X11_132 rfl sX_1 rfl dX11_set_43 ?_
      refine ok_iload_n 2 hc dX11_set_46 rfl rfl ?_
      refine ok_iload_n 3 hc dX11_set_47 rfl rfl ?_
      refine ok_iast hc sX_2 dX11_set_48 (fun h12 => ?_)
      refine ok_ltS (fun S11 => ?_)
      refine ok_iload_n 0 hc dX11_set_49 rfl rfl ?_
      exact ok_iret hc rfl dX11_set_50
    · refine ok_bipush (v := (-2)) hc dX11_set_26 (by decide) ?_
      exact ok_iret hc rfl dX11_set_28
def fX11_share (a1 : Int32) (S : St) : Option (Int32 × St) :=
  bnd (fX4_isSet a1 S) (fun v1 S2 => if v1 = 0 then (some ((-2), S2)) else (bnd (fX4_prepare a1 S2) (fun _ S4 => bnd (fX4_whole S4) (fun v5 S6 => if ib v5 256 then (if (S6.1 44 (nt v5)) = 0 then (some (0, S6)) else (some (1, S6))) else none))))
set_option maxRecDepth 100000 in
set_option maxHeartbeats 4000000 in
theorem tX11_share (a1 : Int32) (S : St) (q : Int32 × St) (h : fX11_share a1 S = some q) : MT vI wX mX11_share (fun n0 => [.ref (n0 + 0), .int a1]) S q := by
  refine mt_of (show plainFor yX11_share = true from by decide) (fun _ => Nat.le_of_ble_eq_true rfl) ?_
  intro Γ hc _
  rw [← h]
  show Ok Γ wX 0 [(0, rv Γ 0), (1, .int a1)] [] S _
  unfold fX11_share
  refine ok_aload_n 0 hc dX11_share_0 rfl rfl ?_
  refine ok_getr 41 hc FS_X11_46 rfl sX_0 rfl dX11_share_1 ?_
  refine ok_iload_n 1 hc dX11_share_4 rfl rfl ?_
  refine ok_callVi (As := [.int a1]) (st := []) (fun n0 => [.ref (n0 + 41), .int a1]) hc VS_X11_209 sX_41 rfl rfl rfl ⟨Nat.le_of_ble_eq_true rfl, Nat.le_of_ble_eq_true rfl⟩ (Nat.le_of_ble_eq_true rfl) (fun q h => tX4_isSet a1 S q h) dX11_share_5 (fun v1 S2 => ?_)
  refine ok_if_ne_ite 14 hc dX11_share_8 (by decide) (fun h3 => ?_) (fun h3 => ?_)
  · refine ok_aload_n 0 hc dX11_share_14 rfl rfl ?_
    refine ok_getr 41 hc FS_X11_46 rfl sX_0 rfl dX11_share_15 ?_
    refine ok_iload_n 1 hc dX11_share_18 rfl rfl ?_
    refine ok_callVu (As := [.int a1]) (st := []) (fun n0 => [.ref (n0 + 41), .int a1]) hc VS_X11_212 sX_41 rfl rfl rfl ⟨Nat.le_of_ble_eq_true rfl, Nat.le_of_ble_eq_true rfl⟩ (Nat.le_of_ble_eq_true rfl) (fun q h => tX4_prepare a1 S2 q h) dX11_share_19 (fun _ S4 => ?_)
    refine ok_aload_n 0 hc dX11_share_22 rfl rfl ?_
    refine ok_getr 41 hc FS_X11_46 rfl sX_0 rfl dX11_share_23 ?_
    refine ok_getr 44 hc FS_X11_216 rfl sX_41 rfl dX11_share_26 ?_
    refine ok_aload_n 0 hc dX11_share_29 rfl rfl ?_
    refine ok_getr 41 hc FS_X11_46 rfl sX_0 rfl dX11_share_30 ?_
    refine ok_callVi (As := []) (st := [rv Γ 44]) (fun n0 => [.ref (n0 + 41)]) hc VS_X11_220 sX_41 rfl rfl rfl ⟨Nat.le_of_ble_eq_true rfl, Nat.le_of_ble_eq_true rfl⟩ (Nat.le_of_ble_eq_true rfl) (fun q h => tX4_whole S4 q h) dX11_share_33 (fun v5 S6 => ?_)
    refine ok_zald hc sX_44 dX11_share_36 (fun h7 => ?_)
    refine ok_if_eq_ite 44 hc dX11_share_37 (by decide) (fun h8 => ?_) (fun h8 => ?_)
    · refine ok_iconst (v := 0) hc dX11_share_44 (by decide) ?_
      exact ok_iret hc rfl dX11_share_45
    · refine ok_iconst (v := 1) hc dX11_share_40 (by decide) ?_
      refine ok_goto 45 hc dX11_share_41 (by decide) ?_
      exact ok_iret hc rfl dX11_share_45
  · refine ok_bipush (v := (-2)) hc dX11_share_11 (by decide) ?_
    exact ok_iret hc rfl dX11_share_13
def fX11_sheet (a1 : Int32) (a2 : Int32) (a3 : Int32) (S : St) : Option (Int32 × St) :=
  bnd (fX11_isSheet a1 S) (fun v1 S2 => if v1 = 0 then (some ((-2), S2)) else (bnd (fX11_isForm a2 S2) (fun v4 S5 => if v4 = 0 then (some ((-2), S5)) else (if a3 ≤ 400 then (if 0 ≤ a3 then (if ib a1 6 then (bnd (fX6_renew (4 + 2 * nt a1) a2 a3 S5) (fun _ S10 => some (a3, S10))) else none) else (bnd (fX11_found 5 S5) (fun v11 S12 => some (v11, S12)))) else (some ((-2), S5))))))
set_option maxRecDepth 100000 in
set_option maxHeartbeats 4000000 in
theorem tX11_sheet (a1 : Int32) (a2 : Int32) (a3 : Int32) (S : St) (q : Int32 × St) (h : fX11_sheet a1 a2 a3 S = some q) : MT vI wX mX11_sheet (fun n0 => [.ref (n0 + 0), .int a1, .int a2, .int a3]) S q := by
  refine mt_of (show plainFor yX11_sheet = true from by decide) (fun _ => Nat.le_of_ble_eq_true rfl) ?_
  intro Γ hc _
  rw [← h]
  show Ok Γ wX 0 [(0, rv Γ 0), (1, .int a1), (2, .int a2), (3, .int a3)] [] S _
  unfold fX11_sheet
  refine ok_iload_n 1 hc dX11_sheet_0 rfl rfl ?_
  refine ok_callSi (As := [.int a1]) (st := []) (fun n0 => [.int a1]) hc SS_X11_368 rfl rfl rfl ⟨Nat.le_of_ble_eq_true rfl, Nat.le_of_ble_eq_true rfl⟩ (Nat.le_of_ble_eq_true rfl) (fun q h => tX11_isSheet a1 S q h) dX11_sheet_1 (fun v1 S2 => ?_)
  refine ok_if_eq_ite 21 hc dX11_sheet_4 (by decide) (fun h3 => ?_) (fun h3 => ?_)
  · refine ok_bipush (v := (-2)) hc dX11_sheet_21 (by decide) ?_
    exact ok_iret hc rfl dX11_sheet_23
  · refine ok_iload_n 2 hc dX11_sheet_7 rfl rfl ?_
    refine ok_callSi (As := [.int a2]) (st := []) (fun n0 => [.int a2]) hc SS_X11_371 rfl rfl rfl ⟨Nat.le_of_ble_eq_true rfl, Nat.le_of_ble_eq_true rfl⟩ (Nat.le_of_ble_eq_true rfl) (fun q h => tX11_isForm a2 S2 q h) dX11_sheet_8 (fun v4 S5 => ?_)
    refine ok_if_eq_ite 21 hc dX11_sheet_11 (by decide) (fun h6 => ?_) (fun h6 => ?_)
    · refine ok_bipush (v := (-2)) hc dX11_sheet_21 (by decide) ?_
      exact ok_iret hc rfl dX11_sheet_23
    · refine ok_iload_n 3 hc dX11_sheet_14 rfl rfl ?_
      refine ok_sipush (v := 400) hc dX11_sheet_15 (by decide) ?_
      refine ok_icmp_le_ite 24 hc dX11_sheet_18 (by decide) (fun h7 => ?_) (fun h7 => ?_)
      · refine ok_iload_n 3 hc dX11_sheet_24 rfl rfl ?_
        refine ok_if_ge_ite 34 hc dX11_sheet_25 (by decide) (fun h8 => ?_) (fun h8 => ?_)
        · refine ok_aload_n 0 hc dX11_sheet_34 rfl rfl ?_
          refine ok_getr 3 hc FS_X11_18 rfl sX_0 rfl dX11_sheet_35 ?_
          refine ok_iload_n 1 hc dX11_sheet_38 rfl rfl ?_
          refine ok_aald (fun j => 4 + 2 * j) "AirParted$Sheet" hc sX_3 rfl sht_rf dX11_sheet_39 (fun h9 => ?_)
          show Ok Γ wX 40 [(0, rv Γ 0), (1, .int a1), (2, .int a2), (3, .int a3)] (rv Γ (4 + 2 * nt a1) :: []) S5 _
          refine ok_iload_n 2 hc dX11_sheet_40 rfl rfl ?_
          refine ok_iload_n 3 hc dX11_sheet_41 rfl rfl ?_
          refine ok_callVu (As := [.int a2, .int a3]) (st := []) (fun n0 => [.ref (n0 + (4 + 2 * nt a1)), .int a2, .int a3]) hc VS_X11_377 (sht_ob h9) rfl rfl rfl ⟨Nat.le_of_ble_eq_true rfl, Nat.le_of_ble_eq_true rfl⟩ (Nat.le_of_ble_eq_true rfl) (fun q h => tX6_renew (4 + 2 * nt a1) a2 a3 (sht_ob h9) S5 q h) dX11_sheet_42 (fun _ S10 => ?_)
          refine ok_iload_n 3 hc dX11_sheet_45 rfl rfl ?_
          exact ok_iret hc rfl dX11_sheet_46
        · refine ok_aload_n 0 hc dX11_sheet_28 rfl rfl ?_
          refine ok_iconst (v := 5) hc dX11_sheet_29 (by decide) ?_
          refine ok_callVi (As := [.int 5]) (st := []) (fun n0 => [.ref (n0 + 0), .int 5]) hc VS_X11_374 sX_0 rfl rfl rfl ⟨Nat.le_of_ble_eq_true rfl, Nat.le_of_ble_eq_true rfl⟩ (Nat.le_of_ble_eq_true rfl) (fun q h => tX11_found 5 S5 q h) dX11_sheet_30 (fun v11 S12 => ?_)
          exact ok_iret hc rfl dX11_sheet_33
      · refine ok_bipush (v := (-2)) hc dX11_sheet_21 (by decide) ?_
        exact ok_iret hc rfl dX11_sheet_23
def fX11_site (a1 : Int32) (a2 : Int32) (a3 : Int32) (a4 : Int32) (a5 : Int32) (a6 : Int32) (S : St) : Option (Int32 × St) :=
  bnd (fX2_isCell a1.toInt64 S) (fun v1 S2 => if v1 = 0 then (some ((-2), S2)) else (bnd (fX11_within a2 0 20 S2) (fun v4 S5 => if v4 = 0 then (some ((-2), S5)) else (bnd (fX11_within a3 1 1000000 S5) (fun v7 S8 => if v7 = 0 then (some ((-2), S8)) else (bnd (fX11_within a4 1 1000000 S8) (fun v10 S11 => if v10 = 0 then (some ((-2), S11)) else (if a3 < a4 then (bnd (fX11_within a5 1 1000 S11) (fun v14 S15 => if v14 = 0 then (some ((-2), S15)) else (bnd (fX11_within a6 1 1000 S15) (fun v17 S18 => if v17 = 0 then (some ((-2), S18)) else (if a5 ≤ a6 then (if (S18.1 70 9) < 6 then (bnd (fX9_addSite a1 a2 a3 a4 a5 a6 S18) (fun v22 S23 => some (v22, S23))) else (some ((-4), S18))) else (some ((-2), S18))))))) else (some ((-2), S11))))))))))
set_option maxRecDepth 100000 in
set_option maxHeartbeats 4000000 in
theorem tX11_site (a1 : Int32) (a2 : Int32) (a3 : Int32) (a4 : Int32) (a5 : Int32) (a6 : Int32) (S : St) (q : Int32 × St) (h : fX11_site a1 a2 a3 a4 a5 a6 S = some q) : MT vI wX mX11_site (fun n0 => [.ref (n0 + 0), .int a1, .int a2, .int a3, .int a4, .int a5, .int a6]) S q := by
  refine mt_of (show plainFor yX11_site = true from by decide) (fun _ => Nat.le_of_ble_eq_true rfl) ?_
  intro Γ hc _
  rw [← h]
  show Ok Γ wX 0 [(0, rv Γ 0), (1, .int a1), (2, .int a2), (3, .int a3), (4, .int a4), (5, .int a5), (6, .int a6)] [] S _
  unfold fX11_site
  refine ok_aload_n 0 hc dX11_site_0 rfl rfl ?_
  refine ok_getr 16 hc FS_X11_28 rfl sX_0 rfl dX11_site_1 ?_
  refine ok_iload_n 1 hc dX11_site_4 rfl rfl ?_
  refine ok_i2l hc dX11_site_5 ?_
  refine ok_callVi (As := [.long a1.toInt64]) (st := []) (fun n0 => [.ref (n0 + 16), .long a1.toInt64]) hc VS_X11_114 sX_16 rfl rfl rfl ⟨Nat.le_of_ble_eq_true rfl, Nat.le_of_ble_eq_true rfl⟩ (Nat.le_of_ble_eq_true rfl) (fun q h => tX2_isCell a1.toInt64 S q h) dX11_site_6 (fun v1 S2 => ?_)
  refine ok_if_eq_ite 22 hc dX11_site_9 (by decide) (fun h3 => ?_) (fun h3 => ?_)
  · refine ok_bipush (v := (-2)) hc dX11_site_22 (by decide) ?_
    exact ok_iret hc rfl dX11_site_24
  · refine ok_iload_n 2 hc dX11_site_12 rfl rfl ?_
    refine ok_iconst (v := 0) hc dX11_site_13 (by decide) ?_
    refine ok_bipush (v := 20) hc dX11_site_14 (by decide) ?_
    refine ok_callSi (As := [.int a2, .int 0, .int 20]) (st := []) (fun n0 => [.int a2, .int 0, .int 20]) hc SS_X11_93 rfl rfl rfl ⟨Nat.le_of_ble_eq_true rfl, Nat.le_of_ble_eq_true rfl⟩ (Nat.le_of_ble_eq_true rfl) (fun q h => tX11_within a2 0 20 S2 q h) dX11_site_16 (fun v4 S5 => ?_)
    refine ok_if_ne_ite 25 hc dX11_site_19 (by decide) (fun h6 => ?_) (fun h6 => ?_)
    · refine ok_iload_n 3 hc dX11_site_25 rfl rfl ?_
      refine ok_iconst (v := 1) hc dX11_site_26 (by decide) ?_
      refine ok_ldc hc dX11_site_27 W_521 ?_
      refine ok_callSi (As := [.int a3, .int 1, .int 1000000]) (st := []) (fun n0 => [.int a3, .int 1, .int 1000000]) hc SS_X11_93 rfl rfl rfl ⟨Nat.le_of_ble_eq_true rfl, Nat.le_of_ble_eq_true rfl⟩ (Nat.le_of_ble_eq_true rfl) (fun q h => tX11_within a3 1 1000000 S5 q h) dX11_site_29 (fun v7 S8 => ?_)
      refine ok_if_eq_ite 52 hc dX11_site_32 (by decide) (fun h9 => ?_) (fun h9 => ?_)
      · refine ok_bipush (v := (-2)) hc dX11_site_52 (by decide) ?_
        exact ok_iret hc rfl dX11_site_54
      · refine ok_iload 4 hc dX11_site_35 rfl ?_
        refine ok_iconst (v := 1) hc dX11_site_37 (by decide) ?_
        refine ok_ldc hc dX11_site_38 W_521 ?_
        refine ok_callSi (As := [.int a4, .int 1, .int 1000000]) (st := []) (fun n0 => [.int a4, .int 1, .int 1000000]) hc SS_X11_93 rfl rfl rfl ⟨Nat.le_of_ble_eq_true rfl, Nat.le_of_ble_eq_true rfl⟩ (Nat.le_of_ble_eq_true rfl) (fun q h => tX11_within a4 1 1000000 S8 q h) dX11_site_40 (fun v10 S11 => ?_)
        refine ok_if_eq_ite 52 hc dX11_site_43 (by decide) (fun h12 => ?_) (fun h12 => ?_)
        · refine ok_bipush (v := (-2)) hc dX11_site_52 (by decide) ?_
          exact ok_iret hc rfl dX11_site_54
        · refine ok_iload_n 3 hc dX11_site_46 rfl rfl ?_
          refine ok_iload 4 hc dX11_site_47 rfl ?_
          refine ok_icmp_lt_ite 55 hc dX11_site_49 (by decide) (fun h13 => ?_) (fun h13 => ?_)
          · refine ok_iload 5 hc dX11_site_55 rfl ?_
            refine ok_iconst (v := 1) hc dX11_site_57 (by decide) ?_
            refine ok_sipush (v := 1000) hc dX11_site_58 (by decide) ?_
            refine ok_callSi (As := [.int a5, .int 1, .int 1000]) (st := []) (fun n0 => [.int a5, .int 1, .int 1000]) hc SS_X11_93 rfl rfl rfl ⟨Nat.le_of_ble_eq_true rfl, Nat.le_of_ble_eq_true rfl⟩ (Nat.le_of_ble_eq_true rfl) (fun q h => tX11_within a5 1 1000 S11 q h) dX11_site_61 (fun v14 S15 => ?_)
            refine ok_if_eq_ite 86 hc dX11_site_64 (by decide) (fun h16 => ?_) (fun h16 => ?_)
            · refine ok_bipush (v := (-2)) hc dX11_site_86 (by decide) ?_
              exact ok_iret hc rfl dX11_site_88
            · refine ok_iload 6 hc dX11_site_67 rfl ?_
              refine ok_iconst (v := 1) hc dX11_site_69 (by decide) ?_
              refine ok_sipush (v := 1000) hc dX11_site_70 (by decide) ?_
              refine ok_callSi (As := [.int a6, .int 1, .int 1000]) (st := []) (fun n0 => [.int a6, .int 1, .int 1000]) hc SS_X11_93 rfl rfl rfl ⟨Nat.le_of_ble_eq_true rfl, Nat.le_of_ble_eq_true rfl⟩ (Nat.le_of_ble_eq_true rfl) (fun q h => tX11_within a6 1 1000 S15 q h) dX11_site_73 (fun v17 S18 => ?_)
              refine ok_if_eq_ite 86 hc dX11_site_76 (by decide) (fun h19 => ?_) (fun h19 => ?_)
              · refine ok_bipush (v := (-2)) hc dX11_site_86 (by decide) ?_
                exact ok_iret hc rfl dX11_site_88
              · refine ok_iload 5 hc dX11_site_79 rfl ?_
                refine ok_iload 6 hc dX11_site_81 rfl ?_
                refine ok_icmp_le_ite 89 hc dX11_site_83 (by decide) (fun h20 => ?_) (fun h20 => ?_)
                · refine ok_aload_n 0 hc dX11_site_89 rfl rfl ?_
                  refine ok_getr 70 hc FS_X11_85 rfl sX_0 rfl dX11_site_90 ?_
                  refine ok_geti hc FS_X11_102 rfl sX_70 dX11_site_93 ?_
                  refine ok_bipush (v := 6) hc dX11_site_96 (by decide) ?_
                  refine ok_icmp_lt_ite 104 hc dX11_site_98 (by decide) (fun h21 => ?_) (fun h21 => ?_)
                  · refine ok_aload_n 0 hc dX11_site_104 rfl rfl ?_
                    refine ok_getr 70 hc FS_X11_85 rfl sX_0 rfl dX11_site_105 ?_
                    refine ok_iload_n 1 hc dX11_site_108 rfl rfl ?_
                    refine ok_iload_n 2 hc dX11_site_109 rfl rfl ?_
                    refine ok_iload_n 3 hc dX11_site_110 rfl rfl ?_
                    refine ok_iload 4 hc dX11_site_111 rfl ?_
                    refine ok_iload 5 hc dX11_site_113 rfl ?_
                    refine ok_iload 6 hc dX11_site_115 rfl ?_
                    refine ok_callVi (As := [.int a1, .int a2, .int a3, .int a4, .int a5, .int a6]) (st := []) (fun n0 => [.ref (n0 + 70), .int a1, .int a2, .int a3, .int a4, .int a5, .int a6]) hc VS_X11_340 sX_70 rfl rfl rfl ⟨Nat.le_of_ble_eq_true rfl, Nat.le_of_ble_eq_true rfl⟩ (Nat.le_of_ble_eq_true rfl) (fun q h => tX9_addSite a1 a2 a3 a4 a5 a6 S18 q h) dX11_site_117 (fun v22 S23 => ?_)
                    exact ok_iret hc rfl dX11_site_120
                  · refine ok_bipush (v := (-4)) hc dX11_site_101 (by decide) ?_
                    exact ok_iret hc rfl dX11_site_103
                · refine ok_bipush (v := (-2)) hc dX11_site_86 (by decide) ?_
                  exact ok_iret hc rfl dX11_site_88
          · refine ok_bipush (v := (-2)) hc dX11_site_52 (by decide) ?_
            exact ok_iret hc rfl dX11_site_54
    · refine ok_bipush (v := (-2)) hc dX11_site_22 (by decide) ?_
      exact ok_iret hc rfl dX11_site_24
def fX11_spoke (a1 : Int32) (a2 : Int32) (S : St) : Option (Int32 × St) :=
  bnd (fX0_has a1 S) (fun v1 S2 => if v1 = 0 then (some ((-2), S2)) else (bnd (fX11_within a2 0 2 S2) (fun v4 S5 => if v4 = 0 then (some ((-2), S5)) else (if a2 = 0 then (if ib a1 20 then (some (S5.1 53 (nt a1), S5)) else none) else (if a2 = 1 then (if ib a1 20 then (some (S5.1 54 (nt a1), S5)) else none) else (if ib a1 20 then (some (S5.1 55 (nt a1), S5)) else none))))))
set_option maxRecDepth 100000 in
set_option maxHeartbeats 4000000 in
theorem tX11_spoke (a1 : Int32) (a2 : Int32) (S : St) (q : Int32 × St) (h : fX11_spoke a1 a2 S = some q) : MT vI wX mX11_spoke (fun n0 => [.ref (n0 + 0), .int a1, .int a2]) S q := by
  refine mt_of (show plainFor yX11_spoke = true from by decide) (fun _ => Nat.le_of_ble_eq_true rfl) ?_
  intro Γ hc _
  rw [← h]
  show Ok Γ wX 0 [(0, rv Γ 0), (1, .int a1), (2, .int a2)] [] S _
  unfold fX11_spoke
  refine ok_aload_n 0 hc dX11_spoke_0 rfl rfl ?_
  refine ok_getr 17 hc FS_X11_37 rfl sX_0 rfl dX11_spoke_1 ?_
  refine ok_iload_n 1 hc dX11_spoke_4 rfl rfl ?_
  refine ok_callVi (As := [.int a1]) (st := []) (fun n0 => [.ref (n0 + 17), .int a1]) hc VS_X11_167 sX_17 rfl rfl rfl ⟨Nat.le_of_ble_eq_true rfl, Nat.le_of_ble_eq_true rfl⟩ (Nat.le_of_ble_eq_true rfl) (fun q h => tX0_has a1 S q h) dX11_spoke_5 (fun v1 S2 => ?_)
  refine ok_if_eq_ite 20 hc dX11_spoke_8 (by decide) (fun h3 => ?_) (fun h3 => ?_)
  · refine ok_bipush (v := (-2)) hc dX11_spoke_20 (by decide) ?_
    exact ok_iret hc rfl dX11_spoke_22
  · refine ok_iload_n 2 hc dX11_spoke_11 rfl rfl ?_
    refine ok_iconst (v := 0) hc dX11_spoke_12 (by decide) ?_
    refine ok_iconst (v := 2) hc dX11_spoke_13 (by decide) ?_
    refine ok_callSi (As := [.int a2, .int 0, .int 2]) (st := []) (fun n0 => [.int a2, .int 0, .int 2]) hc SS_X11_93 rfl rfl rfl ⟨Nat.le_of_ble_eq_true rfl, Nat.le_of_ble_eq_true rfl⟩ (Nat.le_of_ble_eq_true rfl) (fun q h => tX11_within a2 0 2 S2 q h) dX11_spoke_14 (fun v4 S5 => ?_)
    refine ok_if_ne_ite 23 hc dX11_spoke_17 (by decide) (fun h6 => ?_) (fun h6 => ?_)
    · refine ok_iload_n 2 hc dX11_spoke_23 rfl rfl ?_
      refine ok_if_ne_ite 37 hc dX11_spoke_24 (by decide) (fun h7 => ?_) (fun h7 => ?_)
      · refine ok_iload_n 2 hc dX11_spoke_37 rfl rfl ?_
        refine ok_iconst (v := 1) hc dX11_spoke_38 (by decide) ?_
        refine ok_icmp_ne_ite 54 hc dX11_spoke_39 (by decide) (fun h8 => ?_) (fun h8 => ?_)
        · refine ok_aload_n 0 hc dX11_spoke_54 rfl rfl ?_
          refine ok_getr 48 hc FS_X11_53 rfl sX_0 rfl dX11_spoke_55 ?_
          refine ok_getr 55 hc FS_X11_279 rfl sX_48 rfl dX11_spoke_58 ?_
          refine ok_iload_n 1 hc dX11_spoke_61 rfl rfl ?_
          refine ok_iald hc sX_55 dX11_spoke_62 (fun h9 => ?_)
          exact ok_iret hc rfl dX11_spoke_63
        · refine ok_aload_n 0 hc dX11_spoke_42 rfl rfl ?_
          refine ok_getr 48 hc FS_X11_53 rfl sX_0 rfl dX11_spoke_43 ?_
          refine ok_getr 54 hc FS_X11_276 rfl sX_48 rfl dX11_spoke_46 ?_
          refine ok_iload_n 1 hc dX11_spoke_49 rfl rfl ?_
          refine ok_iald hc sX_54 dX11_spoke_50 (fun h10 => ?_)
          refine ok_goto 63 hc dX11_spoke_51 (by decide) ?_
          exact ok_iret hc rfl dX11_spoke_63
      · refine ok_aload_n 0 hc dX11_spoke_27 rfl rfl ?_
        refine ok_getr 48 hc FS_X11_53 rfl sX_0 rfl dX11_spoke_28 ?_
        refine ok_getr 53 hc FS_X11_273 rfl sX_48 rfl dX11_spoke_31 ?_
        refine ok_iload_n 1 hc dX11_spoke_34 rfl rfl ?_
        refine ok_iald hc sX_53 dX11_spoke_35 (fun h11 => ?_)
        exact ok_iret hc rfl dX11_spoke_36
    · refine ok_bipush (v := (-2)) hc dX11_spoke_20 (by decide) ?_
      exact ok_iret hc rfl dX11_spoke_22
def fX11_type (a1 : Int32) (S : St) : Option (Int32 × St) :=
  bnd (fX11_within a1 0 255 S) (fun v1 S2 => if v1 = 0 then (some ((-2), S2)) else (if (S2.1 59 7) < 120 then (bnd (fX7_append a1 S2) (fun v5 S6 => some (v5, S6))) else (some ((-4), S2))))
set_option maxRecDepth 100000 in
set_option maxHeartbeats 4000000 in
theorem tX11_type (a1 : Int32) (S : St) (q : Int32 × St) (h : fX11_type a1 S = some q) : MT vI wX mX11_type (fun n0 => [.ref (n0 + 0), .int a1]) S q := by
  refine mt_of (show plainFor yX11_type = true from by decide) (fun _ => Nat.le_of_ble_eq_true rfl) ?_
  intro Γ hc _
  rw [← h]
  show Ok Γ wX 0 [(0, rv Γ 0), (1, .int a1)] [] S _
  unfold fX11_type
  refine ok_iload_n 1 hc dX11_type_0 rfl rfl ?_
  refine ok_iconst (v := 0) hc dX11_type_1 (by decide) ?_
  refine ok_sipush (v := 255) hc dX11_type_2 (by decide) ?_
  refine ok_callSi (As := [.int a1, .int 0, .int 255]) (st := []) (fun n0 => [.int a1, .int 0, .int 255]) hc SS_X11_93 rfl rfl rfl ⟨Nat.le_of_ble_eq_true rfl, Nat.le_of_ble_eq_true rfl⟩ (Nat.le_of_ble_eq_true rfl) (fun q h => tX11_within a1 0 255 S q h) dX11_type_5 (fun v1 S2 => ?_)
  refine ok_if_ne_ite 14 hc dX11_type_8 (by decide) (fun h3 => ?_) (fun h3 => ?_)
  · refine ok_aload_n 0 hc dX11_type_14 rfl rfl ?_
    refine ok_getr 59 hc FS_X11_67 rfl sX_0 rfl dX11_type_15 ?_
    refine ok_geti hc FS_X11_295 rfl sX_59 dX11_type_18 ?_
    refine ok_bipush (v := 120) hc dX11_type_21 (by decide) ?_
    refine ok_icmp_lt_ite 31 hc dX11_type_23 (by decide) (fun h4 => ?_) (fun h4 => ?_)
    · refine ok_aload_n 0 hc dX11_type_31 rfl rfl ?_
      refine ok_getr 59 hc FS_X11_67 rfl sX_0 rfl dX11_type_32 ?_
      refine ok_iload_n 1 hc dX11_type_35 rfl rfl ?_
      refine ok_callVi (As := [.int a1]) (st := []) (fun n0 => [.ref (n0 + 59), .int a1]) hc VS_X11_298 sX_59 rfl rfl rfl ⟨Nat.le_of_ble_eq_true rfl, Nat.le_of_ble_eq_true rfl⟩ (Nat.le_of_ble_eq_true rfl) (fun q h => tX7_append a1 S2 q h) dX11_type_36 (fun v5 S6 => ?_)
      exact ok_iret hc rfl dX11_type_39
    · refine ok_bipush (v := (-4)) hc dX11_type_26 (by decide) ?_
      refine ok_goto 39 hc dX11_type_28 (by decide) ?_
      exact ok_iret hc rfl dX11_type_39
  · refine ok_bipush (v := (-2)) hc dX11_type_11 (by decide) ?_
    exact ok_iret hc rfl dX11_type_13
def fX11_wipe (S : St) : Option (Int32 × St) :=
  lt (wi S 59 7 0) (fun S1 => some (S.1 59 7, S1))
set_option maxRecDepth 100000 in
set_option maxHeartbeats 4000000 in
theorem tX11_wipe (S : St) (q : Int32 × St) (h : fX11_wipe S = some q) : MT vI wX mX11_wipe (fun n0 => [.ref (n0 + 0)]) S q := by
  refine mt_of (show plainFor yX11_wipe = true from by decide) (fun _ => Nat.le_of_ble_eq_true rfl) ?_
  intro Γ hc _
  rw [← h]
  show Ok Γ wX 0 [(0, rv Γ 0)] [] S _
  unfold fX11_wipe
  refine ok_aload_n 0 hc dX11_wipe_0 rfl rfl ?_
  refine ok_getr 59 hc FS_X11_67 rfl sX_0 rfl dX11_wipe_1 ?_
  refine ok_geti hc FS_X11_295 rfl sX_59 dX11_wipe_4 ?_
  refine ok_istore_n [(1, .int (S.1 59 7)), (0, rv Γ 0)] hc dX11_wipe_7 rfl (Nat.le_of_ble_eq_true rfl) rfl ?_
  refine ok_aload_n 1 hc dX11_wipe_8 rfl rfl ?_
  refine ok_getr 59 hc FS_X11_67 rfl sX_0 rfl dX11_wipe_9 ?_
  refine ok_iconst (v := 0) hc dX11_wipe_12 (by decide) ?_
  refine ok_puti hc FP_X11_295 rfl sX_59 dX11_wipe_13 ?_
  refine ok_ltS (fun S1 => ?_)
  refine ok_iload_n 0 hc dX11_wipe_16 rfl rfl ?_
  exact ok_iret hc rfl dX11_wipe_17
def fX11_won (S : St) : Option (Int32 × St) :=
  bnd (fX1_winners 0 S) (fun v1 S2 => some (v1, S2))
set_option maxRecDepth 100000 in
set_option maxHeartbeats 4000000 in
theorem tX11_won (S : St) (q : Int32 × St) (h : fX11_won S = some q) : MT vI wX mX11_won (fun n0 => [.ref (n0 + 0)]) S q := by
  refine mt_of (show plainFor yX11_won = true from by decide) (fun _ => Nat.le_of_ble_eq_true rfl) ?_
  intro Γ hc _
  rw [← h]
  show Ok Γ wX 0 [(0, rv Γ 0)] [] S _
  unfold fX11_won
  refine ok_aload_n 0 hc dX11_won_0 rfl rfl ?_
  refine ok_getr 56 hc FS_X11_60 rfl sX_0 rfl dX11_won_1 ?_
  refine ok_iconst (v := 0) hc dX11_won_4 (by decide) ?_
  refine ok_callVi (As := [.int 0]) (st := []) (fun n0 => [.ref (n0 + 56), .int 0]) hc VS_X11_289 sX_56 rfl rfl rfl ⟨Nat.le_of_ble_eq_true rfl, Nat.le_of_ble_eq_true rfl⟩ (Nat.le_of_ble_eq_true rfl) (fun q h => tX1_winners 0 S q h) dX11_won_5 (fun v1 S2 => ?_)
  exact ok_iret hc rfl dX11_won_8
