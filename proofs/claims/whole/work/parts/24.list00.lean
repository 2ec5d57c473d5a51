def fX3_gather_L7_st (kx0 : St → Option (Unit × St)) (a1 : Int32) (rec : Int32 → St → Option (Unit × St)) (a2 : Int32) (S : St) : Option (Unit × St) :=
  if (S.1 17 6) ≤ a2 then (kx0 S) else (if ib a2 20 then (jn (fun (S3 : St) => rec (a2 + 1) S3) (fun k4 => if (S.1 (19 + nt a2) 10) = 0 then (k4 S) else (if (S.1 (19 + nt a2) 0) = 3 then (if (S.1 (19 + nt a2) 7) = a1 then (if ib (S.1 48 9) 20 then lt (wi S 49 (nt (S.1 48 9)) a2) (fun S8 => lt (wi S8 48 9 ((S8.1 48 9) + 1)) (fun S10 => k4 S10)) else none) else (k4 S)) else (k4 S)))) else none)
def fX3_gather_L7 (kx0 : St → Option (Unit × St)) (a1 : Int32) : Nat → Int32 → St → Option (Unit × St)
  | 0 => fun _ _ => none
  | n + 1 => fun a2 S => fX3_gather_L7_st kx0 a1 (fX3_gather_L7 kx0 a1 n) a2 S
def fX3_gather_L105_st (kx0 : St → Option (Unit × St)) (a2 : Int32) (q3 : Nat) (rec : Int32 → St → Option (Unit × St)) (a4 : Int32) (S : St) : Option (Unit × St) :=
  if (S.1 48 9) ≤ a4 then (kx0 S) else (if ib a4 20 then (bnd (fX0_gotAt (S.1 49 (nt a4)) (S.1 q3 1) 0 S) (fun v3 S4 => if ib ((a2 * 20) + a4) 400 then lt (wi S4 50 (nt ((a2 * 20) + a4)) v3) (fun S5 => if ib a4 20 then (bnd (fX0_gotAt (S5.1 49 (nt a4)) (S5.1 q3 5) 0 S5) (fun v8 S9 => if ib ((a2 * 20) + a4) 400 then lt (wi S9 51 (nt ((a2 * 20) + a4)) v8) (fun S10 => rec (a4 + 1) S10) else none)) else none) else none)) else none)
def fX3_gather_L105 (kx0 : St → Option (Unit × St)) (a2 : Int32) (q3 : Nat) : Nat → Int32 → St → Option (Unit × St)
  | 0 => fun _ _ => none
  | n + 1 => fun a4 S => fX3_gather_L105_st kx0 a2 q3 (fX3_gather_L105 kx0 a2 q3 n) a4 S
def fX3_gather_L79_st (rec : Int32 → St → Option (Unit × St)) (a2 : Int32) (S : St) : Option (Unit × St) :=
  if (S.1 48 9) ≤ a2 then (some ((), S)) else (if ib a2 20 then (if ib (S.1 49 (nt a2)) 20 then (fX3_gather_L105 (fun (S4 : St) => rec (a2 + 1) S4) a2 (19 + nt (S.1 49 (nt a2))) FU 0 S) else none) else none)
def fX3_gather_L79 : Nat → Int32 → St → Option (Unit × St)
  | 0 => fun _ _ => none
  | n + 1 => fun a2 S => fX3_gather_L79_st (fX3_gather_L79 n) a2 S
def fX3_gather (a1 : Int32) (S : St) : Option (Unit × St) :=
  lt (wi S 48 9 0) (fun S1 => fX3_gather_L7 (fun (S2 : St) => fX3_gather_L79 FU 0 S2) a1 FU 0 S1)
set_option maxRecDepth 100000 in
set_option maxHeartbeats 4000000 in
theorem tX3_gather_L7 {Γ : Cx Unit} (hc : Cok Γ wX vU mX3_gather) (kx0 : St → Option (Unit × St)) (a1 : Int32) (hx0 : ∀ (S : St), Ok Γ wX 77 [(0, rv Γ 48)] [] S (kx0 S)) : ∀ (n : Nat) (a2 : Int32) (S : St), Ok Γ wX 7 [(0, rv Γ 48), (1, .int a1), (2, .int a2)] [] S (fX3_gather_L7 kx0 a1 n a2 S) := by
  intro n
  induction n with
  | zero =>
    intro a2 S
    exact ok_none
  | succ n ih =>
    intro a2 S
    show Ok Γ wX 7 [(0, rv Γ 48), (1, .int a1), (2, .int a2)] [] S (fX3_gather_L7_st kx0 a1 (fX3_gather_L7 kx0 a1 n) a2 S)
    unfold fX3_gather_L7_st
    refine ok_iload_n 2 hc dX3_gather_7 rfl rfl ?_
    refine ok_aload_n 0 hc dX3_gather_8 rfl rfl ?_
    refine ok_getr 17 hc FS_X3_13 rfl sX_48 rfl dX3_gather_9 ?_
    refine ok_geti hc FS_X3_45 rfl sX_17 dX3_gather_12 ?_
    refine ok_icmp_ge_ite 77 hc dX3_gather_15 (by decide) (fun h1 => ?_) (fun h1 => ?_)
    · refine ok_sub [0] rfl ?_
      exact hx0 _
    · refine ok_aload_n 0 hc dX3_gather_18 rfl rfl ?_
      refine ok_getr 17 hc FS_X3_13 rfl sX_48 rfl dX3_gather_19 ?_
      refine ok_getr 18 hc FS_X3_46 rfl sX_17 rfl dX3_gather_22 ?_
      refine ok_iload_n 2 hc dX3_gather_25 rfl rfl ?_
      refine ok_aald (fun j => 19 + j) "AirParted$Sender" hc sX_18 rfl snd_rf dX3_gather_26 (fun h2 => ?_)
      show Ok Γ wX 27 [(0, rv Γ 48), (1, .int a1), (2, .int a2)] (rv Γ (19 + nt a2) :: []) S _
      refine ok_astore_n [(3, rv Γ (19 + nt a2)), (0, rv Γ 48), (1, .int a1), (2, .int a2)] hc dX3_gather_27 rfl (Nat.le_of_ble_eq_true rfl) rfl ?_
      refine ok_aload_n 0 hc dX3_gather_28 rfl rfl ?_
      refine ok_geti hc FS_X3_50 rfl (snd_ob h2) dX3_gather_29 ?_
      refine ok_jn (fun g => ∀ (S3 : St), Ok Γ wX 71 [(0, rv Γ 48), (1, .int a1), (2, .int a2)] [] S3 (g S3)) ?_ (fun k4 hk4 => ?_)
      · intro S3
        refine ok_iinc (v := 1) 2 [(2, .int (a2 + 1)), (0, rv Γ 48), (1, .int a1)] hc dX3_gather_71 rfl (by decide) (Nat.le_of_ble_eq_true rfl) rfl ?_
        refine ok_goto 7 hc dX3_gather_74 (by decide) ?_
        refine ok_sub [1, 2, 0] rfl ?_
        exact ih _ _
      · refine ok_if_eq_ite 71 hc dX3_gather_32 (by decide) (fun h5 => ?_) (fun h5 => ?_)
        · refine ok_sub [1, 2, 3] rfl ?_
          exact hk4 _
        · refine ok_aload_n 0 hc dX3_gather_35 rfl rfl ?_
          refine ok_geti hc FS_X3_56 rfl (snd_ob h2) dX3_gather_36 ?_
          refine ok_iconst (v := 3) hc dX3_gather_39 (by decide) ?_
          refine ok_icmp_ne_ite 71 hc dX3_gather_40 (by decide) (fun h6 => ?_) (fun h6 => ?_)
          · refine ok_sub [1, 2, 3] rfl ?_
            exact hk4 _
          · refine ok_aload_n 0 hc dX3_gather_43 rfl rfl ?_
            refine ok_geti hc FS_X3_59 rfl (snd_ob h2) dX3_gather_44 ?_
            refine ok_iload_n 2 hc dX3_gather_47 rfl rfl ?_
            refine ok_icmp_ne_ite 71 hc dX3_gather_48 (by decide) (fun h7 => ?_) (fun h7 => ?_)
            · refine ok_sub [1, 2, 3] rfl ?_
              exact hk4 _
            · refine ok_aload_n 1 hc dX3_gather_51 rfl rfl ?_
              refine ok_getr 49 hc FS_X3_19 rfl sX_48 rfl dX3_gather_52 ?_
              refine ok_aload_n 1 hc dX3_gather_55 rfl rfl ?_
              refine ok_geti hc FS_X3_41 rfl sX_48 dX3_gather_56 ?_
              refine ok_iload_n 3 hc dX3_gather_59 rfl rfl ?_
              refine ok_iast hc sX_49 dX3_gather_60 (fun h9 => ?_)
              refine ok_ltS (fun S8 => ?_)
              refine ok_aload_n 1 hc dX3_gather_61 rfl rfl ?_
              refine ok_dup hc dX3_gather_62 rfl ?_
              refine ok_geti hc FS_X3_41 rfl sX_48 dX3_gather_63 ?_
              refine ok_iconst (v := 1) hc dX3_gather_66 (by decide) ?_
              refine ok_iadd hc dX3_gather_67 ?_
              refine ok_puti hc FP_X3_41 rfl sX_48 dX3_gather_68 ?_
              refine ok_ltS (fun S10 => ?_)
              refine ok_sub [1, 2, 3] rfl ?_
              exact hk4 _
set_option maxRecDepth 100000 in
set_option maxHeartbeats 4000000 in
theorem tX3_gather_L105 {Γ : Cx Unit} (hc : Cok Γ wX vU mX3_gather) (kx0 : St → Option (Unit × St)) (a2 : Int32) (q3 : Nat) (hq3 : Iob wX q3 5 11) (hx0 : ∀ (S : St), Ok Γ wX 182 [(0, rv Γ 48), (2, .int a2)] [] S (kx0 S)) : ∀ (n : Nat) (a4 : Int32) (S : St), Ok Γ wX 105 [(0, rv Γ 48), (2, .int a2), (3, rv Γ q3), (4, .int a4)] [] S (fX3_gather_L105 kx0 a2 q3 n a4 S) := by
  intro n
  induction n with
  | zero =>
    intro a4 S
    exact ok_none
  | succ n ih =>
    intro a4 S
    show Ok Γ wX 105 [(0, rv Γ 48), (2, .int a2), (3, rv Γ q3), (4, .int a4)] [] S (fX3_gather_L105_st kx0 a2 q3 (fX3_gather_L105 kx0 a2 q3 n) a4 S)
    unfold fX3_gather_L105_st
    refine ok_iload 3 hc dX3_gather_105 rfl ?_
    refine ok_aload_n 0 hc dX3_gather_107 rfl rfl ?_
    refine ok_geti hc FS_X3_41 rfl sX_48 dX3_gather_108 ?_
    refine ok_icmp_ge_ite 182 hc dX3_gather_111 (by decide) (fun h1 => ?_) (fun h1 => ?_)
    · refine ok_sub [0, 1] rfl ?_
      exact hx0 _
    · refine ok_aload_n 0 hc dX3_gather_114 rfl rfl ?_
      refine ok_getr 50 hc FS_X3_23 rfl sX_48 rfl dX3_gather_115 ?_
      refine ok_iload_n 1 hc dX3_gather_118 rfl rfl ?_
      refine ok_bipush (v := 20) hc dX3_gather_119 (by decide) ?_
      refine ok_imul hc dX3_gather_121 ?_
      refine ok_iload 3 hc dX3_gather_122 rfl ?_
      refine ok_iadd hc dX3_gather_124 ?_
      refine ok_aload_n 0 hc dX3_gather_125 rfl rfl ?_
      refine ok_getr 17 hc FS_X3_13 rfl sX_48 rfl dX3_gather_126 ?_
      refine ok_aload_n 0 hc dX3_gather_129 rfl rfl ?_
      refine ok_getr 49 hc FS_X3_19 rfl sX_48 rfl dX3_gather_130 ?_
      refine ok_iload 3 hc dX3_gather_133 rfl ?_
      refine ok_iald hc sX_49 dX3_gather_135 (fun h2 => ?_)
      refine ok_aload_n 2 hc dX3_gather_136 rfl rfl ?_
      refine ok_geti hc FS_X3_62 rfl hq3 dX3_gather_137 ?_
      refine ok_iconst (v := 0) hc dX3_gather_140 (by decide) ?_
      refine ok_callVi (As := [.int (S.1 49 (nt a4)), .int (S.1 q3 1), .int 0]) (st := [.int ((a2 * 20) + a4), rv Γ 50]) (fun n0 => [.ref (n0 + 17), .int (S.1 49 (nt a4)), .int (S.1 q3 1), .int 0]) hc VS_X3_65 sX_17 rfl rfl rfl ⟨Nat.le_of_ble_eq_true rfl, Nat.le_of_ble_eq_true rfl⟩ (Nat.le_of_ble_eq_true rfl) (fun q h => tX0_gotAt (S.1 49 (nt a4)) (S.1 q3 1) 0 S q h) dX3_gather_141 (fun v3 S4 => ?_)
      refine ok_iast hc sX_50 dX3_gather_144 (fun h6 => ?_)
      refine ok_ltS (fun S5 => ?_)
      refine ok_aload_n 0 hc dX3_gather_145 rfl rfl ?_
      refine ok_getr 51 hc FS_X3_26 rfl sX_48 rfl dX3_gather_146 ?_
      refine ok_iload_n 1 hc dX3_gather_149 rfl rfl ?_
      refine ok_bipush (v := 20) hc dX3_gather_150 (by decide) ?_
      refine ok_imul hc dX3_gather_152 ?_
      refine ok_iload 3 hc dX3_gather_153 rfl ?_
      refine ok_iadd hc dX3_gather_155 ?_
      refine ok_aload_n 0 hc dX3_gather_156 rfl rfl ?_
      refine ok_getr 17 hc FS_X3_13 rfl sX_48 rfl dX3_gather_157 ?_
      refine ok_aload_n 0 hc dX3_gather_160 rfl rfl ?_
      refine ok_getr 49 hc FS_X3_19 rfl sX_48 rfl dX3_gather_161 ?_
      refine ok_iload 3 hc dX3_gather_164 rfl ?_
      refine ok_iald hc sX_49 dX3_gather_166 (fun h7 => ?_)
      refine ok_aload_n 2 hc dX3_gather_167 rfl rfl ?_
      refine ok_geti hc FS_X3_69 rfl hq3 dX3_gather_168 ?_
      refine ok_iconst (v := 0) hc dX3_gather_171 (by decide) ?_
      refine ok_callVi (As := [.int (S5.1 49 (nt a4)), .int (S5.1 q3 5), .int 0]) (st := [.int ((a2 * 20) + a4), rv Γ 51]) (fun n0 => [.ref (n0 + 17), .int (S5.1 49 (nt a4)), .int (S5.1 q3 5), .int 0]) hc VS_X3_65 sX_17 rfl rfl rfl ⟨Nat.le_of_ble_eq_true rfl, Nat.le_of_ble_eq_true rfl⟩ (Nat.le_of_ble_eq_true rfl) (fun q h => tX0_gotAt (S5.1 49 (nt a4)) (S5.1 q3 5) 0 S5 q h) dX3_gather_172 (fun v8 S9 => ?_)
      refine ok_iast hc sX_51 dX3_gather_175 (fun h11 => ?_)
      refine ok_ltS (fun S10 => ?_)
      refine ok_iinc (v := 1) 3 [(4, .int (a4 + 1)), (0, rv Γ 48), (2, .int a2), (3, rv Γ q3)] hc dX3_gather_176 rfl (by decide) (Nat.le_of_ble_eq_true rfl) rfl ?_
      refine ok_goto 105 hc dX3_gather_179 (by decide) ?_
      refine ok_sub [1, 2, 3, 0] rfl ?_
      exact ih _ _
set_option maxRecDepth 100000 in
set_option maxHeartbeats 4000000 in
theorem tX3_gather_L79 {Γ : Cx Unit} (hc : Cok Γ wX vU mX3_gather) : ∀ (n : Nat) (a2 : Int32) (S : St), Ok Γ wX 79 [(0, rv Γ 48), (2, .int a2)] [] S (fX3_gather_L79 n a2 S) := by
  intro n
  induction n with
  | zero =>
    intro a2 S
    exact ok_none
  | succ n ih =>
    intro a2 S
    show Ok Γ wX 79 [(0, rv Γ 48), (2, .int a2)] [] S (fX3_gather_L79_st (fX3_gather_L79 n) a2 S)
    unfold fX3_gather_L79_st
    refine ok_iload_n 1 hc dX3_gather_79 rfl rfl ?_
    refine ok_aload_n 0 hc dX3_gather_80 rfl rfl ?_
    refine ok_geti hc FS_X3_41 rfl sX_48 dX3_gather_81 ?_
    refine ok_icmp_ge_ite 188 hc dX3_gather_84 (by decide) (fun h1 => ?_) (fun h1 => ?_)
    · exact ok_vret hc rfl dX3_gather_188
    · refine ok_aload_n 0 hc dX3_gather_87 rfl rfl ?_
      refine ok_getr 17 hc FS_X3_13 rfl sX_48 rfl dX3_gather_88 ?_
      refine ok_getr 18 hc FS_X3_46 rfl sX_17 rfl dX3_gather_91 ?_
      refine ok_aload_n 0 hc dX3_gather_94 rfl rfl ?_
      refine ok_getr 49 hc FS_X3_19 rfl sX_48 rfl dX3_gather_95 ?_
      refine ok_iload_n 1 hc dX3_gather_98 rfl rfl ?_
      refine ok_iald hc sX_49 dX3_gather_99 (fun h2 => ?_)
      refine ok_aald (fun j => 19 + j) "AirParted$Sender" hc sX_18 rfl snd_rf dX3_gather_100 (fun h3 => ?_)
      show Ok Γ wX 101 [(0, rv Γ 48), (2, .int a2)] (rv Γ (19 + nt (S.1 49 (nt a2))) :: []) S _
      refine ok_astore_n [(3, rv Γ (19 + nt (S.1 49 (nt a2)))), (0, rv Γ 48), (2, .int a2)] hc dX3_gather_101 rfl (Nat.le_of_ble_eq_true rfl) rfl ?_
      refine ok_iconst (v := 0) hc dX3_gather_102 (by decide) ?_
      refine ok_istore [(4, .int 0), (3, rv Γ (19 + nt (S.1 49 (nt a2)))), (0, rv Γ 48), (2, .int a2)] hc dX3_gather_103 (Nat.le_of_ble_eq_true rfl) rfl ?_
      refine ok_sub [2, 3, 1, 0] rfl ?_
      refine tX3_gather_L105 hc _ _ _ (snd_ob h3) ?_ FU _ _
      · intro S4
        refine ok_iinc (v := 1) 1 [(2, .int (a2 + 1)), (0, rv Γ 48)] hc dX3_gather_182 rfl (by decide) (Nat.le_of_ble_eq_true rfl) rfl ?_
        refine ok_goto 79 hc dX3_gather_185 (by decide) ?_
        refine ok_sub [1, 0] rfl ?_
        exact ih _ _
set_option maxRecDepth 100000 in
set_option maxHeartbeats 4000000 in
theorem tX3_gather (a1 : Int32) (S : St) (q : Unit × St) (h : fX3_gather a1 S = some q) : MT vU wX mX3_gather (fun n0 => [.ref (n0 + 48), .int a1]) S q := by
  refine mt_of (show plainFor yX3_gather = true from by decide) (fun _ => Nat.le_of_ble_eq_true rfl) ?_
  intro Γ hc _
  rw [← h]
  show Ok Γ wX 0 [(0, rv Γ 48), (1, .int a1)] [] S _
  unfold fX3_gather
  refine ok_aload_n 0 hc dX3_gather_0 rfl rfl ?_
  refine ok_iconst (v := 0) hc dX3_gather_1 (by decide) ?_
  refine ok_puti hc FP_X3_41 rfl sX_48 dX3_gather_2 ?_
  refine ok_ltS (fun S1 => ?_)
  refine ok_iconst (v := 0) hc dX3_gather_5 (by decide) ?_
  refine ok_istore_n [(2, .int 0), (0, rv Γ 48), (1, .int a1)] hc dX3_gather_6 rfl (Nat.le_of_ble_eq_true rfl) rfl ?_
  refine ok_sub [1, 2, 0] rfl ?_
  refine tX3_gather_L7 hc _ _  ?_ FU _ _
  · intro S2
    refine ok_iconst (v := 0) hc dX3_gather_77 (by decide) ?_
    refine ok_istore_n [(2, .int 0), (0, rv Γ 48)] hc dX3_gather_78 rfl (Nat.le_of_ble_eq_true rfl) rfl ?_
    refine ok_sub [1, 0] rfl ?_
    refine tX3_gather_L79 hc    FU _ _
def fX3_isHeardAgainst (a1 : Int32) (a2 : Int64) (S : St) : Option (Int32 × St) :=
  if ib a1 20 then (if ib (S.1 49 (nt a1)) 20 then (if ib ((a1 * 20) + a1) 400 then (bnd (fX5_isEnough (19 + nt (S.1 49 (nt a1))) (S.1 51 (nt ((a1 * 20) + a1))) (((S.1 2 (nt 2)).toInt64) + a2) S) (fun v4 S5 => if b01 v4 then some (v4, S5) else none)) else none) else none) else none
set_option maxRecDepth 100000 in
set_option maxHeartbeats 4000000 in
theorem tX3_isHeardAgainst (a1 : Int32) (a2 : Int64) (S : St) (q : Int32 × St) (h : fX3_isHeardAgainst a1 a2 S = some q) : MT vI wX mX3_isHeardAgainst (fun n0 => [.ref (n0 + 48), .int a1, .long a2]) S q := by
  refine mt_of (show plainFor yX3_isHeardAgainst = true from by decide) (fun _ => Nat.le_of_ble_eq_true rfl) ?_
  intro Γ hc _
  rw [← h]
  show Ok Γ wX 0 [(0, rv Γ 48), (1, .int a1), (2, .long a2)] [] S _
  unfold fX3_isHeardAgainst
  refine ok_aload_n 0 hc dX3_isHeardAgainst_0 rfl rfl ?_
  refine ok_getr 17 hc FS_X3_13 rfl sX_48 rfl dX3_isHeardAgainst_1 ?_
  refine ok_getr 18 hc FS_X3_46 rfl sX_17 rfl dX3_isHeardAgainst_4 ?_
  refine ok_aload_n 0 hc dX3_isHeardAgainst_7 rfl rfl ?_
  refine ok_getr 49 hc FS_X3_19 rfl sX_48 rfl dX3_isHeardAgainst_8 ?_
  refine ok_iload_n 1 hc dX3_isHeardAgainst_11 rfl rfl ?_
  refine ok_iald hc sX_49 dX3_isHeardAgainst_12 (fun h1 => ?_)
  refine ok_aald (fun j => 19 + j) "AirParted$Sender" hc sX_18 rfl snd_rf dX3_isHeardAgainst_13 (fun h2 => ?_)
  show Ok Γ wX 14 [(0, rv Γ 48), (1, .int a1), (2, .long a2)] (rv Γ (19 + nt (S.1 49 (nt a1))) :: []) S _
  refine ok_aload_n 0 hc dX3_isHeardAgainst_14 rfl rfl ?_
  refine ok_getr 51 hc FS_X3_26 rfl sX_48 rfl dX3_isHeardAgainst_15 ?_
  refine ok_iload_n 1 hc dX3_isHeardAgainst_18 rfl rfl ?_
  refine ok_bipush (v := 20) hc dX3_isHeardAgainst_19 (by decide) ?_
  refine ok_imul hc dX3_isHeardAgainst_21 ?_
  refine ok_iload_n 1 hc dX3_isHeardAgainst_22 rfl rfl ?_
  refine ok_iadd hc dX3_isHeardAgainst_23 ?_
  refine ok_iald hc sX_51 dX3_isHeardAgainst_24 (fun h3 => ?_)
  refine ok_aload_n 0 hc dX3_isHeardAgainst_25 rfl rfl ?_
  refine ok_getr 1 hc FS_X3_7 rfl sX_48 rfl dX3_isHeardAgainst_26 ?_
  refine ok_getr 2 hc FS_X3_86 rfl sX_1 rfl dX3_isHeardAgainst_29 ?_
  refine ok_iconst (v := 2) hc dX3_isHeardAgainst_32 (by decide) ?_
  refine ok_ialdK hc sX_2 (by decide) dX3_isHeardAgainst_33 ?_
  refine ok_i2l hc dX3_isHeardAgainst_34 ?_
  refine ok_lload_n 2 hc dX3_isHeardAgainst_35 rfl rfl ?_
  refine ok_ladd hc dX3_isHeardAgainst_36 ?_
  refine ok_callVi (As := [.int (S.1 51 (nt ((a1 * 20) + a1))), .long (((S.1 2 (nt 2)).toInt64) + a2)]) (st := []) (fun n0 => [.ref (n0 + (19 + nt (S.1 49 (nt a1)))), .int (S.1 51 (nt ((a1 * 20) + a1))), .long (((S.1 2 (nt 2)).toInt64) + a2)]) hc VS_X3_111 (snd_ob h2) rfl rfl rfl ⟨Nat.le_of_ble_eq_true rfl, Nat.le_of_ble_eq_true rfl⟩ (Nat.le_of_ble_eq_true rfl) (fun q h => tX5_isEnough (19 + nt (S.1 49 (nt a1))) (S.1 51 (nt ((a1 * 20) + a1))) (((S.1 2 (nt 2)).toInt64) + a2) (snd_ob h2) S q h) dX3_isHeardAgainst_37 (fun v4 S5 => ?_)
  exact ok_zret hc rfl dX3_isHeardAgainst_40
def fX3_isDrownedBy (a1 : Int32) (a2 : Int32) (S : St) : Option (Int32 × St) :=
  bnd (fX3_isHeardAgainst a1 0 S) (fun v1 S2 => if v1 = 0 then (some (0, S2)) else (if ib ((a1 * 20) + a2) 400 then (bnd (fX3_isHeardAgainst a1 ((S2.1 51 (nt ((a1 * 20) + a2))).toInt64) S2) (fun v5 S6 => if v5 = 0 then (some (1, S6)) else (some (0, S6)))) else none))
set_option maxRecDepth 100000 in
set_option maxHeartbeats 4000000 in
theorem tX3_isDrownedBy (a1 : Int32) (a2 : Int32) (S : St) (q : Int32 × St) (h : fX3_isDrownedBy a1 a2 S = some q) : MT vI wX mX3_isDrownedBy (fun n0 => [.ref (n0 + 48), .int a1, .int a2]) S q := by
  refine mt_of (show plainFor yX3_isDrownedBy = true from by decide) (fun _ => Nat.le_of_ble_eq_true rfl) ?_
  intro Γ hc _
  rw [← h]
  show Ok Γ wX 0 [(0, rv Γ 48), (1, .int a1), (2, .int a2)] [] S _
  unfold fX3_isDrownedBy
  refine ok_aload_n 0 hc dX3_isDrownedBy_0 rfl rfl ?_
  refine ok_iload_n 1 hc dX3_isDrownedBy_1 rfl rfl ?_
  refine ok_lconst (v := 0) hc dX3_isDrownedBy_2 (by decide) ?_
  refine ok_callVi (As := [.int a1, .long 0]) (st := []) (fun n0 => [.ref (n0 + 48), .int a1, .long 0]) hc VS_X3_107 sX_48 rfl rfl rfl ⟨Nat.le_of_ble_eq_true rfl, Nat.le_of_ble_eq_true rfl⟩ (Nat.le_of_ble_eq_true rfl) (fun q h => tX3_isHeardAgainst a1 0 S q h) dX3_isDrownedBy_3 (fun v1 S2 => ?_)
  refine ok_if_eq_ite 33 hc dX3_isDrownedBy_6 (by decide) (fun h3 => ?_) (fun h3 => ?_)
  · refine ok_iconst (v := 0) hc dX3_isDrownedBy_33 (by decide) ?_
    exact ok_zretK hc rfl (by decide) dX3_isDrownedBy_34
  · refine ok_aload_n 0 hc dX3_isDrownedBy_9 rfl rfl ?_
    refine ok_iload_n 1 hc dX3_isDrownedBy_10 rfl rfl ?_
    refine ok_aload_n 0 hc dX3_isDrownedBy_11 rfl rfl ?_
    refine ok_getr 51 hc FS_X3_26 rfl sX_48 rfl dX3_isDrownedBy_12 ?_
    refine ok_iload_n 1 hc dX3_isDrownedBy_15 rfl rfl ?_
    refine ok_bipush (v := 20) hc dX3_isDrownedBy_16 (by decide) ?_
    refine ok_imul hc dX3_isDrownedBy_18 ?_
    refine ok_iload_n 2 hc dX3_isDrownedBy_19 rfl rfl ?_
    refine ok_iadd hc dX3_isDrownedBy_20 ?_
    refine ok_iald hc sX_51 dX3_isDrownedBy_21 (fun h4 => ?_)
    refine ok_i2l hc dX3_isDrownedBy_22 ?_
    refine ok_callVi (As := [.int a1, .long ((S2.1 51 (nt ((a1 * 20) + a2))).toInt64)]) (st := []) (fun n0 => [.ref (n0 + 48), .int a1, .long ((S2.1 51 (nt ((a1 * 20) + a2))).toInt64)]) hc VS_X3_107 sX_48 rfl rfl rfl ⟨Nat.le_of_ble_eq_true rfl, Nat.le_of_ble_eq_true rfl⟩ (Nat.le_of_ble_eq_true rfl) (fun q h => tX3_isHeardAgainst a1 ((S2.1 51 (nt ((a1 * 20) + a2))).toInt64) S2 q h) dX3_isDrownedBy_23 (fun v5 S6 => ?_)
    refine ok_if_ne_ite 33 hc dX3_isDrownedBy_26 (by decide) (fun h7 => ?_) (fun h7 => ?_)
    · refine ok_iconst (v := 0) hc dX3_isDrownedBy_33 (by decide) ?_
      exact ok_zretK hc rfl (by decide) dX3_isDrownedBy_34
    · refine ok_iconst (v := 1) hc dX3_isDrownedBy_29 (by decide) ?_
      refine ok_goto 34 hc dX3_isDrownedBy_30 (by decide) ?_
      exact ok_zretK hc rfl (by decide) dX3_isDrownedBy_34
def fX3_hiddenPairs_L25_st (kx0 : Int32 → St → Option (Int32 × St)) (a2 : Int32) (a3 : Int32) (rec : Int32 → Int32 → St → Option (Int32 × St)) (a1 : Int32) (a4 : Int32) (S : St) : Option (Int32 × St) :=
  if a3 ≤ a4 then (kx0 a1 S) else (if ib ((a3 * 20) + a4) 400 then (jn (fun (v3 : Int32) => jn (fun (v5 : Int32) (S6 : St) => rec v5 (a4 + 1) S6) (fun k7 => if v3 = 0 then (k7 a1 S) else (bnd (fX3_isDrownedBy a3 a4 S) (fun v9 S10 => jn (fun (S11 : St) => k7 (a1 + 1) S11) (fun k12 => if v9 = 0 then (bnd (fX3_isDrownedBy a4 a3 S10) (fun v14 S15 => if v14 = 0 then (k7 a1 S15) else (k12 S15))) else (k12 S10)))))) (fun k4 => if a2 ≤ (S.1 50 (nt ((a3 * 20) + a4))) then (k4 0) else (if ib ((a4 * 20) + a3) 400 then (if a2 ≤ (S.1 50 (nt ((a4 * 20) + a3))) then (k4 0) else (k4 1)) else none))) else none)
def fX3_hiddenPairs_L25 (kx0 : Int32 → St → Option (Int32 × St)) (a2 : Int32) (a3 : Int32) : Nat → Int32 → Int32 → St → Option (Int32 × St)
  | 0 => fun _ _ _ => none
  | n + 1 => fun a1 a4 S => fX3_hiddenPairs_L25_st kx0 a2 a3 (fX3_hiddenPairs_L25 kx0 a2 a3 n) a1 a4 S
def fX3_hiddenPairs_L14_st (a2 : Int32) (rec : Int32 → Int32 → St → Option (Int32 × St)) (a1 : Int32) (a3 : Int32) (S : St) : Option (Int32 × St) :=
  if (S.1 48 9) ≤ a3 then (some (a1, S)) else (fX3_hiddenPairs_L25 (fun (v2 : Int32) (S3 : St) => rec v2 (a3 + 1) S3) a2 a3 FU a1 0 S)
def fX3_hiddenPairs_L14 (a2 : Int32) : Nat → Int32 → Int32 → St → Option (Int32 × St)
  | 0 => fun _ _ _ => none
  | n + 1 => fun a1 a3 S => fX3_hiddenPairs_L14_st a2 (fX3_hiddenPairs_L14 a2 n) a1 a3 S
def fX3_hiddenPairs (S : St) : Option (Int32 × St) :=
  lt (S.1 2 (nt 3)) (fun (v1 : Int32) => fX3_hiddenPairs_L14 v1 FU 0 0 S)
set_option maxRecDepth 100000 in
set_option maxHeartbeats 4000000 in
theorem tX3_hiddenPairs_L25 {Γ : Cx Int32} (hc : Cok Γ wX vI mX3_hiddenPairs) (kx0 : Int32 → St → Option (Int32 × St)) (a2 : Int32) (a3 : Int32) (hx0 : ∀ (a1 : Int32) (S : St), Ok Γ wX 104 [(0, rv Γ 48), (1, .int a1), (2, .int a2), (3, .int a3)] [] S (kx0 a1 S)) : ∀ (n : Nat) (a1 : Int32) (a4 : Int32) (S : St), Ok Γ wX 25 [(0, rv Γ 48), (1, .int a1), (2, .int a2), (3, .int a3), (4, .int a4)] [] S (fX3_hiddenPairs_L25 kx0 a2 a3 n a1 a4 S) := by
  intro n
  induction n with
  | zero =>
    intro a1 a4 S
    exact ok_none
  | succ n ih =>
    intro a1 a4 S
    show Ok Γ wX 25 [(0, rv Γ 48), (1, .int a1), (2, .int a2), (3, .int a3), (4, .int a4)] [] S (fX3_hiddenPairs_L25_st kx0 a2 a3 (fX3_hiddenPairs_L25 kx0 a2 a3 n) a1 a4 S)
    unfold fX3_hiddenPairs_L25_st
    refine ok_iload 4 hc dX3_hiddenPairs_25 rfl ?_
    refine ok_iload_n 3 hc dX3_hiddenPairs_27 rfl rfl ?_
    refine ok_icmp_ge_ite 104 hc dX3_hiddenPairs_28 (by decide) (fun h1 => ?_) (fun h1 => ?_)
    · refine ok_sub [0, 1, 2, 3] rfl ?_
      exact hx0 _ _
    · refine ok_aload_n 0 hc dX3_hiddenPairs_31 rfl rfl ?_
      refine ok_getr 50 hc FS_X3_23 rfl sX_48 rfl dX3_hiddenPairs_32 ?_
      refine ok_iload_n 3 hc dX3_hiddenPairs_35 rfl rfl ?_
      refine ok_bipush (v := 20) hc dX3_hiddenPairs_36 (by decide) ?_
      refine ok_imul hc dX3_hiddenPairs_38 ?_
      refine ok_iload 4 hc dX3_hiddenPairs_39 rfl ?_
      refine ok_iadd hc dX3_hiddenPairs_41 ?_
      refine ok_iald hc sX_50 dX3_hiddenPairs_42 (fun h2 => ?_)
      refine ok_iload_n 2 hc dX3_hiddenPairs_43 rfl rfl ?_
      refine ok_jn (fun g => ∀ (v3 : Int32), Ok Γ wX 68 [(0, rv Γ 48), (1, .int a1), (2, .int a2), (3, .int a3), (4, .int a4)] [.int v3] S (g v3)) ?_ (fun k4 hk4 => ?_)
      · intro v3
        refine ok_istore [(5, .int v3), (0, rv Γ 48), (1, .int a1), (2, .int a2), (3, .int a3), (4, .int a4)] hc dX3_hiddenPairs_68 (Nat.le_of_ble_eq_true rfl) rfl ?_
        refine ok_iload 0 hc dX3_hiddenPairs_70 rfl ?_
        refine ok_jn (fun g => ∀ (v5 : Int32) (S6 : St), Ok Γ wX 98 [(0, rv Γ 48), (1, .int v5), (2, .int a2), (3, .int a3), (4, .int a4)] [] S6 (g v5 S6)) ?_ (fun k7 hk7 => ?_)
        · intro v5 S6
          refine ok_iinc (v := 1) 4 [(4, .int (a4 + 1)), (0, rv Γ 48), (1, .int v5), (2, .int a2), (3, .int a3)] hc dX3_hiddenPairs_98 rfl (by decide) (Nat.le_of_ble_eq_true rfl) rfl ?_
          refine ok_goto 25 hc dX3_hiddenPairs_101 (by decide) ?_
          refine ok_sub [1, 2, 3, 4, 0] rfl ?_
          exact ih _ _ _
        · refine ok_if_eq_ite 98 hc dX3_hiddenPairs_72 (by decide) (fun h8 => ?_) (fun h8 => ?_)
          · refine ok_sub [1, 2, 3, 4, 5] rfl ?_
            exact hk7 _ _
          · refine ok_aload_n 1 hc dX3_hiddenPairs_75 rfl rfl ?_
            refine ok_iload_n 4 hc dX3_hiddenPairs_76 rfl rfl ?_
            refine ok_iload 5 hc dX3_hiddenPairs_77 rfl ?_
            refine ok_callVi (As := [.int a3, .int a4]) (st := []) (fun n0 => [.ref (n0 + 48), .int a3, .int a4]) hc VS_X3_114 sX_48 rfl rfl rfl ⟨Nat.le_of_ble_eq_true rfl, Nat.le_of_ble_eq_true rfl⟩ (Nat.le_of_ble_eq_true rfl) (fun q h => tX3_isDrownedBy a3 a4 S q h) dX3_hiddenPairs_79 (fun v9 S10 => ?_)
            refine ok_jn (fun g => ∀ (S11 : St), Ok Γ wX 95 [(0, rv Γ 48), (1, .int a1), (2, .int a2), (3, .int a3), (4, .int a4)] [] S11 (g S11)) ?_ (fun k12 hk12 => ?_)
            · intro S11
              refine ok_iinc (v := 1) 1 [(1, .int (a1 + 1)), (0, rv Γ 48), (2, .int a2), (3, .int a3), (4, .int a4)] hc dX3_hiddenPairs_95 rfl (by decide) (Nat.le_of_ble_eq_true rfl) rfl ?_
              refine ok_sub [1, 0, 2, 3, 4] rfl ?_
              exact hk7 _ _
            · refine ok_if_ne_ite 95 hc dX3_hiddenPairs_82 (by decide) (fun h13 => ?_) (fun h13 => ?_)
              · refine ok_sub [1, 2, 3, 4, 5] rfl ?_
                exact hk12 _
              · refine ok_aload_n 1 hc dX3_hiddenPairs_85 rfl rfl ?_
                refine ok_iload 5 hc dX3_hiddenPairs_86 rfl ?_
                refine ok_iload_n 4 hc dX3_hiddenPairs_88 rfl rfl ?_
                refine ok_callVi (As := [.int a4, .int a3]) (st := []) (fun n0 => [.ref (n0 + 48), .int a4, .int a3]) hc VS_X3_114 sX_48 rfl rfl rfl ⟨Nat.le_of_ble_eq_true rfl, Nat.le_of_ble_eq_true rfl⟩ (Nat.le_of_ble_eq_true rfl) (fun q h => tX3_isDrownedBy a4 a3 S10 q h) dX3_hiddenPairs_89 (fun v14 S15 => ?_)
                refine ok_if_eq_ite 98 hc dX3_hiddenPairs_92 (by decide) (fun h16 => ?_) (fun h16 => ?_)
                · refine ok_sub [1, 2, 3, 4, 5] rfl ?_
                  exact hk7 _ _
                · refine ok_sub [1, 2, 3, 4, 5] rfl ?_
                  exact hk12 _
      · refine ok_icmp_ge_ite 67 hc dX3_hiddenPairs_44 (by decide) (fun h17 => ?_) (fun h17 => ?_)
        · refine ok_iconst (v := 0) hc dX3_hiddenPairs_67 (by decide) ?_
          exact hk4 _
        · refine ok_aload_n 0 hc dX3_hiddenPairs_47 rfl rfl ?_
          refine ok_getr 50 hc FS_X3_23 rfl sX_48 rfl dX3_hiddenPairs_48 ?_
          refine ok_iload 4 hc dX3_hiddenPairs_51 rfl ?_
          refine ok_bipush (v := 20) hc dX3_hiddenPairs_53 (by decide) ?_
          refine ok_imul hc dX3_hiddenPairs_55 ?_
          refine ok_iload_n 3 hc dX3_hiddenPairs_56 rfl rfl ?_
          refine ok_iadd hc dX3_hiddenPairs_57 ?_
          refine ok_iald hc sX_50 dX3_hiddenPairs_58 (fun h18 => ?_)
          refine ok_iload_n 2 hc dX3_hiddenPairs_59 rfl rfl ?_
          refine ok_icmp_ge_ite 67 hc dX3_hiddenPairs_60 (by decide) (fun h19 => ?_) (fun h19 => ?_)
          · refine ok_iconst (v := 0) hc dX3_hiddenPairs_67 (by decide) ?_
            exact hk4 _
          · refine ok_iconst (v := 1) hc dX3_hiddenPairs_63 (by decide) ?_
            refine ok_goto 68 hc dX3_hiddenPairs_64 (by decide) ?_
            exact hk4 _
set_option maxRecDepth 100000 in
set_option maxHeartbeats 4000000 in
theorem tX3_hiddenPairs_L14 {Γ : Cx Int32} (hc : Cok Γ wX vI mX3_hiddenPairs) (a2 : Int32) : ∀ (n : Nat) (a1 : Int32) (a3 : Int32) (S : St), Ok Γ wX 14 [(0, rv Γ 48), (1, .int a1), (2, .int a2), (3, .int a3)] [] S (fX3_hiddenPairs_L14 a2 n a1 a3 S) := by
  intro n
  induction n with
  | zero =>
    intro a1 a3 S
    exact ok_none
  | succ n ih =>
    intro a1 a3 S
    show Ok Γ wX 14 [(0, rv Γ 48), (1, .int a1), (2, .int a2), (3, .int a3)] [] S (fX3_hiddenPairs_L14_st a2 (fX3_hiddenPairs_L14 a2 n) a1 a3 S)
    unfold fX3_hiddenPairs_L14_st
    refine ok_iload_n 3 hc dX3_hiddenPairs_14 rfl rfl ?_
    refine ok_aload_n 0 hc dX3_hiddenPairs_15 rfl rfl ?_
    refine ok_geti hc FS_X3_41 rfl sX_48 dX3_hiddenPairs_16 ?_
    refine ok_icmp_ge_ite 110 hc dX3_hiddenPairs_19 (by decide) (fun h1 => ?_) (fun h1 => ?_)
    · refine ok_iload_n 1 hc dX3_hiddenPairs_110 rfl rfl ?_
      exact ok_iret hc rfl dX3_hiddenPairs_111
    · refine ok_iconst (v := 0) hc dX3_hiddenPairs_22 (by decide) ?_
      refine ok_istore [(4, .int 0), (0, rv Γ 48), (1, .int a1), (2, .int a2), (3, .int a3)] hc dX3_hiddenPairs_23 (Nat.le_of_ble_eq_true rfl) rfl ?_
      refine ok_sub [1, 2, 3, 4, 0] rfl ?_
      refine tX3_hiddenPairs_L25 hc _ _ _  ?_ FU _ _ _
      · intro v2 S3
        refine ok_iinc (v := 1) 3 [(3, .int (a3 + 1)), (0, rv Γ 48), (1, .int v2), (2, .int a2)] hc dX3_hiddenPairs_104 rfl (by decide) (Nat.le_of_ble_eq_true rfl) rfl ?_
        refine ok_goto 14 hc dX3_hiddenPairs_107 (by decide) ?_
        refine ok_sub [1, 2, 3, 0] rfl ?_
        exact ih _ _ _
set_option maxRecDepth 100000 in
set_option maxHeartbeats 4000000 in
theorem tX3_hiddenPairs (S : St) (q : Int32 × St) (h : fX3_hiddenPairs S = some q) : MT vI wX mX3_hiddenPairs (fun n0 => [.ref (n0 + 48)]) S q := by
  refine mt_of (show plainFor yX3_hiddenPairs = true from by decide) (fun _ => Nat.le_of_ble_eq_true rfl) ?_
  intro Γ hc _
  rw [← h]
  show Ok Γ wX 0 [(0, rv Γ 48)] [] S _
  unfold fX3_hiddenPairs
  refine ok_iconst (v := 0) hc dX3_hiddenPairs_0 (by decide) ?_
  refine ok_istore_n [(1, .int 0), (0, rv Γ 48)] hc dX3_hiddenPairs_1 rfl (Nat.le_of_ble_eq_true rfl) rfl ?_
  refine ok_aload_n 1 hc dX3_hiddenPairs_2 rfl rfl ?_
  refine ok_getr 1 hc FS_X3_7 rfl sX_48 rfl dX3_hiddenPairs_3 ?_
  refine ok_getr 2 hc FS_X3_86 rfl sX_1 rfl dX3_hiddenPairs_6 ?_
  refine ok_iconst (v := 3) hc dX3_hiddenPairs_9 (by decide) ?_
  refine ok_ialdK hc sX_2 (by decide) dX3_hiddenPairs_10 ?_
  refine ok_lti (fun v1 => ?_)
  refine ok_istore_n [(2, .int v1), (1, .int 0), (0, rv Γ 48)] hc dX3_hiddenPairs_11 rfl (Nat.le_of_ble_eq_true rfl) rfl ?_
  refine ok_iconst (v := 0) hc dX3_hiddenPairs_12 (by decide) ?_
  refine ok_istore_n [(3, .int 0), (2, .int v1), (1, .int 0), (0, rv Γ 48)] hc dX3_hiddenPairs_13 rfl (Nat.le_of_ble_eq_true rfl) rfl ?_
  refine ok_sub [3, 2, 1, 0] rfl ?_
  refine tX3_hiddenPairs_L14 hc _   FU _ _ _
def fX3_sumOthers_L6_st (q1 : Nat) (a2 : Int32) (a3 : Int32) (rec : Int64 → Int32 → St → Option (Int64 × St)) (a4 : Int64) (a6 : Int32) (S : St) : Option (Int64 × St) :=
  if (S.1 48 9) ≤ a6 then (some (a4, S)) else (jn (fun (v2 : Int64) => rec v2 (a6 + 1) S) (fun k3 => if a6 = a3 then (k3 a4) else (if ((a2 >>> (a6 &&& 31)) &&& 1) = 0 then (k3 a4) else (if ib ((a3 * 20) + a6) 400 then (lt (a4 + ((S.1 q1 (nt ((a3 * 20) + a6))).toInt64)) (fun (v7 : Int64) => k3 v7)) else none))))
def fX3_sumOthers_L6 (q1 : Nat) (a2 : Int32) (a3 : Int32) : Nat → Int64 → Int32 → St → Option (Int64 × St)
  | 0 => fun _ _ _ => none
  | n + 1 => fun a4 a6 S => fX3_sumOthers_L6_st q1 a2 a3 (fX3_sumOthers_L6 q1 a2 a3 n) a4 a6 S
def fX3_sumOthers (q1 : Nat) (a2 : Int32) (a3 : Int32) (S : St) : Option (Int64 × St) :=
  fX3_sumOthers_L6 q1 a2 a3 FU 0 0 S
set_option maxRecDepth 100000 in
set_option maxHeartbeats 4000000 in
theorem tX3_sumOthers_L6 {Γ : Cx Int64} (hc : Cok Γ wX vL mX3_sumOthers) (q1 : Nat) (a2 : Int32) (a3 : Int32) (hq1 : Iar wX q1 1 400) : ∀ (n : Nat) (a4 : Int64) (a6 : Int32) (S : St), Ok Γ wX 6 [(0, rv Γ 48), (1, rv Γ q1), (2, .int a2), (3, .int a3), (4, .long a4), (6, .int a6)] [] S (fX3_sumOthers_L6 q1 a2 a3 n a4 a6 S) := by
  intro n
  induction n with
  | zero =>
    intro a4 a6 S
    exact ok_none
  | succ n ih =>
    intro a4 a6 S
    show Ok Γ wX 6 [(0, rv Γ 48), (1, rv Γ q1), (2, .int a2), (3, .int a3), (4, .long a4), (6, .int a6)] [] S (fX3_sumOthers_L6_st q1 a2 a3 (fX3_sumOthers_L6 q1 a2 a3 n) a4 a6 S)
    unfold fX3_sumOthers_L6_st
    refine ok_iload 5 hc dX3_sumOthers_6 rfl ?_
    refine ok_aload_n 0 hc dX3_sumOthers_8 rfl rfl ?_
    refine ok_geti hc FS_X3_41 rfl sX_48 dX3_sumOthers_9 ?_
    refine ok_icmp_ge_ite 51 hc dX3_sumOthers_12 (by decide) (fun h1 => ?_) (fun h1 => ?_)
    · refine ok_lload 4 hc dX3_sumOthers_51 rfl ?_
      exact ok_lret hc rfl dX3_sumOthers_53
    · refine ok_iload 5 hc dX3_sumOthers_15 rfl ?_
      refine ok_iload_n 3 hc dX3_sumOthers_17 rfl rfl ?_
      refine ok_jn (fun g => ∀ (v2 : Int64), Ok Γ wX 45 [(0, rv Γ 48), (1, rv Γ q1), (2, .int a2), (3, .int a3), (4, .long v2), (6, .int a6)] [] S (g v2)) ?_ (fun k3 hk3 => ?_)
      · intro v2
        refine ok_iinc (v := 1) 5 [(6, .int (a6 + 1)), (0, rv Γ 48), (1, rv Γ q1), (2, .int a2), (3, .int a3), (4, .long v2)] hc dX3_sumOthers_45 rfl (by decide) (Nat.le_of_ble_eq_true rfl) rfl ?_
        refine ok_goto 6 hc dX3_sumOthers_48 (by decide) ?_
        refine ok_sub [1, 2, 3, 4, 5, 0] rfl ?_
        exact ih _ _ _
      · refine ok_icmp_eq_ite 45 hc dX3_sumOthers_18 (by decide) (fun h4 => ?_) (fun h4 => ?_)
        · exact hk3 _
        · refine ok_iload_n 2 hc dX3_sumOthers_21 rfl rfl ?_
          refine ok_iload 5 hc dX3_sumOthers_22 rfl ?_
          refine ok_ishr hc dX3_sumOthers_24 ?_
          refine ok_iconst (v := 1) hc dX3_sumOthers_25 (by decide) ?_
          refine ok_iand hc dX3_sumOthers_26 ?_
          refine ok_if_eq_ite 45 hc dX3_sumOthers_27 (by decide) (fun h5 => ?_) (fun h5 => ?_)
          · exact hk3 _
          · refine ok_lload 4 hc dX3_sumOthers_30 rfl ?_
            refine ok_aload_n 1 hc dX3_sumOthers_32 rfl rfl ?_
            refine ok_iload_n 3 hc dX3_sumOthers_33 rfl rfl ?_
            refine ok_bipush (v := 20) hc dX3_sumOthers_34 (by decide) ?_
            refine ok_imul hc dX3_sumOthers_36 ?_
            refine ok_iload 5 hc dX3_sumOthers_37 rfl ?_
            refine ok_iadd hc dX3_sumOthers_39 ?_
            refine ok_iald hc hq1 dX3_sumOthers_40 (fun h6 => ?_)
            refine ok_i2l hc dX3_sumOthers_41 ?_
            refine ok_ladd hc dX3_sumOthers_42 ?_
            refine ok_ltl (fun v7 => ?_)
            refine ok_lstore [(4, .long v7), (0, rv Γ 48), (1, rv Γ q1), (2, .int a2), (3, .int a3), (6, .int a6)] hc dX3_sumOthers_43 (Nat.le_of_ble_eq_true rfl) rfl ?_
            refine ok_sub [1, 2, 3, 4, 0, 5] rfl ?_
            exact hk3 _
set_option maxRecDepth 100000 in
set_option maxHeartbeats 4000000 in
theorem tX3_sumOthers (q1 : Nat) (a2 : Int32) (a3 : Int32) (hq1 : Iar wX q1 1 400) (S : St) (q : Int64 × St) (h : fX3_sumOthers q1 a2 a3 S = some q) : MT vL wX mX3_sumOthers (fun n0 => [.ref (n0 + 48), .ref (n0 + q1), .int a2, .int a3]) S q := by
  refine mt_of (show plainFor yX3_sumOthers = true from by decide) (fun _ => Nat.le_of_ble_eq_true rfl) ?_
  intro Γ hc _
  rw [← h]
  show Ok Γ wX 0 [(0, rv Γ 48), (1, rv Γ q1), (2, .int a2), (3, .int a3)] [] S _
  unfold fX3_sumOthers
  refine ok_lconst (v := 0) hc dX3_sumOthers_0 (by decide) ?_
  refine ok_lstore [(4, .long 0), (0, rv Γ 48), (1, rv Γ q1), (2, .int a2), (3, .int a3)] hc dX3_sumOthers_1 (Nat.le_of_ble_eq_true rfl) rfl ?_
  refine ok_iconst (v := 0) hc dX3_sumOthers_3 (by decide) ?_
  refine ok_istore [(6, .int 0), (4, .long 0), (0, rv Γ 48), (1, rv Γ q1), (2, .int a2), (3, .int a3)] hc dX3_sumOthers_4 (Nat.le_of_ble_eq_true rfl) rfl ?_
  refine ok_sub [2, 3, 4, 5, 1, 0] rfl ?_
  refine tX3_sumOthers_L6 hc _ _ _ hq1  FU _ _ _
def fX3_note (a1 : Int32) (a2 : Int32) (S : St) : Option (Unit × St) :=
  if ib a1 20 then (lt (S.1 49 (nt a1)) (fun (v2 : Int32) => if ((a2 >>> (a1 &&& 31)) &&& 1) = 0 then (if ib a1 20 then (if ib a1 20 then lt (wi S 52 (nt a1) ((S.1 52 (nt a1)) + 1)) (fun S18 => if ib v2 20 then (if ib a1 20 then (bnd (fJ9_max_7cf53 (S18.1 55 (nt v2)) (S18.1 52 (nt a1)) S18) (fun v22 S23 => if ib v2 20 then lt (wi S23 55 (nt v2) v22) (fun S24 => some ((), S24)) else none)) else none) else none) else none) else none) else (if ib a1 20 then lt (wi S 52 (nt a1) 0) (fun S4 => if ib v2 20 then (if ib v2 20 then lt (wi S4 53 (nt v2) ((S4.1 53 (nt v2)) + 1)) (fun S7 => bnd (fX3_sumOthers 51 a2 a1 S7) (fun v9 S10 => bnd (fX3_isHeardAgainst a1 v9 S10) (fun v11 S12 => if v11 = 0 then (some ((), S12)) else (if ib v2 20 then (if ib v2 20 then lt (wi S12 54 (nt v2) ((S12.1 54 (nt v2)) + 1)) (fun S15 => some ((), S15)) else none) else none)))) else none) else none) else none))) else none
set_option maxRecDepth 100000 in
set_option maxHeartbeats 4000000 in
theorem tX3_note (a1 : Int32) (a2 : Int32) (S : St) (q : Unit × St) (h : fX3_note a1 a2 S = some q) : MT vU wX mX3_note (fun n0 => [.ref (n0 + 48), .int a1, .int a2]) S q := by
  refine mt_of (show plainFor yX3_note = true from by decide) (fun _ => Nat.le_of_ble_eq_true rfl) ?_
  intro Γ hc _
  rw [← h]
  show Ok Γ wX 0 [(0, rv Γ 48), (1, .int a1), (2, .int a2)] [] S _
  unfold fX3_note
  refine ok_aload_n 0 hc dX3_note_0 rfl rfl ?_
  refine ok_getr 49 hc FS_X3_19 rfl sX_48 rfl dX3_note_1 ?_
  refine ok_iload_n 1 hc dX3_note_4 rfl rfl ?_
  refine ok_iald hc sX_49 dX3_note_5 (fun h1 => ?_)
  refine ok_lti (fun v2 => ?_)
  refine ok_istore_n [(3, .int v2), (0, rv Γ 48), (1, .int a1), (2, .int a2)] hc dX3_note_6 rfl (Nat.le_of_ble_eq_true rfl) rfl ?_
  refine ok_iload_n 3 hc dX3_note_7 rfl rfl ?_
  refine ok_iload_n 2 hc dX3_note_8 rfl rfl ?_
  refine ok_ishr hc dX3_note_9 ?_
  refine ok_iconst (v := 1) hc dX3_note_10 (by decide) ?_
  refine ok_iand hc dX3_note_11 ?_
  refine ok_if_ne_ite 47 hc dX3_note_12 (by decide) (fun h3 => ?_) (fun h3 => ?_)
  · refine ok_aload_n 1 hc dX3_note_47 rfl rfl ?_
    refine ok_getr 52 hc FS_X3_29 rfl sX_48 rfl dX3_note_48 ?_
    refine ok_iload_n 2 hc dX3_note_51 rfl rfl ?_
    refine ok_iconst (v := 0) hc dX3_note_52 (by decide) ?_
    refine ok_iast hc sX_52 dX3_note_53 (fun h5 => ?_)
    refine ok_ltS (fun S4 => ?_)
    refine ok_aload_n 1 hc dX3_note_54 rfl rfl ?_
    refine ok_getr 53 hc FS_X3_32 rfl sX_48 rfl dX3_note_55 ?_
    refine ok_iload_n 0 hc dX3_note_58 rfl rfl ?_
    refine ok_dup2 hc dX3_note_59 rfl rfl ?_
    refine ok_iald hc sX_53 dX3_note_60 (fun h6 => ?_)
    refine ok_iconst (v := 1) hc dX3_note_61 (by decide) ?_
    refine ok_iadd hc dX3_note_62 ?_
    refine ok_iast hc sX_53 dX3_note_63 (fun h8 => ?_)
    refine ok_ltS (fun S7 => ?_)
    refine ok_aload_n 1 hc dX3_note_64 rfl rfl ?_
    refine ok_iload_n 2 hc dX3_note_65 rfl rfl ?_
    refine ok_aload_n 1 hc dX3_note_66 rfl rfl ?_
    refine ok_aload_n 1 hc dX3_note_67 rfl rfl ?_
    refine ok_getr 51 hc FS_X3_26 rfl sX_48 rfl dX3_note_68 ?_
    refine ok_iload_n 3 hc dX3_note_71 rfl rfl ?_
    refine ok_iload_n 2 hc dX3_note_72 rfl rfl ?_
    refine ok_callVl (As := [rv Γ 51, .int a2, .int a1]) (st := [.int a1, rv Γ 48]) (fun n0 => [.ref (n0 + 48), .ref (n0 + 51), .int a2, .int a1]) hc VS_X3_82 sX_48 rfl rfl rfl ⟨Nat.le_of_ble_eq_true rfl, Nat.le_of_ble_eq_true rfl⟩ (Nat.le_of_ble_eq_true rfl) (fun q h => tX3_sumOthers 51 a2 a1 sX_51 S7 q h) dX3_note_73 (fun v9 S10 => ?_)
    refine ok_callVi (As := [.int a1, .long v9]) (st := []) (fun n0 => [.ref (n0 + 48), .int a1, .long v9]) hc VS_X3_107 sX_48 rfl rfl rfl ⟨Nat.le_of_ble_eq_true rfl, Nat.le_of_ble_eq_true rfl⟩ (Nat.le_of_ble_eq_true rfl) (fun q h => tX3_isHeardAgainst a1 v9 S10 q h) dX3_note_76 (fun v11 S12 => ?_)
    refine ok_if_eq_ite 92 hc dX3_note_79 (by decide) (fun h13 => ?_) (fun h13 => ?_)
    · exact ok_vret hc rfl dX3_note_92
    · refine ok_aload_n 1 hc dX3_note_82 rfl rfl ?_
      refine ok_getr 54 hc FS_X3_35 rfl sX_48 rfl dX3_note_83 ?_
      refine ok_iload_n 0 hc dX3_note_86 rfl rfl ?_
      refine ok_dup2 hc dX3_note_87 rfl rfl ?_
      refine ok_iald hc sX_54 dX3_note_88 (fun h14 => ?_)
      refine ok_iconst (v := 1) hc dX3_note_89 (by decide) ?_
      refine ok_iadd hc dX3_note_90 ?_
      refine ok_iast hc sX_54 dX3_note_91 (fun h16 => ?_)
      refine ok_ltS (fun S15 => ?_)
      exact ok_vret hc rfl dX3_note_92
  · refine ok_aload_n 1 hc dX3_note_15 rfl rfl ?_
    refine ok_getr 52 hc FS_X3_29 rfl sX_48 rfl dX3_note_16 ?_
    refine ok_iload_n 2 hc dX3_note_19 rfl rfl ?_
    refine ok_dup2 hc dX3_note_20 rfl rfl ?_
    refine ok_iald hc sX_52 dX3_note_21 (fun h17 => ?_)
    refine ok_iconst (v := 1) hc dX3_note_22 (by decide) ?_
    refine ok_iadd hc dX3_note_23 ?_
    refine ok_iast hc sX_52 dX3_note_24 (fun h19 => ?_)
    refine ok_ltS (fun S18 => ?_)
    refine ok_aload_n 1 hc dX3_note_25 rfl rfl ?_
    refine ok_getr 55 hc FS_X3_38 rfl sX_48 rfl dX3_note_26 ?_
    refine ok_iload_n 0 hc dX3_note_29 rfl rfl ?_
    refine ok_aload_n 1 hc dX3_note_30 rfl rfl ?_
    refine ok_getr 55 hc FS_X3_38 rfl sX_48 rfl dX3_note_31 ?_
    refine ok_iload_n 0 hc dX3_note_34 rfl rfl ?_
    refine ok_iald hc sX_55 dX3_note_35 (fun h20 => ?_)
    refine ok_aload_n 1 hc dX3_note_36 rfl rfl ?_
    refine ok_getr 52 hc FS_X3_29 rfl sX_48 rfl dX3_note_37 ?_
    refine ok_iload_n 2 hc dX3_note_40 rfl rfl ?_
    refine ok_iald hc sX_52 dX3_note_41 (fun h21 => ?_)
    refine ok_callSi (As := [.int (S18.1 55 (nt v2)), .int (S18.1 52 (nt a1))]) (st := [.int v2, rv Γ 55]) (fun n0 => [.int (S18.1 55 (nt v2)), .int (S18.1 52 (nt a1))]) hc SS_X3_101 rfl rfl rfl ⟨Nat.le_of_ble_eq_true rfl, Nat.le_of_ble_eq_true rfl⟩ (Nat.le_of_ble_eq_true rfl) (fun q h => tJ9_max_7cf53 wX (S18.1 55 (nt v2)) (S18.1 52 (nt a1)) S18 q h) dX3_note_42 (fun v22 S23 => ?_)
    refine ok_iast hc sX_55 dX3_note_45 (fun h25 => ?_)
    refine ok_ltS (fun S24 => ?_)
    exact ok_vret hc rfl dX3_note_46
def fX3_run_L55_st (kx0 : Int32 → Int32 → St → Option (Int32 × St)) (a2 : Int32) (a3 : Int32) (a5 : Int32) (a6 : Int32) (rec : Int32 → Int32 → Int32 → St → Option (Int32 × St)) (a4 : Int32) (a7 : Int32) (a8 : Int32) (S : St) : Option (Int32 × St) :=
  if (S.1 48 9) ≤ a8 then (kx0 a4 a7 S) else (lt ((1103515245 * a4) + 12345) (fun (v2 : Int32) => if ib a8 20 then (if ib (S.1 49 (nt a8)) 20 then (lt (if (ire (S.1 (19 + nt (S.1 49 (nt a8))) 6) 100) ≤ (ire (ush v2 16) 100) then 0 else 1) (fun (v5 : Int32) => jn (fun (v7 : Int32) (S8 : St) => rec v2 v7 (a8 + 1) S8) (fun k9 => if v5 = 0 then (k9 a7 S) else (bnd (fX3_sumOthers 50 a5 a8 S) (fun v11 S12 => if ((S12.1 2 (nt 3)).toInt64) ≤ v11 then (k9 a7 S12) else (lt (a7 ||| (1 <<< (a8 &&& 31))) (fun (v14 : Int32) => k9 v14 S12))))))) else none) else none))
def fX3_run_L55 (kx0 : Int32 → Int32 → St → Option (Int32 × St)) (a2 : Int32) (a3 : Int32) (a5 : Int32) (a6 : Int32) : Nat → Int32 → Int32 → Int32 → St → Option (Int32 × St)
  | 0 => fun _ _ _ _ => none
  | n + 1 => fun a4 a7 a8 S => fX3_run_L55_st kx0 a2 a3 a5 a6 (fX3_run_L55 kx0 a2 a3 a5 a6 n) a4 a7 a8 S
def fX3_run_L163_st (kx0 : St → Option (Int32 × St)) (a2 : Int32) (a3 : Int32) (a4 : Int32) (a6 : Int32) (a7 : Int32) (rec : Int32 → St → Option (Int32 × St)) (a8 : Int32) (S : St) : Option (Int32 × St) :=
  if (S.1 48 9) ≤ a8 then (kx0 S) else (bnd (fX3_note a8 a7 S) (fun _ S2 => rec (a8 + 1) S2))
def fX3_run_L163 (kx0 : St → Option (Int32 × St)) (a2 : Int32) (a3 : Int32) (a4 : Int32) (a6 : Int32) (a7 : Int32) : Nat → Int32 → St → Option (Int32 × St)
  | 0 => fun _ _ => none
  | n + 1 => fun a8 S => fX3_run_L163_st kx0 a2 a3 a4 a6 a7 (fX3_run_L163 kx0 a2 a3 a4 a6 a7 n) a8 S
def fX3_run_L43_st (a2 : Int32) (rec : Int32 → Int32 → Int32 → Int32 → St → Option (Int32 × St)) (a3 : Int32) (a4 : Int32) (a5 : Int32) (a6 : Int32) (S : St) : Option (Int32 × St) :=
  if a2 ≤ a6 then (some (a3, S)) else (fX3_run_L55 (fun (v2 : Int32) (v3 : Int32) (S4 : St) => fX3_run_L163 (fun (S5 : St) => bnd (fJ6_bitCount_0f7a4 v3 S5) (fun v6 S7 => lt (a3 + v6) (fun (v8 : Int32) => rec v8 v2 v3 (a6 + 1) S7))) a2 a3 v2 a6 v3 FU 0 S4) a2 a3 a5 a6 FU a4 0 0 S)
def fX3_run_L43 (a2 : Int32) : Nat → Int32 → Int32 → Int32 → Int32 → St → Option (Int32 × St)
  | 0 => fun _ _ _ _ _ => none
  | n + 1 => fun a3 a4 a5 a6 S => fX3_run_L43_st a2 (fX3_run_L43 a2 n) a3 a4 a5 a6 S
def fX3_run (a1 : Int32) (a2 : Int32) (S : St) : Option (Int32 × St) :=
  bnd (fJ7_fill_53178 52 20 0 S) (fun _ S1 => bnd (fJ7_fill_53178 53 20 0 S1) (fun _ S2 => bnd (fJ7_fill_53178 54 20 0 S2) (fun _ S3 => bnd (fJ7_fill_53178 55 20 0 S3) (fun _ S4 => fX3_run_L43 a2 FU 0 a1 0 0 S4))))
set_option maxRecDepth 100000 in
set_option maxHeartbeats 4000000 in
theorem tX3_run_L55 {Γ : Cx Int32} (hc : Cok Γ wX vI mX3_run) (kx0 : Int32 → Int32 → St → Option (Int32 × St)) (a2 : Int32) (a3 : Int32) (a5 : Int32) (a6 : Int32) (hx0 : ∀ (a4 : Int32) (a7 : Int32) (S : St), Ok Γ wX 160 [(0, rv Γ 48), (2, .int a2), (3, .int a3), (4, .int a4), (6, .int a6), (7, .int a7)] [] S (kx0 a4 a7 S)) : ∀ (n : Nat) (a4 : Int32) (a7 : Int32) (a8 : Int32) (S : St), Ok Γ wX 55 [(0, rv Γ 48), (2, .int a2), (3, .int a3), (4, .int a4), (5, .int a5), (6, .int a6), (7, .int a7), (8, .int a8)] [] S (fX3_run_L55 kx0 a2 a3 a5 a6 n a4 a7 a8 S) := by
  intro n
  induction n with
  | zero =>
    intro a4 a7 a8 S
    exact ok_none
  | succ n ih =>
    intro a4 a7 a8 S
    show Ok Γ wX 55 [(0, rv Γ 48), (2, .int a2), (3, .int a3), (4, .int a4), (5, .int a5), (6, .int a6), (7, .int a7), (8, .int a8)] [] S (fX3_run_L55_st kx0 a2 a3 a5 a6 (fX3_run_L55 kx0 a2 a3 a5 a6 n) a4 a7 a8 S)
    unfold fX3_run_L55_st
    refine ok_iload 7 hc dX3_run_55 rfl ?_
    refine ok_aload_n 0 hc dX3_run_57 rfl rfl ?_
    refine ok_geti hc FS_X3_41 rfl sX_48 dX3_run_58 ?_
    refine ok_icmp_ge_ite 160 hc dX3_run_61 (by decide) (fun h1 => ?_) (fun h1 => ?_)
    · refine ok_sub [0, 1, 2, 3, 5, 6] rfl ?_
      exact hx0 _ _ _
    · refine ok_ldc hc dX3_run_64 W_778 ?_
      refine ok_iload 3 hc dX3_run_66 rfl ?_
      refine ok_imul hc dX3_run_68 ?_
      refine ok_sipush (v := 12345) hc dX3_run_69 (by decide) ?_
      refine ok_iadd hc dX3_run_72 ?_
      refine ok_lti (fun v2 => ?_)
      refine ok_istore [(4, .int v2), (0, rv Γ 48), (2, .int a2), (3, .int a3), (5, .int a5), (6, .int a6), (7, .int a7), (8, .int a8)] hc dX3_run_73 (Nat.le_of_ble_eq_true rfl) rfl ?_
      refine ok_iload 0 hc dX3_run_75 rfl ?_
      refine ok_bipush (v := 16) hc dX3_run_77 (by decide) ?_
      refine ok_iushr hc dX3_run_79 ?_
      refine ok_bipush (v := 100) hc dX3_run_80 (by decide) ?_
      refine ok_iremK hc dX3_run_82 (by decide) ?_
      refine ok_aload_n 1 hc dX3_run_83 rfl rfl ?_
      refine ok_getr 17 hc FS_X3_13 rfl sX_48 rfl dX3_run_84 ?_
      refine ok_getr 18 hc FS_X3_46 rfl sX_17 rfl dX3_run_87 ?_
      refine ok_aload_n 1 hc dX3_run_90 rfl rfl ?_
      refine ok_getr 49 hc FS_X3_19 rfl sX_48 rfl dX3_run_91 ?_
      refine ok_iload 7 hc dX3_run_94 rfl ?_
      refine ok_iald hc sX_49 dX3_run_96 (fun h3 => ?_)
      refine ok_aald (fun j => 19 + j) "AirParted$Sender" hc sX_18 rfl snd_rf dX3_run_97 (fun h4 => ?_)
      show Ok Γ wX 98 [(4, .int v2), (0, rv Γ 48), (2, .int a2), (3, .int a3), (5, .int a5), (6, .int a6), (7, .int a7), (8, .int a8)] (rv Γ (19 + nt (S.1 49 (nt a8))) :: [.int (ire (ush v2 16) 100)]) S _
      refine ok_geti hc FS_X3_79 rfl (snd_ob h4) dX3_run_98 ?_
      refine ok_bipush (v := 100) hc dX3_run_101 (by decide) ?_
      refine ok_iremK hc dX3_run_103 (by decide) ?_
      refine ok_lt (fun g => ∀ (v5 : Int32), Ok Γ wX 112 [(0, rv Γ 48), (2, .int a2), (3, .int a3), (4, .int v2), (5, .int a5), (6, .int a6), (7, .int a7), (8, .int a8)] [.int v5] S (g v5)) ?_ (fun k6 hk6 => ?_)
      · intro v5
        refine ok_istore [(9, .int v5), (0, rv Γ 48), (2, .int a2), (3, .int a3), (4, .int v2), (5, .int a5), (6, .int a6), (7, .int a7), (8, .int a8)] hc dX3_run_112 (Nat.le_of_ble_eq_true rfl) rfl ?_
        refine ok_iload 0 hc dX3_run_114 rfl ?_
        refine ok_jn (fun g => ∀ (v7 : Int32) (S8 : St), Ok Γ wX 154 [(0, rv Γ 48), (2, .int a2), (3, .int a3), (4, .int v2), (5, .int a5), (6, .int a6), (7, .int v7), (8, .int a8)] [] S8 (g v7 S8)) ?_ (fun k9 hk9 => ?_)
        · intro v7 S8
          refine ok_iinc (v := 1) 7 [(8, .int (a8 + 1)), (0, rv Γ 48), (2, .int a2), (3, .int a3), (4, .int v2), (5, .int a5), (6, .int a6), (7, .int v7)] hc dX3_run_154 rfl (by decide) (Nat.le_of_ble_eq_true rfl) rfl ?_
          refine ok_goto 55 hc dX3_run_157 (by decide) ?_
          refine ok_sub [1, 2, 3, 4, 5, 6, 7, 0] rfl ?_
          exact ih _ _ _ _
        · refine ok_if_eq_ite 154 hc dX3_run_116 (by decide) (fun h10 => ?_) (fun h10 => ?_)
          · refine ok_sub [1, 2, 3, 4, 5, 6, 7, 8] rfl ?_
            exact hk9 _ _
          · refine ok_aload_n 1 hc dX3_run_119 rfl rfl ?_
            refine ok_aload_n 1 hc dX3_run_120 rfl rfl ?_
            refine ok_getr 50 hc FS_X3_23 rfl sX_48 rfl dX3_run_121 ?_
            refine ok_iload 5 hc dX3_run_124 rfl ?_
            refine ok_iload 8 hc dX3_run_126 rfl ?_
            refine ok_callVl (As := [rv Γ 50, .int a5, .int a8]) (st := []) (fun n0 => [.ref (n0 + 48), .ref (n0 + 50), .int a5, .int a8]) hc VS_X3_82 sX_48 rfl rfl rfl ⟨Nat.le_of_ble_eq_true rfl, Nat.le_of_ble_eq_true rfl⟩ (Nat.le_of_ble_eq_true rfl) (fun q h => tX3_sumOthers 50 a5 a8 sX_50 S q h) dX3_run_128 (fun v11 S12 => ?_)
            refine ok_aload_n 1 hc dX3_run_131 rfl rfl ?_
            refine ok_getr 1 hc FS_X3_7 rfl sX_48 rfl dX3_run_132 ?_
            refine ok_getr 2 hc FS_X3_86 rfl sX_1 rfl dX3_run_135 ?_
            refine ok_iconst (v := 3) hc dX3_run_138 (by decide) ?_
            refine ok_ialdK hc sX_2 (by decide) dX3_run_139 ?_
            refine ok_i2l hc dX3_run_140 ?_
            refine ok_lcmp_ge_ite 154 hc dX3_run_141 dX3_run_142 (by decide) (fun h13 => ?_) (fun h13 => ?_)
            · refine ok_sub [1, 2, 3, 4, 5, 6, 7, 8] rfl ?_
              exact hk9 _ _
            · refine ok_iload 7 hc dX3_run_145 rfl ?_
              refine ok_iconst (v := 1) hc dX3_run_147 (by decide) ?_
              refine ok_iload 8 hc dX3_run_148 rfl ?_
              refine ok_ishl hc dX3_run_150 ?_
              refine ok_ior hc dX3_run_151 ?_
              refine ok_lti (fun v14 => ?_)
              refine ok_istore [(7, .int v14), (9, .int v5), (0, rv Γ 48), (2, .int a2), (3, .int a3), (4, .int v2), (5, .int a5), (6, .int a6), (8, .int a8)] hc dX3_run_152 (Nat.le_of_ble_eq_true rfl) rfl ?_
              refine ok_sub [2, 3, 4, 5, 6, 7, 0, 8] rfl ?_
              exact hk9 _ _
      · refine ok_icmp_ge 111 hc dX3_run_104 (by decide) (fun h15 => ?_) (fun h15 => ?_)
        · rw [if_pos h15]
          refine ok_iconst (v := 0) hc dX3_run_111 (by decide) ?_
          refine ok_sub [1, 2, 3, 0, 4, 5, 6, 7] rfl ?_
          exact hk6 _
        · rw [if_neg h15]
          refine ok_iconst (v := 1) hc dX3_run_107 (by decide) ?_
          refine ok_goto 112 hc dX3_run_108 (by decide) ?_
          refine ok_sub [1, 2, 3, 0, 4, 5, 6, 7] rfl ?_
          exact hk6 _
set_option maxRecDepth 100000 in
set_option maxHeartbeats 4000000 in
theorem tX3_run_L163 {Γ : Cx Int32} (hc : Cok Γ wX vI mX3_run) (kx0 : St → Option (Int32 × St)) (a2 : Int32) (a3 : Int32) (a4 : Int32) (a6 : Int32) (a7 : Int32) (hx0 : ∀ (S : St), Ok Γ wX 186 [(0, rv Γ 48), (2, .int a2), (3, .int a3), (4, .int a4), (6, .int a6), (7, .int a7)] [] S (kx0 S)) : ∀ (n : Nat) (a8 : Int32) (S : St), Ok Γ wX 163 [(0, rv Γ 48), (2, .int a2), (3, .int a3), (4, .int a4), (6, .int a6), (7, .int a7), (8, .int a8)] [] S (fX3_run_L163 kx0 a2 a3 a4 a6 a7 n a8 S) := by
  intro n
  induction n with
  | zero =>
    intro a8 S
    exact ok_none
  | succ n ih =>
    intro a8 S
    show Ok Γ wX 163 [(0, rv Γ 48), (2, .int a2), (3, .int a3), (4, .int a4), (6, .int a6), (7, .int a7), (8, .int a8)] [] S (fX3_run_L163_st kx0 a2 a3 a4 a6 a7 (fX3_run_L163 kx0 a2 a3 a4 a6 a7 n) a8 S)
    unfold fX3_run_L163_st
    refine ok_iload 6 hc dX3_run_163 rfl ?_
    refine ok_aload_n 0 hc dX3_run_165 rfl rfl ?_
    refine ok_geti hc FS_X3_41 rfl sX_48 dX3_run_166 ?_
    refine ok_icmp_ge_ite 186 hc dX3_run_169 (by decide) (fun h1 => ?_) (fun h1 => ?_)
    · refine ok_sub [0, 1, 2, 3, 4, 5] rfl ?_
      exact hx0 _
    · refine ok_aload_n 0 hc dX3_run_172 rfl rfl ?_
      refine ok_iload 6 hc dX3_run_173 rfl ?_
      refine ok_iload 5 hc dX3_run_175 rfl ?_
      refine ok_callVu (As := [.int a8, .int a7]) (st := []) (fun n0 => [.ref (n0 + 48), .int a8, .int a7]) hc VS_X3_91 sX_48 rfl rfl rfl ⟨Nat.le_of_ble_eq_true rfl, Nat.le_of_ble_eq_true rfl⟩ (Nat.le_of_ble_eq_true rfl) (fun q h => tX3_note a8 a7 S q h) dX3_run_177 (fun _ S2 => ?_)
      refine ok_iinc (v := 1) 6 [(8, .int (a8 + 1)), (0, rv Γ 48), (2, .int a2), (3, .int a3), (4, .int a4), (6, .int a6), (7, .int a7)] hc dX3_run_180 rfl (by decide) (Nat.le_of_ble_eq_true rfl) rfl ?_
      refine ok_goto 163 hc dX3_run_183 (by decide) ?_
      refine ok_sub [1, 2, 3, 4, 5, 6, 0] rfl ?_
      exact ih _ _
set_option maxRecDepth 100000 in
set_option maxHeartbeats 4000000 in
theorem tX3_run_L43 {Γ : Cx Int32} (hc : Cok Γ wX vI mX3_run) (a2 : Int32) : ∀ (n : Nat) (a3 : Int32) (a4 : Int32) (a5 : Int32) (a6 : Int32) (S : St), Ok Γ wX 43 [(0, rv Γ 48), (2, .int a2), (3, .int a3), (4, .int a4), (5, .int a5), (6, .int a6)] [] S (fX3_run_L43 a2 n a3 a4 a5 a6 S) := by
  intro n
  induction n with
  | zero =>
    intro a3 a4 a5 a6 S
    exact ok_none
  | succ n ih =>
    intro a3 a4 a5 a6 S
    show Ok Γ wX 43 [(0, rv Γ 48), (2, .int a2), (3, .int a3), (4, .int a4), (5, .int a5), (6, .int a6)] [] S (fX3_run_L43_st a2 (fX3_run_L43 a2 n) a3 a4 a5 a6 S)
    unfold fX3_run_L43_st
    refine ok_iload 5 hc dX3_run_43 rfl ?_
    refine ok_iload_n 1 hc dX3_run_45 rfl rfl ?_
    refine ok_icmp_ge_ite 204 hc dX3_run_46 (by decide) (fun h1 => ?_) (fun h1 => ?_)
    · refine ok_iload_n 2 hc dX3_run_204 rfl rfl ?_
      exact ok_iret hc rfl dX3_run_205
    · refine ok_iconst (v := 0) hc dX3_run_49 (by decide) ?_
      refine ok_istore [(7, .int 0), (0, rv Γ 48), (2, .int a2), (3, .int a3), (4, .int a4), (5, .int a5), (6, .int a6)] hc dX3_run_50 (Nat.le_of_ble_eq_true rfl) rfl ?_
      refine ok_iconst (v := 0) hc dX3_run_52 (by decide) ?_
      refine ok_istore [(8, .int 0), (7, .int 0), (0, rv Γ 48), (2, .int a2), (3, .int a3), (4, .int a4), (5, .int a5), (6, .int a6)] hc dX3_run_53 (Nat.le_of_ble_eq_true rfl) rfl ?_
      refine ok_sub [2, 3, 4, 5, 6, 7, 1, 0] rfl ?_
      refine tX3_run_L55 hc _ _ _ _ _  ?_ FU _ _ _ _
      · intro v2 v3 S4
        refine ok_iconst (v := 0) hc dX3_run_160 (by decide) ?_
        refine ok_istore [(8, .int 0), (0, rv Γ 48), (2, .int a2), (3, .int a3), (4, .int v2), (6, .int a6), (7, .int v3)] hc dX3_run_161 (Nat.le_of_ble_eq_true rfl) rfl ?_
        refine ok_sub [1, 2, 3, 4, 5, 6, 0] rfl ?_
        refine tX3_run_L163 hc _ _ _ _ _ _  ?_ FU _ _
        · intro S5
          refine ok_iload_n 2 hc dX3_run_186 rfl rfl ?_
          refine ok_iload 5 hc dX3_run_187 rfl ?_
          refine ok_callSi (As := [.int v3]) (st := [.int a3]) (fun n0 => [.int v3]) hc SS_X3_95 rfl rfl rfl ⟨Nat.le_of_ble_eq_true rfl, Nat.le_of_ble_eq_true rfl⟩ (Nat.le_of_ble_eq_true rfl) (fun q h => tJ6_bitCount_0f7a4 wX v3 S5 q h) dX3_run_189 (fun v6 S7 => ?_)
          refine ok_iadd hc dX3_run_192 ?_
          refine ok_lti (fun v8 => ?_)
          refine ok_istore_n [(3, .int v8), (0, rv Γ 48), (2, .int a2), (4, .int v2), (6, .int a6), (7, .int v3)] hc dX3_run_193 rfl (Nat.le_of_ble_eq_true rfl) rfl ?_
          refine ok_iload 5 hc dX3_run_194 rfl ?_
          refine ok_istore [(5, .int v3), (3, .int v8), (0, rv Γ 48), (2, .int a2), (4, .int v2), (6, .int a6), (7, .int v3)] hc dX3_run_196 (Nat.le_of_ble_eq_true rfl) rfl ?_
          refine ok_iinc (v := 1) 5 [(6, .int (a6 + 1)), (5, .int v3), (3, .int v8), (0, rv Γ 48), (2, .int a2), (4, .int v2), (7, .int v3)] hc dX3_run_198 rfl (by decide) (Nat.le_of_ble_eq_true rfl) rfl ?_
          refine ok_goto 43 hc dX3_run_201 (by decide) ?_
          refine ok_sub [3, 4, 2, 5, 1, 0] rfl ?_
          exact ih _ _ _ _ _
set_option maxRecDepth 100000 in
set_option maxHeartbeats 4000000 in
theorem tX3_run (a1 : Int32) (a2 : Int32) (S : St) (q : Int32 × St) (h : fX3_run a1 a2 S = some q) : MT vI wX mX3_run (fun n0 => [.ref (n0 + 48), .int a1, .int a2]) S q := by
  refine mt_of (show plainFor yX3_run = true from by decide) (fun _ => Nat.le_of_ble_eq_true rfl) ?_
  intro Γ hc _
  rw [← h]
  show Ok Γ wX 0 [(0, rv Γ 48), (1, .int a1), (2, .int a2)] [] S _
  unfold fX3_run
  refine ok_aload_n 0 hc dX3_run_0 rfl rfl ?_
  refine ok_getr 52 hc FS_X3_29 rfl sX_48 rfl dX3_run_1 ?_
  refine ok_iconst (v := 0) hc dX3_run_4 (by decide) ?_
  refine ok_callSu (As := [rv Γ 52, .int 0]) (st := []) (fun n0 => [.ref (n0 + 52), .int 0]) hc SS_X3_72 rfl rfl rfl ⟨Nat.le_of_ble_eq_true rfl, Nat.le_of_ble_eq_true rfl⟩ (Nat.le_of_ble_eq_true rfl) (fun q h => tJ7_fill_53178 wX 52 20 0 sX_52 S q h) dX3_run_5 (fun _ S1 => ?_)
  refine ok_aload_n 0 hc dX3_run_8 rfl rfl ?_
  refine ok_getr 53 hc FS_X3_32 rfl sX_48 rfl dX3_run_9 ?_
  refine ok_iconst (v := 0) hc dX3_run_12 (by decide) ?_
  refine ok_callSu (As := [rv Γ 53, .int 0]) (st := []) (fun n0 => [.ref (n0 + 53), .int 0]) hc SS_X3_72 rfl rfl rfl ⟨Nat.le_of_ble_eq_true rfl, Nat.le_of_ble_eq_true rfl⟩ (Nat.le_of_ble_eq_true rfl) (fun q h => tJ7_fill_53178 wX 53 20 0 sX_53 S1 q h) dX3_run_13 (fun _ S2 => ?_)
  refine ok_aload_n 0 hc dX3_run_16 rfl rfl ?_
  refine ok_getr 54 hc FS_X3_35 rfl sX_48 rfl dX3_run_17 ?_
  refine ok_iconst (v := 0) hc dX3_run_20 (by decide) ?_
  refine ok_callSu (As := [rv Γ 54, .int 0]) (st := []) (fun n0 => [.ref (n0 + 54), .int 0]) hc SS_X3_72 rfl rfl rfl ⟨Nat.le_of_ble_eq_true rfl, Nat.le_of_ble_eq_true rfl⟩ (Nat.le_of_ble_eq_true rfl) (fun q h => tJ7_fill_53178 wX 54 20 0 sX_54 S2 q h) dX3_run_21 (fun _ S3 => ?_)
  refine ok_aload_n 0 hc dX3_run_24 rfl rfl ?_
  refine ok_getr 55 hc FS_X3_38 rfl sX_48 rfl dX3_run_25 ?_
  refine ok_iconst (v := 0) hc dX3_run_28 (by decide) ?_
  refine ok_callSu (As := [rv Γ 55, .int 0]) (st := []) (fun n0 => [.ref (n0 + 55), .int 0]) hc SS_X3_72 rfl rfl rfl ⟨Nat.le_of_ble_eq_true rfl, Nat.le_of_ble_eq_true rfl⟩ (Nat.le_of_ble_eq_true rfl) (fun q h => tJ7_fill_53178 wX 55 20 0 sX_55 S3 q h) dX3_run_29 (fun _ S4 => ?_)
  refine ok_iconst (v := 0) hc dX3_run_32 (by decide) ?_
  refine ok_istore_n [(3, .int 0), (0, rv Γ 48), (1, .int a1), (2, .int a2)] hc dX3_run_33 rfl (Nat.le_of_ble_eq_true rfl) rfl ?_
  refine ok_iload_n 2 hc dX3_run_34 rfl rfl ?_
  refine ok_istore [(4, .int a1), (3, .int 0), (0, rv Γ 48), (1, .int a1), (2, .int a2)] hc dX3_run_35 (Nat.le_of_ble_eq_true rfl) rfl ?_
  refine ok_iconst (v := 0) hc dX3_run_37 (by decide) ?_
  refine ok_istore [(5, .int 0), (4, .int a1), (3, .int 0), (0, rv Γ 48), (1, .int a1), (2, .int a2)] hc dX3_run_38 (Nat.le_of_ble_eq_true rfl) rfl ?_
  refine ok_iconst (v := 0) hc dX3_run_40 (by decide) ?_
  refine ok_istore [(6, .int 0), (5, .int 0), (4, .int a1), (3, .int 0), (0, rv Γ 48), (1, .int a1), (2, .int a2)] hc dX3_run_41 (Nat.le_of_ble_eq_true rfl) rfl ?_
  refine ok_sub [4, 6, 3, 2, 1, 0] rfl ?_
  refine tX3_run_L43 hc _   FU _ _ _ _ _
