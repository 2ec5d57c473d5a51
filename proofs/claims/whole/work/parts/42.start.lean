
/-! ===== the start: the classes, the two objects, then the loop ===== -/
/-! THE CLAIM OUT OF ONE WALK OF THE LAW'S BODY. Your part is whole_start (and what it stands on); all else here is the same for every law, but numbers. -/
def R_law : String := "AirPartedLaw"
def lw_P (b : Addr) (xs : List Int32) (args : Array Value) (s : State) : Prop := args = #[.ref b] ∧ s.IntsAt b xs ∧ xs.length ≤ 3584 ∧ (Jvm.Cond.and given_1 narrow_1).before args s = true
def lw_Q (_ : Array Value) (s : State) (o : Outcome) (t : State) : Prop := o = .returned (some (.int 1)) ∧ Framed s o t [] 600000 7302250
def lw_Z (below : List Frame) (a : Array Value) (s : State) : State → Prop := fun t => ∃ o, t.status = .running ∧ Ended t below o ∧ lw_Q a s o t
/-- the law's own end, with 1 on the stack, nothing written that was there before, its room as the claim has it -/
theorem lw_ret {p : Program} {l : Launch} {e : Env} {s : State} {m : MethodId} {below : List Frame} {meth : Method} {c : Code} {b : Nat} (hx : p.tables.exec = Jvm.exec) (hb : c.code = code) (hr : meth.sig.returnType = ret) (hlocks : meth.locks = false) {pc : Nat} {H : Heap} {ls : Array Slot} (hdg : decode code pc = .ok (.ireturn, 1)) : W p l e room_1 s m #[Value.ref b] below meth c H [] 600000 7302250 (lw_Z below #[Value.ref b] s) (F0 m pc ls [.int 1]) := by
  intro T hT X
  obtain ⟨fs, hret, hrun, hended, hW, hframe⟩ := X.leave (v := some (.int 1)) (hlocks := hlocks) (fun h => by rw [hr] at h; cases h)
  have hmeth' : T.vm.method? m = some meth := X.method'
  refine ⟨T.setFrames fs, ?_, .returned (some (.int 1)), hrun, hended, rfl, ⟨_, rfl⟩, hW, hframe⟩
  jvm_step X.here [X.here.top, hx, hb, hdg, hmeth', hr, ret, narrow_b1]
  (try refine ⟨rfl, ?_⟩); (try refine ⟨rfl, ?_⟩)
  first | (intro acts; rw [hret _ acts rfl rfl rfl]) | rw [hret _ _ rfl rfl rfl]
  exact Steps.refl _
/-- what holds at the law's entry: the machine, the code, the tables' words (any of lw_tbl by 'hts w (by decide +kernel)'), the script of L ints xs at the cell b, what the Statement gives of the start (any of its parts by flat_of_before) -/
def lw_At (p : Program) (s : State) (m : MethodId) (meth : Method) (c : Code) (b L : Nat) (xs : Nat → Int32) : Prop :=
  p.tables.exec = Jvm.exec ∧ c.code = code ∧ meth.sig.returnType = ret ∧ c.maxLocals = 4 ∧ s.vm.findClass R_law = some m.cls ∧ (∀ w ∈ lw_tbl, w.before #[Value.ref b] s = true) ∧ va_X b L xs s s.heap ∧ b < s.heap.size ∧ meth.locks = false ∧ (Jvm.Cond.and given_1 narrow_1).before #[Value.ref b] s = true
theorem NW_at {w : Cond} (h : w ∈ NW) {s : State} {args : Array Value} (hZ : w.before args s = true) : va_Nw w s := by
  have hn := (List.mem_filter.mp h).2
  cases w with
  | fieldLinkNest _ _ _ _ _ _ => exact va_Nw.of rfl hZ
  | methodLinkNest _ _ _ _ => exact va_Nw.of rfl hZ
  | arrayOver t =>
    cases t with
    | object C => exact va_AO.of hZ
    | _ => simp [isNest] at hn
  | _ => simp [isNest] at hn
def wX0 : Wx := (wX.1, 0, fun _ _ => none)
def wM0 : Wx := (wM.1, 0, fun _ _ => none)
def S00 : St := (fun _ _ => 0, fun _ _ => 0)
theorem fr_X0 : Fr wX0 S00 := fun _ _ => ⟨fun _ => rfl, fun _ => rfl, fun _ => rfl⟩
theorem fr_M0 : Fr wM0 S00 := fun _ _ => ⟨fun _ => rfl, fun _ => rfl, fun _ => rfl⟩
theorem wl_same {D : va_G} {ids : Nat → ClassId} {n0 : Nat} {w w' : Wx} {S : St} {H : Heap} (h1 : w.1 = w'.1) (h2 : w.2.1 = w'.2.1) (h3 : ∀ k, k < w'.2.1 → ((w'.1 k).1 = 0 ∨ 4 ≤ (w'.1 k).1) → ∀ j, j < (w'.1 k).2.2 → w.2.2 k j = w'.2.2 k j) (h : va_P D vwCl (wl ids n0 w S) H) : va_P D vwCl (wl ids n0 w' S) H := by
  refine pwl_of (fun k hk => ?_)
  have hat := pwl_at h (k := k) (by rw [h2]; exact hk)
  have e : w.1 k = w'.1 k := by rw [h1]
  generalize hs : w'.1 k = q at e h3
  obtain ⟨t, ci, n⟩ := q
  have h3k := h3 k hk
  rw [hs] at h3k
  by_cases t0 : t = 0
  · subst t0
    rw [wcell_ob e] at hat
    rw [wcell_ob hs]
    have : fsOf n0 w S k ci n = fsOf n0 w' S k ci n := by
      unfold fsOf
      apply List.map_congr_left
      intro j hj
      rw [h3k (Or.inl rfl) j (List.mem_range.mp hj)]
    rw [← this]; exact hat
  · by_cases t1 : t = 1
    · subst t1; simp only [wcell, e, hs] at hat ⊢; exact hat
    · by_cases t2 : t = 2
      · subst t2; simp only [wcell, e, hs] at hat ⊢; exact hat
      · by_cases t3 : t = 3
        · subst t3; simp only [wcell, e, hs] at hat ⊢; exact hat
        · have g4 := h3k (Or.inr (by show 4 ≤ t; omega))
          have ea : ∀ v : Wx, v.1 k = (t, ci, n) → wcell ids n0 v S k = .inl (ids (ci + 3), n, .inr (.inr (.inr (.inr (fun i => (v.2.2 k i).map (fun q => n0 + q)))))) := fun v hv => by
            simp [wcell, hv, t0, t1, t2, t3]
          rw [ea w e] at hat
          rw [ea w' hs]
          have hh : H[n0 + k]? = some (vp_cell (ids (ci + 3)) (n, .inr (.inr (.inr (.inr (fun i => (w.2.2 k i).map (fun q => n0 + q))))))) := hat
          show H[n0 + k]? = some (vp_cell _ _)
          rw [hh, vp_cell_q, vp_cell_q]
          congr 1
          unfold arrV
          congr 2
          funext j
          show va_rf ((w.2.2 k j.val).map (fun q => n0 + q)) = va_rf ((w'.2.2 k j.val).map (fun q => n0 + q))
          rw [g4 j.val j.isLt]
theorem wX_made : ∀ k, k < wX.2.1 → ((wX.1 k).1 = 0 ∨ 4 ≤ (wX.1 k).1) → ∀ j, j < (wX.1 k).2.2 → (iW_X11_init (wN wX0)).2.2 k j = wX.2.2 k j := by decide +kernel
theorem wM_made : ∀ k, k < wM.2.1 → ((wM.1 k).1 = 0 ∨ 4 ≤ (wM.1 k).1) → ∀ j, j < (wM.1 k).2.2 → (iW_X12_init (wN wM0)).2.2 k j = wM.2.2 k j := by decide +kernel
theorem st_ZS {s : State} {args : Array Value} (n0 : Nat) (hn : n0 = s.heap.size) (nm : String) (xs : Nat → Int32) (hl : (Cond.laysStatic "AirParted$Told" nm "[I").before args s = true) (hini : (Cond.initialized "AirParted$Told").before args s = true) (ha : (Cond.arrayOf (.static "AirParted$Told" nm "[I") .int).before args s = true) (hle : (Cond.eq (.length (.static "AirParted$Told" nm "[I")) (.int 5)).before args s = true) (hel : ∀ j : Nat, j < 5 → (Cond.eq (.elem (.static "AirParted$Told" nm "[I") (.int (Int32.ofNat j))) (.int (xs j))).before args s = true) : ∃ a, ZS1 n0 s nm xs a := by
  subst hn
  have hA : ∀ a : Nat, a < s.heap.size → ¬ (fun q : Nat => s.heap.size ≤ q) a := fun a h => Nat.not_le.mpr h
  obtain ⟨t, ht, hT⟩ := va_Tof (N := 5) (f := fun j => .int (xs j)) (A := fun q : Nat => s.heap.size ≤ q) (by decide) ha (va_eqt hle) (fun j hj => va_eqt (hel j hj)) hA
  exact ⟨t, va_Zof hl hini ht hA, hT⟩
theorem st_ids {s : State} {args : Array Value} (h1 : (Cond.arrayClass .int).before args s = true) (h2 : (Cond.arrayClass .boolean).before args s = true) (h3 : (Cond.arrayClass .long).before args s = true) (h4 : (Cond.arrayOver (.object "AirParted$Sheet")).before args s = true) (h5 : (Cond.arrayOver (.object "AirParted$Sender")).before args s = true) : ∃ ids : Nat → ClassId, ∀ (k : Nat) (q : ClassId × FieldType), (wtys ids)[k]? = some q → ArrOfT s q.1 q.2 ∧ va_RA s q.1 q.2 := by
  obtain ⟨c1, k1, p1, a1, b1, d1⟩ := Cond.arrayClass_spec h1
  obtain ⟨c2, k2, p2, a2, b2, d2⟩ := Cond.arrayClass_spec h2
  obtain ⟨c3, k3, p3, a3, b3, d3⟩ := Cond.arrayClass_spec h3
  obtain ⟨p4, c4, k4, a4, -, b4, d4, e4⟩ := Cond.arrayOver_spec h4
  obtain ⟨p5, c5, k5, a5, -, b5, d5, e5⟩ := Cond.arrayOver_spec h5
  refine ⟨fun k => match k with | 0 => c1 | 1 => c2 | 2 => c3 | 3 => c4 | _ => c5, fun k q hq => ?_⟩
  match k, hq with
  | 0, hq => cases hq; exact ⟨fun n z => ⟨fun k h => (by cases h), k1, b1, p1, d1⟩, a1⟩
  | 1, hq => cases hq; exact ⟨fun n z => ⟨fun k h => (by cases h), k2, b2, p2, d2⟩, a2⟩
  | 2, hq => cases hq; exact ⟨fun n z => ⟨fun k h => (by cases h), k3, b3, p3, d3⟩, a3⟩
  | 3, hq => cases hq; exact ⟨fun n z => ⟨fun k h => (by cases h), k4, b4, p4, d4⟩, ⟨k4, p4, b4, d4, a4, e4⟩⟩
  | 4, hq => cases hq; exact ⟨fun n z => ⟨fun k h => (by cases h), k5, b5, p5, d5⟩, ⟨k5, p5, b5, d5, a5, e5⟩⟩
  | k + 5, hq => simp [wtys] at hq
set_option maxRecDepth 100000 in
set_option maxHeartbeats 8000000 in
theorem whole_open {P : Nat → St → St → Prop} (hinit : P 0 (iS_X11_init S00) (iS_X12_init S00)) (hP0 : ∀ n Sx Sm, P n Sx Sm → P (n + 1) Sx Sm) (hq : Pairs P) {p : Program} {e : Env} {s : State} {m : MethodId} {below : List Frame} {meth : Method} {c : Code} (l : Launch) {b L : Nat} {xs : Nat → Int32} (hL : L ≤ 3584) (C0 : lw_At p s m meth c b L xs) : W p l e room_1 s m #[Value.ref b] below meth c s.heap [] 0 0 (lw_Z below #[Value.ref b] s) (entryFrame m ([Value.ref b] : List Value).toArray 4) := by
  obtain ⟨hq0, hq1, hq2, hq3, hq4, hq5, hq6, hq7, hq8, hq9, hq10, hq11, hq12, hq13, hq14, hq15, hq16, hq17, hq18, hq19, hq20, hq21, hq22, hq23, hq24, hq25, hq26, hq27, hq28, hq29, hq30, hq31, hq32, hq33, hq34, hq35, hq36, hq37, hq38, hq39, hq40, hq41, hq42, hq43, hq44, hq45, hq46, hq47, hq48, hq49, hq50, hq51, hq52⟩ := hq
  obtain ⟨hx, hb, hr, hml, hown, hts, hX, hbl, hlocks, hgv⟩ := C0
  have hWT : ∀ z ∈ WT, z.before #[Value.ref b] s = true := fun z hz => hts z (List.mem_filter.mp hz).1
  have hTB : ∀ z ∈ tables_1, z.before #[Value.ref b] s = true := fun z hz => hts z (List.mem_append_right _ hz)
  have hNW : ∀ z ∈ NW, va_Nw z s := fun z hz => NW_at hz (hTB z (List.mem_filter.mp hz).1)
  have hgs := flat_of_before _ hgv
  obtain ⟨aL, hZL⟩ := st_ZS s.heap.size rfl "LEAST" tlL (hTB _ (List.mem_of_getElem? (i := 490) (by decide +kernel))) (hTB _ (List.mem_of_getElem? (i := 2) (by decide +kernel))) (hgs _ (by decide +kernel)) (hgs _ (by decide +kernel)) (fun j hj => by
    match j, hj with
    | 0, _ => exact hgs _ (by decide +kernel)
    | 1, _ => exact hgs _ (by decide +kernel)
    | 2, _ => exact hgs _ (by decide +kernel)
    | 3, _ => exact hgs _ (by decide +kernel)
    | 4, _ => exact hgs _ (by decide +kernel))
  obtain ⟨aG, hZG⟩ := st_ZS s.heap.size rfl "GREATEST" tlG (hTB _ (List.mem_of_getElem? (i := 492) (by decide +kernel))) (hTB _ (List.mem_of_getElem? (i := 2) (by decide +kernel))) (hgs _ (by decide +kernel)) (hgs _ (by decide +kernel)) (fun j hj => by
    match j, hj with
    | 0, _ => exact hgs _ (by decide +kernel)
    | 1, _ => exact hgs _ (by decide +kernel)
    | 2, _ => exact hgs _ (by decide +kernel)
    | 3, _ => exact hgs _ (by decide +kernel)
    | 4, _ => exact hgs _ (by decide +kernel))
  obtain ⟨ids, hids⟩ := st_ids (hTB _ (List.mem_of_getElem? (i := 42) (by decide +kernel))) (hTB _ (List.mem_of_getElem? (i := 240) (by decide +kernel))) (hTB _ (List.mem_of_getElem? (i := 71) (by decide +kernel))) (hTB _ (List.mem_of_getElem? (i := 44) (by decide +kernel))) (hTB _ (List.mem_of_getElem? (i := 103) (by decide +kernel)))
  obtain ⟨c0, j0, hKn0⟩ := u_known (C := RX0) (T := TX0) (N := 9) (n := 9) hWT uwX0 (hTB _ (List.mem_of_getElem? (i := 97) (by decide +kernel)))
  obtain ⟨c1, j1, hKn1⟩ := u_known (C := RX1) (T := TX1) (N := 3) (n := 3) hWT uwX1 (hTB _ (List.mem_of_getElem? (i := 283) (by decide +kernel)))
  obtain ⟨c2, j2, hKn2⟩ := u_known (C := RX2) (T := TX2) (N := 5) (n := 5) hWT uwX2 (hTB _ (List.mem_of_getElem? (i := 73) (by decide +kernel)))
  obtain ⟨c3, j3, hKn3⟩ := u_known (C := RX3) (T := TX3) (N := 10) (n := 10) hWT uwX3 (hTB _ (List.mem_of_getElem? (i := 242) (by decide +kernel)))
  obtain ⟨c4, j4, hKn4⟩ := u_known (C := RX4) (T := TX4) (N := 9) (n := 9) hWT uwX4 (hTB _ (List.mem_of_getElem? (i := 203) (by decide +kernel)))
  obtain ⟨c5, j5, hKn5⟩ := u_known (C := RX5) (T := TX5) (N := 11) (n := 11) hWT uwX5 (hTB _ (List.mem_of_getElem? (i := 104) (by decide +kernel)))
  obtain ⟨c6, j6, hKn6⟩ := u_known (C := RX6) (T := TX6) (N := 4) (n := 4) hWT uwX6 (hTB _ (List.mem_of_getElem? (i := 45) (by decide +kernel)))
  obtain ⟨c7, j7, hKn7⟩ := u_known (C := RX7) (T := TX7) (N := 11) (n := 11) hWT uwX7 (hTB _ (List.mem_of_getElem? (i := 300) (by decide +kernel)))
  obtain ⟨c8, j8, hKn8⟩ := u_known (C := RX8) (T := TX8) (N := 1) (n := 1) hWT uwX8 (hTB _ (List.mem_of_getElem? (i := 27) (by decide +kernel)))
  obtain ⟨c9, j9, hKn9⟩ := u_known (C := RX9) (T := TX9) (N := 14) (n := 14) hWT uwX9 (hTB _ (List.mem_of_getElem? (i := 365) (by decide +kernel)))
  obtain ⟨c10, j10, hKn10⟩ := u_known (C := RX10) (T := TX10) (N := 4) (n := 4) hWT uwX10 (hTB _ (List.mem_of_getElem? (i := 343) (by decide +kernel)))
  obtain ⟨c11, j11, hKn11⟩ := u_known (C := RX11) (T := TX11) (N := 12) (n := 12) hWT uwX11 (hTB _ (List.mem_of_getElem? (i := 19) (by decide +kernel)))
  obtain ⟨c12, j12, hKn12⟩ := u_known (C := RX12) (T := TX12) (N := 58) (n := 58) hWT uwX12 (hTB _ (List.mem_of_getElem? (i := 1082) (by decide +kernel)))
  obtain ⟨D, hKc⟩ : ∃ D : va_G, ∀ (k : Nat) (q : vw_C), vwCl[k]? = some q → u_Kn s q.1 q.2.1 q.2.2 (D.1 k) (D.2 k) := by
    refine ⟨(fun k => match k with | 0 => c0 | 1 => c1 | 2 => c2 | 3 => c3 | 4 => c4 | 5 => c5 | 6 => c6 | 7 => c7 | 8 => c8 | 9 => c9 | 10 => c10 | 11 => c11 | _ => c12, fun k => match k with | 0 => j0 | 1 => j1 | 2 => j2 | 3 => j3 | 4 => j4 | 5 => j5 | 6 => j6 | 7 => j7 | 8 => j8 | 9 => j9 | 10 => j10 | 11 => j11 | _ => j12), ?_⟩
    intro k q hq
    match k, hq with
    | 0, hq => cases hq; exact hKn0
    | 1, hq => cases hq; exact hKn1
    | 2, hq => cases hq; exact hKn2
    | 3, hq => cases hq; exact hKn3
    | 4, hq => cases hq; exact hKn4
    | 5, hq => cases hq; exact hKn5
    | 6, hq => cases hq; exact hKn6
    | 7, hq => cases hq; exact hKn7
    | 8, hq => cases hq; exact hKn8
    | 9, hq => cases hq; exact hKn9
    | 10, hq => cases hq; exact hKn10
    | 11, hq => cases hq; exact hKn11
    | 12, hq => cases hq; exact hKn12
    | k + 13, hq => simp [vwCl] at hq
  have hK : va_K D vwCl (wtys ids) s := ⟨hKc, hids⟩
  have hc : Cg (p, l, e, room_1, s, m, #[Value.ref b], below, meth, c) 4 cL_law "AirPartedLaw" D ids := ⟨hx, hb, hml, hown, hWT, hNW, hK⟩
  have hC : LawC (p, l, e, room_1, s, m, #[Value.ref b], below, meth, c) D ids s.heap.size b L xs aL aG := ⟨hc, hX, hbl, rfl, rfl, hZL, hZG⟩
  have hl := lv_entry ([.ref b]) (n := 4) (Nat.le_of_ble_eq_true rfl)
  rw [lg_entry_eq]
  generalize (lg_sl ([.ref b]) ++ List.replicate (4 - (lg_sl ([.ref b])).length) Slot.unset).toArray = ls at hl ⊢
  have hl : lv_has ls 4 [(0, .ref b)] := hl
  have main : Og (p, l, e, room_1, s, m, #[Value.ref b], below, meth, c) 4 (lw_Z below #[Value.ref b] s) (PsI s D ids s.heap.size wX0 S00) 0 0 0 [(0, .ref b)] [] := by
    refine oi_new hc NC_11 W_18 rfl ⟨Nat.le_of_ble_eq_true rfl, Nat.le_of_ble_eq_true rfl⟩ dL_law_0 ?_
    refine og_dup hc dL_law_3 rfl ?_
    refine oi_call (k := 0) (As := []) (st := [.ref (s.heap.size + 0)]) (fun n0 => [.ref (n0 + 0)]) hc SI_L_9 (i_X11_init _ _ rfl rfl) rfl rfl rfl ⟨Nat.le_of_ble_eq_true rfl, Nat.le_of_ble_eq_true rfl⟩ ⟨Nat.le_of_ble_eq_true rfl, Nat.le_of_ble_eq_true rfl⟩ (Nat.le_of_ble_eq_true rfl) dL_law_4 ?_
    refine og_astore_n [(1, .ref (s.heap.size + 0)), (0, .ref b)] hc dL_law_7 rfl (by decide) rfl ?_
    intro H locs ls hI hl
    refine va_forget (fun q hq => hI.2.2.2.2.2 q hq) ?_
    have hsz : H.size = s.heap.size + 79 := hI.1
    have hPX : va_P D vwCl (wl ids s.heap.size wX (iS_X11_init S00)) H := wl_same (w := iW_X11_init (wN wX0)) rfl rfl wX_made hI.2.2.1
    have key : Og (p, l, e, room_1, s, m, #[Value.ref b], below, meth, c) 4 (lw_Z below #[Value.ref b] s) (PsI { s with heap := H } D ids (s.heap.size + 79) wM0 S00) 79 5283 8 [(1, .ref (s.heap.size + 0)), (0, .ref b)] [] := by
      refine oi_new hc NC_12 W_1081 rfl ⟨Nat.le_of_ble_eq_true rfl, Nat.le_of_ble_eq_true rfl⟩ dL_law_8 ?_
      refine og_dup hc dL_law_11 rfl ?_
      refine oi_call (k := 0) (As := []) (st := [.ref (s.heap.size + 79 + 0)]) (fun n0 => [.ref (n0 + 0)]) hc SI_L_12 (i_X12_init _ _ rfl rfl) rfl rfl rfl ⟨Nat.le_of_ble_eq_true rfl, Nat.le_of_ble_eq_true rfl⟩ ⟨Nat.le_of_ble_eq_true rfl, Nat.le_of_ble_eq_true rfl⟩ (Nat.le_of_ble_eq_true rfl) dL_law_12 ?_
      refine og_astore_n [(2, .ref (s.heap.size + 79 + 0)), (1, .ref (s.heap.size + 0)), (0, .ref b)] hc dL_law_15 rfl (by decide) rfl ?_
      refine og_iconst (v := 0) hc dL_law_16 (by decide) ?_
      refine og_istore_n [(3, .int 0), (2, .ref (s.heap.size + 79 + 0)), (1, .ref (s.heap.size + 0)), (0, .ref b)] hc dL_law_17 rfl (by decide) rfl ?_
      intro H2 locs2 ls2 hI2 hl2
      have hPM : va_P D vwCl (wl ids (s.heap.size + 79) wM (iS_X12_init S00)) H2 := wl_same (w := iW_X12_init (wN wM0)) rfl rfl wM_made hI2.2.2.1
      have hS2 := hI2.2.2.2
      have hPX2 : va_P D vwCl (wl ids s.heap.size wX (iS_X11_init S00)) H2 := hPX.kept (fun k q hq => by
        obtain ⟨h1, rfl⟩ := wl_of hq
        have h1 : k < 79 := h1
        exact hS2.2.1 (s.heap.size + k) (by show s.heap.size + k < H.size; omega) (fun z => by have z : s.heap.size + 79 ≤ s.heap.size + k := z; omega))
      have hSl : va_S (AI s.heap.size) s.heap H2 locs2 := ⟨Nat.le_trans hI.2.2.2.1 hS2.1, fun q h1 h2 => (hS2.2.1 q (Nat.lt_of_lt_of_le h1 hI.2.2.2.1) (fun z => by have z : s.heap.size + 79 ≤ q := z; omega)).trans (hI.2.2.2.2.1 q h1 h2), fun q hq => Nat.le_trans (Nat.le_add_right _ 79) (hS2.2.2 q hq)⟩
      exact law_loop hC ⟨Nat.le_of_ble_eq_true rfl, Nat.le_of_ble_eq_true rfl⟩ hL (fun Sx Sm pc lv hd H3 locs3 ls3 hP3 hl3 => va_forget (fun q hq => hP3.2.2.2.2 q hq) (W.widen (k := 600000) (n := 7302250) (by decide) (by decide) (lw_ret hx hb hr hlocks hd))) hP0 hq0 hq1 hq2 hq3 hq4 hq5 hq6 hq7 hq8 hq9 hq10 hq11 hq12 hq13 hq14 hq15 hq16 hq17 hq18 hq19 hq20 hq21 hq22 hq23 hq24 hq25 hq26 hq27 hq28 hq29 hq30 hq31 hq32 hq33 hq34 hq35 hq36 hq37 hq38 hq39 hq40 hq41 hq42 hq43 hq44 hq45 hq46 hq47 hq48 hq49 hq50 hq51 hq52 (L + 8) 0 _ _ (by omega) (by omega) hinit H2 locs2 ls2 ⟨hPX2, hPM, hSl⟩ (lv_sub hl2 [3, 2, 1, 0] rfl)
    exact key H [] ls ⟨by show H.size = s.heap.size + 79 + 0; omega, fr_M0, fun k q hk => by simp [wl, wM0] at hk, va_S.rf⟩ hl
  exact main s.heap [] ls ⟨rfl, fr_X0, fun k q hk => by simp [wl, wX0] at hk, va_S.rf⟩ hl
