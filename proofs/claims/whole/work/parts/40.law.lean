
/-! ===== the law: the class's world at n0, the reference's behind it ===== -/
def PsL (s : State) (D : va_G) (ids : Nat → ClassId) (n0 : Nat) (Sx Sm : St) (H : Heap) (locs : List Loc) : Prop := va_P D vwCl (wl ids n0 wX Sx) H ∧ va_P D vwCl (wl ids (n0 + 79) wM Sm) H ∧ va_S (AI n0) s.heap H locs
/-- what stands through the law's run -/
def LawC (X : Mx) (D : va_G) (ids : Nat → ClassId) (n0 b L : Nat) (xs : Nat → Int32) (aL aG : Nat) : Prop := Cg X 4 cL_law "AirPartedLaw" D ids ∧ va_X b L xs X.2.2.2.2.1 X.2.2.2.2.1.heap ∧ b < X.2.2.2.2.1.heap.size ∧ n0 = X.2.2.2.2.1.heap.size ∧ X.2.2.2.1 = room_1 ∧ ZS n0 X.2.2.2.2.1 aL aG
section OGL
variable {X : Mx} {D : va_G} {ids : Nat → ClassId} {n0 b L aL aG : Nat} {xs : Nat → Int32} {Q : State → Prop} {cs sl pc : Nat} {lv : List (Nat × Value)} {st : List Value} {Sx Sm : St}
theorem ol_sld {i : Int32} (h : LawC X D ids n0 b L xs aL aG) (hin : ib i L) (hd : decode cL_law pc = .ok (.iaload, 1)) (kk : Og X 4 Q (PsL X.2.2.2.2.1 D ids n0 Sx Sm) cs sl (pc + 1) lv (.int (xs (nt i)) :: st)) : Og X 4 Q (PsL X.2.2.2.2.1 D ids n0 Sx Sm) cs sl pc lv (.int i :: .ref b :: st) := fun H locs ls hP hl => va_sld h.1.1 h.1.2.1 h.2.1 h.2.2.1 (show ¬ AI n0 b from fun z => by have z : n0 ≤ b := z; have := h.2.2.1; rw [← h.2.2.2.1] at this; omega) hP.2.2 hin hd (kk H locs ls hP hl)
theorem ol_slen (h : LawC X D ids n0 b L xs aL aG) (hd : decode cL_law pc = .ok (.arraylength, 1)) (kk : Og X 4 Q (PsL X.2.2.2.2.1 D ids n0 Sx Sm) cs sl (pc + 1) lv (.int (nI L) :: st)) : Og X 4 Q (PsL X.2.2.2.2.1 D ids n0 Sx Sm) cs sl pc lv (.ref b :: st) := fun H locs ls hP hl => va_slen h.1.1 h.1.2.1 h.2.1 h.2.2.1 (show ¬ AI n0 b from fun z => by have z : n0 ≤ b := z; have := h.2.2.1; rw [← h.2.2.2.1] at this; omega) hP.2.2 hd (kk H locs ls hP hl)
theorem AA_AI {n0 n1 : Nat} {w : Wx} (h : n0 ≤ n1) : ∀ q, AA n1 w q → AI n0 q := fun q hq => Nat.le_trans h hq.1
/-- a call of the class's object: the reference's world stays -/
theorem ol_call {β : Type} {κ : β → Option Value} {ν : Md} {As stk : List Value} {q : β × St} {i n ci nf n1 : Nat} {w : Wx} {S : St} {Pc : Array Value → State → Prop} {Ψ1 Ψ2 : Heap → List Loc → Prop} (hc : Cg X 4 cL_law "AirPartedLaw" D ids) (hR0 : X.2.2.2.1 = room_1) (hs : Sv "AirPartedLaw" i ν ci nf n) (ho : Iob w 0 ci nf) (hstk : stk = As.reverse ++ .ref n1 :: st) (hn : As.length = n) (hR : ν.2.2.2.2.frames + 1 ≤ 2048 ∧ 8 + (ν.2.2.1 + 11) + ν.2.2.2.2.locals ≤ 84000) (hst : (st.map fun v => v.category).sum ≤ 8)
    (hM : Met X.2.1 ν.1 (mws ν) ν.2.2.2.2 Pc (Qof κ D ids n1 w q) 0 0 (AA n1 w)) (hbl : FrameBlind Pc)
    (hpre : ∀ H locs, Ψ1 H locs → va_P D vwCl (wl ids n1 w S) H ∧ va_S (AI n0) X.2.2.2.2.1.heap H locs ∧ ∀ U : State, U.heap = H → X.2.2.2.2.1.WarmedH U.vm → Pc (Value.ref n1 :: As).toArray U) (hn1 : n0 ≤ n1)
    (hpost : ∀ H locs H1 locs1, Ψ1 H locs → va_P D vwCl (wl ids n1 w q.2) H1 → H.size ≤ H1.size → (∀ a, a < H.size → ¬ AA n1 w a → H1[a]? = H[a]?) → va_S (AI n0) X.2.2.2.2.1.heap H1 locs1 → Ψ2 H1 locs1)
    (hcs : cs ≤ 600000 ∧ sl ≤ 7302250) (hd : decode cL_law pc = .ok (.invokevirtual i, 3)) (kk : Og X 4 Q Ψ2 cs sl (pc + 3) lv ((κ q.1).toList ++ st)) : Og X 4 Q Ψ1 cs sl pc lv stk := by
  intro H locs ls hP hl
  subst hstk
  obtain ⟨hW0, hS0, hPc⟩ := hpre H locs hP
  obtain ⟨T, h1, h2, h3, h4, h5, h6, h7, h8, h9, h10⟩ := hs
  have hts := hc.2.2.2.2.1
  have hlen : ∀ sig, parseMethodDescriptor ν.1.desc = some sig → n = sig.parameters.length := fun sig h => by rw [h] at h3; exact (Option.some.inj h3).symm
  have hRR : ν.2.2.2.2.frames + 1 ≤ X.2.2.2.1.frames ∧ 8 + (ν.2.2.1 + 11) + ν.2.2.2.2.locals ≤ X.2.2.2.1.locals := by rw [hR0]; exact hR
  have hcell : ∃ cell : Cell, H[n1]? = some cell ∧ cell.vm.isStatics = false ∧ X.2.2.2.2.1.vm.findClass ν.1.cls = some cell.cls := va_recv hc.2.2.2.2.2.2 hW0 h1 (ho.cell ids n1 S)
  have hp : PreV X.2.2.2.2.1 H ν.1.cls n1 Pc As := ⟨hbl, hcell, hPc⟩
  have fin : ∀ (t : State) (locs1 : List Loc), (WK D ids n1 w q.2 t ∧ va_F (AA n1 w) ({ X.2.2.2.2.1 with heap := H }) t) → va_S (AI n0) X.2.2.2.2.1.heap t.heap locs1 → W X.1 X.2.1 X.2.2.1 X.2.2.2.1 X.2.2.2.2.1 X.2.2.2.2.2.1 X.2.2.2.2.2.2.1 X.2.2.2.2.2.2.2.1 X.2.2.2.2.2.2.2.2.1 X.2.2.2.2.2.2.2.2.2 t.heap locs1 cs sl Q (F0 X.2.2.2.2.2.1 (pc + 3) ls ((κ q.1).toList ++ st)) := fun t locs1 hB hS1 => kk t.heap locs1 ls (hpost H locs t.heap locs1 hP hB.1.1 hB.2.1 hB.2.2 hS1) hl
  have hfit : cs + 0 ≤ X.2.2.2.1.cells ∧ sl + 0 ≤ X.2.2.2.1.slots := by rw [hR0]; exact hcs
  have hrun : va_Run X.1 X.2.1 X.2.2.1 X.2.2.2.1 X.2.2.2.2.1 X.2.2.2.2.2.1 X.2.2.2.2.2.2.1 X.2.2.2.2.2.2.2.1 X.2.2.2.2.2.2.2.2.1 X.2.2.2.2.2.2.2.2.2 H locs cs sl 0 0 (F0 X.2.2.2.2.2.1 pc ls (As.reverse ++ .ref n1 :: st)) st (Qof κ D ids n1 w q (Value.ref n1 :: As).toArray) (AA n1 w) := by
    rcases h8 with h8 | ⟨host, h8⟩
    · exact va_runV (As := As) (rest := st) ⟨hc.1, hc.2.1, hc.2.2.1, hc.2.2.2.1, hts⟩ hM ⟨⟨h9, h10, hRR.1, hRR.2, pay_in hts (mws_good h4), List.mem_cons_self, hts _ h4, hts _ h7, h2, hlen, hts _ h8⟩, hts _ h5, hts _ h6⟩ hp rfl hn hl.1 rfl (lv_room hst) hd hfit
    · exact va_runVN (As := As) (rest := st) ⟨hc.1, hc.2.1, hc.2.2.1, hc.2.2.2.1, hts⟩ hM ⟨⟨⟨h9, h10, hRR.1, hRR.2, pay_in hts (mws_good h4), List.mem_cons_self⟩, hts _ h4, hts _ h7, h2, hlen, va_Nw.use rfl (hc.2.2.2.2.2.1 _ h8)⟩, hts _ h5, hts _ h6⟩ hp rfl hn hl.1 rfl (lv_room hst) hd hfit
  intro T0 hT X0
  obtain ⟨v', st₀, t, T', L', h0, X', hL, e1, e2, ⟨hv, hb, hz, hk⟩, stp⟩ := hrun T0 hT X0
  cases hv
  rw [h0] at hz hk
  obtain ⟨t2, a1, b1⟩ := fin t (locs ++ L') ⟨hb, hz, hk⟩ ⟨Nat.le_trans hS0.1 hz, fun a g1 g2 => by rw [hk a (Nat.lt_of_lt_of_le g1 hS0.1) (fun z => g2 (AA_AI hn1 a z))]; exact hS0.2.1 a g1 g2, fun a ha => by
      rcases List.mem_append.mp ha with h | h
      · exact hS0.2.2 a h
      · exact AA_AI hn1 _ (hL a h)⟩ T' e1 X'
  exact ⟨t2, stp t2 a1, b1⟩
theorem pl_keepM {H H1 : Heap} (h : va_P D vwCl (wl ids (n0 + 79) wM Sm) H) (hk : ∀ a, a < H.size → ¬ AA n0 wX a → H1[a]? = H[a]?) : va_P D vwCl (wl ids (n0 + 79) wM Sm) H1 := h.kept (fun k q hq => hk q.1 ((h k q hq).lt) (by
  obtain ⟨h1, rfl⟩ := wl_of hq
  rintro ⟨-, h2⟩
  have h2 : n0 + 79 + k < n0 + 79 := h2
  omega))
theorem pl_keepX {H H1 : Heap} (h : va_P D vwCl (wl ids n0 wX Sx) H) (hk : ∀ a, a < H.size → ¬ AA (n0 + 79) wM a → H1[a]? = H[a]?) : va_P D vwCl (wl ids n0 wX Sx) H1 := h.kept (fun k q hq => hk q.1 ((h k q hq).lt) (by
  obtain ⟨h1, rfl⟩ := wl_of hq
  rintro ⟨h2, -⟩
  have h2 : n0 + 79 ≤ n0 + k := h2
  have h1 : k < 79 := h1
  omega))
theorem ol_callX {β : Type} {κ : β → Option Value} {ν : Md} {As stk : List Value} {q : β × St} {i n ci nf : Nat} (av : Nat → List Value) (h : LawC X D ids n0 b L xs aL aG) (hs : Sv "AirPartedLaw" i ν ci nf n) (ho : Iob wX 0 ci nf) (hstk : stk = As.reverse ++ .ref n0 :: st) (hav : av n0 = .ref n0 :: As) (hn : As.length = n) (hR : ν.2.2.2.2.frames + 1 ≤ 2048 ∧ 8 + (ν.2.2.1 + 11) + ν.2.2.2.2.locals ≤ 84000) (hst : (st.map fun v => v.category).sum ≤ 8) (hM : MT κ wX ν av Sx q) (hcs : cs ≤ 600000 ∧ sl ≤ 7302250) (hd : decode cL_law pc = .ok (.invokevirtual i, 3)) (kk : Og X 4 Q (PsL X.2.2.2.2.1 D ids n0 q.2 Sm) cs sl (pc + 3) lv ((κ q.1).toList ++ st)) : Og X 4 Q (PsL X.2.2.2.2.1 D ids n0 Sx Sm) cs sl pc lv stk :=
  ol_call (w := wX) (S := Sx) (Ψ1 := PsL X.2.2.2.2.1 D ids n0 Sx Sm) (Ψ2 := PsL X.2.2.2.2.1 D ids n0 q.2 Sm) h.1 h.2.2.2.2.1 hs ho hstk hn hR hst (hM X.2.1 D ids n0) wk_blind (fun H locs hP => ⟨hP.1, hP.2.2, fun U hU hW => ⟨by rw [hav], by rw [hU]; exact hP.1, va_K.moved hW.alike h.1.2.2.2.2.2.2, fun z hz => NW_warm hz hW (h.1.2.2.2.2.2.1 z hz)⟩⟩) (Nat.le_refl _) (fun H locs H1 locs1 hP a _ b c => ⟨a, pl_keepM hP.2.1 b, c⟩) hcs hd kk
theorem ol_callM {β : Type} {κ : β → Option Value} {ν : Md} {As stk : List Value} {q : β × St} {i n ci nf : Nat} (av : Nat → List Value) (h : LawC X D ids n0 b L xs aL aG) (hs : Sv "AirPartedLaw" i ν ci nf n) (ho : Iob wM 0 ci nf) (hstk : stk = As.reverse ++ .ref (n0 + 79) :: st) (hav : av (n0 + 79) = .ref (n0 + 79) :: As) (hn : As.length = n) (hR : ν.2.2.2.2.frames + 1 ≤ 2048 ∧ 8 + (ν.2.2.1 + 11) + ν.2.2.2.2.locals ≤ 84000) (hst : (st.map fun v => v.category).sum ≤ 8) (hM : MT κ wM ν av Sm q) (hcs : cs ≤ 600000 ∧ sl ≤ 7302250) (hd : decode cL_law pc = .ok (.invokevirtual i, 3)) (kk : Og X 4 Q (PsL X.2.2.2.2.1 D ids n0 Sx q.2) cs sl (pc + 3) lv ((κ q.1).toList ++ st)) : Og X 4 Q (PsL X.2.2.2.2.1 D ids n0 Sx Sm) cs sl pc lv stk :=
  ol_call (w := wM) (S := Sm) (Ψ1 := PsL X.2.2.2.2.1 D ids n0 Sx Sm) (Ψ2 := PsL X.2.2.2.2.1 D ids n0 Sx q.2) h.1 h.2.2.2.2.1 hs ho hstk hn hR hst (hM X.2.1 D ids (n0 + 79)) wk_blind (fun H locs hP => ⟨hP.2.1, hP.2.2, fun U hU hW => ⟨by rw [hav], by rw [hU]; exact hP.2.1, va_K.moved hW.alike h.1.2.2.2.2.2.2, fun z hz => NW_warm hz hW (h.1.2.2.2.2.2.1 z hz)⟩⟩) (Nat.le_add_right _ _) (fun H locs H1 locs1 hP a _ b c => ⟨pl_keepX hP.1 b, a, c⟩) hcs hd kk
theorem ol_callZ {β : Type} {κ : β → Option Value} {ν : Md} {As stk : List Value} {q : β × St} {i n ci nf : Nat} (av : Nat → List Value) (h : LawC X D ids n0 b L xs aL aG) (hs : Sv "AirPartedLaw" i ν ci nf n) (ho : Iob wX 0 ci nf) (hstk : stk = As.reverse ++ .ref n0 :: st) (hav : av n0 = .ref n0 :: As) (hn : As.length = n) (hR : ν.2.2.2.2.frames + 1 ≤ 2048 ∧ 8 + (ν.2.2.1 + 11) + ν.2.2.2.2.locals ≤ 84000) (hst : (st.map fun v => v.category).sum ≤ 8) (hM : MTz κ wX ν av Sx q) (hcs : cs ≤ 600000 ∧ sl ≤ 7302250) (hd : decode cL_law pc = .ok (.invokevirtual i, 3)) (kk : Og X 4 Q (PsL X.2.2.2.2.1 D ids n0 q.2 Sm) cs sl (pc + 3) lv ((κ q.1).toList ++ st)) : Og X 4 Q (PsL X.2.2.2.2.1 D ids n0 Sx Sm) cs sl pc lv stk := by
  refine ol_call (w := wX) (S := Sx) (Ψ1 := PsL X.2.2.2.2.1 D ids n0 Sx Sm) (Ψ2 := PsL X.2.2.2.2.1 D ids n0 q.2 Sm) h.1 h.2.2.2.2.1 hs ho hstk hn hR hst (hM X.2.1 D ids n0 aL aG) ?_ (fun H locs hP => ⟨hP.1, hP.2.2, fun U hU hW => ⟨by rw [hav], ⟨by rw [hU]; exact hP.1, va_K.moved hW.alike h.1.2.2.2.2.2.2, fun z hz => NW_warm hz hW (h.1.2.2.2.2.2.1 z hz)⟩, ?_⟩⟩) (Nat.le_refl _) (fun H locs H1 locs1 hP a _ b c => ⟨a, pl_keepM hP.2.1 b, c⟩) hcs hd kk
  · intro a U g mk ⟨h1, ⟨hP, hK, hN⟩, hz⟩
    exact ⟨h1, ⟨hP, va_K.moved (u := U) (U := U.calling g mk a) (Vm.Alike.refl U.vm) hK, fun z hz => NW_same (u := U) (U := U.calling g mk a) hz rfl (hN z hz)⟩, hz.1.moved (u := U) (U := U.calling g mk a) (Vm.Alike.refl U.vm) rfl, hz.2.moved (u := U) (U := U.calling g mk a) (Vm.Alike.refl U.vm) rfl⟩
  · have hz := h.2.2.2.2.2
    have hS := hP.2.2
    have k2 : ∀ q : Nat, q < X.2.2.2.2.1.heap.size → ¬ n0 ≤ q → U.heap[q]? = X.2.2.2.2.1.heap[q]? := fun q a c => by rw [hU]; exact hS.2.1 q a c
    exact ⟨hz.1.kept hW.alike k2, hz.2.kept hW.alike k2⟩
end OGL

def bz (x : Int32) : Int32 := if x = 0 then 0 else 1
theorem bz_j (F : Int32 → Prop) (x : Int32) {G : Prop} (h1 : ((x = 0 → F 0) ∧ (¬ x = 0 → F 1)) → G) (h2 : F (bz x)) : G := h1 ⟨fun h => by simpa [bz, h] using h2, fun h => by simpa [bz, h] using h2⟩
set_option maxRecDepth 100000 in
set_option maxHeartbeats 4000000 in
theorem lawc_0 {X : Mx} {D : va_G} {ids : Nat → ClassId} {n0 b L aL aG : Nat} {xs : Nat → Int32} {Q : State → Prop} {cs sl : Nat} {Sx Sm : St} {P : St → St → Prop} (hL : LawC X D ids n0 b L xs aL aG) (hcs : cs ≤ 600000 ∧ sl ≤ 7302250) (x3 : Int32) (hb : ∀ j : Int32, (0 ≤ j ∧ j ≤ 6) → ib (x3 + j) L) (hpp : ∃ (v : Int32) (Sx' Sm' : St), fX11_land (xs (nt (x3 + 1))) (xs (nt (x3 + 2))) Sx = some (v, Sx') ∧ fX12_land (xs (nt (x3 + 1))) (xs (nt (x3 + 2))) Sm = some (v, Sm') ∧ P Sx' Sm') (kk : ∀ Sx' Sm', P Sx' Sm' → Og X 4 Q (PsL X.2.2.2.2.1 D ids n0 Sx' Sm') cs sl 2132 [(0, .ref b), (1, .ref n0), (2, .ref (n0 + 79)), (3, .int x3)] []) : Og X 4 Q (PsL X.2.2.2.2.1 D ids n0 Sx Sm) cs sl 260 [(0, .ref b), (1, .ref n0), (2, .ref (n0 + 79)), (3, .int x3)] [] := by
  obtain ⟨v, Sx', Sm', hx, hm, hp⟩ := hpp
  refine og_aload_n 1 hL.1 dL_law_260 rfl rfl ?_
  refine og_aload_n 0 hL.1 dL_law_261 rfl rfl ?_
  refine og_iload_n 3 hL.1 dL_law_262 rfl rfl ?_
  refine og_iconst (v := 1) hL.1 dL_law_263 (by decide) ?_
  refine og_iadd hL.1 dL_law_264 ?_
  refine ol_sld hL (hb 1 (by decide)) dL_law_265 ?_
  refine og_aload_n 0 hL.1 dL_law_266 rfl rfl ?_
  refine og_iload_n 3 hL.1 dL_law_267 rfl rfl ?_
  refine og_iconst (v := 2) hL.1 dL_law_268 (by decide) ?_
  refine og_iadd hL.1 dL_law_269 ?_
  refine ol_sld hL (hb 2 (by decide)) dL_law_270 ?_
  refine ol_callX (q := (v, Sx')) (As := [.int (xs (nt (x3 + 1))), .int (xs (nt (x3 + 2)))]) (st := []) (fun n1 => .ref (n1 + 0) :: [.int (xs (nt (x3 + 1))), .int (xs (nt (x3 + 2)))]) hL VS_L_13 sX_0 rfl rfl rfl ⟨by decide, by decide⟩ (Nat.le_of_ble_eq_true rfl) (tX11_land (xs (nt (x3 + 1))) (xs (nt (x3 + 2))) Sx _ hx) hcs dL_law_271 ?_
  show Og X 4 Q (PsL X.2.2.2.2.1 D ids n0 Sx' Sm) cs sl 274 [(0, .ref b), (1, .ref n0), (2, .ref (n0 + 79)), (3, .int x3)] [.int v]
  refine og_aload_n 2 hL.1 dL_law_274 rfl rfl ?_
  refine og_aload_n 0 hL.1 dL_law_275 rfl rfl ?_
  refine og_iload_n 3 hL.1 dL_law_276 rfl rfl ?_
  refine og_iconst (v := 1) hL.1 dL_law_277 (by decide) ?_
  refine og_iadd hL.1 dL_law_278 ?_
  refine ol_sld hL (hb 1 (by decide)) dL_law_279 ?_
  refine og_aload_n 0 hL.1 dL_law_280 rfl rfl ?_
  refine og_iload_n 3 hL.1 dL_law_281 rfl rfl ?_
  refine og_iconst (v := 2) hL.1 dL_law_282 (by decide) ?_
  refine og_iadd hL.1 dL_law_283 ?_
  refine ol_sld hL (hb 2 (by decide)) dL_law_284 ?_
  refine ol_callM (q := (v, Sm')) (As := [.int (xs (nt (x3 + 1))), .int (xs (nt (x3 + 2)))]) (st := [.int v]) (fun n1 => .ref (n1 + 0) :: [.int (xs (nt (x3 + 1))), .int (xs (nt (x3 + 2)))]) hL VS_L_17 sM_0 rfl rfl rfl ⟨by decide, by decide⟩ (Nat.le_of_ble_eq_true rfl) (tX12_land (xs (nt (x3 + 1))) (xs (nt (x3 + 2))) Sm _ hm) hcs dL_law_285 ?_
  show Og X 4 Q (PsL X.2.2.2.2.1 D ids n0 Sx' Sm') cs sl 288 [(0, .ref b), (1, .ref n0), (2, .ref (n0 + 79)), (3, .int x3)] [.int v, .int v]
  refine og_icmp_eq 2132 hL.1 dL_law_288 (by decide) (fun _ => ?_) (fun hne => absurd rfl hne)
  exact kk Sx' Sm' hp
set_option maxRecDepth 100000 in
set_option maxHeartbeats 4000000 in
theorem lawc_1 {X : Mx} {D : va_G} {ids : Nat → ClassId} {n0 b L aL aG : Nat} {xs : Nat → Int32} {Q : State → Prop} {cs sl : Nat} {Sx Sm : St} {P : St → St → Prop} (hL : LawC X D ids n0 b L xs aL aG) (hcs : cs ≤ 600000 ∧ sl ≤ 7302250) (x3 : Int32) (hb : ∀ j : Int32, (0 ≤ j ∧ j ≤ 6) → ib (x3 + j) L) (hpp : ∃ (v : Int32) (Sx' Sm' : St), fX11_ground (xs (nt (x3 + 1))) (xs (nt (x3 + 2))) Sx = some (v, Sx') ∧ fX12_ground (xs (nt (x3 + 1))) (xs (nt (x3 + 2))) Sm = some (v, Sm') ∧ P Sx' Sm') (kk : ∀ Sx' Sm', P Sx' Sm' → Og X 4 Q (PsL X.2.2.2.2.1 D ids n0 Sx' Sm') cs sl 2132 [(0, .ref b), (1, .ref n0), (2, .ref (n0 + 79)), (3, .int x3)] []) : Og X 4 Q (PsL X.2.2.2.2.1 D ids n0 Sx Sm) cs sl 293 [(0, .ref b), (1, .ref n0), (2, .ref (n0 + 79)), (3, .int x3)] [] := by
  obtain ⟨v, Sx', Sm', hx, hm, hp⟩ := hpp
  refine og_aload_n 1 hL.1 dL_law_293 rfl rfl ?_
  refine og_aload_n 0 hL.1 dL_law_294 rfl rfl ?_
  refine og_iload_n 3 hL.1 dL_law_295 rfl rfl ?_
  refine og_iconst (v := 1) hL.1 dL_law_296 (by decide) ?_
  refine og_iadd hL.1 dL_law_297 ?_
  refine ol_sld hL (hb 1 (by decide)) dL_law_298 ?_
  refine og_aload_n 0 hL.1 dL_law_299 rfl rfl ?_
  refine og_iload_n 3 hL.1 dL_law_300 rfl rfl ?_
  refine og_iconst (v := 2) hL.1 dL_law_301 (by decide) ?_
  refine og_iadd hL.1 dL_law_302 ?_
  refine ol_sld hL (hb 2 (by decide)) dL_law_303 ?_
  refine ol_callX (q := (v, Sx')) (As := [.int (xs (nt (x3 + 1))), .int (xs (nt (x3 + 2)))]) (st := []) (fun n1 => .ref (n1 + 0) :: [.int (xs (nt (x3 + 1))), .int (xs (nt (x3 + 2)))]) hL VS_L_18 sX_0 rfl rfl rfl ⟨by decide, by decide⟩ (Nat.le_of_ble_eq_true rfl) (tX11_ground (xs (nt (x3 + 1))) (xs (nt (x3 + 2))) Sx _ hx) hcs dL_law_304 ?_
  show Og X 4 Q (PsL X.2.2.2.2.1 D ids n0 Sx' Sm) cs sl 307 [(0, .ref b), (1, .ref n0), (2, .ref (n0 + 79)), (3, .int x3)] [.int v]
  refine og_aload_n 2 hL.1 dL_law_307 rfl rfl ?_
  refine og_aload_n 0 hL.1 dL_law_308 rfl rfl ?_
  refine og_iload_n 3 hL.1 dL_law_309 rfl rfl ?_
  refine og_iconst (v := 1) hL.1 dL_law_310 (by decide) ?_
  refine og_iadd hL.1 dL_law_311 ?_
  refine ol_sld hL (hb 1 (by decide)) dL_law_312 ?_
  refine og_aload_n 0 hL.1 dL_law_313 rfl rfl ?_
  refine og_iload_n 3 hL.1 dL_law_314 rfl rfl ?_
  refine og_iconst (v := 2) hL.1 dL_law_315 (by decide) ?_
  refine og_iadd hL.1 dL_law_316 ?_
  refine ol_sld hL (hb 2 (by decide)) dL_law_317 ?_
  refine ol_callM (q := (v, Sm')) (As := [.int (xs (nt (x3 + 1))), .int (xs (nt (x3 + 2)))]) (st := [.int v]) (fun n1 => .ref (n1 + 0) :: [.int (xs (nt (x3 + 1))), .int (xs (nt (x3 + 2)))]) hL VS_L_21 sM_0 rfl rfl rfl ⟨by decide, by decide⟩ (Nat.le_of_ble_eq_true rfl) (tX12_ground (xs (nt (x3 + 1))) (xs (nt (x3 + 2))) Sm _ hm) hcs dL_law_318 ?_
  show Og X 4 Q (PsL X.2.2.2.2.1 D ids n0 Sx' Sm') cs sl 321 [(0, .ref b), (1, .ref n0), (2, .ref (n0 + 79)), (3, .int x3)] [.int v, .int v]
  refine og_icmp_eq 2132 hL.1 dL_law_321 (by decide) (fun _ => ?_) (fun hne => absurd rfl hne)
  exact kk Sx' Sm' hp
set_option maxRecDepth 100000 in
set_option maxHeartbeats 4000000 in
theorem lawc_2 {X : Mx} {D : va_G} {ids : Nat → ClassId} {n0 b L aL aG : Nat} {xs : Nat → Int32} {Q : State → Prop} {cs sl : Nat} {Sx Sm : St} {P : St → St → Prop} (hL : LawC X D ids n0 b L xs aL aG) (hcs : cs ≤ 600000 ∧ sl ≤ 7302250) (x3 : Int32) (hb : ∀ j : Int32, (0 ≤ j ∧ j ≤ 6) → ib (x3 + j) L) (hpp : ∃ (v : Int32) (Sx' Sm' : St), fX11_set (xs (nt (x3 + 1))) (xs (nt (x3 + 2))) Sx = some (v, Sx') ∧ fX12_set (xs (nt (x3 + 1))) (xs (nt (x3 + 2))) Sm = some (v, Sm') ∧ P Sx' Sm') (kk : ∀ Sx' Sm', P Sx' Sm' → Og X 4 Q (PsL X.2.2.2.2.1 D ids n0 Sx' Sm') cs sl 2132 [(0, .ref b), (1, .ref n0), (2, .ref (n0 + 79)), (3, .int x3)] []) : Og X 4 Q (PsL X.2.2.2.2.1 D ids n0 Sx Sm) cs sl 326 [(0, .ref b), (1, .ref n0), (2, .ref (n0 + 79)), (3, .int x3)] [] := by
  obtain ⟨v, Sx', Sm', hx, hm, hp⟩ := hpp
  refine og_aload_n 1 hL.1 dL_law_326 rfl rfl ?_
  refine og_aload_n 0 hL.1 dL_law_327 rfl rfl ?_
  refine og_iload_n 3 hL.1 dL_law_328 rfl rfl ?_
  refine og_iconst (v := 1) hL.1 dL_law_329 (by decide) ?_
  refine og_iadd hL.1 dL_law_330 ?_
  refine ol_sld hL (hb 1 (by decide)) dL_law_331 ?_
  refine og_aload_n 0 hL.1 dL_law_332 rfl rfl ?_
  refine og_iload_n 3 hL.1 dL_law_333 rfl rfl ?_
  refine og_iconst (v := 2) hL.1 dL_law_334 (by decide) ?_
  refine og_iadd hL.1 dL_law_335 ?_
  refine ol_sld hL (hb 2 (by decide)) dL_law_336 ?_
  refine ol_callZ (q := (v, Sx')) (As := [.int (xs (nt (x3 + 1))), .int (xs (nt (x3 + 2)))]) (st := []) (fun n1 => .ref (n1 + 0) :: [.int (xs (nt (x3 + 1))), .int (xs (nt (x3 + 2)))]) hL VS_L_22 sX_0 rfl rfl rfl ⟨by decide, by decide⟩ (Nat.le_of_ble_eq_true rfl) (tX11_set (xs (nt (x3 + 1))) (xs (nt (x3 + 2))) Sx _ hx) hcs dL_law_337 ?_
  show Og X 4 Q (PsL X.2.2.2.2.1 D ids n0 Sx' Sm) cs sl 340 [(0, .ref b), (1, .ref n0), (2, .ref (n0 + 79)), (3, .int x3)] [.int v]
  refine og_aload_n 2 hL.1 dL_law_340 rfl rfl ?_
  refine og_aload_n 0 hL.1 dL_law_341 rfl rfl ?_
  refine og_iload_n 3 hL.1 dL_law_342 rfl rfl ?_
  refine og_iconst (v := 1) hL.1 dL_law_343 (by decide) ?_
  refine og_iadd hL.1 dL_law_344 ?_
  refine ol_sld hL (hb 1 (by decide)) dL_law_345 ?_
  refine og_aload_n 0 hL.1 dL_law_346 rfl rfl ?_
  refine og_iload_n 3 hL.1 dL_law_347 rfl rfl ?_
  refine og_iconst (v := 2) hL.1 dL_law_348 (by decide) ?_
  refine og_iadd hL.1 dL_law_349 ?_
  refine ol_sld hL (hb 2 (by decide)) dL_law_350 ?_
  refine ol_callM (q := (v, Sm')) (As := [.int (xs (nt (x3 + 1))), .int (xs (nt (x3 + 2)))]) (st := [.int v]) (fun n1 => .ref (n1 + 0) :: [.int (xs (nt (x3 + 1))), .int (xs (nt (x3 + 2)))]) hL VS_L_25 sM_0 rfl rfl rfl ⟨by decide, by decide⟩ (Nat.le_of_ble_eq_true rfl) (tX12_set (xs (nt (x3 + 1))) (xs (nt (x3 + 2))) Sm _ hm) hcs dL_law_351 ?_
  show Og X 4 Q (PsL X.2.2.2.2.1 D ids n0 Sx' Sm') cs sl 354 [(0, .ref b), (1, .ref n0), (2, .ref (n0 + 79)), (3, .int x3)] [.int v, .int v]
  refine og_icmp_eq 2132 hL.1 dL_law_354 (by decide) (fun _ => ?_) (fun hne => absurd rfl hne)
  exact kk Sx' Sm' hp
set_option maxRecDepth 100000 in
set_option maxHeartbeats 4000000 in
theorem lawc_3 {X : Mx} {D : va_G} {ids : Nat → ClassId} {n0 b L aL aG : Nat} {xs : Nat → Int32} {Q : State → Prop} {cs sl : Nat} {Sx Sm : St} {P : St → St → Prop} (hL : LawC X D ids n0 b L xs aL aG) (hcs : cs ≤ 600000 ∧ sl ≤ 7302250) (x3 : Int32) (hb : ∀ j : Int32, (0 ≤ j ∧ j ≤ 6) → ib (x3 + j) L) (hpp : ∃ (v : Int32) (Sx' Sm' : St), fX11_loss (xs (nt (x3 + 1))) (xs (nt (x3 + 2))) (xs (nt (x3 + 3))) (xs (nt (x3 + 4))) (xs (nt (x3 + 5))) Sx = some (v, Sx') ∧ fX12_loss (xs (nt (x3 + 1))) (xs (nt (x3 + 2))) (xs (nt (x3 + 3))) (xs (nt (x3 + 4))) (xs (nt (x3 + 5))) Sm = some (v, Sm') ∧ P Sx' Sm') (kk : ∀ Sx' Sm', P Sx' Sm' → Og X 4 Q (PsL X.2.2.2.2.1 D ids n0 Sx' Sm') cs sl 2132 [(0, .ref b), (1, .ref n0), (2, .ref (n0 + 79)), (3, .int x3)] []) : Og X 4 Q (PsL X.2.2.2.2.1 D ids n0 Sx Sm) cs sl 359 [(0, .ref b), (1, .ref n0), (2, .ref (n0 + 79)), (3, .int x3)] [] := by
  obtain ⟨v, Sx', Sm', hx, hm, hp⟩ := hpp
  refine og_aload_n 1 hL.1 dL_law_359 rfl rfl ?_
  refine og_aload_n 0 hL.1 dL_law_360 rfl rfl ?_
  refine og_iload_n 3 hL.1 dL_law_361 rfl rfl ?_
  refine og_iconst (v := 1) hL.1 dL_law_362 (by decide) ?_
  refine og_iadd hL.1 dL_law_363 ?_
  refine ol_sld hL (hb 1 (by decide)) dL_law_364 ?_
  refine og_aload_n 0 hL.1 dL_law_365 rfl rfl ?_
  refine og_iload_n 3 hL.1 dL_law_366 rfl rfl ?_
  refine og_iconst (v := 2) hL.1 dL_law_367 (by decide) ?_
  refine og_iadd hL.1 dL_law_368 ?_
  refine ol_sld hL (hb 2 (by decide)) dL_law_369 ?_
  refine og_aload_n 0 hL.1 dL_law_370 rfl rfl ?_
  refine og_iload_n 3 hL.1 dL_law_371 rfl rfl ?_
  refine og_iconst (v := 3) hL.1 dL_law_372 (by decide) ?_
  refine og_iadd hL.1 dL_law_373 ?_
  refine ol_sld hL (hb 3 (by decide)) dL_law_374 ?_
  refine og_aload_n 0 hL.1 dL_law_375 rfl rfl ?_
  refine og_iload_n 3 hL.1 dL_law_376 rfl rfl ?_
  refine og_iconst (v := 4) hL.1 dL_law_377 (by decide) ?_
  refine og_iadd hL.1 dL_law_378 ?_
  refine ol_sld hL (hb 4 (by decide)) dL_law_379 ?_
  refine og_aload_n 0 hL.1 dL_law_380 rfl rfl ?_
  refine og_iload_n 3 hL.1 dL_law_381 rfl rfl ?_
  refine og_iconst (v := 5) hL.1 dL_law_382 (by decide) ?_
  refine og_iadd hL.1 dL_law_383 ?_
  refine ol_sld hL (hb 5 (by decide)) dL_law_384 ?_
  refine ol_callX (q := (v, Sx')) (As := [.int (xs (nt (x3 + 1))), .int (xs (nt (x3 + 2))), .int (xs (nt (x3 + 3))), .int (xs (nt (x3 + 4))), .int (xs (nt (x3 + 5)))]) (st := []) (fun n1 => .ref (n1 + 0) :: [.int (xs (nt (x3 + 1))), .int (xs (nt (x3 + 2))), .int (xs (nt (x3 + 3))), .int (xs (nt (x3 + 4))), .int (xs (nt (x3 + 5)))]) hL VS_L_26 sX_0 rfl rfl rfl ⟨by decide, by decide⟩ (Nat.le_of_ble_eq_true rfl) (tX11_loss (xs (nt (x3 + 1))) (xs (nt (x3 + 2))) (xs (nt (x3 + 3))) (xs (nt (x3 + 4))) (xs (nt (x3 + 5))) Sx _ hx) hcs dL_law_385 ?_
  show Og X 4 Q (PsL X.2.2.2.2.1 D ids n0 Sx' Sm) cs sl 388 [(0, .ref b), (1, .ref n0), (2, .ref (n0 + 79)), (3, .int x3)] [.int v]
  refine og_aload_n 2 hL.1 dL_law_388 rfl rfl ?_
  refine og_aload_n 0 hL.1 dL_law_389 rfl rfl ?_
  refine og_iload_n 3 hL.1 dL_law_390 rfl rfl ?_
  refine og_iconst (v := 1) hL.1 dL_law_391 (by decide) ?_
  refine og_iadd hL.1 dL_law_392 ?_
  refine ol_sld hL (hb 1 (by decide)) dL_law_393 ?_
  refine og_aload_n 0 hL.1 dL_law_394 rfl rfl ?_
  refine og_iload_n 3 hL.1 dL_law_395 rfl rfl ?_
  refine og_iconst (v := 2) hL.1 dL_law_396 (by decide) ?_
  refine og_iadd hL.1 dL_law_397 ?_
  refine ol_sld hL (hb 2 (by decide)) dL_law_398 ?_
  refine og_aload_n 0 hL.1 dL_law_399 rfl rfl ?_
  refine og_iload_n 3 hL.1 dL_law_400 rfl rfl ?_
  refine og_iconst (v := 3) hL.1 dL_law_401 (by decide) ?_
  refine og_iadd hL.1 dL_law_402 ?_
  refine ol_sld hL (hb 3 (by decide)) dL_law_403 ?_
  refine og_aload_n 0 hL.1 dL_law_404 rfl rfl ?_
  refine og_iload_n 3 hL.1 dL_law_405 rfl rfl ?_
  refine og_iconst (v := 4) hL.1 dL_law_406 (by decide) ?_
  refine og_iadd hL.1 dL_law_407 ?_
  refine ol_sld hL (hb 4 (by decide)) dL_law_408 ?_
  refine og_aload_n 0 hL.1 dL_law_409 rfl rfl ?_
  refine og_iload_n 3 hL.1 dL_law_410 rfl rfl ?_
  refine og_iconst (v := 5) hL.1 dL_law_411 (by decide) ?_
  refine og_iadd hL.1 dL_law_412 ?_
  refine ol_sld hL (hb 5 (by decide)) dL_law_413 ?_
  refine ol_callM (q := (v, Sm')) (As := [.int (xs (nt (x3 + 1))), .int (xs (nt (x3 + 2))), .int (xs (nt (x3 + 3))), .int (xs (nt (x3 + 4))), .int (xs (nt (x3 + 5)))]) (st := [.int v]) (fun n1 => .ref (n1 + 0) :: [.int (xs (nt (x3 + 1))), .int (xs (nt (x3 + 2))), .int (xs (nt (x3 + 3))), .int (xs (nt (x3 + 4))), .int (xs (nt (x3 + 5)))]) hL VS_L_30 sM_0 rfl rfl rfl ⟨by decide, by decide⟩ (Nat.le_of_ble_eq_true rfl) (tX12_loss (xs (nt (x3 + 1))) (xs (nt (x3 + 2))) (xs (nt (x3 + 3))) (xs (nt (x3 + 4))) (xs (nt (x3 + 5))) Sm _ hm) hcs dL_law_414 ?_
  show Og X 4 Q (PsL X.2.2.2.2.1 D ids n0 Sx' Sm') cs sl 417 [(0, .ref b), (1, .ref n0), (2, .ref (n0 + 79)), (3, .int x3)] [.int v, .int v]
  refine og_icmp_eq 2132 hL.1 dL_law_417 (by decide) (fun _ => ?_) (fun hne => absurd rfl hne)
  exact kk Sx' Sm' hp
set_option maxRecDepth 100000 in
set_option maxHeartbeats 4000000 in
theorem lawc_4 {X : Mx} {D : va_G} {ids : Nat → ClassId} {n0 b L aL aG : Nat} {xs : Nat → Int32} {Q : State → Prop} {cs sl : Nat} {Sx Sm : St} {P : St → St → Prop} (hL : LawC X D ids n0 b L xs aL aG) (hcs : cs ≤ 600000 ∧ sl ≤ 7302250) (x3 : Int32) (hb : ∀ j : Int32, (0 ≤ j ∧ j ≤ 6) → ib (x3 + j) L) (hpp : ∃ (v : Int32) (Sx' Sm' : St), fX11_pass (xs (nt (x3 + 1))) Sx = some (v, Sx') ∧ fX12_pass (xs (nt (x3 + 1))) Sm = some (v, Sm') ∧ P Sx' Sm') (kk : ∀ Sx' Sm', P Sx' Sm' → Og X 4 Q (PsL X.2.2.2.2.1 D ids n0 Sx' Sm') cs sl 2132 [(0, .ref b), (1, .ref n0), (2, .ref (n0 + 79)), (3, .int x3)] []) : Og X 4 Q (PsL X.2.2.2.2.1 D ids n0 Sx Sm) cs sl 422 [(0, .ref b), (1, .ref n0), (2, .ref (n0 + 79)), (3, .int x3)] [] := by
  obtain ⟨v, Sx', Sm', hx, hm, hp⟩ := hpp
  refine og_aload_n 1 hL.1 dL_law_422 rfl rfl ?_
  refine og_aload_n 0 hL.1 dL_law_423 rfl rfl ?_
  refine og_iload_n 3 hL.1 dL_law_424 rfl rfl ?_
  refine og_iconst (v := 1) hL.1 dL_law_425 (by decide) ?_
  refine og_iadd hL.1 dL_law_426 ?_
  refine ol_sld hL (hb 1 (by decide)) dL_law_427 ?_
  refine ol_callX (q := (v, Sx')) (As := [.int (xs (nt (x3 + 1)))]) (st := []) (fun n1 => .ref (n1 + 0) :: [.int (xs (nt (x3 + 1)))]) hL VS_L_31 sX_0 rfl rfl rfl ⟨by decide, by decide⟩ (Nat.le_of_ble_eq_true rfl) (tX11_pass (xs (nt (x3 + 1))) Sx _ hx) hcs dL_law_428 ?_
  show Og X 4 Q (PsL X.2.2.2.2.1 D ids n0 Sx' Sm) cs sl 431 [(0, .ref b), (1, .ref n0), (2, .ref (n0 + 79)), (3, .int x3)] [.int v]
  refine og_aload_n 2 hL.1 dL_law_431 rfl rfl ?_
  refine og_aload_n 0 hL.1 dL_law_432 rfl rfl ?_
  refine og_iload_n 3 hL.1 dL_law_433 rfl rfl ?_
  refine og_iconst (v := 1) hL.1 dL_law_434 (by decide) ?_
  refine og_iadd hL.1 dL_law_435 ?_
  refine ol_sld hL (hb 1 (by decide)) dL_law_436 ?_
  refine ol_callM (q := (v, Sm')) (As := [.int (xs (nt (x3 + 1)))]) (st := [.int v]) (fun n1 => .ref (n1 + 0) :: [.int (xs (nt (x3 + 1)))]) hL VS_L_35 sM_0 rfl rfl rfl ⟨by decide, by decide⟩ (Nat.le_of_ble_eq_true rfl) (tX12_pass (xs (nt (x3 + 1))) Sm _ hm) hcs dL_law_437 ?_
  show Og X 4 Q (PsL X.2.2.2.2.1 D ids n0 Sx' Sm') cs sl 440 [(0, .ref b), (1, .ref n0), (2, .ref (n0 + 79)), (3, .int x3)] [.int v, .int v]
  refine og_icmp_eq 2132 hL.1 dL_law_440 (by decide) (fun _ => ?_) (fun hne => absurd rfl hne)
  exact kk Sx' Sm' hp
set_option maxRecDepth 100000 in
set_option maxHeartbeats 4000000 in
theorem lawc_5 {X : Mx} {D : va_G} {ids : Nat → ClassId} {n0 b L aL aG : Nat} {xs : Nat → Int32} {Q : State → Prop} {cs sl : Nat} {Sx Sm : St} {P : St → St → Prop} (hL : LawC X D ids n0 b L xs aL aG) (hcs : cs ≤ 600000 ∧ sl ≤ 7302250) (x3 : Int32) (hb : ∀ j : Int32, (0 ≤ j ∧ j ≤ 6) → ib (x3 + j) L) (hpp : ∃ (v : Int32) (Sx' Sm' : St), fX11_sender (xs (nt (x3 + 1))) (xs (nt (x3 + 2))) (xs (nt (x3 + 3))) (xs (nt (x3 + 4))) (xs (nt (x3 + 5))) (xs (nt (x3 + 6))) Sx = some (v, Sx') ∧ fX12_sender (xs (nt (x3 + 1))) (xs (nt (x3 + 2))) (xs (nt (x3 + 3))) (xs (nt (x3 + 4))) (xs (nt (x3 + 5))) (xs (nt (x3 + 6))) Sm = some (v, Sm') ∧ P Sx' Sm') (kk : ∀ Sx' Sm', P Sx' Sm' → Og X 4 Q (PsL X.2.2.2.2.1 D ids n0 Sx' Sm') cs sl 2132 [(0, .ref b), (1, .ref n0), (2, .ref (n0 + 79)), (3, .int x3)] []) : Og X 4 Q (PsL X.2.2.2.2.1 D ids n0 Sx Sm) cs sl 445 [(0, .ref b), (1, .ref n0), (2, .ref (n0 + 79)), (3, .int x3)] [] := by
  obtain ⟨v, Sx', Sm', hx, hm, hp⟩ := hpp
  refine og_aload_n 1 hL.1 dL_law_445 rfl rfl ?_
  refine og_aload_n 0 hL.1 dL_law_446 rfl rfl ?_
  refine og_iload_n 3 hL.1 dL_law_447 rfl rfl ?_
  refine og_iconst (v := 1) hL.1 dL_law_448 (by decide) ?_
  refine og_iadd hL.1 dL_law_449 ?_
  refine ol_sld hL (hb 1 (by decide)) dL_law_450 ?_
  refine og_aload_n 0 hL.1 dL_law_451 rfl rfl ?_
  refine og_iload_n 3 hL.1 dL_law_452 rfl rfl ?_
  refine og_iconst (v := 2) hL.1 dL_law_453 (by decide) ?_
  refine og_iadd hL.1 dL_law_454 ?_
  refine ol_sld hL (hb 2 (by decide)) dL_law_455 ?_
  refine og_aload_n 0 hL.1 dL_law_456 rfl rfl ?_
  refine og_iload_n 3 hL.1 dL_law_457 rfl rfl ?_
  refine og_iconst (v := 3) hL.1 dL_law_458 (by decide) ?_
  refine og_iadd hL.1 dL_law_459 ?_
  refine ol_sld hL (hb 3 (by decide)) dL_law_460 ?_
  refine og_aload_n 0 hL.1 dL_law_461 rfl rfl ?_
  refine og_iload_n 3 hL.1 dL_law_462 rfl rfl ?_
  refine og_iconst (v := 4) hL.1 dL_law_463 (by decide) ?_
  refine og_iadd hL.1 dL_law_464 ?_
  refine ol_sld hL (hb 4 (by decide)) dL_law_465 ?_
  refine og_aload_n 0 hL.1 dL_law_466 rfl rfl ?_
  refine og_iload_n 3 hL.1 dL_law_467 rfl rfl ?_
  refine og_iconst (v := 5) hL.1 dL_law_468 (by decide) ?_
  refine og_iadd hL.1 dL_law_469 ?_
  refine ol_sld hL (hb 5 (by decide)) dL_law_470 ?_
  refine og_aload_n 0 hL.1 dL_law_471 rfl rfl ?_
  refine og_iload_n 3 hL.1 dL_law_472 rfl rfl ?_
  refine og_bipush (v := 6) hL.1 dL_law_473 (by decide) ?_
  refine og_iadd hL.1 dL_law_475 ?_
  refine ol_sld hL (hb 6 (by decide)) dL_law_476 ?_
  refine ol_callX (q := (v, Sx')) (As := [.int (xs (nt (x3 + 1))), .int (xs (nt (x3 + 2))), .int (xs (nt (x3 + 3))), .int (xs (nt (x3 + 4))), .int (xs (nt (x3 + 5))), .int (xs (nt (x3 + 6)))]) (st := []) (fun n1 => .ref (n1 + 0) :: [.int (xs (nt (x3 + 1))), .int (xs (nt (x3 + 2))), .int (xs (nt (x3 + 3))), .int (xs (nt (x3 + 4))), .int (xs (nt (x3 + 5))), .int (xs (nt (x3 + 6)))]) hL VS_L_36 sX_0 rfl rfl rfl ⟨by decide, by decide⟩ (Nat.le_of_ble_eq_true rfl) (tX11_sender (xs (nt (x3 + 1))) (xs (nt (x3 + 2))) (xs (nt (x3 + 3))) (xs (nt (x3 + 4))) (xs (nt (x3 + 5))) (xs (nt (x3 + 6))) Sx _ hx) hcs dL_law_477 ?_
  show Og X 4 Q (PsL X.2.2.2.2.1 D ids n0 Sx' Sm) cs sl 480 [(0, .ref b), (1, .ref n0), (2, .ref (n0 + 79)), (3, .int x3)] [.int v]
  refine og_aload_n 2 hL.1 dL_law_480 rfl rfl ?_
  refine og_aload_n 0 hL.1 dL_law_481 rfl rfl ?_
  refine og_iload_n 3 hL.1 dL_law_482 rfl rfl ?_
  refine og_iconst (v := 1) hL.1 dL_law_483 (by decide) ?_
  refine og_iadd hL.1 dL_law_484 ?_
  refine ol_sld hL (hb 1 (by decide)) dL_law_485 ?_
  refine og_aload_n 0 hL.1 dL_law_486 rfl rfl ?_
  refine og_iload_n 3 hL.1 dL_law_487 rfl rfl ?_
  refine og_iconst (v := 2) hL.1 dL_law_488 (by decide) ?_
  refine og_iadd hL.1 dL_law_489 ?_
  refine ol_sld hL (hb 2 (by decide)) dL_law_490 ?_
  refine og_aload_n 0 hL.1 dL_law_491 rfl rfl ?_
  refine og_iload_n 3 hL.1 dL_law_492 rfl rfl ?_
  refine og_iconst (v := 3) hL.1 dL_law_493 (by decide) ?_
  refine og_iadd hL.1 dL_law_494 ?_
  refine ol_sld hL (hb 3 (by decide)) dL_law_495 ?_
  refine og_aload_n 0 hL.1 dL_law_496 rfl rfl ?_
  refine og_iload_n 3 hL.1 dL_law_497 rfl rfl ?_
  refine og_iconst (v := 4) hL.1 dL_law_498 (by decide) ?_
  refine og_iadd hL.1 dL_law_499 ?_
  refine ol_sld hL (hb 4 (by decide)) dL_law_500 ?_
  refine og_aload_n 0 hL.1 dL_law_501 rfl rfl ?_
  refine og_iload_n 3 hL.1 dL_law_502 rfl rfl ?_
  refine og_iconst (v := 5) hL.1 dL_law_503 (by decide) ?_
  refine og_iadd hL.1 dL_law_504 ?_
  refine ol_sld hL (hb 5 (by decide)) dL_law_505 ?_
  refine og_aload_n 0 hL.1 dL_law_506 rfl rfl ?_
  refine og_iload_n 3 hL.1 dL_law_507 rfl rfl ?_
  refine og_bipush (v := 6) hL.1 dL_law_508 (by decide) ?_
  refine og_iadd hL.1 dL_law_510 ?_
  refine ol_sld hL (hb 6 (by decide)) dL_law_511 ?_
  refine ol_callM (q := (v, Sm')) (As := [.int (xs (nt (x3 + 1))), .int (xs (nt (x3 + 2))), .int (xs (nt (x3 + 3))), .int (xs (nt (x3 + 4))), .int (xs (nt (x3 + 5))), .int (xs (nt (x3 + 6)))]) (st := [.int v]) (fun n1 => .ref (n1 + 0) :: [.int (xs (nt (x3 + 1))), .int (xs (nt (x3 + 2))), .int (xs (nt (x3 + 3))), .int (xs (nt (x3 + 4))), .int (xs (nt (x3 + 5))), .int (xs (nt (x3 + 6)))]) hL VS_L_40 sM_0 rfl rfl rfl ⟨by decide, by decide⟩ (Nat.le_of_ble_eq_true rfl) (tX12_sender (xs (nt (x3 + 1))) (xs (nt (x3 + 2))) (xs (nt (x3 + 3))) (xs (nt (x3 + 4))) (xs (nt (x3 + 5))) (xs (nt (x3 + 6))) Sm _ hm) hcs dL_law_512 ?_
  show Og X 4 Q (PsL X.2.2.2.2.1 D ids n0 Sx' Sm') cs sl 515 [(0, .ref b), (1, .ref n0), (2, .ref (n0 + 79)), (3, .int x3)] [.int v, .int v]
  refine og_icmp_eq 2132 hL.1 dL_law_515 (by decide) (fun _ => ?_) (fun hne => absurd rfl hne)
  exact kk Sx' Sm' hp
set_option maxRecDepth 100000 in
set_option maxHeartbeats 4000000 in
theorem lawc_6 {X : Mx} {D : va_G} {ids : Nat → ClassId} {n0 b L aL aG : Nat} {xs : Nat → Int32} {Q : State → Prop} {cs sl : Nat} {Sx Sm : St} {P : St → St → Prop} (hL : LawC X D ids n0 b L xs aL aG) (hcs : cs ≤ 600000 ∧ sl ≤ 7302250) (x3 : Int32) (hb : ∀ j : Int32, (0 ≤ j ∧ j ≤ 6) → ib (x3 + j) L) (hpp : ∃ (v : Int32) (Sx' Sm' : St), fX11_about (xs (nt (x3 + 1))) (xs (nt (x3 + 2))) Sx = some (v, Sx') ∧ fX12_about (xs (nt (x3 + 1))) (xs (nt (x3 + 2))) Sm = some (v, Sm') ∧ P Sx' Sm') (kk : ∀ Sx' Sm', P Sx' Sm' → Og X 4 Q (PsL X.2.2.2.2.1 D ids n0 Sx' Sm') cs sl 2132 [(0, .ref b), (1, .ref n0), (2, .ref (n0 + 79)), (3, .int x3)] []) : Og X 4 Q (PsL X.2.2.2.2.1 D ids n0 Sx Sm) cs sl 520 [(0, .ref b), (1, .ref n0), (2, .ref (n0 + 79)), (3, .int x3)] [] := by
  obtain ⟨v, Sx', Sm', hx, hm, hp⟩ := hpp
  refine og_aload_n 1 hL.1 dL_law_520 rfl rfl ?_
  refine og_aload_n 0 hL.1 dL_law_521 rfl rfl ?_
  refine og_iload_n 3 hL.1 dL_law_522 rfl rfl ?_
  refine og_iconst (v := 1) hL.1 dL_law_523 (by decide) ?_
  refine og_iadd hL.1 dL_law_524 ?_
  refine ol_sld hL (hb 1 (by decide)) dL_law_525 ?_
  refine og_aload_n 0 hL.1 dL_law_526 rfl rfl ?_
  refine og_iload_n 3 hL.1 dL_law_527 rfl rfl ?_
  refine og_iconst (v := 2) hL.1 dL_law_528 (by decide) ?_
  refine og_iadd hL.1 dL_law_529 ?_
  refine ol_sld hL (hb 2 (by decide)) dL_law_530 ?_
  refine ol_callX (q := (v, Sx')) (As := [.int (xs (nt (x3 + 1))), .int (xs (nt (x3 + 2)))]) (st := []) (fun n1 => .ref (n1 + 0) :: [.int (xs (nt (x3 + 1))), .int (xs (nt (x3 + 2)))]) hL VS_L_41 sX_0 rfl rfl rfl ⟨by decide, by decide⟩ (Nat.le_of_ble_eq_true rfl) (tX11_about (xs (nt (x3 + 1))) (xs (nt (x3 + 2))) Sx _ hx) hcs dL_law_531 ?_
  show Og X 4 Q (PsL X.2.2.2.2.1 D ids n0 Sx' Sm) cs sl 534 [(0, .ref b), (1, .ref n0), (2, .ref (n0 + 79)), (3, .int x3)] [.int v]
  refine og_aload_n 2 hL.1 dL_law_534 rfl rfl ?_
  refine og_aload_n 0 hL.1 dL_law_535 rfl rfl ?_
  refine og_iload_n 3 hL.1 dL_law_536 rfl rfl ?_
  refine og_iconst (v := 1) hL.1 dL_law_537 (by decide) ?_
  refine og_iadd hL.1 dL_law_538 ?_
  refine ol_sld hL (hb 1 (by decide)) dL_law_539 ?_
  refine og_aload_n 0 hL.1 dL_law_540 rfl rfl ?_
  refine og_iload_n 3 hL.1 dL_law_541 rfl rfl ?_
  refine og_iconst (v := 2) hL.1 dL_law_542 (by decide) ?_
  refine og_iadd hL.1 dL_law_543 ?_
  refine ol_sld hL (hb 2 (by decide)) dL_law_544 ?_
  refine ol_callM (q := (v, Sm')) (As := [.int (xs (nt (x3 + 1))), .int (xs (nt (x3 + 2)))]) (st := [.int v]) (fun n1 => .ref (n1 + 0) :: [.int (xs (nt (x3 + 1))), .int (xs (nt (x3 + 2)))]) hL VS_L_44 sM_0 rfl rfl rfl ⟨by decide, by decide⟩ (Nat.le_of_ble_eq_true rfl) (tX12_about (xs (nt (x3 + 1))) (xs (nt (x3 + 2))) Sm _ hm) hcs dL_law_545 ?_
  show Og X 4 Q (PsL X.2.2.2.2.1 D ids n0 Sx' Sm') cs sl 548 [(0, .ref b), (1, .ref n0), (2, .ref (n0 + 79)), (3, .int x3)] [.int v, .int v]
  refine og_icmp_eq 2132 hL.1 dL_law_548 (by decide) (fun _ => ?_) (fun hne => absurd rfl hne)
  exact kk Sx' Sm' hp
set_option maxRecDepth 100000 in
set_option maxHeartbeats 4000000 in
theorem lawc_7 {X : Mx} {D : va_G} {ids : Nat → ClassId} {n0 b L aL aG : Nat} {xs : Nat → Int32} {Q : State → Prop} {cs sl : Nat} {Sx Sm : St} {P : St → St → Prop} (hL : LawC X D ids n0 b L xs aL aG) (hcs : cs ≤ 600000 ∧ sl ≤ 7302250) (x3 : Int32) (hb : ∀ j : Int32, (0 ≤ j ∧ j ≤ 6) → ib (x3 + j) L) (hpp : ∃ (v : Int32) (Sx' Sm' : St), fX11_change (xs (nt (x3 + 1))) (xs (nt (x3 + 2))) (xs (nt (x3 + 3))) Sx = some (v, Sx') ∧ fX12_change (xs (nt (x3 + 1))) (xs (nt (x3 + 2))) (xs (nt (x3 + 3))) Sm = some (v, Sm') ∧ P Sx' Sm') (kk : ∀ Sx' Sm', P Sx' Sm' → Og X 4 Q (PsL X.2.2.2.2.1 D ids n0 Sx' Sm') cs sl 2132 [(0, .ref b), (1, .ref n0), (2, .ref (n0 + 79)), (3, .int x3)] []) : Og X 4 Q (PsL X.2.2.2.2.1 D ids n0 Sx Sm) cs sl 553 [(0, .ref b), (1, .ref n0), (2, .ref (n0 + 79)), (3, .int x3)] [] := by
  obtain ⟨v, Sx', Sm', hx, hm, hp⟩ := hpp
  refine og_aload_n 1 hL.1 dL_law_553 rfl rfl ?_
  refine og_aload_n 0 hL.1 dL_law_554 rfl rfl ?_
  refine og_iload_n 3 hL.1 dL_law_555 rfl rfl ?_
  refine og_iconst (v := 1) hL.1 dL_law_556 (by decide) ?_
  refine og_iadd hL.1 dL_law_557 ?_
  refine ol_sld hL (hb 1 (by decide)) dL_law_558 ?_
  refine og_aload_n 0 hL.1 dL_law_559 rfl rfl ?_
  refine og_iload_n 3 hL.1 dL_law_560 rfl rfl ?_
  refine og_iconst (v := 2) hL.1 dL_law_561 (by decide) ?_
  refine og_iadd hL.1 dL_law_562 ?_
  refine ol_sld hL (hb 2 (by decide)) dL_law_563 ?_
  refine og_aload_n 0 hL.1 dL_law_564 rfl rfl ?_
  refine og_iload_n 3 hL.1 dL_law_565 rfl rfl ?_
  refine og_iconst (v := 3) hL.1 dL_law_566 (by decide) ?_
  refine og_iadd hL.1 dL_law_567 ?_
  refine ol_sld hL (hb 3 (by decide)) dL_law_568 ?_
  refine ol_callX (q := (v, Sx')) (As := [.int (xs (nt (x3 + 1))), .int (xs (nt (x3 + 2))), .int (xs (nt (x3 + 3)))]) (st := []) (fun n1 => .ref (n1 + 0) :: [.int (xs (nt (x3 + 1))), .int (xs (nt (x3 + 2))), .int (xs (nt (x3 + 3)))]) hL VS_L_45 sX_0 rfl rfl rfl ⟨by decide, by decide⟩ (Nat.le_of_ble_eq_true rfl) (tX11_change (xs (nt (x3 + 1))) (xs (nt (x3 + 2))) (xs (nt (x3 + 3))) Sx _ hx) hcs dL_law_569 ?_
  show Og X 4 Q (PsL X.2.2.2.2.1 D ids n0 Sx' Sm) cs sl 572 [(0, .ref b), (1, .ref n0), (2, .ref (n0 + 79)), (3, .int x3)] [.int v]
  refine og_aload_n 2 hL.1 dL_law_572 rfl rfl ?_
  refine og_aload_n 0 hL.1 dL_law_573 rfl rfl ?_
  refine og_iload_n 3 hL.1 dL_law_574 rfl rfl ?_
  refine og_iconst (v := 1) hL.1 dL_law_575 (by decide) ?_
  refine og_iadd hL.1 dL_law_576 ?_
  refine ol_sld hL (hb 1 (by decide)) dL_law_577 ?_
  refine og_aload_n 0 hL.1 dL_law_578 rfl rfl ?_
  refine og_iload_n 3 hL.1 dL_law_579 rfl rfl ?_
  refine og_iconst (v := 2) hL.1 dL_law_580 (by decide) ?_
  refine og_iadd hL.1 dL_law_581 ?_
  refine ol_sld hL (hb 2 (by decide)) dL_law_582 ?_
  refine og_aload_n 0 hL.1 dL_law_583 rfl rfl ?_
  refine og_iload_n 3 hL.1 dL_law_584 rfl rfl ?_
  refine og_iconst (v := 3) hL.1 dL_law_585 (by decide) ?_
  refine og_iadd hL.1 dL_law_586 ?_
  refine ol_sld hL (hb 3 (by decide)) dL_law_587 ?_
  refine ol_callM (q := (v, Sm')) (As := [.int (xs (nt (x3 + 1))), .int (xs (nt (x3 + 2))), .int (xs (nt (x3 + 3)))]) (st := [.int v]) (fun n1 => .ref (n1 + 0) :: [.int (xs (nt (x3 + 1))), .int (xs (nt (x3 + 2))), .int (xs (nt (x3 + 3)))]) hL VS_L_49 sM_0 rfl rfl rfl ⟨by decide, by decide⟩ (Nat.le_of_ble_eq_true rfl) (tX12_change (xs (nt (x3 + 1))) (xs (nt (x3 + 2))) (xs (nt (x3 + 3))) Sm _ hm) hcs dL_law_588 ?_
  show Og X 4 Q (PsL X.2.2.2.2.1 D ids n0 Sx' Sm') cs sl 591 [(0, .ref b), (1, .ref n0), (2, .ref (n0 + 79)), (3, .int x3)] [.int v, .int v]
  refine og_icmp_eq 2132 hL.1 dL_law_591 (by decide) (fun _ => ?_) (fun hne => absurd rfl hne)
  exact kk Sx' Sm' hp
set_option maxRecDepth 100000 in
set_option maxHeartbeats 4000000 in
theorem lawc_8 {X : Mx} {D : va_G} {ids : Nat → ClassId} {n0 b L aL aG : Nat} {xs : Nat → Int32} {Q : State → Prop} {cs sl : Nat} {Sx Sm : St} {P : St → St → Prop} (hL : LawC X D ids n0 b L xs aL aG) (hcs : cs ≤ 600000 ∧ sl ≤ 7302250) (x3 : Int32) (hb : ∀ j : Int32, (0 ≤ j ∧ j ≤ 6) → ib (x3 + j) L) (hpp : ∃ (v : Int32) (Sx' Sm' : St), fX11_on (xs (nt (x3 + 1))) (bz (xs (nt (x3 + 2)))) Sx = some (v, Sx') ∧ fX12_on (xs (nt (x3 + 1))) (bz (xs (nt (x3 + 2)))) Sm = some (v, Sm') ∧ P Sx' Sm') (kk : ∀ Sx' Sm', P Sx' Sm' → Og X 4 Q (PsL X.2.2.2.2.1 D ids n0 Sx' Sm') cs sl 2132 [(0, .ref b), (1, .ref n0), (2, .ref (n0 + 79)), (3, .int x3)] []) : Og X 4 Q (PsL X.2.2.2.2.1 D ids n0 Sx Sm) cs sl 596 [(0, .ref b), (1, .ref n0), (2, .ref (n0 + 79)), (3, .int x3)] [] := by
  obtain ⟨v, Sx', Sm', hx, hm, hp⟩ := hpp
  refine og_aload_n 1 hL.1 dL_law_596 rfl rfl ?_
  refine og_aload_n 0 hL.1 dL_law_597 rfl rfl ?_
  refine og_iload_n 3 hL.1 dL_law_598 rfl rfl ?_
  refine og_iconst (v := 1) hL.1 dL_law_599 (by decide) ?_
  refine og_iadd hL.1 dL_law_600 ?_
  refine ol_sld hL (hb 1 (by decide)) dL_law_601 ?_
  refine og_aload_n 0 hL.1 dL_law_602 rfl rfl ?_
  refine og_iload_n 3 hL.1 dL_law_603 rfl rfl ?_
  refine og_iconst (v := 2) hL.1 dL_law_604 (by decide) ?_
  refine og_iadd hL.1 dL_law_605 ?_
  refine ol_sld hL (hb 2 (by decide)) dL_law_606 ?_
  refine bz_j (fun vz => Og X 4 Q (PsL X.2.2.2.2.1 D ids n0 Sx Sm) cs sl 615 [(0, .ref b), (1, .ref n0), (2, .ref (n0 + 79)), (3, .int x3)] [.int vz, .int (xs (nt (x3 + 1))), .ref n0]) (xs (nt (x3 + 2))) (fun hj => ?_) ?_
  · refine og_if_eq 614 hL.1 dL_law_607 (by decide) (fun hz => ?_) (fun hz => ?_)
    · refine og_iconst (v := 0) hL.1 dL_law_614 (by decide) ?_
      exact hj.1 hz
    · refine og_iconst (v := 1) hL.1 dL_law_610 (by decide) ?_
      refine og_goto 615 hL.1 dL_law_611 (by decide) ?_
      exact hj.2 hz
  refine ol_callX (q := (v, Sx')) (As := [.int (xs (nt (x3 + 1))), .int (bz (xs (nt (x3 + 2))))]) (st := []) (fun n1 => .ref (n1 + 0) :: [.int (xs (nt (x3 + 1))), .int (bz (xs (nt (x3 + 2))))]) hL VS_L_50 sX_0 rfl rfl rfl ⟨by decide, by decide⟩ (Nat.le_of_ble_eq_true rfl) (tX11_on (xs (nt (x3 + 1))) (bz (xs (nt (x3 + 2)))) Sx _ hx) hcs dL_law_615 ?_
  show Og X 4 Q (PsL X.2.2.2.2.1 D ids n0 Sx' Sm) cs sl 618 [(0, .ref b), (1, .ref n0), (2, .ref (n0 + 79)), (3, .int x3)] [.int v]
  refine og_aload_n 2 hL.1 dL_law_618 rfl rfl ?_
  refine og_aload_n 0 hL.1 dL_law_619 rfl rfl ?_
  refine og_iload_n 3 hL.1 dL_law_620 rfl rfl ?_
  refine og_iconst (v := 1) hL.1 dL_law_621 (by decide) ?_
  refine og_iadd hL.1 dL_law_622 ?_
  refine ol_sld hL (hb 1 (by decide)) dL_law_623 ?_
  refine og_aload_n 0 hL.1 dL_law_624 rfl rfl ?_
  refine og_iload_n 3 hL.1 dL_law_625 rfl rfl ?_
  refine og_iconst (v := 2) hL.1 dL_law_626 (by decide) ?_
  refine og_iadd hL.1 dL_law_627 ?_
  refine ol_sld hL (hb 2 (by decide)) dL_law_628 ?_
  refine bz_j (fun vz => Og X 4 Q (PsL X.2.2.2.2.1 D ids n0 Sx' Sm) cs sl 637 [(0, .ref b), (1, .ref n0), (2, .ref (n0 + 79)), (3, .int x3)] [.int vz, .int (xs (nt (x3 + 1))), .ref (n0 + 79), .int v]) (xs (nt (x3 + 2))) (fun hj => ?_) ?_
  · refine og_if_eq 636 hL.1 dL_law_629 (by decide) (fun hz => ?_) (fun hz => ?_)
    · refine og_iconst (v := 0) hL.1 dL_law_636 (by decide) ?_
      exact hj.1 hz
    · refine og_iconst (v := 1) hL.1 dL_law_632 (by decide) ?_
      refine og_goto 637 hL.1 dL_law_633 (by decide) ?_
      exact hj.2 hz
  refine ol_callM (q := (v, Sm')) (As := [.int (xs (nt (x3 + 1))), .int (bz (xs (nt (x3 + 2))))]) (st := [.int v]) (fun n1 => .ref (n1 + 0) :: [.int (xs (nt (x3 + 1))), .int (bz (xs (nt (x3 + 2))))]) hL VS_L_54 sM_0 rfl rfl rfl ⟨by decide, by decide⟩ (Nat.le_of_ble_eq_true rfl) (tX12_on (xs (nt (x3 + 1))) (bz (xs (nt (x3 + 2)))) Sm _ hm) hcs dL_law_637 ?_
  show Og X 4 Q (PsL X.2.2.2.2.1 D ids n0 Sx' Sm') cs sl 640 [(0, .ref b), (1, .ref n0), (2, .ref (n0 + 79)), (3, .int x3)] [.int v, .int v]
  refine og_icmp_eq 2132 hL.1 dL_law_640 (by decide) (fun _ => ?_) (fun hne => absurd rfl hne)
  exact kk Sx' Sm' hp
set_option maxRecDepth 100000 in
set_option maxHeartbeats 4000000 in
theorem lawc_9 {X : Mx} {D : va_G} {ids : Nat → ClassId} {n0 b L aL aG : Nat} {xs : Nat → Int32} {Q : State → Prop} {cs sl : Nat} {Sx Sm : St} {P : St → St → Prop} (hL : LawC X D ids n0 b L xs aL aG) (hcs : cs ≤ 600000 ∧ sl ≤ 7302250) (x3 : Int32) (hb : ∀ j : Int32, (0 ≤ j ∧ j ≤ 6) → ib (x3 + j) L) (hpp : ∃ (v : Int32) (Sx' Sm' : St), fX11_got (xs (nt (x3 + 1))) (xs (nt (x3 + 2))) Sx = some (v, Sx') ∧ fX12_got (xs (nt (x3 + 1))) (xs (nt (x3 + 2))) Sm = some (v, Sm') ∧ P Sx' Sm') (kk : ∀ Sx' Sm', P Sx' Sm' → Og X 4 Q (PsL X.2.2.2.2.1 D ids n0 Sx' Sm') cs sl 2132 [(0, .ref b), (1, .ref n0), (2, .ref (n0 + 79)), (3, .int x3)] []) : Og X 4 Q (PsL X.2.2.2.2.1 D ids n0 Sx Sm) cs sl 645 [(0, .ref b), (1, .ref n0), (2, .ref (n0 + 79)), (3, .int x3)] [] := by
  obtain ⟨v, Sx', Sm', hx, hm, hp⟩ := hpp
  refine og_aload_n 1 hL.1 dL_law_645 rfl rfl ?_
  refine og_aload_n 0 hL.1 dL_law_646 rfl rfl ?_
  refine og_iload_n 3 hL.1 dL_law_647 rfl rfl ?_
  refine og_iconst (v := 1) hL.1 dL_law_648 (by decide) ?_
  refine og_iadd hL.1 dL_law_649 ?_
  refine ol_sld hL (hb 1 (by decide)) dL_law_650 ?_
  refine og_aload_n 0 hL.1 dL_law_651 rfl rfl ?_
  refine og_iload_n 3 hL.1 dL_law_652 rfl rfl ?_
  refine og_iconst (v := 2) hL.1 dL_law_653 (by decide) ?_
  refine og_iadd hL.1 dL_law_654 ?_
  refine ol_sld hL (hb 2 (by decide)) dL_law_655 ?_
  refine ol_callX (q := (v, Sx')) (As := [.int (xs (nt (x3 + 1))), .int (xs (nt (x3 + 2)))]) (st := []) (fun n1 => .ref (n1 + 0) :: [.int (xs (nt (x3 + 1))), .int (xs (nt (x3 + 2)))]) hL VS_L_55 sX_0 rfl rfl rfl ⟨by decide, by decide⟩ (Nat.le_of_ble_eq_true rfl) (tX11_got (xs (nt (x3 + 1))) (xs (nt (x3 + 2))) Sx _ hx) hcs dL_law_656 ?_
  show Og X 4 Q (PsL X.2.2.2.2.1 D ids n0 Sx' Sm) cs sl 659 [(0, .ref b), (1, .ref n0), (2, .ref (n0 + 79)), (3, .int x3)] [.int v]
  refine og_aload_n 2 hL.1 dL_law_659 rfl rfl ?_
  refine og_aload_n 0 hL.1 dL_law_660 rfl rfl ?_
  refine og_iload_n 3 hL.1 dL_law_661 rfl rfl ?_
  refine og_iconst (v := 1) hL.1 dL_law_662 (by decide) ?_
  refine og_iadd hL.1 dL_law_663 ?_
  refine ol_sld hL (hb 1 (by decide)) dL_law_664 ?_
  refine og_aload_n 0 hL.1 dL_law_665 rfl rfl ?_
  refine og_iload_n 3 hL.1 dL_law_666 rfl rfl ?_
  refine og_iconst (v := 2) hL.1 dL_law_667 (by decide) ?_
  refine og_iadd hL.1 dL_law_668 ?_
  refine ol_sld hL (hb 2 (by decide)) dL_law_669 ?_
  refine ol_callM (q := (v, Sm')) (As := [.int (xs (nt (x3 + 1))), .int (xs (nt (x3 + 2)))]) (st := [.int v]) (fun n1 => .ref (n1 + 0) :: [.int (xs (nt (x3 + 1))), .int (xs (nt (x3 + 2)))]) hL VS_L_58 sM_0 rfl rfl rfl ⟨by decide, by decide⟩ (Nat.le_of_ble_eq_true rfl) (tX12_got (xs (nt (x3 + 1))) (xs (nt (x3 + 2))) Sm _ hm) hcs dL_law_670 ?_
  show Og X 4 Q (PsL X.2.2.2.2.1 D ids n0 Sx' Sm') cs sl 673 [(0, .ref b), (1, .ref n0), (2, .ref (n0 + 79)), (3, .int x3)] [.int v, .int v]
  refine og_icmp_eq 2132 hL.1 dL_law_673 (by decide) (fun _ => ?_) (fun hne => absurd rfl hne)
  exact kk Sx' Sm' hp
set_option maxRecDepth 100000 in
set_option maxHeartbeats 4000000 in
theorem lawc_10 {X : Mx} {D : va_G} {ids : Nat → ClassId} {n0 b L aL aG : Nat} {xs : Nat → Int32} {Q : State → Prop} {cs sl : Nat} {Sx Sm : St} {P : St → St → Prop} (hL : LawC X D ids n0 b L xs aL aG) (hcs : cs ≤ 600000 ∧ sl ≤ 7302250) (x3 : Int32) (hb : ∀ j : Int32, (0 ≤ j ∧ j ≤ 6) → ib (x3 + j) L) (hpp : ∃ (v : Int32) (Sx' Sm' : St), fX11_heard (xs (nt (x3 + 1))) Sx = some (v, Sx') ∧ fX12_heard (xs (nt (x3 + 1))) Sm = some (v, Sm') ∧ P Sx' Sm') (kk : ∀ Sx' Sm', P Sx' Sm' → Og X 4 Q (PsL X.2.2.2.2.1 D ids n0 Sx' Sm') cs sl 2132 [(0, .ref b), (1, .ref n0), (2, .ref (n0 + 79)), (3, .int x3)] []) : Og X 4 Q (PsL X.2.2.2.2.1 D ids n0 Sx Sm) cs sl 678 [(0, .ref b), (1, .ref n0), (2, .ref (n0 + 79)), (3, .int x3)] [] := by
  obtain ⟨v, Sx', Sm', hx, hm, hp⟩ := hpp
  refine og_aload_n 1 hL.1 dL_law_678 rfl rfl ?_
  refine og_aload_n 0 hL.1 dL_law_679 rfl rfl ?_
  refine og_iload_n 3 hL.1 dL_law_680 rfl rfl ?_
  refine og_iconst (v := 1) hL.1 dL_law_681 (by decide) ?_
  refine og_iadd hL.1 dL_law_682 ?_
  refine ol_sld hL (hb 1 (by decide)) dL_law_683 ?_
  refine ol_callX (q := (v, Sx')) (As := [.int (xs (nt (x3 + 1)))]) (st := []) (fun n1 => .ref (n1 + 0) :: [.int (xs (nt (x3 + 1)))]) hL VS_L_59 sX_0 rfl rfl rfl ⟨by decide, by decide⟩ (Nat.le_of_ble_eq_true rfl) (tX11_heard (xs (nt (x3 + 1))) Sx _ hx) hcs dL_law_684 ?_
  show Og X 4 Q (PsL X.2.2.2.2.1 D ids n0 Sx' Sm) cs sl 687 [(0, .ref b), (1, .ref n0), (2, .ref (n0 + 79)), (3, .int x3)] [.int v]
  refine og_aload_n 2 hL.1 dL_law_687 rfl rfl ?_
  refine og_aload_n 0 hL.1 dL_law_688 rfl rfl ?_
  refine og_iload_n 3 hL.1 dL_law_689 rfl rfl ?_
  refine og_iconst (v := 1) hL.1 dL_law_690 (by decide) ?_
  refine og_iadd hL.1 dL_law_691 ?_
  refine ol_sld hL (hb 1 (by decide)) dL_law_692 ?_
  refine ol_callM (q := (v, Sm')) (As := [.int (xs (nt (x3 + 1)))]) (st := [.int v]) (fun n1 => .ref (n1 + 0) :: [.int (xs (nt (x3 + 1)))]) hL VS_L_62 sM_0 rfl rfl rfl ⟨by decide, by decide⟩ (Nat.le_of_ble_eq_true rfl) (tX12_heard (xs (nt (x3 + 1))) Sm _ hm) hcs dL_law_693 ?_
  show Og X 4 Q (PsL X.2.2.2.2.1 D ids n0 Sx' Sm') cs sl 696 [(0, .ref b), (1, .ref n0), (2, .ref (n0 + 79)), (3, .int x3)] [.int v, .int v]
  refine og_icmp_eq 2132 hL.1 dL_law_696 (by decide) (fun _ => ?_) (fun hne => absurd rfl hne)
  exact kk Sx' Sm' hp
set_option maxRecDepth 100000 in
set_option maxHeartbeats 4000000 in
theorem lawc_11 {X : Mx} {D : va_G} {ids : Nat → ClassId} {n0 b L aL aG : Nat} {xs : Nat → Int32} {Q : State → Prop} {cs sl : Nat} {Sx Sm : St} {P : St → St → Prop} (hL : LawC X D ids n0 b L xs aL aG) (hcs : cs ≤ 600000 ∧ sl ≤ 7302250) (x3 : Int32) (hb : ∀ j : Int32, (0 ≤ j ∧ j ≤ 6) → ib (x3 + j) L) (hpp : ∃ (v : Int64) (Sx' Sm' : St), fX11_drowns (xs (nt (x3 + 1))) Sx = some (v, Sx') ∧ fX12_drowns (xs (nt (x3 + 1))) Sm = some (v, Sm') ∧ P Sx' Sm') (kk : ∀ Sx' Sm', P Sx' Sm' → Og X 4 Q (PsL X.2.2.2.2.1 D ids n0 Sx' Sm') cs sl 2132 [(0, .ref b), (1, .ref n0), (2, .ref (n0 + 79)), (3, .int x3)] []) : Og X 4 Q (PsL X.2.2.2.2.1 D ids n0 Sx Sm) cs sl 701 [(0, .ref b), (1, .ref n0), (2, .ref (n0 + 79)), (3, .int x3)] [] := by
  obtain ⟨v, Sx', Sm', hx, hm, hp⟩ := hpp
  refine og_aload_n 1 hL.1 dL_law_701 rfl rfl ?_
  refine og_aload_n 0 hL.1 dL_law_702 rfl rfl ?_
  refine og_iload_n 3 hL.1 dL_law_703 rfl rfl ?_
  refine og_iconst (v := 1) hL.1 dL_law_704 (by decide) ?_
  refine og_iadd hL.1 dL_law_705 ?_
  refine ol_sld hL (hb 1 (by decide)) dL_law_706 ?_
  refine ol_callX (q := (v, Sx')) (As := [.int (xs (nt (x3 + 1)))]) (st := []) (fun n1 => .ref (n1 + 0) :: [.int (xs (nt (x3 + 1)))]) hL VS_L_63 sX_0 rfl rfl rfl ⟨by decide, by decide⟩ (Nat.le_of_ble_eq_true rfl) (tX11_drowns (xs (nt (x3 + 1))) Sx _ hx) hcs dL_law_707 ?_
  show Og X 4 Q (PsL X.2.2.2.2.1 D ids n0 Sx' Sm) cs sl 710 [(0, .ref b), (1, .ref n0), (2, .ref (n0 + 79)), (3, .int x3)] [.long v]
  refine og_aload_n 2 hL.1 dL_law_710 rfl rfl ?_
  refine og_aload_n 0 hL.1 dL_law_711 rfl rfl ?_
  refine og_iload_n 3 hL.1 dL_law_712 rfl rfl ?_
  refine og_iconst (v := 1) hL.1 dL_law_713 (by decide) ?_
  refine og_iadd hL.1 dL_law_714 ?_
  refine ol_sld hL (hb 1 (by decide)) dL_law_715 ?_
  refine ol_callM (q := (v, Sm')) (As := [.int (xs (nt (x3 + 1)))]) (st := [.long v]) (fun n1 => .ref (n1 + 0) :: [.int (xs (nt (x3 + 1)))]) hL VS_L_67 sM_0 rfl rfl rfl ⟨by decide, by decide⟩ (Nat.le_of_ble_eq_true rfl) (tX12_drowns (xs (nt (x3 + 1))) Sm _ hm) hcs dL_law_716 ?_
  show Og X 4 Q (PsL X.2.2.2.2.1 D ids n0 Sx' Sm') cs sl 719 [(0, .ref b), (1, .ref n0), (2, .ref (n0 + 79)), (3, .int x3)] [.long v, .long v]
  refine og_lcmp_eq 2132 hL.1 dL_law_719 dL_law_720 (by decide) (fun _ => ?_) (fun hne => absurd rfl hne)
  exact kk Sx' Sm' hp
set_option maxRecDepth 100000 in
set_option maxHeartbeats 4000000 in
theorem lawc_12 {X : Mx} {D : va_G} {ids : Nat → ClassId} {n0 b L aL aG : Nat} {xs : Nat → Int32} {Q : State → Prop} {cs sl : Nat} {Sx Sm : St} {P : St → St → Prop} (hL : LawC X D ids n0 b L xs aL aG) (hcs : cs ≤ 600000 ∧ sl ≤ 7302250) (x3 : Int32) (hb : ∀ j : Int32, (0 ≤ j ∧ j ≤ 6) → ib (x3 + j) L) (hpp : ∃ (v : Int32) (Sx' Sm' : St), fX11_cause (xs (nt (x3 + 1))) Sx = some (v, Sx') ∧ fX12_cause (xs (nt (x3 + 1))) Sm = some (v, Sm') ∧ P Sx' Sm') (kk : ∀ Sx' Sm', P Sx' Sm' → Og X 4 Q (PsL X.2.2.2.2.1 D ids n0 Sx' Sm') cs sl 2132 [(0, .ref b), (1, .ref n0), (2, .ref (n0 + 79)), (3, .int x3)] []) : Og X 4 Q (PsL X.2.2.2.2.1 D ids n0 Sx Sm) cs sl 725 [(0, .ref b), (1, .ref n0), (2, .ref (n0 + 79)), (3, .int x3)] [] := by
  obtain ⟨v, Sx', Sm', hx, hm, hp⟩ := hpp
  refine og_aload_n 1 hL.1 dL_law_725 rfl rfl ?_
  refine og_aload_n 0 hL.1 dL_law_726 rfl rfl ?_
  refine og_iload_n 3 hL.1 dL_law_727 rfl rfl ?_
  refine og_iconst (v := 1) hL.1 dL_law_728 (by decide) ?_
  refine og_iadd hL.1 dL_law_729 ?_
  refine ol_sld hL (hb 1 (by decide)) dL_law_730 ?_
  refine ol_callX (q := (v, Sx')) (As := [.int (xs (nt (x3 + 1)))]) (st := []) (fun n1 => .ref (n1 + 0) :: [.int (xs (nt (x3 + 1)))]) hL VS_L_68 sX_0 rfl rfl rfl ⟨by decide, by decide⟩ (Nat.le_of_ble_eq_true rfl) (tX11_cause (xs (nt (x3 + 1))) Sx _ hx) hcs dL_law_731 ?_
  show Og X 4 Q (PsL X.2.2.2.2.1 D ids n0 Sx' Sm) cs sl 734 [(0, .ref b), (1, .ref n0), (2, .ref (n0 + 79)), (3, .int x3)] [.int v]
  refine og_aload_n 2 hL.1 dL_law_734 rfl rfl ?_
  refine og_aload_n 0 hL.1 dL_law_735 rfl rfl ?_
  refine og_iload_n 3 hL.1 dL_law_736 rfl rfl ?_
  refine og_iconst (v := 1) hL.1 dL_law_737 (by decide) ?_
  refine og_iadd hL.1 dL_law_738 ?_
  refine ol_sld hL (hb 1 (by decide)) dL_law_739 ?_
  refine ol_callM (q := (v, Sm')) (As := [.int (xs (nt (x3 + 1)))]) (st := [.int v]) (fun n1 => .ref (n1 + 0) :: [.int (xs (nt (x3 + 1)))]) hL VS_L_71 sM_0 rfl rfl rfl ⟨by decide, by decide⟩ (Nat.le_of_ble_eq_true rfl) (tX12_cause (xs (nt (x3 + 1))) Sm _ hm) hcs dL_law_740 ?_
  show Og X 4 Q (PsL X.2.2.2.2.1 D ids n0 Sx' Sm') cs sl 743 [(0, .ref b), (1, .ref n0), (2, .ref (n0 + 79)), (3, .int x3)] [.int v, .int v]
  refine og_icmp_eq 2132 hL.1 dL_law_743 (by decide) (fun _ => ?_) (fun hne => absurd rfl hne)
  exact kk Sx' Sm' hp
set_option maxRecDepth 100000 in
set_option maxHeartbeats 4000000 in
theorem lawc_13 {X : Mx} {D : va_G} {ids : Nat → ClassId} {n0 b L aL aG : Nat} {xs : Nat → Int32} {Q : State → Prop} {cs sl : Nat} {Sx Sm : St} {P : St → St → Prop} (hL : LawC X D ids n0 b L xs aL aG) (hcs : cs ≤ 600000 ∧ sl ≤ 7302250) (x3 : Int32) (hb : ∀ j : Int32, (0 ≤ j ∧ j ≤ 6) → ib (x3 + j) L) (hpp : ∃ (v : Int32) (Sx' Sm' : St), fX11_share (xs (nt (x3 + 1))) Sx = some (v, Sx') ∧ fX12_share (xs (nt (x3 + 1))) Sm = some (v, Sm') ∧ P Sx' Sm') (kk : ∀ Sx' Sm', P Sx' Sm' → Og X 4 Q (PsL X.2.2.2.2.1 D ids n0 Sx' Sm') cs sl 2132 [(0, .ref b), (1, .ref n0), (2, .ref (n0 + 79)), (3, .int x3)] []) : Og X 4 Q (PsL X.2.2.2.2.1 D ids n0 Sx Sm) cs sl 748 [(0, .ref b), (1, .ref n0), (2, .ref (n0 + 79)), (3, .int x3)] [] := by
  obtain ⟨v, Sx', Sm', hx, hm, hp⟩ := hpp
  refine og_aload_n 1 hL.1 dL_law_748 rfl rfl ?_
  refine og_aload_n 0 hL.1 dL_law_749 rfl rfl ?_
  refine og_iload_n 3 hL.1 dL_law_750 rfl rfl ?_
  refine og_iconst (v := 1) hL.1 dL_law_751 (by decide) ?_
  refine og_iadd hL.1 dL_law_752 ?_
  refine ol_sld hL (hb 1 (by decide)) dL_law_753 ?_
  refine ol_callX (q := (v, Sx')) (As := [.int (xs (nt (x3 + 1)))]) (st := []) (fun n1 => .ref (n1 + 0) :: [.int (xs (nt (x3 + 1)))]) hL VS_L_72 sX_0 rfl rfl rfl ⟨by decide, by decide⟩ (Nat.le_of_ble_eq_true rfl) (tX11_share (xs (nt (x3 + 1))) Sx _ hx) hcs dL_law_754 ?_
  show Og X 4 Q (PsL X.2.2.2.2.1 D ids n0 Sx' Sm) cs sl 757 [(0, .ref b), (1, .ref n0), (2, .ref (n0 + 79)), (3, .int x3)] [.int v]
  refine og_aload_n 2 hL.1 dL_law_757 rfl rfl ?_
  refine og_aload_n 0 hL.1 dL_law_758 rfl rfl ?_
  refine og_iload_n 3 hL.1 dL_law_759 rfl rfl ?_
  refine og_iconst (v := 1) hL.1 dL_law_760 (by decide) ?_
  refine og_iadd hL.1 dL_law_761 ?_
  refine ol_sld hL (hb 1 (by decide)) dL_law_762 ?_
  refine ol_callM (q := (v, Sm')) (As := [.int (xs (nt (x3 + 1)))]) (st := [.int v]) (fun n1 => .ref (n1 + 0) :: [.int (xs (nt (x3 + 1)))]) hL VS_L_75 sM_0 rfl rfl rfl ⟨by decide, by decide⟩ (Nat.le_of_ble_eq_true rfl) (tX12_share (xs (nt (x3 + 1))) Sm _ hm) hcs dL_law_763 ?_
  show Og X 4 Q (PsL X.2.2.2.2.1 D ids n0 Sx' Sm') cs sl 766 [(0, .ref b), (1, .ref n0), (2, .ref (n0 + 79)), (3, .int x3)] [.int v, .int v]
  refine og_icmp_eq 2132 hL.1 dL_law_766 (by decide) (fun _ => ?_) (fun hne => absurd rfl hne)
  exact kk Sx' Sm' hp
set_option maxRecDepth 100000 in
set_option maxHeartbeats 4000000 in
theorem lawc_14 {X : Mx} {D : va_G} {ids : Nat → ClassId} {n0 b L aL aG : Nat} {xs : Nat → Int32} {Q : State → Prop} {cs sl : Nat} {Sx Sm : St} {P : St → St → Prop} (hL : LawC X D ids n0 b L xs aL aG) (hcs : cs ≤ 600000 ∧ sl ≤ 7302250) (x3 : Int32) (hb : ∀ j : Int32, (0 ≤ j ∧ j ≤ 6) → ib (x3 + j) L) (hpp : ∃ (v : Int32) (Sx' Sm' : St), fX11_fewest (xs (nt (x3 + 1))) Sx = some (v, Sx') ∧ fX12_fewest (xs (nt (x3 + 1))) Sm = some (v, Sm') ∧ P Sx' Sm') (kk : ∀ Sx' Sm', P Sx' Sm' → Og X 4 Q (PsL X.2.2.2.2.1 D ids n0 Sx' Sm') cs sl 2132 [(0, .ref b), (1, .ref n0), (2, .ref (n0 + 79)), (3, .int x3)] []) : Og X 4 Q (PsL X.2.2.2.2.1 D ids n0 Sx Sm) cs sl 771 [(0, .ref b), (1, .ref n0), (2, .ref (n0 + 79)), (3, .int x3)] [] := by
  obtain ⟨v, Sx', Sm', hx, hm, hp⟩ := hpp
  refine og_aload_n 1 hL.1 dL_law_771 rfl rfl ?_
  refine og_aload_n 0 hL.1 dL_law_772 rfl rfl ?_
  refine og_iload_n 3 hL.1 dL_law_773 rfl rfl ?_
  refine og_iconst (v := 1) hL.1 dL_law_774 (by decide) ?_
  refine og_iadd hL.1 dL_law_775 ?_
  refine ol_sld hL (hb 1 (by decide)) dL_law_776 ?_
  refine ol_callX (q := (v, Sx')) (As := [.int (xs (nt (x3 + 1)))]) (st := []) (fun n1 => .ref (n1 + 0) :: [.int (xs (nt (x3 + 1)))]) hL VS_L_76 sX_0 rfl rfl rfl ⟨by decide, by decide⟩ (Nat.le_of_ble_eq_true rfl) (tX11_fewest (xs (nt (x3 + 1))) Sx _ hx) hcs dL_law_777 ?_
  show Og X 4 Q (PsL X.2.2.2.2.1 D ids n0 Sx' Sm) cs sl 780 [(0, .ref b), (1, .ref n0), (2, .ref (n0 + 79)), (3, .int x3)] [.int v]
  refine og_aload_n 2 hL.1 dL_law_780 rfl rfl ?_
  refine og_aload_n 0 hL.1 dL_law_781 rfl rfl ?_
  refine og_iload_n 3 hL.1 dL_law_782 rfl rfl ?_
  refine og_iconst (v := 1) hL.1 dL_law_783 (by decide) ?_
  refine og_iadd hL.1 dL_law_784 ?_
  refine ol_sld hL (hb 1 (by decide)) dL_law_785 ?_
  refine ol_callM (q := (v, Sm')) (As := [.int (xs (nt (x3 + 1)))]) (st := [.int v]) (fun n1 => .ref (n1 + 0) :: [.int (xs (nt (x3 + 1)))]) hL VS_L_79 sM_0 rfl rfl rfl ⟨by decide, by decide⟩ (Nat.le_of_ble_eq_true rfl) (tX12_fewest (xs (nt (x3 + 1))) Sm _ hm) hcs dL_law_786 ?_
  show Og X 4 Q (PsL X.2.2.2.2.1 D ids n0 Sx' Sm') cs sl 789 [(0, .ref b), (1, .ref n0), (2, .ref (n0 + 79)), (3, .int x3)] [.int v, .int v]
  refine og_icmp_eq 2132 hL.1 dL_law_789 (by decide) (fun _ => ?_) (fun hne => absurd rfl hne)
  exact kk Sx' Sm' hp
set_option maxRecDepth 100000 in
set_option maxHeartbeats 4000000 in
theorem lawc_15 {X : Mx} {D : va_G} {ids : Nat → ClassId} {n0 b L aL aG : Nat} {xs : Nat → Int32} {Q : State → Prop} {cs sl : Nat} {Sx Sm : St} {P : St → St → Prop} (hL : LawC X D ids n0 b L xs aL aG) (hcs : cs ≤ 600000 ∧ sl ≤ 7302250) (x3 : Int32) (hb : ∀ j : Int32, (0 ≤ j ∧ j ≤ 6) → ib (x3 + j) L) (hpp : ∃ (v : Int32) (Sx' Sm' : St), fX11_part (xs (nt (x3 + 1))) (xs (nt (x3 + 2))) Sx = some (v, Sx') ∧ fX12_part (xs (nt (x3 + 1))) (xs (nt (x3 + 2))) Sm = some (v, Sm') ∧ P Sx' Sm') (kk : ∀ Sx' Sm', P Sx' Sm' → Og X 4 Q (PsL X.2.2.2.2.1 D ids n0 Sx' Sm') cs sl 2132 [(0, .ref b), (1, .ref n0), (2, .ref (n0 + 79)), (3, .int x3)] []) : Og X 4 Q (PsL X.2.2.2.2.1 D ids n0 Sx Sm) cs sl 794 [(0, .ref b), (1, .ref n0), (2, .ref (n0 + 79)), (3, .int x3)] [] := by
  obtain ⟨v, Sx', Sm', hx, hm, hp⟩ := hpp
  refine og_aload_n 1 hL.1 dL_law_794 rfl rfl ?_
  refine og_aload_n 0 hL.1 dL_law_795 rfl rfl ?_
  refine og_iload_n 3 hL.1 dL_law_796 rfl rfl ?_
  refine og_iconst (v := 1) hL.1 dL_law_797 (by decide) ?_
  refine og_iadd hL.1 dL_law_798 ?_
  refine ol_sld hL (hb 1 (by decide)) dL_law_799 ?_
  refine og_aload_n 0 hL.1 dL_law_800 rfl rfl ?_
  refine og_iload_n 3 hL.1 dL_law_801 rfl rfl ?_
  refine og_iconst (v := 2) hL.1 dL_law_802 (by decide) ?_
  refine og_iadd hL.1 dL_law_803 ?_
  refine ol_sld hL (hb 2 (by decide)) dL_law_804 ?_
  refine ol_callX (q := (v, Sx')) (As := [.int (xs (nt (x3 + 1))), .int (xs (nt (x3 + 2)))]) (st := []) (fun n1 => .ref (n1 + 0) :: [.int (xs (nt (x3 + 1))), .int (xs (nt (x3 + 2)))]) hL VS_L_80 sX_0 rfl rfl rfl ⟨by decide, by decide⟩ (Nat.le_of_ble_eq_true rfl) (tX11_part (xs (nt (x3 + 1))) (xs (nt (x3 + 2))) Sx _ hx) hcs dL_law_805 ?_
  show Og X 4 Q (PsL X.2.2.2.2.1 D ids n0 Sx' Sm) cs sl 808 [(0, .ref b), (1, .ref n0), (2, .ref (n0 + 79)), (3, .int x3)] [.int v]
  refine og_aload_n 2 hL.1 dL_law_808 rfl rfl ?_
  refine og_aload_n 0 hL.1 dL_law_809 rfl rfl ?_
  refine og_iload_n 3 hL.1 dL_law_810 rfl rfl ?_
  refine og_iconst (v := 1) hL.1 dL_law_811 (by decide) ?_
  refine og_iadd hL.1 dL_law_812 ?_
  refine ol_sld hL (hb 1 (by decide)) dL_law_813 ?_
  refine og_aload_n 0 hL.1 dL_law_814 rfl rfl ?_
  refine og_iload_n 3 hL.1 dL_law_815 rfl rfl ?_
  refine og_iconst (v := 2) hL.1 dL_law_816 (by decide) ?_
  refine og_iadd hL.1 dL_law_817 ?_
  refine ol_sld hL (hb 2 (by decide)) dL_law_818 ?_
  refine ol_callM (q := (v, Sm')) (As := [.int (xs (nt (x3 + 1))), .int (xs (nt (x3 + 2)))]) (st := [.int v]) (fun n1 => .ref (n1 + 0) :: [.int (xs (nt (x3 + 1))), .int (xs (nt (x3 + 2)))]) hL VS_L_83 sM_0 rfl rfl rfl ⟨by decide, by decide⟩ (Nat.le_of_ble_eq_true rfl) (tX12_part (xs (nt (x3 + 1))) (xs (nt (x3 + 2))) Sm _ hm) hcs dL_law_819 ?_
  show Og X 4 Q (PsL X.2.2.2.2.1 D ids n0 Sx' Sm') cs sl 822 [(0, .ref b), (1, .ref n0), (2, .ref (n0 + 79)), (3, .int x3)] [.int v, .int v]
  refine og_icmp_eq 2132 hL.1 dL_law_822 (by decide) (fun _ => ?_) (fun hne => absurd rfl hne)
  exact kk Sx' Sm' hp
set_option maxRecDepth 100000 in
set_option maxHeartbeats 4000000 in
theorem lawc_16 {X : Mx} {D : va_G} {ids : Nat → ClassId} {n0 b L aL aG : Nat} {xs : Nat → Int32} {Q : State → Prop} {cs sl : Nat} {Sx Sm : St} {P : St → St → Prop} (hL : LawC X D ids n0 b L xs aL aG) (hcs : cs ≤ 600000 ∧ sl ≤ 7302250) (x3 : Int32) (hb : ∀ j : Int32, (0 ≤ j ∧ j ≤ 6) → ib (x3 + j) L) (hpp : ∃ (v : Int32) (Sx' Sm' : St), fX11_best (xs (nt (x3 + 1))) (xs (nt (x3 + 2))) Sx = some (v, Sx') ∧ fX12_best (xs (nt (x3 + 1))) (xs (nt (x3 + 2))) Sm = some (v, Sm') ∧ P Sx' Sm') (kk : ∀ Sx' Sm', P Sx' Sm' → Og X 4 Q (PsL X.2.2.2.2.1 D ids n0 Sx' Sm') cs sl 2132 [(0, .ref b), (1, .ref n0), (2, .ref (n0 + 79)), (3, .int x3)] []) : Og X 4 Q (PsL X.2.2.2.2.1 D ids n0 Sx Sm) cs sl 827 [(0, .ref b), (1, .ref n0), (2, .ref (n0 + 79)), (3, .int x3)] [] := by
  obtain ⟨v, Sx', Sm', hx, hm, hp⟩ := hpp
  refine og_aload_n 1 hL.1 dL_law_827 rfl rfl ?_
  refine og_aload_n 0 hL.1 dL_law_828 rfl rfl ?_
  refine og_iload_n 3 hL.1 dL_law_829 rfl rfl ?_
  refine og_iconst (v := 1) hL.1 dL_law_830 (by decide) ?_
  refine og_iadd hL.1 dL_law_831 ?_
  refine ol_sld hL (hb 1 (by decide)) dL_law_832 ?_
  refine og_aload_n 0 hL.1 dL_law_833 rfl rfl ?_
  refine og_iload_n 3 hL.1 dL_law_834 rfl rfl ?_
  refine og_iconst (v := 2) hL.1 dL_law_835 (by decide) ?_
  refine og_iadd hL.1 dL_law_836 ?_
  refine ol_sld hL (hb 2 (by decide)) dL_law_837 ?_
  refine ol_callX (q := (v, Sx')) (As := [.int (xs (nt (x3 + 1))), .int (xs (nt (x3 + 2)))]) (st := []) (fun n1 => .ref (n1 + 0) :: [.int (xs (nt (x3 + 1))), .int (xs (nt (x3 + 2)))]) hL VS_L_84 sX_0 rfl rfl rfl ⟨by decide, by decide⟩ (Nat.le_of_ble_eq_true rfl) (tX11_best (xs (nt (x3 + 1))) (xs (nt (x3 + 2))) Sx _ hx) hcs dL_law_838 ?_
  show Og X 4 Q (PsL X.2.2.2.2.1 D ids n0 Sx' Sm) cs sl 841 [(0, .ref b), (1, .ref n0), (2, .ref (n0 + 79)), (3, .int x3)] [.int v]
  refine og_aload_n 2 hL.1 dL_law_841 rfl rfl ?_
  refine og_aload_n 0 hL.1 dL_law_842 rfl rfl ?_
  refine og_iload_n 3 hL.1 dL_law_843 rfl rfl ?_
  refine og_iconst (v := 1) hL.1 dL_law_844 (by decide) ?_
  refine og_iadd hL.1 dL_law_845 ?_
  refine ol_sld hL (hb 1 (by decide)) dL_law_846 ?_
  refine og_aload_n 0 hL.1 dL_law_847 rfl rfl ?_
  refine og_iload_n 3 hL.1 dL_law_848 rfl rfl ?_
  refine og_iconst (v := 2) hL.1 dL_law_849 (by decide) ?_
  refine og_iadd hL.1 dL_law_850 ?_
  refine ol_sld hL (hb 2 (by decide)) dL_law_851 ?_
  refine ol_callM (q := (v, Sm')) (As := [.int (xs (nt (x3 + 1))), .int (xs (nt (x3 + 2)))]) (st := [.int v]) (fun n1 => .ref (n1 + 0) :: [.int (xs (nt (x3 + 1))), .int (xs (nt (x3 + 2)))]) hL VS_L_87 sM_0 rfl rfl rfl ⟨by decide, by decide⟩ (Nat.le_of_ble_eq_true rfl) (tX12_best (xs (nt (x3 + 1))) (xs (nt (x3 + 2))) Sm _ hm) hcs dL_law_852 ?_
  show Og X 4 Q (PsL X.2.2.2.2.1 D ids n0 Sx' Sm') cs sl 855 [(0, .ref b), (1, .ref n0), (2, .ref (n0 + 79)), (3, .int x3)] [.int v, .int v]
  refine og_icmp_eq 2132 hL.1 dL_law_855 (by decide) (fun _ => ?_) (fun hne => absurd rfl hne)
  exact kk Sx' Sm' hp
set_option maxRecDepth 100000 in
set_option maxHeartbeats 4000000 in
theorem lawc_17 {X : Mx} {D : va_G} {ids : Nat → ClassId} {n0 b L aL aG : Nat} {xs : Nat → Int32} {Q : State → Prop} {cs sl : Nat} {Sx Sm : St} {P : St → St → Prop} (hL : LawC X D ids n0 b L xs aL aG) (hcs : cs ≤ 600000 ∧ sl ≤ 7302250) (x3 : Int32) (hb : ∀ j : Int32, (0 ≤ j ∧ j ≤ 6) → ib (x3 + j) L) (hpp : ∃ (v : Int32) (Sx' Sm' : St), fX11_proof (xs (nt (x3 + 1))) (xs (nt (x3 + 2))) Sx = some (v, Sx') ∧ fX12_proof (xs (nt (x3 + 1))) (xs (nt (x3 + 2))) Sm = some (v, Sm') ∧ P Sx' Sm') (kk : ∀ Sx' Sm', P Sx' Sm' → Og X 4 Q (PsL X.2.2.2.2.1 D ids n0 Sx' Sm') cs sl 2132 [(0, .ref b), (1, .ref n0), (2, .ref (n0 + 79)), (3, .int x3)] []) : Og X 4 Q (PsL X.2.2.2.2.1 D ids n0 Sx Sm) cs sl 860 [(0, .ref b), (1, .ref n0), (2, .ref (n0 + 79)), (3, .int x3)] [] := by
  obtain ⟨v, Sx', Sm', hx, hm, hp⟩ := hpp
  refine og_aload_n 1 hL.1 dL_law_860 rfl rfl ?_
  refine og_aload_n 0 hL.1 dL_law_861 rfl rfl ?_
  refine og_iload_n 3 hL.1 dL_law_862 rfl rfl ?_
  refine og_iconst (v := 1) hL.1 dL_law_863 (by decide) ?_
  refine og_iadd hL.1 dL_law_864 ?_
  refine ol_sld hL (hb 1 (by decide)) dL_law_865 ?_
  refine og_aload_n 0 hL.1 dL_law_866 rfl rfl ?_
  refine og_iload_n 3 hL.1 dL_law_867 rfl rfl ?_
  refine og_iconst (v := 2) hL.1 dL_law_868 (by decide) ?_
  refine og_iadd hL.1 dL_law_869 ?_
  refine ol_sld hL (hb 2 (by decide)) dL_law_870 ?_
  refine ol_callX (q := (v, Sx')) (As := [.int (xs (nt (x3 + 1))), .int (xs (nt (x3 + 2)))]) (st := []) (fun n1 => .ref (n1 + 0) :: [.int (xs (nt (x3 + 1))), .int (xs (nt (x3 + 2)))]) hL VS_L_88 sX_0 rfl rfl rfl ⟨by decide, by decide⟩ (Nat.le_of_ble_eq_true rfl) (tX11_proof (xs (nt (x3 + 1))) (xs (nt (x3 + 2))) Sx _ hx) hcs dL_law_871 ?_
  show Og X 4 Q (PsL X.2.2.2.2.1 D ids n0 Sx' Sm) cs sl 874 [(0, .ref b), (1, .ref n0), (2, .ref (n0 + 79)), (3, .int x3)] [.int v]
  refine og_aload_n 2 hL.1 dL_law_874 rfl rfl ?_
  refine og_aload_n 0 hL.1 dL_law_875 rfl rfl ?_
  refine og_iload_n 3 hL.1 dL_law_876 rfl rfl ?_
  refine og_iconst (v := 1) hL.1 dL_law_877 (by decide) ?_
  refine og_iadd hL.1 dL_law_878 ?_
  refine ol_sld hL (hb 1 (by decide)) dL_law_879 ?_
  refine og_aload_n 0 hL.1 dL_law_880 rfl rfl ?_
  refine og_iload_n 3 hL.1 dL_law_881 rfl rfl ?_
  refine og_iconst (v := 2) hL.1 dL_law_882 (by decide) ?_
  refine og_iadd hL.1 dL_law_883 ?_
  refine ol_sld hL (hb 2 (by decide)) dL_law_884 ?_
  refine ol_callM (q := (v, Sm')) (As := [.int (xs (nt (x3 + 1))), .int (xs (nt (x3 + 2)))]) (st := [.int v]) (fun n1 => .ref (n1 + 0) :: [.int (xs (nt (x3 + 1))), .int (xs (nt (x3 + 2)))]) hL VS_L_91 sM_0 rfl rfl rfl ⟨by decide, by decide⟩ (Nat.le_of_ble_eq_true rfl) (tX12_proof (xs (nt (x3 + 1))) (xs (nt (x3 + 2))) Sm _ hm) hcs dL_law_885 ?_
  show Og X 4 Q (PsL X.2.2.2.2.1 D ids n0 Sx' Sm') cs sl 888 [(0, .ref b), (1, .ref n0), (2, .ref (n0 + 79)), (3, .int x3)] [.int v, .int v]
  refine og_icmp_eq 2132 hL.1 dL_law_888 (by decide) (fun _ => ?_) (fun hne => absurd rfl hne)
  exact kk Sx' Sm' hp
set_option maxRecDepth 100000 in
set_option maxHeartbeats 4000000 in
theorem lawc_18 {X : Mx} {D : va_G} {ids : Nat → ClassId} {n0 b L aL aG : Nat} {xs : Nat → Int32} {Q : State → Prop} {cs sl : Nat} {Sx Sm : St} {P : St → St → Prop} (hL : LawC X D ids n0 b L xs aL aG) (hcs : cs ≤ 600000 ∧ sl ≤ 7302250) (x3 : Int32) (hb : ∀ j : Int32, (0 ≤ j ∧ j ≤ 6) → ib (x3 + j) L) (hpp : ∃ (v : Int32) (Sx' Sm' : St), fX11_assign (xs (nt (x3 + 1))) Sx = some (v, Sx') ∧ fX12_assign (xs (nt (x3 + 1))) Sm = some (v, Sm') ∧ P Sx' Sm') (kk : ∀ Sx' Sm', P Sx' Sm' → Og X 4 Q (PsL X.2.2.2.2.1 D ids n0 Sx' Sm') cs sl 2132 [(0, .ref b), (1, .ref n0), (2, .ref (n0 + 79)), (3, .int x3)] []) : Og X 4 Q (PsL X.2.2.2.2.1 D ids n0 Sx Sm) cs sl 893 [(0, .ref b), (1, .ref n0), (2, .ref (n0 + 79)), (3, .int x3)] [] := by
  obtain ⟨v, Sx', Sm', hx, hm, hp⟩ := hpp
  refine og_aload_n 1 hL.1 dL_law_893 rfl rfl ?_
  refine og_aload_n 0 hL.1 dL_law_894 rfl rfl ?_
  refine og_iload_n 3 hL.1 dL_law_895 rfl rfl ?_
  refine og_iconst (v := 1) hL.1 dL_law_896 (by decide) ?_
  refine og_iadd hL.1 dL_law_897 ?_
  refine ol_sld hL (hb 1 (by decide)) dL_law_898 ?_
  refine ol_callX (q := (v, Sx')) (As := [.int (xs (nt (x3 + 1)))]) (st := []) (fun n1 => .ref (n1 + 0) :: [.int (xs (nt (x3 + 1)))]) hL VS_L_92 sX_0 rfl rfl rfl ⟨by decide, by decide⟩ (Nat.le_of_ble_eq_true rfl) (tX11_assign (xs (nt (x3 + 1))) Sx _ hx) hcs dL_law_899 ?_
  show Og X 4 Q (PsL X.2.2.2.2.1 D ids n0 Sx' Sm) cs sl 902 [(0, .ref b), (1, .ref n0), (2, .ref (n0 + 79)), (3, .int x3)] [.int v]
  refine og_aload_n 2 hL.1 dL_law_902 rfl rfl ?_
  refine og_aload_n 0 hL.1 dL_law_903 rfl rfl ?_
  refine og_iload_n 3 hL.1 dL_law_904 rfl rfl ?_
  refine og_iconst (v := 1) hL.1 dL_law_905 (by decide) ?_
  refine og_iadd hL.1 dL_law_906 ?_
  refine ol_sld hL (hb 1 (by decide)) dL_law_907 ?_
  refine ol_callM (q := (v, Sm')) (As := [.int (xs (nt (x3 + 1)))]) (st := [.int v]) (fun n1 => .ref (n1 + 0) :: [.int (xs (nt (x3 + 1)))]) hL VS_L_95 sM_0 rfl rfl rfl ⟨by decide, by decide⟩ (Nat.le_of_ble_eq_true rfl) (tX12_assign (xs (nt (x3 + 1))) Sm _ hm) hcs dL_law_908 ?_
  show Og X 4 Q (PsL X.2.2.2.2.1 D ids n0 Sx' Sm') cs sl 911 [(0, .ref b), (1, .ref n0), (2, .ref (n0 + 79)), (3, .int x3)] [.int v, .int v]
  refine og_icmp_eq 2132 hL.1 dL_law_911 (by decide) (fun _ => ?_) (fun hne => absurd rfl hne)
  exact kk Sx' Sm' hp
set_option maxRecDepth 100000 in
set_option maxHeartbeats 4000000 in
theorem lawc_19 {X : Mx} {D : va_G} {ids : Nat → ClassId} {n0 b L aL aG : Nat} {xs : Nat → Int32} {Q : State → Prop} {cs sl : Nat} {Sx Sm : St} {P : St → St → Prop} (hL : LawC X D ids n0 b L xs aL aG) (hcs : cs ≤ 600000 ∧ sl ≤ 7302250) (x3 : Int32) (hb : ∀ j : Int32, (0 ≤ j ∧ j ≤ 6) → ib (x3 + j) L) (hpp : ∃ (v : Int32) (Sx' Sm' : St), fX11_odds (xs (nt (x3 + 1))) (xs (nt (x3 + 2))) (xs (nt (x3 + 3))) Sx = some (v, Sx') ∧ fX12_odds (xs (nt (x3 + 1))) (xs (nt (x3 + 2))) (xs (nt (x3 + 3))) Sm = some (v, Sm') ∧ P Sx' Sm') (kk : ∀ Sx' Sm', P Sx' Sm' → Og X 4 Q (PsL X.2.2.2.2.1 D ids n0 Sx' Sm') cs sl 2132 [(0, .ref b), (1, .ref n0), (2, .ref (n0 + 79)), (3, .int x3)] []) : Og X 4 Q (PsL X.2.2.2.2.1 D ids n0 Sx Sm) cs sl 916 [(0, .ref b), (1, .ref n0), (2, .ref (n0 + 79)), (3, .int x3)] [] := by
  obtain ⟨v, Sx', Sm', hx, hm, hp⟩ := hpp
  refine og_aload_n 1 hL.1 dL_law_916 rfl rfl ?_
  refine og_aload_n 0 hL.1 dL_law_917 rfl rfl ?_
  refine og_iload_n 3 hL.1 dL_law_918 rfl rfl ?_
  refine og_iconst (v := 1) hL.1 dL_law_919 (by decide) ?_
  refine og_iadd hL.1 dL_law_920 ?_
  refine ol_sld hL (hb 1 (by decide)) dL_law_921 ?_
  refine og_aload_n 0 hL.1 dL_law_922 rfl rfl ?_
  refine og_iload_n 3 hL.1 dL_law_923 rfl rfl ?_
  refine og_iconst (v := 2) hL.1 dL_law_924 (by decide) ?_
  refine og_iadd hL.1 dL_law_925 ?_
  refine ol_sld hL (hb 2 (by decide)) dL_law_926 ?_
  refine og_aload_n 0 hL.1 dL_law_927 rfl rfl ?_
  refine og_iload_n 3 hL.1 dL_law_928 rfl rfl ?_
  refine og_iconst (v := 3) hL.1 dL_law_929 (by decide) ?_
  refine og_iadd hL.1 dL_law_930 ?_
  refine ol_sld hL (hb 3 (by decide)) dL_law_931 ?_
  refine ol_callX (q := (v, Sx')) (As := [.int (xs (nt (x3 + 1))), .int (xs (nt (x3 + 2))), .int (xs (nt (x3 + 3)))]) (st := []) (fun n1 => .ref (n1 + 0) :: [.int (xs (nt (x3 + 1))), .int (xs (nt (x3 + 2))), .int (xs (nt (x3 + 3)))]) hL VS_L_96 sX_0 rfl rfl rfl ⟨by decide, by decide⟩ (Nat.le_of_ble_eq_true rfl) (tX11_odds (xs (nt (x3 + 1))) (xs (nt (x3 + 2))) (xs (nt (x3 + 3))) Sx _ hx) hcs dL_law_932 ?_
  show Og X 4 Q (PsL X.2.2.2.2.1 D ids n0 Sx' Sm) cs sl 935 [(0, .ref b), (1, .ref n0), (2, .ref (n0 + 79)), (3, .int x3)] [.int v]
  refine og_aload_n 2 hL.1 dL_law_935 rfl rfl ?_
  refine og_aload_n 0 hL.1 dL_law_936 rfl rfl ?_
  refine og_iload_n 3 hL.1 dL_law_937 rfl rfl ?_
  refine og_iconst (v := 1) hL.1 dL_law_938 (by decide) ?_
  refine og_iadd hL.1 dL_law_939 ?_
  refine ol_sld hL (hb 1 (by decide)) dL_law_940 ?_
  refine og_aload_n 0 hL.1 dL_law_941 rfl rfl ?_
  refine og_iload_n 3 hL.1 dL_law_942 rfl rfl ?_
  refine og_iconst (v := 2) hL.1 dL_law_943 (by decide) ?_
  refine og_iadd hL.1 dL_law_944 ?_
  refine ol_sld hL (hb 2 (by decide)) dL_law_945 ?_
  refine og_aload_n 0 hL.1 dL_law_946 rfl rfl ?_
  refine og_iload_n 3 hL.1 dL_law_947 rfl rfl ?_
  refine og_iconst (v := 3) hL.1 dL_law_948 (by decide) ?_
  refine og_iadd hL.1 dL_law_949 ?_
  refine ol_sld hL (hb 3 (by decide)) dL_law_950 ?_
  refine ol_callM (q := (v, Sm')) (As := [.int (xs (nt (x3 + 1))), .int (xs (nt (x3 + 2))), .int (xs (nt (x3 + 3)))]) (st := [.int v]) (fun n1 => .ref (n1 + 0) :: [.int (xs (nt (x3 + 1))), .int (xs (nt (x3 + 2))), .int (xs (nt (x3 + 3)))]) hL VS_L_99 sM_0 rfl rfl rfl ⟨by decide, by decide⟩ (Nat.le_of_ble_eq_true rfl) (tX12_odds (xs (nt (x3 + 1))) (xs (nt (x3 + 2))) (xs (nt (x3 + 3))) Sm _ hm) hcs dL_law_951 ?_
  show Og X 4 Q (PsL X.2.2.2.2.1 D ids n0 Sx' Sm') cs sl 954 [(0, .ref b), (1, .ref n0), (2, .ref (n0 + 79)), (3, .int x3)] [.int v, .int v]
  refine og_icmp_eq 2132 hL.1 dL_law_954 (by decide) (fun _ => ?_) (fun hne => absurd rfl hne)
  exact kk Sx' Sm' hp
set_option maxRecDepth 100000 in
set_option maxHeartbeats 4000000 in
theorem lawc_20 {X : Mx} {D : va_G} {ids : Nat → ClassId} {n0 b L aL aG : Nat} {xs : Nat → Int32} {Q : State → Prop} {cs sl : Nat} {Sx Sm : St} {P : St → St → Prop} (hL : LawC X D ids n0 b L xs aL aG) (hcs : cs ≤ 600000 ∧ sl ≤ 7302250) (x3 : Int32) (hb : ∀ j : Int32, (0 ≤ j ∧ j ≤ 6) → ib (x3 + j) L) (hpp : ∃ (v : Int32) (Sx' Sm' : St), fX11_flow (xs (nt (x3 + 1))) (xs (nt (x3 + 2))) (xs (nt (x3 + 3))) (xs (nt (x3 + 4))) (xs (nt (x3 + 5))) Sx = some (v, Sx') ∧ fX12_flow (xs (nt (x3 + 1))) (xs (nt (x3 + 2))) (xs (nt (x3 + 3))) (xs (nt (x3 + 4))) (xs (nt (x3 + 5))) Sm = some (v, Sm') ∧ P Sx' Sm') (kk : ∀ Sx' Sm', P Sx' Sm' → Og X 4 Q (PsL X.2.2.2.2.1 D ids n0 Sx' Sm') cs sl 2132 [(0, .ref b), (1, .ref n0), (2, .ref (n0 + 79)), (3, .int x3)] []) : Og X 4 Q (PsL X.2.2.2.2.1 D ids n0 Sx Sm) cs sl 959 [(0, .ref b), (1, .ref n0), (2, .ref (n0 + 79)), (3, .int x3)] [] := by
  obtain ⟨v, Sx', Sm', hx, hm, hp⟩ := hpp
  refine og_aload_n 1 hL.1 dL_law_959 rfl rfl ?_
  refine og_aload_n 0 hL.1 dL_law_960 rfl rfl ?_
  refine og_iload_n 3 hL.1 dL_law_961 rfl rfl ?_
  refine og_iconst (v := 1) hL.1 dL_law_962 (by decide) ?_
  refine og_iadd hL.1 dL_law_963 ?_
  refine ol_sld hL (hb 1 (by decide)) dL_law_964 ?_
  refine og_aload_n 0 hL.1 dL_law_965 rfl rfl ?_
  refine og_iload_n 3 hL.1 dL_law_966 rfl rfl ?_
  refine og_iconst (v := 2) hL.1 dL_law_967 (by decide) ?_
  refine og_iadd hL.1 dL_law_968 ?_
  refine ol_sld hL (hb 2 (by decide)) dL_law_969 ?_
  refine og_aload_n 0 hL.1 dL_law_970 rfl rfl ?_
  refine og_iload_n 3 hL.1 dL_law_971 rfl rfl ?_
  refine og_iconst (v := 3) hL.1 dL_law_972 (by decide) ?_
  refine og_iadd hL.1 dL_law_973 ?_
  refine ol_sld hL (hb 3 (by decide)) dL_law_974 ?_
  refine og_aload_n 0 hL.1 dL_law_975 rfl rfl ?_
  refine og_iload_n 3 hL.1 dL_law_976 rfl rfl ?_
  refine og_iconst (v := 4) hL.1 dL_law_977 (by decide) ?_
  refine og_iadd hL.1 dL_law_978 ?_
  refine ol_sld hL (hb 4 (by decide)) dL_law_979 ?_
  refine og_aload_n 0 hL.1 dL_law_980 rfl rfl ?_
  refine og_iload_n 3 hL.1 dL_law_981 rfl rfl ?_
  refine og_iconst (v := 5) hL.1 dL_law_982 (by decide) ?_
  refine og_iadd hL.1 dL_law_983 ?_
  refine ol_sld hL (hb 5 (by decide)) dL_law_984 ?_
  refine ol_callX (q := (v, Sx')) (As := [.int (xs (nt (x3 + 1))), .int (xs (nt (x3 + 2))), .int (xs (nt (x3 + 3))), .int (xs (nt (x3 + 4))), .int (xs (nt (x3 + 5)))]) (st := []) (fun n1 => .ref (n1 + 0) :: [.int (xs (nt (x3 + 1))), .int (xs (nt (x3 + 2))), .int (xs (nt (x3 + 3))), .int (xs (nt (x3 + 4))), .int (xs (nt (x3 + 5)))]) hL VS_L_100 sX_0 rfl rfl rfl ⟨by decide, by decide⟩ (Nat.le_of_ble_eq_true rfl) (tX11_flow (xs (nt (x3 + 1))) (xs (nt (x3 + 2))) (xs (nt (x3 + 3))) (xs (nt (x3 + 4))) (xs (nt (x3 + 5))) Sx _ hx) hcs dL_law_985 ?_
  show Og X 4 Q (PsL X.2.2.2.2.1 D ids n0 Sx' Sm) cs sl 988 [(0, .ref b), (1, .ref n0), (2, .ref (n0 + 79)), (3, .int x3)] [.int v]
  refine og_aload_n 2 hL.1 dL_law_988 rfl rfl ?_
  refine og_aload_n 0 hL.1 dL_law_989 rfl rfl ?_
  refine og_iload_n 3 hL.1 dL_law_990 rfl rfl ?_
  refine og_iconst (v := 1) hL.1 dL_law_991 (by decide) ?_
  refine og_iadd hL.1 dL_law_992 ?_
  refine ol_sld hL (hb 1 (by decide)) dL_law_993 ?_
  refine og_aload_n 0 hL.1 dL_law_994 rfl rfl ?_
  refine og_iload_n 3 hL.1 dL_law_995 rfl rfl ?_
  refine og_iconst (v := 2) hL.1 dL_law_996 (by decide) ?_
  refine og_iadd hL.1 dL_law_997 ?_
  refine ol_sld hL (hb 2 (by decide)) dL_law_998 ?_
  refine og_aload_n 0 hL.1 dL_law_999 rfl rfl ?_
  refine og_iload_n 3 hL.1 dL_law_1000 rfl rfl ?_
  refine og_iconst (v := 3) hL.1 dL_law_1001 (by decide) ?_
  refine og_iadd hL.1 dL_law_1002 ?_
  refine ol_sld hL (hb 3 (by decide)) dL_law_1003 ?_
  refine og_aload_n 0 hL.1 dL_law_1004 rfl rfl ?_
  refine og_iload_n 3 hL.1 dL_law_1005 rfl rfl ?_
  refine og_iconst (v := 4) hL.1 dL_law_1006 (by decide) ?_
  refine og_iadd hL.1 dL_law_1007 ?_
  refine ol_sld hL (hb 4 (by decide)) dL_law_1008 ?_
  refine og_aload_n 0 hL.1 dL_law_1009 rfl rfl ?_
  refine og_iload_n 3 hL.1 dL_law_1010 rfl rfl ?_
  refine og_iconst (v := 5) hL.1 dL_law_1011 (by decide) ?_
  refine og_iadd hL.1 dL_law_1012 ?_
  refine ol_sld hL (hb 5 (by decide)) dL_law_1013 ?_
  refine ol_callM (q := (v, Sm')) (As := [.int (xs (nt (x3 + 1))), .int (xs (nt (x3 + 2))), .int (xs (nt (x3 + 3))), .int (xs (nt (x3 + 4))), .int (xs (nt (x3 + 5)))]) (st := [.int v]) (fun n1 => .ref (n1 + 0) :: [.int (xs (nt (x3 + 1))), .int (xs (nt (x3 + 2))), .int (xs (nt (x3 + 3))), .int (xs (nt (x3 + 4))), .int (xs (nt (x3 + 5)))]) hL VS_L_103 sM_0 rfl rfl rfl ⟨by decide, by decide⟩ (Nat.le_of_ble_eq_true rfl) (tX12_flow (xs (nt (x3 + 1))) (xs (nt (x3 + 2))) (xs (nt (x3 + 3))) (xs (nt (x3 + 4))) (xs (nt (x3 + 5))) Sm _ hm) hcs dL_law_1014 ?_
  show Og X 4 Q (PsL X.2.2.2.2.1 D ids n0 Sx' Sm') cs sl 1017 [(0, .ref b), (1, .ref n0), (2, .ref (n0 + 79)), (3, .int x3)] [.int v, .int v]
  refine og_icmp_eq 2132 hL.1 dL_law_1017 (by decide) (fun _ => ?_) (fun hne => absurd rfl hne)
  exact kk Sx' Sm' hp
set_option maxRecDepth 100000 in
set_option maxHeartbeats 4000000 in
theorem lawc_21 {X : Mx} {D : va_G} {ids : Nat → ClassId} {n0 b L aL aG : Nat} {xs : Nat → Int32} {Q : State → Prop} {cs sl : Nat} {Sx Sm : St} {P : St → St → Prop} (hL : LawC X D ids n0 b L xs aL aG) (hcs : cs ≤ 600000 ∧ sl ≤ 7302250) (x3 : Int32) (hb : ∀ j : Int32, (0 ≤ j ∧ j ≤ 6) → ib (x3 + j) L) (hpp : ∃ (v : Int32) (Sx' Sm' : St), fX11_hops (xs (nt (x3 + 1))) (xs (nt (x3 + 2))) (xs (nt (x3 + 3))) (xs (nt (x3 + 4))) Sx = some (v, Sx') ∧ fX12_hops (xs (nt (x3 + 1))) (xs (nt (x3 + 2))) (xs (nt (x3 + 3))) (xs (nt (x3 + 4))) Sm = some (v, Sm') ∧ P Sx' Sm') (kk : ∀ Sx' Sm', P Sx' Sm' → Og X 4 Q (PsL X.2.2.2.2.1 D ids n0 Sx' Sm') cs sl 2132 [(0, .ref b), (1, .ref n0), (2, .ref (n0 + 79)), (3, .int x3)] []) : Og X 4 Q (PsL X.2.2.2.2.1 D ids n0 Sx Sm) cs sl 1022 [(0, .ref b), (1, .ref n0), (2, .ref (n0 + 79)), (3, .int x3)] [] := by
  obtain ⟨v, Sx', Sm', hx, hm, hp⟩ := hpp
  refine og_aload_n 1 hL.1 dL_law_1022 rfl rfl ?_
  refine og_aload_n 0 hL.1 dL_law_1023 rfl rfl ?_
  refine og_iload_n 3 hL.1 dL_law_1024 rfl rfl ?_
  refine og_iconst (v := 1) hL.1 dL_law_1025 (by decide) ?_
  refine og_iadd hL.1 dL_law_1026 ?_
  refine ol_sld hL (hb 1 (by decide)) dL_law_1027 ?_
  refine og_aload_n 0 hL.1 dL_law_1028 rfl rfl ?_
  refine og_iload_n 3 hL.1 dL_law_1029 rfl rfl ?_
  refine og_iconst (v := 2) hL.1 dL_law_1030 (by decide) ?_
  refine og_iadd hL.1 dL_law_1031 ?_
  refine ol_sld hL (hb 2 (by decide)) dL_law_1032 ?_
  refine og_aload_n 0 hL.1 dL_law_1033 rfl rfl ?_
  refine og_iload_n 3 hL.1 dL_law_1034 rfl rfl ?_
  refine og_iconst (v := 3) hL.1 dL_law_1035 (by decide) ?_
  refine og_iadd hL.1 dL_law_1036 ?_
  refine ol_sld hL (hb 3 (by decide)) dL_law_1037 ?_
  refine og_aload_n 0 hL.1 dL_law_1038 rfl rfl ?_
  refine og_iload_n 3 hL.1 dL_law_1039 rfl rfl ?_
  refine og_iconst (v := 4) hL.1 dL_law_1040 (by decide) ?_
  refine og_iadd hL.1 dL_law_1041 ?_
  refine ol_sld hL (hb 4 (by decide)) dL_law_1042 ?_
  refine ol_callX (q := (v, Sx')) (As := [.int (xs (nt (x3 + 1))), .int (xs (nt (x3 + 2))), .int (xs (nt (x3 + 3))), .int (xs (nt (x3 + 4)))]) (st := []) (fun n1 => .ref (n1 + 0) :: [.int (xs (nt (x3 + 1))), .int (xs (nt (x3 + 2))), .int (xs (nt (x3 + 3))), .int (xs (nt (x3 + 4)))]) hL VS_L_104 sX_0 rfl rfl rfl ⟨by decide, by decide⟩ (Nat.le_of_ble_eq_true rfl) (tX11_hops (xs (nt (x3 + 1))) (xs (nt (x3 + 2))) (xs (nt (x3 + 3))) (xs (nt (x3 + 4))) Sx _ hx) hcs dL_law_1043 ?_
  show Og X 4 Q (PsL X.2.2.2.2.1 D ids n0 Sx' Sm) cs sl 1046 [(0, .ref b), (1, .ref n0), (2, .ref (n0 + 79)), (3, .int x3)] [.int v]
  refine og_aload_n 2 hL.1 dL_law_1046 rfl rfl ?_
  refine og_aload_n 0 hL.1 dL_law_1047 rfl rfl ?_
  refine og_iload_n 3 hL.1 dL_law_1048 rfl rfl ?_
  refine og_iconst (v := 1) hL.1 dL_law_1049 (by decide) ?_
  refine og_iadd hL.1 dL_law_1050 ?_
  refine ol_sld hL (hb 1 (by decide)) dL_law_1051 ?_
  refine og_aload_n 0 hL.1 dL_law_1052 rfl rfl ?_
  refine og_iload_n 3 hL.1 dL_law_1053 rfl rfl ?_
  refine og_iconst (v := 2) hL.1 dL_law_1054 (by decide) ?_
  refine og_iadd hL.1 dL_law_1055 ?_
  refine ol_sld hL (hb 2 (by decide)) dL_law_1056 ?_
  refine og_aload_n 0 hL.1 dL_law_1057 rfl rfl ?_
  refine og_iload_n 3 hL.1 dL_law_1058 rfl rfl ?_
  refine og_iconst (v := 3) hL.1 dL_law_1059 (by decide) ?_
  refine og_iadd hL.1 dL_law_1060 ?_
  refine ol_sld hL (hb 3 (by decide)) dL_law_1061 ?_
  refine og_aload_n 0 hL.1 dL_law_1062 rfl rfl ?_
  refine og_iload_n 3 hL.1 dL_law_1063 rfl rfl ?_
  refine og_iconst (v := 4) hL.1 dL_law_1064 (by decide) ?_
  refine og_iadd hL.1 dL_law_1065 ?_
  refine ol_sld hL (hb 4 (by decide)) dL_law_1066 ?_
  refine ol_callM (q := (v, Sm')) (As := [.int (xs (nt (x3 + 1))), .int (xs (nt (x3 + 2))), .int (xs (nt (x3 + 3))), .int (xs (nt (x3 + 4)))]) (st := [.int v]) (fun n1 => .ref (n1 + 0) :: [.int (xs (nt (x3 + 1))), .int (xs (nt (x3 + 2))), .int (xs (nt (x3 + 3))), .int (xs (nt (x3 + 4)))]) hL VS_L_108 sM_0 rfl rfl rfl ⟨by decide, by decide⟩ (Nat.le_of_ble_eq_true rfl) (tX12_hops (xs (nt (x3 + 1))) (xs (nt (x3 + 2))) (xs (nt (x3 + 3))) (xs (nt (x3 + 4))) Sm _ hm) hcs dL_law_1067 ?_
  show Og X 4 Q (PsL X.2.2.2.2.1 D ids n0 Sx' Sm') cs sl 1070 [(0, .ref b), (1, .ref n0), (2, .ref (n0 + 79)), (3, .int x3)] [.int v, .int v]
  refine og_icmp_eq 2132 hL.1 dL_law_1070 (by decide) (fun _ => ?_) (fun hne => absurd rfl hne)
  exact kk Sx' Sm' hp
set_option maxRecDepth 100000 in
set_option maxHeartbeats 4000000 in
theorem lawc_22 {X : Mx} {D : va_G} {ids : Nat → ClassId} {n0 b L aL aG : Nat} {xs : Nat → Int32} {Q : State → Prop} {cs sl : Nat} {Sx Sm : St} {P : St → St → Prop} (hL : LawC X D ids n0 b L xs aL aG) (hcs : cs ≤ 600000 ∧ sl ≤ 7302250) (x3 : Int32) (hb : ∀ j : Int32, (0 ≤ j ∧ j ≤ 6) → ib (x3 + j) L) (hpp : ∃ (v : Int32) (Sx' Sm' : St), fX11_most (xs (nt (x3 + 1))) (xs (nt (x3 + 2))) (xs (nt (x3 + 3))) Sx = some (v, Sx') ∧ fX12_most (xs (nt (x3 + 1))) (xs (nt (x3 + 2))) (xs (nt (x3 + 3))) Sm = some (v, Sm') ∧ P Sx' Sm') (kk : ∀ Sx' Sm', P Sx' Sm' → Og X 4 Q (PsL X.2.2.2.2.1 D ids n0 Sx' Sm') cs sl 2132 [(0, .ref b), (1, .ref n0), (2, .ref (n0 + 79)), (3, .int x3)] []) : Og X 4 Q (PsL X.2.2.2.2.1 D ids n0 Sx Sm) cs sl 1075 [(0, .ref b), (1, .ref n0), (2, .ref (n0 + 79)), (3, .int x3)] [] := by
  obtain ⟨v, Sx', Sm', hx, hm, hp⟩ := hpp
  refine og_aload_n 1 hL.1 dL_law_1075 rfl rfl ?_
  refine og_aload_n 0 hL.1 dL_law_1076 rfl rfl ?_
  refine og_iload_n 3 hL.1 dL_law_1077 rfl rfl ?_
  refine og_iconst (v := 1) hL.1 dL_law_1078 (by decide) ?_
  refine og_iadd hL.1 dL_law_1079 ?_
  refine ol_sld hL (hb 1 (by decide)) dL_law_1080 ?_
  refine og_aload_n 0 hL.1 dL_law_1081 rfl rfl ?_
  refine og_iload_n 3 hL.1 dL_law_1082 rfl rfl ?_
  refine og_iconst (v := 2) hL.1 dL_law_1083 (by decide) ?_
  refine og_iadd hL.1 dL_law_1084 ?_
  refine ol_sld hL (hb 2 (by decide)) dL_law_1085 ?_
  refine og_aload_n 0 hL.1 dL_law_1086 rfl rfl ?_
  refine og_iload_n 3 hL.1 dL_law_1087 rfl rfl ?_
  refine og_iconst (v := 3) hL.1 dL_law_1088 (by decide) ?_
  refine og_iadd hL.1 dL_law_1089 ?_
  refine ol_sld hL (hb 3 (by decide)) dL_law_1090 ?_
  refine ol_callX (q := (v, Sx')) (As := [.int (xs (nt (x3 + 1))), .int (xs (nt (x3 + 2))), .int (xs (nt (x3 + 3)))]) (st := []) (fun n1 => .ref (n1 + 0) :: [.int (xs (nt (x3 + 1))), .int (xs (nt (x3 + 2))), .int (xs (nt (x3 + 3)))]) hL VS_L_109 sX_0 rfl rfl rfl ⟨by decide, by decide⟩ (Nat.le_of_ble_eq_true rfl) (tX11_most (xs (nt (x3 + 1))) (xs (nt (x3 + 2))) (xs (nt (x3 + 3))) Sx _ hx) hcs dL_law_1091 ?_
  show Og X 4 Q (PsL X.2.2.2.2.1 D ids n0 Sx' Sm) cs sl 1094 [(0, .ref b), (1, .ref n0), (2, .ref (n0 + 79)), (3, .int x3)] [.int v]
  refine og_aload_n 2 hL.1 dL_law_1094 rfl rfl ?_
  refine og_aload_n 0 hL.1 dL_law_1095 rfl rfl ?_
  refine og_iload_n 3 hL.1 dL_law_1096 rfl rfl ?_
  refine og_iconst (v := 1) hL.1 dL_law_1097 (by decide) ?_
  refine og_iadd hL.1 dL_law_1098 ?_
  refine ol_sld hL (hb 1 (by decide)) dL_law_1099 ?_
  refine og_aload_n 0 hL.1 dL_law_1100 rfl rfl ?_
  refine og_iload_n 3 hL.1 dL_law_1101 rfl rfl ?_
  refine og_iconst (v := 2) hL.1 dL_law_1102 (by decide) ?_
  refine og_iadd hL.1 dL_law_1103 ?_
  refine ol_sld hL (hb 2 (by decide)) dL_law_1104 ?_
  refine og_aload_n 0 hL.1 dL_law_1105 rfl rfl ?_
  refine og_iload_n 3 hL.1 dL_law_1106 rfl rfl ?_
  refine og_iconst (v := 3) hL.1 dL_law_1107 (by decide) ?_
  refine og_iadd hL.1 dL_law_1108 ?_
  refine ol_sld hL (hb 3 (by decide)) dL_law_1109 ?_
  refine ol_callM (q := (v, Sm')) (As := [.int (xs (nt (x3 + 1))), .int (xs (nt (x3 + 2))), .int (xs (nt (x3 + 3)))]) (st := [.int v]) (fun n1 => .ref (n1 + 0) :: [.int (xs (nt (x3 + 1))), .int (xs (nt (x3 + 2))), .int (xs (nt (x3 + 3)))]) hL VS_L_112 sM_0 rfl rfl rfl ⟨by decide, by decide⟩ (Nat.le_of_ble_eq_true rfl) (tX12_most (xs (nt (x3 + 1))) (xs (nt (x3 + 2))) (xs (nt (x3 + 3))) Sm _ hm) hcs dL_law_1110 ?_
  show Og X 4 Q (PsL X.2.2.2.2.1 D ids n0 Sx' Sm') cs sl 1113 [(0, .ref b), (1, .ref n0), (2, .ref (n0 + 79)), (3, .int x3)] [.int v, .int v]
  refine og_icmp_eq 2132 hL.1 dL_law_1113 (by decide) (fun _ => ?_) (fun hne => absurd rfl hne)
  exact kk Sx' Sm' hp
set_option maxRecDepth 100000 in
set_option maxHeartbeats 4000000 in
theorem lawc_23 {X : Mx} {D : va_G} {ids : Nat → ClassId} {n0 b L aL aG : Nat} {xs : Nat → Int32} {Q : State → Prop} {cs sl : Nat} {Sx Sm : St} {P : St → St → Prop} (hL : LawC X D ids n0 b L xs aL aG) (hcs : cs ≤ 600000 ∧ sl ≤ 7302250) (x3 : Int32) (hb : ∀ j : Int32, (0 ≤ j ∧ j ≤ 6) → ib (x3 + j) L) (hpp : ∃ (v : Int32) (Sx' Sm' : St), fX11_listen (xs (nt (x3 + 1))) (xs (nt (x3 + 2))) (xs (nt (x3 + 3))) Sx = some (v, Sx') ∧ fX12_listen (xs (nt (x3 + 1))) (xs (nt (x3 + 2))) (xs (nt (x3 + 3))) Sm = some (v, Sm') ∧ P Sx' Sm') (kk : ∀ Sx' Sm', P Sx' Sm' → Og X 4 Q (PsL X.2.2.2.2.1 D ids n0 Sx' Sm') cs sl 2132 [(0, .ref b), (1, .ref n0), (2, .ref (n0 + 79)), (3, .int x3)] []) : Og X 4 Q (PsL X.2.2.2.2.1 D ids n0 Sx Sm) cs sl 1118 [(0, .ref b), (1, .ref n0), (2, .ref (n0 + 79)), (3, .int x3)] [] := by
  obtain ⟨v, Sx', Sm', hx, hm, hp⟩ := hpp
  refine og_aload_n 1 hL.1 dL_law_1118 rfl rfl ?_
  refine og_aload_n 0 hL.1 dL_law_1119 rfl rfl ?_
  refine og_iload_n 3 hL.1 dL_law_1120 rfl rfl ?_
  refine og_iconst (v := 1) hL.1 dL_law_1121 (by decide) ?_
  refine og_iadd hL.1 dL_law_1122 ?_
  refine ol_sld hL (hb 1 (by decide)) dL_law_1123 ?_
  refine og_aload_n 0 hL.1 dL_law_1124 rfl rfl ?_
  refine og_iload_n 3 hL.1 dL_law_1125 rfl rfl ?_
  refine og_iconst (v := 2) hL.1 dL_law_1126 (by decide) ?_
  refine og_iadd hL.1 dL_law_1127 ?_
  refine ol_sld hL (hb 2 (by decide)) dL_law_1128 ?_
  refine og_aload_n 0 hL.1 dL_law_1129 rfl rfl ?_
  refine og_iload_n 3 hL.1 dL_law_1130 rfl rfl ?_
  refine og_iconst (v := 3) hL.1 dL_law_1131 (by decide) ?_
  refine og_iadd hL.1 dL_law_1132 ?_
  refine ol_sld hL (hb 3 (by decide)) dL_law_1133 ?_
  refine ol_callX (q := (v, Sx')) (As := [.int (xs (nt (x3 + 1))), .int (xs (nt (x3 + 2))), .int (xs (nt (x3 + 3)))]) (st := []) (fun n1 => .ref (n1 + 0) :: [.int (xs (nt (x3 + 1))), .int (xs (nt (x3 + 2))), .int (xs (nt (x3 + 3)))]) hL VS_L_113 sX_0 rfl rfl rfl ⟨by decide, by decide⟩ (Nat.le_of_ble_eq_true rfl) (tX11_listen (xs (nt (x3 + 1))) (xs (nt (x3 + 2))) (xs (nt (x3 + 3))) Sx _ hx) hcs dL_law_1134 ?_
  show Og X 4 Q (PsL X.2.2.2.2.1 D ids n0 Sx' Sm) cs sl 1137 [(0, .ref b), (1, .ref n0), (2, .ref (n0 + 79)), (3, .int x3)] [.int v]
  refine og_aload_n 2 hL.1 dL_law_1137 rfl rfl ?_
  refine og_aload_n 0 hL.1 dL_law_1138 rfl rfl ?_
  refine og_iload_n 3 hL.1 dL_law_1139 rfl rfl ?_
  refine og_iconst (v := 1) hL.1 dL_law_1140 (by decide) ?_
  refine og_iadd hL.1 dL_law_1141 ?_
  refine ol_sld hL (hb 1 (by decide)) dL_law_1142 ?_
  refine og_aload_n 0 hL.1 dL_law_1143 rfl rfl ?_
  refine og_iload_n 3 hL.1 dL_law_1144 rfl rfl ?_
  refine og_iconst (v := 2) hL.1 dL_law_1145 (by decide) ?_
  refine og_iadd hL.1 dL_law_1146 ?_
  refine ol_sld hL (hb 2 (by decide)) dL_law_1147 ?_
  refine og_aload_n 0 hL.1 dL_law_1148 rfl rfl ?_
  refine og_iload_n 3 hL.1 dL_law_1149 rfl rfl ?_
  refine og_iconst (v := 3) hL.1 dL_law_1150 (by decide) ?_
  refine og_iadd hL.1 dL_law_1151 ?_
  refine ol_sld hL (hb 3 (by decide)) dL_law_1152 ?_
  refine ol_callM (q := (v, Sm')) (As := [.int (xs (nt (x3 + 1))), .int (xs (nt (x3 + 2))), .int (xs (nt (x3 + 3)))]) (st := [.int v]) (fun n1 => .ref (n1 + 0) :: [.int (xs (nt (x3 + 1))), .int (xs (nt (x3 + 2))), .int (xs (nt (x3 + 3)))]) hL VS_L_116 sM_0 rfl rfl rfl ⟨by decide, by decide⟩ (Nat.le_of_ble_eq_true rfl) (tX12_listen (xs (nt (x3 + 1))) (xs (nt (x3 + 2))) (xs (nt (x3 + 3))) Sm _ hm) hcs dL_law_1153 ?_
  show Og X 4 Q (PsL X.2.2.2.2.1 D ids n0 Sx' Sm') cs sl 1156 [(0, .ref b), (1, .ref n0), (2, .ref (n0 + 79)), (3, .int x3)] [.int v, .int v]
  refine og_icmp_eq 2132 hL.1 dL_law_1156 (by decide) (fun _ => ?_) (fun hne => absurd rfl hne)
  exact kk Sx' Sm' hp
set_option maxRecDepth 100000 in
set_option maxHeartbeats 4000000 in
theorem lawc_24 {X : Mx} {D : va_G} {ids : Nat → ClassId} {n0 b L aL aG : Nat} {xs : Nat → Int32} {Q : State → Prop} {cs sl : Nat} {Sx Sm : St} {P : St → St → Prop} (hL : LawC X D ids n0 b L xs aL aG) (hcs : cs ≤ 600000 ∧ sl ≤ 7302250) (x3 : Int32) (hb : ∀ j : Int32, (0 ≤ j ∧ j ≤ 6) → ib (x3 + j) L) (hpp : ∃ (v : Int32) (Sx' Sm' : St), fX11_spoke (xs (nt (x3 + 1))) (xs (nt (x3 + 2))) Sx = some (v, Sx') ∧ fX12_spoke (xs (nt (x3 + 1))) (xs (nt (x3 + 2))) Sm = some (v, Sm') ∧ P Sx' Sm') (kk : ∀ Sx' Sm', P Sx' Sm' → Og X 4 Q (PsL X.2.2.2.2.1 D ids n0 Sx' Sm') cs sl 2132 [(0, .ref b), (1, .ref n0), (2, .ref (n0 + 79)), (3, .int x3)] []) : Og X 4 Q (PsL X.2.2.2.2.1 D ids n0 Sx Sm) cs sl 1161 [(0, .ref b), (1, .ref n0), (2, .ref (n0 + 79)), (3, .int x3)] [] := by
  obtain ⟨v, Sx', Sm', hx, hm, hp⟩ := hpp
  refine og_aload_n 1 hL.1 dL_law_1161 rfl rfl ?_
  refine og_aload_n 0 hL.1 dL_law_1162 rfl rfl ?_
  refine og_iload_n 3 hL.1 dL_law_1163 rfl rfl ?_
  refine og_iconst (v := 1) hL.1 dL_law_1164 (by decide) ?_
  refine og_iadd hL.1 dL_law_1165 ?_
  refine ol_sld hL (hb 1 (by decide)) dL_law_1166 ?_
  refine og_aload_n 0 hL.1 dL_law_1167 rfl rfl ?_
  refine og_iload_n 3 hL.1 dL_law_1168 rfl rfl ?_
  refine og_iconst (v := 2) hL.1 dL_law_1169 (by decide) ?_
  refine og_iadd hL.1 dL_law_1170 ?_
  refine ol_sld hL (hb 2 (by decide)) dL_law_1171 ?_
  refine ol_callX (q := (v, Sx')) (As := [.int (xs (nt (x3 + 1))), .int (xs (nt (x3 + 2)))]) (st := []) (fun n1 => .ref (n1 + 0) :: [.int (xs (nt (x3 + 1))), .int (xs (nt (x3 + 2)))]) hL VS_L_117 sX_0 rfl rfl rfl ⟨by decide, by decide⟩ (Nat.le_of_ble_eq_true rfl) (tX11_spoke (xs (nt (x3 + 1))) (xs (nt (x3 + 2))) Sx _ hx) hcs dL_law_1172 ?_
  show Og X 4 Q (PsL X.2.2.2.2.1 D ids n0 Sx' Sm) cs sl 1175 [(0, .ref b), (1, .ref n0), (2, .ref (n0 + 79)), (3, .int x3)] [.int v]
  refine og_aload_n 2 hL.1 dL_law_1175 rfl rfl ?_
  refine og_aload_n 0 hL.1 dL_law_1176 rfl rfl ?_
  refine og_iload_n 3 hL.1 dL_law_1177 rfl rfl ?_
  refine og_iconst (v := 1) hL.1 dL_law_1178 (by decide) ?_
  refine og_iadd hL.1 dL_law_1179 ?_
  refine ol_sld hL (hb 1 (by decide)) dL_law_1180 ?_
  refine og_aload_n 0 hL.1 dL_law_1181 rfl rfl ?_
  refine og_iload_n 3 hL.1 dL_law_1182 rfl rfl ?_
  refine og_iconst (v := 2) hL.1 dL_law_1183 (by decide) ?_
  refine og_iadd hL.1 dL_law_1184 ?_
  refine ol_sld hL (hb 2 (by decide)) dL_law_1185 ?_
  refine ol_callM (q := (v, Sm')) (As := [.int (xs (nt (x3 + 1))), .int (xs (nt (x3 + 2)))]) (st := [.int v]) (fun n1 => .ref (n1 + 0) :: [.int (xs (nt (x3 + 1))), .int (xs (nt (x3 + 2)))]) hL VS_L_120 sM_0 rfl rfl rfl ⟨by decide, by decide⟩ (Nat.le_of_ble_eq_true rfl) (tX12_spoke (xs (nt (x3 + 1))) (xs (nt (x3 + 2))) Sm _ hm) hcs dL_law_1186 ?_
  show Og X 4 Q (PsL X.2.2.2.2.1 D ids n0 Sx' Sm') cs sl 1189 [(0, .ref b), (1, .ref n0), (2, .ref (n0 + 79)), (3, .int x3)] [.int v, .int v]
  refine og_icmp_eq 2132 hL.1 dL_law_1189 (by decide) (fun _ => ?_) (fun hne => absurd rfl hne)
  exact kk Sx' Sm' hp
set_option maxRecDepth 100000 in
set_option maxHeartbeats 4000000 in
theorem lawc_25 {X : Mx} {D : va_G} {ids : Nat → ClassId} {n0 b L aL aG : Nat} {xs : Nat → Int32} {Q : State → Prop} {cs sl : Nat} {Sx Sm : St} {P : St → St → Prop} (hL : LawC X D ids n0 b L xs aL aG) (hcs : cs ≤ 600000 ∧ sl ≤ 7302250) (x3 : Int32) (hb : ∀ j : Int32, (0 ≤ j ∧ j ≤ 6) → ib (x3 + j) L) (hpp : ∃ (v : Int32) (Sx' Sm' : St), fX11_hidden (xs (nt (x3 + 1))) Sx = some (v, Sx') ∧ fX12_hidden (xs (nt (x3 + 1))) Sm = some (v, Sm') ∧ P Sx' Sm') (kk : ∀ Sx' Sm', P Sx' Sm' → Og X 4 Q (PsL X.2.2.2.2.1 D ids n0 Sx' Sm') cs sl 2132 [(0, .ref b), (1, .ref n0), (2, .ref (n0 + 79)), (3, .int x3)] []) : Og X 4 Q (PsL X.2.2.2.2.1 D ids n0 Sx Sm) cs sl 1194 [(0, .ref b), (1, .ref n0), (2, .ref (n0 + 79)), (3, .int x3)] [] := by
  obtain ⟨v, Sx', Sm', hx, hm, hp⟩ := hpp
  refine og_aload_n 1 hL.1 dL_law_1194 rfl rfl ?_
  refine og_aload_n 0 hL.1 dL_law_1195 rfl rfl ?_
  refine og_iload_n 3 hL.1 dL_law_1196 rfl rfl ?_
  refine og_iconst (v := 1) hL.1 dL_law_1197 (by decide) ?_
  refine og_iadd hL.1 dL_law_1198 ?_
  refine ol_sld hL (hb 1 (by decide)) dL_law_1199 ?_
  refine ol_callX (q := (v, Sx')) (As := [.int (xs (nt (x3 + 1)))]) (st := []) (fun n1 => .ref (n1 + 0) :: [.int (xs (nt (x3 + 1)))]) hL VS_L_121 sX_0 rfl rfl rfl ⟨by decide, by decide⟩ (Nat.le_of_ble_eq_true rfl) (tX11_hidden (xs (nt (x3 + 1))) Sx _ hx) hcs dL_law_1200 ?_
  show Og X 4 Q (PsL X.2.2.2.2.1 D ids n0 Sx' Sm) cs sl 1203 [(0, .ref b), (1, .ref n0), (2, .ref (n0 + 79)), (3, .int x3)] [.int v]
  refine og_aload_n 2 hL.1 dL_law_1203 rfl rfl ?_
  refine og_aload_n 0 hL.1 dL_law_1204 rfl rfl ?_
  refine og_iload_n 3 hL.1 dL_law_1205 rfl rfl ?_
  refine og_iconst (v := 1) hL.1 dL_law_1206 (by decide) ?_
  refine og_iadd hL.1 dL_law_1207 ?_
  refine ol_sld hL (hb 1 (by decide)) dL_law_1208 ?_
  refine ol_callM (q := (v, Sm')) (As := [.int (xs (nt (x3 + 1)))]) (st := [.int v]) (fun n1 => .ref (n1 + 0) :: [.int (xs (nt (x3 + 1)))]) hL VS_L_124 sM_0 rfl rfl rfl ⟨by decide, by decide⟩ (Nat.le_of_ble_eq_true rfl) (tX12_hidden (xs (nt (x3 + 1))) Sm _ hm) hcs dL_law_1209 ?_
  show Og X 4 Q (PsL X.2.2.2.2.1 D ids n0 Sx' Sm') cs sl 1212 [(0, .ref b), (1, .ref n0), (2, .ref (n0 + 79)), (3, .int x3)] [.int v, .int v]
  refine og_icmp_eq 2132 hL.1 dL_law_1212 (by decide) (fun _ => ?_) (fun hne => absurd rfl hne)
  exact kk Sx' Sm' hp
set_option maxRecDepth 100000 in
set_option maxHeartbeats 4000000 in
theorem lawc_26 {X : Mx} {D : va_G} {ids : Nat → ClassId} {n0 b L aL aG : Nat} {xs : Nat → Int32} {Q : State → Prop} {cs sl : Nat} {Sx Sm : St} {P : St → St → Prop} (hL : LawC X D ids n0 b L xs aL aG) (hcs : cs ≤ 600000 ∧ sl ≤ 7302250) (x3 : Int32) (hb : ∀ j : Int32, (0 ≤ j ∧ j ≤ 6) → ib (x3 + j) L) (hpp : ∃ (v : Int32) (Sx' Sm' : St), fX11_bid (xs (nt (x3 + 1))) (xs (nt (x3 + 2))) (xs (nt (x3 + 3))) Sx = some (v, Sx') ∧ fX12_bid (xs (nt (x3 + 1))) (xs (nt (x3 + 2))) (xs (nt (x3 + 3))) Sm = some (v, Sm') ∧ P Sx' Sm') (kk : ∀ Sx' Sm', P Sx' Sm' → Og X 4 Q (PsL X.2.2.2.2.1 D ids n0 Sx' Sm') cs sl 2132 [(0, .ref b), (1, .ref n0), (2, .ref (n0 + 79)), (3, .int x3)] []) : Og X 4 Q (PsL X.2.2.2.2.1 D ids n0 Sx Sm) cs sl 1217 [(0, .ref b), (1, .ref n0), (2, .ref (n0 + 79)), (3, .int x3)] [] := by
  obtain ⟨v, Sx', Sm', hx, hm, hp⟩ := hpp
  refine og_aload_n 1 hL.1 dL_law_1217 rfl rfl ?_
  refine og_aload_n 0 hL.1 dL_law_1218 rfl rfl ?_
  refine og_iload_n 3 hL.1 dL_law_1219 rfl rfl ?_
  refine og_iconst (v := 1) hL.1 dL_law_1220 (by decide) ?_
  refine og_iadd hL.1 dL_law_1221 ?_
  refine ol_sld hL (hb 1 (by decide)) dL_law_1222 ?_
  refine og_aload_n 0 hL.1 dL_law_1223 rfl rfl ?_
  refine og_iload_n 3 hL.1 dL_law_1224 rfl rfl ?_
  refine og_iconst (v := 2) hL.1 dL_law_1225 (by decide) ?_
  refine og_iadd hL.1 dL_law_1226 ?_
  refine ol_sld hL (hb 2 (by decide)) dL_law_1227 ?_
  refine og_aload_n 0 hL.1 dL_law_1228 rfl rfl ?_
  refine og_iload_n 3 hL.1 dL_law_1229 rfl rfl ?_
  refine og_iconst (v := 3) hL.1 dL_law_1230 (by decide) ?_
  refine og_iadd hL.1 dL_law_1231 ?_
  refine ol_sld hL (hb 3 (by decide)) dL_law_1232 ?_
  refine ol_callX (q := (v, Sx')) (As := [.int (xs (nt (x3 + 1))), .int (xs (nt (x3 + 2))), .int (xs (nt (x3 + 3)))]) (st := []) (fun n1 => .ref (n1 + 0) :: [.int (xs (nt (x3 + 1))), .int (xs (nt (x3 + 2))), .int (xs (nt (x3 + 3)))]) hL VS_L_125 sX_0 rfl rfl rfl ⟨by decide, by decide⟩ (Nat.le_of_ble_eq_true rfl) (tX11_bid (xs (nt (x3 + 1))) (xs (nt (x3 + 2))) (xs (nt (x3 + 3))) Sx _ hx) hcs dL_law_1233 ?_
  show Og X 4 Q (PsL X.2.2.2.2.1 D ids n0 Sx' Sm) cs sl 1236 [(0, .ref b), (1, .ref n0), (2, .ref (n0 + 79)), (3, .int x3)] [.int v]
  refine og_aload_n 2 hL.1 dL_law_1236 rfl rfl ?_
  refine og_aload_n 0 hL.1 dL_law_1237 rfl rfl ?_
  refine og_iload_n 3 hL.1 dL_law_1238 rfl rfl ?_
  refine og_iconst (v := 1) hL.1 dL_law_1239 (by decide) ?_
  refine og_iadd hL.1 dL_law_1240 ?_
  refine ol_sld hL (hb 1 (by decide)) dL_law_1241 ?_
  refine og_aload_n 0 hL.1 dL_law_1242 rfl rfl ?_
  refine og_iload_n 3 hL.1 dL_law_1243 rfl rfl ?_
  refine og_iconst (v := 2) hL.1 dL_law_1244 (by decide) ?_
  refine og_iadd hL.1 dL_law_1245 ?_
  refine ol_sld hL (hb 2 (by decide)) dL_law_1246 ?_
  refine og_aload_n 0 hL.1 dL_law_1247 rfl rfl ?_
  refine og_iload_n 3 hL.1 dL_law_1248 rfl rfl ?_
  refine og_iconst (v := 3) hL.1 dL_law_1249 (by decide) ?_
  refine og_iadd hL.1 dL_law_1250 ?_
  refine ol_sld hL (hb 3 (by decide)) dL_law_1251 ?_
  refine ol_callM (q := (v, Sm')) (As := [.int (xs (nt (x3 + 1))), .int (xs (nt (x3 + 2))), .int (xs (nt (x3 + 3)))]) (st := [.int v]) (fun n1 => .ref (n1 + 0) :: [.int (xs (nt (x3 + 1))), .int (xs (nt (x3 + 2))), .int (xs (nt (x3 + 3)))]) hL VS_L_128 sM_0 rfl rfl rfl ⟨by decide, by decide⟩ (Nat.le_of_ble_eq_true rfl) (tX12_bid (xs (nt (x3 + 1))) (xs (nt (x3 + 2))) (xs (nt (x3 + 3))) Sm _ hm) hcs dL_law_1252 ?_
  show Og X 4 Q (PsL X.2.2.2.2.1 D ids n0 Sx' Sm') cs sl 1255 [(0, .ref b), (1, .ref n0), (2, .ref (n0 + 79)), (3, .int x3)] [.int v, .int v]
  refine og_icmp_eq 2132 hL.1 dL_law_1255 (by decide) (fun _ => ?_) (fun hne => absurd rfl hne)
  exact kk Sx' Sm' hp
set_option maxRecDepth 100000 in
set_option maxHeartbeats 4000000 in
theorem lawc_27 {X : Mx} {D : va_G} {ids : Nat → ClassId} {n0 b L aL aG : Nat} {xs : Nat → Int32} {Q : State → Prop} {cs sl : Nat} {Sx Sm : St} {P : St → St → Prop} (hL : LawC X D ids n0 b L xs aL aG) (hcs : cs ≤ 600000 ∧ sl ≤ 7302250) (x3 : Int32) (hb : ∀ j : Int32, (0 ≤ j ∧ j ≤ 6) → ib (x3 + j) L) (hpp : ∃ (v : Int32) (Sx' Sm' : St), fX11_call  Sx = some (v, Sx') ∧ fX12_call  Sm = some (v, Sm') ∧ P Sx' Sm') (kk : ∀ Sx' Sm', P Sx' Sm' → Og X 4 Q (PsL X.2.2.2.2.1 D ids n0 Sx' Sm') cs sl 2132 [(0, .ref b), (1, .ref n0), (2, .ref (n0 + 79)), (3, .int x3)] []) : Og X 4 Q (PsL X.2.2.2.2.1 D ids n0 Sx Sm) cs sl 1260 [(0, .ref b), (1, .ref n0), (2, .ref (n0 + 79)), (3, .int x3)] [] := by
  obtain ⟨v, Sx', Sm', hx, hm, hp⟩ := hpp
  refine og_aload_n 1 hL.1 dL_law_1260 rfl rfl ?_
  refine ol_callX (q := (v, Sx')) (As := []) (st := []) (fun n1 => .ref (n1 + 0) :: []) hL VS_L_129 sX_0 rfl rfl rfl ⟨by decide, by decide⟩ (Nat.le_of_ble_eq_true rfl) (tX11_call Sx _ hx) hcs dL_law_1261 ?_
  show Og X 4 Q (PsL X.2.2.2.2.1 D ids n0 Sx' Sm) cs sl 1264 [(0, .ref b), (1, .ref n0), (2, .ref (n0 + 79)), (3, .int x3)] [.int v]
  refine og_aload_n 2 hL.1 dL_law_1264 rfl rfl ?_
  refine ol_callM (q := (v, Sm')) (As := []) (st := [.int v]) (fun n1 => .ref (n1 + 0) :: []) hL VS_L_133 sM_0 rfl rfl rfl ⟨by decide, by decide⟩ (Nat.le_of_ble_eq_true rfl) (tX12_call Sm _ hm) hcs dL_law_1265 ?_
  show Og X 4 Q (PsL X.2.2.2.2.1 D ids n0 Sx' Sm') cs sl 1268 [(0, .ref b), (1, .ref n0), (2, .ref (n0 + 79)), (3, .int x3)] [.int v, .int v]
  refine og_icmp_eq 2132 hL.1 dL_law_1268 (by decide) (fun _ => ?_) (fun hne => absurd rfl hne)
  exact kk Sx' Sm' hp
set_option maxRecDepth 100000 in
set_option maxHeartbeats 4000000 in
theorem lawc_28 {X : Mx} {D : va_G} {ids : Nat → ClassId} {n0 b L aL aG : Nat} {xs : Nat → Int32} {Q : State → Prop} {cs sl : Nat} {Sx Sm : St} {P : St → St → Prop} (hL : LawC X D ids n0 b L xs aL aG) (hcs : cs ≤ 600000 ∧ sl ≤ 7302250) (x3 : Int32) (hb : ∀ j : Int32, (0 ≤ j ∧ j ≤ 6) → ib (x3 + j) L) (hpp : ∃ (v : Int32) (Sx' Sm' : St), fX11_won  Sx = some (v, Sx') ∧ fX12_won  Sm = some (v, Sm') ∧ P Sx' Sm') (kk : ∀ Sx' Sm', P Sx' Sm' → Og X 4 Q (PsL X.2.2.2.2.1 D ids n0 Sx' Sm') cs sl 2132 [(0, .ref b), (1, .ref n0), (2, .ref (n0 + 79)), (3, .int x3)] []) : Og X 4 Q (PsL X.2.2.2.2.1 D ids n0 Sx Sm) cs sl 1273 [(0, .ref b), (1, .ref n0), (2, .ref (n0 + 79)), (3, .int x3)] [] := by
  obtain ⟨v, Sx', Sm', hx, hm, hp⟩ := hpp
  refine og_aload_n 1 hL.1 dL_law_1273 rfl rfl ?_
  refine ol_callX (q := (v, Sx')) (As := []) (st := []) (fun n1 => .ref (n1 + 0) :: []) hL VS_L_134 sX_0 rfl rfl rfl ⟨by decide, by decide⟩ (Nat.le_of_ble_eq_true rfl) (tX11_won Sx _ hx) hcs dL_law_1274 ?_
  show Og X 4 Q (PsL X.2.2.2.2.1 D ids n0 Sx' Sm) cs sl 1277 [(0, .ref b), (1, .ref n0), (2, .ref (n0 + 79)), (3, .int x3)] [.int v]
  refine og_aload_n 2 hL.1 dL_law_1277 rfl rfl ?_
  refine ol_callM (q := (v, Sm')) (As := []) (st := [.int v]) (fun n1 => .ref (n1 + 0) :: []) hL VS_L_137 sM_0 rfl rfl rfl ⟨by decide, by decide⟩ (Nat.le_of_ble_eq_true rfl) (tX12_won Sm _ hm) hcs dL_law_1278 ?_
  show Og X 4 Q (PsL X.2.2.2.2.1 D ids n0 Sx' Sm') cs sl 1281 [(0, .ref b), (1, .ref n0), (2, .ref (n0 + 79)), (3, .int x3)] [.int v, .int v]
  refine og_icmp_eq 2132 hL.1 dL_law_1281 (by decide) (fun _ => ?_) (fun hne => absurd rfl hne)
  exact kk Sx' Sm' hp
set_option maxRecDepth 100000 in
set_option maxHeartbeats 4000000 in
theorem lawc_29 {X : Mx} {D : va_G} {ids : Nat → ClassId} {n0 b L aL aG : Nat} {xs : Nat → Int32} {Q : State → Prop} {cs sl : Nat} {Sx Sm : St} {P : St → St → Prop} (hL : LawC X D ids n0 b L xs aL aG) (hcs : cs ≤ 600000 ∧ sl ≤ 7302250) (x3 : Int32) (hb : ∀ j : Int32, (0 ≤ j ∧ j ≤ 6) → ib (x3 + j) L) (hpp : ∃ (v : Int32) (Sx' Sm' : St), fX11_pays (xs (nt (x3 + 1))) Sx = some (v, Sx') ∧ fX12_pays (xs (nt (x3 + 1))) Sm = some (v, Sm') ∧ P Sx' Sm') (kk : ∀ Sx' Sm', P Sx' Sm' → Og X 4 Q (PsL X.2.2.2.2.1 D ids n0 Sx' Sm') cs sl 2132 [(0, .ref b), (1, .ref n0), (2, .ref (n0 + 79)), (3, .int x3)] []) : Og X 4 Q (PsL X.2.2.2.2.1 D ids n0 Sx Sm) cs sl 1286 [(0, .ref b), (1, .ref n0), (2, .ref (n0 + 79)), (3, .int x3)] [] := by
  obtain ⟨v, Sx', Sm', hx, hm, hp⟩ := hpp
  refine og_aload_n 1 hL.1 dL_law_1286 rfl rfl ?_
  refine og_aload_n 0 hL.1 dL_law_1287 rfl rfl ?_
  refine og_iload_n 3 hL.1 dL_law_1288 rfl rfl ?_
  refine og_iconst (v := 1) hL.1 dL_law_1289 (by decide) ?_
  refine og_iadd hL.1 dL_law_1290 ?_
  refine ol_sld hL (hb 1 (by decide)) dL_law_1291 ?_
  refine ol_callX (q := (v, Sx')) (As := [.int (xs (nt (x3 + 1)))]) (st := []) (fun n1 => .ref (n1 + 0) :: [.int (xs (nt (x3 + 1)))]) hL VS_L_138 sX_0 rfl rfl rfl ⟨by decide, by decide⟩ (Nat.le_of_ble_eq_true rfl) (tX11_pays (xs (nt (x3 + 1))) Sx _ hx) hcs dL_law_1292 ?_
  show Og X 4 Q (PsL X.2.2.2.2.1 D ids n0 Sx' Sm) cs sl 1295 [(0, .ref b), (1, .ref n0), (2, .ref (n0 + 79)), (3, .int x3)] [.int v]
  refine og_aload_n 2 hL.1 dL_law_1295 rfl rfl ?_
  refine og_aload_n 0 hL.1 dL_law_1296 rfl rfl ?_
  refine og_iload_n 3 hL.1 dL_law_1297 rfl rfl ?_
  refine og_iconst (v := 1) hL.1 dL_law_1298 (by decide) ?_
  refine og_iadd hL.1 dL_law_1299 ?_
  refine ol_sld hL (hb 1 (by decide)) dL_law_1300 ?_
  refine ol_callM (q := (v, Sm')) (As := [.int (xs (nt (x3 + 1)))]) (st := [.int v]) (fun n1 => .ref (n1 + 0) :: [.int (xs (nt (x3 + 1)))]) hL VS_L_141 sM_0 rfl rfl rfl ⟨by decide, by decide⟩ (Nat.le_of_ble_eq_true rfl) (tX12_pays (xs (nt (x3 + 1))) Sm _ hm) hcs dL_law_1301 ?_
  show Og X 4 Q (PsL X.2.2.2.2.1 D ids n0 Sx' Sm') cs sl 1304 [(0, .ref b), (1, .ref n0), (2, .ref (n0 + 79)), (3, .int x3)] [.int v, .int v]
  refine og_icmp_eq 2132 hL.1 dL_law_1304 (by decide) (fun _ => ?_) (fun hne => absurd rfl hne)
  exact kk Sx' Sm' hp
set_option maxRecDepth 100000 in
set_option maxHeartbeats 4000000 in
theorem lawc_30 {X : Mx} {D : va_G} {ids : Nat → ClassId} {n0 b L aL aG : Nat} {xs : Nat → Int32} {Q : State → Prop} {cs sl : Nat} {Sx Sm : St} {P : St → St → Prop} (hL : LawC X D ids n0 b L xs aL aG) (hcs : cs ≤ 600000 ∧ sl ≤ 7302250) (x3 : Int32) (hb : ∀ j : Int32, (0 ≤ j ∧ j ≤ 6) → ib (x3 + j) L) (hpp : ∃ (v : Int32) (Sx' Sm' : St), fX11_type (xs (nt (x3 + 1))) Sx = some (v, Sx') ∧ fX12_type (xs (nt (x3 + 1))) Sm = some (v, Sm') ∧ P Sx' Sm') (kk : ∀ Sx' Sm', P Sx' Sm' → Og X 4 Q (PsL X.2.2.2.2.1 D ids n0 Sx' Sm') cs sl 2132 [(0, .ref b), (1, .ref n0), (2, .ref (n0 + 79)), (3, .int x3)] []) : Og X 4 Q (PsL X.2.2.2.2.1 D ids n0 Sx Sm) cs sl 1309 [(0, .ref b), (1, .ref n0), (2, .ref (n0 + 79)), (3, .int x3)] [] := by
  obtain ⟨v, Sx', Sm', hx, hm, hp⟩ := hpp
  refine og_aload_n 1 hL.1 dL_law_1309 rfl rfl ?_
  refine og_aload_n 0 hL.1 dL_law_1310 rfl rfl ?_
  refine og_iload_n 3 hL.1 dL_law_1311 rfl rfl ?_
  refine og_iconst (v := 1) hL.1 dL_law_1312 (by decide) ?_
  refine og_iadd hL.1 dL_law_1313 ?_
  refine ol_sld hL (hb 1 (by decide)) dL_law_1314 ?_
  refine ol_callX (q := (v, Sx')) (As := [.int (xs (nt (x3 + 1)))]) (st := []) (fun n1 => .ref (n1 + 0) :: [.int (xs (nt (x3 + 1)))]) hL VS_L_142 sX_0 rfl rfl rfl ⟨by decide, by decide⟩ (Nat.le_of_ble_eq_true rfl) (tX11_type (xs (nt (x3 + 1))) Sx _ hx) hcs dL_law_1315 ?_
  show Og X 4 Q (PsL X.2.2.2.2.1 D ids n0 Sx' Sm) cs sl 1318 [(0, .ref b), (1, .ref n0), (2, .ref (n0 + 79)), (3, .int x3)] [.int v]
  refine og_aload_n 2 hL.1 dL_law_1318 rfl rfl ?_
  refine og_aload_n 0 hL.1 dL_law_1319 rfl rfl ?_
  refine og_iload_n 3 hL.1 dL_law_1320 rfl rfl ?_
  refine og_iconst (v := 1) hL.1 dL_law_1321 (by decide) ?_
  refine og_iadd hL.1 dL_law_1322 ?_
  refine ol_sld hL (hb 1 (by decide)) dL_law_1323 ?_
  refine ol_callM (q := (v, Sm')) (As := [.int (xs (nt (x3 + 1)))]) (st := [.int v]) (fun n1 => .ref (n1 + 0) :: [.int (xs (nt (x3 + 1)))]) hL VS_L_145 sM_0 rfl rfl rfl ⟨by decide, by decide⟩ (Nat.le_of_ble_eq_true rfl) (tX12_type (xs (nt (x3 + 1))) Sm _ hm) hcs dL_law_1324 ?_
  show Og X 4 Q (PsL X.2.2.2.2.1 D ids n0 Sx' Sm') cs sl 1327 [(0, .ref b), (1, .ref n0), (2, .ref (n0 + 79)), (3, .int x3)] [.int v, .int v]
  refine og_icmp_eq 2132 hL.1 dL_law_1327 (by decide) (fun _ => ?_) (fun hne => absurd rfl hne)
  exact kk Sx' Sm' hp
set_option maxRecDepth 100000 in
set_option maxHeartbeats 4000000 in
theorem lawc_31 {X : Mx} {D : va_G} {ids : Nat → ClassId} {n0 b L aL aG : Nat} {xs : Nat → Int32} {Q : State → Prop} {cs sl : Nat} {Sx Sm : St} {P : St → St → Prop} (hL : LawC X D ids n0 b L xs aL aG) (hcs : cs ≤ 600000 ∧ sl ≤ 7302250) (x3 : Int32) (hb : ∀ j : Int32, (0 ≤ j ∧ j ≤ 6) → ib (x3 + j) L) (hpp : ∃ (v : Int32) (Sx' Sm' : St), fX11_wipe  Sx = some (v, Sx') ∧ fX12_wipe  Sm = some (v, Sm') ∧ P Sx' Sm') (kk : ∀ Sx' Sm', P Sx' Sm' → Og X 4 Q (PsL X.2.2.2.2.1 D ids n0 Sx' Sm') cs sl 2132 [(0, .ref b), (1, .ref n0), (2, .ref (n0 + 79)), (3, .int x3)] []) : Og X 4 Q (PsL X.2.2.2.2.1 D ids n0 Sx Sm) cs sl 1332 [(0, .ref b), (1, .ref n0), (2, .ref (n0 + 79)), (3, .int x3)] [] := by
  obtain ⟨v, Sx', Sm', hx, hm, hp⟩ := hpp
  refine og_aload_n 1 hL.1 dL_law_1332 rfl rfl ?_
  refine ol_callX (q := (v, Sx')) (As := []) (st := []) (fun n1 => .ref (n1 + 0) :: []) hL VS_L_146 sX_0 rfl rfl rfl ⟨by decide, by decide⟩ (Nat.le_of_ble_eq_true rfl) (tX11_wipe Sx _ hx) hcs dL_law_1333 ?_
  show Og X 4 Q (PsL X.2.2.2.2.1 D ids n0 Sx' Sm) cs sl 1336 [(0, .ref b), (1, .ref n0), (2, .ref (n0 + 79)), (3, .int x3)] [.int v]
  refine og_aload_n 2 hL.1 dL_law_1336 rfl rfl ?_
  refine ol_callM (q := (v, Sm')) (As := []) (st := [.int v]) (fun n1 => .ref (n1 + 0) :: []) hL VS_L_149 sM_0 rfl rfl rfl ⟨by decide, by decide⟩ (Nat.le_of_ble_eq_true rfl) (tX12_wipe Sm _ hm) hcs dL_law_1337 ?_
  show Og X 4 Q (PsL X.2.2.2.2.1 D ids n0 Sx' Sm') cs sl 1340 [(0, .ref b), (1, .ref n0), (2, .ref (n0 + 79)), (3, .int x3)] [.int v, .int v]
  refine og_icmp_eq 2132 hL.1 dL_law_1340 (by decide) (fun _ => ?_) (fun hne => absurd rfl hne)
  exact kk Sx' Sm' hp
set_option maxRecDepth 100000 in
set_option maxHeartbeats 4000000 in
theorem lawc_32 {X : Mx} {D : va_G} {ids : Nat → ClassId} {n0 b L aL aG : Nat} {xs : Nat → Int32} {Q : State → Prop} {cs sl : Nat} {Sx Sm : St} {P : St → St → Prop} (hL : LawC X D ids n0 b L xs aL aG) (hcs : cs ≤ 600000 ∧ sl ≤ 7302250) (x3 : Int32) (hb : ∀ j : Int32, (0 ≤ j ∧ j ≤ 6) → ib (x3 + j) L) (hpp : ∃ (v : Int32) (Sx' Sm' : St), fX11_fault  Sx = some (v, Sx') ∧ fX12_fault  Sm = some (v, Sm') ∧ P Sx' Sm') (kk : ∀ Sx' Sm', P Sx' Sm' → Og X 4 Q (PsL X.2.2.2.2.1 D ids n0 Sx' Sm') cs sl 2132 [(0, .ref b), (1, .ref n0), (2, .ref (n0 + 79)), (3, .int x3)] []) : Og X 4 Q (PsL X.2.2.2.2.1 D ids n0 Sx Sm) cs sl 1345 [(0, .ref b), (1, .ref n0), (2, .ref (n0 + 79)), (3, .int x3)] [] := by
  obtain ⟨v, Sx', Sm', hx, hm, hp⟩ := hpp
  refine og_aload_n 1 hL.1 dL_law_1345 rfl rfl ?_
  refine ol_callX (q := (v, Sx')) (As := []) (st := []) (fun n1 => .ref (n1 + 0) :: []) hL VS_L_150 sX_0 rfl rfl rfl ⟨by decide, by decide⟩ (Nat.le_of_ble_eq_true rfl) (tX11_fault Sx _ hx) hcs dL_law_1346 ?_
  show Og X 4 Q (PsL X.2.2.2.2.1 D ids n0 Sx' Sm) cs sl 1349 [(0, .ref b), (1, .ref n0), (2, .ref (n0 + 79)), (3, .int x3)] [.int v]
  refine og_aload_n 2 hL.1 dL_law_1349 rfl rfl ?_
  refine ol_callM (q := (v, Sm')) (As := []) (st := [.int v]) (fun n1 => .ref (n1 + 0) :: []) hL VS_L_153 sM_0 rfl rfl rfl ⟨by decide, by decide⟩ (Nat.le_of_ble_eq_true rfl) (tX12_fault Sm _ hm) hcs dL_law_1350 ?_
  show Og X 4 Q (PsL X.2.2.2.2.1 D ids n0 Sx' Sm') cs sl 1353 [(0, .ref b), (1, .ref n0), (2, .ref (n0 + 79)), (3, .int x3)] [.int v, .int v]
  refine og_icmp_eq 2132 hL.1 dL_law_1353 (by decide) (fun _ => ?_) (fun hne => absurd rfl hne)
  exact kk Sx' Sm' hp
set_option maxRecDepth 100000 in
set_option maxHeartbeats 4000000 in
theorem lawc_33 {X : Mx} {D : va_G} {ids : Nat → ClassId} {n0 b L aL aG : Nat} {xs : Nat → Int32} {Q : State → Prop} {cs sl : Nat} {Sx Sm : St} {P : St → St → Prop} (hL : LawC X D ids n0 b L xs aL aG) (hcs : cs ≤ 600000 ∧ sl ≤ 7302250) (x3 : Int32) (hb : ∀ j : Int32, (0 ≤ j ∧ j ≤ 6) → ib (x3 + j) L) (hpp : ∃ (v : Int32) (Sx' Sm' : St), fX11_may (xs (nt (x3 + 1))) (xs (nt (x3 + 2))) (xs (nt (x3 + 3))) Sx = some (v, Sx') ∧ fX12_may (xs (nt (x3 + 1))) (xs (nt (x3 + 2))) (xs (nt (x3 + 3))) Sm = some (v, Sm') ∧ P Sx' Sm') (kk : ∀ Sx' Sm', P Sx' Sm' → Og X 4 Q (PsL X.2.2.2.2.1 D ids n0 Sx' Sm') cs sl 2132 [(0, .ref b), (1, .ref n0), (2, .ref (n0 + 79)), (3, .int x3)] []) : Og X 4 Q (PsL X.2.2.2.2.1 D ids n0 Sx Sm) cs sl 1358 [(0, .ref b), (1, .ref n0), (2, .ref (n0 + 79)), (3, .int x3)] [] := by
  obtain ⟨v, Sx', Sm', hx, hm, hp⟩ := hpp
  refine og_aload_n 1 hL.1 dL_law_1358 rfl rfl ?_
  refine og_aload_n 0 hL.1 dL_law_1359 rfl rfl ?_
  refine og_iload_n 3 hL.1 dL_law_1360 rfl rfl ?_
  refine og_iconst (v := 1) hL.1 dL_law_1361 (by decide) ?_
  refine og_iadd hL.1 dL_law_1362 ?_
  refine ol_sld hL (hb 1 (by decide)) dL_law_1363 ?_
  refine og_aload_n 0 hL.1 dL_law_1364 rfl rfl ?_
  refine og_iload_n 3 hL.1 dL_law_1365 rfl rfl ?_
  refine og_iconst (v := 2) hL.1 dL_law_1366 (by decide) ?_
  refine og_iadd hL.1 dL_law_1367 ?_
  refine ol_sld hL (hb 2 (by decide)) dL_law_1368 ?_
  refine og_aload_n 0 hL.1 dL_law_1369 rfl rfl ?_
  refine og_iload_n 3 hL.1 dL_law_1370 rfl rfl ?_
  refine og_iconst (v := 3) hL.1 dL_law_1371 (by decide) ?_
  refine og_iadd hL.1 dL_law_1372 ?_
  refine ol_sld hL (hb 3 (by decide)) dL_law_1373 ?_
  refine ol_callX (q := (v, Sx')) (As := [.int (xs (nt (x3 + 1))), .int (xs (nt (x3 + 2))), .int (xs (nt (x3 + 3)))]) (st := []) (fun n1 => .ref (n1 + 0) :: [.int (xs (nt (x3 + 1))), .int (xs (nt (x3 + 2))), .int (xs (nt (x3 + 3)))]) hL VS_L_154 sX_0 rfl rfl rfl ⟨by decide, by decide⟩ (Nat.le_of_ble_eq_true rfl) (tX11_may (xs (nt (x3 + 1))) (xs (nt (x3 + 2))) (xs (nt (x3 + 3))) Sx _ hx) hcs dL_law_1374 ?_
  show Og X 4 Q (PsL X.2.2.2.2.1 D ids n0 Sx' Sm) cs sl 1377 [(0, .ref b), (1, .ref n0), (2, .ref (n0 + 79)), (3, .int x3)] [.int v]
  refine og_aload_n 2 hL.1 dL_law_1377 rfl rfl ?_
  refine og_aload_n 0 hL.1 dL_law_1378 rfl rfl ?_
  refine og_iload_n 3 hL.1 dL_law_1379 rfl rfl ?_
  refine og_iconst (v := 1) hL.1 dL_law_1380 (by decide) ?_
  refine og_iadd hL.1 dL_law_1381 ?_
  refine ol_sld hL (hb 1 (by decide)) dL_law_1382 ?_
  refine og_aload_n 0 hL.1 dL_law_1383 rfl rfl ?_
  refine og_iload_n 3 hL.1 dL_law_1384 rfl rfl ?_
  refine og_iconst (v := 2) hL.1 dL_law_1385 (by decide) ?_
  refine og_iadd hL.1 dL_law_1386 ?_
  refine ol_sld hL (hb 2 (by decide)) dL_law_1387 ?_
  refine og_aload_n 0 hL.1 dL_law_1388 rfl rfl ?_
  refine og_iload_n 3 hL.1 dL_law_1389 rfl rfl ?_
  refine og_iconst (v := 3) hL.1 dL_law_1390 (by decide) ?_
  refine og_iadd hL.1 dL_law_1391 ?_
  refine ol_sld hL (hb 3 (by decide)) dL_law_1392 ?_
  refine ol_callM (q := (v, Sm')) (As := [.int (xs (nt (x3 + 1))), .int (xs (nt (x3 + 2))), .int (xs (nt (x3 + 3)))]) (st := [.int v]) (fun n1 => .ref (n1 + 0) :: [.int (xs (nt (x3 + 1))), .int (xs (nt (x3 + 2))), .int (xs (nt (x3 + 3)))]) hL VS_L_157 sM_0 rfl rfl rfl ⟨by decide, by decide⟩ (Nat.le_of_ble_eq_true rfl) (tX12_may (xs (nt (x3 + 1))) (xs (nt (x3 + 2))) (xs (nt (x3 + 3))) Sm _ hm) hcs dL_law_1393 ?_
  show Og X 4 Q (PsL X.2.2.2.2.1 D ids n0 Sx' Sm') cs sl 1396 [(0, .ref b), (1, .ref n0), (2, .ref (n0 + 79)), (3, .int x3)] [.int v, .int v]
  refine og_icmp_eq 2132 hL.1 dL_law_1396 (by decide) (fun _ => ?_) (fun hne => absurd rfl hne)
  exact kk Sx' Sm' hp
set_option maxRecDepth 100000 in
set_option maxHeartbeats 4000000 in
theorem lawc_34 {X : Mx} {D : va_G} {ids : Nat → ClassId} {n0 b L aL aG : Nat} {xs : Nat → Int32} {Q : State → Prop} {cs sl : Nat} {Sx Sm : St} {P : St → St → Prop} (hL : LawC X D ids n0 b L xs aL aG) (hcs : cs ≤ 600000 ∧ sl ≤ 7302250) (x3 : Int32) (hb : ∀ j : Int32, (0 ≤ j ∧ j ≤ 6) → ib (x3 + j) L) (hpp : ∃ (v : Int32) (Sx' Sm' : St), fX11_rule (xs (nt (x3 + 1))) (xs (nt (x3 + 2))) (xs (nt (x3 + 3))) Sx = some (v, Sx') ∧ fX12_rule (xs (nt (x3 + 1))) (xs (nt (x3 + 2))) (xs (nt (x3 + 3))) Sm = some (v, Sm') ∧ P Sx' Sm') (kk : ∀ Sx' Sm', P Sx' Sm' → Og X 4 Q (PsL X.2.2.2.2.1 D ids n0 Sx' Sm') cs sl 2132 [(0, .ref b), (1, .ref n0), (2, .ref (n0 + 79)), (3, .int x3)] []) : Og X 4 Q (PsL X.2.2.2.2.1 D ids n0 Sx Sm) cs sl 1401 [(0, .ref b), (1, .ref n0), (2, .ref (n0 + 79)), (3, .int x3)] [] := by
  obtain ⟨v, Sx', Sm', hx, hm, hp⟩ := hpp
  refine og_aload_n 1 hL.1 dL_law_1401 rfl rfl ?_
  refine og_aload_n 0 hL.1 dL_law_1402 rfl rfl ?_
  refine og_iload_n 3 hL.1 dL_law_1403 rfl rfl ?_
  refine og_iconst (v := 1) hL.1 dL_law_1404 (by decide) ?_
  refine og_iadd hL.1 dL_law_1405 ?_
  refine ol_sld hL (hb 1 (by decide)) dL_law_1406 ?_
  refine og_aload_n 0 hL.1 dL_law_1407 rfl rfl ?_
  refine og_iload_n 3 hL.1 dL_law_1408 rfl rfl ?_
  refine og_iconst (v := 2) hL.1 dL_law_1409 (by decide) ?_
  refine og_iadd hL.1 dL_law_1410 ?_
  refine ol_sld hL (hb 2 (by decide)) dL_law_1411 ?_
  refine og_aload_n 0 hL.1 dL_law_1412 rfl rfl ?_
  refine og_iload_n 3 hL.1 dL_law_1413 rfl rfl ?_
  refine og_iconst (v := 3) hL.1 dL_law_1414 (by decide) ?_
  refine og_iadd hL.1 dL_law_1415 ?_
  refine ol_sld hL (hb 3 (by decide)) dL_law_1416 ?_
  refine ol_callX (q := (v, Sx')) (As := [.int (xs (nt (x3 + 1))), .int (xs (nt (x3 + 2))), .int (xs (nt (x3 + 3)))]) (st := []) (fun n1 => .ref (n1 + 0) :: [.int (xs (nt (x3 + 1))), .int (xs (nt (x3 + 2))), .int (xs (nt (x3 + 3)))]) hL VS_L_158 sX_0 rfl rfl rfl ⟨by decide, by decide⟩ (Nat.le_of_ble_eq_true rfl) (tX11_rule (xs (nt (x3 + 1))) (xs (nt (x3 + 2))) (xs (nt (x3 + 3))) Sx _ hx) hcs dL_law_1417 ?_
  show Og X 4 Q (PsL X.2.2.2.2.1 D ids n0 Sx' Sm) cs sl 1420 [(0, .ref b), (1, .ref n0), (2, .ref (n0 + 79)), (3, .int x3)] [.int v]
  refine og_aload_n 2 hL.1 dL_law_1420 rfl rfl ?_
  refine og_aload_n 0 hL.1 dL_law_1421 rfl rfl ?_
  refine og_iload_n 3 hL.1 dL_law_1422 rfl rfl ?_
  refine og_iconst (v := 1) hL.1 dL_law_1423 (by decide) ?_
  refine og_iadd hL.1 dL_law_1424 ?_
  refine ol_sld hL (hb 1 (by decide)) dL_law_1425 ?_
  refine og_aload_n 0 hL.1 dL_law_1426 rfl rfl ?_
  refine og_iload_n 3 hL.1 dL_law_1427 rfl rfl ?_
  refine og_iconst (v := 2) hL.1 dL_law_1428 (by decide) ?_
  refine og_iadd hL.1 dL_law_1429 ?_
  refine ol_sld hL (hb 2 (by decide)) dL_law_1430 ?_
  refine og_aload_n 0 hL.1 dL_law_1431 rfl rfl ?_
  refine og_iload_n 3 hL.1 dL_law_1432 rfl rfl ?_
  refine og_iconst (v := 3) hL.1 dL_law_1433 (by decide) ?_
  refine og_iadd hL.1 dL_law_1434 ?_
  refine ol_sld hL (hb 3 (by decide)) dL_law_1435 ?_
  refine ol_callM (q := (v, Sm')) (As := [.int (xs (nt (x3 + 1))), .int (xs (nt (x3 + 2))), .int (xs (nt (x3 + 3)))]) (st := [.int v]) (fun n1 => .ref (n1 + 0) :: [.int (xs (nt (x3 + 1))), .int (xs (nt (x3 + 2))), .int (xs (nt (x3 + 3)))]) hL VS_L_161 sM_0 rfl rfl rfl ⟨by decide, by decide⟩ (Nat.le_of_ble_eq_true rfl) (tX12_rule (xs (nt (x3 + 1))) (xs (nt (x3 + 2))) (xs (nt (x3 + 3))) Sm _ hm) hcs dL_law_1436 ?_
  show Og X 4 Q (PsL X.2.2.2.2.1 D ids n0 Sx' Sm') cs sl 1439 [(0, .ref b), (1, .ref n0), (2, .ref (n0 + 79)), (3, .int x3)] [.int v, .int v]
  refine og_icmp_eq 2132 hL.1 dL_law_1439 (by decide) (fun _ => ?_) (fun hne => absurd rfl hne)
  exact kk Sx' Sm' hp
set_option maxRecDepth 100000 in
set_option maxHeartbeats 4000000 in
theorem lawc_35 {X : Mx} {D : va_G} {ids : Nat → ClassId} {n0 b L aL aG : Nat} {xs : Nat → Int32} {Q : State → Prop} {cs sl : Nat} {Sx Sm : St} {P : St → St → Prop} (hL : LawC X D ids n0 b L xs aL aG) (hcs : cs ≤ 600000 ∧ sl ≤ 7302250) (x3 : Int32) (hb : ∀ j : Int32, (0 ≤ j ∧ j ≤ 6) → ib (x3 + j) L) (hpp : ∃ (v : Int32) (Sx' Sm' : St), fX11_box (xs (nt (x3 + 1))) Sx = some (v, Sx') ∧ fX12_box (xs (nt (x3 + 1))) Sm = some (v, Sm') ∧ P Sx' Sm') (kk : ∀ Sx' Sm', P Sx' Sm' → Og X 4 Q (PsL X.2.2.2.2.1 D ids n0 Sx' Sm') cs sl 2132 [(0, .ref b), (1, .ref n0), (2, .ref (n0 + 79)), (3, .int x3)] []) : Og X 4 Q (PsL X.2.2.2.2.1 D ids n0 Sx Sm) cs sl 1444 [(0, .ref b), (1, .ref n0), (2, .ref (n0 + 79)), (3, .int x3)] [] := by
  obtain ⟨v, Sx', Sm', hx, hm, hp⟩ := hpp
  refine og_aload_n 1 hL.1 dL_law_1444 rfl rfl ?_
  refine og_aload_n 0 hL.1 dL_law_1445 rfl rfl ?_
  refine og_iload_n 3 hL.1 dL_law_1446 rfl rfl ?_
  refine og_iconst (v := 1) hL.1 dL_law_1447 (by decide) ?_
  refine og_iadd hL.1 dL_law_1448 ?_
  refine ol_sld hL (hb 1 (by decide)) dL_law_1449 ?_
  refine ol_callX (q := (v, Sx')) (As := [.int (xs (nt (x3 + 1)))]) (st := []) (fun n1 => .ref (n1 + 0) :: [.int (xs (nt (x3 + 1)))]) hL VS_L_162 sX_0 rfl rfl rfl ⟨by decide, by decide⟩ (Nat.le_of_ble_eq_true rfl) (tX11_box (xs (nt (x3 + 1))) Sx _ hx) hcs dL_law_1450 ?_
  show Og X 4 Q (PsL X.2.2.2.2.1 D ids n0 Sx' Sm) cs sl 1453 [(0, .ref b), (1, .ref n0), (2, .ref (n0 + 79)), (3, .int x3)] [.int v]
  refine og_aload_n 2 hL.1 dL_law_1453 rfl rfl ?_
  refine og_aload_n 0 hL.1 dL_law_1454 rfl rfl ?_
  refine og_iload_n 3 hL.1 dL_law_1455 rfl rfl ?_
  refine og_iconst (v := 1) hL.1 dL_law_1456 (by decide) ?_
  refine og_iadd hL.1 dL_law_1457 ?_
  refine ol_sld hL (hb 1 (by decide)) dL_law_1458 ?_
  refine ol_callM (q := (v, Sm')) (As := [.int (xs (nt (x3 + 1)))]) (st := [.int v]) (fun n1 => .ref (n1 + 0) :: [.int (xs (nt (x3 + 1)))]) hL VS_L_165 sM_0 rfl rfl rfl ⟨by decide, by decide⟩ (Nat.le_of_ble_eq_true rfl) (tX12_box (xs (nt (x3 + 1))) Sm _ hm) hcs dL_law_1459 ?_
  show Og X 4 Q (PsL X.2.2.2.2.1 D ids n0 Sx' Sm') cs sl 1462 [(0, .ref b), (1, .ref n0), (2, .ref (n0 + 79)), (3, .int x3)] [.int v, .int v]
  refine og_icmp_eq 2132 hL.1 dL_law_1462 (by decide) (fun _ => ?_) (fun hne => absurd rfl hne)
  exact kk Sx' Sm' hp
set_option maxRecDepth 100000 in
set_option maxHeartbeats 4000000 in
theorem lawc_36 {X : Mx} {D : va_G} {ids : Nat → ClassId} {n0 b L aL aG : Nat} {xs : Nat → Int32} {Q : State → Prop} {cs sl : Nat} {Sx Sm : St} {P : St → St → Prop} (hL : LawC X D ids n0 b L xs aL aG) (hcs : cs ≤ 600000 ∧ sl ≤ 7302250) (x3 : Int32) (hb : ∀ j : Int32, (0 ≤ j ∧ j ≤ 6) → ib (x3 + j) L) (hpp : ∃ (v : Int32) (Sx' Sm' : St), fX11_log (xs (nt (x3 + 1))) (xs (nt (x3 + 2))) Sx = some (v, Sx') ∧ fX12_log (xs (nt (x3 + 1))) (xs (nt (x3 + 2))) Sm = some (v, Sm') ∧ P Sx' Sm') (kk : ∀ Sx' Sm', P Sx' Sm' → Og X 4 Q (PsL X.2.2.2.2.1 D ids n0 Sx' Sm') cs sl 2132 [(0, .ref b), (1, .ref n0), (2, .ref (n0 + 79)), (3, .int x3)] []) : Og X 4 Q (PsL X.2.2.2.2.1 D ids n0 Sx Sm) cs sl 1467 [(0, .ref b), (1, .ref n0), (2, .ref (n0 + 79)), (3, .int x3)] [] := by
  obtain ⟨v, Sx', Sm', hx, hm, hp⟩ := hpp
  refine og_aload_n 1 hL.1 dL_law_1467 rfl rfl ?_
  refine og_aload_n 0 hL.1 dL_law_1468 rfl rfl ?_
  refine og_iload_n 3 hL.1 dL_law_1469 rfl rfl ?_
  refine og_iconst (v := 1) hL.1 dL_law_1470 (by decide) ?_
  refine og_iadd hL.1 dL_law_1471 ?_
  refine ol_sld hL (hb 1 (by decide)) dL_law_1472 ?_
  refine og_aload_n 0 hL.1 dL_law_1473 rfl rfl ?_
  refine og_iload_n 3 hL.1 dL_law_1474 rfl rfl ?_
  refine og_iconst (v := 2) hL.1 dL_law_1475 (by decide) ?_
  refine og_iadd hL.1 dL_law_1476 ?_
  refine ol_sld hL (hb 2 (by decide)) dL_law_1477 ?_
  refine ol_callX (q := (v, Sx')) (As := [.int (xs (nt (x3 + 1))), .int (xs (nt (x3 + 2)))]) (st := []) (fun n1 => .ref (n1 + 0) :: [.int (xs (nt (x3 + 1))), .int (xs (nt (x3 + 2)))]) hL VS_L_166 sX_0 rfl rfl rfl ⟨by decide, by decide⟩ (Nat.le_of_ble_eq_true rfl) (tX11_log (xs (nt (x3 + 1))) (xs (nt (x3 + 2))) Sx _ hx) hcs dL_law_1478 ?_
  show Og X 4 Q (PsL X.2.2.2.2.1 D ids n0 Sx' Sm) cs sl 1481 [(0, .ref b), (1, .ref n0), (2, .ref (n0 + 79)), (3, .int x3)] [.int v]
  refine og_aload_n 2 hL.1 dL_law_1481 rfl rfl ?_
  refine og_aload_n 0 hL.1 dL_law_1482 rfl rfl ?_
  refine og_iload_n 3 hL.1 dL_law_1483 rfl rfl ?_
  refine og_iconst (v := 1) hL.1 dL_law_1484 (by decide) ?_
  refine og_iadd hL.1 dL_law_1485 ?_
  refine ol_sld hL (hb 1 (by decide)) dL_law_1486 ?_
  refine og_aload_n 0 hL.1 dL_law_1487 rfl rfl ?_
  refine og_iload_n 3 hL.1 dL_law_1488 rfl rfl ?_
  refine og_iconst (v := 2) hL.1 dL_law_1489 (by decide) ?_
  refine og_iadd hL.1 dL_law_1490 ?_
  refine ol_sld hL (hb 2 (by decide)) dL_law_1491 ?_
  refine ol_callM (q := (v, Sm')) (As := [.int (xs (nt (x3 + 1))), .int (xs (nt (x3 + 2)))]) (st := [.int v]) (fun n1 => .ref (n1 + 0) :: [.int (xs (nt (x3 + 1))), .int (xs (nt (x3 + 2)))]) hL VS_L_169 sM_0 rfl rfl rfl ⟨by decide, by decide⟩ (Nat.le_of_ble_eq_true rfl) (tX12_log (xs (nt (x3 + 1))) (xs (nt (x3 + 2))) Sm _ hm) hcs dL_law_1492 ?_
  show Og X 4 Q (PsL X.2.2.2.2.1 D ids n0 Sx' Sm') cs sl 1495 [(0, .ref b), (1, .ref n0), (2, .ref (n0 + 79)), (3, .int x3)] [.int v, .int v]
  refine og_icmp_eq 2132 hL.1 dL_law_1495 (by decide) (fun _ => ?_) (fun hne => absurd rfl hne)
  exact kk Sx' Sm' hp
set_option maxRecDepth 100000 in
set_option maxHeartbeats 4000000 in
theorem lawc_37 {X : Mx} {D : va_G} {ids : Nat → ClassId} {n0 b L aL aG : Nat} {xs : Nat → Int32} {Q : State → Prop} {cs sl : Nat} {Sx Sm : St} {P : St → St → Prop} (hL : LawC X D ids n0 b L xs aL aG) (hcs : cs ≤ 600000 ∧ sl ≤ 7302250) (x3 : Int32) (hb : ∀ j : Int32, (0 ≤ j ∧ j ≤ 6) → ib (x3 + j) L) (hpp : ∃ (v : Int32) (Sx' Sm' : St), fX11_hear (xs (nt (x3 + 1))) Sx = some (v, Sx') ∧ fX12_hear (xs (nt (x3 + 1))) Sm = some (v, Sm') ∧ P Sx' Sm') (kk : ∀ Sx' Sm', P Sx' Sm' → Og X 4 Q (PsL X.2.2.2.2.1 D ids n0 Sx' Sm') cs sl 2132 [(0, .ref b), (1, .ref n0), (2, .ref (n0 + 79)), (3, .int x3)] []) : Og X 4 Q (PsL X.2.2.2.2.1 D ids n0 Sx Sm) cs sl 1500 [(0, .ref b), (1, .ref n0), (2, .ref (n0 + 79)), (3, .int x3)] [] := by
  obtain ⟨v, Sx', Sm', hx, hm, hp⟩ := hpp
  refine og_aload_n 1 hL.1 dL_law_1500 rfl rfl ?_
  refine og_aload_n 0 hL.1 dL_law_1501 rfl rfl ?_
  refine og_iload_n 3 hL.1 dL_law_1502 rfl rfl ?_
  refine og_iconst (v := 1) hL.1 dL_law_1503 (by decide) ?_
  refine og_iadd hL.1 dL_law_1504 ?_
  refine ol_sld hL (hb 1 (by decide)) dL_law_1505 ?_
  refine ol_callX (q := (v, Sx')) (As := [.int (xs (nt (x3 + 1)))]) (st := []) (fun n1 => .ref (n1 + 0) :: [.int (xs (nt (x3 + 1)))]) hL VS_L_170 sX_0 rfl rfl rfl ⟨by decide, by decide⟩ (Nat.le_of_ble_eq_true rfl) (tX11_hear (xs (nt (x3 + 1))) Sx _ hx) hcs dL_law_1506 ?_
  show Og X 4 Q (PsL X.2.2.2.2.1 D ids n0 Sx' Sm) cs sl 1509 [(0, .ref b), (1, .ref n0), (2, .ref (n0 + 79)), (3, .int x3)] [.int v]
  refine og_aload_n 2 hL.1 dL_law_1509 rfl rfl ?_
  refine og_aload_n 0 hL.1 dL_law_1510 rfl rfl ?_
  refine og_iload_n 3 hL.1 dL_law_1511 rfl rfl ?_
  refine og_iconst (v := 1) hL.1 dL_law_1512 (by decide) ?_
  refine og_iadd hL.1 dL_law_1513 ?_
  refine ol_sld hL (hb 1 (by decide)) dL_law_1514 ?_
  refine ol_callM (q := (v, Sm')) (As := [.int (xs (nt (x3 + 1)))]) (st := [.int v]) (fun n1 => .ref (n1 + 0) :: [.int (xs (nt (x3 + 1)))]) hL VS_L_173 sM_0 rfl rfl rfl ⟨by decide, by decide⟩ (Nat.le_of_ble_eq_true rfl) (tX12_hear (xs (nt (x3 + 1))) Sm _ hm) hcs dL_law_1515 ?_
  show Og X 4 Q (PsL X.2.2.2.2.1 D ids n0 Sx' Sm') cs sl 1518 [(0, .ref b), (1, .ref n0), (2, .ref (n0 + 79)), (3, .int x3)] [.int v, .int v]
  refine og_icmp_eq 2132 hL.1 dL_law_1518 (by decide) (fun _ => ?_) (fun hne => absurd rfl hne)
  exact kk Sx' Sm' hp
set_option maxRecDepth 100000 in
set_option maxHeartbeats 4000000 in
theorem lawc_38 {X : Mx} {D : va_G} {ids : Nat → ClassId} {n0 b L aL aG : Nat} {xs : Nat → Int32} {Q : State → Prop} {cs sl : Nat} {Sx Sm : St} {P : St → St → Prop} (hL : LawC X D ids n0 b L xs aL aG) (hcs : cs ≤ 600000 ∧ sl ≤ 7302250) (x3 : Int32) (hb : ∀ j : Int32, (0 ≤ j ∧ j ≤ 6) → ib (x3 + j) L) (hpp : ∃ (v : Int32) (Sx' Sm' : St), fX11_cells (xs (nt (x3 + 1))) (xs (nt (x3 + 2))) Sx = some (v, Sx') ∧ fX12_cells (xs (nt (x3 + 1))) (xs (nt (x3 + 2))) Sm = some (v, Sm') ∧ P Sx' Sm') (kk : ∀ Sx' Sm', P Sx' Sm' → Og X 4 Q (PsL X.2.2.2.2.1 D ids n0 Sx' Sm') cs sl 2132 [(0, .ref b), (1, .ref n0), (2, .ref (n0 + 79)), (3, .int x3)] []) : Og X 4 Q (PsL X.2.2.2.2.1 D ids n0 Sx Sm) cs sl 1523 [(0, .ref b), (1, .ref n0), (2, .ref (n0 + 79)), (3, .int x3)] [] := by
  obtain ⟨v, Sx', Sm', hx, hm, hp⟩ := hpp
  refine og_aload_n 1 hL.1 dL_law_1523 rfl rfl ?_
  refine og_aload_n 0 hL.1 dL_law_1524 rfl rfl ?_
  refine og_iload_n 3 hL.1 dL_law_1525 rfl rfl ?_
  refine og_iconst (v := 1) hL.1 dL_law_1526 (by decide) ?_
  refine og_iadd hL.1 dL_law_1527 ?_
  refine ol_sld hL (hb 1 (by decide)) dL_law_1528 ?_
  refine og_aload_n 0 hL.1 dL_law_1529 rfl rfl ?_
  refine og_iload_n 3 hL.1 dL_law_1530 rfl rfl ?_
  refine og_iconst (v := 2) hL.1 dL_law_1531 (by decide) ?_
  refine og_iadd hL.1 dL_law_1532 ?_
  refine ol_sld hL (hb 2 (by decide)) dL_law_1533 ?_
  refine ol_callX (q := (v, Sx')) (As := [.int (xs (nt (x3 + 1))), .int (xs (nt (x3 + 2)))]) (st := []) (fun n1 => .ref (n1 + 0) :: [.int (xs (nt (x3 + 1))), .int (xs (nt (x3 + 2)))]) hL VS_L_174 sX_0 rfl rfl rfl ⟨by decide, by decide⟩ (Nat.le_of_ble_eq_true rfl) (tX11_cells (xs (nt (x3 + 1))) (xs (nt (x3 + 2))) Sx _ hx) hcs dL_law_1534 ?_
  show Og X 4 Q (PsL X.2.2.2.2.1 D ids n0 Sx' Sm) cs sl 1537 [(0, .ref b), (1, .ref n0), (2, .ref (n0 + 79)), (3, .int x3)] [.int v]
  refine og_aload_n 2 hL.1 dL_law_1537 rfl rfl ?_
  refine og_aload_n 0 hL.1 dL_law_1538 rfl rfl ?_
  refine og_iload_n 3 hL.1 dL_law_1539 rfl rfl ?_
  refine og_iconst (v := 1) hL.1 dL_law_1540 (by decide) ?_
  refine og_iadd hL.1 dL_law_1541 ?_
  refine ol_sld hL (hb 1 (by decide)) dL_law_1542 ?_
  refine og_aload_n 0 hL.1 dL_law_1543 rfl rfl ?_
  refine og_iload_n 3 hL.1 dL_law_1544 rfl rfl ?_
  refine og_iconst (v := 2) hL.1 dL_law_1545 (by decide) ?_
  refine og_iadd hL.1 dL_law_1546 ?_
  refine ol_sld hL (hb 2 (by decide)) dL_law_1547 ?_
  refine ol_callM (q := (v, Sm')) (As := [.int (xs (nt (x3 + 1))), .int (xs (nt (x3 + 2)))]) (st := [.int v]) (fun n1 => .ref (n1 + 0) :: [.int (xs (nt (x3 + 1))), .int (xs (nt (x3 + 2)))]) hL VS_L_177 sM_0 rfl rfl rfl ⟨by decide, by decide⟩ (Nat.le_of_ble_eq_true rfl) (tX12_cells (xs (nt (x3 + 1))) (xs (nt (x3 + 2))) Sm _ hm) hcs dL_law_1548 ?_
  show Og X 4 Q (PsL X.2.2.2.2.1 D ids n0 Sx' Sm') cs sl 1551 [(0, .ref b), (1, .ref n0), (2, .ref (n0 + 79)), (3, .int x3)] [.int v, .int v]
  refine og_icmp_eq 2132 hL.1 dL_law_1551 (by decide) (fun _ => ?_) (fun hne => absurd rfl hne)
  exact kk Sx' Sm' hp
set_option maxRecDepth 100000 in
set_option maxHeartbeats 4000000 in
theorem lawc_39 {X : Mx} {D : va_G} {ids : Nat → ClassId} {n0 b L aL aG : Nat} {xs : Nat → Int32} {Q : State → Prop} {cs sl : Nat} {Sx Sm : St} {P : St → St → Prop} (hL : LawC X D ids n0 b L xs aL aG) (hcs : cs ≤ 600000 ∧ sl ≤ 7302250) (x3 : Int32) (hb : ∀ j : Int32, (0 ≤ j ∧ j ≤ 6) → ib (x3 + j) L) (hpp : ∃ (v : Int32) (Sx' Sm' : St), fX11_cell (xs (nt (x3 + 1))) (xs (nt (x3 + 2))) (xs (nt (x3 + 3))) Sx = some (v, Sx') ∧ fX12_cell (xs (nt (x3 + 1))) (xs (nt (x3 + 2))) (xs (nt (x3 + 3))) Sm = some (v, Sm') ∧ P Sx' Sm') (kk : ∀ Sx' Sm', P Sx' Sm' → Og X 4 Q (PsL X.2.2.2.2.1 D ids n0 Sx' Sm') cs sl 2132 [(0, .ref b), (1, .ref n0), (2, .ref (n0 + 79)), (3, .int x3)] []) : Og X 4 Q (PsL X.2.2.2.2.1 D ids n0 Sx Sm) cs sl 1556 [(0, .ref b), (1, .ref n0), (2, .ref (n0 + 79)), (3, .int x3)] [] := by
  obtain ⟨v, Sx', Sm', hx, hm, hp⟩ := hpp
  refine og_aload_n 1 hL.1 dL_law_1556 rfl rfl ?_
  refine og_aload_n 0 hL.1 dL_law_1557 rfl rfl ?_
  refine og_iload_n 3 hL.1 dL_law_1558 rfl rfl ?_
  refine og_iconst (v := 1) hL.1 dL_law_1559 (by decide) ?_
  refine og_iadd hL.1 dL_law_1560 ?_
  refine ol_sld hL (hb 1 (by decide)) dL_law_1561 ?_
  refine og_aload_n 0 hL.1 dL_law_1562 rfl rfl ?_
  refine og_iload_n 3 hL.1 dL_law_1563 rfl rfl ?_
  refine og_iconst (v := 2) hL.1 dL_law_1564 (by decide) ?_
  refine og_iadd hL.1 dL_law_1565 ?_
  refine ol_sld hL (hb 2 (by decide)) dL_law_1566 ?_
  refine og_aload_n 0 hL.1 dL_law_1567 rfl rfl ?_
  refine og_iload_n 3 hL.1 dL_law_1568 rfl rfl ?_
  refine og_iconst (v := 3) hL.1 dL_law_1569 (by decide) ?_
  refine og_iadd hL.1 dL_law_1570 ?_
  refine ol_sld hL (hb 3 (by decide)) dL_law_1571 ?_
  refine ol_callX (q := (v, Sx')) (As := [.int (xs (nt (x3 + 1))), .int (xs (nt (x3 + 2))), .int (xs (nt (x3 + 3)))]) (st := []) (fun n1 => .ref (n1 + 0) :: [.int (xs (nt (x3 + 1))), .int (xs (nt (x3 + 2))), .int (xs (nt (x3 + 3)))]) hL VS_L_178 sX_0 rfl rfl rfl ⟨by decide, by decide⟩ (Nat.le_of_ble_eq_true rfl) (tX11_cell (xs (nt (x3 + 1))) (xs (nt (x3 + 2))) (xs (nt (x3 + 3))) Sx _ hx) hcs dL_law_1572 ?_
  show Og X 4 Q (PsL X.2.2.2.2.1 D ids n0 Sx' Sm) cs sl 1575 [(0, .ref b), (1, .ref n0), (2, .ref (n0 + 79)), (3, .int x3)] [.int v]
  refine og_aload_n 2 hL.1 dL_law_1575 rfl rfl ?_
  refine og_aload_n 0 hL.1 dL_law_1576 rfl rfl ?_
  refine og_iload_n 3 hL.1 dL_law_1577 rfl rfl ?_
  refine og_iconst (v := 1) hL.1 dL_law_1578 (by decide) ?_
  refine og_iadd hL.1 dL_law_1579 ?_
  refine ol_sld hL (hb 1 (by decide)) dL_law_1580 ?_
  refine og_aload_n 0 hL.1 dL_law_1581 rfl rfl ?_
  refine og_iload_n 3 hL.1 dL_law_1582 rfl rfl ?_
  refine og_iconst (v := 2) hL.1 dL_law_1583 (by decide) ?_
  refine og_iadd hL.1 dL_law_1584 ?_
  refine ol_sld hL (hb 2 (by decide)) dL_law_1585 ?_
  refine og_aload_n 0 hL.1 dL_law_1586 rfl rfl ?_
  refine og_iload_n 3 hL.1 dL_law_1587 rfl rfl ?_
  refine og_iconst (v := 3) hL.1 dL_law_1588 (by decide) ?_
  refine og_iadd hL.1 dL_law_1589 ?_
  refine ol_sld hL (hb 3 (by decide)) dL_law_1590 ?_
  refine ol_callM (q := (v, Sm')) (As := [.int (xs (nt (x3 + 1))), .int (xs (nt (x3 + 2))), .int (xs (nt (x3 + 3)))]) (st := [.int v]) (fun n1 => .ref (n1 + 0) :: [.int (xs (nt (x3 + 1))), .int (xs (nt (x3 + 2))), .int (xs (nt (x3 + 3)))]) hL VS_L_181 sM_0 rfl rfl rfl ⟨by decide, by decide⟩ (Nat.le_of_ble_eq_true rfl) (tX12_cell (xs (nt (x3 + 1))) (xs (nt (x3 + 2))) (xs (nt (x3 + 3))) Sm _ hm) hcs dL_law_1591 ?_
  show Og X 4 Q (PsL X.2.2.2.2.1 D ids n0 Sx' Sm') cs sl 1594 [(0, .ref b), (1, .ref n0), (2, .ref (n0 + 79)), (3, .int x3)] [.int v, .int v]
  refine og_icmp_eq 2132 hL.1 dL_law_1594 (by decide) (fun _ => ?_) (fun hne => absurd rfl hne)
  exact kk Sx' Sm' hp
set_option maxRecDepth 100000 in
set_option maxHeartbeats 4000000 in
theorem lawc_40 {X : Mx} {D : va_G} {ids : Nat → ClassId} {n0 b L aL aG : Nat} {xs : Nat → Int32} {Q : State → Prop} {cs sl : Nat} {Sx Sm : St} {P : St → St → Prop} (hL : LawC X D ids n0 b L xs aL aG) (hcs : cs ≤ 600000 ∧ sl ≤ 7302250) (x3 : Int32) (hb : ∀ j : Int32, (0 ≤ j ∧ j ≤ 6) → ib (x3 + j) L) (hpp : ∃ (v : Int32) (Sx' Sm' : St), fX11_cheats (xs (nt (x3 + 1))) (xs (nt (x3 + 2))) (xs (nt (x3 + 3))) Sx = some (v, Sx') ∧ fX12_cheats (xs (nt (x3 + 1))) (xs (nt (x3 + 2))) (xs (nt (x3 + 3))) Sm = some (v, Sm') ∧ P Sx' Sm') (kk : ∀ Sx' Sm', P Sx' Sm' → Og X 4 Q (PsL X.2.2.2.2.1 D ids n0 Sx' Sm') cs sl 2132 [(0, .ref b), (1, .ref n0), (2, .ref (n0 + 79)), (3, .int x3)] []) : Og X 4 Q (PsL X.2.2.2.2.1 D ids n0 Sx Sm) cs sl 1599 [(0, .ref b), (1, .ref n0), (2, .ref (n0 + 79)), (3, .int x3)] [] := by
  obtain ⟨v, Sx', Sm', hx, hm, hp⟩ := hpp
  refine og_aload_n 1 hL.1 dL_law_1599 rfl rfl ?_
  refine og_aload_n 0 hL.1 dL_law_1600 rfl rfl ?_
  refine og_iload_n 3 hL.1 dL_law_1601 rfl rfl ?_
  refine og_iconst (v := 1) hL.1 dL_law_1602 (by decide) ?_
  refine og_iadd hL.1 dL_law_1603 ?_
  refine ol_sld hL (hb 1 (by decide)) dL_law_1604 ?_
  refine og_aload_n 0 hL.1 dL_law_1605 rfl rfl ?_
  refine og_iload_n 3 hL.1 dL_law_1606 rfl rfl ?_
  refine og_iconst (v := 2) hL.1 dL_law_1607 (by decide) ?_
  refine og_iadd hL.1 dL_law_1608 ?_
  refine ol_sld hL (hb 2 (by decide)) dL_law_1609 ?_
  refine og_aload_n 0 hL.1 dL_law_1610 rfl rfl ?_
  refine og_iload_n 3 hL.1 dL_law_1611 rfl rfl ?_
  refine og_iconst (v := 3) hL.1 dL_law_1612 (by decide) ?_
  refine og_iadd hL.1 dL_law_1613 ?_
  refine ol_sld hL (hb 3 (by decide)) dL_law_1614 ?_
  refine ol_callX (q := (v, Sx')) (As := [.int (xs (nt (x3 + 1))), .int (xs (nt (x3 + 2))), .int (xs (nt (x3 + 3)))]) (st := []) (fun n1 => .ref (n1 + 0) :: [.int (xs (nt (x3 + 1))), .int (xs (nt (x3 + 2))), .int (xs (nt (x3 + 3)))]) hL VS_L_182 sX_0 rfl rfl rfl ⟨by decide, by decide⟩ (Nat.le_of_ble_eq_true rfl) (tX11_cheats (xs (nt (x3 + 1))) (xs (nt (x3 + 2))) (xs (nt (x3 + 3))) Sx _ hx) hcs dL_law_1615 ?_
  show Og X 4 Q (PsL X.2.2.2.2.1 D ids n0 Sx' Sm) cs sl 1618 [(0, .ref b), (1, .ref n0), (2, .ref (n0 + 79)), (3, .int x3)] [.int v]
  refine og_aload_n 2 hL.1 dL_law_1618 rfl rfl ?_
  refine og_aload_n 0 hL.1 dL_law_1619 rfl rfl ?_
  refine og_iload_n 3 hL.1 dL_law_1620 rfl rfl ?_
  refine og_iconst (v := 1) hL.1 dL_law_1621 (by decide) ?_
  refine og_iadd hL.1 dL_law_1622 ?_
  refine ol_sld hL (hb 1 (by decide)) dL_law_1623 ?_
  refine og_aload_n 0 hL.1 dL_law_1624 rfl rfl ?_
  refine og_iload_n 3 hL.1 dL_law_1625 rfl rfl ?_
  refine og_iconst (v := 2) hL.1 dL_law_1626 (by decide) ?_
  refine og_iadd hL.1 dL_law_1627 ?_
  refine ol_sld hL (hb 2 (by decide)) dL_law_1628 ?_
  refine og_aload_n 0 hL.1 dL_law_1629 rfl rfl ?_
  refine og_iload_n 3 hL.1 dL_law_1630 rfl rfl ?_
  refine og_iconst (v := 3) hL.1 dL_law_1631 (by decide) ?_
  refine og_iadd hL.1 dL_law_1632 ?_
  refine ol_sld hL (hb 3 (by decide)) dL_law_1633 ?_
  refine ol_callM (q := (v, Sm')) (As := [.int (xs (nt (x3 + 1))), .int (xs (nt (x3 + 2))), .int (xs (nt (x3 + 3)))]) (st := [.int v]) (fun n1 => .ref (n1 + 0) :: [.int (xs (nt (x3 + 1))), .int (xs (nt (x3 + 2))), .int (xs (nt (x3 + 3)))]) hL VS_L_185 sM_0 rfl rfl rfl ⟨by decide, by decide⟩ (Nat.le_of_ble_eq_true rfl) (tX12_cheats (xs (nt (x3 + 1))) (xs (nt (x3 + 2))) (xs (nt (x3 + 3))) Sm _ hm) hcs dL_law_1634 ?_
  show Og X 4 Q (PsL X.2.2.2.2.1 D ids n0 Sx' Sm') cs sl 1637 [(0, .ref b), (1, .ref n0), (2, .ref (n0 + 79)), (3, .int x3)] [.int v, .int v]
  refine og_icmp_eq 2132 hL.1 dL_law_1637 (by decide) (fun _ => ?_) (fun hne => absurd rfl hne)
  exact kk Sx' Sm' hp
set_option maxRecDepth 100000 in
set_option maxHeartbeats 4000000 in
theorem lawc_41 {X : Mx} {D : va_G} {ids : Nat → ClassId} {n0 b L aL aG : Nat} {xs : Nat → Int32} {Q : State → Prop} {cs sl : Nat} {Sx Sm : St} {P : St → St → Prop} (hL : LawC X D ids n0 b L xs aL aG) (hcs : cs ≤ 600000 ∧ sl ≤ 7302250) (x3 : Int32) (hb : ∀ j : Int32, (0 ≤ j ∧ j ≤ 6) → ib (x3 + j) L) (hpp : ∃ (v : Int32) (Sx' Sm' : St), fX11_site (xs (nt (x3 + 1))) (xs (nt (x3 + 2))) (xs (nt (x3 + 3))) (xs (nt (x3 + 4))) (xs (nt (x3 + 5))) (xs (nt (x3 + 6))) Sx = some (v, Sx') ∧ fX12_site (xs (nt (x3 + 1))) (xs (nt (x3 + 2))) (xs (nt (x3 + 3))) (xs (nt (x3 + 4))) (xs (nt (x3 + 5))) (xs (nt (x3 + 6))) Sm = some (v, Sm') ∧ P Sx' Sm') (kk : ∀ Sx' Sm', P Sx' Sm' → Og X 4 Q (PsL X.2.2.2.2.1 D ids n0 Sx' Sm') cs sl 2132 [(0, .ref b), (1, .ref n0), (2, .ref (n0 + 79)), (3, .int x3)] []) : Og X 4 Q (PsL X.2.2.2.2.1 D ids n0 Sx Sm) cs sl 1642 [(0, .ref b), (1, .ref n0), (2, .ref (n0 + 79)), (3, .int x3)] [] := by
  obtain ⟨v, Sx', Sm', hx, hm, hp⟩ := hpp
  refine og_aload_n 1 hL.1 dL_law_1642 rfl rfl ?_
  refine og_aload_n 0 hL.1 dL_law_1643 rfl rfl ?_
  refine og_iload_n 3 hL.1 dL_law_1644 rfl rfl ?_
  refine og_iconst (v := 1) hL.1 dL_law_1645 (by decide) ?_
  refine og_iadd hL.1 dL_law_1646 ?_
  refine ol_sld hL (hb 1 (by decide)) dL_law_1647 ?_
  refine og_aload_n 0 hL.1 dL_law_1648 rfl rfl ?_
  refine og_iload_n 3 hL.1 dL_law_1649 rfl rfl ?_
  refine og_iconst (v := 2) hL.1 dL_law_1650 (by decide) ?_
  refine og_iadd hL.1 dL_law_1651 ?_
  refine ol_sld hL (hb 2 (by decide)) dL_law_1652 ?_
  refine og_aload_n 0 hL.1 dL_law_1653 rfl rfl ?_
  refine og_iload_n 3 hL.1 dL_law_1654 rfl rfl ?_
  refine og_iconst (v := 3) hL.1 dL_law_1655 (by decide) ?_
  refine og_iadd hL.1 dL_law_1656 ?_
  refine ol_sld hL (hb 3 (by decide)) dL_law_1657 ?_
  refine og_aload_n 0 hL.1 dL_law_1658 rfl rfl ?_
  refine og_iload_n 3 hL.1 dL_law_1659 rfl rfl ?_
  refine og_iconst (v := 4) hL.1 dL_law_1660 (by decide) ?_
  refine og_iadd hL.1 dL_law_1661 ?_
  refine ol_sld hL (hb 4 (by decide)) dL_law_1662 ?_
  refine og_aload_n 0 hL.1 dL_law_1663 rfl rfl ?_
  refine og_iload_n 3 hL.1 dL_law_1664 rfl rfl ?_
  refine og_iconst (v := 5) hL.1 dL_law_1665 (by decide) ?_
  refine og_iadd hL.1 dL_law_1666 ?_
  refine ol_sld hL (hb 5 (by decide)) dL_law_1667 ?_
  refine og_aload_n 0 hL.1 dL_law_1668 rfl rfl ?_
  refine og_iload_n 3 hL.1 dL_law_1669 rfl rfl ?_
  refine og_bipush (v := 6) hL.1 dL_law_1670 (by decide) ?_
  refine og_iadd hL.1 dL_law_1672 ?_
  refine ol_sld hL (hb 6 (by decide)) dL_law_1673 ?_
  refine ol_callX (q := (v, Sx')) (As := [.int (xs (nt (x3 + 1))), .int (xs (nt (x3 + 2))), .int (xs (nt (x3 + 3))), .int (xs (nt (x3 + 4))), .int (xs (nt (x3 + 5))), .int (xs (nt (x3 + 6)))]) (st := []) (fun n1 => .ref (n1 + 0) :: [.int (xs (nt (x3 + 1))), .int (xs (nt (x3 + 2))), .int (xs (nt (x3 + 3))), .int (xs (nt (x3 + 4))), .int (xs (nt (x3 + 5))), .int (xs (nt (x3 + 6)))]) hL VS_L_186 sX_0 rfl rfl rfl ⟨by decide, by decide⟩ (Nat.le_of_ble_eq_true rfl) (tX11_site (xs (nt (x3 + 1))) (xs (nt (x3 + 2))) (xs (nt (x3 + 3))) (xs (nt (x3 + 4))) (xs (nt (x3 + 5))) (xs (nt (x3 + 6))) Sx _ hx) hcs dL_law_1674 ?_
  show Og X 4 Q (PsL X.2.2.2.2.1 D ids n0 Sx' Sm) cs sl 1677 [(0, .ref b), (1, .ref n0), (2, .ref (n0 + 79)), (3, .int x3)] [.int v]
  refine og_aload_n 2 hL.1 dL_law_1677 rfl rfl ?_
  refine og_aload_n 0 hL.1 dL_law_1678 rfl rfl ?_
  refine og_iload_n 3 hL.1 dL_law_1679 rfl rfl ?_
  refine og_iconst (v := 1) hL.1 dL_law_1680 (by decide) ?_
  refine og_iadd hL.1 dL_law_1681 ?_
  refine ol_sld hL (hb 1 (by decide)) dL_law_1682 ?_
  refine og_aload_n 0 hL.1 dL_law_1683 rfl rfl ?_
  refine og_iload_n 3 hL.1 dL_law_1684 rfl rfl ?_
  refine og_iconst (v := 2) hL.1 dL_law_1685 (by decide) ?_
  refine og_iadd hL.1 dL_law_1686 ?_
  refine ol_sld hL (hb 2 (by decide)) dL_law_1687 ?_
  refine og_aload_n 0 hL.1 dL_law_1688 rfl rfl ?_
  refine og_iload_n 3 hL.1 dL_law_1689 rfl rfl ?_
  refine og_iconst (v := 3) hL.1 dL_law_1690 (by decide) ?_
  refine og_iadd hL.1 dL_law_1691 ?_
  refine ol_sld hL (hb 3 (by decide)) dL_law_1692 ?_
  refine og_aload_n 0 hL.1 dL_law_1693 rfl rfl ?_
  refine og_iload_n 3 hL.1 dL_law_1694 rfl rfl ?_
  refine og_iconst (v := 4) hL.1 dL_law_1695 (by decide) ?_
  refine og_iadd hL.1 dL_law_1696 ?_
  refine ol_sld hL (hb 4 (by decide)) dL_law_1697 ?_
  refine og_aload_n 0 hL.1 dL_law_1698 rfl rfl ?_
  refine og_iload_n 3 hL.1 dL_law_1699 rfl rfl ?_
  refine og_iconst (v := 5) hL.1 dL_law_1700 (by decide) ?_
  refine og_iadd hL.1 dL_law_1701 ?_
  refine ol_sld hL (hb 5 (by decide)) dL_law_1702 ?_
  refine og_aload_n 0 hL.1 dL_law_1703 rfl rfl ?_
  refine og_iload_n 3 hL.1 dL_law_1704 rfl rfl ?_
  refine og_bipush (v := 6) hL.1 dL_law_1705 (by decide) ?_
  refine og_iadd hL.1 dL_law_1707 ?_
  refine ol_sld hL (hb 6 (by decide)) dL_law_1708 ?_
  refine ol_callM (q := (v, Sm')) (As := [.int (xs (nt (x3 + 1))), .int (xs (nt (x3 + 2))), .int (xs (nt (x3 + 3))), .int (xs (nt (x3 + 4))), .int (xs (nt (x3 + 5))), .int (xs (nt (x3 + 6)))]) (st := [.int v]) (fun n1 => .ref (n1 + 0) :: [.int (xs (nt (x3 + 1))), .int (xs (nt (x3 + 2))), .int (xs (nt (x3 + 3))), .int (xs (nt (x3 + 4))), .int (xs (nt (x3 + 5))), .int (xs (nt (x3 + 6)))]) hL VS_L_189 sM_0 rfl rfl rfl ⟨by decide, by decide⟩ (Nat.le_of_ble_eq_true rfl) (tX12_site (xs (nt (x3 + 1))) (xs (nt (x3 + 2))) (xs (nt (x3 + 3))) (xs (nt (x3 + 4))) (xs (nt (x3 + 5))) (xs (nt (x3 + 6))) Sm _ hm) hcs dL_law_1709 ?_
  show Og X 4 Q (PsL X.2.2.2.2.1 D ids n0 Sx' Sm') cs sl 1712 [(0, .ref b), (1, .ref n0), (2, .ref (n0 + 79)), (3, .int x3)] [.int v, .int v]
  refine og_icmp_eq 2132 hL.1 dL_law_1712 (by decide) (fun _ => ?_) (fun hne => absurd rfl hne)
  exact kk Sx' Sm' hp
set_option maxRecDepth 100000 in
set_option maxHeartbeats 4000000 in
theorem lawc_42 {X : Mx} {D : va_G} {ids : Nat → ClassId} {n0 b L aL aG : Nat} {xs : Nat → Int32} {Q : State → Prop} {cs sl : Nat} {Sx Sm : St} {P : St → St → Prop} (hL : LawC X D ids n0 b L xs aL aG) (hcs : cs ≤ 600000 ∧ sl ≤ 7302250) (x3 : Int32) (hb : ∀ j : Int32, (0 ≤ j ∧ j ≤ 6) → ib (x3 + j) L) (hpp : ∃ (v : Int32) (Sx' Sm' : St), fX11_ear (xs (nt (x3 + 1))) (xs (nt (x3 + 2))) Sx = some (v, Sx') ∧ fX12_ear (xs (nt (x3 + 1))) (xs (nt (x3 + 2))) Sm = some (v, Sm') ∧ P Sx' Sm') (kk : ∀ Sx' Sm', P Sx' Sm' → Og X 4 Q (PsL X.2.2.2.2.1 D ids n0 Sx' Sm') cs sl 2132 [(0, .ref b), (1, .ref n0), (2, .ref (n0 + 79)), (3, .int x3)] []) : Og X 4 Q (PsL X.2.2.2.2.1 D ids n0 Sx Sm) cs sl 1717 [(0, .ref b), (1, .ref n0), (2, .ref (n0 + 79)), (3, .int x3)] [] := by
  obtain ⟨v, Sx', Sm', hx, hm, hp⟩ := hpp
  refine og_aload_n 1 hL.1 dL_law_1717 rfl rfl ?_
  refine og_aload_n 0 hL.1 dL_law_1718 rfl rfl ?_
  refine og_iload_n 3 hL.1 dL_law_1719 rfl rfl ?_
  refine og_iconst (v := 1) hL.1 dL_law_1720 (by decide) ?_
  refine og_iadd hL.1 dL_law_1721 ?_
  refine ol_sld hL (hb 1 (by decide)) dL_law_1722 ?_
  refine og_aload_n 0 hL.1 dL_law_1723 rfl rfl ?_
  refine og_iload_n 3 hL.1 dL_law_1724 rfl rfl ?_
  refine og_iconst (v := 2) hL.1 dL_law_1725 (by decide) ?_
  refine og_iadd hL.1 dL_law_1726 ?_
  refine ol_sld hL (hb 2 (by decide)) dL_law_1727 ?_
  refine ol_callX (q := (v, Sx')) (As := [.int (xs (nt (x3 + 1))), .int (xs (nt (x3 + 2)))]) (st := []) (fun n1 => .ref (n1 + 0) :: [.int (xs (nt (x3 + 1))), .int (xs (nt (x3 + 2)))]) hL VS_L_190 sX_0 rfl rfl rfl ⟨by decide, by decide⟩ (Nat.le_of_ble_eq_true rfl) (tX11_ear (xs (nt (x3 + 1))) (xs (nt (x3 + 2))) Sx _ hx) hcs dL_law_1728 ?_
  show Og X 4 Q (PsL X.2.2.2.2.1 D ids n0 Sx' Sm) cs sl 1731 [(0, .ref b), (1, .ref n0), (2, .ref (n0 + 79)), (3, .int x3)] [.int v]
  refine og_aload_n 2 hL.1 dL_law_1731 rfl rfl ?_
  refine og_aload_n 0 hL.1 dL_law_1732 rfl rfl ?_
  refine og_iload_n 3 hL.1 dL_law_1733 rfl rfl ?_
  refine og_iconst (v := 1) hL.1 dL_law_1734 (by decide) ?_
  refine og_iadd hL.1 dL_law_1735 ?_
  refine ol_sld hL (hb 1 (by decide)) dL_law_1736 ?_
  refine og_aload_n 0 hL.1 dL_law_1737 rfl rfl ?_
  refine og_iload_n 3 hL.1 dL_law_1738 rfl rfl ?_
  refine og_iconst (v := 2) hL.1 dL_law_1739 (by decide) ?_
  refine og_iadd hL.1 dL_law_1740 ?_
  refine ol_sld hL (hb 2 (by decide)) dL_law_1741 ?_
  refine ol_callM (q := (v, Sm')) (As := [.int (xs (nt (x3 + 1))), .int (xs (nt (x3 + 2)))]) (st := [.int v]) (fun n1 => .ref (n1 + 0) :: [.int (xs (nt (x3 + 1))), .int (xs (nt (x3 + 2)))]) hL VS_L_193 sM_0 rfl rfl rfl ⟨by decide, by decide⟩ (Nat.le_of_ble_eq_true rfl) (tX12_ear (xs (nt (x3 + 1))) (xs (nt (x3 + 2))) Sm _ hm) hcs dL_law_1742 ?_
  show Og X 4 Q (PsL X.2.2.2.2.1 D ids n0 Sx' Sm') cs sl 1745 [(0, .ref b), (1, .ref n0), (2, .ref (n0 + 79)), (3, .int x3)] [.int v, .int v]
  refine og_icmp_eq 2132 hL.1 dL_law_1745 (by decide) (fun _ => ?_) (fun hne => absurd rfl hne)
  exact kk Sx' Sm' hp
set_option maxRecDepth 100000 in
set_option maxHeartbeats 4000000 in
theorem lawc_43 {X : Mx} {D : va_G} {ids : Nat → ClassId} {n0 b L aL aG : Nat} {xs : Nat → Int32} {Q : State → Prop} {cs sl : Nat} {Sx Sm : St} {P : St → St → Prop} (hL : LawC X D ids n0 b L xs aL aG) (hcs : cs ≤ 600000 ∧ sl ≤ 7302250) (x3 : Int32) (hb : ∀ j : Int32, (0 ≤ j ∧ j ≤ 6) → ib (x3 + j) L) (hpp : ∃ (v : Int32) (Sx' Sm' : St), fX11_serves (xs (nt (x3 + 1))) Sx = some (v, Sx') ∧ fX12_serves (xs (nt (x3 + 1))) Sm = some (v, Sm') ∧ P Sx' Sm') (kk : ∀ Sx' Sm', P Sx' Sm' → Og X 4 Q (PsL X.2.2.2.2.1 D ids n0 Sx' Sm') cs sl 2132 [(0, .ref b), (1, .ref n0), (2, .ref (n0 + 79)), (3, .int x3)] []) : Og X 4 Q (PsL X.2.2.2.2.1 D ids n0 Sx Sm) cs sl 1750 [(0, .ref b), (1, .ref n0), (2, .ref (n0 + 79)), (3, .int x3)] [] := by
  obtain ⟨v, Sx', Sm', hx, hm, hp⟩ := hpp
  refine og_aload_n 1 hL.1 dL_law_1750 rfl rfl ?_
  refine og_aload_n 0 hL.1 dL_law_1751 rfl rfl ?_
  refine og_iload_n 3 hL.1 dL_law_1752 rfl rfl ?_
  refine og_iconst (v := 1) hL.1 dL_law_1753 (by decide) ?_
  refine og_iadd hL.1 dL_law_1754 ?_
  refine ol_sld hL (hb 1 (by decide)) dL_law_1755 ?_
  refine ol_callX (q := (v, Sx')) (As := [.int (xs (nt (x3 + 1)))]) (st := []) (fun n1 => .ref (n1 + 0) :: [.int (xs (nt (x3 + 1)))]) hL VS_L_194 sX_0 rfl rfl rfl ⟨by decide, by decide⟩ (Nat.le_of_ble_eq_true rfl) (tX11_serves (xs (nt (x3 + 1))) Sx _ hx) hcs dL_law_1756 ?_
  show Og X 4 Q (PsL X.2.2.2.2.1 D ids n0 Sx' Sm) cs sl 1759 [(0, .ref b), (1, .ref n0), (2, .ref (n0 + 79)), (3, .int x3)] [.int v]
  refine og_aload_n 2 hL.1 dL_law_1759 rfl rfl ?_
  refine og_aload_n 0 hL.1 dL_law_1760 rfl rfl ?_
  refine og_iload_n 3 hL.1 dL_law_1761 rfl rfl ?_
  refine og_iconst (v := 1) hL.1 dL_law_1762 (by decide) ?_
  refine og_iadd hL.1 dL_law_1763 ?_
  refine ol_sld hL (hb 1 (by decide)) dL_law_1764 ?_
  refine ol_callM (q := (v, Sm')) (As := [.int (xs (nt (x3 + 1)))]) (st := [.int v]) (fun n1 => .ref (n1 + 0) :: [.int (xs (nt (x3 + 1)))]) hL VS_L_197 sM_0 rfl rfl rfl ⟨by decide, by decide⟩ (Nat.le_of_ble_eq_true rfl) (tX12_serves (xs (nt (x3 + 1))) Sm _ hm) hcs dL_law_1765 ?_
  show Og X 4 Q (PsL X.2.2.2.2.1 D ids n0 Sx' Sm') cs sl 1768 [(0, .ref b), (1, .ref n0), (2, .ref (n0 + 79)), (3, .int x3)] [.int v, .int v]
  refine og_icmp_eq 2132 hL.1 dL_law_1768 (by decide) (fun _ => ?_) (fun hne => absurd rfl hne)
  exact kk Sx' Sm' hp
set_option maxRecDepth 100000 in
set_option maxHeartbeats 4000000 in
theorem lawc_44 {X : Mx} {D : va_G} {ids : Nat → ClassId} {n0 b L aL aG : Nat} {xs : Nat → Int32} {Q : State → Prop} {cs sl : Nat} {Sx Sm : St} {P : St → St → Prop} (hL : LawC X D ids n0 b L xs aL aG) (hcs : cs ≤ 600000 ∧ sl ≤ 7302250) (x3 : Int32) (hb : ∀ j : Int32, (0 ≤ j ∧ j ≤ 6) → ib (x3 + j) L) (hpp : ∃ (v : Int32) (Sx' Sm' : St), fX11_plan (xs (nt (x3 + 1))) (xs (nt (x3 + 2))) Sx = some (v, Sx') ∧ fX12_plan (xs (nt (x3 + 1))) (xs (nt (x3 + 2))) Sm = some (v, Sm') ∧ P Sx' Sm') (kk : ∀ Sx' Sm', P Sx' Sm' → Og X 4 Q (PsL X.2.2.2.2.1 D ids n0 Sx' Sm') cs sl 2132 [(0, .ref b), (1, .ref n0), (2, .ref (n0 + 79)), (3, .int x3)] []) : Og X 4 Q (PsL X.2.2.2.2.1 D ids n0 Sx Sm) cs sl 1773 [(0, .ref b), (1, .ref n0), (2, .ref (n0 + 79)), (3, .int x3)] [] := by
  obtain ⟨v, Sx', Sm', hx, hm, hp⟩ := hpp
  refine og_aload_n 1 hL.1 dL_law_1773 rfl rfl ?_
  refine og_aload_n 0 hL.1 dL_law_1774 rfl rfl ?_
  refine og_iload_n 3 hL.1 dL_law_1775 rfl rfl ?_
  refine og_iconst (v := 1) hL.1 dL_law_1776 (by decide) ?_
  refine og_iadd hL.1 dL_law_1777 ?_
  refine ol_sld hL (hb 1 (by decide)) dL_law_1778 ?_
  refine og_aload_n 0 hL.1 dL_law_1779 rfl rfl ?_
  refine og_iload_n 3 hL.1 dL_law_1780 rfl rfl ?_
  refine og_iconst (v := 2) hL.1 dL_law_1781 (by decide) ?_
  refine og_iadd hL.1 dL_law_1782 ?_
  refine ol_sld hL (hb 2 (by decide)) dL_law_1783 ?_
  refine ol_callX (q := (v, Sx')) (As := [.int (xs (nt (x3 + 1))), .int (xs (nt (x3 + 2)))]) (st := []) (fun n1 => .ref (n1 + 0) :: [.int (xs (nt (x3 + 1))), .int (xs (nt (x3 + 2)))]) hL VS_L_198 sX_0 rfl rfl rfl ⟨by decide, by decide⟩ (Nat.le_of_ble_eq_true rfl) (tX11_plan (xs (nt (x3 + 1))) (xs (nt (x3 + 2))) Sx _ hx) hcs dL_law_1784 ?_
  show Og X 4 Q (PsL X.2.2.2.2.1 D ids n0 Sx' Sm) cs sl 1787 [(0, .ref b), (1, .ref n0), (2, .ref (n0 + 79)), (3, .int x3)] [.int v]
  refine og_aload_n 2 hL.1 dL_law_1787 rfl rfl ?_
  refine og_aload_n 0 hL.1 dL_law_1788 rfl rfl ?_
  refine og_iload_n 3 hL.1 dL_law_1789 rfl rfl ?_
  refine og_iconst (v := 1) hL.1 dL_law_1790 (by decide) ?_
  refine og_iadd hL.1 dL_law_1791 ?_
  refine ol_sld hL (hb 1 (by decide)) dL_law_1792 ?_
  refine og_aload_n 0 hL.1 dL_law_1793 rfl rfl ?_
  refine og_iload_n 3 hL.1 dL_law_1794 rfl rfl ?_
  refine og_iconst (v := 2) hL.1 dL_law_1795 (by decide) ?_
  refine og_iadd hL.1 dL_law_1796 ?_
  refine ol_sld hL (hb 2 (by decide)) dL_law_1797 ?_
  refine ol_callM (q := (v, Sm')) (As := [.int (xs (nt (x3 + 1))), .int (xs (nt (x3 + 2)))]) (st := [.int v]) (fun n1 => .ref (n1 + 0) :: [.int (xs (nt (x3 + 1))), .int (xs (nt (x3 + 2)))]) hL VS_L_201 sM_0 rfl rfl rfl ⟨by decide, by decide⟩ (Nat.le_of_ble_eq_true rfl) (tX12_plan (xs (nt (x3 + 1))) (xs (nt (x3 + 2))) Sm _ hm) hcs dL_law_1798 ?_
  show Og X 4 Q (PsL X.2.2.2.2.1 D ids n0 Sx' Sm') cs sl 1801 [(0, .ref b), (1, .ref n0), (2, .ref (n0 + 79)), (3, .int x3)] [.int v, .int v]
  refine og_icmp_eq 2132 hL.1 dL_law_1801 (by decide) (fun _ => ?_) (fun hne => absurd rfl hne)
  exact kk Sx' Sm' hp
set_option maxRecDepth 100000 in
set_option maxHeartbeats 4000000 in
theorem lawc_45 {X : Mx} {D : va_G} {ids : Nat → ClassId} {n0 b L aL aG : Nat} {xs : Nat → Int32} {Q : State → Prop} {cs sl : Nat} {Sx Sm : St} {P : St → St → Prop} (hL : LawC X D ids n0 b L xs aL aG) (hcs : cs ≤ 600000 ∧ sl ≤ 7302250) (x3 : Int32) (hb : ∀ j : Int32, (0 ≤ j ∧ j ≤ 6) → ib (x3 + j) L) (hpp : ∃ (v : Int32) (Sx' Sm' : St), fX11_sheet (xs (nt (x3 + 1))) (xs (nt (x3 + 2))) (xs (nt (x3 + 3))) Sx = some (v, Sx') ∧ fX12_sheet (xs (nt (x3 + 1))) (xs (nt (x3 + 2))) (xs (nt (x3 + 3))) Sm = some (v, Sm') ∧ P Sx' Sm') (kk : ∀ Sx' Sm', P Sx' Sm' → Og X 4 Q (PsL X.2.2.2.2.1 D ids n0 Sx' Sm') cs sl 2132 [(0, .ref b), (1, .ref n0), (2, .ref (n0 + 79)), (3, .int x3)] []) : Og X 4 Q (PsL X.2.2.2.2.1 D ids n0 Sx Sm) cs sl 1806 [(0, .ref b), (1, .ref n0), (2, .ref (n0 + 79)), (3, .int x3)] [] := by
  obtain ⟨v, Sx', Sm', hx, hm, hp⟩ := hpp
  refine og_aload_n 1 hL.1 dL_law_1806 rfl rfl ?_
  refine og_aload_n 0 hL.1 dL_law_1807 rfl rfl ?_
  refine og_iload_n 3 hL.1 dL_law_1808 rfl rfl ?_
  refine og_iconst (v := 1) hL.1 dL_law_1809 (by decide) ?_
  refine og_iadd hL.1 dL_law_1810 ?_
  refine ol_sld hL (hb 1 (by decide)) dL_law_1811 ?_
  refine og_aload_n 0 hL.1 dL_law_1812 rfl rfl ?_
  refine og_iload_n 3 hL.1 dL_law_1813 rfl rfl ?_
  refine og_iconst (v := 2) hL.1 dL_law_1814 (by decide) ?_
  refine og_iadd hL.1 dL_law_1815 ?_
  refine ol_sld hL (hb 2 (by decide)) dL_law_1816 ?_
  refine og_aload_n 0 hL.1 dL_law_1817 rfl rfl ?_
  refine og_iload_n 3 hL.1 dL_law_1818 rfl rfl ?_
  refine og_iconst (v := 3) hL.1 dL_law_1819 (by decide) ?_
  refine og_iadd hL.1 dL_law_1820 ?_
  refine ol_sld hL (hb 3 (by decide)) dL_law_1821 ?_
  refine ol_callX (q := (v, Sx')) (As := [.int (xs (nt (x3 + 1))), .int (xs (nt (x3 + 2))), .int (xs (nt (x3 + 3)))]) (st := []) (fun n1 => .ref (n1 + 0) :: [.int (xs (nt (x3 + 1))), .int (xs (nt (x3 + 2))), .int (xs (nt (x3 + 3)))]) hL VS_L_202 sX_0 rfl rfl rfl ⟨by decide, by decide⟩ (Nat.le_of_ble_eq_true rfl) (tX11_sheet (xs (nt (x3 + 1))) (xs (nt (x3 + 2))) (xs (nt (x3 + 3))) Sx _ hx) hcs dL_law_1822 ?_
  show Og X 4 Q (PsL X.2.2.2.2.1 D ids n0 Sx' Sm) cs sl 1825 [(0, .ref b), (1, .ref n0), (2, .ref (n0 + 79)), (3, .int x3)] [.int v]
  refine og_aload_n 2 hL.1 dL_law_1825 rfl rfl ?_
  refine og_aload_n 0 hL.1 dL_law_1826 rfl rfl ?_
  refine og_iload_n 3 hL.1 dL_law_1827 rfl rfl ?_
  refine og_iconst (v := 1) hL.1 dL_law_1828 (by decide) ?_
  refine og_iadd hL.1 dL_law_1829 ?_
  refine ol_sld hL (hb 1 (by decide)) dL_law_1830 ?_
  refine og_aload_n 0 hL.1 dL_law_1831 rfl rfl ?_
  refine og_iload_n 3 hL.1 dL_law_1832 rfl rfl ?_
  refine og_iconst (v := 2) hL.1 dL_law_1833 (by decide) ?_
  refine og_iadd hL.1 dL_law_1834 ?_
  refine ol_sld hL (hb 2 (by decide)) dL_law_1835 ?_
  refine og_aload_n 0 hL.1 dL_law_1836 rfl rfl ?_
  refine og_iload_n 3 hL.1 dL_law_1837 rfl rfl ?_
  refine og_iconst (v := 3) hL.1 dL_law_1838 (by decide) ?_
  refine og_iadd hL.1 dL_law_1839 ?_
  refine ol_sld hL (hb 3 (by decide)) dL_law_1840 ?_
  refine ol_callM (q := (v, Sm')) (As := [.int (xs (nt (x3 + 1))), .int (xs (nt (x3 + 2))), .int (xs (nt (x3 + 3)))]) (st := [.int v]) (fun n1 => .ref (n1 + 0) :: [.int (xs (nt (x3 + 1))), .int (xs (nt (x3 + 2))), .int (xs (nt (x3 + 3)))]) hL VS_L_205 sM_0 rfl rfl rfl ⟨by decide, by decide⟩ (Nat.le_of_ble_eq_true rfl) (tX12_sheet (xs (nt (x3 + 1))) (xs (nt (x3 + 2))) (xs (nt (x3 + 3))) Sm _ hm) hcs dL_law_1841 ?_
  show Og X 4 Q (PsL X.2.2.2.2.1 D ids n0 Sx' Sm') cs sl 1844 [(0, .ref b), (1, .ref n0), (2, .ref (n0 + 79)), (3, .int x3)] [.int v, .int v]
  refine og_icmp_eq 2132 hL.1 dL_law_1844 (by decide) (fun _ => ?_) (fun hne => absurd rfl hne)
  exact kk Sx' Sm' hp
set_option maxRecDepth 100000 in
set_option maxHeartbeats 4000000 in
theorem lawc_46 {X : Mx} {D : va_G} {ids : Nat → ClassId} {n0 b L aL aG : Nat} {xs : Nat → Int32} {Q : State → Prop} {cs sl : Nat} {Sx Sm : St} {P : St → St → Prop} (hL : LawC X D ids n0 b L xs aL aG) (hcs : cs ≤ 600000 ∧ sl ≤ 7302250) (x3 : Int32) (hb : ∀ j : Int32, (0 ≤ j ∧ j ≤ 6) → ib (x3 + j) L) (hpp : ∃ (v : Int32) (Sx' Sm' : St), fX11_lose (xs (nt (x3 + 1))) Sx = some (v, Sx') ∧ fX12_lose (xs (nt (x3 + 1))) Sm = some (v, Sm') ∧ P Sx' Sm') (kk : ∀ Sx' Sm', P Sx' Sm' → Og X 4 Q (PsL X.2.2.2.2.1 D ids n0 Sx' Sm') cs sl 2132 [(0, .ref b), (1, .ref n0), (2, .ref (n0 + 79)), (3, .int x3)] []) : Og X 4 Q (PsL X.2.2.2.2.1 D ids n0 Sx Sm) cs sl 1849 [(0, .ref b), (1, .ref n0), (2, .ref (n0 + 79)), (3, .int x3)] [] := by
  obtain ⟨v, Sx', Sm', hx, hm, hp⟩ := hpp
  refine og_aload_n 1 hL.1 dL_law_1849 rfl rfl ?_
  refine og_aload_n 0 hL.1 dL_law_1850 rfl rfl ?_
  refine og_iload_n 3 hL.1 dL_law_1851 rfl rfl ?_
  refine og_iconst (v := 1) hL.1 dL_law_1852 (by decide) ?_
  refine og_iadd hL.1 dL_law_1853 ?_
  refine ol_sld hL (hb 1 (by decide)) dL_law_1854 ?_
  refine ol_callX (q := (v, Sx')) (As := [.int (xs (nt (x3 + 1)))]) (st := []) (fun n1 => .ref (n1 + 0) :: [.int (xs (nt (x3 + 1)))]) hL VS_L_206 sX_0 rfl rfl rfl ⟨by decide, by decide⟩ (Nat.le_of_ble_eq_true rfl) (tX11_lose (xs (nt (x3 + 1))) Sx _ hx) hcs dL_law_1855 ?_
  show Og X 4 Q (PsL X.2.2.2.2.1 D ids n0 Sx' Sm) cs sl 1858 [(0, .ref b), (1, .ref n0), (2, .ref (n0 + 79)), (3, .int x3)] [.int v]
  refine og_aload_n 2 hL.1 dL_law_1858 rfl rfl ?_
  refine og_aload_n 0 hL.1 dL_law_1859 rfl rfl ?_
  refine og_iload_n 3 hL.1 dL_law_1860 rfl rfl ?_
  refine og_iconst (v := 1) hL.1 dL_law_1861 (by decide) ?_
  refine og_iadd hL.1 dL_law_1862 ?_
  refine ol_sld hL (hb 1 (by decide)) dL_law_1863 ?_
  refine ol_callM (q := (v, Sm')) (As := [.int (xs (nt (x3 + 1)))]) (st := [.int v]) (fun n1 => .ref (n1 + 0) :: [.int (xs (nt (x3 + 1)))]) hL VS_L_209 sM_0 rfl rfl rfl ⟨by decide, by decide⟩ (Nat.le_of_ble_eq_true rfl) (tX12_lose (xs (nt (x3 + 1))) Sm _ hm) hcs dL_law_1864 ?_
  show Og X 4 Q (PsL X.2.2.2.2.1 D ids n0 Sx' Sm') cs sl 1867 [(0, .ref b), (1, .ref n0), (2, .ref (n0 + 79)), (3, .int x3)] [.int v, .int v]
  refine og_icmp_eq 2132 hL.1 dL_law_1867 (by decide) (fun _ => ?_) (fun hne => absurd rfl hne)
  exact kk Sx' Sm' hp
set_option maxRecDepth 100000 in
set_option maxHeartbeats 4000000 in
theorem lawc_47 {X : Mx} {D : va_G} {ids : Nat → ClassId} {n0 b L aL aG : Nat} {xs : Nat → Int32} {Q : State → Prop} {cs sl : Nat} {Sx Sm : St} {P : St → St → Prop} (hL : LawC X D ids n0 b L xs aL aG) (hcs : cs ≤ 600000 ∧ sl ≤ 7302250) (x3 : Int32) (hb : ∀ j : Int32, (0 ≤ j ∧ j ≤ 6) → ib (x3 + j) L) (hpp : ∃ (v : Int32) (Sx' Sm' : St), fX11_put (xs (nt (x3 + 1))) (xs (nt (x3 + 2))) (xs (nt (x3 + 3))) (((xs (nt (x3 + 4))).toInt64 <<< ((32 : Int32).toInt64 &&& 63)) ||| ((xs (nt (x3 + 5))).toInt64 &&& 4294967295)) Sx = some (v, Sx') ∧ fX12_put (xs (nt (x3 + 1))) (xs (nt (x3 + 2))) (xs (nt (x3 + 3))) (((xs (nt (x3 + 4))).toInt64 <<< ((32 : Int32).toInt64 &&& 63)) ||| ((xs (nt (x3 + 5))).toInt64 &&& 4294967295)) Sm = some (v, Sm') ∧ P Sx' Sm') (kk : ∀ Sx' Sm', P Sx' Sm' → Og X 4 Q (PsL X.2.2.2.2.1 D ids n0 Sx' Sm') cs sl 2132 [(0, .ref b), (1, .ref n0), (2, .ref (n0 + 79)), (3, .int x3)] []) : Og X 4 Q (PsL X.2.2.2.2.1 D ids n0 Sx Sm) cs sl 1872 [(0, .ref b), (1, .ref n0), (2, .ref (n0 + 79)), (3, .int x3)] [] := by
  obtain ⟨v, Sx', Sm', hx, hm, hp⟩ := hpp
  refine og_aload_n 1 hL.1 dL_law_1872 rfl rfl ?_
  refine og_aload_n 0 hL.1 dL_law_1873 rfl rfl ?_
  refine og_iload_n 3 hL.1 dL_law_1874 rfl rfl ?_
  refine og_iconst (v := 1) hL.1 dL_law_1875 (by decide) ?_
  refine og_iadd hL.1 dL_law_1876 ?_
  refine ol_sld hL (hb 1 (by decide)) dL_law_1877 ?_
  refine og_aload_n 0 hL.1 dL_law_1878 rfl rfl ?_
  refine og_iload_n 3 hL.1 dL_law_1879 rfl rfl ?_
  refine og_iconst (v := 2) hL.1 dL_law_1880 (by decide) ?_
  refine og_iadd hL.1 dL_law_1881 ?_
  refine ol_sld hL (hb 2 (by decide)) dL_law_1882 ?_
  refine og_aload_n 0 hL.1 dL_law_1883 rfl rfl ?_
  refine og_iload_n 3 hL.1 dL_law_1884 rfl rfl ?_
  refine og_iconst (v := 3) hL.1 dL_law_1885 (by decide) ?_
  refine og_iadd hL.1 dL_law_1886 ?_
  refine ol_sld hL (hb 3 (by decide)) dL_law_1887 ?_
  refine og_aload_n 0 hL.1 dL_law_1888 rfl rfl ?_
  refine og_iload_n 3 hL.1 dL_law_1889 rfl rfl ?_
  refine og_iconst (v := 4) hL.1 dL_law_1890 (by decide) ?_
  refine og_iadd hL.1 dL_law_1891 ?_
  refine ol_sld hL (hb 4 (by decide)) dL_law_1892 ?_
  refine og_i2l hL.1 dL_law_1893 ?_
  refine og_bipush (v := 32) hL.1 dL_law_1894 (by decide) ?_
  refine og_lshl hL.1 dL_law_1896 ?_
  refine og_aload_n 0 hL.1 dL_law_1897 rfl rfl ?_
  refine og_iload_n 3 hL.1 dL_law_1898 rfl rfl ?_
  refine og_iconst (v := 5) hL.1 dL_law_1899 (by decide) ?_
  refine og_iadd hL.1 dL_law_1900 ?_
  refine ol_sld hL (hb 5 (by decide)) dL_law_1901 ?_
  refine og_i2l hL.1 dL_law_1902 ?_
  refine og_ldc2 hL.1 dL_law_1903 W_1713 ?_
  refine og_land hL.1 dL_law_1906 ?_
  refine og_lor hL.1 dL_law_1907 ?_
  refine ol_callX (q := (v, Sx')) (As := [.int (xs (nt (x3 + 1))), .int (xs (nt (x3 + 2))), .int (xs (nt (x3 + 3))), .long (((xs (nt (x3 + 4))).toInt64 <<< ((32 : Int32).toInt64 &&& 63)) ||| ((xs (nt (x3 + 5))).toInt64 &&& 4294967295))]) (st := []) (fun n1 => .ref (n1 + 0) :: [.int (xs (nt (x3 + 1))), .int (xs (nt (x3 + 2))), .int (xs (nt (x3 + 3))), .long (((xs (nt (x3 + 4))).toInt64 <<< ((32 : Int32).toInt64 &&& 63)) ||| ((xs (nt (x3 + 5))).toInt64 &&& 4294967295))]) hL VS_L_212 sX_0 rfl rfl rfl ⟨by decide, by decide⟩ (Nat.le_of_ble_eq_true rfl) (tX11_put (xs (nt (x3 + 1))) (xs (nt (x3 + 2))) (xs (nt (x3 + 3))) (((xs (nt (x3 + 4))).toInt64 <<< ((32 : Int32).toInt64 &&& 63)) ||| ((xs (nt (x3 + 5))).toInt64 &&& 4294967295)) Sx _ hx) hcs dL_law_1908 ?_
  show Og X 4 Q (PsL X.2.2.2.2.1 D ids n0 Sx' Sm) cs sl 1911 [(0, .ref b), (1, .ref n0), (2, .ref (n0 + 79)), (3, .int x3)] [.int v]
  refine og_aload_n 2 hL.1 dL_law_1911 rfl rfl ?_
  refine og_aload_n 0 hL.1 dL_law_1912 rfl rfl ?_
  refine og_iload_n 3 hL.1 dL_law_1913 rfl rfl ?_
  refine og_iconst (v := 1) hL.1 dL_law_1914 (by decide) ?_
  refine og_iadd hL.1 dL_law_1915 ?_
  refine ol_sld hL (hb 1 (by decide)) dL_law_1916 ?_
  refine og_aload_n 0 hL.1 dL_law_1917 rfl rfl ?_
  refine og_iload_n 3 hL.1 dL_law_1918 rfl rfl ?_
  refine og_iconst (v := 2) hL.1 dL_law_1919 (by decide) ?_
  refine og_iadd hL.1 dL_law_1920 ?_
  refine ol_sld hL (hb 2 (by decide)) dL_law_1921 ?_
  refine og_aload_n 0 hL.1 dL_law_1922 rfl rfl ?_
  refine og_iload_n 3 hL.1 dL_law_1923 rfl rfl ?_
  refine og_iconst (v := 3) hL.1 dL_law_1924 (by decide) ?_
  refine og_iadd hL.1 dL_law_1925 ?_
  refine ol_sld hL (hb 3 (by decide)) dL_law_1926 ?_
  refine og_aload_n 0 hL.1 dL_law_1927 rfl rfl ?_
  refine og_iload_n 3 hL.1 dL_law_1928 rfl rfl ?_
  refine og_iconst (v := 4) hL.1 dL_law_1929 (by decide) ?_
  refine og_iadd hL.1 dL_law_1930 ?_
  refine ol_sld hL (hb 4 (by decide)) dL_law_1931 ?_
  refine og_i2l hL.1 dL_law_1932 ?_
  refine og_bipush (v := 32) hL.1 dL_law_1933 (by decide) ?_
  refine og_lshl hL.1 dL_law_1935 ?_
  refine og_aload_n 0 hL.1 dL_law_1936 rfl rfl ?_
  refine og_iload_n 3 hL.1 dL_law_1937 rfl rfl ?_
  refine og_iconst (v := 5) hL.1 dL_law_1938 (by decide) ?_
  refine og_iadd hL.1 dL_law_1939 ?_
  refine ol_sld hL (hb 5 (by decide)) dL_law_1940 ?_
  refine og_i2l hL.1 dL_law_1941 ?_
  refine og_ldc2 hL.1 dL_law_1942 W_1713 ?_
  refine og_land hL.1 dL_law_1945 ?_
  refine og_lor hL.1 dL_law_1946 ?_
  refine ol_callM (q := (v, Sm')) (As := [.int (xs (nt (x3 + 1))), .int (xs (nt (x3 + 2))), .int (xs (nt (x3 + 3))), .long (((xs (nt (x3 + 4))).toInt64 <<< ((32 : Int32).toInt64 &&& 63)) ||| ((xs (nt (x3 + 5))).toInt64 &&& 4294967295))]) (st := [.int v]) (fun n1 => .ref (n1 + 0) :: [.int (xs (nt (x3 + 1))), .int (xs (nt (x3 + 2))), .int (xs (nt (x3 + 3))), .long (((xs (nt (x3 + 4))).toInt64 <<< ((32 : Int32).toInt64 &&& 63)) ||| ((xs (nt (x3 + 5))).toInt64 &&& 4294967295))]) hL VS_L_216 sM_0 rfl rfl rfl ⟨by decide, by decide⟩ (Nat.le_of_ble_eq_true rfl) (tX12_put (xs (nt (x3 + 1))) (xs (nt (x3 + 2))) (xs (nt (x3 + 3))) (((xs (nt (x3 + 4))).toInt64 <<< ((32 : Int32).toInt64 &&& 63)) ||| ((xs (nt (x3 + 5))).toInt64 &&& 4294967295)) Sm _ hm) hcs dL_law_1947 ?_
  show Og X 4 Q (PsL X.2.2.2.2.1 D ids n0 Sx' Sm') cs sl 1950 [(0, .ref b), (1, .ref n0), (2, .ref (n0 + 79)), (3, .int x3)] [.int v, .int v]
  refine og_icmp_eq 2132 hL.1 dL_law_1950 (by decide) (fun _ => ?_) (fun hne => absurd rfl hne)
  exact kk Sx' Sm' hp
set_option maxRecDepth 100000 in
set_option maxHeartbeats 4000000 in
theorem lawc_48 {X : Mx} {D : va_G} {ids : Nat → ClassId} {n0 b L aL aG : Nat} {xs : Nat → Int32} {Q : State → Prop} {cs sl : Nat} {Sx Sm : St} {P : St → St → Prop} (hL : LawC X D ids n0 b L xs aL aG) (hcs : cs ≤ 600000 ∧ sl ≤ 7302250) (x3 : Int32) (hb : ∀ j : Int32, (0 ≤ j ∧ j ≤ 6) → ib (x3 + j) L) (hpp : ∃ (v : Int64) (Sx' Sm' : St), fX11_get (xs (nt (x3 + 1))) (xs (nt (x3 + 2))) (xs (nt (x3 + 3))) Sx = some (v, Sx') ∧ fX12_get (xs (nt (x3 + 1))) (xs (nt (x3 + 2))) (xs (nt (x3 + 3))) Sm = some (v, Sm') ∧ P Sx' Sm') (kk : ∀ Sx' Sm', P Sx' Sm' → Og X 4 Q (PsL X.2.2.2.2.1 D ids n0 Sx' Sm') cs sl 2132 [(0, .ref b), (1, .ref n0), (2, .ref (n0 + 79)), (3, .int x3)] []) : Og X 4 Q (PsL X.2.2.2.2.1 D ids n0 Sx Sm) cs sl 1955 [(0, .ref b), (1, .ref n0), (2, .ref (n0 + 79)), (3, .int x3)] [] := by
  obtain ⟨v, Sx', Sm', hx, hm, hp⟩ := hpp
  refine og_aload_n 1 hL.1 dL_law_1955 rfl rfl ?_
  refine og_aload_n 0 hL.1 dL_law_1956 rfl rfl ?_
  refine og_iload_n 3 hL.1 dL_law_1957 rfl rfl ?_
  refine og_iconst (v := 1) hL.1 dL_law_1958 (by decide) ?_
  refine og_iadd hL.1 dL_law_1959 ?_
  refine ol_sld hL (hb 1 (by decide)) dL_law_1960 ?_
  refine og_aload_n 0 hL.1 dL_law_1961 rfl rfl ?_
  refine og_iload_n 3 hL.1 dL_law_1962 rfl rfl ?_
  refine og_iconst (v := 2) hL.1 dL_law_1963 (by decide) ?_
  refine og_iadd hL.1 dL_law_1964 ?_
  refine ol_sld hL (hb 2 (by decide)) dL_law_1965 ?_
  refine og_aload_n 0 hL.1 dL_law_1966 rfl rfl ?_
  refine og_iload_n 3 hL.1 dL_law_1967 rfl rfl ?_
  refine og_iconst (v := 3) hL.1 dL_law_1968 (by decide) ?_
  refine og_iadd hL.1 dL_law_1969 ?_
  refine ol_sld hL (hb 3 (by decide)) dL_law_1970 ?_
  refine ol_callX (q := (v, Sx')) (As := [.int (xs (nt (x3 + 1))), .int (xs (nt (x3 + 2))), .int (xs (nt (x3 + 3)))]) (st := []) (fun n1 => .ref (n1 + 0) :: [.int (xs (nt (x3 + 1))), .int (xs (nt (x3 + 2))), .int (xs (nt (x3 + 3)))]) hL VS_L_217 sX_0 rfl rfl rfl ⟨by decide, by decide⟩ (Nat.le_of_ble_eq_true rfl) (tX11_get (xs (nt (x3 + 1))) (xs (nt (x3 + 2))) (xs (nt (x3 + 3))) Sx _ hx) hcs dL_law_1971 ?_
  show Og X 4 Q (PsL X.2.2.2.2.1 D ids n0 Sx' Sm) cs sl 1974 [(0, .ref b), (1, .ref n0), (2, .ref (n0 + 79)), (3, .int x3)] [.long v]
  refine og_aload_n 2 hL.1 dL_law_1974 rfl rfl ?_
  refine og_aload_n 0 hL.1 dL_law_1975 rfl rfl ?_
  refine og_iload_n 3 hL.1 dL_law_1976 rfl rfl ?_
  refine og_iconst (v := 1) hL.1 dL_law_1977 (by decide) ?_
  refine og_iadd hL.1 dL_law_1978 ?_
  refine ol_sld hL (hb 1 (by decide)) dL_law_1979 ?_
  refine og_aload_n 0 hL.1 dL_law_1980 rfl rfl ?_
  refine og_iload_n 3 hL.1 dL_law_1981 rfl rfl ?_
  refine og_iconst (v := 2) hL.1 dL_law_1982 (by decide) ?_
  refine og_iadd hL.1 dL_law_1983 ?_
  refine ol_sld hL (hb 2 (by decide)) dL_law_1984 ?_
  refine og_aload_n 0 hL.1 dL_law_1985 rfl rfl ?_
  refine og_iload_n 3 hL.1 dL_law_1986 rfl rfl ?_
  refine og_iconst (v := 3) hL.1 dL_law_1987 (by decide) ?_
  refine og_iadd hL.1 dL_law_1988 ?_
  refine ol_sld hL (hb 3 (by decide)) dL_law_1989 ?_
  refine ol_callM (q := (v, Sm')) (As := [.int (xs (nt (x3 + 1))), .int (xs (nt (x3 + 2))), .int (xs (nt (x3 + 3)))]) (st := [.long v]) (fun n1 => .ref (n1 + 0) :: [.int (xs (nt (x3 + 1))), .int (xs (nt (x3 + 2))), .int (xs (nt (x3 + 3)))]) hL VS_L_221 sM_0 rfl rfl rfl ⟨by decide, by decide⟩ (Nat.le_of_ble_eq_true rfl) (tX12_get (xs (nt (x3 + 1))) (xs (nt (x3 + 2))) (xs (nt (x3 + 3))) Sm _ hm) hcs dL_law_1990 ?_
  show Og X 4 Q (PsL X.2.2.2.2.1 D ids n0 Sx' Sm') cs sl 1993 [(0, .ref b), (1, .ref n0), (2, .ref (n0 + 79)), (3, .int x3)] [.long v, .long v]
  refine og_lcmp_eq 2132 hL.1 dL_law_1993 dL_law_1994 (by decide) (fun _ => ?_) (fun hne => absurd rfl hne)
  exact kk Sx' Sm' hp
set_option maxRecDepth 100000 in
set_option maxHeartbeats 4000000 in
theorem lawc_49 {X : Mx} {D : va_G} {ids : Nat → ClassId} {n0 b L aL aG : Nat} {xs : Nat → Int32} {Q : State → Prop} {cs sl : Nat} {Sx Sm : St} {P : St → St → Prop} (hL : LawC X D ids n0 b L xs aL aG) (hcs : cs ≤ 600000 ∧ sl ≤ 7302250) (x3 : Int32) (hb : ∀ j : Int32, (0 ≤ j ∧ j ≤ 6) → ib (x3 + j) L) (hpp : ∃ (v : Int32) (Sx' Sm' : St), fX11_copy (xs (nt (x3 + 1))) (xs (nt (x3 + 2))) (xs (nt (x3 + 3))) (xs (nt (x3 + 4))) (xs (nt (x3 + 5))) Sx = some (v, Sx') ∧ fX12_copy (xs (nt (x3 + 1))) (xs (nt (x3 + 2))) (xs (nt (x3 + 3))) (xs (nt (x3 + 4))) (xs (nt (x3 + 5))) Sm = some (v, Sm') ∧ P Sx' Sm') (kk : ∀ Sx' Sm', P Sx' Sm' → Og X 4 Q (PsL X.2.2.2.2.1 D ids n0 Sx' Sm') cs sl 2132 [(0, .ref b), (1, .ref n0), (2, .ref (n0 + 79)), (3, .int x3)] []) : Og X 4 Q (PsL X.2.2.2.2.1 D ids n0 Sx Sm) cs sl 1999 [(0, .ref b), (1, .ref n0), (2, .ref (n0 + 79)), (3, .int x3)] [] := by
  obtain ⟨v, Sx', Sm', hx, hm, hp⟩ := hpp
  refine og_aload_n 1 hL.1 dL_law_1999 rfl rfl ?_
  refine og_aload_n 0 hL.1 dL_law_2000 rfl rfl ?_
  refine og_iload_n 3 hL.1 dL_law_2001 rfl rfl ?_
  refine og_iconst (v := 1) hL.1 dL_law_2002 (by decide) ?_
  refine og_iadd hL.1 dL_law_2003 ?_
  refine ol_sld hL (hb 1 (by decide)) dL_law_2004 ?_
  refine og_aload_n 0 hL.1 dL_law_2005 rfl rfl ?_
  refine og_iload_n 3 hL.1 dL_law_2006 rfl rfl ?_
  refine og_iconst (v := 2) hL.1 dL_law_2007 (by decide) ?_
  refine og_iadd hL.1 dL_law_2008 ?_
  refine ol_sld hL (hb 2 (by decide)) dL_law_2009 ?_
  refine og_aload_n 0 hL.1 dL_law_2010 rfl rfl ?_
  refine og_iload_n 3 hL.1 dL_law_2011 rfl rfl ?_
  refine og_iconst (v := 3) hL.1 dL_law_2012 (by decide) ?_
  refine og_iadd hL.1 dL_law_2013 ?_
  refine ol_sld hL (hb 3 (by decide)) dL_law_2014 ?_
  refine og_aload_n 0 hL.1 dL_law_2015 rfl rfl ?_
  refine og_iload_n 3 hL.1 dL_law_2016 rfl rfl ?_
  refine og_iconst (v := 4) hL.1 dL_law_2017 (by decide) ?_
  refine og_iadd hL.1 dL_law_2018 ?_
  refine ol_sld hL (hb 4 (by decide)) dL_law_2019 ?_
  refine og_aload_n 0 hL.1 dL_law_2020 rfl rfl ?_
  refine og_iload_n 3 hL.1 dL_law_2021 rfl rfl ?_
  refine og_iconst (v := 5) hL.1 dL_law_2022 (by decide) ?_
  refine og_iadd hL.1 dL_law_2023 ?_
  refine ol_sld hL (hb 5 (by decide)) dL_law_2024 ?_
  refine ol_callX (q := (v, Sx')) (As := [.int (xs (nt (x3 + 1))), .int (xs (nt (x3 + 2))), .int (xs (nt (x3 + 3))), .int (xs (nt (x3 + 4))), .int (xs (nt (x3 + 5)))]) (st := []) (fun n1 => .ref (n1 + 0) :: [.int (xs (nt (x3 + 1))), .int (xs (nt (x3 + 2))), .int (xs (nt (x3 + 3))), .int (xs (nt (x3 + 4))), .int (xs (nt (x3 + 5)))]) hL VS_L_222 sX_0 rfl rfl rfl ⟨by decide, by decide⟩ (Nat.le_of_ble_eq_true rfl) (tX11_copy (xs (nt (x3 + 1))) (xs (nt (x3 + 2))) (xs (nt (x3 + 3))) (xs (nt (x3 + 4))) (xs (nt (x3 + 5))) Sx _ hx) hcs dL_law_2025 ?_
  show Og X 4 Q (PsL X.2.2.2.2.1 D ids n0 Sx' Sm) cs sl 2028 [(0, .ref b), (1, .ref n0), (2, .ref (n0 + 79)), (3, .int x3)] [.int v]
  refine og_aload_n 2 hL.1 dL_law_2028 rfl rfl ?_
  refine og_aload_n 0 hL.1 dL_law_2029 rfl rfl ?_
  refine og_iload_n 3 hL.1 dL_law_2030 rfl rfl ?_
  refine og_iconst (v := 1) hL.1 dL_law_2031 (by decide) ?_
  refine og_iadd hL.1 dL_law_2032 ?_
  refine ol_sld hL (hb 1 (by decide)) dL_law_2033 ?_
  refine og_aload_n 0 hL.1 dL_law_2034 rfl rfl ?_
  refine og_iload_n 3 hL.1 dL_law_2035 rfl rfl ?_
  refine og_iconst (v := 2) hL.1 dL_law_2036 (by decide) ?_
  refine og_iadd hL.1 dL_law_2037 ?_
  refine ol_sld hL (hb 2 (by decide)) dL_law_2038 ?_
  refine og_aload_n 0 hL.1 dL_law_2039 rfl rfl ?_
  refine og_iload_n 3 hL.1 dL_law_2040 rfl rfl ?_
  refine og_iconst (v := 3) hL.1 dL_law_2041 (by decide) ?_
  refine og_iadd hL.1 dL_law_2042 ?_
  refine ol_sld hL (hb 3 (by decide)) dL_law_2043 ?_
  refine og_aload_n 0 hL.1 dL_law_2044 rfl rfl ?_
  refine og_iload_n 3 hL.1 dL_law_2045 rfl rfl ?_
  refine og_iconst (v := 4) hL.1 dL_law_2046 (by decide) ?_
  refine og_iadd hL.1 dL_law_2047 ?_
  refine ol_sld hL (hb 4 (by decide)) dL_law_2048 ?_
  refine og_aload_n 0 hL.1 dL_law_2049 rfl rfl ?_
  refine og_iload_n 3 hL.1 dL_law_2050 rfl rfl ?_
  refine og_iconst (v := 5) hL.1 dL_law_2051 (by decide) ?_
  refine og_iadd hL.1 dL_law_2052 ?_
  refine ol_sld hL (hb 5 (by decide)) dL_law_2053 ?_
  refine ol_callM (q := (v, Sm')) (As := [.int (xs (nt (x3 + 1))), .int (xs (nt (x3 + 2))), .int (xs (nt (x3 + 3))), .int (xs (nt (x3 + 4))), .int (xs (nt (x3 + 5)))]) (st := [.int v]) (fun n1 => .ref (n1 + 0) :: [.int (xs (nt (x3 + 1))), .int (xs (nt (x3 + 2))), .int (xs (nt (x3 + 3))), .int (xs (nt (x3 + 4))), .int (xs (nt (x3 + 5)))]) hL VS_L_225 sM_0 rfl rfl rfl ⟨by decide, by decide⟩ (Nat.le_of_ble_eq_true rfl) (tX12_copy (xs (nt (x3 + 1))) (xs (nt (x3 + 2))) (xs (nt (x3 + 3))) (xs (nt (x3 + 4))) (xs (nt (x3 + 5))) Sm _ hm) hcs dL_law_2054 ?_
  show Og X 4 Q (PsL X.2.2.2.2.1 D ids n0 Sx' Sm') cs sl 2057 [(0, .ref b), (1, .ref n0), (2, .ref (n0 + 79)), (3, .int x3)] [.int v, .int v]
  refine og_icmp_eq 2132 hL.1 dL_law_2057 (by decide) (fun _ => ?_) (fun hne => absurd rfl hne)
  exact kk Sx' Sm' hp
set_option maxRecDepth 100000 in
set_option maxHeartbeats 4000000 in
theorem lawc_50 {X : Mx} {D : va_G} {ids : Nat → ClassId} {n0 b L aL aG : Nat} {xs : Nat → Int32} {Q : State → Prop} {cs sl : Nat} {Sx Sm : St} {P : St → St → Prop} (hL : LawC X D ids n0 b L xs aL aG) (hcs : cs ≤ 600000 ∧ sl ≤ 7302250) (x3 : Int32) (hb : ∀ j : Int32, (0 ≤ j ∧ j ≤ 6) → ib (x3 + j) L) (hpp : ∃ (v : Int32) (Sx' Sm' : St), fX11_map (xs (nt (x3 + 1))) (xs (nt (x3 + 2))) Sx = some (v, Sx') ∧ fX12_map (xs (nt (x3 + 1))) (xs (nt (x3 + 2))) Sm = some (v, Sm') ∧ P Sx' Sm') (kk : ∀ Sx' Sm', P Sx' Sm' → Og X 4 Q (PsL X.2.2.2.2.1 D ids n0 Sx' Sm') cs sl 2132 [(0, .ref b), (1, .ref n0), (2, .ref (n0 + 79)), (3, .int x3)] []) : Og X 4 Q (PsL X.2.2.2.2.1 D ids n0 Sx Sm) cs sl 2062 [(0, .ref b), (1, .ref n0), (2, .ref (n0 + 79)), (3, .int x3)] [] := by
  obtain ⟨v, Sx', Sm', hx, hm, hp⟩ := hpp
  refine og_aload_n 1 hL.1 dL_law_2062 rfl rfl ?_
  refine og_aload_n 0 hL.1 dL_law_2063 rfl rfl ?_
  refine og_iload_n 3 hL.1 dL_law_2064 rfl rfl ?_
  refine og_iconst (v := 1) hL.1 dL_law_2065 (by decide) ?_
  refine og_iadd hL.1 dL_law_2066 ?_
  refine ol_sld hL (hb 1 (by decide)) dL_law_2067 ?_
  refine og_aload_n 0 hL.1 dL_law_2068 rfl rfl ?_
  refine og_iload_n 3 hL.1 dL_law_2069 rfl rfl ?_
  refine og_iconst (v := 2) hL.1 dL_law_2070 (by decide) ?_
  refine og_iadd hL.1 dL_law_2071 ?_
  refine ol_sld hL (hb 2 (by decide)) dL_law_2072 ?_
  refine ol_callX (q := (v, Sx')) (As := [.int (xs (nt (x3 + 1))), .int (xs (nt (x3 + 2)))]) (st := []) (fun n1 => .ref (n1 + 0) :: [.int (xs (nt (x3 + 1))), .int (xs (nt (x3 + 2)))]) hL VS_L_226 sX_0 rfl rfl rfl ⟨by decide, by decide⟩ (Nat.le_of_ble_eq_true rfl) (tX11_map (xs (nt (x3 + 1))) (xs (nt (x3 + 2))) Sx _ hx) hcs dL_law_2073 ?_
  show Og X 4 Q (PsL X.2.2.2.2.1 D ids n0 Sx' Sm) cs sl 2076 [(0, .ref b), (1, .ref n0), (2, .ref (n0 + 79)), (3, .int x3)] [.int v]
  refine og_aload_n 2 hL.1 dL_law_2076 rfl rfl ?_
  refine og_aload_n 0 hL.1 dL_law_2077 rfl rfl ?_
  refine og_iload_n 3 hL.1 dL_law_2078 rfl rfl ?_
  refine og_iconst (v := 1) hL.1 dL_law_2079 (by decide) ?_
  refine og_iadd hL.1 dL_law_2080 ?_
  refine ol_sld hL (hb 1 (by decide)) dL_law_2081 ?_
  refine og_aload_n 0 hL.1 dL_law_2082 rfl rfl ?_
  refine og_iload_n 3 hL.1 dL_law_2083 rfl rfl ?_
  refine og_iconst (v := 2) hL.1 dL_law_2084 (by decide) ?_
  refine og_iadd hL.1 dL_law_2085 ?_
  refine ol_sld hL (hb 2 (by decide)) dL_law_2086 ?_
  refine ol_callM (q := (v, Sm')) (As := [.int (xs (nt (x3 + 1))), .int (xs (nt (x3 + 2)))]) (st := [.int v]) (fun n1 => .ref (n1 + 0) :: [.int (xs (nt (x3 + 1))), .int (xs (nt (x3 + 2)))]) hL VS_L_229 sM_0 rfl rfl rfl ⟨by decide, by decide⟩ (Nat.le_of_ble_eq_true rfl) (tX12_map (xs (nt (x3 + 1))) (xs (nt (x3 + 2))) Sm _ hm) hcs dL_law_2087 ?_
  show Og X 4 Q (PsL X.2.2.2.2.1 D ids n0 Sx' Sm') cs sl 2090 [(0, .ref b), (1, .ref n0), (2, .ref (n0 + 79)), (3, .int x3)] [.int v, .int v]
  refine og_icmp_eq 2132 hL.1 dL_law_2090 (by decide) (fun _ => ?_) (fun hne => absurd rfl hne)
  exact kk Sx' Sm' hp
set_option maxRecDepth 100000 in
set_option maxHeartbeats 4000000 in
theorem lawc_51 {X : Mx} {D : va_G} {ids : Nat → ClassId} {n0 b L aL aG : Nat} {xs : Nat → Int32} {Q : State → Prop} {cs sl : Nat} {Sx Sm : St} {P : St → St → Prop} (hL : LawC X D ids n0 b L xs aL aG) (hcs : cs ≤ 600000 ∧ sl ≤ 7302250) (x3 : Int32) (hb : ∀ j : Int32, (0 ≤ j ∧ j ≤ 6) → ib (x3 + j) L) (hpp : ∃ (v : Int32) (Sx' Sm' : St), fX11_count (xs (nt (x3 + 1))) Sx = some (v, Sx') ∧ fX12_count (xs (nt (x3 + 1))) Sm = some (v, Sm') ∧ P Sx' Sm') (kk : ∀ Sx' Sm', P Sx' Sm' → Og X 4 Q (PsL X.2.2.2.2.1 D ids n0 Sx' Sm') cs sl 2132 [(0, .ref b), (1, .ref n0), (2, .ref (n0 + 79)), (3, .int x3)] []) : Og X 4 Q (PsL X.2.2.2.2.1 D ids n0 Sx Sm) cs sl 2095 [(0, .ref b), (1, .ref n0), (2, .ref (n0 + 79)), (3, .int x3)] [] := by
  obtain ⟨v, Sx', Sm', hx, hm, hp⟩ := hpp
  refine og_aload_n 1 hL.1 dL_law_2095 rfl rfl ?_
  refine og_aload_n 0 hL.1 dL_law_2096 rfl rfl ?_
  refine og_iload_n 3 hL.1 dL_law_2097 rfl rfl ?_
  refine og_iconst (v := 1) hL.1 dL_law_2098 (by decide) ?_
  refine og_iadd hL.1 dL_law_2099 ?_
  refine ol_sld hL (hb 1 (by decide)) dL_law_2100 ?_
  refine ol_callX (q := (v, Sx')) (As := [.int (xs (nt (x3 + 1)))]) (st := []) (fun n1 => .ref (n1 + 0) :: [.int (xs (nt (x3 + 1)))]) hL VS_L_230 sX_0 rfl rfl rfl ⟨by decide, by decide⟩ (Nat.le_of_ble_eq_true rfl) (tX11_count (xs (nt (x3 + 1))) Sx _ hx) hcs dL_law_2101 ?_
  show Og X 4 Q (PsL X.2.2.2.2.1 D ids n0 Sx' Sm) cs sl 2104 [(0, .ref b), (1, .ref n0), (2, .ref (n0 + 79)), (3, .int x3)] [.int v]
  refine og_aload_n 2 hL.1 dL_law_2104 rfl rfl ?_
  refine og_aload_n 0 hL.1 dL_law_2105 rfl rfl ?_
  refine og_iload_n 3 hL.1 dL_law_2106 rfl rfl ?_
  refine og_iconst (v := 1) hL.1 dL_law_2107 (by decide) ?_
  refine og_iadd hL.1 dL_law_2108 ?_
  refine ol_sld hL (hb 1 (by decide)) dL_law_2109 ?_
  refine ol_callM (q := (v, Sm')) (As := [.int (xs (nt (x3 + 1)))]) (st := [.int v]) (fun n1 => .ref (n1 + 0) :: [.int (xs (nt (x3 + 1)))]) hL VS_L_233 sM_0 rfl rfl rfl ⟨by decide, by decide⟩ (Nat.le_of_ble_eq_true rfl) (tX12_count (xs (nt (x3 + 1))) Sm _ hm) hcs dL_law_2110 ?_
  show Og X 4 Q (PsL X.2.2.2.2.1 D ids n0 Sx' Sm') cs sl 2113 [(0, .ref b), (1, .ref n0), (2, .ref (n0 + 79)), (3, .int x3)] [.int v, .int v]
  refine og_icmp_eq 2132 hL.1 dL_law_2113 (by decide) (fun _ => ?_) (fun hne => absurd rfl hne)
  exact kk Sx' Sm' hp
set_option maxRecDepth 100000 in
set_option maxHeartbeats 4000000 in
theorem lawc_52 {X : Mx} {D : va_G} {ids : Nat → ClassId} {n0 b L aL aG : Nat} {xs : Nat → Int32} {Q : State → Prop} {cs sl : Nat} {Sx Sm : St} {P : St → St → Prop} (hL : LawC X D ids n0 b L xs aL aG) (hcs : cs ≤ 600000 ∧ sl ≤ 7302250) (x3 : Int32) (hb : ∀ j : Int32, (0 ≤ j ∧ j ≤ 6) → ib (x3 + j) L) (hpp : ∃ (v : Int64) (Sx' Sm' : St), fX11_digest  Sx = some (v, Sx') ∧ fX12_digest  Sm = some (v, Sm') ∧ P Sx' Sm') (kk : ∀ Sx' Sm', P Sx' Sm' → Og X 4 Q (PsL X.2.2.2.2.1 D ids n0 Sx' Sm') cs sl 2132 [(0, .ref b), (1, .ref n0), (2, .ref (n0 + 79)), (3, .int x3)] []) : Og X 4 Q (PsL X.2.2.2.2.1 D ids n0 Sx Sm) cs sl 2118 [(0, .ref b), (1, .ref n0), (2, .ref (n0 + 79)), (3, .int x3)] [] := by
  obtain ⟨v, Sx', Sm', hx, hm, hp⟩ := hpp
  refine og_aload_n 1 hL.1 dL_law_2118 rfl rfl ?_
  refine ol_callX (q := (v, Sx')) (As := []) (st := []) (fun n1 => .ref (n1 + 0) :: []) hL VS_L_234 sX_0 rfl rfl rfl ⟨by decide, by decide⟩ (Nat.le_of_ble_eq_true rfl) (tX11_digest Sx _ hx) hcs dL_law_2119 ?_
  show Og X 4 Q (PsL X.2.2.2.2.1 D ids n0 Sx' Sm) cs sl 2122 [(0, .ref b), (1, .ref n0), (2, .ref (n0 + 79)), (3, .int x3)] [.long v]
  refine og_aload_n 2 hL.1 dL_law_2122 rfl rfl ?_
  refine ol_callM (q := (v, Sm')) (As := []) (st := [.long v]) (fun n1 => .ref (n1 + 0) :: []) hL VS_L_238 sM_0 rfl rfl rfl ⟨by decide, by decide⟩ (Nat.le_of_ble_eq_true rfl) (tX12_digest Sm _ hm) hcs dL_law_2123 ?_
  show Og X 4 Q (PsL X.2.2.2.2.1 D ids n0 Sx' Sm') cs sl 2126 [(0, .ref b), (1, .ref n0), (2, .ref (n0 + 79)), (3, .int x3)] [.long v, .long v]
  refine og_lcmp_eq 2132 hL.1 dL_law_2126 dL_law_2127 (by decide) (fun _ => ?_) (fun hne => absurd rfl hne)
  exact kk Sx' Sm' hp
