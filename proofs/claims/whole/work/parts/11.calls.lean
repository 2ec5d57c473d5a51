
section CALLG
variable {p : Program} {l : Launch} {e : Env} {R : Room} {s : State} {m : MethodId} {args : Array Value} {below : List Frame} {meth : Method} {c : Code} {H : Heap} {locs : List Loc} {Q : State → Prop}
theorem run_go {pc : Nat} {ls : Array Slot} {st0 rest : List Value} {A : Nat → Prop} {H0 : Heap} {v : Option Value} {B : State → Prop} (hr : va_Run p l e R s m args below meth c H locs 0 0 0 0 (F0 m pc ls st0) rest (fun st o t => o = .returned v ∧ B t ∧ va_F A st t) A) (hS : va_S A H0 H locs)
    (kk : ∀ (t : State) (locs1 : List Loc), B t → va_S A H0 t.heap locs1 → W p l e R s m args below meth c t.heap locs1 0 0 Q (F0 m (pc + 3) ls (v.toList ++ rest))) : W p l e R s m args below meth c H locs 0 0 Q (F0 m pc ls st0) := by
  intro T hT X
  obtain ⟨v', st₀, t, T', L, h0, X', hL, e1, e2, ⟨hv, hb, hz, hk⟩, st⟩ := hr T hT X
  cases hv
  rw [h0] at hz hk
  obtain ⟨t2, a1, b1⟩ := kk t (locs ++ L) hb ⟨Nat.le_trans hS.1 hz, fun q h1 h2 => by rw [hk q (Nat.lt_of_lt_of_le h1 hS.1) h2]; exact hS.2.1 q h1 h2, fun q hq => by
      rcases List.mem_append.mp hq with h | h
      · exact hS.2.2 q h
      · exact hL q h⟩ T' e1 X'
  exact ⟨t2, st t2 a1, b1⟩
end CALLG
/-- a call's words: of an instance method (own class or a nest mate), of a static one -/
def Sv (own : String) (i : Nat) (ν : Md) (ci nf n : Nat) : Prop := ∃ T, vwCl[ci]? = some (ν.1.cls, T, nf) ∧ (ν.1.cls ≠ "java/lang/invoke/MethodHandle" ∧ ν.1.cls ≠ "java/lang/invoke/VarHandle") ∧ (parseMethodDescriptor ν.1.desc).map (fun d => d.parameters.length) = some n ∧ Cond.code ν.1 ν.2.1 ν.2.2.1 ν.2.2.2.1 ∈ WT ∧ Cond.instanceMethod ν.1 ∈ WT ∧ Cond.selects ν.1.cls ν.1 ν.1 ∈ WT ∧ Cond.initialized ν.1.cls ∈ WT ∧ (Cond.methodLink own i ν.1 ∈ WT ∨ ∃ host, Cond.methodLinkNest own i ν.1 host ∈ NW) ∧ ν.2.2.2.2.cells = 0 ∧ ν.2.2.2.2.slots = 0
def Ss (own : String) (i : Nat) (ν : Md) (n : Nat) : Prop := (ν.1.cls ≠ "java/lang/invoke/MethodHandle" ∧ ν.1.cls ≠ "java/lang/invoke/VarHandle") ∧ (parseMethodDescriptor ν.1.desc).map (fun d => d.parameters.length) = some n ∧ Cond.code ν.1 ν.2.1 ν.2.2.1 ν.2.2.2.1 ∈ WT ∧ Cond.static ν.1 ∈ WT ∧ Cond.initialized ν.1.cls ∈ WT ∧ (Cond.methodLink own i ν.1 ∈ WT ∨ ∃ host, Cond.methodLinkNest own i ν.1 host ∈ NW) ∧ ν.2.2.2.2.cells = 0 ∧ ν.2.2.2.2.slots = 0
theorem mws_good {ν : Md} (h : Cond.code ν.1 ν.2.1 ν.2.2.1 ν.2.2.2.1 ∈ WT) : GoodIn WT (mws ν) := by
  intro z hz
  rcases List.mem_cons.mp hz with rfl | hz
  · exact ⟨h, WT_good h⟩
  · exact ⟨hz, WT_good hz⟩
theorem wk_blind {D : va_G} {ids : Nat → ClassId} {n0 : Nat} {w : Wx} {S : St} {a0 : Array Value} : FrameBlind (fun v U => v = a0 ∧ WK D ids n0 w S U) := by
  intro a U g mk ⟨h, hP, hK, hN⟩
  exact ⟨h, hP, va_K.moved (u := U) (U := U.calling g mk a) (Vm.Alike.refl U.vm) hK, fun z hz => NW_same (u := U) (U := U.calling g mk a) hz rfl (hN z hz)⟩
section OKC
variable {α β : Type} {Γ : Cx α} {w : Wx} {ι : α → Option Value} {κ : β → Option Value} {μ ν : Md} {pc : Nat} {lv : List (Nat × Value)} {st : List Value} {S : St}
theorem ok_callV {stk : List Value} {As : List Value} {i n k ci nf : Nat} {av : Nat → List Value} {f : Option (β × St)} {K : β → St → Option (α × St)} (hc : Cok Γ w ι μ) (hs : Sv μ.1.cls i ν ci nf n) (ho : Iob w k ci nf) (hstk : stk = As.reverse ++ rv Γ k :: st) (hav : av (gn Γ) = rv Γ k :: As) (hn : As.length = n) (hR : ν.2.2.2.2.frames + 1 ≤ μ.2.2.2.2.frames ∧ 8 + (ν.2.2.1 + 11) + ν.2.2.2.2.locals ≤ μ.2.2.2.2.locals) (hst : (st.map fun v => v.category).sum ≤ 8) (hM : ∀ q, f = some q → MT κ w ν av S q) (hd : decode μ.2.1 pc = .ok (.invokevirtual i, 3))
    (kk : ∀ v S', Ok Γ w (pc + 3) lv ((κ v).toList ++ st) S' (K v S')) : Ok Γ w pc lv stk S (f.bind (fun q => K q.1 q.2)) := by
  intro hr H locs ls hP hS hl
  cases hf : f with
  | none => rw [hf] at hr; cases hr
  | some q =>
    rw [hf] at hr
    have hm := hM q hf Γ.1.2.1 Γ.2.1.1 Γ.2.1.2.1 (gn Γ)
    subst hstk
    obtain ⟨T, h1, h2, h3, h4, h5, h6, h7, h8, h9, h10⟩ := hs
    have hts := hc.2.2.2.2.2.1
    have hlen : ∀ sig, parseMethodDescriptor ν.1.desc = some sig → n = sig.parameters.length := fun sig h => by rw [h] at h3; exact (Option.some.inj h3).symm
    have hRR : ν.2.2.2.2.frames + 1 ≤ Γ.1.2.2.2.1.frames ∧ 8 + (ν.2.2.1 + 11) + ν.2.2.2.2.locals ≤ Γ.1.2.2.2.1.locals := by rw [hc.2.2.2.2.2.2.2.2.2.2.1]; exact hR
    have hp : PreV (gs Γ) H ν.1.cls (gn Γ + k) (fun v U => v = (av (gn Γ)).toArray ∧ WK Γ.2.1.1 Γ.2.1.2.1 (gn Γ) w S U) As := ⟨wk_blind, va_recv hc.2.2.2.2.2.2.2.1 hP h1 (ho.cell _ _ _), fun U hU hW => ⟨by rw [hav], by rw [hU]; exact hP, va_K.moved hW.alike hc.2.2.2.2.2.2.2.1, fun z hz => NW_warm hz hW (hc.2.2.2.2.2.2.1 z hz)⟩⟩
    have fin : ∀ (t : State) (locs1 : List Loc), WK Γ.2.1.1 Γ.2.1.2.1 (gn Γ) w q.2 t → va_S (AA (gn Γ) w) (gs Γ).heap t.heap locs1 → Wat Γ t.heap locs1 (F0 (gm Γ) (pc + 3) ls ((κ q.1).toList ++ st)) := fun t locs1 hB hS1 => kk q.1 q.2 hr t.heap locs1 ls hB.1 hS1 hl
    rcases h8 with h8 | ⟨host, h8⟩
    · exact run_go (v := κ q.1) (B := WK Γ.2.1.1 Γ.2.1.2.1 (gn Γ) w q.2) (va_runV (As := As) (rest := st) ⟨hc.1, hc.2.1, hc.2.2.1.trans hc.2.2.2.1.symm, hc.2.2.2.2.1, hts⟩ hm ⟨⟨h9, h10, hRR.1, hRR.2, pay_in hts (mws_good h4), List.mem_cons_self, hts _ h4, hts _ h7, h2, hlen, hts _ h8⟩, hts _ h5, hts _ h6⟩ hp rfl hn hl.1 rfl (lv_room hst) hd ⟨Nat.zero_le _, Nat.zero_le _⟩) hS fin
    · exact run_go (v := κ q.1) (B := WK Γ.2.1.1 Γ.2.1.2.1 (gn Γ) w q.2) (va_runVN (As := As) (rest := st) ⟨hc.1, hc.2.1, hc.2.2.1.trans hc.2.2.2.1.symm, hc.2.2.2.2.1, hts⟩ hm ⟨⟨⟨h9, h10, hRR.1, hRR.2, pay_in hts (mws_good h4), List.mem_cons_self⟩, hts _ h4, hts _ h7, h2, hlen, va_Nw.use rfl (hc.2.2.2.2.2.2.1 _ h8)⟩, hts _ h5, hts _ h6⟩ hp rfl hn hl.1 rfl (lv_room hst) hd ⟨Nat.zero_le _, Nat.zero_le _⟩) hS fin
theorem ok_callS {stk : List Value} {As : List Value} {i n : Nat} {av : Nat → List Value} {f : Option (β × St)} {K : β → St → Option (α × St)} (hc : Cok Γ w ι μ) (hs : Ss μ.1.cls i ν n) (hstk : stk = As.reverse ++ st) (hav : av (gn Γ) = As) (hn : As.length = n) (hR : ν.2.2.2.2.frames + 1 ≤ μ.2.2.2.2.frames ∧ 8 + (ν.2.2.1 + 11) + ν.2.2.2.2.locals ≤ μ.2.2.2.2.locals) (hst : (st.map fun v => v.category).sum ≤ 8) (hM : ∀ q, f = some q → MT κ w ν av S q) (hd : decode μ.2.1 pc = .ok (.invokestatic i, 3))
    (kk : ∀ v S', Ok Γ w (pc + 3) lv ((κ v).toList ++ st) S' (K v S')) : Ok Γ w pc lv stk S (f.bind (fun q => K q.1 q.2)) := by
  intro hr H locs ls hP hS hl
  cases hf : f with
  | none => rw [hf] at hr; cases hr
  | some q =>
    rw [hf] at hr
    have hm := hM q hf Γ.1.2.1 Γ.2.1.1 Γ.2.1.2.1 (gn Γ)
    subst hstk
    obtain ⟨h2, h3, h4, h5, h7, h8, h9, h10⟩ := hs
    have hts := hc.2.2.2.2.2.1
    have hlen : ∀ sig, parseMethodDescriptor ν.1.desc = some sig → n = sig.parameters.length := fun sig h => by rw [h] at h3; exact (Option.some.inj h3).symm
    have hRR : ν.2.2.2.2.frames + 1 ≤ Γ.1.2.2.2.1.frames ∧ 8 + (ν.2.2.1 + 11) + ν.2.2.2.2.locals ≤ Γ.1.2.2.2.1.locals := by rw [hc.2.2.2.2.2.2.2.2.2.2.1]; exact hR
    have hp : PreS (gs Γ) H (fun v U => v = (av (gn Γ)).toArray ∧ WK Γ.2.1.1 Γ.2.1.2.1 (gn Γ) w S U) As := ⟨wk_blind, fun U hU hW => ⟨by rw [hav], by rw [hU]; exact hP, va_K.moved hW.alike hc.2.2.2.2.2.2.2.1, fun z hz => NW_warm hz hW (hc.2.2.2.2.2.2.1 z hz)⟩⟩
    have fin : ∀ (t : State) (locs1 : List Loc), WK Γ.2.1.1 Γ.2.1.2.1 (gn Γ) w q.2 t → va_S (AA (gn Γ) w) (gs Γ).heap t.heap locs1 → Wat Γ t.heap locs1 (F0 (gm Γ) (pc + 3) ls ((κ q.1).toList ++ st)) := fun t locs1 hB hS1 => kk q.1 q.2 hr t.heap locs1 ls hB.1 hS1 hl
    rcases h8 with h8 | ⟨host, h8⟩
    · exact run_go (v := κ q.1) (B := WK Γ.2.1.1 Γ.2.1.2.1 (gn Γ) w q.2) (va_runS (As := As) (rest := st) ⟨hc.1, hc.2.1, hc.2.2.1.trans hc.2.2.2.1.symm, hc.2.2.2.2.1, hts⟩ hm ⟨⟨h9, h10, hRR.1, hRR.2, pay_in hts (mws_good h4), List.mem_cons_self, hts _ h4, hts _ h7, h2, hlen, hts _ h8⟩, hts _ h5⟩ hp rfl hn hl.1 rfl (lv_room hst) hd ⟨Nat.zero_le _, Nat.zero_le _⟩) hS fin
    · exact run_go (v := κ q.1) (B := WK Γ.2.1.1 Γ.2.1.2.1 (gn Γ) w q.2) (va_runSN (As := As) (rest := st) ⟨hc.1, hc.2.1, hc.2.2.1.trans hc.2.2.2.1.symm, hc.2.2.2.2.1, hts⟩ hm ⟨⟨⟨h9, h10, hRR.1, hRR.2, pay_in hts (mws_good h4), List.mem_cons_self⟩, hts _ h4, hts _ h7, h2, hlen, va_Nw.use rfl (hc.2.2.2.2.2.2.1 _ h8)⟩, hts _ h5, trivial⟩ hp rfl hn hl.1 rfl (lv_room hst) hd ⟨Nat.zero_le _, Nat.zero_le _⟩) hS fin
end OKC
/-- a call, and what is done with its answer -/
def bnd {α β : Type} (f : Option (β × St)) (K : β → St → Option (α × St)) : Option (α × St) := f.bind (fun q => K q.1 q.2)
section OKD
variable {α : Type} {Γ : Cx α} {w : Wx} {ι : α → Option Value} {μ ν : Md} {pc : Nat} {lv : List (Nat × Value)} {st : List Value} {S : St}

theorem ok_callVi {stk As : List Value} {i n k ci nf : Nat} {f : Option (Int32 × St)} {K : Int32 → St → Option (α × St)} (av : Nat → List Value) (hc : Cok Γ w ι μ) (hs : Sv μ.1.cls i ν ci nf n) (ho : Iob w k ci nf) (hstk : stk = As.reverse ++ rv Γ k :: st) (hav : av (gn Γ) = rv Γ k :: As) (hn : As.length = n) (hR : ν.2.2.2.2.frames + 1 ≤ μ.2.2.2.2.frames ∧ 8 + (ν.2.2.1 + 11) + ν.2.2.2.2.locals ≤ μ.2.2.2.2.locals) (hst : (st.map fun v => v.category).sum ≤ 8) (hM : ∀ q, f = some q → MT vI w ν av S q) (hd : decode μ.2.1 pc = .ok (.invokevirtual i, 3)) (kk : ∀ v S', Ok Γ w (pc + 3) lv (.int v :: st) S' (K v S'))  : Ok Γ w pc lv stk S (bnd f K) := ok_callV hc hs ho hstk hav hn hR hst hM hd kk
theorem ok_callSi {stk As : List Value} {i n : Nat} {f : Option (Int32 × St)} {K : Int32 → St → Option (α × St)} (av : Nat → List Value) (hc : Cok Γ w ι μ) (hs : Ss μ.1.cls i ν n) (hstk : stk = As.reverse ++ st) (hav : av (gn Γ) = As) (hn : As.length = n) (hR : ν.2.2.2.2.frames + 1 ≤ μ.2.2.2.2.frames ∧ 8 + (ν.2.2.1 + 11) + ν.2.2.2.2.locals ≤ μ.2.2.2.2.locals) (hst : (st.map fun v => v.category).sum ≤ 8) (hM : ∀ q, f = some q → MT vI w ν av S q) (hd : decode μ.2.1 pc = .ok (.invokestatic i, 3)) (kk : ∀ v S', Ok Γ w (pc + 3) lv (.int v :: st) S' (K v S'))  : Ok Γ w pc lv stk S (bnd f K) := ok_callS hc hs hstk hav hn hR hst hM hd kk
theorem ok_callVl {stk As : List Value} {i n k ci nf : Nat} {f : Option (Int64 × St)} {K : Int64 → St → Option (α × St)} (av : Nat → List Value) (hc : Cok Γ w ι μ) (hs : Sv μ.1.cls i ν ci nf n) (ho : Iob w k ci nf) (hstk : stk = As.reverse ++ rv Γ k :: st) (hav : av (gn Γ) = rv Γ k :: As) (hn : As.length = n) (hR : ν.2.2.2.2.frames + 1 ≤ μ.2.2.2.2.frames ∧ 8 + (ν.2.2.1 + 11) + ν.2.2.2.2.locals ≤ μ.2.2.2.2.locals) (hst : (st.map fun v => v.category).sum ≤ 8) (hM : ∀ q, f = some q → MT vL w ν av S q) (hd : decode μ.2.1 pc = .ok (.invokevirtual i, 3)) (kk : ∀ v S', Ok Γ w (pc + 3) lv (.long v :: st) S' (K v S'))  : Ok Γ w pc lv stk S (bnd f K) := ok_callV hc hs ho hstk hav hn hR hst hM hd kk
theorem ok_callSl {stk As : List Value} {i n : Nat} {f : Option (Int64 × St)} {K : Int64 → St → Option (α × St)} (av : Nat → List Value) (hc : Cok Γ w ι μ) (hs : Ss μ.1.cls i ν n) (hstk : stk = As.reverse ++ st) (hav : av (gn Γ) = As) (hn : As.length = n) (hR : ν.2.2.2.2.frames + 1 ≤ μ.2.2.2.2.frames ∧ 8 + (ν.2.2.1 + 11) + ν.2.2.2.2.locals ≤ μ.2.2.2.2.locals) (hst : (st.map fun v => v.category).sum ≤ 8) (hM : ∀ q, f = some q → MT vL w ν av S q) (hd : decode μ.2.1 pc = .ok (.invokestatic i, 3)) (kk : ∀ v S', Ok Γ w (pc + 3) lv (.long v :: st) S' (K v S'))  : Ok Γ w pc lv stk S (bnd f K) := ok_callS hc hs hstk hav hn hR hst hM hd kk
theorem ok_callVu {stk As : List Value} {i n k ci nf : Nat} {f : Option (Unit × St)} {K : Unit → St → Option (α × St)} (av : Nat → List Value) (hc : Cok Γ w ι μ) (hs : Sv μ.1.cls i ν ci nf n) (ho : Iob w k ci nf) (hstk : stk = As.reverse ++ rv Γ k :: st) (hav : av (gn Γ) = rv Γ k :: As) (hn : As.length = n) (hR : ν.2.2.2.2.frames + 1 ≤ μ.2.2.2.2.frames ∧ 8 + (ν.2.2.1 + 11) + ν.2.2.2.2.locals ≤ μ.2.2.2.2.locals) (hst : (st.map fun v => v.category).sum ≤ 8) (hM : ∀ q, f = some q → MT vU w ν av S q) (hd : decode μ.2.1 pc = .ok (.invokevirtual i, 3)) (kk : ∀ v S', Ok Γ w (pc + 3) lv (st) S' (K v S'))  : Ok Γ w pc lv stk S (bnd f K) := ok_callV hc hs ho hstk hav hn hR hst hM hd kk
theorem ok_callSu {stk As : List Value} {i n : Nat} {f : Option (Unit × St)} {K : Unit → St → Option (α × St)} (av : Nat → List Value) (hc : Cok Γ w ι μ) (hs : Ss μ.1.cls i ν n) (hstk : stk = As.reverse ++ st) (hav : av (gn Γ) = As) (hn : As.length = n) (hR : ν.2.2.2.2.frames + 1 ≤ μ.2.2.2.2.frames ∧ 8 + (ν.2.2.1 + 11) + ν.2.2.2.2.locals ≤ μ.2.2.2.2.locals) (hst : (st.map fun v => v.category).sum ≤ 8) (hM : ∀ q, f = some q → MT vU w ν av S q) (hd : decode μ.2.1 pc = .ok (.invokestatic i, 3)) (kk : ∀ v S', Ok Γ w (pc + 3) lv (st) S' (K v S'))  : Ok Γ w pc lv stk S (bnd f K) := ok_callS hc hs hstk hav hn hR hst hM hd kk
end OKD
