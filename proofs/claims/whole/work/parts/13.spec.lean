
/-! ===== System.arraycopy of longs, and the two static arrays ===== -/
def cpj (S : St) (k0 sp k1 dp n : Nat) : St := (S.1, fun a b => if a = k1 then va_cpy (S.2 k0) (S.2 k1) sp dp n b else S.2 a b)
abbrev cpg (sp dp n : Int32) (N : Nat) : Prop := ¬ sp < 0 ∧ ¬ dp < 0 ∧ ¬ n < 0 ∧ nt sp + nt n ≤ N ∧ nt dp + nt n ≤ N
theorem wcell_cpj {ids : Nat → ClassId} {n0 : Nat} {w : Wx} {S : St} {k0 sp k1 dp n : Nat} (a : Nat) (h : a ≠ k1) : wcell ids n0 w (cpj S k0 sp k1 dp n) a = wcell ids n0 w S a := by
  have e : (cpj S k0 sp k1 dp n).2 a = S.2 a := by funext b; simp [cpj, h]
  simp only [wcell, e]; rfl
theorem Iar.setc {w : Wx} {k N : Nat} (h : Iar w k 3 N) {ids : Nat → ClassId} {n0 : Nat} {S : St} {k0 sp dp n : Nat} : (wl ids n0 w S).set k (n0 + k, .inl (ids 2, N, .inr (.inl (va_cpy (S.2 k0) (S.2 k) sp dp n)))) = wl ids n0 w (cpj S k0 sp k dp n) := by
  rw [← wl_set h.1 (S' := cpj S k0 sp k dp n) (fun a ha => wcell_cpj a ha)]
  have e : (cpj S k0 sp k dp n).2 k = va_cpy (S.2 k0) (S.2 k) sp dp n := by funext b; simp [cpj]
  simp [wcell, h.2, e]
section OKX
variable {α : Type} {Γ : Cx α} {w : Wx} {ι : α → Option Value} {μ : Md} {pc : Nat} {lv : List (Nat × Value)} {st : List Value} {S : St} {r : Option (α × St)}
theorem ok_copyJ {i k0 k1 N : Nat} {sp dp n : Int32} (hc : Cok Γ w ι μ) (h1 : Cond.methodLink μ.1.cls i arraycopyName ∈ WT) (h2 : Cond.native arraycopyName ∈ WT) (h3 : Cond.static arraycopyName ∈ WT) (h4 : Cond.initialized "java/lang/System" ∈ WT) (a0 : Iar w k0 3 N) (a1 : Iar w k1 3 N) (hf : 1 ≤ μ.2.2.2.2.frames) (hlo : (st.map fun v => v.category).sum + (nativeFrameWords "java/lang/System" "arraycopy" 5 + 11) ≤ μ.2.2.2.2.locals) (hd : decode μ.2.1 pc = .ok (.invokestatic i, 3)) (kk : cpg sp dp n N → Ok Γ w (pc + 3) lv st (cpj S k0 (nt sp) k1 (nt dp) (nt n)) r) : Ok Γ w pc lv (.int n :: .int dp :: rv Γ k1 :: .int sp :: rv Γ k0 :: st) S (if cpg sp dp n N then r else none) := by
  by_cases hg : cpg sp dp n N
  · rw [if_pos hg]
    intro hr H locs ls hP hS hl
    have hts := hc.2.2.2.2.2.1
    exact va_copyl hc.1 hc.2.1 (by rw [hc.2.2.1, hl.1, hc.2.2.2.1]) hc.2.2.2.2.1 (hts _ h1) (hts _ h2) (hts _ h3) (hts _ h4) hc.2.2.2.2.2.2.2.1 hP wl_D hS k0 k1 2 2 (a0.j _ _ _) (a1.j _ _ _) rfl rfl rfl hg.1 hg.2.1 hg.2.2.1 hg.2.2.2.1 hg.2.2.2.2 (fun _ _ => rfl) (by rw [hc.2.2.2.2.2.2.2.2.2.2.1]; exact hf) (by rw [hc.2.2.2.2.2.2.2.2.2.2.1]; exact hlo) hd (fun H1 locs1 a b c => by rw [a1.setc] at a; exact kk hg hr H1 locs1 ls a c hl)
  · rw [if_neg hg]; exact ok_none
theorem ok_gets {i a : Nat} {C nm ds host : String} (hc : Cok Γ w ι μ) (hz : va_Z C nm ds (.ref a) (AA (gn Γ) w) (gs Γ) (gs Γ).heap) (h1 : Cond.fieldLinkNest μ.1.cls i C nm ds host ∈ NW) (hd : decode μ.2.1 pc = .ok (.getstatic i, 3)) (kk : Ok Γ w (pc + 3) lv (.ref a :: st) S r) : Ok Γ w pc lv st S r := fun hr H locs ls hP hS hl => va_getsN hc.1 hc.2.1 hz hS hc.2.2.2.2.1 (va_Nw.use rfl (hc.2.2.2.2.2.2.1 _ h1)) (fun _ h => h) hd (kk hr H locs ls hP hS hl)
theorem ok_sald {a L : Nat} {xs : Nat → Int32} {i : Int32} (hc : Cok Γ w ι μ) (hX : va_T .int a L (fun j => .int (xs j)) (AA (gn Γ) w) (gs Γ) (gs Γ).heap) (hd : decode μ.2.1 pc = .ok (.iaload, 1)) (kk : ib i L → Ok Γ w (pc + 1) lv (.int (xs (nt i)) :: st) S r) : Ok Γ w pc lv (.int i :: .ref a :: st) S (if ib i L then r else none) := by
  by_cases hg : ib i L
  · rw [if_pos hg]
    exact fun hr H locs ls hP hS hl => va_ti hc.1 hc.2.1 hX hS hg rfl hd (kk hg hr H locs ls hP hS hl)
  · rw [if_neg hg]; exact ok_none
end OKX
def tlL : Nat → Int32 := fun j => ([0, 0, 1, 1, 1] : List Int32).getD j 0
def tlG : Nat → Int32 := fun j => ([50, 200, 10000, 1000000, 1000000] : List Int32).getD j 0
def ZS1 (n0 : Nat) (U : State) (nm : String) (xs : Nat → Int32) (a : Nat) : Prop := va_Z "AirParted$Told" nm "[I" (.ref a) (fun q => n0 ≤ q) U U.heap ∧ va_T .int a 5 (fun j => .int (xs j)) (fun q => n0 ≤ q) U U.heap
def ZS (n0 : Nat) (U : State) (aL aG : Nat) : Prop := ZS1 n0 U "LEAST" tlL aL ∧ ZS1 n0 U "GREATEST" tlG aG
theorem ZS1.moved {n0 : Nat} {u U : State} {nm : String} {xs : Nat → Int32} {a : Nat} (hvm : u.vm.Alike U.vm) (hh : U.heap = u.heap) (h : ZS1 n0 u nm xs a) : ZS1 n0 U nm xs a := by
  obtain ⟨h1, h2⟩ := h
  exact ⟨by rw [hh]; exact h1.moved hvm, by rw [hh]; exact h2.moved hvm⟩
theorem ZS1.kept {n0 : Nat} {u U : State} {nm : String} {xs : Nat → Int32} {a : Nat} (hvm : u.vm.Alike U.vm) (hh : ∀ q : Nat, q < u.heap.size → ¬ n0 ≤ q → U.heap[q]? = u.heap[q]?) (h : ZS1 n0 u nm xs a) : ZS1 n0 U nm xs a := by
  obtain ⟨h1, h2⟩ := h
  exact ⟨(h1.moved hvm).kept hh, (h2.moved hvm).kept hh⟩
def MTz {α : Type} (ι : α → Option Value) (w : Wx) (μ : Md) (av : Nat → List Value) (S : St) (q : α × St) : Prop := ∀ (l : Launch) (D : va_G) (ids : Nat → ClassId) (n0 aL aG : Nat), Met l μ.1 (mws μ) μ.2.2.2.2 (fun v U => v = (av n0).toArray ∧ WK D ids n0 w S U ∧ ZS n0 U aL aG) (Qof ι D ids n0 w q) 0 0 (AA n0 w)
theorem mtz_of {α : Type} {ι : α → Option Value} {w : Wx} {μ : Md} {av : Nat → List Value} {S : St} {q : α × St} (hy : plainFor μ.1 = true) (hn : ∀ n0, (lg_sl (av n0)).length ≤ μ.2.2.1)
    (body : ∀ (Γ : Cx α) (aL aG : Nat), Cok Γ w ι μ → Γ.2.2.2.2 = q → ZS (gn Γ) (gs Γ) aL aG → Ok Γ w 0 (lv_args 0 (av (gn Γ))) [] S (some q)) : MTz ι w μ av S q := by
  intro l D ids n0 aL aG
  refine va_MetF (cc := μ.2.1) (maxL := μ.2.2.1) (ret := μ.2.2.2.1) hy rfl ?_
  intro p e s m args below meth c s₁ B hml hv
  obtain ⟨rfl, ⟨hP, hK, hN⟩, hZ⟩ := hv
  have hl := lv_entry (av n0) (n := μ.2.2.1) (hn n0)
  rw [lg_entry_eq]
  generalize (lg_sl (av n0) ++ List.replicate (μ.2.2.1 - (lg_sl (av n0)).length) Slot.unset).toArray = ls at hl ⊢
  have hts := atoms_spec (ws := mws μ) B.pre
  have hown : s.vm.findClass μ.1.cls = some m.cls := findClass_of_methodNamed B.named
  exact body ((p, l, e, (headSpec (mws μ) μ.2.2.2.2).room, s, m, (av n0).toArray, below, meth, c), (D, ids, n0), (μ.2.2.1, MQ below (Qof ι D ids n0 w q) (av n0).toArray s 0 0 (AA n0 w), q)) aL aG ⟨B.exec, B.bytes, hml, rfl, hown, fun z hz => hts z (List.mem_cons_of_mem _ hz), hN, hK, B.returns, B.notSynchronized, rfl, rfl⟩ rfl hZ rfl s.heap [] ls hP va_S.rf hl
