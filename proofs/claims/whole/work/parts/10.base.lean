
/-! ===== the flat state of a system: ints and longs by cell and place; what is a reference never changes after the making ===== -/
abbrev St : Type := (Nat → Nat → Int32) × (Nat → Nat → Int64)
/-- shape of each cell (0 object of a class with so many fields; 1 ints, 2 booleans, 3 longs, 4 and on references; length), how many cells, where references go -/
abbrev Wx : Type := (Nat → Nat × Nat × Nat) × Nat × (Nat → Nat → Option Nat)
def wi (S : St) (k j : Nat) (v : Int32) : St := (fun a b => if a = k ∧ b = j then v else S.1 a b, S.2)
def wj (S : St) (k j : Nat) (v : Int64) : St := (S.1, fun a b => if a = k ∧ b = j then v else S.2 a b)
abbrev ib (i : Int32) (n : Nat) : Prop := ¬ (i < 0 ∨ n ≤ i.toNatClampNeg)
abbrev nt (i : Int32) : Nat := i.toNatClampNeg
def wcell (ids : Nat → ClassId) (n0 : Nat) (w : Wx) (S : St) (k : Nat) : va_E :=
  if (w.1 k).1 = 0 then .inr ((w.1 k).2.1, (List.range (w.1 k).2.2).map (fun j => if ft (w.1 k).2.1 j then va_rf ((w.2.2 k j).map (fun q => n0 + q)) else .int (S.1 k j)))
  else if (w.1 k).1 = 1 then .inl (ids 0, (w.1 k).2.2, .inl (S.1 k))
  else if (w.1 k).1 = 2 then .inl (ids 1, (w.1 k).2.2, .inl (S.1 k))
  else if (w.1 k).1 = 3 then .inl (ids 2, (w.1 k).2.2, .inr (.inl (S.2 k)))
  else .inl (ids ((w.1 k).2.1 + 3), (w.1 k).2.2, .inr (.inr (.inr (.inr (fun i => (w.2.2 k i).map (fun q => n0 + q))))))
def wtys (ids : Nat → ClassId) : List (ClassId × FieldType) := [(ids 0, .int), (ids 1, .boolean), (ids 2, .long), (ids 3, .object "AirParted$Sheet"), (ids 4, .object "AirParted$Sender")]
def wl (ids : Nat → ClassId) (n0 : Nat) (w : Wx) (S : St) : va_W := (List.range w.2.1).map (fun k => (n0 + k, wcell ids n0 w S k))
def AA (n0 : Nat) (w : Wx) : Nat → Prop := fun q => n0 ≤ q ∧ q < n0 + w.2.1
theorem wl_get {ids : Nat → ClassId} {n0 : Nat} {w : Wx} {S : St} {k : Nat} (hk : k < w.2.1) : (wl ids n0 w S)[k]? = some (n0 + k, wcell ids n0 w S k) := by
  simp [wl, hk]
theorem wl_of {ids : Nat → ClassId} {n0 : Nat} {w : Wx} {S : St} {k : Nat} {q : Nat × va_E} (h : (wl ids n0 w S)[k]? = some q) : k < w.2.1 ∧ q = (n0 + k, wcell ids n0 w S k) := by
  have hk : k < w.2.1 := by
    have := (List.getElem?_eq_some_iff.mp h).1
    simpa [wl] using this
  refine ⟨hk, ?_⟩
  rw [wl_get hk] at h
  exact (Option.some.inj h).symm
theorem wl_set {ids : Nat → ClassId} {n0 : Nat} {w : Wx} {S S' : St} {k : Nat} (hk : k < w.2.1) (h : ∀ a, a ≠ k → wcell ids n0 w S' a = wcell ids n0 w S a) : (wl ids n0 w S).set k (n0 + k, wcell ids n0 w S' k) = wl ids n0 w S' := by
  apply List.ext_getElem?
  intro i
  by_cases hi : i < w.2.1
  · rw [wl_get hi]
    by_cases hik : k = i
    · subst hik
      rw [List.getElem?_set_self (by simpa [wl] using hk)]
    · rw [List.getElem?_set_ne hik, wl_get hi, h i (fun q => hik q.symm)]
  · rw [List.getElem?_eq_none (by simp [wl]; omega), List.getElem?_eq_none (by simp [wl]; omega)]
theorem wl_D {ids : Nat → ClassId} {n0 : Nat} {w : Wx} {S : St} : va_D (AA n0 w) (wl ids n0 w S) := by
  refine ⟨fun i j p q hi hj hpq => ?_, fun k q hk => ?_⟩
  · obtain ⟨-, rfl⟩ := wl_of hi
    obtain ⟨-, rfl⟩ := wl_of hj
    simpa using hpq
  · obtain ⟨h, rfl⟩ := wl_of hk
    exact ⟨by simp, by simpa using h⟩
theorem wcell_wi {ids : Nat → ClassId} {n0 : Nat} {w : Wx} {S : St} {k j : Nat} {v : Int32} (a : Nat) (h : a ≠ k) : wcell ids n0 w (wi S k j v) a = wcell ids n0 w S a := by
  have e : (wi S k j v).1 a = S.1 a := by funext b; simp [wi, h]
  simp only [wcell, e]; rfl
theorem wcell_wj {ids : Nat → ClassId} {n0 : Nat} {w : Wx} {S : St} {k j : Nat} {v : Int64} (a : Nat) (h : a ≠ k) : wcell ids n0 w (wj S k j v) a = wcell ids n0 w S a := by
  have e : (wj S k j v).2 a = S.2 a := by funext b; simp [wj, h]
  simp only [wcell, e]; rfl
/-- a cell is an object of a class; a row of a kind -/
def Iob (w : Wx) (k ci nf : Nat) : Prop := k < w.2.1 ∧ w.1 k = (0, ci, nf)
def Iar (w : Wx) (k t n : Nat) : Prop := k < w.2.1 ∧ w.1 k = (t, 0, n)
def Irr (w : Wx) (k t n : Nat) : Prop := k < w.2.1 ∧ w.1 k = (4, t, n)
def fsOf (n0 : Nat) (w : Wx) (S : St) (k ci nf : Nat) : List Value := (List.range nf).map (fun j => if ft ci j then va_rf ((w.2.2 k j).map (fun q => n0 + q)) else .int (S.1 k j))
theorem Iob.cell {w : Wx} {k ci nf : Nat} (h : Iob w k ci nf) (ids : Nat → ClassId) (n0 : Nat) (S : St) : (wl ids n0 w S)[k]? = some (n0 + k, .inr (ci, fsOf n0 w S k ci nf)) := by
  rw [wl_get h.1]; simp [wcell, h.2, fsOf]
theorem Iar.i {w : Wx} {k n : Nat} (h : Iar w k 1 n) (ids : Nat → ClassId) (n0 : Nat) (S : St) : (wl ids n0 w S)[k]? = some (n0 + k, .inl (ids 0, n, .inl (S.1 k))) := by
  rw [wl_get h.1]; simp [wcell, h.2]
theorem Iar.z {w : Wx} {k n : Nat} (h : Iar w k 2 n) (ids : Nat → ClassId) (n0 : Nat) (S : St) : (wl ids n0 w S)[k]? = some (n0 + k, .inl (ids 1, n, .inl (S.1 k))) := by
  rw [wl_get h.1]; simp [wcell, h.2]
theorem Iar.j {w : Wx} {k n : Nat} (h : Iar w k 3 n) (ids : Nat → ClassId) (n0 : Nat) (S : St) : (wl ids n0 w S)[k]? = some (n0 + k, .inl (ids 2, n, .inr (.inl (S.2 k)))) := by
  rw [wl_get h.1]; simp [wcell, h.2]
theorem Irr.r {w : Wx} {k t n : Nat} (h : Irr w k t n) (ids : Nat → ClassId) (n0 : Nat) (S : St) : (wl ids n0 w S)[k]? = some (n0 + k, .inl (ids (t + 3), n, .inr (.inr (.inr (.inr (fun i => (w.2.2 k i).map (fun q => n0 + q))))))) := by
  rw [wl_get h.1]; simp [wcell, h.2]
theorem upd_wi {S : St} {k j : Nat} {v : Int32} : (wi S k j v).1 k = upd (S.1 k) j v := by funext b; simp [wi, upd]
theorem upd_wj {S : St} {k j : Nat} {v : Int64} : (wj S k j v).2 k = vp_updL (S.2 k) j v := by funext b; simp [wj, vp_updL]
theorem Iar.seti {w : Wx} {k n : Nat} (h : Iar w k 1 n) {ids : Nat → ClassId} {n0 : Nat} {S : St} {j : Nat} {v : Int32} : (wl ids n0 w S).set k (n0 + k, .inl (ids 0, n, .inl (upd (S.1 k) j v))) = wl ids n0 w (wi S k j v) := by
  rw [← wl_set h.1 (S' := wi S k j v) (fun a ha => wcell_wi a ha)]
  simp [wcell, h.2, upd_wi]
theorem Iar.setz {w : Wx} {k n : Nat} (h : Iar w k 2 n) {ids : Nat → ClassId} {n0 : Nat} {S : St} {j : Nat} {v : Int32} : (wl ids n0 w S).set k (n0 + k, .inl (ids 1, n, .inl (upd (S.1 k) j v))) = wl ids n0 w (wi S k j v) := by
  rw [← wl_set h.1 (S' := wi S k j v) (fun a ha => wcell_wi a ha)]
  simp [wcell, h.2, upd_wi]
theorem Iar.setj {w : Wx} {k n : Nat} (h : Iar w k 3 n) {ids : Nat → ClassId} {n0 : Nat} {S : St} {j : Nat} {v : Int64} : (wl ids n0 w S).set k (n0 + k, .inl (ids 2, n, .inr (.inl (vp_updL (S.2 k) j v)))) = wl ids n0 w (wj S k j v) := by
  rw [← wl_set h.1 (S' := wj S k j v) (fun a ha => wcell_wj a ha)]
  simp [wcell, h.2, upd_wj]
theorem fsOf_get {n0 : Nat} {w : Wx} {S : St} {k ci nf j : Nat} (hj : j < nf) : (fsOf n0 w S k ci nf)[j]? = some (if ft ci j then va_rf ((w.2.2 k j).map (fun q => n0 + q)) else .int (S.1 k j)) := by
  simp [fsOf, hj]
theorem fsOf_len {n0 : Nat} {w : Wx} {S : St} {k ci nf : Nat} : (fsOf n0 w S k ci nf).length = nf := by simp [fsOf]
theorem fsOf_set {n0 : Nat} {w : Wx} {S : St} {k ci nf j : Nat} {v : Int32} (hj : j < nf) (hf : ft ci j = false) : (fsOf n0 w S k ci nf).set j (.int v) = fsOf n0 w (wi S k j v) k ci nf := by
  apply List.ext_getElem?
  intro i
  by_cases hi : i < nf
  · rw [fsOf_get hi]
    by_cases hij : j = i
    · subst hij
      rw [List.getElem?_set_self (by rw [fsOf_len]; exact hj), hf]
      simp [wi]
    · rw [List.getElem?_set_ne hij, fsOf_get hi]
      have hne : ¬ i = j := fun q => hij q.symm
      simp [wi, hne]
  · rw [List.getElem?_eq_none (by simp [fsOf_len]; omega), List.getElem?_eq_none (by simp [fsOf_len]; omega)]
theorem Iob.set {w : Wx} {k ci nf : Nat} (h : Iob w k ci nf) {ids : Nat → ClassId} {n0 : Nat} {S : St} {j : Nat} {v : Int32} (hj : j < nf) (hf : ft ci j = false) : (wl ids n0 w S).set k (n0 + k, .inr (ci, (fsOf n0 w S k ci nf).set j (.int v))) = wl ids n0 w (wi S k j v) := by
  rw [fsOf_set hj hf, ← wl_set h.1 (S' := wi S k j v) (fun a ha => wcell_wi a ha)]
  simp [wcell, h.2, fsOf]
theorem NW_warm {w : Cond} (h : w ∈ NW) {s U : State} (hW : s.WarmedH U.vm) (hZ : va_Nw w s) : va_Nw w U := by
  have hn := (List.mem_filter.mp h).2
  cases w with
  | fieldLinkNest _ _ _ _ _ _ => exact va_Nw.warmF hW hZ
  | methodLinkNest _ _ _ _ => exact va_Nw.warmM hW hZ
  | arrayOver t =>
    cases t with
    | object C => exact va_AO.moved hW.alike hZ
    | _ => simp [isNest] at hn
  | _ => simp [isNest] at hn
theorem NW_same {w : Cond} (h : w ∈ NW) {u U : State} (hv : u.vm = U.vm) (hZ : va_Nw w u) : va_Nw w U := by
  have hn := (List.mem_filter.mp h).2
  cases w with
  | fieldLinkNest _ _ _ _ _ _ => exact va_Nw.same rfl hv hZ
  | methodLinkNest _ _ _ _ => exact va_Nw.same rfl hv hZ
  | arrayOver t =>
    cases t with
    | object C => exact va_AO.moved (hv ▸ Vm.Alike.refl _) hZ
    | _ => simp [isNest] at hn
  | _ => simp [isNest] at hn
/-- a method: name, code, locals, answer, room -/
abbrev Md : Type := MethodName × ByteArray × Nat × Option FieldType × Room
def mws (μ : Md) : List Cond := .code μ.1 μ.2.1 μ.2.2.1 μ.2.2.2.1 :: WT
def WK (D : va_G) (ids : Nat → ClassId) (n0 : Nat) (w : Wx) (S : St) (U : State) : Prop := va_P D vwCl (wl ids n0 w S) U.heap ∧ va_K D vwCl (wtys ids) U ∧ ∀ z ∈ NW, va_Nw z U
def Qof {α : Type} (ι : α → Option Value) (D : va_G) (ids : Nat → ClassId) (n0 : Nat) (w : Wx) (q : α × St) : Array Value → State → Outcome → State → Prop := fun _ st o t => o = .returned (ι q.1) ∧ WK D ids n0 w q.2 t ∧ va_F (AA n0 w) st t
/-- the method's contract: from the state S with these arguments it answers q.1 and leaves q.2 -/
def MT {α : Type} (ι : α → Option Value) (w : Wx) (μ : Md) (av : Nat → List Value) (S : St) (q : α × St) : Prop := ∀ (l : Launch) (D : va_G) (ids : Nat → ClassId) (n0 : Nat), Met l μ.1 (mws μ) μ.2.2.2.2 (fun v U => v = (av n0).toArray ∧ WK D ids n0 w S U) (Qof ι D ids n0 w q) 0 0 (AA n0 w)
abbrev vI : Int32 → Option Value := fun v => some (.int v)
abbrev vL : Int64 → Option Value := fun v => some (.long v)
abbrev vU : Unit → Option Value := fun _ => none
abbrev Mx : Type := Program × Launch × Env × Room × State × MethodId × Array Value × List Frame × Method × Code
abbrev Cx (α : Type) : Type := Mx × (va_G × (Nat → ClassId) × Nat) × (Nat × (State → Prop) × (α × St))
abbrev gn {α : Type} (Γ : Cx α) : Nat := Γ.2.1.2.2
abbrev rv {α : Type} (Γ : Cx α) (k : Nat) : Value := .ref (gn Γ + k)
def Wat {α : Type} (Γ : Cx α) (H : Heap) (locs : List Loc) (g : JFrame) : Prop := W Γ.1.1 Γ.1.2.1 Γ.1.2.2.1 Γ.1.2.2.2.1 Γ.1.2.2.2.2.1 Γ.1.2.2.2.2.2.1 Γ.1.2.2.2.2.2.2.1 Γ.1.2.2.2.2.2.2.2.1 Γ.1.2.2.2.2.2.2.2.2.1 Γ.1.2.2.2.2.2.2.2.2.2 H locs 0 0 Γ.2.2.2.1 g
abbrev gm {α : Type} (Γ : Cx α) : MethodId := Γ.1.2.2.2.2.2.1
abbrev gs {α : Type} (Γ : Cx α) : State := Γ.1.2.2.2.2.1
/-- at pc, with these locals and this stack, in the state S: if what is left to compute, r, is the answer, the machine comes to it -/
def Ok {α : Type} (Γ : Cx α) (w : Wx) (pc : Nat) (lv : List (Nat × Value)) (st : List Value) (S : St) (r : Option (α × St)) : Prop :=
  r = some Γ.2.2.2.2 → ∀ (H : Heap) (locs : List Loc) (ls : Array Slot), va_P Γ.2.1.1 vwCl (wl Γ.2.1.2.1 (gn Γ) w S) H → va_S (AA (gn Γ) w) (gs Γ).heap H locs → lv_has ls Γ.2.2.1 lv → Wat Γ H locs (F0 (gm Γ) pc ls st)
def Cok {α : Type} (Γ : Cx α) (w : Wx) (ι : α → Option Value) (μ : Md) : Prop :=
  Γ.1.1.tables.exec = Jvm.exec ∧ Γ.1.2.2.2.2.2.2.2.2.2.code = μ.2.1 ∧ Γ.1.2.2.2.2.2.2.2.2.2.maxLocals = μ.2.2.1 ∧ Γ.2.2.1 = μ.2.2.1 ∧ (gs Γ).vm.findClass μ.1.cls = some (gm Γ).cls ∧ (∀ z ∈ WT, z.before Γ.1.2.2.2.2.2.2.1 (gs Γ) = true) ∧ (∀ z ∈ NW, va_Nw z (gs Γ)) ∧ va_K Γ.2.1.1 vwCl (wtys Γ.2.1.2.1) (gs Γ) ∧ Γ.1.2.2.2.2.2.2.2.2.1.sig.returnType = μ.2.2.2.1 ∧ Γ.1.2.2.2.2.2.2.2.2.1.locks = false ∧ Γ.1.2.2.2.1 = μ.2.2.2.2 ∧ Γ.2.2.2.1 = MQ Γ.1.2.2.2.2.2.2.2.1 (Qof ι Γ.2.1.1 Γ.2.1.2.1 (gn Γ) w Γ.2.2.2.2) Γ.1.2.2.2.2.2.2.1 (gs Γ) 0 0 (AA (gn Γ) w)
/-- a method's contract out of a walk of its body -/
theorem mt_of {α : Type} {ι : α → Option Value} {w : Wx} {μ : Md} {av : Nat → List Value} {S : St} {q : α × St} (hy : plainFor μ.1 = true) (hn : ∀ n0, (lg_sl (av n0)).length ≤ μ.2.2.1)
    (body : ∀ Γ : Cx α, Cok Γ w ι μ → Γ.2.2.2.2 = q → Ok Γ w 0 (lv_args 0 (av (gn Γ))) [] S (some q)) : MT ι w μ av S q := by
  intro l D ids n0
  refine va_MetF (cc := μ.2.1) (maxL := μ.2.2.1) (ret := μ.2.2.2.1) hy rfl ?_
  intro p e s m args below meth c s₁ B hml hv
  obtain ⟨rfl, hP, hK, hN⟩ := hv
  have hl := lv_entry (av n0) (n := μ.2.2.1) (hn n0)
  rw [lg_entry_eq]
  generalize (lg_sl (av n0) ++ List.replicate (μ.2.2.1 - (lg_sl (av n0)).length) Slot.unset).toArray = ls at hl ⊢
  have hts := atoms_spec (ws := mws μ) B.pre
  have hown : s.vm.findClass μ.1.cls = some m.cls := findClass_of_methodNamed B.named
  exact body ((p, l, e, (headSpec (mws μ) μ.2.2.2.2).room, s, m, (av n0).toArray, below, meth, c), (D, ids, n0), (μ.2.2.1, MQ below (Qof ι D ids n0 w q) (av n0).toArray s 0 0 (AA n0 w), q)) ⟨B.exec, B.bytes, hml, rfl, hown, fun z hz => hts z (List.mem_cons_of_mem _ hz), hN, hK, B.returns, B.notSynchronized, rfl, rfl⟩ rfl rfl s.heap [] ls hP va_S.rf hl
section OKS
variable {α : Type} {Γ : Cx α} {w : Wx} {ι : α → Option Value} {μ : Md} {pc : Nat} {lv : List (Nat × Value)} {st : List Value} {S : St} {r : Option (α × St)}
theorem ok_eq {lv' : List (Nat × Value)} {st' : List Value} {S' : St} {r' : Option (α × St)} (k : Ok Γ w pc lv st S r) (h1 : lv' = lv) (h2 : st' = st) (h3 : S' = S) (h4 : r' = r) : Ok Γ w pc lv' st' S' r' := by subst h1 h2 h3 h4; exact k
theorem ok_none : Ok Γ w pc lv st S none := fun h => by cases h
theorem ok_sub (ks : List Nat) {lv' : List (Nat × Value)} (h : lv_pick lv ks = lv') (k : Ok Γ w pc lv' st S r) : Ok Γ w pc lv st S r := fun hr H locs ls hP hS hl => k hr H locs ls hP hS (lv_sub hl ks h)
theorem ok_letS {S0 : St} {f : St → Option (α × St)} (k : ∀ S1, Ok Γ w pc lv st S1 (f S1)) : Ok Γ w pc lv st S0 (f S0) := k S0
theorem ok_leti {x : Int32} {f : Int32 → Option (α × St)} (k : ∀ v, Ok Γ w pc lv (.int v :: st) S (f v)) : Ok Γ w pc lv (.int x :: st) S (f x) := k x
theorem ok_letl {x : Int64} {f : Int64 → Option (α × St)} (k : ∀ v, Ok Γ w pc lv (.long v :: st) S (f v)) : Ok Γ w pc lv (.long x :: st) S (f x) := k x

theorem ok_iconst {n : Int} {v : Int32} (hc : Cok Γ w ι μ) (hd : decode μ.2.1 pc = .ok (.iconst n, 1)) (hv : Int32.ofInt n = v) (k : Ok Γ w (pc + 1) lv (.int v :: st) S r) : Ok Γ w pc lv (st) S r := fun hr H locs ls hP hS hl => lv_iconst hc.1 hc.2.1 hd hv (k hr H locs ls hP hS hl)
theorem ok_bipush {n : Int} {v : Int32} (hc : Cok Γ w ι μ) (hd : decode μ.2.1 pc = .ok (.bipush n, 2)) (hv : (Int8.ofInt n).toInt32 = v) (k : Ok Γ w (pc + 2) lv (.int v :: st) S r) : Ok Γ w pc lv (st) S r := fun hr H locs ls hP hS hl => lv_bipush hc.1 hc.2.1 hd hv (k hr H locs ls hP hS hl)
theorem ok_sipush {n : Int} {v : Int32} (hc : Cok Γ w ι μ) (hd : decode μ.2.1 pc = .ok (.sipush n, 3)) (hv : (Int16.ofInt n).toInt32 = v) (k : Ok Γ w (pc + 3) lv (.int v :: st) S r) : Ok Γ w pc lv (st) S r := fun hr H locs ls hP hS hl => lv_sipush hc.1 hc.2.1 hd hv (k hr H locs ls hP hS hl)
theorem ok_lconst {n : Fin 2} {v : Int64} (hc : Cok Γ w ι μ) (hd : decode μ.2.1 pc = .ok (.lconst n, 1)) (hv : Int64.ofNat (n : Nat) = v) (k : Ok Γ w (pc + 1) lv (.long v :: st) S r) : Ok Γ w pc lv (st) S r := fun hr H locs ls hP hS hl => lv_lconst hc.1 hc.2.1 hd hv (k hr H locs ls hP hS hl)
theorem ok_ldc {i : Nat} {v : Int32} (hc : Cok Γ w ι μ) (hd : decode μ.2.1 pc = .ok (.ldc i, 2)) (hm : Cond.constant μ.1.cls i v ∈ WT) (k : Ok Γ w (pc + 2) lv (.int v :: st) S r) : Ok Γ w pc lv (st) S r := fun hr H locs ls hP hS hl => lv_ldc hc.1 hc.2.1 hc.2.2.2.2.1 (hc.2.2.2.2.2.1 _ hm) hd (k hr H locs ls hP hS hl)
theorem ok_ldcw {i : Nat} {v : Int32} (hc : Cok Γ w ι μ) (hd : decode μ.2.1 pc = .ok (.ldc_w i, 3)) (hm : Cond.constant μ.1.cls i v ∈ WT) (k : Ok Γ w (pc + 3) lv (.int v :: st) S r) : Ok Γ w pc lv (st) S r := fun hr H locs ls hP hS hl => lv_ldcw hc.1 hc.2.1 hc.2.2.2.2.1 (hc.2.2.2.2.2.1 _ hm) hd (k hr H locs ls hP hS hl)
theorem ok_ldc2 {i : Nat} {v : Int64} (hc : Cok Γ w ι μ) (hd : decode μ.2.1 pc = .ok (.ldc2_w i, 3)) (hm : Cond.constantLong μ.1.cls i v ∈ WT) (k : Ok Γ w (pc + 3) lv (.long v :: st) S r) : Ok Γ w pc lv (st) S r := fun hr H locs ls hP hS hl => lv_ldc2 hc.1 hc.2.1 hc.2.2.2.2.1 (hc.2.2.2.2.2.1 _ hm) hd (k hr H locs ls hP hS hl)
theorem ok_iload {i : Nat} {x : Int32} (kk : Nat) (hc : Cok Γ w ι μ) (hd : decode μ.2.1 pc = .ok (.iload i, 2)) (hx : lv[kk]? = some (i, .int x)) (k : Ok Γ w (pc + 2) lv (.int x :: st) S r) : Ok Γ w pc lv (st) S r := fun hr H locs ls hP hS hl => lv_iload hc.1 hc.2.1 hd (lv_at hl kk hx) (k hr H locs ls hP hS hl)
theorem ok_iload_n {n : Fin 4} {i : Nat} {x : Int32} (kk : Nat) (hc : Cok Γ w ι μ) (hd : decode μ.2.1 pc = .ok (.iload_n n, 1)) (hi : (n : Nat) = i) (hx : lv[kk]? = some (i, .int x)) (k : Ok Γ w (pc + 1) lv (.int x :: st) S r) : Ok Γ w pc lv (st) S r := fun hr H locs ls hP hS hl => lv_iload_n hc.1 hc.2.1 hd hi (lv_at hl kk hx) (k hr H locs ls hP hS hl)
theorem ok_lload {i : Nat} {x : Int64} (kk : Nat) (hc : Cok Γ w ι μ) (hd : decode μ.2.1 pc = .ok (.lload i, 2)) (hx : lv[kk]? = some (i, .long x)) (k : Ok Γ w (pc + 2) lv (.long x :: st) S r) : Ok Γ w pc lv (st) S r := fun hr H locs ls hP hS hl => lv_lload hc.1 hc.2.1 hd (lv_at hl kk hx) (k hr H locs ls hP hS hl)
theorem ok_lload_n {n : Fin 4} {i : Nat} {x : Int64} (kk : Nat) (hc : Cok Γ w ι μ) (hd : decode μ.2.1 pc = .ok (.lload_n n, 1)) (hi : (n : Nat) = i) (hx : lv[kk]? = some (i, .long x)) (k : Ok Γ w (pc + 1) lv (.long x :: st) S r) : Ok Γ w pc lv (st) S r := fun hr H locs ls hP hS hl => lv_lload_n hc.1 hc.2.1 hd hi (lv_at hl kk hx) (k hr H locs ls hP hS hl)
theorem ok_aload {i : Nat} {x : Nat} (kk : Nat) (hc : Cok Γ w ι μ) (hd : decode μ.2.1 pc = .ok (.aload i, 2)) (hx : lv[kk]? = some (i, .ref x)) (k : Ok Γ w (pc + 2) lv (.ref x :: st) S r) : Ok Γ w pc lv (st) S r := fun hr H locs ls hP hS hl => lv_aload hc.1 hc.2.1 hd (lv_at hl kk hx) (k hr H locs ls hP hS hl)
theorem ok_aload_n {n : Fin 4} {i : Nat} {x : Nat} (kk : Nat) (hc : Cok Γ w ι μ) (hd : decode μ.2.1 pc = .ok (.aload_n n, 1)) (hi : (n : Nat) = i) (hx : lv[kk]? = some (i, .ref x)) (k : Ok Γ w (pc + 1) lv (.ref x :: st) S r) : Ok Γ w pc lv (st) S r := fun hr H locs ls hP hS hl => lv_aload_n hc.1 hc.2.1 hd hi (lv_at hl kk hx) (k hr H locs ls hP hS hl)
theorem ok_iadd {x y : Int32} (hc : Cok Γ w ι μ) (hd : decode μ.2.1 pc = .ok (.iadd, 1)) (k : Ok Γ w (pc + 1) lv (.int (x + y) :: st) S r) : Ok Γ w pc lv (.int y :: .int x :: st) S r := fun hr H locs ls hP hS hl => lv_iadd hc.1 hc.2.1 hd (k hr H locs ls hP hS hl)
theorem ok_isub {x y : Int32} (hc : Cok Γ w ι μ) (hd : decode μ.2.1 pc = .ok (.isub, 1)) (k : Ok Γ w (pc + 1) lv (.int (x - y) :: st) S r) : Ok Γ w pc lv (.int y :: .int x :: st) S r := fun hr H locs ls hP hS hl => lv_isub hc.1 hc.2.1 hd (k hr H locs ls hP hS hl)
theorem ok_imul {x y : Int32} (hc : Cok Γ w ι μ) (hd : decode μ.2.1 pc = .ok (.imul, 1)) (k : Ok Γ w (pc + 1) lv (.int (x * y) :: st) S r) : Ok Γ w pc lv (.int y :: .int x :: st) S r := fun hr H locs ls hP hS hl => lv_imul hc.1 hc.2.1 hd (k hr H locs ls hP hS hl)
theorem ok_iand {x y : Int32} (hc : Cok Γ w ι μ) (hd : decode μ.2.1 pc = .ok (.iand, 1)) (k : Ok Γ w (pc + 1) lv (.int (x &&& y) :: st) S r) : Ok Γ w pc lv (.int y :: .int x :: st) S r := fun hr H locs ls hP hS hl => lv_iand hc.1 hc.2.1 hd (k hr H locs ls hP hS hl)
theorem ok_ior {x y : Int32} (hc : Cok Γ w ι μ) (hd : decode μ.2.1 pc = .ok (.ior, 1)) (k : Ok Γ w (pc + 1) lv (.int (x ||| y) :: st) S r) : Ok Γ w pc lv (.int y :: .int x :: st) S r := fun hr H locs ls hP hS hl => lv_ior hc.1 hc.2.1 hd (k hr H locs ls hP hS hl)
theorem ok_ixor {x y : Int32} (hc : Cok Γ w ι μ) (hd : decode μ.2.1 pc = .ok (.ixor, 1)) (k : Ok Γ w (pc + 1) lv (.int (x ^^^ y) :: st) S r) : Ok Γ w pc lv (.int y :: .int x :: st) S r := fun hr H locs ls hP hS hl => lv_ixor hc.1 hc.2.1 hd (k hr H locs ls hP hS hl)
theorem ok_ladd {x y : Int64} (hc : Cok Γ w ι μ) (hd : decode μ.2.1 pc = .ok (.ladd, 1)) (k : Ok Γ w (pc + 1) lv (.long (x + y) :: st) S r) : Ok Γ w pc lv (.long y :: .long x :: st) S r := fun hr H locs ls hP hS hl => lv_ladd hc.1 hc.2.1 hd (k hr H locs ls hP hS hl)
theorem ok_lsub {x y : Int64} (hc : Cok Γ w ι μ) (hd : decode μ.2.1 pc = .ok (.lsub, 1)) (k : Ok Γ w (pc + 1) lv (.long (x - y) :: st) S r) : Ok Γ w pc lv (.long y :: .long x :: st) S r := fun hr H locs ls hP hS hl => lv_lsub hc.1 hc.2.1 hd (k hr H locs ls hP hS hl)
theorem ok_lmul {x y : Int64} (hc : Cok Γ w ι μ) (hd : decode μ.2.1 pc = .ok (.lmul, 1)) (k : Ok Γ w (pc + 1) lv (.long (x * y) :: st) S r) : Ok Γ w pc lv (.long y :: .long x :: st) S r := fun hr H locs ls hP hS hl => lv_lmul hc.1 hc.2.1 hd (k hr H locs ls hP hS hl)
theorem ok_land {x y : Int64} (hc : Cok Γ w ι μ) (hd : decode μ.2.1 pc = .ok (.land, 1)) (k : Ok Γ w (pc + 1) lv (.long (x &&& y) :: st) S r) : Ok Γ w pc lv (.long y :: .long x :: st) S r := fun hr H locs ls hP hS hl => lv_land hc.1 hc.2.1 hd (k hr H locs ls hP hS hl)
theorem ok_lor {x y : Int64} (hc : Cok Γ w ι μ) (hd : decode μ.2.1 pc = .ok (.lor, 1)) (k : Ok Γ w (pc + 1) lv (.long (x ||| y) :: st) S r) : Ok Γ w pc lv (.long y :: .long x :: st) S r := fun hr H locs ls hP hS hl => lv_lor hc.1 hc.2.1 hd (k hr H locs ls hP hS hl)
theorem ok_ishl {x y : Int32} (hc : Cok Γ w ι μ) (hd : decode μ.2.1 pc = .ok (.ishl, 1)) (k : Ok Γ w (pc + 1) lv (.int (x <<< (y &&& 31)) :: st) S r) : Ok Γ w pc lv (.int y :: .int x :: st) S r := fun hr H locs ls hP hS hl => lv_ishl hc.1 hc.2.1 hd (k hr H locs ls hP hS hl)
theorem ok_ishr {x y : Int32} (hc : Cok Γ w ι μ) (hd : decode μ.2.1 pc = .ok (.ishr, 1)) (k : Ok Γ w (pc + 1) lv (.int (x >>> (y &&& 31)) :: st) S r) : Ok Γ w pc lv (.int y :: .int x :: st) S r := fun hr H locs ls hP hS hl => lv_ishr hc.1 hc.2.1 hd (k hr H locs ls hP hS hl)
def ush (x y : Int32) : Int32 := (x.toUInt32 >>> (y.toUInt32 &&& Int32.toUInt32 31)).toInt32
theorem ok_iushr {x y : Int32} (hc : Cok Γ w ι μ) (hd : decode μ.2.1 pc = .ok (.iushr, 1)) (k : Ok Γ w (pc + 1) lv (.int (ush x y) :: st) S r) : Ok Γ w pc lv (.int y :: .int x :: st) S r := fun hr H locs ls hP hS hl => lv_iushr hc.1 hc.2.1 hd rfl (k hr H locs ls hP hS hl)
theorem ok_lshl {x : Int64} {y : Int32} (hc : Cok Γ w ι μ) (hd : decode μ.2.1 pc = .ok (.lshl, 1)) (k : Ok Γ w (pc + 1) lv (.long (x <<< (y.toInt64 &&& 63)) :: st) S r) : Ok Γ w pc lv (.int y :: .long x :: st) S r := fun hr H locs ls hP hS hl => lv_lshl hc.1 hc.2.1 hd rfl (k hr H locs ls hP hS hl)
theorem ok_ineg {x : Int32} (hc : Cok Γ w ι μ) (hd : decode μ.2.1 pc = .ok (.ineg, 1)) (k : Ok Γ w (pc + 1) lv (.int (-x) :: st) S r) : Ok Γ w pc lv (.int x :: st) S r := fun hr H locs ls hP hS hl => lv_ineg hc.1 hc.2.1 hd (k hr H locs ls hP hS hl)
theorem ok_lneg {x : Int64} (hc : Cok Γ w ι μ) (hd : decode μ.2.1 pc = .ok (.lneg, 1)) (k : Ok Γ w (pc + 1) lv (.long (-x) :: st) S r) : Ok Γ w pc lv (.long x :: st) S r := fun hr H locs ls hP hS hl => lv_lneg hc.1 hc.2.1 hd (k hr H locs ls hP hS hl)
abbrev ire (x y : Int32) : Int32 := x - x / y * y
abbrev lre (x y : Int64) : Int64 := x - x / y * y
theorem ok_idiv {x y : Int32} (hc : Cok Γ w ι μ) (hd : decode μ.2.1 pc = .ok (.idiv, 1)) (k : (¬ y = 0) → Ok Γ w (pc + 1) lv (.int (x / y) :: st) S r) : Ok Γ w pc lv (.int y :: .int x :: st) S (if ¬ y = 0 then r else none) := by
  intro hr H locs ls hP hS hl
  by_cases hg : ¬ y = 0
  · rw [if_pos hg] at hr
    exact lv_idiv hc.1 hc.2.1 hd hg (k hg hr H locs ls hP hS hl)
  · rw [if_neg hg] at hr
    cases hr
theorem ok_irem {x y : Int32} (hc : Cok Γ w ι μ) (hd : decode μ.2.1 pc = .ok (.irem, 1)) (k : (¬ y = 0) → Ok Γ w (pc + 1) lv (.int (ire x y) :: st) S r) : Ok Γ w pc lv (.int y :: .int x :: st) S (if ¬ y = 0 then r else none) := by
  intro hr H locs ls hP hS hl
  by_cases hg : ¬ y = 0
  · rw [if_pos hg] at hr
    exact lv_irem hc.1 hc.2.1 hd hg (k hg hr H locs ls hP hS hl)
  · rw [if_neg hg] at hr
    cases hr
theorem ok_ldiv {x y : Int64} (hc : Cok Γ w ι μ) (hd : decode μ.2.1 pc = .ok (.ldiv, 1)) (k : (¬ y = 0) → Ok Γ w (pc + 1) lv (.long (x / y) :: st) S r) : Ok Γ w pc lv (.long y :: .long x :: st) S (if ¬ y = 0 then r else none) := by
  intro hr H locs ls hP hS hl
  by_cases hg : ¬ y = 0
  · rw [if_pos hg] at hr
    exact lv_ldiv hc.1 hc.2.1 hd hg (k hg hr H locs ls hP hS hl)
  · rw [if_neg hg] at hr
    cases hr
theorem ok_lrem {x y : Int64} (hc : Cok Γ w ι μ) (hd : decode μ.2.1 pc = .ok (.lrem, 1)) (k : (¬ y = 0) → Ok Γ w (pc + 1) lv (.long (lre x y) :: st) S r) : Ok Γ w pc lv (.long y :: .long x :: st) S (if ¬ y = 0 then r else none) := by
  intro hr H locs ls hP hS hl
  by_cases hg : ¬ y = 0
  · rw [if_pos hg] at hr
    exact lv_lrem hc.1 hc.2.1 hd hg (k hg hr H locs ls hP hS hl)
  · rw [if_neg hg] at hr
    cases hr
theorem ok_idivK {x y : Int32} (hc : Cok Γ w ι μ) (hd : decode μ.2.1 pc = .ok (.idiv, 1)) (hg : ¬ y = 0) (k : Ok Γ w (pc + 1) lv (.int (x / y) :: st) S r) : Ok Γ w pc lv (.int y :: .int x :: st) S r := fun hr H locs ls hP hS hl => lv_idiv hc.1 hc.2.1 hd hg (k hr H locs ls hP hS hl)
theorem ok_iremK {x y : Int32} (hc : Cok Γ w ι μ) (hd : decode μ.2.1 pc = .ok (.irem, 1)) (hg : ¬ y = 0) (k : Ok Γ w (pc + 1) lv (.int (ire x y) :: st) S r) : Ok Γ w pc lv (.int y :: .int x :: st) S r := fun hr H locs ls hP hS hl => lv_irem hc.1 hc.2.1 hd hg (k hr H locs ls hP hS hl)
theorem ok_ldivK {x y : Int64} (hc : Cok Γ w ι μ) (hd : decode μ.2.1 pc = .ok (.ldiv, 1)) (hg : ¬ y = 0) (k : Ok Γ w (pc + 1) lv (.long (x / y) :: st) S r) : Ok Γ w pc lv (.long y :: .long x :: st) S r := fun hr H locs ls hP hS hl => lv_ldiv hc.1 hc.2.1 hd hg (k hr H locs ls hP hS hl)
theorem ok_lremK {x y : Int64} (hc : Cok Γ w ι μ) (hd : decode μ.2.1 pc = .ok (.lrem, 1)) (hg : ¬ y = 0) (k : Ok Γ w (pc + 1) lv (.long (lre x y) :: st) S r) : Ok Γ w pc lv (.long y :: .long x :: st) S r := fun hr H locs ls hP hS hl => lv_lrem hc.1 hc.2.1 hd hg (k hr H locs ls hP hS hl)
theorem ok_i2l {x : Int32} (hc : Cok Γ w ι μ) (hd : decode μ.2.1 pc = .ok (.i2l, 1)) (k : Ok Γ w (pc + 1) lv (.long (x.toInt64) :: st) S r) : Ok Γ w pc lv (.int x :: st) S r := fun hr H locs ls hP hS hl => lv_i2l hc.1 hc.2.1 hd rfl (k hr H locs ls hP hS hl)
theorem ok_l2i {x : Int64} (hc : Cok Γ w ι μ) (hd : decode μ.2.1 pc = .ok (.l2i, 1)) (k : Ok Γ w (pc + 1) lv (.int (x.toInt32) :: st) S r) : Ok Γ w pc lv (.long x :: st) S r := fun hr H locs ls hP hS hl => lv_l2i hc.1 hc.2.1 hd rfl (k hr H locs ls hP hS hl)
theorem ok_i2b {x : Int32} (hc : Cok Γ w ι μ) (hd : decode μ.2.1 pc = .ok (.i2b, 1)) (k : Ok Γ w (pc + 1) lv (.int (x.toInt8.toInt32) :: st) S r) : Ok Γ w pc lv (.int x :: st) S r := fun hr H locs ls hP hS hl => lv_i2b hc.1 hc.2.1 hd rfl (k hr H locs ls hP hS hl)
theorem ok_i2s {x : Int32} (hc : Cok Γ w ι μ) (hd : decode μ.2.1 pc = .ok (.i2s, 1)) (k : Ok Γ w (pc + 1) lv (.int (x.toInt16.toInt32) :: st) S r) : Ok Γ w pc lv (.int x :: st) S r := fun hr H locs ls hP hS hl => lv_i2s hc.1 hc.2.1 hd rfl (k hr H locs ls hP hS hl)
theorem ok_dup {v : Value} (hc : Cok Γ w ι μ) (hd : decode μ.2.1 pc = .ok (.dup, 1)) (hv : v.category = 1) (k : Ok Γ w (pc + 1) lv (v :: v :: st) S r) : Ok Γ w pc lv (v :: st) S r := fun hr H locs ls hP hS hl => lv_dup hc.1 hc.2.1 hd hv (k hr H locs ls hP hS hl)
theorem ok_pop {v : Value} (hc : Cok Γ w ι μ) (hd : decode μ.2.1 pc = .ok (.pop, 1)) (hv : v.category = 1) (k : Ok Γ w (pc + 1) lv (st) S r) : Ok Γ w pc lv (v :: st) S r := fun hr H locs ls hP hS hl => lv_pop hc.1 hc.2.1 hd hv (k hr H locs ls hP hS hl)
theorem ok_dup2 {v u : Value} (hc : Cok Γ w ι μ) (hd : decode μ.2.1 pc = .ok (.dup2, 1)) (hv : v.category = 1) (hu : u.category = 1) (k : Ok Γ w (pc + 1) lv (v :: u :: v :: u :: st) S r) : Ok Γ w pc lv (v :: u :: st) S r := fun hr H locs ls hP hS hl => lv_dup2_11 hc.1 hc.2.1 hd hv hu (k hr H locs ls hP hS hl)
def stI (lv : List (Nat × Value)) (i : Nat) : List (Nat × Value) := lv.filter (fun q => !(q.1 == i) && !(q.1 + 1 == i && q.2.category == 2))
def stL (lv : List (Nat × Value)) (i : Nat) : List (Nat × Value) := lv.filter (fun q => !(q.1 == i) && (!(q.1 == i + 1) && !(q.1 + 1 == i && q.2.category == 2)))
theorem ok_istore {i : Nat} {x : Int32} (lv' : List (Nat × Value)) (hc : Cok Γ w ι μ) (hd : decode μ.2.1 pc = .ok (.istore i, 2)) (hn : i < μ.2.2.1) (h : (i, Value.int x) :: stI lv i = lv') (k : Ok Γ w (pc + 2) lv' st S r) : Ok Γ w pc lv (.int x :: st) S r := fun hr H locs ls hP hS hl => lv_istore hc.1 hc.2.1 hd hl (by rw [hc.2.2.2.1]; exact hn) h (fun ls hl => k hr H locs ls hP hS hl)
theorem ok_istore_n {n : Fin 4} {i : Nat} {x : Int32} (lv' : List (Nat × Value)) (hc : Cok Γ w ι μ) (hd : decode μ.2.1 pc = .ok (.istore_n n, 1)) (hi : (n : Nat) = i) (hn : i < μ.2.2.1) (h : (i, Value.int x) :: stI lv i = lv') (k : Ok Γ w (pc + 1) lv' st S r) : Ok Γ w pc lv (.int x :: st) S r := fun hr H locs ls hP hS hl => lv_istore_n hc.1 hc.2.1 hd hi hl (by rw [hc.2.2.2.1]; exact hn) h (fun ls hl => k hr H locs ls hP hS hl)
theorem ok_lstore {i : Nat} {x : Int64} (lv' : List (Nat × Value)) (hc : Cok Γ w ι μ) (hd : decode μ.2.1 pc = .ok (.lstore i, 2)) (hn : i + 1 < μ.2.2.1) (h : (i, Value.long x) :: stL lv i = lv') (k : Ok Γ w (pc + 2) lv' st S r) : Ok Γ w pc lv (.long x :: st) S r := fun hr H locs ls hP hS hl => lv_lstore hc.1 hc.2.1 hd hl (by rw [hc.2.2.2.1]; exact hn) h (fun ls hl => k hr H locs ls hP hS hl)
theorem ok_lstore_n {n : Fin 4} {i : Nat} {x : Int64} (lv' : List (Nat × Value)) (hc : Cok Γ w ι μ) (hd : decode μ.2.1 pc = .ok (.lstore_n n, 1)) (hi : (n : Nat) = i) (hn : i + 1 < μ.2.2.1) (h : (i, Value.long x) :: stL lv i = lv') (k : Ok Γ w (pc + 1) lv' st S r) : Ok Γ w pc lv (.long x :: st) S r := fun hr H locs ls hP hS hl => lv_lstore_n hc.1 hc.2.1 hd hi hl (by rw [hc.2.2.2.1]; exact hn) h (fun ls hl => k hr H locs ls hP hS hl)
theorem ok_astore {i : Nat} {x : Nat} (lv' : List (Nat × Value)) (hc : Cok Γ w ι μ) (hd : decode μ.2.1 pc = .ok (.astore i, 2)) (hn : i < μ.2.2.1) (h : (i, Value.ref x) :: stI lv i = lv') (k : Ok Γ w (pc + 2) lv' st S r) : Ok Γ w pc lv (.ref x :: st) S r := fun hr H locs ls hP hS hl => lv_astore hc.1 hc.2.1 hd hl (by rw [hc.2.2.2.1]; exact hn) h (fun ls hl => k hr H locs ls hP hS hl)
theorem ok_astore_n {n : Fin 4} {i : Nat} {x : Nat} (lv' : List (Nat × Value)) (hc : Cok Γ w ι μ) (hd : decode μ.2.1 pc = .ok (.astore_n n, 1)) (hi : (n : Nat) = i) (hn : i < μ.2.2.1) (h : (i, Value.ref x) :: stI lv i = lv') (k : Ok Γ w (pc + 1) lv' st S r) : Ok Γ w pc lv (.ref x :: st) S r := fun hr H locs ls hP hS hl => lv_astore_n hc.1 hc.2.1 hd hi hl (by rw [hc.2.2.2.1]; exact hn) h (fun ls hl => k hr H locs ls hP hS hl)
theorem ok_iinc {i : Nat} {n : Int} {x v : Int32} (kk : Nat) (lv' : List (Nat × Value)) (hc : Cok Γ w ι μ) (hd : decode μ.2.1 pc = .ok (.iinc i n, 3)) (hx : lv[kk]? = some (i, .int x)) (hv : Int32.ofInt n = v) (hn : i < μ.2.2.1) (h : (i, Value.int (x + v)) :: stI lv i = lv') (k : Ok Γ w (pc + 3) lv' st S r) : Ok Γ w pc lv st S r := fun hr H locs ls hP hS hl => lv_iinc hc.1 hc.2.1 hd hl hx (by rw [hv]) (by rw [hc.2.2.2.1]; exact hn) h (fun ls hl => k hr H locs ls hP hS hl)
theorem ok_goto {off : Int} (tgt : Nat) (hc : Cok Γ w ι μ) (hd : decode μ.2.1 pc = .ok (.goto off, 3)) (ht : (pc : Int) + off = (tgt : Int)) (k : Ok Γ w tgt lv st S r) : Ok Γ w pc lv st S r := fun hr H locs ls hP hS hl => lv_goto hc.1 hc.2.1 hd ht (k hr H locs ls hP hS hl)
theorem ok_icmp_eq {x y : Int32} {off : Int} (tgt : Nat) (hc : Cok Γ w ι μ) (hd : decode μ.2.1 pc = .ok (.if_icmp .eq off, 3)) (ht : (pc : Int) + off = (tgt : Int)) (kt : x = y → Ok Γ w tgt lv st S r) (kf : ¬ x = y → Ok Γ w (pc + 3) lv st S r) : Ok Γ w pc lv (.int y :: .int x :: st) S r := fun hr H locs ls hP hS hl => lv_icmp_eq hc.1 hc.2.1 hd ht (fun h => kt h hr H locs ls hP hS hl) (fun h => kf h hr H locs ls hP hS hl)
theorem ok_icmp_eq_ite {x y : Int32} {off : Int} {r1 r2 : Option (α × St)} (tgt : Nat) (hc : Cok Γ w ι μ) (hd : decode μ.2.1 pc = .ok (.if_icmp .eq off, 3)) (ht : (pc : Int) + off = (tgt : Int)) (kt : x = y → Ok Γ w tgt lv st S r1) (kf : ¬ x = y → Ok Γ w (pc + 3) lv st S r2) : Ok Γ w pc lv (.int y :: .int x :: st) S (if x = y then r1 else r2) := ok_icmp_eq tgt hc hd ht (fun h => by rw [if_pos h]; exact kt h) (fun h => by rw [if_neg h]; exact kf h)
theorem ok_icmp_ne {x y : Int32} {off : Int} (tgt : Nat) (hc : Cok Γ w ι μ) (hd : decode μ.2.1 pc = .ok (.if_icmp .ne off, 3)) (ht : (pc : Int) + off = (tgt : Int)) (kt : ¬ x = y → Ok Γ w tgt lv st S r) (kf : x = y → Ok Γ w (pc + 3) lv st S r) : Ok Γ w pc lv (.int y :: .int x :: st) S r := fun hr H locs ls hP hS hl => lv_icmp_ne hc.1 hc.2.1 hd ht (fun h => kt h hr H locs ls hP hS hl) (fun h => kf h hr H locs ls hP hS hl)
theorem ok_icmp_ne_ite {x y : Int32} {off : Int} {r1 r2 : Option (α × St)} (tgt : Nat) (hc : Cok Γ w ι μ) (hd : decode μ.2.1 pc = .ok (.if_icmp .ne off, 3)) (ht : (pc : Int) + off = (tgt : Int)) (kt : ¬ x = y → Ok Γ w tgt lv st S r2) (kf : x = y → Ok Γ w (pc + 3) lv st S r1) : Ok Γ w pc lv (.int y :: .int x :: st) S (if x = y then r1 else r2) := ok_icmp_ne tgt hc hd ht (fun h => by rw [if_neg h]; exact kt h) (fun h => by rw [if_pos h]; exact kf h)
theorem ok_icmp_lt {x y : Int32} {off : Int} (tgt : Nat) (hc : Cok Γ w ι μ) (hd : decode μ.2.1 pc = .ok (.if_icmp .lt off, 3)) (ht : (pc : Int) + off = (tgt : Int)) (kt : x < y → Ok Γ w tgt lv st S r) (kf : ¬ x < y → Ok Γ w (pc + 3) lv st S r) : Ok Γ w pc lv (.int y :: .int x :: st) S r := fun hr H locs ls hP hS hl => lv_icmp_lt hc.1 hc.2.1 hd ht (fun h => kt h hr H locs ls hP hS hl) (fun h => kf h hr H locs ls hP hS hl)
theorem ok_icmp_lt_ite {x y : Int32} {off : Int} {r1 r2 : Option (α × St)} (tgt : Nat) (hc : Cok Γ w ι μ) (hd : decode μ.2.1 pc = .ok (.if_icmp .lt off, 3)) (ht : (pc : Int) + off = (tgt : Int)) (kt : x < y → Ok Γ w tgt lv st S r1) (kf : ¬ x < y → Ok Γ w (pc + 3) lv st S r2) : Ok Γ w pc lv (.int y :: .int x :: st) S (if x < y then r1 else r2) := ok_icmp_lt tgt hc hd ht (fun h => by rw [if_pos h]; exact kt h) (fun h => by rw [if_neg h]; exact kf h)
theorem ok_icmp_ge {x y : Int32} {off : Int} (tgt : Nat) (hc : Cok Γ w ι μ) (hd : decode μ.2.1 pc = .ok (.if_icmp .ge off, 3)) (ht : (pc : Int) + off = (tgt : Int)) (kt : y ≤ x → Ok Γ w tgt lv st S r) (kf : ¬ y ≤ x → Ok Γ w (pc + 3) lv st S r) : Ok Γ w pc lv (.int y :: .int x :: st) S r := fun hr H locs ls hP hS hl => lv_icmp_ge hc.1 hc.2.1 hd ht (fun h => kt h hr H locs ls hP hS hl) (fun h => kf h hr H locs ls hP hS hl)
theorem ok_icmp_ge_ite {x y : Int32} {off : Int} {r1 r2 : Option (α × St)} (tgt : Nat) (hc : Cok Γ w ι μ) (hd : decode μ.2.1 pc = .ok (.if_icmp .ge off, 3)) (ht : (pc : Int) + off = (tgt : Int)) (kt : y ≤ x → Ok Γ w tgt lv st S r1) (kf : ¬ y ≤ x → Ok Γ w (pc + 3) lv st S r2) : Ok Γ w pc lv (.int y :: .int x :: st) S (if y ≤ x then r1 else r2) := ok_icmp_ge tgt hc hd ht (fun h => by rw [if_pos h]; exact kt h) (fun h => by rw [if_neg h]; exact kf h)
theorem ok_icmp_gt {x y : Int32} {off : Int} (tgt : Nat) (hc : Cok Γ w ι μ) (hd : decode μ.2.1 pc = .ok (.if_icmp .gt off, 3)) (ht : (pc : Int) + off = (tgt : Int)) (kt : y < x → Ok Γ w tgt lv st S r) (kf : ¬ y < x → Ok Γ w (pc + 3) lv st S r) : Ok Γ w pc lv (.int y :: .int x :: st) S r := fun hr H locs ls hP hS hl => lv_icmp_gt hc.1 hc.2.1 hd ht (fun h => kt h hr H locs ls hP hS hl) (fun h => kf h hr H locs ls hP hS hl)
theorem ok_icmp_gt_ite {x y : Int32} {off : Int} {r1 r2 : Option (α × St)} (tgt : Nat) (hc : Cok Γ w ι μ) (hd : decode μ.2.1 pc = .ok (.if_icmp .gt off, 3)) (ht : (pc : Int) + off = (tgt : Int)) (kt : y < x → Ok Γ w tgt lv st S r1) (kf : ¬ y < x → Ok Γ w (pc + 3) lv st S r2) : Ok Γ w pc lv (.int y :: .int x :: st) S (if y < x then r1 else r2) := ok_icmp_gt tgt hc hd ht (fun h => by rw [if_pos h]; exact kt h) (fun h => by rw [if_neg h]; exact kf h)
theorem ok_icmp_le {x y : Int32} {off : Int} (tgt : Nat) (hc : Cok Γ w ι μ) (hd : decode μ.2.1 pc = .ok (.if_icmp .le off, 3)) (ht : (pc : Int) + off = (tgt : Int)) (kt : x ≤ y → Ok Γ w tgt lv st S r) (kf : ¬ x ≤ y → Ok Γ w (pc + 3) lv st S r) : Ok Γ w pc lv (.int y :: .int x :: st) S r := fun hr H locs ls hP hS hl => lv_icmp_le hc.1 hc.2.1 hd ht (fun h => kt h hr H locs ls hP hS hl) (fun h => kf h hr H locs ls hP hS hl)
theorem ok_icmp_le_ite {x y : Int32} {off : Int} {r1 r2 : Option (α × St)} (tgt : Nat) (hc : Cok Γ w ι μ) (hd : decode μ.2.1 pc = .ok (.if_icmp .le off, 3)) (ht : (pc : Int) + off = (tgt : Int)) (kt : x ≤ y → Ok Γ w tgt lv st S r1) (kf : ¬ x ≤ y → Ok Γ w (pc + 3) lv st S r2) : Ok Γ w pc lv (.int y :: .int x :: st) S (if x ≤ y then r1 else r2) := ok_icmp_le tgt hc hd ht (fun h => by rw [if_pos h]; exact kt h) (fun h => by rw [if_neg h]; exact kf h)
theorem ok_if_eq {x : Int32} {off : Int} (tgt : Nat) (hc : Cok Γ w ι μ) (hd : decode μ.2.1 pc = .ok (.ifCond .eq off, 3)) (ht : (pc : Int) + off = (tgt : Int)) (kt : x = 0 → Ok Γ w tgt lv st S r) (kf : ¬ x = 0 → Ok Γ w (pc + 3) lv st S r) : Ok Γ w pc lv (.int x :: st) S r := fun hr H locs ls hP hS hl => lv_if_eq hc.1 hc.2.1 hd ht (fun h => kt h hr H locs ls hP hS hl) (fun h => kf h hr H locs ls hP hS hl)
theorem ok_if_eq_ite {x : Int32} {off : Int} {r1 r2 : Option (α × St)} (tgt : Nat) (hc : Cok Γ w ι μ) (hd : decode μ.2.1 pc = .ok (.ifCond .eq off, 3)) (ht : (pc : Int) + off = (tgt : Int)) (kt : x = 0 → Ok Γ w tgt lv st S r1) (kf : ¬ x = 0 → Ok Γ w (pc + 3) lv st S r2) : Ok Γ w pc lv (.int x :: st) S (if x = 0 then r1 else r2) := ok_if_eq tgt hc hd ht (fun h => by rw [if_pos h]; exact kt h) (fun h => by rw [if_neg h]; exact kf h)
theorem ok_if_ne {x : Int32} {off : Int} (tgt : Nat) (hc : Cok Γ w ι μ) (hd : decode μ.2.1 pc = .ok (.ifCond .ne off, 3)) (ht : (pc : Int) + off = (tgt : Int)) (kt : ¬ x = 0 → Ok Γ w tgt lv st S r) (kf : x = 0 → Ok Γ w (pc + 3) lv st S r) : Ok Γ w pc lv (.int x :: st) S r := fun hr H locs ls hP hS hl => lv_if_ne hc.1 hc.2.1 hd ht (fun h => kt h hr H locs ls hP hS hl) (fun h => kf h hr H locs ls hP hS hl)
theorem ok_if_ne_ite {x : Int32} {off : Int} {r1 r2 : Option (α × St)} (tgt : Nat) (hc : Cok Γ w ι μ) (hd : decode μ.2.1 pc = .ok (.ifCond .ne off, 3)) (ht : (pc : Int) + off = (tgt : Int)) (kt : ¬ x = 0 → Ok Γ w tgt lv st S r2) (kf : x = 0 → Ok Γ w (pc + 3) lv st S r1) : Ok Γ w pc lv (.int x :: st) S (if x = 0 then r1 else r2) := ok_if_ne tgt hc hd ht (fun h => by rw [if_neg h]; exact kt h) (fun h => by rw [if_pos h]; exact kf h)
theorem ok_if_lt {x : Int32} {off : Int} (tgt : Nat) (hc : Cok Γ w ι μ) (hd : decode μ.2.1 pc = .ok (.ifCond .lt off, 3)) (ht : (pc : Int) + off = (tgt : Int)) (kt : x < 0 → Ok Γ w tgt lv st S r) (kf : ¬ x < 0 → Ok Γ w (pc + 3) lv st S r) : Ok Γ w pc lv (.int x :: st) S r := fun hr H locs ls hP hS hl => lv_if_lt hc.1 hc.2.1 hd ht (fun h => kt h hr H locs ls hP hS hl) (fun h => kf h hr H locs ls hP hS hl)
theorem ok_if_lt_ite {x : Int32} {off : Int} {r1 r2 : Option (α × St)} (tgt : Nat) (hc : Cok Γ w ι μ) (hd : decode μ.2.1 pc = .ok (.ifCond .lt off, 3)) (ht : (pc : Int) + off = (tgt : Int)) (kt : x < 0 → Ok Γ w tgt lv st S r1) (kf : ¬ x < 0 → Ok Γ w (pc + 3) lv st S r2) : Ok Γ w pc lv (.int x :: st) S (if x < 0 then r1 else r2) := ok_if_lt tgt hc hd ht (fun h => by rw [if_pos h]; exact kt h) (fun h => by rw [if_neg h]; exact kf h)
theorem ok_if_ge {x : Int32} {off : Int} (tgt : Nat) (hc : Cok Γ w ι μ) (hd : decode μ.2.1 pc = .ok (.ifCond .ge off, 3)) (ht : (pc : Int) + off = (tgt : Int)) (kt : 0 ≤ x → Ok Γ w tgt lv st S r) (kf : ¬ 0 ≤ x → Ok Γ w (pc + 3) lv st S r) : Ok Γ w pc lv (.int x :: st) S r := fun hr H locs ls hP hS hl => lv_if_ge hc.1 hc.2.1 hd ht (fun h => kt h hr H locs ls hP hS hl) (fun h => kf h hr H locs ls hP hS hl)
theorem ok_if_ge_ite {x : Int32} {off : Int} {r1 r2 : Option (α × St)} (tgt : Nat) (hc : Cok Γ w ι μ) (hd : decode μ.2.1 pc = .ok (.ifCond .ge off, 3)) (ht : (pc : Int) + off = (tgt : Int)) (kt : 0 ≤ x → Ok Γ w tgt lv st S r1) (kf : ¬ 0 ≤ x → Ok Γ w (pc + 3) lv st S r2) : Ok Γ w pc lv (.int x :: st) S (if 0 ≤ x then r1 else r2) := ok_if_ge tgt hc hd ht (fun h => by rw [if_pos h]; exact kt h) (fun h => by rw [if_neg h]; exact kf h)
theorem ok_if_gt {x : Int32} {off : Int} (tgt : Nat) (hc : Cok Γ w ι μ) (hd : decode μ.2.1 pc = .ok (.ifCond .gt off, 3)) (ht : (pc : Int) + off = (tgt : Int)) (kt : 0 < x → Ok Γ w tgt lv st S r) (kf : ¬ 0 < x → Ok Γ w (pc + 3) lv st S r) : Ok Γ w pc lv (.int x :: st) S r := fun hr H locs ls hP hS hl => lv_if_gt hc.1 hc.2.1 hd ht (fun h => kt h hr H locs ls hP hS hl) (fun h => kf h hr H locs ls hP hS hl)
theorem ok_if_gt_ite {x : Int32} {off : Int} {r1 r2 : Option (α × St)} (tgt : Nat) (hc : Cok Γ w ι μ) (hd : decode μ.2.1 pc = .ok (.ifCond .gt off, 3)) (ht : (pc : Int) + off = (tgt : Int)) (kt : 0 < x → Ok Γ w tgt lv st S r1) (kf : ¬ 0 < x → Ok Γ w (pc + 3) lv st S r2) : Ok Γ w pc lv (.int x :: st) S (if 0 < x then r1 else r2) := ok_if_gt tgt hc hd ht (fun h => by rw [if_pos h]; exact kt h) (fun h => by rw [if_neg h]; exact kf h)
theorem ok_if_le {x : Int32} {off : Int} (tgt : Nat) (hc : Cok Γ w ι μ) (hd : decode μ.2.1 pc = .ok (.ifCond .le off, 3)) (ht : (pc : Int) + off = (tgt : Int)) (kt : x ≤ 0 → Ok Γ w tgt lv st S r) (kf : ¬ x ≤ 0 → Ok Γ w (pc + 3) lv st S r) : Ok Γ w pc lv (.int x :: st) S r := fun hr H locs ls hP hS hl => lv_if_le hc.1 hc.2.1 hd ht (fun h => kt h hr H locs ls hP hS hl) (fun h => kf h hr H locs ls hP hS hl)
theorem ok_if_le_ite {x : Int32} {off : Int} {r1 r2 : Option (α × St)} (tgt : Nat) (hc : Cok Γ w ι μ) (hd : decode μ.2.1 pc = .ok (.ifCond .le off, 3)) (ht : (pc : Int) + off = (tgt : Int)) (kt : x ≤ 0 → Ok Γ w tgt lv st S r1) (kf : ¬ x ≤ 0 → Ok Γ w (pc + 3) lv st S r2) : Ok Γ w pc lv (.int x :: st) S (if x ≤ 0 then r1 else r2) := ok_if_le tgt hc hd ht (fun h => by rw [if_pos h]; exact kt h) (fun h => by rw [if_neg h]; exact kf h)

theorem lgc_cases (x y : Int64) : (lg_cmp x y = -1 ∧ x < y ∧ ¬ y < x ∧ ¬ x = y ∧ x ≤ y ∧ ¬ y ≤ x) ∨ (lg_cmp x y = 0 ∧ ¬ x < y ∧ ¬ y < x ∧ x = y ∧ x ≤ y ∧ y ≤ x) ∨ (lg_cmp x y = 1 ∧ ¬ x < y ∧ y < x ∧ ¬ x = y ∧ ¬ x ≤ y ∧ y ≤ x) := by
  have e : x = y ↔ x.toInt = y.toInt := ⟨fun h => by rw [h], fun h => Int64.toInt_inj.mp h⟩
  unfold lg_cmp
  simp only [Int64.lt_iff_toInt_lt, Int64.le_iff_toInt_le, e, GT.gt]
  rcases Int.lt_trichotomy x.toInt y.toInt with h | h | h
  · left
    refine ⟨?_, h, by omega, by omega, by omega, by omega⟩
    rw [if_neg (by omega), if_neg (by omega)]
  · right; left
    refine ⟨?_, by omega, by omega, h, by omega, by omega⟩
    rw [if_neg (by omega), if_pos h]
  · right; right
    refine ⟨?_, by omega, h, by omega, by omega, by omega⟩
    rw [if_pos h]

theorem lgc_eq (x y : Int64) : (lg_cmp x y = 0) ↔ (x = y) := by
  rcases lgc_cases x y with ⟨h, h1, h2, h3, h4, h5⟩ | ⟨h, h1, h2, h3, h4, h5⟩ | ⟨h, h1, h2, h3, h4, h5⟩ <;> rw [h] <;> simp_all <;> decide
theorem ok_lcmp_eq {x y : Int64} {off : Int} (tgt : Nat) (hc : Cok Γ w ι μ) (hd : decode μ.2.1 pc = .ok (.lcmp, 1)) (hd2 : decode μ.2.1 (pc + 1) = .ok (.ifCond .eq off, 3)) (ht : ((pc + 1 : Nat) : Int) + off = (tgt : Int)) (kt : x = y → Ok Γ w tgt lv st S r) (kf : ¬ x = y → Ok Γ w (pc + 1 + 3) lv st S r) : Ok Γ w pc lv (.long y :: .long x :: st) S r := fun hr H locs ls hP hS hl => W.lcmp hc.1 hc.2.1 hd (ok_if_eq (x := lg_cmp x y) tgt hc hd2 ht (fun h => kt ((lgc_eq x y).mp h)) (fun h => kf (fun q => h ((lgc_eq x y).mpr q))) hr H locs ls hP hS hl)
theorem ok_lcmp_eq_ite {x y : Int64} {off : Int} {r1 r2 : Option (α × St)} (tgt : Nat) (hc : Cok Γ w ι μ) (hd : decode μ.2.1 pc = .ok (.lcmp, 1)) (hd2 : decode μ.2.1 (pc + 1) = .ok (.ifCond .eq off, 3)) (ht : ((pc + 1 : Nat) : Int) + off = (tgt : Int)) (kt : x = y → Ok Γ w tgt lv st S r1) (kf : ¬ x = y → Ok Γ w (pc + 1 + 3) lv st S r2) : Ok Γ w pc lv (.long y :: .long x :: st) S (if x = y then r1 else r2) := ok_lcmp_eq tgt hc hd hd2 ht (fun h => by rw [if_pos h]; exact kt h) (fun h => by rw [if_neg h]; exact kf h)
theorem lgc_ne (x y : Int64) : (¬ lg_cmp x y = 0) ↔ (¬ x = y) := by
  rcases lgc_cases x y with ⟨h, h1, h2, h3, h4, h5⟩ | ⟨h, h1, h2, h3, h4, h5⟩ | ⟨h, h1, h2, h3, h4, h5⟩ <;> rw [h] <;> simp_all <;> decide
theorem ok_lcmp_ne {x y : Int64} {off : Int} (tgt : Nat) (hc : Cok Γ w ι μ) (hd : decode μ.2.1 pc = .ok (.lcmp, 1)) (hd2 : decode μ.2.1 (pc + 1) = .ok (.ifCond .ne off, 3)) (ht : ((pc + 1 : Nat) : Int) + off = (tgt : Int)) (kt : ¬ x = y → Ok Γ w tgt lv st S r) (kf : x = y → Ok Γ w (pc + 1 + 3) lv st S r) : Ok Γ w pc lv (.long y :: .long x :: st) S r := fun hr H locs ls hP hS hl => W.lcmp hc.1 hc.2.1 hd (ok_if_ne (x := lg_cmp x y) tgt hc hd2 ht (fun h => kt ((lgc_ne x y).mp h)) (fun h => kf (Classical.not_not.mp (fun q => ((lgc_ne x y).mpr q) h))) hr H locs ls hP hS hl)
theorem ok_lcmp_ne_ite {x y : Int64} {off : Int} {r1 r2 : Option (α × St)} (tgt : Nat) (hc : Cok Γ w ι μ) (hd : decode μ.2.1 pc = .ok (.lcmp, 1)) (hd2 : decode μ.2.1 (pc + 1) = .ok (.ifCond .ne off, 3)) (ht : ((pc + 1 : Nat) : Int) + off = (tgt : Int)) (kt : ¬ x = y → Ok Γ w tgt lv st S r2) (kf : x = y → Ok Γ w (pc + 1 + 3) lv st S r1) : Ok Γ w pc lv (.long y :: .long x :: st) S (if x = y then r1 else r2) := ok_lcmp_ne tgt hc hd hd2 ht (fun h => by rw [if_neg h]; exact kt h) (fun h => by rw [if_pos h]; exact kf h)
theorem lgc_lt (x y : Int64) : (lg_cmp x y < 0) ↔ (x < y) := by
  rcases lgc_cases x y with ⟨h, h1, h2, h3, h4, h5⟩ | ⟨h, h1, h2, h3, h4, h5⟩ | ⟨h, h1, h2, h3, h4, h5⟩ <;> rw [h] <;> simp_all <;> decide
theorem ok_lcmp_lt {x y : Int64} {off : Int} (tgt : Nat) (hc : Cok Γ w ι μ) (hd : decode μ.2.1 pc = .ok (.lcmp, 1)) (hd2 : decode μ.2.1 (pc + 1) = .ok (.ifCond .lt off, 3)) (ht : ((pc + 1 : Nat) : Int) + off = (tgt : Int)) (kt : x < y → Ok Γ w tgt lv st S r) (kf : ¬ x < y → Ok Γ w (pc + 1 + 3) lv st S r) : Ok Γ w pc lv (.long y :: .long x :: st) S r := fun hr H locs ls hP hS hl => W.lcmp hc.1 hc.2.1 hd (ok_if_lt (x := lg_cmp x y) tgt hc hd2 ht (fun h => kt ((lgc_lt x y).mp h)) (fun h => kf (fun q => h ((lgc_lt x y).mpr q))) hr H locs ls hP hS hl)
theorem ok_lcmp_lt_ite {x y : Int64} {off : Int} {r1 r2 : Option (α × St)} (tgt : Nat) (hc : Cok Γ w ι μ) (hd : decode μ.2.1 pc = .ok (.lcmp, 1)) (hd2 : decode μ.2.1 (pc + 1) = .ok (.ifCond .lt off, 3)) (ht : ((pc + 1 : Nat) : Int) + off = (tgt : Int)) (kt : x < y → Ok Γ w tgt lv st S r1) (kf : ¬ x < y → Ok Γ w (pc + 1 + 3) lv st S r2) : Ok Γ w pc lv (.long y :: .long x :: st) S (if x < y then r1 else r2) := ok_lcmp_lt tgt hc hd hd2 ht (fun h => by rw [if_pos h]; exact kt h) (fun h => by rw [if_neg h]; exact kf h)
theorem lgc_ge (x y : Int64) : (0 ≤ lg_cmp x y) ↔ (y ≤ x) := by
  rcases lgc_cases x y with ⟨h, h1, h2, h3, h4, h5⟩ | ⟨h, h1, h2, h3, h4, h5⟩ | ⟨h, h1, h2, h3, h4, h5⟩ <;> rw [h] <;> simp_all <;> decide
theorem ok_lcmp_ge {x y : Int64} {off : Int} (tgt : Nat) (hc : Cok Γ w ι μ) (hd : decode μ.2.1 pc = .ok (.lcmp, 1)) (hd2 : decode μ.2.1 (pc + 1) = .ok (.ifCond .ge off, 3)) (ht : ((pc + 1 : Nat) : Int) + off = (tgt : Int)) (kt : y ≤ x → Ok Γ w tgt lv st S r) (kf : ¬ y ≤ x → Ok Γ w (pc + 1 + 3) lv st S r) : Ok Γ w pc lv (.long y :: .long x :: st) S r := fun hr H locs ls hP hS hl => W.lcmp hc.1 hc.2.1 hd (ok_if_ge (x := lg_cmp x y) tgt hc hd2 ht (fun h => kt ((lgc_ge x y).mp h)) (fun h => kf (fun q => h ((lgc_ge x y).mpr q))) hr H locs ls hP hS hl)
theorem ok_lcmp_ge_ite {x y : Int64} {off : Int} {r1 r2 : Option (α × St)} (tgt : Nat) (hc : Cok Γ w ι μ) (hd : decode μ.2.1 pc = .ok (.lcmp, 1)) (hd2 : decode μ.2.1 (pc + 1) = .ok (.ifCond .ge off, 3)) (ht : ((pc + 1 : Nat) : Int) + off = (tgt : Int)) (kt : y ≤ x → Ok Γ w tgt lv st S r1) (kf : ¬ y ≤ x → Ok Γ w (pc + 1 + 3) lv st S r2) : Ok Γ w pc lv (.long y :: .long x :: st) S (if y ≤ x then r1 else r2) := ok_lcmp_ge tgt hc hd hd2 ht (fun h => by rw [if_pos h]; exact kt h) (fun h => by rw [if_neg h]; exact kf h)
theorem lgc_gt (x y : Int64) : (0 < lg_cmp x y) ↔ (y < x) := by
  rcases lgc_cases x y with ⟨h, h1, h2, h3, h4, h5⟩ | ⟨h, h1, h2, h3, h4, h5⟩ | ⟨h, h1, h2, h3, h4, h5⟩ <;> rw [h] <;> simp_all <;> decide
theorem ok_lcmp_gt {x y : Int64} {off : Int} (tgt : Nat) (hc : Cok Γ w ι μ) (hd : decode μ.2.1 pc = .ok (.lcmp, 1)) (hd2 : decode μ.2.1 (pc + 1) = .ok (.ifCond .gt off, 3)) (ht : ((pc + 1 : Nat) : Int) + off = (tgt : Int)) (kt : y < x → Ok Γ w tgt lv st S r) (kf : ¬ y < x → Ok Γ w (pc + 1 + 3) lv st S r) : Ok Γ w pc lv (.long y :: .long x :: st) S r := fun hr H locs ls hP hS hl => W.lcmp hc.1 hc.2.1 hd (ok_if_gt (x := lg_cmp x y) tgt hc hd2 ht (fun h => kt ((lgc_gt x y).mp h)) (fun h => kf (fun q => h ((lgc_gt x y).mpr q))) hr H locs ls hP hS hl)
theorem ok_lcmp_gt_ite {x y : Int64} {off : Int} {r1 r2 : Option (α × St)} (tgt : Nat) (hc : Cok Γ w ι μ) (hd : decode μ.2.1 pc = .ok (.lcmp, 1)) (hd2 : decode μ.2.1 (pc + 1) = .ok (.ifCond .gt off, 3)) (ht : ((pc + 1 : Nat) : Int) + off = (tgt : Int)) (kt : y < x → Ok Γ w tgt lv st S r1) (kf : ¬ y < x → Ok Γ w (pc + 1 + 3) lv st S r2) : Ok Γ w pc lv (.long y :: .long x :: st) S (if y < x then r1 else r2) := ok_lcmp_gt tgt hc hd hd2 ht (fun h => by rw [if_pos h]; exact kt h) (fun h => by rw [if_neg h]; exact kf h)
theorem lgc_le (x y : Int64) : (lg_cmp x y ≤ 0) ↔ (x ≤ y) := by
  rcases lgc_cases x y with ⟨h, h1, h2, h3, h4, h5⟩ | ⟨h, h1, h2, h3, h4, h5⟩ | ⟨h, h1, h2, h3, h4, h5⟩ <;> rw [h] <;> simp_all <;> decide
theorem ok_lcmp_le {x y : Int64} {off : Int} (tgt : Nat) (hc : Cok Γ w ι μ) (hd : decode μ.2.1 pc = .ok (.lcmp, 1)) (hd2 : decode μ.2.1 (pc + 1) = .ok (.ifCond .le off, 3)) (ht : ((pc + 1 : Nat) : Int) + off = (tgt : Int)) (kt : x ≤ y → Ok Γ w tgt lv st S r) (kf : ¬ x ≤ y → Ok Γ w (pc + 1 + 3) lv st S r) : Ok Γ w pc lv (.long y :: .long x :: st) S r := fun hr H locs ls hP hS hl => W.lcmp hc.1 hc.2.1 hd (ok_if_le (x := lg_cmp x y) tgt hc hd2 ht (fun h => kt ((lgc_le x y).mp h)) (fun h => kf (fun q => h ((lgc_le x y).mpr q))) hr H locs ls hP hS hl)
theorem ok_lcmp_le_ite {x y : Int64} {off : Int} {r1 r2 : Option (α × St)} (tgt : Nat) (hc : Cok Γ w ι μ) (hd : decode μ.2.1 pc = .ok (.lcmp, 1)) (hd2 : decode μ.2.1 (pc + 1) = .ok (.ifCond .le off, 3)) (ht : ((pc + 1 : Nat) : Int) + off = (tgt : Int)) (kt : x ≤ y → Ok Γ w tgt lv st S r1) (kf : ¬ x ≤ y → Ok Γ w (pc + 1 + 3) lv st S r2) : Ok Γ w pc lv (.long y :: .long x :: st) S (if x ≤ y then r1 else r2) := ok_lcmp_le tgt hc hd hd2 ht (fun h => by rw [if_pos h]; exact kt h) (fun h => by rw [if_neg h]; exact kf h)

def Fs (own : String) (i ci j nf : Nat) : Prop := ∃ (C : String) (T : u_T), vwCl[ci]? = some (C, T, nf) ∧ j < nf ∧ (∀ z ∈ u_ws C T nf, z ∈ WT) ∧ (T j).1 = C ∧ (Cond.fieldLink own i C (T j).2.1 (T j).2.2.1 ∈ WT ∨ ∃ host, Cond.fieldLinkNest own i C (T j).2.1 (T j).2.2.1 host ∈ NW)
def Fp (own : String) (i ci j nf : Nat) (ty : FieldType) : Prop := ∃ (C : String) (T : u_T) (ty0 : Nat → FieldType), vwCl[ci]? = some (C, T, nf) ∧ j < nf ∧ (∀ z ∈ u_ws C T nf, z ∈ WT) ∧ (T j).1 = C ∧ (Cond.fieldLink own i C (T j).2.1 (T j).2.2.1 ∈ WT ∨ ∃ host, Cond.fieldLinkNest own i C (T j).2.1 (T j).2.2.1 host ∈ NW) ∧ (∀ k, k < nf → parseFieldDescriptor (T k).2.2.1 = some (ty0 k)) ∧ (∀ a, a < nf → ∀ b, b < nf → a ≠ b → (T a).2.1 ≠ (T b).2.1) ∧ (T j).2.2.2 = false ∧ parseFieldDescriptor (T j).2.2.1 = some ty
theorem ok_getv {i ci j nf k : Nat} {v : Value} (hc : Cok Γ w ι μ) (hs : Fs μ.1.cls i ci j nf) (ho : Iob w k ci nf) (hv : (fsOf (gn Γ) w S k ci nf)[j]? = some v) (hd : decode μ.2.1 pc = .ok (.getfield i, 3)) (kk : Ok Γ w (pc + 3) lv (v :: st) S r) : Ok Γ w pc lv (rv Γ k :: st) S r := by
  intro hr H locs ls hP hS hl
  obtain ⟨C, T, h1, h2, h3, h4, h5⟩ := hs
  have hk := kk hr H locs ls hP hS hl
  rcases h5 with h5 | ⟨host, h5⟩
  · exact va_get hc.1 hc.2.1 (own := μ.1.cls) (ref := C) hc.2.2.2.2.2.1 h3 hc.2.2.2.2.1 hc.2.2.2.2.2.2.2.1 hP k (ho.cell _ _ _) h1 j h2 (hc.2.2.2.2.2.1 _ h5) (fun x hx => by rw [← h4]; rw [← h4] at *; exact hx) hv hd hk
  · exact va_getN hc.1 hc.2.1 (own := μ.1.cls) (ref := C) (host := host) hc.2.2.2.2.2.1 h3 hc.2.2.2.2.1 hc.2.2.2.2.2.2.2.1 hP k (ho.cell _ _ _) h1 j h2 (va_Nw.use rfl (hc.2.2.2.2.2.2.1 _ h5)) (fun x hx => by rw [← h4]; rw [← h4] at *; exact hx) hv hd hk
theorem ok_geti {i ci j nf k : Nat} (hc : Cok Γ w ι μ) (hs : Fs μ.1.cls i ci j nf) (hf : ft ci j = false) (ho : Iob w k ci nf) (hd : decode μ.2.1 pc = .ok (.getfield i, 3)) (kk : Ok Γ w (pc + 3) lv (.int (S.1 k j) :: st) S r) : Ok Γ w pc lv (rv Γ k :: st) S r := by
  have hj : j < nf := by obtain ⟨C, T, h1, h2, h3, h4, h5⟩ := hs; exact h2
  exact ok_getv hc hs ho (by rw [fsOf_get hj, hf]; rfl) hd kk
theorem ok_getr {i ci j nf k : Nat} (q : Nat) (hc : Cok Γ w ι μ) (hs : Fs μ.1.cls i ci j nf) (hf : ft ci j = true) (ho : Iob w k ci nf) (hq : w.2.2 k j = some q) (hd : decode μ.2.1 pc = .ok (.getfield i, 3)) (kk : Ok Γ w (pc + 3) lv (rv Γ q :: st) S r) : Ok Γ w pc lv (rv Γ k :: st) S r := by
  have hj : j < nf := by obtain ⟨C, T, h1, h2, h3, h4, h5⟩ := hs; exact h2
  exact ok_getv hc hs ho (by rw [fsOf_get hj, hf, hq]; rfl) hd kk
theorem ok_putv {i ci j nf k : Nat} {ty : FieldType} {v : Int32} (hc : Cok Γ w ι μ) (hs : Fp μ.1.cls i ci j nf ty) (hf : ft ci j = false) (ho : Iob w k ci nf) (hn : narrow ty (.int v) = .int v) (hfit : fits ty (.int v) = true) (hd : decode μ.2.1 pc = .ok (.putfield i, 3)) (kk : Ok Γ w (pc + 3) lv st (wi S k j v) r) : Ok Γ w pc lv (.int v :: rv Γ k :: st) S r := by
  intro hr H locs ls hP hS hl
  obtain ⟨C, T, ty0, h1, h2, h3, h4, h5, h6, h7, h8, h9⟩ := hs
  have hK : ∀ (H1 : Heap) (locs1 : List Loc), va_P Γ.2.1.1 vwCl ((wl Γ.2.1.2.1 (gn Γ) w S).set k (gn Γ + k, .inr (ci, (fsOf (gn Γ) w S k ci nf).set j (.int v)))) H1 → va_D (AA (gn Γ) w) ((wl Γ.2.1.2.1 (gn Γ) w S).set k (gn Γ + k, .inr (ci, (fsOf (gn Γ) w S k ci nf).set j (.int v)))) → va_S (AA (gn Γ) w) (gs Γ).heap H1 locs1 → Wat Γ H1 locs1 (F0 (gm Γ) (pc + 3) ls st) := by
    intro H1 locs1 a b c
    rw [ho.set h2 hf] at a
    exact kk hr H1 locs1 ls a c hl
  rcases h5 with h5 | ⟨host, h5⟩
  · exact va_put hc.1 hc.2.1 (own := μ.1.cls) (ref := C) hc.2.2.2.2.2.1 h3 ty0 h6 h7 hc.2.2.2.2.1 hc.2.2.2.2.2.2.2.1 hP wl_D hS k (ho.cell _ _ _) h1 j h2 (hc.2.2.2.2.2.1 _ h5) (fun x hx => by rw [← h4]; rw [← h4] at *; exact hx) h8 h9 hn hfit (by rw [fsOf_len]; exact h2) hd hK
  · exact va_putN hc.1 hc.2.1 (own := μ.1.cls) (ref := C) (host := host) hc.2.2.2.2.2.1 h3 ty0 h6 h7 hc.2.2.2.2.1 hc.2.2.2.2.2.2.2.1 hP wl_D hS k (ho.cell _ _ _) h1 j h2 (va_Nw.use rfl (hc.2.2.2.2.2.2.1 _ h5)) (fun x hx => by rw [← h4]; rw [← h4] at *; exact hx) h8 h9 hn hfit (by rw [fsOf_len]; exact h2) hd hK
abbrev b01 (v : Int32) : Prop := v = 0 ∨ v = 1
theorem b01_nar {v : Int32} (h : b01 v) : narrow .boolean (.int v) = .int v := by rcases h with rfl | rfl <;> decide +kernel
theorem b01_fit {v : Int32} (h : b01 v) : fits .boolean (.int v) = true := by rcases h with rfl | rfl <;> decide +kernel
theorem b01_vp {v : Int32} (h : b01 v) : vp_nar .boolean v = v := by rcases h with rfl | rfl <;> decide +kernel
theorem ok_puti {i ci j nf k : Nat} {v : Int32} (hc : Cok Γ w ι μ) (hs : Fp μ.1.cls i ci j nf .int) (hf : ft ci j = false) (ho : Iob w k ci nf) (hd : decode μ.2.1 pc = .ok (.putfield i, 3)) (kk : Ok Γ w (pc + 3) lv st (wi S k j v) r) : Ok Γ w pc lv (.int v :: rv Γ k :: st) S r := ok_putv hc hs hf ho rfl rfl hd kk
theorem ok_putzK {i ci j nf k : Nat} {v : Int32} (hc : Cok Γ w ι μ) (hs : Fp μ.1.cls i ci j nf .boolean) (hf : ft ci j = false) (ho : Iob w k ci nf) (hv : b01 v) (hd : decode μ.2.1 pc = .ok (.putfield i, 3)) (kk : Ok Γ w (pc + 3) lv st (wi S k j v) r) : Ok Γ w pc lv (.int v :: rv Γ k :: st) S r := ok_putv hc hs hf ho (b01_nar hv) (b01_fit hv) hd kk
theorem ok_putz {i ci j nf k : Nat} {v : Int32} (hc : Cok Γ w ι μ) (hs : Fp μ.1.cls i ci j nf .boolean) (hf : ft ci j = false) (ho : Iob w k ci nf) (hd : decode μ.2.1 pc = .ok (.putfield i, 3)) (kk : b01 v → Ok Γ w (pc + 3) lv st (wi S k j v) r) : Ok Γ w pc lv (.int v :: rv Γ k :: st) S (if b01 v then r else none) := by
  by_cases h : b01 v
  · rw [if_pos h]; exact ok_putzK hc hs hf ho h hd (kk h)
  · rw [if_neg h]; exact ok_none

theorem ok_ialdK {k n : Nat} {i : Int32} (hc : Cok Γ w ι μ) (ha : Iar w k 1 n) (hg : ib i n) (hd : decode μ.2.1 pc = .ok (.iaload, 1)) (kk : Ok Γ w (pc + 1) lv (.int (S.1 k (nt i)) :: st) S r) : Ok Γ w pc lv (.int i :: rv Γ k :: st) S r := fun hr H locs ls hP hS hl => va_iald hc.1 hc.2.1 hc.2.2.2.2.2.2.2.1 hP k 0 (ha.i _ _ _) rfl hg hd (kk hr H locs ls hP hS hl)
theorem ok_iald {k n : Nat} {i : Int32} (hc : Cok Γ w ι μ) (ha : Iar w k 1 n) (hd : decode μ.2.1 pc = .ok (.iaload, 1)) (kk : ib i n → Ok Γ w (pc + 1) lv (.int (S.1 k (nt i)) :: st) S r) : Ok Γ w pc lv (.int i :: rv Γ k :: st) S (if ib i n then r else none) := by
  by_cases h : ib i n
  · rw [if_pos h]; exact ok_ialdK hc ha h hd (kk h)
  · rw [if_neg h]; exact ok_none
theorem ok_zaldK {k n : Nat} {i : Int32} (hc : Cok Γ w ι μ) (ha : Iar w k 2 n) (hg : ib i n) (hd : decode μ.2.1 pc = .ok (.baload, 1)) (kk : Ok Γ w (pc + 1) lv (.int (S.1 k (nt i)) :: st) S r) : Ok Γ w pc lv (.int i :: rv Γ k :: st) S r := fun hr H locs ls hP hS hl => va_zald hc.1 hc.2.1 hc.2.2.2.2.2.2.2.1 hP k 1 (ha.z _ _ _) rfl hg hd (kk hr H locs ls hP hS hl)
theorem ok_zald {k n : Nat} {i : Int32} (hc : Cok Γ w ι μ) (ha : Iar w k 2 n) (hd : decode μ.2.1 pc = .ok (.baload, 1)) (kk : ib i n → Ok Γ w (pc + 1) lv (.int (S.1 k (nt i)) :: st) S r) : Ok Γ w pc lv (.int i :: rv Γ k :: st) S (if ib i n then r else none) := by
  by_cases h : ib i n
  · rw [if_pos h]; exact ok_zaldK hc ha h hd (kk h)
  · rw [if_neg h]; exact ok_none
theorem ok_laldK {k n : Nat} {i : Int32} (hc : Cok Γ w ι μ) (ha : Iar w k 3 n) (hg : ib i n) (hd : decode μ.2.1 pc = .ok (.laload, 1)) (kk : Ok Γ w (pc + 1) lv (.long (S.2 k (nt i)) :: st) S r) : Ok Γ w pc lv (.int i :: rv Γ k :: st) S r := fun hr H locs ls hP hS hl => va_lald hc.1 hc.2.1 hc.2.2.2.2.2.2.2.1 hP k 2 (ha.j _ _ _) rfl hg hd (kk hr H locs ls hP hS hl)
theorem ok_lald {k n : Nat} {i : Int32} (hc : Cok Γ w ι μ) (ha : Iar w k 3 n) (hd : decode μ.2.1 pc = .ok (.laload, 1)) (kk : ib i n → Ok Γ w (pc + 1) lv (.long (S.2 k (nt i)) :: st) S r) : Ok Γ w pc lv (.int i :: rv Γ k :: st) S (if ib i n then r else none) := by
  by_cases h : ib i n
  · rw [if_pos h]; exact ok_laldK hc ha h hd (kk h)
  · rw [if_neg h]; exact ok_none

theorem ok_aaldK {k t n : Nat} {i : Int32} {q : Nat → Nat} {C : String} (hc : Cok Γ w ι μ) (ha : Irr w k t n) (ht : (wtys Γ.2.1.2.1)[t + 3]? = some (Γ.2.1.2.1 (t + 3), .object C)) (hq : ∀ j, j < n → w.2.2 k j = some (q j)) (hg : ib i n) (hd : decode μ.2.1 pc = .ok (.aaload, 1)) (kk : Ok Γ w (pc + 1) lv (rv Γ (q (nt i)) :: st) S r) : Ok Γ w pc lv (.int i :: rv Γ k :: st) S r := by
  intro hr H locs ls hP hS hl
  have hlt : nt i < n := Nat.not_le.mp fun z => hg (Or.inr z)
  refine va_aldq hc.1 hc.2.1 hc.2.2.2.2.2.2.2.1 hP k (t + 3) (ha.r _ _ _) ht hg hd ?_
  have e : va_rf ((w.2.2 k (nt i)).map (fun q => gn Γ + q)) = rv Γ (q (nt i)) := by rw [hq _ hlt]; rfl
  show Wat Γ H locs (F0 (gm Γ) (pc + 1) ls (va_rf ((w.2.2 k (nt i)).map (fun q => gn Γ + q)) :: st))
  rw [e]
  exact kk hr H locs ls hP hS hl
theorem ok_aald {k t n : Nat} {i : Int32} (q : Nat → Nat) (C : String) (hc : Cok Γ w ι μ) (ha : Irr w k t n) (ht : (wtys Γ.2.1.2.1)[t + 3]? = some (Γ.2.1.2.1 (t + 3), .object C)) (hq : ∀ j, j < n → w.2.2 k j = some (q j)) (hd : decode μ.2.1 pc = .ok (.aaload, 1)) (kk : ib i n → Ok Γ w (pc + 1) lv (rv Γ (q (nt i)) :: st) S r) : Ok Γ w pc lv (.int i :: rv Γ k :: st) S (if ib i n then r else none) := by
  by_cases h : ib i n
  · rw [if_pos h]; exact ok_aaldK hc ha ht hq h hd (kk h)
  · rw [if_neg h]; exact ok_none
theorem ok_iastK {k n : Nat} {i x : Int32} (hc : Cok Γ w ι μ) (ha : Iar w k 1 n) (hg : ib i n) (hd : decode μ.2.1 pc = .ok (.iastore, 1)) (kk : Ok Γ w (pc + 1) lv st (wi S k (nt i) x) r) : Ok Γ w pc lv (.int x :: .int i :: rv Γ k :: st) S r := fun hr H locs ls hP hS hl => va_iast hc.1 hc.2.1 hc.2.2.2.2.2.2.2.1 hP wl_D hS k 0 (ha.i _ _ _) rfl hg hd (fun H1 locs1 a b c => by rw [ha.seti] at a; exact kk hr H1 locs1 ls a c hl)
theorem ok_iast {k n : Nat} {i x : Int32} (hc : Cok Γ w ι μ) (ha : Iar w k 1 n) (hd : decode μ.2.1 pc = .ok (.iastore, 1)) (kk : ib i n → Ok Γ w (pc + 1) lv st (wi S k (nt i) x) r) : Ok Γ w pc lv (.int x :: .int i :: rv Γ k :: st) S (if ib i n then r else none) := by
  by_cases h : ib i n
  · rw [if_pos h]; exact ok_iastK hc ha h hd (kk h)
  · rw [if_neg h]; exact ok_none
theorem ok_lastK {k n : Nat} {i : Int32} {x : Int64} (hc : Cok Γ w ι μ) (ha : Iar w k 3 n) (hg : ib i n) (hd : decode μ.2.1 pc = .ok (.lastore, 1)) (kk : Ok Γ w (pc + 1) lv st (wj S k (nt i) x) r) : Ok Γ w pc lv (.long x :: .int i :: rv Γ k :: st) S r := fun hr H locs ls hP hS hl => va_last hc.1 hc.2.1 hc.2.2.2.2.2.2.2.1 hP wl_D hS k 2 (ha.j _ _ _) rfl hg hd (fun H1 locs1 a b c => by rw [ha.setj] at a; exact kk hr H1 locs1 ls a c hl)
theorem ok_last {k n : Nat} {i : Int32} {x : Int64} (hc : Cok Γ w ι μ) (ha : Iar w k 3 n) (hd : decode μ.2.1 pc = .ok (.lastore, 1)) (kk : ib i n → Ok Γ w (pc + 1) lv st (wj S k (nt i) x) r) : Ok Γ w pc lv (.long x :: .int i :: rv Γ k :: st) S (if ib i n then r else none) := by
  by_cases h : ib i n
  · rw [if_pos h]; exact ok_lastK hc ha h hd (kk h)
  · rw [if_neg h]; exact ok_none
theorem ok_zastK {k n : Nat} {i x : Int32} (hc : Cok Γ w ι μ) (ha : Iar w k 2 n) (hg : ib i n) (hx : b01 x) (hd : decode μ.2.1 pc = .ok (.bastore, 1)) (kk : Ok Γ w (pc + 1) lv st (wi S k (nt i) x) r) : Ok Γ w pc lv (.int x :: .int i :: rv Γ k :: st) S r := fun hr H locs ls hP hS hl => va_zast hc.1 hc.2.1 hc.2.2.2.2.2.2.2.1 hP wl_D hS k 1 (ha.z _ _ _) rfl hg hd (fun H1 locs1 a b c => by rw [b01_vp hx, ha.setz] at a; exact kk hr H1 locs1 ls a c hl)
theorem ok_zast {k n : Nat} {i x : Int32} (hc : Cok Γ w ι μ) (ha : Iar w k 2 n) (hd : decode μ.2.1 pc = .ok (.bastore, 1)) (kk : (ib i n ∧ b01 x) → Ok Γ w (pc + 1) lv st (wi S k (nt i) x) r) : Ok Γ w pc lv (.int x :: .int i :: rv Γ k :: st) S (if ib i n ∧ b01 x then r else none) := by
  by_cases h : ib i n ∧ b01 x
  · rw [if_pos h]; exact ok_zastK hc ha h.1 h.2 hd (kk h)
  · rw [if_neg h]; exact ok_none
theorem ok_aleni {k n : Nat} (hc : Cok Γ w ι μ) (ha : Iar w k 1 n) (hd : decode μ.2.1 pc = .ok (.arraylength, 1)) (kk : Ok Γ w (pc + 1) lv (.int (Int32.ofNat n) :: st) S r) : Ok Γ w pc lv (rv Γ k :: st) S r := fun hr H locs ls hP hS hl => va_alen hc.1 hc.2.1 hc.2.2.2.2.2.2.2.1 hP k 0 (ha.i _ _ _) rfl rfl hd (kk hr H locs ls hP hS hl)
theorem ok_alenj {k n : Nat} (hc : Cok Γ w ι μ) (ha : Iar w k 3 n) (hd : decode μ.2.1 pc = .ok (.arraylength, 1)) (kk : Ok Γ w (pc + 1) lv (.int (Int32.ofNat n) :: st) S r) : Ok Γ w pc lv (rv Γ k :: st) S r := fun hr H locs ls hP hS hl => va_alen hc.1 hc.2.1 hc.2.2.2.2.2.2.2.1 hP k 2 (ha.j _ _ _) rfl rfl hd (kk hr H locs ls hP hS hl)
/-! ===== the end of a method ===== -/
theorem cok_end {q : α × St} {H : Heap} {locs : List Loc} {t : State} (hc : Cok Γ w ι μ) (hq : some q = some Γ.2.2.2.2) (hP : va_P Γ.2.1.1 vwCl (wl Γ.2.1.2.1 (gn Γ) w q.2) H) (hS : va_S (AA (gn Γ) w) (gs Γ).heap H locs) (ht : t.heap = H) (hW : (gs Γ).WarmedH t.vm) : Qof ι Γ.2.1.1 Γ.2.1.2.1 (gn Γ) w Γ.2.2.2.2 Γ.1.2.2.2.2.2.2.1 (gs Γ) (.returned (ι q.1)) t := by
  cases hq
  exact ⟨rfl, ⟨by rw [ht]; exact hP, va_K.moved hW.alike hc.2.2.2.2.2.2.2.1, fun z hz => NW_warm hz hW (hc.2.2.2.2.2.2.1 z hz)⟩, hS.F ht⟩
theorem ok_iret {Γ : Cx Int32} {v : Int32} (hc : Cok Γ w vI μ) (hr : μ.2.2.2.1 = some .int) (hd : decode μ.2.1 pc = .ok (.ireturn, 1)) : Ok Γ w pc lv [.int v] S (some (v, S)) := by
  intro hq H locs ls hP hS hl
  show W _ _ _ _ _ _ _ _ _ _ _ _ _ _ _ _
  rw [hc.2.2.2.2.2.2.2.2.2.2.2]
  exact W.iret hc.1 hc.2.1 (hc.2.2.2.2.2.2.2.2.1.trans hr) (fun t ht hW => cok_end hc hq hP hS ht hW) hS.2.2 hd hc.2.2.2.2.2.2.2.2.2.1
theorem ok_zretK {Γ : Cx Int32} {v : Int32} (hc : Cok Γ w vI μ) (hr : μ.2.2.2.1 = some .boolean) (hv : b01 v) (hd : decode μ.2.1 pc = .ok (.ireturn, 1)) : Ok Γ w pc lv [.int v] S (some (v, S)) := by
  intro hq H locs ls hP hS hl
  show W _ _ _ _ _ _ _ _ _ _ _ _ _ _ _ _
  rw [hc.2.2.2.2.2.2.2.2.2.2.2]
  exact W.zret hc.1 hc.2.1 (hc.2.2.2.2.2.2.2.2.1.trans hr) (b01_nar hv) (fun t ht hW => cok_end hc hq hP hS ht hW) hS.2.2 hd hc.2.2.2.2.2.2.2.2.2.1
theorem ok_zret {Γ : Cx Int32} {v : Int32} (hc : Cok Γ w vI μ) (hr : μ.2.2.2.1 = some .boolean) (hd : decode μ.2.1 pc = .ok (.ireturn, 1)) : Ok Γ w pc lv [.int v] S (if b01 v then some (v, S) else none) := by
  by_cases h : b01 v
  · rw [if_pos h]; exact ok_zretK hc hr h hd
  · rw [if_neg h]; exact ok_none
theorem ok_lret {Γ : Cx Int64} {v : Int64} (hc : Cok Γ w vL μ) (hr : μ.2.2.2.1 = some .long) (hd : decode μ.2.1 pc = .ok (.lreturn, 1)) : Ok Γ w pc lv [.long v] S (some (v, S)) := by
  intro hq H locs ls hP hS hl
  show W _ _ _ _ _ _ _ _ _ _ _ _ _ _ _ _
  rw [hc.2.2.2.2.2.2.2.2.2.2.2]
  exact W.lret hc.1 hc.2.1 (hc.2.2.2.2.2.2.2.2.1.trans hr) (fun t ht hW => cok_end hc hq hP hS ht hW) hS.2.2 hd hc.2.2.2.2.2.2.2.2.2.1
theorem ok_vret {Γ : Cx Unit} (hc : Cok Γ w vU μ) (hr : μ.2.2.2.1 = none) (hd : decode μ.2.1 pc = .ok (.return_, 1)) : Ok Γ w pc lv [] S (some ((), S)) := by
  intro hq H locs ls hP hS hl
  show W _ _ _ _ _ _ _ _ _ _ _ _ _ _ _ _
  rw [hc.2.2.2.2.2.2.2.2.2.2.2]
  exact W.vret hc.1 hc.2.1 (hc.2.2.2.2.2.2.2.2.1.trans hr) (fun t ht hW => cok_end hc hq hP hS ht hW) hS.2.2 hd hc.2.2.2.2.2.2.2.2.2.1
end OKS

