
/-! ===== a judgement over any picture of the heap; cells and slots are counted ===== -/
def Og (X : Mx) (nL : Nat) (Q : State → Prop) (Ψ : Heap → List Loc → Prop) (cs sl pc : Nat) (lv : List (Nat × Value)) (st : List Value) : Prop := ∀ (H : Heap) (locs : List Loc) (ls : Array Slot), Ψ H locs → lv_has ls nL lv → W X.1 X.2.1 X.2.2.1 X.2.2.2.1 X.2.2.2.2.1 X.2.2.2.2.2.1 X.2.2.2.2.2.2.1 X.2.2.2.2.2.2.2.1 X.2.2.2.2.2.2.2.2.1 X.2.2.2.2.2.2.2.2.2 H locs cs sl Q (F0 X.2.2.2.2.2.1 pc ls st)
def Cg (X : Mx) (nL : Nat) (cc : ByteArray) (own : String) (D : va_G) (ids : Nat → ClassId) : Prop :=
  X.1.tables.exec = Jvm.exec ∧ X.2.2.2.2.2.2.2.2.2.code = cc ∧ X.2.2.2.2.2.2.2.2.2.maxLocals = nL ∧ X.2.2.2.2.1.vm.findClass own = some X.2.2.2.2.2.1.cls ∧ (∀ z ∈ WT, z.before X.2.2.2.2.2.2.1 X.2.2.2.2.1 = true) ∧ (∀ z ∈ NW, va_Nw z X.2.2.2.2.1) ∧ va_K D vwCl (wtys ids) X.2.2.2.2.1
section OGS
variable {X : Mx} {nL : Nat} {cc : ByteArray} {own : String} {D : va_G} {ids : Nat → ClassId} {Q : State → Prop} {Ψ : Heap → List Loc → Prop} {cs sl pc : Nat} {lv : List (Nat × Value)} {st : List Value}
theorem og_sub (ks : List Nat) {lv' : List (Nat × Value)} (h : lv_pick lv ks = lv') (k : Og X nL Q Ψ cs sl pc lv' st) : Og X nL Q Ψ cs sl pc lv st := fun H locs ls hP hl => k H locs ls hP (lv_sub hl ks h)

theorem og_iconst {n : Int} {v : Int32} (hc : Cg X nL cc own D ids) (hd : decode cc pc = .ok (.iconst n, 1)) (hv : Int32.ofInt n = v) (k : Og X nL Q Ψ cs sl (pc + 1) lv (.int v :: st)) : Og X nL Q Ψ cs sl pc lv (st) := fun H locs ls hP hl => lv_iconst hc.1 hc.2.1 hd hv (k H locs ls hP hl)
theorem og_bipush {n : Int} {v : Int32} (hc : Cg X nL cc own D ids) (hd : decode cc pc = .ok (.bipush n, 2)) (hv : (Int8.ofInt n).toInt32 = v) (k : Og X nL Q Ψ cs sl (pc + 2) lv (.int v :: st)) : Og X nL Q Ψ cs sl pc lv (st) := fun H locs ls hP hl => lv_bipush hc.1 hc.2.1 hd hv (k H locs ls hP hl)
theorem og_sipush {n : Int} {v : Int32} (hc : Cg X nL cc own D ids) (hd : decode cc pc = .ok (.sipush n, 3)) (hv : (Int16.ofInt n).toInt32 = v) (k : Og X nL Q Ψ cs sl (pc + 3) lv (.int v :: st)) : Og X nL Q Ψ cs sl pc lv (st) := fun H locs ls hP hl => lv_sipush hc.1 hc.2.1 hd hv (k H locs ls hP hl)
theorem og_ldc2 {i : Nat} {v : Int64} (hc : Cg X nL cc own D ids) (hd : decode cc pc = .ok (.ldc2_w i, 3)) (hm : Cond.constantLong own i v ∈ WT) (k : Og X nL Q Ψ cs sl (pc + 3) lv (.long v :: st)) : Og X nL Q Ψ cs sl pc lv (st) := fun H locs ls hP hl => lv_ldc2 hc.1 hc.2.1 hc.2.2.2.1 (hc.2.2.2.2.1 _ hm) hd (k H locs ls hP hl)
theorem og_iload {i : Nat} {x : Int32} (kk : Nat) (hc : Cg X nL cc own D ids) (hd : decode cc pc = .ok (.iload i, 2)) (hx : lv[kk]? = some (i, .int x)) (k : Og X nL Q Ψ cs sl (pc + 2) lv (.int x :: st)) : Og X nL Q Ψ cs sl pc lv (st) := fun H locs ls hP hl => lv_iload hc.1 hc.2.1 hd (lv_at hl kk hx) (k H locs ls hP hl)
theorem og_iload_n {n : Fin 4} {i : Nat} {x : Int32} (kk : Nat) (hc : Cg X nL cc own D ids) (hd : decode cc pc = .ok (.iload_n n, 1)) (hi : (n : Nat) = i) (hx : lv[kk]? = some (i, .int x)) (k : Og X nL Q Ψ cs sl (pc + 1) lv (.int x :: st)) : Og X nL Q Ψ cs sl pc lv (st) := fun H locs ls hP hl => lv_iload_n hc.1 hc.2.1 hd hi (lv_at hl kk hx) (k H locs ls hP hl)
theorem og_aload {i : Nat} {x : Nat} (kk : Nat) (hc : Cg X nL cc own D ids) (hd : decode cc pc = .ok (.aload i, 2)) (hx : lv[kk]? = some (i, .ref x)) (k : Og X nL Q Ψ cs sl (pc + 2) lv (.ref x :: st)) : Og X nL Q Ψ cs sl pc lv (st) := fun H locs ls hP hl => lv_aload hc.1 hc.2.1 hd (lv_at hl kk hx) (k H locs ls hP hl)
theorem og_aload_n {n : Fin 4} {i : Nat} {x : Nat} (kk : Nat) (hc : Cg X nL cc own D ids) (hd : decode cc pc = .ok (.aload_n n, 1)) (hi : (n : Nat) = i) (hx : lv[kk]? = some (i, .ref x)) (k : Og X nL Q Ψ cs sl (pc + 1) lv (.ref x :: st)) : Og X nL Q Ψ cs sl pc lv (st) := fun H locs ls hP hl => lv_aload_n hc.1 hc.2.1 hd hi (lv_at hl kk hx) (k H locs ls hP hl)
theorem og_iadd {x y : Int32} (hc : Cg X nL cc own D ids) (hd : decode cc pc = .ok (.iadd, 1)) (k : Og X nL Q Ψ cs sl (pc + 1) lv (.int (x + y) :: st)) : Og X nL Q Ψ cs sl pc lv (.int y :: .int x :: st) := fun H locs ls hP hl => lv_iadd hc.1 hc.2.1 hd (k H locs ls hP hl)
theorem og_isub {x y : Int32} (hc : Cg X nL cc own D ids) (hd : decode cc pc = .ok (.isub, 1)) (k : Og X nL Q Ψ cs sl (pc + 1) lv (.int (x - y) :: st)) : Og X nL Q Ψ cs sl pc lv (.int y :: .int x :: st) := fun H locs ls hP hl => lv_isub hc.1 hc.2.1 hd (k H locs ls hP hl)
theorem og_iand {x y : Int32} (hc : Cg X nL cc own D ids) (hd : decode cc pc = .ok (.iand, 1)) (k : Og X nL Q Ψ cs sl (pc + 1) lv (.int (x &&& y) :: st)) : Og X nL Q Ψ cs sl pc lv (.int y :: .int x :: st) := fun H locs ls hP hl => lv_iand hc.1 hc.2.1 hd (k H locs ls hP hl)
theorem og_land {x y : Int64} (hc : Cg X nL cc own D ids) (hd : decode cc pc = .ok (.land, 1)) (k : Og X nL Q Ψ cs sl (pc + 1) lv (.long (x &&& y) :: st)) : Og X nL Q Ψ cs sl pc lv (.long y :: .long x :: st) := fun H locs ls hP hl => lv_land hc.1 hc.2.1 hd (k H locs ls hP hl)
theorem og_lor {x y : Int64} (hc : Cg X nL cc own D ids) (hd : decode cc pc = .ok (.lor, 1)) (k : Og X nL Q Ψ cs sl (pc + 1) lv (.long (x ||| y) :: st)) : Og X nL Q Ψ cs sl pc lv (.long y :: .long x :: st) := fun H locs ls hP hl => lv_lor hc.1 hc.2.1 hd (k H locs ls hP hl)
theorem og_lshl {x : Int64} {y : Int32} (hc : Cg X nL cc own D ids) (hd : decode cc pc = .ok (.lshl, 1)) (k : Og X nL Q Ψ cs sl (pc + 1) lv (.long (x <<< (y.toInt64 &&& 63)) :: st)) : Og X nL Q Ψ cs sl pc lv (.int y :: .long x :: st) := fun H locs ls hP hl => lv_lshl hc.1 hc.2.1 hd rfl (k H locs ls hP hl)
theorem og_i2l {x : Int32} (hc : Cg X nL cc own D ids) (hd : decode cc pc = .ok (.i2l, 1)) (k : Og X nL Q Ψ cs sl (pc + 1) lv (.long (x.toInt64) :: st)) : Og X nL Q Ψ cs sl pc lv (.int x :: st) := fun H locs ls hP hl => lv_i2l hc.1 hc.2.1 hd rfl (k H locs ls hP hl)
theorem og_dup {v : Value} (hc : Cg X nL cc own D ids) (hd : decode cc pc = .ok (.dup, 1)) (hv : v.category = 1) (k : Og X nL Q Ψ cs sl (pc + 1) lv (v :: v :: st)) : Og X nL Q Ψ cs sl pc lv (v :: st) := fun H locs ls hP hl => lv_dup hc.1 hc.2.1 hd hv (k H locs ls hP hl)
theorem og_istore {i : Nat} {x : Int32} (lv' : List (Nat × Value)) (hc : Cg X nL cc own D ids) (hd : decode cc pc = .ok (.istore i, 2)) (hn : i < nL) (h : (i, Value.int x) :: stI lv i = lv') (k : Og X nL Q Ψ cs sl (pc + 2) lv' st) : Og X nL Q Ψ cs sl pc lv (.int x :: st) := fun H locs ls hP hl => lv_istore hc.1 hc.2.1 hd hl hn h (fun ls hl => k H locs ls hP hl)
theorem og_istore_n {n : Fin 4} {i : Nat} {x : Int32} (lv' : List (Nat × Value)) (hc : Cg X nL cc own D ids) (hd : decode cc pc = .ok (.istore_n n, 1)) (hi : (n : Nat) = i) (hn : i < nL) (h : (i, Value.int x) :: stI lv i = lv') (k : Og X nL Q Ψ cs sl (pc + 1) lv' st) : Og X nL Q Ψ cs sl pc lv (.int x :: st) := fun H locs ls hP hl => lv_istore_n hc.1 hc.2.1 hd hi hl hn h (fun ls hl => k H locs ls hP hl)
theorem og_astore {i : Nat} {x : Nat} (lv' : List (Nat × Value)) (hc : Cg X nL cc own D ids) (hd : decode cc pc = .ok (.astore i, 2)) (hn : i < nL) (h : (i, Value.ref x) :: stI lv i = lv') (k : Og X nL Q Ψ cs sl (pc + 2) lv' st) : Og X nL Q Ψ cs sl pc lv (.ref x :: st) := fun H locs ls hP hl => lv_astore hc.1 hc.2.1 hd hl hn h (fun ls hl => k H locs ls hP hl)
theorem og_astore_n {n : Fin 4} {i : Nat} {x : Nat} (lv' : List (Nat × Value)) (hc : Cg X nL cc own D ids) (hd : decode cc pc = .ok (.astore_n n, 1)) (hi : (n : Nat) = i) (hn : i < nL) (h : (i, Value.ref x) :: stI lv i = lv') (k : Og X nL Q Ψ cs sl (pc + 1) lv' st) : Og X nL Q Ψ cs sl pc lv (.ref x :: st) := fun H locs ls hP hl => lv_astore_n hc.1 hc.2.1 hd hi hl hn h (fun ls hl => k H locs ls hP hl)
theorem og_iinc {i : Nat} {n : Int} {x v : Int32} (kk : Nat) (lv' : List (Nat × Value)) (hc : Cg X nL cc own D ids) (hd : decode cc pc = .ok (.iinc i n, 3)) (hx : lv[kk]? = some (i, .int x)) (hv : x + Int32.ofInt n = v) (hn : i < nL) (h : (i, Value.int v) :: stI lv i = lv') (k : Og X nL Q Ψ cs sl (pc + 3) lv' st) : Og X nL Q Ψ cs sl pc lv st := fun H locs ls hP hl => lv_iinc hc.1 hc.2.1 hd hl hx hv hn h (fun ls hl => k H locs ls hP hl)
theorem og_goto {off : Int} (tgt : Nat) (hc : Cg X nL cc own D ids) (hd : decode cc pc = .ok (.goto off, 3)) (ht : (pc : Int) + off = (tgt : Int)) (k : Og X nL Q Ψ cs sl tgt lv st) : Og X nL Q Ψ cs sl pc lv st := fun H locs ls hP hl => lv_goto hc.1 hc.2.1 hd ht (k H locs ls hP hl)
theorem og_icmp_eq {x y : Int32} {off : Int} (tgt : Nat) (hc : Cg X nL cc own D ids) (hd : decode cc pc = .ok (.if_icmp .eq off, 3)) (ht : (pc : Int) + off = (tgt : Int)) (kt : x = y → Og X nL Q Ψ cs sl tgt lv st) (kf : ¬ x = y → Og X nL Q Ψ cs sl (pc + 3) lv st) : Og X nL Q Ψ cs sl pc lv (.int y :: .int x :: st) := fun H locs ls hP hl => lv_icmp_eq hc.1 hc.2.1 hd ht (fun h => kt h H locs ls hP hl) (fun h => kf h H locs ls hP hl)
theorem og_icmp_ne {x y : Int32} {off : Int} (tgt : Nat) (hc : Cg X nL cc own D ids) (hd : decode cc pc = .ok (.if_icmp .ne off, 3)) (ht : (pc : Int) + off = (tgt : Int)) (kt : ¬ x = y → Og X nL Q Ψ cs sl tgt lv st) (kf : x = y → Og X nL Q Ψ cs sl (pc + 3) lv st) : Og X nL Q Ψ cs sl pc lv (.int y :: .int x :: st) := fun H locs ls hP hl => lv_icmp_ne hc.1 hc.2.1 hd ht (fun h => kt h H locs ls hP hl) (fun h => kf h H locs ls hP hl)
theorem og_icmp_lt {x y : Int32} {off : Int} (tgt : Nat) (hc : Cg X nL cc own D ids) (hd : decode cc pc = .ok (.if_icmp .lt off, 3)) (ht : (pc : Int) + off = (tgt : Int)) (kt : x < y → Og X nL Q Ψ cs sl tgt lv st) (kf : ¬ x < y → Og X nL Q Ψ cs sl (pc + 3) lv st) : Og X nL Q Ψ cs sl pc lv (.int y :: .int x :: st) := fun H locs ls hP hl => lv_icmp_lt hc.1 hc.2.1 hd ht (fun h => kt h H locs ls hP hl) (fun h => kf h H locs ls hP hl)
theorem og_icmp_ge {x y : Int32} {off : Int} (tgt : Nat) (hc : Cg X nL cc own D ids) (hd : decode cc pc = .ok (.if_icmp .ge off, 3)) (ht : (pc : Int) + off = (tgt : Int)) (kt : y ≤ x → Og X nL Q Ψ cs sl tgt lv st) (kf : ¬ y ≤ x → Og X nL Q Ψ cs sl (pc + 3) lv st) : Og X nL Q Ψ cs sl pc lv (.int y :: .int x :: st) := fun H locs ls hP hl => lv_icmp_ge hc.1 hc.2.1 hd ht (fun h => kt h H locs ls hP hl) (fun h => kf h H locs ls hP hl)
theorem og_icmp_gt {x y : Int32} {off : Int} (tgt : Nat) (hc : Cg X nL cc own D ids) (hd : decode cc pc = .ok (.if_icmp .gt off, 3)) (ht : (pc : Int) + off = (tgt : Int)) (kt : y < x → Og X nL Q Ψ cs sl tgt lv st) (kf : ¬ y < x → Og X nL Q Ψ cs sl (pc + 3) lv st) : Og X nL Q Ψ cs sl pc lv (.int y :: .int x :: st) := fun H locs ls hP hl => lv_icmp_gt hc.1 hc.2.1 hd ht (fun h => kt h H locs ls hP hl) (fun h => kf h H locs ls hP hl)
theorem og_icmp_le {x y : Int32} {off : Int} (tgt : Nat) (hc : Cg X nL cc own D ids) (hd : decode cc pc = .ok (.if_icmp .le off, 3)) (ht : (pc : Int) + off = (tgt : Int)) (kt : x ≤ y → Og X nL Q Ψ cs sl tgt lv st) (kf : ¬ x ≤ y → Og X nL Q Ψ cs sl (pc + 3) lv st) : Og X nL Q Ψ cs sl pc lv (.int y :: .int x :: st) := fun H locs ls hP hl => lv_icmp_le hc.1 hc.2.1 hd ht (fun h => kt h H locs ls hP hl) (fun h => kf h H locs ls hP hl)
theorem og_if_eq {x : Int32} {off : Int} (tgt : Nat) (hc : Cg X nL cc own D ids) (hd : decode cc pc = .ok (.ifCond .eq off, 3)) (ht : (pc : Int) + off = (tgt : Int)) (kt : x = 0 → Og X nL Q Ψ cs sl tgt lv st) (kf : ¬ x = 0 → Og X nL Q Ψ cs sl (pc + 3) lv st) : Og X nL Q Ψ cs sl pc lv (.int x :: st) := fun H locs ls hP hl => lv_if_eq hc.1 hc.2.1 hd ht (fun h => kt h H locs ls hP hl) (fun h => kf h H locs ls hP hl)
theorem og_if_ne {x : Int32} {off : Int} (tgt : Nat) (hc : Cg X nL cc own D ids) (hd : decode cc pc = .ok (.ifCond .ne off, 3)) (ht : (pc : Int) + off = (tgt : Int)) (kt : ¬ x = 0 → Og X nL Q Ψ cs sl tgt lv st) (kf : x = 0 → Og X nL Q Ψ cs sl (pc + 3) lv st) : Og X nL Q Ψ cs sl pc lv (.int x :: st) := fun H locs ls hP hl => lv_if_ne hc.1 hc.2.1 hd ht (fun h => kt h H locs ls hP hl) (fun h => kf h H locs ls hP hl)

theorem og_lcmp_eq {x y : Int64} {off : Int} (tgt : Nat) (hc : Cg X nL cc own D ids) (hd : decode cc pc = .ok (.lcmp, 1)) (hd2 : decode cc (pc + 1) = .ok (.ifCond .eq off, 3)) (ht : ((pc + 1 : Nat) : Int) + off = (tgt : Int)) (kt : x = y → Og X nL Q Ψ cs sl tgt lv st) (kf : ¬ x = y → Og X nL Q Ψ cs sl (pc + 1 + 3) lv st) : Og X nL Q Ψ cs sl pc lv (.long y :: .long x :: st) := fun H locs ls hP hl => W.lcmp hc.1 hc.2.1 hd (og_if_eq (x := lg_cmp x y) tgt hc hd2 ht (fun h => kt ((lgc_eq x y).mp h)) (fun h => kf (fun q => h ((lgc_eq x y).mpr q))) H locs ls hP hl)
theorem og_tswIn {dflt lo hi : Int} {offs : Array Int} {len : Nat} {x v : Int32} {off : Int} (tgt : Nat) (hc : Cg X nL cc own D ids) (hd : decode cc pc = .ok (.tableswitch dflt lo hi offs, len)) (hx : x = v) (h1 : ¬ v.toInt < lo) (h2 : ¬ hi < v.toInt) (ho : offs[(v.toInt - lo).toNat]? = some off) (ht : (pc : Int) + off = (tgt : Int)) (k : Og X nL Q Ψ cs sl tgt lv st) : Og X nL Q Ψ cs sl pc lv (.int x :: st) := by
  subst hx
  exact fun H locs ls hP hl => lv_tableIn hc.1 hc.2.1 hd h1 h2 ho ht (k H locs ls hP hl)
theorem og_tswOut {dflt lo hi : Int} {offs : Array Int} {len : Nat} {x : Int32} (tgt : Nat) (hc : Cg X nL cc own D ids) (hd : decode cc pc = .ok (.tableswitch dflt lo hi offs, len)) (h : x.toInt < lo ∨ hi < x.toInt) (ht : (pc : Int) + dflt = (tgt : Int)) (k : Og X nL Q Ψ cs sl tgt lv st) : Og X nL Q Ψ cs sl pc lv (.int x :: st) := fun H locs ls hP hl => lv_tableOut hc.1 hc.2.1 hd h ht (k H locs ls hP hl)
end OGS
/-! ===== worlds that grow ===== -/
def Fr (w : Wx) (S : St) : Prop := ∀ k, w.2.1 ≤ k → (∀ j, w.2.2 k j = none) ∧ (∀ j, S.1 k j = 0) ∧ (∀ j, S.2 k j = 0)
def AI (n0 : Nat) : Nat → Prop := fun q => n0 ≤ q
def PsI (s : State) (D : va_G) (ids : Nat → ClassId) (n0 : Nat) (w : Wx) (S : St) (H : Heap) (locs : List Loc) : Prop := H.size = n0 + w.2.1 ∧ Fr w S ∧ va_P D vwCl (wl ids n0 w S) H ∧ va_S (AI n0) s.heap H locs
def wN (w : Wx) : Wx := (w.1, w.2.1 + 1, w.2.2)
def wR (w : Wx) (k j q : Nat) : Wx := (w.1, w.2.1, fun a b => if a = k ∧ b = j then some q else w.2.2 a b)
theorem Fr.n {w : Wx} {S : St} (h : Fr w S) : Fr (wN w) S := fun k hk => h k (Nat.le_of_succ_le hk)
theorem Fr.i {w : Wx} {S : St} {k j : Nat} {v : Int32} (h : Fr w S) (hk : k < w.2.1) : Fr w (wi S k j v) := fun a ha => ⟨(h a ha).1, fun b => by
  have : ¬ a = k := by omega
  simp [wi, this, (h a ha).2.1 b], (h a ha).2.2⟩
theorem Fr.r {w : Wx} {S : St} {k j q : Nat} (h : Fr w S) (hk : k < w.2.1) : Fr (wR w k j q) S := fun a ha => ⟨fun b => by
  have ha' : w.2.1 ≤ a := ha
  have : ¬ a = k := by omega
  simp [wR, this, (h a ha).1 b], (h a ha).2⟩
theorem pwl_of {D : va_G} {ids : Nat → ClassId} {n0 : Nat} {w : Wx} {S : St} {H : Heap} (h : ∀ k, k < w.2.1 → va_at D vwCl (n0 + k, wcell ids n0 w S k) H) : va_P D vwCl (wl ids n0 w S) H := by
  intro k q hk
  obtain ⟨h1, rfl⟩ := wl_of hk
  exact h k h1
theorem pwl_at {D : va_G} {ids : Nat → ClassId} {n0 : Nat} {w : Wx} {S : St} {H : Heap} (h : va_P D vwCl (wl ids n0 w S) H) {k : Nat} (hk : k < w.2.1) : va_at D vwCl (n0 + k, wcell ids n0 w S k) H := h k _ (wl_get hk)
/-- a new cell behind the others -/
theorem ps_push {s : State} {D : va_G} {ids : Nat → ClassId} {n0 : Nat} {w : Wx} {S : St} {H H1 : Heap} {locs : List Loc} (h : PsI s D ids n0 w S H locs) (z : H1.size = n0 + w.2.1 + 1) (o : ∀ q, q < n0 + w.2.1 → H1[q]? = H[q]?) (e : va_at D vwCl (n0 + w.2.1, wcell ids n0 (wN w) S w.2.1) H1) : PsI s D ids n0 (wN w) S H1 locs := by
  obtain ⟨h1, h2, h3, h4⟩ := h
  refine ⟨z, h2.n, pwl_of (fun k hk => ?_), Nat.le_trans h4.1 (by omega), fun q a b => ?_, h4.2.2⟩
  · by_cases hkn : k = w.2.1
    · subst hkn; exact e
    · have hlt : k < w.2.1 := by have : k < w.2.1 + 1 := hk; omega
      exact va_at.kept (pwl_at h3 hlt) (o _ (by show n0 + k < _; omega))
  · rw [o q (by have := h4.1; omega)]; exact h4.2.1 q a b
/-- a cell of the world is written -/
theorem ps_set {s : State} {D : va_G} {ids : Nat → ClassId} {n0 : Nat} {w w' : Wx} {S S' : St} {H H1 : Heap} {locs : List Loc} {k b : Nat} (h : PsI s D ids n0 w S H locs) (hw : w'.2.1 = w.2.1) (hF : Fr w' S') (z : H1.size = H.size) (o : ∀ q, q ≠ n0 + k → H1[q]? = H[q]?) (e : va_at D vwCl (n0 + k, wcell ids n0 w' S' k) H1) (hc : ∀ a, a ≠ k → wcell ids n0 w' S' a = wcell ids n0 w S a) : PsI s D ids n0 w' S' H1 (locs ++ [⟨n0 + k, b⟩]) := by
  obtain ⟨h1, h2, h3, h4⟩ := h
  refine ⟨by rw [z, h1, hw], hF, pwl_of (fun a ha => ?_), h4.put z o (by show n0 ≤ n0 + k; omega)⟩
  by_cases hak : a = k
  · subst hak; exact e
  · rw [hc a hak]
    exact va_at.kept (pwl_at h3 (by rw [← hw]; exact ha)) (o _ (by show n0 + a ≠ n0 + k; omega))
theorem wcell_wR {ids : Nat → ClassId} {n0 : Nat} {w : Wx} {S : St} {k j q : Nat} (a : Nat) (h : a ≠ k) : wcell ids n0 (wR w k j q) S a = wcell ids n0 w S a := by
  have e : (wR w k j q).2.2 a = w.2.2 a := by funext b; simp [wR, h]
  have e1 : (wR w k j q).1 a = w.1 a := rfl
  simp only [wcell, e, e1]
theorem wcell_ob {ids : Nat → ClassId} {n0 : Nat} {w : Wx} {S : St} {k ci nf : Nat} (h : w.1 k = (0, ci, nf)) : wcell ids n0 w S k = .inr (ci, fsOf n0 w S k ci nf) := by simp [wcell, h, fsOf]
theorem fsOf_setr {n0 : Nat} {w : Wx} {S : St} {k ci nf j q : Nat} (hj : j < nf) (hf : ft ci j = true) : (fsOf n0 w S k ci nf).set j (.ref (n0 + q)) = fsOf n0 (wR w k j q) S k ci nf := by
  apply List.ext_getElem?
  intro i
  by_cases hi : i < nf
  · rw [fsOf_get hi]
    by_cases hij : j = i
    · subst hij
      rw [List.getElem?_set_self (by rw [fsOf_len]; exact hj), hf]
      simp [wR, va_rf]
    · have hne : ¬ i = j := fun z => hij z.symm
      rw [List.getElem?_set_ne hij, fsOf_get hi]
      simp [wR, hne]
  · rw [List.getElem?_eq_none (by simp [fsOf_len]; omega), List.getElem?_eq_none (by simp [fsOf_len]; omega)]
/-- a class: its table, its types, what its fields are at first -/
def Nc (ci nf : Nat) (C : String) : Prop := ∃ (T : u_T) (ty : Nat → FieldType), vwCl[ci]? = some (C, T, nf) ∧ (∀ z ∈ u_ws C T nf, z ∈ WT) ∧ (∀ k, k < nf → parseFieldDescriptor (T k).2.2.1 = some (ty k)) ∧ (∀ k, k < nf → defaultValue (ty k) = if ft ci k then .null else .int 0) ∧ Cond.instantiable C nf ∈ WT ∧ Cond.initialized C ∈ WT
section OGI
variable {X : Mx} {nL : Nat} {cc : ByteArray} {own : String} {D : va_G} {ids : Nat → ClassId} {Q : State → Prop} {cs sl pc n0 : Nat} {lv : List (Nat × Value)} {st : List Value} {w : Wx} {S : St} {s0 : State}
theorem oi_new {i ci nf : Nat} {C : String} (hc : Cg X nL cc own D ids) (hn : Nc ci nf C) (hl1 : Cond.classLink own i C ∈ WT) (hsh : w.1 w.2.1 = (0, ci, nf)) (hR : cs + 1 ≤ X.2.2.2.1.cells ∧ sl + nf ≤ X.2.2.2.1.slots) (hd : decode cc pc = .ok (.new i, 3)) (kk : Og X nL Q (PsI s0 D ids n0 (wN w) S) (cs + 1) (sl + nf) (pc + 3) lv (.ref (n0 + w.2.1) :: st)) : Og X nL Q (PsI s0 D ids n0 w S) cs sl pc lv st := by
  intro H locs ls hP hl
  obtain ⟨T, ty, h1, h2, h3, h4, h5, h6⟩ := hn
  have hts := hc.2.2.2.2.1
  have hKn := hc.2.2.2.2.2.2.1 ci _ h1
  refine W.newcK hc.1 hc.2.1 hc.2.2.2.1 (hts _ hl1) (hts _ h5) (hts _ h6) rfl hd hR.1 hR.2 hKn.2.1 hP.1 fun H1 kC hkC e1 z1 o1 => ?_
  refine kk H1 locs ls (ps_push hP z1 o1 ?_) hl
  rw [wcell_ob (w := wN w) hsh]
  refine ⟨_, h1, (u_born ty hts h2 hKn hkC e1 h3).to (fun j hj => ?_)⟩
  rw [h4 j hj]
  have hF := hP.2.1 w.2.1 (Nat.le_refl _)
  simp only [vp_V, List.getD_eq_getElem?_getD, fsOf_get hj]
  cases hft : ft ci j
  · simp [hF.2.1 j]
  · have : (wN w).2.2 w.2.1 j = none := hF.1 j
    simp [this, va_rf]
theorem oi_newi {n : Int32} {N : Nat} (hc : Cg X nL cc own D ids) (hw : Cond.arrayClass .int ∈ WT) (hsh : w.1 w.2.1 = (1, 0, N)) (hn : ¬ n < 0) (hN : n.toNatClampNeg = N) (hb : N * componentBytes .int ≤ 536870912) (hR : cs + 1 ≤ X.2.2.2.1.cells ∧ sl + N ≤ X.2.2.2.1.slots) (hd : decode cc pc = .ok (.newarray .int, 2)) (kk : Og X nL Q (PsI s0 D ids n0 (wN w) S) (cs + 1) (sl + N) (pc + 2) lv (.ref (n0 + w.2.1) :: st)) : Og X nL Q (PsI s0 D ids n0 w S) cs sl pc lv (.int n :: st) := by
  intro H locs ls hP hl
  have hts := hc.2.2.2.2.1
  refine va_newaK (atype := .int) hc.1 hc.2.1 (hts _ hw) rfl hd rfl hn hN hb hR.1 hR.2 hP.1 fun H1 cA e1 z1 o1 hAr hNm => ?_
  have hid : cA = ids 0 := by have h := (hc.2.2.2.2.2.2.2 0 _ rfl).2; exact Option.some.inj (hNm.symm.trans h)
  subst hid
  refine kk H1 locs ls (ps_push hP z1 o1 ?_) hl
  have hF := hP.2.1 w.2.1 (Nat.le_refl _)
  have e : wcell ids n0 (wN w) S w.2.1 = .inl (ids 0, N, .inl (S.1 w.2.1)) := by
    have : (wN w).1 w.2.1 = (1, 0, N) := hsh
    simp [wcell, this]
  rw [e]
  show H1[n0 + w.2.1]? = some (vp_cell _ _)
  rw [e1, vp_cell_i]
  congr 2
  funext j
  rw [hF.2.1 j]; rfl
theorem oi_newz {n : Int32} {N : Nat} (hc : Cg X nL cc own D ids) (hw : Cond.arrayClass .boolean ∈ WT) (hsh : w.1 w.2.1 = (2, 0, N)) (hn : ¬ n < 0) (hN : n.toNatClampNeg = N) (hb : N * componentBytes .boolean ≤ 536870912) (hR : cs + 1 ≤ X.2.2.2.1.cells ∧ sl + N ≤ X.2.2.2.1.slots) (hd : decode cc pc = .ok (.newarray .boolean, 2)) (kk : Og X nL Q (PsI s0 D ids n0 (wN w) S) (cs + 1) (sl + N) (pc + 2) lv (.ref (n0 + w.2.1) :: st)) : Og X nL Q (PsI s0 D ids n0 w S) cs sl pc lv (.int n :: st) := by
  intro H locs ls hP hl
  have hts := hc.2.2.2.2.1
  refine va_newaK (atype := .boolean) hc.1 hc.2.1 (hts _ hw) rfl hd rfl hn hN hb hR.1 hR.2 hP.1 fun H1 cA e1 z1 o1 hAr hNm => ?_
  have hid : cA = ids 1 := by have h := (hc.2.2.2.2.2.2.2 1 _ rfl).2; exact Option.some.inj (hNm.symm.trans h)
  subst hid
  refine kk H1 locs ls (ps_push hP z1 o1 ?_) hl
  have hF := hP.2.1 w.2.1 (Nat.le_refl _)
  have e : wcell ids n0 (wN w) S w.2.1 = .inl (ids 1, N, .inl (S.1 w.2.1)) := by
    have : (wN w).1 w.2.1 = (2, 0, N) := hsh
    simp [wcell, this]
  rw [e]
  show H1[n0 + w.2.1]? = some (vp_cell _ _)
  rw [e1, vp_cell_i]
  congr 2
  funext j
  rw [hF.2.1 j]; rfl
theorem oi_newj {n : Int32} {N : Nat} (hc : Cg X nL cc own D ids) (hw : Cond.arrayClass .long ∈ WT) (hsh : w.1 w.2.1 = (3, 0, N)) (hn : ¬ n < 0) (hN : n.toNatClampNeg = N) (hb : N * componentBytes .long ≤ 536870912) (hR : cs + 1 ≤ X.2.2.2.1.cells ∧ sl + N ≤ X.2.2.2.1.slots) (hd : decode cc pc = .ok (.newarray .long, 2)) (kk : Og X nL Q (PsI s0 D ids n0 (wN w) S) (cs + 1) (sl + N) (pc + 2) lv (.ref (n0 + w.2.1) :: st)) : Og X nL Q (PsI s0 D ids n0 w S) cs sl pc lv (.int n :: st) := by
  intro H locs ls hP hl
  have hts := hc.2.2.2.2.1
  refine va_newaK (atype := .long) hc.1 hc.2.1 (hts _ hw) rfl hd rfl hn hN hb hR.1 hR.2 hP.1 fun H1 cA e1 z1 o1 hAr hNm => ?_
  have hid : cA = ids 2 := by have h := (hc.2.2.2.2.2.2.2 2 _ rfl).2; exact Option.some.inj (hNm.symm.trans h)
  subst hid
  refine kk H1 locs ls (ps_push hP z1 o1 ?_) hl
  have hF := hP.2.1 w.2.1 (Nat.le_refl _)
  have e : wcell ids n0 (wN w) S w.2.1 = .inl (ids 2, N, .inr (.inl (S.2 w.2.1))) := by
    have : (wN w).1 w.2.1 = (3, 0, N) := hsh
    simp [wcell, this]
  rw [e]
  show H1[n0 + w.2.1]? = some (vp_cell _ _)
  rw [e1, vp_cell_l]
  congr 2
  funext j
  rw [hF.2.2 j]; rfl
theorem oi_anew {i t N : Nat} {n : Int32} {C : String} (hc : Cg X nL cc own D ids) (hl1 : Cond.classLink own i C ∈ WT) (hov : Cond.arrayOver (.object C) ∈ NW) (ht : (wtys ids)[t + 3]? = some (ids (t + 3), .object C)) (hsh : w.1 w.2.1 = (4, t, N)) (hn : ¬ n < 0) (hN : n.toNatClampNeg = N) (hb : N * 4 ≤ 536870912) (hR : cs + 1 ≤ X.2.2.2.1.cells ∧ sl + N ≤ X.2.2.2.1.slots) (hd : decode cc pc = .ok (.anewarray i, 3)) (kk : Og X nL Q (PsI s0 D ids n0 (wN w) S) (cs + 1) (sl + N) (pc + 3) lv (.ref (n0 + w.2.1) :: st)) : Og X nL Q (PsI s0 D ids n0 w S) cs sl pc lv (.int n :: st) := by
  intro H locs ls hP hl
  have hts := hc.2.2.2.2.1
  subst hN
  refine W.anew hc.1 hc.2.1 hc.2.2.2.1 (hts _ hl1) (va_AO.use (hc.2.2.2.2.2.1 _ hov)) rfl hd rfl hn hb hR.1 hR.2 fun cA kA comp f1 f2 f3 f4 => ?_
  generalize hH1 : H.push ({ cls := cA, slots := Array.replicate n.toNatClampNeg .null, vm := .none } : Cell) = H1
  have z1 : H1.size = H.size + 1 := by rw [← hH1, Array.size_push]
  have e1 : H1[H.size]? = some (arrV cA n.toNatClampNeg (fun _ => .null)) := by rw [← hH1, Array.getElem?_push_size, ← arrV_new]
  have o1 : ∀ q : Nat, q < H.size → H1[q]? = H[q]? := fun q hq => by rw [← hH1, Array.getElem?_push, if_neg (Nat.ne_of_lt hq)]
  obtain ⟨kA', comp', g1, g2, g3, g4⟩ := (hc.2.2.2.2.2.2.2 (t + 3) _ ht).2
  have hid : cA = ids (t + 3) := Option.some.inj (f1.symm.trans g4)
  subst hid
  have hsz := hP.1
  rw [hsz] at z1 e1 o1
  show W _ _ _ _ _ _ _ _ _ _ _ _ _ _ _ (F0 _ _ _ (.ref H.size :: st))
  rw [hsz]
  refine kk H1 locs ls (ps_push hP z1 o1 ?_) hl
  have hF := hP.2.1 w.2.1 (Nat.le_refl _)
  have e : wcell ids n0 (wN w) S w.2.1 = .inl (ids (t + 3), n.toNatClampNeg, .inr (.inr (.inr (.inr (fun _ => none))))) := by
    have h0 : (wN w).1 w.2.1 = (4, t, n.toNatClampNeg) := hsh
    have h1 : ∀ j, (wN w).2.2 w.2.1 j = none := hF.1
    simp [wcell, h0, h1]
  rw [e]
  show H1[n0 + w.2.1]? = some (vp_cell _ _)
  rw [e1, vp_cell_q]
  rfl
def Ff (own : String) (i ci j nf : Nat) : Prop := ∃ (C : String) (T : u_T) (ty0 : Nat → FieldType) (ty : FieldType), vwCl[ci]? = some (C, T, nf) ∧ j < nf ∧ (∀ z ∈ u_ws C T nf, z ∈ WT) ∧ (T j).1 = C ∧ C = own ∧ Cond.fieldLink own i C (T j).2.1 (T j).2.2.1 ∈ WT ∧ (∀ k, k < nf → parseFieldDescriptor (T k).2.2.1 = some (ty0 k)) ∧ (∀ a, a < nf → ∀ b, b < nf → a ≠ b → (T a).2.1 ≠ (T b).2.1) ∧ (T j).2.2.2 = true ∧ parseFieldDescriptor (T j).2.2.1 = some ty ∧ ∀ a : Nat, narrow ty (.ref a) = .ref a ∧ fits ty (.ref a) = true
theorem oi_putr {i ci j nf k q : Nat} (hc : Cg X nL cc own D ids) (hin2 : X.2.2.2.2.2.2.2.2.1.name = "<init>") (hs : Ff own i ci j nf) (hf : ft ci j = true) (ho : Iob w k ci nf) (hd : decode cc pc = .ok (.putfield i, 3)) (kk : Og X nL Q (PsI s0 D ids n0 (wR w k j q) S) cs sl (pc + 3) lv st) : Og X nL Q (PsI s0 D ids n0 w S) cs sl pc lv (.ref (n0 + q) :: .ref (n0 + k) :: st) := by
  intro H locs ls hP hl
  obtain ⟨C, T, ty0, ty, h1, h2, h3, h4, h5, h6, h7, h8, h9, h10, h11⟩ := hs
  have hts := hc.2.2.2.2.1
  have hK := hc.2.2.2.2.2.2
  have hap := va_apart (own := own) hts h3 ty0 h7 h8 hK h1
  have hat := pwl_at hP.2.2.1 ho.1
  rw [wcell_ob ho.2] at hat
  obtain ⟨r, g1, cell, q1, q2, q3, q4⟩ := hat
  have hr : r = (C, T, nf) := Option.some.inj (g1.symm.trans h1)
  subst hr
  obtain ⟨hS, hfc, kC, hkC, hkind⟩ := hK.1 ci _ h1
  obtain ⟨cf, kf, fi, f, hi, hsl⟩ := hS j h2
  have hlay := hts _ (h3 _ (u_in_lay h2))
  unfold u_lay at hlay
  rw [if_pos h9] at hlay
  have hst := (u_facts hfc hkC (u_lays hts h3 h2) hi).1
  have hcf : X.2.2.2.2.2.1.cls = cf := by
    obtain ⟨_, _, c', _, _, _, -, -, hf', -, -, -, hown2, -⟩ := Cond.laysFinal_spec hlay
    have e1 : c' = cf := by have := hi.symm.trans hf'; simp at this; exact this.1.symm
    rw [h4, h5] at hown2
    rw [← e1]; exact Option.some.inj (hc.2.2.2.1.symm.trans hown2)
  have h6' := u_fits hfc hkC hkind (Or.inr hlay) hi h10 (h11 (n0 + q)).1 (h11 (n0 + q)).2
  have hi' : X.2.2.2.2.1.fieldFound? C (T j).2.1 (T j).2.2.1 = some (cf, kf, fi, f) := by rw [← h4]; rw [← h4] at *; exact hi
  refine W.putFinK hc.1 hc.2.1 hc.2.2.2.1 (hts _ h6) hi' hst hcf hin2 (by rw [q2]; exact h6') q1 q3 (by rw [hsl]; exact k2_hasslot (q4 j h2)) rfl rfl hd fun H' e1 e2 e3 => ?_
  rw [hsl] at e1 ⊢
  refine kk H' _ ls (ps_set hP rfl (hP.2.1.r ho.1) e2 e3 ?_ (fun a ha => wcell_wR a ha)) hl
  rw [wcell_ob (w := wR w k j q) ho.2, ← fsOf_setr h2 hf]
  exact ⟨_, h1, t_OB.to (V := updV (vp_V (fsOf n0 w S k ci nf)) j (.ref (n0 + q))) ⟨_, e1, q2, q3, t_set q4 hap h2 _⟩ (fun b _ => vp_updV_set (by rw [fsOf_len]; exact h2) _ b)⟩
theorem oi_putv {i ci j nf k : Nat} {ty : FieldType} {v : Int32} (hc : Cg X nL cc own D ids) (hs : Fp own i ci j nf ty) (hf : ft ci j = false) (ho : Iob w k ci nf) (hn : narrow ty (.int v) = .int v) (hfit : fits ty (.int v) = true) (hd : decode cc pc = .ok (.putfield i, 3)) (kk : Og X nL Q (PsI s0 D ids n0 w (wi S k j v)) cs sl (pc + 3) lv st) : Og X nL Q (PsI s0 D ids n0 w S) cs sl pc lv (.int v :: .ref (n0 + k) :: st) := by
  intro H locs ls hP hl
  obtain ⟨C, T, ty0, h1, h2, h3, h4, h5, h6, h7, h8, h9⟩ := hs
  have hts := hc.2.2.2.2.1
  have hK := hc.2.2.2.2.2.2
  have hap := va_apart (own := own) hts h3 ty0 h6 h7 hK h1
  have hat := pwl_at hP.2.2.1 ho.1
  rw [wcell_ob ho.2] at hat
  obtain ⟨r, g1, cell, q1, q2, q3, q4⟩ := hat
  have hr : r = (C, T, nf) := Option.some.inj (g1.symm.trans h1)
  subst hr
  obtain ⟨hS, hfc, kC, hkC, hkind⟩ := hK.1 ci _ h1
  obtain ⟨cf, kf, fi, f, hi, hsl⟩ := hS j h2
  have hlay := hts _ (h3 _ (u_in_lay h2))
  unfold u_lay at hlay
  rw [if_neg (by rw [h8]; decide)] at hlay
  have hst := (u_facts hfc hkC (u_lays hts h3 h2) hi).1
  have h6' := u_store hfc hkC hkind hlay hi h9 hn hfit
  have hi' : X.2.2.2.2.1.fieldFound? C (T j).2.1 (T j).2.2.1 = some (cf, kf, fi, f) := by rw [← h4]; rw [← h4] at *; exact hi
  have fin : ∀ H' : Heap, H'[n0 + k]? = some (cell.setSlot f.slot (.int v)) → H'.size = H.size → (∀ q, q ≠ n0 + k → H'[q]? = H[q]?) → W X.1 X.2.1 X.2.2.1 X.2.2.2.1 X.2.2.2.2.1 X.2.2.2.2.2.1 X.2.2.2.2.2.2.1 X.2.2.2.2.2.2.2.1 X.2.2.2.2.2.2.2.2.1 X.2.2.2.2.2.2.2.2.2 H' (locs ++ [⟨n0 + k, f.slot⟩]) cs sl Q (F0 X.2.2.2.2.2.1 (pc + 3) ls st) := by
    intro H' e1 e2 e3
    rw [hsl] at e1 ⊢
    refine kk H' _ ls (ps_set hP rfl (hP.2.1.i ho.1) e2 e3 ?_ (fun a ha => wcell_wi a ha)) hl
    rw [wcell_ob ho.2, ← fsOf_set h2 hf]
    exact ⟨_, h1, t_OB.to (V := updV (vp_V (fsOf n0 w S k ci nf)) j (.int v)) ⟨_, e1, q2, q3, t_set q4 hap h2 _⟩ (fun b _ => vp_updV_set (by rw [fsOf_len]; exact h2) _ b)⟩
  rcases h5 with h5 | ⟨host, h5⟩
  · exact W.putK hc.1 hc.2.1 (f := f) ⟨hc.2.2.2.1, hts _ h5, ⟨_, _, _, hi'⟩, hst⟩ (by rw [q2]; exact h6') q1 q3 (by rw [hsl]; exact k2_hasslot (q4 j h2)) rfl rfl hd fin
  · exact va_WputK hc.1 hc.2.1 (f := f) hc.2.2.2.1 (va_Nw.use rfl (hc.2.2.2.2.2.1 _ h5)) hi' hst (by rw [q2]; exact h6') q1 q3 (by rw [hsl]; exact k2_hasslot (q4 j h2)) rfl rfl hd fin
theorem oi_iast {k n : Nat} {i x : Int32} (hc : Cg X nL cc own D ids) (ha : Iar w k 1 n) (hg : ib i n) (hd : decode cc pc = .ok (.iastore, 1)) (kk : Og X nL Q (PsI s0 D ids n0 w (wi S k (nt i) x)) cs sl (pc + 1) lv st) : Og X nL Q (PsI s0 D ids n0 w S) cs sl pc lv (.int x :: .int i :: .ref (n0 + k) :: st) := by
  intro H locs ls hP hl
  have hat := pwl_at hP.2.2.1 ha.1
  have e0 : ∀ S' : St, wcell ids n0 w S' k = .inl (ids 0, n, .inl (S'.1 k)) := fun S' => by simp [wcell, ha.2]
  rw [e0] at hat
  refine W.iast hc.1 hc.2.1 hat ((hc.2.2.2.2.2.2.2 0 _ rfl).1 n (fun j => .int (S.1 k j))) (fun q => by cases q) (by show ¬ (i < 0 ∨ (arrV _ _ _).slots.size ≤ _); rw [arrV_size]; exact hg) rfl rfl hd fun H1 e z oq => ?_
  refine kk H1 _ ls (ps_set hP rfl (hP.2.1.i ha.1) z oq ?_ (fun a h => wcell_wi a h)) hl
  rw [e0, upd_wi]
  show H1[n0 + k]? = some (vp_cell _ _)
  rw [e]
  rw [vp_cell_i, vp_cell_i, arrV_store]
  congr 2
  funext q
  by_cases hq : q = i.toNatClampNeg
  · subst hq
    simp [updV, upd]
  · simp [updV, upd, hq]
theorem oi_aast {k t n v ci nf : Nat} {i : Int32} {C : String} {T : u_T} (hc : Cg X nL cc own D ids) (ha : Irr w k t n) (ht : (wtys ids)[t + 3]? = some (ids (t + 3), .object C)) (hv : Iob w v ci nf) (hcl : vwCl[ci]? = some (C, T, nf)) (hg : ib i n) (hd : decode cc pc = .ok (.aastore, 1)) (kk : Og X nL Q (PsI s0 D ids n0 (wR w k (nt i) v) S) cs sl (pc + 1) lv st) : Og X nL Q (PsI s0 D ids n0 w S) cs sl pc lv (.ref (n0 + v) :: .int i :: .ref (n0 + k) :: st) := by
  intro H locs ls hP hl
  have hK := hc.2.2.2.2.2.2
  have hlt : i.toNatClampNeg < n := Nat.not_le.mp fun q => hg (Or.inr q)
  have h0 : ¬ i < 0 := fun q => hg (Or.inl q)
  have hatv := pwl_at hP.2.2.1 hv.1
  rw [wcell_ob hv.2] at hatv
  obtain ⟨r', hr', cellV, g1, g2, g3, -⟩ := hatv
  have hcls := (hK.1 ci _ hcl).2
  obtain ⟨kA, comp, k1, k2, k3, -⟩ := (hK.2 (t + 3) _ ht).2
  have hcomp : comp = D.1 ci := Option.some.inj (k3.symm.trans hcls.1)
  subst hcomp
  obtain ⟨kC, hkC, -⟩ := hcls.2
  have hat := pwl_at hP.2.2.1 ha.1
  have e0 : ∀ w' : Wx, w'.1 = w.1 → wcell ids n0 w' S k = .inl (ids (t + 3), n, .inr (.inr (.inr (.inr (fun b => (w'.2.2 k b).map (fun q => n0 + q)))))) := fun w' hw => by
    have : w'.1 k = (4, t, n) := by rw [hw]; exact ha.2
    simp [wcell, this]
  rw [e0 w rfl] at hat
  refine W.aast hc.1 hc.2.1 hat (fun q h => by cases h) (fun h => by cases h) k1 k2 rfl hkC ⟨h0, by show _ < (arrV _ _ _).slots.size; rw [arrV_size]; exact hlt⟩ g1 (fun q h => by rw [g3] at h; cases h) (by rw [g2]; exact hkC) (by rw [g2]; exact va_assign hcls) rfl rfl hd fun H1 e z oq => ?_
  refine kk H1 _ ls (ps_set hP rfl (hP.2.1.r ha.1) z oq ?_ (fun a h => wcell_wR a h)) hl
  rw [e0 (wR w k (nt i) v) rfl]
  show H1[n0 + k]? = some (vp_cell _ _)
  rw [e]
  rw [vp_cell_q, vp_cell_q, arrV_store]
  congr 2
  funext q
  by_cases hq : q = i.toNatClampNeg
  · subst hq
    simp [updV, wR, va_rf]
  · simp [updV, wR, hq]
theorem oi_getr {i ci j nf k q : Nat} (hc : Cg X nL cc own D ids) (hs : Fs own i ci j nf) (hf : ft ci j = true) (ho : Iob w k ci nf) (hq : w.2.2 k j = some q) (hd : decode cc pc = .ok (.getfield i, 3)) (kk : Og X nL Q (PsI s0 D ids n0 w S) cs sl (pc + 3) lv (.ref (n0 + q) :: st)) : Og X nL Q (PsI s0 D ids n0 w S) cs sl pc lv (.ref (n0 + k) :: st) := by
  intro H locs ls hP hl
  obtain ⟨C, T, h1, h2, h3, h4, h5⟩ := hs
  have hk := kk H locs ls hP hl
  have hv : (fsOf n0 w S k ci nf)[j]? = some (.ref (n0 + q)) := by rw [fsOf_get h2, hf, hq]; rfl
  rcases h5 with h5 | ⟨host, h5⟩
  · exact va_get hc.1 hc.2.1 (own := own) (ref := C) hc.2.2.2.2.1 h3 hc.2.2.2.1 hc.2.2.2.2.2.2 hP.2.2.1 k (ho.cell _ _ _) h1 j h2 (hc.2.2.2.2.1 _ h5) (fun x hx => by rw [← h4]; rw [← h4] at *; exact hx) hv hd hk
  · exact va_getN hc.1 hc.2.1 (own := own) (ref := C) (host := host) hc.2.2.2.2.1 h3 hc.2.2.2.1 hc.2.2.2.2.2.2 hP.2.2.1 k (ho.cell _ _ _) h1 j h2 (va_Nw.use rfl (hc.2.2.2.2.2.1 _ h5)) (fun x hx => by rw [← h4]; rw [← h4] at *; exact hx) hv hd hk
theorem oi_aald {k t n q : Nat} {i : Int32} {C : String} (hc : Cg X nL cc own D ids) (ha : Irr w k t n) (ht : (wtys ids)[t + 3]? = some (ids (t + 3), .object C)) (hq : w.2.2 k (nt i) = some q) (hg : ib i n) (hd : decode cc pc = .ok (.aaload, 1)) (kk : Og X nL Q (PsI s0 D ids n0 w S) cs sl (pc + 1) lv (.ref (n0 + q) :: st)) : Og X nL Q (PsI s0 D ids n0 w S) cs sl pc lv (.int i :: .ref (n0 + k) :: st) := by
  intro H locs ls hP hl
  refine va_aldq hc.1 hc.2.1 hc.2.2.2.2.2.2 hP.2.2.1 k (t + 3) (ha.r _ _ _) ht hg hd ?_
  have e : va_rf ((w.2.2 k i.toNatClampNeg).map (fun q => n0 + q)) = .ref (n0 + q) := by rw [hq]; rfl
  show W _ _ _ _ _ _ _ _ _ _ _ _ _ _ _ (F0 _ _ _ (va_rf ((w.2.2 k i.toNatClampNeg).map (fun q => n0 + q)) :: st))
  rw [e]
  exact kk H locs ls hP hl
theorem og_objInit {Ψ : Heap → List Loc → Prop} {i a : Nat} (hc : Cg X nL cc own D ids) (h1 : Cond.methodLink own i Lib.objectInit ∈ WT) (h2 : Cond.instanceMethod Lib.objectInit ∈ WT) (h3 : Cond.code Lib.objectInit ⟨#[0xb1]⟩ 1 none ∈ WT) (hf : 1 ≤ X.2.2.2.1.frames) (hlo : (st.map fun v => v.category).sum + 12 ≤ X.2.2.2.1.locals) (hd : decode cc pc = .ok (.invokespecial i, 3)) (kk : Og X nL Q Ψ cs sl (pc + 3) lv st) : Og X nL Q Ψ cs sl pc lv (.ref a :: st) := by
  intro H locs ls hP hl
  have hts := hc.2.2.2.2.1
  refine W.objInit hc.1 hc.2.1 hc.2.2.2.1 (hts _ h1) (hts _ h2) (hts _ h3) rfl (by rw [hc.2.2.1]; exact hl.1) rfl hd hf (by show 2 * 0 + _ + 12 ≤ _; omega) ?_
  exact kk H locs ls hP hl
end OGI
section CALLI
variable {p : Program} {l : Launch} {e : Env} {R : Room} {s : State} {m : MethodId} {args : Array Value} {below : List Frame} {meth : Method} {c : Code} {H : Heap} {locs : List Loc} {Q : State → Prop}
theorem run_goI {pc cells slots mc ms : Nat} {ls : Array Slot} {st0 rest : List Value} {A : Nat → Prop} {H0 : Heap} {v : Option Value} {B : State → Prop} (hr : va_Run p l e R s m args below meth c H locs cells slots mc ms (F0 m pc ls st0) rest (fun st o t => o = .returned v ∧ B t ∧ va_F A st t) A) (hS : va_S A H0 H locs)
    (kk : ∀ (t : State) (locs1 : List Loc), B t → va_S A H0 t.heap locs1 → W p l e R s m args below meth c t.heap locs1 (cells + mc) (slots + ms) Q (F0 m (pc + 3) ls (v.toList ++ rest))) : W p l e R s m args below meth c H locs cells slots Q (F0 m pc ls st0) := by
  intro T hT X
  obtain ⟨v', st₀, t, T', L, h0, X', hL, e1, e2, ⟨hv, hb, hz, hk⟩, st⟩ := hr T hT X
  cases hv
  rw [h0] at hz hk
  obtain ⟨t2, a1, b1⟩ := kk t (locs ++ L) hb ⟨Nat.le_trans hS.1 hz, fun q h1 h2 => by rw [hk q (Nat.lt_of_lt_of_le h1 hS.1) h2]; exact hS.2.1 q h1 h2, fun q hq => by
      rcases List.mem_append.mp hq with h | h
      · exact hS.2.2 q h
      · exact hL q h⟩ T' e1 X'
  exact ⟨t2, st t2 a1, b1⟩
end CALLI
def WI (D : va_G) (ids : Nat → ClassId) (n0 : Nat) (w : Wx) (S : St) (U : State) : Prop := U.heap.size = n0 + w.2.1 ∧ Fr w S ∧ WK D ids n0 w S U
def QI (D : va_G) (ids : Nat → ClassId) (n0 : Nat) (w : Wx) (S : St) : Array Value → State → Outcome → State → Prop := fun _ st o t => o = .returned none ∧ WI D ids n0 w S t ∧ va_F (AI n0) st t
/-- a constructor's contract: the world grows from (w, S) to (w', S') -/
def MI (μ : Md) (av : Nat → List Value) (w : Wx) (S : St) (w' : Wx) (S' : St) : Prop := ∀ (l : Launch) (D : va_G) (ids : Nat → ClassId) (n0 : Nat), Met l μ.1 (mws μ) μ.2.2.2.2 (fun v U => v = (av n0).toArray ∧ WI D ids n0 w S U) (QI D ids n0 w' S') μ.2.2.2.2.cells μ.2.2.2.2.slots (AI n0)
theorem mi_of {μ : Md} {av : Nat → List Value} {w w' : Wx} {S S' : St} (hy : plainFor μ.1 = true) (hname : μ.1.name = "<init>") (hret : μ.2.2.2.1 = none) (hn : ∀ n0, (lg_sl (av n0)).length ≤ μ.2.2.1)
    (body : ∀ (X : Mx) (D : va_G) (ids : Nat → ClassId) (n0 : Nat) (Q : State → Prop), Cg X μ.2.2.1 μ.2.1 μ.1.cls D ids → X.2.2.2.2.2.2.2.2.1.name = "<init>" → X.2.2.2.1 = μ.2.2.2.2 → (∀ (pc : Nat) (lv : List (Nat × Value)), decode μ.2.1 pc = .ok (.return_, 1) → Og X μ.2.2.1 Q (PsI X.2.2.2.2.1 D ids n0 w' S') μ.2.2.2.2.cells μ.2.2.2.2.slots pc lv []) → Og X μ.2.2.1 Q (PsI X.2.2.2.2.1 D ids n0 w S) 0 0 0 (lv_args 0 (av n0)) []) : MI μ av w S w' S' := by
  intro l D ids n0
  refine va_MetF (cc := μ.2.1) (maxL := μ.2.2.1) (ret := μ.2.2.2.1) hy rfl ?_
  intro p e s m args below meth c s₁ B hml hv
  obtain ⟨rfl, hz, hF, hP, hK, hN⟩ := hv
  have hl := lv_entry (av n0) (n := μ.2.2.1) (hn n0)
  rw [lg_entry_eq]
  generalize (lg_sl (av n0) ++ List.replicate (μ.2.2.1 - (lg_sl (av n0)).length) Slot.unset).toArray = ls at hl ⊢
  have hts := atoms_spec (ws := mws μ) B.pre
  have hown : s.vm.findClass μ.1.cls = some m.cls := findClass_of_methodNamed B.named
  have hnm : meth.name = "<init>" := (name_of_methodNamed B.named B.method).1.trans hname
  have hlocks : meth.locks = false := B.notSynchronized
  refine body (p, l, e, (headSpec (mws μ) μ.2.2.2.2).room, s, m, (av n0).toArray, below, meth, c) D ids n0 (MQ below (QI D ids n0 w' S') (av n0).toArray s μ.2.2.2.2.cells μ.2.2.2.2.slots (AI n0)) ⟨B.exec, B.bytes, hml, hown, fun z hz => hts z (List.mem_cons_of_mem _ hz), hN, hK⟩ hnm rfl ?_ s.heap [] ls ⟨hz, hF, hP, va_S.rf⟩ hl
  intro pc lv hd H locs ls hI hl
  exact W.vret B.exec B.bytes (B.returns.trans hret) (fun t ht hW => ⟨rfl, ⟨by rw [ht]; exact hI.1, hI.2.1, by rw [ht]; exact hI.2.2.1, va_K.moved hW.alike hK, fun z hz => NW_warm hz hW (hN z hz)⟩, hI.2.2.2.F ht⟩) hI.2.2.2.2.2 hd hlocks
theorem wi_blind {D : va_G} {ids : Nat → ClassId} {n0 : Nat} {w : Wx} {S : St} {a0 : Array Value} : FrameBlind (fun v U => v = a0 ∧ WI D ids n0 w S U) := by
  intro a U g mk ⟨h, h1, h2, hP, hK, hN⟩
  exact ⟨h, h1, h2, hP, va_K.moved (u := U) (U := U.calling g mk a) (Vm.Alike.refl U.vm) hK, fun z hz => NW_same (u := U) (U := U.calling g mk a) hz rfl (hN z hz)⟩
def Si (own : String) (i : Nat) (ν : Md) (n : Nat) : Prop := (ν.1.cls ≠ "java/lang/invoke/MethodHandle" ∧ ν.1.cls ≠ "java/lang/invoke/VarHandle") ∧ (parseMethodDescriptor ν.1.desc).map (fun d => d.parameters.length) = some n ∧ Cond.code ν.1 ν.2.1 ν.2.2.1 none ∈ WT ∧ ν.2.2.2.1 = none ∧ ν.1.name = "<init>" ∧ Cond.instanceMethod ν.1 ∈ WT ∧ Cond.initialized ν.1.cls ∈ WT ∧ (Cond.methodLink own i ν.1 ∈ WT ∨ ∃ host, Cond.methodLinkNest own i ν.1 host ∈ NW)
theorem oi_call {X : Mx} {nL : Nat} {cc : ByteArray} {own : String} {D : va_G} {ids : Nat → ClassId} {Q : State → Prop} {cs sl pc n0 n i k : Nat} {lv : List (Nat × Value)} {st stk As : List Value} {w w' : Wx} {S S' : St} {s0 : State} {ν : Md} (av : Nat → List Value) (hc : Cg X nL cc own D ids) (hs : Si own i ν n) (hM : MI ν av w S w' S') (hstk : stk = As.reverse ++ .ref (n0 + k) :: st) (hav : av n0 = .ref (n0 + k) :: As) (hn : As.length = n) (hR : ν.2.2.2.2.frames + 1 ≤ X.2.2.2.1.frames ∧ 8 + (ν.2.2.1 + 11) + ν.2.2.2.2.locals ≤ X.2.2.2.1.locals) (hR2 : cs + ν.2.2.2.2.cells ≤ X.2.2.2.1.cells ∧ sl + ν.2.2.2.2.slots ≤ X.2.2.2.1.slots) (hst : (st.map fun v => v.category).sum ≤ 8) (hd : decode cc pc = .ok (.invokespecial i, 3))
    (kk : Og X nL Q (PsI s0 D ids n0 w' S') (cs + ν.2.2.2.2.cells) (sl + ν.2.2.2.2.slots) (pc + 3) lv st) : Og X nL Q (PsI s0 D ids n0 w S) cs sl pc lv stk := by
  intro H locs ls hP hl
  subst hstk
  have hm := hM X.2.1 D ids n0
  obtain ⟨h2, h3, h4, h4n, h5, h6, h7, h8⟩ := hs
  have hts := hc.2.2.2.2.1
  have h4' : Cond.code ν.1 ν.2.1 ν.2.2.1 ν.2.2.2.1 ∈ WT := by rw [h4n]; exact h4
  have hlen : ∀ sig, parseMethodDescriptor ν.1.desc = some sig → n = sig.parameters.length := fun sig h => by rw [h] at h3; exact (Option.some.inj h3).symm
  have hcw : Cond.code ν.1 ν.2.1 ν.2.2.1 none ∈ mws ν := by unfold mws; rw [h4n]; exact List.mem_cons_self
  have hp : PreS X.2.2.2.2.1 H (fun v U => v = (av n0).toArray ∧ WI D ids n0 w S U) (.ref (n0 + k) :: As) := ⟨wi_blind, fun U hU hW => ⟨by rw [hav], by rw [hU]; exact hP.1, hP.2.1, by rw [hU]; exact hP.2.2.1, va_K.moved hW.alike hc.2.2.2.2.2.2, fun z hz => NW_warm hz hW (hc.2.2.2.2.2.1 z hz)⟩⟩
  have fin : ∀ (t : State) (locs1 : List Loc), WI D ids n0 w' S' t → va_S (AI n0) s0.heap t.heap locs1 → W X.1 X.2.1 X.2.2.1 X.2.2.2.1 X.2.2.2.2.1 X.2.2.2.2.2.1 X.2.2.2.2.2.2.1 X.2.2.2.2.2.2.2.1 X.2.2.2.2.2.2.2.2.1 X.2.2.2.2.2.2.2.2.2 t.heap locs1 (cs + ν.2.2.2.2.cells) (sl + ν.2.2.2.2.slots) Q (F0 X.2.2.2.2.2.1 (pc + 3) ls st) := fun t locs1 hB hS1 => kk t.heap locs1 ls ⟨hB.1, hB.2.1, hB.2.2.1, hS1⟩ hl
  rcases h8 with h8 | ⟨host, h8⟩
  · exact run_goI (v := none) (B := WI D ids n0 w' S') (va_runI (As := As) (rest := st) ⟨hc.1, hc.2.1, hc.2.2.1, hc.2.2.2.1, hts⟩ hm ⟨⟨rfl, rfl, hR.1, hR.2, pay_in hts (mws_good h4'), hcw, hts _ h4, hts _ h7, h2, hlen, hts _ h8⟩, h5, hts _ h6⟩ hp rfl hn hl.1 rfl (lv_room hst) hd hR2) hP.2.2.2 fin
  · exact run_goI (v := none) (B := WI D ids n0 w' S') (va_runIN (As := As) (rest := st) ⟨hc.1, hc.2.1, hc.2.2.1, hc.2.2.2.1, hts⟩ hm ⟨⟨⟨rfl, rfl, hR.1, hR.2, pay_in hts (mws_good h4'), hcw⟩, hts _ h4, hts _ h7, h2, hlen, va_Nw.use rfl (hc.2.2.2.2.2.1 _ h8)⟩, h5, hts _ h6⟩ hp rfl hn hl.1 rfl (lv_room hst) hd hR2) hP.2.2.2 fin

