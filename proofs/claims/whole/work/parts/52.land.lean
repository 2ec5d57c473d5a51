/-! ===== which places the invariant reads: a state that differs elsewhere alone keeps it ===== -/
def xcell (k : Nat) : Prop := k = 2 ∨ (4 ≤ k ∧ k ≤ 16) ∨ (19 ≤ k ∧ k ≤ 38) ∨ (53 ≤ k ∧ k ≤ 58) ∨ k = 60 ∨ (67 ≤ k ∧ k ≤ 69) ∨ (71 ≤ k ∧ k ≤ 76)
def mcell (k : Nat) : Prop := k = 1 ∨ k = 2 ∨ (5 ≤ k ∧ k ≤ 16) ∨ (21 ≤ k ∧ k ≤ 23) ∨ (25 ≤ k ∧ k ≤ 27) ∨ (34 ≤ k ∧ k ≤ 41)
def xEq (x x' : St) : Prop := (∀ k, xcell k → x'.1 k = x.1 k) ∧ x'.1 0 11 = x.1 0 11 ∧ x'.1 17 6 = x.1 17 6 ∧ x'.1 17 7 = x.1 17 7 ∧ x'.1 59 7 = x.1 59 7 ∧ x'.1 70 9 = x.1 70 9 ∧ x'.1 70 10 = x.1 70 10 ∧ ∀ k, k < 16 → x'.2 k = x.2 k
def mEq (m m' : St) : Prop := (∀ k, mcell k → m'.1 k = m.1 k) ∧ (m'.1 0 4 = m.1 0 4 ∧ m'.1 0 5 = m.1 0 5 ∧ m'.1 0 6 = m.1 0 6 ∧ m'.1 0 8 = m.1 0 8 ∧ m'.1 0 9 = m.1 0 9 ∧ m'.1 0 30 = m.1 0 30 ∧ m'.1 0 34 = m.1 0 34 ∧ m'.1 0 43 = m.1 0 43 ∧ m'.1 0 46 = m.1 0 46 ∧ m'.1 0 51 = m.1 0 51) ∧ m'.2 3 = m.2 3
theorem xEq.rfl {x : St} : xEq x x := ⟨fun _ _ => Eq.refl _, Eq.refl _, Eq.refl _, Eq.refl _, Eq.refl _, Eq.refl _, Eq.refl _, fun _ _ => Eq.refl _⟩
theorem mEq.rfl {m : St} : mEq m m := ⟨fun _ _ => Eq.refl _, ⟨Eq.refl _, Eq.refl _, Eq.refl _, Eq.refl _, Eq.refl _, Eq.refl _, Eq.refl _, Eq.refl _, Eq.refl _, Eq.refl _⟩, Eq.refl _⟩
theorem xEq.trans {x y z : St} (h : xEq x y) (g : xEq y z) : xEq x z := ⟨fun k hk => (g.1 k hk).trans (h.1 k hk), g.2.1.trans h.2.1, g.2.2.1.trans h.2.2.1, g.2.2.2.1.trans h.2.2.2.1, g.2.2.2.2.1.trans h.2.2.2.2.1, g.2.2.2.2.2.1.trans h.2.2.2.2.2.1, g.2.2.2.2.2.2.1.trans h.2.2.2.2.2.2.1, fun k hk => (g.2.2.2.2.2.2.2 k hk).trans (h.2.2.2.2.2.2.2 k hk)⟩
theorem mEq.trans {x y z : St} (h : mEq x y) (g : mEq y z) : mEq x z := by
  obtain ⟨h1, ⟨a1, a2, a3, a4, a5, a6, a7, a8, a9, a10⟩, h3⟩ := h
  obtain ⟨g1, ⟨b1, b2, b3, b4, b5, b6, b7, b8, b9, b10⟩, g3⟩ := g
  exact ⟨fun k hk => (g1 k hk).trans (h1 k hk), ⟨b1.trans a1, b2.trans a2, b3.trans a3, b4.trans a4, b5.trans a5, b6.trans a6, b7.trans a7, b8.trans a8, b9.trans a9, b10.trans a10⟩, g3.trans h3⟩
/-- a write to a place that the invariant does not read -/
theorem xEq_wi {x y : St} (h : xEq x y) {k j : Nat} {v : Int32} (hk : ¬ xcell k) (h2 : ¬ (k = 0 ∧ j = 11) ∧ ¬ (k = 17 ∧ j = 6) ∧ ¬ (k = 17 ∧ j = 7) ∧ ¬ (k = 59 ∧ j = 7) ∧ ¬ (k = 70 ∧ j = 9) ∧ ¬ (k = 70 ∧ j = 10)) : xEq x (wi y k j v) := by
  refine h.trans ⟨fun a ha => ?_, ?_, ?_, ?_, ?_, ?_, ?_, fun _ _ => Eq.refl _⟩
  · funext b
    have : ¬ a = k := fun e => hk (e ▸ ha)
    show (if a = k ∧ b = j then v else y.1 a b) = y.1 a b
    rw [if_neg (fun q => this q.1)]
  · exact if_neg (fun q => h2.1 ⟨q.1.symm, q.2.symm⟩)
  · exact if_neg (fun q => h2.2.1 ⟨q.1.symm, q.2.symm⟩)
  · exact if_neg (fun q => h2.2.2.1 ⟨q.1.symm, q.2.symm⟩)
  · exact if_neg (fun q => h2.2.2.2.1 ⟨q.1.symm, q.2.symm⟩)
  · exact if_neg (fun q => h2.2.2.2.2.1 ⟨q.1.symm, q.2.symm⟩)
  · exact if_neg (fun q => h2.2.2.2.2.2 ⟨q.1.symm, q.2.symm⟩)
theorem xEq_wj {x y : St} (h : xEq x y) {k j : Nat} {v : Int64} (hk : 16 ≤ k) : xEq x (wj y k j v) := by
  refine h.trans ⟨fun _ _ => Eq.refl _, Eq.refl _, Eq.refl _, Eq.refl _, Eq.refl _, Eq.refl _, Eq.refl _, fun a ha => ?_⟩
  funext b
  exact if_neg (fun q => by omega)
theorem mEq_wi {x y : St} (h : mEq x y) {k j : Nat} {v : Int32} (hk : ¬ mcell k) (h2 : ¬ (k = 0 ∧ (j = 4 ∨ j = 5 ∨ j = 6 ∨ j = 8 ∨ j = 9 ∨ j = 30 ∨ j = 34 ∨ j = 43 ∨ j = 46 ∨ j = 51))) : mEq x (wi y k j v) := by
  have e : ∀ b, (b = 4 ∨ b = 5 ∨ b = 6 ∨ b = 8 ∨ b = 9 ∨ b = 30 ∨ b = 34 ∨ b = 43 ∨ b = 46 ∨ b = 51) → (wi y k j v).1 0 b = y.1 0 b := by
    intro b hb
    refine if_neg (fun q => h2 ⟨q.1.symm, ?_⟩)
    rw [← q.2]; exact hb
  refine h.trans ⟨fun a ha => ?_, ⟨e 4 (by decide), e 5 (by decide), e 6 (by decide), e 8 (by decide), e 9 (by decide), e 30 (by decide), e 34 (by decide), e 43 (by decide), e 46 (by decide), e 51 (by decide)⟩, Eq.refl _⟩
  funext b
  have : ¬ a = k := fun e => hk (e ▸ ha)
  show (if a = k ∧ b = j then v else y.1 a b) = y.1 a b
  rw [if_neg (fun q => this q.1)]
theorem mEq_wj {x y : St} (h : mEq x y) {k j : Nat} {v : Int64} (hk : k ≠ 3) : mEq x (wj y k j v) := by
  refine h.trans ⟨fun _ _ => Eq.refl _, ⟨Eq.refl _, Eq.refl _, Eq.refl _, Eq.refl _, Eq.refl _, Eq.refl _, Eq.refl _, Eq.refl _, Eq.refl _, Eq.refl _⟩, ?_⟩
  funext b
  exact if_neg (fun q => hk q.1.symm)
theorem Inv_fr {n : Nat} {x x' m m' : St} (hx : xEq x x') (hm : mEq m m') (h : Inv n x m) : Inv n x' m' := by
  obtain ⟨a0, a1, a2, a3, a4, a5, a6, a7⟩ := hx
  obtain ⟨b0, ⟨b1, b2, b3, b4, b5, b6, b7, b8, b9, b10⟩, b11⟩ := hm
  obtain ⟨h1, h2, h3, h4, h5, h6, h7, h8, h9, h10, h11⟩ := h
  have c2 := a0 2 (by unfold xcell; omega)
  have c16 := a0 16 (by unfold xcell; omega)
  have hC : ∀ c, isC x' c ↔ isC x c := fun c => by unfold isC; rw [c16]
  refine ⟨?_, ?_, ?_, ?_, ?_, ?_, ?_, ?_, ?_, ?_, ?_⟩
  · unfold I_told; rw [c2, b0 5 (by unfold mcell; omega)]; exact h1
  · unfold I_land; rw [c16, b2, b3]; exact h2
  · intro s hs
    rw [a0 (4 + 2 * s) (by unfold xcell; omega), b0 2 (by unfold mcell; omega), b0 1 (by unfold mcell; omega), b11, a7 (4 + 2 * s + 1) (by omega)]
    exact h3 s hs
  · unfold I_tick; rw [a3, b4]; exact h4
  · unfold I_send; rw [a2, b5]
    refine ⟨h5.1, h5.2.1, fun i hi hit => ?_, fun i hi hit => ?_⟩
    · have := h5.2.2.1 i hi hit
      unfold I_s1 at this ⊢
      rw [a0 (19 + i) (by unfold xcell; omega)]
      simp only [hC]
      refine ⟨fun j hj => ?_, this.2⟩
      rw [b0 (6 + j) (by unfold mcell; omega)]; exact this.1 j hj
    · have := h5.2.2.2 i hi hit
      unfold I_s0 at this ⊢
      rw [a0 (19 + i) (by unfold xcell; omega)]; exact this
  · intro i hi
    rw [a0 53 (by unfold xcell; omega), a0 54 (by unfold xcell; omega), a0 55 (by unfold xcell; omega), b0 21 (by unfold mcell; omega), b0 22 (by unfold mcell; omega), b0 23 (by unfold mcell; omega)]
    exact h6 i hi
  · unfold I_bid
    rw [a0 56 (by unfold xcell; omega), a0 57 (by unfold xcell; omega), a0 58 (by unfold xcell; omega), b6, b0 25 (by unfold mcell; omega), b0 26 (by unfold mcell; omega)]
    exact h7
  · unfold I_text
    rw [a4, a0 60 (by unfold xcell; omega), b7, b0 27 (by unfold mcell; omega)]
    exact h8
  · unfold I_box
    simp only [hC]
    rw [a0 67 (by unfold xcell; omega), a0 68 (by unfold xcell; omega), a0 69 (by unfold xcell; omega), b8, b0 34 (by unfold mcell; omega), b0 35 (by unfold mcell; omega)]
    exact h9
  · unfold I_tow I_site
    simp only [hC]
    rw [a5, a6, a0 71 (by unfold xcell; omega), a0 72 (by unfold xcell; omega), a0 73 (by unfold xcell; omega), a0 74 (by unfold xcell; omega), a0 75 (by unfold xcell; omega), a0 76 (by unfold xcell; omega), b9, b10, b0 36 (by unfold mcell; omega), b0 37 (by unfold mcell; omega), b0 38 (by unfold mcell; omega), b0 39 (by unfold mcell; omega), b0 40 (by unfold mcell; omega), b0 41 (by unfold mcell; omega)]
    exact h10
  · unfold I_find; rw [a1, b1]; exact h11
/-! ===== what several calls ask ===== -/
theorem t64 (a : Int32) : a.toInt64.toInt = a.toInt := by simp
theorem mulI {a b : Int32} {u v : Int} (ha : 0 ≤ a.toInt ∧ a.toInt ≤ u) (hb : 0 ≤ b.toInt ∧ b.toInt ≤ v) (huv : u * v < 2147483648) (hv : 0 ≤ v) : (a * b).toInt = a.toInt * b.toInt := by
  have h1 : a.toInt * b.toInt ≤ u * v := Int.le_trans (Int.mul_le_mul_of_nonneg_right ha.2 hb.1) (Int.mul_le_mul_of_nonneg_left hb.2 (Int.le_trans ha.1 ha.2))
  have h2 : 0 ≤ a.toInt * b.toInt := Int.mul_nonneg ha.1 hb.1
  have e : a * b = iI (a.toInt * b.toInt) := by rw [← iI_mul, ← iI_of, ← iI_of]
  rw [e, iI_toInt (by omega) (by omega)]
theorem size_i {x m : St} (h : I_land x m) : (x.1 16 3 * x.1 16 4).toInt = (x.1 16 3).toInt * (x.1 16 4).toInt ∧ 1 ≤ (x.1 16 3).toInt * (x.1 16 4).toInt ∧ (x.1 16 3).toInt * (x.1 16 4).toInt ≤ 400 := by
  obtain ⟨-, -, hw, hh⟩ := h
  refine ⟨mulI (u := 20) (v := 20) ⟨by omega, hw.2⟩ ⟨by omega, hh.2⟩ (by decide) (by decide), ?_, ?_⟩
  · exact Int.le_trans (by decide : (1 : Int) ≤ 1 * 1) (Int.mul_le_mul hw.1 hh.1 (by decide) (by omega))
  · exact Int.mul_le_mul hw.2 hh.2 (by omega) (by decide)
theorem e_isCellX {x m : St} (h : I_land x m) (c : Int32) : fX2_isCell c.toInt64 x = some (bi (isC x c), x) := by
  have hs := size_i h
  unfold fX2_isCell fX2_size bi isC
  simp only [bnd_some, Int64.lt_iff_toInt_lt, Int64.le_iff_toInt_le, t64, hs.1]
  by_cases h1 : c.toInt < 0
  · rw [if_pos (by simpa using h1), if_neg (by omega)]
  · rw [if_neg (by simpa using h1)]
    by_cases h2 : (x.1 16 3).toInt * (x.1 16 4).toInt ≤ c.toInt
    · rw [if_pos h2, if_neg (by omega)]
    · rw [if_neg h2, if_pos (by omega)]
theorem subI {a b : Int32} (h1 : -2147483648 ≤ a.toInt - b.toInt) (h2 : a.toInt - b.toInt < 2147483648) : (a - b).toInt = a.toInt - b.toInt := by
  have e : a - b = iI (a.toInt - b.toInt) := by rw [← iI_sub, ← iI_of, ← iI_of]
  rw [e, iI_toInt h1 h2]
theorem addI {a b : Int32} (h1 : -2147483648 ≤ a.toInt + b.toInt) (h2 : a.toInt + b.toInt < 2147483648) : (a + b).toInt = a.toInt + b.toInt := by
  have e : a + b = iI (a.toInt + b.toInt) := by rw [← iI_add, ← iI_of, ← iI_of]
  rw [e, iI_toInt h1 h2]
theorem e_isCellM {x m : St} (h : I_land x m) (c : Int32) : fX12_isCell c m = some (bi (isC x c), m) := by
  have hs := size_i h
  unfold fX12_isCell
  rw [e_in, bnd_some, if_pos (bi_01 _)]
  have e : (((m.1 0 5) * (m.1 0 6)) - 1).toInt64.toInt = (x.1 16 3).toInt * (x.1 16 4).toInt - 1 := by
    rw [t64, h.1, h.2.1, subI] <;> rw [hs.1] <;> simp <;> omega
  rw [e, t64]
  congr 2
  unfold bi isC
  by_cases h1 : 0 ≤ c.toInt ∧ c.toInt < (x.1 16 3).toInt * (x.1 16 4).toInt
  · rw [if_pos h1, if_pos (by simp; omega)]
  · rw [if_neg h1, if_neg (by simp; omega)]
abbrev isS (x : St) (a : Int32) : Prop := 0 ≤ a.toInt ∧ a.toInt < (x.1 17 6).toInt
theorem e_has (x : St) (a : Int32) : fX0_has a x = some (bi (isS x a), x) := by
  unfold fX0_has bi isS
  simp only [Int32.lt_iff_toInt_lt, Int32.le_iff_toInt_le]
  by_cases h1 : a.toInt < 0
  · rw [if_pos (by simpa using h1), if_neg (by omega)]
  · rw [if_neg (by simpa using h1)]
    by_cases h2 : (x.1 17 6).toInt ≤ a.toInt
    · rw [if_pos h2, if_neg (by omega)]
    · rw [if_neg h2, if_pos (by omega)]
theorem e_isSender {x m : St} (h : I_send x m) (a : Int32) : fX12_isSender a m = some (bi (isS x a), m) := by
  unfold fX12_isSender
  rw [e_in, bnd_some, if_pos (bi_01 _)]
  have e : ((m.1 0 9) - 1).toInt64.toInt = (x.1 17 6).toInt - 1 := by
    have := h.2.1
    rw [t64, h.1, subI] <;> simp <;> omega
  rw [e, t64]
  congr 2
  unfold bi isS
  by_cases h1 : 0 ≤ a.toInt ∧ a.toInt < (x.1 17 6).toInt
  · rw [if_pos h1, if_pos (by simp; omega)]
  · rw [if_neg h1, if_neg (by simp; omega)]
