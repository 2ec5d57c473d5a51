/-! ===== the readouts do not see scratch writes ===== -/
theorem kn_fr {x x' : St} (e : xEq x x') {s : Nat} (hs : s < 6) (c g : Int32) : kn x' s c g = kn x s c g := by
  unfold kn
  rw [e.1 (4 + 2 * s) (by unfold xcell; omega), e.2.2.2.2.2.2.2 (4 + 2 * s + 1) (by omega)]
theorem hvZ_fr {x x' : St} (e : xEq x x') (a5 : Int32) (c : Int) : hvZ x' a5 c = hvZ x a5 c := by
  unfold hvZ; rw [kn_fr e (by decide)]
theorem wdZ_fr {x x' : St} (e : xEq x x') (a5 : Int32) (c : Int) : wdZ x' a5 c = wdZ x a5 c := by
  unfold wdZ; rw [kn_fr e (by decide)]
theorem stZ_fr {x x' : St} (e : xEq x x') (a5 : Int32) (x0 y0 dx dy n h1 dh k : Int) : stZ x' a5 x0 y0 dx dy n h1 dh k = stZ x a5 x0 y0 dx dy n h1 dh k := by
  unfold stZ upZ
  rw [e.1 2 (by unfold xcell; omega), e.1 16 (by unfold xcell; omega), wdZ_fr e, hvZ_fr e]
theorem lz_fr {x x' : St} (e : xEq x x') (a5 : Int32) (x0 y0 dx dy n h1 dh : Int) : ∀ (d : Nat) (k acc : Int), lz x' a5 x0 y0 dx dy n h1 dh d k acc = lz x a5 x0 y0 dx dy n h1 dh d k acc
  | 0, _, _ => rfl
  | d + 1, k, acc => by
    show lz x' a5 x0 y0 dx dy n h1 dh d (k + 1) (acc + stZ x' a5 x0 y0 dx dy n h1 dh k) = lz x a5 x0 y0 dx dy n h1 dh d (k + 1) (acc + stZ x a5 x0 y0 dx dy n h1 dh k)
    rw [stZ_fr e, lz_fr e]
theorem lossZ_fr {x x' : St} (e : xEq x x') (a1 a2 a3 a4 a5 : Int32) : lossZ x' a1 a2 a3 a4 a5 = lossZ x a1 a2 a3 a4 a5 := by
  have c16 := e.1 16 (by unfold xcell; omega)
  have eX : ∀ a, cX x' a = cX x a := fun a => by unfold cX; rw [c16]
  have eY : ∀ a, cY x' a = cY x a := fun a => by unfold cY; rw [c16]
  have et : ∀ a b, tpZ x' a b = tpZ x a b := fun a b => by unfold tpZ; rw [kn_fr e (by decide)]
  unfold lossZ nN dX dY
  rw [lz_fr e, eX, eX, eY, eY, et, et]
theorem clZ_fr {x x' m : St} (e : xEq x x') {i : Nat} (hi : i < 20) (hs : I_s1 x m i) : clZ x' i = clZ x i := by
  have r := hs.2.2.2.2.2.2.2.2.2.2.1
  have ln : nt (x.1 (19 + i) 9) < 6 := by
    by_cases c : 0 ≤ (x.1 (19 + i) 9).toInt
    · have := nt_i c; omega
    · have : nt (x.1 (19 + i) 9) = 0 := by
        show (x.1 (19 + i) 9).toInt.toNat = 0
        omega
      omega
  unfold clZ plZ
  rw [e.1 (19 + i) (by unfold xcell; omega), e.1 16 (by unfold xcell; omega), e.2.2.2.1, kn_fr e ln]
theorem gotZ_fr {x x' m : St} (e : xEq x x') {i : Nat} (hi : i < 20) (hs : I_s1 x m i) (c a5 : Int32) : gotZ x' i c a5 = gotZ x i c a5 := by
  unfold gotZ
  rw [lossZ_fr e, clZ_fr e hi hs, e.1 (19 + i) (by unfold xcell; omega)]
theorem slotZ_fr {x x' : St} (e : xEq x x') {i : Nat} (hi : i < 20) : slotZ x' i = slotZ x i := by
  unfold slotZ slZ
  rw [e.1 (19 + i) (by unfold xcell; omega), e.2.2.2.1]
theorem moodZ_fr {x x' : St} (e : xEq x x') {i : Nat} (hi : i < 20) : moodZ x' i = moodZ x i := by
  unfold moodZ
  rw [e.1 (19 + i) (by unfold xcell; omega)]
theorem isC_fr {x x' : St} (e : xEq x x') (c : Int32) : isC x' c ↔ isC x c := by
  unfold isC; rw [e.1 16 (by unfold xcell; omega)]
theorem isS_fr {x x' : St} (e : xEq x x') (a : Int32) : isS x' a ↔ isS x a := by
  unfold isS; rw [e.2.2.1]
