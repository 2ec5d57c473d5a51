/-! ===== most ===== -/
theorem most_l (x m : St) {a b c : Int32} (ra : 2 ≤ a.toInt ∧ a.toInt ≤ 11) (rb : 1 ≤ b.toInt ∧ b.toInt ≤ a.toInt - 1) (rc : 1 ≤ c.toInt ∧ c.toInt ≤ a.toInt - 1) : ∀ (d k f : Nat) (acc : Int32), (k + d : Int) = a.toInt → d < f → ∃ v, fX11_most_L27 a b c f acc (iI (k : Int)) x = some (v, x) ∧ fX12_most_L27 a b c f acc (iI (k : Int)) m = some (v, m)
  | 0, k, f + 1, acc, hk, _ => by
    have le : a ≤ iI (k : Int) := (iI_lei (by omega)).mpr (by omega)
    refine ⟨acc, ?_, ?_⟩
    · show fX11_most_L27_st a b c (fX11_most_L27 a b c f) acc (iI (k : Int)) x = _
      unfold fX11_most_L27_st
      rw [if_pos le]
    · show fX12_most_L27_st a b c (fX12_most_L27 a b c f) acc (iI (k : Int)) m = _
      unfold fX12_most_L27_st
      rw [if_pos le]
  | d + 1, k, f + 1, acc, hk, hf => by
    have nle : ¬ a ≤ iI (k : Int) := fun q => by rw [iI_lei (by omega)] at q; omega
    obtain ⟨w, e1, e2⟩ := e_meets x m ra rb rc (g := iI (k : Int)) (by rw [iI_toInt (by omega) (by omega)]; omega)
    obtain ⟨v, r1, r2⟩ := most_l x m ra rb rc d (k + 1) f (if w ≤ acc then acc else w) (by omega) (by omega)
    have em : fJ9_max_7cf53 acc w x = some (if w ≤ acc then acc else w, x) := by
      unfold fJ9_max_7cf53
      rw [le_sw acc w]
      by_cases q : acc < w
      · rw [if_pos q, if_pos q]
      · rw [if_neg q, if_neg q]
    refine ⟨v, ?_, ?_⟩
    · show fX11_most_L27_st a b c (fX11_most_L27 a b c f) acc (iI (k : Int)) x = _
      unfold fX11_most_L27_st
      rw [if_neg nle, e1, bnd_some, em, bnd_some, iI_add1]; exact r1
    · show fX12_most_L27_st a b c (fX12_most_L27 a b c f) acc (iI (k : Int)) m = _
      unfold fX12_most_L27_st
      rw [if_neg nle, e2, bnd_some, lt_eq, iI_add1]; exact r2
theorem pr_22 (n : Nat) (x m : St) (a1 a2 a3 : Int32) (_ : n < 512) (h : Inv n x m) : ∃ (v : Int32) (x' m' : St), fX11_most a1 a2 a3 x = some (v, x') ∧ fX12_most a1 a2 a3 m = some (v, m') ∧ Inv (n + 1) x' m' := by
  have hu := Inv_up n x m h
  unfold fX11_most fX12_most
  obtain ⟨w, e1, e2, e3⟩ := e_rows x m a1 a2 a3
  rw [e1, e2, bnd_some, bnd_some]
  rcases e3 with e | ⟨e, ra, rb, rc⟩
  · rw [if_pos e, if_pos e]; exact ⟨_, _, _, rfl, rfl, hu⟩
  · have nz' : ¬ w = 0 := by rw [e]; decide
    rw [if_neg nz', if_neg nz']
    by_cases q : a2 = a3
    · rw [if_pos q, if_pos q]
      obtain ⟨v, r1, r2⟩ := most_l x m ra rb rc (a1.toInt.toNat - 1) 1 FU 0 (by omega) (by have := fu_ge; omega)
      exact ⟨v, x, m, r1, r2, hu⟩
    · rw [if_neg q, if_neg q]
      obtain ⟨v, r1, r2⟩ := most_l x m ra rb rc a1.toInt.toNat 0 FU 0 (by omega) (by have := fu_ge; omega)
      exact ⟨v, x, m, r1, r2, hu⟩
