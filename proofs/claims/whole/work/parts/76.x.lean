/-! ===== hops ===== -/
theorem e_rows (x m : St) (a b c : Int32) : ∃ w, fX11_areRows a b c x = some (w, x) ∧ fX12_areHops a b c m = some (w, m) ∧ (w = 0 ∨ (w = 1 ∧ (2 ≤ a.toInt ∧ a.toInt ≤ 11) ∧ (1 ≤ b.toInt ∧ b.toInt ≤ a.toInt - 1) ∧ 1 ≤ c.toInt ∧ c.toInt ≤ a.toInt - 1)) := by
  unfold fX11_areRows fX12_areHops
  rw [lt_eq, lt_eq]
  have hr : ¬ (if a = 2 then (1 : Int32) else (if a = 3 then 1 else (if a = 5 then 1 else (if a = 7 then 1 else (if a = 11 then 1 else 0))))) = 0 → 2 ≤ a.toInt ∧ a.toInt ≤ 11 := by
    intro q
    by_cases e2 : a = 2
    · subst e2; decide
    by_cases e3 : a = 3
    · subst e3; decide
    by_cases e5 : a = 5
    · subst e5; decide
    by_cases e7 : a = 7
    · subst e7; decide
    by_cases e11 : a = 11
    · subst e11; decide
    rw [if_neg e2, if_neg e3, if_neg e5, if_neg e7, if_neg e11] at q
    exact absurd rfl q
  generalize (if a = 2 then (1 : Int32) else (if a = 3 then 1 else (if a = 5 then 1 else (if a = 7 then 1 else (if a = 11 then 1 else 0))))) = t at hr
  by_cases ht : t = 0
  · rw [if_pos ht, if_pos ht]; exact ⟨0, rfl, rfl, Or.inl rfl⟩
  · rw [if_neg ht, if_neg ht]
    have r := hr ht
    have e1 : (a - 1).toInt = a.toInt - 1 := by rw [subI] <;> rw [l32_1] <;> omega
    simp only [e_within, e_in, bnd_some, bi_ite, t64, e1, l32_1, l64_1]
    by_cases c1 : 1 ≤ b.toInt ∧ b.toInt ≤ a.toInt - 1
    · rw [if_pos c1, if_pos c1]
      by_cases c2 : 1 ≤ c.toInt ∧ c.toInt ≤ a.toInt - 1
      · rw [if_pos c2, if_pos c2]; exact ⟨1, rfl, rfl, Or.inr ⟨rfl, r, c1, c2⟩⟩
      · rw [if_neg c2, if_neg c2]; exact ⟨0, rfl, rfl, Or.inl rfl⟩
    · rw [if_neg c1, if_neg c1]; exact ⟨0, rfl, rfl, Or.inl rfl⟩
theorem e_meets (x m : St) {a b c g : Int32} (ra : 2 ≤ a.toInt ∧ a.toInt ≤ 11) (rb : 1 ≤ b.toInt ∧ b.toInt ≤ a.toInt - 1) (rc : 1 ≤ c.toInt ∧ c.toInt ≤ a.toInt - 1) (rg' : 0 ≤ g.toInt ∧ g.toInt ≤ a.toInt - 1) : ∃ v, fX11_meetings a b c g x = some (v, x) ∧ fX12_meets a b c g m = some (v, m) := by
  obtain ⟨v, r1, r2⟩ := meets_l (x := x) (m := m) (p := a.toInt) (u := b.toInt) (w := c.toInt) (g := g.toInt) (by omega) (by omega) (by omega) (by omega) a.toInt.toNat 0 FU 0 (by omega) (by have := fu_ge; omega)
  rw [← iI_of, ← iI_of, ← iI_of, ← iI_of] at r1 r2
  exact ⟨v, r1, r2⟩
theorem pr_21 (n : Nat) (x m : St) (a1 a2 a3 a4 : Int32) (_ : n < 512) (h : Inv n x m) : ∃ (v : Int32) (x' m' : St), fX11_hops a1 a2 a3 a4 x = some (v, x') ∧ fX12_hops a1 a2 a3 a4 m = some (v, m') ∧ Inv (n + 1) x' m' := by
  have hu := Inv_up n x m h
  unfold fX11_hops fX12_hops
  obtain ⟨w, e1, e2, e3⟩ := e_rows x m a1 a2 a3
  rw [e1, e2, bnd_some, bnd_some]
  rcases e3 with e | ⟨e, ra, rb, rc⟩
  · rw [if_pos e, if_pos e]; exact ⟨_, _, _, rfl, rfl, hu⟩
  · have nz' : ¬ w = 0 := by rw [e]; decide
    have e5 : (a1 - 1).toInt = a1.toInt - 1 := by rw [subI] <;> rw [l32_1] <;> omega
    rw [if_neg nz', if_neg nz', e_within, e_in, bnd_some, bnd_some, bi_ite, bi_ite, t64, t64, e5, l32_0, l64_0]
    by_cases c1 : 0 ≤ a4.toInt ∧ a4.toInt ≤ a1.toInt - 1
    · obtain ⟨v, r1, r2⟩ := e_meets x m ra rb rc c1
      rw [if_pos c1, if_pos c1, r1, r2, bnd_some, bnd_some]; exact ⟨_, _, _, rfl, rfl, hu⟩
    · rw [if_neg c1, if_neg c1]; exact ⟨_, _, _, rfl, rfl, hu⟩
