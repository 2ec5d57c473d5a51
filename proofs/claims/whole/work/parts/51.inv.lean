/-! ===== the invariant between the class's state x and the reference's state m ===== -/
theorem bnd_some {α β : Type} (v : β) (S : St) (K : β → St → Option (α × St)) : bnd (some (v, S)) K = K v S := rfl
theorem bnd_none {α β : Type} (K : β → St → Option (α × St)) : bnd (none : Option (β × St)) K = none := rfl
theorem lt_eq {τ ρ : Type} (x : τ) (f : τ → ρ) : lt x f = f x := rfl
theorem jn_eq {τ ρ : Type} (k : τ) (b : τ → ρ) : jn k b = b k := rfl
def bi (p : Prop) [Decidable p] : Int32 := if p then 1 else 0
theorem bi_0 (p : Prop) [Decidable p] : bi p = 0 ↔ ¬ p := by
  unfold bi; by_cases h : p
  · simp [h]
  · simp [h]
theorem bi_01 (p : Prop) [Decidable p] : b01 (bi p) := by
  unfold bi; by_cases h : p
  · simp [h, b01]
  · simp [h, b01]
theorem bi_if (S : St) (p : Prop) [Decidable p] : (if b01 (bi p) then some (bi p, S) else none : Option (Int32 × St)) = some (bi p, S) := if_pos (bi_01 p)
abbrev rg (x : Int32) (lo hi : Int) : Prop := lo ≤ x.toInt ∧ x.toInt ≤ hi
theorem e_within (a b c : Int32) (S : St) : fX11_within a b c S = some (bi (b.toInt ≤ a.toInt ∧ a.toInt ≤ c.toInt), S) := by
  unfold fX11_within bi
  simp only [Int32.lt_iff_toInt_lt]
  by_cases h1 : a.toInt < b.toInt
  · rw [if_pos h1, if_neg (by omega)]
  · rw [if_neg h1]
    by_cases h2 : c.toInt < a.toInt
    · rw [if_pos h2, if_neg (by omega)]
    · rw [if_neg h2, if_pos (by omega)]
theorem e_in (a b c : Int64) (S : St) : fX12_in a b c S = some (bi (b.toInt ≤ a.toInt ∧ a.toInt ≤ c.toInt), S) := by
  unfold fX12_in bi
  simp only [Int64.lt_iff_toInt_lt]
  by_cases h1 : a.toInt < b.toInt
  · rw [if_pos h1, if_neg (by omega)]
  · rw [if_neg h1]
    by_cases h2 : c.toInt < a.toInt
    · rw [if_pos h2, if_neg (by omega)]
    · rw [if_neg h2, if_pos (by omega)]
def I_told (x m : St) : Prop := (∀ j, j < 5 → m.1 5 j = x.1 2 j) ∧ rg (x.1 2 0) 0 50 ∧ rg (x.1 2 1) 0 200 ∧ rg (x.1 2 2) 1 10000 ∧ rg (x.1 2 3) 1 1000000 ∧ rg (x.1 2 4) 1 1000000
def I_land (x m : St) : Prop := m.1 0 5 = x.1 16 3 ∧ m.1 0 6 = x.1 16 4 ∧ rg (x.1 16 3) 1 20 ∧ rg (x.1 16 4) 1 20
def I_sheet (x m : St) : Prop := ∀ s, s < 6 → b01 (x.1 (4 + 2 * s) 1) ∧ rg (x.1 (4 + 2 * s) 2) 0 3 ∧ rg (x.1 (4 + 2 * s) 3) 0 400 ∧ m.1 2 s = x.1 (4 + 2 * s) 3 ∧ m.1 1 s = (if x.1 (4 + 2 * s) 1 = 0 then x.1 (4 + 2 * s) 2 else -1) ∧ ∀ i : Nat, i < 400 → (i : Int) < (x.1 (4 + 2 * s) 3).toInt → x.1 (4 + 2 * s) 1 = 0 → m.2 3 (400 * s + i) = x.2 (4 + 2 * s + 1) i
def I_tick (n : Nat) (x m : St) : Prop := m.1 0 8 = x.1 17 7 ∧ rg (x.1 17 7) 0 (1000 * n)
abbrev isC (x : St) (c : Int32) : Prop := 0 ≤ c.toInt ∧ c.toInt < (x.1 16 3).toInt * (x.1 16 4).toInt
def I_s1 (x m : St) (i : Nat) : Prop := (∀ j, j < 11 → m.1 (6 + j) i = x.1 (19 + i) j) ∧ rg (x.1 (19 + i) 0) 0 5 ∧ isC x (x.1 (19 + i) 1) ∧ rg (x.1 (19 + i) 2) 1 1000000 ∧ rg (x.1 (19 + i) 3) 0 20 ∧ rg (x.1 (19 + i) 4) 1 10000 ∧ isC x (x.1 (19 + i) 5) ∧ rg (x.1 (19 + i) 6) 0 1000 ∧ rg (x.1 (19 + i) 7) 0 11 ∧ rg (x.1 (19 + i) 8) 0 11 ∧ rg (x.1 (19 + i) 9) (-1) 5 ∧ b01 (x.1 (19 + i) 10)
def I_s0 (x : St) (i : Nat) : Prop := x.1 (19 + i) 6 = 1 ∧ x.1 (19 + i) 7 = 0 ∧ x.1 (19 + i) 8 = 1 ∧ x.1 (19 + i) 9 = -1 ∧ x.1 (19 + i) 10 = 1
def I_send (x m : St) : Prop := m.1 0 9 = x.1 17 6 ∧ rg (x.1 17 6) 0 20 ∧ (∀ i : Nat, i < 20 → (i : Int) < (x.1 17 6).toInt → I_s1 x m i) ∧ ∀ i : Nat, i < 20 → ¬ (i : Int) < (x.1 17 6).toInt → I_s0 x i
def I_lis (x m : St) : Prop := ∀ i, i < 20 → m.1 21 i = x.1 53 i ∧ m.1 22 i = x.1 54 i ∧ m.1 23 i = x.1 55 i
def I_bid (x m : St) : Prop := m.1 0 30 = x.1 56 2 ∧ rg (x.1 56 2) 0 8 ∧ ∀ i : Nat, i < 8 → (i : Int) < (x.1 56 2).toInt → m.1 25 i = x.1 57 i ∧ m.1 26 i = x.1 58 i ∧ rg (x.1 57 i) 1 4095 ∧ rg (x.1 58 i) 1 10000
def I_text (x m : St) : Prop := m.1 0 34 = x.1 59 7 ∧ rg (x.1 59 7) 0 120 ∧ ∀ i : Nat, i < 120 → (i : Int) < (x.1 59 7).toInt → m.1 27 i = x.1 60 i ∧ rg (x.1 60 i) 0 255
def I_box (x m : St) : Prop := m.1 0 43 = x.1 67 3 ∧ rg (x.1 67 3) 0 8 ∧ (∀ i : Nat, i < 8 → (i : Int) < (x.1 67 3).toInt → m.1 34 i = x.1 68 i ∧ isC x (x.1 68 i) ∧ m.1 35 i = x.1 69 i ∧ rg (x.1 69 i) (-1) 100000000) ∧ ∀ i : Nat, i < 8 → ¬ (i : Int) < (x.1 67 3).toInt → m.1 35 i = -1
def I_site (x m : St) (s : Nat) : Prop := m.1 36 s = x.1 71 s ∧ isC x (x.1 71 s) ∧ m.1 37 s = x.1 72 s ∧ rg (x.1 72 s) 0 20 ∧ m.1 38 (2 * s) = x.1 73 (3 * s + 1) ∧ m.1 38 (2 * s + 1) = x.1 73 (3 * s + 2) ∧ rg (x.1 73 (3 * s + 1)) 1 1000000 ∧ rg (x.1 73 (3 * s + 2)) 1 1000000 ∧ m.1 39 (2 * s) = x.1 74 (3 * s + 1) ∧ m.1 39 (2 * s + 1) = x.1 74 (3 * s + 2) ∧ rg (x.1 74 (3 * s + 1)) 1 1000 ∧ rg (x.1 74 (3 * s + 2)) 1 1000
def I_tow (x m : St) : Prop := m.1 0 46 = x.1 70 9 ∧ rg (x.1 70 9) 0 6 ∧ m.1 0 51 = x.1 70 10 ∧ rg (x.1 70 10) 0 12 ∧ (∀ s, s < 6 → x.1 73 (3 * s) = 0 ∧ x.1 74 (3 * s) = 0) ∧ (∀ s : Nat, s < 6 → (s : Int) < (x.1 70 9).toInt → I_site x m s) ∧ ∀ e : Nat, e < 12 → (e : Int) < (x.1 70 10).toInt → m.1 40 e = x.1 75 e ∧ isC x (x.1 75 e) ∧ m.1 41 e = x.1 76 e ∧ rg (x.1 76 e) 1 100
def I_find (x m : St) : Prop := m.1 0 4 = x.1 0 11
def Inv (n : Nat) (x m : St) : Prop := I_told x m ∧ I_land x m ∧ I_sheet x m ∧ I_tick n x m ∧ I_send x m ∧ I_lis x m ∧ I_bid x m ∧ I_text x m ∧ I_box x m ∧ I_tow x m ∧ I_find x m
theorem Inv_up (n : Nat) (x m : St) (h : Inv n x m) : Inv (n + 1) x m := by
  obtain ⟨h1, h2, h3, h4, h5⟩ := h
  refine ⟨h1, h2, h3, ⟨h4.1, h4.2.1, ?_⟩, h5⟩
  have := h4.2.2
  push_cast
  omega
set_option maxRecDepth 100000 in
set_option maxHeartbeats 4000000 in
theorem Inv_0 : Inv 0 (iS_X11_init S00) (iS_X12_init S00) := by
  refine ⟨⟨?_, ?_, ?_, ?_, ?_, ?_⟩, ⟨?_, ?_, ?_, ?_⟩, ?_, ⟨?_, ?_⟩, ⟨?_, ?_, ?_, ?_⟩, ?_, ⟨?_, ?_, ?_⟩, ⟨?_, ?_, ?_⟩, ⟨?_, ?_, ?_, ?_⟩, ⟨?_, ?_, ?_, ?_, ?_, ?_, ?_⟩, ?_⟩
  · decide +kernel
  · decide +kernel
  · decide +kernel
  · decide +kernel
  · decide +kernel
  · decide +kernel
  · decide +kernel
  · decide +kernel
  · decide +kernel
  · decide +kernel
  · intro s hs
    have h1 : ∀ s, s < 6 → b01 ((iS_X11_init S00).1 (4 + 2 * s) 1) ∧ rg ((iS_X11_init S00).1 (4 + 2 * s) 2) 0 3 ∧ rg ((iS_X11_init S00).1 (4 + 2 * s) 3) 0 400 ∧ (iS_X12_init S00).1 2 s = (iS_X11_init S00).1 (4 + 2 * s) 3 ∧ (iS_X12_init S00).1 1 s = (if (iS_X11_init S00).1 (4 + 2 * s) 1 = 0 then (iS_X11_init S00).1 (4 + 2 * s) 2 else -1) ∧ ((iS_X11_init S00).1 (4 + 2 * s) 3).toInt = 0 := by decide +kernel
    obtain ⟨g1, g2, g3, g4, g5, g6⟩ := h1 s hs
    refine ⟨g1, g2, g3, g4, g5, fun i _ hi => ?_⟩
    rw [g6] at hi; omega
  · decide +kernel
  · decide +kernel
  · decide +kernel
  · decide +kernel
  · intro i _ hi
    have h0 : ((iS_X11_init S00).1 17 6).toInt = 0 := by decide +kernel
    rw [h0] at hi; omega
  · intro i hi _
    have h1 : ∀ i, i < 20 → (iS_X11_init S00).1 (19 + i) 6 = 1 ∧ (iS_X11_init S00).1 (19 + i) 7 = 0 ∧ (iS_X11_init S00).1 (19 + i) 8 = 1 ∧ (iS_X11_init S00).1 (19 + i) 9 = -1 ∧ (iS_X11_init S00).1 (19 + i) 10 = 1 := by decide +kernel
    exact h1 i hi
  · intro i hi
    have h1 : ∀ i, i < 20 → (iS_X12_init S00).1 21 i = (iS_X11_init S00).1 53 i ∧ (iS_X12_init S00).1 22 i = (iS_X11_init S00).1 54 i ∧ (iS_X12_init S00).1 23 i = (iS_X11_init S00).1 55 i := by decide +kernel
    exact h1 i hi
  · decide +kernel
  · decide +kernel
  · intro i _ hi
    have h0 : ((iS_X11_init S00).1 56 2).toInt = 0 := by decide +kernel
    rw [h0] at hi; omega
  · decide +kernel
  · decide +kernel
  · intro i _ hi
    have h0 : ((iS_X11_init S00).1 59 7).toInt = 0 := by decide +kernel
    rw [h0] at hi; omega
  · decide +kernel
  · decide +kernel
  · intro i _ hi
    have h0 : ((iS_X11_init S00).1 67 3).toInt = 0 := by decide +kernel
    rw [h0] at hi; omega
  · intro i hi _
    have h1 : ∀ i, i < 8 → (iS_X12_init S00).1 35 i = -1 := by decide +kernel
    exact h1 i hi
  · decide +kernel
  · decide +kernel
  · decide +kernel
  · decide +kernel
  · decide +kernel
  · intro i _ hi
    have h0 : ((iS_X11_init S00).1 70 9).toInt = 0 := by decide +kernel
    rw [h0] at hi; omega
  · intro i _ hi
    have h0 : ((iS_X11_init S00).1 70 10).toInt = 0 := by decide +kernel
    rw [h0] at hi; omega
  · show (iS_X12_init S00).1 0 4 = (iS_X11_init S00).1 0 11
    decide +kernel
