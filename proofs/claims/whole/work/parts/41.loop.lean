theorem bz01 (x : Int32) : bz x = 0 ∨ bz x = 1 := by unfold bz; split <;> simp
theorem x3_ib {k L : Nat} (hk : 7 * k + 7 ≤ L) (hL : L ≤ 3584) : ∀ j : Int32, (0 ≤ j ∧ j ≤ 6) → ib (nI (7 * k) + j) L := by
  intro j hj
  have h0 : (0 : Int) ≤ j.toInt := by have := hj.1; rw [Int32.le_iff_toInt_le] at this; simpa using this
  have h6 : j.toInt ≤ 6 := by have := hj.2; rw [Int32.le_iff_toInt_le] at this; simpa using this
  obtain ⟨m, hm, rfl⟩ : ∃ m : Nat, m < 7 ∧ j = nI m := by
    refine ⟨j.toInt.toNat, by omega, ?_⟩
    apply Int32.toInt_inj.mp
    rw [nI_toInt (by omega)]
    omega
  rw [nI_add]
  exact nI_in (by omega) (by omega)
set_option maxRecDepth 100000 in
set_option maxHeartbeats 8000000 in
theorem law_switch {X : Mx} {D : va_G} {ids : Nat → ClassId} {n0 b L aL aG : Nat} {xs : Nat → Int32} {Q : State → Prop} {cs sl : Nat} {P : Nat → St → St → Prop} (hL : LawC X D ids n0 b L xs aL aG) (hcs : cs ≤ 600000 ∧ sl ≤ 7302250) (hP0 : ∀ n Sx Sm, P n Sx Sm → P (n + 1) Sx Sm)
    (hq0 : ∀ (n : Nat) (Sx Sm : St) (a1 : Int32) (a2 : Int32), n < 512 → P n Sx Sm → ∃ (v : Int32) (Sx' Sm' : St), fX11_land a1 a2 Sx = some (v, Sx') ∧ fX12_land a1 a2 Sm = some (v, Sm') ∧ P (n + 1) Sx' Sm')
    (hq1 : ∀ (n : Nat) (Sx Sm : St) (a1 : Int32) (a2 : Int32), n < 512 → P n Sx Sm → ∃ (v : Int32) (Sx' Sm' : St), fX11_ground a1 a2 Sx = some (v, Sx') ∧ fX12_ground a1 a2 Sm = some (v, Sm') ∧ P (n + 1) Sx' Sm')
    (hq2 : ∀ (n : Nat) (Sx Sm : St) (a1 : Int32) (a2 : Int32), n < 512 → P n Sx Sm → ∃ (v : Int32) (Sx' Sm' : St), fX11_set a1 a2 Sx = some (v, Sx') ∧ fX12_set a1 a2 Sm = some (v, Sm') ∧ P (n + 1) Sx' Sm')
    (hq3 : ∀ (n : Nat) (Sx Sm : St) (a1 : Int32) (a2 : Int32) (a3 : Int32) (a4 : Int32) (a5 : Int32), n < 512 → P n Sx Sm → ∃ (v : Int32) (Sx' Sm' : St), fX11_loss a1 a2 a3 a4 a5 Sx = some (v, Sx') ∧ fX12_loss a1 a2 a3 a4 a5 Sm = some (v, Sm') ∧ P (n + 1) Sx' Sm')
    (hq4 : ∀ (n : Nat) (Sx Sm : St) (a1 : Int32), n < 512 → P n Sx Sm → ∃ (v : Int32) (Sx' Sm' : St), fX11_pass a1 Sx = some (v, Sx') ∧ fX12_pass a1 Sm = some (v, Sm') ∧ P (n + 1) Sx' Sm')
    (hq5 : ∀ (n : Nat) (Sx Sm : St) (a1 : Int32) (a2 : Int32) (a3 : Int32) (a4 : Int32) (a5 : Int32) (a6 : Int32), n < 512 → P n Sx Sm → ∃ (v : Int32) (Sx' Sm' : St), fX11_sender a1 a2 a3 a4 a5 a6 Sx = some (v, Sx') ∧ fX12_sender a1 a2 a3 a4 a5 a6 Sm = some (v, Sm') ∧ P (n + 1) Sx' Sm')
    (hq6 : ∀ (n : Nat) (Sx Sm : St) (a1 : Int32) (a2 : Int32), n < 512 → P n Sx Sm → ∃ (v : Int32) (Sx' Sm' : St), fX11_about a1 a2 Sx = some (v, Sx') ∧ fX12_about a1 a2 Sm = some (v, Sm') ∧ P (n + 1) Sx' Sm')
    (hq7 : ∀ (n : Nat) (Sx Sm : St) (a1 : Int32) (a2 : Int32) (a3 : Int32), n < 512 → P n Sx Sm → ∃ (v : Int32) (Sx' Sm' : St), fX11_change a1 a2 a3 Sx = some (v, Sx') ∧ fX12_change a1 a2 a3 Sm = some (v, Sm') ∧ P (n + 1) Sx' Sm')
    (hq8 : ∀ (n : Nat) (Sx Sm : St) (a1 : Int32) (a2 : Int32), n < 512 → (a2 = 0 ∨ a2 = 1) → P n Sx Sm → ∃ (v : Int32) (Sx' Sm' : St), fX11_on a1 a2 Sx = some (v, Sx') ∧ fX12_on a1 a2 Sm = some (v, Sm') ∧ P (n + 1) Sx' Sm')
    (hq9 : ∀ (n : Nat) (Sx Sm : St) (a1 : Int32) (a2 : Int32), n < 512 → P n Sx Sm → ∃ (v : Int32) (Sx' Sm' : St), fX11_got a1 a2 Sx = some (v, Sx') ∧ fX12_got a1 a2 Sm = some (v, Sm') ∧ P (n + 1) Sx' Sm')
    (hq10 : ∀ (n : Nat) (Sx Sm : St) (a1 : Int32), n < 512 → P n Sx Sm → ∃ (v : Int32) (Sx' Sm' : St), fX11_heard a1 Sx = some (v, Sx') ∧ fX12_heard a1 Sm = some (v, Sm') ∧ P (n + 1) Sx' Sm')
    (hq11 : ∀ (n : Nat) (Sx Sm : St) (a1 : Int32), n < 512 → P n Sx Sm → ∃ (v : Int64) (Sx' Sm' : St), fX11_drowns a1 Sx = some (v, Sx') ∧ fX12_drowns a1 Sm = some (v, Sm') ∧ P (n + 1) Sx' Sm')
    (hq12 : ∀ (n : Nat) (Sx Sm : St) (a1 : Int32), n < 512 → P n Sx Sm → ∃ (v : Int32) (Sx' Sm' : St), fX11_cause a1 Sx = some (v, Sx') ∧ fX12_cause a1 Sm = some (v, Sm') ∧ P (n + 1) Sx' Sm')
    (hq13 : ∀ (n : Nat) (Sx Sm : St) (a1 : Int32), n < 512 → P n Sx Sm → ∃ (v : Int32) (Sx' Sm' : St), fX11_share a1 Sx = some (v, Sx') ∧ fX12_share a1 Sm = some (v, Sm') ∧ P (n + 1) Sx' Sm')
    (hq14 : ∀ (n : Nat) (Sx Sm : St) (a1 : Int32), n < 512 → P n Sx Sm → ∃ (v : Int32) (Sx' Sm' : St), fX11_fewest a1 Sx = some (v, Sx') ∧ fX12_fewest a1 Sm = some (v, Sm') ∧ P (n + 1) Sx' Sm')
    (hq15 : ∀ (n : Nat) (Sx Sm : St) (a1 : Int32) (a2 : Int32), n < 512 → P n Sx Sm → ∃ (v : Int32) (Sx' Sm' : St), fX11_part a1 a2 Sx = some (v, Sx') ∧ fX12_part a1 a2 Sm = some (v, Sm') ∧ P (n + 1) Sx' Sm')
    (hq16 : ∀ (n : Nat) (Sx Sm : St) (a1 : Int32) (a2 : Int32), n < 512 → P n Sx Sm → ∃ (v : Int32) (Sx' Sm' : St), fX11_best a1 a2 Sx = some (v, Sx') ∧ fX12_best a1 a2 Sm = some (v, Sm') ∧ P (n + 1) Sx' Sm')
    (hq17 : ∀ (n : Nat) (Sx Sm : St) (a1 : Int32) (a2 : Int32), n < 512 → P n Sx Sm → ∃ (v : Int32) (Sx' Sm' : St), fX11_proof a1 a2 Sx = some (v, Sx') ∧ fX12_proof a1 a2 Sm = some (v, Sm') ∧ P (n + 1) Sx' Sm')
    (hq18 : ∀ (n : Nat) (Sx Sm : St) (a1 : Int32), n < 512 → P n Sx Sm → ∃ (v : Int32) (Sx' Sm' : St), fX11_assign a1 Sx = some (v, Sx') ∧ fX12_assign a1 Sm = some (v, Sm') ∧ P (n + 1) Sx' Sm')
    (hq19 : ∀ (n : Nat) (Sx Sm : St) (a1 : Int32) (a2 : Int32) (a3 : Int32), n < 512 → P n Sx Sm → ∃ (v : Int32) (Sx' Sm' : St), fX11_odds a1 a2 a3 Sx = some (v, Sx') ∧ fX12_odds a1 a2 a3 Sm = some (v, Sm') ∧ P (n + 1) Sx' Sm')
    (hq20 : ∀ (n : Nat) (Sx Sm : St) (a1 : Int32) (a2 : Int32) (a3 : Int32) (a4 : Int32) (a5 : Int32), n < 512 → P n Sx Sm → ∃ (v : Int32) (Sx' Sm' : St), fX11_flow a1 a2 a3 a4 a5 Sx = some (v, Sx') ∧ fX12_flow a1 a2 a3 a4 a5 Sm = some (v, Sm') ∧ P (n + 1) Sx' Sm')
    (hq21 : ∀ (n : Nat) (Sx Sm : St) (a1 : Int32) (a2 : Int32) (a3 : Int32) (a4 : Int32), n < 512 → P n Sx Sm → ∃ (v : Int32) (Sx' Sm' : St), fX11_hops a1 a2 a3 a4 Sx = some (v, Sx') ∧ fX12_hops a1 a2 a3 a4 Sm = some (v, Sm') ∧ P (n + 1) Sx' Sm')
    (hq22 : ∀ (n : Nat) (Sx Sm : St) (a1 : Int32) (a2 : Int32) (a3 : Int32), n < 512 → P n Sx Sm → ∃ (v : Int32) (Sx' Sm' : St), fX11_most a1 a2 a3 Sx = some (v, Sx') ∧ fX12_most a1 a2 a3 Sm = some (v, Sm') ∧ P (n + 1) Sx' Sm')
    (hq23 : ∀ (n : Nat) (Sx Sm : St) (a1 : Int32) (a2 : Int32) (a3 : Int32), n < 512 → P n Sx Sm → ∃ (v : Int32) (Sx' Sm' : St), fX11_listen a1 a2 a3 Sx = some (v, Sx') ∧ fX12_listen a1 a2 a3 Sm = some (v, Sm') ∧ P (n + 1) Sx' Sm')
    (hq24 : ∀ (n : Nat) (Sx Sm : St) (a1 : Int32) (a2 : Int32), n < 512 → P n Sx Sm → ∃ (v : Int32) (Sx' Sm' : St), fX11_spoke a1 a2 Sx = some (v, Sx') ∧ fX12_spoke a1 a2 Sm = some (v, Sm') ∧ P (n + 1) Sx' Sm')
    (hq25 : ∀ (n : Nat) (Sx Sm : St) (a1 : Int32), n < 512 → P n Sx Sm → ∃ (v : Int32) (Sx' Sm' : St), fX11_hidden a1 Sx = some (v, Sx') ∧ fX12_hidden a1 Sm = some (v, Sm') ∧ P (n + 1) Sx' Sm')
    (hq26 : ∀ (n : Nat) (Sx Sm : St) (a1 : Int32) (a2 : Int32) (a3 : Int32), n < 512 → P n Sx Sm → ∃ (v : Int32) (Sx' Sm' : St), fX11_bid a1 a2 a3 Sx = some (v, Sx') ∧ fX12_bid a1 a2 a3 Sm = some (v, Sm') ∧ P (n + 1) Sx' Sm')
    (hq27 : ∀ (n : Nat) (Sx Sm : St), n < 512 → P n Sx Sm → ∃ (v : Int32) (Sx' Sm' : St), fX11_call Sx = some (v, Sx') ∧ fX12_call Sm = some (v, Sm') ∧ P (n + 1) Sx' Sm')
    (hq28 : ∀ (n : Nat) (Sx Sm : St), n < 512 → P n Sx Sm → ∃ (v : Int32) (Sx' Sm' : St), fX11_won Sx = some (v, Sx') ∧ fX12_won Sm = some (v, Sm') ∧ P (n + 1) Sx' Sm')
    (hq29 : ∀ (n : Nat) (Sx Sm : St) (a1 : Int32), n < 512 → P n Sx Sm → ∃ (v : Int32) (Sx' Sm' : St), fX11_pays a1 Sx = some (v, Sx') ∧ fX12_pays a1 Sm = some (v, Sm') ∧ P (n + 1) Sx' Sm')
    (hq30 : ∀ (n : Nat) (Sx Sm : St) (a1 : Int32), n < 512 → P n Sx Sm → ∃ (v : Int32) (Sx' Sm' : St), fX11_type a1 Sx = some (v, Sx') ∧ fX12_type a1 Sm = some (v, Sm') ∧ P (n + 1) Sx' Sm')
    (hq31 : ∀ (n : Nat) (Sx Sm : St), n < 512 → P n Sx Sm → ∃ (v : Int32) (Sx' Sm' : St), fX11_wipe Sx = some (v, Sx') ∧ fX12_wipe Sm = some (v, Sm') ∧ P (n + 1) Sx' Sm')
    (hq32 : ∀ (n : Nat) (Sx Sm : St), n < 512 → P n Sx Sm → ∃ (v : Int32) (Sx' Sm' : St), fX11_fault Sx = some (v, Sx') ∧ fX12_fault Sm = some (v, Sm') ∧ P (n + 1) Sx' Sm')
    (hq33 : ∀ (n : Nat) (Sx Sm : St) (a1 : Int32) (a2 : Int32) (a3 : Int32), n < 512 → P n Sx Sm → ∃ (v : Int32) (Sx' Sm' : St), fX11_may a1 a2 a3 Sx = some (v, Sx') ∧ fX12_may a1 a2 a3 Sm = some (v, Sm') ∧ P (n + 1) Sx' Sm')
    (hq34 : ∀ (n : Nat) (Sx Sm : St) (a1 : Int32) (a2 : Int32) (a3 : Int32), n < 512 → P n Sx Sm → ∃ (v : Int32) (Sx' Sm' : St), fX11_rule a1 a2 a3 Sx = some (v, Sx') ∧ fX12_rule a1 a2 a3 Sm = some (v, Sm') ∧ P (n + 1) Sx' Sm')
    (hq35 : ∀ (n : Nat) (Sx Sm : St) (a1 : Int32), n < 512 → P n Sx Sm → ∃ (v : Int32) (Sx' Sm' : St), fX11_box a1 Sx = some (v, Sx') ∧ fX12_box a1 Sm = some (v, Sm') ∧ P (n + 1) Sx' Sm')
    (hq36 : ∀ (n : Nat) (Sx Sm : St) (a1 : Int32) (a2 : Int32), n < 512 → P n Sx Sm → ∃ (v : Int32) (Sx' Sm' : St), fX11_log a1 a2 Sx = some (v, Sx') ∧ fX12_log a1 a2 Sm = some (v, Sm') ∧ P (n + 1) Sx' Sm')
    (hq37 : ∀ (n : Nat) (Sx Sm : St) (a1 : Int32), n < 512 → P n Sx Sm → ∃ (v : Int32) (Sx' Sm' : St), fX11_hear a1 Sx = some (v, Sx') ∧ fX12_hear a1 Sm = some (v, Sm') ∧ P (n + 1) Sx' Sm')
    (hq38 : ∀ (n : Nat) (Sx Sm : St) (a1 : Int32) (a2 : Int32), n < 512 → P n Sx Sm → ∃ (v : Int32) (Sx' Sm' : St), fX11_cells a1 a2 Sx = some (v, Sx') ∧ fX12_cells a1 a2 Sm = some (v, Sm') ∧ P (n + 1) Sx' Sm')
    (hq39 : ∀ (n : Nat) (Sx Sm : St) (a1 : Int32) (a2 : Int32) (a3 : Int32), n < 512 → P n Sx Sm → ∃ (v : Int32) (Sx' Sm' : St), fX11_cell a1 a2 a3 Sx = some (v, Sx') ∧ fX12_cell a1 a2 a3 Sm = some (v, Sm') ∧ P (n + 1) Sx' Sm')
    (hq40 : ∀ (n : Nat) (Sx Sm : St) (a1 : Int32) (a2 : Int32) (a3 : Int32), n < 512 → P n Sx Sm → ∃ (v : Int32) (Sx' Sm' : St), fX11_cheats a1 a2 a3 Sx = some (v, Sx') ∧ fX12_cheats a1 a2 a3 Sm = some (v, Sm') ∧ P (n + 1) Sx' Sm')
    (hq41 : ∀ (n : Nat) (Sx Sm : St) (a1 : Int32) (a2 : Int32) (a3 : Int32) (a4 : Int32) (a5 : Int32) (a6 : Int32), n < 512 → P n Sx Sm → ∃ (v : Int32) (Sx' Sm' : St), fX11_site a1 a2 a3 a4 a5 a6 Sx = some (v, Sx') ∧ fX12_site a1 a2 a3 a4 a5 a6 Sm = some (v, Sm') ∧ P (n + 1) Sx' Sm')
    (hq42 : ∀ (n : Nat) (Sx Sm : St) (a1 : Int32) (a2 : Int32), n < 512 → P n Sx Sm → ∃ (v : Int32) (Sx' Sm' : St), fX11_ear a1 a2 Sx = some (v, Sx') ∧ fX12_ear a1 a2 Sm = some (v, Sm') ∧ P (n + 1) Sx' Sm')
    (hq43 : ∀ (n : Nat) (Sx Sm : St) (a1 : Int32), n < 512 → P n Sx Sm → ∃ (v : Int32) (Sx' Sm' : St), fX11_serves a1 Sx = some (v, Sx') ∧ fX12_serves a1 Sm = some (v, Sm') ∧ P (n + 1) Sx' Sm')
    (hq44 : ∀ (n : Nat) (Sx Sm : St) (a1 : Int32) (a2 : Int32), n < 512 → P n Sx Sm → ∃ (v : Int32) (Sx' Sm' : St), fX11_plan a1 a2 Sx = some (v, Sx') ∧ fX12_plan a1 a2 Sm = some (v, Sm') ∧ P (n + 1) Sx' Sm')
    (hq45 : ∀ (n : Nat) (Sx Sm : St) (a1 : Int32) (a2 : Int32) (a3 : Int32), n < 512 → P n Sx Sm → ∃ (v : Int32) (Sx' Sm' : St), fX11_sheet a1 a2 a3 Sx = some (v, Sx') ∧ fX12_sheet a1 a2 a3 Sm = some (v, Sm') ∧ P (n + 1) Sx' Sm')
    (hq46 : ∀ (n : Nat) (Sx Sm : St) (a1 : Int32), n < 512 → P n Sx Sm → ∃ (v : Int32) (Sx' Sm' : St), fX11_lose a1 Sx = some (v, Sx') ∧ fX12_lose a1 Sm = some (v, Sm') ∧ P (n + 1) Sx' Sm')
    (hq47 : ∀ (n : Nat) (Sx Sm : St) (a1 : Int32) (a2 : Int32) (a3 : Int32) (a4 : Int64), n < 512 → P n Sx Sm → ∃ (v : Int32) (Sx' Sm' : St), fX11_put a1 a2 a3 a4 Sx = some (v, Sx') ∧ fX12_put a1 a2 a3 a4 Sm = some (v, Sm') ∧ P (n + 1) Sx' Sm')
    (hq48 : ∀ (n : Nat) (Sx Sm : St) (a1 : Int32) (a2 : Int32) (a3 : Int32), n < 512 → P n Sx Sm → ∃ (v : Int64) (Sx' Sm' : St), fX11_get a1 a2 a3 Sx = some (v, Sx') ∧ fX12_get a1 a2 a3 Sm = some (v, Sm') ∧ P (n + 1) Sx' Sm')
    (hq49 : ∀ (n : Nat) (Sx Sm : St) (a1 : Int32) (a2 : Int32) (a3 : Int32) (a4 : Int32) (a5 : Int32), n < 512 → P n Sx Sm → ∃ (v : Int32) (Sx' Sm' : St), fX11_copy a1 a2 a3 a4 a5 Sx = some (v, Sx') ∧ fX12_copy a1 a2 a3 a4 a5 Sm = some (v, Sm') ∧ P (n + 1) Sx' Sm')
    (hq50 : ∀ (n : Nat) (Sx Sm : St) (a1 : Int32) (a2 : Int32), n < 512 → P n Sx Sm → ∃ (v : Int32) (Sx' Sm' : St), fX11_map a1 a2 Sx = some (v, Sx') ∧ fX12_map a1 a2 Sm = some (v, Sm') ∧ P (n + 1) Sx' Sm')
    (hq51 : ∀ (n : Nat) (Sx Sm : St) (a1 : Int32), n < 512 → P n Sx Sm → ∃ (v : Int32) (Sx' Sm' : St), fX11_count a1 Sx = some (v, Sx') ∧ fX12_count a1 Sm = some (v, Sm') ∧ P (n + 1) Sx' Sm')
    (hq52 : ∀ (n : Nat) (Sx Sm : St), n < 512 → P n Sx Sm → ∃ (v : Int64) (Sx' Sm' : St), fX11_digest Sx = some (v, Sx') ∧ fX12_digest Sm = some (v, Sm') ∧ P (n + 1) Sx' Sm')
    (k : Nat) (Sx Sm : St) (hk : k < 512) (hkL : 7 * k + 7 ≤ L) (hL3 : L ≤ 3584) (hP : P k Sx Sm) (v : Int32) (kk : ∀ Sx' Sm', P (k + 1) Sx' Sm' → Og X 4 Q (PsL X.2.2.2.2.1 D ids n0 Sx' Sm') cs sl 2132 [(0, .ref b), (1, .ref n0), (2, .ref (n0 + 79)), (3, .int (nI (7 * k)))] []) : Og X 4 Q (PsL X.2.2.2.2.1 D ids n0 Sx Sm) cs sl 33 [(0, .ref b), (1, .ref n0), (2, .ref (n0 + 79)), (3, .int (nI (7 * k)))] [.int v] := by
  have hb := x3_ib hkL hL3
  by_cases h0 : v = 0
  · refine og_tswIn (v := 0) 260 hL.1 dL_law_33 h0 (by decide) (by decide) rfl (by decide) ?_
    exact lawc_0 hL hcs (nI (7 * k)) hb (hq0 k Sx Sm _ _ hk hP) kk
  by_cases h1 : v = 1
  · refine og_tswIn (v := 1) 293 hL.1 dL_law_33 h1 (by decide) (by decide) rfl (by decide) ?_
    exact lawc_1 hL hcs (nI (7 * k)) hb (hq1 k Sx Sm _ _ hk hP) kk
  by_cases h2 : v = 2
  · refine og_tswIn (v := 2) 326 hL.1 dL_law_33 h2 (by decide) (by decide) rfl (by decide) ?_
    exact lawc_2 hL hcs (nI (7 * k)) hb (hq2 k Sx Sm _ _ hk hP) kk
  by_cases h3 : v = 3
  · refine og_tswIn (v := 3) 359 hL.1 dL_law_33 h3 (by decide) (by decide) rfl (by decide) ?_
    exact lawc_3 hL hcs (nI (7 * k)) hb (hq3 k Sx Sm _ _ _ _ _ hk hP) kk
  by_cases h4 : v = 4
  · refine og_tswIn (v := 4) 422 hL.1 dL_law_33 h4 (by decide) (by decide) rfl (by decide) ?_
    exact lawc_4 hL hcs (nI (7 * k)) hb (hq4 k Sx Sm _ hk hP) kk
  by_cases h5 : v = 5
  · refine og_tswIn (v := 5) 445 hL.1 dL_law_33 h5 (by decide) (by decide) rfl (by decide) ?_
    exact lawc_5 hL hcs (nI (7 * k)) hb (hq5 k Sx Sm _ _ _ _ _ _ hk hP) kk
  by_cases h6 : v = 6
  · refine og_tswIn (v := 6) 520 hL.1 dL_law_33 h6 (by decide) (by decide) rfl (by decide) ?_
    exact lawc_6 hL hcs (nI (7 * k)) hb (hq6 k Sx Sm _ _ hk hP) kk
  by_cases h7 : v = 7
  · refine og_tswIn (v := 7) 553 hL.1 dL_law_33 h7 (by decide) (by decide) rfl (by decide) ?_
    exact lawc_7 hL hcs (nI (7 * k)) hb (hq7 k Sx Sm _ _ _ hk hP) kk
  by_cases h8 : v = 8
  · refine og_tswIn (v := 8) 596 hL.1 dL_law_33 h8 (by decide) (by decide) rfl (by decide) ?_
    exact lawc_8 hL hcs (nI (7 * k)) hb (hq8 k Sx Sm _ _ hk (bz01 _) hP) kk
  by_cases h9 : v = 9
  · refine og_tswIn (v := 9) 645 hL.1 dL_law_33 h9 (by decide) (by decide) rfl (by decide) ?_
    exact lawc_9 hL hcs (nI (7 * k)) hb (hq9 k Sx Sm _ _ hk hP) kk
  by_cases h10 : v = 10
  · refine og_tswIn (v := 10) 678 hL.1 dL_law_33 h10 (by decide) (by decide) rfl (by decide) ?_
    exact lawc_10 hL hcs (nI (7 * k)) hb (hq10 k Sx Sm _ hk hP) kk
  by_cases h11 : v = 11
  · refine og_tswIn (v := 11) 701 hL.1 dL_law_33 h11 (by decide) (by decide) rfl (by decide) ?_
    exact lawc_11 hL hcs (nI (7 * k)) hb (hq11 k Sx Sm _ hk hP) kk
  by_cases h12 : v = 12
  · refine og_tswIn (v := 12) 725 hL.1 dL_law_33 h12 (by decide) (by decide) rfl (by decide) ?_
    exact lawc_12 hL hcs (nI (7 * k)) hb (hq12 k Sx Sm _ hk hP) kk
  by_cases h13 : v = 13
  · refine og_tswIn (v := 13) 748 hL.1 dL_law_33 h13 (by decide) (by decide) rfl (by decide) ?_
    exact lawc_13 hL hcs (nI (7 * k)) hb (hq13 k Sx Sm _ hk hP) kk
  by_cases h14 : v = 14
  · refine og_tswIn (v := 14) 771 hL.1 dL_law_33 h14 (by decide) (by decide) rfl (by decide) ?_
    exact lawc_14 hL hcs (nI (7 * k)) hb (hq14 k Sx Sm _ hk hP) kk
  by_cases h15 : v = 15
  · refine og_tswIn (v := 15) 794 hL.1 dL_law_33 h15 (by decide) (by decide) rfl (by decide) ?_
    exact lawc_15 hL hcs (nI (7 * k)) hb (hq15 k Sx Sm _ _ hk hP) kk
  by_cases h16 : v = 16
  · refine og_tswIn (v := 16) 827 hL.1 dL_law_33 h16 (by decide) (by decide) rfl (by decide) ?_
    exact lawc_16 hL hcs (nI (7 * k)) hb (hq16 k Sx Sm _ _ hk hP) kk
  by_cases h17 : v = 17
  · refine og_tswIn (v := 17) 860 hL.1 dL_law_33 h17 (by decide) (by decide) rfl (by decide) ?_
    exact lawc_17 hL hcs (nI (7 * k)) hb (hq17 k Sx Sm _ _ hk hP) kk
  by_cases h18 : v = 18
  · refine og_tswIn (v := 18) 893 hL.1 dL_law_33 h18 (by decide) (by decide) rfl (by decide) ?_
    exact lawc_18 hL hcs (nI (7 * k)) hb (hq18 k Sx Sm _ hk hP) kk
  by_cases h19 : v = 19
  · refine og_tswIn (v := 19) 916 hL.1 dL_law_33 h19 (by decide) (by decide) rfl (by decide) ?_
    exact lawc_19 hL hcs (nI (7 * k)) hb (hq19 k Sx Sm _ _ _ hk hP) kk
  by_cases h20 : v = 20
  · refine og_tswIn (v := 20) 959 hL.1 dL_law_33 h20 (by decide) (by decide) rfl (by decide) ?_
    exact lawc_20 hL hcs (nI (7 * k)) hb (hq20 k Sx Sm _ _ _ _ _ hk hP) kk
  by_cases h21 : v = 21
  · refine og_tswIn (v := 21) 1022 hL.1 dL_law_33 h21 (by decide) (by decide) rfl (by decide) ?_
    exact lawc_21 hL hcs (nI (7 * k)) hb (hq21 k Sx Sm _ _ _ _ hk hP) kk
  by_cases h22 : v = 22
  · refine og_tswIn (v := 22) 1075 hL.1 dL_law_33 h22 (by decide) (by decide) rfl (by decide) ?_
    exact lawc_22 hL hcs (nI (7 * k)) hb (hq22 k Sx Sm _ _ _ hk hP) kk
  by_cases h23 : v = 23
  · refine og_tswIn (v := 23) 1118 hL.1 dL_law_33 h23 (by decide) (by decide) rfl (by decide) ?_
    exact lawc_23 hL hcs (nI (7 * k)) hb (hq23 k Sx Sm _ _ _ hk hP) kk
  by_cases h24 : v = 24
  · refine og_tswIn (v := 24) 1161 hL.1 dL_law_33 h24 (by decide) (by decide) rfl (by decide) ?_
    exact lawc_24 hL hcs (nI (7 * k)) hb (hq24 k Sx Sm _ _ hk hP) kk
  by_cases h25 : v = 25
  · refine og_tswIn (v := 25) 1194 hL.1 dL_law_33 h25 (by decide) (by decide) rfl (by decide) ?_
    exact lawc_25 hL hcs (nI (7 * k)) hb (hq25 k Sx Sm _ hk hP) kk
  by_cases h26 : v = 26
  · refine og_tswIn (v := 26) 1217 hL.1 dL_law_33 h26 (by decide) (by decide) rfl (by decide) ?_
    exact lawc_26 hL hcs (nI (7 * k)) hb (hq26 k Sx Sm _ _ _ hk hP) kk
  by_cases h27 : v = 27
  · refine og_tswIn (v := 27) 1260 hL.1 dL_law_33 h27 (by decide) (by decide) rfl (by decide) ?_
    exact lawc_27 hL hcs (nI (7 * k)) hb (hq27 k Sx Sm  hk hP) kk
  by_cases h28 : v = 28
  · refine og_tswIn (v := 28) 1273 hL.1 dL_law_33 h28 (by decide) (by decide) rfl (by decide) ?_
    exact lawc_28 hL hcs (nI (7 * k)) hb (hq28 k Sx Sm  hk hP) kk
  by_cases h29 : v = 29
  · refine og_tswIn (v := 29) 1286 hL.1 dL_law_33 h29 (by decide) (by decide) rfl (by decide) ?_
    exact lawc_29 hL hcs (nI (7 * k)) hb (hq29 k Sx Sm _ hk hP) kk
  by_cases h30 : v = 30
  · refine og_tswIn (v := 30) 1309 hL.1 dL_law_33 h30 (by decide) (by decide) rfl (by decide) ?_
    exact lawc_30 hL hcs (nI (7 * k)) hb (hq30 k Sx Sm _ hk hP) kk
  by_cases h31 : v = 31
  · refine og_tswIn (v := 31) 1332 hL.1 dL_law_33 h31 (by decide) (by decide) rfl (by decide) ?_
    exact lawc_31 hL hcs (nI (7 * k)) hb (hq31 k Sx Sm  hk hP) kk
  by_cases h32 : v = 32
  · refine og_tswIn (v := 32) 1345 hL.1 dL_law_33 h32 (by decide) (by decide) rfl (by decide) ?_
    exact lawc_32 hL hcs (nI (7 * k)) hb (hq32 k Sx Sm  hk hP) kk
  by_cases h33 : v = 33
  · refine og_tswIn (v := 33) 1358 hL.1 dL_law_33 h33 (by decide) (by decide) rfl (by decide) ?_
    exact lawc_33 hL hcs (nI (7 * k)) hb (hq33 k Sx Sm _ _ _ hk hP) kk
  by_cases h34 : v = 34
  · refine og_tswIn (v := 34) 1401 hL.1 dL_law_33 h34 (by decide) (by decide) rfl (by decide) ?_
    exact lawc_34 hL hcs (nI (7 * k)) hb (hq34 k Sx Sm _ _ _ hk hP) kk
  by_cases h35 : v = 35
  · refine og_tswIn (v := 35) 1444 hL.1 dL_law_33 h35 (by decide) (by decide) rfl (by decide) ?_
    exact lawc_35 hL hcs (nI (7 * k)) hb (hq35 k Sx Sm _ hk hP) kk
  by_cases h36 : v = 36
  · refine og_tswIn (v := 36) 1467 hL.1 dL_law_33 h36 (by decide) (by decide) rfl (by decide) ?_
    exact lawc_36 hL hcs (nI (7 * k)) hb (hq36 k Sx Sm _ _ hk hP) kk
  by_cases h37 : v = 37
  · refine og_tswIn (v := 37) 1500 hL.1 dL_law_33 h37 (by decide) (by decide) rfl (by decide) ?_
    exact lawc_37 hL hcs (nI (7 * k)) hb (hq37 k Sx Sm _ hk hP) kk
  by_cases h38 : v = 38
  · refine og_tswIn (v := 38) 1523 hL.1 dL_law_33 h38 (by decide) (by decide) rfl (by decide) ?_
    exact lawc_38 hL hcs (nI (7 * k)) hb (hq38 k Sx Sm _ _ hk hP) kk
  by_cases h39 : v = 39
  · refine og_tswIn (v := 39) 1556 hL.1 dL_law_33 h39 (by decide) (by decide) rfl (by decide) ?_
    exact lawc_39 hL hcs (nI (7 * k)) hb (hq39 k Sx Sm _ _ _ hk hP) kk
  by_cases h40 : v = 40
  · refine og_tswIn (v := 40) 1599 hL.1 dL_law_33 h40 (by decide) (by decide) rfl (by decide) ?_
    exact lawc_40 hL hcs (nI (7 * k)) hb (hq40 k Sx Sm _ _ _ hk hP) kk
  by_cases h41 : v = 41
  · refine og_tswIn (v := 41) 1642 hL.1 dL_law_33 h41 (by decide) (by decide) rfl (by decide) ?_
    exact lawc_41 hL hcs (nI (7 * k)) hb (hq41 k Sx Sm _ _ _ _ _ _ hk hP) kk
  by_cases h42 : v = 42
  · refine og_tswIn (v := 42) 1717 hL.1 dL_law_33 h42 (by decide) (by decide) rfl (by decide) ?_
    exact lawc_42 hL hcs (nI (7 * k)) hb (hq42 k Sx Sm _ _ hk hP) kk
  by_cases h43 : v = 43
  · refine og_tswIn (v := 43) 1750 hL.1 dL_law_33 h43 (by decide) (by decide) rfl (by decide) ?_
    exact lawc_43 hL hcs (nI (7 * k)) hb (hq43 k Sx Sm _ hk hP) kk
  by_cases h44 : v = 44
  · refine og_tswIn (v := 44) 1773 hL.1 dL_law_33 h44 (by decide) (by decide) rfl (by decide) ?_
    exact lawc_44 hL hcs (nI (7 * k)) hb (hq44 k Sx Sm _ _ hk hP) kk
  by_cases h45 : v = 45
  · refine og_tswIn (v := 45) 1806 hL.1 dL_law_33 h45 (by decide) (by decide) rfl (by decide) ?_
    exact lawc_45 hL hcs (nI (7 * k)) hb (hq45 k Sx Sm _ _ _ hk hP) kk
  by_cases h46 : v = 46
  · refine og_tswIn (v := 46) 1849 hL.1 dL_law_33 h46 (by decide) (by decide) rfl (by decide) ?_
    exact lawc_46 hL hcs (nI (7 * k)) hb (hq46 k Sx Sm _ hk hP) kk
  by_cases h47 : v = 47
  · refine og_tswIn (v := 47) 1872 hL.1 dL_law_33 h47 (by decide) (by decide) rfl (by decide) ?_
    exact lawc_47 hL hcs (nI (7 * k)) hb (hq47 k Sx Sm _ _ _ _ hk hP) kk
  by_cases h48 : v = 48
  · refine og_tswIn (v := 48) 1955 hL.1 dL_law_33 h48 (by decide) (by decide) rfl (by decide) ?_
    exact lawc_48 hL hcs (nI (7 * k)) hb (hq48 k Sx Sm _ _ _ hk hP) kk
  by_cases h49 : v = 49
  · refine og_tswIn (v := 49) 1999 hL.1 dL_law_33 h49 (by decide) (by decide) rfl (by decide) ?_
    exact lawc_49 hL hcs (nI (7 * k)) hb (hq49 k Sx Sm _ _ _ _ _ hk hP) kk
  by_cases h50 : v = 50
  · refine og_tswIn (v := 50) 2062 hL.1 dL_law_33 h50 (by decide) (by decide) rfl (by decide) ?_
    exact lawc_50 hL hcs (nI (7 * k)) hb (hq50 k Sx Sm _ _ hk hP) kk
  by_cases h51 : v = 51
  · refine og_tswIn (v := 51) 2095 hL.1 dL_law_33 h51 (by decide) (by decide) rfl (by decide) ?_
    exact lawc_51 hL hcs (nI (7 * k)) hb (hq51 k Sx Sm _ hk hP) kk
  by_cases h52 : v = 52
  · refine og_tswIn (v := 52) 2118 hL.1 dL_law_33 h52 (by decide) (by decide) rfl (by decide) ?_
    exact lawc_52 hL hcs (nI (7 * k)) hb (hq52 k Sx Sm  hk hP) kk
  refine og_tswOut 2132 hL.1 dL_law_33 (by have i0 := ne_i (k := 0) h0 (by decide); have i1 := ne_i (k := 1) h1 (by decide); have i2 := ne_i (k := 2) h2 (by decide); have i3 := ne_i (k := 3) h3 (by decide); have i4 := ne_i (k := 4) h4 (by decide); have i5 := ne_i (k := 5) h5 (by decide); have i6 := ne_i (k := 6) h6 (by decide); have i7 := ne_i (k := 7) h7 (by decide); have i8 := ne_i (k := 8) h8 (by decide); have i9 := ne_i (k := 9) h9 (by decide); have i10 := ne_i (k := 10) h10 (by decide); have i11 := ne_i (k := 11) h11 (by decide); have i12 := ne_i (k := 12) h12 (by decide); have i13 := ne_i (k := 13) h13 (by decide); have i14 := ne_i (k := 14) h14 (by decide); have i15 := ne_i (k := 15) h15 (by decide); have i16 := ne_i (k := 16) h16 (by decide); have i17 := ne_i (k := 17) h17 (by decide); have i18 := ne_i (k := 18) h18 (by decide); have i19 := ne_i (k := 19) h19 (by decide); have i20 := ne_i (k := 20) h20 (by decide); have i21 := ne_i (k := 21) h21 (by decide); have i22 := ne_i (k := 22) h22 (by decide); have i23 := ne_i (k := 23) h23 (by decide); have i24 := ne_i (k := 24) h24 (by decide); have i25 := ne_i (k := 25) h25 (by decide); have i26 := ne_i (k := 26) h26 (by decide); have i27 := ne_i (k := 27) h27 (by decide); have i28 := ne_i (k := 28) h28 (by decide); have i29 := ne_i (k := 29) h29 (by decide); have i30 := ne_i (k := 30) h30 (by decide); have i31 := ne_i (k := 31) h31 (by decide); have i32 := ne_i (k := 32) h32 (by decide); have i33 := ne_i (k := 33) h33 (by decide); have i34 := ne_i (k := 34) h34 (by decide); have i35 := ne_i (k := 35) h35 (by decide); have i36 := ne_i (k := 36) h36 (by decide); have i37 := ne_i (k := 37) h37 (by decide); have i38 := ne_i (k := 38) h38 (by decide); have i39 := ne_i (k := 39) h39 (by decide); have i40 := ne_i (k := 40) h40 (by decide); have i41 := ne_i (k := 41) h41 (by decide); have i42 := ne_i (k := 42) h42 (by decide); have i43 := ne_i (k := 43) h43 (by decide); have i44 := ne_i (k := 44) h44 (by decide); have i45 := ne_i (k := 45) h45 (by decide); have i46 := ne_i (k := 46) h46 (by decide); have i47 := ne_i (k := 47) h47 (by decide); have i48 := ne_i (k := 48) h48 (by decide); have i49 := ne_i (k := 49) h49 (by decide); have i50 := ne_i (k := 50) h50 (by decide); have i51 := ne_i (k := 51) h51 (by decide); have i52 := ne_i (k := 52) h52 (by decide); omega) (by decide) ?_
  exact kk Sx Sm (hP0 k Sx Sm hP)
set_option maxRecDepth 100000 in
set_option maxHeartbeats 8000000 in
theorem law_loop {X : Mx} {D : va_G} {ids : Nat → ClassId} {n0 b L aL aG : Nat} {xs : Nat → Int32} {Q : State → Prop} {cs sl : Nat} {P : Nat → St → St → Prop} (hL : LawC X D ids n0 b L xs aL aG) (hcs : cs ≤ 600000 ∧ sl ≤ 7302250) (hL3 : L ≤ 3584) (hend : ∀ (Sx Sm : St) (pc : Nat) (lv : List (Nat × Value)), decode cL_law pc = .ok (.ireturn, 1) → Og X 4 Q (PsL X.2.2.2.2.1 D ids n0 Sx Sm) cs sl pc lv [.int 1]) (hP0 : ∀ n Sx Sm, P n Sx Sm → P (n + 1) Sx Sm)
    (hq0 : ∀ (n : Nat) (Sx Sm : St) (a1 : Int32) (a2 : Int32), n < 512 → P n Sx Sm → ∃ (v : Int32) (Sx' Sm' : St), fX11_land a1 a2 Sx = some (v, Sx') ∧ fX12_land a1 a2 Sm = some (v, Sm') ∧ P (n + 1) Sx' Sm')
    (hq1 : ∀ (n : Nat) (Sx Sm : St) (a1 : Int32) (a2 : Int32), n < 512 → P n Sx Sm → ∃ (v : Int32) (Sx' Sm' : St), fX11_ground a1 a2 Sx = some (v, Sx') ∧ fX12_ground a1 a2 Sm = some (v, Sm') ∧ P (n + 1) Sx' Sm')
    (hq2 : ∀ (n : Nat) (Sx Sm : St) (a1 : Int32) (a2 : Int32), n < 512 → P n Sx Sm → ∃ (v : Int32) (Sx' Sm' : St), fX11_set a1 a2 Sx = some (v, Sx') ∧ fX12_set a1 a2 Sm = some (v, Sm') ∧ P (n + 1) Sx' Sm')
    (hq3 : ∀ (n : Nat) (Sx Sm : St) (a1 : Int32) (a2 : Int32) (a3 : Int32) (a4 : Int32) (a5 : Int32), n < 512 → P n Sx Sm → ∃ (v : Int32) (Sx' Sm' : St), fX11_loss a1 a2 a3 a4 a5 Sx = some (v, Sx') ∧ fX12_loss a1 a2 a3 a4 a5 Sm = some (v, Sm') ∧ P (n + 1) Sx' Sm')
    (hq4 : ∀ (n : Nat) (Sx Sm : St) (a1 : Int32), n < 512 → P n Sx Sm → ∃ (v : Int32) (Sx' Sm' : St), fX11_pass a1 Sx = some (v, Sx') ∧ fX12_pass a1 Sm = some (v, Sm') ∧ P (n + 1) Sx' Sm')
    (hq5 : ∀ (n : Nat) (Sx Sm : St) (a1 : Int32) (a2 : Int32) (a3 : Int32) (a4 : Int32) (a5 : Int32) (a6 : Int32), n < 512 → P n Sx Sm → ∃ (v : Int32) (Sx' Sm' : St), fX11_sender a1 a2 a3 a4 a5 a6 Sx = some (v, Sx') ∧ fX12_sender a1 a2 a3 a4 a5 a6 Sm = some (v, Sm') ∧ P (n + 1) Sx' Sm')
    (hq6 : ∀ (n : Nat) (Sx Sm : St) (a1 : Int32) (a2 : Int32), n < 512 → P n Sx Sm → ∃ (v : Int32) (Sx' Sm' : St), fX11_about a1 a2 Sx = some (v, Sx') ∧ fX12_about a1 a2 Sm = some (v, Sm') ∧ P (n + 1) Sx' Sm')
    (hq7 : ∀ (n : Nat) (Sx Sm : St) (a1 : Int32) (a2 : Int32) (a3 : Int32), n < 512 → P n Sx Sm → ∃ (v : Int32) (Sx' Sm' : St), fX11_change a1 a2 a3 Sx = some (v, Sx') ∧ fX12_change a1 a2 a3 Sm = some (v, Sm') ∧ P (n + 1) Sx' Sm')
    (hq8 : ∀ (n : Nat) (Sx Sm : St) (a1 : Int32) (a2 : Int32), n < 512 → (a2 = 0 ∨ a2 = 1) → P n Sx Sm → ∃ (v : Int32) (Sx' Sm' : St), fX11_on a1 a2 Sx = some (v, Sx') ∧ fX12_on a1 a2 Sm = some (v, Sm') ∧ P (n + 1) Sx' Sm')
    (hq9 : ∀ (n : Nat) (Sx Sm : St) (a1 : Int32) (a2 : Int32), n < 512 → P n Sx Sm → ∃ (v : Int32) (Sx' Sm' : St), fX11_got a1 a2 Sx = some (v, Sx') ∧ fX12_got a1 a2 Sm = some (v, Sm') ∧ P (n + 1) Sx' Sm')
    (hq10 : ∀ (n : Nat) (Sx Sm : St) (a1 : Int32), n < 512 → P n Sx Sm → ∃ (v : Int32) (Sx' Sm' : St), fX11_heard a1 Sx = some (v, Sx') ∧ fX12_heard a1 Sm = some (v, Sm') ∧ P (n + 1) Sx' Sm')
    (hq11 : ∀ (n : Nat) (Sx Sm : St) (a1 : Int32), n < 512 → P n Sx Sm → ∃ (v : Int64) (Sx' Sm' : St), fX11_drowns a1 Sx = some (v, Sx') ∧ fX12_drowns a1 Sm = some (v, Sm') ∧ P (n + 1) Sx' Sm')
    (hq12 : ∀ (n : Nat) (Sx Sm : St) (a1 : Int32), n < 512 → P n Sx Sm → ∃ (v : Int32) (Sx' Sm' : St), fX11_cause a1 Sx = some (v, Sx') ∧ fX12_cause a1 Sm = some (v, Sm') ∧ P (n + 1) Sx' Sm')
    (hq13 : ∀ (n : Nat) (Sx Sm : St) (a1 : Int32), n < 512 → P n Sx Sm → ∃ (v : Int32) (Sx' Sm' : St), fX11_share a1 Sx = some (v, Sx') ∧ fX12_share a1 Sm = some (v, Sm') ∧ P (n + 1) Sx' Sm')
    (hq14 : ∀ (n : Nat) (Sx Sm : St) (a1 : Int32), n < 512 → P n Sx Sm → ∃ (v : Int32) (Sx' Sm' : St), fX11_fewest a1 Sx = some (v, Sx') ∧ fX12_fewest a1 Sm = some (v, Sm') ∧ P (n + 1) Sx' Sm')
    (hq15 : ∀ (n : Nat) (Sx Sm : St) (a1 : Int32) (a2 : Int32), n < 512 → P n Sx Sm → ∃ (v : Int32) (Sx' Sm' : St), fX11_part a1 a2 Sx = some (v, Sx') ∧ fX12_part a1 a2 Sm = some (v, Sm') ∧ P (n + 1) Sx' Sm')
    (hq16 : ∀ (n : Nat) (Sx Sm : St) (a1 : Int32) (a2 : Int32), n < 512 → P n Sx Sm → ∃ (v : Int32) (Sx' Sm' : St), fX11_best a1 a2 Sx = some (v, Sx') ∧ fX12_best a1 a2 Sm = some (v, Sm') ∧ P (n + 1) Sx' Sm')
    (hq17 : ∀ (n : Nat) (Sx Sm : St) (a1 : Int32) (a2 : Int32), n < 512 → P n Sx Sm → ∃ (v : Int32) (Sx' Sm' : St), fX11_proof a1 a2 Sx = some (v, Sx') ∧ fX12_proof a1 a2 Sm = some (v, Sm') ∧ P (n + 1) Sx' Sm')
    (hq18 : ∀ (n : Nat) (Sx Sm : St) (a1 : Int32), n < 512 → P n Sx Sm → ∃ (v : Int32) (Sx' Sm' : St), fX11_assign a1 Sx = some (v, Sx') ∧ fX12_assign a1 Sm = some (v, Sm') ∧ P (n + 1) Sx' Sm')
    (hq19 : ∀ (n : Nat) (Sx Sm : St) (a1 : Int32) (a2 : Int32) (a3 : Int32), n < 512 → P n Sx Sm → ∃ (v : Int32) (Sx' Sm' : St), fX11_odds a1 a2 a3 Sx = some (v, Sx') ∧ fX12_odds a1 a2 a3 Sm = some (v, Sm') ∧ P (n + 1) Sx' Sm')
    (hq20 : ∀ (n : Nat) (Sx Sm : St) (a1 : Int32) (a2 : Int32) (a3 : Int32) (a4 : Int32) (a5 : Int32), n < 512 → P n Sx Sm → ∃ (v : Int32) (Sx' Sm' : St), fX11_flow a1 a2 a3 a4 a5 Sx = some (v, Sx') ∧ fX12_flow a1 a2 a3 a4 a5 Sm = some (v, Sm') ∧ P (n + 1) Sx' Sm')
    (hq21 : ∀ (n : Nat) (Sx Sm : St) (a1 : Int32) (a2 : Int32) (a3 : Int32) (a4 : Int32), n < 512 → P n Sx Sm → ∃ (v : Int32) (Sx' Sm' : St), fX11_hops a1 a2 a3 a4 Sx = some (v, Sx') ∧ fX12_hops a1 a2 a3 a4 Sm = some (v, Sm') ∧ P (n + 1) Sx' Sm')
    (hq22 : ∀ (n : Nat) (Sx Sm : St) (a1 : Int32) (a2 : Int32) (a3 : Int32), n < 512 → P n Sx Sm → ∃ (v : Int32) (Sx' Sm' : St), fX11_most a1 a2 a3 Sx = some (v, Sx') ∧ fX12_most a1 a2 a3 Sm = some (v, Sm') ∧ P (n + 1) Sx' Sm')
    (hq23 : ∀ (n : Nat) (Sx Sm : St) (a1 : Int32) (a2 : Int32) (a3 : Int32), n < 512 → P n Sx Sm → ∃ (v : Int32) (Sx' Sm' : St), fX11_listen a1 a2 a3 Sx = some (v, Sx') ∧ fX12_listen a1 a2 a3 Sm = some (v, Sm') ∧ P (n + 1) Sx' Sm')
    (hq24 : ∀ (n : Nat) (Sx Sm : St) (a1 : Int32) (a2 : Int32), n < 512 → P n Sx Sm → ∃ (v : Int32) (Sx' Sm' : St), fX11_spoke a1 a2 Sx = some (v, Sx') ∧ fX12_spoke a1 a2 Sm = some (v, Sm') ∧ P (n + 1) Sx' Sm')
    (hq25 : ∀ (n : Nat) (Sx Sm : St) (a1 : Int32), n < 512 → P n Sx Sm → ∃ (v : Int32) (Sx' Sm' : St), fX11_hidden a1 Sx = some (v, Sx') ∧ fX12_hidden a1 Sm = some (v, Sm') ∧ P (n + 1) Sx' Sm')
    (hq26 : ∀ (n : Nat) (Sx Sm : St) (a1 : Int32) (a2 : Int32) (a3 : Int32), n < 512 → P n Sx Sm → ∃ (v : Int32) (Sx' Sm' : St), fX11_bid a1 a2 a3 Sx = some (v, Sx') ∧ fX12_bid a1 a2 a3 Sm = some (v, Sm') ∧ P (n + 1) Sx' Sm')
    (hq27 : ∀ (n : Nat) (Sx Sm : St), n < 512 → P n Sx Sm → ∃ (v : Int32) (Sx' Sm' : St), fX11_call Sx = some (v, Sx') ∧ fX12_call Sm = some (v, Sm') ∧ P (n + 1) Sx' Sm')
    (hq28 : ∀ (n : Nat) (Sx Sm : St), n < 512 → P n Sx Sm → ∃ (v : Int32) (Sx' Sm' : St), fX11_won Sx = some (v, Sx') ∧ fX12_won Sm = some (v, Sm') ∧ P (n + 1) Sx' Sm')
    (hq29 : ∀ (n : Nat) (Sx Sm : St) (a1 : Int32), n < 512 → P n Sx Sm → ∃ (v : Int32) (Sx' Sm' : St), fX11_pays a1 Sx = some (v, Sx') ∧ fX12_pays a1 Sm = some (v, Sm') ∧ P (n + 1) Sx' Sm')
    (hq30 : ∀ (n : Nat) (Sx Sm : St) (a1 : Int32), n < 512 → P n Sx Sm → ∃ (v : Int32) (Sx' Sm' : St), fX11_type a1 Sx = some (v, Sx') ∧ fX12_type a1 Sm = some (v, Sm') ∧ P (n + 1) Sx' Sm')
    (hq31 : ∀ (n : Nat) (Sx Sm : St), n < 512 → P n Sx Sm → ∃ (v : Int32) (Sx' Sm' : St), fX11_wipe Sx = some (v, Sx') ∧ fX12_wipe Sm = some (v, Sm') ∧ P (n + 1) Sx' Sm')
    (hq32 : ∀ (n : Nat) (Sx Sm : St), n < 512 → P n Sx Sm → ∃ (v : Int32) (Sx' Sm' : St), fX11_fault Sx = some (v, Sx') ∧ fX12_fault Sm = some (v, Sm') ∧ P (n + 1) Sx' Sm')
    (hq33 : ∀ (n : Nat) (Sx Sm : St) (a1 : Int32) (a2 : Int32) (a3 : Int32), n < 512 → P n Sx Sm → ∃ (v : Int32) (Sx' Sm' : St), fX11_may a1 a2 a3 Sx = some (v, Sx') ∧ fX12_may a1 a2 a3 Sm = some (v, Sm') ∧ P (n + 1) Sx' Sm')
    (hq34 : ∀ (n : Nat) (Sx Sm : St) (a1 : Int32) (a2 : Int32) (a3 : Int32), n < 512 → P n Sx Sm → ∃ (v : Int32) (Sx' Sm' : St), fX11_rule a1 a2 a3 Sx = some (v, Sx') ∧ fX12_rule a1 a2 a3 Sm = some (v, Sm') ∧ P (n + 1) Sx' Sm')
    (hq35 : ∀ (n : Nat) (Sx Sm : St) (a1 : Int32), n < 512 → P n Sx Sm → ∃ (v : Int32) (Sx' Sm' : St), fX11_box a1 Sx = some (v, Sx') ∧ fX12_box a1 Sm = some (v, Sm') ∧ P (n + 1) Sx' Sm')
    (hq36 : ∀ (n : Nat) (Sx Sm : St) (a1 : Int32) (a2 : Int32), n < 512 → P n Sx Sm → ∃ (v : Int32) (Sx' Sm' : St), fX11_log a1 a2 Sx = some (v, Sx') ∧ fX12_log a1 a2 Sm = some (v, Sm') ∧ P (n + 1) Sx' Sm')
    (hq37 : ∀ (n : Nat) (Sx Sm : St) (a1 : Int32), n < 512 → P n Sx Sm → ∃ (v : Int32) (Sx' Sm' : St), fX11_hear a1 Sx = some (v, Sx') ∧ fX12_hear a1 Sm = some (v, Sm') ∧ P (n + 1) Sx' Sm')
    (hq38 : ∀ (n : Nat) (Sx Sm : St) (a1 : Int32) (a2 : Int32), n < 512 → P n Sx Sm → ∃ (v : Int32) (Sx' Sm' : St), fX11_cells a1 a2 Sx = some (v, Sx') ∧ fX12_cells a1 a2 Sm = some (v, Sm') ∧ P (n + 1) Sx' Sm')
    (hq39 : ∀ (n : Nat) (Sx Sm : St) (a1 : Int32) (a2 : Int32) (a3 : Int32), n < 512 → P n Sx Sm → ∃ (v : Int32) (Sx' Sm' : St), fX11_cell a1 a2 a3 Sx = some (v, Sx') ∧ fX12_cell a1 a2 a3 Sm = some (v, Sm') ∧ P (n + 1) Sx' Sm')
    (hq40 : ∀ (n : Nat) (Sx Sm : St) (a1 : Int32) (a2 : Int32) (a3 : Int32), n < 512 → P n Sx Sm → ∃ (v : Int32) (Sx' Sm' : St), fX11_cheats a1 a2 a3 Sx = some (v, Sx') ∧ fX12_cheats a1 a2 a3 Sm = some (v, Sm') ∧ P (n + 1) Sx' Sm')
    (hq41 : ∀ (n : Nat) (Sx Sm : St) (a1 : Int32) (a2 : Int32) (a3 : Int32) (a4 : Int32) (a5 : Int32) (a6 : Int32), n < 512 → P n Sx Sm → ∃ (v : Int32) (Sx' Sm' : St), fX11_site a1 a2 a3 a4 a5 a6 Sx = some (v, Sx') ∧ fX12_site a1 a2 a3 a4 a5 a6 Sm = some (v, Sm') ∧ P (n + 1) Sx' Sm')
    (hq42 : ∀ (n : Nat) (Sx Sm : St) (a1 : Int32) (a2 : Int32), n < 512 → P n Sx Sm → ∃ (v : Int32) (Sx' Sm' : St), fX11_ear a1 a2 Sx = some (v, Sx') ∧ fX12_ear a1 a2 Sm = some (v, Sm') ∧ P (n + 1) Sx' Sm')
    (hq43 : ∀ (n : Nat) (Sx Sm : St) (a1 : Int32), n < 512 → P n Sx Sm → ∃ (v : Int32) (Sx' Sm' : St), fX11_serves a1 Sx = some (v, Sx') ∧ fX12_serves a1 Sm = some (v, Sm') ∧ P (n + 1) Sx' Sm')
    (hq44 : ∀ (n : Nat) (Sx Sm : St) (a1 : Int32) (a2 : Int32), n < 512 → P n Sx Sm → ∃ (v : Int32) (Sx' Sm' : St), fX11_plan a1 a2 Sx = some (v, Sx') ∧ fX12_plan a1 a2 Sm = some (v, Sm') ∧ P (n + 1) Sx' Sm')
    (hq45 : ∀ (n : Nat) (Sx Sm : St) (a1 : Int32) (a2 : Int32) (a3 : Int32), n < 512 → P n Sx Sm → ∃ (v : Int32) (Sx' Sm' : St), fX11_sheet a1 a2 a3 Sx = some (v, Sx') ∧ fX12_sheet a1 a2 a3 Sm = some (v, Sm') ∧ P (n + 1) Sx' Sm')
    (hq46 : ∀ (n : Nat) (Sx Sm : St) (a1 : Int32), n < 512 → P n Sx Sm → ∃ (v : Int32) (Sx' Sm' : St), fX11_lose a1 Sx = some (v, Sx') ∧ fX12_lose a1 Sm = some (v, Sm') ∧ P (n + 1) Sx' Sm')
    (hq47 : ∀ (n : Nat) (Sx Sm : St) (a1 : Int32) (a2 : Int32) (a3 : Int32) (a4 : Int64), n < 512 → P n Sx Sm → ∃ (v : Int32) (Sx' Sm' : St), fX11_put a1 a2 a3 a4 Sx = some (v, Sx') ∧ fX12_put a1 a2 a3 a4 Sm = some (v, Sm') ∧ P (n + 1) Sx' Sm')
    (hq48 : ∀ (n : Nat) (Sx Sm : St) (a1 : Int32) (a2 : Int32) (a3 : Int32), n < 512 → P n Sx Sm → ∃ (v : Int64) (Sx' Sm' : St), fX11_get a1 a2 a3 Sx = some (v, Sx') ∧ fX12_get a1 a2 a3 Sm = some (v, Sm') ∧ P (n + 1) Sx' Sm')
    (hq49 : ∀ (n : Nat) (Sx Sm : St) (a1 : Int32) (a2 : Int32) (a3 : Int32) (a4 : Int32) (a5 : Int32), n < 512 → P n Sx Sm → ∃ (v : Int32) (Sx' Sm' : St), fX11_copy a1 a2 a3 a4 a5 Sx = some (v, Sx') ∧ fX12_copy a1 a2 a3 a4 a5 Sm = some (v, Sm') ∧ P (n + 1) Sx' Sm')
    (hq50 : ∀ (n : Nat) (Sx Sm : St) (a1 : Int32) (a2 : Int32), n < 512 → P n Sx Sm → ∃ (v : Int32) (Sx' Sm' : St), fX11_map a1 a2 Sx = some (v, Sx') ∧ fX12_map a1 a2 Sm = some (v, Sm') ∧ P (n + 1) Sx' Sm')
    (hq51 : ∀ (n : Nat) (Sx Sm : St) (a1 : Int32), n < 512 → P n Sx Sm → ∃ (v : Int32) (Sx' Sm' : St), fX11_count a1 Sx = some (v, Sx') ∧ fX12_count a1 Sm = some (v, Sm') ∧ P (n + 1) Sx' Sm')
    (hq52 : ∀ (n : Nat) (Sx Sm : St), n < 512 → P n Sx Sm → ∃ (v : Int64) (Sx' Sm' : St), fX11_digest Sx = some (v, Sx') ∧ fX12_digest Sm = some (v, Sm') ∧ P (n + 1) Sx' Sm')
    : ∀ (m k : Nat) (Sx Sm : St), 7 * k ≤ L + 6 → L + 7 < 7 * k + m → P k Sx Sm → Og X 4 Q (PsL X.2.2.2.2.1 D ids n0 Sx Sm) cs sl 18 [(0, .ref b), (1, .ref n0), (2, .ref (n0 + 79)), (3, .int (nI (7 * k)))] [] := by
  intro m
  induction m with
  | zero => intro k Sx Sm h1 h2; exact absurd h2 (by omega)
  | succ m ih =>
    intro k Sx Sm h1 h2 hP
    refine og_iload_n 3 hL.1 dL_law_18 rfl rfl ?_
    refine og_aload_n 0 hL.1 dL_law_19 rfl rfl ?_
    refine ol_slen hL dL_law_20 ?_
    refine og_bipush (v := 7) hL.1 dL_law_21 (by decide) ?_
    refine og_isub hL.1 dL_law_23 ?_
    have e1 : (nI L - 7).toInt = (L : Int) - 7 := pk_sub_toInt (a := L) (b := 7) (by omega) (by omega)
    have e2 : (nI (7 * k)).toInt = ((7 * k : Nat) : Int) := nI_toInt (by omega)
    refine og_icmp_gt 2138 hL.1 dL_law_24 (by decide) (fun hc => ?_) (fun hc => ?_)
    · refine og_iconst (v := 1) hL.1 dL_law_2138 (by decide) ?_
      exact hend Sx Sm _ _ dL_law_2139
    · have hkL : 7 * k + 7 ≤ L := by rw [Int32.lt_iff_toInt_lt, e1, e2] at hc; omega
      have hb := x3_ib hkL hL3
      have hb0 : ib (nI (7 * k)) L := nI_in (by omega) (by omega)
      refine og_aload_n 0 hL.1 dL_law_27 rfl rfl ?_
      refine og_iload_n 3 hL.1 dL_law_28 rfl rfl ?_
      refine ol_sld hL hb0 dL_law_29 ?_
      refine og_bipush (v := 63) hL.1 dL_law_30 (by decide) ?_
      refine og_iand hL.1 dL_law_32 ?_
      refine law_switch hL hcs hP0 hq0 hq1 hq2 hq3 hq4 hq5 hq6 hq7 hq8 hq9 hq10 hq11 hq12 hq13 hq14 hq15 hq16 hq17 hq18 hq19 hq20 hq21 hq22 hq23 hq24 hq25 hq26 hq27 hq28 hq29 hq30 hq31 hq32 hq33 hq34 hq35 hq36 hq37 hq38 hq39 hq40 hq41 hq42 hq43 hq44 hq45 hq46 hq47 hq48 hq49 hq50 hq51 hq52 k Sx Sm (by omega) hkL hL3 hP _ (fun Sx' Sm' hP' => ?_)
      refine og_iinc (v := nI (7 * (k + 1))) 3 [(3, .int (nI (7 * (k + 1)))), (0, .ref b), (1, .ref n0), (2, .ref (n0 + 79))] hL.1 dL_law_2132 rfl (by show nI (7 * k) + nI 7 = _; rw [nI_add]; rfl) (by decide) rfl ?_
      refine og_goto 18 hL.1 dL_law_2135 (by decide) ?_
      refine og_sub [1, 2, 3, 0] rfl ?_
      exact ih (k + 1) Sx' Sm' (by omega) (by omega) hP'
def Pairs (P : Nat → St → St → Prop) : Prop :=
  (∀ (n : Nat) (Sx Sm : St) (a1 : Int32) (a2 : Int32), n < 512 → P n Sx Sm → ∃ (v : Int32) (Sx' Sm' : St), fX11_land a1 a2 Sx = some (v, Sx') ∧ fX12_land a1 a2 Sm = some (v, Sm') ∧ P (n + 1) Sx' Sm') ∧
  (∀ (n : Nat) (Sx Sm : St) (a1 : Int32) (a2 : Int32), n < 512 → P n Sx Sm → ∃ (v : Int32) (Sx' Sm' : St), fX11_ground a1 a2 Sx = some (v, Sx') ∧ fX12_ground a1 a2 Sm = some (v, Sm') ∧ P (n + 1) Sx' Sm') ∧
  (∀ (n : Nat) (Sx Sm : St) (a1 : Int32) (a2 : Int32), n < 512 → P n Sx Sm → ∃ (v : Int32) (Sx' Sm' : St), fX11_set a1 a2 Sx = some (v, Sx') ∧ fX12_set a1 a2 Sm = some (v, Sm') ∧ P (n + 1) Sx' Sm') ∧
  (∀ (n : Nat) (Sx Sm : St) (a1 : Int32) (a2 : Int32) (a3 : Int32) (a4 : Int32) (a5 : Int32), n < 512 → P n Sx Sm → ∃ (v : Int32) (Sx' Sm' : St), fX11_loss a1 a2 a3 a4 a5 Sx = some (v, Sx') ∧ fX12_loss a1 a2 a3 a4 a5 Sm = some (v, Sm') ∧ P (n + 1) Sx' Sm') ∧
  (∀ (n : Nat) (Sx Sm : St) (a1 : Int32), n < 512 → P n Sx Sm → ∃ (v : Int32) (Sx' Sm' : St), fX11_pass a1 Sx = some (v, Sx') ∧ fX12_pass a1 Sm = some (v, Sm') ∧ P (n + 1) Sx' Sm') ∧
  (∀ (n : Nat) (Sx Sm : St) (a1 : Int32) (a2 : Int32) (a3 : Int32) (a4 : Int32) (a5 : Int32) (a6 : Int32), n < 512 → P n Sx Sm → ∃ (v : Int32) (Sx' Sm' : St), fX11_sender a1 a2 a3 a4 a5 a6 Sx = some (v, Sx') ∧ fX12_sender a1 a2 a3 a4 a5 a6 Sm = some (v, Sm') ∧ P (n + 1) Sx' Sm') ∧
  (∀ (n : Nat) (Sx Sm : St) (a1 : Int32) (a2 : Int32), n < 512 → P n Sx Sm → ∃ (v : Int32) (Sx' Sm' : St), fX11_about a1 a2 Sx = some (v, Sx') ∧ fX12_about a1 a2 Sm = some (v, Sm') ∧ P (n + 1) Sx' Sm') ∧
  (∀ (n : Nat) (Sx Sm : St) (a1 : Int32) (a2 : Int32) (a3 : Int32), n < 512 → P n Sx Sm → ∃ (v : Int32) (Sx' Sm' : St), fX11_change a1 a2 a3 Sx = some (v, Sx') ∧ fX12_change a1 a2 a3 Sm = some (v, Sm') ∧ P (n + 1) Sx' Sm') ∧
  (∀ (n : Nat) (Sx Sm : St) (a1 : Int32) (a2 : Int32), n < 512 → (a2 = 0 ∨ a2 = 1) → P n Sx Sm → ∃ (v : Int32) (Sx' Sm' : St), fX11_on a1 a2 Sx = some (v, Sx') ∧ fX12_on a1 a2 Sm = some (v, Sm') ∧ P (n + 1) Sx' Sm') ∧
  (∀ (n : Nat) (Sx Sm : St) (a1 : Int32) (a2 : Int32), n < 512 → P n Sx Sm → ∃ (v : Int32) (Sx' Sm' : St), fX11_got a1 a2 Sx = some (v, Sx') ∧ fX12_got a1 a2 Sm = some (v, Sm') ∧ P (n + 1) Sx' Sm') ∧
  (∀ (n : Nat) (Sx Sm : St) (a1 : Int32), n < 512 → P n Sx Sm → ∃ (v : Int32) (Sx' Sm' : St), fX11_heard a1 Sx = some (v, Sx') ∧ fX12_heard a1 Sm = some (v, Sm') ∧ P (n + 1) Sx' Sm') ∧
  (∀ (n : Nat) (Sx Sm : St) (a1 : Int32), n < 512 → P n Sx Sm → ∃ (v : Int64) (Sx' Sm' : St), fX11_drowns a1 Sx = some (v, Sx') ∧ fX12_drowns a1 Sm = some (v, Sm') ∧ P (n + 1) Sx' Sm') ∧
  (∀ (n : Nat) (Sx Sm : St) (a1 : Int32), n < 512 → P n Sx Sm → ∃ (v : Int32) (Sx' Sm' : St), fX11_cause a1 Sx = some (v, Sx') ∧ fX12_cause a1 Sm = some (v, Sm') ∧ P (n + 1) Sx' Sm') ∧
  (∀ (n : Nat) (Sx Sm : St) (a1 : Int32), n < 512 → P n Sx Sm → ∃ (v : Int32) (Sx' Sm' : St), fX11_share a1 Sx = some (v, Sx') ∧ fX12_share a1 Sm = some (v, Sm') ∧ P (n + 1) Sx' Sm') ∧
  (∀ (n : Nat) (Sx Sm : St) (a1 : Int32), n < 512 → P n Sx Sm → ∃ (v : Int32) (Sx' Sm' : St), fX11_fewest a1 Sx = some (v, Sx') ∧ fX12_fewest a1 Sm = some (v, Sm') ∧ P (n + 1) Sx' Sm') ∧
  (∀ (n : Nat) (Sx Sm : St) (a1 : Int32) (a2 : Int32), n < 512 → P n Sx Sm → ∃ (v : Int32) (Sx' Sm' : St), fX11_part a1 a2 Sx = some (v, Sx') ∧ fX12_part a1 a2 Sm = some (v, Sm') ∧ P (n + 1) Sx' Sm') ∧
  (∀ (n : Nat) (Sx Sm : St) (a1 : Int32) (a2 : Int32), n < 512 → P n Sx Sm → ∃ (v : Int32) (Sx' Sm' : St), fX11_best a1 a2 Sx = some (v, Sx') ∧ fX12_best a1 a2 Sm = some (v, Sm') ∧ P (n + 1) Sx' Sm') ∧
  (∀ (n : Nat) (Sx Sm : St) (a1 : Int32) (a2 : Int32), n < 512 → P n Sx Sm → ∃ (v : Int32) (Sx' Sm' : St), fX11_proof a1 a2 Sx = some (v, Sx') ∧ fX12_proof a1 a2 Sm = some (v, Sm') ∧ P (n + 1) Sx' Sm') ∧
  (∀ (n : Nat) (Sx Sm : St) (a1 : Int32), n < 512 → P n Sx Sm → ∃ (v : Int32) (Sx' Sm' : St), fX11_assign a1 Sx = some (v, Sx') ∧ fX12_assign a1 Sm = some (v, Sm') ∧ P (n + 1) Sx' Sm') ∧
  (∀ (n : Nat) (Sx Sm : St) (a1 : Int32) (a2 : Int32) (a3 : Int32), n < 512 → P n Sx Sm → ∃ (v : Int32) (Sx' Sm' : St), fX11_odds a1 a2 a3 Sx = some (v, Sx') ∧ fX12_odds a1 a2 a3 Sm = some (v, Sm') ∧ P (n + 1) Sx' Sm') ∧
  (∀ (n : Nat) (Sx Sm : St) (a1 : Int32) (a2 : Int32) (a3 : Int32) (a4 : Int32) (a5 : Int32), n < 512 → P n Sx Sm → ∃ (v : Int32) (Sx' Sm' : St), fX11_flow a1 a2 a3 a4 a5 Sx = some (v, Sx') ∧ fX12_flow a1 a2 a3 a4 a5 Sm = some (v, Sm') ∧ P (n + 1) Sx' Sm') ∧
  (∀ (n : Nat) (Sx Sm : St) (a1 : Int32) (a2 : Int32) (a3 : Int32) (a4 : Int32), n < 512 → P n Sx Sm → ∃ (v : Int32) (Sx' Sm' : St), fX11_hops a1 a2 a3 a4 Sx = some (v, Sx') ∧ fX12_hops a1 a2 a3 a4 Sm = some (v, Sm') ∧ P (n + 1) Sx' Sm') ∧
  (∀ (n : Nat) (Sx Sm : St) (a1 : Int32) (a2 : Int32) (a3 : Int32), n < 512 → P n Sx Sm → ∃ (v : Int32) (Sx' Sm' : St), fX11_most a1 a2 a3 Sx = some (v, Sx') ∧ fX12_most a1 a2 a3 Sm = some (v, Sm') ∧ P (n + 1) Sx' Sm') ∧
  (∀ (n : Nat) (Sx Sm : St) (a1 : Int32) (a2 : Int32) (a3 : Int32), n < 512 → P n Sx Sm → ∃ (v : Int32) (Sx' Sm' : St), fX11_listen a1 a2 a3 Sx = some (v, Sx') ∧ fX12_listen a1 a2 a3 Sm = some (v, Sm') ∧ P (n + 1) Sx' Sm') ∧
  (∀ (n : Nat) (Sx Sm : St) (a1 : Int32) (a2 : Int32), n < 512 → P n Sx Sm → ∃ (v : Int32) (Sx' Sm' : St), fX11_spoke a1 a2 Sx = some (v, Sx') ∧ fX12_spoke a1 a2 Sm = some (v, Sm') ∧ P (n + 1) Sx' Sm') ∧
  (∀ (n : Nat) (Sx Sm : St) (a1 : Int32), n < 512 → P n Sx Sm → ∃ (v : Int32) (Sx' Sm' : St), fX11_hidden a1 Sx = some (v, Sx') ∧ fX12_hidden a1 Sm = some (v, Sm') ∧ P (n + 1) Sx' Sm') ∧
  (∀ (n : Nat) (Sx Sm : St) (a1 : Int32) (a2 : Int32) (a3 : Int32), n < 512 → P n Sx Sm → ∃ (v : Int32) (Sx' Sm' : St), fX11_bid a1 a2 a3 Sx = some (v, Sx') ∧ fX12_bid a1 a2 a3 Sm = some (v, Sm') ∧ P (n + 1) Sx' Sm') ∧
  (∀ (n : Nat) (Sx Sm : St), n < 512 → P n Sx Sm → ∃ (v : Int32) (Sx' Sm' : St), fX11_call Sx = some (v, Sx') ∧ fX12_call Sm = some (v, Sm') ∧ P (n + 1) Sx' Sm') ∧
  (∀ (n : Nat) (Sx Sm : St), n < 512 → P n Sx Sm → ∃ (v : Int32) (Sx' Sm' : St), fX11_won Sx = some (v, Sx') ∧ fX12_won Sm = some (v, Sm') ∧ P (n + 1) Sx' Sm') ∧
  (∀ (n : Nat) (Sx Sm : St) (a1 : Int32), n < 512 → P n Sx Sm → ∃ (v : Int32) (Sx' Sm' : St), fX11_pays a1 Sx = some (v, Sx') ∧ fX12_pays a1 Sm = some (v, Sm') ∧ P (n + 1) Sx' Sm') ∧
  (∀ (n : Nat) (Sx Sm : St) (a1 : Int32), n < 512 → P n Sx Sm → ∃ (v : Int32) (Sx' Sm' : St), fX11_type a1 Sx = some (v, Sx') ∧ fX12_type a1 Sm = some (v, Sm') ∧ P (n + 1) Sx' Sm') ∧
  (∀ (n : Nat) (Sx Sm : St), n < 512 → P n Sx Sm → ∃ (v : Int32) (Sx' Sm' : St), fX11_wipe Sx = some (v, Sx') ∧ fX12_wipe Sm = some (v, Sm') ∧ P (n + 1) Sx' Sm') ∧
  (∀ (n : Nat) (Sx Sm : St), n < 512 → P n Sx Sm → ∃ (v : Int32) (Sx' Sm' : St), fX11_fault Sx = some (v, Sx') ∧ fX12_fault Sm = some (v, Sm') ∧ P (n + 1) Sx' Sm') ∧
  (∀ (n : Nat) (Sx Sm : St) (a1 : Int32) (a2 : Int32) (a3 : Int32), n < 512 → P n Sx Sm → ∃ (v : Int32) (Sx' Sm' : St), fX11_may a1 a2 a3 Sx = some (v, Sx') ∧ fX12_may a1 a2 a3 Sm = some (v, Sm') ∧ P (n + 1) Sx' Sm') ∧
  (∀ (n : Nat) (Sx Sm : St) (a1 : Int32) (a2 : Int32) (a3 : Int32), n < 512 → P n Sx Sm → ∃ (v : Int32) (Sx' Sm' : St), fX11_rule a1 a2 a3 Sx = some (v, Sx') ∧ fX12_rule a1 a2 a3 Sm = some (v, Sm') ∧ P (n + 1) Sx' Sm') ∧
  (∀ (n : Nat) (Sx Sm : St) (a1 : Int32), n < 512 → P n Sx Sm → ∃ (v : Int32) (Sx' Sm' : St), fX11_box a1 Sx = some (v, Sx') ∧ fX12_box a1 Sm = some (v, Sm') ∧ P (n + 1) Sx' Sm') ∧
  (∀ (n : Nat) (Sx Sm : St) (a1 : Int32) (a2 : Int32), n < 512 → P n Sx Sm → ∃ (v : Int32) (Sx' Sm' : St), fX11_log a1 a2 Sx = some (v, Sx') ∧ fX12_log a1 a2 Sm = some (v, Sm') ∧ P (n + 1) Sx' Sm') ∧
  (∀ (n : Nat) (Sx Sm : St) (a1 : Int32), n < 512 → P n Sx Sm → ∃ (v : Int32) (Sx' Sm' : St), fX11_hear a1 Sx = some (v, Sx') ∧ fX12_hear a1 Sm = some (v, Sm') ∧ P (n + 1) Sx' Sm') ∧
  (∀ (n : Nat) (Sx Sm : St) (a1 : Int32) (a2 : Int32), n < 512 → P n Sx Sm → ∃ (v : Int32) (Sx' Sm' : St), fX11_cells a1 a2 Sx = some (v, Sx') ∧ fX12_cells a1 a2 Sm = some (v, Sm') ∧ P (n + 1) Sx' Sm') ∧
  (∀ (n : Nat) (Sx Sm : St) (a1 : Int32) (a2 : Int32) (a3 : Int32), n < 512 → P n Sx Sm → ∃ (v : Int32) (Sx' Sm' : St), fX11_cell a1 a2 a3 Sx = some (v, Sx') ∧ fX12_cell a1 a2 a3 Sm = some (v, Sm') ∧ P (n + 1) Sx' Sm') ∧
  (∀ (n : Nat) (Sx Sm : St) (a1 : Int32) (a2 : Int32) (a3 : Int32), n < 512 → P n Sx Sm → ∃ (v : Int32) (Sx' Sm' : St), fX11_cheats a1 a2 a3 Sx = some (v, Sx') ∧ fX12_cheats a1 a2 a3 Sm = some (v, Sm') ∧ P (n + 1) Sx' Sm') ∧
  (∀ (n : Nat) (Sx Sm : St) (a1 : Int32) (a2 : Int32) (a3 : Int32) (a4 : Int32) (a5 : Int32) (a6 : Int32), n < 512 → P n Sx Sm → ∃ (v : Int32) (Sx' Sm' : St), fX11_site a1 a2 a3 a4 a5 a6 Sx = some (v, Sx') ∧ fX12_site a1 a2 a3 a4 a5 a6 Sm = some (v, Sm') ∧ P (n + 1) Sx' Sm') ∧
  (∀ (n : Nat) (Sx Sm : St) (a1 : Int32) (a2 : Int32), n < 512 → P n Sx Sm → ∃ (v : Int32) (Sx' Sm' : St), fX11_ear a1 a2 Sx = some (v, Sx') ∧ fX12_ear a1 a2 Sm = some (v, Sm') ∧ P (n + 1) Sx' Sm') ∧
  (∀ (n : Nat) (Sx Sm : St) (a1 : Int32), n < 512 → P n Sx Sm → ∃ (v : Int32) (Sx' Sm' : St), fX11_serves a1 Sx = some (v, Sx') ∧ fX12_serves a1 Sm = some (v, Sm') ∧ P (n + 1) Sx' Sm') ∧
  (∀ (n : Nat) (Sx Sm : St) (a1 : Int32) (a2 : Int32), n < 512 → P n Sx Sm → ∃ (v : Int32) (Sx' Sm' : St), fX11_plan a1 a2 Sx = some (v, Sx') ∧ fX12_plan a1 a2 Sm = some (v, Sm') ∧ P (n + 1) Sx' Sm') ∧
  (∀ (n : Nat) (Sx Sm : St) (a1 : Int32) (a2 : Int32) (a3 : Int32), n < 512 → P n Sx Sm → ∃ (v : Int32) (Sx' Sm' : St), fX11_sheet a1 a2 a3 Sx = some (v, Sx') ∧ fX12_sheet a1 a2 a3 Sm = some (v, Sm') ∧ P (n + 1) Sx' Sm') ∧
  (∀ (n : Nat) (Sx Sm : St) (a1 : Int32), n < 512 → P n Sx Sm → ∃ (v : Int32) (Sx' Sm' : St), fX11_lose a1 Sx = some (v, Sx') ∧ fX12_lose a1 Sm = some (v, Sm') ∧ P (n + 1) Sx' Sm') ∧
  (∀ (n : Nat) (Sx Sm : St) (a1 : Int32) (a2 : Int32) (a3 : Int32) (a4 : Int64), n < 512 → P n Sx Sm → ∃ (v : Int32) (Sx' Sm' : St), fX11_put a1 a2 a3 a4 Sx = some (v, Sx') ∧ fX12_put a1 a2 a3 a4 Sm = some (v, Sm') ∧ P (n + 1) Sx' Sm') ∧
  (∀ (n : Nat) (Sx Sm : St) (a1 : Int32) (a2 : Int32) (a3 : Int32), n < 512 → P n Sx Sm → ∃ (v : Int64) (Sx' Sm' : St), fX11_get a1 a2 a3 Sx = some (v, Sx') ∧ fX12_get a1 a2 a3 Sm = some (v, Sm') ∧ P (n + 1) Sx' Sm') ∧
  (∀ (n : Nat) (Sx Sm : St) (a1 : Int32) (a2 : Int32) (a3 : Int32) (a4 : Int32) (a5 : Int32), n < 512 → P n Sx Sm → ∃ (v : Int32) (Sx' Sm' : St), fX11_copy a1 a2 a3 a4 a5 Sx = some (v, Sx') ∧ fX12_copy a1 a2 a3 a4 a5 Sm = some (v, Sm') ∧ P (n + 1) Sx' Sm') ∧
  (∀ (n : Nat) (Sx Sm : St) (a1 : Int32) (a2 : Int32), n < 512 → P n Sx Sm → ∃ (v : Int32) (Sx' Sm' : St), fX11_map a1 a2 Sx = some (v, Sx') ∧ fX12_map a1 a2 Sm = some (v, Sm') ∧ P (n + 1) Sx' Sm') ∧
  (∀ (n : Nat) (Sx Sm : St) (a1 : Int32), n < 512 → P n Sx Sm → ∃ (v : Int32) (Sx' Sm' : St), fX11_count a1 Sx = some (v, Sx') ∧ fX12_count a1 Sm = some (v, Sm') ∧ P (n + 1) Sx' Sm') ∧
  (∀ (n : Nat) (Sx Sm : St), n < 512 → P n Sx Sm → ∃ (v : Int64) (Sx' Sm' : St), fX11_digest Sx = some (v, Sx') ∧ fX12_digest Sm = some (v, Sm') ∧ P (n + 1) Sx' Sm')
