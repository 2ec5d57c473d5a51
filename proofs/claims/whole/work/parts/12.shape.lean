def FU : Nat := 1152921504606846976
def lt {τ ρ : Type} (x : τ) (f : τ → ρ) : ρ := f x
def jn {τ ρ : Type} (k : τ) (b : τ → ρ) : ρ := b k
def shXL : List (Nat × Nat × Nat) := [(0, 11, 12), (0, 8, 1), (1, 0, 5), (4, 0, 6), (0, 6, 4), (3, 0, 400), (0, 6, 4), (3, 0, 400), (0, 6, 4), (3, 0, 400), (0, 6, 4), (3, 0, 400), (0, 6, 4), (3, 0, 400), (0, 6, 4), (3, 0, 400), (0, 2, 5), (0, 0, 9), (4, 1, 20), (0, 5, 11), (0, 5, 11), (0, 5, 11), (0, 5, 11), (0, 5, 11), (0, 5, 11), (0, 5, 11), (0, 5, 11), (0, 5, 11), (0, 5, 11), (0, 5, 11), (0, 5, 11), (0, 5, 11), (0, 5, 11), (0, 5, 11), (0, 5, 11), (0, 5, 11), (0, 5, 11), (0, 5, 11), (0, 5, 11), (1, 0, 20), (1, 0, 20), (0, 4, 9), (1, 0, 8), (1, 0, 64), (2, 0, 256), (1, 0, 256), (1, 0, 8), (1, 0, 8), (0, 3, 10), (1, 0, 20), (1, 0, 400), (1, 0, 400), (1, 0, 20), (1, 0, 20), (1, 0, 20), (1, 0, 20), (0, 1, 3), (1, 0, 8), (1, 0, 8), (0, 7, 11), (1, 0, 120), (2, 0, 25), (1, 0, 25), (1, 0, 25), (1, 0, 25), (1, 0, 25), (1, 0, 25), (0, 10, 4), (1, 0, 8), (1, 0, 8), (0, 9, 14), (1, 0, 6), (1, 0, 6), (1, 0, 18), (1, 0, 18), (1, 0, 12), (1, 0, 12), (1, 0, 216), (3, 0, 400)]
def rfXL : List (List (Option Nat)) := [[some 1, some 3, some 16, some 17, some 41, some 48, some 56, some 59, some 67, some 70, some 78], [some 2], [], [some 4, some 6, some 8, some 10, some 12, some 14], [some 5], [], [some 7], [], [some 9], [], [some 11], [], [some 13], [], [some 15], [], [some 1, some 4, some 6], [some 1, some 16, some 3, some 18, some 39, some 40], [some 19, some 20, some 21, some 22, some 23, some 24, some 25, some 26, some 27, some 28, some 29, some 30, some 31, some 32, some 33, some 34, some 35, some 36, some 37, some 38], [], [], [], [], [], [], [], [], [], [], [], [], [], [], [], [], [], [], [], [], [], [], [some 1, some 17, some 42, some 43, some 44, some 45, some 46, some 47], [], [], [], [], [], [], [some 1, some 17, some 49, some 50, some 51, some 52, some 53, some 54, some 55], [], [], [], [], [], [], [], [some 57, some 58], [], [], [some 60, some 61, some 62, some 63, some 64, some 65, some 66], [], [], [], [], [], [], [], [some 16, some 68, some 69], [], [], [some 1, some 16, some 71, some 72, some 73, some 74, some 75, some 76, some 77], [], [], [], [], [], [], [], []]
def wX : Wx := (fun k => shXL.getD k (9, 0, 0), 79, fun k j => (rfXL.getD k []).getD j none)
theorem sX_0 : Iob wX 0 11 12 := ⟨by decide, rfl⟩
theorem sX_1 : Iob wX 1 8 1 := ⟨by decide, rfl⟩
theorem sX_2 : Iar wX 2 1 5 := ⟨by decide, rfl⟩
theorem sX_3 : Irr wX 3 0 6 := ⟨by decide, rfl⟩
theorem sX_4 : Iob wX 4 6 4 := ⟨by decide, rfl⟩
theorem sX_5 : Iar wX 5 3 400 := ⟨by decide, rfl⟩
theorem sX_6 : Iob wX 6 6 4 := ⟨by decide, rfl⟩
theorem sX_7 : Iar wX 7 3 400 := ⟨by decide, rfl⟩
theorem sX_8 : Iob wX 8 6 4 := ⟨by decide, rfl⟩
theorem sX_9 : Iar wX 9 3 400 := ⟨by decide, rfl⟩
theorem sX_10 : Iob wX 10 6 4 := ⟨by decide, rfl⟩
theorem sX_11 : Iar wX 11 3 400 := ⟨by decide, rfl⟩
theorem sX_12 : Iob wX 12 6 4 := ⟨by decide, rfl⟩
theorem sX_13 : Iar wX 13 3 400 := ⟨by decide, rfl⟩
theorem sX_14 : Iob wX 14 6 4 := ⟨by decide, rfl⟩
theorem sX_15 : Iar wX 15 3 400 := ⟨by decide, rfl⟩
theorem sX_16 : Iob wX 16 2 5 := ⟨by decide, rfl⟩
theorem sX_17 : Iob wX 17 0 9 := ⟨by decide, rfl⟩
theorem sX_18 : Irr wX 18 1 20 := ⟨by decide, rfl⟩
theorem sX_19 : Iob wX 19 5 11 := ⟨by decide, rfl⟩
theorem sX_20 : Iob wX 20 5 11 := ⟨by decide, rfl⟩
theorem sX_21 : Iob wX 21 5 11 := ⟨by decide, rfl⟩
theorem sX_22 : Iob wX 22 5 11 := ⟨by decide, rfl⟩
theorem sX_23 : Iob wX 23 5 11 := ⟨by decide, rfl⟩
theorem sX_24 : Iob wX 24 5 11 := ⟨by decide, rfl⟩
theorem sX_25 : Iob wX 25 5 11 := ⟨by decide, rfl⟩
theorem sX_26 : Iob wX 26 5 11 := ⟨by decide, rfl⟩
theorem sX_27 : Iob wX 27 5 11 := ⟨by decide, rfl⟩
theorem sX_28 : Iob wX 28 5 11 := ⟨by decide, rfl⟩
theorem sX_29 : Iob wX 29 5 11 := ⟨by decide, rfl⟩
theorem sX_30 : Iob wX 30 5 11 := ⟨by decide, rfl⟩
theorem sX_31 : Iob wX 31 5 11 := ⟨by decide, rfl⟩
theorem sX_32 : Iob wX 32 5 11 := ⟨by decide, rfl⟩
theorem sX_33 : Iob wX 33 5 11 := ⟨by decide, rfl⟩
theorem sX_34 : Iob wX 34 5 11 := ⟨by decide, rfl⟩
theorem sX_35 : Iob wX 35 5 11 := ⟨by decide, rfl⟩
theorem sX_36 : Iob wX 36 5 11 := ⟨by decide, rfl⟩
theorem sX_37 : Iob wX 37 5 11 := ⟨by decide, rfl⟩
theorem sX_38 : Iob wX 38 5 11 := ⟨by decide, rfl⟩
theorem sX_39 : Iar wX 39 1 20 := ⟨by decide, rfl⟩
theorem sX_40 : Iar wX 40 1 20 := ⟨by decide, rfl⟩
theorem sX_41 : Iob wX 41 4 9 := ⟨by decide, rfl⟩
theorem sX_42 : Iar wX 42 1 8 := ⟨by decide, rfl⟩
theorem sX_43 : Iar wX 43 1 64 := ⟨by decide, rfl⟩
theorem sX_44 : Iar wX 44 2 256 := ⟨by decide, rfl⟩
theorem sX_45 : Iar wX 45 1 256 := ⟨by decide, rfl⟩
theorem sX_46 : Iar wX 46 1 8 := ⟨by decide, rfl⟩
theorem sX_47 : Iar wX 47 1 8 := ⟨by decide, rfl⟩
theorem sX_48 : Iob wX 48 3 10 := ⟨by decide, rfl⟩
theorem sX_49 : Iar wX 49 1 20 := ⟨by decide, rfl⟩
theorem sX_50 : Iar wX 50 1 400 := ⟨by decide, rfl⟩
theorem sX_51 : Iar wX 51 1 400 := ⟨by decide, rfl⟩
theorem sX_52 : Iar wX 52 1 20 := ⟨by decide, rfl⟩
theorem sX_53 : Iar wX 53 1 20 := ⟨by decide, rfl⟩
theorem sX_54 : Iar wX 54 1 20 := ⟨by decide, rfl⟩
theorem sX_55 : Iar wX 55 1 20 := ⟨by decide, rfl⟩
theorem sX_56 : Iob wX 56 1 3 := ⟨by decide, rfl⟩
theorem sX_57 : Iar wX 57 1 8 := ⟨by decide, rfl⟩
theorem sX_58 : Iar wX 58 1 8 := ⟨by decide, rfl⟩
theorem sX_59 : Iob wX 59 7 11 := ⟨by decide, rfl⟩
theorem sX_60 : Iar wX 60 1 120 := ⟨by decide, rfl⟩
theorem sX_61 : Iar wX 61 2 25 := ⟨by decide, rfl⟩
theorem sX_62 : Iar wX 62 1 25 := ⟨by decide, rfl⟩
theorem sX_63 : Iar wX 63 1 25 := ⟨by decide, rfl⟩
theorem sX_64 : Iar wX 64 1 25 := ⟨by decide, rfl⟩
theorem sX_65 : Iar wX 65 1 25 := ⟨by decide, rfl⟩
theorem sX_66 : Iar wX 66 1 25 := ⟨by decide, rfl⟩
theorem sX_67 : Iob wX 67 10 4 := ⟨by decide, rfl⟩
theorem sX_68 : Iar wX 68 1 8 := ⟨by decide, rfl⟩
theorem sX_69 : Iar wX 69 1 8 := ⟨by decide, rfl⟩
theorem sX_70 : Iob wX 70 9 14 := ⟨by decide, rfl⟩
theorem sX_71 : Iar wX 71 1 6 := ⟨by decide, rfl⟩
theorem sX_72 : Iar wX 72 1 6 := ⟨by decide, rfl⟩
theorem sX_73 : Iar wX 73 1 18 := ⟨by decide, rfl⟩
theorem sX_74 : Iar wX 74 1 18 := ⟨by decide, rfl⟩
theorem sX_75 : Iar wX 75 1 12 := ⟨by decide, rfl⟩
theorem sX_76 : Iar wX 76 1 12 := ⟨by decide, rfl⟩
theorem sX_77 : Iar wX 77 1 216 := ⟨by decide, rfl⟩
theorem sX_78 : Iar wX 78 3 400 := ⟨by decide, rfl⟩
def shML : List (Nat × Nat × Nat) := [(0, 12, 58), (1, 0, 6), (1, 0, 6), (3, 0, 2400), (3, 0, 400), (1, 0, 5), (1, 0, 20), (1, 0, 20), (1, 0, 20), (1, 0, 20), (1, 0, 20), (1, 0, 20), (1, 0, 20), (1, 0, 20), (1, 0, 20), (1, 0, 20), (2, 0, 20), (1, 0, 8), (2, 0, 256), (1, 0, 256), (1, 0, 8), (1, 0, 20), (1, 0, 20), (1, 0, 20), (1, 0, 20), (1, 0, 8), (1, 0, 8), (1, 0, 120), (2, 0, 30), (1, 0, 30), (1, 0, 30), (1, 0, 30), (1, 0, 30), (1, 0, 30), (1, 0, 8), (1, 0, 8), (1, 0, 6), (1, 0, 6), (1, 0, 12), (1, 0, 12), (1, 0, 12), (1, 0, 12), (1, 0, 144)]
def rfML : List (List (Option Nat)) := [[some 1, some 2, some 3, some 4, none, none, none, some 5, none, none, some 6, some 7, some 8, some 9, some 10, some 11, some 12, some 13, some 14, some 15, some 16, some 17, none, some 18, some 19, some 20, some 21, some 22, some 23, some 24, none, some 25, some 26, some 27, none, none, none, some 28, some 29, some 30, some 31, some 32, some 33, none, some 34, some 35, none, some 36, some 37, some 38, some 39, none, some 40, some 41, some 42], [], [], [], [], [], [], [], [], [], [], [], [], [], [], [], [], [], [], [], [], [], [], [], [], [], [], [], [], [], [], [], [], [], [], [], [], [], [], [], [], [], []]
def wM : Wx := (fun k => shML.getD k (9, 0, 0), 43, fun k j => (rfML.getD k []).getD j none)
theorem sM_0 : Iob wM 0 12 58 := ⟨by decide, rfl⟩
theorem sM_1 : Iar wM 1 1 6 := ⟨by decide, rfl⟩
theorem sM_2 : Iar wM 2 1 6 := ⟨by decide, rfl⟩
theorem sM_3 : Iar wM 3 3 2400 := ⟨by decide, rfl⟩
theorem sM_4 : Iar wM 4 3 400 := ⟨by decide, rfl⟩
theorem sM_5 : Iar wM 5 1 5 := ⟨by decide, rfl⟩
theorem sM_6 : Iar wM 6 1 20 := ⟨by decide, rfl⟩
theorem sM_7 : Iar wM 7 1 20 := ⟨by decide, rfl⟩
theorem sM_8 : Iar wM 8 1 20 := ⟨by decide, rfl⟩
theorem sM_9 : Iar wM 9 1 20 := ⟨by decide, rfl⟩
theorem sM_10 : Iar wM 10 1 20 := ⟨by decide, rfl⟩
theorem sM_11 : Iar wM 11 1 20 := ⟨by decide, rfl⟩
theorem sM_12 : Iar wM 12 1 20 := ⟨by decide, rfl⟩
theorem sM_13 : Iar wM 13 1 20 := ⟨by decide, rfl⟩
theorem sM_14 : Iar wM 14 1 20 := ⟨by decide, rfl⟩
theorem sM_15 : Iar wM 15 1 20 := ⟨by decide, rfl⟩
theorem sM_16 : Iar wM 16 2 20 := ⟨by decide, rfl⟩
theorem sM_17 : Iar wM 17 1 8 := ⟨by decide, rfl⟩
theorem sM_18 : Iar wM 18 2 256 := ⟨by decide, rfl⟩
theorem sM_19 : Iar wM 19 1 256 := ⟨by decide, rfl⟩
theorem sM_20 : Iar wM 20 1 8 := ⟨by decide, rfl⟩
theorem sM_21 : Iar wM 21 1 20 := ⟨by decide, rfl⟩
theorem sM_22 : Iar wM 22 1 20 := ⟨by decide, rfl⟩
theorem sM_23 : Iar wM 23 1 20 := ⟨by decide, rfl⟩
theorem sM_24 : Iar wM 24 1 20 := ⟨by decide, rfl⟩
theorem sM_25 : Iar wM 25 1 8 := ⟨by decide, rfl⟩
theorem sM_26 : Iar wM 26 1 8 := ⟨by decide, rfl⟩
theorem sM_27 : Iar wM 27 1 120 := ⟨by decide, rfl⟩
theorem sM_28 : Iar wM 28 2 30 := ⟨by decide, rfl⟩
theorem sM_29 : Iar wM 29 1 30 := ⟨by decide, rfl⟩
theorem sM_30 : Iar wM 30 1 30 := ⟨by decide, rfl⟩
theorem sM_31 : Iar wM 31 1 30 := ⟨by decide, rfl⟩
theorem sM_32 : Iar wM 32 1 30 := ⟨by decide, rfl⟩
theorem sM_33 : Iar wM 33 1 30 := ⟨by decide, rfl⟩
theorem sM_34 : Iar wM 34 1 8 := ⟨by decide, rfl⟩
theorem sM_35 : Iar wM 35 1 8 := ⟨by decide, rfl⟩
theorem sM_36 : Iar wM 36 1 6 := ⟨by decide, rfl⟩
theorem sM_37 : Iar wM 37 1 6 := ⟨by decide, rfl⟩
theorem sM_38 : Iar wM 38 1 12 := ⟨by decide, rfl⟩
theorem sM_39 : Iar wM 39 1 12 := ⟨by decide, rfl⟩
theorem sM_40 : Iar wM 40 1 12 := ⟨by decide, rfl⟩
theorem sM_41 : Iar wM 41 1 12 := ⟨by decide, rfl⟩
theorem sM_42 : Iar wM 42 1 144 := ⟨by decide, rfl⟩

theorem ib_lt {i : Int32} {n : Nat} (h : ib i n) : nt i < n := Nat.not_le.mp fun z => h (Or.inr z)
theorem snd_all : ∀ j, j < 20 → wX.2.2 18 j = some (19 + j) ∧ 19 + j < wX.2.1 ∧ wX.1 (19 + j) = (0, 5, 11) := by decide +kernel
theorem snd_rf : ∀ j, j < 20 → wX.2.2 18 j = some ((fun j => 19 + j) j) := fun j h => (snd_all j h).1
theorem snd_ob {i : Int32} (h : ib i 20) : Iob wX (19 + nt i) 5 11 := (snd_all _ (ib_lt h)).2
theorem sht_all : ∀ j, j < 6 → wX.2.2 3 j = some (4 + 2 * j) ∧ 4 + 2 * j < wX.2.1 ∧ wX.1 (4 + 2 * j) = (0, 6, 4) := by decide +kernel
theorem sht_rf : ∀ j, j < 6 → wX.2.2 3 j = some ((fun j => 4 + 2 * j) j) := fun j h => (sht_all j h).1
theorem sht_ob {i : Int32} (h : ib i 6) : Iob wX (4 + 2 * nt i) 6 4 := (sht_all _ (ib_lt h)).2
theorem sht_it0 : ∀ q, q < 79 → wX.1 q = (0, 6, 4) → wX.2.2 q 0 = some (q + 1) ∧ q + 1 < wX.2.1 ∧ wX.1 (q + 1) = (3, 0, 400) := by decide +kernel
theorem sht_it {q : Nat} (h : Iob wX q 6 4) : wX.2.2 q 0 = some (q + 1) ∧ Iar wX (q + 1) 3 400 := ⟨(sht_it0 q h.1 h.2).1, (sht_it0 q h.1 h.2).2⟩
theorem ne_i {x v : Int32} {k : Int} (h : ¬ x = v) (hv : v.toInt = k) : ¬ x.toInt = k := fun q => h (Int32.toInt_inj.mp (q.trans hv.symm))
section OKE
variable {α : Type} {Γ : Cx α} {w : Wx} {ι : α → Option Value} {μ ν : Md} {pc : Nat} {lv : List (Nat × Value)} {st : List Value} {S : St} {r : Option (α × St)}
theorem ok_ltS {S0 : St} {f : St → Option (α × St)} (k : ∀ S1, Ok Γ w pc lv st S1 (f S1)) : Ok Γ w pc lv st S0 (lt S0 f) := k S0
theorem ok_lti {x : Int32} {f : Int32 → Option (α × St)} (k : ∀ v, Ok Γ w pc lv (.int v :: st) S (f v)) : Ok Γ w pc lv (.int x :: st) S (lt x f) := k x
theorem ok_ltl {x : Int64} {f : Int64 → Option (α × St)} (k : ∀ v, Ok Γ w pc lv (.long v :: st) S (f v)) : Ok Γ w pc lv (.long x :: st) S (lt x f) := k x
theorem ok_lt {τ : Type} {x : τ} {f : τ → Option (α × St)} (P : (τ → Option (α × St)) → Prop) (k2 : P f) (k1 : ∀ g, P g → Ok Γ w pc lv st S (g x)) : Ok Γ w pc lv st S (lt x f) := k1 f k2
theorem ok_jn {τ : Type} {k : τ} {b : τ → Option (α × St)} (P : τ → Prop) (k2 : P k) (k1 : ∀ g, P g → Ok Γ w pc lv st S (b g)) : Ok Γ w pc lv st S (jn k b) := k1 k k2
theorem ok_ite {c : Prop} [Decidable c] {r1 r2 : Option (α × St)} (kt : c → Ok Γ w pc lv st S r1) (kf : ¬ c → Ok Γ w pc lv st S r2) : Ok Γ w pc lv st S (if c then r1 else r2) := by
  by_cases h : c
  · rw [if_pos h]; exact kt h
  · rw [if_neg h]; exact kf h
theorem ok_tswIn {dflt lo hi : Int} {offs : Array Int} {len : Nat} {x v : Int32} {off : Int} (tgt : Nat) (hc : Cok Γ w ι μ) (hd : decode μ.2.1 pc = .ok (.tableswitch dflt lo hi offs, len)) (hx : x = v) (h1 : ¬ v.toInt < lo) (h2 : ¬ hi < v.toInt) (ho : offs[(v.toInt - lo).toNat]? = some off) (ht : (pc : Int) + off = (tgt : Int)) (k : Ok Γ w tgt lv st S r) : Ok Γ w pc lv (.int x :: st) S r := by
  subst hx
  exact fun hr H locs ls hP hS hl => lv_tableIn hc.1 hc.2.1 hd h1 h2 ho ht (k hr H locs ls hP hS hl)
theorem ok_tswOut {dflt lo hi : Int} {offs : Array Int} {len : Nat} {x : Int32} (tgt : Nat) (hc : Cok Γ w ι μ) (hd : decode μ.2.1 pc = .ok (.tableswitch dflt lo hi offs, len)) (h : x.toInt < lo ∨ hi < x.toInt) (ht : (pc : Int) + dflt = (tgt : Int)) (k : Ok Γ w tgt lv st S r) : Ok Γ w pc lv (.int x :: st) S r := fun hr H locs ls hP hS hl => lv_tableOut hc.1 hc.2.1 hd h ht (k hr H locs ls hP hS hl)
end OKE

