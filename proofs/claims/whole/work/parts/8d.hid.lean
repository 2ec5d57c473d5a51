/-! ===== hidden: the two ways of counting pairs ===== -/
abbrev sT (f : Nat → Int) (n : Nat) : Int := cs f (fun _ => true) n
theorem sT_s (f : Nat → Int) (n : Nat) : sT f (n + 1) = sT f n + f n := cs_t rfl
theorem sT_add (f g : Nat → Int) : ∀ n, sT (fun i => f i + g i) n = sT f n + sT g n
  | 0 => rfl
  | n + 1 => by rw [sT_s, sT_s, sT_s, sT_add f g n]; omega
theorem sT_cg {f g : Nat → Int} : ∀ n, (∀ i, i < n → f i = g i) → sT f n = sT g n
  | 0, _ => rfl
  | n + 1, h => by rw [sT_s, sT_s, sT_cg n (fun i hi => h i (by omega)), h n (by omega)]
theorem sT_b (B : Nat → Bool) : ∀ n, sT (fun i => if B i = true then 1 else 0) n = cs (fun _ => 1) B n
  | 0 => rfl
  | n + 1 => by
    rw [sT_s, sT_b B n]
    rfl
theorem dbl (Q : Nat → Nat → Bool) (hs : ∀ a b, Q a b = Q b a) : ∀ n, sT (fun a => cs (fun _ => 1) (Q a) a) n = sT (fun i => cs (fun _ => 1) (Q i) n - cs (fun _ => 1) (Q i) (i + 1)) n
  | 0 => rfl
  | n + 1 => by
    rw [sT_s, sT_s, dbl Q hs n, Int.sub_self, Int.add_zero]
    have e1 : sT (fun i => cs (fun _ => 1) (Q i) (n + 1) - cs (fun _ => 1) (Q i) (i + 1)) n = sT (fun i => (cs (fun _ => 1) (Q i) n - cs (fun _ => 1) (Q i) (i + 1)) + (if Q n i = true then 1 else 0)) n := sT_cg n (fun i hi => by
      have : cs (fun _ => (1 : Int)) (Q i) (n + 1) = cs (fun _ => 1) (Q i) n + (if Q i n = true then 1 else 0) := rfl
      rw [this, hs i n]; omega)
    rw [e1, sT_add, sT_b]
abbrev GhZ (x : St) (a1 : Int32) (t : Nat) : Int := sT (fun i => c1Z x a1 i (x.1 17 6).toInt.toNat - c1Z x a1 i (i + 1)) t
theorem hq_2 {n : Nat} {x m : St} (h : Inv n x m) (a1 : Int32) : ∀ (d t f : Nat), t + d = (x.1 17 6).toInt.toNat → d < f → fX12_hidden_L26 (nI (bs (lrZ x a1) (x.1 17 6).toInt.toNat)) f (iI (GhZ x a1 t)) (nI t) m = some (iI (GhZ x a1 (x.1 17 6).toInt.toNat), m)
  | 0, t, f + 1, ht, _ => by
    obtain ⟨h1, h2, h3, h4, h5, h6, h7, h8, h9, h10, h11⟩ := id h
    have r := h5.2.1
    obtain ⟨N, eN, hN, l20⟩ := sndN h5
    show fX12_hidden_L26_st _ (fX12_hidden_L26 _ f) _ _ m = _
    unfold fX12_hidden_L26_st
    rw [h5.1, if_pos (show x.1 17 6 ≤ nI t by rw [eN, nv_l (by omega) (by omega)]; omega), show t = (x.1 17 6).toInt.toNat by omega]
  | d + 1, t, f + 1, ht, hf => by
    have ih := hq_2 h a1 d (t + 1) f (by omega) (by omega)
    obtain ⟨h1, h2, h3, h4, h5, h6, h7, h8, h9, h10, h11⟩ := id h
    have r := h5.2.1
    have fu := fu_ge
    obtain ⟨N, eN, hN, l20⟩ := sndN h5
    show fX12_hidden_L26_st _ (fX12_hidden_L26 _ f) _ _ m = _
    unfold fX12_hidden_L26_st
    rw [h5.1, if_neg (show ¬ x.1 17 6 ≤ nI t from fun q => by rw [eN, nv_l (by omega) (by omega)] at q; omega), lt_eq, nv_p1]
    have e := hq_1 h a1 (fun (v3 : Int32) (S4 : St) => fX12_hidden_L26 (nI (bs (lrZ x a1) (x.1 17 6).toInt.toNat)) f v3 (nI (t + 1)) S4) (a := t) (by omega) (GhZ x a1 t - c1Z x a1 t (t + 1)) ((x.1 17 6).toInt.toNat - (t + 1)) (t + 1) FU (by omega) (by omega) (by omega)
    rw [show GhZ x a1 t - c1Z x a1 t (t + 1) + c1Z x a1 t (t + 1) = GhZ x a1 t by omega] at e
    refine e.trans ?_
    rw [show GhZ x a1 t - c1Z x a1 t (t + 1) + c1Z x a1 t (x.1 17 6).toInt.toNat = GhZ x a1 (t + 1) by
      unfold GhZ; rw [sT_s]; omega]
    exact ih
theorem Fh_Gh (x : St) (a1 : Int32) : FhZ x a1 (x.1 17 6).toInt.toNat = GhZ x a1 (x.1 17 6).toInt.toNat := by
  have e1 : ∀ n, FhZ x a1 n = sT (fun a => cs (fun _ => 1) (qzZ x a1 a) a) n := by
    intro n
    induction n with
    | zero => rfl
    | succ n ih =>
      rw [sT_s, ← ih]
      unfold FhZ
      by_cases c : lrZ x a1 n = true
      · rw [cs_t c]
      · rw [cs_f c, cs_no n (fun j _ q => c (qz_i.mp q).1), Int.add_zero]
  rw [e1, dbl (qzZ x a1) (qz_s x a1)]
theorem pr_25 (n : Nat) (x m : St) (a1 : Int32) (_ : n < 512) (h : Inv n x m) : ∃ (v : Int32) (x' m' : St), fX11_hidden a1 x = some (v, x') ∧ fX12_hidden a1 m = some (v, m') ∧ Inv (n + 1) x' m' := by
  obtain ⟨h1, h2, h3, h4, h5, h6, h7, h8, h9, h10, h11⟩ := id h
  have hu := Inv_up n x m h
  have r := h5.2.1
  have fu := fu_ge
  have u : (11 : Int32).toInt = 11 ∧ (11 : Int64).toInt = 11 := by decide
  unfold fX11_hidden fX12_hidden
  rw [e_within, e_in, bnd_some, bnd_some, bi_ite, bi_ite, t64, l32_0, l64_0, u.1, u.2]
  by_cases c : 0 ≤ a1.toInt ∧ a1.toInt ≤ 11
  · obtain ⟨S', w1, w2⟩ := e_lg h a1
    have q1 := hp_2 h (LT_of w2) (x.1 17 6).toInt.toNat 0 FU (by omega) (by omega)
    have q2 := hq_2 h a1 (x.1 17 6).toInt.toNat 0 FU (by omega) (by omega)
    have q1' : fX3_hiddenPairs_L14 (x.1 2 3) FU 0 0 S' = some (iI (FhZ x a1 (x.1 17 6).toInt.toNat), S') := q1
    have q2' : fX12_hidden_L26 (nI (bs (lrZ x a1) (x.1 17 6).toInt.toNat)) FU 0 0 m = some (iI (GhZ x a1 (x.1 17 6).toInt.toNat), m) := q2
    unfold fX3_hiddenPairs
    rw [if_pos c, if_pos c, w1, bnd_some, e_lis h5, bnd_some, lt_eq, show nt 3 = 3 from rfl, w2.1.1 2 (by unfold xcell; omega), q1', bnd_some, q2', Fh_Gh]
    exact ⟨_, _, _, rfl, rfl, Inv_fr w2.1 mEq.rfl hu⟩
  · rw [if_neg c, if_neg c]; exact ⟨_, _, _, rfl, rfl, hu⟩
