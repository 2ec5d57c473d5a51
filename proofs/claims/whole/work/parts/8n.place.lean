/-! ===== parting: the class's placing ===== -/
theorem GR_cg {tg : Nat → Bool} {n : Nat} : ∀ (d : Nat) (gs : Nat → Nat) (k : Nat) (b b' : Nat → Nat), (∀ j, k ≤ j → b' j = b j) → GR tg n d gs k b → GR tg n d gs k b'
  | 0, _, _, _, _, _, _ => trivial
  | d + 1, gs, k, b, b', he, h => by
    obtain ⟨a1, a2, a3, a4⟩ := h
    have e := he k (Nat.le_refl k)
    refine ⟨by rw [e]; exact a1, by rw [e]; exact a2, fun t ht => a3 t (by rw [e] at ht; exact ht), ?_⟩
    rw [e]
    exact GR_cg d _ (k + 1) b b' (fun j hj => he j (by omega)) a4
theorem or_xor {a i : Nat} (h : a < 2 ^ i) : (a ||| 2 ^ i) ^^^ 2 ^ i = a := by
  apply Nat.eq_of_testBit_eq
  intro j
  rw [Nat.testBit_xor, Nat.testBit_or, Nat.testBit_two_pow]
  by_cases e : i = j
  · subst e; rw [decide_eq_true rfl, Nat.testBit_lt_two_pow h]; rfl
  · rw [decide_eq_false e, Bool.or_false, Bool.xor_false]
def PLX (L n : Nat) (tg : Nat → Bool) (gs : Nat → Nat) (i : Nat) (S : St) : Prop := S.1 41 8 = nI L ∧ S.1 45 (2 ^ L - 1) = nI n ∧ (∀ j, j < 2 ^ L → S.1 44 j = bi (tg j = true)) ∧ ∀ t, t < 8 → S.1 46 t = nI (gs t) ∧ gs t < 2 ^ i
def CN (gs : Nat → Nat) : Prop := ∀ t t', t ≤ t' → gs t = 0 → gs t' = 0
def FRM (S S' : St) : Prop := (∀ k, k ≠ 46 → k ≠ 47 → S'.1 k = S.1 k) ∧ S'.2 = S.2
def OUT (tg : Nat → Bool) (n d : Nat) (gs : Nat → Nat) (i : Nat) (S : St) (R : Option (Int32 × St)) : Prop := (CP tg n d gs i ∧ ∃ (S' : St) (b : Nat → Nat), R = some (1, S') ∧ GR tg n d gs i b ∧ (∀ j, i ≤ j → j < i + d → S'.1 47 j = nI (b j)) ∧ (∀ j, j < i → S'.1 47 j = S.1 47 j) ∧ FRM S S') ∨ (¬ CP tg n d gs i ∧ ∃ S' : St, R = some (0, S') ∧ (∀ t, S'.1 46 t = S.1 46 t) ∧ (∀ j, j < i → S'.1 47 j = S.1 47 j) ∧ FRM S S')
theorem OUT_c {tg : Nat → Bool} {n d i : Nat} {gs : Nat → Nat} {S S1 : St} {R : Option (Int32 × St)} (e6 : ∀ t, S1.1 46 t = S.1 46 t) (e7 : ∀ j, j < i → S1.1 47 j = S.1 47 j) (fr : FRM S S1) (h : OUT tg n d gs i S1 R) : OUT tg n d gs i S R := by
  rcases h with ⟨c, S', b, h1, h2, h3, h4, h5⟩ | ⟨c, S', h1, h2, h3, h4⟩
  · exact Or.inl ⟨c, S', b, h1, h2, h3, fun j hj => (h4 j hj).trans (e7 j hj), fun k a1 a2 => (h5.1 k a1 a2).trans (fr.1 k a1 a2), h5.2.trans fr.2⟩
  · exact Or.inr ⟨c, S', h1, fun t => (h2 t).trans (e6 t), fun j hj => (h3 j hj).trans (e7 j hj), fun k a1 a2 => (h4.1 k a1 a2).trans (fr.1 k a1 a2), h4.2.trans fr.2⟩
theorem pl_l {L n : Nat} {tg : Nat → Bool} (hL : L ≤ 8) (hn : n ≤ 8) {d i : Nat} (hi : i + (d + 1) = L) (rc : Int32 → St → Option (Int32 × St)) (HR : ∀ gs S, PLX L n tg gs (i + 1) S → CN gs → OUT tg n d gs (i + 1) S (rc (nI (i + 1)) S)) (gs : Nat → Nat) (cn : CN gs) : ∀ (e t f : Nat) (S : St), t + e = n → e < f → PLX L n tg gs i S → (∀ u, u < t → gs u ≠ 0 ∧ ¬ QP tg n d gs i u) → OUT tg n (d + 1) gs i S (fX4_place_L22 rc (nI i) (nI n) f (nI t) S)
  | 0, t, f + 1, S, ht, _, px, hu => by
    right
    refine ⟨fun h => ?_, S, ?_, fun _ => rfl, fun _ _ => rfl, fun _ _ _ => rfl, rfl⟩
    · obtain ⟨u, u1, u2⟩ := h
      exact (hu u (by omega)).2 u2
    · show fX4_place_L22_st rc (nI i) (nI n) (fX4_place_L22 rc (nI i) (nI n) f) (nI t) S = _
      unfold fX4_place_L22_st
      rw [if_pos ((nv_l (by omega) (by omega)).mpr (by omega))]
  | e + 1, t, f + 1, S, ht, hf, px, hu => by
    obtain ⟨x1, x2, x3, x4⟩ := px
    obtain ⟨y1, y2⟩ := x4 t (by omega)
    have p8 : 2 ^ L ≤ 2 ^ 8 := Nat.pow_le_pow_right (by omega) hL
    have pi1 : 2 ^ (i + 1) = 2 ^ i * 2 := Nat.pow_succ 2 i
    have piL : 2 ^ (i + 1) ≤ 2 ^ L := Nat.pow_le_pow_right (by omega) (by omega)
    have p0 := Nat.two_pow_pos i
    have lm : gs t ||| 2 ^ i < 2 ^ (i + 1) := Nat.or_lt_two_pow (by omega) (by omega)
    have ib8 : ib (nI t) 8 := nv_ib (by omega) (by omega)
    have ntt : nt (nI t) = t := nv_nt (by omega)
    -- what follows when slot t fails
    have after : ∀ S3 : St, (∀ u, S3.1 46 u = S.1 46 u) → (∀ j, j < i → S3.1 47 j = S.1 47 j) → FRM S S3 → ¬ QP tg n d gs i t → OUT tg n (d + 1) gs i S (if ib (nI t) 8 then (if S3.1 46 (nt (nI t)) = 0 then (some (0, S3)) else (fX4_place_L22 rc (nI i) (nI n) f (nI t + 1) S3)) else none) := by
      intro S3 e6 e7 fr nq
      rw [if_pos ib8, ntt, e6 t, y1, nv_p1]
      by_cases z : gs t = 0
      · rw [if_pos ((nv_z (by omega)).mpr z)]
        right
        refine ⟨fun h => ?_, S3, rfl, e6, e7, fr⟩
        obtain ⟨u, u1, u2⟩ := h
        rcases Nat.lt_trichotomy u t with w | w | w
        · exact (hu u w).2 u2
        · rw [w] at u2; exact nq u2
        · exact nq (QP_swp (t := t) (t' := u) (by omega) u1 z (cn t u (by omega) z) u2)
      · rw [if_neg (fun q => z ((nv_z (by omega)).mp q))]
        refine OUT_c e6 e7 fr (pl_l hL hn hi rc HR gs cn e (t + 1) f S3 (by omega) (by omega) ⟨?_, ?_, ?_, ?_⟩ ?_)
        · rw [fr.1 41 (by omega) (by omega)]; exact x1
        · rw [fr.1 45 (by omega) (by omega)]; exact x2
        · intro j hj; rw [fr.1 44 (by omega) (by omega)]; exact x3 j hj
        · intro u hu8; rw [e6 u]; exact x4 u hu8
        · intro u hu1
          by_cases q : u = t
          · rw [q]; exact ⟨z, nq⟩
          · exact hu u (by omega)
    show OUT tg n (d + 1) gs i S (fX4_place_L22_st rc (nI i) (nI n) (fX4_place_L22 rc (nI i) (nI n) f) (nI t) S)
    unfold fX4_place_L22_st
    simp only [jn_eq, lt_eq]
    rw [if_neg (show ¬ nI n ≤ nI t from fun q => by rw [nv_l (by omega) (by omega)] at q; omega), if_neg (show ¬ (8 : Int32) ≤ nI t from fun q => by have := (nv_l (a := 8) (by omega) (by omega)).mp q; omega)]
    rw [if_pos ib8, ntt, y1, nb_shl i (by omega), nx_or, if_pos (nv_ib (by omega) (by omega)), nv_nt (a := gs t ||| 2 ^ i) (by omega), x3 _ (by omega)]
    have after' := after
    rw [ntt] at after'
    by_cases c : tg (gs t ||| 2 ^ i) = true
    · have ib8i : ib (nI i) 8 := nv_ib (by omega) (by omega)
      rw [if_neg (show ¬ bi (tg (gs t ||| 2 ^ i) = true) = 0 from fun q => (bi_0 _).mp q c), if_pos ib8, if_pos ib8, if_pos ib8i, nv_nt (a := i) (by omega), nv_p1 i]
      have plx1 : PLX L n tg (up1 gs t (gs t ||| 2 ^ i)) (i + 1) (wi (wi S 46 t (nI (gs t ||| 2 ^ i))) 47 i (nI t)) := by
        refine ⟨by rw [wi_c _ _ (by omega), wi_c _ _ (by omega)]; exact x1, by rw [wi_c _ _ (by omega), wi_c _ _ (by omega)]; exact x2, fun j hj => by rw [wi_c _ _ (by omega), wi_c _ _ (by omega)]; exact x3 j hj, fun u hu8 => ?_⟩
        rw [wi_c _ _ (by omega)]
        unfold up1
        by_cases q : u = t
        · rw [if_pos q, q, wi_s]; exact ⟨rfl, lm⟩
        · rw [if_neg q, wi_n _ _ (by omega)]
          have := x4 u hu8
          exact ⟨this.1, by omega⟩
      have cn1 : CN (up1 gs t (gs t ||| 2 ^ i)) := by
        intro u u' huu hz
        unfold up1 at hz ⊢
        by_cases q : u = t
        · rw [if_pos q] at hz
          exfalso
          have : 2 ^ i ≤ gs t ||| 2 ^ i := Nat.right_le_or
          omega
        · rw [if_neg q] at hz
          by_cases q' : u' = t
          · exact absurd hz (hu u (by omega)).1
          · rw [if_neg q']; exact cn u u' huu hz
      rcases HR _ _ plx1 cn1 with ⟨cp, S2, b, h1, h2, h3, h4, h5⟩ | ⟨ncp, S2, h1, h2, h3, h4⟩
      · rw [h1, bnd_some, if_neg (show ¬ (1 : Int32) = 0 by decide)]
        left
        have ei : (fun j => if j = i then t else b j) i = t := if_pos rfl
        refine ⟨⟨t, by omega, c, cp⟩, S2, fun j => if j = i then t else b j, rfl, ⟨by rw [ei]; omega, by rw [ei]; exact ⟨c, cp⟩, fun u hu' => by rw [ei] at hu'; exact (hu u hu').2, by rw [ei]; exact GR_cg d _ (i + 1) b _ (fun j hj => if_neg (by omega)) h2⟩, fun j j1 j2 => ?_, fun j hj => ?_, fun k k1 k2 => ?_, h5.2⟩
        · by_cases q : j = i
          · subst q
            rw [h4 j (by omega), wi_s, ei]
          · rw [h3 j (by omega) (by omega)]
            show nI (b j) = nI (if j = i then t else b j)
            rw [if_neg q]
        · rw [h4 j (by omega), wi_n _ _ (by omega), wi_c _ _ (by omega)]
        · rw [h5.1 k k1 k2, wi_c _ _ k2, wi_c _ _ k1]
      · have e46 : S2.1 46 t = nI (gs t ||| 2 ^ i) := by rw [h2 t, wi_c _ _ (by omega), wi_s]
        have ecl : nI (gs t ||| 2 ^ i) &&& (nI (2 ^ i) ^^^ (-1)) = nI (gs t) := by
          rw [nx_clr (fun j hj => by rw [Nat.testBit_or, hj, Bool.or_true]), or_xor y2]
        rw [h1, bnd_some, if_pos rfl]
        simp only [if_pos ib8]
        rw [e46, ecl]
        have := after' (wi S2 46 t (nI (gs t))) (fun u => by
          by_cases q : u = t
          · rw [q, wi_s, y1]
          · rw [wi_n _ _ (by omega), h2 u, wi_c _ _ (by omega), wi_n _ _ (by omega)]) (fun j hj => by
          rw [wi_c _ _ (by omega), h3 j (by omega), wi_n _ _ (by omega), wi_c _ _ (by omega)]) ⟨fun k k1 k2 => by rw [wi_c _ _ k1, h4.1 k k1 k2, wi_c _ _ k2, wi_c _ _ k1], h4.2⟩ (fun q => ncp q.2)
        rw [if_pos ib8] at this
        exact this
    · rw [if_pos (show bi (tg (gs t ||| 2 ^ i) = true) = 0 from (bi_0 _).mpr c)]
      have := after' S (fun _ => rfl) (fun _ _ => rfl) ⟨fun _ _ _ => rfl, rfl⟩ (fun q => c q.1)
      rw [y1] at this
      exact this
theorem pl_e {L n : Nat} {tg : Nat → Bool} (hL1 : 1 ≤ L) (hL : L ≤ 8) (hn : n ≤ 8) : ∀ (d D i : Nat) (gs : Nat → Nat) (S : St), i + d = L → d < D → PLX L n tg gs i S → CN gs → OUT tg n d gs i S (fX4_place D (nI i) S)
  | 0, D + 1, i, gs, S, hi, _, px, _ => by
    left
    refine ⟨trivial, S, fun _ => 0, ?_, trivial, fun j h1 h2 => by omega, fun _ _ => rfl, fun _ _ _ => rfl, rfl⟩
    show fX4_place_b (fX4_place D) (nI i) S = _
    unfold fX4_place_b
    rw [px.1, if_neg (fun q => by rw [nv_s (by omega) (by omega)] at q; omega)]
  | d + 1, D + 1, i, gs, S, hi, hD, px, cn => by
    have p8 : 2 ^ L ≤ 2 ^ 8 := Nat.pow_le_pow_right (by omega) hL
    have p0 := Nat.two_pow_pos L
    have fu := fu_ge
    show OUT tg n (d + 1) gs i S (fX4_place_b (fX4_place D) (nI i) S)
    unfold fX4_place_b fX4_whole
    have ew : nI (2 ^ L) - 1 = nI (2 ^ L - 1) := nv_sub (b := 1) (by omega)
    rw [px.1, if_pos ((nv_s (by omega) (by omega)).mpr (by omega)), bnd_some, nb_shl L (by omega), ew, if_pos (nv_ib (by omega) (by omega)), lt_eq, nv_nt (by omega), px.2.1]
    exact pl_l hL hn hi (fX4_place D) (fun gs' S' px' cn' => pl_e hL1 hL hn d D (i + 1) gs' S' (by omega) (by omega) px' cn') gs cn n 0 FU S (by omega) (by omega) px (fun u hu => by omega)
