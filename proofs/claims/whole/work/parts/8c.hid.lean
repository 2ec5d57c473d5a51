/-! ===== listening: sums over the others; hidden ===== -/
def LT (x : St) (a1 : Int32) (S : St) : Prop := fEq x S ∧ S.1 48 9 = nI (rk (lrZ x a1) (x.1 17 6).toInt.toNat) ∧ (∀ j, j < (x.1 17 6).toInt.toNat → lrZ x a1 j = true → S.1 49 (rk (lrZ x a1) j) = nI j) ∧ ∀ a' b', a' < (x.1 17 6).toInt.toNat → b' < (x.1 17 6).toInt.toNat → lrZ x a1 a' = true → lrZ x a1 b' = true → LE x S a1 a' b'
theorem LT_of {x S : St} {a1 : Int32} (g : LG x a1 S) : LT x a1 S := ⟨fEq_of g.1, g.2⟩
theorem LT_wi {x S : St} {a1 : Int32} (g : LT x a1 S) {k j : Nat} {v : Int32} (hk : 52 ≤ k) : LT x a1 (wi S k j v) := by
  refine ⟨fEq_wi g.1 (by omega), by rw [wi_c _ _ (by omega)]; exact g.2.1, fun j hj hr => by rw [wi_c _ _ (by omega)]; exact g.2.2.1 j hj hr, fun a b ha hb ra rb => ?_⟩
  unfold LE
  rw [wi_c (a := 50) _ _ (by omega), wi_c (a := 51) _ _ (by omega)]
  exact g.2.2.2 a b ha hb ra rb
theorem so_l {S : St} {L : Nat} (eL : S.1 48 9 = nI L) (hL : L ≤ 20) (q1 sp : Nat) {i : Nat} (hi : i < L) : ∀ (d k f : Nat), k + d = L → d < f → fX3_sumOthers_L6 q1 (nI sp) (nI i) f (jI (cs (fun k => (S.1 q1 (i * 20 + k)).toInt) (fun k => decide (k ≠ i) && sp.testBit k) k)) (nI k) S = some (jI (cs (fun k => (S.1 q1 (i * 20 + k)).toInt) (fun k => decide (k ≠ i) && sp.testBit k) L), S)
  | 0, k, f + 1, hk, _ => by
    show fX3_sumOthers_L6_st q1 (nI sp) (nI i) (fX3_sumOthers_L6 q1 (nI sp) (nI i) f) _ (nI k) S = _
    unfold fX3_sumOthers_L6_st
    rw [eL, if_pos ((nv_l (by omega) (by omega)).mpr (by omega)), show k = L by omega]
  | d + 1, k, f + 1, hk, hf => by
    have ih := so_l eL hL q1 sp hi d (k + 1) f (by omega) (by omega)
    show fX3_sumOthers_L6_st q1 (nI sp) (nI i) (fX3_sumOthers_L6 q1 (nI sp) (nI i) f) _ (nI k) S = _
    unfold fX3_sumOthers_L6_st
    simp only [jn_eq, lt_eq]
    rw [eL, if_neg (fun q => by rw [nv_l (by omega) (by omega)] at q; omega), nv_p1]
    by_cases c : k = i
    · rw [cs_f (by rw [c]; simp)] at ih
      rw [if_pos ((nv_e (by omega) (by omega)).mpr c)]; exact ih
    · rw [if_neg (fun q => c ((nv_e (by omega) (by omega)).mp q))]
      by_cases b : sp.testBit k = true
      · rw [cs_t (by simp [c, b]), ← jI_add, ← i64] at ih
        rw [if_neg (fun q => (nb_0 sp (by omega)).mp q b), show (20 : Int32) = nI 20 from rfl, nv_mul, nI_add, if_pos (nv_ib (by omega) (by omega)), nv_nt (by omega)]
        exact ih
      · rw [cs_f (by simp [b])] at ih
        rw [if_pos ((nb_0 sp (by omega)).mpr b)]; exact ih
/-- the others among the listeners that speak -/
abbrev spB (x : St) (a1 : Int32) (a sp : Nat) (o : Nat) : Bool := lrZ x a1 o && (decide (o ≠ a) && sp.testBit (rk (lrZ x a1) o))
theorem so_c {n : Nat} {x m S : St} (h : Inv n x m) {a1 : Int32} (g : LT x a1 S) {a : Nat} (ha : a < (x.1 17 6).toInt.toNat) (ra : lrZ x a1 a = true) (q1 sp : Nat) (c : Int32) (hc : isC x c) (hq : ∀ b, b < (x.1 17 6).toInt.toNat → lrZ x a1 b = true → S.1 q1 (rk (lrZ x a1) a * 20 + rk (lrZ x a1) b) = iI (gotZ x b c 0)) : fX3_sumOthers q1 (nI sp) (nI (rk (lrZ x a1) a)) S = some (jI (cs (fun o => gotZ x o c 0) (spB x a1 a sp) (x.1 17 6).toInt.toNat), S) := by
  obtain ⟨h1, h2, h3, h4, h5, h6, h7, h8, h9, h10, h11⟩ := id h
  obtain ⟨N, eN, hN, l20⟩ := sndN h5
  have e : (x.1 17 6).toInt.toNat = N := by omega
  have g2 := g.2.1
  rw [e] at ha hq g2 ⊢
  have lL := rk_le (lrZ x a1) N
  have la := rk_lt ra ha
  have l := so_l g2 (by omega) q1 sp la (rk (lrZ x a1) N) 0 FU (by omega) (by have := fu_ge; omega)
  have cc := cs_cmp (R := lrZ x a1) (g' := fun k => (S.1 q1 (rk (lrZ x a1) a * 20 + k)).toInt) (g := fun o => gotZ x o c 0) (B' := fun k => decide (k ≠ rk (lrZ x a1) a) && sp.testBit k) (B := spB x a1 a sp) N (fun j hj hr => by
    have gr := gotZ_rg h (s1_n h5 (k := j) (by omega)) 0 hc
    refine ⟨?_, ?_⟩
    · show (S.1 q1 (rk (lrZ x a1) a * 20 + rk (lrZ x a1) j)).toInt = _
      rw [hq j hj hr, iI_toInt (by omega) (by omega)]
    · show (decide (rk (lrZ x a1) j ≠ rk (lrZ x a1) a) && sp.testBit (rk (lrZ x a1) j)) = (lrZ x a1 j && (decide (j ≠ a) && sp.testBit (rk (lrZ x a1) j)))
      rw [hr, Bool.true_and]
      congr 1
      refine decide_eq_decide.mpr ⟨fun z w => z (by rw [w]), fun z w => z (rk_inj hr ra w)⟩) (fun j hj hr q => by
    have q' : (lrZ x a1 j && (decide (j ≠ a) && sp.testBit (rk (lrZ x a1) j))) = true := q
    rw [Bool.and_eq_true] at q'
    exact hr q'.1)
  rw [cc] at l
  exact l
theorem mood_l {x : St} {a1 : Int32} {a : Nat} (ra : lrZ x a1 a = true) : moodZ x a = 0 := by
  have q' : (decide (x.1 (19 + a) 0 = 3) && (decide (¬ x.1 (19 + a) 10 = 0) && decide (x.1 (19 + a) 7 = a1))) = true := ra
  rw [Bool.and_eq_true] at q'
  have := of_decide_eq_true q'.1
  unfold moodZ
  rw [this, if_neg (by decide)]
theorem e_hga {n : Nat} {x m S : St} (h : Inv n x m) {a1 : Int32} (g : LT x a1 S) {a : Nat} (ha : a < (x.1 17 6).toInt.toNat) (ra : lrZ x a1 a = true) {z : Int} (hz : 0 ≤ z ∧ z ≤ 5000000000) : fX3_isHeardAgainst (nI (rk (lrZ x a1) a)) (jI z) S = some (bi (hdZ x a ((x.1 2 2).toInt + z)), S) := by
  obtain ⟨h1, h2, h3, h4, h5, h6, h7, h8, h9, h10, h11⟩ := id h
  have r := h5.2.1
  have rno := h1.2.2.2.1
  have la := rk_lt ra ha
  have lL := rk_le (lrZ x a1) (x.1 17 6).toInt.toNat
  have hs := s1_n h5 (k := a) (by omega)
  have ma := g.2.2.1 a ha ra
  have ea := (g.2.2.2 a a ha ha ra ra).2
  have gg := gotZ_rg h hs 0 (goal_c hs)
  have b := much_b hs (z := (x.1 2 2).toInt + z) ⟨by omega, by omega⟩
  unfold fX3_isHeardAgainst fX5_isEnough
  rw [if_pos (nv_ib (by omega) (by omega)), nv_nt (a := rk (lrZ x a1) a) (by omega), ma, if_pos (nv_ib (by omega) (by omega)), nv_nt (a := a) (by omega), show (20 : Int32) = nI 20 from rfl, nv_mul, nI_add, if_pos (nv_ib (by omega) (by omega)), nv_nt (by omega), ea, g.1.1 (19 + a) (by unfold fcell; omega), g.1.1 2 (by unfold fcell; omega), show nt 2 = 2 from rfl, ii64 (by omega), i64, i64, jI_add, jI_mul, show (100 : Int64) = jI 100 from rfl, jI_mul]
  unfold hdZ bi
  rw [mood_l ra]
  by_cases c : (x.1 (19 + a) 4).toInt * ((x.1 2 2).toInt + z) ≤ 100 * gotZ x a (x.1 (19 + a) 5) 0
  · rw [if_neg (fun q => by rw [jI_lt (by omega) (by omega)] at q; omega), if_pos c, bnd_some, if_pos (by decide)]
  · rw [if_pos ((jI_lt (by omega) (by omega)).mpr (by omega)), if_neg c, bnd_some, if_pos (by decide)]
abbrev droZ (x : St) (a b : Nat) : Prop := hdZ x a (x.1 2 2).toInt ∧ ¬ hdZ x a ((x.1 2 2).toInt + gotZ x b (x.1 (19 + a) 5) 0)
theorem e_dbX {n : Nat} {x m S : St} (h : Inv n x m) {a1 : Int32} (g : LT x a1 S) {a b : Nat} (ha : a < (x.1 17 6).toInt.toNat) (ra : lrZ x a1 a = true) (hb : b < (x.1 17 6).toInt.toNat) (rb : lrZ x a1 b = true) : fX3_isDrownedBy (nI (rk (lrZ x a1) a)) (nI (rk (lrZ x a1) b)) S = some (bi (droZ x a b), S) := by
  obtain ⟨h1, h2, h3, h4, h5, h6, h7, h8, h9, h10, h11⟩ := id h
  have r := h5.2.1
  have la := rk_lt ra ha
  have lb := rk_lt rb hb
  have lL := rk_le (lrZ x a1) (x.1 17 6).toInt.toNat
  have hsa := s1_n h5 (k := a) (by omega)
  have gg := gotZ_rg h (s1_n h5 (k := b) (by omega)) 0 (goal_c hsa)
  have z0 := e_hga h g ha ra (z := 0) (by omega)
  have z0' : fX3_isHeardAgainst (nI (rk (lrZ x a1) a)) 0 S = some (bi (hdZ x a ((x.1 2 2).toInt + 0)), S) := z0
  unfold fX3_isDrownedBy
  rw [z0', bnd_some, bi_ite, Int.add_zero, show (20 : Int32) = nI 20 from rfl, nv_mul, nI_add, if_pos (nv_ib (by omega) (by omega)), nv_nt (by omega), (g.2.2.2 a b ha hb ra rb).2, ii64 (by omega), e_hga h g ha ra (z := gotZ x b (x.1 (19 + a) 5) 0) (by omega), bnd_some, bi_ite]
  unfold bi
  by_cases c1 : hdZ x a (x.1 2 2).toInt
  · rw [if_pos c1]
    by_cases c2 : hdZ x a ((x.1 2 2).toInt + gotZ x b (x.1 (19 + a) 5) 0)
    · rw [if_pos c2, if_neg (fun z => z.2 c2)]
    · rw [if_neg c2, if_pos ⟨c1, c2⟩]
  · rw [if_neg c1, if_neg (fun z => c1 z.1)]
theorem cs_one {g : Nat → Int} {B : Nat → Bool} {b : Nat} (hb : B b = true) : ∀ n, (∀ j, j < n → j ≠ b → ¬ B j = true) → cs g B n = if b < n then g b else 0
  | 0, _ => by rw [if_neg (by omega)]; rfl
  | n + 1, h => by
    have ih := cs_one (g := g) hb n (fun j hj => h j (by omega))
    by_cases e : n = b
    · subst e
      rw [cs_t hb, ih, if_neg (by omega), if_pos (by omega), Int.zero_add]
    · rw [cs_f (h n (by omega) e), ih]
      by_cases c : b < n
      · rw [if_pos c, if_pos (by omega)]
      · rw [if_neg c, if_neg (by omega)]
theorem cs_two {g : Nat → Int} {a b n : Nat} (hab : a ≠ b) (hb : b < n) : cs g (fun o => decide (o ≠ a) && (2 ^ b).testBit o) n = g b := by
  rw [cs_one (b := b) (by show (decide (b ≠ a) && (2 ^ b).testBit b) = true; rw [Nat.testBit_two_pow_self, decide_eq_true (show b ≠ a from fun z => hab z.symm)]; rfl) n (fun j hj hne q => by
    have q' : (decide (j ≠ a) && (2 ^ b).testBit j) = true := q
    rw [Nat.testBit_two_pow_of_ne (fun z => hne z.symm), Bool.and_false] at q'
    exact absurd q' (by decide)), if_pos hb]
theorem e_dbM {n : Nat} {x m : St} (h : Inv n x m) {a b : Nat} (ha : a < (x.1 17 6).toInt.toNat) (hb : b < (x.1 17 6).toInt.toNat) (hab : a ≠ b) : fX12_isDrowned (nI a) (nI b) m = some (bi (droZ x a b), m) := by
  obtain ⟨h1, h2, h3, h4, h5, h6, h7, h8, h9, h10, h11⟩ := id h
  have r := h5.2.1
  have rno := h1.2.2.2.1
  have hsa := s1_n h5 (k := a) (by omega)
  have gg := gotZ_rg h (s1_n h5 (k := b) (by omega)) 0 (goal_c hsa)
  have dr := e_drM h (i := a) (by omega) (2 ^ b)
  have ed : drZ x a (fun o => decide (o ≠ a) && (2 ^ b).testBit o) = (x.1 2 2).toInt + gotZ x b (x.1 (19 + a) 5) 0 := by unfold drZ; rw [cs_two hab hb]
  rw [ed] at dr
  have e2 : (m.1 5 (nt 2)).toInt64 = jI (x.1 2 2).toInt := by rw [show nt 2 = 2 from rfl, h1.1 2 (by decide), i64]
  unfold fX12_isDrowned
  rw [e2, e_hdM h (by omega) ⟨by omega, by omega⟩, bnd_some, bi_ite, nb_shl b (by omega), dr, bnd_some, e_hdM h (by omega) ⟨by omega, by omega⟩, bnd_some, bi_ite]
  unfold bi
  by_cases c1 : hdZ x a (x.1 2 2).toInt
  · rw [if_pos c1]
    by_cases c2 : hdZ x a ((x.1 2 2).toInt + gotZ x b (x.1 (19 + a) 5) 0)
    · rw [if_pos c2, if_neg (fun z => z.2 c2)]
    · rw [if_neg c2, if_pos ⟨c1, c2⟩]
  · rw [if_neg c1, if_neg (fun z => c1 z.1)]
/-- a hidden pair -/
abbrev pzZ (x : St) (a b : Nat) : Prop := gotZ x b (x.1 (19 + a) 1) 0 < (x.1 2 3).toInt ∧ gotZ x a (x.1 (19 + b) 1) 0 < (x.1 2 3).toInt ∧ (droZ x a b ∨ droZ x b a)
theorem pz_s (x : St) (a b : Nat) : pzZ x a b ↔ pzZ x b a := ⟨fun z => ⟨z.2.1, z.1, z.2.2.symm⟩, fun z => ⟨z.2.1, z.1, z.2.2.symm⟩⟩
abbrev qzZ (x : St) (a1 : Int32) (a b : Nat) : Bool := lrZ x a1 a && (lrZ x a1 b && decide (pzZ x a b))
theorem qz_s (x : St) (a1 : Int32) (a b : Nat) : qzZ x a1 a b = qzZ x a1 b a := by
  show (lrZ x a1 a && (lrZ x a1 b && decide (pzZ x a b))) = (lrZ x a1 b && (lrZ x a1 a && decide (pzZ x b a)))
  rw [decide_eq_decide.mpr (pz_s x a b)]
  cases lrZ x a1 a <;> cases lrZ x a1 b <;> rfl
theorem qz_i {x : St} {a1 : Int32} {a b : Nat} : qzZ x a1 a b = true ↔ (lrZ x a1 a = true ∧ lrZ x a1 b = true ∧ pzZ x a b) := by
  constructor
  · intro z
    have z1 := Eq.mp (Bool.and_eq_true (lrZ x a1 a) (lrZ x a1 b && decide (pzZ x a b))) z
    have z2 := Eq.mp (Bool.and_eq_true (lrZ x a1 b) (decide (pzZ x a b))) z1.2
    exact ⟨z1.1, z2.1, of_decide_eq_true z2.2⟩
  · intro z
    show (lrZ x a1 a && (lrZ x a1 b && decide (pzZ x a b))) = true
    rw [z.1, z.2.1, decide_eq_true z.2.2]; rfl
abbrev c1Z (x : St) (a1 : Int32) (a n : Nat) : Int := cs (fun _ => 1) (qzZ x a1 a) n
theorem hp_1 {n : Nat} {x m S : St} (h : Inv n x m) {a1 : Int32} (g : LT x a1 S) (kx : Int32 → St → Option (Int32 × St)) {a : Nat} (ha : a < (x.1 17 6).toInt.toNat) (ra : lrZ x a1 a = true) (A : Int) : ∀ (d t f : Nat), t + d = a → d < f → fX3_hiddenPairs_L25 kx (x.1 2 3) (nI (rk (lrZ x a1) a)) f (iI (A + c1Z x a1 a t)) (nI (rk (lrZ x a1) t)) S = kx (iI (A + c1Z x a1 a a)) S
  | 0, t, f + 1, ht, _ => by
    have r := h.2.2.2.2.1.2.1
    have la := rk_le (lrZ x a1) a
    have e : t = a := by omega
    subst e
    show fX3_hiddenPairs_L25_st kx _ _ (fX3_hiddenPairs_L25 kx _ _ f) _ _ S = _
    unfold fX3_hiddenPairs_L25_st
    rw [if_pos ((nv_l (by omega) (by omega)).mpr (Nat.le_refl _))]
  | d + 1, t, f + 1, ht, hf => by
    obtain ⟨h1, h2, h3, h4, h5, h6, h7, h8, h9, h10, h11⟩ := id h
    have r := h5.2.1
    have re := h1.2.2.2.2.1
    by_cases rt : lrZ x a1 t = true
    · have ih := hp_1 h g kx ha ra A d (t + 1) f (by omega) (by omega)
      have lt := rk_lt rt (show t < a by omega)
      have lL := rk_lt ra ha
      have lN := rk_le (lrZ x a1) (x.1 17 6).toInt.toNat
      have htn : t < (x.1 17 6).toInt.toNat := by omega
      have hsa := s1_n h5 (k := a) (by omega)
      have hst := s1_n h5 (k := t) (by omega)
      have g1 := gotZ_rg h hst 0 (home_c hsa)
      have g2 := gotZ_rg h hsa 0 (home_c hst)
      rw [rk_t rt] at ih
      show fX3_hiddenPairs_L25_st kx _ _ (fX3_hiddenPairs_L25 kx _ _ f) _ _ S = _
      unfold fX3_hiddenPairs_L25_st
      simp only [jn_eq]
      rw [if_neg (fun q => by rw [nv_l (by omega) (by omega)] at q; omega), show (20 : Int32) = nI 20 from rfl, nv_mul, nI_add, nv_mul, nI_add, if_pos (nv_ib (by omega) (by omega)), if_pos (nv_ib (by omega) (by omega)), nv_nt (by omega), nv_nt (by omega), (g.2.2.2 a t ha htn ra rt).1, (g.2.2.2 t a htn ha rt ra).1, nv_p1]
      simp only [e_dbX h g ha ra htn rt, e_dbX h g htn rt ha ra, bnd_some, bi_ite]
      have no : ¬ pzZ x a t → fX3_hiddenPairs_L25 kx (x.1 2 3) (nI (rk (lrZ x a1) a)) f (iI (A + c1Z x a1 a t)) (nI (rk (lrZ x a1) t + 1)) S = kx (iI (A + c1Z x a1 a a)) S := fun np => by
        unfold c1Z at ih ⊢
        rw [cs_f (fun q => np (qz_i.mp q).2.2)] at ih
        exact ih
      have yes : pzZ x a t → fX3_hiddenPairs_L25 kx (x.1 2 3) (nI (rk (lrZ x a1) a)) f (iI (A + c1Z x a1 a t) + 1) (nI (rk (lrZ x a1) t + 1)) S = kx (iI (A + c1Z x a1 a a)) S := fun np => by
        unfold c1Z at ih ⊢
        rw [cs_t (qz_i.mpr ⟨ra, rt, np⟩), ← Int.add_assoc, ← iI_add] at ih
        exact ih
      by_cases c1 : gotZ x t (x.1 (19 + a) 1) 0 < (x.1 2 3).toInt
      · rw [if_neg (show ¬ x.1 2 3 ≤ iI (gotZ x t (x.1 (19 + a) 1) 0) from fun q => by rw [iI_of (x.1 2 3), iI_le (by omega) (by omega)] at q; omega)]
        by_cases c2 : gotZ x a (x.1 (19 + t) 1) 0 < (x.1 2 3).toInt
        · rw [if_neg (show ¬ x.1 2 3 ≤ iI (gotZ x a (x.1 (19 + t) 1) 0) from fun q => by rw [iI_of (x.1 2 3), iI_le (by omega) (by omega)] at q; omega), if_neg (show ¬ (1 : Int32) = 0 by decide)]
          by_cases c3 : droZ x a t
          · rw [if_pos c3]; exact yes ⟨c1, c2, Or.inl c3⟩
          · rw [if_neg c3]
            by_cases c4 : droZ x t a
            · rw [if_pos c4]; exact yes ⟨c1, c2, Or.inr c4⟩
            · rw [if_neg c4]; exact no (fun z => by rcases z.2.2 with w | w; exact c3 w; exact c4 w)
        · rw [if_pos (show x.1 2 3 ≤ iI (gotZ x a (x.1 (19 + t) 1) 0) from by rw [iI_of (x.1 2 3), iI_le (by omega) (by omega)]; omega), if_pos trivial]
          exact no (fun z => c2 z.2.1)
      · rw [if_pos (show x.1 2 3 ≤ iI (gotZ x t (x.1 (19 + a) 1) 0) from by rw [iI_of (x.1 2 3), iI_le (by omega) (by omega)]; omega), if_pos trivial]
        exact no (fun z => c1 z.1)
    · have ih := hp_1 h g kx ha ra A d (t + 1) (f + 1) (by omega) (by omega)
      rw [rk_f rt] at ih
      unfold c1Z at ih ⊢
      rw [cs_f (fun q => rt (qz_i.mp q).2.1)] at ih
      exact ih
abbrev FhZ (x : St) (a1 : Int32) (t : Nat) : Int := cs (fun a => c1Z x a1 a a) (lrZ x a1) t
theorem hp_2 {n : Nat} {x m S : St} (h : Inv n x m) {a1 : Int32} (g : LT x a1 S) : ∀ (d t f : Nat), t + d = (x.1 17 6).toInt.toNat → d < f → fX3_hiddenPairs_L14 (x.1 2 3) f (iI (FhZ x a1 t)) (nI (rk (lrZ x a1) t)) S = some (iI (FhZ x a1 (x.1 17 6).toInt.toNat), S)
  | 0, t, f + 1, ht, _ => by
    have r := h.2.2.2.2.1.2.1
    have la := rk_le (lrZ x a1) (x.1 17 6).toInt.toNat
    show fX3_hiddenPairs_L14_st _ (fX3_hiddenPairs_L14 _ f) _ _ S = _
    unfold fX3_hiddenPairs_L14_st
    rw [g.2.1, show t = (x.1 17 6).toInt.toNat by omega, if_pos ((nv_l (by omega) (by omega)).mpr (Nat.le_refl _))]
  | d + 1, t, f + 1, ht, hf => by
    have r := h.2.2.2.2.1.2.1
    have fu := fu_ge
    by_cases rt : lrZ x a1 t = true
    · have ih := hp_2 h g d (t + 1) f (by omega) (by omega)
      have lt := rk_lt rt (show t < (x.1 17 6).toInt.toNat by omega)
      have lN := rk_le (lrZ x a1) (x.1 17 6).toInt.toNat
      rw [rk_t rt] at ih
      unfold FhZ at ih
      rw [cs_t rt] at ih
      show fX3_hiddenPairs_L14_st _ (fX3_hiddenPairs_L14 _ f) _ _ S = _
      unfold fX3_hiddenPairs_L14_st
      rw [g.2.1, if_neg (fun q => by rw [nv_l (by omega) (by omega)] at q; omega), nv_p1]
      have e := hp_1 h g (fun (v2 : Int32) (S3 : St) => fX3_hiddenPairs_L14 (x.1 2 3) f v2 (nI (rk (lrZ x a1) t + 1)) S3) (show t < (x.1 17 6).toInt.toNat by omega) rt (FhZ x a1 t) t 0 FU (by omega) (by omega)
      have e0 : FhZ x a1 t + c1Z x a1 t 0 = FhZ x a1 t := Int.add_zero _
      rw [e0] at e
      exact e.trans ih
    · have ih := hp_2 h g d (t + 1) (f + 1) (by omega) (by omega)
      rw [rk_f rt] at ih
      unfold FhZ at ih ⊢
      rw [cs_f rt] at ih
      exact ih
theorem nb_2 (a : Nat) {i j : Nat} (hi : i < 32) (hj : j < 32) : (((nI a >>> (nI i &&& 31)) &&& (nI a >>> (nI j &&& 31))) &&& 1) = 1 ↔ a.testBit i = true ∧ a.testBit j = true := by
  have e : ((nI a >>> (nI i &&& 31)) &&& (nI a >>> (nI j &&& 31))) &&& 1 = ((nI a >>> (nI i &&& 31)) &&& 1) &&& ((nI a >>> (nI j &&& 31)) &&& 1) := b_ext (fun k hk => by
    simp only [b_and]
    cases bt (nI a >>> (nI i &&& 31)) k <;> cases bt (nI a >>> (nI j &&& 31)) k <;> cases bt 1 k <;> rfl)
  rw [e, nb_bit a hi, nb_bit a hj]
  cases a.testBit i <;> cases a.testBit j <;> decide
theorem hq_1 {n : Nat} {x m : St} (h : Inv n x m) (a1 : Int32) (kx : Int32 → St → Option (Int32 × St)) {a : Nat} (ha : a < (x.1 17 6).toInt.toNat) (A : Int) : ∀ (d t f : Nat), t + d = (x.1 17 6).toInt.toNat → a < t → d < f → fX12_hidden_L41 kx (nI (bs (lrZ x a1) (x.1 17 6).toInt.toNat)) (nI a) f (iI (A + c1Z x a1 a t)) (nI t) m = kx (iI (A + c1Z x a1 a (x.1 17 6).toInt.toNat)) m
  | 0, t, f + 1, ht, _, _ => by
    obtain ⟨h1, h2, h3, h4, h5, h6, h7, h8, h9, h10, h11⟩ := id h
    have r := h5.2.1
    obtain ⟨N, eN, hN, l20⟩ := sndN h5
    show fX12_hidden_L41_st kx _ _ (fX12_hidden_L41 kx _ _ f) _ _ m = _
    unfold fX12_hidden_L41_st
    rw [h5.1, eN, if_pos ((nv_l (by omega) (by omega)).mpr (by omega)), show t = (x.1 17 6).toInt.toNat by omega, ← eN]
  | d + 1, t, f + 1, ht, hat, hf => by
    have ih := hq_1 h a1 kx ha A d (t + 1) f (by omega) (by omega) (by omega)
    obtain ⟨h1, h2, h3, h4, h5, h6, h7, h8, h9, h10, h11⟩ := id h
    have r := h5.2.1
    have re := h1.2.2.2.2.1
    obtain ⟨N, eN, hN, l20⟩ := sndN h5
    have htn : t < (x.1 17 6).toInt.toNat := by omega
    have hsa := s1_n h5 (k := a) (by omega)
    have hst := s1_n h5 (k := t) (by omega)
    have g1 := gotZ_rg h hst 0 (home_c hsa)
    have g2 := gotZ_rg h hsa 0 (home_c hst)
    have hr1 := e_heaM h (i := a) (by omega) (2 ^ t)
    have hr2 := e_heaM h (i := t) (by omega) (2 ^ a)
    have er1 : hrZ x a (fun o => decide (o ≠ a) && (2 ^ t).testBit o) = gotZ x t (x.1 (19 + a) 1) 0 := by unfold hrZ; rw [cs_two (by omega) htn]
    have er2 : hrZ x t (fun o => decide (o ≠ t) && (2 ^ a).testBit o) = gotZ x a (x.1 (19 + t) 1) 0 := by unfold hrZ; rw [cs_two (by omega) ha]
    rw [er1] at hr1
    rw [er2] at hr2
    have nle : ¬ nI N ≤ nI t := fun q => by rw [nv_l (by omega) (by omega)] at q; omega
    have e3 : (m.1 5 (nt 3)).toInt64 = jI (x.1 2 3).toInt := by rw [show nt 3 = 3 from rfl, h1.1 3 (by decide), i64]
    show fX12_hidden_L41_st kx _ _ (fX12_hidden_L41 kx _ _ f) _ _ m = _
    unfold fX12_hidden_L41_st
    simp only [jn_eq, lt_eq, nv_p1, nb_shl t (by omega), nb_shl a (by omega), hr1, hr2, bnd_some, e3, e_dbM h ha htn (by omega), e_dbM h htn ha (by omega), bi_ite]
    rw [h5.1, eN, if_neg nle]
    have no : ¬ qzZ x a1 a t = true → fX12_hidden_L41 kx (nI (bs (lrZ x a1) (x.1 17 6).toInt.toNat)) (nI a) f (iI (A + c1Z x a1 a t)) (nI (t + 1)) m = kx (iI (A + c1Z x a1 a (x.1 17 6).toInt.toNat)) m := fun np => by
      unfold c1Z at ih ⊢
      rw [cs_f np] at ih
      exact ih
    have yes : qzZ x a1 a t = true → fX12_hidden_L41 kx (nI (bs (lrZ x a1) (x.1 17 6).toInt.toNat)) (nI a) f (iI (A + c1Z x a1 a t) + 1) (nI (t + 1)) m = kx (iI (A + c1Z x a1 a (x.1 17 6).toInt.toNat)) m := fun np => by
      unfold c1Z at ih ⊢
      rw [cs_t np, ← Int.add_assoc, ← iI_add] at ih
      exact ih
    rw [eN] at no yes
    have t1 : (nI N).toInt.toNat = N := by rw [nv_t (by omega)]; omega
    rw [t1] at no yes ⊢
    by_cases bt' : (bs (lrZ x a1) N).testBit a = true ∧ (bs (lrZ x a1) N).testBit t = true
    · have bb := bt'
      rw [bs_bit, bs_bit, decide_eq_true (show a < N by omega), decide_eq_true (show t < N by omega), Bool.true_and, Bool.true_and] at bb
      rw [if_pos ((nb_2 _ (by omega) (by omega)).mpr bt'), if_neg (show ¬ (1 : Int32) = 0 by decide)]
      have hq : ∀ p : pzZ x a t, qzZ x a1 a t = true := fun p => qz_i.mpr ⟨bb.1, bb.2, p⟩
      have hq' : qzZ x a1 a t = true → pzZ x a t := fun z => (qz_i.mp z).2.2
      by_cases c1 : gotZ x t (x.1 (19 + a) 1) 0 < (x.1 2 3).toInt
      · rw [if_neg (show ¬ jI (x.1 2 3).toInt ≤ jI (gotZ x t (x.1 (19 + a) 1) 0) from fun q => by rw [jI_le (by omega) (by omega)] at q; omega)]
        by_cases c2 : gotZ x a (x.1 (19 + t) 1) 0 < (x.1 2 3).toInt
        · rw [if_neg (show ¬ jI (x.1 2 3).toInt ≤ jI (gotZ x a (x.1 (19 + t) 1) 0) from fun q => by rw [jI_le (by omega) (by omega)] at q; omega), Int32.add_zero]
          by_cases c3 : droZ x a t
          · rw [if_pos c3]; exact yes (hq ⟨c1, c2, Or.inl c3⟩)
          · rw [if_neg c3]
            by_cases c4 : droZ x t a
            · rw [if_pos c4]; exact yes (hq ⟨c1, c2, Or.inr c4⟩)
            · rw [if_neg c4]; exact no (fun z => by rcases (hq' z).2.2 with w | w; exact c3 w; exact c4 w)
        · rw [if_pos (show jI (x.1 2 3).toInt ≤ jI (gotZ x a (x.1 (19 + t) 1) 0) from by rw [jI_le (by omega) (by omega)]; omega)]
          exact no (fun z => c2 (hq' z).2.1)
      · rw [if_pos (show jI (x.1 2 3).toInt ≤ jI (gotZ x t (x.1 (19 + a) 1) 0) from by rw [jI_le (by omega) (by omega)]; omega)]
        exact no (fun z => c1 (hq' z).1)
    · rw [if_neg (fun q => bt' ((nb_2 _ (by omega) (by omega)).mp q)), if_pos rfl]
      refine no (fun z => bt' ?_)
      have z' := qz_i.mp z
      rw [bs_bit, bs_bit, decide_eq_true (show a < N by omega), decide_eq_true (show t < N by omega), z'.1, z'.2.1]
      exact ⟨rfl, rfl⟩
