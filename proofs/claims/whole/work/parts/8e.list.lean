/-! ===== listen: who speaks now ===== -/
theorem got_c {n : Nat} {x m S : St} (h : Inv n x m) (e : fEq x S) (c : Int32) (B : Nat → Bool) : cs (fun o => gotZ S o c 0) B (S.1 17 6).toInt.toNat = cs (fun o => gotZ x o c 0) B (x.1 17 6).toInt.toNat := by
  have r := h.2.2.2.2.1.2.1
  rw [e.2.2.1]
  refine cs_cg _ (fun j hj => ⟨rfl, fun _ => ?_⟩)
  exact gotZ_ff e (by omega) (s1_n h.2.2.2.2.1 (k := j) (by omega)) c 0
theorem up_b {x : St} {a1 : Int32} (a sp : Nat) : ∀ j, j < (x.1 17 6).toInt.toNat → (decide (j ≠ a) && (upZ' (lrZ x a1) sp (x.1 17 6).toInt.toNat).testBit j) = spB x a1 a sp j := fun j hj => by
  show _ = (lrZ x a1 j && (decide (j ≠ a) && sp.testBit (rk (lrZ x a1) j)))
  rw [bs_bit, decide_eq_true hj, Bool.true_and]
  cases lrZ x a1 j <;> cases decide (j ≠ a) <;> rfl
theorem e_heaS {n : Nat} {x m S M : St} (h : Inv n x m) (hS : Inv n S M) {a1 : Int32} (g : LT x a1 S) {a : Nat} (ha : a < (x.1 17 6).toInt.toNat) (sp : Nat) : fX12_hears (nI a) (nI (upZ' (lrZ x a1) sp (x.1 17 6).toInt.toNat)) M = some (jI (hrZ x a (spB x a1 a sp)), M) := by
  have r := h.2.2.2.2.1.2.1
  have e := e_heaM hS (i := a) (by rw [g.1.2.2.1]; omega) (upZ' (lrZ x a1) sp (x.1 17 6).toInt.toNat)
  rw [e]
  unfold hrZ
  rw [got_c h g.1, g.1.1 (19 + a) (by unfold fcell; omega), cs_cg _ (fun j hj => ⟨up_b a sp j hj, fun _ => rfl⟩)]
theorem e_drS {n : Nat} {x m S M : St} (h : Inv n x m) (hS : Inv n S M) {a1 : Int32} (g : LT x a1 S) {a : Nat} (ha : a < (x.1 17 6).toInt.toNat) (sp : Nat) : fX12_drownsBy (nI a) (nI (upZ' (lrZ x a1) sp (x.1 17 6).toInt.toNat)) M = some (jI (drZ x a (spB x a1 a sp)), M) := by
  have r := h.2.2.2.2.1.2.1
  have e := e_drM hS (i := a) (by rw [g.1.2.2.1]; omega) (upZ' (lrZ x a1) sp (x.1 17 6).toInt.toNat)
  rw [e]
  unfold drZ
  rw [got_c h g.1, g.1.1 (19 + a) (by unfold fcell; omega), g.1.1 2 (by unfold fcell; omega), cs_cg _ (fun j hj => ⟨up_b a sp j hj, fun _ => rfl⟩)]
theorem e_hdS {n : Nat} {x m S M : St} (h : Inv n x m) (hS : Inv n S M) {a1 : Int32} (g : LT x a1 S) {a : Nat} (ha : a < (x.1 17 6).toInt.toNat) {z : Int} (hz : 0 ≤ z ∧ z ≤ 10000000000) : fX12_isHeard (nI a) (jI z) M = some (bi (hdZ x a z), M) := by
  have r := h.2.2.2.2.1.2.1
  have e := e_hdM hS (i := a) (by rw [g.1.2.2.1]; omega) hz
  rw [e]
  have ep : hdZ S a z = hdZ x a z := by
    unfold hdZ
    rw [g.1.1 (19 + a) (by unfold fcell; omega), gotZ_ff g.1 (by omega) (s1_n h.2.2.2.2.1 (by omega)), moodZ_ff g.1 (by omega)]
  unfold bi
  simp only [ep]
theorem up_set {R : Nat → Bool} {t now : Nat} (rt : R t = true) : upZ' R (now ||| 2 ^ rk R t) (t + 1) = upZ' R now t ||| 2 ^ t := by
  apply Nat.eq_of_testBit_eq
  intro j
  rw [Nat.testBit_or, bs_bit, bs_bit, Nat.testBit_two_pow, Nat.testBit_or, Nat.testBit_two_pow]
  by_cases e : j = t
  · subst e
    rw [decide_eq_true (show j < j + 1 by omega), rt, decide_eq_true (rfl : rk R j = rk R j), decide_eq_true (rfl : j = j)]
    simp
  · rw [decide_eq_false (show ¬ t = j from fun z => e z.symm), Bool.or_false]
    by_cases rj : R j = true
    · by_cases l : j < t
      · have := rk_lt rj l
        rw [decide_eq_true (show j < t + 1 by omega), decide_eq_true l, decide_eq_false (show ¬ rk R t = rk R j by omega), Bool.or_false]
      · rw [decide_eq_false (show ¬ j < t + 1 by omega), decide_eq_false l]; rfl
    · have : R j = false := by cases z : R j; rfl; exact absurd z rj
      rw [this, Bool.false_and, Bool.false_and, Bool.and_false, Bool.and_false]
theorem up_nset {R : Nat → Bool} {t now : Nat} (rt : R t = true) (hn : now < 2 ^ rk R t) : upZ' R now (t + 1) = upZ' R now t := by
  rw [up_t rt, if_neg (by rw [Nat.testBit_lt_two_pow hn]; decide), Nat.add_zero]
theorem dec_l {n : Nat} {x m S M : St} (h : Inv n x m) (hS : Inv n S M) {a1 : Int32} (g : LT x a1 S) (kx kx' : Int32 → Int32 → St → Option (Int32 × St)) (u1 u2 u3 w1 w2 w3 : Int32) (bf : Nat) : ∀ (d t f f' : Nat) (dr : Int32) (now : Nat), t + d = (x.1 17 6).toInt.toNat → d < f → d < f' → now < 2 ^ rk (lrZ x a1) t → ∃ (dr' : Int32) (now' : Nat), now' < 2 ^ rk (lrZ x a1) (x.1 17 6).toInt.toNat ∧ fX3_run_L55 kx u1 u2 (nI bf) u3 f dr (nI now) (nI (rk (lrZ x a1) t)) S = kx dr' (nI now') S ∧ fX12_listen_L114 kx' w1 (nI (bs (lrZ x a1) (x.1 17 6).toInt.toNat)) (nI (upZ' (lrZ x a1) bf (x.1 17 6).toInt.toNat)) w2 w3 f' dr (nI (upZ' (lrZ x a1) now t)) (nI t) M = kx' dr' (nI (upZ' (lrZ x a1) now' (x.1 17 6).toInt.toNat)) M
  | 0, t, f + 1, f' + 1, dr, now, ht, _, _, hnow => by
    have r := h.2.2.2.2.1.2.1
    obtain ⟨N, eN, hN, l20⟩ := sndN h.2.2.2.2.1
    have lL := rk_le (lrZ x a1) (x.1 17 6).toInt.toNat
    have et : t = (x.1 17 6).toInt.toNat := by omega
    refine ⟨dr, now, by rw [← et]; exact hnow, ?_, ?_⟩
    · show fX3_run_L55_st kx u1 u2 (nI bf) u3 (fX3_run_L55 kx u1 u2 (nI bf) u3 f) dr (nI now) _ S = _
      unfold fX3_run_L55_st
      rw [g.2.1, et, if_pos ((nv_l (by omega) (by omega)).mpr (Nat.le_refl _))]
    · show fX12_listen_L114_st kx' w1 _ _ w2 w3 (fX12_listen_L114 kx' w1 _ _ w2 w3 f') dr _ (nI t) M = _
      unfold fX12_listen_L114_st
      rw [hS.2.2.2.2.1.1, g.1.2.2.1, if_pos (show x.1 17 6 ≤ nI t by rw [eN, nv_l (by omega) (by omega)]; omega), et]
  | d + 1, t, f + 1, f' + 1, dr, now, ht, hf, hf', hnow => by
    have r := h.2.2.2.2.1.2.1
    obtain ⟨N, eN, hN, l20⟩ := sndN h.2.2.2.2.1
    have lL := rk_le (lrZ x a1) (x.1 17 6).toInt.toNat
    have htn : t < (x.1 17 6).toInt.toNat := by omega
    have nleM : ¬ M.1 0 9 ≤ nI t := fun q => by rw [hS.2.2.2.2.1.1, g.1.2.2.1, eN, nv_l (by omega) (by omega)] at q; omega
    have hbit : (bs (lrZ x a1) (x.1 17 6).toInt.toNat).testBit t = lrZ x a1 t := by rw [bs_bit, decide_eq_true htn, Bool.true_and]
    by_cases rt : lrZ x a1 t = true
    · have lt := rk_lt rt htn
      have hsS := s1_n hS.2.2.2.2.1 (k := t) (by rw [g.1.2.2.1]; omega)
      have f6 : M.1 12 t = S.1 (19 + t) 6 := hsS.1 6 (by decide)
      have hsx := s1_n h.2.2.2.2.1 (k := t) (by omega)
      have so := so_c h g htn rt 50 bf (x.1 (19 + t) 1) (home_c hsx) (fun b hb rb => (g.2.2.2 t b htn hb rt rb).1)
      have he := e_heaS h hS g htn bf
      have e3 : (M.1 5 (nt 3)).toInt64 = (S.1 2 (nt 3)).toInt64 := by rw [show nt 3 = 3 from rfl, hS.1.1 3 (by decide)]
      have p2 : 2 ^ (rk (lrZ x a1) t + 1) = 2 ^ rk (lrZ x a1) t * 2 := Nat.pow_succ 2 _
      have ihA := dec_l h hS g kx kx' u1 u2 u3 w1 w2 w3 bf d (t + 1) f f' (1103515245 * dr + 12345) now (by omega) (by omega) (by omega) (by rw [rk_t rt, p2]; omega)
      have ihB := dec_l h hS g kx kx' u1 u2 u3 w1 w2 w3 bf d (t + 1) f f' (1103515245 * dr + 12345) (now ||| 2 ^ rk (lrZ x a1) t) (by omega) (by omega) (by omega) (by rw [rk_t rt]; exact Nat.or_lt_two_pow (by rw [p2]; omega) (by rw [p2]; have := Nat.two_pow_pos (rk (lrZ x a1) t); omega))
      rw [rk_t rt, up_nset rt hnow] at ihA
      rw [rk_t rt, up_set rt, ← nx_or, ← nx_or, ← nb_shl t (by omega), ← nb_shl (rk (lrZ x a1) t) (by omega)] at ihB
      show ∃ (dr' : Int32) (now' : Nat), _ ∧ fX3_run_L55_st kx u1 u2 (nI bf) u3 (fX3_run_L55 kx u1 u2 (nI bf) u3 f) dr (nI now) _ S = _ ∧ fX12_listen_L114_st kx' w1 _ _ w2 w3 (fX12_listen_L114 kx' w1 _ _ w2 w3 f') dr _ (nI t) M = _
      unfold fX3_run_L55_st fX12_listen_L114_st
      simp only [jn_eq, lt_eq]
      rw [g.2.1, if_neg (fun q => by rw [nv_l (by omega) (by omega)] at q; omega), if_neg nleM, if_pos (show ib (nI (rk (lrZ x a1) t)) 20 from nv_ib (by omega) (by omega)), nv_nt (a := rk (lrZ x a1) t) (by omega), g.2.2.1 t htn rt, if_pos (show ib (nI t) 20 from nv_ib (by omega) (by omega)), nv_nt (a := t) (by omega), if_pos ((nb_1 _ (by omega)).mpr (by rw [hbit]; exact rt)), so, he, bnd_some, bnd_some, f6, e3, nv_p1, nv_p1, if_pos (show ib (nI t) 20 from nv_ib (by omega) (by omega))]
      by_cases W : ire (S.1 (19 + t) 6) 100 ≤ ire (ush (1103515245 * dr + 12345) 16) 100
      · rw [if_pos W, if_pos W, if_pos rfl, ite_self]; exact ihA
      · rw [if_neg W, if_neg W, if_neg (show ¬ (1 : Int32) = 0 by decide)]
        by_cases E : (S.1 2 (nt 3)).toInt64 ≤ jI (hrZ x t (spB x a1 t bf))
        · rw [if_pos E, if_pos E]; exact ihA
        · rw [if_neg E, if_neg E]; exact ihB
    · have ih := dec_l h hS g kx kx' u1 u2 u3 w1 w2 w3 bf d (t + 1) (f + 1) f' dr now (by omega) (by omega) (by omega) (by rw [rk_f rt]; exact hnow)
      rw [rk_f rt, up_f rt] at ih
      obtain ⟨dr', now', i1, i2, i3⟩ := ih
      refine ⟨dr', now', i1, i2, ?_⟩
      show fX12_listen_L114_st kx' w1 _ _ w2 w3 (fX12_listen_L114 kx' w1 _ _ w2 w3 f') dr _ (nI t) M = _
      unfold fX12_listen_L114_st
      simp only [jn_eq]
      rw [if_neg nleM, if_neg (fun q => rt (by rw [← hbit]; exact (nb_1 _ (by omega)).mp q)), nv_p1]
      exact i3
/-! ===== listen: what is noted ===== -/
theorem Inv_ls {n : Nat} {S S' M M' : St} (h : Inv n S M) (hx : ∀ k, k < 52 ∨ 55 < k → S'.1 k = S.1 k) (hm : ∀ k, k < 21 ∨ 24 < k → M'.1 k = M.1 k) (x2 : S'.2 = S.2) (m2 : M'.2 = M.2) (hl : I_lis S' M') : Inv n S' M' := by
  obtain ⟨h1, h2, h3, h4, h5, h6, h7, h8, h9, h10, h11⟩ := h
  refine ⟨I_told_c (hx 2 (by omega)) (hm 5 (by omega)) h1, I_land_c (hx 16 (by omega)) (by rw [hm 0 (by omega)]) (by rw [hm 0 (by omega)]) h2, I_sheet_c (fun k a b => hx k (by omega)) (fun k a b => by rw [x2]) (hm 1 (by omega)) (hm 2 (by omega)) (by rw [m2]) h3, I_tick_c (by rw [hx 17 (by omega)]) (by rw [hm 0 (by omega)]) h4, I_send_c (hx 16 (by omega)) (by rw [hx 17 (by omega)]) (fun k a b => hx k (by omega)) (by rw [hm 0 (by omega)]) (fun k a b => hm k (by omega)) h5, hl, I_bid_c (hx 56 (by omega)) (hx 57 (by omega)) (hx 58 (by omega)) (by rw [hm 0 (by omega)]) (hm 25 (by omega)) (hm 26 (by omega)) h7, I_text_c (by rw [hx 59 (by omega)]) (hx 60 (by omega)) (by rw [hm 0 (by omega)]) (hm 27 (by omega)) h8, I_box_c (hx 16 (by omega)) (hx 67 (by omega)) (hx 68 (by omega)) (hx 69 (by omega)) (by rw [hm 0 (by omega)]) (hm 34 (by omega)) (hm 35 (by omega)) h9, I_tow_c (hx 16 (by omega)) (by rw [hx 70 (by omega)]) (by rw [hx 70 (by omega)]) (fun k a b => hx k (by omega)) (by rw [hm 0 (by omega)]) (by rw [hm 0 (by omega)]) (fun k a b => hm k (by omega)) h10, I_find_c (by rw [hx 0 (by omega)]) (by rw [hm 0 (by omega)]) h11⟩
/-- how quiet each was, alike in both, and bounded -/
def QB (x : St) (a1 : Int32) (S M : St) (t T : Nat) : Prop := ∀ j, j < (x.1 17 6).toInt.toNat → lrZ x a1 j = true → S.1 52 (rk (lrZ x a1) j) = M.1 24 j ∧ 0 ≤ (M.1 24 j).toInt ∧ (M.1 24 j).toInt ≤ (if j < t then T + 1 else T : Nat) ∧ 0 ≤ (S.1 55 j).toInt
