/-! ===== listen: a note ===== -/
theorem nst {n : Nat} {x m S M : St} (h : Inv n x m) (hS : Inv n S M) {a1 : Int32} (g : LT x a1 S) {t T now : Nat} (hT : T < 1000) (htn : t < (x.1 17 6).toInt.toNat) (rt : lrZ x a1 t = true) (q : QB x a1 S M t T) (kx' : Int32 → St → Option (Int32 × St)) (w1 w2 w3 : Int32) (sum : Int32) (f' : Nat) : ∃ S' M', fX3_note (nI (rk (lrZ x a1) t)) (nI now) S = some ((), S') ∧ fX12_listen_L208 kx' w1 (nI (bs (lrZ x a1) (x.1 17 6).toInt.toNat)) w2 w3 (nI (upZ' (lrZ x a1) now (x.1 17 6).toInt.toNat)) (f' + 1) sum (nI t) M = fX12_listen_L208 kx' w1 (nI (bs (lrZ x a1) (x.1 17 6).toInt.toNat)) w2 w3 (nI (upZ' (lrZ x a1) now (x.1 17 6).toInt.toNat)) f' (sum + (if now.testBit (rk (lrZ x a1) t) = true then 1 else 0)) (nI (t + 1)) M' ∧ Inv n S' M' ∧ LT x a1 S' ∧ QB x a1 S' M' (t + 1) T := by
  have r := h.2.2.2.2.1.2.1
  obtain ⟨N, eN, hN, l20⟩ := sndN h.2.2.2.2.1
  have lt := rk_lt rt htn
  have lL := rk_le (lrZ x a1) (x.1 17 6).toInt.toNat
  have hbit : (bs (lrZ x a1) (x.1 17 6).toInt.toNat).testBit t = true := by rw [bs_bit, decide_eq_true htn, Bool.true_and]; exact rt
  have hup : (upZ' (lrZ x a1) now (x.1 17 6).toInt.toNat).testBit t = now.testBit (rk (lrZ x a1) t) := by rw [bs_bit, decide_eq_true htn, Bool.true_and, rt, Bool.true_and]
  have nleM : ¬ M.1 0 9 ≤ nI t := fun q => by rw [hS.2.2.2.2.1.1, g.1.2.2.1, eN, nv_l (by omega) (by omega)] at q; omega
  have ib20 : ib (nI t) 20 := nv_ib (by omega) (by omega)
  have ibr : ib (nI (rk (lrZ x a1) t)) 20 := nv_ib (by omega) (by omega)
  have hnt : nt (nI t) = t := nv_nt (by omega)
  have hnr : nt (nI (rk (lrZ x a1) t)) = rk (lrZ x a1) t := nv_nt (by omega)
  have hsx := s1_n h.2.2.2.2.1 (k := t) (by omega)
  obtain ⟨q1, q2, q3, q4⟩ := q t htn rt
  rw [if_neg (by omega)] at q3
  obtain ⟨l1, l2, l3⟩ := hS.2.2.2.2.2.1 t (by omega)
  have su : (M.1 24 t + 1).toInt = (M.1 24 t).toInt + 1 := succ_i (by omega)
  have h10 : ¬ (1 : Int32) = 0 := by decide
  by_cases sp : now.testBit (rk (lrZ x a1) t) = true
  · have e6 : (if ((nI (upZ' (lrZ x a1) now (x.1 17 6).toInt.toNat) >>> (nI t &&& 31)) &&& 1) = 1 then (1 : Int32) else 0) = 1 := if_pos ((nb_1 _ (by omega)).mpr (by rw [hup]; exact sp))
    have g2 : LT x a1 (wi (wi S 52 (rk (lrZ x a1) t) 0) 53 t (S.1 53 t + 1)) := LT_wi (LT_wi g (by omega)) (by omega)
    have hS2 : Inv n (wi (wi S 52 (rk (lrZ x a1) t) 0) 53 t (S.1 53 t + 1)) (wi M 21 t (M.1 21 t + 1)) := Inv_ls hS (fun k hk => by rw [wi_c _ _ (by omega), wi_c _ _ (by omega)]) (fun k hk => by rw [wi_c _ _ (by omega)]) rfl rfl (fun i hi => by
      obtain ⟨b1, b2, b3⟩ := hS.2.2.2.2.2.1 i hi
      rw [wi_c (a := 22) _ _ (by omega), wi_c (a := 23) _ _ (by omega), wi_c (a := 54) _ _ (by omega), wi_c (a := 54) _ _ (by omega), wi_c (a := 55) _ _ (by omega), wi_c (a := 55) _ _ (by omega)]
      refine ⟨?_, b2, b3⟩
      by_cases e : i = t
      · subst e; rw [wi_s, wi_s, l1]
      · rw [wi_n _ _ (by omega), wi_n _ _ (by omega), wi_c _ _ (by omega)]; exact b1)
    have so := so_c h g2 htn rt 51 now (x.1 (19 + t) 5) (goal_c hsx) (fun b hb rb => (g2.2.2.2 t b htn hb rt rb).2)
    have crg := cs_rg (g := fun o => gotZ x o (x.1 (19 + t) 5) 0) (B := spB x a1 t now) (x.1 17 6).toInt.toNat (fun j hj => gotZ_rg h (s1_n h.2.2.2.2.1 (k := j) (by omega)) 0 (goal_c hsx))
    have hga := e_hga h g2 htn rt (z := cs (fun o => gotZ x o (x.1 (19 + t) 5) 0) (spB x a1 t now) (x.1 17 6).toInt.toNat) ⟨crg.1, by omega⟩
    have dr := drZ_rg h (i := t) (by omega) (spB x a1 t now)
    have eM1 := e_drS h hS2 g2 htn now
    have eM2 := e_hdS h hS2 g2 htn (z := drZ x t (spB x a1 t now)) ⟨by omega, by omega⟩
    have X : fX3_note (nI (rk (lrZ x a1) t)) (nI now) S = some ((), if hdZ x t (drZ x t (spB x a1 t now)) then wi (wi (wi S 52 (rk (lrZ x a1) t) 0) 53 t (S.1 53 t + 1)) 54 t (S.1 54 t + 1) else wi (wi S 52 (rk (lrZ x a1) t) 0) 53 t (S.1 53 t + 1)) := by
      unfold fX3_note
      simp only [lt_eq, if_pos ibr, hnr]
      rw [g.2.2.1 t htn rt, if_neg (fun z => (nb_0 now (by omega)).mp z sp), hnt]
      simp only [if_pos ib20]
      rw [wi_c (a := 53) (k := 52) _ _ (by omega), so, bnd_some, hga, bnd_some, bi_ite]
      by_cases c : hdZ x t ((x.1 2 2).toInt + cs (fun o => gotZ x o (x.1 (19 + t) 5) 0) (spB x a1 t now) (x.1 17 6).toInt.toNat)
      · rw [if_pos c, if_pos (show hdZ x t (drZ x t (spB x a1 t now)) from c), wi_c (a := 54) _ _ (by omega), wi_c (a := 54) _ _ (by omega)]
      · rw [if_neg c, if_neg (show ¬ hdZ x t (drZ x t (spB x a1 t now)) from c)]
    have Y : fX12_listen_L208 kx' w1 (nI (bs (lrZ x a1) (x.1 17 6).toInt.toNat)) w2 w3 (nI (upZ' (lrZ x a1) now (x.1 17 6).toInt.toNat)) (f' + 1) sum (nI t) M = fX12_listen_L208 kx' w1 (nI (bs (lrZ x a1) (x.1 17 6).toInt.toNat)) w2 w3 (nI (upZ' (lrZ x a1) now (x.1 17 6).toInt.toNat)) f' (sum + 1) (nI (t + 1)) (wi (wi (wi (wi M 21 t (M.1 21 t + 1)) 22 t (M.1 22 t + (if hdZ x t (drZ x t (spB x a1 t now)) then 1 else 0))) 24 t 0) 23 t (M.1 23 t)) := by
      have c23 : ∀ w, (wi (wi (wi M 21 t (M.1 21 t + 1)) 22 t (M.1 22 t + w)) 24 t 0).1 23 t = M.1 23 t := fun w => by rw [wi_c _ _ (by omega), wi_c _ _ (by omega), wi_c _ _ (by omega)]
      have le : (0 : Int32) ≤ M.1 23 t := by rw [l3]; exact le0 q4
      show fX12_listen_L208_st kx' w1 _ w2 w3 _ (fX12_listen_L208 kx' w1 _ w2 w3 _ f') sum (nI t) M = _
      unfold fX12_listen_L208_st
      simp only [jn_eq, lt_eq, if_pos ib20, hnt]
      rw [if_neg nleM, if_pos ((nb_1 _ (by omega)).mpr hbit), e6]
      simp only [if_neg h10]
      rw [eM1, bnd_some, eM2, bnd_some, bi_ite, wi_c (a := 22) (k := 21) _ _ (by omega)]
      by_cases c : hdZ x t (drZ x t (spB x a1 t now))
      · rw [if_pos c, if_pos c, wi_s, c23, if_pos le, nv_p1]
      · rw [if_neg c, if_neg c, wi_s, c23, if_pos le, nv_p1]
    have fin : ∀ (w : Int32) (S' : St), (∀ k, k < 52 ∨ 55 < k → S'.1 k = S.1 k) → S'.2 = S.2 → S'.1 55 = S.1 55 → S'.1 52 = (wi S 52 (rk (lrZ x a1) t) 0).1 52 → S'.1 53 = (wi S 53 t (S.1 53 t + 1)).1 53 → (∀ i, S'.1 54 i = if i = t then S.1 54 t + w else S.1 54 i) → Inv n S' (wi (wi (wi (wi M 21 t (M.1 21 t + 1)) 22 t (M.1 22 t + w)) 24 t 0) 23 t (M.1 23 t)) ∧ QB x a1 S' (wi (wi (wi (wi M 21 t (M.1 21 t + 1)) 22 t (M.1 22 t + w)) 24 t 0) 23 t (M.1 23 t)) (t + 1) T := by
      intro w S' k0 k1 k2 k3 k4 k5
      refine ⟨Inv_ls hS k0 (fun k hk => by rw [wi_c _ _ (by omega), wi_c _ _ (by omega), wi_c _ _ (by omega), wi_c _ _ (by omega)]) k1 rfl (fun i hi => ?_), fun j hj rj => ?_⟩
      · obtain ⟨b1, b2, b3⟩ := hS.2.2.2.2.2.1 i hi
        refine ⟨?_, ?_, ?_⟩
        · rw [wi_c _ _ (by omega), wi_c _ _ (by omega), wi_c _ _ (by omega), k4]
          by_cases e : i = t
          · subst e; rw [wi_s, wi_s, l1]
          · rw [wi_n _ _ (by omega), wi_n _ _ (by omega)]; exact b1
        · rw [wi_c _ _ (by omega), wi_c _ _ (by omega), k5]
          by_cases e : i = t
          · subst e; rw [wi_s, if_pos rfl, l2]
          · rw [wi_n _ _ (by omega), wi_c _ _ (by omega), if_neg e]; exact b2
        · rw [k2]
          by_cases e : i = t
          · subst e; rw [wi_s]; exact b3
          · rw [wi_n _ _ (by omega), wi_c _ _ (by omega), wi_c _ _ (by omega), wi_c _ _ (by omega)]; exact b3
      · obtain ⟨d1, d2, d3, d4⟩ := q j hj rj
        rw [k2, k3, wi_c (a := 24) (k := 23) _ _ (by omega)]
        by_cases e : j = t
        · subst e
          rw [wi_s, wi_s]
          refine ⟨rfl, by decide, ?_, d4⟩
          rw [l32_0]; omega
        · rw [wi_n _ _ (fun z => e (rk_inj rj rt z.2)), wi_n _ _ (by omega), wi_c _ _ (by omega), wi_c _ _ (by omega)]
          refine ⟨d1, d2, ?_, d4⟩
          by_cases l : j < t
          · rw [if_pos l] at d3; rw [if_pos (by omega)]; exact d3
          · rw [if_neg l] at d3; rw [if_neg (by omega)]; exact d3
    rw [X, Y, if_pos sp]
    by_cases c : hdZ x t (drZ x t (spB x a1 t now))
    · rw [if_pos c, if_pos c]
      obtain ⟨z1, z2⟩ := fin 1 (wi (wi (wi S 52 (rk (lrZ x a1) t) 0) 53 t (S.1 53 t + 1)) 54 t (S.1 54 t + 1)) (fun k hk => by rw [wi_c _ _ (by omega), wi_c _ _ (by omega), wi_c _ _ (by omega)]) rfl (by rw [wi_c _ _ (by omega), wi_c _ _ (by omega), wi_c _ _ (by omega)]) (by rw [wi_c _ _ (by omega), wi_c _ _ (by omega)]) (by
        rw [wi_c _ _ (by omega)]
        funext i
        by_cases e : i = t
        · subst e; rw [wi_s, wi_s]
        · rw [wi_n _ _ (by omega), wi_n _ _ (by omega), wi_n _ _ (by omega)]) (fun i => by
        by_cases e : i = t
        · subst e; rw [wi_s, if_pos rfl]
        · rw [wi_n _ _ (by omega), if_neg e, wi_c _ _ (by omega), wi_c _ _ (by omega)])
      exact ⟨_, _, rfl, rfl, z1, LT_wi g2 (by omega), z2⟩
    · rw [if_neg c, if_neg c]
      obtain ⟨z1, z2⟩ := fin 0 (wi (wi S 52 (rk (lrZ x a1) t) 0) 53 t (S.1 53 t + 1)) (fun k hk => by rw [wi_c _ _ (by omega), wi_c _ _ (by omega)]) rfl (by rw [wi_c _ _ (by omega), wi_c _ _ (by omega)]) (by rw [wi_c _ _ (by omega)]) (by
        funext i
        by_cases e : i = t
        · subst e; rw [wi_s, wi_s]
        · rw [wi_n _ _ (by omega), wi_n _ _ (by omega), wi_n _ _ (by omega)]) (fun i => by
        by_cases e : i = t
        · subst e; rw [if_pos rfl, wi_c _ _ (by omega), wi_c _ _ (by omega), Int32.add_zero]
        · rw [if_neg e, wi_c _ _ (by omega), wi_c _ _ (by omega)])
      exact ⟨_, _, rfl, rfl, z1, g2, z2⟩
  · have e6 : (if ((nI (upZ' (lrZ x a1) now (x.1 17 6).toInt.toNat) >>> (nI t &&& 31)) &&& 1) = 1 then (1 : Int32) else 0) = 0 := if_neg (fun z => sp (by rw [← hup]; exact (nb_1 _ (by omega)).mp z))
    have X : fX3_note (nI (rk (lrZ x a1) t)) (nI now) S = some ((), wi (wi S 52 (rk (lrZ x a1) t) (M.1 24 t + 1)) 55 t (if S.1 55 t < M.1 24 t + 1 then M.1 24 t + 1 else S.1 55 t)) := by
      unfold fX3_note
      simp only [lt_eq, if_pos ibr, hnr]
      rw [g.2.2.1 t htn rt, if_pos ((nb_0 now (by omega)).mpr sp), hnt]
      simp only [if_pos ib20]
      rw [wi_s, wi_c (a := 55) _ _ (by omega), q1]
      have em : fJ9_max_7cf53 (S.1 55 t) (M.1 24 t + 1) (wi S 52 (rk (lrZ x a1) t) (M.1 24 t + 1)) = some (if S.1 55 t < M.1 24 t + 1 then M.1 24 t + 1 else S.1 55 t, wi S 52 (rk (lrZ x a1) t) (M.1 24 t + 1)) := by
        unfold fJ9_max_7cf53
        by_cases c : S.1 55 t < M.1 24 t + 1
        · rw [if_pos c, if_pos c]
        · rw [if_neg c, if_neg c]
      rw [em, bnd_some]
    have Y : fX12_listen_L208 kx' w1 (nI (bs (lrZ x a1) (x.1 17 6).toInt.toNat)) w2 w3 (nI (upZ' (lrZ x a1) now (x.1 17 6).toInt.toNat)) (f' + 1) sum (nI t) M = fX12_listen_L208 kx' w1 (nI (bs (lrZ x a1) (x.1 17 6).toInt.toNat)) w2 w3 (nI (upZ' (lrZ x a1) now (x.1 17 6).toInt.toNat)) f' (sum + 0) (nI (t + 1)) (wi (wi (wi (wi M 21 t (M.1 21 t + 0)) 22 t (M.1 22 t + 0)) 24 t (M.1 24 t + 1)) 23 t (if S.1 55 t < M.1 24 t + 1 then M.1 24 t + 1 else S.1 55 t)) := by
      have c22 : (wi M 21 t (M.1 21 t + 0)).1 22 t = M.1 22 t := by rw [wi_c _ _ (by omega)]
      have c24 : (wi (wi M 21 t (M.1 21 t + 0)) 22 t (M.1 22 t + 0)).1 24 t = M.1 24 t := by rw [wi_c _ _ (by omega), wi_c _ _ (by omega)]
      have c23 : (wi (wi (wi M 21 t (M.1 21 t + 0)) 22 t (M.1 22 t + 0)) 24 t (M.1 24 t + 1)).1 23 t = M.1 23 t := by rw [wi_c _ _ (by omega), wi_c _ _ (by omega), wi_c _ _ (by omega)]
      show fX12_listen_L208_st kx' w1 _ w2 w3 _ (fX12_listen_L208 kx' w1 _ w2 w3 _ f') sum (nI t) M = _
      unfold fX12_listen_L208_st
      simp only [jn_eq, lt_eq, if_pos ib20, hnt]
      rw [if_neg nleM, if_pos ((nb_1 _ (by omega)).mpr hbit), e6]
      simp only [↓reduceIte]
      rw [c22, c24, wi_s, c23, nv_p1, le_sw, l3]
      by_cases c : S.1 55 t < M.1 24 t + 1
      · rw [if_pos c, if_pos c]
      · rw [if_neg c, if_neg c]
    rw [X, Y, if_neg sp]
    refine ⟨_, _, rfl, rfl, Inv_ls hS (fun k hk => by rw [wi_c _ _ (by omega), wi_c _ _ (by omega)]) (fun k hk => by rw [wi_c _ _ (by omega), wi_c _ _ (by omega), wi_c _ _ (by omega), wi_c _ _ (by omega)]) rfl rfl (fun i hi => ?_), LT_wi (LT_wi g (by omega)) (by omega), fun j hj rj => ?_⟩
    · obtain ⟨b1, b2, b3⟩ := hS.2.2.2.2.2.1 i hi
      refine ⟨?_, ?_, ?_⟩
      · rw [wi_c _ _ (by omega), wi_c _ _ (by omega), wi_c _ _ (by omega), wi_c (a := 53) _ _ (by omega), wi_c (a := 53) _ _ (by omega)]
        by_cases e : i = t
        · subst e; rw [wi_s, Int32.add_zero]; exact b1
        · rw [wi_n _ _ (by omega)]; exact b1
      · rw [wi_c _ _ (by omega), wi_c _ _ (by omega), wi_c (a := 54) _ _ (by omega), wi_c (a := 54) _ _ (by omega)]
        by_cases e : i = t
        · subst e; rw [wi_s, Int32.add_zero]; exact b2
        · rw [wi_n _ _ (by omega), wi_c _ _ (by omega)]; exact b2
      · by_cases e : i = t
        · subst e; rw [wi_s, wi_s]
        · rw [wi_n _ _ (by omega), wi_c _ _ (by omega), wi_c _ _ (by omega), wi_c _ _ (by omega), wi_n _ _ (by omega), wi_c _ _ (by omega)]; exact b3
    · obtain ⟨d1, d2, d3, d4⟩ := q j hj rj
      rw [wi_c (a := 24) (k := 23) _ _ (by omega), wi_c (a := 52) (k := 55) _ _ (by omega)]
      by_cases e : j = t
      · subst e
        rw [wi_s, wi_s, wi_s]
        refine ⟨rfl, by omega, ?_, ?_⟩
        · rw [if_pos (by omega)]; omega
        · by_cases c : S.1 55 j < M.1 24 j + 1
          · rw [if_pos c]; omega
          · rw [if_neg c]; exact d4
      · rw [wi_n _ _ (fun z => e (rk_inj rj rt z.2)), wi_n (a := 24) _ _ (by omega), wi_c _ _ (by omega), wi_c _ _ (by omega), wi_n (a := 55) _ _ (by omega), wi_c (a := 55) _ _ (by omega)]
        refine ⟨d1, d2, ?_, d4⟩
        by_cases l : j < t
        · rw [if_pos l] at d3; rw [if_pos (by omega)]; exact d3
        · rw [if_neg l] at d3; rw [if_neg (by omega)]; exact d3
