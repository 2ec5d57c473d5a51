/-! ===== towers: worth and price of a plan; serves, plan ===== -/
theorem wth_l {n : Nat} {x m S M : St} (h : Inv n x m) (tx : TX x S) (tm : TM x m M) {p : Nat} (hp : p < 1000000) : ∀ (d k f f' : Nat) (acc : Int), k + d = nE x → d < f → d < f' → 0 ≤ acc → acc ≤ 100 * (k : Int) → ∃ w : Int, 0 ≤ w ∧ w ≤ 1200 ∧ fX9_worthOf_L4 (nI p) f (iI acc) (nI k) S = some (iI w, S) ∧ fX12_servedBy_L4 (nI p) f' (iI acc) (nI k) M = some (iI w, M)
  | 0, k, f + 1, f' + 1, acc, hk, _, _, a0, a1 => by
    obtain ⟨h1, h2, h3, h4, h5, h6, h7, h8, h9, h10, h11⟩ := id h
    have t := towN h10
    have hM := Inv_fr xEq.rfl tm.1 h
    refine ⟨acc, a0, by omega, ?_, ?_⟩
    · show fX9_worthOf_L4_st (nI p) (fX9_worthOf_L4 (nI p) f) (iI acc) (nI k) S = _
      unfold fX9_worthOf_L4_st
      rw [tx.1.2.2.2.2.2.2.1, t.2.2.1, if_pos ((nv_l (by omega) (by omega)).mpr (by omega))]
    · show fX12_servedBy_L4_st (nI p) (fX12_servedBy_L4 (nI p) f') (iI acc) (nI k) M = _
      unfold fX12_servedBy_L4_st
      rw [hM.2.2.2.2.2.2.2.2.2.1.2.2.1, t.2.2.1, if_pos ((nv_l (by omega) (by omega)).mpr (by omega))]
  | d + 1, k, f + 1, f' + 1, acc, hk, hf, hf', a0, a1 => by
    have hM := Inv_fr xEq.rfl tm.1 h
    obtain ⟨g1, g2, g3, g4, g5, g6, g7, g8, g9, g10, g11⟩ := id hM
    have t := towN g10
    have ea := earN g10 (e := k) (by omega)
    have r2 := g1.2.2.2.1
    have r4 := g1.2.2.2.2.2
    have fu := fu_ge
    obtain ⟨wA, qA0, qA1, qA2, qA3⟩ := wth_l h tx tm hp d (k + 1) f f' acc (by omega) (by omega) (by omega) a0 (by omega)
    obtain ⟨wB, qB0, qB1, qB2, qB3⟩ := wth_l h tx tm hp d (k + 1) f f' (acc + (x.1 76 k).toInt) (by omega) (by omega) (by omega) (by omega) (by omega)
    obtain ⟨A, G, q1, q2, q3, q4, q5, q6⟩ := srv_l h tx tm (e := k) (by omega) (fun (v1 : Int64) (v2 : Int64) (S3 : St) => lt ((((S3.1 2 (nt 2)).toInt64) + v1) - v2) (fun (v4 : Int64) => if (100 * v2) < (((S3.1 2 (nt 4)).toInt64) * v4) then (some (0, S3)) else (some (1, S3)))) (fun (v3 : Int64) (v4 : Int64) (S5 : St) => jn (fun (v6 : Int32) => lt (iI acc + v6) (fun (v8 : Int32) => fX12_servedBy_L4 (nI p) f' v8 (nI (k + 1)) S5)) (fun k7 => if (100 * v4) < (((S5.1 5 (nt 4)).toInt64) * (v3 - v4)) then (k7 0) else (if ib (nI k) 12 then (k7 (S5.1 41 (nt (nI k)))) else none))) (nI p) (iI acc) (x.1 2 2).toInt (nT x) 0 FU FU p 0 0 (by omega) (by omega) (by omega) hp (by omega) (by omega) (by omega) (by omega)
    have mb := mulB (a := (x.1 2 4).toInt) (b := (x.1 2 2).toInt + A - G) (A := 1000000) (B := 1000000000) (by omega) r4.2 (by omega) (by omega) (by decide)
    have X : fX9_isServed (nI k) (nI p) S = some (bi ((x.1 2 4).toInt * ((x.1 2 2).toInt + A - G) ≤ 100 * G), S) := by
      refine q5.trans ?_
      rw [lt_eq, tx.1.1 2 (by unfold xcell; omega), show nt 2 = 2 from rfl, show nt 4 = 4 from rfl, i64, i64, jI_add, jI_sub, jI_mul, show (100 : Int64) = jI 100 from rfl, jI_mul]
      unfold bi
      by_cases c : (x.1 2 4).toInt * ((x.1 2 2).toInt + A - G) ≤ 100 * G
      · rw [if_neg (fun q => by rw [jI_lt (by omega) (by omega)] at q; omega), if_pos c]
      · rw [if_pos ((jI_lt (by omega) (by omega)).mpr (by omega)), if_neg c]
    have Mq : fX12_servedBy_L4 (nI p) (f' + 1) (iI acc) (nI k) M = if (x.1 2 4).toInt * ((x.1 2 2).toInt + A - G) ≤ 100 * G then fX12_servedBy_L4 (nI p) f' (iI (acc + (x.1 76 k).toInt)) (nI (k + 1)) M else fX12_servedBy_L4 (nI p) f' (iI acc) (nI (k + 1)) M := by
      show fX12_servedBy_L4_st (nI p) (fX12_servedBy_L4 (nI p) f') (iI acc) (nI k) M = _
      unfold fX12_servedBy_L4_st
      rw [g10.2.2.1, t.2.2.1, if_neg (fun q => by rw [nv_l (by omega) (by omega)] at q; omega), lt_eq, nv_p1, show nt 2 = 2 from rfl, g1.1 2 (by decide), i64]
      refine Eq.trans ?_ (q6.trans ?_)
      · rw [Int.add_zero]; rfl
      · simp only [jn_eq, lt_eq]
        rw [show nt 4 = 4 from rfl, g1.1 4 (by decide), i64, jI_sub, jI_mul, show (100 : Int64) = jI 100 from rfl, jI_mul, if_pos (nv_ib (by omega) (by omega)), nv_nt (by omega), ea.2.2.1, Int32.add_zero]
        have e9 : iI acc + x.1 76 k = iI (acc + (x.1 76 k).toInt) := by rw [← iI_add, ← iI_of]
        rw [e9]
        by_cases c : (x.1 2 4).toInt * ((x.1 2 2).toInt + A - G) ≤ 100 * G
        · rw [if_neg (fun q => by rw [jI_lt (by omega) (by omega)] at q; omega), if_pos c]
        · rw [if_pos ((jI_lt (by omega) (by omega)).mpr (by omega)), if_neg c]
    have Xq : fX9_worthOf_L4 (nI p) (f + 1) (iI acc) (nI k) S = if (x.1 2 4).toInt * ((x.1 2 2).toInt + A - G) ≤ 100 * G then fX9_worthOf_L4 (nI p) f (iI (acc + (x.1 76 k).toInt)) (nI (k + 1)) S else fX9_worthOf_L4 (nI p) f (iI acc) (nI (k + 1)) S := by
      show fX9_worthOf_L4_st (nI p) (fX9_worthOf_L4 (nI p) f) (iI acc) (nI k) S = _
      unfold fX9_worthOf_L4_st
      have e9 : iI acc + x.1 76 k = iI (acc + (x.1 76 k).toInt) := by rw [← iI_add, ← iI_of]
      simp only [jn_eq, lt_eq]
      rw [tx.1.2.2.2.2.2.2.1, t.2.2.1, if_neg (fun q => by rw [nv_l (by omega) (by omega)] at q; omega), X, bnd_some, bi_ite, if_pos (nv_ib (by omega) (by omega)), nv_nt (by omega), tx.1.1 76 (by unfold xcell; omega), e9, nv_p1]
    by_cases c : (x.1 2 4).toInt * ((x.1 2 2).toInt + A - G) ≤ 100 * G
    · exact ⟨wB, qB0, qB1, by rw [Xq, if_pos c]; exact qB2, by rw [Mq, if_pos c]; exact qB3⟩
    · exact ⟨wA, qA0, qA1, by rw [Xq, if_neg c]; exact qA2, by rw [Mq, if_neg c]; exact qA3⟩
theorem e_wth {n : Nat} {x m S M : St} (h : Inv n x m) (tx : TX x S) (tm : TM x m M) {p : Nat} (hp : p < 1000000) : ∃ w : Int, 0 ≤ w ∧ w ≤ 1200 ∧ fX9_worthOf (nI p) S = some (iI w, S) ∧ fX12_servedBy (nI p) M = some (iI w, M) := by
  have t := towN h.2.2.2.2.2.2.2.2.2.1
  exact wth_l h tx tm hp (nE x) 0 FU FU 0 (by omega) (by have := fu_ge; omega) (by have := fu_ge; omega) (by omega) (by omega)
theorem pri_l {n : Nat} {x m S M : St} (h : Inv n x m) (hx : xEq x S) (hm : mEq m M) : ∀ (d k f f' rest : Nat) (acc : Int32), k + d = nT x → d < f → d < f' → rest < 1000000 → ∃ w : Int32, fX9_priceOf_L7 f acc (nI rest) (nI k) S = some (w, S) ∧ fX12_pricedBy_L7 f' acc (nI rest) (nI k) M = some (w, M)
  | 0, k, f + 1, f' + 1, rest, acc, hk, _, _, hr => by
    obtain ⟨h1, h2, h3, h4, h5, h6, h7, h8, h9, h10, h11⟩ := id h
    have t := towN h10
    have hM := Inv_fr xEq.rfl hm h
    refine ⟨acc, ?_, ?_⟩
    · show fX9_priceOf_L7_st (fX9_priceOf_L7 f) acc (nI rest) (nI k) S = _
      unfold fX9_priceOf_L7_st
      rw [hx.2.2.2.2.2.1, t.1, if_pos ((nv_l (by omega) (by omega)).mpr (by omega))]
    · show fX12_pricedBy_L7_st (fX12_pricedBy_L7 f') acc (nI rest) (nI k) M = _
      unfold fX12_pricedBy_L7_st
      rw [hM.2.2.2.2.2.2.2.2.2.1.1, t.1, if_pos ((nv_l (by omega) (by omega)).mpr (by omega))]
  | d + 1, k, f + 1, f' + 1, rest, acc, hk, hf, hf', hr => by
    have hM := Inv_fr xEq.rfl hm h
    obtain ⟨g1, g2, g3, g4, g5, g6, g7, g8, g9, g10, g11⟩ := id hM
    have t := towN g10
    have c3 : rest % 3 < 3 := Nat.mod_lt _ (by omega)
    obtain ⟨w, q1, q2⟩ := pri_l h hx hm d (k + 1) f f' (rest / 3) (acc + x.1 74 (3 * k + rest % 3)) (by omega) (by omega) (by omega) (by omega)
    refine ⟨w, ?_, ?_⟩
    · show fX9_priceOf_L7_st (fX9_priceOf_L7 f) acc (nI rest) (nI k) S = _
      unfold fX9_priceOf_L7_st
      simp only [lt_eq]
      rw [hx.2.2.2.2.2.1, t.1, if_neg (fun q => by rw [nv_l (by omega) (by omega)] at q; omega), show (3 : Int32) = nI 3 from rfl, nv_ire (by omega) (by omega), nv_div (by omega) (by omega), nv_mul, nI_add, if_pos (nv_ib (by omega) (by omega)), nv_nt (by omega), hx.1 74 (by unfold xcell; omega), nv_p1, show k * 3 + rest % 3 = 3 * k + rest % 3 by omega]
      exact q1
    · show fX12_pricedBy_L7_st (fX12_pricedBy_L7 f') acc (nI rest) (nI k) M = _
      unfold fX12_pricedBy_L7_st
      simp only [lt_eq, jn_eq]
      rw [g10.1, t.1, if_neg (fun q => by rw [nv_l (by omega) (by omega)] at q; omega), show (3 : Int32) = nI 3 from rfl, nv_ire (by omega) (by omega), nv_div (by omega) (by omega), nv_p1]
      by_cases z : rest % 3 = 0
      · have e0 := (g10.2.2.2.2.1 k (by omega)).2
        rw [z, Nat.add_zero, e0, Int32.add_zero] at q2
        rw [z, if_pos (show nI 0 ≤ 0 by decide), Int32.add_zero]
        exact q2
      · have sv := (sst g10 (k := 2 * k + (rest % 3 - 1)) (by omega)).2
        rw [show (2 * k + (rest % 3 - 1)) / 2 = k by omega, show (2 * k + (rest % 3 - 1)) % 2 + 1 = rest % 3 by omega] at sv
        have ei : ((2 : Int32) * nI k + nI (rest % 3)) - 1 = nI (2 * k + (rest % 3 - 1)) := by
          rw [show (2 : Int32) = nI 2 from rfl, show (1 : Int32) = nI 1 from rfl, nv_mul, nI_add, nv_sub (by omega)]
          congr 1; omega
        rw [if_neg (fun q => by rw [show (0 : Int32) = nI 0 from rfl, nv_l (by omega) (by omega)] at q; omega), ei, if_pos (nv_ib (by omega) (by omega)), nv_nt (by omega), sv]
        exact q2
theorem e_pri {n : Nat} {x m S M : St} (h : Inv n x m) (hx : xEq x S) (hm : mEq m M) {p : Nat} (hp : p < 1000000) : ∃ w : Int32, fX9_priceOf (nI p) S = some (w, S) ∧ fX12_pricedBy (nI p) M = some (w, M) := by
  have t := towN h.2.2.2.2.2.2.2.2.2.1
  exact pri_l h hx hm (nT x) 0 FU FU p 0 (by omega) (by have := fu_ge; omega) (by have := fu_ge; omega) hp
theorem pls_x {x m S : St} (h10 : I_tow x m) (hx : xEq x S) : ∀ (d k f a : Nat), k + d = nT x → d < f → fX9_plans_L4 f (nI a) (nI k) S = some (nI (a * 3 ^ d), S)
  | 0, k, f + 1, a, hk, _ => by
    have t := towN h10
    show fX9_plans_L4_st (fX9_plans_L4 f) (nI a) (nI k) S = _
    unfold fX9_plans_L4_st
    rw [hx.2.2.2.2.2.1, t.1, if_pos ((nv_l (by omega) (by omega)).mpr (by omega)), Nat.pow_zero, Nat.mul_one]
  | d + 1, k, f + 1, a, hk, hf => by
    have t := towN h10
    show fX9_plans_L4_st (fX9_plans_L4 f) (nI a) (nI k) S = _
    unfold fX9_plans_L4_st
    rw [hx.2.2.2.2.2.1, t.1, if_neg (fun q => by rw [nv_l (by omega) (by omega)] at q; omega), lt_eq, show (3 : Int32) = nI 3 from rfl, nv_mul, nv_p1, pls_x h10 hx d (k + 1) f (a * 3) (by omega) (by omega), Nat.pow_succ, Nat.mul_assoc, Nat.mul_comm 3]
theorem pls_m {x m M : St} (h10 : I_tow x m) (hm : mEq m M) : ∀ (d k f a : Nat), k + d = nT x → d < f → fX12_plans_L4 f (nI a) (nI k) M = some (nI (a * 3 ^ d), M)
  | 0, k, f + 1, a, hk, _ => by
    have t := towN h10
    show fX12_plans_L4_st (fX12_plans_L4 f) (nI a) (nI k) M = _
    unfold fX12_plans_L4_st
    rw [hm.2.1.2.2.2.2.2.2.2.2.1, h10.1, t.1, if_pos ((nv_l (by omega) (by omega)).mpr (by omega)), Nat.pow_zero, Nat.mul_one]
  | d + 1, k, f + 1, a, hk, hf => by
    have t := towN h10
    show fX12_plans_L4_st (fX12_plans_L4 f) (nI a) (nI k) M = _
    unfold fX12_plans_L4_st
    rw [hm.2.1.2.2.2.2.2.2.2.2.1, h10.1, t.1, if_neg (fun q => by rw [nv_l (by omega) (by omega)] at q; omega), lt_eq, show (3 : Int32) = nI 3 from rfl, nv_mul, nv_p1, pls_m h10 hm d (k + 1) f (a * 3) (by omega) (by omega), Nat.pow_succ, Nat.mul_assoc, Nat.mul_comm 3]
theorem e_plsX {x m S : St} (h10 : I_tow x m) (hx : xEq x S) : fX9_plans S = some (nI (3 ^ nT x), S) := by
  have t := towN h10
  have := pls_x h10 hx (nT x) 0 FU 1 (by omega) (by have := fu_ge; omega)
  rw [Nat.one_mul] at this; exact this
theorem e_plsM {x m M : St} (h10 : I_tow x m) (hm : mEq m M) : fX12_plans M = some (nI (3 ^ nT x), M) := by
  have t := towN h10
  have := pls_m h10 hm (nT x) 0 FU 1 (by omega) (by have := fu_ge; omega)
  rw [Nat.one_mul] at this; exact this
theorem pr_43 (n : Nat) (x m : St) (a1 : Int32) (_ : n < 512) (h : Inv n x m) : ∃ (v : Int32) (x' m' : St), fX11_serves a1 x = some (v, x') ∧ fX12_serves a1 m = some (v, m') ∧ Inv (n + 1) x' m' := by
  obtain ⟨h1, h2, h3, h4, h5, h6, h7, h8, h9, h10, h11⟩ := id h
  have hu := Inv_up n x m h
  have t := towN h10
  have p6 : 3 ^ nT x ≤ 3 ^ 6 := Nat.pow_le_pow_right (by omega) t.2.1
  have p0 : 0 < 3 ^ nT x := Nat.pow_pos (by omega)
  have e1 : (nI (3 ^ nT x) - 1).toInt = ((3 ^ nT x : Nat) : Int) - 1 := by
    rw [show (1 : Int32) = nI 1 from rfl, nv_sub (by omega), nv_t (by omega)]; omega
  unfold fX11_serves fX12_serves
  rw [e_plsX h10 xEq.rfl, e_plsM h10 mEq.rfl, bnd_some, bnd_some, e_within, e_in, bnd_some, bnd_some, bi_ite, bi_ite, t64, t64, e1, l32_0, l64_0]
  by_cases c : 0 ≤ a1.toInt ∧ a1.toInt ≤ ((3 ^ nT x : Nat) : Int) - 1
  · obtain ⟨p, rfl, ep⟩ := nv_i c (by omega)
    obtain ⟨S', q1, tx⟩ := e_mea h
    obtain ⟨M', q2, tm⟩ := e_fg h
    obtain ⟨w, -, -, w1, w2⟩ := e_wth h tx tm (p := p) (by omega)
    rw [if_pos c, if_pos c, q1, q2, bnd_some, bnd_some, w1, w2, bnd_some, bnd_some]
    exact ⟨_, _, _, rfl, rfl, Inv_fr tx.1 tm.1 hu⟩
  · rw [if_neg c, if_neg c]; exact ⟨_, _, _, rfl, rfl, hu⟩
/-- both have chosen alike -/
def CH (x m S M : St) : Prop := TX x S ∧ TM x m M ∧ S.1 70 11 = M.1 0 55 ∧ (∃ w : Int, 0 ≤ w ∧ w ≤ 1200 ∧ S.1 70 12 = iI w ∧ M.1 0 56 = iI w) ∧ S.1 70 13 = M.1 0 57
theorem TX_wi {x S : St} (t : TX x S) {j : Nat} (hj : 11 ≤ j) (v : Int32) : TX x (wi S 70 j v) := ⟨xEq_wi t.1 (by unfold xcell; omega) (by omega), fun s' e' l1 l2 c hc => by rw [wi_c _ _ (by omega)]; exact t.2 s' e' l1 l2 c hc⟩
theorem TM_wi {x m M : St} (t : TM x m M) {j : Nat} (hj : 55 ≤ j) (v : Int32) : TM x m (wi M 0 j v) := ⟨mEq_wi t.1 (by unfold mcell; omega) (by omega), fun s' e' l1 l2 => by unfold tGM; rw [wi_c _ _ (by omega)]; exact t.2 s' e' l1 l2⟩
theorem cho_l {n : Nat} {x m : St} (h : Inv n x m) (a1 : Int32) {P : Nat} (hP : P ≤ 729) : ∀ (d k f f' : Nat) (S M : St), k + d = P ∨ (d = 0 ∧ P ≤ k ∧ k < 1000) → d < f → d < f' → CH x m S M → ∃ S' M', fX9_choose_L26 a1 (nI P) f (nI k) S = some ((), S') ∧ fX12_findPlan_L30 a1 (nI P) f' (nI k) M = some ((), M') ∧ CH x m S' M'
  | 0, k, f + 1, f' + 1, S, M, hk, _, _, ch => by
    refine ⟨S, M, ?_, ?_, ch⟩
    · show fX9_choose_L26_st a1 (nI P) (fX9_choose_L26 a1 (nI P) f) (nI k) S = _
      unfold fX9_choose_L26_st
      rw [if_pos ((nv_l (by omega) (by omega)).mpr (by omega))]
    · show fX12_findPlan_L30_st a1 (nI P) (fX12_findPlan_L30 a1 (nI P) f') (nI k) M = _
      unfold fX12_findPlan_L30_st
      rw [if_pos ((nv_l (by omega) (by omega)).mpr (by omega))]
  | d + 1, k, f + 1, f' + 1, S, M, hk, hf, hf', ch => by
    obtain ⟨tx, tm, c1, ⟨w, w0, w1, c2, c3⟩, c4⟩ := id ch
    have skip := cho_l h a1 hP d (k + 1) f f' S M (by omega) (by omega) (by omega) ch
    obtain ⟨pr, p1, p2⟩ := e_pri h tx.1 tm.1 (p := k) (by omega)
    obtain ⟨v, v0, v1, v2, v3⟩ := e_wth h tx tm (p := k) (by omega)
    have eS : (wi S 70 11 (nI k)).1 70 12 + (iI v - iI w) = iI v := by
      rw [wi_n _ _ (by omega), c2, iI_sub, iI_add]; congr 1; omega
    have take := cho_l h a1 hP d (k + 1) f f' (wi (wi (wi S 70 11 (nI k)) 70 12 (iI v)) 70 13 pr) (wi (wi (wi M 0 55 (nI k)) 0 56 (iI v)) 0 57 pr) (by omega) (by omega) (by omega) ⟨TX_wi (TX_wi (TX_wi tx (by omega) _) (by omega) _) (by omega) _, TM_wi (TM_wi (TM_wi tm (by omega) _) (by omega) _) (by omega) _, by
      rw [wi_n _ _ (by omega), wi_n _ _ (by omega), wi_s, wi_n _ _ (by omega), wi_n _ _ (by omega), wi_s], ⟨v, v0, v1, by rw [wi_n _ _ (by omega), wi_s], by rw [wi_n _ _ (by omega), wi_s]⟩, by rw [wi_s, wi_s]⟩
    show ∃ S' M', fX9_choose_L26_st a1 (nI P) (fX9_choose_L26 a1 (nI P) f) (nI k) S = _ ∧ fX12_findPlan_L30_st a1 (nI P) (fX12_findPlan_L30 a1 (nI P) f') (nI k) M = _ ∧ _
    unfold fX9_choose_L26_st fX12_findPlan_L30_st
    simp only [jn_eq, lt_eq]
    have nle : ¬ nI P ≤ nI k := fun q => by rw [nv_l (by omega) (by omega)] at q; omega
    rw [if_neg nle, if_neg nle, p1, p2, bnd_some, bnd_some, v2, v3, bnd_some, bnd_some, nv_p1, c2, eS, c3, c4]
    by_cases b1 : a1 < pr
    · rw [if_pos b1, if_pos b1]; exact skip
    · rw [if_neg b1, if_neg b1, iI_sub]
      by_cases b2 : w < v
      · rw [if_pos (show (0 : Int32) < iI (v - w) from (iI_lt (a := 0) (by omega) (by omega)).mpr (by omega)), if_pos ((iI_lt (by omega) (by omega)).mpr b2)]
        exact take
      · rw [if_neg (fun q => by rw [show (0 : Int32) = iI 0 from rfl, iI_lt (by omega) (by omega)] at q; omega), if_neg (fun q => b2 ((iI_lt (by omega) (by omega)).mp q))]
        by_cases b3 : v = w
        · rw [if_pos (show iI (v - w) = 0 from (iI_eq (b := 0) (by omega) (by omega)).mpr (by omega)), if_pos ((iI_eq (by omega) (by omega)).mpr b3)]
          by_cases b4 : M.1 0 57 ≤ pr
          · rw [if_pos b4, if_pos b4]; exact skip
          · rw [if_neg b4, if_neg b4]; exact take
        · rw [if_neg (fun q => by rw [show (0 : Int32) = iI 0 from rfl, iI_eq (by omega) (by omega)] at q; omega), if_neg (fun q => b3 ((iI_eq (by omega) (by omega)).mp q))]
          exact skip
theorem srz_1 {n : Nat} {x m M : St} (h : Inv n x m) (hm : mEq m M) (kx' : Int64 → Int64 → St → Option (Int32 × St)) (b1 b2 b3 : Int32) (no : Int64) : ∀ (d k f : Nat), k + d = nT x → d < f → fX12_servedBy_L30 kx' b1 b2 b3 f no 0 (nI 0) (nI k) M = kx' no 0 M
  | 0, k, f + 1, hk, _ => by
    have h10 := h.2.2.2.2.2.2.2.2.2.1
    have t := towN h10
    have hM := Inv_fr xEq.rfl hm h
    show fX12_servedBy_L30_st kx' b1 b2 b3 (fX12_servedBy_L30 kx' b1 b2 b3 f) no 0 (nI 0) (nI k) M = _
    unfold fX12_servedBy_L30_st
    rw [hM.2.2.2.2.2.2.2.2.2.1.1, t.1, if_pos ((nv_l (by omega) (by omega)).mpr (by omega))]
  | d + 1, k, f + 1, hk, hf => by
    have h10 := h.2.2.2.2.2.2.2.2.2.1
    have t := towN h10
    have hM := Inv_fr xEq.rfl hm h
    show fX12_servedBy_L30_st kx' b1 b2 b3 (fX12_servedBy_L30 kx' b1 b2 b3 f) no 0 (nI 0) (nI k) M = _
    unfold fX12_servedBy_L30_st
    simp only [lt_eq, jn_eq]
    rw [hM.2.2.2.2.2.2.2.2.2.1.1, t.1, if_neg (fun q => by rw [nv_l (by omega) (by omega)] at q; omega), show (3 : Int32) = nI 3 from rfl, nv_ire (by omega) (by omega), nv_div (by omega) (by omega), nv_p1, show 0 % 3 = 0 from rfl, show 0 / 3 = 0 from rfl, if_pos (show nI 0 ≤ 0 by decide)]
    exact srz_1 h hm kx' b1 b2 b3 no d (k + 1) f (by omega) (by omega)
theorem srz_2 {n : Nat} {x m M : St} (h : Inv n x m) (hm : mEq m M) : ∀ (d k f : Nat), k + d = nE x → d < f → fX12_servedBy_L4 (nI 0) f 0 (nI k) M = some (0, M)
  | 0, k, f + 1, hk, _ => by
    have h10 := h.2.2.2.2.2.2.2.2.2.1
    have t := towN h10
    have hM := Inv_fr xEq.rfl hm h
    show fX12_servedBy_L4_st (nI 0) (fX12_servedBy_L4 (nI 0) f) 0 (nI k) M = _
    unfold fX12_servedBy_L4_st
    rw [hM.2.2.2.2.2.2.2.2.2.1.2.2.1, t.2.2.1, if_pos ((nv_l (by omega) (by omega)).mpr (by omega))]
  | d + 1, k, f + 1, hk, hf => by
    have hM := Inv_fr xEq.rfl hm h
    obtain ⟨g1, g2, g3, g4, g5, g6, g7, g8, g9, g10, g11⟩ := id hM
    have t := towN g10
    have r2 := g1.2.2.2.1
    have r4 := g1.2.2.2.2.2
    have mb := mulB (a := (x.1 2 4).toInt) (b := (x.1 2 2).toInt - 0) (A := 1000000) (B := 1000000000) (by omega) r4.2 (by omega) (by omega) (by decide)
    have mp : 0 < (x.1 2 4).toInt * ((x.1 2 2).toInt - 0) := Int.mul_pos (by omega) (by omega)
    have ih := srz_2 h hm d (k + 1) f (by omega) (by omega)
    show fX12_servedBy_L4_st (nI 0) (fX12_servedBy_L4 (nI 0) f) 0 (nI k) M = _
    unfold fX12_servedBy_L4_st
    rw [g10.2.2.1, t.2.2.1, if_neg (fun q => by rw [nv_l (by omega) (by omega)] at q; omega), lt_eq, nv_p1]
    refine (srz_1 h hm _ _ _ _ _ (nT x) 0 FU (by omega) (by have := fu_ge; omega)).trans ?_
    simp only [jn_eq, lt_eq]
    rw [show nt 2 = 2 from rfl, g1.1 2 (by decide), i64, show nt 4 = 4 from rfl, g1.1 4 (by decide), i64, show (0 : Int64) = jI 0 from rfl, jI_sub, jI_mul, show (100 : Int64) = jI 100 from rfl, jI_mul, if_pos ((jI_lt (by omega) (by omega)).mpr (by omega)), Int32.add_zero]
    exact ih
theorem srv0 {n : Nat} {x m M : St} (h : Inv n x m) (tm : TM x m M) : fX12_servedBy (nI 0) M = some (0, M) := by
  have t := towN h.2.2.2.2.2.2.2.2.2.1
  exact srz_2 h tm.1 (nE x) 0 FU (by omega) (by have := fu_ge; omega)
theorem e_cho {n : Nat} {x m : St} (h : Inv n x m) (a1 : Int32) : ∃ S' M', fX9_choose a1 x = some ((), S') ∧ fX12_findPlan a1 m = some ((), M') ∧ CH x m S' M' := by
  obtain ⟨h1, h2, h3, h4, h5, h6, h7, h8, h9, h10, h11⟩ := id h
  have t := towN h10
  have p6 : 3 ^ nT x ≤ 3 ^ 6 := Nat.pow_le_pow_right (by omega) t.2.1
  have p0 : 0 < 3 ^ nT x := Nat.pow_pos (by omega)
  obtain ⟨S1, q1, tx⟩ := e_mea h
  obtain ⟨M1, q2, tm⟩ := e_fg h
  have tx3 : TX x (wi (wi (wi S1 70 11 0) 70 12 0) 70 13 0) := TX_wi (TX_wi (TX_wi tx (by omega) _) (by omega) _) (by omega) _
  have tm1 : TM x m (wi M1 0 55 0) := TM_wi tm (by omega) _
  have tm3 : TM x m (wi (wi (wi M1 0 55 0) 0 56 0) 0 57 0) := TM_wi (TM_wi tm1 (by omega) _) (by omega) _
  have s0 : fX12_servedBy 0 (wi M1 0 55 0) = some (0, wi M1 0 55 0) := srv0 h tm1
  have ch : CH x m (wi (wi (wi S1 70 11 0) 70 12 0) 70 13 0) (wi (wi (wi M1 0 55 0) 0 56 0) 0 57 0) := ⟨tx3, tm3, by
    rw [wi_n _ _ (by omega), wi_n _ _ (by omega), wi_s, wi_n _ _ (by omega), wi_n _ _ (by omega), wi_s], ⟨0, by omega, by omega, by rw [wi_n _ _ (by omega), wi_s]; rfl, by rw [wi_n _ _ (by omega), wi_s]; rfl⟩, by rw [wi_s, wi_s]⟩
  obtain ⟨S', M', r1, r2, r3⟩ := cho_l h a1 (P := 3 ^ nT x) (by omega) (3 ^ nT x - 1) 1 FU FU _ _ (by omega) (by have := fu_ge; omega) (by have := fu_ge; omega) ch
  refine ⟨S', M', ?_, ?_, r3⟩
  · unfold fX9_choose
    rw [q1, bnd_some, lt_eq, lt_eq, lt_eq, e_plsX h10 tx3.1, bnd_some]; exact r1
  · unfold fX12_findPlan
    rw [q2, bnd_some, lt_eq, s0, bnd_some, lt_eq, lt_eq, e_plsM h10 tm3.1, bnd_some]; exact r2
theorem pr_44 (n : Nat) (x m : St) (a1 a2 : Int32) (_ : n < 512) (h : Inv n x m) : ∃ (v : Int32) (x' m' : St), fX11_plan a1 a2 x = some (v, x') ∧ fX12_plan a1 a2 m = some (v, m') ∧ Inv (n + 1) x' m' := by
  have hu := Inv_up n x m h
  unfold fX11_plan fX12_plan
  simp only [e_within, e_in, bnd_some, bi_ite, t64, l32_0, l32_1, l32_2, l32_3, l32_4, l32_5, l32_6, l32_7, l32_8, l32_9, l32_10, l32_11, l32_12, l32_20, l32_25, l32_30, l32_32, l32_50, l32_63, l32_99, l32_100, l32_120, l32_200, l32_255, l32_256, l32_400, l32_500, l32_1000, l32_2400, l32_4095, l32_10000, l32_1000000, l32_100000000, l32_m1, l32_m2, l32_m3, l32_m4, l64_0, l64_1, l64_2, l64_3, l64_4, l64_5, l64_6, l64_7, l64_8, l64_9, l64_10, l64_11, l64_12, l64_20, l64_25, l64_30, l64_32, l64_50, l64_63, l64_99, l64_100, l64_120, l64_200, l64_255, l64_256, l64_400, l64_500, l64_1000, l64_2400, l64_4095, l64_10000, l64_1000000, l64_100000000, l64_m1, l64_m2, l64_m3, l64_m4]
  by_cases c1 : 0 ≤ a1.toInt ∧ a1.toInt ≤ 10000
  · rw [if_pos c1, if_pos c1]
    by_cases c2 : 0 ≤ a2.toInt ∧ a2.toInt ≤ 2
    · obtain ⟨S', M', r1, r2, tx, tm, e1, ⟨w, -, -, e2, e3⟩, e4⟩ := e_cho h a1
      have hv := Inv_fr tx.1 tm.1 hu
      rw [if_pos c2, if_pos c2, r1, r2, bnd_some, bnd_some, e1, e2, e3, e4]
      by_cases d1 : a2 = 0
      · rw [if_pos d1, if_pos d1]; exact ⟨_, _, _, rfl, rfl, hv⟩
      · rw [if_neg d1, if_neg d1]
        by_cases d2 : a2 = 1
        · rw [if_pos d2, if_pos d2]; exact ⟨_, _, _, rfl, rfl, hv⟩
        · rw [if_neg d2, if_neg d2]; exact ⟨_, _, _, rfl, rfl, hv⟩
    · rw [if_neg c2, if_neg c2]; exact ⟨_, _, _, rfl, rfl, hu⟩
  · rw [if_neg c1, if_neg c1]; exact ⟨_, _, _, rfl, rfl, hu⟩
