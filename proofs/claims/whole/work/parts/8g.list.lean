/-! ===== listen ===== -/
theorem note_l {n : Nat} {x m : St} (h : Inv n x m) {a1 : Int32} {T now : Nat} (hT : T < 1000) (kx : St → Option (Int32 × St)) (kx' : Int32 → St → Option (Int32 × St)) (u1 u2 u3 u4 w1 w2 w3 s0 : Int32) : ∀ (d t f f' : Nat) (S M : St), t + d = (x.1 17 6).toInt.toNat → d < f → d < f' → Inv n S M → LT x a1 S → QB x a1 S M t T → ∃ S' M', fX3_run_L163 kx u1 u2 u3 u4 (nI now) f (nI (rk (lrZ x a1) t)) S = kx S' ∧ fX12_listen_L208 kx' w1 (nI (bs (lrZ x a1) (x.1 17 6).toInt.toNat)) w2 w3 (nI (upZ' (lrZ x a1) now (x.1 17 6).toInt.toNat)) f' (s0 + nI (rk (fun j => lrZ x a1 j && now.testBit (rk (lrZ x a1) j)) t)) (nI t) M = kx' (s0 + nI (rk (fun j => lrZ x a1 j && now.testBit (rk (lrZ x a1) j)) (x.1 17 6).toInt.toNat)) M' ∧ Inv n S' M' ∧ LT x a1 S' ∧ QB x a1 S' M' 0 (T + 1)
  | 0, t, f + 1, f' + 1, S, M, ht, _, _, hS, g, q => by
    have r := h.2.2.2.2.1.2.1
    obtain ⟨N, eN, hN, l20⟩ := sndN h.2.2.2.2.1
    have lL := rk_le (lrZ x a1) (x.1 17 6).toInt.toNat
    have et : t = (x.1 17 6).toInt.toNat := by omega
    refine ⟨S, M, ?_, ?_, hS, g, fun j hj rj => ?_⟩
    · show fX3_run_L163_st kx u1 u2 u3 u4 (nI now) (fX3_run_L163 kx u1 u2 u3 u4 (nI now) f) _ S = _
      unfold fX3_run_L163_st
      rw [g.2.1, et, if_pos ((nv_l (by omega) (by omega)).mpr (Nat.le_refl _))]
    · show fX12_listen_L208_st kx' w1 _ w2 w3 _ (fX12_listen_L208 kx' w1 _ w2 w3 _ f') _ (nI t) M = _
      unfold fX12_listen_L208_st
      rw [hS.2.2.2.2.1.1, g.1.2.2.1, if_pos (show x.1 17 6 ≤ nI t by rw [eN, nv_l (by omega) (by omega)]; omega), et]
    · obtain ⟨d1, d2, d3, d4⟩ := q j hj rj
      rw [if_pos (by omega)] at d3
      exact ⟨d1, d2, by rw [if_neg (by omega)]; exact d3, d4⟩
  | d + 1, t, f + 1, f' + 1, S, M, ht, hf, hf', hS, g, q => by
    have r := h.2.2.2.2.1.2.1
    obtain ⟨N, eN, hN, l20⟩ := sndN h.2.2.2.2.1
    have lL := rk_le (lrZ x a1) (x.1 17 6).toInt.toNat
    have htn : t < (x.1 17 6).toInt.toNat := by omega
    by_cases rt : lrZ x a1 t = true
    · have lt := rk_lt rt htn
      obtain ⟨S1, M1, i1, i2, i3, i4, i5⟩ := nst h hS g (now := now) hT htn rt q kx' w1 w2 w3 (s0 + nI (rk (fun j => lrZ x a1 j && now.testBit (rk (lrZ x a1) j)) t)) f'
      obtain ⟨S2, M2, j1, j2, j3⟩ := note_l h hT kx kx' u1 u2 u3 u4 w1 w2 w3 s0 d (t + 1) f f' S1 M1 (by omega) (by omega) (by omega) i3 i4 i5
      refine ⟨S2, M2, ?_, ?_, j3⟩
      · show fX3_run_L163_st kx u1 u2 u3 u4 (nI now) (fX3_run_L163 kx u1 u2 u3 u4 (nI now) f) _ S = _
        unfold fX3_run_L163_st
        rw [g.2.1, if_neg (fun z => by rw [nv_l (by omega) (by omega)] at z; omega), i1, bnd_some, nv_p1, ← rk_t rt]
        exact j1
      · rw [i2, ← j2]
        congr 1
        rw [Int32.add_assoc]
        congr 1
        by_cases b : now.testBit (rk (lrZ x a1) t) = true
        · rw [if_pos b, rk_t (R := fun j => lrZ x a1 j && now.testBit (rk (lrZ x a1) j)) (by show (lrZ x a1 t && now.testBit (rk (lrZ x a1) t)) = true; rw [rt, b]; rfl), nv_p1]
        · rw [if_neg b, rk_f (R := fun j => lrZ x a1 j && now.testBit (rk (lrZ x a1) j)) (by show ¬ (lrZ x a1 t && now.testBit (rk (lrZ x a1) t)) = true; rw [rt, Bool.true_and]; exact b), Int32.add_zero]
    · obtain ⟨S2, M2, j1, j2, j3⟩ := note_l h hT kx kx' u1 u2 u3 u4 w1 w2 w3 s0 d (t + 1) (f + 1) f' S M (by omega) (by omega) (by omega) hS g (fun j hj rj => by
        obtain ⟨d1, d2, d3, d4⟩ := q j hj rj
        have ne : j ≠ t := fun z => rt (by rw [← z]; exact rj)
        refine ⟨d1, d2, ?_, d4⟩
        by_cases l : j < t
        · rw [if_pos l] at d3; rw [if_pos (by omega)]; exact d3
        · rw [if_neg l] at d3; rw [if_neg (by omega)]; exact d3)
      rw [rk_f rt] at j1
      have nB : ¬ (fun j => lrZ x a1 j && now.testBit (rk (lrZ x a1) j)) t = true := fun z => rt (Eq.mp (Bool.and_eq_true (lrZ x a1 t) (now.testBit (rk (lrZ x a1) t))) z).1
      rw [rk_f nB] at j2
      refine ⟨S2, M2, j1, ?_, j3⟩
      show fX12_listen_L208_st kx' w1 _ w2 w3 _ (fX12_listen_L208 kx' w1 _ w2 w3 _ f') _ (nI t) M = _
      unfold fX12_listen_L208_st
      simp only [jn_eq]
      rw [hS.2.2.2.2.1.1, g.1.2.2.1, if_neg (show ¬ x.1 17 6 ≤ nI t from fun z => by rw [eN, nv_l (by omega) (by omega)] at z; omega), if_neg (fun z => rt (by
        have := (nb_1 _ (by omega)).mp z
        rw [bs_bit, decide_eq_true htn, Bool.true_and] at this
        exact this)), nv_p1]
      exact j2
theorem tick_l {n : Nat} {x m : St} (h : Inv n x m) {a1 : Int32} {T : Nat} (hT : T < 1000) : ∀ (d k f f' : Nat) (words dr : Int32) (bf : Nat) (S M : St), k + d = T → d < f → d < f' → Inv n S M → LT x a1 S → QB x a1 S M 0 k → ∃ v S' M', fX3_run_L43 (nI T) f words dr (nI bf) (nI k) S = some (v, S') ∧ fX12_listen_L102 (nI T) (nI (bs (lrZ x a1) (x.1 17 6).toInt.toNat)) f' dr (nI (upZ' (lrZ x a1) bf (x.1 17 6).toInt.toNat)) words (nI k) M = some (v, M') ∧ Inv n S' M'
  | 0, k, f + 1, f' + 1, words, dr, bf, S, M, hk, _, _, hS, g, q => by
    refine ⟨words, S, M, ?_, ?_, hS⟩
    · show fX3_run_L43_st (nI T) (fX3_run_L43 (nI T) f) words dr (nI bf) (nI k) S = _
      unfold fX3_run_L43_st
      rw [if_pos ((nv_l (by omega) (by omega)).mpr (by omega))]
    · show fX12_listen_L102_st (nI T) _ (fX12_listen_L102 (nI T) _ f') dr _ words (nI k) M = _
      unfold fX12_listen_L102_st
      rw [if_pos ((nv_l (by omega) (by omega)).mpr (by omega))]
  | d + 1, k, f + 1, f' + 1, words, dr, bf, S, M, hk, hf, hf', hS, g, q => by
    have r := h.2.2.2.2.1.2.1
    have fu := fu_ge
    have lL := rk_le (lrZ x a1) (x.1 17 6).toInt.toNat
    have p20 : 2 ^ rk (lrZ x a1) (x.1 17 6).toInt.toNat ≤ 2 ^ 20 := Nat.pow_le_pow_right (by omega) (by omega)
    have nle : ¬ nI T ≤ nI k := fun z => by rw [nv_l (by omega) (by omega)] at z; omega
    obtain ⟨dr', now', i0, i1, i2⟩ := dec_l h hS g (fun (v2 v3 : Int32) (S4 : St) => fX3_run_L163 (fun (S5 : St) => bnd (fJ6_bitCount_0f7a4 v3 S5) (fun v6 S7 => lt (words + v6) (fun (v8 : Int32) => fX3_run_L43 (nI T) f v8 v2 v3 (nI (k + 1)) S7))) (nI T) words v2 (nI k) v3 FU 0 S4) (fun (v2 v3 : Int32) (S4 : St) => fX12_listen_L208 (fun (v5 : Int32) (S6 : St) => fX12_listen_L102 (nI T) (nI (bs (lrZ x a1) (x.1 17 6).toInt.toNat)) f' v2 v3 v5 (nI (k + 1)) S6) (nI T) (nI (bs (lrZ x a1) (x.1 17 6).toInt.toNat)) v2 (nI k) v3 FU words 0 S4) (nI T) words (nI k) (nI T) words (nI k) bf (x.1 17 6).toInt.toNat 0 FU FU dr 0 (by omega) (by omega) (by omega) (Nat.two_pow_pos _)
    obtain ⟨S1, M1, j1, j2, j3, j4, j5⟩ := note_l h (a1 := a1) (T := k) (now := now') (by omega) (fun (S5 : St) => bnd (fJ6_bitCount_0f7a4 (nI now') S5) (fun v6 S7 => lt (words + v6) (fun (v8 : Int32) => fX3_run_L43 (nI T) f v8 dr' (nI now') (nI (k + 1)) S7))) (fun (v5 : Int32) (S6 : St) => fX12_listen_L102 (nI T) (nI (bs (lrZ x a1) (x.1 17 6).toInt.toNat)) f' dr' (nI (upZ' (lrZ x a1) now' (x.1 17 6).toInt.toNat)) v5 (nI (k + 1)) S6) (nI T) words dr' (nI k) (nI T) dr' (nI k) words (x.1 17 6).toInt.toNat 0 FU FU S M (by omega) (by omega) (by omega) hS g q
    have pc : rk (fun j => lrZ x a1 j && now'.testBit (rk (lrZ x a1) j)) (x.1 17 6).toInt.toNat = pcn now' := by rw [rk_up, rk_bit _ _ (by omega), Nat.mod_eq_of_lt i0]
    rw [pc] at j2
    have e0 : words + nI (rk (fun j => lrZ x a1 j && now'.testBit (rk (lrZ x a1) j)) 0) = words := Int32.add_zero words
    rw [e0] at j2
    obtain ⟨v, S2, M2, k1, k2, k3⟩ := tick_l h hT d (k + 1) f f' (words + nI (pcn now')) dr' now' S1 M1 (by omega) (by omega) (by omega) j3 j4 j5
    refine ⟨v, S2, M2, ?_, ?_, k3⟩
    · show fX3_run_L43_st (nI T) (fX3_run_L43 (nI T) f) words dr (nI bf) (nI k) S = _
      unfold fX3_run_L43_st
      rw [if_neg nle, nv_p1]
      refine i1.trans (j1.trans ?_)
      rw [e_bc (by omega), bnd_some, lt_eq]
      exact k1
    · show fX12_listen_L102_st (nI T) _ (fX12_listen_L102 (nI T) _ f') dr _ words (nI k) M = _
      unfold fX12_listen_L102_st
      rw [if_neg nle, nv_p1]
      have e00 : nI (upZ' (lrZ x a1) 0 0) = 0 := rfl
      exact i2.trans (j2.trans k2)
/-! ===== listen: the start ===== -/
def fzi (S : St) (k lo hi : Nat) (v : Int32) : St := (fun a b => if a = k ∧ lo ≤ b ∧ b < hi then v else S.1 a b, S.2)
theorem fzi_wi (S : St) (k lo hi : Nat) (v : Int32) (h : lo < hi) : fzi (wi S k lo v) k (lo + 1) hi v = fzi S k lo hi v := by
  unfold fzi wi
  refine Prod.ext ?_ rfl
  funext a b
  show (if a = k ∧ lo + 1 ≤ b ∧ b < hi then v else (if a = k ∧ b = lo then v else S.1 a b)) = if a = k ∧ lo ≤ b ∧ b < hi then v else S.1 a b
  by_cases c1 : a = k ∧ lo + 1 ≤ b ∧ b < hi
  · rw [if_pos c1, if_pos (by omega)]
  · rw [if_neg c1]
    by_cases c2 : a = k ∧ b = lo
    · rw [if_pos c2, if_pos (by omega)]
    · rw [if_neg c2, if_neg (by omega)]
theorem fzi_0 (S : St) (k lo : Nat) (v : Int32) : fzi S k lo lo v = S := by
  unfold fzi
  refine Prod.ext ?_ rfl
  funext a b
  exact if_neg (by omega)
theorem filI_l (q nn : Nat) (v : Int32) (hn : nn < 1000) : ∀ (d k f : Nat) (x : St), k + d = nn → d < f → fJ7_fill_53178_L5 q nn v (nI nn) f (nI k) x = some ((), fzi x q k nn v)
  | 0, k, f + 1, x, hk, _ => by
    show fJ7_fill_53178_L5_st q nn v (nI nn) (fJ7_fill_53178_L5 q nn v (nI nn) f) (nI k) x = _
    unfold fJ7_fill_53178_L5_st
    rw [if_pos ((nv_l (by omega) (by omega)).mpr (by omega)), show k = nn by omega, fzi_0]
  | d + 1, k, f + 1, x, hk, hf => by
    show fJ7_fill_53178_L5_st q nn v (nI nn) (fJ7_fill_53178_L5 q nn v (nI nn) f) (nI k) x = _
    unfold fJ7_fill_53178_L5_st
    rw [if_neg (fun z => by rw [nv_l (by omega) (by omega)] at z; omega), if_pos (nv_ib (by omega) (by omega)), lt_eq, nv_nt (by omega), nv_p1, filI_l q nn v hn d (k + 1) f _ (by omega) (by omega), fzi_wi _ _ _ _ _ (by omega)]
theorem e_filI (q nn : Nat) (v : Int32) (hn : nn < 1000) (x : St) : fJ7_fill_53178 q nn v x = some ((), fzi x q 0 nn v) := by
  unfold fJ7_fill_53178
  rw [lt_eq]
  exact filI_l q nn v hn nn 0 FU x (by omega) (by have := fu_ge; omega)
theorem fzi_c (S : St) {k lo hi a : Nat} (v : Int32) (h : ¬ a = k) : (fzi S k lo hi v).1 a = S.1 a := by funext b; exact if_neg (fun q => h q.1)
theorem fzi_s (S : St) {k lo hi b : Nat} (v : Int32) (h : lo ≤ b ∧ b < hi) : (fzi S k lo hi v).1 k b = v := if_pos ⟨rfl, h⟩
theorem z45 (kx : St → Option (Int32 × St)) (b1 b2 b3 : Int32) : ∀ (d k f : Nat) (M : St), k + d = 20 → d < f → ∃ M', fX12_listen_L45 kx b1 b2 b3 f (nI k) M = kx M' ∧ (∀ q, q < 21 ∨ 24 < q → M'.1 q = M.1 q) ∧ M'.2 = M.2 ∧ (∀ q, 21 ≤ q → q ≤ 24 → ∀ b, k ≤ b → b < 20 → M'.1 q b = 0) ∧ ∀ q, 21 ≤ q → q ≤ 24 → ∀ b, b < k → M'.1 q b = M.1 q b
  | 0, k, f + 1, M, hk, _ => by
    refine ⟨M, ?_, fun _ _ => rfl, rfl, fun q _ _ b _ _ => by omega, fun _ _ _ _ _ => rfl⟩
    show fX12_listen_L45_st kx b1 b2 b3 (fX12_listen_L45 kx b1 b2 b3 f) (nI k) M = _
    unfold fX12_listen_L45_st
    rw [if_pos (show (20 : Int32) ≤ nI k from (nv_l (a := 20) (by omega) (by omega)).mpr (by omega))]
  | d + 1, k, f + 1, M, hk, hf => by
    obtain ⟨M', i1, i2, i3, i4, i5⟩ := z45 kx b1 b2 b3 d (k + 1) f (wi (wi (wi (wi M 21 k 0) 22 k 0) 23 k 0) 24 k 0) (by omega) (by omega)
    have wk : ∀ q, 21 ≤ q → q ≤ 24 → (wi (wi (wi (wi M 21 k 0) 22 k 0) 23 k 0) 24 k 0).1 q k = 0 := fun q h1 h2 => by
      rcases (show q = 21 ∨ q = 22 ∨ q = 23 ∨ q = 24 by omega) with e | e | e | e <;> subst e <;> simp [wi]
    refine ⟨M', ?_, fun q hq => ?_, i3, fun q h1 h2 b h3 h4 => ?_, fun q h1 h2 b h3 => ?_⟩
    · show fX12_listen_L45_st kx b1 b2 b3 (fX12_listen_L45 kx b1 b2 b3 f) (nI k) M = _
      unfold fX12_listen_L45_st
      simp only [lt_eq, if_pos (show ib (nI k) 20 from nv_ib (by omega) (by omega))]
      rw [if_neg (fun z => by have := (nv_l (a := 20) (by omega) (by omega)).mp z; omega), nv_nt (by omega), nv_p1]
      exact i1
    · rw [i2 q hq, wi_c _ _ (by omega), wi_c _ _ (by omega), wi_c _ _ (by omega), wi_c _ _ (by omega)]
    · by_cases e : b = k
      · rw [e, i5 q h1 h2 k (by omega)]; exact wk q h1 h2
      · exact i4 q h1 h2 b (by omega) h4
    · rw [i5 q h1 h2 b (by omega), wi_n _ _ (by omega), wi_n _ _ (by omega), wi_n _ _ (by omega), wi_n _ _ (by omega)]
theorem LT_c {x S S' : St} {a1 : Int32} (g : LT x a1 S) (hc : ∀ k, k < 52 → S'.1 k = S.1 k) (h2 : S'.2 = S.2) : LT x a1 S' := by
  obtain ⟨g1, g2, g3, g4⟩ := g
  refine ⟨⟨fun k hk => by rw [hc k (by unfold fcell at hk; omega)]; exact g1.1 k hk, by rw [hc 17 (by omega)]; exact g1.2.1, by rw [hc 17 (by omega)]; exact g1.2.2.1, fun k hk => by rw [h2]; exact g1.2.2.2 k hk⟩, by rw [hc 48 (by omega)]; exact g2, fun j hj hr => by rw [hc 49 (by omega)]; exact g3 j hj hr, fun a b ha hb ra rb => ?_⟩
  unfold LE
  rw [hc 50 (by omega), hc 51 (by omega)]
  exact g4 a b ha hb ra rb
theorem pr_23 (n : Nat) (x m : St) (a1 a2 a3 : Int32) (_ : n < 512) (h : Inv n x m) : ∃ (v : Int32) (x' m' : St), fX11_listen a1 a2 a3 x = some (v, x') ∧ fX12_listen a1 a2 a3 m = some (v, m') ∧ Inv (n + 1) x' m' := by
  obtain ⟨h1, h2, h3, h4, h5, h6, h7, h8, h9, h10, h11⟩ := id h
  have hu := Inv_up n x m h
  have r := h5.2.1
  have fu := fu_ge
  have u : (11 : Int32).toInt = 11 ∧ (11 : Int64).toInt = 11 ∧ (200 : Int32).toInt = 200 ∧ (200 : Int64).toInt = 200 := by decide
  unfold fX11_listen fX12_listen
  simp only [e_within, e_in, bnd_some, bi_ite, t64, l32_0, l64_0, l32_1, l64_1, u.1, u.2.1, u.2.2.1, u.2.2.2]
  by_cases c : 0 ≤ a1.toInt ∧ a1.toInt ≤ 11
  · rw [if_pos c, if_pos c]
    by_cases c2 : 1 ≤ a3.toInt ∧ a3.toInt ≤ 200
    · obtain ⟨T, rfl, eT⟩ := nv_i c2 (by omega)
      obtain ⟨S', w1, w2⟩ := e_lg h a1
      have lL := rk_le (lrZ x a1) (x.1 17 6).toInt.toNat
      have p20 : 2 ^ (x.1 17 6).toInt.toNat ≤ 2 ^ 20 := Nat.pow_le_pow_right (by omega) (by omega)
      have bl := bs_lt (lrZ x a1) (x.1 17 6).toInt.toNat
      have pc := pcn_bs (lrZ x a1) (x.1 17 6).toInt.toNat (by omega)
      rw [if_pos c2, if_pos c2, w1, bnd_some, e_lis h5, bnd_some, w2.2.1]
      by_cases z : bs (lrZ x a1) (x.1 17 6).toInt.toNat = 0
      · have zr : rk (lrZ x a1) (x.1 17 6).toInt.toNat = 0 := by rw [← pc, z]; exact pcn_0
        rw [if_pos (show nI (rk (lrZ x a1) (x.1 17 6).toInt.toNat) = 0 by rw [zr]; rfl), if_pos (show nI (bs (lrZ x a1) (x.1 17 6).toInt.toNat) = 0 by rw [z]; rfl)]
        exact ⟨_, _, _, rfl, rfl, Inv_fr w2.1 mEq.rfl hu⟩
      · have zr : ¬ rk (lrZ x a1) (x.1 17 6).toInt.toNat = 0 := fun e => by
          apply z
          refine (bs_0 _).mpr (fun j hj rj => ?_)
          have := rk_lt rj hj
          omega
        rw [if_neg (fun e => zr ((nv_z (by omega)).mp e)), if_neg (fun e => z ((nv_z (by omega)).mp e))]
        have hS := Inv_fr w2.1 mEq.rfl h
        obtain ⟨M', i1, i2, i3, i4, i5⟩ := z45 (fun (S10 : St) => fX12_listen_L102 (nI T) (nI (bs (lrZ x a1) (x.1 17 6).toInt.toNat)) FU a2 0 0 0 S10) a2 (nI T) (nI (bs (lrZ x a1) (x.1 17 6).toInt.toNat)) 20 0 FU m (by omega) (by omega)
        have cx : ∀ k, k < 52 ∨ 55 < k → (fzi (fzi (fzi (fzi S' 52 0 20 0) 53 0 20 0) 54 0 20 0) 55 0 20 0).1 k = S'.1 k := fun k hk => by rw [fzi_c _ _ (by omega), fzi_c _ _ (by omega), fzi_c _ _ (by omega), fzi_c _ _ (by omega)]
        have hI : Inv n (fzi (fzi (fzi (fzi S' 52 0 20 0) 53 0 20 0) 54 0 20 0) 55 0 20 0) M' := Inv_ls hS cx i2 rfl i3 (fun i hi => by
          rw [i4 21 (by omega) (by omega) i (by omega) hi, i4 22 (by omega) (by omega) i (by omega) hi, i4 23 (by omega) (by omega) i (by omega) hi, fzi_c (a := 53) _ _ (by omega), fzi_c (a := 53) _ _ (by omega), fzi_s _ _ (by omega), fzi_c (a := 54) _ _ (by omega), fzi_s _ _ (by omega), fzi_s _ _ (by omega)]
          exact ⟨rfl, rfl, rfl⟩)
        have g := LT_c (LT_of w2) (S' := fzi (fzi (fzi (fzi S' 52 0 20 0) 53 0 20 0) 54 0 20 0) 55 0 20 0) (fun k hk => cx k (by omega)) rfl
        obtain ⟨v, S2, M2, k1, k2, k3⟩ := tick_l h (a1 := a1) (T := T) (by omega) T 0 FU FU 0 a2 0 _ M' (by omega) (by omega) (by omega) hI g (fun j hj rj => by
          have := rk_lt rj hj
          rw [i4 24 (by omega) (by omega) j (by omega) (by omega), fzi_c (a := 52) _ _ (by omega), fzi_c (a := 52) _ _ (by omega), fzi_c (a := 52) _ _ (by omega), fzi_s _ _ (by omega), fzi_s _ _ (by omega)]
          exact ⟨rfl, by decide, by rw [l32_0]; omega, by decide⟩)
        rw [up_0] at k2
        refine ⟨v, S2, M2, ?_, i1.trans k2, Inv_up _ _ _ k3⟩
        unfold fX3_run
        rw [e_filI _ _ _ (by omega), bnd_some, e_filI _ _ _ (by omega), bnd_some, e_filI _ _ _ (by omega), bnd_some, e_filI _ _ _ (by omega), bnd_some]
        have k1' : fX3_run_L43 (nI T) FU 0 a2 0 0 (fzi (fzi (fzi (fzi S' 52 0 20 0) 53 0 20 0) 54 0 20 0) 55 0 20 0) = some (v, S2) := k1
        rw [k1', bnd_some]
    · rw [if_neg c2, if_neg c2]; exact ⟨_, _, _, rfl, rfl, hu⟩
  · rw [if_neg c, if_neg c]; exact ⟨_, _, _, rfl, rfl, hu⟩
