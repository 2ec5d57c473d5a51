/-! ===== parting: part and assign ===== -/
def cbN : Nat → Nat
  | 0 => 0
  | d + 1 => 9 * (cbN d + 1)
theorem fu_big : 1000000000 ≤ FU := by unfold FU; decide
theorem nI_m (k : Nat) : nI (k + 1) + (-1) = nI k := by
  have e : nI (k + 1) + (-1) = nI (k + 1) - 1 := (Int32.sub_eq_add_neg (nI (k + 1)) 1).symm
  have e1 : nI (k + 1) - 1 = nI (k + 1 - 1) := nv_sub (b := 1) (by omega)
  rw [e, e1]; rfl
theorem nxt {L n : Nat} {tg : Nat → Bool} (hL : L ≤ 8) (hn : n ≤ 8) : ∀ (d k : Nat), k + (d + 1) = L → NXT L n tg (cbN d) d k
  | 0, k, hk => by
    intro M a g
    have eE : En L (k + 1) M = M := if_pos (by omega)
    refine ⟨fun _ => ⟨0, M, a, Nat.le_refl _, fun f => ?_, fun _ _ => rfl, trivial, fun j hj => (g.2.2 j (by omega)).1, fun _ _ => rfl, rfl⟩, fun z => absurd trivial z⟩
    rw [eE, show k + 1 = L by omega]; rfl
  | d + 1, k, hk => by
    intro M a g
    have eE : En L (k + 1) M = wi M 20 (k + 1) (-1) := if_neg (by omega)
    have fr : FRK M (wi M 20 (k + 1) (-1)) := ⟨fun q hq => wi_c _ _ hq, rfl⟩
    have g' : PRM L n tg a (k + 1) (wi M 20 (k + 1) (-1)) := PRM_f g fr (fun j hj => wi_n _ _ (by omega))
    have ek : (wi M 20 (k + 1) (-1)).1 20 (k + 1) + 1 = nI 0 := by rw [wi_s]; decide
    obtain ⟨iA, iB⟩ := rl_in hL hn (show (k + 1) + (d + 1) = L by omega) (nxt hL hn d (k + 1) (by omega)) n n 0 (wi M 20 (k + 1) (-1)) a (Nat.le_refl _) (by omega) g' ek
    have bd : (n + 1) * (cbN d + 1) ≤ cbN (d + 1) := Nat.mul_le_mul_right _ (by omega)
    rw [eE]
    refine ⟨fun cp => ?_, fun ncp => ?_⟩
    · obtain ⟨t, t1, t2⟩ := cp
      obtain ⟨c, M', b, d1, d2, d3, d4, d5, d6, d7, d8, d9, d10⟩ := iA ⟨t, by omega, t1, t2⟩
      exact ⟨c, M', b, Nat.le_trans d1 bd, d2, d3, ⟨d5, d6, fun u hu => d7 u (by omega) hu, d8⟩, d9, fr.tr d10⟩
    · obtain ⟨c, M', d1, d2, d3, d4⟩ := iB (fun ⟨t, t1, t2, t3⟩ => ncp ⟨t, t2, t3⟩)
      exact ⟨c, M', Nat.le_trans d1 bd, fun f => by rw [d2 f, nI_m], fun j hj => by rw [d3 j hj, wi_n _ _ (by omega)], fr.tr d4⟩
theorem e_parts {L n : Nat} {tg : Nat → Bool} (hL1 : 1 ≤ L) (hL : L ≤ 8) (hn : n ≤ 8) {M : St} (e22 : M.1 0 22 = nI L) (e18 : ∀ j, j < 2 ^ L → M.1 18 j = bi (tg j = true)) (cp : CP tg n L (fun _ => 0) 0) : ∃ (M' : St) (b : Nat → Nat), fX12_parts (nI n) M = some ((), M') ∧ GR tg n L (fun _ => 0) 0 b ∧ (∀ j, j < L → M'.1 20 j = nI (b j)) ∧ FRK M M' := by
  obtain ⟨d, rfl⟩ : ∃ d, L = d + 1 := ⟨L - 1, by omega⟩
  have fr : FRK M (wi M 20 0 (-1)) := ⟨fun q hq => wi_c _ _ hq, rfl⟩
  have g' : PRM (d + 1) n tg (fun _ => 0) 0 (wi M 20 0 (-1)) := ⟨by rw [wi_c _ _ (by omega)]; exact e22, fun j hj => by rw [wi_c _ _ (by omega)]; exact e18 j hj, fun j hj => by omega⟩
  have ek : (wi M 20 0 (-1)).1 20 0 + 1 = nI 0 := by rw [wi_s]; decide
  obtain ⟨iA, -⟩ := rl_in hL hn (show 0 + (d + 1) = d + 1 by omega) (nxt hL hn d 0 (by omega)) n n 0 (wi M 20 0 (-1)) (fun _ => 0) (Nat.le_refl _) (by omega) g' ek
  obtain ⟨t, t1, t2⟩ := cp
  obtain ⟨c, M', b, d1, d2, d3, d4, d5, d6, d7, d8, d9, d10⟩ := iA ⟨t, by omega, t1, t2⟩
  have bd : (n + 1) * (cbN d + 1) ≤ cbN (d + 1) := Nat.mul_le_mul_right _ (by omega)
  have cb9 : ∀ k, k < 9 → cbN k ≤ 100000000 := by decide
  have cbd := cb9 (d + 1) (by omega)
  have fu := fu_big
  refine ⟨M', b, ?_, ⟨d5, d6, fun u hu => d7 u (by omega) hu, d8⟩, d9, fr.tr d10⟩
  unfold fX12_parts
  rw [lt_eq]
  have e22' : M'.1 0 22 = nI (d + 1) := by rw [d10.1 0 (by omega), wi_c _ _ (by omega)]; exact e22
  obtain ⟨F, eF⟩ : ∃ F, FU = (F + 1) + c := ⟨FU - c - 1, by omega⟩
  have := d2 (F + 1)
  rw [← eF] at this
  refine this.trans ?_
  show fX12_parts_L9_st (nI n) (fX12_parts_L9 (nI n) F) (nI (d + 1)) M' = _
  unfold fX12_parts_L9_st
  rw [e22', if_pos ((nv_l (by omega) (by omega)).mpr (Nat.le_refl _))]
theorem GR_lt {tg : Nat → Bool} {n : Nat} : ∀ (d : Nat) (gs : Nat → Nat) (k : Nat) (b : Nat → Nat), GR tg n d gs k b → ∀ j, k ≤ j → j < k + d → b j < n
  | 0, _, _, _, _, j, h1, h2 => by omega
  | d + 1, gs, k, b, h, j, h1, h2 => by
    obtain ⟨a1, a2, a3, a4⟩ := h
    by_cases q : j = k
    · rw [q]; exact a1
    · exact GR_lt d _ (k + 1) b a4 j (by omega) (by omega)
/-- both divide alike -/
theorem e_div {n : Nat} {x m S M : St} (h : Inv n x m) {s : Nat} (hL1 : 1 ≤ rk (sB s) (nS x)) (hL8 : rk (sB s) (nS x) ≤ 8) (ca : CA x s S (2 ^ rk (sB s) (nS x))) (cm : CM x m s M (2 ^ rk (sB s) (nS x))) : (∃ (q : Nat) (b : Nat → Nat) (S' M' : St), q ≤ 8 ∧ S.1 45 (2 ^ rk (sB s) (nS x) - 1) = nI q ∧ M.1 19 (2 ^ rk (sB s) (nS x) - 1) = nI q ∧ fX4_divide S = some (1, S') ∧ fX12_parts (nI q) M = some ((), M') ∧ (∀ j, j < rk (sB s) (nS x) → S'.1 47 j = nI (b j) ∧ M'.1 20 j = nI (b j) ∧ b j < q) ∧ PT x s S' ∧ S'.1 45 = S.1 45 ∧ PMM x m s M') ∨ (∃ S', M.1 19 (2 ^ rk (sB s) (nS x) - 1) = nI 100 ∧ fX4_divide S = some (0, S') ∧ PT x s S') := by
  have p8 : 2 ^ rk (sB s) (nS x) ≤ 2 ^ 8 := Nat.pow_le_pow_right (by omega) hL8
  have p0 := Nat.two_pow_pos (rk (sB s) (nS x))
  have ptF : PT x s (fzi S 46 0 8 0) := PT_c ca.1 (fun k hk => fzi_c _ _ (by omega)) rfl
  have e45 : (fzi S 46 0 8 0).1 45 = S.1 45 := fzi_c _ _ (by omega)
  rcases abz hL8 ca cm (mask := 2 ^ rk (sB s) (nS x) - 1) (by omega) with ⟨q, q8, e1, e2⟩ | ⟨e1, e2⟩
  · left
    have hB : DB (tgB x s) (fun i => nt (M.1 19 i)) (rk (sB s) (nS x)) := ⟨cm.2.2.2.1 p0, fun k h0 hk => cm.2.2.2.2 k h0 hk⟩
    obtain ⟨c, c1, c2⟩ := partition hL8 hB q (2 ^ rk (sB s) (nS x) - 1) (by omega) (by show nt (M.1 19 (2 ^ rk (sB s) (nS x) - 1)) = q; rw [e2, nv_nt (by omega)]) q8
    have cp : CP (tgB x s) q (rk (sB s) (nS x)) (fun _ => 0) 0 := CP_of (L := rk (sB s) (nS x)) (fun a b hab hb => tg_mono h hab hb) c (fun i hi => c1 i (by rw [Nat.testBit_two_pow_sub_one, decide_eq_true hi])) (fun g hg => by
      have := c2 g hg
      have eg : gmk (2 ^ rk (sB s) (nS x) - 1) c (rk (sB s) (nS x)) g = gp c (rk (sB s) (nS x)) g := bs_cg _ (fun j hj => by
        rw [Nat.testBit_two_pow_sub_one, decide_eq_true hj, Bool.true_and])
      rw [eg] at this; exact this) (rk (sB s) (nS x)) 0 (by omega)
    obtain ⟨M', b, a1, a2, a3, a4⟩ := e_parts hL1 hL8 q8 cm.1.2.1 (fun j hj => cm.2.1 j hj) cp
    have px : PLX (rk (sB s) (nS x)) q (tgB x s) (fun _ => 0) 0 (fzi S 46 0 8 0) := ⟨ptF.2.1, by rw [e45]; exact e1, fun j hj => by rw [fzi_c _ _ (by omega)]; exact ca.2.1 j hj, fun t ht => ⟨fzi_s _ _ (by omega), by show 0 < 2 ^ 0; decide⟩⟩
    rcases pl_e hL1 hL8 q8 (rk (sB s) (nS x)) 10 0 (fun _ => 0) (fzi S 46 0 8 0) (by omega) (by omega) px (fun _ _ _ _ => rfl) with ⟨-, S', b', h1, h2, h3, h4, h5⟩ | ⟨ncp, -⟩
    · have h1' : fX4_place 10 0 (fzi S 46 0 8 0) = some (1, S') := h1
      refine ⟨q, b, S', M', q8, e1, e2, ?_, a1, fun j hj => ⟨?_, a3 j hj, GR_lt _ _ _ _ a2 j (by omega) (by omega)⟩, PT_c ptF (fun k hk => h5.1 k (by omega) (by omega)) h5.2, by rw [h5.1 45 (by omega) (by omega)]; exact e45, PMM_c cm.1 (fun k hk => a4.1 k (by omega)) a4.2⟩
      · unfold fX4_divide
        rw [e_filI _ _ _ (by omega), bnd_some, e_wh hL8 ptF, bnd_some, if_pos (nv_ib (by omega) (by omega)), nv_nt (by omega), e45, e1, if_neg (show ¬ nI q = 99 from fun z => by have := (nv_e (b := 99) (by omega) (by omega)).mp z; omega), h1', bnd_some, if_neg (by decide)]
      · rw [h3 j (by omega) (by omega), GR_u _ _ _ _ _ h2 a2 j (by omega) (by omega)]
    · exact absurd cp ncp
  · right
    refine ⟨fzi S 46 0 8 0, e2, ?_, ptF⟩
    unfold fX4_divide
    rw [e_filI _ _ _ (by omega), bnd_some, e_wh hL8 ptF, bnd_some, if_pos (nv_ib (by omega) (by omega)), nv_nt (by omega), e45, e1, if_pos (show nI 99 = 99 from rfl)]
theorem pk_l {x m M : St} {s : Nat} (hL8 : rk (sB s) (nS x) ≤ 8) (h20 : nS x ≤ 20) (g : PMM x m s M) (kx : Int32 → St → Option (Int32 × St)) {j : Nat} (hj : j < nS x) (rj : sB s j = true) : ∀ (d k f : Nat), k + d = rk (sB s) j → d < f → fX12_part_L62 kx (nI j) f (nI k) M = kx (nI (rk (sB s) j)) M
  | 0, k, f + 1, hk, _ => by
    have lt := rk_lt rj hj
    show fX12_part_L62_st kx (nI j) (fX12_part_L62 kx (nI j) f) (nI k) M = _
    unfold fX12_part_L62_st
    rw [if_pos (nv_ib (by omega) (by omega)), nv_nt (by omega), show k = rk (sB s) j by omega, g.2.2 j hj rj, if_pos rfl]
  | d + 1, k, f + 1, hk, hf => by
    have lt := rk_lt rj hj
    obtain ⟨i, i1, i2, i3⟩ := rk_ex (sB s) (nS x) k (by omega)
    have mk : M.1 17 k = nI i := by rw [← i3]; exact g.2.2 i i1 i2
    show fX12_part_L62_st kx (nI j) (fX12_part_L62 kx (nI j) f) (nI k) M = _
    unfold fX12_part_L62_st
    rw [if_pos (nv_ib (by omega) (by omega)), nv_nt (by omega), mk, if_neg (fun z => by
      have := (nv_e (by omega) (by omega)).mp z
      rw [this] at i3; omega), nv_p1]
    exact pk_l hL8 h20 g kx hj rj d (k + 1) f (by omega) (by omega)
theorem pr_15 (n : Nat) (x m : St) (a1 a2 : Int32) (_ : n < 512) (h : Inv n x m) : ∃ (v : Int32) (x' m' : St), fX11_part a1 a2 x = some (v, x') ∧ fX12_part a1 a2 m = some (v, m') ∧ Inv (n + 1) x' m' := by
  obtain ⟨h1, h2, h3, h4, h5, h6, h7, h8, h9, h10, h11⟩ := id h
  have hu := Inv_up n x m h
  have fu := fu_ge
  have r20 := nS20 h
  unfold fX11_part fX12_part
  rcases e_set h5 a1 with ⟨z1, z2⟩ | ⟨s, rfl, ls, hL1, hL8, z1, M0, z2, pm⟩
  · rw [z1, z2, bnd_some, bnd_some, if_pos rfl, if_pos rfl]; exact ⟨_, _, _, rfl, rfl, hu⟩
  · have hL8 : rk (sB s) (nS x) ≤ 8 := hL8
    have hL1 : 1 ≤ rk (sB s) (nS x) := hL1
    have h0 := Inv_fr xEq.rfl pm.1 h
    have hu0 := Inv_fr xEq.rfl pm.1 hu
    rw [z1, z2, bnd_some, bnd_some, if_neg (by decide), if_neg (by decide), e_has, e_isSender h0.2.2.2.2.1, bnd_some, bnd_some, bi_ite, bi_ite]
    by_cases c : isS x a2
    · obtain ⟨j, rfl, hj, ent, l20⟩ := isS_k h5 c
      have hjn : j < nS x := by omega
      rw [if_pos c, if_pos c]
      by_cases rj : s.testBit j = true
      · have nb : ¬ ((nI s >>> (nI j &&& 31)) &&& 1) = 0 := fun q => (nb_0 s (by omega)).mp q rj
        obtain ⟨S', w1, ca⟩ := e_prep h (s := s) hL1 hL8
        obtain ⟨M', w2, cm⟩ := e_ff h (s := s) hL8 pm
        have p8 : 2 ^ rk (sB s) (nS x) ≤ 2 ^ 8 := Nat.pow_le_pow_right (by omega) hL8
        have p0 := Nat.two_pow_pos (rk (sB s) (nS x))
        have lj := rk_lt (R := sB s) rj hjn
        have p20 : 2 ^ (x.1 17 6).toInt.toNat ≤ 2 ^ 20 := Nat.pow_le_pow_right (by omega) (by unfold nS at r20; omega)
        rw [if_neg nb, if_neg nb, w1, w2, bnd_some, bnd_some, e_whM hL8 cm.1, if_pos (nv_ib (by omega) (by omega)), lt_eq, nv_nt (by omega)]
        rcases e_div h hL1 hL8 ca cm with ⟨q, b, S2, M2, q8, e1, e2, d1, d2, d3, d4, d5, d6⟩ | ⟨S2, e2, d1, d2⟩
        · have eb : nI s &&& ((1 : Int32) <<< (nI j &&& 31) - 1) = nI (s % 2 ^ j) := by
            have ej : nI (2 ^ j) - 1 = nI (2 ^ j - 1) := nv_sub (b := 1) (by have := Nat.two_pow_pos j; omega)
            rw [nb_shl j (by omega), ej, nx_and, Nat.and_two_pow_sub_one_eq_mod]
          have lm : s % 2 ^ j ≤ s := Nat.mod_le _ _
          have er : pcn (s % 2 ^ j) = rk (sB s) j := (rk_bit s j (by omega)).symm
          rw [e2, if_pos (show nI q ≤ 8 from (nv_l (b := 8) (by omega) (by omega)).mpr q8), d1, d2, bnd_some, bnd_some, if_neg (by decide), eb, e_bc (by omega), bnd_some, er, if_pos (nv_ib (by omega) (by omega)), nv_nt (by omega), (d3 _ lj).1]
          have pk := pk_l hL8 r20.1 d6 (fun (v13 : Int32) (S14 : St) => if ib v13 8 then (some (S14.1 20 (nt v13), S14)) else none) hjn rj (rk (sB s) j) 0 FU (by omega) (by omega)
          have pk' : fX12_part_L62 (fun (v13 : Int32) (S14 : St) => if ib v13 8 then (some (S14.1 20 (nt v13), S14)) else none) (nI j) FU 0 M2 = _ := pk
          rw [pk', if_pos (nv_ib (by omega) (by omega)), nv_nt (by omega), (d3 _ lj).2.1]
          exact ⟨_, _, _, rfl, rfl, Inv_fr d4.1 d6.1 hu⟩
        · rw [e2, if_neg (show ¬ nI 100 ≤ 8 by decide), d1, bnd_some, if_pos rfl]
          exact ⟨_, _, _, rfl, rfl, Inv_fr d2.1 cm.1.1 hu⟩
      · have nb : ((nI s >>> (nI j &&& 31)) &&& 1) = 0 := (nb_0 s (by omega)).mpr rj
        rw [if_pos nb, if_pos nb]; exact ⟨_, _, _, rfl, rfl, hu0⟩
    · rw [if_neg c, if_neg c]; exact ⟨_, _, _, rfl, rfl, hu0⟩
theorem Inv_slot {n : Nat} {x m : St} (hu : Inv n x m) {i : Nat} (hlt : i < 20) (hlt2 : (i : Int) < (x.1 17 6).toInt) {a3 : Int32} (c2 : 0 ≤ a3.toInt ∧ a3.toInt ≤ 11) : Inv n (wi x (19 + i) 7 a3) (wi m (6 + 7) i a3) := by
  obtain ⟨u1, u2, u3, u4, u5, u6, u7, u8, u9, u10, u11⟩ := hu
  refine ⟨I_told_c (by first | rfl | ((repeat (rw [wi_c _ _ (by omega)])); done) | ((repeat (first | rw [wi_c _ _ (by omega)] | rw [wi_n _ _ (by omega)])); done) | (funext b; simp [wi, wj]; done) | (simp [wi, wj]; done)) (by first | rfl | ((repeat (rw [wi_c _ _ (by omega)])); done) | ((repeat (first | rw [wi_c _ _ (by omega)] | rw [wi_n _ _ (by omega)])); done) | (funext b; simp [wi, wj]; done) | (simp [wi, wj]; done)) u1, I_land_c (by first | rfl | ((repeat (rw [wi_c _ _ (by omega)])); done) | ((repeat (first | rw [wi_c _ _ (by omega)] | rw [wi_n _ _ (by omega)])); done) | (funext b; simp [wi, wj]; done) | (simp [wi, wj]; done)) (by first | rfl | ((repeat (rw [wi_c _ _ (by omega)])); done) | ((repeat (first | rw [wi_c _ _ (by omega)] | rw [wi_n _ _ (by omega)])); done) | (funext b; simp [wi, wj]; done) | (simp [wi, wj]; done)) (by first | rfl | ((repeat (rw [wi_c _ _ (by omega)])); done) | ((repeat (first | rw [wi_c _ _ (by omega)] | rw [wi_n _ _ (by omega)])); done) | (funext b; simp [wi, wj]; done) | (simp [wi, wj]; done)) u2, I_sheet_c (fun k hk1 hk2 => by first | rfl | ((repeat (rw [wi_c _ _ (by omega)])); done)) (fun k hk1 hk2 => by first | rfl | ((repeat (rw [wi_c _ _ (by omega)])); done)) (by first | rfl | ((repeat (rw [wi_c _ _ (by omega)])); done) | ((repeat (first | rw [wi_c _ _ (by omega)] | rw [wi_n _ _ (by omega)])); done) | (funext b; simp [wi, wj]; done) | (simp [wi, wj]; done)) (by first | rfl | ((repeat (rw [wi_c _ _ (by omega)])); done) | ((repeat (first | rw [wi_c _ _ (by omega)] | rw [wi_n _ _ (by omega)])); done) | (funext b; simp [wi, wj]; done) | (simp [wi, wj]; done)) (by first | rfl | ((repeat (rw [wi_c _ _ (by omega)])); done) | ((repeat (first | rw [wi_c _ _ (by omega)] | rw [wi_n _ _ (by omega)])); done) | (funext b; simp [wi, wj]; done) | (simp [wi, wj]; done)) u3, I_tick_c (by first | rfl | ((repeat (rw [wi_c _ _ (by omega)])); done) | ((repeat (first | rw [wi_c _ _ (by omega)] | rw [wi_n _ _ (by omega)])); done) | (funext b; simp [wi, wj]; done) | (simp [wi, wj]; done)) (by first | rfl | ((repeat (rw [wi_c _ _ (by omega)])); done) | ((repeat (first | rw [wi_c _ _ (by omega)] | rw [wi_n _ _ (by omega)])); done) | (funext b; simp [wi, wj]; done) | (simp [wi, wj]; done)) u4, ?_, I_lis_c (by first | rfl | ((repeat (rw [wi_c _ _ (by omega)])); done) | ((repeat (first | rw [wi_c _ _ (by omega)] | rw [wi_n _ _ (by omega)])); done) | (funext b; simp [wi, wj]; done) | (simp [wi, wj]; done)) (by first | rfl | ((repeat (rw [wi_c _ _ (by omega)])); done) | ((repeat (first | rw [wi_c _ _ (by omega)] | rw [wi_n _ _ (by omega)])); done) | (funext b; simp [wi, wj]; done) | (simp [wi, wj]; done)) (by first | rfl | ((repeat (rw [wi_c _ _ (by omega)])); done) | ((repeat (first | rw [wi_c _ _ (by omega)] | rw [wi_n _ _ (by omega)])); done) | (funext b; simp [wi, wj]; done) | (simp [wi, wj]; done)) (by first | rfl | ((repeat (rw [wi_c _ _ (by omega)])); done) | ((repeat (first | rw [wi_c _ _ (by omega)] | rw [wi_n _ _ (by omega)])); done) | (funext b; simp [wi, wj]; done) | (simp [wi, wj]; done)) (by first | rfl | ((repeat (rw [wi_c _ _ (by omega)])); done) | ((repeat (first | rw [wi_c _ _ (by omega)] | rw [wi_n _ _ (by omega)])); done) | (funext b; simp [wi, wj]; done) | (simp [wi, wj]; done)) (by first | rfl | ((repeat (rw [wi_c _ _ (by omega)])); done) | ((repeat (first | rw [wi_c _ _ (by omega)] | rw [wi_n _ _ (by omega)])); done) | (funext b; simp [wi, wj]; done) | (simp [wi, wj]; done)) u6, I_bid_c (by first | rfl | ((repeat (rw [wi_c _ _ (by omega)])); done) | ((repeat (first | rw [wi_c _ _ (by omega)] | rw [wi_n _ _ (by omega)])); done) | (funext b; simp [wi, wj]; done) | (simp [wi, wj]; done)) (by first | rfl | ((repeat (rw [wi_c _ _ (by omega)])); done) | ((repeat (first | rw [wi_c _ _ (by omega)] | rw [wi_n _ _ (by omega)])); done) | (funext b; simp [wi, wj]; done) | (simp [wi, wj]; done)) (by first | rfl | ((repeat (rw [wi_c _ _ (by omega)])); done) | ((repeat (first | rw [wi_c _ _ (by omega)] | rw [wi_n _ _ (by omega)])); done) | (funext b; simp [wi, wj]; done) | (simp [wi, wj]; done)) (by first | rfl | ((repeat (rw [wi_c _ _ (by omega)])); done) | ((repeat (first | rw [wi_c _ _ (by omega)] | rw [wi_n _ _ (by omega)])); done) | (funext b; simp [wi, wj]; done) | (simp [wi, wj]; done)) (by first | rfl | ((repeat (rw [wi_c _ _ (by omega)])); done) | ((repeat (first | rw [wi_c _ _ (by omega)] | rw [wi_n _ _ (by omega)])); done) | (funext b; simp [wi, wj]; done) | (simp [wi, wj]; done)) (by first | rfl | ((repeat (rw [wi_c _ _ (by omega)])); done) | ((repeat (first | rw [wi_c _ _ (by omega)] | rw [wi_n _ _ (by omega)])); done) | (funext b; simp [wi, wj]; done) | (simp [wi, wj]; done)) u7, I_text_c (by first | rfl | ((repeat (rw [wi_c _ _ (by omega)])); done) | ((repeat (first | rw [wi_c _ _ (by omega)] | rw [wi_n _ _ (by omega)])); done) | (funext b; simp [wi, wj]; done) | (simp [wi, wj]; done)) (by first | rfl | ((repeat (rw [wi_c _ _ (by omega)])); done) | ((repeat (first | rw [wi_c _ _ (by omega)] | rw [wi_n _ _ (by omega)])); done) | (funext b; simp [wi, wj]; done) | (simp [wi, wj]; done)) (by first | rfl | ((repeat (rw [wi_c _ _ (by omega)])); done) | ((repeat (first | rw [wi_c _ _ (by omega)] | rw [wi_n _ _ (by omega)])); done) | (funext b; simp [wi, wj]; done) | (simp [wi, wj]; done)) (by first | rfl | ((repeat (rw [wi_c _ _ (by omega)])); done) | ((repeat (first | rw [wi_c _ _ (by omega)] | rw [wi_n _ _ (by omega)])); done) | (funext b; simp [wi, wj]; done) | (simp [wi, wj]; done)) u8, I_box_c (by first | rfl | ((repeat (rw [wi_c _ _ (by omega)])); done) | ((repeat (first | rw [wi_c _ _ (by omega)] | rw [wi_n _ _ (by omega)])); done) | (funext b; simp [wi, wj]; done) | (simp [wi, wj]; done)) (by first | rfl | ((repeat (rw [wi_c _ _ (by omega)])); done) | ((repeat (first | rw [wi_c _ _ (by omega)] | rw [wi_n _ _ (by omega)])); done) | (funext b; simp [wi, wj]; done) | (simp [wi, wj]; done)) (by first | rfl | ((repeat (rw [wi_c _ _ (by omega)])); done) | ((repeat (first | rw [wi_c _ _ (by omega)] | rw [wi_n _ _ (by omega)])); done) | (funext b; simp [wi, wj]; done) | (simp [wi, wj]; done)) (by first | rfl | ((repeat (rw [wi_c _ _ (by omega)])); done) | ((repeat (first | rw [wi_c _ _ (by omega)] | rw [wi_n _ _ (by omega)])); done) | (funext b; simp [wi, wj]; done) | (simp [wi, wj]; done)) (by first | rfl | ((repeat (rw [wi_c _ _ (by omega)])); done) | ((repeat (first | rw [wi_c _ _ (by omega)] | rw [wi_n _ _ (by omega)])); done) | (funext b; simp [wi, wj]; done) | (simp [wi, wj]; done)) (by first | rfl | ((repeat (rw [wi_c _ _ (by omega)])); done) | ((repeat (first | rw [wi_c _ _ (by omega)] | rw [wi_n _ _ (by omega)])); done) | (funext b; simp [wi, wj]; done) | (simp [wi, wj]; done)) (by first | rfl | ((repeat (rw [wi_c _ _ (by omega)])); done) | ((repeat (first | rw [wi_c _ _ (by omega)] | rw [wi_n _ _ (by omega)])); done) | (funext b; simp [wi, wj]; done) | (simp [wi, wj]; done)) u9, I_tow_c (by first | rfl | ((repeat (rw [wi_c _ _ (by omega)])); done) | ((repeat (first | rw [wi_c _ _ (by omega)] | rw [wi_n _ _ (by omega)])); done) | (funext b; simp [wi, wj]; done) | (simp [wi, wj]; done)) (by first | rfl | ((repeat (rw [wi_c _ _ (by omega)])); done) | ((repeat (first | rw [wi_c _ _ (by omega)] | rw [wi_n _ _ (by omega)])); done) | (funext b; simp [wi, wj]; done) | (simp [wi, wj]; done)) (by first | rfl | ((repeat (rw [wi_c _ _ (by omega)])); done) | ((repeat (first | rw [wi_c _ _ (by omega)] | rw [wi_n _ _ (by omega)])); done) | (funext b; simp [wi, wj]; done) | (simp [wi, wj]; done)) (fun k hk1 hk2 => by first | rfl | ((repeat (rw [wi_c _ _ (by omega)])); done)) (by first | rfl | ((repeat (rw [wi_c _ _ (by omega)])); done) | ((repeat (first | rw [wi_c _ _ (by omega)] | rw [wi_n _ _ (by omega)])); done) | (funext b; simp [wi, wj]; done) | (simp [wi, wj]; done)) (by first | rfl | ((repeat (rw [wi_c _ _ (by omega)])); done) | ((repeat (first | rw [wi_c _ _ (by omega)] | rw [wi_n _ _ (by omega)])); done) | (funext b; simp [wi, wj]; done) | (simp [wi, wj]; done)) (fun k hk1 hk2 => by first | rfl | ((repeat (rw [wi_c _ _ (by omega)])); done)) u10, I_find_c (by first | rfl | ((repeat (rw [wi_c _ _ (by omega)])); done) | ((repeat (first | rw [wi_c _ _ (by omega)] | rw [wi_n _ _ (by omega)])); done) | (funext b; simp [wi, wj]; done) | (simp [wi, wj]; done)) (by first | rfl | ((repeat (rw [wi_c _ _ (by omega)])); done) | ((repeat (first | rw [wi_c _ _ (by omega)] | rw [wi_n _ _ (by omega)])); done) | (funext b; simp [wi, wj]; done) | (simp [wi, wj]; done)) u11⟩
  refine I_send_w u5 hlt (by decide) a3 (fun k => ?_) hlt2
  unfold I_s1 isC at k ⊢
  refine ⟨I_s1_eqs k.1, ?_⟩
  obtain ⟨-, k0, k1, k2, k3, k4, k5, k6, k7, k8, k9, k10⟩ := k
  simp only [wi_s, wi_n x a3 (show ¬ (16 = 19 + i ∧ 3 = 7) by omega), wi_n x a3 (show ¬ (16 = 19 + i ∧ 4 = 7) by omega), wi_n x a3 (show ¬ (19 + i = 19 + i ∧ 0 = 7) by omega), wi_n x a3 (show ¬ (19 + i = 19 + i ∧ 1 = 7) by omega), wi_n x a3 (show ¬ (19 + i = 19 + i ∧ 2 = 7) by omega), wi_n x a3 (show ¬ (19 + i = 19 + i ∧ 3 = 7) by omega), wi_n x a3 (show ¬ (19 + i = 19 + i ∧ 4 = 7) by omega), wi_n x a3 (show ¬ (19 + i = 19 + i ∧ 5 = 7) by omega), wi_n x a3 (show ¬ (19 + i = 19 + i ∧ 6 = 7) by omega), wi_n x a3 (show ¬ (19 + i = 19 + i ∧ 8 = 7) by omega), wi_n x a3 (show ¬ (19 + i = 19 + i ∧ 9 = 7) by omega), wi_n x a3 (show ¬ (19 + i = 19 + i ∧ 10 = 7) by omega)]
  exact ⟨k0, k1, k2, k3, k4, k5, k6, c2, k8, k9, k10⟩
theorem as_2 {n N s q : Nat} {b : Nat → Nat} (hL8 : rk (sB s) N ≤ 8) (h20 : N ≤ 20) (hq : q ≤ 8) (kx : St → Option (Int32 × St)) (v6 : Int32) : ∀ (d t f f' : Nat) (S M : St), t + d = N → d < f → d < f' → Inv n S M → ((N : Nat) : Int) = (S.1 17 6).toInt → S.1 41 8 = nI (rk (sB s) N) → M.1 0 22 = nI (rk (sB s) N) → (∀ j, j < N → sB s j = true → S.1 42 (rk (sB s) j) = nI j ∧ M.1 17 (rk (sB s) j) = nI j) → (∀ j, j < rk (sB s) N → S.1 47 j = nI (b j) ∧ M.1 20 j = nI (b j) ∧ b j < q) → ∃ S' M', fX11_assign_L37 kx f (nI (rk (sB s) t)) S = kx S' ∧ fX12_assign_L45 v6 f' (nI (rk (sB s) t)) M = some (v6, M') ∧ Inv n S' M' ∧ S'.1 41 = S.1 41 ∧ S'.1 45 = S.1 45
  | 0, t, f + 1, f' + 1, S, M, ht, _, _, hI, hN, e41, e22, em, eb => by
    refine ⟨S, M, ?_, ?_, hI, rfl, rfl⟩
    · show fX11_assign_L37_st kx (fX11_assign_L37 kx f) _ S = _
      unfold fX11_assign_L37_st
      rw [e41, show t = N by omega, if_pos ((nv_l (by omega) (by omega)).mpr (Nat.le_refl _))]
    · show fX12_assign_L45_st v6 (fX12_assign_L45 v6 f') _ M = _
      unfold fX12_assign_L45_st
      rw [e22, show t = N by omega, if_pos ((nv_l (by omega) (by omega)).mpr (Nat.le_refl _))]
  | d + 1, t, f + 1, f' + 1, S, M, ht, hf, hf', hI, hN, e41, e22, em, eb => by
    by_cases rt : sB s t = true
    · have lt := rk_lt rt (show t < N by omega)
      obtain ⟨m1, m2⟩ := em t (by omega) rt
      obtain ⟨b1, b2, b3⟩ := eb (rk (sB s) t) lt
      have rng : 0 ≤ (nI (b (rk (sB s) t))).toInt ∧ (nI (b (rk (sB s) t))).toInt ≤ 11 := by rw [nv_t (by omega)]; omega
      have hI2 := Inv_slot hI (i := t) (by omega) (by omega) rng
      obtain ⟨S', M', i1, i2, i3, i4, i5⟩ := as_2 (b := b) hL8 h20 hq kx v6 d (t + 1) f f' (wi S (19 + t) 7 (nI (b (rk (sB s) t)))) (wi M (6 + 7) t (nI (b (rk (sB s) t)))) (by omega) (by omega) (by omega) hI2 (by rw [wi_c _ _ (by omega)]; exact hN) (by rw [wi_c _ _ (by omega)]; exact e41) (by rw [wi_c _ _ (by omega)]; exact e22) (fun j hj rj => by rw [wi_c _ _ (by omega), wi_c _ _ (by omega)]; exact em j hj rj) (fun j hj => by rw [wi_c _ _ (by omega), wi_c _ _ (by omega)]; exact eb j hj)
      rw [rk_t rt] at i1 i2
      refine ⟨S', M', ?_, ?_, i3, by rw [i4, wi_c _ _ (by omega)], by rw [i5, wi_c _ _ (by omega)]⟩
      · show fX11_assign_L37_st kx (fX11_assign_L37 kx f) _ S = _
        unfold fX11_assign_L37_st
        rw [e41, if_neg (fun z => by rw [nv_l (by omega) (by omega)] at z; omega), if_pos (nv_ib (by omega) (by omega)), nv_nt (a := rk (sB s) t) (by omega), m1, if_pos (nv_ib (by omega) (by omega)), if_pos (nv_ib (by omega) (by omega)), lt_eq, nv_nt (a := t) (by omega), b1, nv_p1]
        exact i1
      · show fX12_assign_L45_st v6 (fX12_assign_L45 v6 f') _ M = _
        unfold fX12_assign_L45_st
        rw [e22, if_neg (fun z => by rw [nv_l (by omega) (by omega)] at z; omega), if_pos (nv_ib (by omega) (by omega)), if_pos (nv_ib (by omega) (by omega)), nv_nt (a := rk (sB s) t) (by omega), m2, if_pos (nv_ib (by omega) (by omega)), lt_eq, nv_nt (a := t) (by omega), b2, nv_p1]
        exact i2
    · have ih := as_2 (b := b) hL8 h20 hq kx v6 d (t + 1) (f + 1) (f' + 1) S M (by omega) (by omega) (by omega) hI hN e41 e22 em eb
      rw [rk_f rt] at ih
      exact ih
theorem pr_18 (n : Nat) (x m : St) (a1 : Int32) (_ : n < 512) (h : Inv n x m) : ∃ (v : Int32) (x' m' : St), fX11_assign a1 x = some (v, x') ∧ fX12_assign a1 m = some (v, m') ∧ Inv (n + 1) x' m' := by
  obtain ⟨h1, h2, h3, h4, h5, h6, h7, h8, h9, h10, h11⟩ := id h
  have hu := Inv_up n x m h
  have fu := fu_ge
  have r20 := nS20 h
  unfold fX11_assign fX12_assign
  rcases e_set h5 a1 with ⟨z1, z2⟩ | ⟨s, rfl, ls, hL1, hL8, z1, M0, z2, pm⟩
  · rw [z1, z2, bnd_some, bnd_some, if_pos rfl, if_pos rfl]; exact ⟨_, _, _, rfl, rfl, hu⟩
  · have hL8 : rk (sB s) (nS x) ≤ 8 := hL8
    have hL1 : 1 ≤ rk (sB s) (nS x) := hL1
    obtain ⟨S', w1, ca⟩ := e_prep h (s := s) hL1 hL8
    obtain ⟨M', w2, cm⟩ := e_ff h (s := s) hL8 pm
    have p8 : 2 ^ rk (sB s) (nS x) ≤ 2 ^ 8 := Nat.pow_le_pow_right (by omega) hL8
    have p0 := Nat.two_pow_pos (rk (sB s) (nS x))
    rw [z1, z2, bnd_some, bnd_some, if_neg (by decide), if_neg (by decide), w1, w2, bnd_some, bnd_some, e_whM hL8 cm.1, if_pos (nv_ib (by omega) (by omega)), lt_eq, nv_nt (by omega)]
    rcases e_div h hL1 hL8 ca cm with ⟨q, b, S2, M2, q8, e1, e2, d1, d2, d3, d4, d5, d6⟩ | ⟨S2, e2, d1, d2⟩
    · have hI := Inv_fr d4.1 d6.1 hu
      obtain ⟨S3, M3, i1, i2, i3, i4, i5⟩ := as_2 (n := n + 1) (b := b) (q := q) (s := s) (N := nS x) hL8 r20.1 q8 (fun (S8 : St) => bnd (fX4_fewestSlots S8) (fun v9 S10 => some (v9, S10))) (nI q) (nS x) 0 FU FU S2 M2 (by omega) (by omega) (by omega) hI (by rw [d4.1.2.2.1]; exact r20.2) d4.2.1 d6.2.1 (fun j hj rj => ⟨d4.2.2.1 j hj rj, d6.2.2 j hj rj⟩) d3
      have i1' : fX11_assign_L37 (fun (S8 : St) => bnd (fX4_fewestSlots S8) (fun v9 S10 => some (v9, S10))) FU 0 S2 = _ := i1
      have i2' : fX12_assign_L45 (nI q) FU 0 M2 = _ := i2
      have efs : fX4_fewestSlots S3 = some (nI q, S3) := by
        unfold fX4_fewestSlots fX4_whole
        have ew : nI (2 ^ rk (sB s) (nS x)) - 1 = nI (2 ^ rk (sB s) (nS x) - 1) := nv_sub (b := 1) (by omega)
        have e41 : S3.1 41 8 = nI (rk (sB s) (nS x)) := by rw [i4]; exact d4.2.1
        have e45 : S3.1 45 (2 ^ rk (sB s) (nS x) - 1) = nI q := by rw [i5, d5]; exact e1
        rw [bnd_some, e41, nb_shl _ (by omega), ew, if_pos (nv_ib (by omega) (by omega)), nv_nt (by omega), e45, if_neg (show ¬ nI q = 99 from fun z => by have := (nv_e (b := 99) (by omega) (by omega)).mp z; omega), bnd_some, if_pos (nv_ib (by omega) (by omega)), nv_nt (by omega), e45]
      rw [e2, if_pos (show nI q ≤ 8 from (nv_l (b := 8) (by omega) (by omega)).mpr q8), d1, d2, bnd_some, bnd_some, if_neg (by decide), i1', i2', efs, bnd_some]
      exact ⟨_, _, _, rfl, rfl, i3⟩
    · rw [e2, if_neg (show ¬ nI 100 ≤ 8 by decide), d1, bnd_some, if_pos rfl]
      exact ⟨_, _, _, rfl, rfl, Inv_fr d2.1 cm.1.1 hu⟩
