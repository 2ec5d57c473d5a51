/-! ===== parting: the reference's search ===== -/
theorem bs_cg {B B' : Nat → Bool} : ∀ n, (∀ j, j < n → B' j = B j) → bs B' n = bs B n
  | 0, _ => rfl
  | n + 1, h => by
    show bs B' n ||| (if B' n = true then 2 ^ n else 0) = bs B n ||| (if B n = true then 2 ^ n else 0)
    rw [bs_cg n (fun j hj => h j (by omega)), h n (by omega)]
def FRK (M M' : St) : Prop := (∀ k, k ≠ 20 → M'.1 k = M.1 k) ∧ M'.2 = M.2
theorem FRK.tr {M M' M'' : St} (h : FRK M M') (g : FRK M' M'') : FRK M M'' := ⟨fun k hk => (g.1 k hk).trans (h.1 k hk), g.2.trans h.2⟩
/-- the search stands at member k, with a before it -/
def PRM (L n : Nat) (tg : Nat → Bool) (a : Nat → Nat) (k : Nat) (M : St) : Prop := M.1 0 22 = nI L ∧ (∀ j, j < 2 ^ L → M.1 18 j = bi (tg j = true)) ∧ ∀ j, j < k → M.1 20 j = nI (a j) ∧ a j < n
theorem PRM_f {L n k : Nat} {tg : Nat → Bool} {a : Nat → Nat} {M M' : St} (g : PRM L n tg a k M) (fr : FRK M M') (e : ∀ j, j < k → M'.1 20 j = M.1 20 j) : PRM L n tg a k M' := ⟨by rw [fr.1 0 (by omega)]; exact g.1, fun j hj => by rw [fr.1 18 (by omega)]; exact g.2.1 j hj, fun j hj => by rw [e j hj]; exact g.2.2 j hj⟩
abbrev st1 (a : Nat → Nat) (k v : Nat) : Nat → Nat := fun j => if j = k then v else a j
theorem gp_st (a : Nat → Nat) (k v : Nat) : gp (st1 a k v) (k + 1) = up1 (gp a k) v (gp a k v ||| 2 ^ k) := by
  funext g
  show bs (fun i => decide (st1 a k v i = g)) k ||| (if decide (st1 a k v k = g) = true then 2 ^ k else 0) = if g = v then gp a k v ||| 2 ^ k else gp a k g
  have e1 : bs (fun i => decide (st1 a k v i = g)) k = gp a k g := bs_cg k (fun j hj => by
    show decide ((if j = k then v else a j) = g) = _
    rw [if_neg (by omega)])
  have e2 : st1 a k v k = v := if_pos rfl
  rw [e1, e2]
  by_cases q : g = v
  · rw [if_pos q, if_pos (decide_eq_true q.symm), q]
  · rw [if_neg q, if_neg (by intro z; exact q (of_decide_eq_true z).symm), Nat.or_zero]
theorem gr_l {L n k s : Nat} {tg : Nat → Bool} {a : Nat → Nat} {M : St} (hk : k < 8) (hn : n ≤ 8) (hs : s < 100) (g : PRM L n tg a k M) (ek : M.1 20 k = nI s) : ∀ (d j f : Nat), j + d = k + 1 → d < f → fX12_groupOf_L4 (nI k) f (nI (gp (st1 a k s) j s)) (nI j) M = some (nI (gp (st1 a k s) (k + 1) s), M)
  | 0, j, f + 1, hj, _ => by
    show fX12_groupOf_L4_st (nI k) (fX12_groupOf_L4 (nI k) f) _ (nI j) M = _
    unfold fX12_groupOf_L4_st
    rw [if_pos ((nv_s (by omega) (by omega)).mpr (by omega)), show j = k + 1 by omega]
  | d + 1, j, f + 1, hj, hf => by
    have ih := gr_l hk hn hs g ek d (j + 1) f (by omega) (by omega)
    have st : gp (st1 a k s) (j + 1) s = gp (st1 a k s) j s ||| (if decide (st1 a k s j = s) = true then 2 ^ j else 0) := rfl
    rw [st] at ih
    show fX12_groupOf_L4_st (nI k) (fX12_groupOf_L4 (nI k) f) _ (nI j) M = _
    unfold fX12_groupOf_L4_st
    simp only [lt_eq]
    rw [if_neg (fun q => by rw [nv_s (by omega) (by omega)] at q; omega), if_pos (nv_ib (by omega) (by omega)), if_pos (nv_ib (by omega) (by omega)), nv_nt (a := j) (by omega), nv_nt (a := k) (by omega), ek, nb_shl j (by omega), nv_p1]
    by_cases e : j = k
    · subst e
      rw [if_pos (decide_eq_true (show st1 a j s j = s from if_pos rfl))] at ih
      rw [ek, if_pos rfl, nx_or]; exact ih
    · obtain ⟨y1, y2⟩ := g.2.2 j (by omega)
      have ea : st1 a k s j = a j := if_neg e
      rw [y1]
      by_cases q : a j = s
      · rw [if_pos (decide_eq_true (by rw [ea]; exact q))] at ih
        rw [if_pos ((nv_e (by omega) (by omega)).mpr q), nx_or]; exact ih
      · rw [if_neg (by intro z; exact q (by rw [← ea]; exact of_decide_eq_true z)), Nat.or_zero] at ih
        rw [if_neg (fun z => q ((nv_e (by omega) (by omega)).mp z)), Int32.or_zero]; exact ih
theorem e_gr {L n k s : Nat} {tg : Nat → Bool} {a : Nat → Nat} {M : St} (hk : k < 8) (hn : n ≤ 8) (hs : s < 100) (g : PRM L n tg a k M) (ek : M.1 20 k = nI s) : fX12_groupOf (nI k) M = some (nI (gp a k s ||| 2 ^ k), M) := by
  have := gr_l hk hn hs g ek (k + 1) 0 FU (by omega) (by have := fu_ge; omega)
  have e : gp (st1 a k s) (k + 1) s = gp a k s ||| 2 ^ k := by rw [gp_st]; exact if_pos rfl
  rw [e] at this
  exact this
theorem in27 {L n k : Nat} {tg : Nat → Bool} {a : Nat → Nat} (hL : L ≤ 8) (hk : k < L) (hn : n ≤ 8) : ∀ (e v f : Nat) (M : St), v + e = n → e < f → PRM L n tg a k M → M.1 20 k = nI v → ∃ (v' : Nat) (M' : St), v ≤ v' ∧ v' ≤ n ∧ (∀ t, v ≤ t → t < v' → ¬ tg (gp a k t ||| 2 ^ k) = true) ∧ (v' < n → tg (gp a k v' ||| 2 ^ k) = true) ∧ (∀ kx : St → Option (Unit × St), fX12_parts_L27 kx (nI n) (nI k) f M = kx M') ∧ M'.1 20 k = nI v' ∧ (∀ j, j ≠ k → M'.1 20 j = M.1 20 j) ∧ FRK M M'
  | 0, v, f + 1, M, hv, _, g, ek => by
    refine ⟨v, M, Nat.le_refl _, by omega, fun t h1 h2 => by omega, fun h => by omega, fun kx => ?_, ek, fun _ _ => rfl, fun _ _ => rfl, rfl⟩
    show fX12_parts_L27_st kx (nI n) (nI k) (fX12_parts_L27 kx (nI n) (nI k) f) M = _
    unfold fX12_parts_L27_st
    rw [if_pos (nv_ib (by omega) (by omega)), nv_nt (by omega), ek, if_pos ((nv_l (by omega) (by omega)).mpr (by omega))]
  | e + 1, v, f + 1, M, hv, hf, g, ek => by
    have p8 : 2 ^ L ≤ 2 ^ 8 := Nat.pow_le_pow_right (by omega) hL
    have pk : 2 ^ (k + 1) ≤ 2 ^ L := Nat.pow_le_pow_right (by omega) (by omega)
    have lm : gp a k v ||| 2 ^ k < 2 ^ (k + 1) := Nat.or_lt_two_pow (Nat.lt_of_lt_of_le (bs_lt _ k) (Nat.pow_le_pow_right (by omega) (by omega))) (by rw [Nat.pow_succ]; have := Nat.two_pow_pos k; omega)
    have ib8 : ib (nI k) 8 := nv_ib (by omega) (by omega)
    have ntk : nt (nI k) = k := nv_nt (by omega)
    have X : ∀ kx : St → Option (Unit × St), fX12_parts_L27 kx (nI n) (nI k) (f + 1) M = if tg (gp a k v ||| 2 ^ k) = true then kx M else fX12_parts_L27 kx (nI n) (nI k) f (wi M 20 k (nI (v + 1))) := by
      intro kx
      show fX12_parts_L27_st kx (nI n) (nI k) (fX12_parts_L27 kx (nI n) (nI k) f) M = _
      unfold fX12_parts_L27_st
      simp only [lt_eq, if_pos ib8, ntk]
      rw [ek, if_neg (fun q => by rw [nv_l (by omega) (by omega)] at q; omega), e_gr (by omega) hn (by omega) g ek, bnd_some, if_pos (nv_ib (by omega) (by omega)), nv_nt (by omega), g.2.1 _ (by omega), bi_ite, ek, nv_p1]
    by_cases c : tg (gp a k v ||| 2 ^ k) = true
    · exact ⟨v, M, Nat.le_refl _, by omega, fun t h1 h2 => by omega, fun _ => c, fun kx => by rw [X, if_pos c], ek, fun _ _ => rfl, fun _ _ => rfl, rfl⟩
    · obtain ⟨v', M', i1, i2, i3, i4, i5, i6, i7, i8⟩ := in27 hL hk hn e (v + 1) f (wi M 20 k (nI (v + 1))) (by omega) (by omega) (PRM_f g ⟨fun q hq => wi_c _ _ hq, rfl⟩ (fun j hj => wi_n _ _ (by omega))) (wi_s _ _ _ _)
      refine ⟨v', M', by omega, i2, fun t h1 h2 => ?_, i4, fun kx => by rw [X, if_neg c]; exact i5 kx, i6, fun j hj => by rw [i7 j hj, wi_n _ _ (by omega)], fun q hq => by rw [i8.1 q hq, wi_c _ _ hq], i8.2⟩
      by_cases e : t = v
      · rw [e]; exact c
      · exact i3 t (by omega) h2
abbrev En (L k : Nat) (M : St) : St := if L ≤ k then M else wi M 20 k (-1)
/-- how the search goes on from member k + 1, and comes back -/
def NXT (L n : Nat) (tg : Nat → Bool) (C d k : Nat) : Prop := ∀ (M : St) (a : Nat → Nat), PRM L n tg a (k + 1) M → (CP tg n d (gp a (k + 1)) (k + 1) → ∃ (c : Nat) (M' : St) (b : Nat → Nat), c ≤ C ∧ (∀ f, fX12_parts_L9 (nI n) (f + c) (nI (k + 1)) (En L (k + 1) M) = fX12_parts_L9 (nI n) f (nI L) M') ∧ (∀ j, j < k + 1 → b j = a j) ∧ GR tg n d (gp a (k + 1)) (k + 1) b ∧ (∀ j, j < L → M'.1 20 j = nI (b j)) ∧ FRK M M') ∧ (¬ CP tg n d (gp a (k + 1)) (k + 1) → ∃ (c : Nat) (M' : St), c ≤ C ∧ (∀ f, fX12_parts_L9 (nI n) (f + c) (nI (k + 1)) (En L (k + 1) M) = fX12_parts_L9 (nI n) f (nI k) M') ∧ (∀ j, j < k + 1 → M'.1 20 j = M.1 20 j) ∧ FRK M M')
theorem stp {L n : Nat} {tg : Nat → Bool} (hL : L ≤ 8) (hn : n ≤ 8) {k : Nat} (hk : k < L) {e w : Nat} {M : St} {a : Nat → Nat} (hw : w + e = n) (g : PRM L n tg a k M) (ek : M.1 20 k + 1 = nI w) : ∃ (v' : Nat) (M2 : St), w ≤ v' ∧ v' ≤ n ∧ (∀ t, w ≤ t → t < v' → ¬ tg (gp a k t ||| 2 ^ k) = true) ∧ (v' < n → tg (gp a k v' ||| 2 ^ k) = true) ∧ M2.1 20 k = nI v' ∧ (∀ j, j ≠ k → M2.1 20 j = M.1 20 j) ∧ FRK M M2 ∧ ∀ f, fX12_parts_L9 (nI n) (f + 1) (nI k) M = if v' = n then fX12_parts_L9 (nI n) f (nI k + (-1)) M2 else fX12_parts_L9 (nI n) f (nI (k + 1)) (En L (k + 1) M2) := by
  have ib8 : ib (nI k) 8 := nv_ib (by omega) (by omega)
  have ntk : nt (nI k) = k := nv_nt (by omega)
  have fu := fu_ge
  obtain ⟨v', M2, i1, i2, i3, i4, i5, i6, i7, i8⟩ := in27 (tg := tg) (a := a) hL hk hn e w FU (wi M 20 k (nI w)) hw (by omega) (PRM_f g ⟨fun q hq => wi_c _ _ hq, rfl⟩ (fun j hj => wi_n _ _ (by omega))) (wi_s _ _ _ _)
  have fr : FRK M M2 := ⟨fun q hq => by rw [i8.1 q hq, wi_c _ _ hq], i8.2⟩
  refine ⟨v', M2, i1, i2, i3, i4, i6, fun j hj => by rw [i7 j hj, wi_n _ _ (by omega)], fr, fun f => ?_⟩
  have e22 : M2.1 0 22 = nI L := by rw [fr.1 0 (by omega)]; exact g.1
  show fX12_parts_L9_st (nI n) (fX12_parts_L9 (nI n) f) (nI k) M = _
  unfold fX12_parts_L9_st
  rw [g.1, if_neg (fun q => by rw [nv_l (by omega) (by omega)] at q; omega), if_pos ib8, if_pos ib8, lt_eq, ntk, ek, i5, if_pos ib8, i6, e22, nv_p1]
  by_cases q : v' = n
  · rw [if_pos (show nI v' = nI n by rw [q]), if_pos q]
  · rw [if_neg (fun z => q ((nv_e (by omega) (by omega)).mp z)), if_neg q]
    unfold En
    by_cases z : L ≤ k + 1
    · rw [if_pos ((nv_l (by omega) (by omega)).mpr z), if_pos z]
    · rw [if_neg (fun y => z ((nv_l (by omega) (by omega)).mp y)), if_neg z, if_pos (nv_ib (by omega) (by omega)), lt_eq, nv_nt (by omega)]
theorem rl_in {L n : Nat} {tg : Nat → Bool} (hL : L ≤ 8) (hn : n ≤ 8) {C d k : Nat} (hk : k + (d + 1) = L) (nx : NXT L n tg C d k) : ∀ (E e w : Nat) (M : St) (a : Nat → Nat), e ≤ E → w + e = n → PRM L n tg a k M → M.1 20 k + 1 = nI w → ((∃ t, w ≤ t ∧ t < n ∧ QP tg n d (gp a k) k t) → ∃ (c : Nat) (M' : St) (b : Nat → Nat), c ≤ (E + 1) * (C + 1) ∧ (∀ f, fX12_parts_L9 (nI n) (f + c) (nI k) M = fX12_parts_L9 (nI n) f (nI L) M') ∧ (∀ j, j < k → b j = a j) ∧ w ≤ b k ∧ b k < n ∧ QP tg n d (gp a k) k (b k) ∧ (∀ t, w ≤ t → t < b k → ¬ QP tg n d (gp a k) k t) ∧ GR tg n d (up1 (gp a k) (b k) (gp a k (b k) ||| 2 ^ k)) (k + 1) b ∧ (∀ j, j < L → M'.1 20 j = nI (b j)) ∧ FRK M M') ∧ ((¬ ∃ t, w ≤ t ∧ t < n ∧ QP tg n d (gp a k) k t) → ∃ (c : Nat) (M' : St), c ≤ (E + 1) * (C + 1) ∧ (∀ f, fX12_parts_L9 (nI n) (f + c) (nI k) M = fX12_parts_L9 (nI n) f (nI k + (-1)) M') ∧ (∀ j, j < k → M'.1 20 j = M.1 20 j) ∧ FRK M M') := by
  intro E
  induction E with
  | zero =>
    intro e w M a he hw g ek
    refine ⟨fun ⟨t, t1, t2, _⟩ => by omega, fun _ => ?_⟩
    obtain ⟨v', M2, s1, s2, s3, s4, s5, s6, s7, s8⟩ := stp hL hn (show k < L by omega) hw g ek
    exact ⟨1, M2, by omega, fun f => by rw [s8 f, if_pos (show v' = n by omega)], fun j hj => s6 j (by omega), s7⟩
  | succ E ih =>
    intro e w M a he hw g ek
    have mul : (E + 1 + 1) * (C + 1) = (E + 1) * (C + 1) + (C + 1) := Nat.succ_mul (E + 1) (C + 1)
    obtain ⟨v', M2, s1, s2, s3, s4, s5, s6, s7, s8⟩ := stp hL hn (show k < L by omega) hw g ek
    by_cases vn : v' = n
    · refine ⟨fun ⟨t, t1, t2, t3⟩ => absurd t3.1 (s3 t t1 (by omega)), fun _ => ⟨1, M2, by omega, fun f => by rw [s8 f, if_pos vn], fun j hj => s6 j (by omega), s7⟩⟩
    · have g2 : PRM L n tg (st1 a k v') (k + 1) M2 := ⟨by rw [s7.1 0 (by omega)]; exact g.1, fun j hj => by rw [s7.1 18 (by omega)]; exact g.2.1 j hj, fun j hj => by
        by_cases q : j = k
        · subst q
          rw [s5]
          exact ⟨by show nI v' = nI (if j = j then v' else a j); rw [if_pos rfl], by show (if j = j then v' else a j) < n; rw [if_pos rfl]; omega⟩
        · rw [s6 j q]
          have := g.2.2 j (by omega)
          exact ⟨by show _ = nI (if j = k then v' else a j); rw [if_neg q]; exact this.1, by show (if j = k then v' else a j) < n; rw [if_neg q]; exact this.2⟩⟩
      obtain ⟨nA, nB⟩ := nx M2 (st1 a k v') g2
      rw [gp_st] at nA nB
      by_cases cp : CP tg n d (up1 (gp a k) v' (gp a k v' ||| 2 ^ k)) (k + 1)
      · have qv : QP tg n d (gp a k) k v' := ⟨s4 (by omega), cp⟩
        refine ⟨fun _ => ?_, fun z => absurd ⟨v', s1, by omega, qv⟩ z⟩
        obtain ⟨c, M', b, c1, c2, c3, c4, c5, c6⟩ := nA cp
        have bk : b k = v' := by rw [c3 k (by omega)]; exact if_pos rfl
        refine ⟨c + 1, M', b, by omega, fun f => ?_, fun j hj => ?_, by omega, by omega, by rw [bk]; exact qv, fun t t1 t2 t3 => s3 t t1 (by omega) t3.1, by rw [bk]; exact c4, c5, s7.tr c6⟩
        · rw [show f + (c + 1) = (f + c) + 1 by omega, s8 (f + c), if_neg vn, c2 f]
        · rw [c3 j (by omega)]; exact if_neg (by omega)
      · obtain ⟨c, M3, c1, c2, c3, c4⟩ := nB cp
        have nq : ¬ QP tg n d (gp a k) k v' := fun q => cp q.2
        have g3 : PRM L n tg a k M3 := PRM_f g (s7.tr c4) (fun j hj => by rw [c3 j (by omega), s6 j (by omega)])
        have ek3 : M3.1 20 k + 1 = nI (v' + 1) := by rw [c3 k (by omega), s5, nv_p1]
        obtain ⟨iA, iB⟩ := ih (n - (v' + 1)) (v' + 1) M3 a (by omega) (by omega) g3 ek3
        refine ⟨fun ⟨t, t1, t2, t3⟩ => ?_, fun z => ?_⟩
        · have t4 : v' + 1 ≤ t := by
            rcases Nat.lt_trichotomy t v' with q | q | q
            · exact absurd t3.1 (s3 t t1 q)
            · rw [q] at t3; exact absurd t3 nq
            · omega
          obtain ⟨c', M', b, d1, d2, d3, d4, d5, d6, d7, d8, d9, d10⟩ := iA ⟨t, t4, t2, t3⟩
          refine ⟨c' + (c + 1), M', b, by omega, fun f => ?_, d3, by omega, d5, d6, fun u u1 u2 u3 => ?_, d8, d9, (s7.tr c4).tr d10⟩
          · rw [show f + (c' + (c + 1)) = ((f + c') + c) + 1 by omega, s8, if_neg vn, c2 (f + c'), d2 f]
          · rcases Nat.lt_trichotomy u v' with q | q | q
            · exact s3 u u1 q u3.1
            · rw [q] at u3; exact nq u3
            · exact d7 u (by omega) u2 u3
        · obtain ⟨c', M', d1, d2, d3, d4⟩ := iB (fun ⟨t, t1, t2, t3⟩ => z ⟨t, by omega, t2, t3⟩)
          refine ⟨c' + (c + 1), M', by omega, fun f => ?_, fun j hj => by rw [d3 j hj, c3 j (by omega), s6 j (by omega)], (s7.tr c4).tr d4⟩
          rw [show f + (c' + (c + 1)) = ((f + c') + c) + 1 by omega, s8, if_neg vn, c2 (f + c'), d2 f]
