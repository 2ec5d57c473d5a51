/-! ===== towers: serves and plan ===== -/
theorem nv_mul (a b : Nat) : nI a * nI b = nI (a * b) := by
  have e := iI_mul (a : Int) (b : Int)
  rw [iI_nat, iI_nat, iI_nat, Int.natCast_mul]; exact e
theorem nv_div {a b : Nat} (ha : a < 2147483648) (hb : b < 2147483648) : nI a / nI b = nI (a / b) := by
  rw [iI_nat, iI_nat, iI_div (by omega) (by omega), iI_nat]; rfl
theorem nv_ire {a b : Nat} (ha : a < 2147483648) (hb : b < 2147483648) : ire (nI a) (nI b) = nI (a % b) := by
  show nI a - nI a / nI b * nI b = _
  have := Nat.div_mul_le_self a b
  rw [nv_div ha hb, nv_mul, nv_sub this]
  congr 1
  have := Nat.mod_add_div a b
  rw [Nat.mul_comm b] at this
  omega
def tgZ (x : St) (s c e : Nat) : Int := 100 * (x.1 73 (3 * s + c)).toInt / lossZ x (x.1 71 s) (x.1 72 s) (x.1 75 e) 0 0
abbrev tGX (x S : St) (s e : Nat) : Prop := ∀ c, c < 3 → S.1 77 ((3 * s + c) * 12 + e) = iI (tgZ x s c e)
abbrev nT (x : St) : Nat := (x.1 70 9).toInt.toNat
abbrev nE (x : St) : Nat := (x.1 70 10).toInt.toNat
theorem towN {x m : St} (h : I_tow x m) : x.1 70 9 = nI (nT x) ∧ nT x ≤ 6 ∧ x.1 70 10 = nI (nE x) ∧ nE x ≤ 12 := by
  have r1 := h.2.1
  have r2 := h.2.2.2.1
  refine ⟨?_, by unfold nT; omega, ?_, by unfold nE; omega⟩
  · rw [iI_nat, show ((nT x : Nat) : Int) = (x.1 70 9).toInt by unfold nT; omega]; exact iI_of _
  · rw [iI_nat, show ((nE x : Nat) : Int) = (x.1 70 10).toInt by unfold nE; omega]; exact iI_of _
theorem siteN {x m : St} (h : I_tow x m) {s : Nat} (hs : s < nT x) : I_site x m s := by
  have := towN h; have r1 := h.2.1
  exact h.2.2.2.2.2.1 s (by omega) (by unfold nT at hs; omega)
theorem earN {x m : St} (h : I_tow x m) {e : Nat} (he : e < nE x) : m.1 40 e = x.1 75 e ∧ isC x (x.1 75 e) ∧ m.1 41 e = x.1 76 e ∧ rg (x.1 76 e) 1 100 := by
  have := towN h; have r1 := h.2.2.2.1
  exact h.2.2.2.2.2.2 e (by omega) (by unfold nE at he; omega)
theorem str_rg {x m : St} (h : I_tow x m) {s c : Nat} (hs : s < nT x) (hc : c < 3) : 0 ≤ (x.1 73 (3 * s + c)).toInt ∧ (x.1 73 (3 * s + c)).toInt ≤ 1000000 := by
  have t := towN h
  have si := siteN h hs
  have z := h.2.2.2.2.1 s (by omega)
  rcases (show c = 0 ∨ c = 1 ∨ c = 2 by omega) with rfl | rfl | rfl
  · rw [Nat.add_zero, z.1]; decide
  · have := si.2.2.2.2.2.2.1; omega
  · have := si.2.2.2.2.2.2.2.1; omega
theorem tloss_rg {n : Nat} {x m : St} (h : Inv n x m) {s e : Nat} (hs : s < nT x) (he : e < nE x) : 1 ≤ lossZ x (x.1 71 s) (x.1 72 s) (x.1 75 e) 0 0 ∧ lossZ x (x.1 71 s) (x.1 72 s) (x.1 75 e) 0 0 ≤ 1000000 := by
  obtain ⟨h1, h2, h3, h4, h5, h6, h7, h8, h9, h10, h11⟩ := id h
  have si := siteN h10 hs
  exact lossZ_rg h1 h2 0 si.2.1 (earN h10 he).2.1 si.2.2.2.1 (by decide)
theorem tgZ_rg {n : Nat} {x m : St} (h : Inv n x m) {s c e : Nat} (hs : s < nT x) (hc : c < 3) (he : e < nE x) : 0 ≤ tgZ x s c e ∧ tgZ x s c e ≤ 100000000 := by
  have r := str_rg h.2.2.2.2.2.2.2.2.2.1 hs hc
  have L := tloss_rg h hs he
  unfold tgZ
  refine ⟨Int.ediv_nonneg (by omega) (by omega), ?_⟩
  exact Int.le_trans (Int.ediv_le_self _ (by omega)) (by omega)
theorem tg0 {n : Nat} {x m : St} (h : Inv n x m) {s e : Nat} (hs : s < nT x) : tgZ x s 0 e = 0 := by
  have h10 := h.2.2.2.2.2.2.2.2.2.1
  have t := towN h10
  unfold tgZ
  rw [Nat.add_zero, (h10.2.2.2.2.1 s (by omega)).1, show (100 : Int) * (0 : Int32).toInt = 0 from rfl, Int.zero_ediv]
theorem tg_q {n : Nat} {x m : St} (h : Inv n x m) {s c e : Nat} (hs : s < nT x) (hc : c < 3) (he : e < nE x) : (100 : Int32) * x.1 73 (3 * s + c) / iI (lossZ x (x.1 71 s) (x.1 72 s) (x.1 75 e) 0 0) = iI (tgZ x s c e) := by
  have r := str_rg h.2.2.2.2.2.2.2.2.2.1 hs hc
  have L := tloss_rg h hs he
  have e1 : (100 : Int32) * x.1 73 (3 * s + c) = iI (100 * (x.1 73 (3 * s + c)).toInt) := by rw [← iI_mul, ← iI_of]; rfl
  rw [e1, iI_div (by omega) (by omega), Int.tdiv_eq_ediv_of_nonneg (by omega)]; rfl
theorem mea_1 {n : Nat} {x m : St} (h : Inv n x m) (kx : St → Option (Unit × St)) {s e : Nat} (hs : s < nT x) (he : e < nE x) : ∀ (d c f : Nat) (S : St), c + d = 3 → d < f → xEq x S → (∀ c', c' < c → S.1 77 ((3 * s + c') * 12 + e) = iI (tgZ x s c' e)) → ∃ S', fX9_measure_L53 kx (nI s) (nI e) (iI (lossZ x (x.1 71 s) (x.1 72 s) (x.1 75 e) 0 0)) f (nI (3 * s + c)) S = kx S' ∧ xEq x S' ∧ tGX x S' s e ∧ ∀ j, (∀ c, c < 3 → j ≠ (3 * s + c) * 12 + e) → S'.1 77 j = S.1 77 j
  | 0, c, f + 1, S, hc, _, hx, hS => by
    have t := towN h.2.2.2.2.2.2.2.2.2.1
    refine ⟨S, ?_, hx, fun c' h' => hS c' (by omega), fun _ _ => rfl⟩
    show fX9_measure_L53_st kx (nI s) (nI e) _ (fX9_measure_L53 kx (nI s) (nI e) _ f) (nI (3 * s + c)) S = _
    unfold fX9_measure_L53_st
    rw [nv_p1, show (3 : Int32) = nI 3 from rfl, nv_mul, if_pos ((nv_l (by omega) (by omega)).mpr (by omega))]
  | d + 1, c, f + 1, S, hc, hf, hx, hS => by
    have t := towN h.2.2.2.2.2.2.2.2.2.1
    have L := tloss_rg h hs he
    obtain ⟨S', r1, r2, r3, r4⟩ := mea_1 h kx hs he d (c + 1) f (wi S 77 ((3 * s + c) * 12 + e) (iI (tgZ x s c e))) (by omega) (by omega) (xEq_wi hx (by unfold xcell; omega) (by omega)) (fun c' h' => by
      by_cases q : c' = c
      · subst q; exact wi_s _ _ _ _
      · rw [wi_n _ _ (by omega)]; exact hS c' (by omega))
    refine ⟨S', ?_, r2, r3, fun j hj => ?_⟩
    · show fX9_measure_L53_st kx (nI s) (nI e) _ (fX9_measure_L53 kx (nI s) (nI e) _ f) (nI (3 * s + c)) S = _
      unfold fX9_measure_L53_st
      rw [nv_p1 s, show (3 : Int32) = nI 3 from rfl, nv_mul, if_neg (fun q => by rw [nv_l (by omega) (by omega)] at q; omega), if_pos (nv_ib (by omega) (by omega)), if_pos (iI_nz (by omega)), show (12 : Int32) = nI 12 from rfl, nv_mul, nI_add, if_pos (nv_ib (by omega) (by omega)), lt_eq, nv_nt (by omega), nv_nt (by omega), hx.1 73 (by unfold xcell; omega), tg_q h hs (by omega) he, nv_p1]
      exact r1
    · rw [r4 j hj, wi_n _ _ (fun q => hj c (by omega) q.2)]
theorem mea_2 {n : Nat} {x m : St} (h : Inv n x m) (kx : St → Option (Unit × St)) {s : Nat} (hs : s < nT x) : ∀ (d k f : Nat) (S : St), k + d = nE x → d < f → xEq x S → (∀ s' e', s' < s → e' < nE x → tGX x S s' e') → (∀ e', e' < k → tGX x S s e') → ∃ S', fX9_measure_L12 kx (nI s) f (nI k) S = kx S' ∧ xEq x S' ∧ ∀ s' e', s' < s + 1 → e' < nE x → tGX x S' s' e'
  | 0, k, f + 1, S, hk, _, hx, hS, hE => by
    have t := towN h.2.2.2.2.2.2.2.2.2.1
    refine ⟨S, ?_, hx, fun s' e' l1 l2 => ?_⟩
    · show fX9_measure_L12_st kx (nI s) (fX9_measure_L12 kx (nI s) f) (nI k) S = _
      unfold fX9_measure_L12_st
      rw [hx.2.2.2.2.2.2.1, t.2.2.1, if_pos ((nv_l (by omega) (by omega)).mpr (by omega))]
    · rcases Nat.lt_or_ge s' s with q | q
      · exact hS s' e' q l2
      · rw [show s' = s by omega]; exact hE e' (by omega)
  | d + 1, k, f + 1, S, hk, hf, hx, hS, hE => by
    obtain ⟨h1, h2, h3, h4, h5, h6, h7, h8, h9, h10, h11⟩ := id h
    have t := towN h10
    have hSv := Inv_fr hx mEq.rfl h
    have si := siteN h10 hs
    have ea := earN h10 (e := k) (by omega)
    have fu := fu_ge
    obtain ⟨S', r1, r2, r3, r4⟩ := mea_1 h (fun (S8 : St) => fX9_measure_L12 kx (nI s) f (nI (k + 1)) S8) hs (show k < nE x by omega) 3 0 FU S (by omega) (by omega) hx (fun c' h' => by omega)
    obtain ⟨S2, q1, q2, q3⟩ := mea_2 h kx hs d (k + 1) f S' (by omega) (by omega) r2 (fun s' e' l1 l2 c hc => by
      rw [r4 _ (fun c2 hc2 => by omega)]; exact hS s' e' l1 l2 c hc) (fun e' l1 => by
      by_cases q : e' = k
      · rw [q]; exact r3
      · intro c hc; rw [r4 _ (fun c2 hc2 => by omega)]; exact hE e' (by omega) c hc)
    refine ⟨S2, ?_, q2, q3⟩
    show fX9_measure_L12_st kx (nI s) (fX9_measure_L12 kx (nI s) f) (nI k) S = _
    unfold fX9_measure_L12_st
    have el := e_lossX hSv.2.1 hSv.2.2.1 0 ((isC_fr hx _).mpr si.2.1) ((isC_fr hx _).mpr ea.2.1) si.2.2.2.1 (show 0 ≤ (0 : Int32).toInt ∧ (0 : Int32).toInt ≤ 20 by decide)
    rw [lossZ_fr hx] at el
    rw [hx.2.2.2.2.2.2.1, t.2.2.1, if_neg (fun q => by rw [nv_l (by omega) (by omega)] at q; omega), if_pos (nv_ib (by omega) (by omega)), if_pos (nv_ib (by omega) (by omega)), if_pos (nv_ib (by omega) (by omega)), nv_nt (by omega), nv_nt (by omega), hx.1 71 (by unfold xcell; omega), hx.1 72 (by unfold xcell; omega), hx.1 75 (by unfold xcell; omega), el, bnd_some, lt_eq, show (3 : Int32) = nI 3 from rfl, nv_mul, nv_p1, show s * 3 = 3 * s + 0 by omega]
    exact r1.trans q1
theorem mea_3 {n : Nat} {x m : St} (h : Inv n x m) : ∀ (d k f : Nat) (S : St), k + d = nT x → d < f → xEq x S → (∀ s' e', s' < k → e' < nE x → tGX x S s' e') → ∃ S', fX9_measure_L2 f (nI k) S = some ((), S') ∧ xEq x S' ∧ ∀ s' e', s' < nT x → e' < nE x → tGX x S' s' e'
  | 0, k, f + 1, S, hk, _, hx, hS => by
    have t := towN h.2.2.2.2.2.2.2.2.2.1
    refine ⟨S, ?_, hx, fun s' e' l1 l2 => hS s' e' (by omega) l2⟩
    show fX9_measure_L2_st (fX9_measure_L2 f) (nI k) S = _
    unfold fX9_measure_L2_st
    rw [hx.2.2.2.2.2.1, t.1, if_pos ((nv_l (by omega) (by omega)).mpr (by omega))]
  | d + 1, k, f + 1, S, hk, hf, hx, hS => by
    have t := towN h.2.2.2.2.2.2.2.2.2.1
    have fu := fu_ge
    obtain ⟨S', r1, r2, r3⟩ := mea_2 h (fun (S2 : St) => fX9_measure_L2 f (nI (k + 1)) S2) (show k < nT x by omega) (nE x) 0 FU S (by omega) (by omega) hx hS (fun e' l => by omega)
    obtain ⟨S2, q1, q2, q3⟩ := mea_3 h d (k + 1) f S' (by omega) (by omega) r2 r3
    refine ⟨S2, ?_, q2, q3⟩
    show fX9_measure_L2_st (fX9_measure_L2 f) (nI k) S = _
    unfold fX9_measure_L2_st
    rw [hx.2.2.2.2.2.1, t.1, if_neg (fun q => by rw [nv_l (by omega) (by omega)] at q; omega), nv_p1]
    exact r1.trans q1
/-- the class's table stands -/
def TX (x S : St) : Prop := xEq x S ∧ ∀ s' e', s' < nT x → e' < nE x → tGX x S s' e'
theorem e_mea {n : Nat} {x m : St} (h : Inv n x m) : ∃ S', fX9_measure x = some ((), S') ∧ TX x S' := by
  have t := towN h.2.2.2.2.2.2.2.2.2.1
  obtain ⟨S', r1, r2, r3⟩ := mea_3 h (nT x) 0 FU x (by omega) (by have := fu_ge; omega) xEq.rfl (fun s' e' l => by omega)
  exact ⟨S', r1, r2, r3⟩
/-- the reference's table -/
abbrev tGM (x M : St) (k e : Nat) : Prop := M.1 42 (12 * k + e) = iI (tgZ x (k / 2) (k % 2 + 1) e)
def TM (x m M : St) : Prop := mEq m M ∧ ∀ k e, k < 2 * nT x → e < nE x → tGM x M k e
theorem sst {x m : St} (h : I_tow x m) {k : Nat} (hk : k < 2 * nT x) : m.1 38 k = x.1 73 (3 * (k / 2) + (k % 2 + 1)) ∧ m.1 39 k = x.1 74 (3 * (k / 2) + (k % 2 + 1)) := by
  have si := siteN h (s := k / 2) (by omega)
  obtain ⟨-, -, -, -, a1, a2, -, -, b1, b2, -, -⟩ := si
  rcases Nat.mod_two_eq_zero_or_one k with c | c
  · rw [show 2 * (k / 2) = k by omega] at a1 b1
    rw [c]; exact ⟨a1, b1⟩
  · rw [show 2 * (k / 2) + 1 = k by omega] at a2 b2
    rw [c]; exact ⟨a2, b2⟩
theorem fg_1 {n : Nat} {x m : St} (h : Inv n x m) (kx : St → Option (Unit × St)) {k : Nat} (hk : k < 2 * nT x) : ∀ (d e f : Nat) (M : St), e + d = nE x → d < f → mEq m M → (∀ k' e', k' < k → e' < nE x → tGM x M k' e') → (∀ e', e' < e → tGM x M k e') → ∃ M', fX12_findGots_L14 kx (nI k) f (nI e) M = kx M' ∧ mEq m M' ∧ ∀ k' e', k' < k + 1 → e' < nE x → tGM x M' k' e'
  | 0, e, f + 1, M, he, _, hm, hS, hE => by
    obtain ⟨h1, h2, h3, h4, h5, h6, h7, h8, h9, h10, h11⟩ := id h
    have t := towN h10
    have hM := Inv_fr xEq.rfl hm h
    refine ⟨M, ?_, hm, fun k' e' l1 l2 => ?_⟩
    · show fX12_findGots_L14_st kx (nI k) (fX12_findGots_L14 kx (nI k) f) (nI e) M = _
      unfold fX12_findGots_L14_st
      rw [hM.2.2.2.2.2.2.2.2.2.1.2.2.1, t.2.2.1, if_pos ((nv_l (by omega) (by omega)).mpr (by omega))]
    · rcases Nat.lt_or_ge k' k with q | q
      · exact hS k' e' q l2
      · rw [show k' = k by omega]; exact hE e' (by omega)
  | d + 1, e, f + 1, M, he, hf, hm, hS, hE => by
    have hM := Inv_fr xEq.rfl hm h
    obtain ⟨g1, g2, g3, g4, g5, g6, g7, g8, g9, g10, g11⟩ := id hM
    have t := towN g10
    have si := siteN g10 (s := k / 2) (by omega)
    have ea := earN g10 (e := e) (by omega)
    have ss := sst g10 hk
    have L := tloss_rg h (s := k / 2) (e := e) (by omega) (by omega)
    obtain ⟨M', r1, r2, r3⟩ := fg_1 h kx hk d (e + 1) f (wi M 42 (12 * k + e) (iI (tgZ x (k / 2) (k % 2 + 1) e))) (by omega) (by omega) (mEq_wi hm (by unfold mcell; omega) (by omega)) (fun k' e' l1 l2 => by
      unfold tGM; rw [wi_n _ _ (by omega)]; exact hS k' e' l1 l2) (fun e' l1 => by
      unfold tGM
      by_cases q : e' = e
      · rw [q]; exact wi_s _ _ _ _
      · rw [wi_n _ _ (by omega)]; exact hE e' (by omega))
    refine ⟨M', ?_, r2, r3⟩
    show fX12_findGots_L14_st kx (nI k) (fX12_findGots_L14 kx (nI k) f) (nI e) M = _
    unfold fX12_findGots_L14_st
    have el := e_lossM g1 g2 g3 (Or.inl rfl) si.2.1 ea.2.1 si.2.2.2.1 (show 0 ≤ (0 : Int32).toInt ∧ (0 : Int32).toInt ≤ 20 by decide)
    rw [g10.2.2.1, t.2.2.1, if_neg (fun q => by rw [nv_l (by omega) (by omega)] at q; omega), if_pos (nv_ib (by omega) (by omega)), show (2 : Int32) = nI 2 from rfl, nv_div (by omega) (by omega), if_pos (nv_ib (by omega) (by omega)), if_pos (nv_ib (by omega) (by omega)), if_pos (nv_ib (by omega) (by omega)), nv_nt (a := k / 2) (by omega), nv_nt (a := e) (by omega), si.1, si.2.2.1, ea.1, el, bnd_some, if_pos (iI_nz (by omega)), show (12 : Int32) = nI 12 from rfl, nv_mul, nI_add, if_pos (nv_ib (by omega) (by omega)), lt_eq, nv_nt (a := k) (by omega), nv_nt (by omega), ss.1, tg_q h (by omega) (by omega) (by omega), nv_p1]
    exact r1
theorem fg_2 {n : Nat} {x m : St} (h : Inv n x m) : ∀ (d k f : Nat) (M : St), k + d = 2 * nT x → d < f → mEq m M → (∀ k' e', k' < k → e' < nE x → tGM x M k' e') → ∃ M', fX12_findGots_L2 f (nI k) M = some ((), M') ∧ TM x m M'
  | 0, k, f + 1, M, hk, _, hm, hS => by
    obtain ⟨h1, h2, h3, h4, h5, h6, h7, h8, h9, h10, h11⟩ := id h
    have t := towN h10
    have hM := Inv_fr xEq.rfl hm h
    refine ⟨M, ?_, hm, fun s' e' l1 l2 => hS s' e' (by omega) l2⟩
    show fX12_findGots_L2_st (fX12_findGots_L2 f) (nI k) M = _
    unfold fX12_findGots_L2_st
    rw [hM.2.2.2.2.2.2.2.2.2.1.1, t.1, show (2 : Int32) = nI 2 from rfl, nv_mul, if_pos ((nv_l (by omega) (by omega)).mpr (by omega))]
  | d + 1, k, f + 1, M, hk, hf, hm, hS => by
    obtain ⟨h1, h2, h3, h4, h5, h6, h7, h8, h9, h10, h11⟩ := id h
    have t := towN h10
    have hM := Inv_fr xEq.rfl hm h
    have fu := fu_ge
    obtain ⟨M', r1, r2, r3⟩ := fg_1 h (fun (S2 : St) => fX12_findGots_L2 f (nI (k + 1)) S2) (show k < 2 * nT x by omega) (nE x) 0 FU M (by omega) (by omega) hm hS (fun e' l => by omega)
    obtain ⟨M2, q1, q2⟩ := fg_2 h d (k + 1) f M' (by omega) (by omega) r2 r3
    refine ⟨M2, ?_, q2⟩
    show fX12_findGots_L2_st (fX12_findGots_L2 f) (nI k) M = _
    unfold fX12_findGots_L2_st
    rw [hM.2.2.2.2.2.2.2.2.2.1.1, t.1, show (2 : Int32) = nI 2 from rfl, nv_mul, if_neg (fun q => by rw [nv_l (by omega) (by omega)] at q; omega), nv_p1]
    exact r1.trans q1
theorem e_fg {n : Nat} {x m : St} (h : Inv n x m) : ∃ M', fX12_findGots m = some ((), M') ∧ TM x m M' := by
  have t := towN h.2.2.2.2.2.2.2.2.2.1
  exact fg_2 h (2 * nT x) 0 FU m (by omega) (by have := fu_ge; omega) mEq.rfl (fun s' e' l => by omega)
theorem e_max64 {a b : Int} (ha : -1000000000000 ≤ a ∧ a ≤ 1000000000000) (hb : -1000000000000 ≤ b ∧ b ≤ 1000000000000) (S : St) : fJ9_max_f86c9 (jI a) (jI b) S = some (jI (max a b), S) := by
  unfold fJ9_max_f86c9
  by_cases c : a < b
  · rw [if_pos ((jI_lt (by omega) (by omega)).mpr c), show max a b = b by omega]
  · rw [if_neg (fun q => c ((jI_lt (by omega) (by omega)).mp q)), show max a b = a by omega]
theorem srv_l {n : Nat} {x m S M : St} (h : Inv n x m) (tx : TX x S) (tm : TM x m M) {e : Nat} (he : e < nE x) (kx kx' : Int64 → Int64 → St → Option (Int32 × St)) (b1 b2 : Int32) (no : Int) : ∀ (d k f f' rest : Nat) (al gr : Int), k + d = nT x → d < f → d < f' → rest < 1000000 → 0 ≤ gr → gr ≤ 100000000 → 0 ≤ al → al ≤ 100000000 * (k : Int) → ∃ A G : Int, 0 ≤ G ∧ G ≤ 100000000 ∧ 0 ≤ A ∧ A ≤ 600000000 ∧ fX9_isServed_L11 kx (nI e) f (jI al) (jI gr) (nI rest) (nI k) S = kx (jI A) (jI G) S ∧ fX12_servedBy_L30 kx' b1 b2 (nI e) f' (jI (no + al)) (jI gr) (nI rest) (nI k) M = kx' (jI (no + A)) (jI G) M
  | 0, k, f + 1, f' + 1, rest, al, gr, hk, _, _, hr, g0, g1, a0, a1 => by
    obtain ⟨h1, h2, h3, h4, h5, h6, h7, h8, h9, h10, h11⟩ := id h
    have t := towN h10
    have hM := Inv_fr xEq.rfl tm.1 h
    refine ⟨al, gr, g0, g1, a0, by omega, ?_, ?_⟩
    · show fX9_isServed_L11_st kx (nI e) (fX9_isServed_L11 kx (nI e) f) _ _ (nI rest) (nI k) S = _
      unfold fX9_isServed_L11_st
      rw [tx.1.2.2.2.2.2.1, t.1, if_pos ((nv_l (by omega) (by omega)).mpr (by omega))]
    · show fX12_servedBy_L30_st kx' b1 b2 (nI e) (fX12_servedBy_L30 kx' b1 b2 (nI e) f') _ _ (nI rest) (nI k) M = _
      unfold fX12_servedBy_L30_st
      rw [hM.2.2.2.2.2.2.2.2.2.1.1, t.1, if_pos ((nv_l (by omega) (by omega)).mpr (by omega))]
  | d + 1, k, f + 1, f' + 1, rest, al, gr, hk, hf, hf', hr, g0, g1, a0, a1 => by
    obtain ⟨h1, h2, h3, h4, h5, h6, h7, h8, h9, h10, h11⟩ := id h
    have t := towN h10
    have hM := Inv_fr xEq.rfl tm.1 h
    have c3 : rest % 3 < 3 := Nat.mod_lt _ (by omega)
    have tr := tgZ_rg h (s := k) (c := rest % 3) (e := e) (by omega) c3 he
    have tv := tx.2 k e (by omega) he (rest % 3) c3
    obtain ⟨A, G, q1, q2, q3, q4, q5, q6⟩ := srv_l h tx tm he kx kx' b1 b2 no d (k + 1) f f' (rest / 3) (al + tgZ x k (rest % 3) e) (max gr (tgZ x k (rest % 3) e)) (by omega) (by omega) (by omega) (by omega) (by omega) (by omega) (by omega) (by omega)
    refine ⟨A, G, q1, q2, q3, q4, ?_, ?_⟩
    · show fX9_isServed_L11_st kx (nI e) (fX9_isServed_L11 kx (nI e) f) _ _ (nI rest) (nI k) S = _
      unfold fX9_isServed_L11_st
      simp only [lt_eq]
      rw [tx.1.2.2.2.2.2.1, t.1, if_neg (fun q => by rw [nv_l (by omega) (by omega)] at q; omega), show (3 : Int32) = nI 3 from rfl, nv_ire (by omega) (by omega), nv_div (by omega) (by omega), nv_mul, nI_add, show (12 : Int32) = nI 12 from rfl, nv_mul, nI_add, if_pos (nv_ib (by omega) (by omega)), nv_nt (by omega), show (k * 3 + rest % 3) * 12 + e = (3 * k + rest % 3) * 12 + e by omega, tv, ii64 (by omega), e_max64 (by omega) (by omega), bnd_some, jI_add, nv_p1]
      exact q5
    · show fX12_servedBy_L30_st kx' b1 b2 (nI e) (fX12_servedBy_L30 kx' b1 b2 (nI e) f') _ _ (nI rest) (nI k) M = _
      unfold fX12_servedBy_L30_st
      simp only [lt_eq, jn_eq]
      rw [hM.2.2.2.2.2.2.2.2.2.1.1, t.1, if_neg (fun q => by rw [nv_l (by omega) (by omega)] at q; omega), show (3 : Int32) = nI 3 from rfl, nv_ire (by omega) (by omega), nv_div (by omega) (by omega), nv_p1]
      by_cases z : rest % 3 = 0
      · have e0 := tg0 h (s := k) (e := e) (by omega)
        rw [z, e0, Int.add_zero, show max gr 0 = gr by omega] at q6
        rw [z, if_pos (show nI 0 ≤ 0 by decide)]
        exact q6
      · have tmv := tm.2 (2 * k + (rest % 3 - 1)) e (by omega) he
        have ek : (2 * k + (rest % 3 - 1)) / 2 = k := by omega
        have ek2 : (2 * k + (rest % 3 - 1)) % 2 + 1 = rest % 3 := by omega
        unfold tGM at tmv
        rw [ek, ek2] at tmv
        have ei : (12 : Int32) * ((2 * nI k + nI (rest % 3)) - 1) + nI e = nI (12 * (2 * k + (rest % 3 - 1)) + e) := by
          rw [show (2 : Int32) = nI 2 from rfl, show (12 : Int32) = nI 12 from rfl, show (1 : Int32) = nI 1 from rfl, nv_mul, nI_add, nv_sub (by omega), nv_mul, nI_add]
          congr 2; omega
        rw [if_neg (fun q => by rw [show (0 : Int32) = nI 0 from rfl, nv_l (by omega) (by omega)] at q; omega), ei, if_pos (nv_ib (by omega) (by omega)), nv_nt (by omega), tmv, ii64 (by omega), jI_add, Int.add_assoc]
        by_cases w : tgZ x k (rest % 3) e ≤ gr
        · rw [show max gr (tgZ x k (rest % 3) e) = gr by omega] at q6
          rw [if_pos ((jI_le (by omega) (by omega)).mpr w)]; exact q6
        · rw [show max gr (tgZ x k (rest % 3) e) = tgZ x k (rest % 3) e by omega] at q6
          rw [if_neg (fun q => w ((jI_le (by omega) (by omega)).mp q))]; exact q6
