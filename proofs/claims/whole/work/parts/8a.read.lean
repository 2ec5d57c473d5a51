/-! ===== texts: the whole reading; fault, may, rule ===== -/
theorem PS_r {x m S M : St} {p r : Nat} (h : PS x m S M p r) (ar : AR S M r) : PS x m (wi S 59 8 (nI (r + 1))) (wi M 0 36 (nI (r + 1))) p (r + 1) := by
  obtain ⟨h1, h2, h3, h4, h5, h6, h7, h8⟩ := h
  refine ⟨xEq_wi h1 (by unfold xcell; omega) (by omega), mEq_wi h2 (by unfold mcell; omega) (by omega), ?_, ?_, ?_, wi_s _ _ _ _, wi_s _ _ _ _, fun r' hr => ?_⟩
  · rw [wi_n _ _ (by omega)]; exact h3
  · rw [wi_n _ _ (by omega)]; exact h4
  · rw [wi_n _ _ (by omega)]; exact h5
  · have : AR S M r' := by
      by_cases e : r' = r
      · rw [e]; exact ar
      · exact h8 r' (by omega)
    unfold AR
    rw [wi_c (a := 61) _ _ (by omega), wi_c (a := 62) _ _ (by omega), wi_c (a := 63) _ _ (by omega), wi_c (a := 64) _ _ (by omega), wi_c (a := 65) _ _ (by omega), wi_c (a := 66) _ _ (by omega), wi_c (a := 28) _ _ (by omega), wi_c (a := 29) _ _ (by omega), wi_c (a := 30) _ _ (by omega), wi_c (a := 31) _ _ (by omega), wi_c (a := 32) _ _ (by omega), wi_c (a := 33) _ _ (by omega)]
    exact this
def RD (x m : St) (a : Option (Unit × St)) (b : Option (Int32 × St)) : Prop := (∃ (q : Nat) (S' M' : St), a = some ((), S') ∧ b = some (nI q, M') ∧ xEq x S' ∧ mEq m M' ∧ S'.1 59 9 = nI q ∧ q < 1000) ∨ ∃ (r : Nat) (S' M' : St), a = some ((), S') ∧ b = some (-1, M') ∧ xEq x S' ∧ mEq m M' ∧ S'.1 59 9 = -1 ∧ S'.1 59 8 = nI r ∧ M'.1 0 36 = nI r ∧ r ≤ 25 ∧ ∀ r', r' < r → AR S' M' r'
theorem rd0X (f : Nat) (S : St) : fX7_read_L17 (f + 1) 0 S = some ((), S) := by
  show fX7_read_L17_st (fX7_read_L17 f) 0 S = _
  unfold fX7_read_L17_st
  rw [if_pos rfl]
theorem rd0M (f : Nat) (S : St) : fX12_reads_L12 (f + 1) 0 S = some (-1, S) := by
  show fX12_reads_L12_st (fX12_reads_L12 f) 0 S = _
  unfold fX12_reads_L12_st
  rw [if_pos rfl]
theorem read_l {x m : St} (h8 : I_text x m) : ∀ (d p r f f' : Nat) (S M : St), (x.1 59 7).toInt - p < d → d + 1 < f → d + 1 < f' → 5 * r ≤ p → (p : Int) ≤ (x.1 59 7).toInt → PS x m S M p r → RD x m (fX7_read_L17 f 1 S) (fX12_reads_L12 f' 1 M)
  | 0, p, r, f, f', S, M, hd, _, _, _, hp, _ => by exfalso; omega
  | d + 1, p, r, f + 2, f' + 2, S, M, hd, hf, hf', h5, hp, ps => by
    have rT := h8.2.1
    have r25 : r < 25 := by omega
    show RD x m (fX7_read_L17_st (fX7_read_L17 (f + 1)) 1 S) (fX12_reads_L12_st (fX12_reads_L12 (f' + 1)) 1 M)
    unfold fX7_read_L17_st fX12_reads_L12_st
    simp only [lt_eq]
    rw [if_neg (show ¬ (1 : Int32) = 0 by decide), if_neg (show ¬ (1 : Int32) = 0 by decide), ps.2.2.2.2.2.1, if_neg (fun q => by have := (nv_l (a := 25) (by omega) (by omega)).mp q; omega)]
    rcases rule_l h8 hp r25 ps with ⟨q, S', M', z1, z2, z3, z4, z5, z6⟩ | ⟨q, S', M', z1, z2, z3, z4, z5, z6, z7⟩
    · have ps1 := PS_r z5 z6
      have t1 := (txM h8 ps1.2.1).1
      rw [z3, z4, bnd_some, bnd_some, if_neg (by decide), if_neg (by decide), z5.2.2.2.2.2.1, nv_p1, e_sgX h8 ps1.1 (by omega) ps1.2.2.1, bnd_some, e_sgX h8 ps1.1 (by omega) ps1.2.2.1, bnd_some, e_is h8 ps1.2.1 (by omega) ps1.2.2.2.1 (by decide), bnd_some, bi_ite, t1, ps1.2.2.2.1, ps1.2.2.1, nv_p1, iI_nat q]
      by_cases l : (q : Int) < (x.1 59 7).toInt
      · rw [if_neg (show ¬ x.1 59 7 ≤ iI (q : Int) from fun w => by rw [iI_lei (by omega)] at w; omega), if_neg (show ¬ (1 : Int32) = 0 by decide)]
        by_cases s : sg x q = 59
        · rw [if_pos s, if_pos s]
          exact read_l h8 d (q + 1) (r + 1) (f + 1) (f' + 1) _ _ (by omega) (by omega) (by omega) (by omega) (by omega) (PS_at ps1 (q + 1))
        · have nm : ¬ sg x q = -1 := fun w => by
            have := (h8.2.2 q (by omega) l).2
            unfold sg at w
            rw [if_pos l] at w
            rw [w, show rg (-1) 0 255 ↔ (0 ≤ (-1 : Int32).toInt ∧ (-1 : Int32).toInt ≤ 255) from Iff.rfl, l32_m1] at this
            omega
          rw [if_neg s, if_neg s, if_neg nm, rd0X]
          refine Or.inl ⟨q, _, _, rfl, rfl, xEq_wi ps1.1 (by unfold xcell; omega) (by omega), ps1.2.1, wi_s _ _ _ _, by omega⟩
      · have es : sg x q = -1 := by unfold sg; rw [if_neg l]
        have n59 : ¬ sg x q = 59 := by rw [es]; decide
        rw [if_pos (show x.1 59 7 ≤ iI (q : Int) from (iI_lei (by omega)).mpr (by omega)), if_pos (show (0 : Int32) = 0 from rfl), if_neg n59, if_pos es, rd0X, rd0M]
        exact Or.inr ⟨r + 1, _, _, rfl, rfl, ps1.1, ps1.2.1, ps1.2.2.2.2.1, ps1.2.2.2.2.2.1, ps1.2.2.2.2.2.2.1, by omega, ps1.2.2.2.2.2.2.2⟩
    · rw [z1, z2, bnd_some, bnd_some, if_pos rfl, if_pos rfl, rd0X, z6]
      exact Or.inl ⟨q, _, _, rfl, rfl, z3, z4, z5, z7⟩
theorem e_read {x m : St} (h8 : I_text x m) : RD x m (fX7_read x) (fX12_reads m) := by
  have rT := h8.2.1
  unfold fX7_read fX12_reads
  simp only [lt_eq]
  have fu := fu_ge
  refine read_l h8 200 0 0 FU FU _ _ (by omega) (by omega) (by omega) (by omega) (by omega) ⟨xEq_wi (xEq_wi (xEq_wi xEq.rfl (by unfold xcell; omega) (by omega)) (by unfold xcell; omega) (by omega)) (by unfold xcell; omega) (by omega), mEq_wi (mEq_wi mEq.rfl (by unfold mcell; omega) (by omega)) (by unfold mcell; omega) (by omega), ?_, ?_, ?_, wi_s _ _ _ _, wi_s _ _ _ _, fun r' hr => by omega⟩
  · rw [wi_n _ _ (by omega), wi_n _ _ (by omega), wi_s]; rfl
  · rw [wi_n _ _ (by omega), wi_s]; rfl
  · rw [wi_n _ _ (by omega), wi_s]
theorem pr_32 (n : Nat) (x m : St) (_ : n < 512) (h : Inv n x m) : ∃ (v : Int32) (x' m' : St), fX11_fault x = some (v, x') ∧ fX12_fault m = some (v, m') ∧ Inv (n + 1) x' m' := by
  obtain ⟨h1, h2, h3, h4, h5, h6, h7, h8, h9, h10, h11⟩ := id h
  have hu := Inv_up n x m h
  unfold fX11_fault fX12_fault
  rcases e_read h8 with ⟨q, S', M', z1, z2, z3, z4, z5, z6⟩ | ⟨r, S', M', z1, z2, z3, z4, z5, z6, z7, z8, z9⟩
  · rw [z1, z2, bnd_some, bnd_some, z5]; exact ⟨_, _, _, rfl, rfl, Inv_fr z3 z4 hu⟩
  · rw [z1, z2, bnd_some, bnd_some, z5]; exact ⟨_, _, _, rfl, rfl, Inv_fr z3 z4 hu⟩
/-- the rule names them -/
abbrev mtZ (S : St) (a1 a2 a3 : Int32) (j : Nat) : Prop := (S.1 62 j = -1 ∨ S.1 62 j = a1) ∧ ((S.1 63 j).toInt ≤ a2.toInt ∧ a2.toInt ≤ (S.1 64 j).toInt) ∧ (S.1 65 j).toInt ≤ a3.toInt ∧ a3.toInt ≤ (S.1 66 j).toInt
def lsm (S : St) (a1 a2 a3 : Int32) : Nat → Int32
  | 0 => -1
  | k + 1 => if mtZ S a1 a2 a3 k then nI k else lsm S a1 a2 a3 k
theorem lsm_c (S : St) (a1 a2 a3 : Int32) : ∀ k, lsm S a1 a2 a3 k = -1 ∨ ∃ j, j < k ∧ lsm S a1 a2 a3 k = nI j
  | 0 => Or.inl rfl
  | k + 1 => by
    show (if mtZ S a1 a2 a3 k then nI k else lsm S a1 a2 a3 k) = -1 ∨ ∃ j, j < k + 1 ∧ (if mtZ S a1 a2 a3 k then nI k else lsm S a1 a2 a3 k) = nI j
    by_cases c : mtZ S a1 a2 a3 k
    · rw [if_pos c]; exact Or.inr ⟨k, by omega, rfl⟩
    · rw [if_neg c]
      rcases lsm_c S a1 a2 a3 k with z | ⟨j, z1, z2⟩
      · exact Or.inl z
      · exact Or.inr ⟨j, by omega, z2⟩
theorem lsX (S : St) (a1 a2 a3 : Int32) : ∀ (k f : Nat), k ≤ 25 → k < f → fX7_lastNaming_L22 a1 a2 a3 f (nI k - 1) S = some (lsm S a1 a2 a3 k, S)
  | 0, f + 1, _, _ => by
    show fX7_lastNaming_L22_st a1 a2 a3 (fX7_lastNaming_L22 a1 a2 a3 f) (nI 0 - 1) S = _
    unfold fX7_lastNaming_L22_st
    rw [if_pos (by decide)]; rfl
  | k + 1, f + 1, hk, hf => by
    have ih := lsX S a1 a2 a3 k f (by omega) (by omega)
    have e1 : nI (k + 1) - 1 = nI k := by rw [show (1 : Int32) = nI 1 from rfl, nv_sub (by omega)]; rfl
    have e2 : nI k + (-1) = nI k - 1 := (Int32.sub_eq_add_neg (nI k) 1).symm
    have ib25 : ib (nI k) 25 := nv_ib (by omega) (by omega)
    have hnt : nt (nI k) = k := nv_nt (by omega)
    show fX7_lastNaming_L22_st a1 a2 a3 (fX7_lastNaming_L22 a1 a2 a3 f) (nI (k + 1) - 1) S = some (if mtZ S a1 a2 a3 k then nI k else lsm S a1 a2 a3 k, S)
    rw [e1]
    unfold fX7_lastNaming_L22_st
    simp only [jn_eq, if_pos ib25, hnt, e_within, bnd_some, bi_ite, e2]
    rw [if_neg (fun q => by have := (nv_s (b := 0) (by omega) (by omega)).mp q; omega), ih, if_neg (show ¬ (1 : Int32) = 0 by decide)]
    by_cases c1 : S.1 62 k = -1 ∨ S.1 62 k = a1
    · have g : ∀ (A B : Option (Int32 × St)), (if S.1 62 k = -1 then A else if S.1 62 k = a1 then A else B) = A := fun A B => by
        rcases c1 with z | z
        · rw [if_pos z]
        · rw [if_pos z]; split <;> rfl
      rw [g]
      by_cases c2 : (S.1 63 k).toInt ≤ a2.toInt ∧ a2.toInt ≤ (S.1 64 k).toInt
      · rw [if_pos c2]
        by_cases c3 : (S.1 65 k).toInt ≤ a3.toInt ∧ a3.toInt ≤ (S.1 66 k).toInt
        · rw [if_pos c3, if_pos ⟨c1, c2, c3⟩]
        · rw [if_neg c3, if_neg (fun z => c3 z.2.2)]
      · rw [if_neg c2, if_neg (fun z => c2 z.2.1)]
    · rw [if_neg (fun z => c1 (Or.inl z)), if_neg (fun z => c1 (Or.inr z)), if_pos trivial, if_neg (fun z => c1 z.1)]
theorem lsM (S M : St) (a1 a2 a3 : Int32) {r : Nat} (hr : r ≤ 25) (e36 : M.1 0 36 = nI r) (ar : ∀ r', r' < r → AR S M r') : ∀ (d k f : Nat), k + d = r → d < f → fX12_ruleOf_L14 a1 a2 a3 f (lsm S a1 a2 a3 k) (nI k) M = some (lsm S a1 a2 a3 r, M)
  | 0, k, f + 1, hk, _ => by
    show fX12_ruleOf_L14_st a1 a2 a3 (fX12_ruleOf_L14 a1 a2 a3 f) _ (nI k) M = _
    unfold fX12_ruleOf_L14_st
    rw [e36, if_pos ((nv_l (by omega) (by omega)).mpr (by omega)), show k = r by omega]
  | d + 1, k, f + 1, hk, hf => by
    have ih := lsM S M a1 a2 a3 hr e36 ar d (k + 1) f (by omega) (by omega)
    have st : lsm S a1 a2 a3 (k + 1) = if mtZ S a1 a2 a3 k then nI k else lsm S a1 a2 a3 k := rfl
    have ib30 : ib (nI k) 30 := nv_ib (by omega) (by omega)
    have hnt : nt (nI k) = k := nv_nt (by omega)
    obtain ⟨-, b2, b3, b4, b5, b6⟩ := ar k (by omega)
    show fX12_ruleOf_L14_st a1 a2 a3 (fX12_ruleOf_L14 a1 a2 a3 f) _ (nI k) M = _
    unfold fX12_ruleOf_L14_st
    simp only [jn_eq, lt_eq, if_pos ib30, hnt, e_in, bnd_some, bi_ite, t64, nv_p1, ← b2, ← b3, ← b4, ← b5, ← b6]
    rw [e36, if_neg (fun q => by rw [nv_l (by omega) (by omega)] at q; omega), if_pos trivial, if_neg (show ¬ (1 : Int32) = 0 by decide)]
    rw [st] at ih
    by_cases c1 : S.1 62 k = -1 ∨ S.1 62 k = a1
    · have g : ∀ (A B : Option (Int32 × St)), (if S.1 62 k = -1 then A else if S.1 62 k = a1 then A else B) = A := fun A B => by
        rcases c1 with z | z
        · rw [if_pos z]
        · rw [if_pos z]; split <;> rfl
      rw [g]
      by_cases c2 : (S.1 63 k).toInt ≤ a2.toInt ∧ a2.toInt ≤ (S.1 64 k).toInt
      · rw [if_pos c2]
        by_cases c3 : (S.1 65 k).toInt ≤ a3.toInt ∧ a3.toInt ≤ (S.1 66 k).toInt
        · rw [if_pos ⟨c1, c2, c3⟩] at ih; rw [if_pos c3]; exact ih
        · rw [if_neg (fun z => c3 z.2.2)] at ih; rw [if_neg c3]; exact ih
      · rw [if_neg (fun z => c2 z.2.1)] at ih; rw [if_neg c2]; exact ih
    · rw [if_neg (fun z => c1 z.1)] at ih
      rw [if_neg (fun z => c1 (Or.inl z)), if_neg (fun z => c1 (Or.inr z))]; exact ih
theorem e_last {x m : St} (h8 : I_text x m) (a1 a2 a3 : Int32) : ∃ (v : Int32) (S' M' : St), fX7_lastNaming a1 a2 a3 x = some (v, S') ∧ fX12_ruleOf a1 a2 a3 m = some (v, M') ∧ xEq x S' ∧ mEq m M' ∧ (v = -1 ∨ ∃ j, j < 25 ∧ v = nI j ∧ S'.1 61 j = M'.1 28 j) := by
  unfold fX7_lastNaming fX12_ruleOf
  have fu := fu_ge
  rcases e_read h8 with ⟨q, S', M', z1, z2, z3, z4, z5, z6⟩ | ⟨r, S', M', z1, z2, z3, z4, z5, z6, z7, z8, z9⟩
  · rw [z1, z2, bnd_some, bnd_some, z5, if_neg (nI_m1 (by omega)), if_neg (nI_m1 (by omega))]
    exact ⟨_, _, _, rfl, rfl, z3, z4, Or.inl rfl⟩
  · have l := lsM S' M' a1 a2 a3 z8 z7 z9 r 0 FU (by omega) (by omega)
    have l' : fX12_ruleOf_L14 a1 a2 a3 FU (-1) 0 M' = some (lsm S' a1 a2 a3 r, M') := l
    rw [z1, z2, bnd_some, bnd_some, z5, if_pos rfl, if_pos rfl, lt_eq, z6, lsX S' a1 a2 a3 r FU z8 (by omega), l']
    refine ⟨_, _, _, rfl, rfl, z3, z4, ?_⟩
    rcases lsm_c S' a1 a2 a3 r with w | ⟨j, w1, w2⟩
    · exact Or.inl w
    · exact Or.inr ⟨j, by omega, w2, (z9 j w1).1⟩
theorem e_askX (a1 a2 a3 : Int32) (S : St) : fX11_isAsked a1 a2 a3 S = some (bi ((0 ≤ a1.toInt ∧ a1.toInt ≤ 5) ∧ (0 ≤ a2.toInt ∧ a2.toInt ≤ 11) ∧ 0 ≤ a3.toInt ∧ a3.toInt ≤ 99), S) := by
  have u : (5 : Int32).toInt = 5 ∧ (11 : Int32).toInt = 11 ∧ (99 : Int32).toInt = 99 := by decide
  unfold fX11_isAsked
  simp only [e_within, bnd_some, bi_ite, l32_0, u.1, u.2.1, u.2.2]
  unfold bi
  by_cases c1 : 0 ≤ a1.toInt ∧ a1.toInt ≤ 5
  · rw [if_pos c1]
    by_cases c2 : 0 ≤ a2.toInt ∧ a2.toInt ≤ 11
    · rw [if_pos c2]
      by_cases c3 : 0 ≤ a3.toInt ∧ a3.toInt ≤ 99
      · rw [if_pos c3, if_pos ⟨c1, c2, c3⟩]
      · rw [if_neg c3, if_neg (fun z => c3 z.2.2)]
    · rw [if_neg c2, if_neg (fun z => c2 z.2.1)]
  · rw [if_neg c1, if_neg (fun z => c1 z.1)]
theorem e_askM (a1 a2 a3 : Int32) (S : St) : fX12_isAsked a1 a2 a3 S = some (bi ((0 ≤ a1.toInt ∧ a1.toInt ≤ 5) ∧ (0 ≤ a2.toInt ∧ a2.toInt ≤ 11) ∧ 0 ≤ a3.toInt ∧ a3.toInt ≤ 99), S) := by
  have u : (5 : Int64).toInt = 5 ∧ (11 : Int64).toInt = 11 ∧ (99 : Int64).toInt = 99 := by decide
  unfold fX12_isAsked
  simp only [e_in, bnd_some, bi_ite, t64, l64_0, u.1, u.2.1, u.2.2]
  unfold bi
  by_cases c1 : 0 ≤ a1.toInt ∧ a1.toInt ≤ 5
  · rw [if_pos c1]
    by_cases c2 : 0 ≤ a2.toInt ∧ a2.toInt ≤ 11
    · rw [if_pos c2]
      by_cases c3 : 0 ≤ a3.toInt ∧ a3.toInt ≤ 99
      · rw [if_pos c3, if_pos ⟨c1, c2, c3⟩]
      · rw [if_neg c3, if_neg (fun z => c3 z.2.2)]
    · rw [if_neg c2, if_neg (fun z => c2 z.2.1)]
  · rw [if_neg c1, if_neg (fun z => c1 z.1)]
theorem pr_33 (n : Nat) (x m : St) (a1 a2 a3 : Int32) (_ : n < 512) (h : Inv n x m) : ∃ (v : Int32) (x' m' : St), fX11_may a1 a2 a3 x = some (v, x') ∧ fX12_may a1 a2 a3 m = some (v, m') ∧ Inv (n + 1) x' m' := by
  obtain ⟨h1, h2, h3, h4, h5, h6, h7, h8, h9, h10, h11⟩ := id h
  have hu := Inv_up n x m h
  unfold fX11_may fX12_may
  rw [e_askX, e_askM, bnd_some, bnd_some, bi_ite, bi_ite]
  by_cases c : (0 ≤ a1.toInt ∧ a1.toInt ≤ 5) ∧ (0 ≤ a2.toInt ∧ a2.toInt ≤ 11) ∧ 0 ≤ a3.toInt ∧ a3.toInt ≤ 99
  · obtain ⟨v, S', M', z1, z2, z3, z4, z5⟩ := e_last h8 a1 a2 a3
    have hv := Inv_fr z3 z4 hu
    rw [if_pos c, if_pos c, z1, z2, bnd_some, bnd_some]
    rcases z5 with rfl | ⟨j, j1, rfl, j2⟩
    · rw [if_pos rfl, if_pos rfl]; exact ⟨_, _, _, rfl, rfl, hv⟩
    · rw [if_neg (nI_m1 (by omega)), if_neg (nI_m1 (by omega)), if_pos (nv_ib j1 (by omega)), if_pos (nv_ib (by omega) (by omega)), nv_nt (by omega), j2]
      by_cases o : M'.1 28 j = 0
      · rw [if_pos o, if_pos o]; exact ⟨_, _, _, rfl, rfl, hv⟩
      · rw [if_neg o, if_neg o]; exact ⟨_, _, _, rfl, rfl, hv⟩
  · rw [if_neg c, if_neg c]; exact ⟨_, _, _, rfl, rfl, hu⟩
theorem pr_34 (n : Nat) (x m : St) (a1 a2 a3 : Int32) (_ : n < 512) (h : Inv n x m) : ∃ (v : Int32) (x' m' : St), fX11_rule a1 a2 a3 x = some (v, x') ∧ fX12_rule a1 a2 a3 m = some (v, m') ∧ Inv (n + 1) x' m' := by
  obtain ⟨h1, h2, h3, h4, h5, h6, h7, h8, h9, h10, h11⟩ := id h
  have hu := Inv_up n x m h
  unfold fX11_rule fX12_rule
  rw [e_askX, e_askM, bnd_some, bnd_some, bi_ite, bi_ite]
  by_cases c : (0 ≤ a1.toInt ∧ a1.toInt ≤ 5) ∧ (0 ≤ a2.toInt ∧ a2.toInt ≤ 11) ∧ 0 ≤ a3.toInt ∧ a3.toInt ≤ 99
  · obtain ⟨v, S', M', z1, z2, z3, z4, z5⟩ := e_last h8 a1 a2 a3
    rw [if_pos c, if_pos c, z1, z2, bnd_some, bnd_some]
    exact ⟨_, _, _, rfl, rfl, Inv_fr z3 z4 hu⟩
  · rw [if_neg c, if_neg c]; exact ⟨_, _, _, rfl, rfl, hu⟩
