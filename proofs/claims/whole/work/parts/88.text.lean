/-! ===== texts: signs, numbers ===== -/
def sg (x : St) (p : Nat) : Int32 := if (p : Int) < (x.1 59 7).toInt then x.1 60 p else -1
theorem sg_rg {x m : St} (h8 : I_text x m) (p : Nat) : -1 ≤ (sg x p).toInt ∧ (sg x p).toInt ≤ 255 := by
  unfold sg
  have r := h8.2.1
  by_cases c : (p : Int) < (x.1 59 7).toInt
  · rw [if_pos c]; have := (h8.2.2 p (by omega) c).2; omega
  · rw [if_neg c, l32_m1]; omega
theorem sg_in {x : St} {p : Nat} (h : ¬ sg x p = -1) : (p : Int) < (x.1 59 7).toInt := by
  unfold sg at h
  by_cases c : (p : Int) < (x.1 59 7).toInt
  · exact c
  · rw [if_neg c] at h; exact absurd rfl h
/-- both read at place p of rule r, and agree in the rules before -/
abbrev AR (S M : St) (r : Nat) : Prop := S.1 61 r = M.1 28 r ∧ S.1 62 r = M.1 29 r ∧ S.1 63 r = M.1 30 r ∧ S.1 64 r = M.1 31 r ∧ S.1 65 r = M.1 32 r ∧ S.1 66 r = M.1 33 r
def PS (x m S M : St) (p r : Nat) : Prop := xEq x S ∧ mEq m M ∧ S.1 59 10 = nI p ∧ M.1 0 35 = nI p ∧ S.1 59 9 = -1 ∧ S.1 59 8 = nI r ∧ M.1 0 36 = nI r ∧ ∀ r', r' < r → AR S M r'
theorem PS_at {x m S M : St} {p r : Nat} (h : PS x m S M p r) (q : Nat) : PS x m (wi S 59 10 (nI q)) (wi M 0 35 (nI q)) q r := by
  obtain ⟨h1, h2, h3, h4, h5, h6, h7, h8⟩ := h
  refine ⟨xEq_wi h1 (by unfold xcell; omega) (by omega), mEq_wi h2 (by unfold mcell; omega) (by omega), wi_s _ _ _ _, wi_s _ _ _ _, ?_, ?_, ?_, fun r' hr => ?_⟩
  · rw [wi_n _ _ (by omega)]; exact h5
  · rw [wi_n _ _ (by omega)]; exact h6
  · rw [wi_n _ _ (by omega)]; exact h7
  · have := h8 r' hr
    unfold AR
    rw [wi_c (a := 61) _ _ (by omega), wi_c (a := 62) _ _ (by omega), wi_c (a := 63) _ _ (by omega), wi_c (a := 64) _ _ (by omega), wi_c (a := 65) _ _ (by omega), wi_c (a := 66) _ _ (by omega), wi_c (a := 28) _ _ (by omega), wi_c (a := 29) _ _ (by omega), wi_c (a := 30) _ _ (by omega), wi_c (a := 31) _ _ (by omega), wi_c (a := 32) _ _ (by omega), wi_c (a := 33) _ _ (by omega)]
    exact this
theorem PS_x {x m S M : St} {p r : Nat} (h : PS x m S M p r) {k : Nat} (hk : 61 ≤ k ∧ k ≤ 66) (v : Int32) : PS x m (wi S k r v) M p r := by
  obtain ⟨h1, h2, h3, h4, h5, h6, h7, h8⟩ := h
  refine ⟨xEq_wi h1 (by unfold xcell; omega) (by omega), h2, ?_, h4, ?_, ?_, h7, fun r' hr => ?_⟩
  · rw [wi_c _ _ (by omega)]; exact h3
  · rw [wi_c _ _ (by omega)]; exact h5
  · rw [wi_c _ _ (by omega)]; exact h6
  · have := h8 r' hr
    unfold AR
    rw [wi_n (a := 61) _ _ (by omega), wi_n (a := 62) _ _ (by omega), wi_n (a := 63) _ _ (by omega), wi_n (a := 64) _ _ (by omega), wi_n (a := 65) _ _ (by omega), wi_n (a := 66) _ _ (by omega)]
    exact this
theorem PS_m {x m S M : St} {p r : Nat} (h : PS x m S M p r) {k : Nat} (hk : 28 ≤ k ∧ k ≤ 33) (v : Int32) : PS x m S (wi M k r v) p r := by
  obtain ⟨h1, h2, h3, h4, h5, h6, h7, h8⟩ := h
  refine ⟨h1, mEq_wi h2 (by unfold mcell; omega) (by omega), h3, ?_, h5, h6, ?_, fun r' hr => ?_⟩
  · rw [wi_c _ _ (by omega)]; exact h4
  · rw [wi_c _ _ (by omega)]; exact h7
  · have := h8 r' hr
    unfold AR
    rw [wi_n (a := 28) _ _ (by omega), wi_n (a := 29) _ _ (by omega), wi_n (a := 30) _ _ (by omega), wi_n (a := 31) _ _ (by omega), wi_n (a := 32) _ _ (by omega), wi_n (a := 33) _ _ (by omega)]
    exact this
theorem e_sgX {x m S : St} (h8 : I_text x m) (hx : xEq x S) {p : Nat} (hp : p < 1000) (ha : S.1 59 10 = nI p) : fX7_sign S = some (sg x p, S) := by
  unfold fX7_sign sg
  have r := h8.2.1
  rw [hx.2.2.2.2.1, ha, iI_nat]
  by_cases c : (p : Int) < (x.1 59 7).toInt
  · rw [if_neg (fun q => by rw [iI_lei (by omega)] at q; omega), if_pos c, ← iI_nat, if_pos (nv_ib (by omega) (by omega)), nv_nt (by omega), hx.1 60 (by unfold xcell; omega)]
  · rw [if_pos ((iI_lei (by omega)).mpr (by omega)), if_neg c]
theorem txM {x m M : St} (h8 : I_text x m) (hm : mEq m M) : M.1 0 34 = x.1 59 7 ∧ ∀ p : Nat, (p : Int) < (x.1 59 7).toInt → M.1 27 p = x.1 60 p := by
  have r := h8.2.1
  refine ⟨by rw [hm.2.1.2.2.2.2.2.2.1]; exact h8.1, fun p hp => ?_⟩
  rw [hm.1 27 (by unfold mcell; omega)]; exact (h8.2.2 p (by omega) hp).1
theorem e_is {x m M : St} (h8 : I_text x m) (hm : mEq m M) {p : Nat} (hp : p < 1000) (ha : M.1 0 35 = nI p) {b : Int32} (hb : ¬ b = -1) : fX12_is b M = some (bi (sg x p = b), M) := by
  obtain ⟨t1, t2⟩ := txM h8 hm
  have r := h8.2.1
  unfold fX12_is sg bi
  rw [t1, ha, iI_nat]
  by_cases c : (p : Int) < (x.1 59 7).toInt
  · rw [if_neg (fun q => by rw [iI_lei (by omega)] at q; omega), if_pos c, ← iI_nat, if_pos (nv_ib (by omega) (by omega)), nv_nt (by omega), t2 p c]
    by_cases q : x.1 60 p = b
    · rw [if_pos q, if_pos q]
    · rw [if_neg q, if_neg q]
  · rw [if_pos ((iI_lei (by omega)).mpr (by omega)), if_neg c, if_neg (fun q => hb q.symm)]
abbrev fgZ (x : St) (p : Nat) : Prop := 48 ≤ (sg x p).toInt ∧ (sg x p).toInt ≤ 57
theorem t48 : (48 : Int32).toInt = 48 ∧ (57 : Int32).toInt = 57 ∧ (53 : Int32).toInt = 53 ∧ (48 : Int64).toInt = 48 ∧ (57 : Int64).toInt = 57 ∧ (53 : Int64).toInt = 53 := by decide
theorem e_figX {x m S : St} (h8 : I_text x m) (hx : xEq x S) {p : Nat} (hp : p < 1000) (ha : S.1 59 10 = nI p) : fX7_isFigure S = some (bi (fgZ x p), S) := by
  unfold fX7_isFigure
  rw [e_sgX h8 hx hp ha, bnd_some, e_within, bnd_some, if_pos (bi_01 _), t48.1, t48.2.1]
theorem e_figM {x m M : St} (h8 : I_text x m) (hm : mEq m M) {p : Nat} (hp : p < 1000) (ha : M.1 0 35 = nI p) : fX12_isFigure M = some (bi (fgZ x p), M) := by
  obtain ⟨t1, t2⟩ := txM h8 hm
  have r := h8.2.1
  unfold fX12_isFigure fgZ sg
  rw [t1, ha, iI_nat]
  by_cases c : (p : Int) < (x.1 59 7).toInt
  · rw [if_neg (fun q => by rw [iI_lei (by omega)] at q; omega), ← iI_nat, if_pos (nv_ib (by omega) (by omega)), nv_nt (by omega), t2 p c, e_in, bnd_some, bi_ite, t64, t48.2.2.2.1, t48.2.2.2.2.1]
    unfold bi
    rw [if_pos c]
    by_cases q : 48 ≤ (x.1 60 p).toInt ∧ (x.1 60 p).toInt ≤ 57
    · rw [if_pos q, if_pos q]
    · rw [if_neg q, if_neg q]
  · unfold bi
    rw [if_pos ((iI_lei (by omega)).mpr (by omega)), if_neg c, l32_m1, if_neg (by omega)]
theorem num_l {x m : St} (h8 : I_text x m) (kx kx' : Int32 → St → Option (Int32 × St)) (b1 b2 : Int32) {p r : Nat} (hp : (p : Int) ≤ (x.1 59 7).toInt) : ∀ (d c f f' : Nat) (a : Int) (S M : St), c + d = 2 → d < f → d < f' → 0 ≤ a → a ≤ 99 → (c ≤ 1 → a ≤ 9) → (c = 0 → a = 0) → ((p + c : Nat) : Int) ≤ (x.1 59 7).toInt → PS x m S M (p + c) r → ∃ (c' : Nat) (v : Int) (S' M' : St), c ≤ c' ∧ c' ≤ 2 ∧ 0 ≤ v ∧ v ≤ 99 ∧ ((p + c' : Nat) : Int) ≤ (x.1 59 7).toInt ∧ PS x m S' M' (p + c') r ∧ (∀ k, k ≠ 59 → S'.1 k = S.1 k) ∧ (∀ k, k ≠ 0 → M'.1 k = M.1 k) ∧ fX7_readNumber_L11 kx b1 b2 (nI p) f (iI a) (nI c) S = kx (iI v) S' ∧ fX12_number_L8 kx' b1 b2 (nI p) f' (iI a) M = kx' (iI v) M'
  | 0, c, f + 1, f' + 1, a, S, M, hc, _, _, a0, a1, a2, a3, hT, ps => by
    have rT := h8.2.1
    refine ⟨c, a, S, M, Nat.le_refl _, by omega, a0, a1, hT, ps, fun _ _ => rfl, fun _ _ => rfl, ?_, ?_⟩
    · show fX7_readNumber_L11_st kx b1 b2 (nI p) (fX7_readNumber_L11 kx b1 b2 (nI p) f) (iI a) (nI c) S = _
      unfold fX7_readNumber_L11_st
      rw [if_pos (show (2 : Int32) ≤ nI c from (nv_l (a := 2) (by omega) (by omega)).mpr (by omega))]
    · show fX12_number_L8_st kx' b1 b2 (nI p) (fX12_number_L8 kx' b1 b2 (nI p) f') (iI a) M = _
      unfold fX12_number_L8_st
      rw [ps.2.2.2.1, show (2 : Int32) = nI 2 from rfl, nI_add, if_pos ((nv_l (by omega) (by omega)).mpr (by omega))]
  | d + 1, c, f + 1, f' + 1, a, S, M, hc, hf, hf', a0, a1, a2, a3, hT, ps => by
    have rT := h8.2.1
    have X : fX7_readNumber_L11 kx b1 b2 (nI p) (f + 1) (iI a) (nI c) S = if fgZ x (p + c) then fX7_readNumber_L11 kx b1 b2 (nI p) f (iI (10 * a + (sg x (p + c)).toInt - 48)) (nI (c + 1)) (wi S 59 10 (nI (p + c + 1))) else kx (iI a) S := by
      show fX7_readNumber_L11_st kx b1 b2 (nI p) (fX7_readNumber_L11 kx b1 b2 (nI p) f) (iI a) (nI c) S = _
      unfold fX7_readNumber_L11_st
      have e9 : (10 : Int32) * iI a + sg x (p + c) - 48 = iI (10 * a + (sg x (p + c)).toInt - 48) := by
        rw [← iI_sub, ← iI_add, ← iI_mul, ← iI_of]; rfl
      simp only [lt_eq]
      rw [if_neg (fun q => by have := (nv_l (a := 2) (by omega) (by omega)).mp q; omega), e_figX h8 ps.1 (by omega) ps.2.2.1, bnd_some, bi_ite, e_sgX h8 ps.1 (by omega) ps.2.2.1, bnd_some, e9, ps.2.2.1, nv_p1, nv_p1]
    have Y : fX12_number_L8 kx' b1 b2 (nI p) (f' + 1) (iI a) M = if fgZ x (p + c) then fX12_number_L8 kx' b1 b2 (nI p) f' (iI (10 * a + (sg x (p + c)).toInt - 48)) (wi M 0 35 (nI (p + c + 1))) else kx' (iI a) M := by
      show fX12_number_L8_st kx' b1 b2 (nI p) (fX12_number_L8 kx' b1 b2 (nI p) f') (iI a) M = _
      unfold fX12_number_L8_st
      simp only [lt_eq]
      rw [e_figM h8 ps.2.1 (by omega) ps.2.2.2.1, bnd_some, bi_ite, ps.2.2.2.1, show (2 : Int32) = nI 2 from rfl, nI_add, if_neg (fun q => by rw [nv_l (by omega) (by omega)] at q; omega)]
      by_cases q : fgZ x (p + c)
      · have lt : ((p + c : Nat) : Int) < (x.1 59 7).toInt := sg_in (fun z => by unfold fgZ at q; rw [z, l32_m1] at q; omega)
        have es : sg x (p + c) = x.1 60 (p + c) := by unfold sg; rw [if_pos lt]
        have e9 : (10 : Int32) * iI a + x.1 60 (p + c) - 48 = iI (10 * a + (sg x (p + c)).toInt - 48) := by
          rw [es, ← iI_sub, ← iI_add, ← iI_mul, ← iI_of]; rfl
        rw [if_pos q, if_pos q, if_pos (nv_ib (by omega) (by omega)), nv_nt (by omega), (txM h8 ps.2.1).2 _ lt, e9, nv_p1]
      · rw [if_neg q, if_neg q]
    by_cases q : fgZ x (p + c)
    · have lt : ((p + c : Nat) : Int) < (x.1 59 7).toInt := sg_in (fun z => by unfold fgZ at q; rw [z, l32_m1] at q; omega)
      have q' := q
      unfold fgZ at q'
      obtain ⟨c', v, S', M', i1, i2, i3, i4, i5, i6, i7, i8, i9, i10⟩ := num_l h8 kx kx' b1 b2 hp d (c + 1) f f' (10 * a + (sg x (p + c)).toInt - 48) (wi S 59 10 (nI (p + c + 1))) (wi M 0 35 (nI (p + c + 1))) (by omega) (by omega) (by omega) (by omega) (by have := a2 (by omega); omega) (fun z => by have := a3 (by omega); omega) (fun z => by omega) (by omega) (PS_at ps _)
      rw [X, Y, if_pos q, if_pos q]
      exact ⟨c', v, S', M', by omega, i2, i3, i4, i5, i6, fun k hk => by rw [i7 k hk, wi_c _ _ hk], fun k hk => by rw [i8 k hk, wi_c _ _ hk], i9, i10⟩
    · rw [X, Y, if_neg q, if_neg q]
      exact ⟨c, a, S, M, Nat.le_refl _, by omega, a0, a1, hT, ps, fun _ _ => rfl, fun _ _ => rfl, rfl, rfl⟩
theorem e_num {x m : St} (h8 : I_text x m) (b1 b2 : Int32) {p r : Nat} (hp : (p : Int) ≤ (x.1 59 7).toInt) {S M : St} (ps : PS x m S M p r) : (∃ (q : Nat) (v : Int32) (S' M' : St), p < q ∧ (q : Int) ≤ (x.1 59 7).toInt ∧ 0 ≤ v.toInt ∧ fX7_readNumber b1 b2 S = some (v, S') ∧ fX12_number b1 b2 M = some (v, M') ∧ PS x m S' M' q r ∧ (∀ k, k ≠ 59 → S'.1 k = S.1 k) ∧ ∀ k, k ≠ 0 → M'.1 k = M.1 k) ∨ ∃ (v : Int32) (S' M' : St), fX7_readNumber b1 b2 S = some (v, S') ∧ fX12_number b1 b2 M = some (-1, M') ∧ xEq x S' ∧ mEq m M' ∧ S'.1 59 9 = nI p ∧ M'.1 0 35 = nI p ∧ M'.1 0 36 = nI r := by
  have rT := h8.2.1
  have fu := fu_ge
  unfold fX7_readNumber fX12_number
  rw [ps.2.2.1, ps.2.2.2.1]
  obtain ⟨c', v, S', M', i1, i2, i3, i4, i5, i6, i7, i8, i9, i10⟩ := num_l h8 (fun (v1 : Int32) (S2 : St) => jn (fun (S3 : St) => lt (wi S3 59 9 (nI p)) (fun S5 => some (v1, S5))) (fun k4 => if (S2.1 59 10) = nI p then (k4 S2) else (bnd (fX11_within v1 b1 b2 S2) (fun v7 S8 => if v7 = 0 then (k4 S8) else (some (v1, S8)))))) (fun (v1 : Int32) (S2 : St) => jn (fun (S3 : St) => lt (wi S3 0 35 (nI p)) (fun S5 => some ((-1), S5))) (fun k4 => if (S2.1 0 35) = nI p then (k4 S2) else (bnd (fX12_in v1.toInt64 b1.toInt64 b2.toInt64 S2) (fun v7 S8 => if v7 = 0 then (k4 S8) else (some (v1, S8)))))) b1 b2 (r := r) hp 2 0 FU FU 0 S M (by omega) (by omega) (by omega) (by omega) (by omega) (fun _ => by omega) (fun _ => rfl) (by omega) ps
  change fX7_readNumber_L11 _ _ _ _ FU 0 0 S = _ at i9
  change fX12_number_L8 _ _ _ _ FU 0 M = _ at i10
  rw [i9, i10]
  simp only [jn_eq, lt_eq]
  rw [i6.2.2.1, i6.2.2.2.1, e_within, e_in, bnd_some, bnd_some, bi_ite, bi_ite, t64, t64, t64]
  have bad : ∃ (v' : Int32) (S'' M'' : St), some (iI v, wi S' 59 9 (nI p)) = some (v', S'') ∧ some ((-1 : Int32), wi M' 0 35 (nI p)) = some (-1, M'') ∧ xEq x S'' ∧ mEq m M'' ∧ S''.1 59 9 = nI p ∧ M''.1 0 35 = nI p ∧ M''.1 0 36 = nI r := ⟨_, _, _, rfl, rfl, xEq_wi i6.1 (by unfold xcell; omega) (by omega), mEq_wi i6.2.1 (by unfold mcell; omega) (by omega), wi_s _ _ _ _, wi_s _ _ _ _, by rw [wi_n _ _ (by omega)]; exact i6.2.2.2.2.2.2.1⟩
  by_cases z : c' = 0
  · rw [if_pos (show nI (p + c') = nI p by rw [z]; rfl), if_pos (show nI (p + c') = nI p by rw [z]; rfl)]
    exact Or.inr bad
  · have ne : ¬ nI (p + c') = nI p := fun q => by rw [nv_e (by omega) (by omega)] at q; omega
    rw [if_neg ne, if_neg ne]
    by_cases w : b1.toInt ≤ (iI v).toInt ∧ (iI v).toInt ≤ b2.toInt
    · rw [if_pos w, if_pos w]
      exact Or.inl ⟨p + c', iI v, S', M', by omega, i5, by rw [iI_toInt (by omega) (by omega)]; exact i3, rfl, rfl, i6, i7, i8⟩
    · rw [if_neg w, if_neg w]; exact Or.inr bad
