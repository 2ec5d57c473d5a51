/-! ===== texts: spans, rules ===== -/
def refSpan (qa qb : Nat) (hi : Int32) (K : St → Option (Int32 × St)) (M : St) : Option (Int32 × St) :=
  bnd (fX12_number 0 hi M) (fun v19 S20 => if ib (M.1 0 36) 30 then lt (wi S20 qa (nt (M.1 0 36)) v19) (fun S21 => if ib (S21.1 0 36) 30 then (if 0 ≤ (S21.1 qa (nt (S21.1 0 36))) then (if ib (S21.1 0 36) 30 then (if ib (S21.1 0 36) 30 then lt (wi S21 qb (nt (S21.1 0 36)) (S21.1 qa (nt (S21.1 0 36)))) (fun S26 => bnd (fX12_is 45 S26) (fun v28 S29 => if v28 = 0 then (K S29) else (lt (wi S29 0 35 ((S29.1 0 35) + 1)) (fun S64 => if ib (S64.1 0 36) 30 then (bnd (fX12_number (S64.1 qa (nt (S64.1 0 36))) hi S64) (fun v66 S67 => if ib (S64.1 0 36) 30 then lt (wi S67 qb (nt (S64.1 0 36)) v66) (fun S68 => if ib (S68.1 0 36) 30 then (if 0 ≤ (S68.1 qb (nt (S68.1 0 36))) then (K S68) else (some (0, S68))) else none) else none)) else none)))) else none) else none) else (some (0, S21))) else none) else none)
def finK (S38 : St) : Option (Int32 × St) := lt (wi S38 0 36 ((S38.1 0 36) + 1)) (fun S40 => some (1, S40))
def dayK (S30 : St) : Option (Int32 × St) := if ib (S30.1 0 36) 30 then lt (wi S30 32 (nt (S30.1 0 36)) 0) (fun S32 => if ib (S32.1 0 36) 30 then lt (wi S32 33 (nt (S32.1 0 36)) 99) (fun S34 => bnd (fX12_is 64 S34) (fun v36 S37 => if v36 = 0 then (finK S37) else (lt (wi S37 0 35 ((S37.1 0 35) + 1)) (fun S42 => refSpan 32 33 99 finK S42)))) else none) else none
theorem rr_eq (S : St) : fX12_readsRule S = bnd (fX12_is 43 S) (fun v1 S2 => jn (fun (S3 : St) => bnd (fX12_is 43 S3) (fun v5 S6 => if ib (S3.1 0 36) 30 ∧ b01 v5 then lt (wi S6 28 (nt (S3.1 0 36)) v5) (fun S7 => lt (wi S7 0 35 ((S7.1 0 35) + 1)) (fun S9 => bnd (fX12_is 42 S9) (fun v10 S11 => jn (fun (S12 : St) => lt (wi S12 0 35 ((S12.1 0 35) + 1)) (fun S14 => bnd (fX12_is 58 S14) (fun v15 S16 => if v15 = 0 then (some (0, S16)) else (lt (wi S16 0 35 ((S16.1 0 35) + 1)) (fun S18 => refSpan 30 31 11 dayK S18))))) (fun k13 => if v10 = 0 then (if (S11.1 0 34) ≤ (S11.1 0 35) then (some (0, S11)) else (if ib (S11.1 0 35) 120 then (bnd (fX12_in ((S11.1 27 (nt (S11.1 0 35))).toInt64) 48 53 S11) (fun v75 S76 => if v75 = 0 then (some (0, S76)) else (if ib (S76.1 0 35) 120 then (if ib (S76.1 0 36) 30 then lt (wi S76 29 (nt (S76.1 0 36)) ((S76.1 27 (nt (S76.1 0 35))) - 48)) (fun S79 => k13 S79) else none) else none))) else none)) else (if ib (S11.1 0 36) 30 then lt (wi S11 29 (nt (S11.1 0 36)) (-1)) (fun S81 => k13 S81) else none))))) else none)) (fun k4 => if v1 = 0 then (bnd (fX12_is 45 S2) (fun v84 S85 => if v84 = 0 then (some (0, S85)) else (k4 S85))) else (k4 S2))) := rfl
theorem le0 {v : Int32} (h : 0 ≤ v.toInt) : (0 : Int32) ≤ v := by rw [Int32.le_iff_toInt_le, l32_0]; exact h
/-- how a reading ends badly: at place q, in both -/
def BD (x m S M : St) (q : Nat) : Prop := xEq x S ∧ mEq m M ∧ S.1 59 9 = nI q ∧ M.1 0 35 = nI q ∧ q < 1000
theorem span_l {x m : St} (h8 : I_text x m) {qa qb qa' qb' : Nat} (k1 : 28 ≤ qa ∧ qa ≤ 33) (k2 : 28 ≤ qb ∧ qb ≤ 33) (k3 : qa ≠ qb) (k4 : 61 ≤ qa' ∧ qa' ≤ 66) (k5 : 61 ≤ qb' ∧ qb' ≤ 66) (k6 : qa' ≠ qb') (hi : Int32) {p r : Nat} (hp : (p : Int) ≤ (x.1 59 7).toInt) (hr : r < 25) {S M : St} (ps : PS x m S M p r) : (∃ (q : Nat) (S' M' : St), p < q ∧ (q : Int) ≤ (x.1 59 7).toInt ∧ fX7_readSpan qa' qb' (nI r) hi S = some (1, S') ∧ (∀ K, refSpan qa qb hi K M = K M') ∧ PS x m S' M' q r ∧ S'.1 qa' r = M'.1 qa r ∧ S'.1 qb' r = M'.1 qb r ∧ (∀ k, k ≠ 59 → k ≠ qa' → k ≠ qb' → S'.1 k = S.1 k) ∧ ∀ k, k ≠ 0 → k ≠ qa → k ≠ qb → M'.1 k = M.1 k) ∨ ∃ (q : Nat) (S' M' : St), fX7_readSpan qa' qb' (nI r) hi S = some (0, S') ∧ (∀ K, refSpan qa qb hi K M = some (0, M')) ∧ BD x m S' M' q := by
  have rT := h8.2.1
  have ib25 : ib (nI r) 25 := nv_ib hr (by omega)
  have ib30 : ib (nI r) 30 := nv_ib (by omega) (by omega)
  have hnt : nt (nI r) = r := nv_nt (by omega)
  have m36 : M.1 0 36 = nI r := ps.2.2.2.2.2.2.1
  rcases e_num h8 0 hi hp ps with ⟨q, v, S1, M1, lq, le, v0, n1, n2, ps1, fx, fm⟩ | ⟨v, S1, M1, n1, n2, hx, hm, f1, f2, f3⟩
  · have ps3 : PS x m (wi (wi S1 qa' r v) qb' r v) (wi (wi M1 qa r v) qb r v) q r := PS_m (PS_m (PS_x (PS_x ps1 k4 v) k5 v) k1 v) k2 v
    have c36a : (wi M1 qa r v).1 0 36 = nI r := by rw [wi_c _ _ (by omega)]; exact ps1.2.2.2.2.2.2.1
    have X0 : fX7_readSpan qa' qb' (nI r) hi S = if sg x q = 45 then bnd (fX7_readNumber v hi (wi (wi (wi S1 qa' r v) qb' r v) 59 10 (nI (q + 1)))) (fun v17 S18 => if (wi S18 qb' r v17).1 59 9 = -1 then some (1, wi S18 qb' r v17) else some (0, wi S18 qb' r v17)) else some (1, wi (wi S1 qa' r v) qb' r v) := by
      unfold fX7_readSpan
      simp only [jn_eq, lt_eq, if_pos ib25, hnt]
      rw [n1, bnd_some, wi_s, if_pos ps3.2.2.2.2.1, e_sgX h8 ps3.1 (by omega) ps3.2.2.1, bnd_some, ps3.2.2.1, nv_p1, if_pos ps3.2.2.2.2.1]
      rw [wi_c (a := qa') (k := 59) _ _ (by omega), wi_n (a := qa') (k := qb') _ _ (by omega), wi_s]
    have Y0 : ∀ K, refSpan qa qb hi K M = if sg x q = 45 then bnd (fX12_number v hi (wi (wi (wi M1 qa r v) qb r v) 0 35 (nI (q + 1)))) (fun v66 S67 => if ib ((wi S67 qb r v66).1 0 36) 30 then (if 0 ≤ (wi S67 qb r v66).1 qb (nt ((wi S67 qb r v66).1 0 36)) then K (wi S67 qb r v66) else some (0, wi S67 qb r v66)) else none) else K (wi (wi M1 qa r v) qb r v) := by
      intro K
      unfold refSpan
      simp only [lt_eq]
      rw [n2, bnd_some, m36, if_pos ib30, hnt, c36a, if_pos ib30, hnt, wi_s, if_pos (le0 v0), if_pos ib30, if_pos ib30, e_is h8 ps3.2.1 (by omega) ps3.2.2.2.1 (by decide), bnd_some, bi_ite, ps3.2.2.2.1, nv_p1]
      have c36b : (wi (wi (wi M1 qa r v) qb r v) 0 35 (nI (q + 1))).1 0 36 = nI r := by rw [wi_n _ _ (by omega)]; exact ps3.2.2.2.2.2.2.1
      rw [c36b, if_pos ib30, hnt, wi_c (a := qa) (k := 0) _ _ (by omega), wi_n (a := qa) (k := qb) _ _ (by omega), wi_s]
      simp only [if_pos ib30]
    by_cases s : sg x q = 45
    · have lt : (q : Int) < (x.1 59 7).toInt := sg_in (by rw [s]; decide)
      have ps4 := PS_at ps3 (q + 1)
      rcases e_num h8 v hi (p := q + 1) (by omega) ps4 with ⟨q2, v2, S5, M5, lq2, le2, w0, w1, w2, ps5, gx, gm⟩ | ⟨v2, S5, M5, w1, w2, hx, hm, f1, f2, f3⟩
      · have ps6 : PS x m (wi S5 qb' r v2) (wi M5 qb r v2) q2 r := PS_m (PS_x ps5 k5 v2) k2 v2
        refine Or.inl ⟨q2, wi S5 qb' r v2, wi M5 qb r v2, by omega, le2, ?_, fun K => ?_, ps6, ?_, ?_, fun k z1 z2 z3 => ?_, fun k z1 z2 z3 => ?_⟩
        · rw [X0, if_pos s, w1, bnd_some, if_pos ps6.2.2.2.2.1]
        · rw [Y0 K, if_pos s, w2, bnd_some, ps6.2.2.2.2.2.2.1, if_pos ib30, hnt, wi_s, if_pos (le0 w0)]
        · rw [wi_n _ _ (by omega), gx qa' (by omega), wi_c _ _ (by omega), wi_n _ _ (by omega), wi_s, wi_n _ _ (by omega), gm qa (by omega), wi_c _ _ (by omega), wi_n _ _ (by omega), wi_s]
        · rw [wi_s, wi_s]
        · rw [wi_c _ _ z3, gx k z1, wi_c _ _ z1, wi_c _ _ z3, wi_c _ _ z2, fx k z1]
        · rw [wi_c _ _ z3, gm k z1, wi_c _ _ z1, wi_c _ _ z3, wi_c _ _ z2, fm k z1]
      · refine Or.inr ⟨q + 1, wi S5 qb' r v2, wi M5 qb r (-1), ?_, fun K => ?_, xEq_wi hx (by unfold xcell; omega) (by omega), mEq_wi hm (by unfold mcell; omega) (by omega), by rw [wi_c _ _ (by omega)]; exact f1, by rw [wi_c _ _ (by omega)]; exact f2, by omega⟩
        · rw [X0, if_pos s, w1, bnd_some, if_neg (by rw [wi_c _ _ (by omega), f1]; exact nI_m1 (by omega))]
        · have c36 : (wi M5 qb r (-1)).1 0 36 = nI r := by rw [wi_c _ _ (by omega)]; exact f3
          rw [Y0 K, if_pos s, w2, bnd_some, c36, if_pos ib30, hnt, wi_s, if_neg (by decide)]
    · refine Or.inl ⟨q, _, _, lq, le, by rw [X0, if_neg s], fun K => by rw [Y0 K, if_neg s], ps3, ?_, ?_, fun k z1 z2 z3 => ?_, fun k z1 z2 z3 => ?_⟩
      · rw [wi_n _ _ (by omega), wi_s, wi_n _ _ (by omega), wi_s]
      · rw [wi_s, wi_s]
      · rw [wi_c _ _ z3, wi_c _ _ z2, fx k z1]
      · rw [wi_c _ _ z3, wi_c _ _ z2, fm k z1]
  · refine Or.inr ⟨p, wi (wi S1 qa' r v) qb' r v, wi M1 qa r (-1), ?_, fun K => ?_, xEq_wi (xEq_wi hx (by unfold xcell; omega) (by omega)) (by unfold xcell; omega) (by omega), mEq_wi hm (by unfold mcell; omega) (by omega), by rw [wi_c _ _ (by omega), wi_c _ _ (by omega)]; exact f1, by rw [wi_c _ _ (by omega)]; exact f2, by omega⟩
    · have fl : ¬ (wi (wi S1 qa' r v) qb' r v).1 59 9 = -1 := by rw [wi_c _ _ (by omega), wi_c _ _ (by omega), f1]; exact nI_m1 (by omega)
      unfold fX7_readSpan
      simp only [jn_eq, lt_eq, if_pos ib25, hnt]
      rw [n1, bnd_some, wi_s, if_neg fl, if_neg fl]
    · have c36 : (wi M1 qa r (-1)).1 0 36 = nI r := by rw [wi_c _ _ (by omega)]; exact f3
      unfold refSpan
      simp only [lt_eq]
      rw [n2, bnd_some, m36, if_pos ib30, hnt, c36, if_pos ib30, hnt, wi_s, if_neg (by decide)]
/-! ===== the class's reading of a rule, in pieces ===== -/
def xDay (r : Nat) (S29 : St) : Option (Int32 × St) := bnd (fX7_sign S29) (fun v31 S32 => if v31 = 64 then (lt (wi S32 59 10 ((S32.1 59 10) + 1)) (fun S38 => bnd (fX7_readSpan 65 66 (nI r) 99 S38) (fun v39 S40 => if b01 v39 then some (v39, S40) else none))) else (if ib (nI r) 25 then lt (wi S32 65 (nt (nI r)) 0) (fun S34 => if ib (nI r) 25 then lt (wi S34 66 (nt (nI r)) 99) (fun S36 => some (1, S36)) else none) else none))
def xCol (r : Nat) (S23 : St) : Option (Int32 × St) := bnd (fX7_sign S23) (fun v24 S25 => if v24 = 58 then (lt (wi S25 59 10 ((S25.1 59 10) + 1)) (fun S27 => bnd (fX7_readSpan 63 64 (nI r) 11 S27) (fun v28 S29 => if v28 = 0 then (some (0, S29)) else (xDay r S29)))) else (bnd (fX7_failsAt (S25.1 59 10) S25) (fun v41 S42 => if b01 v41 then some (v41, S42) else none)))
def xKin (r : Nat) (v18 : Int32) (S19 : St) : Option (Int32 × St) := if ib (nI r) 25 then lt (wi S19 62 (nt (nI r)) v18) (fun S21 => lt (wi S21 59 10 ((S21.1 59 10) + 1)) (fun S23 => xCol r S23)) else none
def xKnd (r : Nat) (S11 : St) : Option (Int32 × St) := bnd (fX7_sign S11) (fun v12 S13 => jn (fun (S14 : St) => bnd (fX7_sign S14) (fun v16 S17 => jn (fun (v18 : Int32) (S19 : St) => xKin r v18 S19) (fun k20 => if v16 = 42 then (k20 (-1) S17) else (bnd (fX7_sign S17) (fun v44 S45 => k20 (v44 - 48) S45))))) (fun k15 => if v12 = 42 then (k15 S13) else (bnd (fX7_sign S13) (fun v47 S48 => bnd (fX11_within v47 48 53 S48) (fun v49 S50 => if v49 = 0 then (bnd (fX7_failsAt (S50.1 59 10) S50) (fun v52 S53 => if b01 v52 then some (v52, S53) else none)) else (k15 S50))))))
theorem xr_eq (r : Nat) (S : St) : fX7_readRule (nI r) S = bnd (fX7_sign S) (fun v1 S2 => jn (fun (S3 : St) => bnd (fX7_sign S3) (fun v5 S6 => lt (if v5 = 43 then 1 else 0) (fun (v7 : Int32) => if ib (nI r) 25 ∧ b01 v7 then lt (wi S6 61 (nt (nI r)) v7) (fun S9 => lt (wi S9 59 10 ((S9.1 59 10) + 1)) (fun S11 => xKnd r S11)) else none))) (fun k4 => if v1 = 43 then (k4 S2) else (bnd (fX7_sign S2) (fun v56 S57 => if v56 = 45 then (k4 S57) else (bnd (fX7_failsAt (S57.1 59 10) S57) (fun v59 S60 => if b01 v59 then some (v59, S60) else none)))))) := rfl
def mCol (S14 : St) : Option (Int32 × St) := bnd (fX12_is 58 S14) (fun v15 S16 => if v15 = 0 then (some (0, S16)) else (lt (wi S16 0 35 ((S16.1 0 35) + 1)) (fun S18 => refSpan 30 31 11 dayK S18)))
def mKin (S12 : St) : Option (Int32 × St) := lt (wi S12 0 35 ((S12.1 0 35) + 1)) (fun S14 => mCol S14)
def mKnd (S9 : St) : Option (Int32 × St) := bnd (fX12_is 42 S9) (fun v10 S11 => if v10 = 0 then (if (S11.1 0 34) ≤ (S11.1 0 35) then (some (0, S11)) else (if ib (S11.1 0 35) 120 then (bnd (fX12_in ((S11.1 27 (nt (S11.1 0 35))).toInt64) 48 53 S11) (fun v75 S76 => if v75 = 0 then (some (0, S76)) else (if ib (S76.1 0 35) 120 then (if ib (S76.1 0 36) 30 then lt (wi S76 29 (nt (S76.1 0 36)) ((S76.1 27 (nt (S76.1 0 35))) - 48)) (fun S79 => mKin S79) else none) else none))) else none)) else (if ib (S11.1 0 36) 30 then lt (wi S11 29 (nt (S11.1 0 36)) (-1)) (fun S81 => mKin S81) else none))
theorem mr_eq (S : St) : fX12_readsRule S = bnd (fX12_is 43 S) (fun v1 S2 => jn (fun (S3 : St) => bnd (fX12_is 43 S3) (fun v5 S6 => if ib (S3.1 0 36) 30 ∧ b01 v5 then lt (wi S6 28 (nt (S3.1 0 36)) v5) (fun S7 => lt (wi S7 0 35 ((S7.1 0 35) + 1)) (fun S9 => mKnd S9)) else none)) (fun k4 => if v1 = 0 then (bnd (fX12_is 45 S2) (fun v84 S85 => if v84 = 0 then (some (0, S85)) else (k4 S85))) else (k4 S2))) := rfl
/-- how a rule's reading ends well or badly, in both -/
def RG (x m : St) (p r : Nat) (a b : Option (Int32 × St)) : Prop := (∃ (q : Nat) (S' M' : St), p ≤ q ∧ (q : Int) ≤ (x.1 59 7).toInt ∧ a = some (1, S') ∧ b = some (1, wi M' 0 36 (nI (r + 1))) ∧ PS x m S' M' q r ∧ AR S' M' r) ∨ ∃ (q : Nat) (S' M' : St), a = some (0, S') ∧ b = some (0, M') ∧ BD x m S' M' q
theorem RG_le {x m : St} {p p' r : Nat} {a b : Option (Int32 × St)} (h : RG x m p' r a b) (hp : p ≤ p') : RG x m p r a b := by
  rcases h with ⟨q, S', M', h1, h2⟩ | h
  · exact Or.inl ⟨q, S', M', by omega, h2⟩
  · exact Or.inr h
theorem day_l {x m : St} (h8 : I_text x m) {p r : Nat} (hp : (p : Int) ≤ (x.1 59 7).toInt) (hr : r < 25) {S M : St} (ps : PS x m S M p r) (a1 : S.1 61 r = M.1 28 r) (a2 : S.1 62 r = M.1 29 r) (a3 : S.1 63 r = M.1 30 r) (a4 : S.1 64 r = M.1 31 r) : RG x m p r (xDay r S) (dayK M) := by
  have rT := h8.2.1
  have ib25 : ib (nI r) 25 := nv_ib hr (by omega)
  have ib30 : ib (nI r) 30 := nv_ib (by omega) (by omega)
  have hnt : nt (nI r) = r := nv_nt (by omega)
  have m36 : M.1 0 36 = nI r := ps.2.2.2.2.2.2.1
  have psM : PS x m S (wi (wi M 32 r 0) 33 r 99) p r := PS_m (PS_m ps (by omega) _) (by omega) _
  have c36 : (wi M 32 r 0).1 0 36 = nI r := by rw [wi_c _ _ (by omega)]; exact m36
  have fin : ∀ M', M'.1 0 36 = nI r → finK M' = some (1, wi M' 0 36 (nI (r + 1))) := fun M' e => by unfold finK; rw [lt_eq, e, nv_p1]
  have Y : dayK M = if sg x p = 64 then refSpan 32 33 99 finK (wi (wi (wi M 32 r 0) 33 r 99) 0 35 (nI (p + 1))) else finK (wi (wi M 32 r 0) 33 r 99) := by
    unfold dayK
    simp only [lt_eq]
    rw [m36, if_pos ib30, hnt, c36, if_pos ib30, hnt, e_is h8 psM.2.1 (by omega) psM.2.2.2.1 (by decide), bnd_some, bi_ite, psM.2.2.2.1, nv_p1]
  unfold xDay
  simp only [lt_eq, if_pos ib25, hnt]
  rw [Y, e_sgX h8 ps.1 (by omega) ps.2.2.1, bnd_some, ps.2.2.1, nv_p1]
  by_cases c : sg x p = 64
  · have lt : (p : Int) < (x.1 59 7).toInt := sg_in (by rw [c]; decide)
    have ps3 := PS_at psM (p + 1)
    rw [if_pos c, if_pos c]
    rcases span_l h8 (qa := 32) (qb := 33) (qa' := 65) (qb' := 66) (by omega) (by omega) (by omega) (by omega) (by omega) (by omega) 99 (p := p + 1) (by omega) hr ps3 with ⟨q, S', M', z1, z2, z3, z4, z5, z6, z7, z8, z9⟩ | ⟨q, S', M', z1, z2, z3⟩
    · refine Or.inl ⟨q, S', M', by omega, z2, by rw [z3, bnd_some, if_pos (by decide)], by rw [z4, fin M' z5.2.2.2.2.2.2.1], z5, ?_, ?_, ?_, ?_, z6, z7⟩
      · rw [z8 61 (by omega) (by omega) (by omega), z9 28 (by omega) (by omega) (by omega), wi_c _ _ (by omega), wi_c _ _ (by omega), wi_c _ _ (by omega), wi_c _ _ (by omega)]; exact a1
      · rw [z8 62 (by omega) (by omega) (by omega), z9 29 (by omega) (by omega) (by omega), wi_c _ _ (by omega), wi_c _ _ (by omega), wi_c _ _ (by omega), wi_c _ _ (by omega)]; exact a2
      · rw [z8 63 (by omega) (by omega) (by omega), z9 30 (by omega) (by omega) (by omega), wi_c _ _ (by omega), wi_c _ _ (by omega), wi_c _ _ (by omega), wi_c _ _ (by omega)]; exact a3
      · rw [z8 64 (by omega) (by omega) (by omega), z9 31 (by omega) (by omega) (by omega), wi_c _ _ (by omega), wi_c _ _ (by omega), wi_c _ _ (by omega), wi_c _ _ (by omega)]; exact a4
    · exact Or.inr ⟨q, S', M', by rw [z1, bnd_some, if_pos (by decide)], by rw [z2], z3⟩
  · rw [if_neg c, if_neg c]
    refine Or.inl ⟨p, _, _, Nat.le_refl _, hp, rfl, fin _ psM.2.2.2.2.2.2.1, PS_x (PS_x psM (by omega) _) (by omega) _, ?_, ?_, ?_, ?_, ?_, ?_⟩
    · rw [wi_c _ _ (by omega), wi_c _ _ (by omega), wi_c _ _ (by omega), wi_c _ _ (by omega)]; exact a1
    · rw [wi_c _ _ (by omega), wi_c _ _ (by omega), wi_c _ _ (by omega), wi_c _ _ (by omega)]; exact a2
    · rw [wi_c _ _ (by omega), wi_c _ _ (by omega), wi_c _ _ (by omega), wi_c _ _ (by omega)]; exact a3
    · rw [wi_c _ _ (by omega), wi_c _ _ (by omega), wi_c _ _ (by omega), wi_c _ _ (by omega)]; exact a4
    · rw [wi_c _ _ (by omega), wi_s, wi_c _ _ (by omega), wi_s]
    · rw [wi_s, wi_s]
theorem col_l {x m : St} (h8 : I_text x m) {p r : Nat} (hp : (p : Int) ≤ (x.1 59 7).toInt) (hr : r < 25) {S M : St} (ps : PS x m S M p r) (a1 : S.1 61 r = M.1 28 r) (a2 : S.1 62 r = M.1 29 r) : RG x m (p + 2) r (xCol r S) (mCol M) := by
  have rT := h8.2.1
  unfold xCol mCol fX7_failsAt
  simp only [lt_eq]
  simp only [e_sgX h8 ps.1 (p := p) (by omega) ps.2.2.1, e_is h8 ps.2.1 (p := p) (by omega) ps.2.2.2.1 (b := 58) (by decide), bnd_some, bi_ite, ps.2.2.1, ps.2.2.2.1, nv_p1]
  by_cases c : sg x p = 58
  · have lt : (p : Int) < (x.1 59 7).toInt := sg_in (by rw [c]; decide)
    rw [if_pos c, if_pos c]
    have ps3 := PS_at ps (p + 1)
    rcases span_l h8 (qa := 30) (qb := 31) (qa' := 63) (qb' := 64) (by omega) (by omega) (by omega) (by omega) (by omega) (by omega) 11 (p := p + 1) (by omega) hr ps3 with ⟨q, S', M', z1, z2, z3, z4, z5, z6, z7, z8, z9⟩ | ⟨q, S', M', z1, z2, z3⟩
    · rw [z3, z4, bnd_some, if_neg (by decide)]
      refine RG_le (day_l h8 z2 hr z5 ?_ ?_ z6 z7) (by omega)
      · rw [z8 61 (by omega) (by omega) (by omega), z9 28 (by omega) (by omega) (by omega), wi_c _ _ (by omega), wi_c _ _ (by omega)]; exact a1
      · rw [z8 62 (by omega) (by omega) (by omega), z9 29 (by omega) (by omega) (by omega), wi_c _ _ (by omega), wi_c _ _ (by omega)]; exact a2
    · rw [z1, z2, bnd_some, if_pos rfl]; exact Or.inr ⟨q, S', M', rfl, rfl, z3⟩
  · rw [if_neg c, if_neg c, if_pos (by decide)]
    exact Or.inr ⟨p, _, _, rfl, rfl, xEq_wi ps.1 (by unfold xcell; omega) (by omega), ps.2.1, wi_s _ _ _ _, ps.2.2.2.1, by omega⟩
theorem kin_l {x m : St} (h8 : I_text x m) {p r : Nat} (hp : (p : Int) < (x.1 59 7).toInt) (hr : r < 25) {S M : St} (ps : PS x m S M p r) (a1 : S.1 61 r = M.1 28 r) (v : Int32) : RG x m (p + 3) r (xKin r v S) (mKin (wi M 29 r v)) := by
  have rT := h8.2.1
  have ib25 : ib (nI r) 25 := nv_ib hr (by omega)
  have hnt : nt (nI r) = r := nv_nt (by omega)
  have ps2 : PS x m (wi S 62 r v) (wi M 29 r v) p r := PS_m (PS_x ps (by omega) v) (by omega) v
  unfold xKin mKin
  simp only [lt_eq, if_pos ib25, hnt]
  rw [ps2.2.2.1, ps2.2.2.2.1, nv_p1]
  refine RG_le (col_l h8 (p := p + 1) (by omega) hr (PS_at ps2 (p + 1)) ?_ ?_) (by omega)
  · rw [wi_c _ _ (by omega), wi_c _ _ (by omega), wi_c _ _ (by omega), wi_c _ _ (by omega)]; exact a1
  · rw [wi_c _ _ (by omega), wi_s, wi_c _ _ (by omega), wi_s]
theorem kndX {x m S : St} (h8 : I_text x m) (hx : xEq x S) {p : Nat} (hp : p < 1000) (ha : S.1 59 10 = nI p) (r : Nat) : xKnd r S = if sg x p = 42 then xKin r (-1) S else if 48 ≤ (sg x p).toInt ∧ (sg x p).toInt ≤ 53 then xKin r (sg x p - 48) S else some (0, wi S 59 9 (nI p)) := by
  have sX := e_sgX h8 hx hp ha
  unfold xKnd fX7_failsAt
  rw [sX, bnd_some, jn_eq]
  by_cases c : sg x p = 42
  · rw [if_pos c, if_pos c]
    show bnd (fX7_sign S) _ = _
    rw [sX, bnd_some, jn_eq, if_pos c]
  · rw [if_neg c, if_neg c, sX, bnd_some, e_within, bnd_some, bi_ite, t48.1, t48.2.2.1]
    by_cases w : 48 ≤ (sg x p).toInt ∧ (sg x p).toInt ≤ 53
    · rw [if_pos w, if_pos w]
      show bnd (fX7_sign S) _ = _
      rw [sX, bnd_some, jn_eq, if_neg c, sX, bnd_some]
    · rw [if_neg w, if_neg w, lt_eq, bnd_some, if_pos (show b01 0 by decide), ha]
theorem kndM {x m M : St} (h8 : I_text x m) (hm : mEq m M) {p r : Nat} (hp : p < 1000) (ha : M.1 0 35 = nI p) (hr : M.1 0 36 = nI r) (h25 : r < 25) : mKnd M = if sg x p = 42 then mKin (wi M 29 r (-1)) else if 48 ≤ (sg x p).toInt ∧ (sg x p).toInt ≤ 53 then mKin (wi M 29 r (sg x p - 48)) else some (0, M) := by
  have rT := h8.2.1
  have ib30 : ib (nI r) 30 := nv_ib (by omega) (by omega)
  have hnt : nt (nI r) = r := nv_nt (by omega)
  obtain ⟨t1, t2⟩ := txM h8 hm
  unfold mKnd
  rw [e_is h8 hm hp ha (by decide), bnd_some, bi_ite]
  by_cases c : sg x p = 42
  · rw [if_pos c, if_pos c, hr, if_pos ib30, hnt, lt_eq]
  · rw [if_neg c, if_neg c, t1, ha]
    by_cases l : (p : Int) < (x.1 59 7).toInt
    · have es : sg x p = x.1 60 p := by unfold sg; rw [if_pos l]
      have nle : ¬ x.1 59 7 ≤ nI p := fun q => by rw [iI_nat, iI_lei (by omega)] at q; omega
      rw [if_neg nle, if_pos (nv_ib (by omega) (by omega)), nv_nt (by omega), t2 p l, e_in, bnd_some, bi_ite, t64, t48.2.2.2.1, t48.2.2.2.2.2, es]
      by_cases w : 48 ≤ (x.1 60 p).toInt ∧ (x.1 60 p).toInt ≤ 53
      · rw [if_pos w, if_pos w, ha, if_pos (nv_ib (by omega) (by omega)), hr, if_pos ib30, hnt, nv_nt (by omega), t2 p l, lt_eq]
      · rw [if_neg w, if_neg w]
    · have es : sg x p = -1 := by unfold sg; rw [if_neg l]
      have nw : ¬ (48 ≤ (sg x p).toInt ∧ (sg x p).toInt ≤ 53) := by rw [es, l32_m1]; omega
      rw [if_pos (show x.1 59 7 ≤ nI p by rw [iI_nat, iI_lei (by omega)]; omega), if_neg nw]
theorem knd_l {x m : St} (h8 : I_text x m) {p r : Nat} (hp : (p : Int) ≤ (x.1 59 7).toInt) (hr : r < 25) {S M : St} (ps : PS x m S M p r) (a1 : S.1 61 r = M.1 28 r) : RG x m (p + 3) r (xKnd r S) (mKnd M) := by
  have rT := h8.2.1
  rw [kndX h8 ps.1 (by omega) ps.2.2.1 r, kndM h8 ps.2.1 (by omega) ps.2.2.2.1 ps.2.2.2.2.2.2.1 hr]
  by_cases c : sg x p = 42
  · rw [if_pos c, if_pos c]
    exact kin_l h8 (sg_in (by rw [c]; decide)) hr ps a1 (-1)
  · rw [if_neg c, if_neg c]
    by_cases w : 48 ≤ (sg x p).toInt ∧ (sg x p).toInt ≤ 53
    · rw [if_pos w, if_pos w]
      exact kin_l h8 (sg_in (fun z => by rw [z, l32_m1] at w; omega)) hr ps a1 _
    · rw [if_neg w, if_neg w]
      exact Or.inr ⟨p, _, _, rfl, rfl, xEq_wi ps.1 (by unfold xcell; omega) (by omega), ps.2.1, wi_s _ _ _ _, ps.2.2.2.1, by omega⟩
theorem rule_l {x m : St} (h8 : I_text x m) {p r : Nat} (hp : (p : Int) ≤ (x.1 59 7).toInt) (hr : r < 25) {S M : St} (ps : PS x m S M p r) : RG x m (p + 4) r (fX7_readRule (nI r) S) (fX12_readsRule M) := by
  have rT := h8.2.1
  have ib25 : ib (nI r) 25 := nv_ib hr (by omega)
  have ib30 : ib (nI r) 30 := nv_ib (by omega) (by omega)
  have hnt : nt (nI r) = r := nv_nt (by omega)
  have m36 : M.1 0 36 = nI r := ps.2.2.2.2.2.2.1
  have sX := e_sgX h8 ps.1 (by omega) ps.2.2.1
  have s43 := e_is h8 ps.2.1 (by omega) ps.2.2.2.1 (b := 43) (by decide)
  have s45 := e_is h8 ps.2.1 (by omega) ps.2.2.2.1 (b := 45) (by decide)
  have ea : (wi S 61 r (bi (sg x p = 43))).1 59 10 = nI p := by rw [wi_c _ _ (by omega)]; exact ps.2.2.1
  have eb : (wi M 28 r (bi (sg x p = 43))).1 0 35 = nI p := by rw [wi_c _ _ (by omega)]; exact ps.2.2.2.1
  have e5 : (if sg x p = 43 then (1 : Int32) else 0) = bi (sg x p = 43) := rfl
  rw [xr_eq, mr_eq]
  unfold fX7_failsAt
  simp only [jn_eq, lt_eq, sX, s43, s45, bnd_some, bi_ite, e5, m36, hnt, ea, eb, nv_p1, ps.2.2.1]
  rw [if_pos (show ib (nI r) 25 ∧ b01 (bi (sg x p = 43)) from ⟨ib25, bi_01 _⟩), if_pos (show ib (nI r) 30 ∧ b01 (bi (sg x p = 43)) from ⟨ib30, bi_01 _⟩)]
  have go : (p : Int) < (x.1 59 7).toInt → RG x m (p + 4) r (xKnd r (wi (wi S 61 r (bi (sg x p = 43))) 59 10 (nI (p + 1)))) (mKnd (wi (wi M 28 r (bi (sg x p = 43))) 0 35 (nI (p + 1)))) := fun lt => by
    refine RG_le (knd_l h8 (p := p + 1) (by omega) hr (PS_at (PS_m (PS_x ps (by omega) _) (by omega) _) (p + 1)) ?_) (by omega)
    rw [wi_c _ _ (by omega), wi_s, wi_c _ _ (by omega), wi_s]
  by_cases c1 : sg x p = 43
  · rw [if_pos c1, if_pos c1]; exact go (sg_in (by rw [c1]; decide))
  · rw [if_neg c1, if_neg c1]
    by_cases c2 : sg x p = 45
    · rw [if_pos c2, if_pos c2]; exact go (sg_in (by rw [c2]; decide))
    · rw [if_neg c2, if_neg c2, if_pos (by decide)]
      exact Or.inr ⟨p, _, _, rfl, rfl, xEq_wi ps.1 (by unfold xcell; omega) (by omega), ps.2.1, wi_s _ _ _ _, ps.2.2.2.1, by omega⟩
