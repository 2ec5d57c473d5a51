/-! ===== parting: who may share ===== -/
theorem cs_cmp2 {R : Nat → Bool} {g g' : Nat → Int} {B B' : Nat → Bool} : ∀ n, (∀ j, j < n → R j = true → B' (rk R j) = B j ∧ (B j = true → g' (rk R j) = g j)) → (∀ j, j < n → ¬ R j = true → ¬ B j = true) → cs g' B' (rk R n) = cs g B n
  | 0, _, _ => rfl
  | n + 1, h1, h2 => by
    have ih := cs_cmp2 n (fun j hj => h1 j (by omega)) (fun j hj => h2 j (by omega))
    by_cases c : R n = true
    · obtain ⟨e2, e1⟩ := h1 n (by omega) c
      rw [rk_t c]
      by_cases b : B n = true
      · rw [cs_t b, cs_t (by rw [e2]; exact b), ih, e1 b]
      · rw [cs_f b, cs_f (by rw [e2]; exact b), ih]
    · rw [rk_f c, cs_f (h2 n (by omega) c), ih]
abbrev nS (x : St) : Nat := (x.1 17 6).toInt.toNat
abbrev twB (s mask a : Nat) (o : Nat) : Bool := sB s o && (decide (o ≠ a) && mask.testBit (rk (sB s) o))
abbrev twZ (x : St) (s mask a : Nat) : Int := drZ x a (twB s mask a)
/-- the class's members and what is got of them -/
def PT (x : St) (s : Nat) (S : St) : Prop := xEq x S ∧ S.1 41 8 = nI (rk (sB s) (nS x)) ∧ (∀ j, j < nS x → sB s j = true → S.1 42 (rk (sB s) j) = nI j) ∧ ∀ a b, a < nS x → b < nS x → sB s a = true → sB s b = true → PE x S s a b
theorem PT_wi {x S : St} {s : Nat} (g : PT x s S) {k j : Nat} {v : Int32} (hk : 44 ≤ k ∧ k ≤ 47) : PT x s (wi S k j v) := by
  obtain ⟨g1, g2, g3, g4⟩ := g
  refine ⟨xEq_wi g1 (by unfold xcell; omega) (by omega), by rw [wi_c _ _ (by omega)]; exact g2, fun j hj rj => by rw [wi_c _ _ (by omega)]; exact g3 j hj rj, fun a b ha hb ra rb => ?_⟩
  unfold PE
  rw [wi_c _ _ (by omega)]; exact g4 a b ha hb ra rb
theorem hin_l {S : St} {L : Nat} (eL : S.1 41 8 = nI L) (hL : L ≤ 8) (kx : Int64 → St → Option (Int32 × St)) (mask : Nat) {i : Nat} (hi : i < L) (z : Int) : ∀ (d k f : Nat), k + d = L → d < f → fX4_isHeardIn_L14 kx (nI i) (nI mask) f (jI (z + cs (fun k => (S.1 43 (i * 8 + k)).toInt) (fun k => decide (k ≠ i) && mask.testBit k) k)) (nI k) S = kx (jI (z + cs (fun k => (S.1 43 (i * 8 + k)).toInt) (fun k => decide (k ≠ i) && mask.testBit k) L)) S
  | 0, k, f + 1, hk, _ => by
    show fX4_isHeardIn_L14_st kx (nI i) (nI mask) (fX4_isHeardIn_L14 kx (nI i) (nI mask) f) _ (nI k) S = _
    unfold fX4_isHeardIn_L14_st
    rw [eL, if_pos ((nv_l (by omega) (by omega)).mpr (by omega)), show k = L by omega]
  | d + 1, k, f + 1, hk, hf => by
    have ih := hin_l eL hL kx mask hi z d (k + 1) f (by omega) (by omega)
    show fX4_isHeardIn_L14_st kx (nI i) (nI mask) (fX4_isHeardIn_L14 kx (nI i) (nI mask) f) _ (nI k) S = _
    unfold fX4_isHeardIn_L14_st
    simp only [jn_eq, lt_eq]
    rw [eL, if_neg (fun q => by rw [nv_l (by omega) (by omega)] at q; omega), nv_p1]
    by_cases c : k = i
    · rw [cs_f (by rw [c]; simp)] at ih
      rw [if_pos ((nv_e (by omega) (by omega)).mpr c)]; exact ih
    · rw [if_neg (fun q => c ((nv_e (by omega) (by omega)).mp q))]
      by_cases b : mask.testBit k = true
      · rw [cs_t (by simp [c, b]), ← Int.add_assoc, ← jI_add, ← i64] at ih
        rw [if_neg (fun q => (nb_0 mask (by omega)).mp q b), show (8 : Int32) = nI 8 from rfl, nv_mul, nI_add, if_pos (nv_ib (by omega) (by omega)), nv_nt (by omega)]
        exact ih
      · rw [cs_f (by simp [b])] at ih
        rw [if_pos ((nb_0 mask (by omega)).mpr b)]; exact ih
theorem e_hin {n : Nat} {x m S : St} (h : Inv n x m) {s : Nat} (hL8 : rk (sB s) (nS x) ≤ 8) (g : PT x s S) (mask : Nat) {a : Nat} (ha : a < nS x) (ra : sB s a = true) : fX4_isHeardIn (nI (rk (sB s) a)) (nI mask) S = some (bi (hdZ x a (twZ x s mask a)), S) := by
  obtain ⟨h1, h2, h3, h4, h5, h6, h7, h8, h9, h10, h11⟩ := id h
  have r := h5.2.1
  have fu := fu_ge
  have la := rk_lt ra ha
  have ha' : a < 20 := by unfold nS at ha; omega
  have hs := s1_n h5 (k := a) (by unfold nS at ha; omega)
  have l := hin_l g.2.1 hL8 (fun (v2 : Int64) (S3 : St) => if ib (nI (rk (sB s) a)) 8 then (if ib (S3.1 42 (nt (nI (rk (sB s) a)))) 20 then (if ib ((nI (rk (sB s) a) * 8) + nI (rk (sB s) a)) 64 then (bnd (fX5_isEnough (19 + nt (S3.1 42 (nt (nI (rk (sB s) a))))) (S3.1 43 (nt ((nI (rk (sB s) a) * 8) + nI (rk (sB s) a)))) v2 S3) (fun v7 S8 => if b01 v7 then some (v7, S8) else none)) else none) else none) else none) mask la (x.1 2 2).toInt (rk (sB s) (nS x)) 0 FU (by omega) (by omega)
  have cc := cs_cmp2 (R := sB s) (g' := fun k => (S.1 43 (rk (sB s) a * 8 + k)).toInt) (g := fun o => gotZ x o (x.1 (19 + a) 5) 0) (B' := fun k => decide (k ≠ rk (sB s) a) && mask.testBit k) (B := twB s mask a) (nS x) (fun j hj hr => by
    have gr := gotZ_rg h (s1_n h5 (k := j) (by unfold nS at hj; omega)) 0 (goal_c hs)
    refine ⟨?_, fun hb => ?_⟩
    · show (decide (rk (sB s) j ≠ rk (sB s) a) && mask.testBit (rk (sB s) j)) = (sB s j && (decide (j ≠ a) && mask.testBit (rk (sB s) j)))
      rw [hr, Bool.true_and]
      congr 1
      refine decide_eq_decide.mpr ⟨fun z w => z (by rw [w]), fun z w => z (rk_inj hr ra w)⟩
    · have hb1 := (Eq.mp (Bool.and_eq_true (sB s j) (decide (j ≠ a) && mask.testBit (rk (sB s) j))) hb).2
      have hb2 := of_decide_eq_true (Eq.mp (Bool.and_eq_true (decide (j ≠ a)) (mask.testBit (rk (sB s) j))) hb1).1
      show (S.1 43 (rk (sB s) a * 8 + rk (sB s) j)).toInt = _
      have e : S.1 43 (rk (sB s) a * 8 + rk (sB s) j) = iI (pgZ x a j) := g.2.2.2 a j ha hj ra hr
      have ep : pgZ x a j = gotZ x j (x.1 (19 + a) 5) 0 := by unfold pgZ; rw [if_neg (fun z => hb2 z.symm)]
      rw [e, ep, iI_toInt (by omega) (by omega)]) (fun j hj hr q => hr (Eq.mp (Bool.and_eq_true (sB s j) (decide (j ≠ a) && mask.testBit (rk (sB s) j))) q).1)
  have dr := drZ_rg h (i := a) (by unfold nS at ha; omega) (twB s mask a)
  have gg := gotZ_rg h hs (moodZ x a) (goal_c hs)
  have ep : S.1 43 (rk (sB s) a * 8 + rk (sB s) a) = iI (gotZ x a (x.1 (19 + a) 5) (moodZ x a)) := by
    have e : S.1 43 (rk (sB s) a * 8 + rk (sB s) a) = iI (pgZ x a a) := g.2.2.2 a a ha ha ra ra
    rw [e]; unfold pgZ; rw [if_pos rfl]
  unfold fX4_isHeardIn
  rw [lt_eq, show nt 2 = 2 from rfl, g.1.1 2 (by unfold xcell; omega), i64]
  refine Eq.trans ?_ (l.trans ?_)
  · rw [show (x.1 2 2).toInt + cs (fun k => (S.1 43 (rk (sB s) a * 8 + k)).toInt) (fun k => decide (k ≠ rk (sB s) a) && mask.testBit k) 0 = (x.1 2 2).toInt from Int.add_zero _]; rfl
  · rw [cc]
    show (if ib (nI (rk (sB s) a)) 8 then _ else none) = _
    rw [if_pos (nv_ib (by omega) (by omega)), nv_nt (a := rk (sB s) a) (by omega), g.2.2.1 a ha ra, if_pos (nv_ib (by omega) (by omega)), nv_nt (a := a) (by omega), show (8 : Int32) = nI 8 from rfl, nv_mul, nI_add, if_pos (nv_ib (by omega) (by omega)), nv_nt (by omega), ep]
    have en := e_enough g.1 (show a < 20 by omega) hs gg (z := twZ x s mask a) ⟨dr.2.1, dr.2.2⟩
    have en' : fX5_isEnough (19 + a) (iI (gotZ x a (x.1 (19 + a) 5) (moodZ x a))) (jI ((x.1 2 2).toInt + cs (fun o => gotZ x o (x.1 (19 + a) 5) 0) (twB s mask a) (nS x))) S = some (bi (hdZ x a (twZ x s mask a)), S) := en
    rw [en', bnd_some, if_pos (bi_01 _)]
def allF (P : Nat → Bool) : Nat → Nat → Bool
  | _, 0 => true
  | t, d + 1 => P t && allF P (t + 1) d
abbrev tgP (x : St) (s mask : Nat) (j : Nat) : Bool := !(sB s j && mask.testBit (rk (sB s) j)) || decide (hdZ x j (twZ x s mask j))
abbrev tgB (x : St) (s mask : Nat) : Bool := allF (tgP x s mask) 0 (nS x)
theorem tgP_n {x : St} {s mask j : Nat} (h : ¬ (sB s j = true ∧ mask.testBit (rk (sB s) j) = true)) : tgP x s mask j = true := by
  show (!(sB s j && mask.testBit (rk (sB s) j)) || decide (hdZ x j (twZ x s mask j))) = true
  cases z : sB s j
  · rfl
  · cases w : mask.testBit (rk (sB s) j)
    · rfl
    · exact absurd ⟨z, w⟩ h
theorem tgP_y {x : St} {s mask j : Nat} (h1 : sB s j = true) (h2 : mask.testBit (rk (sB s) j) = true) : tgP x s mask j = decide (hdZ x j (twZ x s mask j)) := by
  show (!(sB s j && mask.testBit (rk (sB s) j)) || decide (hdZ x j (twZ x s mask j))) = _
  rw [h1, h2]; rfl
theorem mbt_l {n : Nat} {x m S : St} (h : Inv n x m) {s : Nat} (hL8 : rk (sB s) (nS x) ≤ 8) (g : PT x s S) (mask : Nat) : ∀ (d t f : Nat), t + d = nS x → d < f → fX4_mayBeTogether_L2 (nI mask) f (nI (rk (sB s) t)) S = some (bi (allF (tgP x s mask) t d = true), S)
  | 0, t, f + 1, ht, _ => by
    show fX4_mayBeTogether_L2_st (nI mask) (fX4_mayBeTogether_L2 (nI mask) f) _ S = _
    unfold fX4_mayBeTogether_L2_st
    rw [g.2.1, show t = nS x by omega, if_pos ((nv_l (by omega) (by omega)).mpr (Nat.le_refl _))]; rfl
  | d + 1, t, f + 1, ht, hf => by
    show _ = some (bi ((tgP x s mask t && allF (tgP x s mask) (t + 1) d) = true), S)
    by_cases rt : sB s t = true
    · have ih := mbt_l h hL8 g mask d (t + 1) f (by omega) (by omega)
      have lt := rk_lt rt (show t < nS x by omega)
      rw [rk_t rt] at ih
      show fX4_mayBeTogether_L2_st (nI mask) (fX4_mayBeTogether_L2 (nI mask) f) _ S = _
      unfold fX4_mayBeTogether_L2_st
      simp only [jn_eq]
      rw [g.2.1, if_neg (fun q => by rw [nv_l (by omega) (by omega)] at q; omega), nv_p1]
      by_cases b : mask.testBit (rk (sB s) t) = true
      · rw [if_neg (fun q => (nb_0 mask (by omega)).mp q b), e_hin h hL8 g mask (by omega) rt, bnd_some, bi_ite, tgP_y rt b]
        by_cases c : hdZ x t (twZ x s mask t)
        · rw [if_pos c, decide_eq_true c, Bool.true_and]; exact ih
        · rw [if_neg c, decide_eq_false c, Bool.false_and]; rfl
      · rw [if_pos ((nb_0 mask (by omega)).mpr b), tgP_n (fun z => b z.2), Bool.true_and]; exact ih
    · have ih := mbt_l h hL8 g mask d (t + 1) (f + 1) (by omega) (by omega)
      rw [rk_f rt] at ih
      rw [tgP_n (fun z => rt z.1), Bool.true_and]; exact ih
theorem e_mbt {n : Nat} {x m S : St} (h : Inv n x m) {s : Nat} (hL8 : rk (sB s) (nS x) ≤ 8) (g : PT x s S) (mask : Nat) : fX4_mayBeTogether (nI mask) S = some (bi (tgB x s mask = true), S) := by
  have r := h.2.2.2.2.1.2.1
  exact mbt_l h hL8 g mask (nS x) 0 FU (by omega) (by have := fu_ge; unfold nS; omega)
/-! the reference's -/
def PMM (x m : St) (s : Nat) (M : St) : Prop := mEq m M ∧ M.1 0 22 = nI (rk (sB s) (nS x)) ∧ ∀ j, j < nS x → sB s j = true → M.1 17 (rk (sB s) j) = nI j
theorem PMM_wi {x m M : St} {s : Nat} (g : PMM x m s M) {k j : Nat} {v : Int32} (hk : 18 ≤ k ∧ k ≤ 20) : PMM x m s (wi M k j v) := by
  obtain ⟨g1, g2, g3⟩ := g
  exact ⟨mEq_wi g1 (by unfold mcell; omega) (by omega), by rw [wi_c _ _ (by omega)]; exact g2, fun j hj rj => by rw [wi_c _ _ (by omega)]; exact g3 j hj rj⟩
theorem wb_l {x m M : St} {s : Nat} (hL8 : rk (sB s) (nS x) ≤ 8) (h20 : nS x ≤ 20) (g : PMM x m s M) (mask : Nat) : ∀ (d t f : Nat), t + d = nS x → d < f → fX12_wholeBits_L4 (nI mask) f (nI (upZ' (sB s) mask t)) (nI (rk (sB s) t)) M = some (nI (upZ' (sB s) mask (nS x)), M)
  | 0, t, f + 1, ht, _ => by
    show fX12_wholeBits_L4_st (nI mask) (fX12_wholeBits_L4 (nI mask) f) _ _ M = _
    unfold fX12_wholeBits_L4_st
    rw [g.2.1, show t = nS x by omega, if_pos ((nv_l (by omega) (by omega)).mpr (Nat.le_refl _))]
  | d + 1, t, f + 1, ht, hf => by
    by_cases rt : sB s t = true
    · have ih := wb_l hL8 h20 g mask d (t + 1) f (by omega) (by omega)
      have lt := rk_lt rt (show t < nS x by omega)
      have st : upZ' (sB s) mask (t + 1) = upZ' (sB s) mask t ||| (if (sB s t && mask.testBit (rk (sB s) t)) = true then 2 ^ t else 0) := rfl
      rw [rk_t rt, st, rt, Bool.true_and] at ih
      show fX12_wholeBits_L4_st (nI mask) (fX12_wholeBits_L4 (nI mask) f) _ _ M = _
      unfold fX12_wholeBits_L4_st
      simp only [jn_eq, lt_eq]
      rw [g.2.1, if_neg (fun q => by rw [nv_l (by omega) (by omega)] at q; omega), if_pos (nv_ib (by omega) (by omega)), nv_nt (by omega), g.2.2 t (by omega) rt, nb_shl t (by omega), nx_or, Int32.or_zero, nv_p1]
      by_cases b : mask.testBit (rk (sB s) t) = true
      · rw [if_pos b] at ih
        rw [if_pos ((nb_1 mask (by omega)).mpr b)]; exact ih
      · rw [if_neg b, Nat.or_zero] at ih
        rw [if_neg (fun q => b ((nb_1 mask (by omega)).mp q))]; exact ih
    · have ih := wb_l hL8 h20 g mask d (t + 1) (f + 1) (by omega) (by omega)
      rw [rk_f rt, up_f rt] at ih
      exact ih
theorem nS20 {n : Nat} {x m : St} (h : Inv n x m) : nS x ≤ 20 ∧ ((nS x : Nat) : Int) = (x.1 17 6).toInt := by
  have r := h.2.2.2.2.1.2.1
  unfold nS
  exact ⟨by omega, by omega⟩
theorem e_wb {n : Nat} {x m M : St} (h : Inv n x m) {s : Nat} (hL8 : rk (sB s) (nS x) ≤ 8) (g : PMM x m s M) (mask : Nat) : fX12_wholeBits (nI mask) M = some (nI (upZ' (sB s) mask (nS x)), M) := by
  have r := nS20 h
  exact wb_l hL8 r.1 g mask (nS x) 0 FU (by omega) (by have := fu_ge; omega)
theorem fs_0 (kx : Int32 → St → Option (Unit × St)) (a b : Int32) (f : Nat) (k : Int32) (M : St) : fX12_findFewest_L23 kx a b (f + 1) 0 k M = kx 0 M := by
  show fX12_findFewest_L23_st kx a b (fX12_findFewest_L23 kx a b f) 0 k M = _
  unfold fX12_findFewest_L23_st
  by_cases c : M.1 0 22 ≤ k
  · rw [if_pos c]
  · rw [if_neg c, if_pos rfl]
theorem fs_l {n : Nat} {x m M : St} (h : Inv n x m) {s : Nat} (hL8 : rk (sB s) (nS x) ≤ 8) (g : PMM x m s M) (kx : Int32 → St → Option (Unit × St)) (mask : Nat) : ∀ (d t f : Nat), t + d = nS x → d + 1 < f → fX12_findFewest_L23 kx (nI mask) (nI (upZ' (sB s) mask (nS x))) f 1 (nI (rk (sB s) t)) M = kx (bi (allF (tgP x s mask) t d = true)) M
  | 0, t, f + 1, ht, _ => by
    show fX12_findFewest_L23_st kx _ _ (fX12_findFewest_L23 kx _ _ f) 1 _ M = _
    unfold fX12_findFewest_L23_st
    rw [g.2.1, show t = nS x by omega, if_pos ((nv_l (by omega) (by omega)).mpr (Nat.le_refl _))]; rfl
  | d + 1, t, f + 2, ht, hf => by
    have hM := Inv_fr xEq.rfl g.1 h
    have r := nS20 h
    show _ = kx (bi ((tgP x s mask t && allF (tgP x s mask) (t + 1) d) = true)) M
    by_cases rt : sB s t = true
    · have ih := fs_l h hL8 g kx mask d (t + 1) (f + 1) (by omega) (by omega)
      have lt := rk_lt rt (show t < nS x by omega)
      rw [rk_t rt] at ih
      have ed := e_drM hM (i := t) (by omega) (upZ' (sB s) mask (nS x))
      have edr : drZ x t (fun o => decide (o ≠ t) && (upZ' (sB s) mask (nS x)).testBit o) = twZ x s mask t := drZ_cg (fun j hj => by
        show (decide (j ≠ t) && (upZ' (sB s) mask (nS x)).testBit j) = (sB s j && (decide (j ≠ t) && mask.testBit (rk (sB s) j)))
        rw [bs_bit, decide_eq_true hj, Bool.true_and]
        cases sB s j <;> cases decide (j ≠ t) <;> rfl)
      rw [edr] at ed
      have dr := drZ_rg h (i := t) (by omega) (twB s mask t)
      have eh := e_hdM hM (i := t) (by omega) (z := twZ x s mask t) ⟨dr.2.1, dr.2.2⟩
      show fX12_findFewest_L23_st kx _ _ (fX12_findFewest_L23 kx _ _ (f + 1)) 1 _ M = _
      unfold fX12_findFewest_L23_st
      simp only [jn_eq]
      rw [g.2.1, if_neg (fun q => by rw [nv_l (by omega) (by omega)] at q; omega), if_neg (show ¬ (1 : Int32) = 0 by decide), nv_p1]
      by_cases b : mask.testBit (rk (sB s) t) = true
      · rw [if_neg (fun q => (nb_0 mask (by omega)).mp q b), if_pos (nv_ib (by omega) (by omega)), if_pos (nv_ib (by omega) (by omega)), nv_nt (a := rk (sB s) t) (by omega), g.2.2 t (by omega) rt, ed, bnd_some, eh, bnd_some, bi_ite, tgP_y rt b]
        by_cases c : hdZ x t (twZ x s mask t)
        · rw [if_pos c, decide_eq_true c, Bool.true_and]; exact ih
        · rw [if_neg c, decide_eq_false c, Bool.false_and, fs_0]; rfl
      · rw [if_pos ((nb_0 mask (by omega)).mpr b), tgP_n (fun z => b z.2), Bool.true_and]; exact ih
    · have ih := fs_l h hL8 g kx mask d (t + 1) (f + 2) (by omega) (by omega)
      rw [rk_f rt] at ih
      rw [tgP_n (fun z => rt z.1), Bool.true_and]; exact ih
