/-! ===== digest ===== -/
theorem e_count {n : Nat} {x m : St} (h : Inv n x m) (a1 : Int32) : ∃ v : Int32, fX11_count a1 x = some (v, x) ∧ fX12_count a1 m = some (v, m) := by
  obtain ⟨h1, h2, h3, h4, h5, h6, h7, h8, h9, h10, h11⟩ := id h
  have r5 := h5.2.1
  have r9 := h9.2.1
  obtain ⟨v1, p1, p2⟩ := cnt_on h5 (x.1 17 6).toInt.toNat 0 FU 0 (by omega) (by have := fu_ge; omega)
  obtain ⟨v2, q1, q2⟩ := cnt_box h9 (x.1 67 3).toInt.toNat 0 FU 0 (by omega) (by have := fu_ge; omega)
  have e1 : fX0_totalOn x = some (v1, x) := p1
  have e2 : fX12_count_L71 FU 0 0 m = some (v1, m) := p2
  have e3 : fX10_readable x = some (v2, x) := q1
  have e4 : fX12_whole m = some (v2, m) := q2
  unfold fX11_count fX12_count
  rw [e1, e2, e3, e4, bnd_some, bnd_some, bnd_some, h5.1, h7.1, h8.1, h9.1, h10.1, h10.2.2.1, h4.1, show m.1 0 4 = x.1 0 11 from h11, h2.1, h2.2.1]
  by_cases d0 : a1 = 0
  · rw [if_pos d0, if_pos d0]; exact ⟨_, rfl, rfl⟩
  rw [if_neg d0, if_neg d0]
  by_cases d1 : a1 = 1
  · rw [if_pos d1, if_pos d1]; exact ⟨_, rfl, rfl⟩
  rw [if_neg d1, if_neg d1]
  by_cases d2 : a1 = 2
  · rw [if_pos d2, if_pos d2]; exact ⟨_, rfl, rfl⟩
  rw [if_neg d2, if_neg d2]
  by_cases d3 : a1 = 3
  · rw [if_pos d3, if_pos d3]; exact ⟨_, rfl, rfl⟩
  rw [if_neg d3, if_neg d3]
  by_cases d4 : a1 = 4
  · rw [if_pos d4, if_pos d4]; exact ⟨_, rfl, rfl⟩
  rw [if_neg d4, if_neg d4]
  by_cases d5 : a1 = 5
  · rw [if_pos d5, if_pos d5]; exact ⟨_, rfl, rfl⟩
  rw [if_neg d5, if_neg d5]
  by_cases d6 : a1 = 6
  · rw [if_pos d6, if_pos d6]; exact ⟨_, rfl, rfl⟩
  rw [if_neg d6, if_neg d6]
  by_cases d7 : a1 = 7
  · rw [if_pos d7, if_pos d7]; exact ⟨_, rfl, rfl⟩
  rw [if_neg d7, if_neg d7]
  by_cases d8 : a1 = 8
  · rw [if_pos d8, if_pos d8]; exact ⟨_, rfl, rfl⟩
  rw [if_neg d8, if_neg d8]
  by_cases d9 : a1 = 9
  · rw [if_pos d9, if_pos d9]; exact ⟨_, rfl, rfl⟩
  rw [if_neg d9, if_neg d9]
  by_cases d10 : a1 = 10
  · rw [if_pos d10, if_pos d10]; exact ⟨_, rfl, rfl⟩
  rw [if_neg d10, if_neg d10]
  by_cases d11 : a1 = 11
  · rw [if_pos d11, if_pos d11]; exact ⟨_, rfl, rfl⟩
  rw [if_neg d11, if_neg d11]
  exact ⟨_, rfl, rfl⟩
theorem e_tell {n : Nat} {x m : St} (hn : n < 512) (h : Inv n x m) {a1 : Int32} (c1 : isS x a1) (a2 : Int32) : ∃ v : Int32, fX0_tell a1 a2 x = some (v, x) ∧ fX12_about a1 a2 m = some (v, m) := by
  obtain ⟨h1, h2, h3, h4, h5, h6, h7, h8, h9, h10, h11⟩ := id h
  obtain ⟨hib, hlt, -, -, hs⟩ := isS_i h5 c1
  unfold fX0_tell fX12_about
  rw [e_isSender h5, bnd_some, bi_ite, if_pos c1]
  simp only [if_pos hib, e_cellX h c1, e_cellM h c1, e_slotX hn h c1, e_slotM hn h c1, bnd_some]
  have f0 : m.1 6 (nt a1) = x.1 (19 + nt a1) 0 := hs.1 0 (by decide)
  have f1 : m.1 7 (nt a1) = x.1 (19 + nt a1) 1 := hs.1 1 (by decide)
  have f2 : m.1 8 (nt a1) = x.1 (19 + nt a1) 2 := hs.1 2 (by decide)
  have f3 : m.1 9 (nt a1) = x.1 (19 + nt a1) 3 := hs.1 3 (by decide)
  have f4 : m.1 10 (nt a1) = x.1 (19 + nt a1) 4 := hs.1 4 (by decide)
  have f5 : m.1 11 (nt a1) = x.1 (19 + nt a1) 5 := hs.1 5 (by decide)
  have f6 : m.1 12 (nt a1) = x.1 (19 + nt a1) 6 := hs.1 6 (by decide)
  have f7 : m.1 13 (nt a1) = x.1 (19 + nt a1) 7 := hs.1 7 (by decide)
  have f10 : m.1 16 (nt a1) = x.1 (19 + nt a1) 10 := hs.1 10 (by decide)
  rw [f0, f1, f2, f3, f4, f5, f6, f7, f10]
  by_cases d0 : a2 = 0
  · rw [if_pos d0, if_pos d0]; exact ⟨_, rfl, rfl⟩
  rw [if_neg d0, if_neg d0]
  by_cases d1 : a2 = 1
  · rw [if_pos d1, if_pos d1]; exact ⟨_, rfl, rfl⟩
  rw [if_neg d1, if_neg d1]
  by_cases d2 : a2 = 2
  · rw [if_pos d2, if_pos d2]; exact ⟨_, rfl, rfl⟩
  rw [if_neg d2, if_neg d2]
  by_cases d3 : a2 = 3
  · rw [if_pos d3, if_pos d3]; exact ⟨_, rfl, rfl⟩
  rw [if_neg d3, if_neg d3]
  by_cases d4 : a2 = 4
  · rw [if_pos d4, if_pos d4]; exact ⟨_, rfl, rfl⟩
  rw [if_neg d4, if_neg d4]
  by_cases d5 : a2 = 5
  · rw [if_pos d5, if_pos d5]; exact ⟨_, rfl, rfl⟩
  rw [if_neg d5, if_neg d5]
  by_cases d6 : a2 = 6
  · rw [if_pos d6, if_pos d6]; exact ⟨_, rfl, rfl⟩
  rw [if_neg d6, if_neg d6]
  by_cases d7 : a2 = 7
  · rw [if_pos d7, if_pos d7]; exact ⟨_, rfl, rfl⟩
  rw [if_neg d7, if_neg d7]
  by_cases d8 : a2 = 8
  · rw [if_pos d8, if_pos d8]
    by_cases e8 : x.1 (19 + nt a1) 10 = 0
    · rw [if_pos e8, if_pos e8]; exact ⟨_, rfl, rfl⟩
    · rw [if_neg e8, if_neg e8]; exact ⟨_, rfl, rfl⟩
  rw [if_neg d8, if_neg d8]
  by_cases d9 : a2 = 9
  · rw [if_pos d9, if_pos d9]; exact ⟨_, rfl, rfl⟩
  rw [if_neg d9, if_neg d9]
  by_cases d10 : a2 = 10
  · rw [if_pos d10, if_pos d10]; exact ⟨_, rfl, rfl⟩
  rw [if_neg d10, if_neg d10]
  exact ⟨_, rfl, rfl⟩
theorem e_heardM {n : Nat} {x m : St} (hn : n < 512) (h : Inv n x m) {i : Nat} (hi : (i : Int) < (x.1 17 6).toInt) : fX12_heard (nI i) m = some (if x.1 (19 + i) 10 = 0 then -3 else bi (hdZ x i (drZ x i (rmZ x i 0))), m) := by
  obtain ⟨h1, h2, h3, h4, h5, h6, h7, h8, h9, h10, h11⟩ := id h
  have r := h5.2.1
  have c := isS_n h5 hi
  have f10 : m.1 16 i = x.1 (19 + i) 10 := (s1_n h5 hi).1 10 (by decide)
  have dr := drZ_rg h hi (rmZ x i 0)
  unfold fX12_heard
  rw [e_isSender h5, bnd_some, bi_ite, if_pos c, if_pos (nv_ib (by omega) (by omega)), nv_nt (by omega), f10]
  by_cases o : x.1 (19 + i) 10 = 0
  · rw [if_pos o, if_pos o]
  · rw [if_neg o, if_neg o, e_oth hn h hi, bnd_some, e_drM h hi, bnd_some, dr_all, e_hdM h hi ⟨by omega, by omega⟩, bnd_some, bi_ite]
    unfold bi
    by_cases d : hdZ x i (drZ x i (rmZ x i 0))
    · rw [if_pos d, if_pos d]
    · rw [if_neg d, if_neg d]
theorem dg_1 {n : Nat} {x m : St} (h : Inv n x m) (kx kx' : Int64 → St → Option (Int64 × St)) : ∀ (d k f f' : Nat) (acc : Int64), k + d = 12 → d < f → d < f' → ∃ v, fX11_digest_L6 kx f acc (nI k) x = kx v x ∧ fX12_digest_L6 kx' f' acc (nI k) m = kx' v m
  | 0, k, f + 1, f' + 1, acc, hk, _, _ => by
    have le : (12 : Int32) ≤ nI k := (nv_l (a := 12) (by omega) (by omega)).mpr (by omega)
    refine ⟨acc, ?_, ?_⟩
    · show fX11_digest_L6_st kx (fX11_digest_L6 kx f) acc (nI k) x = _
      unfold fX11_digest_L6_st
      rw [if_pos le]
    · show fX12_digest_L6_st kx' (fX12_digest_L6 kx' f') acc (nI k) m = _
      unfold fX12_digest_L6_st
      rw [if_pos le]
  | d + 1, k, f + 1, f' + 1, acc, hk, hf, hf' => by
    have nle : ¬ (12 : Int32) ≤ nI k := fun q => by have := (nv_l (a := 12) (by omega) (by omega)).mp q; omega
    obtain ⟨v, c1, c2⟩ := e_count h (nI k)
    show ∃ v, fX11_digest_L6_st kx (fX11_digest_L6 kx f) acc (nI k) x = _ ∧ fX12_digest_L6_st kx' (fX12_digest_L6 kx' f') acc (nI k) m = _
    unfold fX11_digest_L6_st fX12_digest_L6_st
    simp only [jn_eq, lt_eq]
    rw [if_neg nle, if_neg nle, c1, c2, bnd_some, bnd_some, nv_p1]
    by_cases q : nI k = 9
    · rw [if_pos q, if_pos q]; exact dg_1 h kx kx' d (k + 1) f f' _ (by omega) (by omega) (by omega)
    · rw [if_neg q, if_neg q]; exact dg_1 h kx kx' d (k + 1) f f' _ (by omega) (by omega) (by omega)
theorem dg_2 {x m : St} (h1 : I_told x m) (kx kx' : Int64 → St → Option (Int64 × St)) : ∀ (d k f f' : Nat) (acc : Int64), k + d = 5 → d < f → d < f' → ∃ v, fX11_digest_L39 kx f acc (nI k) x = kx v x ∧ fX12_digest_L43 kx' f' acc (nI k) m = kx' v m
  | 0, k, f + 1, f' + 1, acc, hk, _, _ => by
    have le : (5 : Int32) ≤ nI k := (nv_l (a := 5) (by omega) (by omega)).mpr (by omega)
    refine ⟨acc, ?_, ?_⟩
    · show fX11_digest_L39_st kx (fX11_digest_L39 kx f) acc (nI k) x = _
      unfold fX11_digest_L39_st
      rw [if_pos le]
    · show fX12_digest_L43_st kx' (fX12_digest_L43 kx' f') acc (nI k) m = _
      unfold fX12_digest_L43_st
      rw [if_pos le]
  | d + 1, k, f + 1, f' + 1, acc, hk, hf, hf' => by
    have nle : ¬ (5 : Int32) ≤ nI k := fun q => by have := (nv_l (a := 5) (by omega) (by omega)).mp q; omega
    show ∃ v, fX11_digest_L39_st kx (fX11_digest_L39 kx f) acc (nI k) x = _ ∧ fX12_digest_L43_st kx' (fX12_digest_L43 kx' f') acc (nI k) m = _
    unfold fX11_digest_L39_st fX12_digest_L43_st
    simp only [lt_eq]
    rw [if_neg nle, if_neg nle, if_pos (nv_ib (by omega) (by omega)), if_pos (nv_ib (by omega) (by omega)), nv_nt (by omega), h1.1 k (by omega), nv_p1]
    exact dg_2 h1 kx kx' d (k + 1) f f' _ (by omega) (by omega) (by omega)
theorem dg_3 {n : Nat} {x m : St} (hn : n < 512) (h : Inv n x m) (kx kx' : Int64 → St → Option (Int64 × St)) {a : Int32} (ha : isS x a) : ∀ (d k f f' : Nat) (acc : Int64), k + d = 11 → d < f → d < f' → ∃ v, fX11_digest_L83 kx a f acc (nI k) x = kx v x ∧ fX12_digest_L81 kx' a f' acc (nI k) m = kx' v m
  | 0, k, f + 1, f' + 1, acc, hk, _, _ => by
    have le : (11 : Int32) ≤ nI k := (nv_l (a := 11) (by omega) (by omega)).mpr (by omega)
    refine ⟨acc, ?_, ?_⟩
    · show fX11_digest_L83_st kx a (fX11_digest_L83 kx a f) acc (nI k) x = _
      unfold fX11_digest_L83_st
      rw [if_pos le]
    · show fX12_digest_L81_st kx' a (fX12_digest_L81 kx' a f') acc (nI k) m = _
      unfold fX12_digest_L81_st
      rw [if_pos le]
  | d + 1, k, f + 1, f' + 1, acc, hk, hf, hf' => by
    have nle : ¬ (11 : Int32) ≤ nI k := fun q => by have := (nv_l (a := 11) (by omega) (by omega)).mp q; omega
    obtain ⟨v, c1, c2⟩ := e_tell hn h ha (nI k)
    show ∃ v, fX11_digest_L83_st kx a (fX11_digest_L83 kx a f) acc (nI k) x = _ ∧ fX12_digest_L81_st kx' a (fX12_digest_L81 kx' a f') acc (nI k) m = _
    unfold fX11_digest_L83_st fX12_digest_L81_st
    simp only [lt_eq]
    rw [if_neg nle, if_neg nle, c1, c2, bnd_some, bnd_some, nv_p1]
    exact dg_3 hn h kx kx' ha d (k + 1) f f' _ (by omega) (by omega) (by omega)
theorem dg_4 {n : Nat} {x m : St} (hn : n < 512) (h : Inv n x m) (kx kx' : Int64 → St → Option (Int64 × St)) {N : Nat} (eN : x.1 17 6 = nI N) (hN : (N : Int) = (x.1 17 6).toInt) : ∀ (d k f f' : Nat) (acc : Int64) (S : St), k + d = N → d < f → d < f' → xEq x S → ∃ v S', xEq x S' ∧ fX11_digest_L69 kx f acc (nI k) S = kx v S' ∧ fX12_digest_L70 kx' f' acc (nI k) m = kx' v m
  | 0, k, f + 1, f' + 1, acc, S, hk, _, _, hx => by
    have r := h.2.2.2.2.1.2.1
    have le : nI N ≤ nI k := (nv_l (by omega) (by omega)).mpr (by omega)
    refine ⟨acc, S, hx, ?_, ?_⟩
    · show fX11_digest_L69_st kx (fX11_digest_L69 kx f) acc (nI k) S = _
      unfold fX11_digest_L69_st
      rw [hx.2.2.1, eN, if_pos le]
    · show fX12_digest_L70_st kx' (fX12_digest_L70 kx' f') acc (nI k) m = _
      unfold fX12_digest_L70_st
      rw [h.2.2.2.2.1.1, eN, if_pos le]
  | d + 1, k, f + 1, f' + 1, acc, S, hk, hf, hf', hx => by
    have hS := Inv_fr hx mEq.rfl h
    obtain ⟨g1, g2, g3, g4, g5, g6, g7, g8, g9, g10, g11⟩ := id hS
    have r := g5.2.1
    have eN' : S.1 17 6 = nI N := by rw [hx.2.2.1, eN]
    have hN' : (N : Int) = (S.1 17 6).toInt := by rw [hx.2.2.1, hN]
    have nle : ¬ nI N ≤ nI k := fun q => by rw [nv_l (by omega) (by omega)] at q; omega
    have hk' : (k : Int) < (S.1 17 6).toInt := by omega
    have fu := fu_ge
    have hM := e_heardM hn hS hk'
    obtain ⟨v, w1, w2⟩ := dg_3 hn hS (fun (v2 : Int64) (S3 : St) => if ib (nI k) 20 then (jn (fun (v5 : Int32) (S6 : St) => lt ((31 * v2) + v5.toInt64) (fun (v8 : Int64) => fX11_digest_L69 kx f v8 (nI (k + 1)) S6)) (fun k7 => if (S3.1 (19 + nt (nI k)) 10) = 0 then (k7 (-3) S3) else (bnd (fX0_isHeard (nI k) S3) (fun v10 S11 => if v10 = 0 then (k7 0 S11) else (k7 1 S11))))) else none) (fun (v2 : Int64) (S3 : St) => bnd (fX12_heard (nI k) S3) (fun v4 S5 => lt ((31 * v2) + v4.toInt64) (fun (v6 : Int64) => fX12_digest_L70 kx' f' v6 (nI (k + 1)) S5))) (a := nI k) (isS_n g5 hk') 11 0 FU FU acc (by omega) (by omega) (by omega)
    have X : fX11_digest_L69 kx (f + 1) acc (nI k) S = fX11_digest_L83 (fun (v2 : Int64) (S3 : St) => if ib (nI k) 20 then (jn (fun (v5 : Int32) (S6 : St) => lt ((31 * v2) + v5.toInt64) (fun (v8 : Int64) => fX11_digest_L69 kx f v8 (nI (k + 1)) S6)) (fun k7 => if (S3.1 (19 + nt (nI k)) 10) = 0 then (k7 (-3) S3) else (bnd (fX0_isHeard (nI k) S3) (fun v10 S11 => if v10 = 0 then (k7 0 S11) else (k7 1 S11))))) else none) (nI k) FU acc (nI 0) S := by
      show fX11_digest_L69_st kx (fX11_digest_L69 kx f) acc (nI k) S = _
      unfold fX11_digest_L69_st
      rw [eN', if_neg nle, nv_p1]; rfl
    have Mm : fX12_digest_L70 kx' (f' + 1) acc (nI k) m = fX12_digest_L81 (fun (v2 : Int64) (S3 : St) => bnd (fX12_heard (nI k) S3) (fun v4 S5 => lt ((31 * v2) + v4.toInt64) (fun (v6 : Int64) => fX12_digest_L70 kx' f' v6 (nI (k + 1)) S5))) (nI k) FU acc (nI 0) m := by
      show fX12_digest_L70_st kx' (fX12_digest_L70 kx' f') acc (nI k) m = _
      unfold fX12_digest_L70_st
      rw [g5.1, eN', if_neg nle, nv_p1]; rfl
    rw [X, Mm, w1, w2, hM, bnd_some, lt_eq]
    simp only [jn_eq, lt_eq]
    rw [if_pos (nv_ib (by omega) (by omega)), nv_nt (by omega)]
    by_cases o : S.1 (19 + k) 10 = 0
    · rw [if_pos o, if_pos o]
      exact dg_4 hn h kx kx' eN hN d (k + 1) f f' _ S (by omega) (by omega) (by omega) hx
    · obtain ⟨S2, q1, q2⟩ := e_hrd hn hS hk'
      rw [if_neg o, if_neg o, q2, bnd_some, bi_ite]
      unfold bi
      by_cases z : hdZ S k (drZ S k (rmZ S k 0))
      · rw [if_pos z, if_pos z]
        exact dg_4 hn h kx kx' eN hN d (k + 1) f f' _ S2 (by omega) (by omega) (by omega) (hx.trans q1)
      · rw [if_neg z, if_neg z]
        exact dg_4 hn h kx kx' eN hN d (k + 1) f f' _ S2 (by omega) (by omega) (by omega) (hx.trans q1)
theorem pr_52 (n : Nat) (x m : St) (hn : n < 512) (h : Inv n x m) : ∃ (v : Int64) (x' m' : St), fX11_digest x = some (v, x') ∧ fX12_digest m = some (v, m') ∧ Inv (n + 1) x' m' := by
  obtain ⟨h1, h2, h3, h4, h5, h6, h7, h8, h9, h10, h11⟩ := id h
  have hu := Inv_up n x m h
  have fu := fu_ge
  obtain ⟨N, eN, hN, l20⟩ := sndN h5
  unfold fX11_digest fX12_digest
  obtain ⟨v1, a1, b1⟩ := dg_1 h (fun (v1 : Int64) (S2 : St) => fX11_digest_L39 (fun (v3 : Int64) (S4 : St) => fX11_digest_L69 (fun (v5 : Int64) (S6 : St) => bnd (fX9_choose 500 S6) (fun _ S7 => bnd (fX1_winners 0 S7) (fun v8 S9 => lt ((31 * v5) + v8.toInt64) (fun (v10 : Int64) => lt ((31 * v10) + ((S9.1 70 11).toInt64)) (fun (v11 : Int64) => some ((31 * v11) + ((S9.1 70 12).toInt64), S9)))))) FU v3 0 S4) FU v1 0 S2) (fun (v1 : Int64) (S2 : St) => fX12_digest_L43 (fun (v3 : Int64) (S4 : St) => fX12_digest_L70 (fun (v5 : Int64) (S6 : St) => bnd (fX12_won S6) (fun v7 S8 => lt ((31 * v5) + v7.toInt64) (fun (v9 : Int64) => bnd (fX12_findPlan 500 S8) (fun _ S10 => lt ((31 * v9) + ((S10.1 0 55).toInt64)) (fun (v11 : Int64) => some ((31 * v11) + ((S10.1 0 56).toInt64), S10)))))) FU v3 0 S4) FU v1 0 S2) 12 0 FU FU 17 (by omega) (by omega) (by omega)
  obtain ⟨v2, a2, b2⟩ := dg_2 h1 (fun (v3 : Int64) (S4 : St) => fX11_digest_L69 (fun (v5 : Int64) (S6 : St) => bnd (fX9_choose 500 S6) (fun _ S7 => bnd (fX1_winners 0 S7) (fun v8 S9 => lt ((31 * v5) + v8.toInt64) (fun (v10 : Int64) => lt ((31 * v10) + ((S9.1 70 11).toInt64)) (fun (v11 : Int64) => some ((31 * v11) + ((S9.1 70 12).toInt64), S9)))))) FU v3 0 S4) (fun (v3 : Int64) (S4 : St) => fX12_digest_L70 (fun (v5 : Int64) (S6 : St) => bnd (fX12_won S6) (fun v7 S8 => lt ((31 * v5) + v7.toInt64) (fun (v9 : Int64) => bnd (fX12_findPlan 500 S8) (fun _ S10 => lt ((31 * v9) + ((S10.1 0 55).toInt64)) (fun (v11 : Int64) => some ((31 * v11) + ((S10.1 0 56).toInt64), S10)))))) FU v3 0 S4) 5 0 FU FU v1 (by omega) (by omega) (by omega)
  obtain ⟨v3, S', hx, a3, b3⟩ := dg_4 hn h (fun (v5 : Int64) (S6 : St) => bnd (fX9_choose 500 S6) (fun _ S7 => bnd (fX1_winners 0 S7) (fun v8 S9 => lt ((31 * v5) + v8.toInt64) (fun (v10 : Int64) => lt ((31 * v10) + ((S9.1 70 11).toInt64)) (fun (v11 : Int64) => some ((31 * v11) + ((S9.1 70 12).toInt64), S9)))))) (fun (v5 : Int64) (S6 : St) => bnd (fX12_won S6) (fun v7 S8 => lt ((31 * v5) + v7.toInt64) (fun (v9 : Int64) => bnd (fX12_findPlan 500 S8) (fun _ S10 => lt ((31 * v9) + ((S10.1 0 55).toInt64)) (fun (v11 : Int64) => some ((31 * v11) + ((S10.1 0 56).toInt64), S10)))))) eN hN N 0 FU FU v2 x (by omega) (by omega) (by omega) xEq.rfl
  have hS := Inv_fr hx mEq.rfl h
  obtain ⟨S2, M2, r1, r2, tx, tm, e1, ⟨w, -, -, e2, e3⟩, -⟩ := e_cho hS 500
  have hS2 := Inv_fr tx.1 mEq.rfl hS
  obtain ⟨r, -, -, u1, u2⟩ := e_win hS2.2.2.2.2.2.2.1 0
  have u1' : fX1_winners 0 S2 = some (nI r, S2) := u1
  have u2' : fX12_bestBids 0 m = some (nI r, m) := u2
  refine ⟨31 * (31 * (31 * v3 + (nI r).toInt64) + (M2.1 0 55).toInt64) + (iI w).toInt64, S2, M2, ?_, ?_, Inv_fr (hx.trans tx.1) tm.1 hu⟩
  · refine (a1.trans (a2.trans a3)).trans ?_
    simp only [lt_eq]
    rw [r1, bnd_some, u1', bnd_some, e1, e2]
  · refine (b1.trans (b2.trans b3)).trans ?_
    simp only [lt_eq]
    unfold fX12_won
    rw [u2', bnd_some, bnd_some, r2, bnd_some, e3]
