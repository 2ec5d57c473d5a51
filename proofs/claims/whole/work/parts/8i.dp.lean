/-! ===== parts of a mask; the least number of parts ===== -/
abbrev sb (a b : Nat) : Prop := a &&& b = a
theorem sb_i {a b : Nat} : sb a b ↔ ∀ i, a.testBit i = true → b.testBit i = true := by
  constructor
  · intro h i hi
    have h' : a &&& b = a := h
    rw [← h', Nat.testBit_and] at hi
    cases z : b.testBit i
    · rw [z, Bool.and_false] at hi; exact absurd hi (by decide)
    · rfl
  · intro h
    show a &&& b = a
    apply Nat.eq_of_testBit_eq
    intro i
    rw [Nat.testBit_and]
    have := h i
    cases z : a.testBit i
    · rfl
    · rw [this z]; rfl
theorem sb_h {a b : Nat} (h : sb a b) : sb (a / 2) (b / 2) ∧ a % 2 ≤ b % 2 := by
  have h' : a &&& b = a := h
  refine ⟨by show a / 2 &&& b / 2 = a / 2; rw [← Nat.and_div_two, h'], ?_⟩
  have m := Nat.and_mod_two_pow (a := a) (b := b) (n := 1)
  rw [h', Nat.pow_one] at m
  rcases Nat.mod_two_eq_zero_or_one a with z | z <;> rcases Nat.mod_two_eq_zero_or_one b with w | w
  · omega
  · omega
  · rw [z, w] at m; exact absurd m (by decide)
  · omega
theorem sb_le {a b : Nat} (h : sb a b) : a ≤ b := by
  have h' : a &&& b = a := h
  rw [← h']; exact Nat.and_le_right
theorem sb_enum : ∀ (f mask one sub : Nat), mask < 2 ^ f → sb one mask → sb sub mask → sub < one → sub ≤ (one - 1) &&& mask
  | 0, mask, one, sub, hm, h1, _, hlt => by
    have := sb_le h1
    rw [Nat.pow_zero] at hm; omega
  | f + 1, mask, one, sub, hm, h1, h2, hlt => by
    have p2 : 2 ^ (f + 1) = 2 ^ f * 2 := Nat.pow_succ 2 f
    obtain ⟨a1, a2⟩ := sb_h h1
    obtain ⟨b1, b2⟩ := sb_h h2
    have d : ((one - 1) &&& mask) / 2 = (one - 1) / 2 &&& mask / 2 := Nat.and_div_two
    have m := Nat.and_mod_two_pow (a := one - 1) (b := mask) (n := 1)
    rw [Nat.pow_one] at m
    rcases Nat.mod_two_eq_zero_or_one one with c | c
    · have e1 : (one - 1) / 2 = one / 2 - 1 := by omega
      have e2 : (one - 1) % 2 = 1 := by omega
      have ih := sb_enum f (mask / 2) (one / 2) (sub / 2) (by omega) a1 b1 (by omega)
      rw [e1] at d
      rw [e2] at m
      have m' : ((one - 1) &&& mask) % 2 = mask % 2 := by
        rw [m]
        rcases Nat.mod_two_eq_zero_or_one mask with w | w <;> rw [w] <;> rfl
      omega
    · have e1 : (one - 1) / 2 = one / 2 := by omega
      have a1' : one / 2 &&& mask / 2 = one / 2 := a1
      rw [e1, a1'] at d
      omega
theorem sb_x : ∀ (f mask one : Nat), mask < 2 ^ f → sb one mask → (mask ^^^ one) + one = mask ∧ pcF f (mask ^^^ one) + pcF f one = pcF f mask
  | 0, mask, one, hm, h1 => by
    have := sb_le h1
    rw [Nat.pow_zero] at hm
    have e1 : mask = 0 := by omega
    have e2 : one = 0 := by omega
    subst e1; subst e2
    exact ⟨rfl, rfl⟩
  | f + 1, mask, one, hm, h1 => by
    have p2 : 2 ^ (f + 1) = 2 ^ f * 2 := Nat.pow_succ 2 f
    obtain ⟨a1, a2⟩ := sb_h h1
    obtain ⟨i1, i2⟩ := sb_x f (mask / 2) (one / 2) (by omega) a1
    have d : (mask ^^^ one) / 2 = mask / 2 ^^^ one / 2 := Nat.xor_div_two
    have m := Nat.xor_mod_two_pow (a := mask) (b := one) (n := 1)
    rw [Nat.pow_one] at m
    have m' : (mask ^^^ one) % 2 + one % 2 = mask % 2 := by
      rw [m]
      rcases Nat.mod_two_eq_zero_or_one mask with z | z <;> rcases Nat.mod_two_eq_zero_or_one one with w | w
      · rw [z, w]; rfl
      · omega
      · rw [z, w]; rfl
      · rw [z, w]; rfl
    refine ⟨by omega, ?_⟩
    show (mask ^^^ one) % 2 + pcF f ((mask ^^^ one) / 2) + (one % 2 + pcF f (one / 2)) = mask % 2 + pcF f (mask / 2)
    rw [d]; omega
theorem sb_xo {mask one : Nat} (h : sb one mask) : sb (mask ^^^ one) mask := sb_i.mpr (fun i hi => by
  rw [Nat.testBit_xor] at hi
  have := sb_i.mp h i
  cases z : mask.testBit i
  · rw [z] at hi this
    cases w : one.testBit i
    · rw [w] at hi; exact absurd hi (by decide)
    · exact absurd (this w) (by decide)
  · rfl)
theorem sb_tr {a b c : Nat} (h1 : sb a b) (h2 : sb b c) : sb a c := sb_i.mpr (fun i hi => sb_i.mp h2 i (sb_i.mp h1 i hi))
theorem sb_sw {mask sub one : Nat} (h1 : sb sub mask) (h2 : sb one (mask ^^^ sub)) : sb sub (mask ^^^ one) := sb_i.mpr (fun i hi => by
  have a := sb_i.mp h1 i hi
  have b := sb_i.mp h2 i
  rw [Nat.testBit_xor, a, hi] at b
  rw [Nat.testBit_xor, a]
  cases w : one.testBit i
  · rfl
  · exact absurd (b w) (by decide))
theorem xo_sw (a b c : Nat) : (a ^^^ b) ^^^ c = (a ^^^ c) ^^^ b := by rw [Nat.xor_assoc, Nat.xor_comm b c, ← Nat.xor_assoc]
/-- the least over the parts of a mask, from one on downwards -/
def mn (c : Nat → Bool) (fw : Nat → Nat) (mask : Nat) : Nat → Nat → Nat → Nat
  | 0, _, v => v
  | f + 1, one, v => if one = 0 then v else mn c fw mask f ((one - 1) &&& mask) (if c one = true then min v (1 + fw (mask ^^^ one)) else v)
theorem mn_v {c : Nat → Bool} {fw : Nat → Nat} {mask : Nat} : ∀ (f one v : Nat), mn c fw mask f one v ≤ v
  | 0, _, v => Nat.le_refl v
  | f + 1, one, v => by
    show (if one = 0 then v else mn c fw mask f ((one - 1) &&& mask) (if c one = true then min v (1 + fw (mask ^^^ one)) else v)) ≤ v
    by_cases z : one = 0
    · rw [if_pos z]; exact Nat.le_refl v
    · rw [if_neg z]
      refine Nat.le_trans (mn_v f _ _) ?_
      by_cases w : c one = true
      · rw [if_pos w]; exact Nat.min_le_left _ _
      · rw [if_neg w]; exact Nat.le_refl v
theorem mn_le {c : Nat → Bool} {fw : Nat → Nat} {mask : Nat} {k : Nat} (hm : mask < 2 ^ k) {sub : Nat} (hs : sb sub mask) (h0 : sub ≠ 0) (hc : c sub = true) : ∀ (f one v : Nat), one < f → sb one mask → sub ≤ one → mn c fw mask f one v ≤ 1 + fw (mask ^^^ sub)
  | 0, one, v, hf, _, _ => absurd hf (Nat.not_lt_zero _)
  | f + 1, one, v, hf, ho, hle => by
    show (if one = 0 then v else mn c fw mask f ((one - 1) &&& mask) (if c one = true then min v (1 + fw (mask ^^^ one)) else v)) ≤ _
    rw [if_neg (by omega)]
    by_cases e : one = sub
    · subst e
      rw [if_pos hc]
      exact Nat.le_trans (mn_v f _ _) (Nat.min_le_right _ _)
    · have l : (one - 1) &&& mask ≤ one - 1 := Nat.and_le_left
      exact mn_le hm hs h0 hc f _ _ (by omega) (by show ((one - 1) &&& mask) &&& mask = (one - 1) &&& mask; rw [Nat.and_assoc, Nat.and_self]) (sb_enum k mask one sub hm ho hs (by omega))
theorem mn_ex {c : Nat → Bool} {fw : Nat → Nat} {mask : Nat} : ∀ (f one v : Nat), sb one mask → mn c fw mask f one v = v ∨ ∃ sub, sub ≠ 0 ∧ sb sub mask ∧ c sub = true ∧ mn c fw mask f one v = 1 + fw (mask ^^^ sub)
  | 0, _, v, _ => Or.inl rfl
  | f + 1, one, v, ho => by
    show (if one = 0 then v else mn c fw mask f ((one - 1) &&& mask) (if c one = true then min v (1 + fw (mask ^^^ one)) else v)) = v ∨ ∃ sub, sub ≠ 0 ∧ sb sub mask ∧ c sub = true ∧ (if one = 0 then v else mn c fw mask f ((one - 1) &&& mask) (if c one = true then min v (1 + fw (mask ^^^ one)) else v)) = 1 + fw (mask ^^^ sub)
    by_cases z : one = 0
    · rw [if_pos z]; exact Or.inl rfl
    · rw [if_neg z]
      rcases mn_ex (c := c) (fw := fw) f ((one - 1) &&& mask) (if c one = true then min v (1 + fw (mask ^^^ one)) else v) (by show ((one - 1) &&& mask) &&& mask = (one - 1) &&& mask; rw [Nat.and_assoc, Nat.and_self]) with w | w
      · rw [w]
        by_cases q : c one = true
        · rw [if_pos q]
          rcases Nat.le_total v (1 + fw (mask ^^^ one)) with l | l
          · exact Or.inl (Nat.min_eq_left l)
          · exact Or.inr ⟨one, z, ho, q, Nat.min_eq_right l⟩
        · rw [if_neg q]; exact Or.inl rfl
      · exact Or.inr w
theorem mn_cg {c : Nat → Bool} {fw fw' : Nat → Nat} {mask k : Nat} (hm : mask < 2 ^ k) (he : ∀ j, j < mask → fw' j = fw j) : ∀ (f one v : Nat), sb one mask → mn c fw' mask f one v = mn c fw mask f one v
  | 0, _, _, _ => rfl
  | f + 1, one, v, ho => by
    show (if one = 0 then v else mn c fw' mask f ((one - 1) &&& mask) (if c one = true then min v (1 + fw' (mask ^^^ one)) else v)) = if one = 0 then v else mn c fw mask f ((one - 1) &&& mask) (if c one = true then min v (1 + fw (mask ^^^ one)) else v)
    by_cases z : one = 0
    · rw [if_pos z, if_pos z]
    · have x1 := (sb_x k mask one hm ho).1
      rw [if_neg z, if_neg z, he (mask ^^^ one) (by omega), mn_cg hm he f _ _ (by show ((one - 1) &&& mask) &&& mask = (one - 1) &&& mask; rw [Nat.and_assoc, Nat.and_self])]
abbrev lowb (mask : Nat) : Nat := mask &&& (256 - mask)
theorem low_0 : ∀ mask, mask < 256 → ∀ sub, sub < 256 → (mask = 0 ∨ ¬ sub &&& mask = sub ∨ ¬ sub &&& lowb mask = 0 ∨ ((mask ^^^ sub) &&& lowb mask ≠ 0 ∧ lowb (mask ^^^ sub) = lowb mask)) := by decide +kernel
theorem low_1 (mask : Nat) (hm : mask < 256) (h0 : mask ≠ 0) (sub : Nat) (hs : sub < 256) (h1 : sub &&& mask = sub) (h2 : sub &&& lowb mask = 0) : (mask ^^^ sub) &&& lowb mask ≠ 0 ∧ lowb (mask ^^^ sub) = lowb mask := by
  rcases low_0 mask hm sub hs with z | z | z | z
  · exact absurd z h0
  · exact absurd h1 z
  · exact absurd h2 z
  · exact z
theorem low_2 : ∀ mask, mask < 256 → nI mask &&& (-nI mask) = nI (lowb mask) := by decide +kernel
/-- the class's table and the reference's -/
def DA (tg : Nat → Bool) (A : Nat → Nat) (L : Nat) : Prop := A 0 = 0 ∧ ∀ mask, mask ≠ 0 → mask < 2 ^ L → A mask = mn (fun one => decide (one &&& lowb mask ≠ 0) && tg one) A mask 257 mask 99
def DB (tg : Nat → Bool) (B : Nat → Nat) (L : Nat) : Prop := B 0 = 0 ∧ ∀ mask, mask ≠ 0 → mask < 2 ^ L → B mask = mn tg B mask 257 mask 100
theorem dp {tg : Nat → Bool} {A B : Nat → Nat} {L : Nat} (hL : L ≤ 8) (hA : DA tg A L) (hB : DB tg B L) : ∀ (f mask : Nat), mask < f → mask < 2 ^ L → (A mask = B mask ∧ B mask ≤ pcn mask) ∨ (A mask = 99 ∧ B mask = 100)
  | 0, mask, hf, _ => absurd hf (Nat.not_lt_zero _)
  | f + 1, mask, hf, hm => by
    have p8 : 2 ^ L ≤ 2 ^ 8 := Nat.pow_le_pow_right (by omega) hL
    by_cases z : mask = 0
    · subst z; exact Or.inl ⟨by rw [hA.1, hB.1], by rw [hB.1]; omega⟩
    · have ih := fun k (hk : k < mask) => dp hL hA hB f k (by omega) (by omega)
      have self : sb mask mask := Nat.and_self mask
      have pc8 : ∀ k, k < 256 → pcn k ≤ 8 := by
        intro k hk
        have := rk_bit k 8 (by omega)
        rw [Nat.mod_eq_of_lt (show k < 2 ^ 8 by omega)] at this
        rw [← this]; exact rk_le _ 8
      -- what both tables say
      have aV : ∀ k, k ≠ 0 → k < 2 ^ L → A k ≤ 99 := fun k h0 hk => by rw [hA.2 k h0 hk]; exact mn_v _ _ _
      have bV : ∀ k, k ≠ 0 → k < 2 ^ L → B k ≤ 100 := fun k h0 hk => by rw [hB.2 k h0 hk]; exact mn_v _ _ _
      have aL : ∀ k, k ≠ 0 → k < 2 ^ L → ∀ one, sb one k → one &&& lowb k ≠ 0 → tg one = true → A k ≤ 1 + A (k ^^^ one) := fun k h0 hk one ho hl ht => by
        have n0 : one ≠ 0 := fun e => by rw [e, Nat.zero_and] at hl; exact hl rfl
        have := sb_le ho
        rw [hA.2 k h0 hk]
        exact mn_le (k := 8) (by omega) ho n0 (by show (decide (one &&& lowb k ≠ 0) && tg one) = true; rw [decide_eq_true hl, ht]; rfl) 257 k 99 (by omega) (Nat.and_self k) (by omega)
      have bL : ∀ k, k ≠ 0 → k < 2 ^ L → ∀ one, sb one k → one ≠ 0 → tg one = true → B k ≤ 1 + B (k ^^^ one) := fun k h0 hk one ho n0 ht => by
        have := sb_le ho
        rw [hB.2 k h0 hk]
        exact mn_le (k := 8) (by omega) ho n0 ht 257 k 100 (by omega) (Nat.and_self k) (by omega)
      have aE : ∀ k, k ≠ 0 → k < 2 ^ L → A k = 99 ∨ ∃ one, one ≠ 0 ∧ sb one k ∧ one &&& lowb k ≠ 0 ∧ tg one = true ∧ A k = 1 + A (k ^^^ one) := fun k h0 hk => by
        rw [hA.2 k h0 hk]
        rcases mn_ex (c := fun one => decide (one &&& lowb k ≠ 0) && tg one) (fw := A) 257 k 99 (Nat.and_self k) with w | ⟨one, w1, w2, w3, w4⟩
        · exact Or.inl w
        · have w3' := Eq.mp (Bool.and_eq_true (decide (one &&& lowb k ≠ 0)) (tg one)) w3
          exact Or.inr ⟨one, w1, w2, of_decide_eq_true w3'.1, w3'.2, w4⟩
      have bE : B mask = 100 ∨ ∃ one, one ≠ 0 ∧ sb one mask ∧ tg one = true ∧ B mask = 1 + B (mask ^^^ one) := by
        rw [hB.2 mask z hm]
        exact mn_ex (c := tg) (fw := B) 257 mask 100 self
      have rest : ∀ k one, k < 256 → sb one k → one ≠ 0 → k ^^^ one < k ∧ pcn (k ^^^ one) + 1 ≤ pcn k := fun k one hk ho n0 => by
        obtain ⟨x1, x2⟩ := sb_x 32 k one (by omega) ho
        have := pcn_pos n0 (by have := sb_le ho; omega)
        unfold pcn at this ⊢
        exact ⟨by omega, by omega⟩
      rcases bE with b1 | ⟨sub, s1, s2, s3, s4⟩
      · rcases aE mask z hm with a1 | ⟨one, o1, o2, o3, o4, o5⟩
        · exact Or.inr ⟨a1, b1⟩
        · exfalso
          obtain ⟨r1, r2⟩ := rest mask one (by omega) o2 o1
          have l := bL mask z hm one o2 o1 o4
          have la := aV mask z hm
          have p := pc8 mask (by omega)
          rcases ih _ r1 with ⟨i1, i2⟩ | ⟨i1, i2⟩ <;> omega
      · obtain ⟨r1, r2⟩ := rest mask sub (by omega) s2 s1
        have lb := bV mask z hm
        have p := pc8 mask (by omega)
        rcases ih _ r1 with ⟨i1, i2⟩ | ⟨i1, i2⟩
        · left
          have up : A mask ≤ B mask := by
            by_cases hl : sub &&& lowb mask = 0
            · obtain ⟨q1, q2⟩ := low_1 mask (by omega) z sub (by have := sb_le s2; omega) s2 hl
              have r0 : mask ^^^ sub ≠ 0 := fun e => by rw [e, Nat.zero_and] at q1; exact q1 rfl
              rcases aE (mask ^^^ sub) r0 (by omega) with a1 | ⟨one, o1, o2, o3, o4, o5⟩
              · omega
              · rw [q2] at o3
                obtain ⟨t1, t2⟩ := rest (mask ^^^ sub) one (by omega) o2 o1
                have om : sb one mask := sb_tr o2 (sb_xo s2)
                obtain ⟨u1, u2⟩ := rest mask one (by omega) om o1
                have sm := sb_sw s2 o2
                have m0 : mask ^^^ one ≠ 0 := fun e => by have := sb_le sm; omega
                have v1 := bL (mask ^^^ one) m0 (by omega) sub sm s1 s3
                rw [xo_sw] at v1
                have v2 := aL mask z hm one om o3 o4
                have p2 := pc8 (mask ^^^ sub) (by omega)
                rcases ih ((mask ^^^ sub) ^^^ one) (by omega) with ⟨j1, j2⟩ | ⟨j1, j2⟩
                · rcases ih (mask ^^^ one) u1 with ⟨k1, k2⟩ | ⟨k1, k2⟩ <;> omega
                · omega
            · have := aL mask z hm sub s2 hl s3
              omega
          have low : B mask ≤ A mask := by
            rcases aE mask z hm with a1 | ⟨one, o1, o2, o3, o4, o5⟩
            · omega
            · obtain ⟨t1, t2⟩ := rest mask one (by omega) o2 o1
              have := bL mask z hm one o2 o1 o4
              rcases ih _ t1 with ⟨j1, j2⟩ | ⟨j1, j2⟩ <;> omega
          exact ⟨by omega, by omega⟩
        · omega
