/-! ===== parting: completing a division ===== -/
theorem allF_i (P : Nat → Bool) : ∀ d t, allF P t d = true ↔ ∀ j, t ≤ j → j < t + d → P j = true
  | 0, t => ⟨fun _ j h1 h2 => by omega, fun _ => rfl⟩
  | d + 1, t => by
    have ih := allF_i P d (t + 1)
    show (P t && allF P (t + 1) d) = true ↔ _
    constructor
    · intro h j h1 h2
      have h' := Eq.mp (Bool.and_eq_true (P t) (allF P (t + 1) d)) h
      by_cases e : j = t
      · rw [e]; exact h'.1
      · exact ih.mp h'.2 j (by omega) (by omega)
    · intro h
      rw [h t (by omega) (by omega), ih.mpr (fun j h1 h2 => h j (by omega) (by omega))]; rfl
theorem tg_mono {n : Nat} {x m : St} (h : Inv n x m) {s mask sub : Nat} (hs : sb sub mask) (ht : tgB x s mask = true) : tgB x s sub = true := by
  have r := nS20 h
  refine (allF_i _ _ _).mpr (fun j h1 h2 => ?_)
  have hp := (allF_i _ _ _).mp ht j h1 h2
  by_cases c : sB s j = true ∧ sub.testBit (rk (sB s) j) = true
  · rw [tgP_y c.1 c.2]
    rw [tgP_y c.1 (sb_i.mp hs _ c.2)] at hp
    have hd := of_decide_eq_true hp
    refine decide_eq_true ?_
    have hsj := s1_n h.2.2.2.2.1 (k := j) (by omega)
    have le : twZ x s sub j ≤ twZ x s mask j := by
      unfold twZ drZ
      have := cs_le (g := fun o => gotZ x o (x.1 (19 + j) 5) 0) (B := twB s sub j) (B' := twB s mask j) (nS x) (fun o ho => (gotZ_rg h (s1_n h.2.2.2.2.1 (k := o) (by omega)) 0 (goal_c hsj)).1) (fun o ho hb => by
        have b1 := Eq.mp (Bool.and_eq_true (sB s o) (decide (o ≠ j) && sub.testBit (rk (sB s) o))) hb
        have b2 := Eq.mp (Bool.and_eq_true (decide (o ≠ j)) (sub.testBit (rk (sB s) o))) b1.2
        show (sB s o && (decide (o ≠ j) && mask.testBit (rk (sB s) o))) = true
        rw [b1.1, b2.1, sb_i.mp hs _ b2.2]; rfl)
      exact Int.add_le_add_left this _
    have mu := hsj.2.2.2.2.2.1
    exact Int.le_trans (Int.mul_le_mul_of_nonneg_left le (by omega)) hd
  · exact tgP_n c
/-- groups by a choice of slots -/
abbrev gp (c : Nat → Nat) (k g : Nat) : Nat := bs (fun i => decide (c i = g)) k
abbrev gmk (mask : Nat) (c : Nat → Nat) (L g : Nat) : Nat := bs (fun i => mask.testBit i && decide (c i = g)) L
theorem partition {tg : Nat → Bool} {B : Nat → Nat} {L : Nat} (hL : L ≤ 8) (hB : DB tg B L) : ∀ (v mask : Nat), mask < 2 ^ L → B mask = v → v ≤ 8 → ∃ c : Nat → Nat, (∀ i, mask.testBit i = true → c i < v) ∧ ∀ g, g < v → tg (gmk mask c L g) = true
  | 0, mask, hm, hb, _ => by
    have p8 : 2 ^ L ≤ 2 ^ 8 := Nat.pow_le_pow_right (by omega) hL
    by_cases z : mask = 0
    · subst z
      exact ⟨fun _ => 0, fun i hi => by rw [Nat.zero_testBit] at hi; exact absurd hi (by decide), fun g hg => by omega⟩
    · exfalso
      rw [hB.2 mask z hm] at hb
      rcases mn_ex (c := tg) (fw := B) 257 mask 100 (Nat.and_self mask) with w | ⟨sub, -, -, -, w⟩ <;> omega
  | v + 1, mask, hm, hb, hv => by
    have p8 : 2 ^ L ≤ 2 ^ 8 := Nat.pow_le_pow_right (by omega) hL
    have z : mask ≠ 0 := fun e => by rw [e, hB.1] at hb; omega
    have hb' := hb
    rw [hB.2 mask z hm] at hb'
    rcases mn_ex (c := tg) (fw := B) 257 mask 100 (Nat.and_self mask) with w | ⟨sub, s1, s2, s3, w⟩
    · omega
    · have x1 := (sb_x 8 mask sub (by omega) s2).1
      obtain ⟨c, c1, c2⟩ := partition hL hB v (mask ^^^ sub) (by omega) (by omega) (by omega)
      have ev : ∀ j, sub.testBit j = true → (fun i => if sub.testBit i = true then v else c i) j = v := fun j hj => if_pos hj
      have en : ∀ j, sub.testBit j = false → (fun i => if sub.testBit i = true then v else c i) j = c j := fun j hj => if_neg (by rw [hj]; decide)
      refine ⟨fun i => if sub.testBit i = true then v else c i, fun i hi => ?_, fun g hg => ?_⟩
      · show (if sub.testBit i = true then v else c i) < v + 1
        by_cases b : sub.testBit i = true
        · rw [if_pos b]; omega
        · rw [if_neg b]
          have := c1 i (by rw [Nat.testBit_xor, hi, show sub.testBit i = false by cases q : sub.testBit i; rfl; exact absurd q b]; rfl)
          omega
      · by_cases e : g = v
        · have : gmk mask (fun i => if sub.testBit i = true then v else c i) L g = sub := by
            apply Nat.eq_of_testBit_eq
            intro j
            rw [bs_bit]
            cases b : sub.testBit j
            · cases q : mask.testBit j
              · rw [Bool.false_and, Bool.and_false]
              · have := c1 j (by rw [Nat.testBit_xor, q, b]; rfl)
                rw [decide_eq_false (show ¬ (fun i => if sub.testBit i = true then v else c i) j = g by rw [en j b]; omega), Bool.and_false, Bool.and_false]
            · have q := sb_i.mp s2 j b
              have lj : j < L := by
                rcases Nat.lt_or_ge j L with w | w
                · exact w
                · have := Nat.testBit_lt_two_pow (Nat.lt_of_lt_of_le hm (Nat.pow_le_pow_right (by omega) w) : mask < 2 ^ j)
                  rw [q] at this; exact absurd this (by decide)
              rw [q, decide_eq_true lj, decide_eq_true (show (fun i => if sub.testBit i = true then v else c i) j = g by rw [ev j b]; omega)]; rfl
          rw [this]; exact s3
        · have : gmk mask (fun i => if sub.testBit i = true then v else c i) L g = gmk (mask ^^^ sub) c L g := by
            apply Nat.eq_of_testBit_eq
            intro j
            rw [bs_bit, bs_bit, Nat.testBit_xor]
            congr 1
            cases b : sub.testBit j
            · rw [Bool.xor_false, decide_eq_decide.mpr (show (fun i => if sub.testBit i = true then v else c i) j = g ↔ c j = g by rw [en j b])]
            · have q := sb_i.mp s2 j b
              rw [q, decide_eq_false (show ¬ (fun i => if sub.testBit i = true then v else c i) j = g by rw [ev j b]; exact fun z => e z.symm)]
              rfl
          rw [this]; exact c2 g (by omega)
def up1 (gs : Nat → Nat) (t w : Nat) : Nat → Nat := fun g => if g = t then w else gs g
/-- what is left can be put -/
def CP (tg : Nat → Bool) (n : Nat) : Nat → (Nat → Nat) → Nat → Prop
  | 0, _, _ => True
  | d + 1, gs, k => ∃ t, t < n ∧ tg (gs t ||| 2 ^ k) = true ∧ CP tg n d (up1 gs t (gs t ||| 2 ^ k)) (k + 1)
abbrev QP (tg : Nat → Bool) (n d : Nat) (gs : Nat → Nat) (k t : Nat) : Prop := tg (gs t ||| 2 ^ k) = true ∧ CP tg n d (up1 gs t (gs t ||| 2 ^ k)) (k + 1)
/-- b is the least way -/
def GR (tg : Nat → Bool) (n : Nat) : Nat → (Nat → Nat) → Nat → (Nat → Nat) → Prop
  | 0, _, _, _ => True
  | d + 1, gs, k, b => b k < n ∧ QP tg n d gs k (b k) ∧ (∀ t, t < b k → ¬ QP tg n d gs k t) ∧ GR tg n d (up1 gs (b k) (gs (b k) ||| 2 ^ k)) (k + 1) b
theorem GR_u {tg : Nat → Bool} {n : Nat} : ∀ (d : Nat) (gs : Nat → Nat) (k : Nat) (b b' : Nat → Nat), GR tg n d gs k b → GR tg n d gs k b' → ∀ j, k ≤ j → j < k + d → b j = b' j
  | 0, _, _, _, _, _, _, j, h1, h2 => by omega
  | d + 1, gs, k, b, b', h, h', j, h1, h2 => by
    obtain ⟨a1, a2, a3, a4⟩ := h
    obtain ⟨c1, c2, c3, c4⟩ := h'
    have e : b k = b' k := by
      rcases Nat.lt_trichotomy (b k) (b' k) with z | z | z
      · exact absurd a2 (c3 _ z)
      · exact z
      · exact absurd c2 (a3 _ z)
    by_cases q : j = k
    · rw [q]; exact e
    · rw [← e] at c4
      exact GR_u d _ (k + 1) b b' a4 c4 j (by omega) (by omega)
def swp (t t' : Nat) (g : Nat) : Nat := if g = t then t' else if g = t' then t else g
theorem swp_2 (t t' g : Nat) : swp t t' (swp t t' g) = g := by
  unfold swp
  by_cases a : g = t
  · rw [if_pos a]
    by_cases b : t' = t
    · rw [if_pos b]; omega
    · rw [if_neg b, if_pos rfl]; exact a.symm
  · rw [if_neg a]
    by_cases b : g = t'
    · rw [if_pos b, if_pos rfl]; exact b.symm
    · rw [if_neg b, if_neg a, if_neg b]
theorem swp_lt {t t' n g : Nat} (h1 : t < n) (h2 : t' < n) (h : g < n) : swp t t' g < n := by
  unfold swp
  by_cases a : g = t
  · rw [if_pos a]; exact h2
  · rw [if_neg a]
    by_cases b : g = t'
    · rw [if_pos b]; exact h1
    · rw [if_neg b]; exact h
theorem CP_swp {tg : Nat → Bool} {n t t' : Nat} (h1 : t < n) (h2 : t' < n) : ∀ (d : Nat) (gs : Nat → Nat) (k : Nat), CP tg n d gs k → CP tg n d (fun g => gs (swp t t' g)) k
  | 0, _, _, _ => trivial
  | d + 1, gs, k, h => by
    obtain ⟨u, u1, u2, u3⟩ := h
    refine ⟨swp t t' u, swp_lt h1 h2 u1, ?_, ?_⟩
    · show tg (gs (swp t t' (swp t t' u)) ||| 2 ^ k) = true
      rw [swp_2]; exact u2
    · have := CP_swp h1 h2 d _ (k + 1) u3
      have e : (fun g => up1 gs u (gs u ||| 2 ^ k) (swp t t' g)) = up1 (fun g => gs (swp t t' g)) (swp t t' u) ((fun g => gs (swp t t' g)) (swp t t' u) ||| 2 ^ k) := by
        funext g
        show (if swp t t' g = u then gs u ||| 2 ^ k else gs (swp t t' g)) = if g = swp t t' u then gs (swp t t' (swp t t' u)) ||| 2 ^ k else gs (swp t t' g)
        rw [swp_2]
        by_cases c : swp t t' g = u
        · rw [if_pos c, if_pos (by rw [← c, swp_2])]
        · rw [if_neg c, if_neg (fun z => c (by rw [z, swp_2]))]
      rw [← e]; exact this
/-- empty slots are alike -/
theorem QP_swp {tg : Nat → Bool} {n d k t t' : Nat} {gs : Nat → Nat} (h1 : t < n) (h2 : t' < n) (e1 : gs t = 0) (e2 : gs t' = 0) (h : QP tg n d gs k t') : QP tg n d gs k t := by
  refine ⟨by rw [e1]; have := h.1; rw [e2] at this; exact this, ?_⟩
  have := CP_swp h1 h2 d _ (k + 1) h.2
  have e : (fun g => up1 gs t' (gs t' ||| 2 ^ k) (swp t t' g)) = up1 gs t (gs t ||| 2 ^ k) := by
    funext g
    show (if swp t t' g = t' then gs t' ||| 2 ^ k else gs (swp t t' g)) = if g = t then gs t ||| 2 ^ k else gs g
    unfold swp
    by_cases a : g = t
    · rw [if_pos a, if_pos rfl, if_pos a, e1, e2]
    · rw [if_neg a, if_neg a]
      by_cases b : g = t'
      · rw [if_pos b]
        by_cases c : t = t'
        · exact absurd (b.trans c.symm) a
        · rw [if_neg c, e1, b, e2]
      · rw [if_neg b, if_neg b]
  rw [← e]; exact this
theorem CP_of {tg : Nat → Bool} {n L : Nat} (hmono : ∀ a b, sb a b → tg b = true → tg a = true) (c : Nat → Nat) (hc : ∀ i, i < L → c i < n) (hg : ∀ g, g < n → tg (gp c L g) = true) : ∀ (d k : Nat), k + d = L → CP tg n d (gp c k) k
  | 0, _, _ => trivial
  | d + 1, k, hk => by
    have ih := CP_of hmono c hc hg d (k + 1) (by omega)
    have st : gp c k (c k) ||| 2 ^ k = gp c (k + 1) (c k) := by
      show _ = gp c k (c k) ||| (if decide (c k = c k) = true then 2 ^ k else 0)
      rw [if_pos (decide_eq_true rfl)]
    refine ⟨c k, hc k (by omega), ?_, ?_⟩
    · rw [st]
      refine hmono _ _ (sb_i.mpr (fun i hi => ?_)) (hg (c k) (hc k (by omega)))
      rw [bs_bit] at hi ⊢
      have hi' := Eq.mp (Bool.and_eq_true (decide (i < k + 1)) (decide (c i = c k))) hi
      rw [decide_eq_true (show i < L by have := of_decide_eq_true hi'.1; omega), hi'.2]; rfl
    · have e : up1 (gp c k) (c k) (gp c k (c k) ||| 2 ^ k) = gp c (k + 1) := by
        funext g
        show (if g = c k then gp c k (c k) ||| 2 ^ k else gp c k g) = gp c k g ||| (if decide (c k = g) = true then 2 ^ k else 0)
        by_cases q : g = c k
        · rw [if_pos q, q, if_pos (decide_eq_true rfl)]
        · rw [if_neg q, if_neg (by intro z; exact q (of_decide_eq_true z).symm), Nat.or_zero]
      rw [e]; exact ih
