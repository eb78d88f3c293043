/-! fractions: gcd, powers, tried, tries -/
theorem lN0 : (0 : Int64) = lN 0 := by decide
theorem lN1 : (1 : Int64) = lN 1 := by decide
theorem l_eq {a b : Nat} (ha : a < 2 ^ 63) (hb : b < 2 ^ 63) : (lN a = lN b) = (a = b) := propext (pk_lEQ ha hb)
theorem l_lt {a b : Nat} (ha : a < 2 ^ 63) (hb : b < 2 ^ 63) : (lN a < lN b) = (a < b) := propext (pk_lLT ha hb)
theorem l_le {a b : Nat} (ha : a < 2 ^ 63) (hb : b < 2 ^ 63) : (lN a ≤ lN b) = (a ≤ b) := propext (pk_lLE ha hb)
theorem l_i {n : Nat} (h : n < 2147483648) : Int32.toInt64 (nI n) = lN n := nI_l h
theorem gcd_step (a b : Nat) : Nat.gcd a b = Nat.gcd b (a % b) := by
  rw [Nat.gcd_comm a b, Nat.gcd_rec b a, Nat.gcd_comm]
theorem rem_half {a b : Nat} (hb : 0 < b) (h : 0 < a % b) : 2 * (b % (a % b)) < b := by
  have h1 : a % b < b := Nat.mod_lt _ hb
  have h2 : b % (a % b) < a % b := Nat.mod_lt _ h
  have h3 := Nat.div_add_mod b (a % b)
  have h4 : 1 ≤ b / (a % b) := Nat.div_pos (Nat.le_of_lt h1) h
  have h5 : a % b * 1 ≤ a % b * (b / (a % b)) := Nat.mul_le_mul_left _ h4
  omega
theorem x_gcd1 (fuel a b i : Nat) (hi : i < 100) (hb0 : ¬ b = 0) (hb : b < 2 ^ 63) (ha : a < 2 ^ 63) : L5_commonDivisor_3 (fuel + 1) (lN a) (lN b) (nI i) = L5_commonDivisor_3 fuel (lN b) (lN (a % b)) (nI (i + 1)) := by
  rw [L5_commonDivisor_3]
  rw [if_pos (by rw [l100, c_lt (by omega) (by omega)]; exact hi), if_neg (by rw [lN0, l_eq hb (by omega)]; exact hb0), gd_t (by rw [lN0, l_eq hb (by omega)]; exact hb0), lt_e, lt_e, pk_lRem ha (by omega) hb, nI_1]
theorem x_gcd0 (fuel a i : Nat) (hi : i < 100) : L5_commonDivisor_3 (fuel + 1) (lN a) (lN 0) (nI i) = some (lN a) := by
  rw [L5_commonDivisor_3]
  rw [if_pos (by rw [l100, c_lt (by omega) (by omega)]; exact hi), if_pos (show lN 0 = 0 from rfl)]
theorem x_gcd : ∀ (k a b i fuel : Nat), b < 2 ^ k → k ≤ 49 → a < 2 ^ 63 → 2 * k + i < 100 → 2 * k < fuel → L5_commonDivisor_3 fuel (lN a) (lN b) (nI i) = some (lN (Nat.gcd a b)) := by
  intro k
  induction k with
  | zero =>
    intro a b i fuel h1 _ h2 h3 h4
    have hb : b = 0 := by omega
    subst hb
    obtain ⟨f, rfl⟩ : ∃ f, fuel = f + 1 := ⟨fuel - 1, by omega⟩
    rw [x_gcd0 f a i (by omega), Nat.gcd_zero_right]
  | succ k ih =>
    intro a b i fuel h1 hk h2 h3 h4
    have p1 : 2 ^ (k + 1) ≤ 2 ^ 49 := Nat.pow_le_pow_right (by omega) hk
    have p2 : (2 : Nat) ^ 49 = 562949953421312 := by decide
    have p3 : (2 : Nat) ^ 63 = 9223372036854775808 := by decide
    obtain ⟨f, rfl⟩ : ∃ f, fuel = f + 1 := ⟨fuel - 1, by omega⟩
    by_cases hb : b = 0
    · subst hb; rw [x_gcd0 f a i (by omega), Nat.gcd_zero_right]
    · rw [x_gcd1 f a b i (by omega) hb (by omega) h2, gcd_step a b]
      obtain ⟨f, rfl⟩ : ∃ g, f = g + 1 := ⟨f - 1, by omega⟩
      by_cases hr : a % b = 0
      · rw [hr, x_gcd0 f b (i + 1) (by omega), Nat.gcd_zero_right]
      · have hl : a % b < b := Nat.mod_lt _ (by omega)
        have hh := rem_half (a := a) (b := b) (by omega) (by omega)
        have p4 : 2 ^ (k + 1) = 2 * 2 ^ k := by rw [Nat.pow_succ]; omega
        rw [x_gcd1 f b (a % b) (i + 1) (by omega) hr (by omega) (by omega), gcd_step b (a % b)]
        exact ih (a % b) (b % (a % b)) (i + 1 + 1) f (by omega) (by omega) (by omega) (by omega) (by omega)
theorem m_gcd1 (fuel a b : Nat) (hb0 : ¬ b = 0) (hb : b < 2 ^ 63) (ha : a < 2 ^ 63) : L6_common_6 (fuel + 1) (lN a) (lN b) = L6_common_6 fuel (lN b) (lN (a % b)) := by
  rw [L6_common_6]
  rw [if_neg (by rw [lN0, l_eq hb (by omega)]; exact hb0), gd_t (by rw [lN0, l_eq hb (by omega)]; exact hb0), lt_e, pk_lRem ha (by omega) hb]
theorem m_gcd0 (fuel a : Nat) : L6_common_6 (fuel + 1) (lN a) (lN 0) = some (lN a) := by
  rw [L6_common_6]
  rw [if_pos (show lN 0 = 0 from rfl)]
theorem m_gcd : ∀ (k a b fuel : Nat), b < 2 ^ k → k ≤ 49 → a < 2 ^ 63 → 2 * k < fuel → L6_common_6 fuel (lN a) (lN b) = some (lN (Nat.gcd a b)) := by
  intro k
  induction k with
  | zero =>
    intro a b fuel h1 _ h2 h4
    have hb : b = 0 := by omega
    subst hb
    obtain ⟨f, rfl⟩ : ∃ f, fuel = f + 1 := ⟨fuel - 1, by omega⟩
    rw [m_gcd0 f a, Nat.gcd_zero_right]
  | succ k ih =>
    intro a b fuel h1 hk h2 h4
    have p1 : 2 ^ (k + 1) ≤ 2 ^ 49 := Nat.pow_le_pow_right (by omega) hk
    have p2 : (2 : Nat) ^ 49 = 562949953421312 := by decide
    have p3 : (2 : Nat) ^ 63 = 9223372036854775808 := by decide
    obtain ⟨f, rfl⟩ : ∃ f, fuel = f + 1 := ⟨fuel - 1, by omega⟩
    by_cases hb : b = 0
    · subst hb; rw [m_gcd0 f a, Nat.gcd_zero_right]
    · rw [m_gcd1 f a b hb (by omega) h2, gcd_step a b]
      obtain ⟨f, rfl⟩ : ∃ g, f = g + 1 := ⟨f - 1, by omega⟩
      by_cases hr : a % b = 0
      · rw [hr, m_gcd0 f b, Nat.gcd_zero_right]
      · have hl : a % b < b := Nat.mod_lt _ (by omega)
        have hh := rem_half (a := a) (b := b) (by omega) (by omega)
        have p4 : 2 ^ (k + 1) = 2 * 2 ^ k := by rw [Nat.pow_succ]; omega
        rw [m_gcd1 f b (a % b) hr (by omega) (by omega), gcd_step b (a % b)]
        exact ih (a % b) (b % (a % b)) f (by omega) (by omega) (by omega) (by omega)
/-- a fraction in least terms; 0 by 1 where the lower number is 0 -/
def frac (up down what : Nat) : Nat := if down = 0 then what else if what = 0 then up / Nat.gcd up down else down / Nat.gcd up down
theorem x_least {up down what : Nat} (hu : up < 2 ^ 49) (hd : down < 2 ^ 49) (h0 : down = 0 → up = 0) (hw : what ≤ 1) : f5_leastTerms (lN up) (lN (max 1 down)) (nI what) = some (lN (frac up down what)) := by
  have p2 : (2 : Nat) ^ 49 = 562949953421312 := by decide
  have p3 : (2 : Nat) ^ 63 = 9223372036854775808 := by decide
  unfold f5_leastTerms f5_commonDivisor
  rw [show (0 : Int32) = nI 0 from rfl, x_gcd 49 up (max 1 down) 0 FU (by omega) (by omega) (by omega) (by omega) (by unfold FU; omega)]
  have hg : 0 < Nat.gcd up (max 1 down) := Nat.gcd_pos_of_pos_right _ (by omega)
  have hgl : Nat.gcd up (max 1 down) ≤ max 1 down := Nat.le_of_dvd (by omega) (Nat.gcd_dvd_right _ _)
  simp only [bk1_e, bd_e]
  rw [if_neg (by rw [lN1, l_lt (by omega) (by omega)]; omega)]
  have hz : ¬ lN (Nat.gcd up (max 1 down)) = 0 := by rw [lN0, l_eq (by omega) (by omega)]; omega
  simp only [gd_t hz]
  rw [pk_lDiv (by omega) hg (by omega), pk_lDiv (by omega) hg (by omega)]
  unfold frac
  have cw : (nI what = nI 0) = (what = 0) := c_eq (by omega) (by omega)
  by_cases e : down = 0
  · rw [if_pos e]
    have e2 := h0 e
    subst e; subst e2
    have e3 : what = 0 ∨ what = 1 := by omega
    rcases e3 with rfl | rfl <;> rfl
  · rw [if_neg e, show max 1 down = down by omega]
    simp only [cw]
    by_cases e2 : what = 0
    · rw [if_pos e2, if_pos e2]
    · rw [if_neg e2, if_neg e2]
theorem m_least {up down what : Nat} (hu : up < 2 ^ 49) (hd : down < 2 ^ 49) (hw : what ≤ 1) : f6_inLeast (lN up) (lN down) (nI what) = some (lN (frac up down what)) := by
  have p2 : (2 : Nat) ^ 49 = 562949953421312 := by decide
  have p3 : (2 : Nat) ^ 63 = 9223372036854775808 := by decide
  unfold f6_inLeast f6_common frac
  by_cases e : down = 0
  · rw [if_pos (by rw [e]; rfl), if_pos e, l_i (by omega)]
  · rw [if_neg (by rw [lN0, l_eq (by omega) (by omega)]; exact e), if_neg e, m_gcd 49 up down FU hd (by omega) (by omega) (by unfold FU; omega)]
    have hg : 0 < Nat.gcd up down := Nat.gcd_pos_of_pos_right _ (by omega)
    have hgl : Nat.gcd up down ≤ down := Nat.le_of_dvd (by omega) (Nat.gcd_dvd_right _ _)
    have hz : ¬ lN (Nat.gcd up down) = 0 := by rw [lN0, l_eq (by omega) (by omega)]; omega
    have cw : (nI what = 0) = (what = 0) := c_eq (b := 0) (by omega) (by omega)
    simp only [bk1_e, bd_e, gd_t hz, cw]
    rw [pk_lDiv (by omega) hg (by omega), pk_lDiv (by omega) hg (by omega)]
    by_cases e2 : what = 0
    · rw [if_pos e2, if_pos e2]
    · rw [if_neg e2, if_neg e2]
/-! powers -/
theorem x_pw : ∀ (d c i n fuel : Nat), c < 1000 → i + d = n → n < 100 → d < fuel → L5_power_5 (nI c) (nI n) fuel (lN (c ^ i)) (nI i) = some (lN (c ^ n)) := by
  intro d
  induction d with
  | zero =>
    intro c i n fuel hc h1 h2 h3
    obtain ⟨f, rfl⟩ : ∃ f, fuel = f + 1 := ⟨fuel - 1, by omega⟩
    rw [L5_power_5, if_neg (by rw [c_lt (by omega) (by omega)]; omega), show i = n by omega]
  | succ d ih =>
    intro c i n fuel hc h1 h2 h3
    obtain ⟨f, rfl⟩ : ∃ f, fuel = f + 1 := ⟨fuel - 1, by omega⟩
    rw [L5_power_5, if_pos (by rw [c_lt (by omega) (by omega)]; omega), lt_e, lt_e, l_i (by omega), lN_mul, ← Nat.pow_succ, nI_1]
    exact ih c (i + 1) n f hc (by omega) h2 (by omega)
theorem x_pow {c n : Nat} (hc : c < 1000) (hn : n < 100) : f5_power (nI c) (nI n) = some (lN (c ^ n)) := by
  unfold f5_power
  have h := x_pw n c 0 n FU hc (by omega) hn (by unfold FU; omega)
  rw [Nat.pow_zero] at h
  rw [show (1 : Int64) = lN 1 from rfl, show (0 : Int32) = nI 0 from rfl, h]
  rfl
theorem pw_same : ∀ (fuel : Nat) (c n : Int32) (v : Int64) (i : Int32), L6_power_5 c n fuel v i = L5_power_5 c n fuel v i := by
  intro fuel
  induction fuel with
  | zero => intro c n v i; rfl
  | succ f ih =>
    intro c n v i
    rw [L6_power_5, L5_power_5]
    simp only [lt_e, ih]
theorem m_pow {c n : Nat} (hc : c < 1000) (hn : n < 100) : f6_power (nI c) (nI n) = some (lN (c ^ n)) := by
  have := x_pow hc hn
  unfold f5_power at this
  unfold f6_power
  rw [pw_same]
  exact this
section S
variable {σ τ : SS} {n np : Nat} {F Pw : Nat → Nat → Nat} {U od un : Nat → Nat}
theorem x_soundShare (hR : TR n np F Pw) (h : XT σ n np F Pw) {b k : Nat} (hb : b < n) (hk : k < 100) : f5_soundShare (nI b) (nI k) σ = some (lN (F 3 b * 10 ^ k)) := by
  have r1 := hR.2.2.1 b hb
  unfold f5_soundShare
  rw [show f4_feature (σ.2.2 0) (nI b) 3 σ = some (nI (F 3 b)) from x_feature hR h (w := 3) (by omega) hb, bd_e, show f5_power 10 (nI k) = some (lN (10 ^ k)) from x_pow (c := 10) (by omega) hk, bd_e, l_i (by omega), lN_mul]
theorem x_unsoundShare (hR : TR n np F Pw) (h : XT σ n np F Pw) {b q k : Nat} (hb : b < n) (hq : q ≤ 10) (hk : k < 100) : f5_unsoundShare (nI b) (nI q) (nI k) σ = some (lN ((10 - F 3 b) * (10 - q) ^ k)) := by
  have r1 := hR.2.2.1 b hb
  unfold f5_unsoundShare
  rw [show f4_feature (σ.2.2 0) (nI b) 3 σ = some (nI (F 3 b)) from x_feature hR h (w := 3) (by omega) hb, bd_e, l10, c_sub hq, x_pow (by omega) hk, bd_e, c_sub (by omega), l_i (by omega), lN_mul]
theorem m_soundBy (hR : TR n np F Pw) (h : MT τ n np F Pw) {b k : Nat} (hb : b < n) (hk : k < 100) : f6_soundBy (nI b) (nI k) τ = some (lN (F 3 b * 10 ^ k)) := by
  have r1 := hR.2.2.1 b hb
  unfold f6_soundBy
  rw [show f6_of (nI b) 3 τ = some (nI (F 3 b)) from m_of hR h (w := 3) (by omega) hb, bd_e, show f6_power 10 (nI k) = some (lN (10 ^ k)) from m_pow (c := 10) (by omega) hk, bd_e, l_i (by omega), lN_mul]
theorem m_allBy (hR : TR n np F Pw) (h : MT τ n np F Pw) {b q k : Nat} (hb : b < n) (hq : q ≤ 10) (hk : k < 100) : f6_allBy (nI b) (nI q) (nI k) τ = some (lN (F 3 b * 10 ^ k + (10 - F 3 b) * (10 - q) ^ k)) := by
  have r1 := hR.2.2.1 b hb
  unfold f6_allBy
  rw [m_soundBy hR h hb hk, bd_e, show f6_of (nI b) 3 τ = some (nI (F 3 b)) from m_of hR h (w := 3) (by omega) hb, bd_e, l10, c_sub hq, m_pow (by omega) hk, bd_e, c_sub (by omega), l_i (by omega), lN_mul, lN_add]
theorem pw_le {c k : Nat} (hc : c ≤ 10) (hk : k ≤ 9) : c ^ k ≤ 1000000000 := by
  have h1 : c ^ k ≤ 10 ^ k := Nat.pow_le_pow_left hc k
  have h2 : 10 ^ k ≤ 10 ^ 9 := Nat.pow_le_pow_right (by omega) hk
  have : (10 : Nat) ^ 9 = 1000000000 := by decide
  omega
theorem sh_le (hR : TR n np F Pw) {b q k : Nat} (hb : b < n) (hk : k ≤ 9) : F 3 b * 10 ^ k ≤ 10000000000 ∧ (10 - F 3 b) * (10 - q) ^ k ≤ 10000000000 := by
  have r1 := hR.2.2.1 b hb
  have h1 := pw_le (c := 10) (k := k) (by omega) hk
  have h2 := pw_le (c := 10 - q) (k := k) (by omega) hk
  have h3 : F 3 b * 10 ^ k ≤ 10 * 1000000000 := Nat.mul_le_mul (by omega) h1
  have h4 : (10 - F 3 b) * (10 - q) ^ k ≤ 10 * 1000000000 := Nat.mul_le_mul (by omega) h2
  omega
theorem max1 {a b : Nat} (ha : a < 2 ^ 60) (hb : b < 2 ^ 60) : (if (lN a + lN b) < 1 then 1 else (lN a + lN b)) = lN (max 1 (a + b)) := by
  rw [lN_add]
  by_cases e : a + b = 0
  · rw [e, if_pos (by decide)]; rfl
  · rw [if_neg (by rw [lN1, l_lt (by omega) (by omega)]; omega), show max 1 (a + b) = a + b by omega]
end S
theorem in_range {a : Int32} {hi : Nat} (hh : hi < 1000000) : decide ((0 : Int32) ≤ a ∧ a ≤ nI hi) = true ∧ (∃ k, k ≤ hi ∧ a = nI k) ∨ decide ((0 : Int32) ≤ a ∧ a ≤ nI hi) = false ∧ (a < 0 ∨ ∃ k, hi < k ∧ k < 2147483648 ∧ a = nI k) := by
  rcases i_cases a with g | ⟨k, hk, rfl⟩
  · exact Or.inr ⟨decide_eq_false (fun q => Int32.not_lt.mpr q.1 g), Or.inl g⟩
  · by_cases e : k ≤ hi
    · exact Or.inl ⟨decide_eq_true ⟨by rw [l0, c_le (by omega) (by omega)]; omega, by rw [c_le (by omega) (by omega)]; exact e⟩, k, e, rfl⟩
    · exact Or.inr ⟨decide_eq_false (fun q => by have := q.2; rw [c_le (by omega) (by omega)] at this; exact e this), Or.inr ⟨k, by omega, hk, rfl⟩⟩
/-- a test 'a < 0, or a ≤ hi' of the class -/
theorem x_rng {α : Type} {a : Int32} {hi : Nat} (hh : hi < 1000000) (x y : α) : (if a < 0 then x else if a ≤ nI hi then y else x) = bif decide ((0 : Int32) ≤ a ∧ a ≤ nI hi) then y else x := by
  by_cases g1 : a < 0
  · rw [if_pos g1, decide_eq_false (fun q => Int32.not_lt.mpr q.1 g1)]; rfl
  · rw [if_neg g1]
    by_cases g2 : a ≤ nI hi
    · rw [if_pos g2, decide_eq_true ⟨Int32.not_lt.mp g1, g2⟩]; rfl
    · rw [if_neg g2, decide_eq_false (fun q => g2 q.2)]; rfl
section OPS
variable {σ τ : SS}
theorem r_tried (h : RR σ τ) (a b c d : Int32) : BJ (pI (f5_tried a b c d σ) σ) (pI (f6_tried a b c d τ) τ) := by
  have h' := h
  obtain ⟨⟨n, np, F, Pw, U, od, un, ci, kp, h1, h2⟩, -⟩ := h
  obtain ⟨hR, hx, hm, hU, hux, hum, hO, hxo⟩ := h1
  have r0 := hR.1
  have p2 : (2 : Nat) ^ 49 = 562949953421312 := by decide
  have key : ∃ r, f5_tried a b c d σ = some r ∧ f6_tried a b c d τ = some r := by
    unfold f5_tried f6_tried
    rw [x_isBranch' hR hx, m_isBranch hR hm]
    rcases ok_cases a (n := n) (by omega) with e | ⟨k, hk, rfl, e⟩
    · rw [e]; exact ⟨-1, rfl, rfl⟩
    · rw [e]
      simp only [bd_e, ib0, cond_true, f6_in_b, show (10 : Int32) = nI 10 from rfl, show (9 : Int32) = nI 9 from rfl, show (d ≤ (1 : Int32)) = (d ≤ nI 1) from rfl]
      rw [x_rng (by omega)]
      rcases in_range (a := b) (hi := 10) (by omega) with ⟨e1, q, hq, rfl⟩ | ⟨e1, -⟩
      · rw [e1]
        simp only [cond_true]
        rw [x_rng (by omega)]
        rcases in_range (a := c) (hi := 9) (by omega) with ⟨e2, m, hm9, rfl⟩ | ⟨e2, -⟩
        · rw [e2]
          simp only [cond_true]
          rw [x_rng (by omega)]
          rcases in_range (a := d) (hi := 1) (by omega) with ⟨e3, w, hw, rfl⟩ | ⟨e3, -⟩
          · have e3' : decide ((0 : Int32) ≤ nI w ∧ nI w ≤ nI 1) = true := e3
            rw [e3']
            simp only [cond_true]
            have hs := sh_le hR (q := q) hk hm9
            rw [x_soundShare hR hx hk (by omega), m_soundBy hR hm hk (by omega)]
            simp only [bd_e]
            rw [x_unsoundShare hR hx hk hq (by omega), m_allBy hR hm hk hq (by omega)]
            simp only [bd_e, lt_e]
            rw [max1 (by omega) (by omega), x_least (by omega) (by omega) (by omega) hw, m_least (by omega) (by omega) hw]
            exact ⟨_, rfl, rfl⟩
          · have e3' : decide ((0 : Int32) ≤ d ∧ d ≤ nI 1) = false := e3
            rw [e3']; exact ⟨-1, rfl, rfl⟩
        · rw [e2]; exact ⟨-1, rfl, rfl⟩
      · rw [e1]; exact ⟨-1, rfl, rfl⟩
  obtain ⟨r, k1, k2⟩ := key
  exact ⟨r, σ, τ, by rw [k1]; rfl, by rw [k2]; rfl, h'⟩
end OPS
