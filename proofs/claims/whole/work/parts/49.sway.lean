/-! tries, sway, calm -/
section S
variable {σ τ : SS} {n np : Nat} {F Pw : Nat → Nat → Nat} {U od un : Nat → Nat}
theorem x_triesL (hR : TR n np F Pw) (hx : XT σ n np F Pw) (hm : MT τ n np F Pw) {b q w : Nat} (hb : b < n) (hq : q ≤ 10) (hw : w ≤ 100) : ∀ (d i f1 f2 : Nat), i + d = 10 → d < f1 → d < f2 → ∃ r : Unit ⊕ Int32, L5_tries_33 (nI b) (nI q) (nI w) σ f1 (nI i) = some r ∧ L6_tries_33 (nI b) (nI q) (nI w) τ f2 (nI i) = some r := by
  intro d
  induction d with
  | zero =>
    intro i f1 f2 h1 h2 h3
    obtain ⟨f1, rfl⟩ : ∃ f, f1 = f + 1 := ⟨f1 - 1, by omega⟩
    obtain ⟨f2, rfl⟩ : ∃ f, f2 = f + 1 := ⟨f2 - 1, by omega⟩
    refine ⟨.inl (), ?_, ?_⟩
    · rw [L5_tries_33, if_neg (by rw [l9, c_le (by omega) (by omega)]; omega)]
    · rw [L6_tries_33, if_neg (by rw [l10, c_lt (by omega) (by omega)]; omega)]
  | succ d ih =>
    intro i f1 f2 h1 h2 h3
    obtain ⟨f1, rfl⟩ : ∃ f, f1 = f + 1 := ⟨f1 - 1, by omega⟩
    obtain ⟨f2, rfl⟩ : ∃ f, f2 = f + 1 := ⟨f2 - 1, by omega⟩
    obtain ⟨r, k1, k2⟩ := ih (i + 1) f1 f2 (by omega) (by omega) (by omega)
    have hs := sh_le hR (b := b) (q := q) (k := i) hb (by omega)
    have r1 := hR.2.2.1 b hb
    rw [L5_tries_33, if_pos (by rw [l9, c_le (by omega) (by omega)]; omega), L6_tries_33, if_pos (by rw [l10, c_lt (by omega) (by omega)]; omega), x_soundShare hR hx hb (by omega), m_allBy hR hm hb hq (by omega), m_soundBy hR hm hb (by omega)]
    simp only [bd_e]
    rw [x_unsoundShare hR hx hb hq (by omega)]
    simp only [bd_e, lt_e]
    rw [max1 (by omega) (by omega), l_i (by omega), show (100 : Int64) = lN 100 from rfl, nI_1]
    generalize F 3 b * 10 ^ i = A at hs ⊢
    generalize (10 - F 3 b) * (10 - q) ^ i = B at hs ⊢
    have hAB : w * (A + B) ≤ 100 * 20000000000 := Nat.mul_le_mul hw (by omega)
    have hAB2 : w * max 1 (A + B) ≤ 100 * 20000000000 := Nat.mul_le_mul hw (by omega)
    simp only [lN_mul]
    by_cases e : A + B = 0
    · rw [if_pos (show lN (A + B) = 0 by rw [e]; rfl)]
      have eA : A = 0 := by omega
      by_cases e2 : w = 0
      · rw [if_pos (show nI w = 0 by rw [e2]; rfl), if_neg (by rw [l_lt (by omega) (by omega), e2, eA]; omega)]
        exact ⟨_, rfl, rfl⟩
      · have e3 : max 1 (A + B) = 1 := by omega
        rw [if_neg (show ¬ nI w = 0 by rw [l0, c_eq (by omega) (by omega)]; exact e2), if_pos (by rw [l_lt (by omega) (by omega), e3, eA]; omega)]
        exact ⟨r, k1, k2⟩
    · have e3 : max 1 (A + B) = A + B := by omega
      rw [if_neg (show ¬ lN (A + B) = 0 by rw [lN0, l_eq (by omega) (by omega)]; exact e), e3, Nat.mul_comm A 100]
      by_cases e4 : lN (100 * A) < lN (w * (A + B))
      · rw [if_pos e4, if_pos e4]
        exact ⟨r, k1, k2⟩
      · rw [if_neg e4, if_neg e4]
        exact ⟨_, rfl, rfl⟩
theorem abs_same (x : Int32) : (if 0 ≤ x then x else 0 - x) = (if x < 0 then -x else x) := by
  by_cases h : x < 0
  · rw [if_neg (Int32.not_le.mpr h), if_pos h]
    apply Int32.toBitVec_inj.mp
    simp
  · rw [if_pos (Int32.not_lt.mp h), if_neg h]
theorem max_same (x y : Int32) : (if x < y then y else x) = (if y ≤ x then x else y) := by
  by_cases h : x < y
  · rw [if_pos h, if_neg (Int32.not_le.mpr h)]
  · rw [if_neg h, if_pos (Int32.not_lt.mp h)]
theorem swing_same (hR : TR n np F Pw) (hm : MT τ n np F Pw) {b : Nat} (hb : b < n) (push p : Int32) : ∀ (fuel : Nat) (v6 v7 v8 v9 : Int32), L6_swayOn_24 (nI b) push τ fuel v6 v7 v8 v9 = L5_swing_39 p push (nI (F 2 b)) σ fuel v6 v7 v8 v9 := by
  intro fuel
  induction fuel with
  | zero => intro v6 v7 v8 v9; rfl
  | succ f ih =>
    intro v6 v7 v8 v9
    rw [L6_swayOn_24, L5_swing_39, show f6_of (nI b) 2 τ = some (nI (F 2 b)) from m_of hR hm (w := 2) (by omega) hb]
    simp only [bd_e, lt_e, abs_same, max_same, ih]
    by_cases g : v9 < 24
    · rw [if_pos g, if_pos g]
      generalize v6 + (v7 + (push - v6 * nI (F 2 b) / 10 - v7 / 4)) = x
      by_cases g1 : x < 0
      · simp only [if_pos g1]
        by_cases g2 : -x ≤ v8
        · simp only [if_pos g2]
        · simp only [if_neg g2]
      · simp only [if_neg g1]
        by_cases g2 : x ≤ v8
        · simp only [if_pos g2]
        · simp only [if_neg g2]
    · rw [if_neg g, if_neg g]
theorem swing_ends (p push th : Int32) : ∀ (d i fuel : Nat) (v6 v7 v8 : Int32), i + d = 24 → d < fuel → ∃ r, L5_swing_39 p push th σ fuel v6 v7 v8 (nI i) = some r := by
  intro d
  induction d with
  | zero =>
    intro i fuel v6 v7 v8 h1 h2
    obtain ⟨f, rfl⟩ : ∃ f, fuel = f + 1 := ⟨fuel - 1, by omega⟩
    exact ⟨v8, by rw [L5_swing_39, if_neg (by rw [l24, c_lt (by omega) (by omega)]; omega)]⟩
  | succ d ih =>
    intro i fuel v6 v7 v8 h1 h2
    obtain ⟨f, rfl⟩ : ∃ f, fuel = f + 1 := ⟨fuel - 1, by omega⟩
    rw [L5_swing_39, if_pos (by rw [l24, c_lt (by omega) (by omega)]; omega)]
    simp only [lt_e, nI_1]
    exact ih (i + 1) f _ _ _ (by omega) (by omega)
/-- the sway, both -/
theorem sway_both (hR : TR n np F Pw) (hx : XT σ n np F Pw) (hm : MT τ n np F Pw) {p b : Nat} (hp : p < np) (hb : b < n) (hl : τ.1 0 15 = nI (Pw 1 p)) (w : Int32) : ∃ r, f5_swing (nI p) (nI b) w σ = some r ∧ f6_swayOn (nI b) w τ = some r := by
  obtain ⟨r, hr⟩ := swing_ends (σ := σ) (nI p) (w * nI (F 0 b) / 10) (nI (F 2 b)) 24 0 FU 0 0 0 (by omega) (by unfold FU; omega)
  have hr' : L5_swing_39 (nI p) (w * nI (F 0 b) / 10) (nI (F 2 b)) σ FU 0 0 0 0 = some r := hr
  refine ⟨r * nI (Pw 1 p) / 50, ?_, ?_⟩
  · unfold f5_swing
    rw [show f4_feature (σ.2.2 0) (nI b) 0 σ = some (nI (F 0 b)) from x_feature hR hx (w := 0) (by omega) hb, show f4_feature (σ.2.2 0) (nI b) 2 σ = some (nI (F 2 b)) from x_feature hR hx (w := 2) (by omega) hb]
    simp only [bd_e, lt_e]
    rw [hr', show f4_power (σ.2.2 0) (nI p) 1 σ = some (nI (Pw 1 p)) from x_power hR hx (w := 1) (by omega) hp]
    rfl
  · unfold f6_swayOn
    rw [show f6_of (nI b) 0 τ = some (nI (F 0 b)) from m_of hR hm (w := 0) (by omega) hb]
    simp only [bd_e, lt_e]
    rw [swing_same hR hm hb _ (nI p), hr', hl]
    rfl
theorem calm_both (hR : TR n np F Pw) (hx : XT σ n np F Pw) (hm : MT τ n np F Pw) {p b : Nat} (hp : p < np) (hb : b < n) (hl : τ.1 0 15 = nI (Pw 1 p)) (l : Int32) : ∀ (d i f1 f2 : Nat), i + d = 20 → d < f1 → d < f2 → ∃ r : Int32, bs1 (L5_calm_32 (nI p) (nI b) l σ f1 (nI (i + 1))) (fun _u => some 20) (fun r => some r) = some r ∧ L6_calm_37 (nI b) l τ f2 (nI i) = some r := by
  intro d
  induction d with
  | zero =>
    intro i f1 f2 h1 h2 h3
    obtain ⟨f1, rfl⟩ : ∃ f, f1 = f + 1 := ⟨f1 - 1, by omega⟩
    obtain ⟨f2, rfl⟩ : ∃ f, f2 = f + 1 := ⟨f2 - 1, by omega⟩
    refine ⟨20, ?_, ?_⟩
    · rw [L5_calm_32, if_neg (by rw [l20, c_le (by omega) (by omega)]; omega)]
      rfl
    · rw [L6_calm_37, if_neg (by rw [l20, c_lt (by omega) (by omega)]; omega), show i = 20 by omega]
      rfl
  | succ d ih =>
    intro i f1 f2 h1 h2 h3
    obtain ⟨f1, rfl⟩ : ∃ f, f1 = f + 1 := ⟨f1 - 1, by omega⟩
    obtain ⟨f2, rfl⟩ : ∃ f, f2 = f + 1 := ⟨f2 - 1, by omega⟩
    obtain ⟨r, k1, k2⟩ := ih (i + 1) f1 f2 (by omega) (by omega) (by omega)
    obtain ⟨v, e1, e2⟩ := sway_both hR hx hm hp hb hl (nI (i + 1))
    rw [L5_calm_32, if_pos (by rw [l20, c_le (by omega) (by omega)]; omega), L6_calm_37, if_pos (by rw [l20, c_lt (by omega) (by omega)]; omega), nI_1 i, e1, e2]
    simp only [bd_e, lt_e, nI_1]
    by_cases g : v ≤ l
    · rw [if_pos g, if_pos g]
      exact ⟨r, k1, k2⟩
    · rw [if_neg g, if_neg g]
      refine ⟨nI i, ?_, rfl⟩
      rw [nI_pred]
      rfl
end S
section OPS
variable {σ τ : SS}
theorem r_tries (h : RR σ τ) (a b c : Int32) : BI (pI (f5_tries a b c σ) σ) (pI (f6_tries a b c τ) τ) := by
  have h' := h
  obtain ⟨⟨n, np, F, Pw, U, od, un, ci, kp, h1, h2⟩, -⟩ := h
  obtain ⟨hR, hx, hm, hU, hux, hum, hO, hxo⟩ := h1
  have r0 := hR.1
  have key : ∃ r, f5_tries a b c σ = some r ∧ f6_tries a b c τ = some r := by
    unfold f5_tries f6_tries
    rw [x_isBranch' hR hx, m_isBranch hR hm]
    rcases ok_cases a (n := n) (by omega) with e | ⟨k, hk, rfl, e⟩
    · rw [e]; exact ⟨-1, rfl, rfl⟩
    · rw [e]
      simp only [bd_e, ib0, cond_true, f6_in_b, show (10 : Int32) = nI 10 from rfl, show (100 : Int32) = nI 100 from rfl]
      rw [x_rng (by omega)]
      rcases in_range (a := b) (hi := 10) (by omega) with ⟨e1, q, hq, rfl⟩ | ⟨e1, -⟩
      · rw [e1]
        simp only [cond_true]
        rw [x_rng (by omega)]
        rcases in_range (a := c) (hi := 100) (by omega) with ⟨e2, w, hw, rfl⟩ | ⟨e2, -⟩
        · rw [e2]
          simp only [cond_true]
          obtain ⟨r, k1, k2⟩ := x_triesL hR hx hm hk hq hw 10 0 FU FU (by omega) (by unfold FU; omega) (by unfold FU; omega)
          rw [show (0 : Int32) = nI 0 from rfl, k1, k2]
          cases r with
          | inl u => exact ⟨-9, rfl, rfl⟩
          | inr v => exact ⟨v, rfl, rfl⟩
        · rw [e2]; exact ⟨-1, rfl, rfl⟩
      · rw [e1]; exact ⟨-1, rfl, rfl⟩
  obtain ⟨r, k1, k2⟩ := key
  exact ⟨r, σ, τ, by rw [k1]; rfl, by rw [k2]; rfl, h'⟩
theorem r_sway (h : RR σ τ) (a b c : Int32) : BI (pI (f5_sway a b c σ) σ) (f6_sway a b c τ) := by
  have h' := h
  obtain ⟨⟨n, np, F, Pw, U, od, un, ci, kp, h1, h2⟩, -, -, -, hf⟩ := h
  have hR := h1.1
  have r0 := hR.1
  have r1 := hR.2.1
  have bad : ∀ v : Int32, BI (pI (some v) σ) (some (v, τ)) := fun v => ⟨v, σ, τ, rfl, rfl, h'⟩
  unfold f5_sway f6_sway
  rw [x_isBody' hR h1.2.1, m_isBody hR h1.2.2.1]
  rcases ok_cases a (n := np) (by omega) with e | ⟨p, hp, rfl, e⟩
  · rw [e]; exact bad _
  · rw [e]
    simp only [bd_e, ib0, cond_true, lt_e]
    rw [x_isBranch' hR h1.2.1, m_isBranch hR h1.2.2.1]
    simp only [bd_e, ib0]
    rcases ok_cases b (n := n) (by omega) with e1 | ⟨k, hk, rfl, e1⟩
    · rw [e1]; exact bad _
    · rw [e1]
      simp only [cond_true, f6_in_b, bd_e, ib0, show (20 : Int32) = nI 20 from rfl]
      rw [x_rng (by omega)]
      rcases in_range (a := c) (hi := 20) (by omega) with ⟨e2, w, hw, rfl⟩ | ⟨e2, -⟩
      · rw [e2]
        simp only [cond_true]
        obtain ⟨τ', t1, t2, t3⟩ := m_look hR h1.2.2.1 h1.2.2.2.2.2.1 hp
        have hR1 := h1.scr (XS.rf hf) t2
        obtain ⟨r, k1, k2⟩ := sway_both hR h1.2.1 hR1.2.2.1 hp hk t3.2.1 (nI w)
        rw [t1, k1]
        simp only [bd_e]
        rw [k2]
        exact ⟨r, σ, τ', rfl, rfl, h'.scr (XS.rf hf) t2⟩
      · rw [e2]; exact bad _
theorem r_calm (h : RR σ τ) (a b c : Int32) : BI (pI (f5_calm a b c σ) σ) (f6_calm a b c τ) := by
  have h' := h
  obtain ⟨⟨n, np, F, Pw, U, od, un, ci, kp, h1, h2⟩, -, -, -, hf⟩ := h
  have hR := h1.1
  have r0 := hR.1
  have r1 := hR.2.1
  have bad : ∀ v : Int32, BI (pI (some v) σ) (some (v, τ)) := fun v => ⟨v, σ, τ, rfl, rfl, h'⟩
  unfold f5_calm f6_calm
  rw [x_isBody' hR h1.2.1, m_isBody hR h1.2.2.1]
  rcases ok_cases a (n := np) (by omega) with e | ⟨p, hp, rfl, e⟩
  · rw [e]; exact bad _
  · rw [e]
    simp only [bd_e, ib0, cond_true]
    rw [x_isBranch' hR h1.2.1, m_isBranch hR h1.2.2.1]
    simp only [bd_e, ib0]
    rcases ok_cases b (n := n) (by omega) with e1 | ⟨k, hk, rfl, e1⟩
    · rw [e1]; exact bad _
    · rw [e1]
      simp only [cond_true, f6_in_b, bd_e, ib0, show (9999 : Int32) = nI 9999 from rfl]
      rw [x_rng (by omega)]
      rcases in_range (a := c) (hi := 9999) (by omega) with ⟨e2, w, hw, rfl⟩ | ⟨e2, -⟩
      · rw [e2]
        simp only [cond_true]
        obtain ⟨τ', t1, t2, t3⟩ := m_look hR h1.2.2.1 h1.2.2.2.2.2.1 hp
        have hR1 := h1.scr (XS.rf hf) t2
        obtain ⟨r, k1, k2⟩ := calm_both hR h1.2.1 hR1.2.2.1 hp hk t3.2.1 (nI w) 20 0 FU FU (by omega) (by unfold FU; omega) (by unfold FU; omega)
        rw [show (1 : Int32) = nI (0 + 1) from rfl, k1, t1]
        simp only [bd_e]
        rw [show (0 : Int32) = nI 0 from rfl, k2]
        exact ⟨r, σ, τ', rfl, rfl, h'.scr (XS.rf hf) t2⟩
      · rw [e2]; exact bad _
end OPS
