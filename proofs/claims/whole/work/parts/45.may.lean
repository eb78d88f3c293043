/-! mayStep, look, on both sides -/
def sd (x y : Nat) : Nat := if x ≤ y then min (y - x) (8 - (y - x)) else min (x - y) (8 - (x - y))
theorem sd_x : ∀ x, x < 8 → ∀ y, y < 8 → (if (8 - (if 0 ≤ (nI x - nI y) then (nI x - nI y) else 0 - (nI x - nI y))) < (if 0 ≤ (nI x - nI y) then (nI x - nI y) else 0 - (nI x - nI y)) then (8 - (if 0 ≤ (nI x - nI y) then (nI x - nI y) else 0 - (nI x - nI y))) else (if 0 ≤ (nI x - nI y) then (nI x - nI y) else 0 - (nI x - nI y))) = nI (sd x y) := by decide +kernel
theorem sd_m : ∀ x, x < 8 → ∀ y, y < 8 → (if (if nI x - nI y < 0 then -(nI x - nI y) else nI x - nI y) ≤ 4 then (if nI x - nI y < 0 then -(nI x - nI y) else nI x - nI y) else 8 - (if nI x - nI y < 0 then -(nI x - nI y) else nI x - nI y)) = nI (sd x y) := by decide +kernel
theorem sd_le (x y : Nat) : sd x y ≤ 8 := by unfold sd; split <;> omega
theorem sdA_sd (F : Nat → Nat → Nat) (a b : Nat) : sdA F a b = sd (F 1 a) (F 1 b) := rfl
section T
variable {σ τ : SS} {n np : Nat} {F Pw : Nat → Nat → Nat} {U od un : Nat → Nat}
theorem x_sides (hR : TR n np F Pw) (h : XT σ n np F Pw) {a b : Nat} (ha : a < n) (hb : b < n) : f4_sidesApart (σ.2.2 0) (nI a) (nI b) σ = some (nI (sdA F a b)) := by
  have r1 := hR.2.2.1 a ha
  have r2 := hR.2.2.1 b hb
  unfold f4_sidesApart
  rw [show (1 : Int32) = nI 1 from rfl, x_feature hR h (by omega) ha, x_feature hR h (by omega) hb]
  simp only [bd_e, lt_e]
  rw [sd_x _ (by omega) _ (by omega)]
  rfl
theorem m_apart (hR : TR n np F Pw) (h : MT τ n np F Pw) {a b : Nat} (ha : pl n a) (hb : pl n b) : f6_apart (nI a) (nI b) τ = some (nI (if a = 12 ∨ b = 12 then 0 else sdA F a b)) := by
  have r0 := hR.1
  have na : a ≤ 12 := by rcases ha with h | h <;> omega
  have nb : b ≤ 12 := by rcases hb with h | h <;> omega
  unfold f6_apart
  by_cases g1 : a = 12
  · rw [if_pos (by rw [g1]; rfl), if_pos (Or.inl g1)]; rfl
  · rw [if_neg (by rw [l12, c_eq (by omega) (by omega)]; exact g1)]
    by_cases g2 : b = 12
    · rw [if_pos (by rw [g2]; rfl), if_pos (Or.inr g2)]; rfl
    · rw [if_neg (by rw [l12, c_eq (by omega) (by omega)]; exact g2), if_neg (by omega)]
      have ha : a < n := by rcases ha with h | h <;> omega
      have hb : b < n := by rcases hb with h | h <;> omega
      have r1 := hR.2.2.1 a ha
      have r2 := hR.2.2.1 b hb
      rw [show (1 : Int32) = nI 1 from rfl, m_of hR h (by omega) ha, m_of hR h (by omega) hb]
      have z := sd_m (F 1 a) (by omega) (F 1 b) (by omega)
      simp only [bd_e, lt_e]
      rw [sdA_sd, ← z]
      by_cases g3 : nI (F 1 a) - nI (F 1 b) < 0
      · simp only [if_pos g3]
        by_cases g4 : -(nI (F 1 a) - nI (F 1 b)) ≤ 4
        · simp only [if_pos g4]
        · simp only [if_neg g4]
      · simp only [if_neg g3]
        by_cases g4 : nI (F 1 a) - nI (F 1 b) ≤ 4
        · simp only [if_pos g4]
        · simp only [if_neg g4]
theorem x_bears (hR : TR n np F Pw) (h : XT σ n np F Pw) (hU : UR U) (hu : XU σ U) {p b : Nat} (hp : p < np) (hb : b < n) : f5_bears (nI p) (nI b) σ = some (bI (decide (Pw 1 p ≤ F 2 b * U 0))) := by
  have r1 := hR.2.2.1 b hb
  have r2 := hR.2.2.2 p hp
  have u0 := hU.2.1
  have hm : F 2 b * U 0 ≤ 30 * 9 := Nat.mul_le_mul (by omega) (by omega)
  unfold f5_bears
  rw [show (1 : Int32) = nI 1 from rfl, show (2 : Int32) = nI 2 from rfl, show (0 : Int32) = nI 0 from rfl, x_power hR h (by omega) hp, x_feature hR h (by omega) hb, x_tuned hu (by omega)]
  simp only [bd_e, c_mul, c_le (show Pw 1 p < 2147483648 by omega) (show F 2 b * U 0 < 2147483648 by omega)]
  by_cases g : Pw 1 p ≤ F 2 b * U 0
  · rw [if_pos g, decide_eq_true g]; rfl
  · rw [if_neg g, decide_eq_false g]; rfl
theorem pl_eq (hn : n ≤ 12) {a b : Nat} (ha : pl n a) (hb : pl n b) : (plI a = plI b) = (a = b) := by
  have key : ∀ a b, a < n → b = 12 → ¬ plI a = plI b := by
    intro a b ha hb
    rw [hb, plI_lt (by omega), plI_12, c_n1 (by omega)]
    exact id
  apply propext
  rcases ha with ha | ha <;> rcases hb with hb | hb
  · rw [plI_lt (by omega), plI_lt (by omega), c_eq (by omega) (by omega)]
  · exact ⟨fun q => absurd q (key a b ha hb), fun q => by omega⟩
  · exact ⟨fun q => absurd q.symm (key b a hb ha), fun q => by omega⟩
  · rw [ha, hb]; simp
theorem pl_m1 (hn : n ≤ 12) {a : Nat} (ha : pl n a) : (plI a = -1) = (a = 12) := pl_eq hn ha (Or.inr rfl)
theorem x_mayStep (hR : TR n np F Pw) (h : XT σ n np F Pw) (hU : UR U) (hu : XU σ U) {s p a b r bk : Nat} (hs : s < 4096) (hsw : σ.1 17 7 = nI s) (hp : p < np) (ha : pl n a) (hb : pl n b) (hr : r < 1000) (hbk : bk < 1000) : f5_mayStep (nI p) (plI a) (plI b) (nI r) (nI bk) σ = some (bI (may F Pw U s p r bk a b)) := by
  have r0 := hR.1
  have u1 := hU.2.2.1
  have na : a ≤ 12 := by rcases ha with h | h <;> omega
  have nb : b ≤ 12 := by rcases hb with h | h <;> omega
  have e1 := x_isSawn hs hsw na
  have e2 := x_isSawn hs hsw nb
  have e3 : f4_feature (σ.2.2 0) (plI a) 0 σ = some (nI (hF F a)) := x_featH hR h ha
  have e4 : f4_feature (σ.2.2 0) (plI b) 0 σ = some (nI (hF F b)) := x_featH hR h hb
  have e5 := x_inReach hR hU hu ha hb hr hbk
  have e6 : f5_tuned 1 σ = some (nI (U 1)) := x_tuned hu (i := 1) (by omega)
  have e7 : b < n → f5_bears (nI p) (plI b) σ = some (bI (decide (Pw 1 p ≤ F 2 b * U 0))) := fun q => by rw [plI_lt (by omega)]; exact x_bears hR h hU hu hp q
  have e8 : a < n → b < n → f4_sidesApart (σ.2.2 0) (plI a) (plI b) σ = some (nI (sdA F a b)) := fun q1 q2 => by rw [plI_lt (by omega), plI_lt (by omega)]; exact x_sides hR h q1 q2
  have e9 : (nI (sdA F a b) ≤ nI (U 1)) = (sdA F a b ≤ U 1) := c_le (by have := sd_le (F 1 a) (F 1 b); rw [sdA_sd]; omega) (by omega)
  unfold f5_mayStep may
  simp only [lt_e, pl_eq r0 ha hb, pl_m1 r0 ha, pl_m1 r0 hb, e1, e2, bd_e, ib0, e3, e4, e5, e6]
  generalize (if hF F a < hF F b then decide (hF F b - hF F a ≤ if a = 12 then r + bk else r) else decide (hF F a = hF F b) || decide (hF F a - hF F b + U 2 ≤ r)) = B
  by_cases g0 : a = b
  · rw [if_pos g0, show decide (a ≠ b) = false from decide_eq_false (fun q => q g0)]; rfl
  · rw [if_neg g0, show decide (a ≠ b) = true from decide_eq_true g0]
    cases sawB s a
    · cases sawB s b
      · cases B
        · rfl
        · simp only [cond_true, cond_false, Bool.not_false, Bool.and_true, Bool.true_and]
          by_cases g1 : b = 12
          · have g2 : ¬ a = 12 := by omega
            simp only [if_pos g1, if_neg g2, decide_eq_true g1, Bool.or_true, Bool.true_or, Bool.and_true]
            rfl
          · have hb2 : b < n := by rcases hb with h | h <;> omega
            by_cases g2 : a = 12
            · simp only [if_neg g1, if_pos g2, decide_eq_true g2, decide_eq_false g1, e7 hb2, bd_e, ib0, Bool.true_or, Bool.false_or, Bool.true_and]
              cases decide (Pw 1 p ≤ F 2 b * U 0) <;> rfl
            · have ha2 : a < n := by rcases ha with h | h <;> omega
              simp only [if_neg g1, if_neg g2, decide_eq_false g2, decide_eq_false g1, e7 hb2, e8 ha2 hb2, bd_e, ib0, e9, Bool.false_or]
              by_cases g3 : sdA F a b ≤ U 1
              · rw [if_pos g3, decide_eq_true g3]
                cases decide (Pw 1 p ≤ F 2 b * U 0) <;> rfl
              · rw [if_neg g3, decide_eq_false g3]
                rfl
      · rfl
    · rfl
theorem m_heightOf (hR : TR n np F Pw) (h : MT τ n np F Pw) {a : Nat} (ha : pl n a) : f6_heightOf (nI a) τ = some (nI (hF F a)) := by
  have := hR.1
  unfold f6_heightOf hF
  rcases ha with ha | rfl
  · rw [if_neg (by rw [l12, c_eq (by omega) (by omega)]; omega), if_neg (by omega)]
    rw [show f6_of (nI a) 0 τ = some (nI (F 0 a)) from m_of hR h (w := 0) (by omega) ha]
    rfl
  · rfl
theorem m_mayStep (hR : TR n np F Pw) (h : MT τ n np F Pw) (hU : UR U) (hu : MU τ U) {s p a b r gr bk : Nat} (hs : s < 4096) (hsw : τ.1 7 0 = nI s) (hp : p < np) (ha : pl n a) (hb : pl n b) (hr : r < 1000) (hbk : bk < 1000) (hl : MLk τ r (Pw 1 p) gr bk) : f6_mayStep (nI a) (nI b) τ = some (bI (may F Pw U s p r bk a b)) := by
  have r0 := hR.1
  have u1 := hU.2.2.1
  have u2 := hU.2.2.2.1
  have u0 := hU.2.1
  have na : a ≤ 12 := by rcases ha with h | h <;> omega
  have nb : b ≤ 12 := by rcases hb with h | h <;> omega
  have h1 := hF_le hR ha
  have h2 := hF_le hR hb
  have r2 := hR.2.2.2 p hp
  have e1 := m_isSawn hs hsw na
  have e2 := m_isSawn hs hsw nb
  have e3 := m_heightOf hR h ha
  have e4 := m_heightOf hR h hb
  have e5 := m_apart hR h ha hb
  have e6 := hu 1 (by omega)
  have e7 := hu 0 (by omega)
  have e8 := hu 2 (by omega)
  have e9 : b < n → f6_of (nI b) 2 τ = some (nI (F 2 b)) := fun q => m_of hR h (w := 2) (by omega) q
  have c1 : (nI a = nI b) = (a = b) := c_eq (by omega) (by omega)
  have c2 : (nI a = 12) = (a = 12) := by rw [l12]; exact c_eq (by omega) (by omega)
  have c3 : (nI b = 12) = (b = 12) := by rw [l12]; exact c_eq (by omega) (by omega)
  have c4 : (nI (if a = 12 ∨ b = 12 then 0 else sdA F a b) ≤ nI (U 1)) = (a = 12 ∨ b = 12 ∨ sdA F a b ≤ U 1) := by
    have := sd_le (F 1 a) (F 1 b)
    by_cases g : a = 12 ∨ b = 12
    · rw [if_pos g, c_le (by omega) (by omega)]
      apply propext
      rcases g with g | g
      · exact ⟨fun _ => Or.inl g, fun _ => by omega⟩
      · exact ⟨fun _ => Or.inr (Or.inl g), fun _ => by omega⟩
    · rw [if_neg g, c_le (by rw [sdA_sd]; omega) (by omega)]
      exact propext ⟨fun q => Or.inr (Or.inr q), fun q => by rcases q with q | q | q <;> first | exact q | exact absurd (Or.inl q) g | exact absurd (Or.inr q) g⟩
  have z1 : (nI (hF F b) - nI (hF F a) ≤ 0) = (hF F b ≤ hF F a) := sub_le0 (a := hF F b) (b := hF F a) (by omega) (by omega)
  have z2 : (nI (hF F b) - nI (hF F a) = 0) = (hF F b = hF F a) := sub_eq0 (a := hF F b) (b := hF F a) (by omega) (by omega)
  have z3 := sub_le_sub (a := hF F a) (b := hF F b) (c := r) (d := U 2) (by omega) (by omega) (by omega) (by omega)
  have z4 : (nI (hF F b) - nI (hF F a) ≤ nI r + 0) = (hF F b ≤ hF F a + r) := by rw [show nI r + 0 = nI r from nI_add r 0]; exact sub_le (by omega) (by omega) (by omega)
  have z5 : (nI (hF F b) - nI (hF F a) ≤ nI r + nI bk) = (hF F b ≤ hF F a + (r + bk)) := by rw [c_add]; exact sub_le (by omega) (by omega) (by omega)
  have z6 : b < n → (nI (Pw 1 p) ≤ nI (F 2 b) * nI (U 0)) = (Pw 1 p ≤ F 2 b * U 0) := fun q => by
    have r1 := hR.2.2.1 b q
    have hm : F 2 b * U 0 ≤ 30 * 9 := Nat.mul_le_mul (by omega) (by omega)
    rw [c_mul]; exact c_le (by omega) (by omega)
  unfold f6_mayStep may
  simp only [lt_e, c1, c2, c3, c4, e1, e2, bd_e, ib0, e3, e4, e5, tz0, tz1, tz2, gd_t (iz 6 (by omega)), gd_t (iz1 6 (by omega)), gd_t (iz2 6 (by omega)), e6, e7, e8, hl.1, hl.2.1, hl.2.2.2, z1, z2, neg_sub, z3, z4, z5]
  by_cases g0 : a = b
  · rw [if_pos g0, show decide (a ≠ b) = false from decide_eq_false (fun q => q g0)]; rfl
  · rw [if_neg g0, show decide (a ≠ b) = true from decide_eq_true g0]
    cases sawB s a
    · cases sawB s b
      · simp only [cond_true, cond_false, Bool.not_false, Bool.and_true, Bool.true_and]
        have key : (if hF F b = hF F a then (some 1 : Option Int32) else if hF F b ≤ hF F a then if hF F a + U 2 ≤ hF F b + r then some 1 else some 0 else if a = 12 then if hF F b ≤ hF F a + (r + bk) then some 1 else some 0 else if hF F b ≤ hF F a + r then some 1 else some 0) = some (bI (if hF F a < hF F b then decide (hF F b - hF F a ≤ if a = 12 then r + bk else r) else decide (hF F a = hF F b) || decide (hF F a - hF F b + U 2 ≤ r))) := by
          by_cases q1 : hF F b = hF F a
          · rw [if_pos q1, if_neg (show ¬ hF F a < hF F b by omega), decide_eq_true q1.symm]; rfl
          · rw [if_neg q1]
            by_cases q2 : hF F b ≤ hF F a
            · rw [if_pos q2, if_neg (show ¬ hF F a < hF F b by omega), show decide (hF F a = hF F b) = false from decide_eq_false (fun q => q1 q.symm)]
              by_cases q3 : hF F a + U 2 ≤ hF F b + r
              · rw [if_pos q3, show decide (hF F a - hF F b + U 2 ≤ r) = true from decide_eq_true (by omega)]; rfl
              · rw [if_neg q3, show decide (hF F a - hF F b + U 2 ≤ r) = false from decide_eq_false (by omega)]; rfl
            · rw [if_neg q2, if_pos (show hF F a < hF F b by omega)]
              by_cases q4 : a = 12
              · rw [if_pos q4, if_pos q4]
                by_cases q3 : hF F b ≤ hF F a + (r + bk)
                · rw [if_pos q3, show decide (hF F b - hF F a ≤ r + bk) = true from decide_eq_true (by omega)]; rfl
                · rw [if_neg q3, show decide (hF F b - hF F a ≤ r + bk) = false from decide_eq_false (by omega)]; rfl
              · rw [if_neg q4, if_neg q4]
                by_cases q3 : hF F b ≤ hF F a + r
                · rw [if_pos q3, show decide (hF F b - hF F a ≤ r) = true from decide_eq_true (by omega)]; rfl
                · rw [if_neg q3, show decide (hF F b - hF F a ≤ r) = false from decide_eq_false (by omega)]; rfl
        simp only [key]
        by_cases g1 : b = 12
        · simp only [if_pos g1, decide_eq_true g1, Bool.or_true, Bool.true_or, Bool.and_true, if_pos (show a = 12 ∨ b = 12 ∨ sdA F a b ≤ U 1 from Or.inr (Or.inl g1))]
        · have hb2 : b < n := by rcases hb with h | h <;> omega
          simp only [if_neg g1, e9 hb2, bd_e, z6 hb2, decide_eq_false g1, Bool.or_false, Bool.false_or]
          by_cases g3 : a = 12 ∨ b = 12 ∨ sdA F a b ≤ U 1
          · rw [if_pos g3]
            have g4 : (decide (a = 12) || decide (sdA F a b ≤ U 1)) = true := by
              rcases g3 with g | g | g
              · simp [g]
              · exact absurd g g1
              · simp [g]
            rw [g4]
            by_cases g5 : Pw 1 p ≤ F 2 b * U 0
            · rw [if_pos g5, decide_eq_true g5]; simp
            · rw [if_neg g5, decide_eq_false g5]; simp; rfl
          · rw [if_neg g3]
            have g4 : (decide (a = 12) || decide (sdA F a b ≤ U 1)) = false := by
              simp; omega
            rw [g4]; simp; rfl
      · rfl
    · rfl
/-- look() of the reference -/
theorem m_look (hR : TR n np F Pw) (h : MT τ n np F Pw) (hu : MU τ U) {p : Nat} (hp : p < np) : ∃ τ', f6_look (nI p) τ = some τ' ∧ MS τ τ' ∧ MLk τ' (Pw 0 p) (Pw 1 p) (Pw 2 p) (U 5) := by
  have hm : ∀ {v : Int32} {j : Nat} {t : SS}, j ≠ 2 → j ≠ 24 → MS τ t → MS τ (sI t 0 j v) := fun h1 h2 q => q.tr (MS.i (Or.inr ⟨rfl, h1, h2⟩))
  have hT : ∀ {t : SS}, MS τ t → MT t n np F Pw := fun {t} q => ⟨by rw [q.2 _ _ (by omega) (by omega)]; exact h.1, by rw [q.2 _ _ (by omega) (by omega)]; exact h.2.1, fun w k hw hk => by rw [q.2 _ _ (by omega) (by omega)]; exact h.2.2.1 w k hw hk, fun w k hw hk => by rw [q.2 _ _ (by omega) (by omega)]; exact h.2.2.2 w k hw hk⟩
  have e0 : ∀ {t : SS}, MS τ t → f6_bodyOf (nI p) 0 t = some (nI (Pw 0 p)) := fun q => m_bodyOf hR (hT q) (w := 0) (by omega) hp
  have e1 : ∀ {t : SS}, MS τ t → f6_bodyOf (nI p) 1 t = some (nI (Pw 1 p)) := fun q => m_bodyOf hR (hT q) (w := 1) (by omega) hp
  have e2 : ∀ {t : SS}, MS τ t → f6_bodyOf (nI p) 2 t = some (nI (Pw 2 p)) := fun q => m_bodyOf hR (hT q) (w := 2) (by omega) hp
  have q0 : MS τ τ := MS.rf
  have q1 := hm (v := nI (Pw 0 p)) (j := 14) (by omega) (by omega) q0
  have q2 := hm (v := nI (Pw 1 p)) (j := 15) (by omega) (by omega) q1
  have q3 := hm (v := nI (Pw 2 p)) (j := 16) (by omega) (by omega) q2
  have q4 := hm (v := nI (U 5)) (j := 17) (by omega) (by omega) q3
  refine ⟨_, ?_, q4, ?_⟩
  · unfold f6_look
    rw [e0 q0, bd_e, lt_e, e1 q1, bd_e, lt_e, e2 q2, bd_e, lt_e, gd_t (iz5 6 (by omega)), tz5, q3.2 6 5 (by omega) (by omega), hu 5 (by omega)]
    rfl
  · refine ⟨?_, ?_, ?_, ?_⟩
    · rw [sI_o (by omega), sI_o (by omega), sI_o (by omega), sI_s]
    · rw [sI_o (by omega), sI_o (by omega), sI_s]
    · rw [sI_o (by omega), sI_s]
    · rw [sI_s]
end T
