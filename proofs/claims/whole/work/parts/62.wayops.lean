/-! best, high, sure, help, stuck -/
section S
variable {σ τ s t : SS} {n np : Nat} {F Pw : Nat → Nat → Nat} {U od un : Nat → Nat}
def MW (τ : SS) (n np : Nat) (F Pw : Nat → Nat → Nat) (U : Nat → Nat) (s p r bk : Nat) : Prop := MT τ n np F Pw ∧ MU τ U ∧ τ.1 7 0 = nI s ∧ MLk τ r (Pw 1 p) (Pw 2 p) bk
theorem MW.gs {s p r bk : Nat} (h : MW τ n np F Pw U s p r bk) (q : GS τ t) : MW t n np F Pw U s p r bk := ⟨q.ms.mt h.1, q.ms.mu h.2.1, by rw [q.2 _ _ (by omega)]; exact h.2.2.1, q.lk h.2.2.2⟩
theorem may_r (F Pw : Nat → Nat → Nat) (U : Nat → Nat) (p r bk a b : Nat) : ∃ c : Bool, ∀ s, may F Pw U s p r bk a b = (!sawB s a && !sawB s b && c) := by
  refine ⟨decide (a ≠ b) && (if hF F a < hF F b then decide (hF F b - hF F a ≤ (if a = 12 then r + bk else r)) else decide (hF F a = hF F b) || decide (hF F a - hF F b + U 2 ≤ r)) && (decide (a = 12) || decide (b = 12) || decide (sdA F a b ≤ U 1)) && (decide (b = 12) || decide (Pw 1 p ≤ F 2 b * U 0)), fun s => ?_⟩
  unfold may
  cases decide (a ≠ b) <;> cases sawB s a <;> cases sawB s b <;> rfl
/-- to leave places out, and to have them sawn, is one -/
theorem Wy_saw {H : Nat → Nat} {s0 s2 p r bk : Nat} (hsub : ∀ b, sawB s0 b = true → sawB s2 b = true) : ∀ k b, (Wy n (may F Pw U s0 p r bk) (fun b => if (!sawB s2 b) = true then H b else 0) 12 k b ↔ Wy n (may F Pw U s2 p r bk) H 12 k b) ∧ (Wy n (may F Pw U s2 p r bk) H 12 k b → sawB s2 b = false) := by
  intro k
  induction k with
  | zero =>
    intro b
    exact ⟨Iff.rfl, fun h => by rw [show b = 12 from h]; rfl⟩
  | succ k ih =>
    intro b
    refine ⟨?_, ?_⟩
    · show (pl n b ∧ 0 < (if (!sawB s2 b) = true then H b else 0) ∧ ∃ a, a < 13 ∧ Wy n (may F Pw U s0 p r bk) (fun b => if (!sawB s2 b) = true then H b else 0) 12 k a ∧ may F Pw U s0 p r bk a b = true) ↔ (pl n b ∧ 0 < H b ∧ ∃ a, a < 13 ∧ Wy n (may F Pw U s2 p r bk) H 12 k a ∧ may F Pw U s2 p r bk a b = true)
      constructor
      · rintro ⟨h1, h2, a, ha, h3, h4⟩
        have w2 := (ih a).1.mp h3
        have na := (ih a).2 w2
        have nb : sawB s2 b = false := by
          cases q : sawB s2 b
          · rfl
          · rw [q, if_neg (by simp)] at h2; omega
        rw [nb, if_pos (by rfl)] at h2
        obtain ⟨c, hc⟩ := may_r F Pw U p r bk a b
        rw [hc] at h4
        refine ⟨h1, h2, a, ha, w2, ?_⟩
        rw [hc, na, nb]
        cases c
        · simp at h4
        · rfl
      · rintro ⟨h1, h2, a, ha, h3, h4⟩
        obtain ⟨c, hc⟩ := may_r F Pw U p r bk a b
        rw [hc] at h4
        have e : ∀ x, sawB s2 x = false → sawB s0 x = false := by
          intro x hx
          cases q : sawB s0 x
          · rfl
          · rw [hsub x q] at hx; cases hx
        cases q1 : sawB s2 a
        · cases q2 : sawB s2 b
          · refine ⟨h1, by rw [if_pos (by rfl)]; exact h2, a, ha, (ih a).1.mpr h3, ?_⟩
            rw [hc, e a q1, e b q2]
            rw [q1, q2] at h4
            exact h4
          · rw [q1, q2] at h4; cases h4
        · rw [q1] at h4; cases h4
    · rintro ⟨-, -, a, -, -, h4⟩
      obtain ⟨c, hc⟩ := may_r F Pw U p r bk a b
      rw [hc] at h4
      cases q2 : sawB s2 b
      · rfl
      · rw [q2] at h4; simp at h4
theorem Go_saw {H : Nat → Nat} {s0 s2 p r bk : Nat} (hsub : ∀ b, sawB s0 b = true → sawB s2 b = true) (b : Nat) : Go n (may F Pw U s0 p r bk) (fun b => if (!sawB s2 b) = true then H b else 0) 12 b ↔ Go n (may F Pw U s2 p r bk) H 12 b := by
  unfold Go
  constructor
  · rintro ⟨k, k1, k2⟩; exact ⟨k, k1, (Wy_saw hsub k b).1.mp k2⟩
  · rintro ⟨k, k1, k2⟩; exact ⟨k, k1, (Wy_saw hsub k b).1.mpr k2⟩
theorem holL (hR : TR n np F Pw) {p : Nat} (hp : p < np) : ∀ b, pl n b → hol F Pw U p b ≤ 10 := fun _ hb => hol_le hR hb
theorem m_highBy (hR : TR n np F Pw) (hU : UR U) {s p r bk h : Nat} (hs : s < 4096) (hp : p < np) (hr : r < 1000) (hbk : bk < 1000) (hw : MW τ n np F Pw U s p r bk) (hh : h ≤ 100) : ∃ t, f6_highBy (nI h) τ = some (nI (mx (fun b => if byH n (may F Pw U s p r bk) (hol F Pw U p) h b = true then F 0 b else 0) n), t) ∧ GS τ t := by
  obtain ⟨t, t1, t2, t3⟩ := m_goFrom hR hw.1 hU hw.2.1 hs hw.2.2.1 hp hr hbk hw.2.2.2 (Or.inr rfl : pl n 12) (holL hR hp)
  have L : L6_highBy_10 (nI h) t FU 0 0 = _ := m_highL hR (t2.ms.mt hw.1) (holL hR hp) t3 hh n 0 FU (by omega) (by unfold FU; have := hR.1; omega)
  refine ⟨t, ?_, t2⟩
  unfold f6_highBy
  rw [show f6_goFrom 12 τ = some t from t1, bd_e, L, bk1_e]
theorem m_reached (hR : TR n np F Pw) (hU : UR U) {s p r bk : Nat} (hs : s < 4096) (hp : p < np) (hr : r < 1000) (hbk : bk < 1000) (hw : MW τ n np F Pw U s p r bk) : ∃ t, f6_reached τ = some (nI (msk (fun b => decide (0 < oG n (may F Pw U s p r bk) (hol F Pw U p) 12 b)) n), t) ∧ GS τ t := by
  obtain ⟨t, t1, t2, t3⟩ := m_goFrom hR hw.1 hU hw.2.1 hs hw.2.2.1 hp hr hbk hw.2.2.2 (Or.inr rfl : pl n 12) (holL hR hp)
  have L : L6_reached_10 t FU 0 0 = _ := m_reachedL hR (t2.ms.mt hw.1) (holL hR hp) t3 n 0 FU (by omega) (by unfold FU; have := hR.1; omega)
  refine ⟨t, ?_, t2⟩
  unfold f6_reached
  rw [show f6_goFrom 12 τ = some t from t1, bd_e, L, bk1_e]
theorem m_comesDown (hR : TR n np F Pw) (hU : UR U) {s p r bk b : Nat} (hs : s < 4096) (hp : p < np) (hr : r < 1000) (hbk : bk < 1000) (hw : MW τ n np F Pw U s p r bk) (hb : b < n) : ∃ (v : Bool) (t : SS), f6_comesDown (nI b) τ = some (bI v, t) ∧ GS τ t ∧ (v = true ↔ Go n (may F Pw U s p r bk) (hol F Pw U p) b 12) := by
  have w : WH = 1000000000000 := rfl
  obtain ⟨t, t1, t2, t3⟩ := m_goFrom hR hw.1 hU hw.2.1 hs hw.2.2.1 hp hr hbk hw.2.2.2 (Or.inl hb : pl n b) (holL hR hp)
  have ol := oG_le (n := n) (M := may F Pw U s p r bk) (H := hol F Pw U p) (st := b) (b := 12) (holL hR hp)
  have ov : t.2.1 8 12 = lN (oG n (may F Pw U s p r bk) (hol F Pw U p) b 12) := (t3 12 (by omega)).2.1
  refine ⟨decide (0 < oG n (may F Pw U s p r bk) (hol F Pw U p) b 12), t, ?_, t2, ?_⟩
  · unfold f6_comesDown
    rw [t1, bd_e, gd_t (by decide), show (12 : Int32).toNatClampNeg = 12 by decide, ov]
    by_cases g : oG n (may F Pw U s p r bk) (hol F Pw U p) b 12 ≤ 0
    · rw [if_pos (by rw [lN0, l_le (by omega) (by omega)]; exact g), decide_eq_false (by omega)]; rfl
    · rw [if_neg (by rw [lN0, l_le (by omega) (by omega)]; exact g), decide_eq_true (by omega)]; rfl
  · rw [decide_eq_true_eq]
    exact OD_go 12
theorem oG_go {M : Nat → Nat → Bool} {H : Nat → Nat} {st b : Nat} : decide (0 < oG n M H st b) = true ↔ Go n M H st b := by
  rw [decide_eq_true_eq]
  exact OD_go b
theorem byH0 {M : Nat → Nat → Bool} {H : Nat → Nat} {b : Nat} : byH n M H 0 b = decide (0 < oG n M H 12 b) := by
  unfold byH
  rw [decide_eq_true (show 0 * WH ≤ _ by omega), Bool.and_true]
/-- the highest of what is reached when s2 is sawn -/
theorem x_highR (hR : TR n np F Pw) (hx : XT s n np F Pw) {s0 s2 p r bk : Nat} (hp : p < np) (hl : XL s (NN n (may F Pw U s0 p r bk)) (TT n (hol F Pw U p))) (hs2 : s2 < 4096) (hsub : ∀ b, sawB s0 b = true → sawB s2 b = true) : ∃ Q, Q < 4096 ∧ f5_reached (nI s2) s = some (nI Q) ∧ (∀ b, b < 12 → Q.testBit b = decide (0 < oG n (may F Pw U s2 p r bk) (hol F Pw U p) 12 b)) ∧ f5_highest (nI Q) s = some (nI (mx (fun b => if byH n (may F Pw U s2 p r bk) (hol F Pw U p) 0 b = true then F 0 b else 0) n)) := by
  have r0 := hR.1
  obtain ⟨Q, q1, q2, q3⟩ := x_reached r0 (holL hR hp) hl hs2
  have q4 : ∀ b, b < 12 → Q.testBit b = decide (0 < oG n (may F Pw U s2 p r bk) (hol F Pw U p) 12 b) := by
    intro b hb
    apply Bool.eq_iff_iff.mpr
    rw [q3 b hb, Go_saw hsub, oG_go]
  refine ⟨Q, q1, q2, q4, ?_⟩
  rw [x_highest hR hx q1]
  congr 2
  refine mx_cg n (fun b hb => ?_)
  show (if Q.testBit b = true then F 0 b else 0) = (if byH n (may F Pw U s2 p r bk) (hol F Pw U p) 0 b = true then F 0 b else 0)
  rw [byH0, q4 b (by omega)]
theorem x_returnL (hR : TR n np F Pw) (hx : XT s n np F Pw) {M : Nat → Nat → Bool} {H : Nat → Nat} (hH : ∀ b, pl n b → H b ≤ 10) (hl : XL s (NN n M) (TT n H)) {Q : Nat} (hQ : Q < 4096) {D : Nat → Bool} (hD : ∀ b, b < n → (D b = true ↔ Go n M H b 12)) : ∀ (d i fuel : Nat), i + d = n → d < fuel → L5_returning_4 (nI Q) s fuel (nI (msk (fun b => Q.testBit b && D b) i)) (nI i) = some (nI (msk (fun b => Q.testBit b && D b) n)) := by
  have r0 := hR.1
  intro d
  induction d with
  | zero =>
    intro i fuel h1 h2
    obtain ⟨f, rfl⟩ : ∃ q, fuel = q + 1 := ⟨fuel - 1, by omega⟩
    rw [L5_returning_4, show s.1 (wB (s.2.2 0)) 0 = nI n from hx.1, if_neg (by rw [c_lt (by omega) (by omega)]; omega), show i = n by omega]
  | succ d ih =>
    intro i fuel h1 h2
    obtain ⟨f, rfl⟩ : ∃ q, fuel = q + 1 := ⟨fuel - 1, by omega⟩
    have k := ih (i + 1) f (by omega) (by omega)
    rw [msk] at k
    rw [L5_returning_4, show s.1 (wB (s.2.2 0)) 0 = nI n from hx.1, if_pos (by rw [c_lt (by omega) (by omega)]; omega), x_has (by omega) (by omega), bd_e, ib0]
    obtain ⟨v, v1, v2⟩ := x_comesDown r0 hH hl (b := i) (by omega)
    have ev : v = D i := Bool.eq_iff_iff.mpr (by rw [v2, hD i (by omega)])
    rw [v1, ev, bd_e, ib0]
    simp only [lt_e, nI_1]
    rw [nI_or1 (by omega)]
    cases q : Q.testBit i with
    | false => rw [q, if_neg (by simp)] at k; exact k
    | true =>
      cases q2 : D i with
      | false => rw [q2, if_neg (by simp)] at k; exact k
      | true => rw [q, q2, Bool.true_and, if_pos rfl] at k; exact k
theorem m_highL45 (hR : TR n np F Pw) (hU : UR U) {s p r bk : Nat} (hs : s < 4096) (hp : p < np) (hr : r < 1000) (hbk : bk < 1000) {Q : Nat} (hQ : Q < 4096) {D : Nat → Bool} (hD : ∀ b, b < n → (D b = true ↔ Go n (may F Pw U s p r bk) (hol F Pw U p) b 12)) : ∀ (d i fuel : Nat) (t : SS), i + d = n → d < fuel → MW t n np F Pw U s p r bk → ∃ t', L6_high_45 (nI Q) fuel (nI (mx (fun b => if (Q.testBit b && D b) = true then F 0 b else 0) i)) (nI i) t = some (nI (mx (fun b => if (Q.testBit b && D b) = true then F 0 b else 0) n), t') ∧ GS t t' := by
  have r0 := hR.1
  intro d
  induction d with
  | zero =>
    intro i fuel t h1 h2 hw
    obtain ⟨f, rfl⟩ : ∃ q, fuel = q + 1 := ⟨fuel - 1, by omega⟩
    refine ⟨t, ?_, GS.rf⟩
    rw [L6_high_45, gd_t (iz 2 (by omega)), tz0, hw.1.1, if_neg (by rw [c_lt (by omega) (by omega)]; omega), show i = n by omega]
  | succ d ih =>
    intro i fuel t h1 h2 hw
    obtain ⟨f, rfl⟩ : ∃ q, fuel = q + 1 := ⟨fuel - 1, by omega⟩
    have ri := hR.2.2.1 i (by omega)
    have ml := mxF_le hR (fun b => Q.testBit b && D b) (i := i) (by omega)
    have e1 : mx (fun b => if (Q.testBit b && D b) = true then F 0 b else 0) (i + 1) = max (mx (fun b => if (Q.testBit b && D b) = true then F 0 b else 0) i) (if (Q.testBit i && D i) = true then F 0 i else 0) := rfl
    have skip : ∀ t1, MW t1 n np F Pw U s p r bk → GS t t1 → (if (Q.testBit i && D i) = true then F 0 i else 0) ≤ mx (fun b => if (Q.testBit b && D b) = true then F 0 b else 0) i → ∃ t', L6_high_45 (nI Q) f (nI (mx (fun b => if (Q.testBit b && D b) = true then F 0 b else 0) i)) (nI (i + 1)) t1 = some (nI (mx (fun b => if (Q.testBit b && D b) = true then F 0 b else 0) n), t') ∧ GS t t' := by
      intro t1 w1 g1 z
      obtain ⟨t', k1, k2⟩ := ih (i + 1) f t1 (by omega) (by omega) w1
      rw [e1, Nat.max_eq_left z] at k1
      exact ⟨t', k1, g1.tr k2⟩
    have eF : f6_of (nI i) 0 t = some (nI (F 0 i)) := m_of hR hw.1 (w := 0) (by omega) (by omega)
    rw [L6_high_45, gd_t (iz 2 (by omega)), tz0, hw.1.1, if_pos (by rw [c_lt (by omega) (by omega)]; omega)]
    simp only [lt_e, m_bit (show Q < 2147483648 by omega) (show i < 32 by omega), ib1, eF, bd_e, nI_1]
    cases q : Q.testBit i with
    | false =>
      simp only [cond_false]
      rw [if_true]
      exact skip t hw GS.rf (by rw [q, Bool.false_and, if_neg (by simp)]; exact Nat.zero_le _)
    | true =>
      simp only [cond_true]
      by_cases g : F 0 i ≤ mx (fun b => if (Q.testBit b && D b) = true then F 0 b else 0) i
      · rw [if_pos (by rw [c_le (by omega) (by omega)]; exact g), if_true]
        refine skip t hw GS.rf ?_
        split
        · exact g
        · exact Nat.zero_le _
      · rw [if_neg (by rw [c_le (by omega) (by omega)]; exact g), if_neg (by decide)]
        obtain ⟨v, t1, v1, v2, v3⟩ := m_comesDown hR hU hs hp hr hbk hw (b := i) (by omega)
        have ev : v = D i := Bool.eq_iff_iff.mpr (by rw [v3, hD i (by omega)])
        rw [v1, ev, bk2_e, ib0]
        have w1 := hw.gs v2
        cases q2 : D i with
        | false => exact skip t1 w1 v2 (by rw [q2, Bool.and_false, if_neg (by simp)]; exact Nat.zero_le _)
        | true =>
          simp only [cond_true]
          rw [show f6_of (nI i) 0 t1 = some (nI (F 0 i)) from m_of hR w1.1 (w := 0) (by omega) (by omega), bd_e]
          obtain ⟨t', k1, k2⟩ := ih (i + 1) f t1 (by omega) (by omega) w1
          rw [e1, q, q2, Bool.true_and, if_pos rfl, Nat.max_eq_right (by omega)] at k1
          exact ⟨t', k1, v2.tr k2⟩
end S
