/-! bits, steps, holds -/
theorem s_l : ∀ n, n < 32 → ((nI n &&& 31).toBitVec.smod 32).toNat = n := by decide +kernel
theorem s_u : ∀ n, n < 32 → (((nI n).toUInt32 &&& Int32.toUInt32 31).toBitVec % 32).toNat = n := by decide +kernel
theorem and1 {n : Nat} (h : n < 2147483648) : nI n &&& 1 = nI (n % 2) := by
  have := pk_andN (n := n) (by omega) (m := 1) 1 (by decide)
  exact this
theorem tb_mod (s k : Nat) : (s / 2 ^ k % 2 = 1) = (s.testBit k = true) := by
  rw [Nat.testBit_eq_decide_div_mod_eq]
  simp
theorem nI_bit (s k : Nat) : nI (s / 2 ^ k % 2) = bI (s.testBit k) := by
  have h := tb_mod s k
  cases hb : s.testBit k
  · rw [hb] at h
    have : s / 2 ^ k % 2 = 0 := by
      have h2 : ¬ s / 2 ^ k % 2 = 1 := by rw [h]; simp
      omega
    rw [this]; rfl
  · rw [hb] at h
    have : s / 2 ^ k % 2 = 1 := by rw [h]
    rw [this]; rfl
theorem x_has {s k : Nat} (hs : s < 2147483648) (hk : k < 32) : f5_has (nI s) (nI k) = some (bI (s.testBit k)) := by
  unfold f5_has
  have e : ((Int32.toUInt32 (nI s)) >>> ((Int32.toUInt32 (nI k)) &&& Int32.toUInt32 31)).toInt32 &&& 1 = bI (s.testBit k) := by
    rw [pk_ushrN (by omega) (nI k) k (s_u k hk), and1 (Nat.lt_of_le_of_lt (Nat.div_le_self _ _) hs), nI_bit]
  rw [e, lt_e, ib0]
  rw [if_neg (nI_pos (by omega)), if_pos (by rw [show (32 : Int32) = nI 32 from rfl, c_lt (by omega) (by omega)]; exact hk)]
  cases s.testBit k <;> rfl
theorem x_hasN {s : Int32} {a : Int32} (h : a < 0) : f5_has s a = some 0 := by
  unfold f5_has
  rw [lt_e, if_pos h]
/-- the bit of a set that a signed shift tells -/
theorem m_bit {s k : Nat} (hs : s < 2147483648) (hk : k < 32) : (nI s >>> (nI k &&& 31)) &&& 1 = bI (s.testBit k) := by
  rw [pk_shrN (by omega) (nI k &&& 31) k (s_l k hk), and1 (Nat.lt_of_le_of_lt (Nat.div_le_self _ _) hs), nI_bit]
def sawB (s a : Nat) : Bool := decide (a ≠ 12) && s.testBit a
theorem plI_12 : plI 12 = -1 := rfl
theorem plI_lt {a : Nat} (h : a < 12) : plI a = nI a := by unfold plI; rw [if_neg (by omega)]
theorem pow12 {n : Nat} (h : n ≤ 12) : 2 ^ n ≤ 4096 := Nat.pow_le_pow_right (by omega) h
theorem max_sub {a b : Nat} (ha : a < 1000000) (hb : b < 1000000) {inst : Decidable (nI 0 < nI a - nI b)} : (if nI 0 < nI a - nI b then nI a - nI b else nI 0) = nI (a - b) := by
  have e : (nI 0 < nI a - nI b) = (b < a) := by
    apply propext
    rw [Int32.lt_iff_toInt_lt, pk_sub_toInt (by omega) (by omega), nI_toInt (by omega)]
    omega
  by_cases h : b < a
  · rw [if_pos (e ▸ h), c_sub (by omega)]
  · rw [show a - b = 0 by omega, if_neg (e ▸ h)]
theorem max_sub2 {α : Type} {a b : Nat} (f : Int32 → α) (ha : a < 1000000) (hb : b < 1000000) {inst : Decidable (nI a - nI b < nI 0)} : (if nI a - nI b < nI 0 then f (nI 0) else f (nI a - nI b)) = f (nI (a - b)) := by
  have e : (nI a - nI b < nI 0) = (a < b) := by
    apply propext
    rw [Int32.lt_iff_toInt_lt, pk_sub_toInt (by omega) (by omega), nI_toInt (by omega)]
    omega
  by_cases h : a < b
  · rw [if_pos (e ▸ h), show a - b = 0 by omega]
  · rw [if_neg (e ▸ h), c_sub (by omega)]
theorem sub_le0 {a b : Nat} (ha : a < 1000000) (hb : b < 1000000) : (nI a - nI b ≤ nI 0) = (a ≤ b) := by
  apply propext
  rw [Int32.le_iff_toInt_le, pk_sub_toInt (by omega) (by omega), nI_toInt (by omega)]
  omega
theorem sub_eq0 {a b : Nat} (ha : a < 1000000) (hb : b < 1000000) : (nI a - nI b = nI 0) = (a = b) := by
  apply propext
  rw [← Int32.toInt_inj, pk_sub_toInt (by omega) (by omega), nI_toInt (by omega)]
  omega
theorem sub_lt0 {a b : Nat} (ha : a < 1000000) (hb : b < 1000000) : (nI a - nI b < nI 0) = (a < b) := by
  apply propext
  rw [Int32.lt_iff_toInt_lt, pk_sub_toInt (by omega) (by omega), nI_toInt (by omega)]
  omega
theorem sub_le {a b c : Nat} (ha : a < 1000000) (hb : b < 1000000) (hc : c < 1000000) : (nI a - nI b ≤ nI c) = (a ≤ b + c) := by
  apply propext
  rw [Int32.le_iff_toInt_le, pk_sub_toInt (by omega) (by omega), nI_toInt (by omega)]
  omega
theorem neg_sub (x y : Int32) : -(x - y) = y - x := by
  apply Int32.toBitVec_inj.mp
  simp [BitVec.neg_sub]
theorem sub_le_sub {a b c d : Nat} (ha : a < 1000000) (hb : b < 1000000) (hc : c < 1000000) (hd : d < 1000000) : (nI a - nI b ≤ nI c - nI d) = (a + d ≤ b + c) := by
  apply propext
  rw [Int32.le_iff_toInt_le, pk_sub_toInt (by omega) (by omega), pk_sub_toInt (by omega) (by omega)]
  omega
theorem sub0 (a : Nat) : nI a - nI 0 = nI a := by rw [c_sub (by omega)]; rfl
section S
variable {σ τ : SS} {n np : Nat} {F Pw : Nat → Nat → Nat} {U od un : Nat → Nat}
theorem x_isSawn {s a : Nat} (hs : s < 4096) (h : σ.1 17 7 = nI s) (ha : a ≤ 12) : f5_isSawn (plI a) σ = some (bI (sawB s a)) := by
  unfold f5_isSawn
  rw [show (17 + 0 : Nat) = 17 from rfl, h]
  by_cases h12 : a = 12
  · subst h12
    rw [x_hasN (by rw [plI_12]; decide), bd_e, gd_t (Or.inl rfl)]
    rfl
  · rw [plI_lt (by omega), x_has (by omega) (by omega), bd_e, gd_t (bI_or _)]
    unfold sawB
    simp [h12]
theorem m_isSawn {s a : Nat} (hs : s < 4096) (h : τ.1 7 0 = nI s) (ha : a ≤ 12) : f6_isSawn (nI a) τ = some (bI (sawB s a)) := by
  simp only [f6_isSawn, lt_e, tz0, h]
  by_cases h12 : a = 12
  · subst h12
    rw [if_neg (by decide)]
    rfl
  · rw [if_pos (by rw [l12, c_lt (by omega) (by omega)]; omega), gd_t (iz 3 (by omega)), m_bit (by omega) (by omega), ib1]
    unfold sawB
    simp only [h12, ne_eq, not_false_eq_true, decide_true, Bool.true_and]
    cases s.testBit a <;> rfl
def hol (F Pw : Nat → Nat → Nat) (U : Nat → Nat) (p b : Nat) : Nat := if b = 12 then 10 else (if F 2 b < Pw 1 p then F 3 b else 10) - (if F 4 b = 1 then U 3 - Pw 2 p else 0)
theorem x_tenths (hR : TR n np F Pw) (h : XT σ n np F Pw) (hU : UR U) (hu : XU σ U) {p b : Nat} (hp : p < np) (hb : pl n b) : f5_tenths (nI p) (plI b) σ = some (nI (hol F Pw U p b)) := by
  have hR2 := hR
  obtain ⟨r1, r2, r3, r4⟩ := hR
  rcases hb with hb | rfl
  · have q := r3 b hb
    have q2 := r4 p hp
    have t3 := hU.2.2.2.2.1
    have e1 := x_power hR2 h (w := 1) (by omega) hp
    have e2 := x_power hR2 h (w := 2) (by omega) hp
    have e3 := x_feature hR2 h (w := 2) (by omega) hb
    have e4 := x_feature hR2 h (w := 4) (by omega) hb
    have e5 := x_feature hR2 h (w := 3) (by omega) hb
    have e6 := x_tuned hu (i := 3) (by omega)
    rw [plI_lt (by omega)]
    unfold f5_tenths hol
    simp (disch := omega) only [lt_e, bd_e, bk1_e, bk2_e, bk3_e, bk4_e, bk5_e, bk6_e, l0, l1, l2, l3, l4, l5, l6, l7, l8, l9, l10, l11, l12, l13, c_lt, c_le, c_eq, c_add, c_mul, c_tn, c_inb, c_n1, c_n2, c_n3, c_n4, c_n5, if_false, if_true, e1, e2, e3, e4, e5, e6, max_sub]
    have hb12 : ¬ b = 12 := by omega
    by_cases g1 : F 2 b < Pw 1 p <;> by_cases g2 : F 4 b = 1 <;> simp [g1, g2, hb12, Nat.not_le.mpr] <;> try (intro q9; rw [q9])
  · rfl
/-- what look() put down of a body -/
def MLk (τ : SS) (r wt gr bk : Nat) : Prop := τ.1 0 14 = nI r ∧ τ.1 0 15 = nI wt ∧ τ.1 0 16 = nI gr ∧ τ.1 0 17 = nI bk
theorem m_holdsOn (hR : TR n np F Pw) (h : MT τ n np F Pw) (hU : UR U) (hu : MU τ U) {p b r bk : Nat} (hp : p < np) (hb : pl n b) (hl : MLk τ r (Pw 1 p) (Pw 2 p) bk) : f6_holdsOn (nI b) τ = some (nI (hol F Pw U p b)) := by
  have hR2 := hR
  obtain ⟨r1, r2, r3, r4⟩ := hR
  rcases hb with hb | rfl
  · have q := r3 b hb
    have q2 := r4 p hp
    have t3 := hU.2.2.2.2.1
    have e3 := m_of hR2 h (w := 2) (by omega) hb
    have e4 := m_of hR2 h (w := 4) (by omega) hb
    have e5 := m_of hR2 h (w := 3) (by omega) hb
    have e6 := hu 3 (by omega)
    have mx := fun inst => max_sub2 (fun x => some x) (a := F 3 b) (b := U 3 - Pw 2 p) (by omega) (by omega) (inst := inst)
    have my := fun inst => max_sub2 (fun x => some x) (a := 10) (b := U 3 - Pw 2 p) (by omega) (by omega) (inst := inst)
    have mz := sub_le0 (a := U 3) (b := Pw 2 p) (by omega) (by omega)
    have hb12 : ¬ b = 12 := by omega
    have ms : 10 - (10 - F 3 b) = F 3 b := by omega
    have s1 : nI 10 - nI 0 = nI 10 := sub0 10
    have s2 : nI 10 - (nI 10 - nI (F 3 b)) = nI (F 3 b) := by rw [c_sub (by omega), c_sub (by omega), ms]
    have s3 : ∀ v, nI v - nI 0 = nI v := sub0
    unfold f6_holdsOn hol
    simp (disch := omega) only [lt_e, bd_e, bk1_e, bk2_e, bk3_e, bk4_e, bk5_e, bk6_e, l0, l1, l2, l3, l4, l5, l6, l7, l8, l9, l10, l11, l12, l13, c_lt, c_le, c_eq, c_add, c_mul, c_tn, c_inb, c_n1, c_n2, c_n3, c_n4, c_n5, if_false, if_true, gd_t, hl.2.1, hl.2.2.1, e3, e4, e5, e6, mz, s1, s2, s3]
    by_cases g3 : U 3 ≤ Pw 2 p
    · have z : U 3 - Pw 2 p = 0 := by omega
      by_cases g1 : Pw 1 p ≤ F 2 b <;> by_cases g2 : F 4 b = 1 <;> simp [g1, g2, g3, hb12, z, Nat.not_lt.mpr, Nat.not_le.mp, s1, s2, s3, c_lt (show F 3 b < 2147483648 by omega) (show 0 < 2147483648 by omega), c_lt (show 10 < 2147483648 by omega) (show 0 < 2147483648 by omega)]
    · have c3 : nI (U 3) - nI (Pw 2 p) = nI (U 3 - Pw 2 p) := c_sub (by omega)
      by_cases g1 : Pw 1 p ≤ F 2 b <;> by_cases g2 : F 4 b = 1 <;> simp [g1, g2, g3, hb12, c3, Nat.not_lt.mpr, Nat.not_le.mp, s1, s2, s3, mx, my, c_lt (show F 3 b < 2147483648 by omega) (show 0 < 2147483648 by omega), c_lt (show 10 < 2147483648 by omega) (show 0 < 2147483648 by omega)]
  · rfl
end S
section T
variable {σ τ : SS} {n np : Nat} {F Pw : Nat → Nat → Nat} {U od un : Nat → Nat}
/-- may a body step: from place a to b, with reach r, back bk, these sawn -/
def may (F Pw : Nat → Nat → Nat) (U : Nat → Nat) (s p r bk a b : Nat) : Bool := decide (a ≠ b) && !sawB s a && !sawB s b && (if hF F a < hF F b then decide (hF F b - hF F a ≤ (if a = 12 then r + bk else r)) else decide (hF F a = hF F b) || decide (hF F a - hF F b + U 2 ≤ r)) && (decide (a = 12) || decide (b = 12) || decide (sdA F a b ≤ U 1)) && (decide (b = 12) || decide (Pw 1 p ≤ F 2 b * U 0))
theorem x_featH (hR : TR n np F Pw) (h : XT σ n np F Pw) {a : Nat} (ha : pl n a) : f4_feature (σ.2.2 0) (plI a) (nI 0) σ = some (nI (hF F a)) := by
  have := hR.1
  rcases ha with ha | rfl
  · rw [plI_lt (by omega), x_feature hR h (by omega) ha]
    unfold hF
    rw [if_neg (by omega)]
  · exact x_featureG (w := 0)
theorem hF_le (hR : TR n np F Pw) {a : Nat} (ha : pl n a) : hF F a ≤ 99 := by
  unfold hF
  rcases ha with ha | rfl
  · have := hR.2.2.1 a ha
    by_cases e : a = 12
    · rw [if_pos e]; omega
    · rw [if_neg e]; omega
  · rw [if_pos rfl]; omega
theorem x_inReach (hR : TR n np F Pw) (hU : UR U) (hu : XU σ U) {a b r bk : Nat} (ha : pl n a) (hb : pl n b) (hr : r < 1000) (hbk : bk < 1000) : f5_inReach (nI (hF F b) - nI (hF F a)) (plI a) (nI r) (nI bk) σ = some (bI (if hF F a < hF F b then decide (hF F b - hF F a ≤ (if a = 12 then r + bk else r)) else decide (hF F a = hF F b) || decide (hF F a - hF F b + U 2 ≤ r))) := by
  have h1 := hF_le hR ha
  have h2 := hF_le hR hb
  have h3 := hU.2.2.2.1
  have e6 := x_tuned hu (i := 2) (by omega)
  have z1 := sub_le0 (a := hF F b) (b := hF F a) (by omega) (by omega)
  have z2 := sub_eq0 (a := hF F b) (b := hF F a) (by omega) (by omega)
  have z3 := sub_le_sub (a := hF F a) (b := hF F b) (c := r) (d := U 2) (by omega) (by omega) (by omega) (by omega)
  have z4 := sub_le (a := hF F b) (b := hF F a) (c := r) (by omega) (by omega) (by omega)
  have z5 := sub_le (a := hF F b) (b := hF F a) (c := r + bk) (by omega) (by omega) (by omega)
  have hpl : (plI a = -nI 1) = (a = 12) := by
    rcases ha with ha | rfl
    · have := hR.1
      rw [plI_lt (by omega), c_n4 (by omega)]
      exact propext ⟨False.elim, fun q => by omega⟩
    · exact propext ⟨fun _ => rfl, fun _ => rfl⟩
  unfold f5_inReach
  simp only [lt_e, l0, l1, l2, neg_sub, z1, z2, e6, bd_e, z3, c_add, z4, z5, hpl]
  by_cases g : hF F a < hF F b
  · rw [if_neg (by omega), if_pos g]
    by_cases g2 : a = 12
    · rw [if_pos g2, if_pos g2]
      by_cases g3 : hF F b ≤ hF F a + (r + bk)
      · rw [if_pos g3, show decide (hF F b - hF F a ≤ r + bk) = true from decide_eq_true (by omega)]; rfl
      · rw [if_neg g3, show decide (hF F b - hF F a ≤ r + bk) = false from decide_eq_false (by omega)]; rfl
    · rw [if_neg g2, if_neg g2]
      by_cases g3 : hF F b ≤ hF F a + r
      · rw [if_pos g3, show decide (hF F b - hF F a ≤ r) = true from decide_eq_true (by omega)]; rfl
      · rw [if_neg g3, show decide (hF F b - hF F a ≤ r) = false from decide_eq_false (by omega)]; rfl
  · rw [if_pos (by omega), if_neg g]
    by_cases g2 : hF F b = hF F a
    · rw [if_pos g2, show decide (hF F a = hF F b) = true from decide_eq_true g2.symm]; rfl
    · rw [if_neg g2, show decide (hF F a = hF F b) = false from decide_eq_false (fun q => g2 q.symm)]
      by_cases g3 : hF F a + U 2 ≤ hF F b + r
      · rw [if_pos g3, show decide (hF F a - hF F b + U 2 ≤ r) = true from decide_eq_true (by omega)]; rfl
      · rw [if_neg g3, show decide (hF F a - hF F b + U 2 ≤ r) = false from decide_eq_false (by omega)]; rfl
end T
