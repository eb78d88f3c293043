/-! small things of both sides -/
def ok (a : Int32) (n : Nat) : Bool := decide (0 ≤ a ∧ a < nI n)
theorem ok_nI {k n : Nat} (hn : n < 1000) (hk : k < n) : ok (nI k) n = true := by
  unfold ok
  simp (disch := omega) only [lt_e, bd_e, bk1_e, bk2_e, bk3_e, bk4_e, bk5_e, bk6_e, l0, l1, l2, l3, l4, l5, l6, l7, l8, l9, l10, l11, l12, l13, c_lt, c_le, c_eq, c_add, c_mul, c_tn, c_inb, c_n1, c_n2, c_n3, c_n4, c_n5, if_false, if_true, decide_eq_true_eq]
  omega
theorem ok_cases (a : Int32) {n : Nat} (hn : n < 1000) : ok a n = false ∨ ∃ k, k < n ∧ a = nI k ∧ ok a n = true := by
  by_cases h : 0 ≤ a ∧ a < nI n
  · obtain ⟨j, hj, rfl⟩ := nI_of (Int32.not_lt.mpr h.1)
    have h2 : j < n := (nI_ltI hj (by omega)).mp h.2
    exact Or.inr ⟨j, h2, rfl, ok_nI hn h2⟩
  · exact Or.inl (by unfold ok; simp [h])
theorem ok_m1 (n : Nat) : ok (-1) n = false := by
  unfold ok
  rw [decide_eq_false_iff_not]
  intro q
  exact absurd q.1 (by decide)
theorem le_sub1 {a : Int32} {n : Nat} (h : n < 1000) : (a ≤ nI n - nI 1) = (a < nI n) := by
  apply propext
  rw [Int32.le_iff_toInt_le, Int32.lt_iff_toInt_lt, pk_sub_toInt (by omega) (by omega), nI_toInt (by omega)]
  omega
theorem ite_bI (c : Prop) [Decidable c] : (if c then (1 : Int32) else 0) = bI (decide c) := by
  by_cases h : c <;> simp [h, bI]
theorem bI_z (b : Bool) : (bI b = 0) = (b = false) := by cases b <;> simp [bI]
theorem bI_o (b : Bool) : (bI b = 1) = (b = true) := by cases b <;> simp [bI]
theorem ib0 {α : Type} {b : Bool} {x y : α} {inst : Decidable (bI b = 0)} : (if bI b = 0 then x else y) = bif b then y else x := by cases b <;> simp [bI]
theorem ib1 {α : Type} {b : Bool} {x y : α} {inst : Decidable (bI b = 1)} : (if bI b = 1 then x else y) = bif b then x else y := by cases b <;> simp [bI]
theorem f6_in_b (a lo hi : Int32) : f6_in a lo hi = some (bI (decide (lo ≤ a ∧ a ≤ hi))) := by rw [f6_in_e, ite_bI]
theorem in_ok {a : Int32} {n : Nat} (h : n < 1000) : decide (0 ≤ a ∧ a ≤ nI n - 1) = ok a n := by
  unfold ok
  have e : (a ≤ nI n - 1) = (a < nI n) := by rw [l1]; exact le_sub1 h
  simp only [e]
theorem bI_or (b : Bool) : bI b = 0 ∨ bI b = 1 := by cases b <;> simp [bI]
theorem tz0 : (0 : Int32).toNatClampNeg = 0 := by decide
theorem tz1 : (1 : Int32).toNatClampNeg = 1 := by decide
theorem tz2 : (2 : Int32).toNatClampNeg = 2 := by decide
theorem tz3 : (3 : Int32).toNatClampNeg = 3 := by decide
theorem tz4 : (4 : Int32).toNatClampNeg = 4 := by decide
theorem tz5 : (5 : Int32).toNatClampNeg = 5 := by decide
theorem iz (n : Nat) (h : 0 < n) : inb 0 n := ⟨by decide, by rw [tz0]; exact h⟩
theorem iz1 (n : Nat) (h : 1 < n) : inb 1 n := ⟨by decide, by rw [tz1]; exact h⟩
theorem iz2 (n : Nat) (h : 2 < n) : inb 2 n := ⟨by decide, by rw [tz2]; exact h⟩
theorem iz3 (n : Nat) (h : 3 < n) : inb 3 n := ⟨by decide, by rw [tz3]; exact h⟩
theorem iz4 (n : Nat) (h : 4 < n) : inb 4 n := ⟨by decide, by rw [tz4]; exact h⟩
theorem iz5 (n : Nat) (h : 5 < n) : inb 5 n := ⟨by decide, by rw [tz5]; exact h⟩
section S
variable {σ τ : SS} {n np : Nat} {F Pw : Nat → Nat → Nat} {U od un : Nat → Nat}
theorem x_isBranch' (hR : TR n np F Pw) (h : XT σ n np F Pw) (a : Int32) : f5_isBranch a σ = some (bI (ok a n)) := by rw [x_isBranch hR h, ite_bI]; rfl
theorem x_isBody' (hR : TR n np F Pw) (h : XT σ n np F Pw) (a : Int32) : f5_isBody a σ = some (bI (ok a np)) := by rw [x_isBody hR h, ite_bI]; rfl
theorem m_isBranch (hR : TR n np F Pw) (h : MT τ n np F Pw) (a : Int32) : f6_isBranch a τ = some (bI (ok a n)) := by
  have := hR.1
  unfold f6_isBranch
  rw [gd_t (iz 2 (by omega)), tz0, h.1, f6_in_b, in_ok (by omega), bd_e, gd_t (bI_or _)]
theorem m_isBody (hR : TR n np F Pw) (h : MT τ n np F Pw) (a : Int32) : f6_isBody a τ = some (bI (ok a np)) := by
  have := hR.2.1
  unfold f6_isBody
  rw [gd_t (iz 2 (by omega)), tz0, h.2.1, f6_in_b, in_ok (by omega), bd_e, gd_t (bI_or _)]
def okp (a : Int32) (n : Nat) : Bool := decide (a = -1) || ok a n
theorem x_isPlace (hR : TR n np F Pw) (h : XT σ n np F Pw) (a : Int32) : f5_isPlace a σ = some (bI (okp a n)) := by
  unfold f5_isPlace okp
  by_cases h1 : a = -1
  · rw [if_pos h1]; simp [h1, bI]
  · rw [if_neg h1, x_isBranch' hR h, bd_e, ib0]
    cases ok a n <;> simp [h1, bI]
theorem m_isPlace (hR : TR n np F Pw) (h : MT τ n np F Pw) (a : Int32) : f6_isPlace a τ = some (bI (okp a n)) := by
  unfold f6_isPlace okp
  by_cases h1 : a = -1
  · rw [if_pos h1]; simp [h1, bI]
  · rw [if_neg h1, m_isBranch hR h, bd_e, ib0]
    cases ok a n <;> simp [h1, bI]
theorem m_of (hR : TR n np F Pw) (h : MT τ n np F Pw) {w k : Nat} (hw : w < 6) (hk : k < n) : f6_of (nI k) (nI w) τ = some (nI (F w k)) := by
  have := hR.1
  unfold f6_of
  simp (disch := omega) only [lt_e, bd_e, bk1_e, bk2_e, bk3_e, bk4_e, bk5_e, bk6_e, l0, l1, l2, l3, l4, l5, l6, l7, l8, l9, l10, l11, l12, l13, c_lt, c_le, c_eq, c_add, c_mul, c_tn, c_inb, c_n1, c_n2, c_n3, c_n4, c_n5, if_false, if_true, gd_t]
  rw [h.2.2.1 w k hw hk]
theorem m_bodyOf (hR : TR n np F Pw) (h : MT τ n np F Pw) {w p : Nat} (hw : w < 3) (hp : p < np) : f6_bodyOf (nI p) (nI w) τ = some (nI (Pw w p)) := by
  have := hR.2.1
  unfold f6_bodyOf
  simp (disch := omega) only [lt_e, bd_e, bk1_e, bk2_e, bk3_e, bk4_e, bk5_e, bk6_e, l0, l1, l2, l3, l4, l5, l6, l7, l8, l9, l10, l11, l12, l13, c_lt, c_le, c_eq, c_add, c_mul, c_tn, c_inb, c_n1, c_n2, c_n3, c_n4, c_n5, if_false, if_true, gd_t]
  rw [h.2.2.2 w p hw hp]
theorem x_tuned (h : XU σ U) {i : Nat} (hi : i < 6) : f5_tuned (nI i) σ = some (nI (U i)) := by
  unfold f5_tuned
  simp (disch := omega) only [lt_e, bd_e, bk1_e, bk2_e, bk3_e, bk4_e, bk5_e, bk6_e, l0, l1, l2, l3, l4, l5, l6, l7, l8, l9, l10, l11, l12, l13, c_lt, c_le, c_eq, c_add, c_mul, c_tn, c_inb, c_n1, c_n2, c_n3, c_n4, c_n5, if_false, if_true, gd_t]
  rw [if_neg (by omega), if_pos (by omega), h i hi]
/-- heights of places: 12 is the ground -/
def hF (F : Nat → Nat → Nat) (a : Nat) : Nat := if a = 12 then 0 else F 0 a
/-- places: a branch, or the ground -/
def pl (n a : Nat) : Prop := a < n ∨ a = 12
/-- the set of SAWN has a place -/
def saw (s a : Nat) : Bool := decide (a ≠ 12) && s.testBit a
end S
theorem okp_cases (a : Int32) {n : Nat} (hn : n ≤ 12) : okp a n = false ∨ ∃ k, pl n k ∧ a = plI k ∧ okp a n = true := by
  by_cases h : a = -1
  · exact Or.inr ⟨12, Or.inr rfl, by rw [h]; rfl, by unfold okp; simp [h]⟩
  · rcases ok_cases a (n := n) (by omega) with h2 | ⟨k, hk, rfl, h2⟩
    · exact Or.inl (by unfold okp; simp [h, h2])
    · refine Or.inr ⟨k, Or.inl hk, ?_, by unfold okp; simp [h2]⟩
      unfold plI
      rw [if_neg (by omega)]
/-! bits -/
theorem sh1 : ∀ n, n < 32 → ((1 : Int32) <<< (nI n &&& 31)) = nI (2 ^ n) := by decide +kernel
theorem all_mask {n : Nat} (hn : n ≤ 12) : ((1 : Int32) <<< (nI n &&& 31)) - 1 = nI (2 ^ n - 1) := by
  rw [sh1 n (by omega), l1, c_sub (Nat.one_le_two_pow)]
