/-! THE ABSTRACT STATE and its two pictures -/
def TR (n np : Nat) (F Pw : Nat → Nat → Nat) : Prop := n ≤ 12 ∧ np ≤ 3 ∧ (∀ k, k < n → 1 ≤ F 0 k ∧ F 0 k ≤ 99 ∧ F 1 k ≤ 7 ∧ 1 ≤ F 2 k ∧ F 2 k ≤ 30 ∧ F 3 k ≤ 10 ∧ F 4 k ≤ 1 ∧ F 5 k ≤ 1) ∧ ∀ p, p < np → 1 ≤ Pw 0 p ∧ Pw 0 p ≤ 30 ∧ 1 ≤ Pw 1 p ∧ Pw 1 p ≤ 99 ∧ Pw 2 p ≤ 9
abbrev wd (σ : SS) : Nat := wB (σ.2.2 0)
def XT (σ : SS) (n np : Nat) (F Pw : Nat → Nat → Nat) : Prop := σ.1 (wd σ) 0 = nI n ∧ σ.1 (wd σ) 1 = nI np ∧ (∀ w k, w < 6 → k < n → σ.1 (wd σ + 2 + w) k = nI (F w k)) ∧ ∀ w p, w < 3 → p < np → σ.1 (wd σ + 9 + w) p = nI (Pw w p)
def MT (τ : SS) (n np : Nat) (F Pw : Nat → Nat → Nat) : Prop := τ.1 2 0 = nI n ∧ τ.1 4 0 = nI np ∧ (∀ w k, w < 6 → k < n → τ.1 3 (6 * k + w) = nI (F w k)) ∧ ∀ w p, w < 3 → p < np → τ.1 5 (3 * p + w) = nI (Pw w p)
def UR (U : Nat → Nat) : Prop := 1 ≤ U 0 ∧ U 0 ≤ 9 ∧ U 1 ≤ 4 ∧ U 2 ≤ 9 ∧ U 3 ≤ 10 ∧ 1 ≤ U 4 ∧ U 4 ≤ 9 ∧ U 5 ≤ 20
def XU (σ : SS) (U : Nat → Nat) : Prop := ∀ i, i < 6 → σ.1 1 i = nI (U i)
def MU (τ : SS) (U : Nat → Nat) : Prop := ∀ i, i < 6 → τ.1 6 i = nI (U i)
section A
variable {σ τ : SS} {n np : Nat} {F Pw : Nat → Nat → Nat} {U : Nat → Nat}
theorem x_feature (hR : TR n np F Pw) (h : XT σ n np F Pw) {w k : Nat} (hw : w < 6) (hk : k < n) : f4_feature (σ.2.2 0) (nI k) (nI w) σ = some (nI (F w k)) := by
  have := hR.1
  unfold f4_feature
  simp (disch := omega) only [lt_e, bd_e, bk1_e, bk2_e, bk3_e, bk4_e, bk5_e, bk6_e, l0, l1, l2, l3, l4, l5, l6, l7, l8, l9, l10, l11, l12, l13, c_lt, c_le, c_eq, c_add, c_mul, c_tn, c_inb, c_n1, c_n2, c_n3, c_n4, c_n5, if_false, if_true, gd_t]
  rw [if_neg (by omega), if_pos (by omega), if_neg (by omega), if_pos (by omega), h.2.2.1 w k hw hk]
theorem x_featureG {w : Nat} : f4_feature (σ.2.2 0) (-1) (nI w) σ = some 0 := by
  simp only [f4_feature, lt_e]
  rw [if_pos (by decide)]
theorem x_power (hR : TR n np F Pw) (h : XT σ n np F Pw) {w p : Nat} (hw : w < 3) (hp : p < np) : f4_power (σ.2.2 0) (nI p) (nI w) σ = some (nI (Pw w p)) := by
  have := hR.2.1
  unfold f4_power
  simp (disch := omega) only [lt_e, bd_e, bk1_e, bk2_e, bk3_e, bk4_e, bk5_e, bk6_e, l0, l1, l2, l3, l4, l5, l6, l7, l8, l9, l10, l11, l12, l13, c_lt, c_le, c_eq, c_add, c_mul, c_tn, c_inb, c_n1, c_n2, c_n3, c_n4, c_n5, if_false, if_true, gd_t]
  rw [if_neg (by omega), if_pos (by omega), if_neg (by omega), if_pos (by omega), h.2.2.2 w p hw hp]
theorem x_isBranch (hR : TR n np F Pw) (h : XT σ n np F Pw) (a : Int32) : f5_isBranch a σ = some (if 0 ≤ a ∧ a < nI n then 1 else 0) := by
  simp only [f5_isBranch, lt_e]
  rw [h.1]
  by_cases h1 : a < 0
  · rw [if_pos h1, if_neg (fun q => absurd h1 (Int32.not_lt.mpr q.1))]
  · rw [if_neg h1]
    by_cases h2 : a < nI n
    · rw [if_pos h2, if_pos ⟨Int32.not_lt.mp h1, h2⟩]
    · rw [if_neg h2, if_neg (fun q => h2 q.2)]
theorem x_isBody (hR : TR n np F Pw) (h : XT σ n np F Pw) (a : Int32) : f5_isBody a σ = some (if 0 ≤ a ∧ a < nI np then 1 else 0) := by
  simp only [f5_isBody, lt_e]
  rw [h.2.1]
  by_cases h1 : a < 0
  · rw [if_pos h1, if_neg (fun q => absurd h1 (Int32.not_lt.mpr q.1))]
  · rw [if_neg h1]
    by_cases h2 : a < nI np
    · rw [if_pos h2, if_pos ⟨Int32.not_lt.mp h1, h2⟩]
    · rw [if_neg h2, if_neg (fun q => h2 q.2)]
end A
