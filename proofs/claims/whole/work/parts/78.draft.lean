/-! both drafts -/
def DRF (s t : SS) (D b q : Nat) (F Pw : Nat → Nat → Nat) : Prop := TR b q F Pw ∧ s.1 D 0 = nI b ∧ s.1 D 1 = nI q ∧ (∀ w k, w < 6 → k < b → s.1 (D + 2 + w) k = nI (F w k)) ∧ (∀ w k, w < 3 → k < q → s.1 (D + 9 + w) k = nI (Pw w k)) ∧ t.1 2 1 = nI b ∧ t.1 4 1 = nI q ∧ (∀ w k, w < 6 → k < b → t.1 3 (72 + 6 * k + w) = nI (F w k)) ∧ ∀ w k, w < 3 → k < q → t.1 5 (9 + 3 * k + w) = nI (Pw w k)
def upd2 (F : Nat → Nat → Nat) (b : Nat) (v : Nat → Nat) (w k : Nat) : Nat := if k = b then v w else F w k
section S
variable {s t s' t' : SS} {D b q : Nat} {F Pw : Nat → Nat → Nat}
theorem DRF.branch (h : DRF s t D b q F Pw) (hD : 20 ≤ D) (hb : b < 12) {v : Nat → Nat} (hv : 1 ≤ v 0 ∧ v 0 ≤ 99 ∧ v 1 ≤ 7 ∧ 1 ≤ v 2 ∧ v 2 ≤ 30 ∧ v 3 ≤ 10 ∧ v 4 ≤ 1 ∧ v 5 ≤ 1) (fs : ∀ k j, (k ≠ 2 ∨ j < 2) → (k ≠ D ∨ j ≠ 0) → (k < D + 2 ∨ D + 7 < k ∨ j ≠ b) → s'.1 k j = s.1 k j) (ft : ∀ k j, (k ≠ 0 ∨ j < 8 ∨ 12 < j) → (k ≠ 2 ∨ j ≠ 1) → (k ≠ 3 ∨ j < 72 + 6 * b ∨ 72 + 6 * b + 5 < j) → t'.1 k j = t.1 k j) (cs : s'.1 D 0 = nI (b + 1)) (ct : t'.1 2 1 = nI (b + 1)) (vs : ∀ w, w < 6 → s'.1 (D + 2 + w) b = nI (v w)) (vt : ∀ w, w < 6 → t'.1 3 (72 + 6 * b + w) = nI (v w)) : DRF s' t' D (b + 1) q (upd2 F b v) Pw := by
  obtain ⟨⟨r0, r1, r2, r3⟩, a1, a2, a3, a4, a5, a6, a7, a8⟩ := h
  refine ⟨⟨by omega, r1, fun k hk => ?_, r3⟩, cs, ?_, fun w k hw hk => ?_, fun w k hw hk => ?_, ct, ?_, fun w k hw hk => ?_, fun w k hw hk => ?_⟩
  · unfold upd2
    by_cases e : k = b
    · simp only [if_pos e]; exact hv
    · simp only [if_neg e]; exact r2 k (by omega)
  · rw [fs _ _ (by omega) (by omega) (by omega)]; exact a2
  · unfold upd2
    by_cases e : k = b
    · rw [if_pos e, e]; exact vs w hw
    · rw [if_neg e, fs _ _ (by omega) (by omega) (by omega)]; exact a3 w k hw (by omega)
  · rw [fs _ _ (by omega) (by omega) (by omega)]; exact a4 w k hw hk
  · rw [ft _ _ (by omega) (by omega) (by omega)]; exact a6
  · unfold upd2
    by_cases e : k = b
    · rw [if_pos e, e]; exact vt w hw
    · rw [if_neg e, ft _ _ (by omega) (by omega) (by omega)]; exact a7 w k hw (by omega)
  · rw [ft _ _ (by omega) (by omega) (by omega)]; exact a8 w k hw hk
theorem DRF.body (h : DRF s t D b q F Pw) (hD : 20 ≤ D) (hb : q < 3) {v : Nat → Nat} (hv : 1 ≤ v 0 ∧ v 0 ≤ 30 ∧ 1 ≤ v 1 ∧ v 1 ≤ 99 ∧ v 2 ≤ 9) (fs : ∀ k j, (k ≠ 2 ∨ j < 2) → (k ≠ D ∨ j ≠ 1) → (k < D + 9 ∨ D + 11 < k ∨ j ≠ q) → s'.1 k j = s.1 k j) (ft : ∀ k j, (k ≠ 0 ∨ j < 8 ∨ 12 < j) → (k ≠ 4 ∨ j ≠ 1) → (k ≠ 5 ∨ j < 9 + 3 * q ∨ 9 + 3 * q + 2 < j) → t'.1 k j = t.1 k j) (cs : s'.1 D 1 = nI (q + 1)) (ct : t'.1 4 1 = nI (q + 1)) (vs : ∀ w, w < 3 → s'.1 (D + 9 + w) q = nI (v w)) (vt : ∀ w, w < 3 → t'.1 5 (9 + 3 * q + w) = nI (v w)) : DRF s' t' D b (q + 1) F (upd2 Pw q v) := by
  obtain ⟨⟨r0, r1, r2, r3⟩, a1, a2, a3, a4, a5, a6, a7, a8⟩ := h
  refine ⟨⟨r0, by omega, r2, fun k hk => ?_⟩, ?_, cs, fun w k hw hk => ?_, fun w k hw hk => ?_, ?_, ct, fun w k hw hk => ?_, fun w k hw hk => ?_⟩
  · unfold upd2
    by_cases e : k = q
    · simp only [if_pos e]; exact hv
    · simp only [if_neg e]; exact r3 k (by omega)
  · rw [fs _ _ (by omega) (by omega) (by omega)]; exact a1
  · rw [fs _ _ (by omega) (by omega) (by omega)]; exact a3 w k hw hk
  · unfold upd2
    by_cases e : k = q
    · rw [if_pos e, e]; exact vs w hw
    · rw [if_neg e, fs _ _ (by omega) (by omega) (by omega)]; exact a4 w k hw (by omega)
  · rw [ft _ _ (by omega) (by omega) (by omega)]; exact a5
  · rw [ft _ _ (by omega) (by omega) (by omega)]; exact a7 w k hw hk
  · unfold upd2
    by_cases e : k = q
    · rw [if_pos e, e]; exact vt w hw
    · rw [if_neg e, ft _ _ (by omega) (by omega) (by omega)]; exact a8 w k hw (by omega)
end S
