/-! a tree that is refused changes nothing that counts -/
theorem wB_far {b c : Bool} (h : b ≠ c) (i : Nat) (hi : i ≤ 13) : wB b + i < wB c ∨ wB c + 11 < wB b + i := by
  cases b <;> cases c
  · exact absurd rfl h
  · left; show 20 + i < 34; omega
  · right; show 20 + 11 < 34 + i; omega
  · exact absurd rfl h
theorem RR.draft {σ τ σ' τ' : SS} (h : RR σ τ) (hx : PXf σ σ' (wB (σ.2.2 1))) (hm : PMf τ τ') : RR σ' τ' := by
  obtain ⟨⟨n, np, F, Pw, U, od, un, ci, kp, h1, h2⟩, ⟨tn, tb, h3⟩, ⟨en, d1, d2, d3, h4⟩, h5, h6⟩ := h
  have far := wB_far h6.1
  have hD := wB_ge (σ.2.2 1)
  have g1 : ∀ k j, (k ≠ 2 ∨ j < 2) → k < 20 → σ'.1 k j = σ.1 k j := fun k j z1 z2 => hx.2 k j z1 (by omega)
  have e : wd σ' = wd σ := by unfold wd; rw [hx.1]
  have gw : ∀ i j, i ≤ 13 → σ'.1 (wd σ + i) j = σ.1 (wd σ + i) j := fun i j hi => by
    have f := far i hi
    have w := (wB_ge (σ.2.2 0)).1
    exact hx.2 _ _ (Or.inl (by unfold wd; omega)) f
  have gm : ∀ k j, (k ≠ 0 ∨ j < 8 ∨ 12 < j) → (k ≠ 2 ∨ j ≠ 1) → (k ≠ 4 ∨ j ≠ 1) → (k ≠ 3 ∨ j < 72) → (k ≠ 5 ∨ j < 9) → τ'.1 k j = τ.1 k j := hm.2
  refine ⟨⟨n, np, F, Pw, U, od, un, ci, kp, ?_, ?_⟩, ⟨tn, tb, ?_⟩, ⟨en, d1, d2, d3, ?_⟩, by rw [hx.1, hm.1]; exact h5, by unfold XF; rw [hx.1]; exact h6⟩
  · obtain ⟨r, ⟨a1, a2, a3, a4⟩, ⟨b1, b2, b3, b4⟩, u1, u2, u3, o1, ⟨c1, c2⟩⟩ := h1
    have r0 := r.1
    have r1 := r.2.1
    refine ⟨r, ⟨?_, ?_, ?_, ?_⟩, ⟨?_, ?_, ?_, ?_⟩, u1, ?_, ?_, o1, ?_, ?_⟩
    · rw [e]; exact (gw 0 0 (by omega)).trans a1
    · rw [e]; exact (gw 0 1 (by omega)).trans a2
    · intro w k hw hk; rw [e, Nat.add_assoc, gw (2 + w) k (by omega), ← Nat.add_assoc]; exact a3 w k hw hk
    · intro w k hw hk; rw [e, Nat.add_assoc, gw (9 + w) k (by omega), ← Nat.add_assoc]; exact a4 w k hw hk
    · rw [gm _ _ (by omega) (by omega) (by omega) (by omega) (by omega)]; exact b1
    · rw [gm _ _ (by omega) (by omega) (by omega) (by omega) (by omega)]; exact b2
    · intro w k hw hk; rw [gm _ _ (by omega) (by omega) (by omega) (by omega) (by omega)]; exact b3 w k hw hk
    · intro w k hw hk; rw [gm _ _ (by omega) (by omega) (by omega) (by omega) (by omega)]; exact b4 w k hw hk
    · intro i hi; rw [g1 _ _ (by omega) (by omega)]; exact u2 i hi
    · intro i hi; rw [gm _ _ (by omega) (by omega) (by omega) (by omega) (by omega)]; exact u3 i hi
    · intro i hi; rw [e]; exact (gw 12 i (by omega)).trans (c1 i hi)
    · intro i hi; rw [e]; exact (gw 13 i (by omega)).trans (c2 i hi)
  · exact h2.keep (fun k j hk => g1 _ _ (by omega) (by omega)) (fun k j hk => gm _ _ (by omega) (by omega) (by omega) (by omega) (by omega))
  · exact h3.keep (g1 _ _ (by omega) (by omega)) (fun j => g1 _ _ (by omega) (by omega)) (gm _ _ (by omega) (by omega) (by omega) (by omega) (by omega)) (fun j => gm _ _ (by omega) (by omega) (by omega) (by omega) (by omega))
  · exact h4.keep (fun k j hk => g1 _ _ (by omega) (by omega)) (gm _ _ (by omega) (by omega) (by omega) (by omega) (by omega)) (fun k j hk => gm _ _ (by omega) (by omega) (by omega) (by omega) (by omega))
