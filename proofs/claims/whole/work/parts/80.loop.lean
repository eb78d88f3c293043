/-! all items, both -/
section S
variable {tn : Nat} {tb : Nat → Nat}
theorem PXf.tr {a b c : SS} {D : Nat} (h : PXf a b D) (g : PXf b c D) : PXf a c D := ⟨g.1.trans h.1, fun k j z1 z2 => (g.2 k j z1 z2).trans (h.2 k j z1 z2)⟩
theorem PMf.tr {a b c : SS} (h : PMf a b) (g : PMf b c) : PMf a c := ⟨g.1.trans h.1, fun k j z1 z2 z3 z4 z5 => (g.2 k j z1 z2 z3 z4 z5).trans (h.2 k j z1 z2 z3 z4 z5)⟩
theorem PXf.xx {s s' : SS} {D : Nat} (q : PXf s s' D) (hD : 20 ≤ D) (h : XX s tn tb) : XX s' tn tb := ⟨by rw [q.2 _ _ (by omega) (by omega)]; exact h.1, fun j hj => by rw [q.2 _ _ (by omega) (by omega)]; exact h.2 j hj⟩
theorem PMf.mx {t t' : SS} (q : PMf t t') (h : MX t tn tb) : MX t' tn tb := ⟨by rw [q.2 _ _ (by omega) (by omega) (by omega) (by omega) (by omega)]; exact h.1, fun j hj => by rw [q.2 _ _ (by omega) (by omega) (by omega) (by omega) (by omega)]; exact h.2 j hj⟩
theorem AX.px {s s' : SS} {D : Nat} (h : AX s s') : PXf s s' D := ⟨h.1, fun k j z1 _ => h.2 k j z1⟩
theorem CX.pm {t t' : SS} (h : CX t t') : PMf t t' := ⟨h.1, fun k j z1 _ _ _ _ => h.2 k j z1⟩
theorem DRF.ax {s s' t : SS} {D b q : Nat} {F Pw : Nat → Nat → Nat} (h : DRF s t D b q F Pw) (hD : 20 ≤ D) (g : AX s s') : DRF s' t D b q F Pw := by
  obtain ⟨r, a1, a2, a3, a4, a5⟩ := h
  exact ⟨r, by rw [g.2 _ _ (by omega)]; exact a1, by rw [g.2 _ _ (by omega)]; exact a2, fun w k hw hk => by rw [g.2 _ _ (by omega)]; exact a3 w k hw hk, fun w k hw hk => by rw [g.2 _ _ (by omega)]; exact a4 w k hw hk, a5⟩
theorem j_loop (hR : XR tn tb) {D : Nat} (hD0 : 20 ≤ D) : ∀ (d p b q f1 f2 : Nat) (F Pw : Nat → Nat → Nat) (s t : SS), b + q + d = 15 → d < f1 → d + 1 < f2 → XX s tn tb → MX t tn tb → p ≤ tn → s.1 2 2 = nI p → ST t tn tb (.inl p) → DRF s t D b q F Pw → D = wB (s.2.2 1) → ∃ s' t', PXf s s' D ∧ PMf t t' ∧ ((∃ x, x ≤ tn ∧ L5_readText_16 f1 (nI (b + q)) s = some (.inr (nI x, s')) ∧ ∃ v, L6_tree_31 f2 (nI (b + q)) t = some (v, t') ∧ t'.1 0 12 = nI x) ∨ (∃ b' q' F' Pw', L5_readText_16 f1 (nI (b + q)) s = some (.inr (-1, s')) ∧ L6_tree_31 f2 (nI (b + q)) t = some (nI (b' + q'), t') ∧ t'.1 0 12 = -9 ∧ DRF s' t' D b' q' F' Pw')) := by
  have r0 := hR.1
  intro d
  induction d with
  | zero =>
    intro p b q f1 f2 F Pw s t h1 h2 h3 hx hm hp hs2 hst hd hD
    sorry
  | succ d ih =>
    intro p b q f1 f2 F Pw s t h1 h2 h3 hx hm hp hs2 hst hd hD
    sorry
end S
