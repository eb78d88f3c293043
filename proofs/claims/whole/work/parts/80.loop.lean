/-! all items, both -/
section S
variable {tn : Nat} {tb : Nat → Nat}
theorem PXf.tr {a b c : SS} {D : Nat} (h : PXf a b D) (g : PXf b c D) : PXf a c D := ⟨g.1.trans h.1, fun k j z1 z2 => (g.2 k j z1 z2).trans (h.2 k j z1 z2)⟩
theorem PMf.tr {a b c : SS} (h : PMf a b) (g : PMf b c) : PMf a c := ⟨g.1.trans h.1, fun k j z1 z2 z3 z4 z5 => (g.2 k j z1 z2 z3 z4 z5).trans (h.2 k j z1 z2 z3 z4 z5)⟩
theorem PXf.xx {s s' : SS} {D : Nat} (q : PXf s s' D) (hD : 20 ≤ D) (h : XX s tn tb) : XX s' tn tb := ⟨by rw [q.2 _ _ (by omega) (by omega)]; exact h.1, fun j hj => by rw [q.2 _ _ (by omega) (by omega)]; exact h.2 j hj⟩
theorem PMf.mx {t t' : SS} (q : PMf t t') (h : MX t tn tb) : MX t' tn tb := ⟨by rw [q.2 _ _ (by omega) (by omega) (by omega) (by omega) (by omega)]; exact h.1, fun j hj => by rw [q.2 _ _ (by omega) (by omega) (by omega) (by omega) (by omega)]; exact h.2 j hj⟩
theorem AX.px {s s' : SS} {D : Nat} (h : AX s s') : PXf s s' D := ⟨h.1, fun k j z1 _ => h.2 k j z1⟩
theorem CX.pm {t t' : SS} (h : CX t t') : PMf t t' := ⟨h.1, fun k j z1 _ _ _ _ => h.2 k j z1⟩
theorem DRF.ax {s s' t : SS} {D b q : Nat} {F Pw : Nat → Nat → Nat} (h : DRF s t D b q F Pw) (hD : 20 ≤ D) (g : AX s s') : DRF s' t D b q F Pw := by
  obtain ⟨r, a1, a2, a3, a4, a5⟩ := h
  exact ⟨r, by rw [g.2 _ _ (by omega)]; exact a1, by rw [g.2 _ _ (by omega)]; exact a2, fun w k hw hk => by rw [g.2 _ _ (by omega)]; exact a3 w k hw hk, fun w k hw hk => by rw [g.2 _ _ (by omega)]; exact a4 w k hw hk, a5⟩
def JC (tn : Nat) (D f1 f2 b q : Nat) (s t : SS) : Prop := ∃ s' t', PXf s s' D ∧ PMf t t' ∧ ((∃ x, x ≤ tn ∧ L5_readText_16 f1 (nI (b + q)) s = some (.inr (nI x, s')) ∧ ∃ v, L6_tree_31 f2 (nI (b + q)) t = some (v, t') ∧ t'.1 0 12 = nI x) ∨ (∃ b' q' F' Pw', L5_readText_16 f1 (nI (b + q)) s = some (.inr (-1, s')) ∧ L6_tree_31 f2 (nI (b + q)) t = some (nI (b' + q'), t') ∧ t'.1 0 12 = -9 ∧ DRF s' t' D b' q' F' Pw'))
theorem j_step (hR : XR tn tb) {D : Nat} (hD0 : 20 ≤ D) {p b q f1 f2 : Nat} {F Pw : Nat → Nat → Nat} {s t : SS} (hbq : b + q ≤ 15) (hf : 0 < f2) (hx : XX s tn tb) (hm : MX t tn tb) (hp : p ≤ tn) (hs2 : s.1 2 2 = nI p) (hst : ST t tn tb (.inl p)) (hd : DRF s t D b q F Pw) (hD : D = wB (s.2.2 1)) (nx : ∀ (p' b' q' : Nat) (F' Pw' : Nat → Nat → Nat) (s' t' : SS), b' + q' = b + q + 1 → XX s' tn tb → MX t' tn tb → p' ≤ tn → s'.1 2 2 = nI p' → ST t' tn tb (.inl p') → DRF s' t' D b' q' F' Pw' → D = wB (s'.2.2 1) → JC tn D f1 f2 b' q' s' t') : JC tn D (f1 + 1) (f2 + 1) b q s t := by
  have r0 := hR.1
  have sl := TKs_le (tn := tn) (tb := tb) p
  obtain ⟨g2, rfl⟩ : ∃ g, f2 = g + 1 := ⟨f2 - 1, by omega⟩
  obtain ⟨q3, a1, a2, a3, a4, a5, a6⟩ := x_advance hR hx hp hs2
  have ab := TKa_b (tn := tn) (tb := tb) hp
  have x3 := a2.xx hx
  have d3 := hd.ax hD0 a2
  have D3 : D = wB (q3.2.2 1) := by rw [a2.1]; exact hD
  have m9' : ∀ x, x ≤ tn → ¬ nI x = -9 := fun x hx => m9 (by omega)
  have z0 : (nI 0 : Int32) = 0 := rfl
  -- a dead item
  have dead : ∀ (s' t' : SS) (x : Nat), x ≤ tn → PXf q3 s' D → PMf t t' → t'.1 0 12 = nI x → f6_item (nI (mS (TKs tn tb p))) t = some t' → TKs tn tb p ≠ 0 → L5_readText_16 (f1 + 1) (nI (b + q)) s = some (.inr (nI x, s')) → JC tn D (f1 + 1) (g2 + 1 + 1) b q s t := by
    intro s' t' x hx' hpx hpm h12 hi hn hl
    refine ⟨s', t', a2.px.tr hpx, hpm, Or.inl ⟨x, hx', hl, nI (b + q + 1), ?_, h12⟩⟩
    rw [L6_tree_31, if_pos hst.2.2, if_neg (by rw [hst.2.1.2.2.1, show (0 : Int32) = nI (mS 0) by decide, mS_eq sl (by omega)]; exact hn), hst.2.1.2.2.1, hi, bd_e, nI_1, lt_e, L6_tree_31, if_neg (by rw [h12]; exact m9' x hx')]
  have e15 : nI (b + q) ≤ 15 := by rw [show (15 : Int32) = nI 15 by decide, c_le (by omega) (by omega)]; exact hbq
  by_cases g0 : TKs tn tb p = 0
  · refine ⟨q3, t, a2.px, ⟨rfl, fun _ _ _ _ _ _ _ => rfl⟩, Or.inr ⟨b, q, F, Pw, ?_, ?_, hst.2.2, d3⟩⟩
    · rw [L5_readText_16, if_pos e15, a1, bd_e, a5, g0, if_pos z0]
    · rw [L6_tree_31, if_pos hst.2.2, if_pos (by rw [hst.2.1.2.2.1, g0]; decide)]
  · have n0 : ¬ nI (TKs tn tb p) = 0 := by rw [l0, c_eq (by omega) (by omega)]; exact g0
    have alive : ∀ (s' t' : SS) (p' b' q' : Nat) (F' Pw' : Nat → Nat → Nat), b' + q' = b + q + 1 → PXf q3 s' D → PMf t t' → p' ≤ tn → s'.1 2 2 = nI p' → ST t' tn tb (.inl p') → DRF s' t' D b' q' F' Pw' → f6_item (nI (mS (TKs tn tb p))) t = some t' → L5_readText_16 (f1 + 1) (nI (b + q)) s = L5_readText_16 f1 (nI (b + q + 1)) s' → JC tn D (f1 + 1) (g2 + 1 + 1) b q s t := by
      intro s' t' p' b' q' F' Pw' hbq' hpx hpm hp' h2' hst' hd' hi hl
      obtain ⟨s2, t2, c1, c2, c3⟩ := nx p' b' q' F' Pw' s' t' hbq' (hpx.xx hD0 x3) (hpm.mx hm) hp' h2' hst' hd' (by rw [hpx.1]; exact D3)
      have hl6 : L6_tree_31 (g2 + 1 + 1) (nI (b + q)) t = L6_tree_31 (g2 + 1) (nI (b + q + 1)) t' := by
        rw [L6_tree_31, if_pos hst.2.2, if_neg (by rw [hst.2.1.2.2.1, show (0 : Int32) = nI (mS 0) by decide, mS_eq sl (by omega)]; exact g0), hst.2.1.2.2.1, hi, bd_e, nI_1, lt_e]
      rw [hbq'] at c3
      refine ⟨s2, t2, a2.px.tr (hpx.tr c1), hpm.tr c2, ?_⟩
      rw [hl, hl6]
      exact c3
    have i1 : (nI (mS 3) : Int32) = 1 := by decide
    have i4 : (nI (mS 6) : Int32) = 4 := by decide
    by_cases g3 : TKs tn tb p = 3
    · have hcb : q3.1 (wB (q3.2.2 1)) 0 = nI b := by rw [← D3]; exact d3.2.1
      by_cases hb : b < 12
      · obtain ⟨r, s', t', k1, k2, k3, k4, k5⟩ := j_branch hR x3 hm hp a3 hst g3 D3 d3 hb
        rcases k5 with ⟨rfl, x, k6, k7⟩ | ⟨rfl, p', F', k6, k7, k8, k9⟩
        · refine dead s' t' x k7.1 k3 k4 k7.2 (by rw [g3, i1]; exact k2) g0 ?_
          rw [L5_readText_16, if_pos e15, a1, bd_e, a5, if_neg n0]
          simp only [lt_e]
          rw [if_pos (by rw [g3]; rfl), hcb, k1, bk2_e, if_pos (by decide), k6]
        · refine alive s' t' p' (b + 1) q F' Pw (by omega) k3 k4 k7 k6 k8 k9 (by rw [g3, i1]; exact k2) ?_
          rw [L5_readText_16, if_pos e15, a1, bd_e, a5, if_neg n0]
          simp only [lt_e]
          rw [if_pos (by rw [g3]; rfl), hcb, k1, bk2_e, if_neg (by decide), nI_1]
      · have eb : b = 12 := by have := hd.1.1; omega
        obtain ⟨t', k1, k2, k3⟩ := m_itemF hR hst (a := 1) (Or.inl ⟨rfl, by rw [← eb]; exact hd.2.2.2.2.2.1⟩)
        have kb : f5_readBranch (nI b) q3 = some (0, q3) := by unfold f5_readBranch; rw [eb, if_neg (by decide)]
        refine dead q3 t' (TKa tn tb p) ab.2 ⟨rfl, fun _ _ _ _ => rfl⟩ k2.pm k3.2 (by rw [g3, i1]; exact k1) g0 ?_
        rw [L5_readText_16, if_pos e15, a1, bd_e, a5, if_neg n0]
        simp only [lt_e]
        rw [if_pos (by rw [g3]; rfl), hcb, kb, bk2_e, if_pos rfl, a4]
    · have n3 : ¬ nI (TKs tn tb p) = 3 := by rw [l3, c_eq (by omega) (by omega)]; exact g3
      by_cases g6 : TKs tn tb p = 6
      · have hcb : q3.1 (wB (q3.2.2 1)) 1 = nI q := by rw [← D3]; exact d3.2.2.1
        by_cases hb : q < 3
        · obtain ⟨r, s', t', k1, k2, k3, k4, k5⟩ := j_body hR x3 hm hp a3 hst g6 D3 d3 hb
          rcases k5 with ⟨rfl, x, k6, k7⟩ | ⟨rfl, p', F', k6, k7, k8, k9⟩
          · refine dead s' t' x k7.1 k3 k4 k7.2 (by rw [g6, i4]; exact k2) g0 ?_
            rw [L5_readText_16, if_pos e15, a1, bd_e, a5, if_neg n0]
            simp only [lt_e]
            rw [if_neg n3, if_pos (by rw [g6]; rfl), hcb, k1, bk2_e, if_pos (by decide), if_true, k6]
          · refine alive s' t' p' b (q + 1) F F' (by omega) k3 k4 k7 k6 k8 k9 (by rw [g6, i4]; exact k2) ?_
            rw [L5_readText_16, if_pos e15, a1, bd_e, a5, if_neg n0]
            simp only [lt_e]
            rw [if_neg n3, if_pos (by rw [g6]; rfl), hcb, k1, bk2_e, if_neg (by decide), if_neg (by decide), nI_1]
        · have eb : q = 3 := by have := hd.1.2.1; omega
          obtain ⟨t', k1, k2, k3⟩ := m_itemF hR hst (a := 4) (Or.inr (Or.inl ⟨rfl, by rw [← eb]; exact hd.2.2.2.2.2.2.1⟩))
          have kb : f5_readBody (nI q) q3 = some (0, q3) := by unfold f5_readBody; rw [eb, if_neg (by decide)]
          refine dead q3 t' (TKa tn tb p) ab.2 ⟨rfl, fun _ _ _ _ => rfl⟩ k2.pm k3.2 (by rw [g6, i4]; exact k1) g0 ?_
          rw [L5_readText_16, if_pos e15, a1, bd_e, a5, if_neg n0]
          simp only [lt_e]
          rw [if_neg n3, if_pos (by rw [g6]; rfl), hcb, kb, bk2_e, if_pos rfl, if_true, a4]
      · have n6 : ¬ nI (TKs tn tb p) = 6 := by rw [l6, c_eq (by omega) (by omega)]; exact g6
        obtain ⟨t', k1, k2, k3⟩ := m_itemF hR hst (a := nI (mS (TKs tn tb p))) (Or.inr (Or.inr ⟨fun e => g3 ((mS_eq (c := 3) sl (by omega)) ▸ (e.trans i1.symm)), fun e => g6 ((mS_eq (c := 6) sl (by omega)) ▸ (e.trans i4.symm))⟩))
        refine dead q3 t' (TKa tn tb p) ab.2 ⟨rfl, fun _ _ _ _ => rfl⟩ k2.pm k3.2 k1 g0 ?_
        rw [L5_readText_16, if_pos e15, a1, bd_e, a5, if_neg n0]
        simp only [lt_e]
        rw [if_neg n3, if_neg n6, if_true, a4]
theorem j_loop (hR : XR tn tb) {D : Nat} (hD0 : 20 ≤ D) : ∀ (d p b q f1 f2 : Nat) (F Pw : Nat → Nat → Nat) (s t : SS), b + q + d = 16 → d < f1 → d < f2 → 0 < d → XX s tn tb → MX t tn tb → p ≤ tn → s.1 2 2 = nI p → ST t tn tb (.inl p) → DRF s t D b q F Pw → D = wB (s.2.2 1) → JC tn D f1 f2 b q s t := by
  intro d
  induction d with
  | zero => intro p b q f1 f2 F Pw s t h1 h2 h3 h4; omega
  | succ d ih =>
    intro p b q f1 f2 F Pw s t h1 h2 h3 h4 hx hm hp hs2 hst hd hD
    obtain ⟨f1, rfl⟩ : ∃ g, f1 = g + 1 := ⟨f1 - 1, by omega⟩
    obtain ⟨f2, rfl⟩ : ∃ g, f2 = g + 1 := ⟨f2 - 1, by omega⟩
    refine j_step hR hD0 (by omega) (by omega) hx hm hp hs2 hst hd hD (fun p' b' q' F' Pw' s' t' e y1 y2 y3 y4 y5 y6 y7 => ?_)
    have r1 := y6.1.1
    have r2 := y6.1.2.1
    exact ih p' b' q' f1 f2 F' Pw' s' t' (by omega) (by omega) (by omega) (by omega) y1 y2 y3 y4 y5 y6 y7
end S
