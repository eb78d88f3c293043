/-! one item, both -/
def PXf (s s' : SS) (D : Nat) : Prop := s'.2 = s.2 ∧ ∀ k j, (k ≠ 2 ∨ j < 2) → (k < D ∨ D + 11 < k) → s'.1 k j = s.1 k j
def PMf (t t' : SS) : Prop := t'.2 = t.2 ∧ ∀ k j, (k ≠ 0 ∨ j < 8 ∨ 12 < j) → (k ≠ 2 ∨ j ≠ 1) → (k ≠ 4 ∨ j ≠ 1) → (k ≠ 3 ∨ j < 72) → (k ≠ 5 ∨ j < 9) → t'.1 k j = t.1 k j
theorem okN_r {tn : Nat} {tb : Nat → Nat} {lo hi p : Nat} (h : okN tn tb lo hi p = true) : lo ≤ TKv tn tb p ∧ TKv tn tb p ≤ hi := by
  unfold okN at h
  rw [decide_eq_true_eq] at h
  exact h.2
theorem bI_nI (b : Bool) : bI b = nI (if b = true then 1 else 0) := by cases b <;> rfl
section S
variable {s t : SS} {tn : Nat} {tb : Nat → Nat} {D b q : Nat} {F Pw : Nat → Nat → Nat}
theorem j_branch (hR : XR tn tb) (hx : XX s tn tb) (hm : MX t tn tb) {p : Nat} (hp : p ≤ tn) (h2 : s.1 2 2 = nI (TKe tn tb p)) (h : ST t tn tb (.inl p)) (hs : TKs tn tb p = 3) (hD : D = wB (s.2.2 1)) (hd : DRF s t D b q F Pw) (hb : b < 12) : ∃ (r : Bool) (s' t' : SS), f5_readBranch (nI b) s = some (bI r, s') ∧ f6_item 1 t = some t' ∧ PXf s s' D ∧ PMf t t' ∧ ((r = false ∧ ∃ x, s'.1 2 3 = nI x ∧ ST t' tn tb (.inr x)) ∨ (r = true ∧ ∃ p' F', s'.1 2 2 = nI p' ∧ p' ≤ tn ∧ ST t' tn tb (.inl p') ∧ DRF s' t' D (b + 1) q F' Pw)) := by
  have eb := (TKe_b (tn := tn) (tb := tb) hp).2
  have hD0 := (wB_ge (s.2.2 1)).1
  obtain ⟨r, s', k1, k2, k3⟩ := x_readBranch hR hx eb h2 hb
  obtain ⟨t', v0, v1, v2, v3, v4, v5, m1, m2, m3, m4, n0, n1, n2, n3, n4, n5, o1, o2, o3, o4, o5, o6, e1, e2, e3, e4, e5, e6, st, w0, w1, w2, w3, w4, w5⟩ := m_branch hR hm h hs hd.2.2.2.2.2.1 hb
  rw [← hD] at k2 k3 hD0
  refine ⟨r, s', t', k1, m1, ⟨k2.1, fun k j z1 z2 => k2.2 k j z1 (by omega) (by omega)⟩, ⟨m2, fun k j z1 z2 z3 z4 z5 => m3 k j z1 z2 (by omega)⟩, ?_⟩
  rw [← e1, ← e2, ← e3, ← e4, ← e5, ← e6] at k3
  obtain ⟨o7, ho7⟩ : ∃ o7, o7 = nst tn tb (semi tn tb) o6 := ⟨_, rfl⟩
  rw [← ho7] at k3 st
  cases o7 with
  | inr x => exact Or.inl ⟨k3.1, x, k3.2, st⟩
  | inl p7 =>
    obtain ⟨c1, c2, c3, c4, p1, p2, p3, p4, p5, f1, f2, f3, f4, f5, g1, g2, g3, g4, x0, x1, x2, x3, x4, x5⟩ := k3
    have E1 : o1 = .inl p1 := by first | exact f1 | exact e1.trans f1
    rw [E1, f2] at e2
    rw [e2, f3] at e3
    rw [e3, f4] at e4
    rw [e4, f5] at e5
    have y0 := w0 g1
    have y1 := w1 p1 E1 g2
    have y2 := w2 p2 e2 g3
    have y3 := w3 p3 e3 g4
    have y4 := w4 p4 e4
    have y5 := w5 p5 e5
    have r1 := okN_r g1
    have r2 := okN_r g2
    have r3 := okN_r g3
    have r4 := okN_r g4
    have u : ∀ c : Bool, (if c = true then 1 else 0) ≤ 1 := by decide
    refine Or.inr ⟨c1, p7, _, c2, c3, st, hd.branch (by omega) hb (v := fun w => [TKv tn tb (TKe tn tb p), TKv tn tb p1, TKv tn tb p2, TKv tn tb p3, (if decide (TKs tn tb p4 = 4) = true then 1 else 0), (if decide (TKs tn tb p5 = 5) = true then 1 else 0)].getD w 0) ⟨r1.1, r1.2, r2.2, r3.1, r3.2, r4.2, u _, u _⟩ (fun k j z1 z2 z3 => k2.2 k j z1 z2 z3) (fun k j z1 z2 z3 => m3 k j z1 z2 z3) c4 m4 (fun w hw => ?_) (fun w hw => ?_)⟩
    · have e : w = 0 ∨ w = 1 ∨ w = 2 ∨ w = 3 ∨ w = 4 ∨ w = 5 := by omega
      rcases e with rfl | rfl | rfl | rfl | rfl | rfl
      · exact x0
      · exact x1
      · exact x2
      · exact x3
      · exact x4.trans (bI_nI _)
      · exact x5.trans (bI_nI _)
    · have e : w = 0 ∨ w = 1 ∨ w = 2 ∨ w = 3 ∨ w = 4 ∨ w = 5 := by omega
      rcases e with rfl | rfl | rfl | rfl | rfl | rfl
      · exact n0.trans y0
      · exact n1.trans y1
      · exact n2.trans y2
      · exact n3.trans y3
      · exact (n4.trans y4).trans (bI_nI _)
      · exact (n5.trans y5).trans (bI_nI _)
theorem j_body (hR : XR tn tb) (hx : XX s tn tb) (hm : MX t tn tb) {p : Nat} (hp : p ≤ tn) (h2 : s.1 2 2 = nI (TKe tn tb p)) (h : ST t tn tb (.inl p)) (hs : TKs tn tb p = 6) (hD : D = wB (s.2.2 1)) (hd : DRF s t D b q F Pw) (hb : q < 3) : ∃ (r : Bool) (s' t' : SS), f5_readBody (nI q) s = some (bI r, s') ∧ f6_item 4 t = some t' ∧ PXf s s' D ∧ PMf t t' ∧ ((r = false ∧ ∃ x, s'.1 2 3 = nI x ∧ ST t' tn tb (.inr x)) ∨ (r = true ∧ ∃ p' Pw', s'.1 2 2 = nI p' ∧ p' ≤ tn ∧ ST t' tn tb (.inl p') ∧ DRF s' t' D b (q + 1) F Pw')) := by
  have eb := (TKe_b (tn := tn) (tb := tb) hp).2
  have hD0 := (wB_ge (s.2.2 1)).1
  obtain ⟨r, s', k1, k2, k3⟩ := x_readBody hR hx eb h2 hb
  obtain ⟨t', v0, v1, v2, m1, m2, m3, m4, n0, n1, n2, o1, o2, o3, e1, e2, e3, st, w0, w1, w2⟩ := m_body hR hm h hs hd.2.2.2.2.2.2.1 hb
  rw [← hD] at k2 k3 hD0
  refine ⟨r, s', t', k1, m1, ⟨k2.1, fun k j z1 z2 => k2.2 k j z1 (by omega) (by omega)⟩, ⟨m2, fun k j z1 z2 z3 z4 z5 => m3 k j z1 z3 (by omega)⟩, ?_⟩
  rw [← e1, ← e2, ← e3] at k3
  obtain ⟨o7, ho7⟩ : ∃ o7, o7 = nst tn tb (semi tn tb) o3 := ⟨_, rfl⟩
  rw [← ho7] at k3 st
  cases o7 with
  | inr x => exact Or.inl ⟨k3.1, x, k3.2, st⟩
  | inl p7 =>
    obtain ⟨c1, c2, c3, c4, p1, p2, p3, f1, f2, f3, g1, g2, g3, x0, x1, x2⟩ := k3
    have E1 : o1 = .inl p1 := by first | exact f1 | exact e1.trans f1
    rw [E1, f2] at e2
    have y0 := w0 g1
    have y1 := w1 p1 E1 g2
    have y2 := w2 p2 e2 g3
    have r1 := okN_r g1
    have r2 := okN_r g2
    have r3 := okN_r g3
    refine Or.inr ⟨c1, p7, _, c2, c3, st, hd.body (by omega) hb (v := fun w => [TKv tn tb (TKe tn tb p), TKv tn tb p1, TKv tn tb p2].getD w 0) ⟨r1.1, r1.2, r2.1, r2.2, r3.2⟩ (fun k j z1 z2 z3 => k2.2 k j z1 z2 z3) (fun k j z1 z2 z3 => m3 k j z1 z2 z3) c4 m4 (fun w hw => ?_) (fun w hw => ?_)⟩
    · have e : w = 0 ∨ w = 1 ∨ w = 2 := by omega
      rcases e with rfl | rfl | rfl
      · exact x0
      · exact x1
      · exact x2
    · have e : w = 0 ∨ w = 1 ∨ w = 2 := by omega
      rcases e with rfl | rfl | rfl
      · exact n0.trans y0
      · exact n1.trans y1
      · exact n2.trans y2
end S
