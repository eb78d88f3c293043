/-! the class: readBody -/
section S
variable {s : SS} {tn : Nat} {tb : Nat → Nat}
theorem x_readBody (hR : XR tn tb) (hx : XX s tn tb) {p b : Nat} (hp : p ≤ tn) (h2 : s.1 2 2 = nI p) (hb : b < 3) : ∃ (r : Bool) (s' : SS), f5_readBody (nI b) s = some (bI r, s') ∧ (s'.2 = s.2 ∧ ∀ k j, (k ≠ 2 ∨ j < 2) → (k ≠ wB (s.2.2 1) ∨ j ≠ 1) → (k < wB (s.2.2 1) + 9 ∨ wB (s.2.2 1) + 11 < k ∨ j ≠ b) → s'.1 k j = s.1 k j) ∧ match nst tn tb (semi tn tb) (nS tn tb (nS tn tb (nS tn tb (.inl p) 1 30) 1 99) 0 9) with
    | .inr x => r = false ∧ s'.1 2 3 = nI x
    | .inl p7 => r = true ∧ s'.1 2 2 = nI p7 ∧ p7 ≤ tn ∧ s'.1 (wB (s.2.2 1)) 1 = nI (b + 1) ∧ ∃ p1 p2 p3, nS tn tb (.inl p) 1 30 = .inl p1 ∧ nS tn tb (.inl p1) 1 99 = .inl p2 ∧ nS tn tb (.inl p2) 0 9 = .inl p3 ∧ okN tn tb 1 30 p = true ∧ okN tn tb 1 99 p1 = true ∧ okN tn tb 0 9 p2 = true ∧ s'.1 (wB (s.2.2 1) + 9) b = nI (TKv tn tb p) ∧ s'.1 (wB (s.2.2 1) + 10) b = nI (TKv tn tb p1) ∧ s'.1 (wB (s.2.2 1) + 11) b = nI (TKv tn tb p2) := by
  obtain ⟨D, hD⟩ : ∃ D, D = wB (s.2.2 1) := ⟨_, rfl⟩
  have hD0 := (wB_ge (s.2.2 1)).1
  have b1 := (TKe_b (tn := tn) (tb := tb) hp).2
  have b2 := (TKe_b (tn := tn) (tb := tb) b1).2
  have b3 := (TKe_b (tn := tn) (tb := tb) b2).2
  have nt : ∀ {lo hi q : Nat}, okN tn tb lo hi q = true → nS tn tb (.inl q) lo hi = .inl (TKe tn tb q) := fun h => nst_t h
  have nf : ∀ {lo hi q : Nat}, okN tn tb lo hi q = false → nS tn tb (.inl q) lo hi = .inr (TKa tn tb q) := fun h => nst_f (by rw [h]; simp)
  have nr : ∀ {lo hi x : Nat}, nS tn tb (.inr x) lo hi = .inr x := rfl
  unfold f5_readBody
  rw [if_pos (by rw [l3, c_lt (by omega) (by omega)]; exact hb)]
  obtain ⟨s1, d1, c1⟩ := x_pb1 hR hx hp h2 hb (w := 0) (lo := 1) (hi := 30) (by omega) rfl rfl (by omega) (by omega) 4999
  rw [← hD] at d1 c1 hD0 ⊢
  rcases c1 with ⟨o1, l1', m1, v1⟩ | ⟨o1, l1', m1⟩
  · have x1 := d1.xx (by omega) hx
    have w1 : wB (s1.2.2 1) = D := by rw [d1.1, hD]
    obtain ⟨s2, d2, c2⟩ := x_pb1 hR x1 b1 m1 hb (w := 1) (lo := 1) (hi := 99) (by omega) rfl rfl (by omega) (by omega) 4998
    rw [w1] at d2 c2
    rcases c2 with ⟨o2, l2', m2, v2⟩ | ⟨o2, l2', m2⟩
    · have x2 := d2.xx (by omega) x1
      have w2 : wB (s2.2.2 1) = D := by rw [d2.1, w1]
      obtain ⟨s3, d3, c3⟩ := x_pb1 hR x2 b2 m2 hb (w := 2) (lo := 0) (hi := 9) (by omega) rfl rfl (by omega) (by omega) 4997
      rw [w2] at d3 c3
      have fr : s3.2 = s.2 ∧ ∀ k j, (k ≠ 2 ∨ j < 2) → (k < D + 9 ∨ D + 11 < k ∨ j ≠ b) → s3.1 k j = s.1 k j := ⟨by rw [d3.1, d2.1, d1.1], fun k j z1 z2 => by rw [d3.2 k j z1 (by omega), d2.2 k j z1 (by omega), d1.2 k j z1 (by omega)]⟩
      rcases c3 with ⟨o3, l3', m3, v3⟩ | ⟨o3, l3', m3⟩
      · have x3 := d3.xx (by omega) x2
        obtain ⟨q6, a1, a2, a3, a4, a5, a6⟩ := x_advance hR x3 b3 m3
        have L : L5_readBody_9 (nI b) FU 0 s = some (.inl s3) := by
          show L5_readBody_9 (nI b) (4999 + 1) (nI 0) s = _
          rw [l1', l2', l3']
          show L5_readBody_9 (nI b) (4996 + 1) (nI 3) s3 = _
          rw [L5_readBody_9, if_neg (by decide)]
        have hfl : q6.2.2 1 = s.2.2 1 := by rw [a2.1, fr.1]
        obtain ⟨s', hs'⟩ : ∃ s', s' = sI q6 D 1 (nI (b + 1)) := ⟨_, rfl⟩
        rw [L]
        show ∃ (r : Bool) (s' : SS), bd (f2_advance s3) _ = some (bI r, s') ∧ _
        rw [a1, bd_e, lt_e, hfl, ← hD, nI_1, ← hs', nt o1, nt o2, nt o3]
        have o : ∀ k j, k < 20 → s'.1 k j = q6.1 k j := fun k j hk => by rw [hs', sI_o (by omega)]
        have sl := TKs_le (tn := tn) (tb := tb) (TKe tn tb (TKe tn tb (TKe tn tb p)))
        have fr2 : s'.2 = s.2 ∧ ∀ k j, (k ≠ 2 ∨ j < 2) → (k ≠ D ∨ j ≠ 1) → (k < D + 9 ∨ D + 11 < k ∨ j ≠ b) → s'.1 k j = s.1 k j := ⟨by rw [hs']; show q6.2 = s.2; rw [a2.1, fr.1], fun k j z1 z2 z3 => by rw [hs', sI_o (by omega), a2.2 k j z1, fr.2 k j z1 z3]⟩
        rw [show s'.1 2 4 = _ from (o _ _ (by omega)).trans a5]
        by_cases g : TKs tn tb (TKe tn tb (TKe tn tb (TKe tn tb p))) = 1
        · rw [if_pos (by rw [g]; rfl), nst_t (by unfold semi; exact decide_eq_true g)]
          refine ⟨true, s', rfl, fr2, rfl, by rw [o _ _ (by omega)]; exact a3, (TKe_b (tn := tn) (tb := tb) b3).2, by rw [hs', sI_s], _, _, _, rfl, nt o2, nt o3, o1, o2, o3, ?_, ?_, ?_⟩
          · rw [hs', sI_o (by omega), a2.2 _ _ (by omega), d3.2 _ _ (by omega) (by omega), d2.2 _ _ (by omega) (by omega)]; exact v1
          · rw [hs', sI_o (by omega), a2.2 _ _ (by omega), d3.2 _ _ (by omega) (by omega)]; exact v2
          · rw [hs', sI_o (by omega), a2.2 _ _ (by omega)]; exact v3
        · rw [if_neg (by rw [l1, c_eq (by omega) (by omega)]; exact g), nst_f (by unfold semi; rw [decide_eq_true_eq]; exact g)]
          exact ⟨false, s', rfl, fr2, rfl, by rw [o _ _ (by omega)]; exact a4⟩
      · have L : L5_readBody_9 (nI b) FU 0 s = some (.inr (0, s3)) := by
          show L5_readBody_9 (nI b) (4999 + 1) (nI 0) s = _
          rw [l1', l2', l3']
        rw [L, nt o1, nt o2, nf o3]
        exact ⟨false, s3, rfl, ⟨fr.1, fun k j z1 _ z3 => fr.2 k j z1 z3⟩, rfl, m3⟩
    · have L : L5_readBody_9 (nI b) FU 0 s = some (.inr (0, s2)) := by
        show L5_readBody_9 (nI b) (4999 + 1) (nI 0) s = _
        rw [l1', l2']
      rw [L, nt o1, nf o2, nr]
      exact ⟨false, s2, rfl, ⟨by rw [d2.1, d1.1], fun k j z1 _ z3 => by rw [d2.2 k j z1 (by omega), d1.2 k j z1 (by omega)]⟩, rfl, m2⟩
  · have L : L5_readBody_9 (nI b) FU 0 s = some (.inr (0, s1)) := l1'
    rw [L, nf o1, nr, nr]
    exact ⟨false, s1, rfl, ⟨d1.1, fun k j z1 _ z3 => d1.2 k j z1 (by omega)⟩, rfl, m1⟩
end S
