/-! the class: readBranch, readBody -/
section S
variable {s : SS} {tn : Nat} {tb : Nat → Nat}
/-- the text's marks, the draft's counts, and one place of its rows changed -/
def D9 (s s1 : SS) (b q : Nat) : Prop := s1.2 = s.2 ∧ ∀ k j, (k ≠ 2 ∨ j < 2) → (k ≠ wB (s.2.2 1) ∨ 1 < j) → ((k < wB (s.2.2 1) + 2 ∨ wB (s.2.2 1) + 7 < k) ∨ j ≠ b) → ((k < wB (s.2.2 1) + 9 ∨ wB (s.2.2 1) + 11 < k) ∨ j ≠ q) → s1.1 k j = s.1 k j
theorem x_setF {b w : Nat} (hb : b < 12) (hw : w < 6) (v : Int32) (fl : Bool) : f4_setFeature fl (nI b) (nI w) v s = some (sI s (wB fl + 2 + w) b v) := by
  have hin6 : inb (nI w) 6 := by rw [c_inb (by omega)]; omega
  have hin12 : inb (nI b) 12 := by rw [c_inb (by omega)]; omega
  unfold f4_setFeature
  rw [if_neg (nI_pos (by omega)), if_pos (by rw [l12, c_lt (by omega) (by omega)]; exact hb), if_neg (nI_pos (by omega)), if_pos (by rw [l6, c_lt (by omega) (by omega)]; omega), gd_t hin6, gd_t hin12, c_tn (by omega), c_tn (by omega), lt_e]
/-- the four numbers of a branch -/
theorem x_nums4 (hR : XR tn tb) (hx : XX s tn tb) {p b : Nat} (hp : p ≤ tn) (h2 : s.1 2 2 = nI p) (hb : b < 12) : ∃ s1, (s1.2 = s.2 ∧ ∀ k j, (k ≠ 2 ∨ j < 2) → (k < wB (s.2.2 1) + 2 ∨ wB (s.2.2 1) + 5 < k ∨ j ≠ b) → s1.1 k j = s.1 k j) ∧ match nS tn tb (nS tn tb (nS tn tb (nS tn tb (.inl p) 1 99) 0 7) 1 30) 0 10 with
    | .inr x => L5_readBranch_10 (nI b) FU 0 s = some (.inr (0, s1)) ∧ s1.1 2 3 = nI x
    | .inl p4 => L5_readBranch_10 (nI b) FU 0 s = some (.inl s1) ∧ s1.1 2 2 = nI p4 ∧ p4 ≤ tn ∧ ∃ p1 p2 p3, nS tn tb (.inl p) 1 99 = .inl p1 ∧ nS tn tb (.inl p1) 0 7 = .inl p2 ∧ nS tn tb (.inl p2) 1 30 = .inl p3 ∧ okN tn tb 1 99 p = true ∧ okN tn tb 0 7 p1 = true ∧ okN tn tb 1 30 p2 = true ∧ okN tn tb 0 10 p3 = true ∧ s1.1 (wB (s.2.2 1) + 2) b = nI (TKv tn tb p) ∧ s1.1 (wB (s.2.2 1) + 3) b = nI (TKv tn tb p1) ∧ s1.1 (wB (s.2.2 1) + 4) b = nI (TKv tn tb p2) ∧ s1.1 (wB (s.2.2 1) + 5) b = nI (TKv tn tb p3) := by
  obtain ⟨D, hD⟩ : ∃ D, D = wB (s.2.2 1) := ⟨_, rfl⟩
  have hD0 := (wB_ge (s.2.2 1)).1
  have b1 := (TKe_b (tn := tn) (tb := tb) hp).2
  have b2 := (TKe_b (tn := tn) (tb := tb) b1).2
  have b3 := (TKe_b (tn := tn) (tb := tb) b2).2
  have b4 := (TKe_b (tn := tn) (tb := tb) b3).2
  have nt : ∀ {lo hi q : Nat}, okN tn tb lo hi q = true → nS tn tb (.inl q) lo hi = .inl (TKe tn tb q) := fun h => nst_t h
  have nf : ∀ {lo hi q : Nat}, okN tn tb lo hi q = false → nS tn tb (.inl q) lo hi = .inr (TKa tn tb q) := fun h => nst_f (by rw [h]; simp)
  have nr : ∀ {lo hi x : Nat}, nS tn tb (.inr x) lo hi = .inr x := rfl
  have e5000 : FU = 4999 + 1 := rfl
  obtain ⟨s1, d1, c1⟩ := x_nb1 hR hx hp h2 hb (w := 0) (lo := 1) (hi := 99) (by omega) rfl rfl (by omega) (by omega) 4999
  rw [← hD] at d1 c1 hD0 ⊢
  rcases c1 with ⟨o1, l1, m1, v1⟩ | ⟨o1, l1, m1⟩
  · have x1 := d1.xx (by omega) hx
    have w1 : wB (s1.2.2 1) = D := by rw [d1.1, hD]
    obtain ⟨s2, d2, c2⟩ := x_nb1 hR x1 b1 m1 hb (w := 1) (lo := 0) (hi := 7) (by omega) rfl rfl (by omega) (by omega) 4998
    rw [w1] at d2 c2
    rcases c2 with ⟨o2, l2, m2, v2⟩ | ⟨o2, l2, m2⟩
    · have x2 := d2.xx (by omega) x1
      have w2 : wB (s2.2.2 1) = D := by rw [d2.1, w1]
      obtain ⟨s3, d3, c3⟩ := x_nb1 hR x2 b2 m2 hb (w := 2) (lo := 1) (hi := 30) (by omega) rfl rfl (by omega) (by omega) 4997
      rw [w2] at d3 c3
      rcases c3 with ⟨o3, l3, m3, v3⟩ | ⟨o3, l3, m3⟩
      · have x3 := d3.xx (by omega) x2
        have w3 : wB (s3.2.2 1) = D := by rw [d3.1, w2]
        obtain ⟨s4, d4, c4⟩ := x_nb1 hR x3 b3 m3 hb (w := 3) (lo := 0) (hi := 10) (by omega) rfl rfl (by omega) (by omega) 4996
        rw [w3] at d4 c4
        have fr : s4.2 = s.2 ∧ ∀ k j, (k ≠ 2 ∨ j < 2) → (k < D + 2 ∨ D + 5 < k ∨ j ≠ b) → s4.1 k j = s.1 k j := ⟨by rw [d4.1, d3.1, d2.1, d1.1], fun k j z1 z2 => by rw [d4.2 k j z1 (by omega), d3.2 k j z1 (by omega), d2.2 k j z1 (by omega), d1.2 k j z1 (by omega)]⟩
        rcases c4 with ⟨o4, l4, m4, v4⟩ | ⟨o4, l4, m4⟩
        · refine ⟨s4, fr, ?_⟩
          rw [nt o1, nt o2, nt o3, nt o4]
          refine ⟨?_, m4, b4, _, _, _, rfl, nt o2, nt o3, o1, o2, o3, o4, ?_, ?_, ?_, v4⟩
          · show L5_readBranch_10 (nI b) (4999 + 1) (nI 0) s = _
            rw [l1, l2, l3, l4]
            show L5_readBranch_10 (nI b) (4995 + 1) (nI 4) s4 = _
            rw [L5_readBranch_10, if_neg (by decide)]
          · rw [d4.2 _ _ (by omega) (by omega), d3.2 _ _ (by omega) (by omega), d2.2 _ _ (by omega) (by omega)]; exact v1
          · rw [d4.2 _ _ (by omega) (by omega), d3.2 _ _ (by omega) (by omega)]; exact v2
          · rw [d4.2 _ _ (by omega) (by omega)]; exact v3
        · refine ⟨s4, fr, ?_⟩
          rw [nt o1, nt o2, nt o3, nf o4]
          refine ⟨?_, m4⟩
          show L5_readBranch_10 (nI b) (4999 + 1) (nI 0) s = _
          rw [l1, l2, l3, l4]
      · refine ⟨s3, ⟨by rw [d3.1, d2.1, d1.1], fun k j z1 z2 => by rw [d3.2 k j z1 (by omega), d2.2 k j z1 (by omega), d1.2 k j z1 (by omega)]⟩, ?_⟩
        rw [nt o1, nt o2, nf o3, nr]
        refine ⟨?_, m3⟩
        show L5_readBranch_10 (nI b) (4999 + 1) (nI 0) s = _
        rw [l1, l2, l3]
    · refine ⟨s2, ⟨by rw [d2.1, d1.1], fun k j z1 z2 => by rw [d2.2 k j z1 (by omega), d1.2 k j z1 (by omega)]⟩, ?_⟩
      rw [nt o1, nf o2, nr, nr]
      refine ⟨?_, m2⟩
      show L5_readBranch_10 (nI b) (4999 + 1) (nI 0) s = _
      rw [l1, l2]
  · refine ⟨s1, ⟨d1.1, fun k j z1 z2 => d1.2 k j z1 (by omega)⟩, ?_⟩
    rw [nf o1, nr, nr, nr]
    exact ⟨l1, m1⟩
end S
