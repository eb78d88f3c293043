/-! the class: readBranch, readBody -/
section S
variable {s : SS} {tn : Nat} {tb : Nat → Nat}
/-- the text's marks, the draft's counts, and one place of its rows changed -/
def D9 (s s1 : SS) (b q : Nat) : Prop := s1.2 = s.2 ∧ ∀ k j, (k ≠ 2 ∨ j < 2) → (k ≠ wB (s.2.2 1) ∨ 1 < j) → ((k < wB (s.2.2 1) + 2 ∨ wB (s.2.2 1) + 7 < k) ∨ j ≠ b) → ((k < wB (s.2.2 1) + 9 ∨ wB (s.2.2 1) + 11 < k) ∨ j ≠ q) → s1.1 k j = s.1 k j
theorem x_setF {b w : Nat} (hb : b < 12) (hw : w < 6) (v : Int32) (fl : Bool) : f4_setFeature fl (nI b) (nI w) v s = some (sI s (wB fl + 2 + w) b v) := by
  have hin6 : inb (nI w) 6 := by rw [c_inb (by omega)]; omega
  have hin12 : inb (nI b) 12 := by rw [c_inb (by omega)]; omega
  unfold f4_setFeature
  rw [if_neg (nI_pos (by omega)), if_pos (by rw [l12, c_lt (by omega) (by omega)]; exact hb), if_neg (nI_pos (by omega)), if_pos (by rw [l6, c_lt (by omega) (by omega)]; omega), gd_t hin6, gd_t hin12, c_tn (by omega), c_tn (by omega), lt_e]
/-- the four numbers of a branch -/
theorem x_nums4 (hR : XR tn tb) (hx : XX s tn tb) {p b : Nat} (hp : p ≤ tn) (h2 : s.1 2 2 = nI p) (hb : b < 12) : ∃ s1, (s1.2 = s.2 ∧ ∀ k j, (k ≠ 2 ∨ j < 2) → (k < wB (s.2.2 1) + 2 ∨ wB (s.2.2 1) + 5 < k ∨ j ≠ b) → s1.1 k j = s.1 k j) ∧ match nS tn tb (nS tn tb (nS tn tb (nS tn tb (.inl p) 1 99) 0 7) 1 30) 0 10 with
    | .inr x => L5_readBranch_10 (nI b) FU 0 s = some (.inr (0, s1)) ∧ s1.1 2 3 = nI x
    | .inl p4 => L5_readBranch_10 (nI b) FU 0 s = some (.inl s1) ∧ s1.1 2 2 = nI p4 ∧ p4 ≤ tn ∧ ∃ p1 p2 p3, nS tn tb (.inl p) 1 99 = .inl p1 ∧ nS tn tb (.inl p1) 0 7 = .inl p2 ∧ nS tn tb (.inl p2) 1 30 = .inl p3 ∧ okN tn tb 1 99 p = true ∧ okN tn tb 0 7 p1 = true ∧ okN tn tb 1 30 p2 = true ∧ okN tn tb 0 10 p3 = true ∧ s1.1 (wB (s.2.2 1) + 2) b = nI (TKv tn tb p) ∧ s1.1 (wB (s.2.2 1) + 3) b = nI (TKv tn tb p1) ∧ s1.1 (wB (s.2.2 1) + 4) b = nI (TKv tn tb p2) ∧ s1.1 (wB (s.2.2 1) + 5) b = nI (TKv tn tb p3) := by
  obtain ⟨D, hD⟩ : ∃ D, D = wB (s.2.2 1) := ⟨_, rfl⟩
  have hD0 := (wB_ge (s.2.2 1)).1
  have b1 := (TKe_b (tn := tn) (tb := tb) hp).2
  have b2 := (TKe_b (tn := tn) (tb := tb) b1).2
  have b3 := (TKe_b (tn := tn) (tb := tb) b2).2
  have b4 := (TKe_b (tn := tn) (tb := tb) b3).2
  have nt : ∀ {lo hi q : Nat}, okN tn tb lo hi q = true → nS tn tb (.inl q) lo hi = .inl (TKe tn tb q) := fun h => nst_t h
  have nf : ∀ {lo hi q : Nat}, okN tn tb lo hi q = false → nS tn tb (.inl q) lo hi = .inr (TKa tn tb q) := fun h => nst_f (by rw [h]; simp)
  have nr : ∀ {lo hi x : Nat}, nS tn tb (.inr x) lo hi = .inr x := rfl
  have e5000 : FU = 4999 + 1 := rfl
  obtain ⟨s1, d1, c1⟩ := x_nb1 hR hx hp h2 hb (w := 0) (lo := 1) (hi := 99) (by omega) rfl rfl (by omega) (by omega) 4999
  rw [← hD] at d1 c1 hD0 ⊢
  rcases c1 with ⟨o1, l1, m1, v1⟩ | ⟨o1, l1, m1⟩
  · have x1 := d1.xx (by omega) hx
    have w1 : wB (s1.2.2 1) = D := by rw [d1.1, hD]
    obtain ⟨s2, d2, c2⟩ := x_nb1 hR x1 b1 m1 hb (w := 1) (lo := 0) (hi := 7) (by omega) rfl rfl (by omega) (by omega) 4998
    rw [w1] at d2 c2
    rcases c2 with ⟨o2, l2, m2, v2⟩ | ⟨o2, l2, m2⟩
    · have x2 := d2.xx (by omega) x1
      have w2 : wB (s2.2.2 1) = D := by rw [d2.1, w1]
      obtain ⟨s3, d3, c3⟩ := x_nb1 hR x2 b2 m2 hb (w := 2) (lo := 1) (hi := 30) (by omega) rfl rfl (by omega) (by omega) 4997
      rw [w2] at d3 c3
      rcases c3 with ⟨o3, l3, m3, v3⟩ | ⟨o3, l3, m3⟩
      · have x3 := d3.xx (by omega) x2
        have w3 : wB (s3.2.2 1) = D := by rw [d3.1, w2]
        obtain ⟨s4, d4, c4⟩ := x_nb1 hR x3 b3 m3 hb (w := 3) (lo := 0) (hi := 10) (by omega) rfl rfl (by omega) (by omega) 4996
        rw [w3] at d4 c4
        have fr : s4.2 = s.2 ∧ ∀ k j, (k ≠ 2 ∨ j < 2) → (k < D + 2 ∨ D + 5 < k ∨ j ≠ b) → s4.1 k j = s.1 k j := ⟨by rw [d4.1, d3.1, d2.1, d1.1], fun k j z1 z2 => by rw [d4.2 k j z1 (by omega), d3.2 k j z1 (by omega), d2.2 k j z1 (by omega), d1.2 k j z1 (by omega)]⟩
        rcases c4 with ⟨o4, l4, m4, v4⟩ | ⟨o4, l4, m4⟩
        · refine ⟨s4, fr, ?_⟩
          rw [nt o1, nt o2, nt o3, nt o4]
          refine ⟨?_, m4, b4, _, _, _, rfl, nt o2, nt o3, o1, o2, o3, o4, ?_, ?_, ?_, v4⟩
          · show L5_readBranch_10 (nI b) (4999 + 1) (nI 0) s = _
            rw [l1, l2, l3, l4]
            show L5_readBranch_10 (nI b) (4995 + 1) (nI 4) s4 = _
            rw [L5_readBranch_10, if_neg (by decide)]
          · rw [d4.2 _ _ (by omega) (by omega), d3.2 _ _ (by omega) (by omega), d2.2 _ _ (by omega) (by omega)]; exact v1
          · rw [d4.2 _ _ (by omega) (by omega), d3.2 _ _ (by omega) (by omega)]; exact v2
          · rw [d4.2 _ _ (by omega) (by omega)]; exact v3
        · refine ⟨s4, fr, ?_⟩
          rw [nt o1, nt o2, nt o3, nf o4]
          refine ⟨?_, m4⟩
          show L5_readBranch_10 (nI b) (4999 + 1) (nI 0) s = _
          rw [l1, l2, l3, l4]
      · refine ⟨s3, ⟨by rw [d3.1, d2.1, d1.1], fun k j z1 z2 => by rw [d3.2 k j z1 (by omega), d2.2 k j z1 (by omega), d1.2 k j z1 (by omega)]⟩, ?_⟩
        rw [nt o1, nt o2, nf o3, nr]
        refine ⟨?_, m3⟩
        show L5_readBranch_10 (nI b) (4999 + 1) (nI 0) s = _
        rw [l1, l2, l3]
    · refine ⟨s2, ⟨by rw [d2.1, d1.1], fun k j z1 z2 => by rw [d2.2 k j z1 (by omega), d1.2 k j z1 (by omega)]⟩, ?_⟩
      rw [nt o1, nf o2, nr, nr]
      refine ⟨?_, m2⟩
      show L5_readBranch_10 (nI b) (4999 + 1) (nI 0) s = _
      rw [l1, l2]
  · refine ⟨s1, ⟨d1.1, fun k j z1 z2 => d1.2 k j z1 (by omega)⟩, ?_⟩
    rw [nf o1, nr, nr, nr]
    exact ⟨l1, m1⟩
/-- the class has this place's token loaded -/
def LX (s : SS) (tn : Nat) (tb : Nat → Nat) (p : Nat) : Prop := s.1 2 2 = nI (TKe tn tb p) ∧ s.1 2 3 = nI (TKa tn tb p) ∧ s.1 2 4 = nI (TKs tn tb p)
theorem tk_eq {q : SS} {p : Nat} (h : LX q tn tb p) {c : Nat} (hc : c < 8) : (if q.1 2 4 = nI c then (1 : Int32) else 0) = bI (decide (TKs tn tb p = c)) := by
  have sl := TKs_le (tn := tn) (tb := tb) p
  rw [h.2.2]
  by_cases g : TKs tn tb p = c
  · rw [if_pos (by rw [g]), decide_eq_true g]; rfl
  · rw [if_neg (by rw [c_eq (by omega) (by omega)]; exact g), decide_eq_false g]; rfl
theorem x_opt (hR : XR tn tb) {q : SS} (hx : XX q tn tb) {p : Nat} (hp : p ≤ tn) (h : LX q tn tb p) (c : Nat) : ∃ (q' : SS) (p' : Nat), ost tn tb c (.inl p) = .inl p' ∧ p' ≤ tn ∧ LX q' tn tb p' ∧ AX q q' ∧ ∀ {α : Type} (K : SS → Option α), lt K (fun j => if bI (decide (TKs tn tb p = c)) = 0 then j q else bd (f2_advance q) (fun z => j z)) = K q' := by
  have eb := (TKe_b (tn := tn) (tb := tb) hp).2
  by_cases g : TKs tn tb p = c
  · obtain ⟨q1, k1, k2, k3, k4, k5, k6⟩ := x_advance hR hx eb h.1
    refine ⟨q1, TKe tn tb p, ost_t g, eb, ⟨k3, k4, k5⟩, k2, fun K => ?_⟩
    rw [lt_e, decide_eq_true g, if_neg (by decide), k1, bd_e]
  · refine ⟨q, p, ost_f g, hp, h, AX.rf, fun K => ?_⟩
    rw [lt_e, decide_eq_false g, if_pos (by decide)]
theorem x_readBranch (hR : XR tn tb) (hx : XX s tn tb) {p b : Nat} (hp : p ≤ tn) (h2 : s.1 2 2 = nI p) (hb : b < 12) : ∃ (r : Bool) (s' : SS), f5_readBranch (nI b) s = some (bI r, s') ∧ (s'.2 = s.2 ∧ ∀ k j, (k ≠ 2 ∨ j < 2) → (k ≠ wB (s.2.2 1) ∨ j ≠ 0) → (k < wB (s.2.2 1) + 2 ∨ wB (s.2.2 1) + 7 < k ∨ j ≠ b) → s'.1 k j = s.1 k j) ∧ match nst tn tb (semi tn tb) (ost tn tb 5 (ost tn tb 4 (nS tn tb (nS tn tb (nS tn tb (nS tn tb (.inl p) 1 99) 0 7) 1 30) 0 10))) with
    | .inr x => r = false ∧ s'.1 2 3 = nI x
    | .inl p7 => r = true ∧ s'.1 2 2 = nI p7 ∧ p7 ≤ tn ∧ s'.1 (wB (s.2.2 1)) 0 = nI (b + 1) ∧ ∃ p1 p2 p3 p4 p5, nS tn tb (.inl p) 1 99 = .inl p1 ∧ nS tn tb (.inl p1) 0 7 = .inl p2 ∧ nS tn tb (.inl p2) 1 30 = .inl p3 ∧ nS tn tb (.inl p3) 0 10 = .inl p4 ∧ ost tn tb 4 (.inl p4) = .inl p5 ∧ okN tn tb 1 99 p = true ∧ okN tn tb 0 7 p1 = true ∧ okN tn tb 1 30 p2 = true ∧ okN tn tb 0 10 p3 = true ∧ s'.1 (wB (s.2.2 1) + 2) b = nI (TKv tn tb p) ∧ s'.1 (wB (s.2.2 1) + 3) b = nI (TKv tn tb p1) ∧ s'.1 (wB (s.2.2 1) + 4) b = nI (TKv tn tb p2) ∧ s'.1 (wB (s.2.2 1) + 5) b = nI (TKv tn tb p3) ∧ s'.1 (wB (s.2.2 1) + 6) b = bI (decide (TKs tn tb p4 = 4)) ∧ s'.1 (wB (s.2.2 1) + 7) b = bI (decide (TKs tn tb p5 = 5)) := by
  have hD0 := (wB_ge (s.2.2 1)).1
  obtain ⟨s4, d4, c4⟩ := x_nums4 hR hx hp h2 hb
  obtain ⟨o4, ho4⟩ : ∃ o4, o4 = nS tn tb (nS tn tb (nS tn tb (nS tn tb (.inl p) 1 99) 0 7) 1 30) 0 10 := ⟨_, rfl⟩
  rw [← ho4] at c4 ⊢
  unfold f5_readBranch
  rw [if_pos (by rw [l12, c_lt (by omega) (by omega)]; exact hb)]
  cases o4 with
  | inr x =>
    obtain ⟨l4, m4⟩ := c4
    rw [l4]
    exact ⟨false, s4, rfl, ⟨d4.1, fun k j z1 z2 z3 => d4.2 k j z1 (by omega)⟩, rfl, m4⟩
  | inl p4 =>
    obtain ⟨l4, m4, b4, p1, p2, p3, e1, e2, e3, k1, k2, k3, k4, v0, v1, v2, v3⟩ := c4
    have x4 : XX s4 tn tb := ⟨by rw [d4.2 _ _ (by omega) (by omega)]; exact hx.1, fun j hj => by rw [d4.2 _ _ (by omega) (by omega)]; exact hx.2 j hj⟩
    obtain ⟨q6, a1, a2, a3, a4, a5, a6⟩ := x_advance hR x4 b4 m4
    have L6 : LX q6 tn tb p4 := ⟨a3, a4, a5⟩
    have x6 := a2.xx x4
    obtain ⟨q12, p5, y1, y2, y3, y4, y5⟩ := x_opt hR x6 b4 L6 4
    have x12 := y4.xx x6
    obtain ⟨q18, p6, w1, w2, w3, w4, w5⟩ := x_opt hR x12 y2 y3 5
    have A : AX s4 q18 := (a2.tr y4).tr w4
    obtain ⟨D, hD⟩ : ∃ D, D = wB (s.2.2 1) := ⟨_, rfl⟩
    have hfl : q18.2.2 1 = s.2.2 1 := by rw [A.1, d4.1]
    have e4 : nS tn tb (.inl p3) 0 10 = .inl p4 := by rw [ho4, e1, e2, e3]
    have bit : ∀ b : Bool, f5_bit (bI b) = some (bI b) := by intro b; cases b <;> rfl
    have F4 := fun (v : Int32) (s : SS) (fl : Bool) => x_setF (s := s) hb (w := 4) (by omega) v fl
    have F5 := fun (v : Int32) (s : SS) (fl : Bool) => x_setF (s := s) hb (w := 5) (by omega) v fl
    have F4 : ∀ (v : Int32) (s : SS) (fl : Bool), f4_setFeature fl (nI b) 4 v s = some (sI s (wB fl + 2 + 4) b v) := F4
    have F5 : ∀ (v : Int32) (s : SS) (fl : Bool), f4_setFeature fl (nI b) 5 v s = some (sI s (wB fl + 2 + 5) b v) := F5
    rw [l4]
    show ∃ (r : Bool) (s' : SS), bd (f2_advance s4) _ = some (bI r, s') ∧ _
    rw [a1, bd_e, lt_if, show (if q6.1 2 4 = 4 then (1 : Int32) else 0) = bI (decide (TKs tn tb p4 = 4)) from tk_eq L6 (c := 4) (by omega)]
    rw [y5]
    rw [lt_if, show (if q12.1 2 4 = 5 then (1 : Int32) else 0) = bI (decide (TKs tn tb p5 = 5)) from tk_eq y3 (c := 5) (by omega)]
    rw [w5]
    rw [bit, bd_e, F4, bd_e, bit, bd_e, F5, bd_e, lt_e]
    simp only [sI_2, hfl, ← hD, nI_1]
    obtain ⟨s', hs'⟩ : ∃ s', s' = sI (sI (sI q18 (D + 2 + 4) b (bI (decide (TKs tn tb p4 = 4)))) (D + 2 + 5) b (bI (decide (TKs tn tb p5 = 5)))) D 0 (nI (b + 1)) := ⟨_, rfl⟩
    rw [← hs']
    have o : ∀ k j, k < 20 → s'.1 k j = q18.1 k j := fun k j hk => by rw [hs', sI_o (by omega), sI_o (by omega), sI_o (by omega)]
    have fr : s'.2 = s.2 ∧ ∀ k j, (k ≠ 2 ∨ j < 2) → (k ≠ D ∨ j ≠ 0) → (k < D + 2 ∨ D + 7 < k ∨ j ≠ b) → s'.1 k j = s.1 k j := by
      refine ⟨by rw [hs']; show q18.2 = s.2; rw [A.1, d4.1], fun k j z1 z2 z3 => ?_⟩
      rw [hs', sI_o (by omega), sI_o (by omega), sI_o (by omega), A.2 k j z1, d4.2 k j z1 (by omega)]
    have sl := TKs_le (tn := tn) (tb := tb) p6
    have t4 : s'.1 2 4 = nI (TKs tn tb p6) := by rw [o _ _ (by omega)]; exact w3.2.2
    rw [t4, y1, w1]
    by_cases g : TKs tn tb p6 = 1
    · rw [if_pos (by rw [g]; rfl), nst_t (by unfold semi; exact decide_eq_true g)]
      have eb := (TKe_b (tn := tn) (tb := tb) w2).2
      refine ⟨true, s', rfl, fr, rfl, by rw [o _ _ (by omega)]; exact w3.1, eb, by rw [hs', sI_s], p1, p2, p3, p4, p5, e1, e2, e3, e4, y1, k1, k2, k3, k4, ?_, ?_, ?_, ?_, ?_, ?_⟩
      · rw [hs', sI_o (by omega), sI_o (by omega), sI_o (by omega), A.2 _ _ (by omega), hD]; exact v0
      · rw [hs', sI_o (by omega), sI_o (by omega), sI_o (by omega), A.2 _ _ (by omega), hD]; exact v1
      · rw [hs', sI_o (by omega), sI_o (by omega), sI_o (by omega), A.2 _ _ (by omega), hD]; exact v2
      · rw [hs', sI_o (by omega), sI_o (by omega), sI_o (by omega), A.2 _ _ (by omega), hD]; exact v3
      · rw [hs', sI_o (by omega), sI_o (by omega), show D + 2 + 4 = D + 6 by omega, sI_s]
      · rw [hs', sI_o (by omega), show D + 2 + 5 = D + 7 by omega, sI_s]
    · rw [if_neg (by rw [l1, c_eq (by omega) (by omega)]; exact g), nst_f (by unfold semi; rw [decide_eq_true_eq]; exact g)]
      exact ⟨false, s', rfl, fr, rfl, by rw [o _ _ (by omega)]; exact w3.2.1⟩
end S
