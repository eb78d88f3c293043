/-! the class: one item -/
section S
variable {s : SS} {tn : Nat} {tb : Nat → Nat}
/-- only the text's marks and one place of one row changed -/
def D1 (s s1 : SS) (c b : Nat) : Prop := s1.2 = s.2 ∧ ∀ k j, (k ≠ 2 ∨ j < 2) → (k ≠ c ∨ j ≠ b) → s1.1 k j = s.1 k j
theorem D1.xx {s1 : SS} {c b : Nat} (q : D1 s s1 c b) (hc : 20 ≤ c) (h : XX s tn tb) : XX s1 tn tb := ⟨by rw [q.2 _ _ (by omega) (by omega)]; exact h.1, fun j hj => by rw [q.2 _ _ (by omega) (by omega)]; exact h.2 j hj⟩
theorem x_nb1 (hR : XR tn tb) (hx : XX s tn tb) {p b w lo hi : Nat} (hp : p ≤ tn) (h2 : s.1 2 2 = nI p) (hb : b < 12) (hw : w < 4) (hlo : (tvl 1).getD w 0 = nI lo) (hhi : (tvl 2).getD w 0 = nI hi) (hl : lo < 1000) (hh : hi < 1000) (f : Nat) : ∃ s1, D1 s s1 (wB (s.2.2 1) + 2 + w) b ∧ ((okN tn tb lo hi p = true ∧ L5_readBranch_10 (nI b) (f + 1) (nI w) s = L5_readBranch_10 (nI b) f (nI (w + 1)) s1 ∧ s1.1 2 2 = nI (TKe tn tb p) ∧ s1.1 (wB (s.2.2 1) + 2 + w) b = nI (TKv tn tb p)) ∨ (okN tn tb lo hi p = false ∧ L5_readBranch_10 (nI b) (f + 1) (nI w) s = some (.inr (0, s1)) ∧ s1.1 2 3 = nI (TKa tn tb p))) := by
  have hD := (wB_ge (s.2.2 1)).1
  have sl := TKs_le (tn := tn) (tb := tb) p
  have vl := TKv_le (tn := tn) (tb := tb) p
  obtain ⟨q1, k1, k2, k3, k4, k5, k6⟩ := x_advance hR hx hp h2
  have t1 : (tvl 1).length = 4 := rfl
  have t2 : (tvl 2).length = 4 := rfl
  rw [L5_readBranch_10, if_pos (by rw [l3, c_le (by omega) (by omega)]; omega), k1, bd_e, k5]
  by_cases g : TKs tn tb p = 2
  · rw [if_pos (by rw [g]; rfl), k6 g, x_within _ 1 2 w (by omega) (by omega) (by omega) (by omega), bd_e, ib0, hlo, hhi]
    by_cases g2 : lo ≤ TKv tn tb p ∧ TKv tn tb p ≤ hi
    · have ok : okN tn tb lo hi p = true := by unfold okN; rw [decide_eq_true_eq]; exact ⟨g, g2⟩
      have hin6 : inb (nI w) 6 := by rw [c_inb (by omega)]; omega
      have hin12 : inb (nI b) 12 := by rw [c_inb (by omega)]; omega
      have sf : f4_setFeature (q1.2.2 1) (nI b) (nI w) (nI (TKv tn tb p)) q1 = some (sI q1 (wB (s.2.2 1) + 2 + w) b (nI (TKv tn tb p))) := by
        unfold f4_setFeature
        rw [if_neg (nI_pos (by omega)), if_pos (by rw [l12, c_lt (by omega) (by omega)]; exact hb), if_neg (nI_pos (by omega)), if_pos (by rw [l6, c_lt (by omega) (by omega)]; omega), gd_t hin6, gd_t hin12, c_tn (by omega), c_tn (by omega), lt_e, k2.1]
      refine ⟨sI q1 (wB (s.2.2 1) + 2 + w) b (nI (TKv tn tb p)), ⟨k2.1, fun k j z1 z2 => by rw [sI_o z2]; exact k2.2 k j z1⟩, Or.inl ⟨ok, ?_, by rw [sI_o (by omega)]; exact k3, sI_s⟩⟩
      rw [decide_eq_true (by rw [c_le (by omega) (by omega), c_le (by omega) (by omega)]; exact g2), cond_true, sf, bd_e, nI_1, lt_e]
    · have ok : okN tn tb lo hi p = false := by unfold okN; rw [decide_eq_false_iff_not]; exact fun z => g2 z.2
      refine ⟨q1, ⟨k2.1, fun k j z1 _ => k2.2 k j z1⟩, Or.inr ⟨ok, ?_, k4⟩⟩
      rw [decide_eq_false (by rw [c_le (by omega) (by omega), c_le (by omega) (by omega)]; exact g2), cond_false]
  · have ok : okN tn tb lo hi p = false := by unfold okN; rw [decide_eq_false_iff_not]; exact fun z => g z.1
    refine ⟨q1, ⟨k2.1, fun k j z1 _ => k2.2 k j z1⟩, Or.inr ⟨ok, ?_, k4⟩⟩
    rw [if_neg (by rw [l2, c_eq (by omega) (by omega)]; exact g)]
theorem x_pb1 (hR : XR tn tb) (hx : XX s tn tb) {p b w lo hi : Nat} (hp : p ≤ tn) (h2 : s.1 2 2 = nI p) (hb : b < 3) (hw : w < 3) (hlo : (tvl 3).getD w 0 = nI lo) (hhi : (tvl 4).getD w 0 = nI hi) (hl : lo < 1000) (hh : hi < 1000) (f : Nat) : ∃ s1, D1 s s1 (wB (s.2.2 1) + 9 + w) b ∧ ((okN tn tb lo hi p = true ∧ L5_readBody_9 (nI b) (f + 1) (nI w) s = L5_readBody_9 (nI b) f (nI (w + 1)) s1 ∧ s1.1 2 2 = nI (TKe tn tb p) ∧ s1.1 (wB (s.2.2 1) + 9 + w) b = nI (TKv tn tb p)) ∨ (okN tn tb lo hi p = false ∧ L5_readBody_9 (nI b) (f + 1) (nI w) s = some (.inr (0, s1)) ∧ s1.1 2 3 = nI (TKa tn tb p))) := by
  have hD := (wB_ge (s.2.2 1)).1
  have sl := TKs_le (tn := tn) (tb := tb) p
  have vl := TKv_le (tn := tn) (tb := tb) p
  obtain ⟨q1, k1, k2, k3, k4, k5, k6⟩ := x_advance hR hx hp h2
  have t1 : (tvl 3).length = 3 := rfl
  have t2 : (tvl 4).length = 3 := rfl
  rw [L5_readBody_9, if_pos (by rw [l2, c_le (by omega) (by omega)]; omega), k1, bd_e, k5]
  by_cases g : TKs tn tb p = 2
  · rw [if_pos (by rw [g]; rfl), k6 g, x_within _ 3 4 w (by omega) (by omega) (by omega) (by omega), bd_e, ib0, hlo, hhi]
    by_cases g2 : lo ≤ TKv tn tb p ∧ TKv tn tb p ≤ hi
    · have ok : okN tn tb lo hi p = true := by unfold okN; rw [decide_eq_true_eq]; exact ⟨g, g2⟩
      have hin6 : inb (nI w) 3 := by rw [c_inb (by omega)]; omega
      have hin12 : inb (nI b) 3 := by rw [c_inb (by omega)]; omega
      have sf : f4_setPower (q1.2.2 1) (nI b) (nI w) (nI (TKv tn tb p)) q1 = some (sI q1 (wB (s.2.2 1) + 9 + w) b (nI (TKv tn tb p))) := by
        unfold f4_setPower
        rw [if_neg (nI_pos (by omega)), if_pos (by rw [l3, c_lt (by omega) (by omega)]; exact hb), if_neg (nI_pos (by omega)), if_pos (by rw [l3, c_lt (by omega) (by omega)]; omega), gd_t hin6, gd_t hin12, c_tn (by omega), c_tn (by omega), lt_e, k2.1]
      refine ⟨sI q1 (wB (s.2.2 1) + 9 + w) b (nI (TKv tn tb p)), ⟨k2.1, fun k j z1 z2 => by rw [sI_o z2]; exact k2.2 k j z1⟩, Or.inl ⟨ok, ?_, by rw [sI_o (by omega)]; exact k3, sI_s⟩⟩
      rw [decide_eq_true (by rw [c_le (by omega) (by omega), c_le (by omega) (by omega)]; exact g2), cond_true, sf, bd_e, nI_1, lt_e]
    · have ok : okN tn tb lo hi p = false := by unfold okN; rw [decide_eq_false_iff_not]; exact fun z => g2 z.2
      refine ⟨q1, ⟨k2.1, fun k j z1 _ => k2.2 k j z1⟩, Or.inr ⟨ok, ?_, k4⟩⟩
      rw [decide_eq_false (by rw [c_le (by omega) (by omega), c_le (by omega) (by omega)]; exact g2), cond_false]
  · have ok : okN tn tb lo hi p = false := by unfold okN; rw [decide_eq_false_iff_not]; exact fun z => g z.1
    refine ⟨q1, ⟨k2.1, fun k j z1 _ => k2.2 k j z1⟩, Or.inr ⟨ok, ?_, k4⟩⟩
    rw [if_neg (by rw [l2, c_eq (by omega) (by omega)]; exact g)]
end S
