/-! the class: order -/
def srt (F : Nat → Nat → Nat) (b : Nat) (o : Nat → Nat) : Prop := (∀ i, i < b → o i < b) ∧ (∀ i j, i < j → j < b → F 0 (o j) < F 0 (o i) ∨ (F 0 (o i) = F 0 (o j) ∧ o i < o j)) ∧ ∀ k, k < b → ∃ i, i < b ∧ o i = k
def ins (o : Nat → Nat) (i b j : Nat) : Nat := if j < i then o j else if j = i then b else o (j - 1)
theorem srt_ins {F : Nat → Nat → Nat} {b i : Nat} {o : Nat → Nat} (h : srt F b o) (hi : i ≤ b) (h1 : ∀ j, i ≤ j → j < b → F 0 (o j) < F 0 b) (h2 : 0 < i → F 0 b ≤ F 0 (o (i - 1))) : srt F (b + 1) (ins o i b) := by
  obtain ⟨a1, a2, a3⟩ := h
  have hge : ∀ j, j < i → F 0 b ≤ F 0 (o j) := by
    intro j hj
    by_cases e : j = i - 1
    · rw [e]; exact h2 (by omega)
    · have := a2 j (i - 1) (by omega) (by omega)
      have := h2 (by omega)
      omega
  refine ⟨fun j hj => ?_, fun j k hjk hk => ?_, fun k hk => ?_⟩
  · unfold ins
    split
    · have := a1 j (by omega); omega
    · split
      · omega
      · have := a1 (j - 1) (by omega); omega
  · unfold ins
    by_cases g1 : k < i
    · rw [if_pos g1, if_pos (show j < i by omega)]
      exact a2 j k hjk (by omega)
    · rw [if_neg g1]
      by_cases g2 : k = i
      · rw [if_pos g2, if_pos (show j < i by omega)]
        have := hge j (by omega)
        have := a1 j (by omega)
        omega
      · rw [if_neg g2]
        by_cases g3 : j < i
        · rw [if_pos g3]
          exact a2 j (k - 1) (by omega) (by omega)
        · rw [if_neg g3]
          by_cases g4 : j = i
          · rw [if_pos g4]
            exact Or.inl (h1 (k - 1) (by omega) (by omega))
          · rw [if_neg g4]
            exact a2 (j - 1) (k - 1) (by omega) (by omega)
  · by_cases e : k = b
    · refine ⟨i, by omega, ?_⟩
      unfold ins
      rw [if_neg (by omega), if_pos rfl, e]
    · obtain ⟨j, j1, j2⟩ := a3 k (by omega)
      by_cases g : j < i
      · refine ⟨j, by omega, ?_⟩
        unfold ins
        rw [if_pos g]; exact j2
      · refine ⟨j + 1, by omega, ?_⟩
        unfold ins
        rw [if_neg (by omega), if_neg (by omega)]; exact j2
section S
variable {σ s : SS} {n np : Nat} {F Pw : Nat → Nat → Nat} {w : Bool}
/-- only downward and under changed -/
def OS (s s' : SS) : Prop := s'.2 = s.2 ∧ ∀ k j, k ≠ wd s + 12 → k ≠ wd s + 13 → s'.1 k j = s.1 k j
theorem OS.rf : OS s s := ⟨rfl, fun _ _ _ _ => rfl⟩
theorem OS.ewd {s' : SS} (h : OS s s') : wd s' = wd s := by unfold wd; rw [h.1]
theorem OS.tr {a b c : SS} (h : OS a b) (g : OS b c) : OS a c := ⟨g.1.trans h.1, fun k j h1 h2 => by rw [g.2 k j (by rw [h.ewd]; exact h1) (by rw [h.ewd]; exact h2)]; exact h.2 k j h1 h2⟩
theorem OS.xt {s' : SS} (q : OS s s') (h : XT s n np F Pw) : XT s' n np F Pw := by
  have e := q.ewd
  exact ⟨by rw [e, q.2 _ _ (by omega) (by omega)]; exact h.1, by rw [e, q.2 _ _ (by omega) (by omega)]; exact h.2.1, fun w k hw hk => by rw [e, q.2 _ _ (by omega) (by omega)]; exact h.2.2.1 w k hw hk, fun w k hw hk => by rw [e, q.2 _ _ (by omega) (by omega)]; exact h.2.2.2 w k hw hk⟩
theorem x_ord18 (hR : TR n np F Pw) {b : Nat} (hb : b < n) {o : Nat → Nat} (ho : srt F b o) : ∀ (i fuel : Nat) (s : SS), i ≤ b → i < fuel → s.2.2 0 = w → XT s n np F Pw → (∀ j, j < i → s.1 (wB w + 12) j = nI (o j)) → (∀ j, i < j → j ≤ b → s.1 (wB w + 12) j = nI (o (j - 1))) → (∀ j, i ≤ j → j < b → F 0 (o j) < F 0 b) → ∃ (i' : Nat) (s' : SS), L4_order_18 w (nI b) fuel (nI i) s = some (nI i', s') ∧ i' ≤ b ∧ OS s s' ∧ (∀ j, s'.1 (wB w + 13) j = s.1 (wB w + 13) j) ∧ (∀ j, j < i' → s'.1 (wB w + 12) j = nI (o j)) ∧ (∀ j, i' < j → j ≤ b → s'.1 (wB w + 12) j = nI (o (j - 1))) ∧ (∀ j, i' ≤ j → j < b → F 0 (o j) < F 0 b) ∧ (0 < i' → F 0 b ≤ F 0 (o (i' - 1))) := by
  have r0 := hR.1
  have rb := hR.2.2.1 b hb
  intro i
  induction i with
  | zero =>
    intro fuel s h1 h2 hw hx k1 k2 k3
    obtain ⟨f, rfl⟩ : ∃ q, fuel = q + 1 := ⟨fuel - 1, by omega⟩
    refine ⟨0, s, ?_, by omega, OS.rf, fun _ => rfl, k1, k2, k3, fun q => by omega⟩
    rw [L4_order_18, if_pos (show nI 0 ≤ 0 by decide)]
  | succ i ih =>
    intro fuel s h1 h2 hw hx k1 k2 k3
    obtain ⟨f, rfl⟩ : ∃ q, fuel = q + 1 := ⟨fuel - 1, by omega⟩
    have hin : inb (nI i) 12 := by rw [c_inb (by omega)]; omega
    have hin1 : inb (nI (i + 1)) 12 := by rw [c_inb (by omega)]; omega
    have oi := ho.1 i (by omega)
    have ro := hR.2.2.1 (o i) (by omega)
    have e1 : nI (i + 1) - 1 = nI i := nI_pred i
    rw [L4_order_18, if_neg (by rw [l0, c_le (by omega) (by omega)]; omega)]
    simp only [e1, gd_t hin, gd_t hin1, c_tn (show i < 2147483648 by omega), c_tn (show i + 1 < 2147483648 by omega), k1 i (by omega)]
    rw [show f4_feature w (nI (o i)) 0 s = some (nI (F 0 (o i))) from by rw [← hw]; exact x_feature hR hx (w := 0) (by omega) (by omega), bd_e, show f4_feature w (nI b) 0 s = some (nI (F 0 b)) from by rw [← hw]; exact x_feature hR hx (w := 0) (by omega) hb, bd_e]
    by_cases g : F 0 (o i) < F 0 b
    · rw [if_pos (by rw [c_lt (by omega) (by omega)]; exact g), lt_e, show nI (i + 1) + (-1) = nI i from pk_m1 i, lt_e]
      have q1 : OS s (sI s (wB w + 12) (i + 1) (nI (o i))) := ⟨rfl, fun k j hk _ => sI_o (Or.inl (by unfold wd at hk; rw [hw] at hk; exact hk))⟩
      obtain ⟨i', s', m1, m2, m3, m4, m5⟩ := ih f (sI s (wB w + 12) (i + 1) (nI (o i))) (by omega) (by omega) hw (q1.xt hx) (fun j hj => by rw [sI_o (by omega)]; exact k1 j (by omega)) (fun j hj hj2 => by
        by_cases e : j = i + 1
        · subst e; rw [sI_s]; rfl
        · rw [sI_o (by omega)]; exact k2 j (by omega) hj2) (fun j hj hj2 => by
        by_cases e : j = i
        · subst e; exact g
        · exact k3 j (by omega) hj2)
      exact ⟨i', s', m1, m2, q1.tr m3, fun j => by rw [m4, sI_o (by omega)], m5⟩
    · rw [if_neg (by rw [c_lt (by omega) (by omega)]; exact g)]
      exact ⟨i + 1, s, rfl, h1, OS.rf, fun _ => rfl, k1, k2, k3, fun _ => by rw [show i + 1 - 1 = i by omega]; omega⟩
def uN (n : Nat) (F : Nat → Nat → Nat) (b : Nat) : Nat := msk (fun t => decide (F 0 t < F 0 b) && decide (sdA F t b ≤ 1)) n
theorem x_lowL (hR : TR n np F Pw) (hx : XT s n np F Pw) (hw : s.2.2 0 = w) {b : Nat} (hb : b < n) : ∀ (d i fuel : Nat), i + d = n → d < fuel → L4_lowerNear_4 w (nI b) s fuel (nI (msk (fun t => decide (F 0 t < F 0 b) && decide (sdA F t b ≤ 1)) i)) (nI i) = some (nI (uN n F b)) := by
  have r0 := hR.1
  have rb := hR.2.2.1 b hb
  intro d
  induction d with
  | zero =>
    intro i fuel h1 h2
    obtain ⟨f, rfl⟩ : ∃ q, fuel = q + 1 := ⟨fuel - 1, by omega⟩
    rw [L4_lowerNear_4, show s.1 (wB w) 0 = nI n from by rw [← hw]; exact hx.1, if_neg (by rw [c_lt (by omega) (by omega)]; omega), show i = n by omega]
    rfl
  | succ d ih =>
    intro i fuel h1 h2
    obtain ⟨f, rfl⟩ : ∃ q, fuel = q + 1 := ⟨fuel - 1, by omega⟩
    have ri := hR.2.2.1 i (by omega)
    have k := ih (i + 1) f (by omega) (by omega)
    rw [msk] at k
    have sl := sd_le (F 1 i) (F 1 b)
    rw [L4_lowerNear_4, show s.1 (wB w) 0 = nI n from by rw [← hw]; exact hx.1, if_pos (by rw [c_lt (by omega) (by omega)]; omega), show f4_feature w (nI i) 0 s = some (nI (F 0 i)) from by rw [← hw]; exact x_feature hR hx (w := 0) (by omega) (by omega), bd_e, show f4_feature w (nI b) 0 s = some (nI (F 0 b)) from by rw [← hw]; exact x_feature hR hx (w := 0) (by omega) hb, bd_e, show f4_sidesApart w (nI i) (nI b) s = some (nI (sdA F i b)) from by rw [← hw]; exact x_sides hR hx (by omega) hb, bd_e, nI_or1 (by omega)]
    simp only [lt_e, nI_1]
    by_cases g1 : F 0 i < F 0 b
    · rw [if_pos (by rw [c_lt (by omega) (by omega)]; exact g1)]
      by_cases g2 : sdA F i b ≤ 1
      · rw [if_pos (by rw [l1, c_le (by rw [sdA_sd]; omega) (by omega)]; exact g2)]
        rw [if_pos (by rw [decide_eq_true g1, decide_eq_true g2]; rfl)] at k
        exact k
      · rw [if_neg (by rw [l1, c_le (by rw [sdA_sd]; omega) (by omega)]; exact g2)]
        rw [if_neg (by rw [decide_eq_false g2, Bool.and_false]; simp)] at k
        exact k
    · rw [if_neg (by rw [c_lt (by omega) (by omega)]; exact g1)]
      rw [if_neg (by rw [decide_eq_false g1, Bool.false_and]; simp)] at k
      exact k
theorem x_ord2 (hR : TR n np F Pw) : ∀ (d b fuel : Nat) (s : SS) (o : Nat → Nat), b + d = n → d < fuel → s.2.2 0 = w → XT s n np F Pw → srt F b o → (∀ j, j < b → s.1 (wB w + 12) j = nI (o j)) → (∀ j, j < b → s.1 (wB w + 13) j = nI (uN n F j)) → ∃ (o' : Nat → Nat) (s' : SS), L4_order_2 w fuel (nI b) s = some s' ∧ OS s s' ∧ srt F n o' ∧ XO s' n o' (uN n F) := by
  have r0 := hR.1
  intro d
  induction d with
  | zero =>
    intro b fuel s o h1 h2 hw hx ho k1 k2
    obtain ⟨f, rfl⟩ : ∃ q, fuel = q + 1 := ⟨fuel - 1, by omega⟩
    have e : b = n := by omega
    subst e
    refine ⟨o, s, ?_, OS.rf, ho, ?_, ?_⟩
    · rw [L4_order_2, show s.1 (wB w) 0 = nI b from by rw [← hw]; exact hx.1, if_neg (by rw [c_lt (by omega) (by omega)]; omega)]
    · intro i hi; unfold wd; rw [hw]; exact k1 i hi
    · intro i hi; unfold wd; rw [hw]; exact k2 i hi
  | succ d ih =>
    intro b fuel s o h1 h2 hw hx ho k1 k2
    obtain ⟨f, rfl⟩ : ∃ q, fuel = q + 1 := ⟨fuel - 1, by omega⟩
    have hinb : inb (nI b) 12 := by rw [c_inb (by omega)]; omega
    obtain ⟨i, s1, m1, m2, m3, m4, m5, m6, m7, m8⟩ := x_ord18 (w := w) hR (b := b) (by omega) ho b FU s (Nat.le_refl _) (by unfold FU; omega) hw hx k1 (fun j h1 h2 => by omega) (fun j h1 h2 => by omega)
    have hin : inb (nI i) 12 := by rw [c_inb (by omega)]; omega
    have hw1 : s1.2.2 0 = w := by rw [m3.1]; exact hw
    have hwd : wd s = wB w := by unfold wd; rw [hw]
    have hwd1 : wd s1 = wB w := by unfold wd; rw [hw1]
    obtain ⟨s2, hs2⟩ : ∃ s2, s2 = sI s1 (wB w + 12) i (nI b) := ⟨_, rfl⟩
    have q2 : OS s1 s2 := by rw [hs2]; exact ⟨rfl, fun k j hk _ => sI_o (Or.inl (by rw [hwd1] at hk; exact hk))⟩
    have hx2 := q2.xt (m3.xt hx)
    have hw2 : s2.2.2 0 = w := by rw [q2.1]; exact hw1
    have L := x_lowL (w := w) hR hx2 hw2 (b := b) (by omega) n 0 FU (by omega) (by unfold FU; omega)
    have L : L4_lowerNear_4 w (nI b) s2 FU 0 0 = _ := L
    have hln : f4_lowerNear w (nI b) s2 = some (nI (uN n F b)) := by unfold f4_lowerNear; rw [L, bk1_e]
    have hwd2 : wd s2 = wB w := by unfold wd; rw [hw2]
    obtain ⟨s3, hs3⟩ : ∃ s3, s3 = sI s2 (wB w + 13) b (nI (uN n F b)) := ⟨_, rfl⟩
    have q3 : OS s2 s3 := by rw [hs3]; exact ⟨rfl, fun k j _ hk => sI_o (Or.inl (by rw [hwd2] at hk; exact hk))⟩
    have q : OS s s3 := (m3.tr q2).tr q3
    rw [L4_order_2, show s.1 (wB w) 0 = nI n from by rw [← hw]; exact hx.1, if_pos (by rw [c_lt (by omega) (by omega)]; omega), if_pos (by rw [l12, c_lt (by omega) (by omega)]; omega), m1, bk2_e, gd_t hin, c_tn (by omega), lt_e, ← hs2, hln, bd_e, gd_t hinb, c_tn (by omega), lt_e, ← hs3, lt_e, nI_1]
    obtain ⟨o', s', z1, z2, z3⟩ := ih (b + 1) f s3 (ins o i b) (by omega) (by omega) (by rw [q.1]; exact hw) (q.xt hx) (srt_ins ho m2 m7 m8) (fun j hj => by
      rw [hs3, sI_o (by omega), hs2]
      unfold ins
      by_cases g1 : j < i
      · rw [if_pos g1, sI_o (by omega)]; exact m5 j g1
      · rw [if_neg g1]
        by_cases g2 : j = i
        · subst g2; rw [if_pos rfl, sI_s]
        · rw [if_neg g2, sI_o (by omega)]; exact m6 j (by omega) (by omega)) (fun j hj => by
      by_cases e : j = b
      · subst e; rw [hs3, sI_s]
      · rw [hs3, sI_o (by omega), hs2, sI_o (by omega), m4]; exact k2 j (by omega))
    exact ⟨o', s', z1, q.tr z2, z3⟩
theorem x_order (hR : TR n np F Pw) (hx : XT s n np F Pw) : ∃ (od un : Nat → Nat) (s' : SS), f4_order (s.2.2 0) s = some s' ∧ OS s s' ∧ OR n F od un ∧ XO s' n od un := by
  have r0 := hR.1
  obtain ⟨o, s', a1, a2, a3, a4⟩ := x_ord2 (w := s.2.2 0) hR n 0 FU s (fun _ => 0) (by omega) (by unfold FU; omega) rfl hx ⟨fun i hi => by omega, fun i j h1 h2 => by omega, fun k hk => by omega⟩ (fun j hj => by omega) (fun j hj => by omega)
  have a1 : L4_order_2 (s.2.2 0) FU 0 s = some s' := a1
  refine ⟨o, uN n F, s', by unfold f4_order; rw [a1, bk1_e], a2, ⟨a3.1, a3.2.1, a3.2.2, fun b hb => ⟨msk_lt _ n, fun k hk => ?_⟩⟩, a4⟩
  unfold uN
  rw [msk_tb, decide_eq_true hk, Bool.true_and, Bool.and_eq_true, decide_eq_true_eq, decide_eq_true_eq]
end S
