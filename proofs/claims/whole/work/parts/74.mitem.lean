/-! the reference: one item -/
section S
variable {t : SS} {tn : Nat} {tb : Nat → Nat}
theorem ST.i {o : Nat ⊕ Nat} (h : ST t tn tb o) {k j : Nat} {v : Int32} (hk : k ≠ 0) : ST (sI t k j v) tn tb o := by
  cases o with
  | inr x => exact ⟨h.1, by rw [sI_o (by omega)]; exact h.2⟩
  | inl p =>
    obtain ⟨h1, ⟨a, b, c, d⟩, h3⟩ := h
    exact ⟨h1, ⟨fun q => by rw [sI_o (by omega)]; exact a q, by rw [sI_o (by omega)]; exact b, by rw [sI_o (by omega)]; exact c, fun q => by rw [sI_o (by omega)]; exact d q⟩, by rw [sI_o (by omega)]; exact h3⟩
theorem MX.i (h : MX t tn tb) {k j : Nat} {v : Int32} (hk : 1 < k) : MX (sI t k j v) tn tb := ⟨by rw [sI_o (by omega)]; exact h.1, fun i hi => by rw [sI_o (by omega)]; exact h.2 i hi⟩
theorem m_itemF (hR : XR tn tb) {p : Nat} (h : ST t tn tb (.inl p)) {a : Int32} (ha : (a = 1 ∧ t.1 2 1 = nI 12) ∨ (a = 4 ∧ t.1 4 1 = nI 3) ∨ (a ≠ 1 ∧ a ≠ 4)) : ∃ t', f6_item a t = some t' ∧ CX t t' ∧ ST t' tn tb (.inr (TKa tn tb p)) := by
  have r0 := hR.1
  obtain ⟨t1, k1, k2, k3⟩ := m_due0 h
  have kx := k3.1
  refine ⟨t1, ?_, k2, k3⟩
  have n9 : ¬ t1.1 0 12 = -9 := by rw [k3.2]; exact m9 (by omega)
  unfold f6_item
  simp only [lt_e, gd_t (iz1 2 (by omega)), tz1, k1, bk2_e, if_neg n9]
  rcases ha with ⟨e, q⟩ | ⟨e, q⟩ | ⟨e, q⟩
  · rw [if_pos e, q, if_neg (by decide)]
  · rw [if_neg (by rw [e]; decide), if_pos e, q, if_neg (by decide)]
  · rw [if_neg e, if_neg q]
def nS (tn : Nat) (tb : Nat → Nat) (o : Nat ⊕ Nat) (lo hi : Nat) : Nat ⊕ Nat := nst tn tb (okN tn tb lo hi) o
def semi (tn : Nat) (tb : Nat → Nat) (p : Nat) : Bool := decide (TKs tn tb p = 1)
theorem m_branch (hR : XR tn tb) (hx : MX t tn tb) {p b : Nat} (h : ST t tn tb (.inl p)) (hs : TKs tn tb p = 3) (hb : t.1 2 1 = nI b) (hb2 : b < 12) : ∃ (t' : SS) (v0 v1 v2 v3 v4 v5 : Int32), f6_item 1 t = some t' ∧ t'.2 = t.2 ∧ (∀ k j, (k ≠ 0 ∨ j < 8 ∨ 12 < j) → (k ≠ 2 ∨ j ≠ 1) → (k ≠ 3 ∨ j < 72 + 6 * b ∨ 72 + 6 * b + 5 < j) → t'.1 k j = t.1 k j) ∧ t'.1 2 1 = nI (b + 1) ∧ t'.1 3 (72 + 6 * b) = v0 ∧ t'.1 3 (72 + 6 * b + 1) = v1 ∧ t'.1 3 (72 + 6 * b + 2) = v2 ∧ t'.1 3 (72 + 6 * b + 3) = v3 ∧ t'.1 3 (72 + 6 * b + 4) = v4 ∧ t'.1 3 (72 + 6 * b + 5) = v5 ∧ ∃ o1 o2 o3 o4 o5 o6 : Nat ⊕ Nat, o1 = nS tn tb (.inl (TKe tn tb p)) 1 99 ∧ o2 = nS tn tb o1 0 7 ∧ o3 = nS tn tb o2 1 30 ∧ o4 = nS tn tb o3 0 10 ∧ o5 = ost tn tb 4 o4 ∧ o6 = ost tn tb 5 o5 ∧ ST t' tn tb (nst tn tb (semi tn tb) o6) ∧ (okN tn tb 1 99 (TKe tn tb p) = true → v0 = nI (TKv tn tb (TKe tn tb p))) ∧ (∀ q, o1 = .inl q → okN tn tb 0 7 q = true → v1 = nI (TKv tn tb q)) ∧ (∀ q, o2 = .inl q → okN tn tb 1 30 q = true → v2 = nI (TKv tn tb q)) ∧ (∀ q, o3 = .inl q → okN tn tb 0 10 q = true → v3 = nI (TKv tn tb q)) ∧ (∀ q, o4 = .inl q → v4 = bI (decide (TKs tn tb q = 4))) ∧ ∀ q, o5 = .inl q → v5 = bI (decide (TKs tn tb q = 5)) := by
  obtain ⟨N, hN⟩ : ∃ N, N = 72 + 6 * b := ⟨_, rfl⟩
  have N1 : N + 5 < 144 := by omega
  have ex : (72 : Int32) + 6 * nI b = nI N := by rw [l72, l6, c_mul, c_add, hN]
  have en : ∀ i, i < 6 → inb (nI (N + i)) 144 := fun i hi => by rw [c_inb (by omega)]; omega
  have et : ∀ i, i < 6 → (nI (N + i)).toNatClampNeg = N + i := fun i hi => c_tn (by omega)
  have e0 : inb (nI N) 144 := en 0 (by omega)
  have t0' : (nI N).toNatClampNeg = N := et 0 (by omega)
  have p1 : nI N + 1 = nI (N + 1) := nI_1 N
  have p2 : nI N + 2 = nI (N + 2) := c_add N 2
  have p3 : nI N + 3 = nI (N + 3) := c_add N 3
  have p4 : nI N + 4 = nI (N + 4) := c_add N 4
  have p5 : nI N + 5 = nI (N + 5) := c_add N 5
  obtain ⟨q5, a1, a2, a3⟩ := m_due1 hR hx h (by omega)
  have x5 := a2.mx hx
  obtain ⟨v0, q16, b1, b2, b3, b4⟩ := m_number hR x5 a3 (lo := 1) (hi := 99) (by omega) (by omega)
  have s17 := b3.i (k := 3) (j := N) (v := v0) (by omega)
  have x17 := (b2.mx x5).i (k := 3) (j := N) (v := v0) (by omega)
  obtain ⟨v1, q19, c1, c2, c3, c4⟩ := m_number hR x17 s17 (lo := 0) (hi := 7) (by omega) (by omega)
  have s20 := c3.i (k := 3) (j := N + 1) (v := v1) (by omega)
  have x20 := (c2.mx x17).i (k := 3) (j := N + 1) (v := v1) (by omega)
  obtain ⟨v2, q22, d1, d2, d3, d4⟩ := m_number hR x20 s20 (lo := 1) (hi := 30) (by omega) (by omega)
  have s23 := d3.i (k := 3) (j := N + 2) (v := v2) (by omega)
  have x23 := (d2.mx x20).i (k := 3) (j := N + 2) (v := v2) (by omega)
  obtain ⟨v3, q25, f1, f2, f3, f4⟩ := m_number hR x23 s23 (lo := 0) (hi := 10) (by omega) (by omega)
  have s26 := f3.i (k := 3) (j := N + 3) (v := v3) (by omega)
  have x26 := (f2.mx x23).i (k := 3) (j := N + 3) (v := v3) (by omega)
  obtain ⟨v4, q28, g1, g2, g3, g4⟩ := m_optional hR x26 s26 (c := 4) (by omega)
  have s29 := g3.i (k := 3) (j := N + 4) (v := v4) (by omega)
  have x29 := (g2.mx x26).i (k := 3) (j := N + 4) (v := v4) (by omega)
  obtain ⟨v5, q31, h1, h2, h3, h4⟩ := m_optional hR x29 s29 (c := 5) (by omega)
  have s32 := h3.i (k := 3) (j := N + 5) (v := v5) (by omega)
  have x32 := (h2.mx x29).i (k := 3) (j := N + 5) (v := v5) (by omega)
  obtain ⟨q33, hq33⟩ : ∃ q, q = sI (sI q31 3 (N + 5) v5) 2 1 (nI (b + 1)) := ⟨_, rfl⟩
  have x33 : MX q33 tn tb := by rw [hq33]; exact x32.i (by omega)
  obtain ⟨o6, ho6⟩ : ∃ o6, o6 = ost tn tb 5 (ost tn tb 4 (nst tn tb (okN tn tb 0 10) (nst tn tb (okN tn tb 1 30) (nst tn tb (okN tn tb 0 7) (nst tn tb (okN tn tb 1 99) (.inl (TKe tn tb p))))))) := ⟨_, rfl⟩
  have s33 : ST q33 tn tb o6 := by rw [hq33, ho6]; exact s32.i (by omega)
  obtain ⟨w, q13, i1, i2, i3⟩ := m_due hR x33 s33 (ok := semi tn tb) (decide (q33.1 0 10 = 6)) (fun q e => by
    rw [e] at s33
    unfold semi
    apply decide_eq_decide.mpr
    rw [s33.2.1.2.2.1, show (6 : Int32) = nI (mS 1) by decide, mS_eq (TKs_le _) (by omega)]) (fun q e => by
    unfold semi at e
    rw [decide_eq_true_eq] at e
    omega)
  -- the frame, backwards
  have fr : ∀ k j, (k ≠ 0 ∨ j < 8 ∨ 12 < j) → (k ≠ 2 ∨ j ≠ 1) → (k ≠ 3 ∨ j < N ∨ N + 5 < j) → q13.1 k j = t.1 k j := by
    intro k j z1 z2 z3
    rw [i2.2 k j z1, hq33, sI_o (by omega), sI_o (by omega), h2.2 k j z1, sI_o (by omega), g2.2 k j z1, sI_o (by omega), f2.2 k j z1, sI_o (by omega), d2.2 k j z1, sI_o (by omega), c2.2 k j z1, sI_o (by omega), b2.2 k j z1, a2.2 k j z1]
  have b5 : q5.1 2 1 = nI b := by rw [a2.2 _ _ (by omega)]; exact hb
  have b31 : (sI q31 3 (N + 5) v5).1 2 1 = nI b := by
    rw [sI_o (by omega), h2.2 _ _ (by omega), sI_o (by omega), g2.2 _ _ (by omega), sI_o (by omega), f2.2 _ _ (by omega), sI_o (by omega), d2.2 _ _ (by omega), sI_o (by omega), c2.2 _ _ (by omega), sI_o (by omega), b2.2 _ _ (by omega)]
    exact b5
  have z0 : ∀ {α : Type} (x y : α), (if (1 : Int32) = 1 then x else y) = x := fun x y => if_pos rfl
  refine ⟨q13, v0, v1, v2, v3, v4, v5, ?_, ?_, fun k j z1 z2 z3 => fr k j z1 z2 (by omega), ?_, ?_, ?_, ?_, ?_, ?_, ?_, _, _, _, _, _, _, rfl, rfl, rfl, rfl, rfl, rfl, ?_, fun q => b4 _ rfl q, fun q e => c4 q e, fun q e => d4 q e, fun q e => f4 q e, fun q e => g4 q e, fun q e => h4 q e⟩
  · unfold f6_item
    simp only [lt_e, gd_t (iz1 2 (by omega)), tz1, hb, if_true]
    rw [if_pos (by rw [l12, c_lt (by omega) (by omega)]; exact hb2), a1]
    simp only [bk2_e]
    rw [if_pos a3.2.2]
    simp only [b5, ex, p1, p2, p3, p4, p5, gd_t e0, gd_t (en 1 (by omega)), gd_t (en 2 (by omega)), gd_t (en 3 (by omega)), gd_t (en 4 (by omega)), gd_t (en 5 (by omega)), t0', et 1 (by omega), et 2 (by omega), et 3 (by omega), et 4 (by omega), et 5 (by omega)]
    rw [show f6_number 1 99 q5 = _ from b1, bk2_e, show f6_number 0 7 _ = _ from c1, bk2_e, show f6_number 1 30 _ = _ from d1, bk2_e, show f6_number 0 10 _ = _ from f1, bk2_e, show f6_optional 2 _ = _ from g1, bk2_e, show f6_optional 3 _ = _ from h1, bk2_e]
    simp only [b31, nI_1]
    rw [← hq33]
    have e9 : (if q33.1 0 10 = 6 then bk2 (f6_due 1 q33) (fun x12 q13 => some q13) else bk2 (f6_due 0 q33) (fun x12 q13 => some q13)) = bk2 (f6_due (bI (decide (q33.1 0 10 = 6))) q33) (fun x12 q13 => some q13) := by
      by_cases g : q33.1 0 10 = 6
      · rw [if_pos g, decide_eq_true g]; rfl
      · rw [if_neg g, decide_eq_false g]; rfl
    rw [e9, i1, bk2_e]
  · rw [i2.1, hq33]
    show q31.2 = t.2
    rw [h2.1]
    show q28.2 = t.2
    rw [g2.1]
    show q25.2 = t.2
    rw [f2.1]
    show q22.2 = t.2
    rw [d2.1]
    show q19.2 = t.2
    rw [c2.1]
    show q16.2 = t.2
    rw [b2.1, a2.1]
  · rw [i2.2 _ _ (by omega), hq33, sI_s]
  · rw [← hN, i2.2 _ _ (by omega), hq33, sI_o (by omega), sI_o (by omega), h2.2 _ _ (by omega), sI_o (by omega), g2.2 _ _ (by omega), sI_o (by omega), f2.2 _ _ (by omega), sI_o (by omega), d2.2 _ _ (by omega), sI_o (by omega), c2.2 _ _ (by omega), sI_s]
  · rw [← hN, i2.2 _ _ (by omega), hq33, sI_o (by omega), sI_o (by omega), h2.2 _ _ (by omega), sI_o (by omega), g2.2 _ _ (by omega), sI_o (by omega), f2.2 _ _ (by omega), sI_o (by omega), d2.2 _ _ (by omega), sI_s]
  · rw [← hN, i2.2 _ _ (by omega), hq33, sI_o (by omega), sI_o (by omega), h2.2 _ _ (by omega), sI_o (by omega), g2.2 _ _ (by omega), sI_o (by omega), f2.2 _ _ (by omega), sI_s]
  · rw [← hN, i2.2 _ _ (by omega), hq33, sI_o (by omega), sI_o (by omega), h2.2 _ _ (by omega), sI_o (by omega), g2.2 _ _ (by omega), sI_s]
  · rw [← hN, i2.2 _ _ (by omega), hq33, sI_o (by omega), sI_o (by omega), h2.2 _ _ (by omega), sI_s]
  · rw [← hN, i2.2 _ _ (by omega), hq33, sI_o (by omega), sI_s]
  · rw [ho6] at i3
    exact i3
theorem m_body (hR : XR tn tb) (hx : MX t tn tb) {p b : Nat} (h : ST t tn tb (.inl p)) (hs : TKs tn tb p = 6) (hb : t.1 4 1 = nI b) (hb2 : b < 3) : ∃ (t' : SS) (v0 v1 v2 : Int32), f6_item 4 t = some t' ∧ t'.2 = t.2 ∧ (∀ k j, (k ≠ 0 ∨ j < 8 ∨ 12 < j) → (k ≠ 4 ∨ j ≠ 1) → (k ≠ 5 ∨ j < 9 + 3 * b ∨ 9 + 3 * b + 2 < j) → t'.1 k j = t.1 k j) ∧ t'.1 4 1 = nI (b + 1) ∧ t'.1 5 (9 + 3 * b) = v0 ∧ t'.1 5 (9 + 3 * b + 1) = v1 ∧ t'.1 5 (9 + 3 * b + 2) = v2 ∧ ∃ o1 o2 o3 : Nat ⊕ Nat, o1 = nS tn tb (.inl (TKe tn tb p)) 1 30 ∧ o2 = nS tn tb o1 1 99 ∧ o3 = nS tn tb o2 0 9 ∧ ST t' tn tb (nst tn tb (semi tn tb) o3) ∧ (okN tn tb 1 30 (TKe tn tb p) = true → v0 = nI (TKv tn tb (TKe tn tb p))) ∧ (∀ q, o1 = .inl q → okN tn tb 1 99 q = true → v1 = nI (TKv tn tb q)) ∧ (∀ q, o2 = .inl q → okN tn tb 0 9 q = true → v2 = nI (TKv tn tb q)) := by
  obtain ⟨N, hN⟩ : ∃ N, N = 9 + 3 * b := ⟨_, rfl⟩
  have ex : (9 : Int32) + 3 * nI b = nI N := by rw [l9, l3, c_mul, c_add, hN]
  have en : ∀ i, i < 3 → inb (nI (N + i)) 18 := fun i hi => by rw [c_inb (by omega)]; omega
  have et : ∀ i, i < 3 → (nI (N + i)).toNatClampNeg = N + i := fun i hi => c_tn (by omega)
  have e0 : inb (nI N) 18 := en 0 (by omega)
  have t0' : (nI N).toNatClampNeg = N := et 0 (by omega)
  have p1 : nI N + 1 = nI (N + 1) := nI_1 N
  have p2 : nI N + 2 = nI (N + 2) := c_add N 2
  obtain ⟨q5, a1, a2, a3⟩ := m_due1 hR hx h (by omega)
  have x5 := a2.mx hx
  obtain ⟨v0, q16, b1, b2, b3, b4⟩ := m_number hR x5 a3 (lo := 1) (hi := 30) (by omega) (by omega)
  have s17 := b3.i (k := 5) (j := N) (v := v0) (by omega)
  have x17 := (b2.mx x5).i (k := 5) (j := N) (v := v0) (by omega)
  obtain ⟨v1, q19, c1, c2, c3, c4⟩ := m_number hR x17 s17 (lo := 1) (hi := 99) (by omega) (by omega)
  have s20 := c3.i (k := 5) (j := N + 1) (v := v1) (by omega)
  have x20 := (c2.mx x17).i (k := 5) (j := N + 1) (v := v1) (by omega)
  obtain ⟨v2, q22, d1, d2, d3, d4⟩ := m_number hR x20 s20 (lo := 0) (hi := 9) (by omega) (by omega)
  have s23 := d3.i (k := 5) (j := N + 2) (v := v2) (by omega)
  have x23 := (d2.mx x20).i (k := 5) (j := N + 2) (v := v2) (by omega)
  obtain ⟨q33, hq33⟩ : ∃ q, q = sI (sI q22 5 (N + 2) v2) 4 1 (nI (b + 1)) := ⟨_, rfl⟩
  have x33 : MX q33 tn tb := by rw [hq33]; exact x23.i (by omega)
  obtain ⟨o6, ho6⟩ : ∃ o6, o6 = nst tn tb (okN tn tb 0 9) (nst tn tb (okN tn tb 1 99) (nst tn tb (okN tn tb 1 30) (.inl (TKe tn tb p)))) := ⟨_, rfl⟩
  have s33 : ST q33 tn tb o6 := by rw [hq33, ho6]; exact s23.i (by omega)
  obtain ⟨w, q13, i1, i2, i3⟩ := m_due hR x33 s33 (ok := semi tn tb) (decide (q33.1 0 10 = 6)) (fun q e => by
    rw [e] at s33
    unfold semi
    apply decide_eq_decide.mpr
    rw [s33.2.1.2.2.1, show (6 : Int32) = nI (mS 1) by decide, mS_eq (TKs_le _) (by omega)]) (fun q e => by
    unfold semi at e
    rw [decide_eq_true_eq] at e
    omega)
  have fr : ∀ k j, (k ≠ 0 ∨ j < 8 ∨ 12 < j) → (k ≠ 4 ∨ j ≠ 1) → (k ≠ 5 ∨ j < N ∨ N + 2 < j) → q13.1 k j = t.1 k j := by
    intro k j z1 z2 z3
    rw [i2.2 k j z1, hq33, sI_o (by omega), sI_o (by omega), d2.2 k j z1, sI_o (by omega), c2.2 k j z1, sI_o (by omega), b2.2 k j z1, a2.2 k j z1]
  have b5 : q5.1 4 1 = nI b := by rw [a2.2 _ _ (by omega)]; exact hb
  have b31 : (sI q22 5 (N + 2) v2).1 4 1 = nI b := by
    rw [sI_o (by omega), d2.2 _ _ (by omega), sI_o (by omega), c2.2 _ _ (by omega), sI_o (by omega), b2.2 _ _ (by omega)]
    exact b5
  refine ⟨q13, v0, v1, v2, ?_, ?_, fun k j z1 z2 z3 => fr k j z1 z2 (by omega), ?_, ?_, ?_, ?_, _, _, _, rfl, rfl, rfl, ?_, fun q => b4 _ rfl q, fun q e => c4 q e, fun q e => d4 q e⟩
  · have n41 : ¬ (4 : Int32) = 1 := by decide
    unfold f6_item
    simp only [lt_e, gd_t (iz1 2 (by omega)), tz1, hb, if_true, if_neg n41]
    rw [if_pos (by rw [l3, c_lt (by omega) (by omega)]; exact hb2), a1]
    simp only [bk2_e]
    rw [if_pos a3.2.2]
    simp only [b5, ex, p1, p2, gd_t e0, gd_t (en 1 (by omega)), gd_t (en 2 (by omega)), t0', et 1 (by omega), et 2 (by omega)]
    rw [show f6_number 1 30 q5 = _ from b1, bk2_e, show f6_number 1 99 _ = _ from c1, bk2_e, show f6_number 0 9 _ = _ from d1, bk2_e]
    simp only [b31, nI_1]
    rw [← hq33]
    have e9 : (if q33.1 0 10 = 6 then bk2 (f6_due 1 q33) (fun x12 q13 => some q13) else bk2 (f6_due 0 q33) (fun x12 q13 => some q13)) = bk2 (f6_due (bI (decide (q33.1 0 10 = 6))) q33) (fun x12 q13 => some q13) := by
      by_cases g : q33.1 0 10 = 6
      · rw [if_pos g, decide_eq_true g]; rfl
      · rw [if_neg g, decide_eq_false g]; rfl
    rw [e9, i1, bk2_e]
  · rw [i2.1, hq33]
    show q22.2 = t.2
    rw [d2.1]
    show q19.2 = t.2
    rw [c2.1]
    show q16.2 = t.2
    rw [b2.1, a2.1]
  · rw [i2.2 _ _ (by omega), hq33, sI_s]
  · rw [← hN, i2.2 _ _ (by omega), hq33, sI_o (by omega), sI_o (by omega), d2.2 _ _ (by omega), sI_o (by omega), c2.2 _ _ (by omega), sI_s]
  · rw [← hN, i2.2 _ _ (by omega), hq33, sI_o (by omega), sI_o (by omega), d2.2 _ _ (by omega), sI_s]
  · rw [← hN, i2.2 _ _ (by omega), hq33, sI_o (by omega), sI_s]
  · rw [ho6] at i3
    exact i3
end S
