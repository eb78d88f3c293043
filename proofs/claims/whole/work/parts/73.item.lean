/-! one token after the other: both -/
/-- the reference has this place's token loaded -/
def LK (t : SS) (tn : Nat) (tb : Nat → Nat) (p : Nat) : Prop := (TKs tn tb p ≠ 7 → t.1 0 8 = nI (TKe tn tb p)) ∧ t.1 0 9 = nI (TKa tn tb p) ∧ t.1 0 10 = nI (mS (TKs tn tb p)) ∧ (TKs tn tb p = 2 → t.1 0 11 = nI (TKv tn tb p))
/-- alive at a place, or dead with a fault -/
def ST (t : SS) (tn : Nat) (tb : Nat → Nat) : Nat ⊕ Nat → Prop
  | .inl p => p ≤ tn ∧ LK t tn tb p ∧ t.1 0 12 = -9
  | .inr x => x ≤ tn ∧ t.1 0 12 = nI x
/-- place, start, sort, value, fault -/
def CX (t t' : SS) : Prop := t'.2 = t.2 ∧ ∀ k j, (k ≠ 0 ∨ j < 8 ∨ 12 < j) → t'.1 k j = t.1 k j
def okN (tn : Nat) (tb : Nat → Nat) (lo hi p : Nat) : Bool := decide (TKs tn tb p = 2 ∧ lo ≤ TKv tn tb p ∧ TKv tn tb p ≤ hi)
def nst (tn : Nat) (tb : Nat → Nat) (ok : Nat → Bool) : Nat ⊕ Nat → Nat ⊕ Nat
  | .inl p => if ok p = true then .inl (TKe tn tb p) else .inr (TKa tn tb p)
  | .inr x => .inr x
section S
variable {t : SS} {tn : Nat} {tb : Nat → Nat}
theorem CX.rf : CX t t := ⟨rfl, fun _ _ _ => rfl⟩
theorem CX.tr {a b c : SS} (h : CX a b) (g : CX b c) : CX a c := ⟨g.1.trans h.1, fun k j hk => (g.2 k j hk).trans (h.2 k j hk)⟩
theorem BX.cx {t' : SS} (h : BX t t') : CX t t' := ⟨h.1, fun k j hk => h.2 k j (by omega)⟩
theorem CX.mx {t' : SS} (q : CX t t') (h : MX t tn tb) : MX t' tn tb := ⟨by rw [q.2 _ _ (by omega)]; exact h.1, fun j hj => by rw [q.2 _ _ (by omega)]; exact h.2 j hj⟩
theorem TKe_b {p : Nat} (hp : p ≤ tn) : TKa tn tb p ≤ TKe tn tb p ∧ TKe tn tb p ≤ tn := by
  have ab := TKa_b (tn := tn) (tb := tb) hp
  have b1 := Sc_b (tn := tn) (tb := tb) (P := isDg) (tn - TKa tn tb p) (TKa tn tb p) (by omega)
  have b2 := Sc_b (tn := tn) (tb := tb) (P := isLt) (tn - TKa tn tb p) (TKa tn tb p) (by omega)
  unfold TKe
  by_cases g0 : tn ≤ TKa tn tb p
  · rw [if_pos g0]; omega
  · rw [if_neg g0]
    split
    · omega
    · split
      · exact b1
      · split
        · exact b2
        · omega
theorem mS_eq {s c : Nat} (hs : s ≤ 7) (hc : c ≤ 7) : (nI (mS s) = nI (mS c)) = (s = c) := by
  have h : ∀ s, s < 8 → ∀ c, c < 8 → (mS s = mS c ↔ s = c) := by decide
  have b : ∀ s, s < 8 → mS s < 8 := by decide
  have b1 := b s (by omega)
  have b2 := b c (by omega)
  rw [c_eq (by omega) (by omega)]
  exact propext (h s (by omega) c (by omega))
theorem TKs_le (p : Nat) : TKs tn tb p ≤ 7 := by
  unfold TKs wS
  repeat' split
  all_goals omega
theorem TKv_le (p : Nat) : TKv tn tb p ≤ 100 := vC_le _
/-- due(true), alive -/
theorem m_due1 (hR : XR tn tb) (hx : MX t tn tb) {p : Nat} (h : ST t tn tb (.inl p)) (h7 : TKs tn tb p ≠ 7) : ∃ t', f6_due 1 t = some (t.1 0 11, t') ∧ CX t t' ∧ ST t' tn tb (.inl (TKe tn tb p)) := by
  obtain ⟨hp, hl, hf⟩ := h
  have eb := TKe_b (tn := tn) (tb := tb) hp
  obtain ⟨t', k1, k2, k3, k4, k5, k6⟩ := m_next hR hx eb.2 (hl.1 h7)
  refine ⟨t', ?_, k2.cx, eb.2, ⟨k3, k4, k5, k6⟩, by rw [k2.2 _ _ (by omega)]; exact hf⟩
  unfold f6_due
  rw [lt_e, if_pos hf, if_neg (by decide), k1, bd_e]
/-- due(false), alive -/
theorem m_due0 {p : Nat} (h : ST t tn tb (.inl p)) : ∃ t', f6_due 0 t = some (t.1 0 11, t') ∧ CX t t' ∧ ST t' tn tb (.inr (TKa tn tb p)) := by
  obtain ⟨hp, hl, hf⟩ := h
  have ab := TKa_b (tn := tn) (tb := tb) hp
  refine ⟨sI t 0 12 (nI (TKa tn tb p)), ?_, ⟨rfl, fun k j hk => sI_o (by omega)⟩, ab.2, sI_s⟩
  unfold f6_due
  rw [lt_e, if_pos hf, if_pos rfl, hl.2.1, lt_e]
theorem m_dueD {x : Nat} (hR : XR tn tb) (h : ST t tn tb (.inr x)) (a : Int32) : f6_due a t = some (t.1 0 11, t) := by
  have r0 := hR.1
  have hx := h.1
  unfold f6_due
  rw [lt_e, if_neg (by rw [h.2]; exact m9 (by omega))]
theorem nst_t {ok : Nat → Bool} {p : Nat} (h : ok p = true) : nst tn tb ok (.inl p) = .inl (TKe tn tb p) := by
  show (if ok p = true then _ else _) = _
  rw [if_pos h]
theorem nst_f {ok : Nat → Bool} {p : Nat} (h : ¬ ok p = true) : nst tn tb ok (.inl p) = .inr (TKa tn tb p) := by
  show (if ok p = true then _ else _) = _
  rw [if_neg h]
theorem m_number (hR : XR tn tb) (hx : MX t tn tb) {o : Nat ⊕ Nat} (h : ST t tn tb o) {lo hi : Nat} (hlo : lo < 1000) (hhi : hi < 1000) : ∃ v t', f6_number (nI lo) (nI hi) t = some (v, t') ∧ CX t t' ∧ ST t' tn tb (nst tn tb (okN tn tb lo hi) o) ∧ ∀ p, o = .inl p → okN tn tb lo hi p = true → v = nI (TKv tn tb p) := by
  cases o with
  | inr x =>
    refine ⟨t.1 0 11, t, ?_, CX.rf, h, fun p q => by cases q⟩
    unfold f6_number
    simp only [lt_e, m_dueD hR h, bk2_e, f6_in_b, bd_e]
    split <;> (try split) <;> rfl
  | inl p =>
    have hl := h.2.1
    have sl := TKs_le (tn := tn) (tb := tb) p
    have vl := TKv_le (tn := tn) (tb := tb) p
    have e5 : (t.1 0 10 = 5) = (TKs tn tb p = 2) := by rw [hl.2.2.1, show (5 : Int32) = nI (mS 2) by decide]; exact mS_eq sl (by omega)
    unfold f6_number
    simp only [lt_e]
    obtain ⟨t0, a1, a2, a3⟩ := m_due0 h
    by_cases g : okN tn tb lo hi p = true
    · have g' := g
      unfold okN at g'
      rw [decide_eq_true_eq] at g'
      obtain ⟨t1, b1, b2, b3⟩ := m_due1 hR hx h (by omega)
      have e11 := hl.2.2.2 g'.1
      refine ⟨nI (TKv tn tb p), t1, ?_, b2, by rw [nst_t g]; exact b3, fun q e _ => by cases e; rfl⟩
      rw [if_pos (by rw [e5]; exact g'.1), f6_in_b, bd_e, ib0, e11, decide_eq_true (by rw [c_le (by omega) (by omega), c_le (by omega) (by omega)]; exact g'.2), cond_true, b1, bk2_e, e11]
    · refine ⟨t.1 0 11, t0, ?_, a2, by rw [nst_f g]; exact a3, fun q e z => by cases e; exact absurd z g⟩
      by_cases g2 : TKs tn tb p = 2
      · have e11 := hl.2.2.2 g2
        rw [if_pos (by rw [e5]; exact g2), f6_in_b, bd_e, ib0, e11, decide_eq_false (by
          rw [c_le (by omega) (by omega), c_le (by omega) (by omega)]
          intro z
          apply g
          unfold okN
          rw [decide_eq_true_eq]
          exact ⟨g2, z⟩), cond_false, a1, bk2_e, e11]
      · rw [if_neg (by rw [e5]; exact g2), a1, bk2_e]
/-- an optional word -/
def ost (tn : Nat) (tb : Nat → Nat) (c : Nat) : Nat ⊕ Nat → Nat ⊕ Nat
  | .inl p => if TKs tn tb p = c then .inl (TKe tn tb p) else .inl p
  | .inr x => .inr x
theorem ost_t {c p : Nat} (h : TKs tn tb p = c) : ost tn tb c (.inl p) = .inl (TKe tn tb p) := by
  show (if TKs tn tb p = c then _ else _) = _
  rw [if_pos h]
theorem ost_f {c p : Nat} (h : ¬ TKs tn tb p = c) : ost tn tb c (.inl p) = .inl p := by
  show (if TKs tn tb p = c then _ else _) = _
  rw [if_neg h]
theorem m_optional (hR : XR tn tb) (hx : MX t tn tb) {o : Nat ⊕ Nat} (h : ST t tn tb o) {c : Nat} (hc : c < 7) : ∃ v t', f6_optional (nI (mS c)) t = some (v, t') ∧ CX t t' ∧ ST t' tn tb (ost tn tb c o) ∧ ∀ p, o = .inl p → v = bI (decide (TKs tn tb p = c)) := by
  cases o with
  | inr x =>
    have r0 := hR.1
    have hx1 := h.1
    refine ⟨0, t, ?_, CX.rf, h, fun p q => by cases q⟩
    unfold f6_optional
    simp only [lt_e]
    rw [if_neg (by rw [h.2]; exact m9 (by omega)), if_true, if_true]
  | inl p =>
    have hl := h.2.1
    have sl := TKs_le (tn := tn) (tb := tb) p
    have e5 : (t.1 0 10 = nI (mS c)) = (TKs tn tb p = c) := by rw [hl.2.2.1]; exact mS_eq sl (by omega)
    unfold f6_optional
    simp only [lt_e]
    rw [if_pos h.2.2]
    by_cases g : TKs tn tb p = c
    · obtain ⟨t1, b1, b2, b3⟩ := m_due1 hR hx h (by omega)
      refine ⟨1, t1, ?_, b2, by rw [ost_t g]; exact b3, fun q e => by cases e; rw [decide_eq_true g]; rfl⟩
      rw [if_pos (by rw [e5]; exact g), if_neg (by decide), b1, bk2_e, if_neg (by decide)]
    · refine ⟨0, t, ?_, CX.rf, by rw [ost_f g]; exact h, fun q e => by cases e; rw [decide_eq_false g]; rfl⟩
      rw [if_neg (by rw [e5]; exact g), if_true, if_true]
/-- due(..) with what the place says -/
theorem m_due (hR : XR tn tb) (hx : MX t tn tb) {o : Nat ⊕ Nat} (h : ST t tn tb o) {ok : Nat → Bool} (b : Bool) (hb : ∀ p, o = .inl p → b = ok p) (h7 : ∀ p, ok p = true → TKs tn tb p ≠ 7) : ∃ v t', f6_due (bI b) t = some (v, t') ∧ CX t t' ∧ ST t' tn tb (nst tn tb ok o) := by
  cases o with
  | inr x => exact ⟨_, t, m_dueD hR h _, CX.rf, h⟩
  | inl p =>
    have e := hb p rfl
    cases q : ok p with
    | true =>
      rw [q] at e
      obtain ⟨t1, b1, b2, b3⟩ := m_due1 hR hx h (h7 p q)
      refine ⟨_, t1, by rw [e]; exact b1, b2, by rw [nst_t q]; exact b3⟩
    | false =>
      rw [q] at e
      obtain ⟨t1, b1, b2, b3⟩ := m_due0 h
      refine ⟨_, t1, by rw [e]; exact b1, b2, by rw [nst_f (by rw [q]; simp)]; exact b3⟩
end S
