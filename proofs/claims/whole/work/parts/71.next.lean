/-! the reference: next -/
def BX (t t' : SS) : Prop := t'.2 = t.2 ∧ ∀ k j, (k ≠ 0 ∨ j < 8 ∨ 11 < j) → t'.1 k j = t.1 k j
section S
variable {t : SS} {tn : Nat} {tb : Nat → Nat}
theorem BX.rf : BX t t := ⟨rfl, fun _ _ _ => rfl⟩
theorem BX.tr {a b c : SS} (h : BX a b) (g : BX b c) : BX a c := ⟨g.1.trans h.1, fun k j hk => (g.2 k j hk).trans (h.2 k j hk)⟩
theorem BX.i {t' : SS} (h : BX t t') {j : Nat} {v : Int32} (hj : 8 ≤ j ∧ j ≤ 11) : BX t (sI t' 0 j v) := ⟨h.1, fun k j' hk => by rw [sI_o (by omega)]; exact h.2 k j' hk⟩
theorem BX.mx {t' : SS} (q : BX t t') (h : MX t tn tb) : MX t' tn tb := ⟨by rw [q.2 _ _ (by omega)]; exact h.1, fun j hj => by rw [q.2 _ _ (by omega)]; exact h.2 j hj⟩
theorem m_here (hR : XR tn tb) (h : MX t tn tb) {p : Nat} (hp : p ≤ tn) (h8 : t.1 0 8 = nI p) : f6_here t = some (if p < tn then nI (tb p) else -1) := by
  have r0 := hR.1
  unfold f6_here
  rw [h8, h.1]
  by_cases g : p < tn
  · have hin : inb (nI p) 400 := by rw [c_inb (by omega)]; omega
    rw [if_pos (by rw [c_lt (by omega) (by omega)]; exact g), if_pos g, gd_t hin, c_tn (by omega), h.2 p g]
  · rw [if_neg (by rw [c_lt (by omega) (by omega)]; exact g), if_neg g]
theorem m_inL {c : Nat} (hc : c < 256) : f6_in (nI c) 97 122 = some (bI (isLt c)) := by
  rw [f6_in_b]
  congr 2
  unfold isLt
  apply decide_eq_decide.mpr
  rw [l97, l122, c_le (by omega) (by omega), c_le (by omega) (by omega)]
theorem m_inD {c : Nat} (hc : c < 256) : f6_in (nI c) 48 57 = some (bI (isDg c)) := by
  rw [f6_in_b]
  congr 2
  unfold isDg
  apply decide_eq_decide.mpr
  rw [l48, l57, c_le (by omega) (by omega), c_le (by omega) (by omega)]
theorem m_inLe : f6_in (-1) 97 122 = some 0 := by decide
theorem m_inDe : f6_in (-1) 48 57 = some 0 := by decide
/-- only the place moved -/
def B2 (t t' : SS) (e : Nat) : Prop := t'.2 = t.2 ∧ t'.1 0 8 = nI e ∧ ∀ k j, (k ≠ 0 ∨ j ≠ 8) → t'.1 k j = t.1 k j
theorem B2.bx {t' : SS} {e : Nat} (q : B2 t t' e) : BX t t' := ⟨q.1, fun k j hk => q.2.2 k j (by omega)⟩
theorem B2.step {p : Nat} {t' : SS} {e : Nat} (q : B2 (sI t 0 8 (nI p)) t' e) : B2 t t' e := ⟨q.1, q.2.1, fun k j hk => by rw [q.2.2 k j hk, sI_o hk]⟩
theorem m_skip (hR : XR tn tb) : ∀ (d p fuel : Nat) (t : SS), p + d = tn → d < fuel → MX t tn tb → t.1 0 8 = nI p → ∃ t', L6_next_0 fuel t = some t' ∧ B2 t t' (Sc tn tb isSp p) := by
  have r0 := hR.1
  intro d
  induction d with
  | zero =>
    intro p fuel t h1 h2 hx hp
    obtain ⟨f, rfl⟩ : ∃ q, fuel = q + 1 := ⟨fuel - 1, by omega⟩
    refine ⟨t, ?_, rfl, by rw [Sc_e (by omega)]; exact hp, fun _ _ _ => rfl⟩
    rw [L6_next_0, m_here hR hx (by omega) hp, if_neg (by omega), bd_e, if_neg (by decide)]
  | succ d ih =>
    intro p fuel t h1 h2 hx hp
    obtain ⟨f, rfl⟩ : ∃ q, fuel = q + 1 := ⟨fuel - 1, by omega⟩
    have hb := hR.2 p (by omega)
    rw [L6_next_0, m_here hR hx (by omega) hp, if_pos (by omega), bd_e]
    by_cases g : tb p = 32
    · rw [if_pos (by rw [g]; rfl), hp, nI_1, lt_e]
      have q1 : BX t (sI t 0 8 (nI (p + 1))) := BX.rf.i (by omega)
      obtain ⟨t', k1, k2⟩ := ih (p + 1) f (sI t 0 8 (nI (p + 1))) (by omega) (by omega) (q1.mx hx) sI_s
      exact ⟨t', k1, by rw [Sc_t (by omega) (by unfold isSp; exact decide_eq_true g)]; exact k2.step⟩
    · rw [if_neg (by rw [l32, c_eq (by omega) (by omega)]; exact g)]
      exact ⟨t, rfl, rfl, by rw [Sc_f (by unfold isSp; exact decide_eq_false g)]; exact hp, fun _ _ _ => rfl⟩
theorem m_wordL (hR : XR tn tb) {a : Nat} : ∀ (d p fuel : Nat) (t : SS), p + d = tn → a ≤ p → d < fuel → MX t tn tb → t.1 0 8 = nI p → t.1 0 9 = nI a → (∀ j, j < p - a → 97 ≤ tb (a + j) ∧ tb (a + j) ≤ 122) → ∃ t', L6_next_65 fuel (nI (cd tb a (p - a))) t = some (nI (cd tb a (Sc tn tb isLt p - a)), t') ∧ B2 t t' (Sc tn tb isLt p) := by
  have r0 := hR.1
  intro d
  induction d with
  | zero =>
    intro p fuel t h1 ha h2 hx hp h9 hl
    obtain ⟨f, rfl⟩ : ∃ q, fuel = q + 1 := ⟨fuel - 1, by omega⟩
    rw [Sc_e (show tn ≤ p by omega)]
    refine ⟨t, ?_, rfl, hp, fun _ _ _ => rfl⟩
    rw [L6_next_65, m_here hR hx (by omega) hp, if_neg (by omega), bd_e, m_inLe, bd_e, if_pos rfl]
  | succ d ih =>
    intro p fuel t h1 ha h2 hx hp h9 hl
    obtain ⟨f, rfl⟩ : ∃ q, fuel = q + 1 := ⟨fuel - 1, by omega⟩
    have hb := hR.2 p (by omega)
    have hv := cd_lt (tb := tb) (a := a) (i := p - a) (fun j hj => (hl j hj).2)
    rw [L6_next_65, m_here hR hx (by omega) hp, if_pos (by omega), bd_e, m_inL hb, bd_e, ib0]
    cases g : isLt (tb p) with
    | false =>
      rw [cond_false, Sc_f g]
      exact ⟨t, rfl, rfl, hp, fun _ _ _ => rfl⟩
    | true =>
      have g' := g
      unfold isLt at g'
      rw [decide_eq_true_eq] at g'
      rw [cond_true, hp, h9, c_sub ha, nI_1]
      simp only [lt_e, bd_e]
      have q1 : BX t (sI t 0 8 (nI (p + 1))) := BX.rf.i (by omega)
      obtain ⟨t', k1, k2⟩ := ih (p + 1) f (sI t 0 8 (nI (p + 1))) (by omega) (by omega) (by omega) (q1.mx hx) sI_s (by rw [sI_o (by omega)]; exact h9) (fun j hj => by
        by_cases e : j = p - a
        · rw [e, show a + (p - a) = p by omega]; exact g'
        · exact hl j (by omega))
      refine ⟨t', ?_, by rw [Sc_t (by omega) g]; exact k2.step⟩
      rw [Sc_t (by omega) g]
      rw [show p + 1 - a = (p - a) + 1 by omega, cd, show a + (p - a) = p by omega] at k1
      by_cases l : p - a < 6
      · rw [if_pos l] at k1
        rw [if_pos (by rw [l6, c_lt (by omega) (by omega)]; exact l), show (27 : Int32) = nI 27 by decide, c_mul, c_add, show (96 : Int32) = nI 96 by decide, c_sub (by omega)]
        exact k1
      · rw [if_neg l] at k1
        rw [if_neg (by rw [l6, c_lt (by omega) (by omega)]; exact l)]
        exact k1
/-- place and value moved -/
def B3 (t t' : SS) (e v : Nat) : Prop := t'.2 = t.2 ∧ t'.1 0 8 = nI e ∧ t'.1 0 11 = nI v ∧ ∀ k j, (k ≠ 0 ∨ (j ≠ 8 ∧ j ≠ 11)) → t'.1 k j = t.1 k j
theorem B3.bx {t' : SS} {e v : Nat} (q : B3 t t' e v) : BX t t' := ⟨q.1, fun k j hk => q.2.2.2 k j (by omega)⟩
theorem m_numL (hR : XR tn tb) {a : Nat} (c1 : Int32) : ∀ (d p fuel : Nat) (t : SS), p + d = tn → a ≤ p → d < fuel → MX t tn tb → t.1 0 8 = nI p → t.1 0 11 = nI (vM tb a (p - a)) → (∀ j, j < p - a → 48 ≤ tb (a + j) ∧ tb (a + j) ≤ 57) → ∃ t', L6_next_204 c1 fuel t = some t' ∧ B3 t t' (Sc tn tb isDg p) (vM tb a (Sc tn tb isDg p - a)) := by
  have r0 := hR.1
  intro d
  induction d with
  | zero =>
    intro p fuel t h1 ha h2 hx hp h11 hl
    obtain ⟨f, rfl⟩ : ∃ q, fuel = q + 1 := ⟨fuel - 1, by omega⟩
    rw [Sc_e (show tn ≤ p by omega)]
    refine ⟨t, ?_, rfl, hp, h11, fun _ _ _ => rfl⟩
    rw [L6_next_204, m_here hR hx (by omega) hp, if_neg (by omega), bd_e, m_inDe, bd_e, if_pos rfl]
  | succ d ih =>
    intro p fuel t h1 ha h2 hx hp h11 hl
    obtain ⟨f, rfl⟩ : ∃ q, fuel = q + 1 := ⟨fuel - 1, by omega⟩
    have hb := hR.2 p (by omega)
    have hv := vM_le (tb := tb) (a := a) (p - a) (fun j hj => (hl j hj).2)
    rw [L6_next_204, m_here hR hx (by omega) hp, if_pos (by omega), bd_e, m_inD hb, bd_e, ib0]
    cases g : isDg (tb p) with
    | false =>
      rw [cond_false, Sc_f g]
      exact ⟨t, rfl, rfl, hp, h11, fun _ _ _ => rfl⟩
    | true =>
      have g' := g
      unfold isDg at g'
      rw [decide_eq_true_eq] at g'
      rw [cond_true, h11]
      simp only [lt_e, bd_e]
      have step : ∀ v : Nat, v = vM tb a (p + 1 - a) → ∃ t', L6_next_204 c1 f (sI (sI t 0 11 (nI v)) 0 8 (nI (p + 1))) = some t' ∧ B3 t t' (Sc tn tb isDg p) (vM tb a (Sc tn tb isDg p - a)) := by
        intro v ev
        have q1 : BX t (sI (sI t 0 11 (nI v)) 0 8 (nI (p + 1))) := (BX.rf.i (by omega)).i (by omega)
        obtain ⟨t', k1, k2⟩ := ih (p + 1) f (sI (sI t 0 11 (nI v)) 0 8 (nI (p + 1))) (by omega) (by omega) (by omega) (q1.mx hx) sI_s (by rw [sI_o (by omega), sI_s, ev]) (fun j hj => by
          by_cases e : j = p - a
          · rw [e, show a + (p - a) = p by omega]; exact g'
          · exact hl j (by omega))
        rw [Sc_t (by omega) g]
        exact ⟨t', k1, k2.1, k2.2.1, k2.2.2.1, fun k j hk => by rw [k2.2.2.2 k j hk, sI_o (by omega), sI_o (by omega)]⟩
      have e0 : ∀ v, (sI t 0 11 v).1 0 8 = nI p := fun v => by rw [sI_o (by omega)]; exact hp
      simp only [e0, nI_1]
      have e9 : vM tb a (p + 1 - a) = if vM tb a (p - a) ≤ 99 then 10 * vM tb a (p - a) + tb p - 48 else vM tb a (p - a) := by
        rw [show p + 1 - a = (p - a) + 1 by omega, vM, show a + (p - a) = p by omega]
      by_cases l : vM tb a (p - a) ≤ 99
      · rw [if_pos l] at e9
        rw [if_pos (by rw [l99, c_le (by omega) (by omega)]; exact l), l10, c_mul, c_add, l48, c_sub (by omega)]
        exact step _ e9.symm
      · rw [if_neg l] at e9
        rw [if_neg (by rw [l99, c_le (by omega) (by omega)]; exact l)]
        exact step _ e9.symm
theorem m_next (hR : XR tn tb) (hx : MX t tn tb) {p : Nat} (hp : p ≤ tn) (h8 : t.1 0 8 = nI p) : ∃ t', f6_next t = some t' ∧ BX t t' ∧ (TKs tn tb p ≠ 7 → t'.1 0 8 = nI (TKe tn tb p)) ∧ t'.1 0 9 = nI (TKa tn tb p) ∧ t'.1 0 10 = nI (mS (TKs tn tb p)) ∧ (TKs tn tb p = 2 → t'.1 0 11 = nI (TKv tn tb p)) := by
  have r0 := hR.1
  have ab := TKa_b (tn := tn) (tb := tb) hp
  obtain ⟨t1, a1, a2⟩ := m_skip hR (tn - p) p FU t (by omega) (by unfold FU; omega) hx h8
  have a2 : B2 t t1 (TKa tn tb p) := a2
  obtain ⟨a, ha⟩ : ∃ a, a = TKa tn tb p := ⟨_, rfl⟩
  have fTs : TKs tn tb p = if tn ≤ a then 0 else if tb a = 59 then 1 else if isDg (tb a) = true then (if (tb a = 48 ∧ 1 < Sc tn tb isDg a - a) ∨ 99 < TKv tn tb p then 7 else 2) else if isLt (tb a) = true then wS tb a (Sc tn tb isLt a - a) else 7 := by rw [ha]; rfl
  have fTe : TKe tn tb p = if tn ≤ a then a else if tb a = 59 then a + 1 else if isDg (tb a) = true then Sc tn tb isDg a else if isLt (tb a) = true then Sc tn tb isLt a else a := by rw [ha]; rfl
  have fTv : TKv tn tb p = vC tb a (Sc tn tb isDg a - a) := by rw [ha]; rfl
  rw [← ha] at a2 ab ⊢
  rw [fTv] at fTs ⊢
  obtain ⟨t2, ht2⟩ : ∃ t2, t2 = sI (sI t1 0 9 (nI a)) 0 11 0 := ⟨_, rfl⟩
  have b2 : BX t t2 := by rw [ht2]; exact (a2.bx.i (by omega)).i (by omega)
  have y8 : t2.1 0 8 = nI a := by rw [ht2, sI_o (by omega), sI_o (by omega)]; exact a2.2.1
  have y9 : t2.1 0 9 = nI a := by rw [ht2, sI_o (by omega), sI_s]
  have y11 : t2.1 0 11 = nI 0 := by rw [ht2, sI_s]; rfl
  have hx2 := b2.mx hx
  unfold f6_next
  rw [a1, bk1_e, lt_e, a2.2.1, lt_e, ← ht2, m_here hR hx2 ab.2 y8]
  by_cases g0 : tn ≤ a
  · rw [if_pos g0] at fTs fTe
    rw [fTs, fTe, if_neg (by omega), bd_e, if_pos (by decide), lt_e]
    exact ⟨_, rfl, b2.i (by omega), fun _ => by rw [sI_o (by omega)]; exact y8, by rw [sI_o (by omega)]; exact y9, by rw [sI_s]; rfl, fun q => by omega⟩
  · have hb := hR.2 a (by omega)
    rw [if_neg g0] at fTs fTe
    rw [if_pos (by omega), bd_e, if_neg (nI_pos (by omega)), m_inL hb, bd_e, ib0]
    by_cases g1 : tb a = 59
    · have n1 : isLt (tb a) = false := by rw [g1]; decide
      have n2 : isDg (tb a) = false := by rw [g1]; decide
      rw [if_pos g1] at fTs fTe
      rw [fTs, fTe, n1, cond_false, m_inD hb, bd_e, ib0, n2, cond_false, y8, nI_1]
      simp only [lt_e]
      rw [if_pos (by rw [g1]; rfl)]
      exact ⟨_, rfl, (b2.i (by omega)).i (by omega), fun _ => by rw [sI_o (by omega), sI_s], by rw [sI_o (by omega), sI_o (by omega)]; exact y9, by rw [sI_s]; rfl, fun q => by omega⟩
    · rw [if_neg g1] at fTs fTe
      cases g3 : isLt (tb a) with
      | true =>
        have n2 : isDg (tb a) = false := by
          unfold isLt at g3
          unfold isDg
          rw [decide_eq_true_eq] at g3
          rw [decide_eq_false_iff_not]; omega
        rw [n2, if_neg (by simp), g3, if_pos rfl] at fTs fTe
        rw [cond_true]
        have bb := Sc_b (tn := tn) (tb := tb) (P := isLt) (tn - a) a (by omega)
        have bi := Sc_in (tn := tn) (tb := tb) (P := isLt) (tn - a) a (by omega)
        have b1 : a + 1 ≤ Sc tn tb isLt a := by
          rw [Sc_t (by omega) g3]
          exact (Sc_b (tn := tn) (tb := tb) (P := isLt) (tn - (a + 1)) (a + 1) (by omega)).1
        have hl : ∀ j, j < Sc tn tb isLt a - a → 97 ≤ tb (a + j) ∧ tb (a + j) ≤ 122 := by
          intro j hj
          have := bi (a + j) (by omega) (by omega)
          unfold isLt at this
          rw [decide_eq_true_eq] at this
          exact this
        obtain ⟨t3, k1, k2⟩ := m_wordL hR (a := a) (tn - a) a FU t2 (by omega) (by omega) (by unfold FU; omega) hx2 y8 y9 (fun j hj => by omega)
        rw [show a - a = 0 by omega] at k1
        have k1 : L6_next_65 FU 0 t2 = _ := k1
        have wr := w_rel (tb := tb) (a := a) (L := Sc tn tb isLt a - a) (by omega) hl
        have z9 : t3.1 0 9 = nI a := by rw [k2.2.2 _ _ (by omega)]; exact y9
        have hc := cd_lt (tb := tb) (a := a) (i := Sc tn tb isLt a - a) (fun j hj => (hl j hj).2)
        have hcF : cdF tb a (Sc tn tb isLt a - a) < 400000000 := by unfold cdF; split <;> omega
        have eJ : (if nI (Sc tn tb isLt a) - nI a ≤ 6 then nI (cd tb a (Sc tn tb isLt a - a)) else 0) = nI (cdF tb a (Sc tn tb isLt a - a)) := by
          rw [c_sub bb.1]
          unfold cdF
          by_cases q : Sc tn tb isLt a - a ≤ 6
          · rw [if_pos (by rw [l6, c_le (by omega) (by omega)]; exact q), if_pos q]
          · rw [if_neg (by rw [l6, c_le (by omega) (by omega)]; exact q), if_neg q]; rfl
        rw [k1, bk2_e, k2.2.1, z9, lt_if, eJ]
        have fin : ∀ v : Int32, v = nI (mS (wS tb a (Sc tn tb isLt a - a))) → ∃ t', some (sI t3 0 10 v) = some t' ∧ BX t t' ∧ (TKs tn tb p ≠ 7 → t'.1 0 8 = nI (TKe tn tb p)) ∧ t'.1 0 9 = nI a ∧ t'.1 0 10 = nI (mS (TKs tn tb p)) ∧ (TKs tn tb p = 2 → t'.1 0 11 = nI (vC tb a (Sc tn tb isDg a - a))) := by
          intro v hv
          refine ⟨_, rfl, (b2.tr k2.bx).i (by omega), fun _ => by rw [sI_o (by omega), fTe]; exact k2.2.1, by rw [sI_o (by omega)]; exact z9, by rw [sI_s, fTs, hv], fun q => ?_⟩
          exfalso
          rw [fTs] at q
          unfold wS at q
          split at q <;> (try omega)
          split at q <;> (try omega)
          split at q <;> (try omega)
          split at q <;> omega
        rw [← wr] at fin
        unfold wCd at fin
        simp only [lt_e]
        by_cases q0 : cdF tb a (Sc tn tb isLt a - a) = 38293730
        · rw [if_pos q0] at fin
          rw [if_pos (by rw [q0]; decide)]; exact fin 1 rfl
        · rw [if_neg q0] at fin
          rw [if_neg (by rw [show (38293730 : Int32) = nI 38293730 by decide, c_eq (by omega) (by omega)]; exact q0)]
          by_cases q1 : cdF tb a (Sc tn tb isLt a - a) = 16922
          · rw [if_pos q1] at fin
            rw [if_pos (by rw [q1]; decide)]; exact fin 2 rfl
          · rw [if_neg q1] at fin
            rw [if_neg (by rw [show (16922 : Int32) = nI 16922 by decide, c_eq (by omega) (by omega)]; exact q1)]
            by_cases q2 : cdF tb a (Sc tn tb isLt a - a) = 279740
            · rw [if_pos q2] at fin
              rw [if_pos (by rw [q2]; decide)]; exact fin 3 rfl
            · rw [if_neg q2] at fin
              rw [if_neg (by rw [show (279740 : Int32) = nI 279740 by decide, c_eq (by omega) (by omega)]; exact q2)]
              by_cases q3 : cdF tb a (Sc tn tb isLt a - a) = 50434
              · rw [if_pos q3] at fin
                rw [if_pos (by rw [q3]; decide)]; exact fin 4 rfl
              · rw [if_neg q3] at fin
                rw [if_neg (by rw [show (50434 : Int32) = nI 50434 by decide, c_eq (by omega) (by omega)]; exact q3)]; exact fin 7 rfl
      | false =>
        rw [cond_false, m_inD hb, bd_e, ib0]
        cases g2 : isDg (tb a) with
        | true =>
          rw [g2, if_pos rfl] at fTs fTe
          rw [cond_true]
          have bb := Sc_b (tn := tn) (tb := tb) (P := isDg) (tn - a) a (by omega)
          have bi := Sc_in (tn := tn) (tb := tb) (P := isDg) (tn - a) a (by omega)
          have hl : ∀ j, j < Sc tn tb isDg a - a → 48 ≤ tb (a + j) ∧ tb (a + j) ≤ 57 := by
            intro j hj
            have := bi (a + j) (by omega) (by omega)
            unfold isDg at this
            rw [decide_eq_true_eq] at this
            exact this
          obtain ⟨t3, k1, k2⟩ := m_numL hR (a := a) (nI (tb a)) (tn - a) a FU t2 (by omega) (by omega) (by unfold FU; omega) hx2 y8 (by rw [show a - a = 0 by omega]; exact y11) (fun j hj => by omega)
          have z9 : t3.1 0 9 = nI a := by rw [k2.2.2.2 _ _ (by omega)]; exact y9
          have vr := v_rel (tb := tb) (a := a) (Sc tn tb isDg a - a) (fun j hj => (hl j hj).1)
          have vl := vM_le (tb := tb) (a := a) (Sc tn tb isDg a - a) (fun j hj => (hl j hj).2)
          rw [k1, bk1_e, k2.2.2.1, k2.2.1, z9, c_sub bb.1]
          simp only [lt_e]
          have f7 : ((tb a = 48 ∧ 1 < Sc tn tb isDg a - a) ∨ 99 < vC tb a (Sc tn tb isDg a - a)) → ∃ t', some (sI t3 0 10 7) = some t' ∧ BX t t' ∧ (TKs tn tb p ≠ 7 → t'.1 0 8 = nI (TKe tn tb p)) ∧ t'.1 0 9 = nI a ∧ t'.1 0 10 = nI (mS (TKs tn tb p)) ∧ (TKs tn tb p = 2 → t'.1 0 11 = nI (vC tb a (Sc tn tb isDg a - a))) := by
            intro q
            rw [if_pos q] at fTs
            rw [fTs]
            exact ⟨_, rfl, (b2.tr k2.bx).i (by omega), fun q => absurd rfl q, by rw [sI_o (by omega)]; exact z9, by rw [sI_s]; rfl, fun q => by omega⟩
          have f5 : ¬ ((tb a = 48 ∧ 1 < Sc tn tb isDg a - a) ∨ 99 < vC tb a (Sc tn tb isDg a - a)) → ∃ t', some (sI t3 0 10 5) = some t' ∧ BX t t' ∧ (TKs tn tb p ≠ 7 → t'.1 0 8 = nI (TKe tn tb p)) ∧ t'.1 0 9 = nI a ∧ t'.1 0 10 = nI (mS (TKs tn tb p)) ∧ (TKs tn tb p = 2 → t'.1 0 11 = nI (vC tb a (Sc tn tb isDg a - a))) := by
            intro q
            rw [if_neg q] at fTs
            rw [fTs]
            refine ⟨_, rfl, (b2.tr k2.bx).i (by omega), fun _ => by rw [sI_o (by omega), fTe]; exact k2.2.1, by rw [sI_o (by omega)]; exact z9, by rw [sI_s]; rfl, fun _ => ?_⟩
            rw [sI_o (by omega), k2.2.2.1]
            rcases vr with ⟨-, e⟩ | ⟨e, -⟩
            · rw [e]
            · omega
          by_cases l : vM tb a (Sc tn tb isDg a - a) ≤ 99
          · rw [if_pos (by rw [l99, c_le (by omega) (by omega)]; exact l)]
            have l2 : vC tb a (Sc tn tb isDg a - a) ≤ 99 := by omega
            by_cases g4 : tb a = 48
            · rw [if_pos (by rw [g4]; rfl)]
              by_cases g5 : Sc tn tb isDg a - a ≤ 1
              · rw [if_pos (by rw [l1, c_le (by omega) (by omega)]; exact g5)]
                exact f5 (by omega)
              · rw [if_neg (by rw [l1, c_le (by omega) (by omega)]; exact g5)]
                exact f7 (by omega)
            · rw [if_neg (by rw [l48, c_eq (by omega) (by omega)]; exact g4)]
              exact f5 (by omega)
          · rw [if_neg (by rw [l99, c_le (by omega) (by omega)]; exact l)]
            exact f7 (by omega)
        | false =>
          rw [g2, if_neg (by simp), g3, if_neg (by simp)] at fTs fTe
          rw [cond_false, y8, nI_1]
          simp only [lt_e]
          rw [if_neg (by rw [show (59 : Int32) = nI 59 by decide, c_eq (by omega) (by omega)]; exact g1), fTs]
          exact ⟨_, rfl, (b2.i (by omega)).i (by omega), fun q => absurd rfl q, by rw [sI_o (by omega), sI_o (by omega)]; exact y9, by rw [sI_s]; rfl, fun q => by omega⟩
end S
