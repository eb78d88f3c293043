/-! what keeps the parts of RR -/
theorem R1.keep {σ τ σ' τ' : SS} {n np : Nat} {F Pw : Nat → Nat → Nat} {U od un : Nat → Nat} (h : R1 σ τ n np F Pw U od un) (h0 : σ'.2.2 0 = σ.2.2 0) (hg : ∀ k j, k = 1 ∨ 20 ≤ k → σ'.1 k j = σ.1 k j) (hm : ∀ k j, 2 ≤ k ∧ k ≤ 6 → τ'.1 k j = τ.1 k j) : R1 σ' τ' n np F Pw U od un := by
  obtain ⟨h1, ⟨a1, a2, a3, a4⟩, ⟨b1, b2, b3, b4⟩, h4, h5, h6, h7, ⟨c1, c2⟩⟩ := h
  have e : wd σ' = wd σ := by unfold wd; rw [h0]
  have hw := (wB_ge (σ.2.2 0)).1
  have hw : 20 ≤ wd σ := hw
  refine ⟨h1, ⟨?_, ?_, ?_, ?_⟩, ⟨?_, ?_, ?_, ?_⟩, h4, ?_, ?_, h7, ?_, ?_⟩
  · rw [e, hg _ _ (by omega)]; exact a1
  · rw [e, hg _ _ (by omega)]; exact a2
  · intro w k hw1 hk; rw [e, hg _ _ (by omega)]; exact a3 w k hw1 hk
  · intro w k hw1 hk; rw [e, hg _ _ (by omega)]; exact a4 w k hw1 hk
  · rw [hm _ _ (by omega)]; exact b1
  · rw [hm _ _ (by omega)]; exact b2
  · intro w k hw1 hk; rw [hm _ _ (by omega)]; exact b3 w k hw1 hk
  · intro w k hw1 hk; rw [hm _ _ (by omega)]; exact b4 w k hw1 hk
  · intro i hi; rw [hg _ _ (by omega)]; exact h5 i hi
  · intro i hi; rw [hm _ _ (by omega)]; exact h6 i hi
  · intro i hi; rw [e, hg _ _ (by omega)]; exact c1 i hi
  · intro i hi; rw [e, hg _ _ (by omega)]; exact c2 i hi
theorem XC.keep {σ σ' : SS} {i : Nat} {c : CT} (b : XC σ i c) (hg : ∀ j, σ'.1 (17 + i) j = σ.1 (17 + i) j) : XC σ' i c := by
  unfold XC at b ⊢
  rw [hg, hg, hg, hg, hg, hg, hg, hg]
  exact b
theorem MCl.keep {τ τ' : SS} {i : Nat} {c : CT} (b : MCl τ i c) (hg : ∀ k, k = 7 ∨ (16 ≤ k ∧ k ≤ 22) → τ'.1 k i = τ.1 k i) : MCl τ' i c := by
  unfold MCl at b ⊢
  rw [hg _ (by omega), hg _ (by omega), hg _ (by omega), hg _ (by omega), hg _ (by omega), hg _ (by omega), hg _ (by omega), hg _ (by omega)]
  exact b
theorem R2.keep {σ τ σ' τ' : SS} {n np : Nat} {ci : Nat → CT} {kp : Nat → Bool} (h : R2 σ τ n np ci kp) (hg : ∀ k j, 17 ≤ k ∧ k ≤ 19 → σ'.1 k j = σ.1 k j) (hm : ∀ k j, k = 7 ∨ (16 ≤ k ∧ k ≤ 23) → τ'.1 k j = τ.1 k j) : R2 σ' τ' n np ci kp := by
  refine ⟨fun i hi => ?_, fun i hi => ?_, fun i hi => ?_⟩
  · rw [hg _ _ (by omega)]; exact h.1 i hi
  · rw [hm _ _ (by omega)]; exact h.2.1 i hi
  · obtain ⟨a, b, c⟩ := h.2.2 i hi
    exact ⟨a, b.keep (fun j => hg _ _ (by omega)), c.keep (fun k hk => hm _ _ (by omega))⟩
theorem R3.keep {σ τ σ' τ' : SS} {tn : Nat} {tb : Nat → Nat} (h : R3 σ τ tn tb) (h1 : σ'.1 2 1 = σ.1 2 1) (h2 : ∀ j, σ'.1 3 j = σ.1 3 j) (h3 : τ'.1 0 2 = τ.1 0 2) (h4 : ∀ j, τ'.1 1 j = τ.1 1 j) : R3 σ' τ' tn tb :=
  ⟨h.1, ⟨by rw [h1]; exact h.2.1.1, fun j hj => by rw [h2]; exact h.2.1.2 j hj⟩, by rw [h3]; exact h.2.2.1, fun j hj => by rw [h4]; exact h.2.2.2 j hj⟩
theorem R4.keep {σ τ σ' τ' : SS} {en : Nat} {d1 d2 d3 : Nat → Nat} (h : R4 σ τ en d1 d2 d3) (hg : ∀ k j, 12 ≤ k ∧ k ≤ 15 → σ'.1 k j = σ.1 k j) (h3 : τ'.1 0 24 = τ.1 0 24) (hm : ∀ k j, 13 ≤ k ∧ k ≤ 15 → τ'.1 k j = τ.1 k j) : R4 σ' τ' en d1 d2 d3 :=
  ⟨h.1, ⟨by rw [hg _ _ (by omega)]; exact h.2.1.1, fun j hj => by rw [hg _ _ (by omega), hg _ _ (by omega), hg _ _ (by omega)]; exact h.2.1.2 j hj⟩, by rw [h3]; exact h.2.2.1, fun j hj => by rw [hm _ _ (by omega), hm _ _ (by omega), hm _ _ (by omega)]; exact h.2.2.2 j hj⟩
theorem R2.set0 {σ τ σ' τ' : SS} {n np : Nat} {ci : Nat → CT} {kp : Nat → Bool} (h : R2 σ τ n np ci kp) {c : CT} (hc : CR n np c) (hx : XC σ' 0 c) (hm : MCl τ' 0 c) (hg : ∀ k j, 18 ≤ k ∧ k ≤ 19 → σ'.1 k j = σ.1 k j) (hm1 : ∀ k i, k = 7 ∨ (16 ≤ k ∧ k ≤ 22) → i ≠ 0 → τ'.1 k i = τ.1 k i) (hm2 : ∀ j, τ'.1 23 j = τ.1 23 j) : R2 σ' τ' n np (fun i => if i = 0 then c else ci i) kp := by
  refine ⟨fun i hi => ?_, fun i hi => ?_, fun i hi => ?_⟩
  · rw [hg _ _ (by omega)]; exact h.1 i hi
  · rw [hm2]; exact h.2.1 i hi
  · by_cases e : i = 0
    · subst e
      show CR n np c ∧ XC σ' 0 c ∧ MCl τ' 0 c
      exact ⟨hc, hx, hm⟩
    · have q : (fun i => if i = 0 then c else ci i) i = ci i := if_neg e
      rw [q]
      obtain ⟨q1, q2, q3⟩ := h.2.2 i hi
      exact ⟨q1, q2.keep (fun j => hg _ _ (by omega)), q3.keep (fun k hk => hm1 _ _ hk e)⟩
/-- an answer of both, and the pictures again -/
def BI (x : Option (Int32 × SS)) (y : Option (Int32 × SS)) : Prop := ∃ r σ' τ', x = some (r, σ') ∧ y = some (r, τ') ∧ RR σ' τ'
def BJ (x : Option (Int64 × SS)) (y : Option (Int64 × SS)) : Prop := ∃ r σ' τ', x = some (r, σ') ∧ y = some (r, τ') ∧ RR σ' τ'
def pI {α : Type} (x : Option α) (σ : SS) : Option (α × SS) := match x with | some r => some (r, σ) | none => none
section OPS
variable {σ τ : SS}
theorem r_trace (h : RR σ τ) : BJ (pI (f5_trace σ) σ) (pI (f6_trace τ) τ) := ⟨_, σ, τ, rfl, by rw [h.2.2.2.1]; rfl, h⟩
theorem r_clear (h : RR σ τ) : BI (f5_clear σ) (f6_clear τ) := by
  obtain ⟨⟨n, np, F, Pw, U, od, un, ci, kp, h1, h2⟩, ⟨tn, tb, h3⟩, ⟨en, d1, d2, d3, h4⟩, h5, h6⟩ := h
  refine ⟨nI tn, sI σ 2 1 0, sI τ 0 2 0, ?_, ?_, ⟨⟨n, np, F, Pw, U, od, un, ci, kp, ?_, ?_⟩, ⟨0, tb, ?_⟩, ⟨en, d1, d2, d3, ?_⟩, h5, h6⟩⟩
  · unfold f5_clear; rw [h3.2.1.1]; rfl
  · unfold f6_clear; rw [h3.2.2.1]; rfl
  · exact h1.keep rfl (fun k j hk => sI_o (by omega)) (fun k j hk => sI_o (by omega))
  · exact h2.keep (fun k j hk => sI_o (by omega)) (fun k j hk => sI_o (by omega))
  · exact ⟨⟨by omega, fun j hj => absurd hj (by omega)⟩, ⟨sI_s, fun j hj => absurd hj (by omega)⟩, sI_s, fun j hj => absurd hj (by omega)⟩
  · exact h4.keep (fun k j hk => sI_o (by omega)) (sI_o (by omega)) (fun k j hk => sI_o (by omega))
theorem r_lot (h : RR σ τ) (v : Int32) : BI (f5_lot v σ) (f6_lot v τ) := by
  obtain ⟨⟨n, np, F, Pw, U, od, un, ci, kp, h1, h2⟩, ⟨tn, tb, h3⟩, ⟨en, d1, d2, d3, h4⟩, h5, h6⟩ := h
  obtain ⟨c1, c2, c3⟩ := h2.2.2 0 (Or.inl rfl)
  refine ⟨(ci 0).2.2.2.2.2.2.1, sI σ 17 6 v, sI τ 22 0 v, ?_, ?_, ⟨⟨n, np, F, Pw, U, od, un, fun i => if i = 0 then (((ci 0).1, (ci 0).2.1, (ci 0).2.2.1, (ci 0).2.2.2.1, (ci 0).2.2.2.2.1, (ci 0).2.2.2.2.2.1, v, (ci 0).2.2.2.2.2.2.2) : CT) else ci i, kp, ?_, ?_⟩, ⟨tn, tb, ?_⟩, ⟨en, d1, d2, d3, ?_⟩, h5, h6⟩⟩
  · unfold f5_lot; rw [show (17 + 0 : Nat) = 17 from rfl, show σ.1 17 6 = _ from c2.2.2.2.2.2.2.1]; rfl
  · simp only [f6_lot, gd_t (iz 3 (by omega)), tz0, lt_e, c3.2.2.2.2.2.2.1]
  · exact h1.keep rfl (fun k j hk => sI_o (by omega)) (fun k j hk => sI_o (by omega))
  · refine h2.set0 c1 ?_ ?_ (fun k j hk => sI_o (by omega)) (fun k j hk hi => sI_o (by omega)) (fun j => sI_o (by omega))
    · obtain ⟨a0, a1, a2, a3, a4, a5, a6, a7⟩ := c2
      exact ⟨by rw [sI_o (by omega)]; exact a0, by rw [sI_o (by omega)]; exact a1, by rw [sI_o (by omega)]; exact a2, by rw [sI_o (by omega)]; exact a3, by rw [sI_o (by omega)]; exact a4, by rw [sI_o (by omega)]; exact a5, sI_s, by rw [sI_o (by omega)]; exact a7⟩
    · obtain ⟨a0, a1, a2, a3, a4, a5, a6, a7⟩ := c3
      exact ⟨by rw [sI_o (by omega)]; exact a0, by rw [sI_o (by omega)]; exact a1, by rw [sI_o (by omega)]; exact a2, by rw [sI_o (by omega)]; exact a3, by rw [sI_o (by omega)]; exact a4, by rw [sI_o (by omega)]; exact a5, sI_s, by rw [sI_o (by omega)]; exact a7⟩
  · exact h3.keep (sI_o (by omega)) (fun j => sI_o (by omega)) (sI_o (by omega)) (fun j => sI_o (by omega))
  · exact h4.keep (fun k j hk => sI_o (by omega)) (sI_o (by omega)) (fun k j hk => sI_o (by omega))
theorem r_branch (h : RR σ τ) (a b : Int32) : BI (pI (f5_branch a b σ) σ) (pI (f6_branch a b τ) τ) := by
  have h' := h
  obtain ⟨⟨n, np, F, Pw, U, od, un, ci, kp, h1, h2⟩, -⟩ := h
  obtain ⟨hR, hx, hm, hU, hux, hum, hO, hxo⟩ := h1
  obtain ⟨c1, c2, c3⟩ := h2.2.2 0 (Or.inl rfl)
  have r0 := hR.1
  have key : ∃ r, f5_branch a b σ = some r ∧ f6_branch a b τ = some r := by
    unfold f5_branch f6_branch
    rw [x_isBranch' hR hx, m_isBranch hR hm]
    rcases ok_cases a (n := n) (by omega) with e | ⟨k, hk, rfl, e⟩
    · rw [e]
      exact ⟨-1, rfl, rfl⟩
    · rw [e]
      simp only [bd_e, ib0, cond_true, lt_e, f6_in_b]
      rcases i_cases b with g | ⟨j, hj, rfl⟩
      · rw [if_pos g, show decide ((0 : Int32) ≤ b ∧ b ≤ 6) = false from decide_eq_false (fun q => Int32.not_lt.mpr q.1 g)]
        exact ⟨-1, rfl, rfl⟩
      · have z1 : (nI j ≤ 6) = (j ≤ 6) := c_le (b := 6) (by omega) (by omega)
        have z2 : (0 ≤ nI j) = True := by rw [l0, c_le (by omega) (by omega)]; simp
        rw [if_neg (nI_pos (by omega))]
        simp only [z1, z2, true_and]
        by_cases g1 : j ≤ 6
        · rw [if_pos g1, decide_eq_true g1]
          have z3 : (nI j = 6) = (j = 6) := c_eq (b := 6) (by omega) (by omega)
          simp only [cond_true, z3]
          by_cases g2 : j = 6
          · rw [if_pos g2, if_pos g2]
            have hs : (ci 0).2.2.2.2.2.2.2 < 4096 := Nat.lt_of_lt_of_le c1.2.2.2 (pow12 r0)
            have q1 := x_isSawn hs c2.2.2.2.2.2.2.2 (a := k) (by omega)
            rw [plI_lt (by omega)] at q1
            rw [q1, m_isSawn hs c3.2.2.2.2.2.2.2 (by omega)]
            simp only [bd_e, ib0, f5_bit]
            refine ⟨bI (sawB (ci 0).2.2.2.2.2.2.2 k), ?_, ?_⟩ <;> cases sawB (ci 0).2.2.2.2.2.2.2 k <;> rfl
          · rw [if_neg g2, if_neg g2, x_feature hR hx (by omega) hk, m_of hR hm (by omega) hk]
            exact ⟨_, rfl, rfl⟩
        · rw [if_neg g1, decide_eq_false g1]
          exact ⟨-1, rfl, rfl⟩
  obtain ⟨r, k1, k2⟩ := key
  exact ⟨r, σ, τ, by rw [k1]; rfl, by rw [k2]; rfl, h'⟩
theorem r_body (h : RR σ τ) (a b : Int32) : BI (pI (f5_body a b σ) σ) (pI (f6_body a b τ) τ) := by
  have h' := h
  obtain ⟨⟨n, np, F, Pw, U, od, un, ci, kp, h1, h2⟩, -⟩ := h
  obtain ⟨hR, hx, hm, hU, hux, hum, hO, hxo⟩ := h1
  have r0 := hR.2.1
  have key : ∃ r, f5_body a b σ = some r ∧ f6_body a b τ = some r := by
    unfold f5_body f6_body
    rw [x_isBody' hR hx, m_isBody hR hm]
    rcases ok_cases a (n := np) (by omega) with e | ⟨k, hk, rfl, e⟩
    · rw [e]
      exact ⟨-1, rfl, rfl⟩
    · rw [e]
      simp only [bd_e, ib0, cond_true, lt_e, f6_in_b]
      rcases i_cases b with g | ⟨j, hj, rfl⟩
      · rw [if_pos g, show decide ((0 : Int32) ≤ b ∧ b ≤ 2) = false from decide_eq_false (fun q => Int32.not_lt.mpr q.1 g)]
        exact ⟨-1, rfl, rfl⟩
      · have z1 : (nI j ≤ 2) = (j ≤ 2) := c_le (b := 2) (by omega) (by omega)
        have z2 : (0 ≤ nI j) = True := by rw [l0, c_le (by omega) (by omega)]; simp
        rw [if_neg (nI_pos (by omega))]
        simp only [z1, z2, true_and]
        by_cases g1 : j ≤ 2
        · rw [if_pos g1, decide_eq_true g1, x_power hR hx (by omega) hk]
          simp only [cond_true]
          rw [m_bodyOf hR hm (by omega) hk]
          exact ⟨_, rfl, rfl⟩
        · rw [if_neg g1, decide_eq_false g1]
          exact ⟨-1, rfl, rfl⟩
  obtain ⟨r, k1, k2⟩ := key
  exact ⟨r, σ, τ, by rw [k1]; rfl, by rw [k2]; rfl, h'⟩
theorem r_step (h : RR σ τ) (a b c : Int32) : BI (pI (f5_step a b c σ) σ) (f6_step a b c τ) := by
  have h' := h
  obtain ⟨⟨n, np, F, Pw, U, od, un, ci, kp, h1, h2⟩, -, -, -, hf⟩ := h
  obtain ⟨hR, hx, hm, hU, hux, hum, hO, hxo⟩ := h1
  obtain ⟨c1, c2, c3⟩ := h2.2.2 0 (Or.inl rfl)
  have r0 := hR.1
  have r1 := hR.2.1
  have hs : (ci 0).2.2.2.2.2.2.2 < 4096 := Nat.lt_of_lt_of_le c1.2.2.2 (pow12 r0)
  have bad : ∀ v : Int32, BI (pI (some v) σ) (some (v, τ)) := fun v => ⟨v, σ, τ, rfl, rfl, h'⟩
  unfold f5_step f6_step
  rw [x_isBody' hR hx, m_isBody hR hm]
  rcases ok_cases a (n := np) (by omega) with e | ⟨p, hp, rfl, e⟩
  · rw [e]; exact bad _
  · rw [e]
    simp only [bd_e, ib0, cond_true]
    rw [x_isPlace hR hx, m_isPlace hR hm]
    simp only [bd_e, ib0]
    rcases okp_cases b (n := n) (by omega) with e1 | ⟨i, hi, rfl, e1⟩
    · rw [e1]; exact bad _
    · rw [e1]
      simp only [cond_true]
      rw [x_isPlace hR hx, m_isPlace hR hm]
      simp only [bd_e, ib0]
      rcases okp_cases c (n := n) (by omega) with e2 | ⟨j, hj, rfl, e2⟩
      · rw [e2]; exact bad _
      · rw [e2]
        simp only [cond_true]
        obtain ⟨τ', t1, t2, t3⟩ := m_look hR hm hum hp
        have p0 := hR.2.2.2 p hp
        have u5 := hU.2.2.2.2.2.2.2
        by_cases g : plI i = plI j
        · rw [if_pos g, if_pos g]; exact bad _
        · rw [if_neg g, if_neg g]
          have e3 : f4_power (σ.2.2 0) (nI p) 0 σ = some (nI (Pw 0 p)) := x_power hR hx (w := 0) (by omega) hp
          have e4 : f5_tuned 5 σ = some (nI (U 5)) := x_tuned hux (i := 5) (by omega)
          rw [e3, bd_e, e4, bd_e, x_mayStep hR hx hU hux hs c2.2.2.2.2.2.2.2 hp hi hj (by omega) (by omega), t1]
          have hm' : MT τ' n np F Pw := (R1.scr ⟨hR, hx, hm, hU, hux, hum, hO, hxo⟩ (XS.rf hf) t2).2.2.1
          have hum' : MU τ' U := (R1.scr ⟨hR, hx, hm, hU, hux, hum, hO, hxo⟩ (XS.rf hf) t2).2.2.2.2.2.1
          have hs' : τ'.1 7 0 = nI (ci 0).2.2.2.2.2.2.2 := by rw [t2.2 _ _ (by omega) (by omega)]; exact c3.2.2.2.2.2.2.2
          have key := m_mayStep hR hm' hU hum' hs hs' hp hi hj (by omega) (by omega) t3
          have hpm : ∀ i, pl n i → (if plI i = -1 then (12 : Int32) else plI i) = nI i := by
            intro i hi
            by_cases q : i = 12
            · rw [q]; rfl
            · rw [if_neg (by rw [pl_m1 r0 hi]; exact q), plI_lt (by rcases hi with h | h <;> omega)]
          have q1 := hpm i hi
          have q2 := hpm j hj
          simp only [bd_e, lt_e]
          have fin : BI (pI (bd (f5_bit (bI (may F Pw U (ci 0).2.2.2.2.2.2.2 p (Pw 0 p) (U 5) i j))) fun x7 => some x7) σ) (bd (f6_mayStep (nI i) (nI j) τ') fun x11 => if x11 = 0 then some (0, τ') else some (1, τ')) := by
            rw [key]
            simp only [bd_e, ib0, f5_bit]
            refine ⟨bI (may F Pw U (ci 0).2.2.2.2.2.2.2 p (Pw 0 p) (U 5) i j), σ, τ', ?_, ?_, h'.scr (XS.rf hf) t2⟩ <;> cases may F Pw U (ci 0).2.2.2.2.2.2.2 p (Pw 0 p) (U 5) i j <;> rfl
          by_cases g1 : plI i = -1 <;> by_cases g2 : plI j = -1
          · exact absurd (g1.trans g2.symm) g
          · rw [if_pos g1] at q1; rw [if_neg g2] at q2
            rw [if_pos g1, if_neg g2, q1, q2]; exact fin
          · rw [if_neg g1] at q1; rw [if_pos g2] at q2
            rw [if_neg g1, if_pos g2, q1, q2]; exact fin
          · rw [if_neg g1] at q1; rw [if_neg g2] at q2
            rw [if_neg g1, if_neg g2, q1, q2]; exact fin
theorem r_holds (h : RR σ τ) (a b : Int32) : BI (pI (f5_holds a b σ) σ) (f6_holds a b τ) := by
  have h' := h
  obtain ⟨⟨n, np, F, Pw, U, od, un, ci, kp, h1, h2⟩, -, -, -, hf⟩ := h
  obtain ⟨hR, hx, hm, hU, hux, hum, hO, hxo⟩ := h1
  have r0 := hR.1
  have r1 := hR.2.1
  have bad : ∀ v : Int32, BI (pI (some v) σ) (some (v, τ)) := fun v => ⟨v, σ, τ, rfl, rfl, h'⟩
  unfold f5_holds f6_holds
  rw [x_isBody' hR hx, m_isBody hR hm]
  rcases ok_cases a (n := np) (by omega) with e | ⟨p, hp, rfl, e⟩
  · rw [e]; exact bad _
  · rw [e]
    simp only [bd_e, ib0, cond_true, lt_e]
    rw [x_isBranch' hR hx, m_isBranch hR hm]
    simp only [bd_e, ib0]
    rcases ok_cases b (n := n) (by omega) with e1 | ⟨i, hi, rfl, e1⟩
    · rw [e1]; exact bad _
    · rw [e1]
      simp only [cond_true]
      obtain ⟨τ', t1, t2, t3⟩ := m_look hR hm hum hp
      have hR1 := R1.scr ⟨hR, hx, hm, hU, hux, hum, hO, hxo⟩ (XS.rf hf) t2
      have k1 := x_tenths hR hx hU hux hp (Or.inl hi : pl n i)
      rw [plI_lt (by omega)] at k1
      rw [k1, t1]
      simp only [bd_e]
      rw [m_holdsOn hR hR1.2.2.1 hU hR1.2.2.2.2.2.1 hp (Or.inl hi) t3]
      exact ⟨_, σ, τ', rfl, rfl, h'.scr (XS.rf hf) t2⟩
end OPS
