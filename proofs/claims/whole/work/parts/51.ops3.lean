section S
variable {σ τ : SS} {en : Nat} {d1 d2 d3 : Nat → Nat}
theorem m_lookedL (hD : DR en d1 d2 d3) (h : MD τ en d1 d2 d3) {p : Nat} (hp : p < 3) : ∀ (d i c1 c2 c3 c4 fuel : Nat), i + d = en → d < fuel → L6_looked_24 (nI p) τ fuel (nI c1) (nI c2) (nI c3) (nI c4) (nI i) = some (nI (c1 + cf (fun j => isO d1 d2 p 1 9 j && decide (0 ≤ d3 j)) i d), nI (c2 + cf (fun j => isO d1 d2 p 0 0 j && decide (0 ≤ d3 j)) i d), nI (c3 + sf (isO d1 d2 p 1 9) d3 i d), nI (c4 + sf (isO d1 d2 p 0 0) d3 i d)) := by
  have r0 := hD.1
  intro d
  induction d with
  | zero =>
    intro i c1 c2 c3 c4 fuel h1 h2
    obtain ⟨f, rfl⟩ : ∃ f, fuel = f + 1 := ⟨fuel - 1, by omega⟩
    rw [L6_looked_24, h.1, if_neg (by rw [c_lt (by omega) (by omega)]; omega)]
    rfl
  | succ d ih =>
    intro i c1 c2 c3 c4 fuel h1 h2
    obtain ⟨f, rfl⟩ : ∃ f, fuel = f + 1 := ⟨fuel - 1, by omega⟩
    have r1 := hD.2 i (by omega)
    have e := h.2 i (by omega)
    have hin : inb (nI i) 40 := by rw [c_inb (by omega)]; omega
    have q1 : (nI (d1 i) = nI p) = (d1 i = p) := c_eq (by omega) (by omega)
    have q2 : (nI (d2 i) ≤ 0) = (d2 i = 0) := by rw [l0, c_le (by omega) (by omega)]; exact propext ⟨fun q => by omega, fun q => by omega⟩
    have q3 : (nI (d2 i) = 0) = (d2 i = 0) := c_eq (b := 0) (by omega) (by omega)
    rw [L6_looked_24, h.1, if_pos (by rw [c_lt (by omega) (by omega)]; omega)]
    simp only [gd_t hin, c_tn (show i < 2147483648 by omega), e.1, e.2.1, e.2.2, lt_e, nI_1, q1, q2, q3]
    have z0 : ∀ c, nI c + 0 = nI c := fun c => nI_add c 0
    have s0 := ih (i + 1) c1 c2 c3 c4 f (by omega) (by omega)
    have s1 := ih (i + 1) (c1 + 1) c2 (c3 + d3 i) c4 f (by omega) (by omega)
    have s2 := ih (i + 1) c1 (c2 + 1) c3 (c4 + d3 i) f (by omega) (by omega)
    rw [cf, cf, sf, sf]
    unfold isO at *
    have g3 : 1 ≤ d2 i ↔ ¬ d2 i = 0 := by omega
    have g4 : (0 : Nat) ≤ d2 i := by omega
    by_cases g1 : d1 i = p <;> by_cases g2 : d2 i = 0 <;> simp [g1, g2, g3, g4, z0, nI_1, c_add, s0, s1, s2, r1, Nat.add_assoc, Nat.add_comm, Nat.add_left_comm]
end S
section OPS
variable {σ τ : SS}
theorem toI32 {n : Nat} : Int64.toInt32 (lN n) = nI n := lN_i n
theorem r_dares (h : RR σ τ) (a b c d : Int32) : BI (pI (f5_dares a b c d σ) σ) (pI (f6_dares a b c d τ) τ) := by
  have h' := h
  obtain ⟨⟨n, np, F, Pw, U, od, un, ci, kp, h1, h2⟩, -, ⟨en, d1, d2, d3, hD, hx, hm⟩, -⟩ := h
  have hR := h1.1
  have r0 := hR.2.1
  have e0 := hD.1
  have p2 : (2 : Nat) ^ 49 = 562949953421312 := by decide
  have key : ∃ r, f5_dares a b c d σ = some r ∧ f6_dares a b c d τ = some r := by
    unfold f5_dares f6_dares
    rw [m_isBody hR h1.2.2.1]
    simp only [lt_e, x_isBody' hR h1.2.1, bd_e, ib0, f6_in_b, show (9 : Int32) = nI 9 from rfl, show (99 : Int32) = nI 99 from rfl]
    rcases ok_cases a (n := np) (by omega) with e | ⟨p, hp, rfl, e⟩
    · rw [e]
      refine ⟨-1, ?_, rfl⟩
      simp only [cond_false]
      split <;> (try rfl)
      split <;> (try rfl)
      split <;> (try rfl)
      split <;> (try rfl)
      split <;> (try rfl)
      split <;> rfl
    · rw [e]
      simp only [cond_true]
      have t0 : ∀ {α : Type} (x y : α), (if (0 : Int32) = 0 then x else y) = x := fun x y => if_pos rfl
      have t1 : ∀ {α : Type} (x y : α), (if (1 : Int32) = 0 then x else y) = y := fun x y => if_neg (by decide)
      simp only [t0, t1, if_true]
      simp only [l1]
      rw [x_rng (by omega)]
      rcases in_range (a := b) (hi := 9) (by omega) with ⟨e1, l, hl, rfl⟩ | ⟨e1, -⟩
      · rw [e1]
        simp only [cond_true]
        rw [x_rng (by omega)]
        rcases in_range (a := c) (hi := 99) (by omega) with ⟨e2, t, ht, rfl⟩ | ⟨e2, -⟩
        · rw [e2]
          simp only [cond_true]
          rw [x_rng (by omega)]
          rcases in_range (a := d) (hi := 1) (by omega) with ⟨e3, w, hw, rfl⟩ | ⟨e3, -⟩
          · rw [e3]
            simp only [cond_true]
            rw [show (0 : Int32) = nI 0 from rfl, x_howMany hD hx (by omega) (by omega) (by omega) (by omega), m_daresL hD hm (by omega) hl (by omega) (nI w) en 0 0 0 FU (by omega) (by unfold FU; omega)]
            simp only [bd_e, bk2_e]
            rw [x_howMany hD hx (by omega) (by omega) (by omega) (by omega)]
            simp only [bd_e, Nat.zero_add]
            have k1 := cf_le (fun j => isO d1 d2 p l 9 j && decide (0 ≤ d3 j)) en 0
            have k2 := cf_le (fun j => isO d1 d2 p l 9 j && decide (t ≤ d3 j)) en 0
            have k4 := cf_mono (P := fun j => isO d1 d2 p l 9 j && decide (t ≤ d3 j)) (Q := fun j => isO d1 d2 p l 9 j && decide (0 ≤ d3 j)) (fun j hj => by simp at hj ⊢; exact hj.1) en 0
            generalize cf (fun j => isO d1 d2 p l 9 j && decide (0 ≤ d3 j)) 0 en = A at k1 k4 ⊢
            generalize cf (fun j => isO d1 d2 p l 9 j && decide (t ≤ d3 j)) 0 en = B at k2 k4 ⊢
            have mx : (if nI 1 < nI A then nI A else nI 1) = nI (max 1 A) := by
              by_cases q : 1 < A
              · rw [if_pos (by rw [c_lt (by omega) (by omega)]; exact q), show max 1 A = A by omega]
              · rw [if_neg (by rw [c_lt (by omega) (by omega)]; exact q), show max 1 A = 1 by omega]
            rw [mx, l_i (by omega), l_i (by omega), l_i (by omega), x_least (by omega) (by omega) (by omega) hw, m_least (by omega) (by omega) hw]
            exact ⟨_, rfl, rfl⟩
          · rw [e3]; exact ⟨-1, rfl, rfl⟩
        · rw [e2]; exact ⟨-1, rfl, rfl⟩
      · rw [e1]; exact ⟨-1, rfl, rfl⟩
  obtain ⟨r, k1, k2⟩ := key
  exact ⟨r, σ, τ, by rw [k1]; rfl, by rw [k2]; rfl, h'⟩
theorem r_looked (h : RR σ τ) (a : Int32) : BI (pI (f5_looked a σ) σ) (pI (f6_looked a τ) τ) := by
  have h' := h
  obtain ⟨⟨n, np, F, Pw, U, od, un, ci, kp, h1, h2⟩, -, ⟨en, d1, d2, d3, hD, hx, hm⟩, -⟩ := h
  have hR := h1.1
  have r0 := hR.2.1
  have e0 := hD.1
  have key : ∃ r, f5_looked a σ = some r ∧ f6_looked a τ = some r := by
    unfold f5_looked f6_looked
    rw [x_isBody' hR h1.2.1, m_isBody hR h1.2.2.1]
    simp only [bd_e, ib0]
    rcases ok_cases a (n := np) (by omega) with e | ⟨p, hp, rfl, e⟩
    · rw [e]; exact ⟨_, rfl, rfl⟩
    · rw [e]
      simp only [cond_true]
      rw [show (0 : Int32) = nI 0 from rfl, show (1 : Int32) = nI 1 from rfl, show (9 : Int32) = nI 9 from rfl, x_howMany hD hx (by omega) (by omega) (by omega) (by omega), m_lookedL hD hm (by omega) en 0 0 0 0 0 FU (by omega) (by unfold FU; omega)]
      simp only [bd_e, bk4_e]
      rw [x_howMany hD hx (by omega) (by omega) (by omega) (by omega), x_heights hD hx (by omega) (by omega) (by omega)]
      simp only [bd_e, Nat.zero_add]
      rw [x_heights hD hx (by omega) (by omega) (by omega)]
      simp only [bd_e]
      have k1 := cf_le (fun j => isO d1 d2 p 1 9 j && decide (0 ≤ d3 j)) en 0
      have k2 := cf_le (fun j => isO d1 d2 p 0 0 j && decide (0 ≤ d3 j)) en 0
      generalize cf (fun j => isO d1 d2 p 1 9 j && decide (0 ≤ d3 j)) 0 en = A at k1 ⊢
      generalize cf (fun j => isO d1 d2 p 0 0 j && decide (0 ≤ d3 j)) 0 en = B at k2 ⊢
      generalize sf (isO d1 d2 p 1 9) d3 0 en = C
      generalize sf (isO d1 d2 p 0 0) d3 0 en = D
      have z1 : (nI A < nI 1) = (A = 0) := by rw [c_lt (by omega) (by omega)]; exact propext ⟨fun q => by omega, fun q => by omega⟩
      have z2 : (nI B < nI 1) = (B = 0) := by rw [c_lt (by omega) (by omega)]; exact propext ⟨fun q => by omega, fun q => by omega⟩
      have z3 : (nI A = nI 0) = (A = 0) := c_eq (by omega) (by omega)
      have z4 : (nI B = nI 0) = (B = 0) := c_eq (by omega) (by omega)
      simp only [z1, z2, z3, z4]
      by_cases g1 : A = 0
      · rw [if_pos g1, if_pos g1]; exact ⟨_, rfl, rfl⟩
      · rw [if_neg g1, if_neg g1]
        by_cases g2 : B = 0
        · rw [if_pos g2, if_pos g2]; exact ⟨_, rfl, rfl⟩
        · rw [if_neg g2, if_neg g2]
          simp only [gd_t g1, gd_t g2]
          refine ⟨_, rfl, ?_⟩
          rw [show (100 : Int32) = nI 100 from rfl, c_mul, c_mul, c_mul, c_mul, Nat.mul_comm C, Nat.mul_comm D]
  obtain ⟨r, k1, k2⟩ := key
  exact ⟨r, σ, τ, by rw [k1]; rfl, by rw [k2]; rfl, h'⟩
theorem r_afternoon (h : RR σ τ) (a b c : Int32) : BI (f5_afternoon a b c σ) (f6_afternoon a b c τ) := by
  have h' := h
  obtain ⟨⟨n, np, F, Pw, U, od, un, ci, kp, h1, h2⟩, ⟨tn, tb, h3⟩, ⟨en, d1, d2, d3, hD, hx, hm⟩, h5, h6⟩ := h
  have hR := h1.1
  have r0 := hR.2.1
  have e0 := hD.1
  unfold f5_afternoon f6_afternoon
  rw [x_isBody' hR h1.2.1, m_isBody hR h1.2.2.1]
  simp only [bd_e, ib0, f6_in_b, show (9 : Int32) = nI 9 from rfl, show (99 : Int32) = nI 99 from rfl]
  rcases ok_cases a (n := np) (by omega) with e | ⟨p, hp, rfl, e⟩
  · rw [e]; exact ⟨-1, σ, τ, rfl, rfl, h'⟩
  · rw [e]
    simp only [cond_true]
    rw [x_rng (by omega)]
    rcases in_range (a := b) (hi := 9) (by omega) with ⟨e1, l, hl, rfl⟩ | ⟨e1, -⟩
    · rw [e1]
      simp only [cond_true]
      rw [x_rng (by omega)]
      rcases in_range (a := c) (hi := 99) (by omega) with ⟨e2, t, ht, rfl⟩ | ⟨e2, -⟩
      · rw [e2]
        simp only [cond_true, f0_write, hx.1, hm.1, lt_e]
        by_cases g : en = 40
        · have q1 : f0_write (nI p) (nI l) (nI t) σ = some (0, σ) := by
            unfold f0_write
            rw [hx.1, if_neg (nI_pos (by omega)), if_neg (by rw [l40, c_lt (by omega) (by omega)]; omega)]
          rw [if_neg (nI_pos (by omega)), if_neg (by rw [l40, c_lt (by omega) (by omega)]; omega), if_pos (show nI en = 40 by rw [g]; rfl)]
          exact ⟨-3, σ, τ, rfl, rfl, h'⟩
        · have hin : inb (nI en) 40 := by rw [c_inb (by omega)]; omega
          rw [if_neg (nI_pos (by omega)), if_pos (by rw [l40, c_lt (by omega) (by omega)]; omega), if_neg (by rw [l40, c_eq (by omega) (by omega)]; exact g)]
          have a1 : ∀ (v : Int32) (j : Nat), (sI σ 13 j v).1 12 0 = nI en := fun v j => by rw [sI_o (by omega)]; exact hx.1
          have a2 : ∀ (v v2 : Int32) (j j2 : Nat), (sI (sI σ 13 j v) 14 j2 v2).1 12 0 = nI en := fun v v2 j j2 => by rw [sI_o (by omega)]; exact a1 v j
          have a3 : ∀ (v v2 v3 : Int32) (j j2 j3 : Nat), (sI (sI (sI σ 13 j v) 14 j2 v2) 15 j3 v3).1 12 0 = nI en := fun v v2 v3 j j2 j3 => by rw [sI_o (by omega)]; exact a2 v v2 j j2
          have b1 : ∀ (v : Int32) (j : Nat), (sI τ 13 j v).1 0 24 = nI en := fun v j => by rw [sI_o (by omega)]; exact hm.1
          have b2 : ∀ (v v2 : Int32) (j j2 : Nat), (sI (sI τ 13 j v) 14 j2 v2).1 0 24 = nI en := fun v v2 j j2 => by rw [sI_o (by omega)]; exact b1 v j
          have b3 : ∀ (v v2 v3 : Int32) (j j2 j3 : Nat), (sI (sI (sI τ 13 j v) 14 j2 v2) 15 j3 v3).1 0 24 = nI en := fun v v2 v3 j j2 j3 => by rw [sI_o (by omega)]; exact b2 v v2 j j2
          simp only [a1, a2, a3, b1, b2, b3, gd_t hin, c_tn (show en < 2147483648 by omega), bk2_e, nI_1, sI_s]
          rw [if_neg (by decide)]
          refine ⟨_, _, _, rfl, rfl, ⟨⟨n, np, F, Pw, U, od, un, ci, kp, ?_, ?_⟩, ⟨tn, tb, ?_⟩, ⟨en + 1, fun j => if j = en then p else d1 j, fun j => if j = en then l else d2 j, fun j => if j = en then t else d3 j, ⟨by omega, ?_⟩, ⟨sI_s, ?_⟩, sI_s, ?_⟩, h5, h6⟩⟩
          · exact h1.keep rfl (fun k j hk => by simp (disch := omega) only [sI_o]) (fun k j hk => by simp (disch := omega) only [sI_o])
          · exact h2.keep (fun k j hk => by simp (disch := omega) only [sI_o]) (fun k j hk => by simp (disch := omega) only [sI_o])
          · exact h3.keep (by simp (disch := omega) only [sI_o]) (fun j => by simp (disch := omega) only [sI_o]) (by simp (disch := omega) only [sI_o]) (fun j => by simp (disch := omega) only [sI_o])
          · intro j hj
            by_cases q : j = en
            · simp only [if_pos q]; omega
            · simp only [if_neg q]; exact hD.2 j (by omega)
          · intro j hj
            by_cases q : j = en
            · subst q
              simp (disch := omega) only [if_true, sI_o, sI_s, and_self]
            · simp only [if_neg q]
              have := hx.2 j (by omega)
              simp (disch := omega) only [sI_o, this, and_self]
          · intro j hj
            by_cases q : j = en
            · subst q
              simp (disch := omega) only [if_true, sI_o, sI_s, and_self]
            · simp only [if_neg q]
              have := hm.2 j (by omega)
              simp (disch := omega) only [sI_o, this, and_self]
      · rw [e2]; exact ⟨-1, σ, τ, rfl, rfl, h'⟩
    · rw [e1]; exact ⟨-1, σ, τ, rfl, rfl, h'⟩
end OPS
