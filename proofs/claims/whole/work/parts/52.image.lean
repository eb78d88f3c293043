/-! images, marks -/
section S
variable {σ τ : SS}
theorem x_become {a b : Nat} (hab : a ≠ b) : ∃ σ', f1_become a b σ = some σ' ∧ σ'.2 = σ.2 ∧ (∀ j, j < 8 → σ'.1 (17 + a) j = σ.1 (17 + b) j) ∧ ∀ k j, (k ≠ 17 + a ∨ 8 ≤ j) → σ'.1 k j = σ.1 k j := by
  refine ⟨_, rfl, rfl, ?_, ?_⟩
  · intro j hj
    have e : j = 0 ∨ j = 1 ∨ j = 2 ∨ j = 3 ∨ j = 4 ∨ j = 5 ∨ j = 6 ∨ j = 7 := by omega
    rcases e with rfl | rfl | rfl | rfl | rfl | rfl | rfl | rfl <;> simp (disch := omega) only [sI_o, sI_s]
  · intro k j h
    simp (disch := omega) only [sI_o]
def cp1 (k a b : Nat) (t : SS) : SS := sI t k b (t.1 k a)
def cpM (τ : SS) (a b : Nat) : SS := cp1 7 a b (cp1 22 a b (cp1 21 a b (cp1 20 a b (cp1 19 a b (cp1 18 a b (cp1 17 a b (cp1 16 a b τ)))))))
theorem m_copy {a b : Nat} (ha : a < 3) (hb : b < 3) (hab : a ≠ b) : ∃ τ', f6_copy (nI a) (nI b) τ = some τ' ∧ τ'.2 = τ.2 ∧ (∀ k, k = 7 ∨ (16 ≤ k ∧ k ≤ 22) → τ'.1 k b = τ.1 k a) ∧ ∀ k j, ((k < 16 ∧ k ≠ 7) ∨ 22 < k ∨ j ≠ b) → τ'.1 k j = τ.1 k j := by
  have h1 : inb (nI a) 3 := by rw [c_inb (by omega)]; exact ha
  have h2 : inb (nI b) 3 := by rw [c_inb (by omega)]; exact hb
  have e : f6_copy (nI a) (nI b) τ = some (cpM τ a b) := by
    simp only [f6_copy, gd_t h1, gd_t h2, lt_e, c_tn (show a < 2147483648 by omega), c_tn (show b < 2147483648 by omega)]
    rfl
  refine ⟨cpM τ a b, e, rfl, ?_, ?_⟩
  · intro k hk
    have e : k = 7 ∨ k = 16 ∨ k = 17 ∨ k = 18 ∨ k = 19 ∨ k = 20 ∨ k = 21 ∨ k = 22 := by omega
    unfold cpM cp1
    rcases e with rfl | rfl | rfl | rfl | rfl | rfl | rfl | rfl <;> simp (disch := omega) only [sI_o, sI_s]
  · intro k j h
    unfold cpM cp1
    simp (disch := omega) only [sI_o]
/-- a climb copied -/
theorem cpC {σ' τ' : SS} {a b : Nat} {c : CT} (hx : XC σ b c) (hm : MCl τ b c) (h1 : ∀ j, j < 8 → σ'.1 (17 + a) j = σ.1 (17 + b) j) (h2 : ∀ k, k = 7 ∨ (16 ≤ k ∧ k ≤ 22) → τ'.1 k a = τ.1 k b) : XC σ' a c ∧ MCl τ' a c := by
  constructor
  · unfold XC at hx ⊢
    rw [h1 _ (by omega), h1 _ (by omega), h1 _ (by omega), h1 _ (by omega), h1 _ (by omega), h1 _ (by omega), h1 _ (by omega), h1 _ (by omega)]
    exact hx
  · unfold MCl at hm ⊢
    rw [h2 _ (by omega), h2 _ (by omega), h2 _ (by omega), h2 _ (by omega), h2 _ (by omega), h2 _ (by omega), h2 _ (by omega), h2 _ (by omega)]
    exact hm
theorem nar1 : vp_nar .boolean 1 = 1 := by decide +kernel
theorem r_keep (h : RR σ τ) (a : Int32) : BI (f5_keep a σ) (f6_keep a τ) := by
  have h' := h
  obtain ⟨⟨n, np, F, Pw, U, od, un, ci, kp, h1, h2⟩, ⟨tn, tb, h3⟩, ⟨en, d1, d2, d3, h4⟩, h5, h6⟩ := h
  obtain ⟨c1, c2, c3⟩ := h2.2.2 0 (Or.inl rfl)
  unfold f5_keep f6_keep
  rw [f6_in_b, bd_e, ib0]
  rcases in_range (a := a) (hi := 1) (by omega) with ⟨e1, i, hi, rfl⟩ | ⟨e1, h0⟩
  · have e1' : decide ((0 : Int32) ≤ nI i ∧ nI i ≤ 1) = true := e1
    rw [e1', if_neg (nI_pos (by omega)), if_pos (by rw [l2, c_lt (by omega) (by omega)]; omega)]
    simp only [cond_true]
    have hin : inb (nI i) 2 := by rw [c_inb (by omega)]; omega
    obtain ⟨s1, k1, k2, k3, k4⟩ := x_become (σ := σ) (a := 1 + i) (b := 0) (by omega)
    obtain ⟨t1, j1, j2, j3, j4⟩ := m_copy (τ := τ) (a := 0) (b := 1 + i) (by omega) (by omega) (by omega)
    have j1' : f6_copy 0 (1 + nI i) τ = some t1 := by rw [show (1 : Int32) + nI i = nI (1 + i) from nI_add 1 i]; exact j1
    simp only [gd_t hin, c_tn (show i < 2147483648 by omega), k1, j1', bd_e, lt_e, gd_t (iz 3 (by omega)), tz0, nar1]
    have hh : s1.1 17 2 = (ci 0).2.2.1 := by rw [k4 _ _ (by omega)]; exact c2.2.2.1
    have hh2 : t1.1 18 0 = (ci 0).2.2.1 := by rw [j4 _ _ (by omega)]; exact c3.2.2.1
    refine ⟨(ci 0).2.2.1, sI s1 (17 + (1 + i)) 8 1, sI t1 23 i 1, ?_, ?_, ⟨⟨n, np, F, Pw, U, od, un, fun q => if q = 1 + i then ci 0 else ci q, fun q => if q = 1 + i then true else kp q, ?_, ?_⟩, ⟨tn, tb, ?_⟩, ⟨en, d1, d2, d3, ?_⟩, ?_, ?_⟩⟩
    · rw [show (17 + 0 : Nat) = 17 from rfl, sI_o (by omega), hh]
    · rw [sI_o (by omega), hh2]
    · exact h1.keep (by rw [sI_2, k2]) (fun k j hk => by rw [sI_o (by omega)]; exact k4 _ _ (by omega)) (fun k j hk => by rw [sI_o (by omega)]; exact j4 _ _ (by omega))
    · refine ⟨fun q hq => ?_, fun q hq => ?_, fun q hq => ?_⟩
      · by_cases e : q = 1 + i
        · subst e; simp only [if_true]; rw [sI_s]; rfl
        · simp only [if_neg e]
          rw [sI_o (by omega), k4 _ _ (by omega)]
          exact h2.1 q hq
      · by_cases e : q = 1 + i
        · subst e; simp only [if_true]; rw [show 1 + i - 1 = i by omega, sI_s]; rfl
        · simp only [if_neg e]
          rw [sI_o (by omega), j4 _ _ (by omega)]
          exact h2.2.1 q hq
      · by_cases e : q = 1 + i
        · subst e
          simp only [if_true]
          have cc := cpC (σ' := sI s1 (17 + (1 + i)) 8 1) (τ' := sI t1 23 i 1) (a := 1 + i) c2 c3 (fun j hj => by rw [sI_o (by omega)]; exact k3 j hj) (fun k hk => by rw [sI_o (by omega)]; exact j3 k hk)
          exact ⟨c1, cc.1, cc.2⟩
        · simp only [if_neg e] at hq ⊢
          obtain ⟨q1, q2, q3⟩ := h2.2.2 q hq
          exact ⟨q1, q2.keep (fun j => by rw [sI_o (by omega)]; exact k4 _ _ (by omega)), q3.keep (fun k hk => by rw [sI_o (by omega)]; exact j4 _ _ (by omega))⟩
    · exact h3.keep (by rw [sI_o (by omega)]; exact k4 _ _ (by omega)) (fun j => by rw [sI_o (by omega)]; exact k4 _ _ (by omega)) (by rw [sI_o (by omega)]; exact j4 _ _ (by omega)) (fun j => by rw [sI_o (by omega)]; exact j4 _ _ (by omega))
    · exact h4.keep (fun k j hk => by rw [sI_o (by omega)]; exact k4 _ _ (by omega)) (by rw [sI_o (by omega)]; exact j4 _ _ (by omega)) (fun k j hk => by rw [sI_o (by omega)]; exact j4 _ _ (by omega))
    · rw [sI_2, sI_2, k2, j2]; exact h5
    · unfold XF at h6 ⊢; rw [sI_2, k2]; exact h6
  · have e1' : decide ((0 : Int32) ≤ a ∧ a ≤ 1) = false := e1
    rw [e1']
    refine ⟨-1, σ, τ, ?_, rfl, h'⟩
    rcases h0 with g | ⟨k, k1, k2, rfl⟩
    · rw [if_pos g]
    · rw [if_neg (nI_pos (by omega)), if_neg (by rw [l2, c_lt (by omega) (by omega)]; omega)]
theorem r_back (h : RR σ τ) (a : Int32) : BI (f5_back a σ) (f6_back a τ) := by
  have h' := h
  obtain ⟨⟨n, np, F, Pw, U, od, un, ci, kp, h1, h2⟩, ⟨tn, tb, h3⟩, ⟨en, d1, d2, d3, h4⟩, h5, h6⟩ := h
  unfold f5_back f6_back
  rw [f6_in_b, bd_e, ib0]
  rcases in_range (a := a) (hi := 1) (by omega) with ⟨e1, i, hi, rfl⟩ | ⟨e1, h0⟩
  · have e1' : decide ((0 : Int32) ≤ nI i ∧ nI i ≤ 1) = true := e1
    rw [e1', if_neg (nI_pos (by omega)), if_pos (by rw [l2, c_lt (by omega) (by omega)]; omega)]
    simp only [cond_true]
    have hin : inb (nI i) 2 := by rw [c_inb (by omega)]; omega
    have kx := h2.1 (1 + i) (by omega)
    have km := h2.2.1 (1 + i) (by omega)
    rw [show 1 + i - 1 = i by omega] at km
    simp only [gd_t hin, c_tn (show i < 2147483648 by omega), kx, km, ib0]
    cases hk : kp (1 + i) with
    | false => exact ⟨-2, σ, τ, rfl, rfl, h'⟩
    | true =>
      obtain ⟨c1, c2, c3⟩ := h2.2.2 (1 + i) (Or.inr ⟨by omega, hk⟩)
      obtain ⟨s1, k1, k2, k3, k4⟩ := x_become (σ := σ) (a := 0) (b := 1 + i) (by omega)
      obtain ⟨t1, j1, j2, j3, j4⟩ := m_copy (τ := τ) (a := 1 + i) (b := 0) (by omega) (by omega) (by omega)
      have j1' : f6_copy (1 + nI i) 0 τ = some t1 := by rw [show (1 : Int32) + nI i = nI (1 + i) from nI_add 1 i]; exact j1
      simp only [cond_true, k1, j1', bd_e, gd_t (iz 3 (by omega)), tz0]
      have hh : s1.1 (17 + 0) 2 = (ci (1 + i)).2.2.1 := by rw [k3 2 (by omega)]; exact c2.2.2.1
      have hh2 : t1.1 18 0 = (ci (1 + i)).2.2.1 := by rw [j3 18 (by omega)]; exact c3.2.2.1
      have cc := cpC (σ' := s1) (τ' := t1) (a := 0) c2 c3 k3 j3
      refine ⟨(ci (1 + i)).2.2.1, s1, t1, by rw [hh], by rw [hh2], ⟨⟨n, np, F, Pw, U, od, un, fun q => if q = 0 then ci (1 + i) else ci q, kp, ?_, ?_⟩, ⟨tn, tb, ?_⟩, ⟨en, d1, d2, d3, ?_⟩, ?_, ?_⟩⟩
      · exact h1.keep (by rw [k2]) (fun k j hk => k4 _ _ (by omega)) (fun k j hk => j4 _ _ (by omega))
      · exact h2.set0 c1 cc.1 cc.2 (fun k j hk => k4 _ _ (by omega)) (fun k q hk hq => j4 _ _ (by omega)) (fun j => j4 _ _ (by omega))
      · exact h3.keep (k4 _ _ (by omega)) (fun j => k4 _ _ (by omega)) (j4 _ _ (by omega)) (fun j => j4 _ _ (by omega))
      · exact h4.keep (fun k j hk => k4 _ _ (by omega)) (j4 _ _ (by omega)) (fun k j hk => j4 _ _ (by omega))
      · rw [k2, j2]; exact h5
      · unfold XF at h6 ⊢; rw [k2]; exact h6
  · have e1' : decide ((0 : Int32) ≤ a ∧ a ≤ 1) = false := e1
    rw [e1']
    refine ⟨-1, σ, τ, ?_, rfl, h'⟩
    rcases h0 with g | ⟨k, k1, k2, rfl⟩
    · rw [if_pos g]
    · rw [if_neg (nI_pos (by omega)), if_neg (by rw [l2, c_lt (by omega) (by omega)]; omega)]
theorem RR.asked (h : RR σ τ) (v : Int64) : RR (sL σ 0 8 v) (sL τ 0 0 v) := by
  obtain ⟨⟨n, np, F, Pw, U, od, un, ci, kp, h1, h2⟩, ⟨tn, tb, h3⟩, ⟨en, d1, d2, d3, h4⟩, h5, h6⟩ := h
  exact ⟨⟨n, np, F, Pw, U, od, un, ci, kp, h1.keep rfl (fun k j hk => rfl) (fun k j hk => rfl), h2.keep (fun k j hk => rfl) (fun k j hk => rfl)⟩, ⟨tn, tb, h3.keep rfl (fun j => rfl) rfl (fun j => rfl)⟩, ⟨en, d1, d2, d3, h4.keep (fun k j hk => rfl) rfl (fun k j hk => rfl)⟩, by rw [sL_s, sL_s], h6⟩
theorem sL_L {k j : Nat} {v w : Int64} : sL (sL σ k j v) k j w = sL σ k j w := by
  unfold sL
  simp only [Prod.mk.injEq, true_and, and_true]
  funext q j'
  by_cases e : q = k
  · subst e
    simp only [if_true, vp_updL]
    by_cases e2 : j' = j
    · simp [e2]
    · simp [e2]
  · simp [e]
end S
section M
variable {σ τ : SS} {n np : Nat} {F Pw : Nat → Nat → Nat}
theorem XT.asked (h : XT σ n np F Pw) (v : Int64) : XT (sL σ 0 8 v) n np F Pw := h
theorem MT.asked (h : MT τ n np F Pw) (v : Int64) : MT (sL τ 0 0 v) n np F Pw := h
theorem x_markBranch (hR : TR n np F Pw) (h : XT σ n np F Pw) {b : Nat} (hb : b < n) : f5_markBranch (nI b) σ = some (nI (F 0 b), sL σ 0 8 (σ.2.1 0 8 + 1)) := by
  unfold f5_markBranch
  rw [lt_e, show f4_feature ((sL σ 0 8 (σ.2.1 0 8 + 1)).2.2 0) (nI b) 0 (sL σ 0 8 (σ.2.1 0 8 + 1)) = some (nI (F 0 b)) from x_feature hR (h.asked _) (w := 0) (by omega) hb]
  rfl
theorem x_markSound (hR : TR n np F Pw) (h : XT σ n np F Pw) {b : Nat} (hb : b < n) : f5_markSound (nI b) σ = some (nI (F 0 b) + nI (F 2 b), sL σ 0 8 (σ.2.1 0 8 + 10 + 1)) := by
  unfold f5_markSound
  rw [lt_e, x_markBranch hR (h.asked _) hb, bk2_e, sL_s, sL_L, show f4_feature ((sL σ 0 8 (σ.2.1 0 8 + 10 + 1)).2.2 0) (nI b) 2 (sL σ 0 8 (σ.2.1 0 8 + 10 + 1)) = some (nI (F 2 b)) from x_feature hR (h.asked _) (w := 2) (by omega) hb]
  rfl
theorem x_markDead (hR : TR n np F Pw) (h : XT σ n np F Pw) {b : Nat} (hb : b < n) : f5_markDead (nI b) σ = some (nI (F 0 b) - (10 - nI (F 3 b)), sL σ 0 8 (σ.2.1 0 8 + 100 + 1)) := by
  unfold f5_markDead
  rw [lt_e, x_markBranch hR (h.asked _) hb, bk2_e, sL_s, sL_L, show f4_feature ((sL σ 0 8 (σ.2.1 0 8 + 100 + 1)).2.2 0) (nI b) 3 (sL σ 0 8 (σ.2.1 0 8 + 100 + 1)) = some (nI (F 3 b)) from x_feature hR (h.asked _) (w := 3) (by omega) hb]
  rfl
theorem x_markSeeming (hR : TR n np F Pw) (h : XT σ n np F Pw) {b : Nat} (hb : b < n) : f5_markSeeming (nI b) σ = some (2 * (nI (F 0 b) - (10 - nI (F 3 b))), sL σ 0 8 (σ.2.1 0 8 + 1000 + 100 + 1)) := by
  unfold f5_markSeeming
  rw [lt_e, x_markDead hR (h.asked _) hb, bk2_e, sL_s, sL_L]
theorem x_markBent (hR : TR n np F Pw) (h : XT σ n np F Pw) {b : Nat} (hb : b < n) : f5_markBent (nI b) σ = some (nI (F 0 b) + nI (F 2 b) - nI (F 1 b), sL σ 0 8 (σ.2.1 0 8 + 10000 + 10 + 1)) := by
  unfold f5_markBent
  rw [lt_e, x_markSound hR (h.asked _) hb, bk2_e, sL_s, sL_L, show f4_feature ((sL σ 0 8 (σ.2.1 0 8 + 10000 + 10 + 1)).2.2 0) (nI b) 1 (sL σ 0 8 (σ.2.1 0 8 + 10000 + 10 + 1)) = some (nI (F 1 b)) from x_feature hR (h.asked _) (w := 1) (by omega) hb]
  rfl
theorem x_markWet (hR : TR n np F Pw) (h : XT σ n np F Pw) {b : Nat} (hb : b < n) : f5_markWet (nI b) σ = some (nI (F 0 b) + 5 * nI (F 4 b), sL σ 0 8 (σ.2.1 0 8 + 100000 + 1)) := by
  have r1 := hR.2.2.1 b hb
  unfold f5_markWet
  rw [lt_e, x_markBranch hR (h.asked _) hb, bk2_e, sL_s, sL_L, show f4_feature ((sL σ 0 8 (σ.2.1 0 8 + 100000 + 1)).2.2 0) (nI b) 4 (sL σ 0 8 (σ.2.1 0 8 + 100000 + 1)) = some (nI (F 4 b)) from x_feature hR (h.asked _) (w := 4) (by omega) hb, bd_e]
  have e : F 4 b = 0 ∨ F 4 b = 1 := by omega
  rcases e with e | e <;> rw [e]
  · rw [if_neg (by decide)]; rfl
  · rw [if_pos (by decide)]; rfl
end M
theorem a11 (x : Int64) : x + 10 + 1 = x + 11 := by rw [Int64.add_assoc]; rfl
theorem a101 (x : Int64) : x + 100 + 1 = x + 101 := by rw [Int64.add_assoc]; rfl
theorem a1101 (x : Int64) : x + 1000 + 101 = x + 1101 := by rw [Int64.add_assoc]; rfl
theorem a10011 (x : Int64) : x + 10000 + 11 = x + 10011 := by rw [Int64.add_assoc]; rfl
theorem a100001 (x : Int64) : x + 100000 + 1 = x + 100001 := by rw [Int64.add_assoc]; rfl
section OPS
variable {σ τ : SS}
theorem r_mark (h : RR σ τ) (a b : Int32) : BI (f5_mark a b σ) (f6_mark a b τ) := by
  have h' := h
  obtain ⟨⟨n, np, F, Pw, U, od, un, ci, kp, h1, h2⟩, -, -, h5, -⟩ := h
  have hR := h1.1
  have r0 := hR.1
  have hm := h1.2.2.1
  have bad : BI (some (-1000000, σ)) (some (-1000000, τ)) := ⟨_, σ, τ, rfl, rfl, h'⟩
  unfold f5_mark f6_mark
  rw [x_isBranch' hR h1.2.1, m_isBranch hR hm, f6_in_b]
  simp only [bd_e, ib0]
  rcases ok_cases b (n := n) (by omega) with e | ⟨k, hk, rfl, e⟩
  · rw [e]
    cases decide ((0 : Int32) ≤ a ∧ a ≤ 5) <;> exact bad
  · rw [e]
    have f0 : f6_of (nI k) 0 τ = some (nI (F 0 k)) := m_of hR hm (w := 0) (by omega) hk
    have f3 : f6_of (nI k) 3 τ = some (nI (F 3 k)) := m_of hR hm (w := 3) (by omega) hk
    have f2 : ∀ v, f6_of (nI k) 2 (sL τ 0 0 v) = some (nI (F 2 k)) := fun v => m_of hR (hm.asked v) (w := 2) (by omega) hk
    have f1 : ∀ v, f6_of (nI k) 1 (sL τ 0 0 v) = some (nI (F 1 k)) := fun v => m_of hR (hm.asked v) (w := 1) (by omega) hk
    have f4 : ∀ v, f6_of (nI k) 4 (sL τ 0 0 v) = some (nI (F 4 k)) := fun v => m_of hR (hm.asked v) (w := 4) (by omega) hk
    simp only [cond_true, f0, f3, bd_e, lt_e, f2, f1, f4, x_markBranch hR h1.2.1 hk, x_markSound hR h1.2.1 hk, x_markDead hR h1.2.1 hk, x_markSeeming hR h1.2.1 hk, x_markBent hR h1.2.1 hk, x_markWet hR h1.2.1 hk, bk2_e, a11, a101, a1101, a10011, a100001, h5]
    rcases in_range (a := a) (hi := 5) (by omega) with ⟨e1, i, hi, rfl⟩ | ⟨e1, h0⟩
    · have e1' : decide ((0 : Int32) ≤ nI i ∧ nI i ≤ 5) = true := e1
      rw [e1']
      simp only [cond_true]
      have ei : i = 0 ∨ i = 1 ∨ i = 2 ∨ i = 3 ∨ i = 4 ∨ i = 5 := by omega
      rcases ei with rfl | rfl | rfl | rfl | rfl | rfl
      · rw [if_pos (show nI 0 = 0 by decide), if_pos (show nI 0 = 0 by decide)]; exact ⟨_, _, _, rfl, rfl, h'.asked _⟩
      · rw [if_neg (show ¬ nI 1 = 0 by decide), if_pos (show nI 1 = 1 by decide), if_neg (show ¬ nI 1 = 0 by decide), if_pos (show nI 1 = 1 by decide)]; exact ⟨_, _, _, rfl, rfl, h'.asked _⟩
      · rw [if_neg (show ¬ nI 2 = 0 by decide), if_neg (show ¬ nI 2 = 1 by decide), if_pos (show nI 2 = 2 by decide), if_neg (show ¬ nI 2 = 0 by decide), if_neg (show ¬ nI 2 = 1 by decide), if_pos (show nI 2 = 2 by decide)]; exact ⟨_, _, _, rfl, rfl, h'.asked _⟩
      · rw [if_neg (show ¬ nI 3 = 0 by decide), if_neg (show ¬ nI 3 = 1 by decide), if_neg (show ¬ nI 3 = 2 by decide), if_pos (show nI 3 = 3 by decide), if_neg (show ¬ nI 3 = 0 by decide), if_neg (show ¬ nI 3 = 1 by decide), if_neg (show ¬ nI 3 = 2 by decide), if_pos (show nI 3 = 3 by decide)]; exact ⟨_, _, _, rfl, rfl, h'.asked _⟩
      · rw [if_neg (show ¬ nI 4 = 0 by decide), if_neg (show ¬ nI 4 = 1 by decide), if_neg (show ¬ nI 4 = 2 by decide), if_neg (show ¬ nI 4 = 3 by decide), if_pos (show nI 4 = 4 by decide), if_neg (show ¬ nI 4 = 0 by decide), if_neg (show ¬ nI 4 = 1 by decide), if_neg (show ¬ nI 4 = 2 by decide), if_neg (show ¬ nI 4 = 3 by decide), if_pos (show nI 4 = 4 by decide)]; exact ⟨_, _, _, rfl, rfl, h'.asked _⟩
      · rw [if_neg (show ¬ nI 5 = 0 by decide), if_neg (show ¬ nI 5 = 1 by decide), if_neg (show ¬ nI 5 = 2 by decide), if_neg (show ¬ nI 5 = 3 by decide), if_neg (show ¬ nI 5 = 4 by decide), if_pos (show nI 5 = 5 by decide), if_neg (show ¬ nI 5 = 0 by decide), if_neg (show ¬ nI 5 = 1 by decide), if_neg (show ¬ nI 5 = 2 by decide), if_neg (show ¬ nI 5 = 3 by decide), if_neg (show ¬ nI 5 = 4 by decide)]; exact ⟨_, _, _, rfl, rfl, h'.asked _⟩
    · have e1' : decide ((0 : Int32) ≤ a ∧ a ≤ 5) = false := e1
      rw [e1']
      have ne : ∀ j : Nat, j ≤ 5 → ¬ a = nI j := by
        intro j hj q
        rw [q] at e1'
        rw [decide_eq_false_iff_not] at e1'
        refine e1' ⟨by rw [l0, c_le (by omega) (by omega)]; omega, by rw [l5, c_le (by omega) (by omega)]; omega⟩
      rw [if_neg (show ¬ a = 0 from ne 0 (by omega)), if_neg (show ¬ a = 1 from ne 1 (by omega)), if_neg (show ¬ a = 2 from ne 2 (by omega)), if_neg (show ¬ a = 3 from ne 3 (by omega)), if_neg (show ¬ a = 4 from ne 4 (by omega)), if_neg (show ¬ a = 5 from ne 5 (by omega))]
      exact bad
end OPS
