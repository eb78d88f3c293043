/-! tune, sawn, goes, now, keep, back, mark, afternoon -/
theorem x_within {σ : SS} (v : Int32) (t1 t2 j : Nat) (h1 : j < (tvl t1).length) (h2 : j < (tvl t2).length) (h3 : (tvl t1).length < 100) (h4 : (tvl t2).length < 100) : f5_within v t1 t2 (nI j) σ = some (bI (decide ((tvl t1).getD j 0 ≤ v ∧ v ≤ (tvl t2).getD j 0))) := by
  have e1 : (nI j < Int32.ofNat (tvl t1).length) = True := by
    show (nI j < nI (tvl t1).length) = True
    rw [c_lt (by omega) (by omega)]; exact eq_true h1
  have e2 : (nI j < Int32.ofNat (tvl t2).length) = True := by
    show (nI j < nI (tvl t2).length) = True
    rw [c_lt (by omega) (by omega)]; exact eq_true h2
  unfold f5_within
  rw [lt_e, if_neg (nI_pos (by omega)), if_pos (of_eq_true e1), if_pos (of_eq_true e2), gd_t (by rw [c_inb (by omega)]; exact h1), gd_t (by rw [c_inb (by omega)]; exact h2), c_tn (by omega)]
  by_cases g1 : v < (tvl t1).getD j 0
  · rw [if_pos g1, decide_eq_false (fun q => Int32.not_lt.mpr q.1 g1)]; rfl
  · rw [if_neg g1]
    by_cases g2 : v ≤ (tvl t2).getD j 0
    · rw [if_pos g2, decide_eq_true ⟨Int32.not_lt.mp g1, g2⟩]; rfl
    · rw [if_neg g2, decide_eq_false (fun q => g2 q.2)]; rfl
theorem range_nI {v : Int32} {lo hi : Nat} (hh : hi < 1000000) (hl : lo < 1000000) (h1 : nI lo ≤ v) (h2 : v ≤ nI hi) : ∃ k, lo ≤ k ∧ k ≤ hi ∧ v = nI k := by
  have h3 : ¬ v < 0 := by
    intro q
    have a1 := Int32.le_iff_toInt_le.mp h1
    have a2 := Int32.lt_iff_toInt_lt.mp q
    rw [nI_toInt (by omega)] at a1
    have : (0 : Int32).toInt = 0 := by decide
    omega
  obtain ⟨k, hk, rfl⟩ := nI_of h3
  refine ⟨k, ?_, ?_, rfl⟩
  · rw [c_le (by omega) (by omega)] at h1; exact h1
  · rw [c_le (by omega) (by omega)] at h2; exact h2
theorem R1.setU {σ τ σ' τ' : SS} {n np : Nat} {F Pw : Nat → Nat → Nat} {U od un : Nat → Nat} (h : R1 σ τ n np F Pw U od un) {U' : Nat → Nat} (hU : UR U') (h0 : σ'.2.2 0 = σ.2.2 0) (hx : XU σ' U') (hm' : MU τ' U') (hg : ∀ k j, 20 ≤ k → σ'.1 k j = σ.1 k j) (hm : ∀ k j, 2 ≤ k ∧ k ≤ 5 → τ'.1 k j = τ.1 k j) : R1 σ' τ' n np F Pw U' od un := by
  obtain ⟨h1, ⟨a1, a2, a3, a4⟩, ⟨b1, b2, b3, b4⟩, h4, h5, h6, h7, ⟨c1, c2⟩⟩ := h
  have e : wd σ' = wd σ := by unfold wd; rw [h0]
  have hw := (wB_ge (σ.2.2 0)).1
  have hw : 20 ≤ wd σ := hw
  refine ⟨h1, ⟨?_, ?_, ?_, ?_⟩, ⟨?_, ?_, ?_, ?_⟩, hU, hx, hm', h7, ?_, ?_⟩
  · rw [e, hg _ _ (by omega)]; exact a1
  · rw [e, hg _ _ (by omega)]; exact a2
  · intro w k hw1 hk; rw [e, hg _ _ (by omega)]; exact a3 w k hw1 hk
  · intro w k hw1 hk; rw [e, hg _ _ (by omega)]; exact a4 w k hw1 hk
  · rw [hm _ _ (by omega)]; exact b1
  · rw [hm _ _ (by omega)]; exact b2
  · intro w k hw1 hk; rw [hm _ _ (by omega)]; exact b3 w k hw1 hk
  · intro w k hw1 hk; rw [hm _ _ (by omega)]; exact b4 w k hw1 hk
  · intro i hi; rw [e, hg _ _ (by omega)]; exact c1 i hi
  · intro i hi; rw [e, hg _ _ (by omega)]; exact c2 i hi
section OPS
variable {σ τ : SS}
theorem r_tune1 (h : RR σ τ) {j lo hi : Nat} (v : Int32) (hj : j < 6) (hlo : (tvl 5).getD j 0 = nI lo) (hhi : (tvl 6).getD j 0 = nI hi) (hl : lo < 1000) (hh : hi < 1000) (hU : ∀ (U : Nat → Nat) (k : Nat), UR U → lo ≤ k → k ≤ hi → UR (fun i => if i = j then k else U i)) : BI (f5_tune (nI j) v σ) (if v < nI lo then some (-1, τ) else if v ≤ nI hi then some (τ.1 6 j, sI τ 6 j v) else some (-1, τ)) := by
  have h' := h
  obtain ⟨⟨n, np, F, Pw, U, od, un, ci, kp, h1, h2⟩, ⟨tn, tb, h3⟩, ⟨en, d1, d2, d3, h4⟩, h5, h6⟩ := h
  obtain ⟨hR, hx, hm, hUr, hux, hum, hO, hxo⟩ := h1
  have h1 : R1 σ τ n np F Pw U od un := ⟨hR, hx, hm, hUr, hux, hum, hO, hxo⟩
  unfold f5_tune
  have t5 : (tvl 5).length = 6 := rfl
  have t6 : (tvl 6).length = 6 := rfl
  rw [if_neg (nI_pos (by omega)), if_pos (by rw [l6, c_lt (by omega) (by omega)]; exact hj), x_within v 5 6 j (by omega) (by omega) (by omega) (by omega), bd_e, ib0, hlo, hhi]
  by_cases g1 : v < nI lo
  · rw [if_pos g1, decide_eq_false (fun q => Int32.not_lt.mpr q.1 g1)]
    exact ⟨-1, σ, τ, rfl, rfl, h'⟩
  · rw [if_neg g1]
    by_cases g2 : v ≤ nI hi
    · rw [if_pos g2, decide_eq_true ⟨Int32.not_lt.mp g1, g2⟩]
      obtain ⟨k, k1, k2, rfl⟩ := range_nI (by omega) (by omega) (Int32.not_lt.mp g1) g2
      simp only [cond_true]
      have hin : inb (nI j) 6 := by rw [c_inb (by omega)]; exact hj
      simp only [gd_t hin, c_tn (show j < 2147483648 by omega), lt_e, hux j hj, hum j hj]
      refine ⟨_, _, _, rfl, rfl, ⟨⟨n, np, F, Pw, fun i => if i = j then k else U i, od, un, ci, kp, ?_, ?_⟩, ⟨tn, tb, ?_⟩, ⟨en, d1, d2, d3, ?_⟩, h5, h6⟩⟩
      · refine h1.setU (hU U k hUr k1 k2) rfl (fun i hi => ?_) (fun i hi => ?_) (fun k j hk => sI_o (by omega)) (fun k j hk => sI_o (by omega))
        · by_cases e : i = j
          · subst e; rw [sI_s]; show nI k = nI (if i = i then k else U i); rw [if_pos rfl]
          · rw [sI_o (by omega)]; show _ = nI (if i = j then k else U i); rw [if_neg e]; exact hux i hi
        · by_cases e : i = j
          · subst e; rw [sI_s]; show nI k = nI (if i = i then k else U i); rw [if_pos rfl]
          · rw [sI_o (by omega)]; show _ = nI (if i = j then k else U i); rw [if_neg e]; exact hum i hi
      · exact h2.keep (fun k j hk => sI_o (by omega)) (fun k j hk => sI_o (by omega))
      · exact h3.keep (sI_o (by omega)) (fun j => sI_o (by omega)) (sI_o (by omega)) (fun j => sI_o (by omega))
      · exact h4.keep (fun k j hk => sI_o (by omega)) (sI_o (by omega)) (fun k j hk => sI_o (by omega))
    · rw [if_neg g2, decide_eq_false (fun q => g2 q.2)]
      exact ⟨-1, σ, τ, rfl, rfl, h'⟩
theorem m_tune1 {j lo hi : Nat} (v : Int32) (hj : j < 6) (e : f6_tune (nI j) v τ = bd (f6_in v (nI lo) (nI hi)) (fun x6 => if x6 = 0 then some ((-1), τ) else gd (inb (nI j) 6) (lt ((τ.1 6 (nI j).toNatClampNeg)) (fun x7 => gd (inb (nI j) 6) (lt (sI τ 6 (Int32.toNatClampNeg (nI j)) v) (fun q8 => some (x7, q8))))))) : f6_tune (nI j) v τ = (if v < nI lo then some (-1, τ) else if v ≤ nI hi then some (τ.1 6 j, sI τ 6 j v) else some (-1, τ)) := by
  rw [e, f6_in_b, bd_e, ib0]
  by_cases g1 : v < nI lo
  · rw [if_pos g1, decide_eq_false (fun q => Int32.not_lt.mpr q.1 g1)]; rfl
  · rw [if_neg g1]
    by_cases g2 : v ≤ nI hi
    · rw [if_pos g2, decide_eq_true ⟨Int32.not_lt.mp g1, g2⟩]
      simp only [cond_true]
      have hin : inb (nI j) 6 := by rw [c_inb (by omega)]; exact hj
      simp only [gd_t hin, c_tn (show j < 2147483648 by omega), lt_e]
    · rw [if_neg g2, decide_eq_false (fun q => g2 q.2)]; rfl
theorem r_tune (h : RR σ τ) (a v : Int32) : BI (f5_tune a v σ) (f6_tune a v τ) := by
  rcases i_cases a with g | ⟨j, hj, rfl⟩
  · unfold f5_tune f6_tune
    rw [if_pos g, f6_in_b, bd_e, ib0, decide_eq_false (fun q => Int32.not_lt.mpr q.1 g)]
    exact ⟨-1, σ, τ, rfl, rfl, h⟩
  · by_cases g : j < 6
    · have e : j = 0 ∨ j = 1 ∨ j = 2 ∨ j = 3 ∨ j = 4 ∨ j = 5 := by omega
      rcases e with rfl | rfl | rfl | rfl | rfl | rfl
      · rw [m_tune1 (lo := 1) (hi := 9) v g rfl]
        exact r_tune1 h v g rfl rfl (by omega) (by omega) (fun U k hU h1 h2 => by obtain ⟨a0, a1, a2, a3, a4, a5, a6, a7⟩ := hU; exact ⟨h1, h2, a2, a3, a4, a5, a6, a7⟩)
      · rw [m_tune1 (lo := 0) (hi := 4) v g rfl]
        exact r_tune1 h v g rfl rfl (by omega) (by omega) (fun U k hU h1 h2 => by obtain ⟨a0, a1, a2, a3, a4, a5, a6, a7⟩ := hU; exact ⟨a0, a1, h2, a3, a4, a5, a6, a7⟩)
      · rw [m_tune1 (lo := 0) (hi := 9) v g rfl]
        exact r_tune1 h v g rfl rfl (by omega) (by omega) (fun U k hU h1 h2 => by obtain ⟨a0, a1, a2, a3, a4, a5, a6, a7⟩ := hU; exact ⟨a0, a1, a2, h2, a4, a5, a6, a7⟩)
      · rw [m_tune1 (lo := 0) (hi := 10) v g rfl]
        exact r_tune1 h v g rfl rfl (by omega) (by omega) (fun U k hU h1 h2 => by obtain ⟨a0, a1, a2, a3, a4, a5, a6, a7⟩ := hU; exact ⟨a0, a1, a2, a3, h2, a5, a6, a7⟩)
      · rw [m_tune1 (lo := 1) (hi := 9) v g rfl]
        exact r_tune1 h v g rfl rfl (by omega) (by omega) (fun U k hU h1 h2 => by obtain ⟨a0, a1, a2, a3, a4, a5, a6, a7⟩ := hU; exact ⟨a0, a1, a2, a3, a4, h1, h2, a7⟩)
      · rw [m_tune1 (lo := 0) (hi := 20) v g rfl]
        exact r_tune1 h v g rfl rfl (by omega) (by omega) (fun U k hU h1 h2 => by obtain ⟨a0, a1, a2, a3, a4, a5, a6, a7⟩ := hU; exact ⟨a0, a1, a2, a3, a4, a5, a6, h2⟩)
    · unfold f5_tune f6_tune
      rw [if_neg (nI_pos (by omega)), if_neg (by rw [l6, c_lt (by omega) (by omega)]; exact g), f6_in_b, bd_e, ib0, show decide ((0 : Int32) ≤ nI j ∧ nI j ≤ 5) = false from decide_eq_false (fun q => by have := q.2; rw [l5, c_le (by omega) (by omega)] at this; omega)]
      exact ⟨-1, σ, τ, rfl, rfl, h⟩
theorem and_all {n : Nat} (hn : n ≤ 12) (v : Int32) : v &&& nI (2 ^ n - 1) = nI (v.toBitVec.toNat % 2 ^ n) := by
  have := pow12 hn
  exact pk_and v n (pk_tn (by omega))
theorem r_sawn (h : RR σ τ) (v : Int32) : BI (f5_sawn v σ) (f6_sawn v τ) := by
  obtain ⟨⟨n, np, F, Pw, U, od, un, ci, kp, h1, h2⟩, ⟨tn, tb, h3⟩, ⟨en, d1, d2, d3, h4⟩, h5, h6⟩ := h
  obtain ⟨c1, c2, c3⟩ := h2.2.2 0 (Or.inl rfl)
  have r0 := h1.1.1
  have e1 : f5_sawn v σ = some (nI (ci 0).2.2.2.2.2.2.2, sI σ 17 7 (nI (v.toBitVec.toNat % 2 ^ n))) := by
    unfold f5_sawn f4_all
    rw [show (17 + 0 : Nat) = 17 from rfl, show σ.1 17 7 = _ from c2.2.2.2.2.2.2.2, h1.2.1.1, all_mask r0, lt_e, bd_e, lt_e, and_all r0]
  have e2 : f6_sawn v τ = some (nI (ci 0).2.2.2.2.2.2.2, sI τ 7 0 (nI (v.toBitVec.toNat % 2 ^ n))) := by
    simp only [f6_sawn, gd_t (iz 3 (by omega)), gd_t (iz 2 (by omega)), tz0, lt_e, c3.2.2.2.2.2.2.2, h1.2.2.1.1, all_mask r0, and_all r0]
  refine ⟨_, _, _, e1, e2, ⟨⟨n, np, F, Pw, U, od, un, fun i => if i = 0 then (((ci 0).1, (ci 0).2.1, (ci 0).2.2.1, (ci 0).2.2.2.1, (ci 0).2.2.2.2.1, (ci 0).2.2.2.2.2.1, (ci 0).2.2.2.2.2.2.1, v.toBitVec.toNat % 2 ^ n) : CT) else ci i, kp, ?_, ?_⟩, ⟨tn, tb, ?_⟩, ⟨en, d1, d2, d3, ?_⟩, h5, h6⟩⟩
  · exact h1.keep rfl (fun k j hk => sI_o (by omega)) (fun k j hk => sI_o (by omega))
  · refine h2.set0 ⟨c1.1, c1.2.1, c1.2.2.1, Nat.mod_lt _ (Nat.two_pow_pos n)⟩ ?_ ?_ (fun k j hk => sI_o (by omega)) (fun k j hk hi => sI_o (by omega)) (fun j => sI_o (by omega))
    · obtain ⟨a0, a1, a2, a3, a4, a5, a6, a7⟩ := c2
      exact ⟨by rw [sI_o (by omega)]; exact a0, by rw [sI_o (by omega)]; exact a1, by rw [sI_o (by omega)]; exact a2, by rw [sI_o (by omega)]; exact a3, by rw [sI_o (by omega)]; exact a4, by rw [sI_o (by omega)]; exact a5, by rw [sI_o (by omega)]; exact a6, sI_s⟩
    · obtain ⟨a0, a1, a2, a3, a4, a5, a6, a7⟩ := c3
      exact ⟨by rw [sI_o (by omega)]; exact a0, by rw [sI_o (by omega)]; exact a1, by rw [sI_o (by omega)]; exact a2, by rw [sI_o (by omega)]; exact a3, by rw [sI_o (by omega)]; exact a4, by rw [sI_o (by omega)]; exact a5, by rw [sI_o (by omega)]; exact a6, sI_s⟩
  · exact h3.keep (sI_o (by omega)) (fun j => sI_o (by omega)) (sI_o (by omega)) (fun j => sI_o (by omega))
  · exact h4.keep (fun k j hk => sI_o (by omega)) (sI_o (by omega)) (fun k j hk => sI_o (by omega))
/-- begin(), both -/
def xbeg (σ : SS) (v : Int32) : SS := sI (sI (sI (sI (sI (sI σ 17 0 v) 17 1 (-1)) 17 2 0) 17 3 0) 17 4 0) 17 5 0
def mbeg (τ : SS) (v : Int32) : SS := sI (sI (sI (sI (sI (sI τ 16 0 v) 17 0 12) 18 0 0) 19 0 0) 20 0 0) 21 0 0
theorem x_begin (v : Int32) : f1_begin 0 v σ = some (xbeg σ v) := rfl
theorem m_begin (v : Int32) : f6_begin v τ = some (mbeg τ v) := by
  simp only [f6_begin, gd_t (iz 3 (by omega)), lt_e, tz0]
  rfl
theorem xbeg_o {v : Int32} {k j : Nat} (h : k ≠ 17 ∨ 6 ≤ j) : (xbeg σ v).1 k j = σ.1 k j := by
  unfold xbeg
  rw [sI_o (by omega), sI_o (by omega), sI_o (by omega), sI_o (by omega), sI_o (by omega), sI_o (by omega)]
theorem mbeg_o {v : Int32} {k j : Nat} (h : (k < 16 ∨ 21 < k) ∨ j ≠ 0) : (mbeg τ v).1 k j = τ.1 k j := by
  unfold mbeg
  rw [sI_o (by omega), sI_o (by omega), sI_o (by omega), sI_o (by omega), sI_o (by omega), sI_o (by omega)]
theorem begC {p : Nat} {c : CT} (hx : XC σ 0 c) (hm : MCl τ 0 c) : XC (xbeg σ (nI p)) 0 (p, 12, 0, 0, 0, 0, c.2.2.2.2.2.2.1, c.2.2.2.2.2.2.2) ∧ MCl (mbeg τ (nI p)) 0 (p, 12, 0, 0, 0, 0, c.2.2.2.2.2.2.1, c.2.2.2.2.2.2.2) := by
  refine ⟨⟨rfl, rfl, rfl, rfl, rfl, rfl, ?_, ?_⟩, ⟨rfl, rfl, rfl, rfl, rfl, rfl, ?_, ?_⟩⟩
  · rw [xbeg_o (by omega)]; exact hx.2.2.2.2.2.2.1
  · rw [xbeg_o (by omega)]; exact hx.2.2.2.2.2.2.2
  · rw [mbeg_o (by omega)]; exact hm.2.2.2.2.2.2.1
  · rw [mbeg_o (by omega)]; exact hm.2.2.2.2.2.2.2
theorem r_goes (h : RR σ τ) (a : Int32) : BI (f5_goes a σ) (f6_goes a τ) := by
  have h' := h
  obtain ⟨⟨n, np, F, Pw, U, od, un, ci, kp, h1, h2⟩, ⟨tn, tb, h3⟩, ⟨en, d1, d2, d3, h4⟩, h5, h6⟩ := h
  obtain ⟨c1, c2, c3⟩ := h2.2.2 0 (Or.inl rfl)
  have r0 := h1.1.1
  have r1 := h1.1.2.1
  unfold f5_goes f6_goes
  rw [x_isBody' h1.1 h1.2.1, m_isBody h1.1 h1.2.2.1]
  rcases ok_cases a (n := np) (by omega) with e | ⟨p, hp, rfl, e⟩
  · rw [e]; exact ⟨-1, σ, τ, rfl, rfl, h'⟩
  · rw [e]
    simp only [bd_e, ib0, cond_true, x_begin, m_begin, gd_t (iz 3 (by omega)), lt_e, tz0]
    rw [show (17 + 0 : Nat) = 17 from rfl, show σ.1 17 0 = _ from c2.1, c3.1]
    have hb := begC (p := p) c2 c3
    refine ⟨_, _, _, rfl, rfl, ⟨⟨n, np, F, Pw, U, od, un, fun i => if i = 0 then ((p, 12, 0, 0, 0, 0, (ci 0).2.2.2.2.2.2.1, (ci 0).2.2.2.2.2.2.2) : CT) else ci i, kp, ?_, ?_⟩, ⟨tn, tb, ?_⟩, ⟨en, d1, d2, d3, ?_⟩, h5, h6⟩⟩
    · exact h1.keep rfl (fun k j hk => xbeg_o (by omega)) (fun k j hk => mbeg_o (by omega))
    · exact h2.set0 ⟨Or.inl hp, Or.inr rfl, by show (0 : Nat) ≤ 99; omega, c1.2.2.2⟩ hb.1 hb.2 (fun k j hk => xbeg_o (by omega)) (fun k j hk hi => mbeg_o (by omega)) (fun j => mbeg_o (by omega))
    · exact h3.keep (xbeg_o (by omega)) (fun j => xbeg_o (by omega)) (mbeg_o (by omega)) (fun j => mbeg_o (by omega))
    · exact h4.keep (fun k j hk => xbeg_o (by omega)) (mbeg_o (by omega)) (fun k j hk => mbeg_o (by omega))
theorem m_placeNow {n : Nat} {c : CT} (hn : n ≤ 12) (hc : c.2.1 < n ∨ c.2.1 = 12) (h : MCl τ 0 c) : f6_placeNow τ = some (plI c.2.1) := by
  simp only [f6_placeNow, gd_t (iz 3 (by omega)), tz0, h.2.1]
  by_cases e : c.2.1 = 12
  · rw [e]; rfl
  · rw [if_neg (by rw [l12, c_eq (by omega) (by omega)]; exact e), plI_lt (by omega)]
theorem r_now (h : RR σ τ) (a : Int32) : BI (pI (f5_now a σ) σ) (pI (f6_now a τ) τ) := by
  have h' := h
  obtain ⟨⟨n, np, F, Pw, U, od, un, ci, kp, h1, h2⟩, ⟨tn, tb, h3⟩, ⟨en, d1, d2, d3, h4⟩, h5, h6⟩ := h
  obtain ⟨c1, c2, c3⟩ := h2.2.2 0 (Or.inl rfl)
  have r0 := h1.1.1
  have key : ∃ r, f5_now a σ = some r ∧ f6_now a τ = some r := by
    simp only [f5_now, f6_now, gd_t (iz 3 (by omega)), tz0, m_placeNow r0 c1.2.1 c3, bd_e, c3.1, c3.2.2.1, c3.2.2.2.1, c3.2.2.2.2.1, c3.2.2.2.2.2.1, show (17 + 0 : Nat) = 17 from rfl, show σ.1 17 0 = _ from c2.1, show σ.1 17 1 = _ from c2.2.1, show σ.1 17 2 = _ from c2.2.2.1, show σ.1 17 3 = _ from c2.2.2.2.1, show σ.1 17 4 = _ from c2.2.2.2.2.1, show σ.1 17 5 = _ from c2.2.2.2.2.2.1]
    by_cases g0 : a = 0
    · simp only [if_pos g0]; exact ⟨_, rfl, rfl⟩
    · simp only [if_neg g0]
      by_cases g1 : a = 1
      · simp only [if_pos g1]; exact ⟨_, rfl, rfl⟩
      · simp only [if_neg g1]
        by_cases g2 : a = 2
        · simp only [if_pos g2]; exact ⟨_, rfl, rfl⟩
        · simp only [if_neg g2]
          by_cases g3 : a = 3
          · simp only [if_pos g3]; exact ⟨_, rfl, rfl⟩
          · simp only [if_neg g3]
            by_cases g4 : a = 4
            · simp only [if_pos g4]; exact ⟨_, rfl, rfl⟩
            · simp only [if_neg g4]
              by_cases g5 : a = 5
              · simp only [if_pos g5]; exact ⟨_, rfl, rfl⟩
              · simp only [if_neg g5]; exact ⟨_, rfl, rfl⟩
  obtain ⟨r, k1, k2⟩ := key
  exact ⟨r, σ, τ, by rw [k1]; rfl, by rw [k2]; rfl, h'⟩
end OPS
