/-! best, high, sure, help, stuck: the relation -/
theorem plI_1 {i : Nat} (h : i ≤ 12) : plI i + 1 = nI (sm i) := by
  unfold sm
  by_cases e : i = 12
  · rw [e]; rfl
  · rw [if_neg e, plI_lt (by omega), nI_1]
section S
variable {σ τ s t : SS} {n np : Nat} {F Pw : Nat → Nat → Nat} {U od un : Nat → Nat} {M : Nat → Nat → Bool} {H : Nat → Nat}
theorem RR.way (h : RR σ τ) : ∃ (n np : Nat) (F Pw : Nat → Nat → Nat) (U : Nat → Nat) (s : Nat), TR n np F Pw ∧ XT σ n np F Pw ∧ MT τ n np F Pw ∧ UR U ∧ XU σ U ∧ MU τ U ∧ s < 4096 ∧ σ.1 17 7 = nI s ∧ τ.1 7 0 = nI s ∧ XF σ := by
  obtain ⟨⟨n, np, F, Pw, U, od, un, ci, kp, h1, h2⟩, -, -, -, hf⟩ := h
  obtain ⟨hR, hx, hm, hU, hux, hum, hO, hxo⟩ := h1
  obtain ⟨c1, c2, c3⟩ := h2.2.2 0 (Or.inl rfl)
  exact ⟨n, np, F, Pw, U, (ci 0).2.2.2.2.2.2.2, hR, hx, hm, hU, hux, hum, Nat.lt_of_lt_of_le c1.2.2.2 (pow12 hR.1), c2.2.2.2.2.2.2.2, c3.2.2.2.2.2.2.2, hf⟩
theorem m_lookW (hR : TR n np F Pw) (hm : MT τ n np F Pw) (hu : MU τ U) {s p : Nat} (hsw : τ.1 7 0 = nI s) (hp : p < np) : ∃ t, f6_look (nI p) τ = some t ∧ MS τ t ∧ MW t n np F Pw U s p (Pw 0 p) (U 5) := by
  obtain ⟨t, t1, t2, t3⟩ := m_look hR hm hu hp
  exact ⟨t, t1, t2, t2.mt hm, t2.mu hu, by rw [t2.2 _ _ (by omega) (by omega)]; exact hsw, t3⟩
theorem XS.sw {s0 : Nat} (q : XS σ s) (h : σ.1 17 7 = nI s0) : s.1 17 7 = nI s0 := by rw [q.2.2.2.2 _ _ (by omega) (by omega)]; exact h
theorem XS.xf (q : XS σ s) (h : XF σ) : XF s := ⟨by rw [q.1, q.2.1]; exact h.1, q.2.2.1⟩
theorem x_oddsOf {e : Nat → Nat → Nat} (hw : WX s e 12) {j : Nat} (hj : j < 13) : f3_oddsOf (nI j) s = some (lN (OD (fun k => e k j) 12)) := by
  have hin : inb (nI j) 13 := by rw [c_inb (by omega)]; exact hj
  unfold f3_oddsOf
  rw [x_isIn hj, bd_e, if_neg (by decide), gd_t hin, c_tn (by omega), (hw j hj).2.1]
theorem x_stepsTo {e : Nat → Nat → Nat} (hw : WX s e 12) {j : Nat} (hj : j < 13) : f3_stepsTo (nI j) s = some (nI (SP (fun k => e k j) 12)) := by
  have hin : inb (nI j) 13 := by rw [c_inb (by omega)]; exact hj
  unfold f3_stepsTo
  rw [x_isIn hj, bd_e, if_neg (by decide), gd_t hin, c_tn (by omega), (hw j hj).2.2]
theorem r_best (h : RR σ τ) (a b c d : Int32) : BJ (f5_best a b c d σ) (f6_best a b c d τ) := by
  have h' := h
  obtain ⟨n, np, F, Pw, U, s, hR, hx, hm, hU, hux, hum, hs, hsx, hsm, hf⟩ := h.way
  have r0 := hR.1
  have r1 := hR.2.1
  have bad : ∀ v : Int64, BJ (some (v, σ)) (some (v, τ)) := fun v => ⟨v, σ, τ, rfl, rfl, h'⟩
  have w : WH = 1000000000000 := rfl
  unfold f5_best f6_best
  rw [x_isBody' hR hx, m_isBody hR hm]
  simp only [bd_e, ib0]
  rcases ok_cases a (n := np) (by omega) with e | ⟨p, hp, rfl, e⟩
  · rw [e]; exact bad _
  · rw [e]
    simp only [cond_true]
    rw [x_isPlace hR hx, m_isPlace hR hm]
    simp only [bd_e, ib0]
    rcases okp_cases b (n := n) r0 with e1 | ⟨i, hi, rfl, e1⟩
    · rw [e1]; exact bad _
    · rw [e1]
      simp only [cond_true]
      rw [x_isPlace hR hx, m_isPlace hR hm]
      simp only [bd_e, ib0]
      rcases okp_cases c (n := n) r0 with e2 | ⟨j, hj, rfl, e2⟩
      · rw [e2]; exact bad _
      · rw [e2]
        simp only [cond_true]
        rw [f6_in_b, bd_e, ib0]
        rcases in_range (a := d) (hi := 2) (by omega) with ⟨e3, k, hk, rfl⟩ | ⟨e3, h0⟩
        · have e3' : decide ((0 : Int32) ≤ nI k ∧ nI k ≤ 2) = true := e3
          have i12 : i ≤ 12 := by rcases hi with q | q <;> omega
          have j12 : j ≤ 12 := by rcases hj with q | q <;> omega
          have p0 := hR.2.2.2 p hp
          have u5 := hU.2.2.2.2.2.2.2
          rw [e3', cond_true, if_neg (nI_pos (by omega)), if_pos (by rw [l2, c_le (by omega) (by omega)]; exact hk)]
          obtain ⟨s1, a1, a2, a3⟩ := x_look hR hx hU hux hf hs hsx hp (mo := 0) (by omega) (bk := U 5) (by omega)
          obtain ⟨s2, b1, b2, b3, b4⟩ := x_weigh (σ := σ) (st := i) r0 (holL hR hp) hi a2 a3
          obtain ⟨t1, q1, q2, q3⟩ := m_lookW hR hm hum hsm hp
          obtain ⟨t2, g1, g2, g3⟩ := m_goFrom hR q3.1 hU q3.2.1 hs q3.2.2.1 hp (by omega) (by omega) q3.2.2.2 hi (holL hR hp)
          have hin : inb (nI j) 13 := by rw [c_inb (by omega)]; omega
          have fin : RR s2 t2 := h'.scr b2 (q2.tr g2.ms)
          rw [show f5_tuned 5 σ = some (nI (U 5)) from x_tuned hux (i := 5) (by omega), bd_e, show f5_look (nI p) 0 (nI (U 5)) σ = some s1 from a1, bd_e, plI_1 i12, b1, bd_e, plI_1 j12, x_oddsOf b4 (by unfold sm; split <;> omega), bd_e, x_stepsTo b4 (by unfold sm; split <;> omega), pm_sm j12]
          rw [q1]
          simp only [bd_e]
          rw [pl_if r0 hi, g1]
          simp only [bd_e]
          rw [pl_if r0 hj]
          simp only [gd_t hin, c_tn (show j < 2147483648 by omega), (g3 j (by omega)).2.1, (g3 j (by omega)).2.2]
          have ol := oG_le (n := n) (M := may F Pw U s p (Pw 0 p) (U 5)) (H := hol F Pw U p) (st := i) (b := j) (holL hR hp)
          unfold oG at ol
          rw [show Pw 0 p + 0 = Pw 0 p by omega]
          by_cases g0 : OD (fun k => G n (may F Pw U s p (Pw 0 p) (U 5)) (hol F Pw U p) i k j) 12 = 0
          · rw [g0]
            simp only [if_pos (show lN 0 = 0 from rfl)]
            exact ⟨-9, s2, t2, rfl, rfl, fin⟩
          · have g0' : ¬ lN (OD (fun k => G n (may F Pw U s p (Pw 0 p) (U 5)) (hol F Pw U p) i k j) 12) = 0 := by rw [lN0, l_eq (by omega) (by omega)]; exact g0
            simp only [if_neg g0']
            by_cases g2 : k = 2
            · have g2' : nI k = 2 := by rw [g2]; rfl
              simp only [if_pos g2']
              exact ⟨_, s2, t2, rfl, rfl, fin⟩
            · have g2' : ¬ nI k = 2 := by rw [l2, c_eq (by omega) (by omega)]; exact g2
              simp only [if_neg g2']
              have x1 := x_least (up := OD (fun k => G n (may F Pw U s p (Pw 0 p) (U 5)) (hol F Pw U p) i k j) 12) (down := WH) (what := k) (by omega) (by omega) (by omega) (by omega)
              have x2 := m_least (up := OD (fun k => G n (may F Pw U s p (Pw 0 p) (U 5)) (hol F Pw U p) i k j) 12) (down := WH) (what := k) (by omega) (by omega) (by omega)
              rw [show max 1 WH = WH by omega, ← lNWH] at x1
              rw [← lNWH] at x2
              rw [x1, x2]
              simp only [bd_e]
              exact ⟨_, s2, t2, rfl, rfl, fin⟩
        · have e3' : decide ((0 : Int32) ≤ d ∧ d ≤ 2) = false := e3
          rw [e3', cond_false]
          rcases h0 with g | ⟨j, k1, k2, rfl⟩
          · rw [if_pos g]; exact bad _
          · rw [if_neg (nI_pos (by omega)), if_neg (by rw [l2, c_le (by omega) (by omega)]; omega)]; exact bad _
theorem x_sureL (hR : TR n np F Pw) (hx : XT s n np F Pw) (hH : ∀ b, pl n b → H b ≤ 10) (hw : WX s (fun k j => G n M H 12 k (pm j)) 12) {h : Nat} (hh : h ≤ 100) : ∀ (d i fuel : Nat), i + d = n → d < fuel → L5_sure_44 (nI h) s fuel (nI (mx (fun b => if byH n M H h b = true then F 0 b else 0) i)) (nI i) = some (nI (mx (fun b => if byH n M H h b = true then F 0 b else 0) n)) := by
  have r0 := hR.1
  have w : WH = 1000000000000 := rfl
  intro d
  induction d with
  | zero =>
    intro i fuel h1 h2
    obtain ⟨f, rfl⟩ : ∃ q, fuel = q + 1 := ⟨fuel - 1, by omega⟩
    rw [L5_sure_44, show s.1 (wB (s.2.2 0)) 0 = nI n from hx.1, if_neg (by rw [c_lt (by omega) (by omega)]; omega), show i = n by omega]
  | succ d ih =>
    intro i fuel h1 h2
    obtain ⟨f, rfl⟩ : ∃ q, fuel = q + 1 := ⟨fuel - 1, by omega⟩
    have ri := hR.2.2.1 i (by omega)
    have k := ih (i + 1) f (by omega) (by omega)
    rw [mx] at k
    have ml := mxF_le hR (fun b => byH n M H h b) (i := i) (by omega)
    have ol := oG_le (n := n) (M := M) (H := H) (st := 12) (b := i) hH
    have e : pm (i + 1) = i := by unfold pm; rw [if_neg (by omega)]; rfl
    have ov : f3_oddsOf (nI (i + 1)) s = some (lN (oG n M H 12 i)) := by
      rw [x_oddsOf hw (by omega)]
      show some (lN (OD (fun k => G n M H 12 k (pm (i + 1))) 12)) = _
      rw [e]; rfl
    have no : byH n M H h i = false → L5_sure_44 (nI h) s f (nI (mx (fun b => if byH n M H h b = true then F 0 b else 0) i)) (nI (i + 1)) = some (nI (mx (fun b => if byH n M H h b = true then F 0 b else 0) n)) := by
      intro z
      rw [z, if_neg (by simp), Nat.max_eq_left (by omega)] at k
      exact k
    rw [L5_sure_44, show s.1 (wB (s.2.2 0)) 0 = nI n from hx.1, if_pos (by rw [c_lt (by omega) (by omega)]; omega), nI_1, ov, bd_e]
    simp only [lt_e, nI_1]
    by_cases g1 : oG n M H 12 i ≤ 0
    · rw [if_pos (by rw [lN0, l_le (by omega) (by omega)]; exact g1)]
      exact no (by unfold byH; rw [decide_eq_false (by omega)]; rfl)
    · rw [if_neg (by rw [lN0, l_le (by omega) (by omega)]; exact g1)]
      by_cases g2 : oG n M H 12 i * 100 < h * WH
      · rw [if_pos (by rw [lWH100 ol hh]; exact g2)]
        exact no (by unfold byH; rw [decide_eq_false (show ¬ h * WH ≤ _ by omega), Bool.and_false])
      · rw [if_neg (by rw [lWH100 ol hh]; exact g2), show f4_feature (s.2.2 0) (nI i) 0 s = some (nI (F 0 i)) from x_feature hR hx (w := 0) (by omega) (by omega), bd_e, imax (by omega) (by omega)]
        have z : byH n M H h i = true := by unfold byH; rw [decide_eq_true (by omega), decide_eq_true (by omega)]; rfl
        rw [z, if_pos rfl] at k
        exact k
theorem r_sure (h : RR σ τ) (a b : Int32) : BI (f5_sure a b σ) (f6_sure a b τ) := by
  have h' := h
  obtain ⟨n, np, F, Pw, U, s, hR, hx, hm, hU, hux, hum, hs, hsx, hsm, hf⟩ := h.way
  have r0 := hR.1
  have r1 := hR.2.1
  have bad : ∀ v : Int32, BI (some (v, σ)) (some (v, τ)) := fun v => ⟨v, σ, τ, rfl, rfl, h'⟩
  unfold f5_sure f6_sure
  rw [x_isBody' hR hx, m_isBody hR hm]
  simp only [bd_e, ib0]
  rcases ok_cases a (n := np) (by omega) with e | ⟨p, hp, rfl, e⟩
  · rw [e]; exact bad _
  · rw [e]
    simp only [cond_true]
    rw [f6_in_b, bd_e, ib0]
    rcases in_range (a := b) (hi := 100) (by omega) with ⟨e3, k, hk, rfl⟩ | ⟨e3, h0⟩
    · have e3' : decide ((0 : Int32) ≤ nI k ∧ nI k ≤ 100) = true := e3
      have p0 := hR.2.2.2 p hp
      have u5 := hU.2.2.2.2.2.2.2
      rw [e3', cond_true, if_neg (nI_pos (by omega)), if_pos (by rw [l100, c_le (by omega) (by omega)]; exact hk)]
      obtain ⟨s1, a1, a2, a3⟩ := x_look hR hx hU hux hf hs hsx hp (mo := 0) (by omega) (bk := U 5) (by omega)
      obtain ⟨s2, b1, b2, b3, b4⟩ := x_weigh (σ := σ) (st := 12) r0 (holL hR hp) (Or.inr rfl) a2 a3
      obtain ⟨t1, q1, q2, q3⟩ := m_lookW hR hm hum hsm hp
      obtain ⟨t2, g1, g2⟩ := m_highBy hR hU hs hp (by omega) (by omega) q3 (h := k) hk
      rw [show Pw 0 p + 0 = Pw 0 p by omega] at b4
      have L : L5_sure_44 (nI k) s2 FU 0 0 = _ := x_sureL hR (b2.xt hx) (holL hR hp) b4 hk n 0 FU (by omega) (by unfold FU; omega)
      rw [show f5_tuned 5 σ = some (nI (U 5)) from x_tuned hux (i := 5) (by omega), bd_e, show f5_look (nI p) 0 (nI (U 5)) σ = some s1 from a1, bd_e, show f3_weigh 0 s1 = some s2 from b1, bd_e, L, bk1_e, q1, bd_e, g1, bk2_e]
      exact ⟨_, s2, t2, rfl, rfl, h'.scr b2 (q2.tr g2.ms)⟩
    · have e3' : decide ((0 : Int32) ≤ b ∧ b ≤ 100) = false := e3
      rw [e3', cond_false]
      rcases h0 with g | ⟨j, k1, k2, rfl⟩
      · rw [if_pos g]; exact bad _
      · rw [if_neg (nI_pos (by omega)), if_neg (by rw [l100, c_le (by omega) (by omega)]; omega)]; exact bad _
theorem x_returning (hR : TR n np F Pw) (hx : XT s n np F Pw) (hH : ∀ b, pl n b → H b ≤ 10) (hl : XL s (NN n M) (TT n H)) {Q : Nat} (hQ : Q < 4096) {D : Nat → Bool} (hD : ∀ b, b < n → (D b = true ↔ Go n M H b 12)) : f5_returning (nI Q) s = some (nI (msk (fun b => Q.testBit b && D b) n)) := by
  have L : L5_returning_4 (nI Q) s FU 0 0 = _ := x_returnL hR hx hH hl hQ hD n 0 FU (by omega) (by unfold FU; have := hR.1; omega)
  unfold f5_returning
  rw [L, bk1_e]
theorem r_high (h : RR σ τ) (a b : Int32) : BI (f5_high a b σ) (f6_high a b τ) := by
  have h' := h
  obtain ⟨n, np, F, Pw, U, s, hR, hx, hm, hU, hux, hum, hs, hsx, hsm, hf⟩ := h.way
  have r0 := hR.1
  have r1 := hR.2.1
  have bad : ∀ v : Int32, BI (some (v, σ)) (some (v, τ)) := fun v => ⟨v, σ, τ, rfl, rfl, h'⟩
  unfold f5_high f6_high
  rw [x_isBody' hR hx, m_isBody hR hm]
  simp only [bd_e, ib0]
  rcases ok_cases a (n := np) (by omega) with e | ⟨p, hp, rfl, e⟩
  · rw [e]; exact bad _
  · rw [e]
    simp only [cond_true]
    rw [f6_in_b, bd_e, ib0]
    rcases in_range (a := b) (hi := 1) (by omega) with ⟨e3, k, hk, rfl⟩ | ⟨e3, h0⟩
    · have e3' : decide ((0 : Int32) ≤ nI k ∧ nI k ≤ 1) = true := e3
      have p0 := hR.2.2.2 p hp
      have u5 := hU.2.2.2.2.2.2.2
      rw [e3', cond_true, if_neg (nI_pos (by omega)), if_pos (by rw [l1, c_le (by omega) (by omega)]; exact hk)]
      obtain ⟨s1, a1, a2, a3⟩ := x_look hR hx hU hux hf hs hsx hp (mo := 0) (by omega) (bk := U 5) (by omega)
      rw [show Pw 0 p + 0 = Pw 0 p by omega] at a3
      obtain ⟨Q, v1, v2, v3, v4⟩ := x_highR hR (a2.xt hx) hp a3 hs (fun _ q => q)
      obtain ⟨t1, q1, q2, q3⟩ := m_lookW hR hm hum hsm hp
      rw [show f5_tuned 5 σ = some (nI (U 5)) from x_tuned hux (i := 5) (by omega), bd_e, show f5_look (nI p) 0 (nI (U 5)) σ = some s1 from a1, bd_e, show s1.1 (17 + 0) 7 = nI s from a2.sw hsx, v2, q1]
      simp only [bd_e]
      by_cases gk : k = 0
      · rw [if_pos (by rw [gk]; rfl), if_pos (by rw [gk]; rfl), v4, bd_e]
        obtain ⟨t2, g1, g2⟩ := m_highBy hR hU hs hp (by omega) (by omega) q3 (h := 0) (by omega)
        rw [show f6_highBy 0 t1 = _ from g1, bk2_e]
        exact ⟨_, s1, t2, rfl, rfl, h'.scr a2 (q2.tr g2.ms)⟩
      · rw [if_neg (by rw [l0, c_eq (by omega) (by omega)]; exact gk), if_neg (by rw [l0, c_eq (by omega) (by omega)]; exact gk)]
        obtain ⟨t2, g1, g2⟩ := m_reached hR hU hs hp (by omega) (by omega) q3
        have hD : ∀ b, b < n → ((decide (0 < oG n (may F Pw U s p (Pw 0 p) (U 5)) (hol F Pw U p) b 12)) = true ↔ Go n (may F Pw U s p (Pw 0 p) (U 5)) (hol F Pw U p) b 12) := fun b _ => oG_go
        have eQ : ∀ b, b < n → (msk (fun b => decide (0 < oG n (may F Pw U s p (Pw 0 p) (U 5)) (hol F Pw U p) 12 b)) n).testBit b = Q.testBit b := by
          intro b hb
          rw [msk_tb, decide_eq_true hb, v3 b (by omega)]; rfl
        have m12 : msk (fun b => decide (0 < oG n (may F Pw U s p (Pw 0 p) (U 5)) (hol F Pw U p) 12 b)) n < 4096 := Nat.lt_of_lt_of_le (msk_lt _ n) (pow12 r0)
        rw [x_returning hR (a2.xt hx) (holL hR hp) a3 v1 hD, bd_e, x_highest hR (a2.xt hx) (Nat.lt_of_lt_of_le (msk_lt _ n) (pow12 r0)), bd_e, g1, bk2_e]
        obtain ⟨t3, j1, j2⟩ := m_highL45 hR hU hs hp (by omega) (by omega) m12 hD n 0 FU t2 (by omega) (by unfold FU; omega) (q3.gs g2)
        rw [show L6_high_45 (nI (msk (fun b => decide (0 < oG n (may F Pw U s p (Pw 0 p) (U 5)) (hol F Pw U p) 12 b)) n)) FU 0 0 t2 = _ from j1, bk2_e]
        refine ⟨_, s1, t3, rfl, ?_, h'.scr a2 (q2.tr (g2.tr j2).ms)⟩
        congr 3
        refine mx_cg n (fun b hb => ?_)
        rw [eQ b hb, msk_tb, decide_eq_true hb, Bool.true_and]
    · have e3' : decide ((0 : Int32) ≤ b ∧ b ≤ 1) = false := e3
      rw [e3', cond_false]
      rcases h0 with g | ⟨j, k1, k2, rfl⟩
      · rw [if_pos g]; exact bad _
      · rw [if_neg (nI_pos (by omega)), if_neg (by rw [l1, c_le (by omega) (by omega)]; omega)]; exact bad _
theorem r_help (h : RR σ τ) (a b : Int32) : BI (f5_help a b σ) (f6_help a b τ) := by
  have h' := h
  obtain ⟨n, np, F, Pw, U, s, hR, hx, hm, hU, hux, hum, hs, hsx, hsm, hf⟩ := h.way
  have r0 := hR.1
  have r1 := hR.2.1
  have bad : ∀ v : Int32, BI (some (v, σ)) (some (v, τ)) := fun v => ⟨v, σ, τ, rfl, rfl, h'⟩
  unfold f5_help f6_help
  rw [x_isBody' hR hx, m_isBody hR hm]
  simp only [bd_e, ib0]
  rcases ok_cases a (n := np) (by omega) with e | ⟨p, hp, rfl, e⟩
  · rw [e]; exact bad _
  · rw [e]
    simp only [cond_true]
    rw [f6_in_b, bd_e, ib0]
    rcases in_range (a := b) (hi := 20) (by omega) with ⟨e3, k, hk, rfl⟩ | ⟨e3, h0⟩
    · have e3' : decide ((0 : Int32) ≤ nI k ∧ nI k ≤ 20) = true := e3
      have p0 := hR.2.2.2 p hp
      rw [e3', cond_true, if_neg (nI_pos (by omega)), if_pos (by rw [l20, c_le (by omega) (by omega)]; exact hk)]
      obtain ⟨s1, a1, a2, a3⟩ := x_look hR hx hU hux hf hs hsx hp (mo := 0) (by omega) (bk := k) (by omega)
      rw [show Pw 0 p + 0 = Pw 0 p by omega] at a3
      obtain ⟨Q, v1, v2, v3, v4⟩ := x_highR hR (a2.xt hx) hp a3 hs (fun _ q => q)
      obtain ⟨s2, c1, c2, c3⟩ := x_look hR (a2.xt hx) hU (a2.xu hux) (a2.xf hf) hs (a2.sw hsx) hp (mo := 0) (by omega) (bk := 0) (by omega)
      rw [show Pw 0 p + 0 = Pw 0 p by omega] at c3
      have d2 := a2.tr c2
      obtain ⟨Q2, w1, w2, w3, w4⟩ := x_highR hR (d2.xt hx) hp c3 hs (fun _ q => q)
      obtain ⟨t1, q1, q2, q3⟩ := m_lookW hR hm hum hsm hp
      have m2 : MS τ (sI t1 0 17 (nI k)) := q2.tr (MS.i (by omega))
      have q4 : MW (sI t1 0 17 (nI k)) n np F Pw U s p (Pw 0 p) k := ⟨m2.mt hm, m2.mu hum, by rw [m2.2 _ _ (by omega) (by omega)]; exact hsm, by rw [sI_o (by omega)]; exact q3.2.2.2.1, by rw [sI_o (by omega)]; exact q3.2.2.2.2.1, by rw [sI_o (by omega)]; exact q3.2.2.2.2.2.1, sI_s⟩
      obtain ⟨t2, g1, g2⟩ := m_highBy hR hU hs hp (by omega) (by omega) q4 (h := 0) (by omega)
      have q5 := q4.gs g2
      have m3 : MS τ (sI t2 0 17 (nI 0)) := (m2.tr g2.ms).tr (MS.i (by omega))
      have q6 : MW (sI t2 0 17 (nI 0)) n np F Pw U s p (Pw 0 p) 0 := ⟨m3.mt hm, m3.mu hum, by rw [m3.2 _ _ (by omega) (by omega)]; exact hsm, by rw [sI_o (by omega)]; exact q5.2.2.2.1, by rw [sI_o (by omega)]; exact q5.2.2.2.2.1, by rw [sI_o (by omega)]; exact q5.2.2.2.2.2.1, sI_s⟩
      obtain ⟨t3, j1, j2⟩ := m_highBy hR hU hs hp (by omega) (by omega) q6 (h := 0) (by omega)
      rw [show f5_look (nI p) 0 (nI k) σ = some s1 from a1, bd_e, show s1.1 (17 + 0) 7 = nI s from a2.sw hsx, v2, bd_e, v4, bd_e, show f5_look (nI p) 0 0 s1 = some s2 from c1, bd_e, show s2.1 (17 + 0) 7 = nI s from d2.sw hsx, w2, bd_e, w4, bd_e, q1, bd_e, lt_e, show f6_highBy 0 (sI t1 0 17 (nI k)) = _ from g1, bk2_e, lt_e, show f6_highBy 0 (sI t2 0 17 0) = _ from j1, bk2_e]
      exact ⟨_, s2, t3, rfl, rfl, h'.scr d2 (m3.tr j2.ms)⟩
    · have e3' : decide ((0 : Int32) ≤ b ∧ b ≤ 20) = false := e3
      rw [e3', cond_false]
      rcases h0 with g | ⟨j, k1, k2, rfl⟩
      · rw [if_pos g]; exact bad _
      · rw [if_neg (nI_pos (by omega)), if_neg (by rw [l20, c_le (by omega) (by omega)]; omega)]; exact bad _
theorem stuck_both (hR : TR n np F Pw) (hx : XT σ n np F Pw) (hm : MT τ n np F Pw) (hU : UR U) (hux : XU σ U) (hum : MU τ U) (hf : XF σ) {s0 p b : Nat} (hs : s0 < 4096) (hsx : σ.1 17 7 = nI s0) (hsm : τ.1 7 0 = nI s0) (hp : p < np) (hb : b < n) : ∀ (d r f1 f2 : Nat) (s t : SS), r + d = 31 → d < f1 → d < f2 → XS σ s → MS τ t → t.1 0 15 = nI (Pw 1 p) → t.1 0 16 = nI (Pw 2 p) → t.1 0 17 = nI (U 5) → ∃ s2 t2, XS σ s2 ∧ MS τ t2 ∧ ((L5_stuck_20 (nI p) (nI b) f1 (nI r) s = some (.inl s2) ∧ L6_stuck_31 (nI b) (nI (Pw 0 p)) f2 (nI r) t = some (.inl t2)) ∨ ∃ v, L5_stuck_20 (nI p) (nI b) f1 (nI r) s = some (.inr (v, s2)) ∧ L6_stuck_31 (nI b) (nI (Pw 0 p)) f2 (nI r) t = some (.inr (v, t2))) := by
  have r0 := hR.1
  have p0 := hR.2.2.2 p hp
  have u5 := hU.2.2.2.2.2.2.2
  intro d
  induction d with
  | zero =>
    intro r f1 f2 s t h1 h2 h3 hq hq2 k1 k2 k3
    obtain ⟨f, rfl⟩ : ∃ q, f1 = q + 1 := ⟨f1 - 1, by omega⟩
    obtain ⟨g, rfl⟩ : ∃ q, f2 = q + 1 := ⟨f2 - 1, by omega⟩
    refine ⟨s, t, hq, hq2, Or.inl ⟨?_, ?_⟩⟩
    · rw [L5_stuck_20, if_neg (by rw [l30, c_le (by omega) (by omega)]; omega)]
    · rw [L6_stuck_31, if_neg (by rw [l30, c_le (by omega) (by omega)]; omega)]
  | succ d ih =>
    intro r f1 f2 s t h1 h2 h3 hq hq2 k1 k2 k3
    obtain ⟨f, rfl⟩ : ∃ q, f1 = q + 1 := ⟨f1 - 1, by omega⟩
    obtain ⟨g, rfl⟩ : ∃ q, f2 = q + 1 := ⟨f2 - 1, by omega⟩
    obtain ⟨s1, a1, a2, a3⟩ := x_look hR (hq.xt hx) hU (hq.xu hux) (hq.xf hf) hs (hq.sw hsx) hp (mo := r) (by omega) (bk := U 5) (by omega)
    have d2 := hq.tr a2
    obtain ⟨v, v1, v2⟩ := x_comesDown r0 (holL hR hp) a3 hb
    have m2 : MS τ (sI t 0 14 (nI (Pw 0 p + r))) := hq2.tr (MS.i (by omega))
    have q4 : MW (sI t 0 14 (nI (Pw 0 p + r))) n np F Pw U s0 p (Pw 0 p + r) (U 5) := ⟨m2.mt hm, m2.mu hum, by rw [m2.2 _ _ (by omega) (by omega)]; exact hsm, sI_s, by rw [sI_o (by omega)]; exact k1, by rw [sI_o (by omega)]; exact k2, by rw [sI_o (by omega)]; exact k3⟩
    obtain ⟨w, t1, w1, w2, w3⟩ := m_comesDown hR hU hs hp (by omega) (by omega) q4 hb
    have ev : w = v := Bool.eq_iff_iff.mpr (by rw [w3, v2])
    have q5 := q4.gs w2
    rw [L5_stuck_20, if_pos (by rw [l30, c_le (by omega) (by omega)]; omega), show f5_tuned 5 s = some (nI (U 5)) from x_tuned (hq.xu hux) (i := 5) (by omega), bd_e, a1, bd_e, v1, bd_e, ib0]
    rw [L6_stuck_31, if_pos (by rw [l30, c_le (by omega) (by omega)]; omega), c_add]
    simp only [lt_e, nI_1]
    rw [w1, bk2_e, ib0, ev]
    cases v with
    | true => exact ⟨s1, t1, d2, m2.tr w2.ms, Or.inr ⟨_, rfl, rfl⟩⟩
    | false => exact ih (r + 1) f g s1 t1 (by omega) (by omega) (by omega) d2 (m2.tr w2.ms) q5.2.2.2.2.1 q5.2.2.2.2.2.1 q5.2.2.2.2.2.2
theorem r_stuck (h : RR σ τ) (a b : Int32) : BI (f5_stuck a b σ) (f6_stuck a b τ) := by
  have h' := h
  obtain ⟨n, np, F, Pw, U, s, hR, hx, hm, hU, hux, hum, hs, hsx, hsm, hf⟩ := h.way
  have r0 := hR.1
  have r1 := hR.2.1
  have bad : ∀ v : Int32, BI (some (v, σ)) (some (v, τ)) := fun v => ⟨v, σ, τ, rfl, rfl, h'⟩
  unfold f5_stuck f6_stuck
  rw [x_isBody' hR hx, m_isBody hR hm]
  simp only [bd_e, ib0]
  rcases ok_cases a (n := np) (by omega) with e | ⟨p, hp, rfl, e⟩
  · rw [e]; exact bad _
  · rw [e]
    simp only [cond_true]
    rw [x_isBranch' hR hx, m_isBranch hR hm]
    simp only [bd_e, ib0]
    rcases ok_cases b (n := n) (by omega) with e1 | ⟨i, hi, rfl, e1⟩
    · rw [e1]; exact bad _
    · rw [e1]
      simp only [cond_true]
      obtain ⟨t1, q1, q2, q3⟩ := m_lookW hR hm hum hsm hp
      rw [q1, bd_e, lt_e, q3.2.2.2.1]
      obtain ⟨s2, t2, z1, z2, z3⟩ := stuck_both hR hx hm hU hux hum hf hs hsx hsm hp hi 31 0 FU FU σ t1 (by omega) (by unfold FU; omega) (by unfold FU; omega) (XS.rf hf) q2 q3.2.2.2.2.1 q3.2.2.2.2.2.1 q3.2.2.2.2.2.2
      rcases z3 with ⟨y1, y2⟩ | ⟨v, y1, y2⟩
      · rw [show L5_stuck_20 (nI p) (nI i) FU 0 σ = _ from y1, show L6_stuck_31 (nI i) (nI (Pw 0 p)) FU 0 t1 = _ from y2]
        exact ⟨_, s2, t2, rfl, rfl, h'.scr z1 z2⟩
      · rw [show L5_stuck_20 (nI p) (nI i) FU 0 σ = _ from y1, show L6_stuck_31 (nI i) (nI (Pw 0 p)) FU 0 t1 = _ from y2]
        exact ⟨_, s2, t2, rfl, rfl, h'.scr z1 z2⟩
end S
