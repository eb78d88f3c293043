/-! rubbed: both -/
section S
variable {σ τ t : SS} {n np : Nat} {F Pw : Nat → Nat → Nat} {U od un : Nat → Nat}
theorem m_minL (hR : TR n np F Pw) (hm : MT t n np F Pw) {left : Nat} (hl : left < 4096) (c2 c5 : Int32) (c6 : Int64) : ∀ (d i fuel : Nat) (v : Int32), i + d = n → d < fuel → ((v = -9 ∧ ∀ s, s < i → left.testBit s = false) ∨ ∃ x, v = nI x ∧ x < i ∧ left.testBit x = true ∧ ∀ s, s < i → left.testBit s = true → F 0 x ≤ F 0 s) → ∃ v', L6_rubbed_62 c2 (nI left) c5 c6 t fuel v (nI i) = some v' ∧ ((v' = -9 ∧ ∀ s, s < n → left.testBit s = false) ∨ ∃ x, v' = nI x ∧ x < n ∧ left.testBit x = true ∧ ∀ s, s < n → left.testBit s = true → F 0 x ≤ F 0 s) := by
  have r0 := hR.1
  intro d
  induction d with
  | zero =>
    intro i fuel v h1 h2 hI
    obtain ⟨q, rfl⟩ : ∃ q, fuel = q + 1 := ⟨fuel - 1, by omega⟩
    have e : i = n := by omega
    subst e
    refine ⟨v, ?_, hI⟩
    rw [L6_rubbed_62, gd_t (iz 2 (by omega)), tz0, hm.1, if_neg (by rw [c_lt (by omega) (by omega)]; omega)]
  | succ d ih =>
    intro i fuel v h1 h2 hI
    obtain ⟨q, rfl⟩ : ∃ q, fuel = q + 1 := ⟨fuel - 1, by omega⟩
    have ri := hR.2.2.1 i (by omega)
    rw [L6_rubbed_62, gd_t (iz 2 (by omega)), tz0, hm.1, if_pos (by rw [c_lt (by omega) (by omega)]; omega)]
    simp only [lt_e, m_bit (show left < 2147483648 by omega) (show i < 32 by omega), ib1, nI_1, show f6_of (nI i) 0 t = some (nI (F 0 i)) from m_of hR hm (w := 0) (by omega) (by omega), bd_e]
    have z0 : ∀ {α : Type} (x y : α), (if (0 : Int32) = 0 then x else y) = x := fun x y => if_pos rfl
    have z1 : ∀ {α : Type} (x y : α), (if (1 : Int32) = 0 then x else y) = y := fun x y => if_neg (by decide)
    simp only [z1, if_true]
    cases hb : left.testBit i with
    | false =>
      simp only [cond_false]
      refine ih (i + 1) q v (by omega) (by omega) ?_
      rcases hI with ⟨a, b⟩ | ⟨x, a, b, c, d⟩
      · refine Or.inl ⟨a, fun s hs => ?_⟩
        by_cases e : s = i
        · rw [e]; exact hb
        · exact b s (by omega)
      · refine Or.inr ⟨x, a, by omega, c, fun s hs hs2 => ?_⟩
        by_cases e : s = i
        · rw [e, hb] at hs2; cases hs2
        · exact d s (by omega) hs2
    | true =>
      simp only [cond_true]
      rcases hI with ⟨a, b⟩ | ⟨x, a, b, c, d⟩
      · rw [if_pos a]
        refine ih (i + 1) q (nI i) (by omega) (by omega) (Or.inr ⟨i, rfl, by omega, hb, fun s hs hs2 => ?_⟩)
        by_cases e : s = i
        · rw [e]; exact Nat.le_refl _
        · rw [b s (by omega)] at hs2; cases hs2
      · have rx := hR.2.2.1 x (by omega)
        rw [a, if_neg (m9 (by omega)), show f6_of (nI x) 0 t = some (nI (F 0 x)) from m_of hR hm (w := 0) (by omega) (by omega), bd_e]
        by_cases g : F 0 i < F 0 x
        · rw [if_pos (by rw [c_lt (by omega) (by omega)]; exact g)]
          refine ih (i + 1) q (nI i) (by omega) (by omega) (Or.inr ⟨i, rfl, by omega, hb, fun s hs hs2 => ?_⟩)
          by_cases e : s = i
          · rw [e]; exact Nat.le_refl _
          · have := d s (by omega) hs2; omega
        · rw [if_neg (by rw [c_lt (by omega) (by omega)]; exact g)]
          refine ih (i + 1) q (nI x) (by omega) (by omega) (Or.inr ⟨x, rfl, by omega, c, fun s hs hs2 => ?_⟩)
          by_cases e : s = i
          · rw [e]; omega
          · exact d s (by omega) hs2
theorem rm_tb {left nx s : Nat} (hl : left < 4096) : (left &&& (2 ^ nx ^^^ 4095)).testBit s = (left.testBit s && decide (s ≠ nx)) := by
  have k2 : ∀ i, i < 12 → (4095 : Nat).testBit i = true := by decide
  by_cases h : s < 12
  · rw [Nat.testBit_and, Nat.testBit_xor, Nat.testBit_two_pow, k2 s h, Bool.xor_true]
    congr 1
    by_cases e : nx = s
    · rw [decide_eq_true e, decide_eq_false (show ¬ s ≠ nx by omega)]; rfl
    · rw [decide_eq_false e, decide_eq_true (show s ≠ nx by omega)]; rfl
  · rw [Nat.testBit_and, tb_out (n := 12) hl (by omega)]; rfl
theorem rm_lt {left nx : Nat} (hl : left < 4096) (hb : left.testBit nx = true) : left &&& (2 ^ nx ^^^ 4095) < left := by
  refine Nat.lt_of_le_of_ne Nat.and_le_left (fun e => ?_)
  have := rm_tb (nx := nx) (s := nx) hl
  rw [e, hb] at this
  simp at this
theorem m_rubL (hR : TR n np F Pw) (hU : UR U) (hO : OR n F od un) {s p r bk g : Nat} (hs : s < 4096) (hp : p < np) (hr : r < 1000) (hbk : bk < 1000) {Inv : Nat → Nat → Nat → Prop} (i1 : ∀ left L all, Inv left L all → left < 2 ^ n ∧ pl n L) (i2 : ∀ left L all nx, Inv left L all → nx < n → left.testBit nx = true → (∀ s, s < n → left.testBit s = true → F 0 nx ≤ F 0 s) → Inv (left &&& (2 ^ nx ^^^ 4095)) nx (all * Wu n (EM (hF F) (may F Pw U s p r bk)) L nx)) : ∀ (m left L all fuel : Nat) (t : SS), left < m → left < fuel → MW t n np F Pw U s p r bk → Inv left L all → ∃ L' all' t', L6_rubbed_50 (nI g) fuel (nI left) (nI L) (lN all) t = some (nI L', lN all', t') ∧ GS t t' ∧ Inv 0 L' all' := by
  have r0 := hR.1
  have p12 := pow12 r0
  intro m
  induction m with
  | zero => intro left L all fuel t h; omega
  | succ m ih =>
    intro left L all fuel t h1 h2 hw hI
    obtain ⟨q, rfl⟩ : ∃ q, fuel = q + 1 := ⟨fuel - 1, by omega⟩
    obtain ⟨hl, hL⟩ := i1 _ _ _ hI
    rw [L6_rubbed_50]
    by_cases e : left = 0
    · subst e
      rw [if_pos (show nI 0 = 0 from rfl)]
      exact ⟨L, all, t, rfl, GS.rf, hI⟩
    · rw [if_neg (by rw [l0, c_eq (by omega) (by omega)]; exact e)]
      obtain ⟨v, v1, v2⟩ := m_minL hR hw.1 (left := left) (by omega) (nI g) (nI L) (lN all) n 0 FU (-9) (by omega) (by unfold FU; omega) (Or.inl ⟨rfl, fun s hs => by omega⟩)
      have v1 : L6_rubbed_62 (nI g) (nI left) (nI L) (lN all) t FU (-9) 0 = some v := v1
      rcases v2 with ⟨-, b⟩ | ⟨x, rfl, x1, x2, x3⟩
      · exfalso
        apply e
        apply Nat.eq_of_testBit_eq
        intro i
        rw [Nat.zero_testBit]
        by_cases hi : i < n
        · exact b i hi
        · exact tb_out hl (by omega)
      · obtain ⟨t1, c1, c2, c3⟩ := m_countUps hR hU hO hs hp hr hbk hL hw
        have hin : inb (nI x) 13 := by rw [c_inb (by omega)]; omega
        rw [v1, bk1_e, c1, bd_e, gd_t hin, c_tn (by omega), c3 x x1, lN_mul, sh1 x (by omega), nI_andnot (by omega), lt_e, lt_e]
        have lt1 := rm_lt (left := left) (nx := x) (by omega) x2
        obtain ⟨L', all', t', k1, k2, k3⟩ := ih (left &&& (2 ^ x ^^^ 4095)) x (all * Wu n (EM (hF F) (may F Pw U s p r bk)) L x) q t1 (by omega) (by omega) (hw.gs c2) (i2 _ _ _ _ hI x1 x2 x3)
        exact ⟨L', all', t', k1, c2.tr k2, k3⟩
end S
section T
variable {n : Nat} {M : Nat → Nat → Bool} {h : Nat → Nat} {set g : Nat}
def InvA (n : Nat) (h : Nat → Nat) (M : Nat → Nat → Bool) (set g left L all : Nat) : Prop := left < 2 ^ n ∧ pl n L ∧ (∀ s, s < n → left.testBit s = true → s ≠ L ∧ h L ≤ h s ∧ (set.testBit s = true ∨ s = g)) ∧ ((left = 0 ∧ L = g ∧ all = Wu n (EC n h M set) 12 g) ∨ (left.testBit g = true ∧ ((all = Wu n (EC n h M set) 12 L ∧ (L = 12 ∨ (L < n ∧ set.testBit L = true)) ∧ (∀ s, s < n → left.testBit s = true → h L < h s) ∧ ∀ s, s < n → set.testBit s = true → left.testBit s = true ∨ s = L ∨ h s < h L) ∨ (Wu n (EC n h M set) 12 g = 0 ∧ (all = 0 ∨ ∃ s, s < n ∧ left.testBit s = true ∧ h s = h L)))))
theorem InvA_step (hn : n ≤ 12) (hh : ∀ a, pl n a → h a ≤ 99) (h12 : h 12 = 0) (h1 : ∀ a, a < n → 1 ≤ h a) (hg : g < n) (hns : ∀ s, s < n → set.testBit s = true → s ≠ g → h s < h g) {left L all nx : Nat} (hI : InvA n h M set g left L all) (hx : nx < n) (hb : left.testBit nx = true) (hmin : ∀ s, s < n → left.testBit s = true → h nx ≤ h s) : InvA n h M set g (left &&& (2 ^ nx ^^^ 4095)) nx (all * Wu n (EM h M) L nx) := by
  obtain ⟨a1, a2, a3, a4⟩ := hI
  have p12 := pow12 hn
  have tb := fun s => rm_tb (left := left) (nx := nx) (s := s) (by omega)
  have lo := rm_lt (left := left) (nx := nx) (by omega) hb
  have up : ∀ {s}, (left &&& (2 ^ nx ^^^ 4095)).testBit s = true → left.testBit s = true ∧ s ≠ nx := by
    intro s hs
    rw [tb, Bool.and_eq_true, decide_eq_true_eq] at hs
    exact hs
  have dn : ∀ {s}, left.testBit s = true → s ≠ nx → (left &&& (2 ^ nx ^^^ 4095)).testBit s = true := by
    intro s h1 h2
    rw [tb, h1, decide_eq_true h2]; rfl
  have bx := a3 nx hx hb
  have lowW : h nx ≤ h L → Wu n (EM h M) L nx = 0 := fun l => W_low (h := h) (fun _ _ => EM_h) hh (h nx + 1) nx (by omega) (Or.inl hx) bx.1 l
  refine ⟨by omega, Or.inl hx, fun s hs h2 => ?_, ?_⟩
  · obtain ⟨u1, u2⟩ := up h2
    exact ⟨u2, hmin s hs u1, (a3 s hs u1).2.2⟩
  · rcases a4 with ⟨b1, -, -⟩ | ⟨b1, b2⟩
    · rw [b1, Nat.zero_testBit] at hb; cases hb
    · by_cases e : nx = g
      · refine Or.inl ⟨?_, e, ?_⟩
        · apply Nat.eq_of_testBit_eq
          intro i
          rw [Nat.zero_testBit]
          cases z : (left &&& (2 ^ nx ^^^ 4095)).testBit i with
          | false => rfl
          | true =>
            exfalso
            obtain ⟨u1, u2⟩ := up z
            have hi : i < n := by
              by_cases hi : i < n
              · exact hi
              · rw [tb_out a1 (by omega)] at u1; cases u1
            have k1 := hmin i hi u1
            rcases (a3 i hi u1).2.2 with k2 | k2
            · have := hns i hi k2 (by omega); rw [e] at k1; omega
            · omega
        · subst e
          rcases b2 with ⟨c1, c2, c3, c4⟩ | ⟨c1, c2⟩
          · rw [c1]
            refine (W_last hh h12 h1 c2 (h nx + 1) nx (by omega) hx (c3 nx hx hb) (fun s k1 k2 k3 k4 k5 => ?_)).symm
            rcases c4 s k1 k2 with k6 | k6 | k6
            · have := hmin s k1 k6
              have := hns s k1 k2 k4
              omega
            · exact k3 k6
            · omega
          · rw [c1]
            rcases c2 with c2 | ⟨s, k1, k2, k3⟩
            · rw [c2]; omega
            · have := hmin s k1 k2
              rw [lowW (by omega)]; omega
      · refine Or.inr ⟨dn b1 (fun q => e q.symm), ?_⟩
        have sx : set.testBit nx = true := by
          rcases bx.2.2 with q | q
          · exact q
          · exact absurd q e
        have hxg := hns nx hx sx e
        rcases b2 with ⟨c1, c2, c3, c4⟩ | ⟨c1, c2⟩
        · by_cases tie : ∃ s, s < n ∧ (left &&& (2 ^ nx ^^^ 4095)).testBit s = true ∧ h s = h nx
          · obtain ⟨s, k1, k2, k3⟩ := tie
            obtain ⟨u1, u2⟩ := up k2
            have ss : set.testBit s = true := by
              rcases (a3 s k1 u1).2.2 with q | q
              · exact q
              · rw [q] at k3; omega
            exact Or.inr ⟨W_dead hh h12 h1 hx k1 sx ss (fun q => u2 q.symm) k3.symm (h g + 1) g (by omega) hg (by omega), Or.inr ⟨s, k1, k2, k3⟩⟩
          · refine Or.inl ⟨?_, Or.inr ⟨hx, sx⟩, fun s k1 k2 => ?_, fun s k1 k2 => ?_⟩
            · rw [c1]
              refine (W_last hh h12 h1 c2 (h nx + 1) nx (by omega) hx (c3 nx hx hb) (fun s k1 k2 k3 k4 k5 => ?_)).symm
              rcases c4 s k1 k2 with k6 | k6 | k6
              · have := hmin s k1 k6
                exact tie ⟨s, k1, dn k6 k4, by omega⟩
              · exact k3 k6
              · omega
            · obtain ⟨u1, u2⟩ := up k2
              have := hmin s k1 u1
              by_cases q : h s = h nx
              · exact absurd ⟨s, k1, k2, q⟩ tie
              · omega
            · have cx := c3 nx hx hb
              rcases c4 s k1 k2 with k6 | k6 | k6
              · by_cases q : s = nx
                · exact Or.inr (Or.inl q)
                · exact Or.inl (dn k6 q)
              · exact Or.inr (Or.inr (by rw [k6]; exact cx))
              · exact Or.inr (Or.inr (by omega))
        · refine Or.inr ⟨c1, Or.inl ?_⟩
          rcases c2 with c2 | ⟨s, k1, k2, k3⟩
          · rw [c2]; omega
          · have := hmin s k1 k2
            rw [lowW (by omega)]; omega
def InvB (n : Nat) (h : Nat → Nat) (g ss left L all : Nat) : Prop := left < 2 ^ n ∧ pl n L ∧ (∀ s, s < n → left.testBit s = true → s ≠ L ∧ h L ≤ h s) ∧ ((left.testBit g = true ∧ left.testBit ss = true) ∨ (left.testBit g = false ∧ (left.testBit ss = true ∨ L ≠ g)) ∨ (all = 0 ∨ ∃ s, s < n ∧ left.testBit s = true ∧ h s = h L))
theorem InvB_step (hn : n ≤ 12) (hh : ∀ a, pl n a → h a ≤ 99) {ss : Nat} (hg : g < n) (hs : ss < n) (hsg : ss ≠ g) (hl : h g ≤ h ss) {left L all nx : Nat} (hI : InvB n h g ss left L all) (hx : nx < n) (hb : left.testBit nx = true) (hmin : ∀ s, s < n → left.testBit s = true → h nx ≤ h s) : InvB n h g ss (left &&& (2 ^ nx ^^^ 4095)) nx (all * Wu n (EM h M) L nx) := by
  obtain ⟨a1, a2, a3, a4⟩ := hI
  have p12 := pow12 hn
  have tb := fun s => rm_tb (left := left) (nx := nx) (s := s) (by omega)
  have lo := rm_lt (left := left) (nx := nx) (by omega) hb
  have up : ∀ {s}, (left &&& (2 ^ nx ^^^ 4095)).testBit s = true → left.testBit s = true ∧ s ≠ nx := by
    intro s hs
    rw [tb, Bool.and_eq_true, decide_eq_true_eq] at hs
    exact hs
  have dn : ∀ {s}, left.testBit s = true → s ≠ nx → (left &&& (2 ^ nx ^^^ 4095)).testBit s = true := by
    intro s h1 h2
    rw [tb, h1, decide_eq_true h2]; rfl
  have bx := a3 nx hx hb
  have lowW : h nx ≤ h L → Wu n (EM h M) L nx = 0 := fun l => W_low (h := h) (fun _ _ => EM_h) hh (h nx + 1) nx (by omega) (Or.inl hx) bx.1 l
  refine ⟨by omega, Or.inl hx, fun s k1 h2 => ?_, ?_⟩
  · obtain ⟨u1, u2⟩ := up h2
    exact ⟨u2, hmin s k1 u1⟩
  · rcases a4 with ⟨b1, b2⟩ | ⟨b1, b2⟩ | b
    · by_cases e : nx = g
      · refine Or.inr (Or.inl ⟨?_, Or.inl (dn b2 (by omega))⟩)
        rw [tb, decide_eq_false (by omega), Bool.and_false]
      · by_cases e2 : nx = ss
        · have := hmin g hg b1
          exact Or.inr (Or.inr (Or.inr ⟨g, hg, dn b1 (fun q => e q.symm), by rw [e2] at this ⊢; omega⟩))
        · exact Or.inl ⟨dn b1 (fun q => e q.symm), dn b2 (fun q => e2 q.symm)⟩
    · refine Or.inr (Or.inl ⟨by rw [tb, b1]; rfl, Or.inr (fun q => ?_)⟩)
      rw [q, b1] at hb; cases hb
    · refine Or.inr (Or.inr (Or.inl ?_))
      rcases b with c2 | ⟨s, k1, k2, k3⟩
      · rw [c2]; omega
      · have := hmin s k1 k2
        rw [lowW (by omega)]; omega
end T
section OPS
variable {σ τ : SS}
theorem r_rubbed (h : RR σ τ) (a b c : Int32) : BJ (f5_rubbed a b c σ) (f6_rubbed a b c τ) := by
  have h' := h
  obtain ⟨⟨n, np, F, Pw, U, od, un, ci, kp, h1, h2⟩, -, -, -, hf⟩ := h
  obtain ⟨hR, hx, hm, hU, hux, hum, hO, hxo⟩ := h1
  obtain ⟨c1, c2, c3⟩ := h2.2.2 0 (Or.inl rfl)
  have r0 := hR.1
  have r1 := hR.2.1
  have p12 := pow12 r0
  obtain ⟨s, hs⟩ : ∃ s, s = (ci 0).2.2.2.2.2.2.2 := ⟨_, rfl⟩
  have hs4 : s < 4096 := by rw [hs]; exact Nat.lt_of_lt_of_le c1.2.2.2 p12
  have hsx : σ.1 17 7 = nI s := by rw [hs]; exact c2.2.2.2.2.2.2.2
  have hsm : τ.1 7 0 = nI s := by rw [hs]; exact c3.2.2.2.2.2.2.2
  have bad : ∀ v : Int64, BJ (some (v, σ)) (some (v, τ)) := fun v => ⟨v, σ, τ, rfl, rfl, h'⟩
  unfold f5_rubbed f6_rubbed
  rw [x_isBody' hR hx, m_isBody hR hm]
  simp only [bd_e, ib0]
  rcases ok_cases a (n := np) (by omega) with e | ⟨p, hp, rfl, e⟩
  · rw [e]; exact bad _
  · rw [e]
    simp only [cond_true]
    rw [x_isBranch' hR hx, m_isBranch hR hm]
    simp only [bd_e, ib0]
    rcases ok_cases b (n := n) (by omega) with e1 | ⟨g, hg, rfl, e1⟩
    · rw [e1]; exact bad _
    · rw [e1]
      simp only [cond_true]
      have p0 := hR.2.2.2 p hp
      have u5 := hU.2.2.2.2.2.2.2
      obtain ⟨st, hst⟩ : ∃ st, st = c.toBitVec.toNat % 2 ^ n := ⟨_, rfl⟩
      have st1 : st < 2 ^ n := by rw [hst]; exact Nat.mod_lt _ (Nat.two_pow_pos n)
      obtain ⟨s1, a1, a2, a3⟩ := x_look hR hx hU hux hf hs4 hsx hp (mo := 0) (by omega) (bk := U 5) (by omega)
      rw [show Pw 0 p + 0 = Pw 0 p by omega] at a3
      obtain ⟨q5, q1, q2, q3⟩ := m_lookW hR hm hum hsm hp
      obtain ⟨s2, b1, b2⟩ := x_ascents hR hx hO hxo (set := st) (g := g) (by omega) hg a2 a3
      have hall : f4_all (s1.2.2 0) s1 = some (nI (2 ^ n - 1)) := by
        unfold f4_all
        rw [(a2.xt hx).1, all_mask r0]
      have hh : ∀ a, pl n a → hF F a ≤ 99 := fun a ha => hF_le hR ha
      have h12 : hF F 12 = 0 := by unfold hF; rw [if_pos rfl]
      have hFn : ∀ a, a < n → hF F a = F 0 a := fun a ha => by unfold hF; rw [if_neg (by omega)]
      have hp1 : ∀ a, a < n → 1 ≤ hF F a := fun a ha => by rw [hFn a ha]; exact (hR.2.2.1 a ha).1
      have lg : 2 ^ g < 2 ^ n := Nat.pow_lt_pow_right (by omega) hg
      have l1 : st ||| 2 ^ g < 2 ^ n := Nat.or_lt_two_pow st1 lg
      have ltb : ∀ s, (st ||| 2 ^ g).testBit s = (st.testBit s || decide (g = s)) := fun s => by rw [Nat.testBit_or, Nat.testBit_two_pow]
      have key : ∃ L' all' t', L6_rubbed_50 (nI g) FU (nI (st ||| 2 ^ g)) 12 1 q5 = some (nI L', lN all', t') ∧ GS q5 t' ∧ pl n L' ∧ (if L' = g then all' else 0) = (if skT n F st g 12 = true then 0 else Wu n (EC n (hF F) (may F Pw U s p (Pw 0 p) (U 5)) st) 12 g) := by
        cases hsk : skT n F st g 12 with
        | false =>
          have hns : ∀ s, s < n → st.testBit s = true → s ≠ g → hF F s < hF F g := by
            intro s k1 k2 k3
            apply Classical.byContradiction
            intro k4
            have : skT n F st g 12 = true := by
              unfold skT
              rw [anyb_iff]
              have rs := hR.2.2.1 s k1
              refine ⟨s, k1, ?_⟩
              simp only [Bool.and_eq_true, decide_eq_true_eq]
              refine ⟨⟨⟨⟨k2, k3⟩, by omega⟩, by rw [← hFn s k1]; omega⟩, ?_⟩
              unfold hTop
              rw [if_pos rfl]; omega
            rw [hsk] at this; cases this
          obtain ⟨L', all', t', k1, k2, k3⟩ := m_rubL hR hU hO (g := g) (s := s) (r := Pw 0 p) (bk := U 5) hs4 hp (by omega) (by omega) (Inv := InvA n (hF F) (may F Pw U s p (Pw 0 p) (U 5)) st g) (fun _ _ _ q => ⟨q.1, q.2.1⟩) (fun left L all nx hI hx hb hmin => InvA_step r0 hh h12 hp1 hg hns hI hx hb (fun s k1 k2 => by rw [hFn nx hx, hFn s k1]; exact hmin s k1 k2)) (2 ^ n) (st ||| 2 ^ g) 12 1 FU q5 l1 (by unfold FU; omega) q3 ⟨l1, Or.inr rfl, fun s k1 k2 => by
              rw [ltb, Bool.or_eq_true, decide_eq_true_eq] at k2
              exact ⟨by omega, by rw [h12]; omega, k2.elim Or.inl (fun q => Or.inr q.symm)⟩, Or.inr ⟨by rw [ltb, decide_eq_true rfl, Bool.or_true], Or.inl ⟨W_ff.symm, Or.inl rfl, fun s k1 _ => by rw [h12]; have := hp1 s k1; omega, fun s _ k2 => Or.inl (by rw [ltb, k2]; rfl)⟩⟩⟩
          refine ⟨L', all', t', k1, k2, k3.2.1, ?_⟩
          rcases k3.2.2.2 with ⟨-, d1, d2⟩ | ⟨d1, -⟩
          · rw [if_pos d1, d2]; rfl
          · rw [Nat.zero_testBit] at d1; cases d1
        | true =>
          unfold skT at hsk
          rw [anyb_iff] at hsk
          obtain ⟨ss, y1, y2⟩ := hsk
          simp only [Bool.and_eq_true, decide_eq_true_eq] at y2
          obtain ⟨⟨⟨⟨y2, y3⟩, -⟩, y4⟩, -⟩ := y2
          obtain ⟨L', all', t', k1, k2, k3⟩ := m_rubL hR hU hO (g := g) (s := s) (r := Pw 0 p) (bk := U 5) hs4 hp (by omega) (by omega) (Inv := InvB n (hF F) g ss) (fun _ _ _ q => ⟨q.1, q.2.1⟩) (fun left L all nx hI hx hb hmin => InvB_step (M := may F Pw U s p (Pw 0 p) (U 5)) r0 hh hg y1 y3 (by rw [hFn ss y1]; exact y4) hI hx hb (fun s k1 k2 => by rw [hFn nx hx, hFn s k1]; exact hmin s k1 k2)) (2 ^ n) (st ||| 2 ^ g) 12 1 FU q5 l1 (by unfold FU; omega) q3 ⟨l1, Or.inr rfl, fun s k1 k2 => ⟨by omega, by rw [h12]; omega⟩, Or.inl ⟨by rw [ltb, decide_eq_true rfl, Bool.or_true], by rw [ltb, y2]; rfl⟩⟩
          refine ⟨L', all', t', k1, k2, k3.2.1, ?_⟩
          rw [if_pos rfl]
          rcases k3.2.2.2 with ⟨d1, -⟩ | ⟨-, d1⟩ | d1
          · rw [Nat.zero_testBit] at d1; cases d1
          · rcases d1 with d1 | d1
            · rw [Nat.zero_testBit] at d1; cases d1
            · rw [if_neg d1]
          · rcases d1 with d1 | ⟨s, -, d1, -⟩
            · rw [d1]; split <;> rfl
            · rw [Nat.zero_testBit] at d1; cases d1
      obtain ⟨L', all', t', k1, k2, k3, k4⟩ := key
      have L12 : L' ≤ 12 := by rcases k3 with q | q <;> omega
      rw [show f5_tuned 5 σ = some (nI (U 5)) from x_tuned hux (i := 5) (by omega), q1]
      simp only [bd_e, gd_t (iz 2 (by omega)), tz0]
      rw [show f5_look (nI p) 0 (nI (U 5)) σ = some s1 from a1, bd_e, hall, bd_e, and_all r0, ← hst, b1, bk2_e, q3.1.1, all_mask r0, and_all r0, ← hst, lt_e, nI_or1 (by omega), k1, bk3_e]
      have fin : RR s2 t' := h'.scr b2 (q2.tr k2.ms)
      rw [← k4]
      by_cases e9 : L' = g
      · rw [if_pos e9, if_pos (by rw [e9])]
        exact ⟨_, s2, t', rfl, rfl, fin⟩
      · rw [if_neg e9, if_neg (by rw [c_eq (by omega) (by omega)]; exact e9)]
        exact ⟨_, s2, t', rfl, rfl, fin⟩
end OPS
