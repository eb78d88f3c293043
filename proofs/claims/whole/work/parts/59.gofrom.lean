/-! the reference: goFrom -/
def GS (τ t : SS) : Prop := t.2.1 0 0 = τ.2.1 0 0 ∧ ∀ k j, k ≠ 9 → t.1 k j = τ.1 k j
def WM (t : SS) (g : Nat → Nat → Nat) (k : Nat) : Prop := ∀ b, b < 13 → t.2.1 10 b = lN (g k b) ∧ t.2.1 8 b = lN (OD (fun k => g k b) k) ∧ t.1 9 b = nI (SP (fun k => g k b) k)
section S
variable {τ t : SS} {n np : Nat} {F Pw : Nat → Nat → Nat} {U : Nat → Nat}
theorem GS.rf : GS τ τ := ⟨rfl, fun _ _ _ => rfl⟩
theorem GS.tr {a b c : SS} (h : GS a b) (g : GS b c) : GS a c := ⟨g.1.trans h.1, fun k j h1 => (g.2 k j h1).trans (h.2 k j h1)⟩
theorem GS.ms (h : GS τ t) : MS τ t := ⟨h.1, fun k j h1 _ => h.2 k j h1⟩
theorem GS.i (h : GS τ t) {j : Nat} {v : Int32} : GS τ (sI t 9 j v) := ⟨h.1, fun k j' hk => by rw [sI_o (by omega)]; exact h.2 k j' hk⟩
theorem GS.l (h : GS τ t) {k j : Nat} {v : Int64} (hk : k ≠ 0) : GS τ (sL t k j v) := ⟨by rw [sL_o (by omega)]; exact h.1, h.2⟩
theorem MS.mt (q : MS τ t) (h : MT τ n np F Pw) : MT t n np F Pw := ⟨by rw [q.2 _ _ (by omega) (by omega)]; exact h.1, by rw [q.2 _ _ (by omega) (by omega)]; exact h.2.1, fun w k hw hk => by rw [q.2 _ _ (by omega) (by omega)]; exact h.2.2.1 w k hw hk, fun w k hw hk => by rw [q.2 _ _ (by omega) (by omega)]; exact h.2.2.2 w k hw hk⟩
theorem MS.mu (q : MS τ t) (h : MU τ U) : MU t U := fun i hi => by rw [q.2 _ _ (by omega) (by omega)]; exact h i hi
theorem GS.lk {r wt gr bk : Nat} (q : GS τ t) (h : MLk τ r wt gr bk) : MLk t r wt gr bk := ⟨by rw [q.2 _ _ (by omega)]; exact h.1, by rw [q.2 _ _ (by omega)]; exact h.2.1, by rw [q.2 _ _ (by omega)]; exact h.2.2.1, by rw [q.2 _ _ (by omega)]; exact h.2.2.2⟩
theorem m_goI {g : Nat → Nat → Nat} {st : Nat} (hst : st < 13) (hg : ∀ j, j < 13 → g 0 j = if j = st then WH else 0) : ∀ (d i fuel : Nat) (s : SS), i + d = 13 → d < fuel → GS τ s → (∀ j, j < i → s.2.1 10 j = lN (g 0 j) ∧ s.2.1 8 j = lN (g 0 j) ∧ s.1 9 j = 0) → ∃ s', L6_goFrom_2 (nI st) fuel (nI i) s = some s' ∧ GS τ s' ∧ WM s' g 0 := by
  intro d
  induction d with
  | zero =>
    intro i fuel s h1 h2 hq hz
    obtain ⟨f, rfl⟩ : ∃ q, fuel = q + 1 := ⟨fuel - 1, by omega⟩
    refine ⟨s, ?_, hq, fun j hj => hz j (by omega)⟩
    rw [L6_goFrom_2, if_neg (by rw [l13, c_lt (by omega) (by omega)]; omega)]
  | succ d ih =>
    intro i fuel s h1 h2 hq hz
    obtain ⟨f, rfl⟩ : ∃ q, fuel = q + 1 := ⟨fuel - 1, by omega⟩
    have hin : inb (nI i) 13 := by rw [c_inb (by omega)]; omega
    rw [L6_goFrom_2, if_pos (by rw [l13, c_lt (by omega) (by omega)]; omega)]
    have ex : (if nI i = nI st then (1000000000000 : Int64) else 0) = lN (g 0 i) := by
      rw [hg i (by omega)]
      by_cases q : i = st
      · rw [if_pos (by rw [q]), if_pos q, lNWH]
      · rw [if_neg (by rw [c_eq (by omega) (by omega)]; exact q), if_neg q]; rfl
    rw [lt_if, ex]
    simp only [gd_t hin, lt_e, c_tn (show i < 2147483648 by omega), nI_1]
    refine ih (i + 1) f _ (by omega) (by omega) (((hq.l (by omega)).l (by omega)).i) (fun j hj => ?_)
    show (sL (sL s 10 i (lN (g 0 i))) 8 i ((sL s 10 i (lN (g 0 i))).2.1 10 i)).2.1 10 j = _ ∧ (sL (sL s 10 i (lN (g 0 i))) 8 i ((sL s 10 i (lN (g 0 i))).2.1 10 i)).2.1 8 j = _ ∧ _
    by_cases q : j = i
    · subst q
      exact ⟨by rw [sL_o (by omega), sL_s], by rw [sL_s, sL_s], sI_s⟩
    · have z := hz j (by omega)
      exact ⟨by rw [sL_o (by omega), sL_o (by omega)]; exact z.1, by rw [sL_o (by omega), sL_o (by omega)]; exact z.2.1, by rw [sI_o (by omega)]; exact z.2.2⟩
theorem m_isThere (hR : TR n np F Pw) (h : MT τ n np F Pw) {b : Nat} (hb : b < 13) : f6_isThere (nI b) τ = some (bI (decide (b < n ∨ b = 12))) := by
  have := hR.1
  unfold f6_isThere
  by_cases g : b = 12
  · rw [if_pos (by rw [g]; rfl), decide_eq_true (Or.inr g)]; rfl
  · rw [if_neg (by rw [l12, c_eq (by omega) (by omega)]; exact g), gd_t (iz 2 (by omega)), tz0, h.1]
    by_cases g2 : b < n
    · rw [if_pos (by rw [c_lt (by omega) (by omega)]; exact g2), decide_eq_true (Or.inl g2)]; rfl
    · rw [if_neg (by rw [c_lt (by omega) (by omega)]; exact g2), decide_eq_false (by omega)]; rfl
theorem lmax2 {a b : Nat} (ha : a < 2 ^ 62) (hb : b < 2 ^ 62) {inst : Decidable (lN b ≤ lN a)} : (if lN b ≤ lN a then lN a else lN b) = lN (max a b) := by
  have e := l_le (a := b) (b := a) (by omega) (by omega)
  by_cases g : b ≤ a
  · rw [if_pos (e ▸ g), Nat.max_eq_left (by omega)]
  · rw [if_neg (e ▸ g), Nat.max_eq_right (by omega)]
def ff (n : Nat) (M : Nat → Nat → Bool) (H : Nat → Nat) (st k b : Nat) (a : Nat) : Nat := if 0 < G n M H st k a ∧ M a b = true then G n M H st k a / 10 * H b else 0
theorem ff_le {M : Nat → Nat → Bool} {H : Nat → Nat} {st : Nat} (hH : ∀ b, pl n b → H b ≤ 10) (k b a : Nat) (hb : pl n b) : ff n M H st k b a ≤ WH := by
  unfold ff
  split
  · have h1 := G_le (n := n) (M := M) (st := st) hH k a
    have h2 : G n M H st k a / 10 * H b ≤ G n M H st k a / 10 * 10 := Nat.mul_le_mul_left _ (hH b hb)
    omega
  · exact Nat.zero_le _
theorem m_goA (hR : TR n np F Pw) (hm : MT τ n np F Pw) (hU : UR U) (hu : MU τ U) {s p r bk st : Nat} (hs : s < 4096) (hsw : τ.1 7 0 = nI s) (hp : p < np) (hr : r < 1000) (hbk : bk < 1000) (hl : MLk τ r (Pw 1 p) (Pw 2 p) bk) (hst : pl n st) (hH : ∀ b, pl n b → hol F Pw U p b ≤ 10) {k b : Nat} (hb : pl n b) (c2 : Int32) : ∀ (d a fuel : Nat) (t : SS), a + d = 13 → d < fuel → GS τ t → (∀ j, j < 13 → t.2.1 10 j = lN (G n (may F Pw U s p r bk) (hol F Pw U p) st k j)) → t.2.1 11 b = lN (mx (ff n (may F Pw U s p r bk) (hol F Pw U p) st k b) a) → ∃ t', L6_goFrom_77 c2 (nI b) fuel (nI a) t = some t' ∧ GS τ t' ∧ t'.2.1 11 b = lN (mx (ff n (may F Pw U s p r bk) (hol F Pw U p) st k b) 13) ∧ (∀ k j, (k ≠ 11 ∨ j ≠ b) → t'.2.1 k j = t.2.1 k j) ∧ t'.1 = t.1 := by
  have r0 := hR.1
  have wh : WH * 10 < 2 ^ 62 := by decide
  have hb12 : b < 13 := by rcases hb with h | h <;> omega
  intro d
  induction d with
  | zero =>
    intro a fuel t h1 h2 hq hG hz
    obtain ⟨f, rfl⟩ : ∃ q, fuel = q + 1 := ⟨fuel - 1, by omega⟩
    refine ⟨t, ?_, hq, by rw [show 13 = a by omega]; exact hz, fun _ _ _ => rfl, rfl⟩
    rw [L6_goFrom_77, if_neg (by rw [l13, c_lt (by omega) (by omega)]; omega)]
  | succ d ih =>
    intro a fuel t h1 h2 hq hG hz
    obtain ⟨f, rfl⟩ : ∃ q, fuel = q + 1 := ⟨fuel - 1, by omega⟩
    have hin : inb (nI a) 13 := by rw [c_inb (by omega)]; omega
    have hinb : inb (nI b) 13 := by rw [c_inb (by omega)]; omega
    have hm' := hq.ms.mt hm
    have hu' := hq.ms.mu hu
    have hl' := hq.lk hl
    have hsw' : t.1 7 0 = nI s := by rw [hq.2 _ _ (by omega)]; exact hsw
    have gle := G_le (n := n) (M := may F Pw U s p r bk) (st := st) hH k a
    have mle : mx (ff n (may F Pw U s p r bk) (hol F Pw U p) st k b) a ≤ WH := mx_le _ (fun j _ => ff_le hH k b j hb)
    have e1 : mx (ff n (may F Pw U s p r bk) (hol F Pw U p) st k b) (a + 1) = max (mx (ff n (may F Pw U s p r bk) (hol F Pw U p) st k b) a) (ff n (may F Pw U s p r bk) (hol F Pw U p) st k b a) := rfl
    have hth : decide (b < n ∨ b = 12) = true := decide_eq_true hb
    rw [L6_goFrom_77, if_pos (by rw [l13, c_lt (by omega) (by omega)]; omega), m_isThere hR hm' hb12, hth, bd_e, ib0, cond_true, gd_t hin]
    simp only [c_tn (show a < 2147483648 by omega), c_tn (show b < 2147483648 by omega), hG a (by omega), lN0, l_le (show G n (may F Pw U s p r bk) (hol F Pw U p) st k a < 2 ^ 63 by omega) (show 0 < 2 ^ 63 by decide), lt_e, nI_1]
    have skip : ff n (may F Pw U s p r bk) (hol F Pw U p) st k b a = 0 → ∃ t', L6_goFrom_77 c2 (nI b) f (nI (a + 1)) t = some t' ∧ GS τ t' ∧ t'.2.1 11 b = lN (mx (ff n (may F Pw U s p r bk) (hol F Pw U p) st k b) 13) ∧ (∀ k j, (k ≠ 11 ∨ j ≠ b) → t'.2.1 k j = t.2.1 k j) ∧ t'.1 = t.1 := by
      intro z
      exact ih (a + 1) f t (by omega) (by omega) hq hG (by rw [e1, z, Nat.max_eq_left (by omega)]; exact hz)
    by_cases g : G n (may F Pw U s p r bk) (hol F Pw U p) st k a ≤ 0
    · rw [if_pos g]
      exact skip (by unfold ff; rw [if_neg (by omega)])
    · rw [if_neg g]
      have ha := G_pl hst k a (Nat.lt_of_not_le g)
      rw [m_mayStep hR hm' hU hu' hs hsw' hp ha hb hr hbk hl', bd_e, ib0]
      cases hmay : may F Pw U s p r bk a b with
      | false => exact skip (by unfold ff; rw [if_neg (by rw [hmay]; simp)])
      | true =>
        have e2 : ff n (may F Pw U s p r bk) (hol F Pw U p) st k b a = G n (may F Pw U s p r bk) (hol F Pw U p) st k a / 10 * hol F Pw U p b := by unfold ff; rw [if_pos ⟨by omega, hmay⟩]
        have fle := ff_le (n := n) (M := may F Pw U s p r bk) (st := st) hH k b a hb
        have hHb := hH b hb
        simp only [cond_true, gd_t hin, gd_t hinb]
        rw [m_holdsOn hR hm' hU hu' hp hb hl', bd_e, hz, l_i (by omega), lN10, pk_lDiv (by omega) (by omega) (by omega), lN_mul, ← e2]
        have e3 := lmax2 (a := mx (ff n (may F Pw U s p r bk) (hol F Pw U p) st k b) a) (b := ff n (may F Pw U s p r bk) (hol F Pw U p) st k b a) (by omega) (by omega) (inst := inferInstance)
        have e4 : ∀ (J : Int64 → Option SS), (if lN (ff n (may F Pw U s p r bk) (hol F Pw U p) st k b a) ≤ lN (mx (ff n (may F Pw U s p r bk) (hol F Pw U p) st k b) a) then J (lN (mx (ff n (may F Pw U s p r bk) (hol F Pw U p) st k b) a)) else J (lN (ff n (may F Pw U s p r bk) (hol F Pw U p) st k b a))) = J (lN (mx (ff n (may F Pw U s p r bk) (hol F Pw U p) st k b) (a + 1))) := by
          intro J
          rw [e1, ← e3]
          split <;> rfl
        rw [e4 (fun x => L6_goFrom_77 c2 (nI b) f (nI (a + 1)) (sL t 11 b x))]
        obtain ⟨t', k1, k2, k3, k4, k5⟩ := ih (a + 1) f (sL t 11 b (lN (mx (ff n (may F Pw U s p r bk) (hol F Pw U p) st k b) (a + 1)))) (by omega) (by omega) (hq.l (by omega)) (fun j hj => by rw [sL_o (by omega)]; exact hG j hj) sL_s
        exact ⟨t', k1, k2, k3, fun k j hkj => by rw [k4 k j hkj, sL_o hkj], k5⟩
theorem m_goB (hR : TR n np F Pw) (hm : MT τ n np F Pw) (hU : UR U) (hu : MU τ U) {s p r bk st : Nat} (hs : s < 4096) (hsw : τ.1 7 0 = nI s) (hp : p < np) (hr : r < 1000) (hbk : bk < 1000) (hl : MLk τ r (Pw 1 p) (Pw 2 p) bk) (hst : pl n st) (hH : ∀ b, pl n b → hol F Pw U p b ≤ 10) {k : Nat} (c2 : Int32) : ∀ (d b fuel : Nat) (t : SS), b + d = 13 → d < fuel → GS τ t → (∀ j, j < 13 → t.2.1 10 j = lN (G n (may F Pw U s p r bk) (hol F Pw U p) st k j)) → (∀ j, j < b → t.2.1 11 j = lN (G n (may F Pw U s p r bk) (hol F Pw U p) st (k + 1) j)) → ∃ t', L6_goFrom_61 c2 fuel (nI b) t = some t' ∧ GS τ t' ∧ (∀ j, j < 13 → t'.2.1 11 j = lN (G n (may F Pw U s p r bk) (hol F Pw U p) st (k + 1) j)) ∧ (∀ k j, k ≠ 11 → t'.2.1 k j = t.2.1 k j) ∧ t'.1 = t.1 := by
  intro d
  induction d with
  | zero =>
    intro b fuel t h1 h2 hq hG hz
    obtain ⟨f, rfl⟩ : ∃ q, fuel = q + 1 := ⟨fuel - 1, by omega⟩
    refine ⟨t, ?_, hq, fun j hj => hz j (by omega), fun _ _ _ => rfl, rfl⟩
    rw [L6_goFrom_61, if_neg (by rw [l13, c_lt (by omega) (by omega)]; omega)]
  | succ d ih =>
    intro b fuel t h1 h2 hq hG hz
    obtain ⟨f, rfl⟩ : ∃ q, fuel = q + 1 := ⟨fuel - 1, by omega⟩
    have hin : inb (nI b) 13 := by rw [c_inb (by omega)]; omega
    rw [L6_goFrom_61, if_pos (by rw [l13, c_lt (by omega) (by omega)]; omega), gd_t hin, c_tn (by omega), lt_e]
    have inner : ∃ t', L6_goFrom_77 c2 (nI b) FU 0 (sL t 11 b 0) = some t' ∧ GS τ t' ∧ t'.2.1 11 b = lN (G n (may F Pw U s p r bk) (hol F Pw U p) st (k + 1) b) ∧ (∀ k j, (k ≠ 11 ∨ j ≠ b) → t'.2.1 k j = (sL t 11 b 0).2.1 k j) ∧ t'.1 = (sL t 11 b 0).1 := by
      by_cases g : b < n ∨ b = 12
      · obtain ⟨t', k1, k2, k3, k4, k5⟩ := m_goA hR hm hU hu hs hsw hp hr hbk hl hst hH (k := k) (b := b) g c2 13 0 FU (sL t 11 b 0) (by omega) (by unfold FU; omega) (hq.l (by omega)) (fun j hj => by rw [sL_o (by omega)]; exact hG j hj) sL_s
        refine ⟨t', k1, k2, ?_, k4, k5⟩
        rw [k3, G, if_pos g]
        rfl
      · refine ⟨sL t 11 b 0, ?_, hq.l (by omega), ?_, fun _ _ _ => rfl, rfl⟩
        · have e : decide (b < n ∨ b = 12) = false := decide_eq_false g
          have q1 : GS τ (sL t 11 b 0) := hq.l (by omega)
          show L6_goFrom_77 c2 (nI b) (4999 + 1) 0 (sL t 11 b 0) = _
          rw [L6_goFrom_77, if_pos (by decide), m_isThere hR (q1.ms.mt hm) (by omega), e, bd_e, ib0]
          rfl
        · rw [sL_s, G, if_neg g]; rfl
    obtain ⟨t1, k1, k2, k3, k4, k5⟩ := inner
    rw [k1, bk1_e, lt_e, nI_1]
    obtain ⟨t', j1, j2, j3, j4, j5⟩ := ih (b + 1) f t1 (by omega) (by omega) k2 (fun j hj => by rw [k4 _ _ (by omega), sL_o (by omega)]; exact hG j hj) (fun j hj => by
      by_cases e : j = b
      · rw [e]; exact k3
      · rw [k4 _ _ (by omega), sL_o (by omega)]; exact hz j (by omega))
    exact ⟨t', j1, j2, j3, fun k j hk => by rw [j4 k j hk, k4 k j (by omega), sL_o (by omega)], by rw [j5, k5]; rfl⟩
theorem m_goC {g : Nat → Nat → Nat} (hg : ∀ k b, g k b ≤ WH) {k : Nat} : ∀ (d b fuel : Nat) (t : SS), b + d = 13 → d < fuel → GS τ t → (∀ j, j < 13 → t.2.1 11 j = lN (g (k + 1) j)) → (∀ j, j < 13 → (j < b → t.2.1 10 j = lN (g (k + 1) j)) ∧ t.2.1 8 j = lN (OD (fun k => g k j) (if j < b then k + 1 else k)) ∧ t.1 9 j = nI (SP (fun k => g k j) (if j < b then k + 1 else k))) → ∃ t', L6_goFrom_177 (nI (k + 1)) fuel (nI b) t = some t' ∧ GS τ t' ∧ WM t' g (k + 1) := by
  have wh : WH < 2 ^ 62 := by decide
  intro d
  induction d with
  | zero =>
    intro b fuel t h1 h2 hq hG hz
    obtain ⟨f, rfl⟩ : ∃ q, fuel = q + 1 := ⟨fuel - 1, by omega⟩
    refine ⟨t, ?_, hq, fun j hj => ?_⟩
    · rw [L6_goFrom_177, if_neg (by rw [l13, c_lt (by omega) (by omega)]; omega)]
    · have z := hz j hj
      rw [if_pos (by omega)] at z
      exact ⟨z.1 (by omega), z.2⟩
  | succ d ih =>
    intro b fuel t h1 h2 hq hG hz
    obtain ⟨f, rfl⟩ : ∃ q, fuel = q + 1 := ⟨fuel - 1, by omega⟩
    have hin : inb (nI b) 13 := by rw [c_inb (by omega)]; omega
    have zb := hz b (by omega)
    rw [if_neg (by omega)] at zb
    have o1 := OD_le (e := fun k => g k b) (c := WH) (fun k => hg k b) k
    have o2 := hg (k + 1) b
    have e1 : OD (fun k => g k b) (k + 1) = if OD (fun k => g k b) k < g (k + 1) b then g (k + 1) b else OD (fun k => g k b) k := rfl
    have e2 : SP (fun k => g k b) (k + 1) = if OD (fun k => g k b) k < g (k + 1) b then k + 1 else SP (fun k => g k b) k := rfl
    rw [L6_goFrom_177, if_pos (by rw [l13, c_lt (by omega) (by omega)]; omega)]
    simp only [gd_t hin, lt_e, c_tn (show b < 2147483648 by omega), nI_1, hG b (by omega)]
    have v1 : (sL t 10 b (lN (g (k + 1) b))).2.1 10 b = lN (g (k + 1) b) := sL_s
    have v2 : (sL t 10 b (lN (g (k + 1) b))).2.1 8 b = lN (OD (fun k => g k b) k) := by rw [sL_o (by omega)]; exact zb.2.1
    have v3 : ∀ v, (sI (sL t 10 b (lN (g (k + 1) b))) 9 b v).2.1 10 b = lN (g (k + 1) b) := fun _ => sL_s
    have v4 : ∀ v, (sI (sL t 10 b (lN (g (k + 1) b))) 9 b v).2.1 8 b = lN (OD (fun k => g k b) k) := fun _ => v2
    simp only [v1, v2, v3, v4, l_le (show g (k + 1) b < 2 ^ 63 by omega) (show OD (fun k => g k b) k < 2 ^ 63 by omega)]
    have step : ∀ (vo : Nat) (vs : Int32), vo = OD (fun k => g k b) (k + 1) → vs = nI (SP (fun k => g k b) (k + 1)) → ∃ t', L6_goFrom_177 (nI (k + 1)) f (nI (b + 1)) (sL (sI (sL t 10 b (lN (g (k + 1) b))) 9 b vs) 8 b (lN vo)) = some t' ∧ GS τ t' ∧ WM t' g (k + 1) := by
      intro vo vs ho hs
      refine ih (b + 1) f _ (by omega) (by omega) (((hq.l (by omega)).i).l (by omega)) (fun j hj => ?_) (fun j hj => ?_)
      · show (sL (sL t 10 b (lN (g (k + 1) b))) 8 b (lN vo)).2.1 11 j = _
        rw [sL_o (by omega), sL_o (by omega)]; exact hG j hj
      · have z := hz j hj
        show (_ → (sL (sL t 10 b (lN (g (k + 1) b))) 8 b (lN vo)).2.1 10 j = _) ∧ (sL (sL t 10 b (lN (g (k + 1) b))) 8 b (lN vo)).2.1 8 j = _ ∧ (sI t 9 b vs).1 9 j = _
        by_cases q : j = b
        · subst q
          rw [if_pos (by omega)]
          exact ⟨fun _ => by rw [sL_o (by omega), sL_s], by rw [sL_s, ho], by rw [sI_s, hs]⟩
        · refine ⟨fun hj2 => by rw [sL_o (by omega), sL_o (by omega)]; exact z.1 (by omega), ?_, ?_⟩
          · rw [sL_o (by omega), sL_o (by omega), z.2.1]
            by_cases l : j < b
            · rw [if_pos l, if_pos (by omega)]
            · rw [if_neg l, if_neg (by omega)]
          · rw [sI_o (by omega), z.2.2]
            by_cases l : j < b
            · rw [if_pos l, if_pos (by omega)]
            · rw [if_neg l, if_neg (by omega)]
    by_cases l : g (k + 1) b ≤ OD (fun k => g k b) k
    · simp only [if_pos l]
      rw [if_neg (by omega)] at e1 e2
      exact step _ _ e1.symm (by rw [e2]; exact zb.2.2)
    · simp only [if_neg l]
      rw [if_pos (by omega)] at e1 e2
      exact step _ _ e1.symm (by rw [e2])
theorem m_goD (hR : TR n np F Pw) (hm : MT τ n np F Pw) (hU : UR U) (hu : MU τ U) {s p r bk st : Nat} (hs : s < 4096) (hsw : τ.1 7 0 = nI s) (hp : p < np) (hr : r < 1000) (hbk : bk < 1000) (hl : MLk τ r (Pw 1 p) (Pw 2 p) bk) (hst : pl n st) (hH : ∀ b, pl n b → hol F Pw U p b ≤ 10) : ∀ (d k fuel : Nat) (t : SS), k + d = 12 → d < fuel → GS τ t → WM t (G n (may F Pw U s p r bk) (hol F Pw U p) st) k → ∃ t', L6_goFrom_53 fuel (nI (k + 1)) t = some t' ∧ GS τ t' ∧ WM t' (G n (may F Pw U s p r bk) (hol F Pw U p) st) 12 := by
  intro d
  induction d with
  | zero =>
    intro k fuel t h1 h2 hq hz
    obtain ⟨f, rfl⟩ : ∃ q, fuel = q + 1 := ⟨fuel - 1, by omega⟩
    refine ⟨t, ?_, hq, by rw [show 12 = k by omega]; exact hz⟩
    rw [L6_goFrom_53, if_neg (by rw [l12, c_le (by omega) (by omega)]; omega)]
  | succ d ih =>
    intro k fuel t h1 h2 hq hz
    obtain ⟨f, rfl⟩ : ∃ q, fuel = q + 1 := ⟨fuel - 1, by omega⟩
    obtain ⟨t1, a1, a2, a3, a4, a5⟩ := m_goB hR hm hU hu hs hsw hp hr hbk hl hst hH (k := k) (nI (k + 1)) 13 0 FU t (by omega) (by unfold FU; omega) hq (fun j hj => (hz j hj).1) (fun j hj => by omega)
    obtain ⟨t2, b1, b2, b3⟩ := m_goC (τ := τ) (g := G n (may F Pw U s p r bk) (hol F Pw U p) st) (fun k b => G_le hH k b) (k := k) 13 0 FU t1 (by omega) (by unfold FU; omega) a2 a3 (fun j hj => by
      rw [if_neg (by omega)]
      refine ⟨fun q => absurd q (by omega), ?_, ?_⟩
      · rw [a4 _ _ (by omega)]; exact (hz j hj).2.1
      · rw [a5]; exact (hz j hj).2.2)
    have a1 : L6_goFrom_61 (nI (k + 1)) FU 0 t = some t1 := a1
    have b1 : L6_goFrom_177 (nI (k + 1)) FU 0 t1 = some t2 := b1
    rw [L6_goFrom_53, if_pos (by rw [l12, c_le (by omega) (by omega)]; omega), a1, bk1_e, b1, bk1_e, lt_e, nI_1]
    exact ih (k + 1) f t2 (by omega) (by omega) b2 b3
theorem m_goFrom (hR : TR n np F Pw) (hm : MT τ n np F Pw) (hU : UR U) (hu : MU τ U) {s p r bk st : Nat} (hs : s < 4096) (hsw : τ.1 7 0 = nI s) (hp : p < np) (hr : r < 1000) (hbk : bk < 1000) (hl : MLk τ r (Pw 1 p) (Pw 2 p) bk) (hst : pl n st) (hH : ∀ b, pl n b → hol F Pw U p b ≤ 10) : ∃ t', f6_goFrom (nI st) τ = some t' ∧ GS τ t' ∧ WM t' (G n (may F Pw U s p r bk) (hol F Pw U p) st) 12 := by
  have r0 := hR.1
  obtain ⟨t1, a1, a2, a3⟩ := m_goI (τ := τ) (g := G n (may F Pw U s p r bk) (hol F Pw U p) st) (st := st) (by rcases hst with h | h <;> omega) (fun j hj => rfl) 13 0 FU τ (by omega) (by unfold FU; omega) GS.rf (fun j hj => by omega)
  obtain ⟨t2, b1, b2, b3⟩ := m_goD hR hm hU hu hs hsw hp hr hbk hl hst hH 12 0 FU t1 (by omega) (by unfold FU; omega) a2 a3
  have a1 : L6_goFrom_2 (nI st) FU 0 τ = some t1 := a1
  have b1 : L6_goFrom_53 FU 1 t1 = some t2 := b1
  refine ⟨t2, ?_, b2, b3⟩
  unfold f6_goFrom
  rw [a1, bk1_e, b1, bk1_e]
end S
