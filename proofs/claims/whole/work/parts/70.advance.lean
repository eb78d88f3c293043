/-! the class: advance -/
def A2 (s s' : SS) (e : Nat) : Prop := s'.2 = s.2 ∧ s'.1 2 2 = nI e ∧ ∀ k j, (k ≠ 2 ∨ j ≠ 2) → s'.1 k j = s.1 k j
section S
variable {s : SS} {tn : Nat} {tb : Nat → Nat}
theorem A2.xx {s' : SS} {e : Nat} (q : A2 s s' e) (h : XX s tn tb) : XX s' tn tb := ⟨by rw [q.2.2 _ _ (by omega)]; exact h.1, fun j hj => by rw [q.2.2 _ _ (by omega)]; exact h.2 j hj⟩
theorem x_byteAt (hR : XR tn tb) (h : XX s tn tb) {i : Nat} (hi : i < tn) : f2_byteAt (nI i) s = some (nI (tb i)) := by
  have r0 := hR.1
  have hin : inb (nI i) 400 := by rw [c_inb (by omega)]; omega
  unfold f2_byteAt
  rw [lt_e, if_neg (nI_pos (by omega)), h.1, if_pos (by rw [c_lt (by omega) (by omega)]; exact hi), if_pos (by rw [l400, c_lt (by omega) (by omega)]; omega), gd_t hin, c_tn (by omega), h.2 i hi]
theorem x_byteE (hR : XR tn tb) (h : XX s tn tb) : f2_byteAt (nI tn) s = some (-1) := by
  have r0 := hR.1
  unfold f2_byteAt
  rw [lt_e, if_neg (nI_pos (by omega)), h.1, if_neg (by rw [c_lt (by omega) (by omega)]; omega)]
theorem x_isDigit {c : Nat} (hc : c < 256) : f2_isDigit (nI c) = some (bI (isDg c)) := by
  unfold f2_isDigit isDg
  rw [lt_e]
  by_cases g : c < 48
  · rw [if_pos (by rw [l48, c_lt (by omega) (by omega)]; exact g), decide_eq_false (by omega)]; rfl
  · rw [if_neg (by rw [l48, c_lt (by omega) (by omega)]; exact g)]
    by_cases g2 : c ≤ 57
    · rw [if_pos (by rw [l57, c_le (by omega) (by omega)]; exact g2), decide_eq_true (by omega)]; rfl
    · rw [if_neg (by rw [l57, c_le (by omega) (by omega)]; exact g2), decide_eq_false (by omega)]; rfl
theorem x_isLetter {c : Nat} (hc : c < 256) : f2_isLetter (nI c) = some (bI (isLt c)) := by
  unfold f2_isLetter isLt
  rw [lt_e]
  by_cases g : c < 97
  · rw [if_pos (by rw [l97, c_lt (by omega) (by omega)]; exact g), decide_eq_false (by omega)]; rfl
  · rw [if_neg (by rw [l97, c_lt (by omega) (by omega)]; exact g)]
    by_cases g2 : c ≤ 122
    · rw [if_pos (by rw [l122, c_le (by omega) (by omega)]; exact g2), decide_eq_true (by omega)]; rfl
    · rw [if_neg (by rw [l122, c_le (by omega) (by omega)]; exact g2), decide_eq_false (by omega)]; rfl
theorem A2.step {p : Nat} {s' : SS} {e : Nat} (q : A2 (sI s 2 2 (nI p)) s' e) : A2 s s' e := ⟨q.1, q.2.1, fun k j hk => by rw [q.2.2 k j hk, sI_o hk]⟩
theorem x_skip (hR : XR tn tb) : ∀ (d p fuel : Nat) (s : SS), p + d = tn → d < fuel → XX s tn tb → s.1 2 2 = nI p → ∃ s', L2_advance_0 fuel s = some s' ∧ A2 s s' (Sc tn tb isSp p) := by
  have r0 := hR.1
  intro d
  induction d with
  | zero =>
    intro p fuel s h1 h2 hx hp
    obtain ⟨f, rfl⟩ : ∃ q, fuel = q + 1 := ⟨fuel - 1, by omega⟩
    refine ⟨s, ?_, rfl, by rw [Sc_e (by omega)]; exact hp, fun _ _ _ => rfl⟩
    rw [L2_advance_0, hp, hx.1, if_neg (by rw [c_lt (by omega) (by omega)]; omega)]
  | succ d ih =>
    intro p fuel s h1 h2 hx hp
    obtain ⟨f, rfl⟩ : ∃ q, fuel = q + 1 := ⟨fuel - 1, by omega⟩
    have hb := hR.2 p (by omega)
    rw [L2_advance_0, hp, hx.1, if_pos (by rw [c_lt (by omega) (by omega)]; omega), x_byteAt hR hx (by omega), bd_e]
    by_cases g : tb p = 32
    · rw [if_pos (by rw [g]; rfl), nI_1, lt_e]
      have q1 : A2 s (sI s 2 2 (nI (p + 1))) (p + 1) := ⟨rfl, sI_s, fun k j hk => sI_o hk⟩
      obtain ⟨s', k1, k2⟩ := ih (p + 1) f (sI s 2 2 (nI (p + 1))) (by omega) (by omega) (q1.xx hx) sI_s
      exact ⟨s', k1, by rw [Sc_t (by omega) (by unfold isSp; exact decide_eq_true g)]; exact k2.step⟩
    · rw [if_neg (by rw [l32, c_eq (by omega) (by omega)]; exact g)]
      exact ⟨s, rfl, rfl, by rw [Sc_f (by unfold isSp; exact decide_eq_false g)]; exact hp, fun _ _ _ => rfl⟩
theorem x_wordL (hR : XR tn tb) : ∀ (d p fuel : Nat) (s : SS), p + d = tn → d < fuel → XX s tn tb → s.1 2 2 = nI p → ∃ s', L2_readWord_0 fuel s = some s' ∧ A2 s s' (Sc tn tb isLt p) := by
  have r0 := hR.1
  intro d
  induction d with
  | zero =>
    intro p fuel s h1 h2 hx hp
    obtain ⟨f, rfl⟩ : ∃ q, fuel = q + 1 := ⟨fuel - 1, by omega⟩
    refine ⟨s, ?_, rfl, by rw [Sc_e (by omega)]; exact hp, fun _ _ _ => rfl⟩
    rw [L2_readWord_0, hp, hx.1, if_neg (by rw [c_lt (by omega) (by omega)]; omega)]
  | succ d ih =>
    intro p fuel s h1 h2 hx hp
    obtain ⟨f, rfl⟩ : ∃ q, fuel = q + 1 := ⟨fuel - 1, by omega⟩
    have hb := hR.2 p (by omega)
    rw [L2_readWord_0, hp, hx.1, if_pos (by rw [c_lt (by omega) (by omega)]; omega), x_byteAt hR hx (by omega), bd_e, x_isLetter hb, bd_e, ib0]
    cases g : isLt (tb p) with
    | true =>
      rw [cond_true, nI_1, lt_e]
      have q1 : A2 s (sI s 2 2 (nI (p + 1))) (p + 1) := ⟨rfl, sI_s, fun k j hk => sI_o hk⟩
      obtain ⟨s', k1, k2⟩ := ih (p + 1) f (sI s 2 2 (nI (p + 1))) (by omega) (by omega) (q1.xx hx) sI_s
      exact ⟨s', k1, by rw [Sc_t (by omega) g]; exact k2.step⟩
    | false =>
      rw [cond_false]
      exact ⟨s, rfl, rfl, by rw [Sc_f g]; exact hp, fun _ _ _ => rfl⟩
theorem imin {X : Nat} (h : X < 1000000) {inst : Decidable (nI X < 100)} : (if nI X < 100 then nI X else 100) = nI (min X 100) := by
  have e := c_lt (a := X) (b := 100) (by omega) (by omega)
  by_cases g : X < 100
  · rw [if_pos (by rw [l100]; exact e ▸ g), Nat.min_eq_left (by omega)]
  · rw [if_neg (by rw [l100]; exact e ▸ g), Nat.min_eq_right (by omega)]; rfl
theorem x_numL (hR : XR tn tb) {a : Nat} : ∀ (d p fuel : Nat) (s : SS), p + d = tn → a ≤ p → d < fuel → XX s tn tb → s.1 2 2 = nI p → ∃ s', L2_readNumber_2 fuel (nI (vC tb a (p - a))) s = some (nI (vC tb a (Sc tn tb isDg p - a)), s') ∧ A2 s s' (Sc tn tb isDg p) := by
  have r0 := hR.1
  intro d
  induction d with
  | zero =>
    intro p fuel s h1 ha h2 hx hp
    obtain ⟨f, rfl⟩ : ∃ q, fuel = q + 1 := ⟨fuel - 1, by omega⟩
    rw [Sc_e (show tn ≤ p by omega)]
    refine ⟨s, ?_, rfl, hp, fun _ _ _ => rfl⟩
    rw [L2_readNumber_2, hp, hx.1, if_neg (by rw [c_lt (by omega) (by omega)]; omega)]
  | succ d ih =>
    intro p fuel s h1 ha h2 hx hp
    obtain ⟨f, rfl⟩ : ∃ q, fuel = q + 1 := ⟨fuel - 1, by omega⟩
    have hb := hR.2 p (by omega)
    have hv := vC_le (tb := tb) (a := a) (p - a)
    rw [L2_readNumber_2, hp, hx.1, if_pos (by rw [c_lt (by omega) (by omega)]; omega), x_byteAt hR hx (by omega), bd_e, x_isDigit hb, bd_e, ib0]
    cases g : isDg (tb p) with
    | true =>
      have g' := g
      unfold isDg at g'
      rw [decide_eq_true_eq] at g'
      have e1 : nI (vC tb a (p - a)) * 10 + nI (tb p) - 48 = nI (vC tb a (p - a) * 10 + tb p - 48) := by
        rw [l10, c_mul, c_add, l48, c_sub (by omega)]
      rw [cond_true, bd_e, e1, imin (by omega), lt_e, nI_1, lt_e]
      have q1 : A2 s (sI s 2 2 (nI (p + 1))) (p + 1) := ⟨rfl, sI_s, fun k j hk => sI_o hk⟩
      obtain ⟨s', k1, k2⟩ := ih (p + 1) f (sI s 2 2 (nI (p + 1))) (by omega) (by omega) (by omega) (q1.xx hx) sI_s
      have e2 : vC tb a (p + 1 - a) = min (vC tb a (p - a) * 10 + tb p - 48) 100 := by
        rw [show p + 1 - a = (p - a) + 1 by omega, vC, show a + (p - a) = p by omega]
      rw [e2] at k1
      exact ⟨s', by rw [Sc_t (by omega) g]; exact k1, by rw [Sc_t (by omega) g]; exact k2.step⟩
    | false =>
      rw [cond_false, Sc_f g]
      exact ⟨s, rfl, rfl, hp, fun _ _ _ => rfl⟩
def wl (t : Nat) : List Nat := [w0, w1, w2, w3].getD t []
theorem wl_len : ∀ t, t < 4 → sLen.getD t 0 = (wl t).length := by decide
theorem wl_at : ∀ t, t < 4 → ∀ j, j < 7 → j < (wl t).length → (sByt.getD t []).getD j 0 = nI ((wl t).getD j 0) := by decide
theorem wl_7 : ∀ t, t < 4 → (wl t).length < 7 := by decide
theorem wl_c : ∀ t, t < 4 → ∀ j, j < 7 → (wl t).getD j 0 < 256 := by decide
theorem x_saysL (hR : XR tn tb) (hx : XX s tn tb) {a t : Nat} (ht : t < 4) (h3 : s.1 2 3 = nI a) (hle : a + (wl t).length ≤ tn) : ∀ (d i fuel : Nat), i + d = (wl t).length → d < fuel → L2_says_20 t s fuel (nI i) = some (if allf (fun j => decide (tb (a + j) = (wl t).getD j 0)) i d = true then .inl () else .inr 0) := by
  have r0 := hR.1
  have l7 := wl_7 t ht
  intro d
  induction d with
  | zero =>
    intro i fuel h1 h2
    obtain ⟨f, rfl⟩ : ∃ q, fuel = q + 1 := ⟨fuel - 1, by omega⟩
    rw [L2_says_20, wl_len t ht, if_neg (by rw [c_lt (by omega) (by omega)]; omega)]
    rfl
  | succ d ih =>
    intro i fuel h1 h2
    obtain ⟨f, rfl⟩ : ∃ q, fuel = q + 1 := ⟨fuel - 1, by omega⟩
    have hb := hR.2 (a + i) (by omega)
    have k := ih (i + 1) f (by omega) (by omega)
    have hin : inb (nI i) (sLen.getD t 0) := by rw [c_inb (by omega), wl_len t ht]; omega
    have wc := wl_c t ht i (by omega)
    have wa : (sByt.getD t []).getD (nI i).toNatClampNeg 0 = nI ((wl t).getD i 0) := by rw [c_tn (by omega)]; exact wl_at t ht i (by omega) (by omega)
    rw [L2_says_20, if_pos (by rw [wl_len t ht, c_lt (by omega) (by omega)]; omega), h3, c_add, x_byteAt hR hx (by omega), bd_e, gd_t hin, wa, allf]
    by_cases g : tb (a + i) = (wl t).getD i 0
    · rw [if_pos (by rw [g]), decide_eq_true g, Bool.true_and, lt_e, nI_1]
      exact k
    · rw [if_neg (by rw [c_eq (by omega) (by omega)]; exact g), decide_eq_false g, Bool.false_and]
      rfl
theorem x_says (hR : XR tn tb) (hx : XX s tn tb) {a e t : Nat} (ht : t < 4) (h2 : s.1 2 2 = nI e) (h3 : s.1 2 3 = nI a) (hae : a ≤ e) (he : e ≤ tn) : f2_says t s = some (bI (isW tb a (e - a) (wl t))) := by
  have r0 := hR.1
  have l7 := wl_7 t ht
  unfold f2_says isW
  rw [h2, h3, c_sub hae, wl_len t ht]
  by_cases g : e - a = (wl t).length
  · have L := x_saysL hR hx ht h3 (by omega) (wl t).length 0 FU (by omega) (by unfold FU; omega)
    have L : L2_says_20 t s FU 0 = _ := L
    rw [if_pos (by rw [g]), L, decide_eq_true g, Bool.true_and]
    cases allf (fun j => decide (tb (a + j) = (wl t).getD j 0)) 0 (wl t).length <;> rfl
  · rw [if_neg (by rw [c_eq (by omega) (by omega)]; exact g), decide_eq_false g]; rfl
/-- the text's own marks -/
def AX (s s' : SS) : Prop := s'.2 = s.2 ∧ ∀ k j, (k ≠ 2 ∨ j < 2) → s'.1 k j = s.1 k j
theorem AX.rf : AX s s := ⟨rfl, fun _ _ _ => rfl⟩
theorem AX.tr {a b c : SS} (h : AX a b) (g : AX b c) : AX a c := ⟨g.1.trans h.1, fun k j hk => (g.2 k j hk).trans (h.2 k j hk)⟩
theorem A2.ax {s' : SS} {e : Nat} (q : A2 s s' e) : AX s s' := ⟨q.1, fun k j hk => q.2.2 k j (by omega)⟩
theorem AX.i {s' : SS} (h : AX s s') {j : Nat} {v : Int32} (hj : 2 ≤ j) : AX s (sI s' 2 j v) := ⟨h.1, fun k j' hk => by rw [sI_o (by omega)]; exact h.2 k j' hk⟩
theorem AX.xx {s' : SS} (q : AX s s') (h : XX s tn tb) : XX s' tn tb := ⟨by rw [q.2 _ _ (by omega)]; exact h.1, fun j hj => by rw [q.2 _ _ (by omega)]; exact h.2 j hj⟩
theorem TKa_b {p : Nat} (hp : p ≤ tn) : p ≤ TKa tn tb p ∧ TKa tn tb p ≤ tn := Sc_b (tn - p) p (by omega)
theorem x_readWord (hR : XR tn tb) (hx : XX s tn tb) {a : Nat} (ha : a ≤ tn) (h2 : s.1 2 2 = nI a) (h3 : s.1 2 3 = nI a) : ∃ s', f2_readWord s = some (nI (wS tb a (Sc tn tb isLt a - a)), s') ∧ A2 s s' (Sc tn tb isLt a) := by
  have r0 := hR.1
  have bb := Sc_b (tn := tn) (tb := tb) (P := isLt) (tn - a) a (by omega)
  obtain ⟨s', k1, k2⟩ := x_wordL hR (tn - a) a FU s (by omega) (by unfold FU; omega) hx h2
  have h3' : s'.1 2 3 = nI a := by rw [k2.2.2 _ _ (by omega)]; exact h3
  have S := fun t ht => x_says hR (k2.xx hx) (t := t) ht k2.2.1 h3' bb.1 bb.2
  refine ⟨s', ?_, k2⟩
  unfold f2_readWord wS
  rw [k1, bk1_e, S 0 (by omega), bd_e, ib0, S 1 (by omega), bd_e, ib0, S 2 (by omega), bd_e, ib0, S 3 (by omega), bd_e, ib0]
  show (bif isW tb a (Sc tn tb isLt a - a) w0 then some ((3 : Int32), s') else bif isW tb a (Sc tn tb isLt a - a) w1 then some (4, s') else bif isW tb a (Sc tn tb isLt a - a) w2 then some (5, s') else bif isW tb a (Sc tn tb isLt a - a) w3 then some (6, s') else some (7, s')) = _
  cases isW tb a (Sc tn tb isLt a - a) w0 <;> cases isW tb a (Sc tn tb isLt a - a) w1 <;> cases isW tb a (Sc tn tb isLt a - a) w2 <;> cases isW tb a (Sc tn tb isLt a - a) w3 <;> rfl
theorem x_readNumber (hR : XR tn tb) (hx : XX s tn tb) {a : Nat} (ha : a < tn) (h2 : s.1 2 2 = nI a) (h3 : s.1 2 3 = nI a) : ∃ s', f2_readNumber s = some ((if (tb a = 48 ∧ 1 < Sc tn tb isDg a - a) ∨ 99 < vC tb a (Sc tn tb isDg a - a) then 7 else 2), s') ∧ AX s s' ∧ s'.1 2 2 = nI (Sc tn tb isDg a) ∧ s'.1 2 3 = nI a ∧ s'.1 2 5 = nI (vC tb a (Sc tn tb isDg a - a)) := by
  have r0 := hR.1
  have hb := hR.2 a ha
  have bb := Sc_b (tn := tn) (tb := tb) (P := isDg) (tn - a) a (by omega)
  have hv := vC_le (tb := tb) (a := a) (Sc tn tb isDg a - a)
  obtain ⟨s', k1, k2⟩ := x_numL hR (a := a) (tn - a) a FU s (by omega) (by omega) (by unfold FU; omega) hx h2
  rw [show a - a = 0 by omega] at k1
  have k1 : L2_readNumber_2 FU 0 s = _ := k1
  obtain ⟨s2, hs2⟩ : ∃ s2, s2 = sI s' 2 5 (nI (vC tb a (Sc tn tb isDg a - a))) := ⟨_, rfl⟩
  have x2 : AX s s2 := by rw [hs2]; exact k2.ax.i (by omega)
  have y2 : s2.1 2 2 = nI (Sc tn tb isDg a) := by rw [hs2, sI_o (by omega)]; exact k2.2.1
  have y3 : s2.1 2 3 = nI a := by rw [hs2, sI_o (by omega), k2.2.2 _ _ (by omega)]; exact h3
  have y5 : s2.1 2 5 = nI (vC tb a (Sc tn tb isDg a - a)) := by rw [hs2, sI_s]
  refine ⟨s2, ?_, x2, y2, y3, y5⟩
  unfold f2_readNumber
  rw [k1, bk2_e, lt_e, ← hs2, y3, x_byteAt hR (x2.xx hx) ha, bd_e, y2, c_sub bb.1]
  simp only [lt_e]
  have z1 : ∀ {α : Type} (x y : α), (if (1 : Int32) = 0 then x else y) = y := fun x y => if_neg (by decide)
  simp only [z1, if_true]
  by_cases g1 : tb a = 48
  · rw [if_pos (by rw [g1]; rfl)]
    by_cases g2 : Sc tn tb isDg a - a ≤ 1
    · rw [if_pos (by rw [l1, c_le (by omega) (by omega)]; exact g2)]
      by_cases g3 : vC tb a (Sc tn tb isDg a - a) ≤ 99
      · rw [if_pos (by rw [l99, c_le (by omega) (by omega)]; exact g3), if_neg (by omega)]
      · rw [if_neg (by rw [l99, c_le (by omega) (by omega)]; exact g3), if_pos (by omega)]
    · rw [if_neg (by rw [l1, c_le (by omega) (by omega)]; exact g2), if_pos (by omega)]
  · rw [if_neg (by rw [l48, c_eq (by omega) (by omega)]; exact g1)]
    by_cases g3 : vC tb a (Sc tn tb isDg a - a) ≤ 99
    · rw [if_pos (by rw [l99, c_le (by omega) (by omega)]; exact g3), if_neg (by omega)]
    · rw [if_neg (by rw [l99, c_le (by omega) (by omega)]; exact g3), if_pos (by omega)]
theorem x_advance (hR : XR tn tb) (hx : XX s tn tb) {p : Nat} (hp : p ≤ tn) (h2 : s.1 2 2 = nI p) : ∃ s', f2_advance s = some s' ∧ AX s s' ∧ s'.1 2 2 = nI (TKe tn tb p) ∧ s'.1 2 3 = nI (TKa tn tb p) ∧ s'.1 2 4 = nI (TKs tn tb p) ∧ (TKs tn tb p = 2 → s'.1 2 5 = nI (TKv tn tb p)) := by
  have r0 := hR.1
  have ab := TKa_b (tn := tn) (tb := tb) hp
  obtain ⟨s1, a1, a2⟩ := x_skip hR (tn - p) p FU s (by omega) (by unfold FU; omega) hx h2
  have a2 : A2 s s1 (TKa tn tb p) := a2
  obtain ⟨s2, hs2⟩ : ∃ s2, s2 = sI s1 2 3 (nI (TKa tn tb p)) := ⟨_, rfl⟩
  have x2 : AX s s2 := by rw [hs2]; exact a2.ax.i (by omega)
  have y2 : s2.1 2 2 = nI (TKa tn tb p) := by rw [hs2, sI_o (by omega)]; exact a2.2.1
  have y3 : s2.1 2 3 = nI (TKa tn tb p) := by rw [hs2, sI_s]
  have hx2 := x2.xx hx
  unfold f2_advance
  rw [a1, bk1_e, lt_e, a2.2.1, ← hs2, y2]
  obtain ⟨a, ha⟩ : ∃ a, a = TKa tn tb p := ⟨_, rfl⟩
  have fTs : TKs tn tb p = if tn ≤ a then 0 else if tb a = 59 then 1 else if isDg (tb a) = true then (if (tb a = 48 ∧ 1 < Sc tn tb isDg a - a) ∨ 99 < TKv tn tb p then 7 else 2) else if isLt (tb a) = true then wS tb a (Sc tn tb isLt a - a) else 7 := by rw [ha]; rfl
  have fTe : TKe tn tb p = if tn ≤ a then a else if tb a = 59 then a + 1 else if isDg (tb a) = true then Sc tn tb isDg a else if isLt (tb a) = true then Sc tn tb isLt a else a := by rw [ha]; rfl
  have fTv : TKv tn tb p = vC tb a (Sc tn tb isDg a - a) := by rw [ha]; rfl
  rw [← ha] at y2 y3 ab ⊢
  rw [fTv] at fTs ⊢
  by_cases g0 : tn ≤ a
  · have e : a = tn := by omega
    rw [if_pos g0] at fTs fTe
    rw [fTs, fTe, show f2_byteAt (nI a) s2 = some (-1) by rw [e]; exact x_byteE hR hx2, bd_e, if_pos (by decide), lt_e]
    exact ⟨_, rfl, x2.i (by omega), by rw [sI_o (by omega)]; exact y2, by rw [sI_o (by omega)]; exact y3, sI_s, fun q => by omega⟩
  · have hb := hR.2 a (by omega)
    rw [if_neg g0] at fTs fTe
    rw [x_byteAt hR hx2 (by omega), bd_e, if_neg (nI_pos (by omega))]
    by_cases g1 : tb a = 59
    · rw [if_pos g1] at fTs fTe
      rw [fTs, fTe, if_pos (by rw [g1]; rfl), nI_1, lt_e, lt_e]
      exact ⟨_, rfl, (x2.i (by omega)).i (by omega), by rw [sI_o (by omega), sI_s], by rw [sI_o (by omega), sI_o (by omega)]; exact y3, sI_s, fun q => by omega⟩
    · rw [if_neg g1] at fTs fTe
      rw [if_neg (by rw [show (59 : Int32) = nI 59 by decide, c_eq (by omega) (by omega)]; exact g1), x_isDigit hb, bd_e, ib0]
      cases g2 : isDg (tb a) with
      | true =>
        rw [g2, if_pos rfl] at fTs fTe
        obtain ⟨s3, k1, k2, k3, k4, k5⟩ := x_readNumber hR hx2 (by omega) y2 y3
        rw [cond_true, k1, bk2_e, lt_e]
        refine ⟨_, rfl, (x2.tr k2).i (by omega), by rw [sI_o (by omega), fTe]; exact k3, by rw [sI_o (by omega)]; exact k4, ?_, fun _ => by rw [sI_o (by omega)]; exact k5⟩
        rw [sI_s, fTs]
        split <;> rfl
      | false =>
        rw [g2, if_neg (by simp)] at fTs fTe
        rw [cond_false, x_isLetter hb, bd_e, ib0]
        cases g3 : isLt (tb a) with
        | true =>
          rw [g3, if_pos rfl] at fTs fTe
          obtain ⟨s3, k1, k2⟩ := x_readWord hR hx2 (by omega) y2 y3
          rw [cond_true, k1, bk2_e, lt_e]
          refine ⟨_, rfl, (x2.tr k2.ax).i (by omega), by rw [sI_o (by omega), fTe]; exact k2.2.1, by rw [sI_o (by omega), k2.2.2 _ _ (by omega)]; exact y3, by rw [sI_s, fTs], fun q => ?_⟩
          exfalso
          rw [fTs] at q
          unfold wS at q
          split at q <;> (try omega)
          split at q <;> (try omega)
          split at q <;> (try omega)
          split at q <;> omega
        | false =>
          rw [g3, if_neg (by simp)] at fTs fTe
          rw [cond_false, lt_e, fTs, fTe]
          exact ⟨_, rfl, x2.i (by omega), by rw [sI_o (by omega)]; exact y2, by rw [sI_o (by omega)]; exact y3, sI_s, fun q => by omega⟩
end S
