/-! saw -/
def HV (n : Nat) (F : Nat → Nat → Nat) (U od : Nat → Nat) (s b : Nat) : Int32 := (CF F od (hit F s b) (nI (F 0 b), 0, 0) n).2.2 + ((CF F od (hit F s b) (nI (F 0 b), 0, 0) n).2.1 + (CF F od (hit F s b) (nI (F 0 b), 0, 0) n).1) * nI (U 4)
def allf (P : Nat → Bool) : Nat → Nat → Bool
  | _, 0 => true
  | i, d + 1 => P i && allf P (i + 1) d
def HS (τ t : SS) : Prop := t.2.1 0 0 = τ.2.1 0 0 ∧ ∀ k j, k ≠ 9 → (k ≠ 0 ∨ j ≠ 23) → t.1 k j = τ.1 k j
section S
variable {σ τ s t : SS} {n np : Nat} {F Pw : Nat → Nat → Nat} {U od un : Nat → Nat}
theorem HS.rf : HS τ τ := ⟨rfl, fun _ _ _ _ => rfl⟩
theorem HS.tr {a b c : SS} (h : HS a b) (g : HS b c) : HS a c := ⟨g.1.trans h.1, fun k j h1 h2 => (g.2 k j h1 h2).trans (h.2 k j h1 h2)⟩
theorem GS.hs (h : GS τ t) : HS τ t := ⟨h.1, fun k j h1 _ => h.2 k j h1⟩
theorem BH.hs {m : Nat} (h : BH τ m t) : HS τ t := ⟨by rw [h.1], fun k j _ h2 => h.2.2 k j h2⟩
theorem HS.ms (h : HS τ t) : MS τ t := ⟨h.1, fun k j h1 h2 => h.2 k j h1 (by omega)⟩
theorem MW.hs {s p r bk : Nat} (h : MW τ n np F Pw U s p r bk) (q : HS τ t) : MW t n np F Pw U s p r bk := ⟨q.ms.mt h.1, q.ms.mu h.2.1, by rw [q.2 _ _ (by omega) (by omega)]; exact h.2.2.1, by rw [q.2 _ _ (by omega) (by omega)]; exact h.2.2.2.1, by rw [q.2 _ _ (by omega) (by omega)]; exact h.2.2.2.2.1, by rw [q.2 _ _ (by omega) (by omega)]; exact h.2.2.2.2.2.1, by rw [q.2 _ _ (by omega) (by omega)]; exact h.2.2.2.2.2.2⟩
theorem x_safeL (hR : TR n np F Pw) (hx : XT s n np F Pw) (hU : UR U) (hu : XU s U) (hO : OR n F od un) (ho : XO s n od un) {Q s2 : Nat} (hQ : Q < 4096) (m : Int32) : ∀ (d i fuel : Nat), i + d = n → d < fuel → L5_isSafe_22 m (nI s2) (nI Q) s fuel (nI i) = some (if allf (fun b => !Q.testBit b || decide (HV n F U od s2 b ≤ m)) i d = true then .inl () else .inr 0) := by
  have r0 := hR.1
  intro d
  induction d with
  | zero =>
    intro i fuel h1 h2
    obtain ⟨f, rfl⟩ : ∃ q, fuel = q + 1 := ⟨fuel - 1, by omega⟩
    rw [L5_isSafe_22, show s.1 (wB (s.2.2 0)) 0 = nI n from hx.1, if_neg (by rw [c_lt (by omega) (by omega)]; omega)]
    rfl
  | succ d ih =>
    intro i fuel h1 h2
    obtain ⟨f, rfl⟩ : ∃ q, fuel = q + 1 := ⟨fuel - 1, by omega⟩
    have k := ih (i + 1) f (by omega) (by omega)
    have hh : f5_harm (nI i) (nI s2) s = some (HV n F U od s2 i) := x_harm hR hx hU hu hO ho (by omega)
    rw [L5_isSafe_22, show s.1 (wB (s.2.2 0)) 0 = nI n from hx.1, if_pos (by rw [c_lt (by omega) (by omega)]; omega), x_has (by omega) (by omega), bd_e, ib0, hh, bd_e]
    simp only [lt_e, nI_1]
    rw [allf]
    cases q : Q.testBit i with
    | false =>
      simp only [cond_false, Bool.not_false, Bool.true_or, Bool.true_and]
      exact k
    | true =>
      simp only [cond_true, Bool.not_true, Bool.false_or]
      by_cases g : HV n F U od s2 i ≤ m
      · rw [if_pos g, decide_eq_true g, Bool.true_and]
        exact k
      · rw [if_neg g, decide_eq_false g, Bool.false_and]
        rfl
theorem m_safeL (hR : TR n np F Pw) (hU : UR U) (hO : OR n F od un) {Q s2 p r bk : Nat} (hQ : Q < 4096) (hs : s2 < 4096) (m : Int32) : ∀ (d i fuel : Nat) (t : SS), i + d = n → d < fuel → MW t n np F Pw U s2 p r bk → ∃ t', L6_isSafe_22 m (nI Q) fuel 1 (nI i) t = some (bI (allf (fun b => !Q.testBit b || decide (HV n F U od s2 b ≤ m)) i d), t') ∧ HS t t' := by
  have r0 := hR.1
  intro d
  induction d with
  | zero =>
    intro i fuel t h1 h2 hw
    obtain ⟨f, rfl⟩ : ∃ q, fuel = q + 1 := ⟨fuel - 1, by omega⟩
    refine ⟨t, ?_, HS.rf⟩
    rw [L6_isSafe_22, gd_t (iz 2 (by omega)), tz0, hw.1.1, if_neg (by rw [c_lt (by omega) (by omega)]; omega)]
    rfl
  | succ d ih =>
    intro i fuel t h1 h2 hw
    obtain ⟨f, rfl⟩ : ∃ q, fuel = q + 1 := ⟨fuel - 1, by omega⟩
    obtain ⟨mm, t1, a1, a2, -, -⟩ := m_harm hR hw.1 hU hw.2.1 hO (b := i) (by omega) hs hw.2.2.1
    have hh : f6_harmFrom (nI i) t = some (HV n F U od s2 i, t1) := a1
    rw [L6_isSafe_22, gd_t (iz 2 (by omega)), tz0, hw.1.1, if_pos (by rw [c_lt (by omega) (by omega)]; omega), if_neg (by decide)]
    simp only [lt_e, m_bit (show Q < 2147483648 by omega) (show i < 32 by omega), nI_1, ib0, hh, bk2_e]
    rw [allf]
    cases q : Q.testBit i with
    | false =>
      simp only [cond_false, Bool.not_false, Bool.true_or, Bool.true_and]
      exact ih (i + 1) f t (by omega) (by omega) hw
    | true =>
      simp only [cond_true, Bool.not_true, Bool.false_or]
      by_cases g : HV n F U od s2 i ≤ m
      · rw [if_pos g, decide_eq_true g, Bool.true_and]
        obtain ⟨t', k1, k2⟩ := ih (i + 1) f t1 (by omega) (by omega) (hw.hs a2.hs)
        exact ⟨t', k1, a2.hs.tr k2⟩
      · rw [if_neg g, decide_eq_false g, Bool.false_and]
        obtain ⟨f, rfl⟩ : ∃ q, f = q + 1 := ⟨f - 1, by omega⟩
        refine ⟨t1, ?_, a2.hs⟩
        rw [L6_isSafe_22, gd_t (iz 2 (by omega)), if_pos (show (0 : Int32) = 0 from rfl)]
        split <;> rfl
theorem allf_cg {P Q : Nat → Bool} {n : Nat} (h : ∀ b, b < n → P b = Q b) : ∀ (d i : Nat), i + d = n → allf P i d = allf Q i d := by
  intro d
  induction d with
  | zero => intro i _; rfl
  | succ d ih => intro i hi; rw [allf, allf, h i (by omega), ih (i + 1) (by omega)]
/-- is it safe with s2 sawn -/
def safe (n : Nat) (F Pw : Nat → Nat → Nat) (U od : Nat → Nat) (p r bk : Nat) (m : Int32) (h : Nat) (s2 : Nat) : Bool := decide (h ≤ mx (fun b => if byH n (may F Pw U s2 p r bk) (hol F Pw U p) 0 b = true then F 0 b else 0) n) && allf (fun b => !decide (0 < oG n (may F Pw U s2 p r bk) (hol F Pw U p) 12 b) || decide (HV n F U od s2 b ≤ m)) 0 n
theorem x_isSafe (hR : TR n np F Pw) (hx : XT s n np F Pw) (hU : UR U) (hu : XU s U) (hO : OR n F od un) (ho : XO s n od un) {s0 s2 p r bk : Nat} (hp : p < np) (hl : XL s (NN n (may F Pw U s0 p r bk)) (TT n (hol F Pw U p))) (hs2 : s2 < 4096) (hsub : ∀ b, sawB s0 b = true → sawB s2 b = true) (m : Int32) {h : Nat} (hh : h < 1000) : f5_isSafe m (nI h) (nI s2) s = some (bI (safe n F Pw U od p r bk m h s2)) := by
  have r0 := hR.1
  obtain ⟨Q, q1, q2, q3, q4⟩ := x_highR hR hx hp hl hs2 hsub
  have mb := mxF_le hR (fun b => byH n (may F Pw U s2 p r bk) (hol F Pw U p) 0 b) (i := n) (by omega)
  have L := x_safeL hR hx hU hu hO ho (Q := Q) (s2 := s2) q1 m n 0 FU (by omega) (by unfold FU; omega)
  rw [allf_cg (n := n) (Q := fun b => !decide (0 < oG n (may F Pw U s2 p r bk) (hol F Pw U p) 12 b) || decide (HV n F U od s2 b ≤ m)) (fun b hb => by rw [q3 b (by omega)]) n 0 (by omega)] at L
  have L : L5_isSafe_22 m (nI s2) (nI Q) s FU 0 = _ := L
  unfold f5_isSafe safe
  rw [q2, bd_e, q4, bd_e, L]
  by_cases g : h ≤ mx (fun b => if byH n (may F Pw U s2 p r bk) (hol F Pw U p) 0 b = true then F 0 b else 0) n
  · rw [if_neg (by rw [c_lt (by omega) (by omega)]; omega), decide_eq_true g, Bool.true_and]
    cases allf (fun b => !decide (0 < oG n (may F Pw U s2 p r bk) (hol F Pw U p) 12 b) || decide (HV n F U od s2 b ≤ m)) 0 n <;> rfl
  · rw [if_pos (by rw [c_lt (by omega) (by omega)]; omega), decide_eq_false g, Bool.false_and]; rfl
theorem m_isSafe (hR : TR n np F Pw) (hU : UR U) (hO : OR n F od un) {s2 p r bk : Nat} (hp : p < np) (hs : s2 < 4096) (hr : r < 1000) (hbk : bk < 1000) (hw : MW τ n np F Pw U s2 p r bk) (m : Int32) {h : Nat} (hh : h < 1000) : ∃ t, f6_isSafe m (nI h) τ = some (bI (safe n F Pw U od p r bk m h s2), t) ∧ HS τ t := by
  have r0 := hR.1
  obtain ⟨t1, a1, a2⟩ := m_highBy hR hU hs hp hr hbk hw (h := 0) (by omega)
  have w1 := hw.gs a2
  obtain ⟨t2, b1, b2⟩ := m_reached hR hU hs hp hr hbk w1
  have w2 := w1.gs b2
  have mb := mxF_le hR (fun b => byH n (may F Pw U s2 p r bk) (hol F Pw U p) 0 b) (i := n) (by omega)
  obtain ⟨t3, c1, c2⟩ := m_safeL hR hU hO (Q := msk (fun b => decide (0 < oG n (may F Pw U s2 p r bk) (hol F Pw U p) 12 b)) n) (Nat.lt_of_lt_of_le (msk_lt _ n) (pow12 r0)) hs m n 0 FU t2 (by omega) (by unfold FU; omega) w2
  rw [allf_cg (n := n) (Q := fun b => !decide (0 < oG n (may F Pw U s2 p r bk) (hol F Pw U p) 12 b) || decide (HV n F U od s2 b ≤ m)) (fun b hb => by rw [msk_tb, decide_eq_true hb, Bool.true_and]) n 0 (by omega)] at c1
  have c1 : L6_isSafe_22 m (nI (msk (fun b => decide (0 < oG n (may F Pw U s2 p r bk) (hol F Pw U p) 12 b)) n)) FU 1 0 t2 = _ := c1
  unfold f6_isSafe safe
  rw [show f6_highBy 0 τ = _ from a1, bk2_e]
  by_cases g : h ≤ mx (fun b => if byH n (may F Pw U s2 p r bk) (hol F Pw U p) 0 b = true then F 0 b else 0) n
  · rw [if_neg (by rw [c_lt (by omega) (by omega)]; omega), decide_eq_true g, Bool.true_and, b1, bk2_e, c1, bk2_e, gd_t (bI_or _)]
    exact ⟨t3, rfl, (a2.hs.tr b2.hs).tr c2⟩
  · rw [if_pos (by rw [c_lt (by omega) (by omega)]; omega), decide_eq_false g, Bool.false_and]
    exact ⟨t1, rfl, a2.hs⟩
/-! how many -/
def bc (S : Nat) : Nat := cnt (fun j => S.testBit j) 12
theorem bc_le (S : Nat) : bc S ≤ 12 := cnt_le _ 12
theorem m_bitsL {S : Nat} (hS : S < 4096) : ∀ (d i fuel : Nat), i + d = 12 → d < fuel → L6_bitsIn_4 (nI S) fuel (nI (cnt (fun j => S.testBit j) i)) (nI i) = some (nI (bc S)) := by
  intro d
  induction d with
  | zero =>
    intro i fuel h1 h2
    obtain ⟨f, rfl⟩ : ∃ q, fuel = q + 1 := ⟨fuel - 1, by omega⟩
    rw [L6_bitsIn_4, if_neg (by rw [l12, c_lt (by omega) (by omega)]; omega), show i = 12 by omega]
    rfl
  | succ d ih =>
    intro i fuel h1 h2
    obtain ⟨f, rfl⟩ : ∃ q, fuel = q + 1 := ⟨fuel - 1, by omega⟩
    have k := ih (i + 1) f (by omega) (by omega)
    rw [cnt] at k
    rw [L6_bitsIn_4, if_pos (by rw [l12, c_lt (by omega) (by omega)]; omega), m_bit (by omega) (by omega)]
    simp only [lt_e, nI_1]
    cases q : S.testBit i with
    | true =>
      rw [q, if_pos rfl] at k
      rw [show bI true = 1 from rfl, nI_1]
      exact k
    | false =>
      rw [q, if_neg (by simp)] at k
      rw [show bI false = nI 0 from rfl, c_add]
      exact k
theorem m_bits {S : Nat} (hS : S < 4096) : f6_bitsIn (nI S) = some (nI (bc S)) := by
  have L : L6_bitsIn_4 (nI S) FU 0 0 = _ := m_bitsL hS 12 0 FU (by omega) (by unfold FU; omega)
  unfold f6_bitsIn
  rw [L, bk1_e]
theorem x_bits {S : Nat} (hS : S < 4096) : fJ6_bitCount_0f7a4 (nI S) = some (nI (bc S)) := by
  obtain ⟨r, h1, h2⟩ := bits_both hS
  rw [m_bits hS] at h2
  rw [h1, ← h2]
/-- the answer is none, or the least set of the fewest -/
def AnsN (N : Nat) (V : Nat → Bool) : Prop := ∀ S, S < N → V S = true → 3 < bc S
def AnsS (N : Nat) (V : Nat → Bool) (S0 : Nat) : Prop := S0 < N ∧ V S0 = true ∧ bc S0 ≤ 3 ∧ (∀ S, S < N → V S = true → bc S0 ≤ bc S) ∧ ∀ S, S < S0 → V S = true → bc S ≠ bc S0
theorem x_leastL (hR : TR n np F Pw) (hx : XT s n np F Pw) (hU : UR U) (hu : XU s U) (hO : OR n F od un) (ho : XO s n od un) {s0 p r bk : Nat} (hp : p < np) (hl : XL s (NN n (may F Pw U s0 p r bk)) (TT n (hol F Pw U p))) (hs0 : s0 < 2 ^ n) (hsw : s.1 17 7 = nI s0) (m : Int32) {h : Nat} (hh : h < 1000) : ∀ (d S fuel : Nat), S + d = 2 ^ n → d < fuel → (∀ l f, ((l = -9 ∧ f = 4 ∧ AnsN S (fun S => decide (S &&& s0 = 0) && safe n F Pw U od p r bk m h (S ||| s0))) ∨ ∃ S0, l = nI S0 ∧ f = bc S0 ∧ AnsS S (fun S => decide (S &&& s0 = 0) && safe n F Pw U od p r bk m h (S ||| s0)) S0) → ∃ l', L5_leastToSaw_9 m (nI h) s fuel l (nI f) (nI S) = some l' ∧ ((l' = -9 ∧ AnsN (2 ^ n) (fun S => decide (S &&& s0 = 0) && safe n F Pw U od p r bk m h (S ||| s0))) ∨ ∃ S0, l' = nI S0 ∧ AnsS (2 ^ n) (fun S => decide (S &&& s0 = 0) && safe n F Pw U od p r bk m h (S ||| s0)) S0)) := by
  have r0 := hR.1
  have p12 := pow12 r0
  have hall : f4_all (s.2.2 0) s = some (nI (2 ^ n - 1)) := by
    unfold f4_all
    rw [hx.1, all_mask r0]
  obtain ⟨V, hV⟩ : ∃ V : Nat → Bool, V = fun S => decide (S &&& s0 = 0) && safe n F Pw U od p r bk m h (S ||| s0) := ⟨_, rfl⟩
  rw [← hV]
  intro d
  induction d with
  | zero =>
    intro S fuel h1 h2 l f hI
    obtain ⟨g, rfl⟩ : ∃ q, fuel = q + 1 := ⟨fuel - 1, by omega⟩
    have e : S = 2 ^ n := by omega
    have np := Nat.two_pow_pos n
    refine ⟨l, ?_, ?_⟩
    · rw [L5_leastToSaw_9, hall, bd_e, if_neg (by rw [c_le (by omega) (by omega)]; omega)]
    · rw [← e]
      rcases hI with ⟨a, b, c⟩ | ⟨S0, a, b, c⟩
      · exact Or.inl ⟨a, c⟩
      · exact Or.inr ⟨S0, a, c⟩
  | succ d ih =>
    intro S fuel h1 h2 l f hI
    obtain ⟨g, rfl⟩ : ∃ q, fuel = q + 1 := ⟨fuel - 1, by omega⟩
    have bS := bc_le S
    have f4 : f ≤ 4 := by
      rcases hI with ⟨a, b, c⟩ | ⟨S0, a, b, c⟩
      · omega
      · have := c.2.2.1; omega
    have S2 : S ||| s0 < 4096 := Nat.lt_of_lt_of_le (Nat.or_lt_two_pow (by omega) hs0) p12
    have hsub : ∀ b, sawB s0 b = true → sawB (S ||| s0) b = true := by
      intro b hb
      unfold sawB at hb ⊢
      rw [Bool.and_eq_true] at hb ⊢
      exact ⟨hb.1, by rw [Nat.testBit_or, hb.2, Bool.or_true]⟩
    have hsafe := x_isSafe hR hx hU hu hO ho hp hl S2 hsub m hh
    -- nothing new
    have skip : (V S = true → f ≤ bc S) → ∃ l', L5_leastToSaw_9 m (nI h) s g l (nI f) (nI (S + 1)) = some l' ∧ ((l' = -9 ∧ AnsN (2 ^ n) V) ∨ ∃ S0, l' = nI S0 ∧ AnsS (2 ^ n) V S0) := by
      intro z
      refine ih (S + 1) g (by omega) (by omega) l f ?_
      rcases hI with ⟨a, b, c⟩ | ⟨S0, a, b, c⟩
      · refine Or.inl ⟨a, b, fun T hT hv => ?_⟩
        by_cases e : T = S
        · subst e; have := z hv; omega
        · exact c T (by omega) hv
      · refine Or.inr ⟨S0, a, b, by have := c.1; omega, c.2.1, c.2.2.1, fun T hT hv => ?_, c.2.2.2.2⟩
        by_cases e : T = S
        · subst e; rw [← b]; exact z hv
        · exact c.2.2.2.1 T (by omega) hv
    rw [L5_leastToSaw_9, hall, bd_e, if_pos (by rw [c_le (by omega) (by omega)]; omega), x_bits (by omega), bd_e, show s.1 (17 + 0) 7 = nI s0 from hsw, nI_and, nI_or, hsafe, bd_e, ib0]
    simp only [lt_e, nI_1]
    by_cases g1 : bc S < f
    · rw [if_pos (by rw [c_lt (by omega) (by omega)]; exact g1)]
      have a4 : S &&& s0 < 4096 := Nat.lt_of_le_of_lt Nat.and_le_left (by omega)
      by_cases g2 : S &&& s0 = 0
      · rw [if_pos (by rw [g2]; rfl)]
        cases q : safe n F Pw U od p r bk m h (S ||| s0) with
        | false => exact skip (fun hv => by rw [hV] at hv; simp only [q, Bool.and_false] at hv; cases hv)
        | true =>
          simp only [cond_true]
          have hv : V S = true := by rw [hV]; simp only [q, decide_eq_true g2, Bool.and_true]
          refine ih (S + 1) g (by omega) (by omega) (nI S) (bc S) (Or.inr ⟨S, rfl, rfl, by omega, hv, by omega, fun T hT hvT => ?_, fun T hT hvT => ?_⟩)
          · by_cases e : T = S
            · subst e; omega
            · rcases hI with ⟨a, b, c⟩ | ⟨S0, a, b, c⟩
              · have := c T (by omega) hvT; omega
              · have := c.2.2.2.1 T (by omega) hvT; omega
          · rcases hI with ⟨a, b, c⟩ | ⟨S0, a, b, c⟩
            · have := c T (by omega) hvT; omega
            · have := c.2.2.2.1 T (by omega) hvT; omega
      · rw [if_neg (by rw [l0, c_eq (by omega) (by omega)]; exact g2)]
        exact skip (fun hv => by rw [hV] at hv; simp only [decide_eq_false g2, Bool.false_and] at hv; cases hv)
    · rw [if_neg (by rw [c_lt (by omega) (by omega)]; exact g1)]
      exact skip (fun _ => by omega)
end S
section T
variable {σ τ s t : SS} {n np : Nat} {F Pw : Nat → Nat → Nat} {U od un : Nat → Nat}
/-- all but what is sawn -/
def QS (τ t : SS) : Prop := t.2.1 0 0 = τ.2.1 0 0 ∧ ∀ k j, k ≠ 9 → (k ≠ 0 ∨ j ≠ 23) → (k ≠ 7 ∨ j ≠ 0) → t.1 k j = τ.1 k j
theorem QS.rf : QS τ τ := ⟨rfl, fun _ _ _ _ _ => rfl⟩
theorem QS.tr {a b c : SS} (h : QS a b) (g : QS b c) : QS a c := ⟨g.1.trans h.1, fun k j h1 h2 h3 => (g.2 k j h1 h2 h3).trans (h.2 k j h1 h2 h3)⟩
theorem HS.qs (h : HS τ t) : QS τ t := ⟨h.1, fun k j h1 h2 _ => h.2 k j h1 h2⟩
theorem MW.qs {s s2 p r bk : Nat} (h : MW τ n np F Pw U s p r bk) (q : QS τ t) : MW (sI t 7 0 (nI s2)) n np F Pw U s2 p r bk := by
  obtain ⟨hm, hu, hs, hl⟩ := h
  have g : ∀ k j, k ≠ 9 → k ≠ 7 → (k ≠ 0 ∨ j ≠ 23) → (sI t 7 0 (nI s2)).1 k j = τ.1 k j := fun k j h1 h2 h3 => by rw [sI_o (by omega)]; exact q.2 k j h1 h3 (by omega)
  exact ⟨⟨by rw [g _ _ (by omega) (by omega) (by omega)]; exact hm.1, by rw [g _ _ (by omega) (by omega) (by omega)]; exact hm.2.1, fun w k hw hk => by rw [g _ _ (by omega) (by omega) (by omega)]; exact hm.2.2.1 w k hw hk, fun w k hw hk => by rw [g _ _ (by omega) (by omega) (by omega)]; exact hm.2.2.2 w k hw hk⟩, fun i hi => by rw [g _ _ (by omega) (by omega) (by omega)]; exact hu i hi, sI_s, ⟨by rw [g _ _ (by omega) (by omega) (by omega)]; exact hl.1, by rw [g _ _ (by omega) (by omega) (by omega)]; exact hl.2.1, by rw [g _ _ (by omega) (by omega) (by omega)]; exact hl.2.2.1, by rw [g _ _ (by omega) (by omega) (by omega)]; exact hl.2.2.2⟩⟩
theorem m9 {k : Nat} (h : k < 2147483648) : ¬ nI k = -9 := by
  intro q
  have h1 := congrArg Int32.toInt q
  rw [nI_toInt h] at h1
  have : (-9 : Int32).toInt = -9 := by decide
  omega
def vS (n : Nat) (F Pw : Nat → Nat → Nat) (U od : Nat → Nat) (p r bk : Nat) (m : Int32) (h s0 S : Nat) : Bool := decide (S &&& s0 = 0) && safe n F Pw U od p r bk m h (S ||| s0)
/-- the inner search: the first of c bits -/
theorem m_sawI (hR : TR n np F Pw) (hU : UR U) (hO : OR n F od un) {s0 p r bk : Nat} (hp : p < np) (hr : r < 1000) (hbk : bk < 1000) (hs0 : s0 < 2 ^ n) (hw : MW τ n np F Pw U s0 p r bk) (m : Int32) {h c : Nat} (hh : h < 1000) (hcc : c < 10) (a4 : Int32) : ∀ (d S fuel : Nat) (t : SS), S + d = 2 ^ n → d < fuel → QS τ t → (∀ T, T < S → vS n F Pw U od p r bk m h s0 T = true → bc T ≠ c) → ∃ (v : Int32) (t' : SS), L6_saw_77 m (nI h) a4 (nI s0) (nI c) fuel (-9) (nI S) t = some (v, t') ∧ QS τ t' ∧ ((v = -9 ∧ ∀ T, T < 2 ^ n → vS n F Pw U od p r bk m h s0 T = true → bc T ≠ c) ∨ ∃ S0, v = nI S0 ∧ S0 < 2 ^ n ∧ vS n F Pw U od p r bk m h s0 S0 = true ∧ bc S0 = c ∧ ∀ T, T < S0 → vS n F Pw U od p r bk m h s0 T = true → bc T ≠ c) := by
  have r0 := hR.1
  have p12 := pow12 r0
  intro d
  induction d with
  | zero =>
    intro S fuel t h1 h2 hq hI
    obtain ⟨g, rfl⟩ : ∃ q, fuel = q + 1 := ⟨fuel - 1, by omega⟩
    refine ⟨-9, t, ?_, hq, Or.inl ⟨rfl, fun T hT => hI T (by omega)⟩⟩
    have et2 : t.1 2 0 = nI n := by rw [hq.2 2 0 (by omega) (by omega) (by omega)]; exact hw.1.1
    rw [L6_saw_77]
    simp only [gd_t (iz 2 (by omega)), gd_t (iz 3 (by omega)), tz0, et2, sh1 n (by omega)]
    rw [if_neg (by rw [c_lt (by omega) (by omega)]; omega)]
  | succ d ih =>
    intro S fuel t h1 h2 hq hI
    obtain ⟨g, rfl⟩ : ∃ q, fuel = q + 1 := ⟨fuel - 1, by omega⟩
    have bS := bc_le S
    have skip : ∀ t1, QS τ t1 → (vS n F Pw U od p r bk m h s0 S = true → bc S ≠ c) → ∃ (v : Int32) (t' : SS), L6_saw_77 m (nI h) a4 (nI s0) (nI c) g (-9) (nI (S + 1)) t1 = some (v, t') ∧ QS τ t' ∧ ((v = -9 ∧ ∀ T, T < 2 ^ n → vS n F Pw U od p r bk m h s0 T = true → bc T ≠ c) ∨ ∃ S0, v = nI S0 ∧ S0 < 2 ^ n ∧ vS n F Pw U od p r bk m h s0 S0 = true ∧ bc S0 = c ∧ ∀ T, T < S0 → vS n F Pw U od p r bk m h s0 T = true → bc T ≠ c) := by
      intro t1 h1 z
      refine ih (S + 1) g t1 (by omega) (by omega) h1 (fun T hT hv => ?_)
      by_cases e : T = S
      · subst e; exact z hv
      · exact hI T (by omega) hv
    have S2 : S ||| s0 < 4096 := Nat.lt_of_lt_of_le (Nat.or_lt_two_pow (by omega) hs0) p12
    obtain ⟨q8, hq8⟩ : ∃ q8, q8 = sI t 7 0 (nI (S ||| s0)) := ⟨_, rfl⟩
    have w8 : MW q8 n np F Pw U (S ||| s0) p r bk := by rw [hq8]; exact hw.qs hq
    have g8 : QS τ q8 := by rw [hq8]; exact ⟨hq.1, fun k j h1 h2 h3 => by rw [sI_o (by omega)]; exact hq.2 k j h1 h2 h3⟩
    obtain ⟨t1, a1, a2⟩ := m_isSafe hR hU hO hp S2 hr hbk w8 m hh
    have et2 : t.1 2 0 = nI n := by rw [hq.2 2 0 (by omega) (by omega) (by omega)]; exact hw.1.1
    rw [L6_saw_77]
    simp only [gd_t (iz 2 (by omega)), gd_t (iz 3 (by omega)), tz0, et2, sh1 n (by omega), if_true]
    rw [if_pos (by rw [c_lt (by omega) (by omega)]; omega), m_bits (by omega), bd_e, nI_and, nI_or, Nat.or_comm s0 S, ← hq8]
    simp only [lt_e, nI_1]
    by_cases g1 : bc S = c
    · by_cases cc : c < 2147483648
      · rw [if_pos (by rw [g1])]
        have a4 : S &&& s0 < 4096 := Nat.lt_of_le_of_lt Nat.and_le_left (by omega)
        by_cases g2 : S &&& s0 = 0
        · rw [if_pos (by rw [g2]; rfl), a1, bk2_e, ib0]
          cases q : safe n F Pw U od p r bk m h (S ||| s0) with
          | false => exact skip t1 (g8.tr a2.qs) (fun hv => by unfold vS at hv; rw [q, Bool.and_false] at hv; cases hv)
          | true =>
            simp only [cond_true]
            have hv : vS n F Pw U od p r bk m h s0 S = true := by unfold vS; rw [q, decide_eq_true g2]; rfl
            obtain ⟨g, rfl⟩ : ∃ q, g = q + 1 := ⟨g - 1, by omega⟩
            refine ⟨nI S, t1, ?_, g8.tr a2.qs, Or.inr ⟨S, rfl, by omega, hv, g1, hI⟩⟩
            rw [L6_saw_77, gd_t (iz 2 (by omega)), if_neg (m9 (by omega))]
            split <;> rfl
        · rw [if_neg (by rw [l0, c_eq (by omega) (by omega)]; exact g2)]
          exact skip t hq (fun hv => by unfold vS at hv; rw [decide_eq_false g2, Bool.false_and] at hv; cases hv)
      · omega
    · by_cases g3 : nI (bc S) = nI c
      · rw [c_eq (by omega) (by omega)] at g3
        exact absurd g3 g1
      · rw [if_neg g3]
        exact skip t hq (fun _ => g1)
theorem m_saw (hR : TR n np F Pw) (hU : UR U) (hO : OR n F od un) {s0 p r bk : Nat} (hp : p < np) (hr : r < 1000) (hbk : bk < 1000) (hs0 : s0 < 2 ^ n) (hw : MW τ n np F Pw U s0 p r bk) (m : Int32) {h : Nat} (hh : h < 1000) (a4 : Int32) : ∀ (d c fuel : Nat) (t : SS), c + d = 4 → d < fuel → QS τ t → (∀ T, T < 2 ^ n → vS n F Pw U od p r bk m h s0 T = true → c ≤ bc T) → ∃ (v : Int32) (t' : SS), L6_saw_61 m (nI h) a4 (nI s0) fuel (-9) (nI c) t = some (v, t') ∧ QS τ t' ∧ ((v = -9 ∧ AnsN (2 ^ n) (vS n F Pw U od p r bk m h s0)) ∨ ∃ S0, v = nI S0 ∧ AnsS (2 ^ n) (vS n F Pw U od p r bk m h s0) S0) := by
  have r0 := hR.1
  have p12 := pow12 r0
  intro d
  induction d with
  | zero =>
    intro c fuel t h1 h2 hq hI
    obtain ⟨g, rfl⟩ : ∃ q, fuel = q + 1 := ⟨fuel - 1, by omega⟩
    refine ⟨-9, t, ?_, hq, Or.inl ⟨rfl, fun T hT hv => by have := hI T hT hv; omega⟩⟩
    rw [L6_saw_61, if_neg (by rw [l3, c_le (by omega) (by omega)]; omega)]
  | succ d ih =>
    intro c fuel t h1 h2 hq hI
    obtain ⟨g, rfl⟩ : ∃ q, fuel = q + 1 := ⟨fuel - 1, by omega⟩
    obtain ⟨v, t1, a1, a2, a3⟩ := m_sawI hR hU hO hp hr hbk hs0 hw m hh (c := c) (by omega) a4 (2 ^ n) 0 FU t (by omega) (by unfold FU; omega) hq (fun T hT => by omega)
    rw [L6_saw_61, if_pos (by rw [l3, c_le (by omega) (by omega)]; omega), if_pos rfl, show L6_saw_77 m (nI h) a4 (nI s0) (nI c) FU (-9) 0 t = _ from a1, bk2_e, lt_e, nI_1]
    rcases a3 with ⟨rfl, b⟩ | ⟨S0, rfl, b1, b2, b3, b4⟩
    · exact ih (c + 1) g t1 (by omega) (by omega) a2 (fun T hT hv => by have := hI T hT hv; have := b T hT hv; omega)
    · obtain ⟨g, rfl⟩ : ∃ q, g = q + 1 := ⟨g - 1, by omega⟩
      refine ⟨nI S0, t1, ?_, a2, Or.inr ⟨S0, rfl, b1, b2, by omega, fun T hT hv => by rw [b3]; exact hI T hT hv, fun T hT hv => by rw [b3]; exact b4 T hT hv⟩⟩
      rw [L6_saw_61, if_neg (m9 (by omega))]
      split <;> rfl
theorem x_leastToSaw (hR : TR n np F Pw) (hx : XT s n np F Pw) (hU : UR U) (hu : XU s U) (hO : OR n F od un) (ho : XO s n od un) {s0 p r bk : Nat} (hp : p < np) (hl : XL s (NN n (may F Pw U s0 p r bk)) (TT n (hol F Pw U p))) (hs0 : s0 < 2 ^ n) (hsw : s.1 17 7 = nI s0) (m : Int32) {h : Nat} (hh : h < 1000) : ∃ l', f5_leastToSaw m (nI h) s = some l' ∧ ((l' = -9 ∧ AnsN (2 ^ n) (vS n F Pw U od p r bk m h s0)) ∨ ∃ S0, l' = nI S0 ∧ AnsS (2 ^ n) (vS n F Pw U od p r bk m h s0) S0) := by
  have p12 := pow12 hR.1
  obtain ⟨l', k1, k2⟩ := x_leastL hR hx hU hu hO ho hp hl hs0 hsw m hh (2 ^ n) 0 FU (by omega) (by unfold FU; omega) (-9) 4 (Or.inl ⟨rfl, rfl, fun T hT => by omega⟩)
  have k1 : L5_leastToSaw_9 m (nI h) s FU (-9) 4 0 = some l' := k1
  refine ⟨l', ?_, k2⟩
  unfold f5_leastToSaw
  rw [k1, bk1_e]
theorem ans_same {N : Nat} {V : Nat → Bool} {l v : Int32} (h1 : (l = -9 ∧ AnsN N V) ∨ ∃ S0, l = nI S0 ∧ AnsS N V S0) (h2 : (v = -9 ∧ AnsN N V) ∨ ∃ S0, v = nI S0 ∧ AnsS N V S0) : l = v := by
  rcases h1 with ⟨a, b⟩ | ⟨S, a, b⟩ <;> rcases h2 with ⟨c, d⟩ | ⟨T, c, d⟩
  · rw [a, c]
  · have := b T d.1 d.2.1; have := d.2.2.1; omega
  · have := d S b.1 b.2.1; have := b.2.2.1; omega
  · have e1 := b.2.2.2.1 T d.1 d.2.1
    have e2 := d.2.2.2.1 S b.1 b.2.1
    have : S = T := by
      rcases Nat.lt_trichotomy S T with q | q | q
      · exact absurd (by omega) (d.2.2.2.2 S q b.2.1)
      · exact q
      · exact absurd (by omega) (b.2.2.2.2 T q d.2.1)
    rw [a, c, this]
theorem r_saw (h : RR σ τ) (a b c d : Int32) : BI (f5_saw a b c d σ) (f6_saw a b c d τ) := by
  have h' := h
  obtain ⟨⟨n, np, F, Pw, U, od, un, ci, kp, h1, h2⟩, -, -, -, hf⟩ := h
  obtain ⟨hR, hx, hm, hU, hux, hum, hO, hxo⟩ := h1
  obtain ⟨c1, c2, c3⟩ := h2.2.2 0 (Or.inl rfl)
  have r0 := hR.1
  have r1 := hR.2.1
  have p12 := pow12 r0
  obtain ⟨s, hs⟩ : ∃ s, s = (ci 0).2.2.2.2.2.2.2 := ⟨_, rfl⟩
  have hs0 : s < 2 ^ n := by rw [hs]; exact c1.2.2.2
  have hs4 : s < 4096 := by omega
  have hsx : σ.1 17 7 = nI s := by rw [hs]; exact c2.2.2.2.2.2.2.2
  have hsm : τ.1 7 0 = nI s := by rw [hs]; exact c3.2.2.2.2.2.2.2
  have bad : ∀ v : Int32, BI (some (v, σ)) (some (v, τ)) := fun v => ⟨v, σ, τ, rfl, rfl, h'⟩
  unfold f5_saw f6_saw
  rw [m_isBody hR hm]
  simp only [lt_e, x_isBody' hR hx, bd_e, ib0, f6_in_b, show (9999 : Int32) = nI 9999 from rfl, show (99 : Int32) = nI 99 from rfl]
  rcases ok_cases a (n := np) (by omega) with e | ⟨p, hp, rfl, e⟩
  · rw [e]
    simp only [cond_false]
    have B := bad (-1)
    split <;> (try exact B)
    split <;> (try exact B)
    split <;> (try exact B)
    split <;> (try exact B)
    split <;> (try exact B)
    split <;> exact B
  · rw [e]
    simp only [cond_true]
    have t0 : ∀ {α : Type} (x y : α), (if (0 : Int32) = 0 then x else y) = x := fun x y => if_pos rfl
    have t1 : ∀ {α : Type} (x y : α), (if (1 : Int32) = 0 then x else y) = y := fun x y => if_neg (by decide)
    simp only [t0, t1, if_true]
    simp only [l1]
    rw [x_rng (by omega)]
    rcases in_range (a := b) (hi := 9999) (by omega) with ⟨e1, l, hl, rfl⟩ | ⟨e1, -⟩
    · rw [e1]
      simp only [cond_true]
      rw [x_rng (by omega)]
      rcases in_range (a := c) (hi := 99) (by omega) with ⟨e2, t, ht, rfl⟩ | ⟨e2, -⟩
      · rw [e2]
        simp only [cond_true]
        rw [x_rng (by omega)]
        rcases in_range (a := d) (hi := 1) (by omega) with ⟨e3, w, hw, rfl⟩ | ⟨e3, -⟩
        · rw [e3]
          simp only [cond_true]
          have p0 := hR.2.2.2 p hp
          have u5 := hU.2.2.2.2.2.2.2
          obtain ⟨s1, a1, a2, a3⟩ := x_look hR hx hU hux hf hs4 hsx hp (mo := 0) (by omega) (bk := U 5) (by omega)
          rw [show Pw 0 p + 0 = Pw 0 p by omega] at a3
          obtain ⟨q5, q1, q2, q3⟩ := m_lookW hR hm hum hsm hp
          obtain ⟨l', k1, k2⟩ := x_leastToSaw hR (a2.xt hx) hU (a2.xu hux) hO (a2.xo hxo) hp a3 hs0 (a2.sw hsx) (nI l) (h := t) (by omega)
          obtain ⟨v, q21, j1, j2, j3⟩ := m_saw hR hU hO hp (by omega) (by omega) hs0 q3 (nI l) (h := t) (by omega) (nI w) 4 0 FU q5 (by omega) (by unfold FU; omega) QS.rf (fun T _ _ => Nat.zero_le _)
          have ev := ans_same k2 j3
          subst ev
          have j1 : L6_saw_61 (nI l) (nI t) (nI w) (nI s) FU (-9) 0 q5 = some (l', q21) := j1
          have fin : RR s1 (sI q21 7 0 (nI s)) := h'.scr a2 (q2.tr ⟨j2.1, fun k j h1 h2 => by
            by_cases g : k = 7 ∧ j = 0
            · rw [g.1, g.2, sI_s]; exact q3.2.2.1.symm
            · rw [sI_o (by omega)]; exact j2.2 k j h1 (by omega) (by omega)⟩)
          rw [show f5_tuned 5 σ = some (nI (U 5)) from x_tuned hux (i := 5) (by omega), q1]
          simp only [bd_e, gd_t (iz 3 (by omega)), tz0]
          rw [show f5_look (nI p) 0 (nI (U 5)) σ = some s1 from a1, q3.2.2.1, j1]
          simp only [bd_e, bk2_e]
          rw [k1, bd_e]
          by_cases g0 : nI w = 0
          · simp only [if_pos g0]
            refine ⟨l', s1, _, rfl, ?_, fin⟩
            split <;> rfl
          · simp only [if_neg g0]
            by_cases g9 : l' = -9
            · simp only [if_pos g9]
              exact ⟨l', s1, _, rfl, rfl, fin⟩
            · simp only [if_neg g9]
              rcases k2 with ⟨k3, -⟩ | ⟨S0, rfl, k4⟩
              · exact absurd k3 g9
              · have := k4.1
                rw [x_bits (by omega), m_bits (by omega), bd_e, bd_e]
                exact ⟨_, s1, _, rfl, rfl, fin⟩
        · rw [e3]; exact bad _
      · rw [e2]; exact bad _
    · rw [e1]; exact bad _
end T
