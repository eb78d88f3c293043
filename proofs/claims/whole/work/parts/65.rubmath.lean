/-! ways upward: pure numbers -/
def su (f : Nat → Nat) : Nat → Nat
  | 0 => 0
  | m + 1 => su f m + f m
theorem su_cg {f g : Nat → Nat} : ∀ m, (∀ i, i < m → f i = g i) → su f m = su g m := by
  intro m
  induction m with
  | zero => intro _; rfl
  | succ m ih => intro h; rw [su, su, ih (fun i hi => h i (by omega)), h m (by omega)]
theorem su_0 {f : Nat → Nat} : ∀ m, (∀ i, i < m → f i = 0) → su f m = 0 := by
  intro m
  induction m with
  | zero => intro _; rfl
  | succ m ih => intro h; rw [su, ih (fun i hi => h i (by omega)), h m (by omega)]
theorem su_le {f : Nat → Nat} {c : Nat} : ∀ m, (∀ i, i < m → f i ≤ c) → su f m ≤ m * c := by
  intro m
  induction m with
  | zero => intro _; exact Nat.zero_le _
  | succ m ih =>
    intro h
    have h1 := ih (fun i hi => h i (by omega))
    have h2 := h m (by omega)
    rw [su, Nat.succ_mul]
    omega
theorem su_mul {f : Nat → Nat} {c : Nat} : ∀ m, su (fun i => c * f i) m = c * su f m := by
  intro m
  induction m with
  | zero => rfl
  | succ m ih => rw [su, su, ih, Nat.mul_add]
theorem su_mono {f : Nat → Nat} {k m : Nat} (h : k ≤ m) : su f k ≤ su f m := by
  induction m with
  | zero => rw [show k = 0 by omega]; exact Nat.le_refl _
  | succ m ih =>
    by_cases e : k = m + 1
    · subst e; exact Nat.le_refl _
    · have := ih (by omega)
      rw [su]; omega
/-- ways from f to b over the edges E -/
def wy (n : Nat) (E : Nat → Nat → Bool) (f : Nat) : Nat → Nat → Nat
  | 0, b => if b = f then 1 else 0
  | k + 1, b => if b = f then 1 else su (fun a => if (a < n ∨ a = 12) ∧ E a b = true then wy n E f k a else 0) 13
section W
variable {n : Nat} {E : Nat → Nat → Bool} {h : Nat → Nat} {f : Nat}
theorem wy_st (hE : ∀ a b, E a b = true → h a < h b) : ∀ (m k k' b : Nat), h b < m → h b ≤ k → h b ≤ k' → wy n E f k b = wy n E f k' b := by
  intro m
  induction m with
  | zero => intro k k' b hb; omega
  | succ m ih =>
    have low : ∀ (k' b : Nat), h b = 0 → wy n E f 0 b = wy n E f k' b := by
      intro k' b hb
      cases k' with
      | zero => rfl
      | succ k' =>
        rw [wy, wy]
        by_cases e : b = f
        · rw [if_pos e, if_pos e]
        · rw [if_neg e, if_neg e, su_0 13 (fun a _ => by
            show (if (a < n ∨ a = 12) ∧ E a b = true then wy n E f k' a else 0) = 0
            rw [if_neg (fun q => by have := hE a b q.2; omega)])]
    intro k k' b hb h1 h2
    cases k with
    | zero => exact low k' b (by omega)
    | succ k =>
      cases k' with
      | zero => exact (low (k + 1) b (by omega)).symm
      | succ k' =>
        rw [wy, wy]
        by_cases e : b = f
        · rw [if_pos e, if_pos e]
        · rw [if_neg e, if_neg e]
          refine su_cg 13 (fun a _ => ?_)
          show (if (a < n ∨ a = 12) ∧ E a b = true then wy n E f k a else 0) = (if (a < n ∨ a = 12) ∧ E a b = true then wy n E f k' a else 0)
          by_cases q : (a < n ∨ a = 12) ∧ E a b = true
          · have := hE a b q.2
            rw [if_pos q, if_pos q, ih k k' a (by omega) (by omega) (by omega)]
          · rw [if_neg q, if_neg q]
def Wu (n : Nat) (E : Nat → Nat → Bool) (f b : Nat) : Nat := wy n E f 100 b
theorem W_eq (hE : ∀ a b, E a b = true → h a < h b) (hh : ∀ a, pl n a → h a ≤ 99) {b : Nat} (hb : pl n b) : Wu n E f b = if b = f then 1 else su (fun a => if (a < n ∨ a = 12) ∧ E a b = true then Wu n E f a else 0) 13 := by
  show wy n E f (99 + 1) b = _
  rw [wy]
  by_cases e : b = f
  · rw [if_pos e, if_pos e]
  · rw [if_neg e, if_neg e]
    refine su_cg 13 (fun a _ => ?_)
    show (if (a < n ∨ a = 12) ∧ E a b = true then wy n E f 99 a else 0) = (if (a < n ∨ a = 12) ∧ E a b = true then Wu n E f a else 0)
    by_cases q : (a < n ∨ a = 12) ∧ E a b = true
    · have := hh a q.1
      rw [if_pos q, if_pos q]
      exact wy_st hE 100 99 100 a (by omega) (by omega) (by omega)
    · rw [if_neg q, if_neg q]
theorem W_ff : Wu n E f f = 1 := by
  show wy n E f (99 + 1) f = 1
  rw [wy, if_pos rfl]
/-- none at or below the start -/
theorem W_low (hE : ∀ a b, E a b = true → h a < h b) (hh : ∀ a, pl n a → h a ≤ 99) : ∀ (m b : Nat), h b < m → pl n b → b ≠ f → h b ≤ h f → Wu n E f b = 0 := by
  intro m
  induction m with
  | zero => intro b hb; omega
  | succ m ih =>
    intro b hb hp hf hl
    rw [W_eq hE hh hp, if_neg hf]
    refine su_0 13 (fun a _ => ?_)
    show (if (a < n ∨ a = 12) ∧ E a b = true then Wu n E f a else 0) = 0
    by_cases q : (a < n ∨ a = 12) ∧ E a b = true
    · have := hE a b q.2
      rw [if_pos q]
      exact ih a (by omega) q.1 (fun e => by rw [e] at this; omega) (by omega)
    · rw [if_neg q]
end W
section V
variable {n : Nat} {M : Nat → Nat → Bool} {h : Nat → Nat} {set : Nat}
/-- the step from a to b leaves out one of the set for good -/
def skp (n : Nat) (h : Nat → Nat) (set a b : Nat) : Prop := ∃ s, s < n ∧ set.testBit s = true ∧ s ≠ a ∧ s ≠ b ∧ h a ≤ h s ∧ h s ≤ h b
def anyb (P : Nat → Bool) : Nat → Bool
  | 0 => false
  | m + 1 => anyb P m || P m
theorem anyb_iff {P : Nat → Bool} : ∀ m, anyb P m = true ↔ ∃ s, s < m ∧ P s = true := by
  intro m
  induction m with
  | zero =>
    constructor
    · intro q; simp [anyb] at q
    · rintro ⟨s, q, -⟩; omega
  | succ m ih =>
    rw [anyb, Bool.or_eq_true, ih]
    constructor
    · rintro (⟨s, h1, h2⟩ | h)
      · exact ⟨s, by omega, h2⟩
      · exact ⟨m, by omega, h⟩
    · rintro ⟨s, h1, h2⟩
      by_cases e : s = m
      · subst e; exact Or.inr h2
      · exact Or.inl ⟨s, by omega, h2⟩
def skb (h : Nat → Nat) (set a b s : Nat) : Bool := set.testBit s && decide (s ≠ a) && decide (s ≠ b) && decide (h a ≤ h s) && decide (h s ≤ h b)
def skB (n : Nat) (h : Nat → Nat) (set a b : Nat) : Bool := anyb (skb h set a b) n
theorem skB_iff {a b : Nat} : skB n h set a b = true ↔ skp n h set a b := by
  unfold skB skp
  rw [anyb_iff]
  unfold skb
  constructor
  · rintro ⟨s, h1, h2⟩
    simp only [Bool.and_eq_true, decide_eq_true_eq] at h2
    exact ⟨s, h1, h2.1.1.1.1, h2.1.1.1.2, h2.1.1.2, h2.1.2, h2.2⟩
  · rintro ⟨s, h1, h2, h3, h4, h5, h6⟩
    exact ⟨s, h1, by simp only [Bool.and_eq_true, decide_eq_true_eq]; exact ⟨⟨⟨⟨h2, h3⟩, h4⟩, h5⟩, h6⟩⟩
def EM (h : Nat → Nat) (M : Nat → Nat → Bool) (a b : Nat) : Bool := decide (h a < h b) && M a b
def EC (n : Nat) (h : Nat → Nat) (M : Nat → Nat → Bool) (set a b : Nat) : Bool := decide (h a < h b) && M a b && !skB n h set a b
theorem EM_h {a b : Nat} (q : EM h M a b = true) : h a < h b := by
  unfold EM at q
  rw [Bool.and_eq_true] at q
  exact of_decide_eq_true q.1
theorem EC_h {a b : Nat} (q : EC n h M set a b = true) : h a < h b := by
  unfold EC at q
  rw [Bool.and_eq_true, Bool.and_eq_true] at q
  exact of_decide_eq_true q.1.1
theorem EC_ff {a b : Nat} (hs : skp n h set a b) : EC n h M set a b = false := by
  unfold EC
  rw [skB_iff.mpr hs]; simp
theorem EC_tt {a b : Nat} (hs : ¬ skp n h set a b) : EC n h M set a b = EM h M a b := by
  have z : skB n h set a b = false := by
    cases q : skB n h set a b
    · rfl
    · exact absurd (skB_iff.mp q) hs
  unfold EC EM
  rw [z]; simp
/-- over the last one of the set -/
theorem W_last (hh : ∀ a, pl n a → h a ≤ 99) (h12 : h 12 = 0) (h1 : ∀ a, a < n → 1 ≤ h a) {L : Nat} (hL : L = 12 ∨ (L < n ∧ set.testBit L = true)) : ∀ (m b : Nat), h b < m → b < n → h L < h b → (∀ s, s < n → set.testBit s = true → s ≠ L → s ≠ b → ¬ (h L ≤ h s ∧ h s ≤ h b)) → Wu n (EC n h M set) 12 b = Wu n (EC n h M set) 12 L * Wu n (EM h M) L b := by
  intro m
  induction m with
  | zero => intro b hb; omega
  | succ m ih =>
    intro b hb hbn hlt hs
    have b12 : b ≠ 12 := fun e => by rw [e, h12] at hlt; omega
    have bL : b ≠ L := fun e => by rw [e] at hlt; omega
    rw [W_eq (h := h) (fun _ _ => EC_h) hh (Or.inl hbn), if_neg b12, W_eq (E := EM h M) (h := h) (fun _ _ => EM_h) hh (Or.inl hbn), if_neg bL, ← su_mul]
    refine su_cg 13 (fun a _ => ?_)
    show (if (a < n ∨ a = 12) ∧ EC n h M set a b = true then Wu n (EC n h M set) 12 a else 0) = Wu n (EC n h M set) 12 L * (if (a < n ∨ a = 12) ∧ EM h M a b = true then Wu n (EM h M) L a else 0)
    by_cases pa : a < n ∨ a = 12
    · by_cases hab : h a < h b
      · by_cases aL : a = L
        · have ns : ¬ skp n h set a b := by
            rintro ⟨s, k1, k2, k3, k4, k5, k6⟩
            exact hs s k1 k2 (aL ▸ k3) k4 ⟨by rw [← aL]; exact k5, k6⟩
          rw [EC_tt ns, aL, W_ff]
          split <;> simp
        · by_cases hal : h L < h a
          · have ns : ¬ skp n h set a b := by
              rintro ⟨s, k1, k2, k3, k4, k5, k6⟩
              exact hs s k1 k2 (fun e => by rw [e] at k5; omega) k4 ⟨by omega, k6⟩
            rw [EC_tt ns]
            by_cases q : (a < n ∨ a = 12) ∧ EM h M a b = true
            · rw [if_pos q, if_pos q]
              have an : a < n := by
                rcases pa with e | e
                · exact e
                · rw [e, h12] at hal; omega
              refine ih a (by omega) an hal (fun s k1 k2 k3 k4 k5 => hs s k1 k2 k3 (fun e => by rw [e] at k5; omega) ⟨k5.1, by omega⟩)
            · rw [if_neg q, if_neg q]; simp
          · have Wz : Wu n (EM h M) L a = 0 := W_low (h := h) (fun _ _ => EM_h) hh (h a + 1) a (by omega) pa aL (by omega)
            have sk : skp n h set a b := by
              rcases hL with e | ⟨e1, e2⟩
              · exfalso
                rw [e, h12] at hal
                rcases pa with q | q
                · have := h1 a q; omega
                · exact aL (q.trans e.symm)
              · exact ⟨L, e1, e2, fun e => aL e.symm, fun e => bL e.symm, by omega, by omega⟩
            rw [EC_ff sk, if_neg (by simp), Wz]
            split <;> simp
      · rw [if_neg (fun q => hab (EC_h q.2)), if_neg (fun q => hab (EM_h q.2))]; simp
    · rw [if_neg (fun q => pa q.1), if_neg (fun q => pa q.1)]; simp
/-- two of the set at one height: none comes above -/
theorem W_dead (hh : ∀ a, pl n a → h a ≤ 99) (h12 : h 12 = 0) (h1 : ∀ a, a < n → 1 ≤ h a) {x y : Nat} (hx : x < n) (hy : y < n) (sx : set.testBit x = true) (sy : set.testBit y = true) (hxy : x ≠ y) (he : h x = h y) : ∀ (m b : Nat), h b < m → b < n → h x ≤ h b → Wu n (EC n h M set) 12 b = 0 := by
  intro m
  induction m with
  | zero => intro b hb; omega
  | succ m ih =>
    intro b hb hbn hl
    have := h1 x hx
    have b12 : b ≠ 12 := fun e => by rw [e, h12] at hl; omega
    rw [W_eq (h := h) (fun _ _ => EC_h) hh (Or.inl hbn), if_neg b12]
    refine su_0 13 (fun a _ => ?_)
    show (if (a < n ∨ a = 12) ∧ EC n h M set a b = true then Wu n (EC n h M set) 12 a else 0) = 0
    by_cases q : (a < n ∨ a = 12) ∧ EC n h M set a b = true
    · rw [if_pos q]
      have hab := EC_h q.2
      by_cases l : h x ≤ h a
      · refine ih a (by omega) ?_ l
        rcases q.1 with e | e
        · exact e
        · rw [e, h12] at l; omega
      · exfalso
        have sk : skp n h set a b := by
          by_cases e : x = b
          · exact ⟨y, hy, sy, fun e2 => by rw [← e2] at l; omega, fun e2 => hxy (e.trans e2.symm), by omega, by omega⟩
          · exact ⟨x, hx, sx, fun e2 => by rw [← e2] at l; omega, e, by omega, by omega⟩
        have := q.2
        rw [EC_ff sk] at this
        cases this
    · rw [if_neg q]
/-- no number of ways is great -/
theorem W_bound {E : Nat → Nat → Bool} (hE : ∀ a b, E a b = true → h a < h b) (hh : ∀ a, pl n a → h a ≤ 99) (h12 : h 12 = 0) (hn : n ≤ 12) {od : Nat → Nat} (o1 : ∀ i, i < n → od i < n) (o2 : ∀ i j, i < j → j < n → h (od j) ≤ h (od i)) (o3 : ∀ k, k < n → ∃ i, i < n ∧ od i = k) (f : Nat) : ∀ a, pl n a → Wu n E f a ≤ 13 ^ 12 := by
  have g : Wu n E f 12 ≤ 1 := by
    rw [W_eq hE hh (Or.inr rfl)]
    by_cases e : 12 = f
    · rw [if_pos e]; exact Nat.le_refl _
    · rw [if_neg e, su_0 13 (fun a _ => by
        show (if (a < n ∨ a = 12) ∧ E a 12 = true then Wu n E f a else 0) = 0
        rw [if_neg (fun q => by have := hE a 12 q.2; omega)])]
      omega
  have main : ∀ d i, i + d = n → ∀ j, i ≤ j → j < n → Wu n E f (od j) ≤ 13 ^ d := by
    intro d
    induction d with
    | zero => intro i h1 j h2 h3; omega
    | succ d ih =>
      intro i h1 j h2 h3
      have p1 : 1 ≤ 13 ^ d := Nat.one_le_pow _ _ (by omega)
      have p2 : 13 ^ (d + 1) = 13 * 13 ^ d := by rw [Nat.pow_succ, Nat.mul_comm]
      by_cases e : i = j
      · subst e
        rw [W_eq hE hh (Or.inl (o1 i h3))]
        by_cases e2 : od i = f
        · rw [if_pos e2]; omega
        · rw [if_neg e2, p2]
          refine su_le 13 (fun a _ => ?_)
          show (if (a < n ∨ a = 12) ∧ E a (od i) = true then Wu n E f a else 0) ≤ 13 ^ d
          by_cases q : (a < n ∨ a = 12) ∧ E a (od i) = true
          · rw [if_pos q]
            have hl := hE a _ q.2
            rcases q.1 with e3 | e3
            · obtain ⟨k, k1, k2⟩ := o3 a e3
              have : i < k := by
                rcases Nat.lt_trichotomy i k with z | z | z
                · exact z
                · rw [z, k2] at hl; omega
                · have := o2 k i z h3; rw [k2] at this; omega
              rw [← k2]
              exact ih (i + 1) (by omega) k (by omega) k1
            · rw [e3]; omega
          · rw [if_neg q]; exact Nat.zero_le _
      · have := ih (i + 1) (by omega) j (by omega) h3
        omega
  intro a ha
  rcases ha with e | e
  · obtain ⟨k, k1, k2⟩ := o3 a e
    have := main n 0 (by omega) k (by omega) k1
    rw [k2] at this
    exact Nat.le_trans this (Nat.pow_le_pow_right (by omega) hn)
  · rw [e]; exact Nat.le_trans g (by decide)
end V
