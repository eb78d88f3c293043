/-! ways: pure numbers -/
/-- the mask of the places below m that P tells -/
def msk (P : Nat → Bool) : Nat → Nat
  | 0 => 0
  | m + 1 => if P m = true then msk P m ||| 2 ^ m else msk P m
theorem msk_lt (P : Nat → Bool) : ∀ m, msk P m < 2 ^ m := by
  intro m
  induction m with
  | zero => show 0 < 2 ^ 0; omega
  | succ m ih =>
    have h2 : msk P m < 2 ^ (m + 1) := Nat.lt_of_lt_of_le ih (Nat.pow_le_pow_right (by omega) (by omega))
    rw [msk]
    split
    · exact Nat.or_lt_two_pow h2 (Nat.pow_lt_pow_right (by omega) (by omega))
    · exact h2
theorem msk_tb (P : Nat → Bool) (j : Nat) : ∀ m, (msk P m).testBit j = (decide (j < m) && P j) := by
  intro m
  induction m with
  | zero => rw [msk, Nat.zero_testBit]; simp
  | succ m ih =>
    rw [msk]
    split
    · next h =>
      rw [Nat.testBit_or, ih, Nat.testBit_two_pow]
      by_cases e : m = j
      · subst e; simp [h]
      · by_cases l : j < m
        · simp [l, show j < m + 1 by omega, e]
        · simp [l, show ¬ j < m + 1 by omega, e]
    · next h =>
      rw [ih]
      by_cases e : m = j
      · subst e; simp [h]
      · by_cases l : j < m
        · simp [l, show j < m + 1 by omega]
        · simp [l, show ¬ j < m + 1 by omega]
/-- the greatest of the first m -/
def mx (f : Nat → Nat) : Nat → Nat
  | 0 => 0
  | m + 1 => max (mx f m) (f m)
theorem mx_le {f : Nat → Nat} {c : Nat} : ∀ m, (∀ i, i < m → f i ≤ c) → mx f m ≤ c := by
  intro m
  induction m with
  | zero => intro _; exact Nat.zero_le _
  | succ m ih =>
    intro h
    rw [mx]
    have h1 := ih (fun i hi => h i (by omega))
    have h2 := h m (by omega)
    omega
theorem mx_ge {f : Nat → Nat} {m i : Nat} (h : i < m) : f i ≤ mx f m := by
  induction m with
  | zero => omega
  | succ m ih =>
    rw [mx]
    by_cases e : i = m
    · subst e; omega
    · have := ih (by omega); omega
theorem mx_at {f : Nat → Nat} : ∀ m, mx f m = 0 ∨ ∃ i, i < m ∧ mx f m = f i := by
  intro m
  induction m with
  | zero => exact Or.inl rfl
  | succ m ih =>
    rw [mx]
    by_cases g : mx f m ≤ f m
    · exact Or.inr ⟨m, by omega, by omega⟩
    · rcases ih with h | ⟨i, hi, h⟩
      · omega
      · exact Or.inr ⟨i, by omega, by omega⟩
/-- a slot of the class's rows, as a place -/
def pm (i : Nat) : Nat := if i = 0 then 12 else i - 1
def sm (a : Nat) : Nat := if a = 12 then 0 else a + 1
theorem pm_sm {a : Nat} (h : a ≤ 12) : pm (sm a) = a := by
  unfold pm sm
  by_cases e : a = 12
  · rw [if_pos e, if_pos rfl, e]
  · rw [if_neg e, if_neg (by omega)]; omega
theorem sm_pm {i : Nat} (h : i ≤ 12) : sm (pm i) = i := by
  unfold pm sm
  by_cases e : i = 0
  · rw [if_pos e, if_pos rfl, e]
  · rw [if_neg e, if_neg (by omega)]; omega
theorem pm_pl {n i : Nat} (hn : n ≤ 12) (hi : i ≤ 12) : pl n (pm i) ↔ i ≤ n := by
  unfold pl pm
  by_cases e : i = 0
  · rw [if_pos e]; omega
  · rw [if_neg e]; omega
theorem sm_lt {n a : Nat} (hn : n ≤ 12) (h : pl n a) : sm a ≤ n := by
  unfold sm
  rcases h with h | h
  · rw [if_neg (by omega)]; omega
  · rw [if_pos h]; omega
theorem pm_le {i : Nat} (h : i ≤ 12) : pm i ≤ 12 := by
  unfold pm
  split <;> omega
def WH : Nat := 1000000000000
/-- the best odds from a place, in k steps -/
def G (n : Nat) (M : Nat → Nat → Bool) (H : Nat → Nat) (st : Nat) : Nat → Nat → Nat
  | 0, b => if b = st then WH else 0
  | k + 1, b => if b < n ∨ b = 12 then mx (fun a => if 0 < G n M H st k a ∧ M a b = true then G n M H st k a / 10 * H b else 0) 13 else 0
section G
variable {n : Nat} {M : Nat → Nat → Bool} {H : Nat → Nat} {st : Nat}
theorem G_pl (hs : pl n st) : ∀ k b, 0 < G n M H st k b → pl n b := by
  intro k b h
  cases k with
  | zero =>
    rw [G] at h
    by_cases e : b = st
    · rw [e]; exact hs
    · rw [if_neg e] at h; omega
  | succ k =>
    rw [G] at h
    by_cases e : b < n ∨ b = 12
    · exact e
    · rw [if_neg e] at h; omega
theorem G_le (hH : ∀ b, pl n b → H b ≤ 10) : ∀ k b, G n M H st k b ≤ WH := by
  intro k
  induction k with
  | zero =>
    intro b
    rw [G]
    split
    · exact Nat.le_refl _
    · exact Nat.zero_le _
  | succ k ih =>
    intro b
    rw [G]
    split
    · next hb =>
      refine mx_le 13 (fun a ha => ?_)
      split
      · have h1 := ih a
        have h2 : G n M H st k a / 10 * H b ≤ G n M H st k a / 10 * 10 := Nat.mul_le_mul_left _ (hH b hb)
        omega
      · exact Nat.zero_le _
    · exact Nat.zero_le _
theorem G_dvd : ∀ k b, k ≤ 12 → ∃ c, G n M H st k b = 10 ^ (12 - k) * c := by
  intro k
  induction k with
  | zero =>
    intro b _
    rw [G]
    split
    · exact ⟨1, by decide⟩
    · exact ⟨0, rfl⟩
  | succ k ih =>
    intro b hk
    rw [G]
    split
    · rcases mx_at (f := fun a => if 0 < G n M H st k a ∧ M a b = true then G n M H st k a / 10 * H b else 0) 13 with h | ⟨a, ha, h⟩
      · exact ⟨0, by rw [h]; rfl⟩
      · rw [h]
        show ∃ c, (if 0 < G n M H st k a ∧ M a b = true then G n M H st k a / 10 * H b else 0) = _
        split
        · obtain ⟨c, hc⟩ := ih a (by omega)
          refine ⟨c * H b, ?_⟩
          rw [hc, show 12 - k = (12 - (k + 1)) + 1 by omega, Nat.pow_succ, show 10 ^ (12 - (k + 1)) * 10 * c = 10 ^ (12 - (k + 1)) * c * 10 by rw [Nat.mul_assoc, Nat.mul_comm 10 c, Nat.mul_assoc], Nat.mul_div_cancel _ (by omega), Nat.mul_assoc]
        · exact ⟨0, rfl⟩
    · exact ⟨0, rfl⟩
theorem G_10 {k b : Nat} (hk : k < 12) : G n M H st k b = G n M H st k b / 10 * 10 := by
  obtain ⟨c, hc⟩ := G_dvd (n := n) (M := M) (H := H) (st := st) k b (by omega)
  rw [show 12 - k = (12 - (k + 1)) + 1 by omega, Nat.pow_succ] at hc
  have : G n M H st k b = (10 ^ (12 - (k + 1)) * c) * 10 := by rw [hc, Nat.mul_assoc, Nat.mul_comm 10 c, Nat.mul_assoc]
  omega
/-- the class's row, one step on -/
theorem G_cls (hn : n ≤ 12) (hs : pl n st) {k j : Nat} (hk : k < 12) (hj : j < 13) {N T : Nat → Nat} (hN : ∀ i, i < 13 → (N i).testBit j = (decide (i ≤ n) && decide (j ≤ n) && M (pm i) (pm j))) (hT : T j = if j ≤ n then H (pm j) else 0) : mx (fun i => if (N i).testBit j = true then G n M H st k (pm i) else 0) 13 * T j / 10 = G n M H st (k + 1) (pm j) := by
  by_cases hjn : j ≤ n
  · have hpj : pl n (pm j) := (pm_pl hn (by omega)).mpr hjn
    have hpj' : pm j < n ∨ pm j = 12 := hpj
    rw [G, if_pos hpj', hT, if_pos hjn]
    have key : ∀ x : Nat, x = x / 10 * 10 → x * H (pm j) / 10 = x / 10 * H (pm j) := by
      intro x hx
      have : x * H (pm j) = x / 10 * H (pm j) * 10 := by
        rw [Nat.mul_assoc, Nat.mul_comm (H (pm j)) 10, ← Nat.mul_assoc, ← hx]
      rw [this, Nat.mul_div_cancel _ (by omega)]
    apply Nat.le_antisymm
    · rcases mx_at (f := fun i => if (N i).testBit j = true then G n M H st k (pm i) else 0) 13 with h | ⟨i, hi, h⟩
      · rw [h]; simp
      · rw [h]
        show (if (N i).testBit j = true then G n M H st k (pm i) else 0) * H (pm j) / 10 ≤ _
        by_cases g : (N i).testBit j = true
        · rw [if_pos g, key _ (G_10 hk)]
          by_cases z : 0 < G n M H st k (pm i)
          · have g2 := g
            rw [hN i hi] at g2
            have hM : M (pm i) (pm j) = true := by
              cases q : M (pm i) (pm j)
              · rw [q, Bool.and_false] at g2; cases g2
              · rfl
            have := mx_ge (f := fun a => if 0 < G n M H st k a ∧ M a (pm j) = true then G n M H st k a / 10 * H (pm j) else 0) (m := 13) (i := pm i) (by have := pm_le (i := i) (by omega); omega)
            rw [if_pos ⟨z, hM⟩] at this
            exact this
          · rw [show G n M H st k (pm i) = 0 by omega]; simp
        · rw [if_neg g]; simp
    · refine mx_le 13 (fun a ha => ?_)
      show (if 0 < G n M H st k a ∧ M a (pm j) = true then G n M H st k a / 10 * H (pm j) else 0) ≤ _
      by_cases g : 0 < G n M H st k a ∧ M a (pm j) = true
      · rw [if_pos g]
        have hpa := G_pl hs k a g.1
        have hsm := sm_lt hn hpa
        have hb : (N (sm a)).testBit j = true := by
          rw [hN (sm a) (by omega), pm_sm (by omega), g.2, decide_eq_true hsm, decide_eq_true hjn]; rfl
        have := mx_ge (f := fun i => if (N i).testBit j = true then G n M H st k (pm i) else 0) (m := 13) (i := sm a) (by omega)
        rw [if_pos hb, pm_sm (by omega)] at this
        rw [← key _ (G_10 hk)]
        exact Nat.div_le_div_right (Nat.mul_le_mul_right _ this)
      · rw [if_neg g]; exact Nat.zero_le _
  · have hpj : ¬ (pm j < n ∨ pm j = 12) := fun q => hjn ((pm_pl hn (by omega)).mp q)
    rw [G, if_neg hpj, hT, if_neg hjn]; simp
/-- the best odds in at most k steps, and after how many steps first -/
def OD (e : Nat → Nat) : Nat → Nat
  | 0 => e 0
  | k + 1 => if OD e k < e (k + 1) then e (k + 1) else OD e k
def SP (e : Nat → Nat) : Nat → Nat
  | 0 => 0
  | k + 1 => if OD e k < e (k + 1) then k + 1 else SP e k
theorem OD_le {e : Nat → Nat} {c : Nat} (h : ∀ k, e k ≤ c) : ∀ k, OD e k ≤ c := by
  intro k
  induction k with
  | zero => exact h 0
  | succ k ih =>
    rw [OD]
    split
    · exact h _
    · exact ih
theorem SP_le {e : Nat → Nat} : ∀ k, SP e k ≤ k := by
  intro k
  induction k with
  | zero => exact Nat.le_refl _
  | succ k ih => rw [SP]; split <;> omega
theorem OD_pos {e : Nat → Nat} : ∀ m, 0 < OD e m ↔ ∃ k, k ≤ m ∧ 0 < e k := by
  intro m
  induction m with
  | zero => exact ⟨fun h => ⟨0, Nat.le_refl _, h⟩, fun ⟨k, h1, h2⟩ => by rw [show k = 0 by omega] at h2; exact h2⟩
  | succ m ih =>
    rw [OD]
    constructor
    · intro h
      split at h
      · exact ⟨m + 1, Nat.le_refl _, h⟩
      · obtain ⟨k, h1, h2⟩ := ih.mp h
        exact ⟨k, by omega, h2⟩
    · rintro ⟨k, h1, h2⟩
      split
      · omega
      · next g =>
        by_cases ek : k = m + 1
        · rw [ek] at h2; omega
        · exact ih.mpr ⟨k, by omega, h2⟩
/-- a way of k steps -/
def Wy (n : Nat) (M : Nat → Nat → Bool) (H : Nat → Nat) (st : Nat) : Nat → Nat → Prop
  | 0, b => b = st
  | k + 1, b => pl n b ∧ 0 < H b ∧ ∃ a, a < 13 ∧ Wy n M H st k a ∧ M a b = true
theorem G_wy : ∀ k b, k ≤ 12 → (0 < G n M H st k b ↔ Wy n M H st k b) := by
  intro k
  induction k with
  | zero =>
    intro b _
    rw [G, Wy]
    by_cases e : b = st
    · rw [if_pos e]; exact ⟨fun _ => e, fun _ => by decide⟩
    · rw [if_neg e]; exact ⟨fun q => absurd q (by omega), fun q => absurd q e⟩
  | succ k ih =>
    intro b hk
    rw [G, Wy]
    constructor
    · intro h
      by_cases e : b < n ∨ b = 12
      · rw [if_pos e] at h
        rcases mx_at (f := fun a => if 0 < G n M H st k a ∧ M a b = true then G n M H st k a / 10 * H b else 0) 13 with g | ⟨a, ha, g⟩
        · omega
        · rw [g] at h
          have h : 0 < (if 0 < G n M H st k a ∧ M a b = true then G n M H st k a / 10 * H b else 0) := h
          by_cases q : 0 < G n M H st k a ∧ M a b = true
          · rw [if_pos q] at h
            exact ⟨e, Nat.pos_of_mul_pos_left h, a, ha, (ih a (by omega)).mp q.1, q.2⟩
          · rw [if_neg q] at h; omega
      · rw [if_neg e] at h; omega
    · rintro ⟨e, hH, a, ha, hw, hM⟩
      have e : b < n ∨ b = 12 := e
      rw [if_pos e]
      have g := (ih a (by omega)).mpr hw
      have := mx_ge (f := fun a => if 0 < G n M H st k a ∧ M a b = true then G n M H st k a / 10 * H b else 0) (m := 13) (i := a) ha
      have this : (if 0 < G n M H st k a ∧ M a b = true then G n M H st k a / 10 * H b else 0) ≤ mx (fun a => if 0 < G n M H st k a ∧ M a b = true then G n M H st k a / 10 * H b else 0) 13 := this
      rw [if_pos ⟨g, hM⟩] at this
      have g10 := G_10 (n := n) (M := M) (H := H) (st := st) (k := k) (b := a) (by omega)
      have : 0 < G n M H st k a / 10 * H b := Nat.mul_pos (by omega) hH
      omega
/-- there is a way -/
def Go (n : Nat) (M : Nat → Nat → Bool) (H : Nat → Nat) (st b : Nat) : Prop := ∃ k, k ≤ 12 ∧ Wy n M H st k b
theorem OD_go (b : Nat) : 0 < OD (fun k => G n M H st k b) 12 ↔ Go n M H st b := by
  rw [OD_pos]
  constructor
  · rintro ⟨k, h1, h2⟩; exact ⟨k, h1, (G_wy k b h1).mp h2⟩
  · rintro ⟨k, h1, h2⟩; exact ⟨k, h1, (G_wy k b h1).mpr h2⟩
end G
