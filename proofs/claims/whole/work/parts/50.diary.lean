/-! afternoons -/
/-- how many of the places i .. i + d - 1 -/
def cf (P : Nat → Bool) (i : Nat) : Nat → Nat
  | 0 => 0
  | d + 1 => (if P i then 1 else 0) + cf P (i + 1) d
/-- the sum of f over them -/
def sf (P : Nat → Bool) (f : Nat → Nat) (i : Nat) : Nat → Nat
  | 0 => 0
  | d + 1 => (if P i then f i else 0) + sf P f (i + 1) d
theorem cf_le (P : Nat → Bool) : ∀ (d i : Nat), cf P i d ≤ d := by
  intro d
  induction d with
  | zero => intro i; exact Nat.le_refl _
  | succ d ih => intro i; have := ih (i + 1); unfold cf; split <;> omega
theorem cf_mono {P Q : Nat → Bool} (h : ∀ j, P j = true → Q j = true) : ∀ (d i : Nat), cf P i d ≤ cf Q i d := by
  intro d
  induction d with
  | zero => intro i; exact Nat.le_refl _
  | succ d ih =>
    intro i
    have := ih (i + 1)
    rw [cf, cf]
    by_cases hp : P i = true
    · rw [if_pos hp, if_pos (h i hp)]; omega
    · rw [if_neg hp]; split <;> omega
theorem sf_le (P : Nat → Bool) (f : Nat → Nat) : ∀ (d i : Nat), (∀ j, j < i + d → f j ≤ 99) → sf P f i d ≤ 99 * d := by
  intro d
  induction d with
  | zero => intro i _; exact Nat.le_refl _
  | succ d ih => intro i h; have := ih (i + 1) (fun j hj => h j (by omega)); have := h i (by omega); unfold sf; split <;> omega
def isO (d1 d2 : Nat → Nat) (p lo hi : Nat) (j : Nat) : Bool := decide (d1 j = p) && decide (lo ≤ d2 j) && decide (d2 j ≤ hi)
section S
variable {σ τ : SS} {en : Nat} {d1 d2 d3 : Nat → Nat}
theorem x_isOf (hD : DR en d1 d2 d3) (h : XD σ en d1 d2 d3) {j p lo hi : Nat} (hj : j < en) (hp : p < 3) (hl : lo < 1000) (hh : hi < 1000) : f0_isOf (nI j) (nI p) (nI lo) (nI hi) σ = some (bI (isO d1 d2 p lo hi j)) := by
  have r0 := hD.1
  have r1 := hD.2 j hj
  have e := h.2 j hj
  have hin : inb (nI j) 40 := by rw [c_inb (by omega)]; omega
  unfold f0_isOf isO
  rw [if_neg (nI_pos (by omega)), if_pos (by rw [l40, c_lt (by omega) (by omega)]; omega)]
  simp only [gd_t hin, c_tn (show j < 2147483648 by omega), e.1, e.2.1, lt_e]
  by_cases g1 : d1 j = p
  · rw [if_pos (by rw [g1]), decide_eq_true g1]
    by_cases g2 : lo ≤ d2 j
    · rw [if_neg (by rw [c_lt (by omega) (by omega)]; omega), decide_eq_true g2]
      by_cases g3 : d2 j ≤ hi
      · rw [if_pos (by rw [c_le (by omega) (by omega)]; omega), decide_eq_true g3]; rfl
      · rw [if_neg (by rw [c_le (by omega) (by omega)]; omega), decide_eq_false g3]; rfl
    · rw [if_pos (by rw [c_lt (by omega) (by omega)]; omega), decide_eq_false g2]; rfl
  · rw [if_neg (by rw [c_eq (by omega) (by omega)]; exact g1), decide_eq_false g1]; rfl
theorem x_howManyL (hD : DR en d1 d2 d3) (h : XD σ en d1 d2 d3) {p lo hi t : Nat} (hp : p < 3) (hl : lo < 1000) (hh : hi < 1000) (ht : t < 1000) : ∀ (d i c fuel : Nat), i + d = en → d < fuel → L0_howMany_6 (nI p) (nI lo) (nI hi) (nI t) σ fuel (nI c) (nI i) = some (nI (c + cf (fun j => isO d1 d2 p lo hi j && decide (t ≤ d3 j)) i d)) := by
  have r0 := hD.1
  intro d
  induction d with
  | zero =>
    intro i c fuel h1 h2
    obtain ⟨f, rfl⟩ : ∃ f, fuel = f + 1 := ⟨fuel - 1, by omega⟩
    rw [L0_howMany_6, h.1, if_neg (by rw [c_lt (by omega) (by omega)]; omega)]
    rfl
  | succ d ih =>
    intro i c fuel h1 h2
    obtain ⟨f, rfl⟩ : ∃ f, fuel = f + 1 := ⟨fuel - 1, by omega⟩
    have r1 := hD.2 i (by omega)
    have e := h.2 i (by omega)
    have hin : inb (nI i) 40 := by rw [c_inb (by omega)]; omega
    rw [L0_howMany_6, h.1, if_pos (by rw [c_lt (by omega) (by omega)]; omega), if_pos (by rw [l40, c_lt (by omega) (by omega)]; omega), x_isOf hD h (by omega) hp hl hh]
    simp only [bd_e, ib0, gd_t hin, c_tn (show i < 2147483648 by omega), e.2.2, lt_e, nI_1]
    rw [cf]
    cases isO d1 d2 p lo hi i
    · simp only [cond_false, Bool.false_and]
      rw [ih (i + 1) c f (by omega) (by omega)]
      simp
    · simp only [cond_true, Bool.true_and]
      by_cases g : t ≤ d3 i
      · rw [if_neg (by rw [c_lt (by omega) (by omega)]; omega), ih (i + 1) (c + 1) f (by omega) (by omega), decide_eq_true g, if_pos rfl, Nat.add_assoc]
      · rw [if_pos (by rw [c_lt (by omega) (by omega)]; omega), ih (i + 1) c f (by omega) (by omega), decide_eq_false g]
        simp
theorem x_howMany (hD : DR en d1 d2 d3) (h : XD σ en d1 d2 d3) {p lo hi t : Nat} (hp : p < 3) (hl : lo < 1000) (hh : hi < 1000) (ht : t < 1000) : f0_howMany (nI p) (nI lo) (nI hi) (nI t) σ = some (nI (cf (fun j => isO d1 d2 p lo hi j && decide (t ≤ d3 j)) 0 en)) := by
  have r0 := hD.1
  unfold f0_howMany
  rw [show (0 : Int32) = nI 0 from rfl, x_howManyL hD h hp hl hh ht en 0 0 FU (by omega) (by unfold FU; omega), Nat.zero_add]
  rfl
theorem x_heightsL (hD : DR en d1 d2 d3) (h : XD σ en d1 d2 d3) {p lo hi : Nat} (hp : p < 3) (hl : lo < 1000) (hh : hi < 1000) : ∀ (d i c fuel : Nat), i + d = en → d < fuel → L0_heights_6 (nI p) (nI lo) (nI hi) σ fuel (nI c) (nI i) = some (nI (c + sf (isO d1 d2 p lo hi) d3 i d)) := by
  have r0 := hD.1
  intro d
  induction d with
  | zero =>
    intro i c fuel h1 h2
    obtain ⟨f, rfl⟩ : ∃ f, fuel = f + 1 := ⟨fuel - 1, by omega⟩
    rw [L0_heights_6, h.1, if_neg (by rw [c_lt (by omega) (by omega)]; omega)]
    rfl
  | succ d ih =>
    intro i c fuel h1 h2
    obtain ⟨f, rfl⟩ : ∃ f, fuel = f + 1 := ⟨fuel - 1, by omega⟩
    have r1 := hD.2 i (by omega)
    have e := h.2 i (by omega)
    have hin : inb (nI i) 40 := by rw [c_inb (by omega)]; omega
    rw [L0_heights_6, h.1, if_pos (by rw [c_lt (by omega) (by omega)]; omega), if_pos (by rw [l40, c_lt (by omega) (by omega)]; omega), x_isOf hD h (by omega) hp hl hh]
    simp only [bd_e, ib0, gd_t hin, c_tn (show i < 2147483648 by omega), e.2.2, lt_e, nI_1, c_add]
    rw [sf]
    cases isO d1 d2 p lo hi i
    · simp only [cond_false]
      rw [ih (i + 1) c f (by omega) (by omega)]
      simp
    · simp only [cond_true]
      rw [ih (i + 1) (c + d3 i) f (by omega) (by omega), if_true, Nat.add_assoc]
theorem x_heights (hD : DR en d1 d2 d3) (h : XD σ en d1 d2 d3) {p lo hi : Nat} (hp : p < 3) (hl : lo < 1000) (hh : hi < 1000) : f0_heights (nI p) (nI lo) (nI hi) σ = some (nI (sf (isO d1 d2 p lo hi) d3 0 en)) := by
  have r0 := hD.1
  unfold f0_heights
  rw [show (0 : Int32) = nI 0 from rfl, x_heightsL hD h hp hl hh en 0 0 FU (by omega) (by unfold FU; omega), Nat.zero_add]
  rfl
theorem m_daresL (hD : DR en d1 d2 d3) (h : MD τ en d1 d2 d3) {p l t : Nat} (hp : p < 3) (hl : l ≤ 9) (ht : t < 1000) (w : Int32) : ∀ (d i c1 c2 fuel : Nat), i + d = en → d < fuel → L6_dares_49 (nI p) (nI l) (nI t) w τ fuel (nI c1) (nI c2) (nI i) = some (nI (c1 + cf (fun j => isO d1 d2 p l 9 j && decide (0 ≤ d3 j)) i d), nI (c2 + cf (fun j => isO d1 d2 p l 9 j && decide (t ≤ d3 j)) i d)) := by
  have r0 := hD.1
  intro d
  induction d with
  | zero =>
    intro i c1 c2 fuel h1 h2
    obtain ⟨f, rfl⟩ : ∃ f, fuel = f + 1 := ⟨fuel - 1, by omega⟩
    rw [L6_dares_49, h.1, if_neg (by rw [c_lt (by omega) (by omega)]; omega)]
    rfl
  | succ d ih =>
    intro i c1 c2 fuel h1 h2
    obtain ⟨f, rfl⟩ : ∃ f, fuel = f + 1 := ⟨fuel - 1, by omega⟩
    have r1 := hD.2 i (by omega)
    have e := h.2 i (by omega)
    have hin : inb (nI i) 40 := by rw [c_inb (by omega)]; omega
    have q1 : (nI (d1 i) = nI p) = (d1 i = p) := c_eq (by omega) (by omega)
    have q2 : (nI (d2 i) < nI l) = (d2 i < l) := c_lt (by omega) (by omega)
    have q3 : (nI (d3 i) < nI t) = (d3 i < t) := c_lt (by omega) (by omega)
    rw [L6_dares_49, h.1, if_pos (by rw [c_lt (by omega) (by omega)]; omega)]
    simp only [gd_t hin, c_tn (show i < 2147483648 by omega), e.1, e.2.1, e.2.2, lt_e, nI_1, q1, q2, q3]
    have z0 : ∀ c, nI c + 0 = nI c := fun c => nI_add c 0
    have s00 := ih (i + 1) c1 c2 f (by omega) (by omega)
    have s10 := ih (i + 1) (c1 + 1) c2 f (by omega) (by omega)
    have s11 := ih (i + 1) (c1 + 1) (c2 + 1) f (by omega) (by omega)
    rw [cf, cf]
    unfold isO at *
    by_cases g1 : d1 i = p <;> by_cases g2 : d2 i < l <;> by_cases g3 : d3 i < t <;> simp [g1, g2, g3, z0, nI_1, s00, s10, s11, Nat.not_le.mpr, Nat.not_lt.mp, r1, Nat.add_assoc, Nat.add_comm, Nat.add_left_comm]
end S
