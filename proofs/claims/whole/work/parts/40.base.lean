/-! MATH: base lemmas -/
theorem lt_e {α β : Type} (a : α) (f : α → β) : lt a f = f a := rfl
theorem bd_e {α β : Type} (a : α) (f : α → Option β) : bd (some a) f = f a := rfl
theorem bk1_e {α β : Type} (a : α) (f : α → Option β) : bk1 (some a) f = f a := rfl
theorem bk2_e {α β γ : Type} (a : α) (b : β) (f : α → β → Option γ) : bk2 (some (a, b)) f = f a b := rfl
theorem bk3_e {α β γ δ : Type} (a : α) (b : β) (c : γ) (f : α → β → γ → Option δ) : bk3 (some (a, b, c)) f = f a b c := rfl
theorem bk4_e {α β γ δ ε : Type} (a : α) (b : β) (c : γ) (d : δ) (f : α → β → γ → δ → Option ε) : bk4 (some (a, b, c, d)) f = f a b c d := rfl
theorem bk5_e {α β γ δ ε ζ : Type} (a : α) (b : β) (c : γ) (d : δ) (e : ε) (f : α → β → γ → δ → ε → Option ζ) : bk5 (some (a, b, c, d, e)) f = f a b c d e := rfl
theorem bk6_e {α β γ δ ε ζ η : Type} (a : α) (b : β) (c : γ) (d : δ) (e : ε) (g : ζ) (f : α → β → γ → δ → ε → ζ → Option η) : bk6 (some (a, b, c, d, e, g)) f = f a b c d e g := rfl
theorem gd_t {α : Type} {c : Prop} [Decidable c] (h : c) (x : Option α) : gd c x = x := by unfold gd; rw [if_pos h]
theorem l0 : (0 : Int32) = nI 0 := by decide
theorem l1 : (1 : Int32) = nI 1 := by decide
theorem l2 : (2 : Int32) = nI 2 := by decide
theorem l3 : (3 : Int32) = nI 3 := by decide
theorem l4 : (4 : Int32) = nI 4 := by decide
theorem l5 : (5 : Int32) = nI 5 := by decide
theorem l6 : (6 : Int32) = nI 6 := by decide
theorem l7 : (7 : Int32) = nI 7 := by decide
theorem l8 : (8 : Int32) = nI 8 := by decide
theorem l9 : (9 : Int32) = nI 9 := by decide
theorem l10 : (10 : Int32) = nI 10 := by decide
theorem l11 : (11 : Int32) = nI 11 := by decide
theorem l12 : (12 : Int32) = nI 12 := by decide
theorem l13 : (13 : Int32) = nI 13 := by decide
theorem l20 : (20 : Int32) = nI 20 := by decide
theorem l24 : (24 : Int32) = nI 24 := by decide
theorem l30 : (30 : Int32) = nI 30 := by decide
theorem l31 : (31 : Int32) = nI 31 := by decide
theorem l32 : (32 : Int32) = nI 32 := by decide
theorem l40 : (40 : Int32) = nI 40 := by decide
theorem l48 : (48 : Int32) = nI 48 := by decide
theorem l57 : (57 : Int32) = nI 57 := by decide
theorem l72 : (72 : Int32) = nI 72 := by decide
theorem l97 : (97 : Int32) = nI 97 := by decide
theorem l99 : (99 : Int32) = nI 99 := by decide
theorem l100 : (100 : Int32) = nI 100 := by decide
theorem l122 : (122 : Int32) = nI 122 := by decide
theorem l400 : (400 : Int32) = nI 400 := by decide
theorem l9999 : (9999 : Int32) = nI 9999 := by decide
theorem c_lt {a b : Nat} (ha : a < 2147483648) (hb : b < 2147483648) : (nI a < nI b) = (a < b) := propext (nI_ltI ha hb)
theorem c_le {a b : Nat} (ha : a < 2147483648) (hb : b < 2147483648) : (nI a ≤ nI b) = (a ≤ b) := propext (nI_leI ha hb)
theorem c_eq {a b : Nat} (ha : a < 2147483648) (hb : b < 2147483648) : (nI a = nI b) = (a = b) := propext (nI_eq ha hb)
theorem c_add (a b : Nat) : nI a + nI b = nI (a + b) := nI_add a b
theorem c_mul (a b : Nat) : nI a * nI b = nI (a * b) := pk_mul a b
theorem c_sub {a b : Nat} (h : b ≤ a) : nI a - nI b = nI (a - b) := pk_sub h
theorem c_tn {a : Nat} (h : a < 2147483648) : (nI a).toNatClampNeg = a := nI_clamp h
theorem c_inb {a n : Nat} (h : a < 2147483648) : inb (nI a) n = (a < n) := by
  unfold inb
  rw [c_tn h]
  exact propext ⟨fun q => q.2, fun q => ⟨nI_pos h, q⟩⟩
theorem c_n1 {a : Nat} (h : a < 2147483648) : (nI a = -1) = False := by
  refine propext ⟨fun q => ?_, False.elim⟩
  have h1 := congrArg Int32.toInt q
  rw [nI_toInt h] at h1
  have : (-1 : Int32).toInt = -1 := by decide
  omega
theorem c_n2 {a : Nat} (h : a < 2147483648) : (nI a < -1) = False := by
  refine propext ⟨fun q => ?_, False.elim⟩
  have h1 := Int32.lt_iff_toInt_lt.mp q
  rw [nI_toInt h] at h1
  have : (-1 : Int32).toInt = -1 := by decide
  omega
theorem c_n3 : ((-nI 1 : Int32) = -nI 1) = True := eq_self _
theorem c_n4 {a : Nat} (h : a < 2147483648) : (nI a = -nI 1) = False := c_n1 h
theorem c_n5 {a : Nat} (h : a < 2147483648) : (nI a < -nI 1) = False := c_n2 h
/-- any int is below 0, or a number -/
theorem i_cases (x : Int32) : x < 0 ∨ ∃ k : Nat, k < 2147483648 ∧ x = nI k := by
  by_cases h : x < 0
  · exact Or.inl h
  · exact Or.inr (nI_of h)
theorem neg_lt {x : Int32} (h : x < 0) (k : Nat) (hk : k < 2147483648) : x < nI k := by
  rw [Int32.lt_iff_toInt_lt] at h ⊢
  rw [nI_toInt hk]
  have : (0 : Int32).toInt = 0 := by decide
  omega
theorem neg_ne {x : Int32} (h : x < 0) (k : Nat) (hk : k < 2147483648) : ¬ x = nI k := by
  intro q
  rw [q] at h
  exact nI_pos hk h
def bI (b : Bool) : Int32 := if b then 1 else 0
theorem bI_0 (b : Bool) : (bI b = nI 0) = (b = false) := by cases b <;> simp [bI] <;> decide
theorem bI_1 (b : Bool) : (bI b = nI 1) = (b = true) := by cases b <;> simp [bI] <;> decide
/-- the reference's 'in' -/
theorem f6_in_e (a lo hi : Int32) : f6_in a lo hi = some (if lo ≤ a ∧ a ≤ hi then 1 else 0) := by
  simp only [f6_in, lt_e]
  by_cases h1 : a < lo
  · rw [if_pos h1, if_neg]
    intro q
    exact absurd h1 (Int32.not_lt.mpr q.1)
  · rw [if_neg h1]
    by_cases h2 : a ≤ hi
    · rw [if_pos h2, if_pos ⟨Int32.not_lt.mp h1, h2⟩]
    · rw [if_neg h2, if_neg (fun q => h2 q.2)]
