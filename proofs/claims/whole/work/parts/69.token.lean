/-! what is typed, as tokens: pure -/
def scan (tn : Nat) (tb : Nat → Nat) (P : Nat → Bool) : Nat → Nat → Nat
  | 0, p => p
  | k + 1, p => if p < tn ∧ P (tb p) = true then scan tn tb P k (p + 1) else p
def Sc (tn : Nat) (tb : Nat → Nat) (P : Nat → Bool) (p : Nat) : Nat := scan tn tb P (tn - p) p
theorem Sc_t {tn : Nat} {tb : Nat → Nat} {P : Nat → Bool} {p : Nat} (h : p < tn) (hP : P (tb p) = true) : Sc tn tb P p = Sc tn tb P (p + 1) := by
  unfold Sc
  rw [show tn - p = (tn - (p + 1)) + 1 by omega, scan, if_pos ⟨h, hP⟩]
theorem Sc_f {tn : Nat} {tb : Nat → Nat} {P : Nat → Bool} {p : Nat} (hP : P (tb p) = false) : Sc tn tb P p = p := by
  unfold Sc
  cases tn - p with
  | zero => rfl
  | succ k => rw [scan, if_neg (by rw [hP]; simp)]
theorem Sc_e {tn : Nat} {tb : Nat → Nat} {P : Nat → Bool} {p : Nat} (h : tn ≤ p) : Sc tn tb P p = p := by
  unfold Sc
  rw [show tn - p = 0 by omega]; rfl
theorem Sc_b {tn : Nat} {tb : Nat → Nat} {P : Nat → Bool} : ∀ (d p : Nat), p + d = tn → p ≤ Sc tn tb P p ∧ Sc tn tb P p ≤ tn := by
  intro d
  induction d with
  | zero => intro p h; rw [Sc_e (by omega)]; omega
  | succ d ih =>
    intro p h
    cases q : P (tb p) with
    | true => rw [Sc_t (by omega) q]; have := ih (p + 1) (by omega); omega
    | false => rw [Sc_f q]; omega
theorem Sc_in {tn : Nat} {tb : Nat → Nat} {P : Nat → Bool} : ∀ (d p : Nat), p + d = tn → ∀ j, p ≤ j → j < Sc tn tb P p → P (tb j) = true := by
  intro d
  induction d with
  | zero => intro p h j h1 h2; rw [Sc_e (by omega)] at h2; omega
  | succ d ih =>
    intro p h j h1 h2
    cases q : P (tb p) with
    | true =>
      rw [Sc_t (by omega) q] at h2
      by_cases e : j = p
      · rw [e]; exact q
      · exact ih (p + 1) (by omega) j (by omega) h2
    | false => rw [Sc_f q] at h2; omega
def isSp (c : Nat) : Bool := decide (c = 32)
def isDg (c : Nat) : Bool := decide (48 ≤ c ∧ c ≤ 57)
def isLt (c : Nat) : Bool := decide (97 ≤ c ∧ c ≤ 122)
def vC (tb : Nat → Nat) (a : Nat) : Nat → Nat
  | 0 => 0
  | i + 1 => min (vC tb a i * 10 + tb (a + i) - 48) 100
def vM (tb : Nat → Nat) (a : Nat) : Nat → Nat
  | 0 => 0
  | i + 1 => if vM tb a i ≤ 99 then 10 * vM tb a i + tb (a + i) - 48 else vM tb a i
theorem v_rel {tb : Nat → Nat} {a : Nat} : ∀ i, (∀ j, j < i → 48 ≤ tb (a + j)) → (vC tb a i ≤ 99 ∧ vM tb a i = vC tb a i) ∨ (vC tb a i = 100 ∧ 99 < vM tb a i) := by
  intro i
  induction i with
  | zero => intro _; exact Or.inl ⟨by show 0 ≤ 99; omega, rfl⟩
  | succ i ih =>
    intro h
    have h2 := h i (by omega)
    rw [vC, vM]
    rcases ih (fun j hj => h j (by omega)) with ⟨h1, e⟩ | ⟨h1, e⟩
    · rw [e, if_pos h1]; omega
    · rw [h1, if_neg (by omega)]; omega
theorem vC_le {tb : Nat → Nat} {a : Nat} : ∀ i, vC tb a i ≤ 100 := by
  intro i
  cases i with
  | zero => exact Nat.zero_le _
  | succ i => rw [vC]; omega
theorem vM_le {tb : Nat → Nat} {a : Nat} : ∀ i, (∀ j, j < i → tb (a + j) ≤ 57) → vM tb a i ≤ 999 := by
  intro i
  induction i with
  | zero => intro _; show 0 ≤ 999; omega
  | succ i ih =>
    intro h
    have h2 := h i (by omega)
    have := ih (fun j hj => h j (by omega))
    rw [vM]
    split <;> omega
def cd (tb : Nat → Nat) (a : Nat) : Nat → Nat
  | 0 => 0
  | i + 1 => if i < 6 then 27 * cd tb a i + tb (a + i) - 96 else 0
def cdF (tb : Nat → Nat) (a L : Nat) : Nat := if L ≤ 6 then cd tb a L else 0
theorem cd_le {tb : Nat → Nat} {a : Nat} : ∀ i, (∀ j, j < i → tb (a + j) ≤ 122) → cd tb a i < 27 ^ (min i 6) ∨ 6 < i ∧ cd tb a i = 0 := by
  intro i
  induction i with
  | zero => intro _; left; show 0 < 27 ^ 0; omega
  | succ i ih =>
    intro h
    have h2 := h i (by omega)
    have := ih (fun j hj => h j (by omega))
    rw [cd]
    by_cases g : i < 6
    · rw [if_pos g]
      left
      rw [show min (i + 1) 6 = i + 1 by omega, Nat.pow_succ]
      rw [show min i 6 = i by omega] at this
      rcases this with q | q
      · omega
      · omega
    · rw [if_neg g]; right; exact ⟨by omega, rfl⟩
theorem cd_lt {tb : Nat → Nat} {a i : Nat} (h : ∀ j, j < i → tb (a + j) ≤ 122) : cd tb a i < 400000000 := by
  rcases cd_le i h with q | q
  · have : (27 : Nat) ^ min i 6 ≤ 27 ^ 6 := Nat.pow_le_pow_right (by omega) (by omega)
    have e : (27 : Nat) ^ 6 = 387420489 := by decide
    omega
  · omega
def w0 : List Nat := [98, 114, 97, 110, 99, 104]
def w1 : List Nat := [119, 101, 116]
def w2 : List Nat := [110, 101, 115, 116]
def w3 : List Nat := [98, 111, 100, 121]
def isW (tb : Nat → Nat) (a L : Nat) (w : List Nat) : Bool := decide (L = w.length) && allf (fun j => decide (tb (a + j) = w.getD j 0)) 0 w.length
def wS (tb : Nat → Nat) (a L : Nat) : Nat := if isW tb a L w0 = true then 3 else if isW tb a L w1 = true then 4 else if isW tb a L w2 = true then 5 else if isW tb a L w3 = true then 6 else 7
/-- the reference's code of a sort -/
def mS (s : Nat) : Nat := if s = 0 then 0 else if s = 1 then 6 else if s = 2 then 5 else if s = 3 then 1 else if s = 4 then 2 else if s = 5 then 3 else if s = 6 then 4 else 7
def wCd (code : Nat) : Nat := if code = 38293730 then 1 else if code = 16922 then 2 else if code = 279740 then 3 else if code = 50434 then 4 else 7
theorem isW_0 {tb : Nat → Nat} {a L : Nat} : isW tb a L w0 = true ↔ L = 6 ∧ tb (a + 0) = 98 ∧ tb (a + 1) = 114 ∧ tb (a + 2) = 97 ∧ tb (a + 3) = 110 ∧ tb (a + 4) = 99 ∧ tb (a + 5) = 104 := by
  unfold isW w0
  simp [allf]
theorem isW_1 {tb : Nat → Nat} {a L : Nat} : isW tb a L w1 = true ↔ L = 3 ∧ tb (a + 0) = 119 ∧ tb (a + 1) = 101 ∧ tb (a + 2) = 116 := by
  unfold isW w1
  simp [allf]
theorem isW_2 {tb : Nat → Nat} {a L : Nat} : isW tb a L w2 = true ↔ L = 4 ∧ tb (a + 0) = 110 ∧ tb (a + 1) = 101 ∧ tb (a + 2) = 115 ∧ tb (a + 3) = 116 := by
  unfold isW w2
  simp [allf]
theorem isW_3 {tb : Nat → Nat} {a L : Nat} : isW tb a L w3 = true ↔ L = 4 ∧ tb (a + 0) = 98 ∧ tb (a + 1) = 111 ∧ tb (a + 2) = 100 ∧ tb (a + 3) = 121 := by
  unfold isW w3
  simp [allf]
theorem dig {x t q r : Nat} (ht : 97 ≤ t ∧ t ≤ 122) (hr : 1 ≤ r ∧ r ≤ 26) (h : 27 * x + t - 96 = 27 * q + r) : x = q ∧ t = r + 96 := by omega
theorem cd_s {tb : Nat → Nat} {a i : Nat} (h : i < 6) : cd tb a (i + 1) = 27 * cd tb a i + tb (a + i) - 96 := by rw [cd, if_pos h]
theorem cdW_0 {tb : Nat → Nat} {a L : Nat} (hL : 0 < L) (h : ∀ j, j < L → 97 ≤ tb (a + j) ∧ tb (a + j) ≤ 122) : cdF tb a L = 38293730 ↔ isW tb a L w0 = true := by
  rw [isW_0]
  unfold cdF
  by_cases g : L ≤ 6
  · rw [if_pos g]
    have e0 : cd tb a 0 = 0 := rfl
    have e1 : cd tb a 1 = 27 * cd tb a 0 + tb a - 96 := cd_s (by omega)
    have e2 : cd tb a 2 = 27 * cd tb a 1 + tb (a + 1) - 96 := cd_s (by omega)
    have e3 : cd tb a 3 = 27 * cd tb a 2 + tb (a + 2) - 96 := cd_s (by omega)
    have e4 : cd tb a 4 = 27 * cd tb a 3 + tb (a + 3) - 96 := cd_s (by omega)
    have e5 : cd tb a 5 = 27 * cd tb a 4 + tb (a + 4) - 96 := cd_s (by omega)
    have e6 : cd tb a 6 = 27 * cd tb a 5 + tb (a + 5) - 96 := cd_s (by omega)
    have e : L = 1 ∨ L = 2 ∨ L = 3 ∨ L = 4 ∨ L = 5 ∨ L = 6 := by omega
    rcases e with rfl | rfl | rfl | rfl | rfl | rfl
    · have h0 : 97 ≤ tb a ∧ tb a ≤ 122 := h 0 (by omega); clear e2 e3 e4 e5 e6; clear h; omega
    · have h0 : 97 ≤ tb a ∧ tb a ≤ 122 := h 0 (by omega); have h1 : 97 ≤ tb (a + 1) ∧ tb (a + 1) ≤ 122 := h 1 (by omega); clear e3 e4 e5 e6; clear h; omega
    · have h0 : 97 ≤ tb a ∧ tb a ≤ 122 := h 0 (by omega); have h1 : 97 ≤ tb (a + 1) ∧ tb (a + 1) ≤ 122 := h 1 (by omega); have h2 : 97 ≤ tb (a + 2) ∧ tb (a + 2) ≤ 122 := h 2 (by omega); clear e4 e5 e6; clear h; omega
    · have h0 : 97 ≤ tb a ∧ tb a ≤ 122 := h 0 (by omega); have h1 : 97 ≤ tb (a + 1) ∧ tb (a + 1) ≤ 122 := h 1 (by omega); have h2 : 97 ≤ tb (a + 2) ∧ tb (a + 2) ≤ 122 := h 2 (by omega); have h3 : 97 ≤ tb (a + 3) ∧ tb (a + 3) ≤ 122 := h 3 (by omega); clear e5 e6; clear h; omega
    · have h0 : 97 ≤ tb a ∧ tb a ≤ 122 := h 0 (by omega); have h1 : 97 ≤ tb (a + 1) ∧ tb (a + 1) ≤ 122 := h 1 (by omega); have h2 : 97 ≤ tb (a + 2) ∧ tb (a + 2) ≤ 122 := h 2 (by omega); have h3 : 97 ≤ tb (a + 3) ∧ tb (a + 3) ≤ 122 := h 3 (by omega); have h4 : 97 ≤ tb (a + 4) ∧ tb (a + 4) ≤ 122 := h 4 (by omega); clear e6; clear h; omega
    · have h0 : 97 ≤ tb a ∧ tb a ≤ 122 := h 0 (by omega)
      have h1 : 97 ≤ tb (a + 1) ∧ tb (a + 1) ≤ 122 := h 1 (by omega)
      have h2 : 97 ≤ tb (a + 2) ∧ tb (a + 2) ≤ 122 := h 2 (by omega)
      have h3 : 97 ≤ tb (a + 3) ∧ tb (a + 3) ≤ 122 := h 3 (by omega)
      have h4 : 97 ≤ tb (a + 4) ∧ tb (a + 4) ≤ 122 := h 4 (by omega)
      have h5 : 97 ≤ tb (a + 5) ∧ tb (a + 5) ≤ 122 := h 5 (by omega)
      refine ⟨fun z => ?_, fun z => ?_⟩
      · have s5 := dig (x := cd tb a 5) (q := 1418286) (r := 8) h5 (by omega) (by rw [← e6]; exact z)
        have s4 := dig (x := cd tb a 4) (q := 52529) (r := 3) h4 (by omega) (by rw [← e5]; exact s5.1)
        have s3 := dig (x := cd tb a 3) (q := 1945) (r := 14) h3 (by omega) (by rw [← e4]; exact s4.1)
        have s2 := dig (x := cd tb a 2) (q := 72) (r := 1) h2 (by omega) (by rw [← e3]; exact s3.1)
        have s1 := dig (x := cd tb a 1) (q := 2) (r := 18) h1 (by omega) (by rw [← e2]; exact s2.1)
        have s0 := dig (x := cd tb a 0) (q := 0) (r := 2) h0 (by omega) (by rw [← e1]; exact s1.1)
        exact ⟨rfl, s0.2, s1.2, s2.2, s3.2, s4.2, s5.2⟩
      · obtain ⟨-, z0, z1, z2, z3, z4, z5⟩ := z
        rw [Nat.add_zero] at z0
        rw [e6, e5, e4, e3, e2, e1, e0, z0, z1, z2, z3, z4, z5]
  · rw [if_neg g]
    omega
theorem cdW_1 {tb : Nat → Nat} {a L : Nat} (hL : 0 < L) (h : ∀ j, j < L → 97 ≤ tb (a + j) ∧ tb (a + j) ≤ 122) : cdF tb a L = 16922 ↔ isW tb a L w1 = true := by
  rw [isW_1]
  unfold cdF
  by_cases g : L ≤ 6
  · rw [if_pos g]
    have e0 : cd tb a 0 = 0 := rfl
    have e1 : cd tb a 1 = 27 * cd tb a 0 + tb a - 96 := cd_s (by omega)
    have e2 : cd tb a 2 = 27 * cd tb a 1 + tb (a + 1) - 96 := cd_s (by omega)
    have e3 : cd tb a 3 = 27 * cd tb a 2 + tb (a + 2) - 96 := cd_s (by omega)
    have e4 : cd tb a 4 = 27 * cd tb a 3 + tb (a + 3) - 96 := cd_s (by omega)
    have e5 : cd tb a 5 = 27 * cd tb a 4 + tb (a + 4) - 96 := cd_s (by omega)
    have e6 : cd tb a 6 = 27 * cd tb a 5 + tb (a + 5) - 96 := cd_s (by omega)
    have e : L = 1 ∨ L = 2 ∨ L = 3 ∨ L = 4 ∨ L = 5 ∨ L = 6 := by omega
    rcases e with rfl | rfl | rfl | rfl | rfl | rfl
    · have h0 : 97 ≤ tb a ∧ tb a ≤ 122 := h 0 (by omega); clear e2 e3 e4 e5 e6; clear h; omega
    · have h0 : 97 ≤ tb a ∧ tb a ≤ 122 := h 0 (by omega); have h1 : 97 ≤ tb (a + 1) ∧ tb (a + 1) ≤ 122 := h 1 (by omega); clear e3 e4 e5 e6; clear h; omega
    · have h0 : 97 ≤ tb a ∧ tb a ≤ 122 := h 0 (by omega)
      have h1 : 97 ≤ tb (a + 1) ∧ tb (a + 1) ≤ 122 := h 1 (by omega)
      have h2 : 97 ≤ tb (a + 2) ∧ tb (a + 2) ≤ 122 := h 2 (by omega)
      refine ⟨fun z => ?_, fun z => ?_⟩
      · have s2 := dig (x := cd tb a 2) (q := 626) (r := 20) h2 (by omega) (by rw [← e3]; exact z)
        have s1 := dig (x := cd tb a 1) (q := 23) (r := 5) h1 (by omega) (by rw [← e2]; exact s2.1)
        have s0 := dig (x := cd tb a 0) (q := 0) (r := 23) h0 (by omega) (by rw [← e1]; exact s1.1)
        exact ⟨rfl, s0.2, s1.2, s2.2⟩
      · obtain ⟨-, z0, z1, z2⟩ := z
        rw [Nat.add_zero] at z0
        rw [e3, e2, e1, e0, z0, z1, z2]
    · have h0 : 97 ≤ tb a ∧ tb a ≤ 122 := h 0 (by omega); have h1 : 97 ≤ tb (a + 1) ∧ tb (a + 1) ≤ 122 := h 1 (by omega); have h2 : 97 ≤ tb (a + 2) ∧ tb (a + 2) ≤ 122 := h 2 (by omega); have h3 : 97 ≤ tb (a + 3) ∧ tb (a + 3) ≤ 122 := h 3 (by omega); clear e5 e6; clear h; omega
    · have h0 : 97 ≤ tb a ∧ tb a ≤ 122 := h 0 (by omega); have h1 : 97 ≤ tb (a + 1) ∧ tb (a + 1) ≤ 122 := h 1 (by omega); have h2 : 97 ≤ tb (a + 2) ∧ tb (a + 2) ≤ 122 := h 2 (by omega); have h3 : 97 ≤ tb (a + 3) ∧ tb (a + 3) ≤ 122 := h 3 (by omega); have h4 : 97 ≤ tb (a + 4) ∧ tb (a + 4) ≤ 122 := h 4 (by omega); clear e6; clear h; omega
    · have h0 : 97 ≤ tb a ∧ tb a ≤ 122 := h 0 (by omega); have h1 : 97 ≤ tb (a + 1) ∧ tb (a + 1) ≤ 122 := h 1 (by omega); have h2 : 97 ≤ tb (a + 2) ∧ tb (a + 2) ≤ 122 := h 2 (by omega); have h3 : 97 ≤ tb (a + 3) ∧ tb (a + 3) ≤ 122 := h 3 (by omega); have h4 : 97 ≤ tb (a + 4) ∧ tb (a + 4) ≤ 122 := h 4 (by omega); have h5 : 97 ≤ tb (a + 5) ∧ tb (a + 5) ≤ 122 := h 5 (by omega); clear h; omega
  · rw [if_neg g]
    omega
theorem cdW_2 {tb : Nat → Nat} {a L : Nat} (hL : 0 < L) (h : ∀ j, j < L → 97 ≤ tb (a + j) ∧ tb (a + j) ≤ 122) : cdF tb a L = 279740 ↔ isW tb a L w2 = true := by
  rw [isW_2]
  unfold cdF
  by_cases g : L ≤ 6
  · rw [if_pos g]
    have e0 : cd tb a 0 = 0 := rfl
    have e1 : cd tb a 1 = 27 * cd tb a 0 + tb a - 96 := cd_s (by omega)
    have e2 : cd tb a 2 = 27 * cd tb a 1 + tb (a + 1) - 96 := cd_s (by omega)
    have e3 : cd tb a 3 = 27 * cd tb a 2 + tb (a + 2) - 96 := cd_s (by omega)
    have e4 : cd tb a 4 = 27 * cd tb a 3 + tb (a + 3) - 96 := cd_s (by omega)
    have e5 : cd tb a 5 = 27 * cd tb a 4 + tb (a + 4) - 96 := cd_s (by omega)
    have e6 : cd tb a 6 = 27 * cd tb a 5 + tb (a + 5) - 96 := cd_s (by omega)
    have e : L = 1 ∨ L = 2 ∨ L = 3 ∨ L = 4 ∨ L = 5 ∨ L = 6 := by omega
    rcases e with rfl | rfl | rfl | rfl | rfl | rfl
    · have h0 : 97 ≤ tb a ∧ tb a ≤ 122 := h 0 (by omega); clear e2 e3 e4 e5 e6; clear h; omega
    · have h0 : 97 ≤ tb a ∧ tb a ≤ 122 := h 0 (by omega); have h1 : 97 ≤ tb (a + 1) ∧ tb (a + 1) ≤ 122 := h 1 (by omega); clear e3 e4 e5 e6; clear h; omega
    · have h0 : 97 ≤ tb a ∧ tb a ≤ 122 := h 0 (by omega); have h1 : 97 ≤ tb (a + 1) ∧ tb (a + 1) ≤ 122 := h 1 (by omega); have h2 : 97 ≤ tb (a + 2) ∧ tb (a + 2) ≤ 122 := h 2 (by omega); clear e4 e5 e6; clear h; omega
    · have h0 : 97 ≤ tb a ∧ tb a ≤ 122 := h 0 (by omega)
      have h1 : 97 ≤ tb (a + 1) ∧ tb (a + 1) ≤ 122 := h 1 (by omega)
      have h2 : 97 ≤ tb (a + 2) ∧ tb (a + 2) ≤ 122 := h 2 (by omega)
      have h3 : 97 ≤ tb (a + 3) ∧ tb (a + 3) ≤ 122 := h 3 (by omega)
      refine ⟨fun z => ?_, fun z => ?_⟩
      · have s3 := dig (x := cd tb a 3) (q := 10360) (r := 20) h3 (by omega) (by rw [← e4]; exact z)
        have s2 := dig (x := cd tb a 2) (q := 383) (r := 19) h2 (by omega) (by rw [← e3]; exact s3.1)
        have s1 := dig (x := cd tb a 1) (q := 14) (r := 5) h1 (by omega) (by rw [← e2]; exact s2.1)
        have s0 := dig (x := cd tb a 0) (q := 0) (r := 14) h0 (by omega) (by rw [← e1]; exact s1.1)
        exact ⟨rfl, s0.2, s1.2, s2.2, s3.2⟩
      · obtain ⟨-, z0, z1, z2, z3⟩ := z
        rw [Nat.add_zero] at z0
        rw [e4, e3, e2, e1, e0, z0, z1, z2, z3]
    · have h0 : 97 ≤ tb a ∧ tb a ≤ 122 := h 0 (by omega); have h1 : 97 ≤ tb (a + 1) ∧ tb (a + 1) ≤ 122 := h 1 (by omega); have h2 : 97 ≤ tb (a + 2) ∧ tb (a + 2) ≤ 122 := h 2 (by omega); have h3 : 97 ≤ tb (a + 3) ∧ tb (a + 3) ≤ 122 := h 3 (by omega); have h4 : 97 ≤ tb (a + 4) ∧ tb (a + 4) ≤ 122 := h 4 (by omega); clear e6; clear h; omega
    · have h0 : 97 ≤ tb a ∧ tb a ≤ 122 := h 0 (by omega); have h1 : 97 ≤ tb (a + 1) ∧ tb (a + 1) ≤ 122 := h 1 (by omega); have h2 : 97 ≤ tb (a + 2) ∧ tb (a + 2) ≤ 122 := h 2 (by omega); have h3 : 97 ≤ tb (a + 3) ∧ tb (a + 3) ≤ 122 := h 3 (by omega); have h4 : 97 ≤ tb (a + 4) ∧ tb (a + 4) ≤ 122 := h 4 (by omega); have h5 : 97 ≤ tb (a + 5) ∧ tb (a + 5) ≤ 122 := h 5 (by omega); clear h; omega
  · rw [if_neg g]
    omega
theorem cdW_3 {tb : Nat → Nat} {a L : Nat} (hL : 0 < L) (h : ∀ j, j < L → 97 ≤ tb (a + j) ∧ tb (a + j) ≤ 122) : cdF tb a L = 50434 ↔ isW tb a L w3 = true := by
  rw [isW_3]
  unfold cdF
  by_cases g : L ≤ 6
  · rw [if_pos g]
    have e0 : cd tb a 0 = 0 := rfl
    have e1 : cd tb a 1 = 27 * cd tb a 0 + tb a - 96 := cd_s (by omega)
    have e2 : cd tb a 2 = 27 * cd tb a 1 + tb (a + 1) - 96 := cd_s (by omega)
    have e3 : cd tb a 3 = 27 * cd tb a 2 + tb (a + 2) - 96 := cd_s (by omega)
    have e4 : cd tb a 4 = 27 * cd tb a 3 + tb (a + 3) - 96 := cd_s (by omega)
    have e5 : cd tb a 5 = 27 * cd tb a 4 + tb (a + 4) - 96 := cd_s (by omega)
    have e6 : cd tb a 6 = 27 * cd tb a 5 + tb (a + 5) - 96 := cd_s (by omega)
    have e : L = 1 ∨ L = 2 ∨ L = 3 ∨ L = 4 ∨ L = 5 ∨ L = 6 := by omega
    rcases e with rfl | rfl | rfl | rfl | rfl | rfl
    · have h0 : 97 ≤ tb a ∧ tb a ≤ 122 := h 0 (by omega); clear e2 e3 e4 e5 e6; clear h; omega
    · have h0 : 97 ≤ tb a ∧ tb a ≤ 122 := h 0 (by omega); have h1 : 97 ≤ tb (a + 1) ∧ tb (a + 1) ≤ 122 := h 1 (by omega); clear e3 e4 e5 e6; clear h; omega
    · have h0 : 97 ≤ tb a ∧ tb a ≤ 122 := h 0 (by omega); have h1 : 97 ≤ tb (a + 1) ∧ tb (a + 1) ≤ 122 := h 1 (by omega); have h2 : 97 ≤ tb (a + 2) ∧ tb (a + 2) ≤ 122 := h 2 (by omega); clear e4 e5 e6; clear h; omega
    · have h0 : 97 ≤ tb a ∧ tb a ≤ 122 := h 0 (by omega)
      have h1 : 97 ≤ tb (a + 1) ∧ tb (a + 1) ≤ 122 := h 1 (by omega)
      have h2 : 97 ≤ tb (a + 2) ∧ tb (a + 2) ≤ 122 := h 2 (by omega)
      have h3 : 97 ≤ tb (a + 3) ∧ tb (a + 3) ≤ 122 := h 3 (by omega)
      refine ⟨fun z => ?_, fun z => ?_⟩
      · have s3 := dig (x := cd tb a 3) (q := 1867) (r := 25) h3 (by omega) (by rw [← e4]; exact z)
        have s2 := dig (x := cd tb a 2) (q := 69) (r := 4) h2 (by omega) (by rw [← e3]; exact s3.1)
        have s1 := dig (x := cd tb a 1) (q := 2) (r := 15) h1 (by omega) (by rw [← e2]; exact s2.1)
        have s0 := dig (x := cd tb a 0) (q := 0) (r := 2) h0 (by omega) (by rw [← e1]; exact s1.1)
        exact ⟨rfl, s0.2, s1.2, s2.2, s3.2⟩
      · obtain ⟨-, z0, z1, z2, z3⟩ := z
        rw [Nat.add_zero] at z0
        rw [e4, e3, e2, e1, e0, z0, z1, z2, z3]
    · have h0 : 97 ≤ tb a ∧ tb a ≤ 122 := h 0 (by omega); have h1 : 97 ≤ tb (a + 1) ∧ tb (a + 1) ≤ 122 := h 1 (by omega); have h2 : 97 ≤ tb (a + 2) ∧ tb (a + 2) ≤ 122 := h 2 (by omega); have h3 : 97 ≤ tb (a + 3) ∧ tb (a + 3) ≤ 122 := h 3 (by omega); have h4 : 97 ≤ tb (a + 4) ∧ tb (a + 4) ≤ 122 := h 4 (by omega); clear e6; clear h; omega
    · have h0 : 97 ≤ tb a ∧ tb a ≤ 122 := h 0 (by omega); have h1 : 97 ≤ tb (a + 1) ∧ tb (a + 1) ≤ 122 := h 1 (by omega); have h2 : 97 ≤ tb (a + 2) ∧ tb (a + 2) ≤ 122 := h 2 (by omega); have h3 : 97 ≤ tb (a + 3) ∧ tb (a + 3) ≤ 122 := h 3 (by omega); have h4 : 97 ≤ tb (a + 4) ∧ tb (a + 4) ≤ 122 := h 4 (by omega); have h5 : 97 ≤ tb (a + 5) ∧ tb (a + 5) ≤ 122 := h 5 (by omega); clear h; omega
  · rw [if_neg g]
    omega
theorem w_rel {tb : Nat → Nat} {a L : Nat} (hL : 0 < L) (h : ∀ j, j < L → 97 ≤ tb (a + j) ∧ tb (a + j) ≤ 122) : wCd (cdF tb a L) = mS (wS tb a L) := by
  have k0 := cdW_0 hL h
  have k1 := cdW_1 hL h
  have k2 := cdW_2 hL h
  have k3 := cdW_3 hL h
  unfold wCd wS
  by_cases g0 : isW tb a L w0 = true
  · rw [if_pos (k0.mpr g0), if_pos g0]; rfl
  · rw [if_neg (fun q => g0 (k0.mp q)), if_neg g0]
    by_cases g1 : isW tb a L w1 = true
    · rw [if_pos (k1.mpr g1), if_pos g1]; rfl
    · rw [if_neg (fun q => g1 (k1.mp q)), if_neg g1]
      by_cases g2 : isW tb a L w2 = true
      · rw [if_pos (k2.mpr g2), if_pos g2]; rfl
      · rw [if_neg (fun q => g2 (k2.mp q)), if_neg g2]
        by_cases g3 : isW tb a L w3 = true
        · rw [if_pos (k3.mpr g3), if_pos g3]; rfl
        · rw [if_neg (fun q => g3 (k3.mp q)), if_neg g3]; rfl
/-- the token at a place: where it starts, where it ends, its sort, its number -/
def TKa (tn : Nat) (tb : Nat → Nat) (p : Nat) : Nat := Sc tn tb isSp p
def TKe (tn : Nat) (tb : Nat → Nat) (p : Nat) : Nat := if tn ≤ TKa tn tb p then TKa tn tb p else if tb (TKa tn tb p) = 59 then TKa tn tb p + 1 else if isDg (tb (TKa tn tb p)) = true then Sc tn tb isDg (TKa tn tb p) else if isLt (tb (TKa tn tb p)) = true then Sc tn tb isLt (TKa tn tb p) else TKa tn tb p
def TKv (tn : Nat) (tb : Nat → Nat) (p : Nat) : Nat := vC tb (TKa tn tb p) (Sc tn tb isDg (TKa tn tb p) - TKa tn tb p)
def TKs (tn : Nat) (tb : Nat → Nat) (p : Nat) : Nat := if tn ≤ TKa tn tb p then 0 else if tb (TKa tn tb p) = 59 then 1 else if isDg (tb (TKa tn tb p)) = true then (if (tb (TKa tn tb p) = 48 ∧ 1 < Sc tn tb isDg (TKa tn tb p) - TKa tn tb p) ∨ 99 < TKv tn tb p then 7 else 2) else if isLt (tb (TKa tn tb p)) = true then wS tb (TKa tn tb p) (Sc tn tb isLt (TKa tn tb p) - TKa tn tb p) else 7
