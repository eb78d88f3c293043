/-! the class: flood -/
def tzOk (o : Nat) : Bool := match fJ6_numberOfTrailingZeros_0f7a4 (nI o) with
  | some v => decide (v = nI v.toNatClampNeg) && decide (v.toNatClampNeg < 13) && o.testBit v.toNatClampNeg && decide (nI o &&& (nI o - 1) = nI (o ^^^ 2 ^ v.toNatClampNeg))
  | none => false
theorem tz_all : ∀ a, a < 64 → ∀ b, b < 128 → 128 * a + b ≠ 0 → tzOk (128 * a + b) = true := by decide +kernel
theorem x_tz {o : Nat} (h : o < 8192) (h0 : o ≠ 0) : ∃ p, p < 13 ∧ fJ6_numberOfTrailingZeros_0f7a4 (nI o) = some (nI p) ∧ o.testBit p = true ∧ nI o &&& (nI o - 1) = nI (o ^^^ 2 ^ p) := by
  have k := tz_all (o / 128) (by omega) (o % 128) (by omega)
  rw [show 128 * (o / 128) + o % 128 = o by omega] at k
  have k := k h0
  unfold tzOk at k
  cases hv : fJ6_numberOfTrailingZeros_0f7a4 (nI o) with
  | none => rw [hv] at k; cases k
  | some v =>
    rw [hv] at k
    simp only [Bool.and_eq_true, decide_eq_true_eq] at k
    obtain ⟨⟨⟨k1, k2⟩, k3⟩, k4⟩ := k
    exact ⟨v.toNatClampNeg, k2, by rw [← k1], k3, k4⟩
theorem nI_andnot13 {a s : Nat} (ha : a < 8192) : nI a &&& (nI s ^^^ -1) = nI (a &&& (s ^^^ 8191)) := by
  apply Int32.toBitVec_inj.mp
  show BitVec.ofNat 32 a &&& (BitVec.ofNat 32 s ^^^ BitVec.ofNat 32 4294967295) = BitVec.ofNat 32 (a &&& (s ^^^ 8191))
  have k1 : ∀ i, i < 32 → (4294967295 : Nat).testBit i = true := by decide
  have k2 : ∀ i, i < 13 → (8191 : Nat).testBit i = true := by decide
  apply BitVec.eq_of_getLsbD_eq
  intro i hi
  simp only [BitVec.getLsbD_and, BitVec.getLsbD_xor, BitVec.getLsbD_ofNat, hi, decide_true, Bool.true_and, Nat.testBit_and, Nat.testBit_xor, k1 i hi]
  by_cases h : i < 13
  · rw [k2 i h]
  · have : a.testBit i = false := Nat.testBit_lt_two_pow (Nat.lt_of_lt_of_le ha (by have := Nat.pow_le_pow_right (n := 2) (by omega) (show 13 ≤ i by omega); omega))
    simp [this]
theorem nI_and (a b : Nat) : nI a &&& nI b = nI (a &&& b) := by
  apply Int32.toBitVec_inj.mp
  show BitVec.ofNat 32 a &&& BitVec.ofNat 32 b = BitVec.ofNat 32 (a &&& b)
  apply BitVec.eq_of_getLsbD_eq
  intro i hi
  simp [hi]
theorem tb13 {s j : Nat} (hj : j < 13) : (s ^^^ 8191).testBit j = !s.testBit j := by
  have k2 : ∀ i, i < 13 → (8191 : Nat).testBit i = true := by decide
  rw [Nat.testBit_xor, k2 j hj, Bool.xor_true]
/-- how many below m -/
def cnt (P : Nat → Bool) : Nat → Nat
  | 0 => 0
  | m + 1 => if P m = true then cnt P m + 1 else cnt P m
theorem cnt_le (P : Nat → Bool) : ∀ m, cnt P m ≤ m := by
  intro m
  induction m with
  | zero => exact Nat.le_refl _
  | succ m ih => rw [cnt]; split <;> omega
theorem cnt_cg {P Q : Nat → Bool} : ∀ m, (∀ j, j < m → P j = Q j) → cnt P m = cnt Q m := by
  intro m
  induction m with
  | zero => intro _; rfl
  | succ m ih =>
    intro h
    rw [cnt, cnt, ih (fun j hj => h j (by omega)), h m (by omega)]
theorem cnt_upd {P Q : Nat → Bool} {p : Nat} : ∀ m, p < m → P p = false → Q p = true → (∀ j, j < m → j ≠ p → Q j = P j) → cnt Q m = cnt P m + 1 := by
  intro m
  induction m with
  | zero => intro h; omega
  | succ m ih =>
    intro h h1 h2 h3
    rw [cnt, cnt]
    by_cases e : m = p
    · subst e
      rw [h2, h1, cnt_cg m (fun j hj => h3 j (by omega) (by omega))]
      simp
    · rw [h3 m (by omega) e, ih (by omega) h1 h2 (fun j hj => h3 j (by omega))]
      split <;> omega
/-- with one place short of all counted, the rest is counted -/
theorem cnt_full {P : Nat → Bool} {p m : Nat} (hp : p < m) (h1 : P p = false) (hc : m ≤ cnt P m + 1) : ∀ j, j < m → j ≠ p → P j = true := by
  intro j hj e
  cases q : P j with
  | true => rfl
  | false =>
    have u1 := cnt_upd (P := P) (Q := fun i => if i = p then true else P i) m hp h1 (by simp) (fun i _ hi => by simp [hi])
    have u2 := cnt_upd (P := fun i => if i = p then true else P i) (Q := fun i => if i = j then true else if i = p then true else P i) m hj (by simp [e, q]) (by simp) (fun i _ hi => by simp [hi])
    have := cnt_le (fun i => if i = j then true else if i = p then true else P i) m
    omega
def Ws (N : Nat → Nat) (Gd st : Nat) : Nat → Nat → Prop
  | 0, j => j = st
  | k + 1, j => Gd.testBit j = true ∧ ∃ i, i < 13 ∧ Ws N Gd st k i ∧ (N i).testBit j = true
section S
variable {s : SS} {N T : Nat → Nat}
theorem x_floodL (hN : ∀ i, N i < 8192) (hl : XL s N T) {Gd st : Nat} (hst : st < 13) : ∀ (d t fuel S O : Nat), t + d = 13 → d < fuel → S < 8192 → O < 8192 → (∀ j, O.testBit j = true → S.testBit j = true) → cnt (fun j => S.testBit j && !O.testBit j) 13 = t → (∀ j, j < 13 → S.testBit j = true → ∃ k, k ≤ t ∧ k ≤ 12 ∧ Ws N Gd st k j) → (∀ i j, i < 13 → j < 13 → S.testBit i = true → O.testBit i = false → (N i).testBit j = true → Gd.testBit j = true → S.testBit j = true) → S.testBit st = true → ∃ R, R < 8192 ∧ L3_flood_30 (nI Gd) s fuel (nI S) (nI O) (nI t) = some (nI R) ∧ ∀ j, j < 13 → (R.testBit j = true ↔ ∃ k, k ≤ 12 ∧ Ws N Gd st k j) := by
  have fin : ∀ (S : Nat), (∀ i j, i < 13 → j < 13 → S.testBit i = true → (N i).testBit j = true → Gd.testBit j = true → S.testBit j = true) → S.testBit st = true → ∀ k j, j < 13 → Ws N Gd st k j → S.testBit j = true := by
    intro S hc h0 k
    induction k with
    | zero => intro j hj h; rw [show j = st from h]; exact h0
    | succ k ih =>
      rintro j hj ⟨h1, i, hi, h2, h3⟩
      exact hc i j hi hj (ih i hi h2) h3 h1
  intro d
  induction d with
  | zero =>
    intro t fuel S O h1 h2 hS hO hOS hc hd hcl h0
    obtain ⟨f, rfl⟩ : ∃ q, fuel = q + 1 := ⟨fuel - 1, by omega⟩
    have hO0 : ∀ j, j < 13 → O.testBit j = false := by
      intro j hj
      cases q : O.testBit j with
      | false => rfl
      | true =>
        have u1 := cnt_upd (P := fun j => S.testBit j && !O.testBit j) (Q := fun i => if i = j then true else (S.testBit i && !O.testBit i)) 13 hj (by simp [q]) (by simp) (fun i _ hi => by simp [hi])
        have := cnt_le (fun i => if i = j then true else (S.testBit i && !O.testBit i)) 13
        omega
    refine ⟨S, hS, ?_, fun j hj => ⟨fun q => ?_, fun ⟨k, _, q⟩ => fin S (fun i j hi hj a b c => hcl i j hi hj a (hO0 i hi) b c) h0 k j hj q⟩⟩
    · rw [L3_flood_30, if_neg (by rw [l13, c_lt (by omega) (by omega)]; omega)]
    · obtain ⟨k, k1, k2, k3⟩ := hd j hj q; exact ⟨k, k2, k3⟩
  | succ d ih =>
    intro t fuel S O h1 h2 hS hO hOS hc hd hcl h0
    obtain ⟨f, rfl⟩ : ∃ q, fuel = q + 1 := ⟨fuel - 1, by omega⟩
    rw [L3_flood_30, if_pos (by rw [l13, c_lt (by omega) (by omega)]; omega)]
    by_cases g : O = 0
    · subst g
      rw [if_pos (show nI 0 = 0 from rfl)]
      refine ⟨S, hS, rfl, fun j hj => ⟨fun q => ?_, fun ⟨k, _, q⟩ => fin S (fun i j hi hj a b c => hcl i j hi hj a (Nat.zero_testBit _) b c) h0 k j hj q⟩⟩
      obtain ⟨k, k1, k2, k3⟩ := hd j hj q; exact ⟨k, k2, k3⟩
    · rw [if_neg (by rw [l0, c_eq (by omega) (by omega)]; exact g)]
      obtain ⟨p, hp, e1, e2, e3⟩ := x_tz hO g
      have hin : inb (nI p) 13 := by rw [c_inb (by omega)]; omega
      have Np := hN p
      have hf : N p &&& Gd < 8192 := Nat.lt_of_le_of_lt Nat.and_le_left Np
      rw [e1, bd_e, lt_e, e3, x_isIn hp, bd_e, lt_e, if_neg (by decide), gd_t hin, c_tn (by omega), (hl p hp).1, nI_and, nI_andnot13 hf]
      obtain ⟨fr, hfr⟩ : ∃ fr, fr = (N p &&& Gd) &&& (S ^^^ 8191) := ⟨_, rfl⟩
      have fr1 : fr < 8192 := by rw [hfr]; exact Nat.lt_of_le_of_lt Nat.and_le_left hf
      have frt : ∀ j, j < 13 → fr.testBit j = ((N p).testBit j && Gd.testBit j && !S.testBit j) := by
        intro j hj
        rw [hfr, Nat.testBit_and, Nat.testBit_and, tb13 hj]
      rw [← hfr]
      simp only [lt_e, nI_or, nI_1]
      have Sp := hOS p e2
      have frp : fr.testBit p = false := by rw [frt p hp, Sp]; simp
      have o1 : ∀ j, (O ^^^ 2 ^ p).testBit j = (O.testBit j ^^ decide (p = j)) := fun j => by rw [Nat.testBit_xor, Nat.testBit_two_pow]
      have out : ∀ {x j : Nat}, x < 8192 → 13 ≤ j → x.testBit j = false := fun hx hj => tb_out (n := 13) hx hj
      have p13 : 2 ^ p < 8192 := Nat.lt_of_lt_of_le (Nat.pow_lt_pow_right (by omega) hp) (by decide)
      refine ih (t + 1) f (S ||| fr) (O ^^^ 2 ^ p ||| fr) (by omega) (by omega) (Nat.or_lt_two_pow (n := 13) hS fr1) (Nat.or_lt_two_pow (n := 13) (Nat.xor_lt_two_pow (n := 13) hO p13) fr1) ?_ ?_ ?_ ?_ ?_
      · intro j hj
        rw [Nat.testBit_or, o1] at hj
        rw [Nat.testBit_or]
        by_cases e : p = j
        · subst e; rw [Sp]; rfl
        · rw [decide_eq_false e, Bool.xor_false] at hj
          cases q : O.testBit j with
          | true => rw [hOS j q]; rfl
          | false => rw [q, Bool.false_or] at hj; rw [hj, Bool.or_true]
      · rw [← hc]
        refine cnt_upd 13 hp ?_ ?_ ?_
        · show (S.testBit p && !O.testBit p) = false
          rw [e2]; simp
        · show ((S ||| fr).testBit p && !(O ^^^ 2 ^ p ||| fr).testBit p) = true
          rw [Nat.testBit_or, Nat.testBit_or, o1, Sp, frp, e2]; simp
        · intro j hj e
          show ((S ||| fr).testBit j && !(O ^^^ 2 ^ p ||| fr).testBit j) = (S.testBit j && !O.testBit j)
          rw [Nat.testBit_or, Nat.testBit_or, o1, decide_eq_false (fun q => e q.symm), Bool.xor_false]
          cases q : fr.testBit j with
          | false => simp
          | true =>
            rw [frt j hj] at q
            have : S.testBit j = false := by
              cases z : S.testBit j
              · rfl
              · rw [z] at q; simp at q
            simp [this]
      · intro j hj hSj
        rw [Nat.testBit_or] at hSj
        cases q : S.testBit j with
        | true =>
          obtain ⟨k, k1, k2, k3⟩ := hd j hj q
          exact ⟨k, by omega, k2, k3⟩
        | false =>
          rw [q, Bool.false_or, frt j hj] at hSj
          obtain ⟨k, k1, k2, k3⟩ := hd p hp Sp
          have hk : k + 1 ≤ 12 := by
            by_cases ht : t = 12
            · exfalso
              have all := cnt_full (P := fun j => S.testBit j && !O.testBit j) (m := 13) hp (by simp [e2]) (by omega) j hj (fun e => by rw [e, Sp] at q; cases q)
              have all : (S.testBit j && !O.testBit j) = true := all
              rw [q] at all; cases all
            · omega
          simp only [Bool.and_eq_true] at hSj
          exact ⟨k + 1, by omega, hk, hSj.1.2, p, hp, k3, hSj.1.1⟩
      · intro i j hi hj a1 a2 a3 a4
        rw [Nat.testBit_or, o1] at a2
        rw [Nat.testBit_or] at a1 ⊢
        have f0 : fr.testBit i = false := by
          cases q : fr.testBit i
          · rfl
          · rw [q, Bool.or_true] at a2; cases a2
        rw [f0, Bool.or_false] at a1 a2
        by_cases e : p = i
        · subst e
          cases q : S.testBit j with
          | true => rfl
          | false => rw [Bool.false_or, frt j hj, a3, a4, q]; rfl
        · rw [decide_eq_false e, Bool.xor_false] at a2
          rw [hcl i j hi hj a1 a2 a3 a4]; rfl
      · rw [Nat.testBit_or, h0]; rfl
theorem x_firmL {T N : Nat → Nat} (hT : ∀ i, T i ≤ 10) (hl : XL s N T) : ∀ (d i fuel : Nat), i + d = 13 → d < fuel → L3_firm_4 s fuel (nI (msk (fun j => decide (0 < T j)) i)) (nI i) = some (nI (msk (fun j => decide (0 < T j)) 13)) := by
  intro d
  induction d with
  | zero =>
    intro i fuel h1 h2
    obtain ⟨f, rfl⟩ : ∃ q, fuel = q + 1 := ⟨fuel - 1, by omega⟩
    rw [L3_firm_4, if_neg (by rw [l13, c_lt (by omega) (by omega)]; omega), show i = 13 by omega]
  | succ d ih =>
    intro i fuel h1 h2
    obtain ⟨f, rfl⟩ : ∃ q, fuel = q + 1 := ⟨fuel - 1, by omega⟩
    have hin : inb (nI i) 13 := by rw [c_inb (by omega)]; omega
    have hTi := hT i
    have k := ih (i + 1) f (by omega) (by omega)
    rw [msk] at k
    rw [L3_firm_4, if_pos (by rw [l13, c_lt (by omega) (by omega)]; omega), gd_t hin, c_tn (by omega), (hl i (by omega)).2]
    simp only [lt_e, nI_1]
    by_cases g : 0 < T i
    · rw [if_neg (by rw [l0, c_le (by omega) (by omega)]; omega), nI_or1 (by omega)]
      rw [if_pos (decide_eq_true g)] at k
      exact k
    · rw [if_pos (by rw [l0, c_le (by omega) (by omega)]; omega)]
      rw [if_neg (by simp [g])] at k
      exact k
theorem x_firm {T N : Nat → Nat} (hT : ∀ i, T i ≤ 10) (hl : XL s N T) : f3_firm s = some (nI (msk (fun j => decide (0 < T j)) 13)) := by
  have L : L3_firm_4 s FU 0 0 = _ := x_firmL hT hl 13 0 FU (by omega) (by unfold FU; omega)
  unfold f3_firm
  rw [L, bk1_e]
theorem x_floodN (hN : ∀ i, N i < 8192) (hT : ∀ i, T i ≤ 10) (hl : XL s N T) {Gd st : Nat} {a : Int32} (hst : st < 13) (ha : a &&& nI (msk (fun j => decide (0 < T j)) 13) = nI Gd) : ∃ R, R < 8192 ∧ f3_flood (nI st) a s = some (nI R) ∧ ∀ j, j < 13 → (R.testBit j = true ↔ ∃ k, k ≤ 12 ∧ Ws N Gd st k j) := by
  have p13 : 2 ^ st < 8192 := Nat.lt_of_lt_of_le (Nat.pow_lt_pow_right (by omega) hst) (by decide)
  obtain ⟨R, r1, r2, r3⟩ := x_floodL hN hl (Gd := Gd) hst 13 0 FU (2 ^ st) (2 ^ st) (by omega) (by unfold FU; omega) p13 p13 (fun _ h => h) (by
    rw [cnt_cg (Q := fun _ => false) 13 (fun j _ => by simp)]
    rfl) (fun j hj h => by
      rw [Nat.testBit_two_pow] at h
      exact ⟨0, by omega, by omega, (of_decide_eq_true h).symm⟩) (fun i j hi hj h1 h2 => by rw [h1] at h2; cases h2) (by rw [Nat.testBit_two_pow]; simp)
  refine ⟨R, r1, ?_, r3⟩
  unfold f3_flood
  rw [x_firm hT hl, bd_e, lt_e, ha, x_isIn hst, bd_e, lt_e, if_neg (by decide), sh1 st (by omega)]
  show bk1 (L3_flood_30 (nI Gd) s FU (nI (2 ^ st)) (nI (2 ^ st)) 0) (fun x16 => some x16) = _
  rw [show L3_flood_30 (nI Gd) s FU (nI (2 ^ st)) (nI (2 ^ st)) 0 = some (nI R) from r2, bk1_e]
end S
