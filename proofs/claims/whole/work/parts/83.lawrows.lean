/-! the law: rows; the start's relation -/
theorem r_init : RR (sI σz 17 6 1) τz := by
  refine ⟨⟨0, 0, fun _ _ => 0, fun _ _ => 0, fun i => [3, 2, 2, 4, 3, 0].getD i 0, fun _ => 0, fun _ => 0, fun _ => ((0, 12, 0, 0, 0, 0, 1, 0) : CT), fun _ => false, ⟨⟨by omega, by omega, fun k hk => by omega, fun k hk => by omega⟩, ⟨rfl, rfl, fun w k _ hk => by omega, fun w k _ hk => by omega⟩, ⟨rfl, rfl, fun w k _ hk => by omega, fun w k _ hk => by omega⟩, ⟨by decide, by decide, by decide, by decide, by decide, by decide, by decide, by decide⟩, fun i hi => ?_, fun i hi => ?_, ⟨fun i hi => by omega, fun i j _ hj => by omega, fun k hk => by omega, fun b hb => by omega⟩, fun i hi => by omega, fun i hi => by omega⟩, ⟨fun i hi => ?_, fun i hi => ?_, fun i hi => ?_⟩⟩, ⟨0, fun _ => 0, ⟨Nat.zero_le _, fun j hj => by omega⟩, ⟨rfl, fun j hj => by omega⟩, rfl, fun j hj => by omega⟩, ⟨0, fun _ => 0, fun _ => 0, fun _ => 0, ⟨Nat.zero_le _, fun j hj => by omega⟩, ⟨rfl, fun j hj => by omega⟩, rfl, fun j hj => by omega⟩, rfl, ?_, ?_⟩
  · match i, hi with
    | 0, _ => rfl
    | 1, _ => rfl
    | 2, _ => rfl
    | 3, _ => rfl
    | 4, _ => rfl
    | 5, _ => rfl
    | n + 6, h => exact absurd h (by omega)
  · match i, hi with
    | 0, _ => rfl
    | 1, _ => rfl
    | 2, _ => rfl
    | 3, _ => rfl
    | 4, _ => rfl
    | 5, _ => rfl
    | n + 6, h => exact absurd h (by omega)
  · rcases hi with rfl | rfl
    · rfl
    · rfl
  · rcases hi with rfl | rfl
    · rfl
    · rfl
  · rcases hi with rfl | ⟨_, hi⟩
    · exact ⟨⟨Or.inr rfl, Or.inr rfl, by show (0 : Nat) ≤ 99; omega, by show (0 : Nat) < 2 ^ 0; decide⟩, ⟨rfl, rfl, rfl, rfl, rfl, rfl, rfl, rfl⟩, ⟨rfl, rfl, rfl, rfl, rfl, rfl, rfl, rfl⟩⟩
    · cases hi
  · show ¬ (false = true)
    decide
  · show ¬ (false = true)
    decide
theorem pI_some {α : Type} {x : Option α} {σ σ' : SS} {r : α} (h : pI x σ = some (r, σ')) : x = some r ∧ σ' = σ := by
  cases x with
  | none => cases h
  | some y => cases h; exact ⟨rfl, rfl⟩
section LAWR
variable {G : GT} {K : KT} {cc : ByteArray} {own : String} {nl fr lo : Nat} {w : va_W} {pc : Nat} {lv : List (Nat × Value)} {rest : List Value} {b L i : Nat} {xs : Nat → Int32}
/-- the script -/
def SX (G : GT) (K : KT) (b L : Nat) (xs : Nat → Int32) : Prop := match K with
  | (_, _, _, _, s, _, _, _, _, _, _, _, _, _) => va_X b L xs s s.heap ∧ b < s.heap.size ∧ ¬ gA G b
theorem v_sld (C : Ctx G K cc own nl fr lo) (X : SX G K b L xs) {j : Int32} (hin : vp_in j L) (hd : decode cc pc = .ok (.iaload, 1)) (k : V G K w (pc + 1) lv (.int (xs j.toNatClampNeg) :: rest)) : V G K w pc lv (.int j :: .ref b :: rest) := by
  obtain ⟨p, l, e, R, s, m, args, below, meth, c, Q, cells, slots, nL⟩ := K
  obtain ⟨hx, hb, hml, hown, hts, hlk, hK, hst, hN, hfr, hlo, hc, hs, rfl⟩ := C
  obtain ⟨hX, hbl, hbA⟩ := X
  intro H locs ls hP hD hS hl
  exact va_sld hx hb hX hbl hbA hS hin hd (k H locs ls hP hD hS hl)
theorem v_sln (C : Ctx G K cc own nl fr lo) (X : SX G K b L xs) (hd : decode cc pc = .ok (.arraylength, 1)) (k : V G K w (pc + 1) lv (.int (Int32.ofNat L) :: rest)) : V G K w pc lv (.ref b :: rest) := by
  obtain ⟨p, l, e, R, s, m, args, below, meth, c, Q, cells, slots, nL⟩ := K
  obtain ⟨hx, hb, hml, hown, hts, hlk, hK, hst, hN, hfr, hlo, hc, hs, rfl⟩ := C
  obtain ⟨hX, hbl, hbA⟩ := X
  intro H locs ls hP hD hS hl
  exact va_slen hx hb hX hbl hbA hS hd (k H locs ls hP hD hS hl)
theorem sin (k : Nat) (hk : k < 5) (hi : i + 5 ≤ L) (hL : L ≤ 2560) : vp_in (nI i + nI k) L := by
  rw [nI_add]
  exact vp_in_nI (by omega) (by omega)
theorem sin0 (hi : i + 5 ≤ L) (hL : L ≤ 2560) : vp_in (nI i) L := vp_in_nI (by omega) (by omega)
theorem sin1 (hi : i + 5 ≤ L) (hL : L ≤ 2560) : vp_in (nI i + 1) L := by rw [l1]; exact sin 1 (by omega) hi hL
theorem sin2 (hi : i + 5 ≤ L) (hL : L ≤ 2560) : vp_in (nI i + 2) L := by rw [l2]; exact sin 2 (by omega) hi hL
theorem sin3 (hi : i + 5 ≤ L) (hL : L ≤ 2560) : vp_in (nI i + 3) L := by rw [l3]; exact sin 3 (by omega) hi hL
theorem sin4 (hi : i + 5 ≤ L) (hL : L ≤ 2560) : vp_in (nI i + 4) L := by rw [l4]; exact sin 4 (by omega) hi hL
abbrev lvL (G : GT) (b i : Nat) : List (Nat × Value) := [(3, .int (nI i)), (2, .ref (aM G 0)), (1, .ref (aX G 0)), (0, .ref b)]
def NX (G : GT) (K : KT) (b i : Nat) : Prop := ∀ σ τ : SS, RR σ τ → V G K (wX G σ ++ wM G τ) 1293 (lvL G b i) []
theorem go_on (hL : L ≤ 2560) (hi : i ≤ L + 5) : (nI i ≤ Int32.ofNat L - 5) = (i + 5 ≤ L) := by
  by_cases h : 5 ≤ L
  · have e : Int32.ofNat L - 5 = nI (L - 5) := by
      rw [l5]
      exact c_sub h
    rw [e, c_le (by omega) (by omega)]
    exact propext ⟨fun q => by omega, fun q => by omega⟩
  · have e : Int32.ofNat L - 5 < 0 := by
      have : L = 0 ∨ L = 1 ∨ L = 2 ∨ L = 3 ∨ L = 4 := by omega
      rcases this with rfl | rfl | rfl | rfl | rfl <;> decide
    refine propext ⟨fun q => ?_, fun q => by omega⟩
    have h1 := Int32.le_iff_toInt_le.mp q
    have h2 := Int32.lt_iff_toInt_lt.mp e
    rw [nI_toInt (by omega)] at h1
    have : (0 : Int32).toInt = 0 := by decide
    omega
theorem sw (x : Int32) : (∃ j : Nat, j ≤ 32 ∧ x = nI j) ∨ (x.toInt < 0 ∨ 32 < x.toInt) := by
  rcases i_cases x with h | ⟨k, hk, rfl⟩
  · have h2 := Int32.lt_iff_toInt_lt.mp h
    have : (0 : Int32).toInt = 0 := by decide
    exact Or.inr (Or.inl (by omega))
  · by_cases h : k ≤ 32
    · exact Or.inl ⟨k, h, rfl⟩
    · right; right
      rw [nI_toInt hk]
      omega
end LAWR
