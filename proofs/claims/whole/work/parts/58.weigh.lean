/-! the class: weigh -/
theorem bB_ge (b : Bool) : 10 ≤ bB b ∧ bB b ≤ 11 := by cases b <;> decide
theorem bB_ne {b c : Bool} (h : b ≠ c) : bB b ≠ bB c := by cases b <;> cases c <;> first | exact absurd rfl h | decide
theorem lN10 : (10 : Int64) = lN 10 := by decide
theorem lNWH : (1000000000000 : Int64) = lN WH := by decide
theorem XL.i {s : SS} {N T : Nat → Nat} (h : XL s N T) {k j : Nat} {v : Int32} (hk : k ≠ 5 ∧ k ≠ 6) : XL (sI s k j v) N T := fun i hi => ⟨by rw [sI_o (by omega)]; exact (h i hi).1, by rw [sI_o (by omega)]; exact (h i hi).2⟩
theorem XL.l {s : SS} {N T : Nat → Nat} (h : XL s N T) {k j : Nat} {v : Int64} : XL (sL s k j v) N T := h
theorem XL.b {s : SS} {N T : Nat → Nat} (h : XL s N T) {k : Nat} {v : Bool} : XL (sB s k v) N T := h
theorem lt_if {α β : Type} {c : Prop} {inst : Decidable c} (f : α → β) (x y : α) : lt f (fun J => if c then J x else J y) = f (if c then x else y) := by
  rw [lt_e]
  split <;> rfl
def WX (s : SS) (e : Nat → Nat → Nat) (k : Nat) : Prop := ∀ j, j < 13 → s.2.1 (bB (s.2.2 2)) j = lN (e k j) ∧ s.2.1 8 j = lN (OD (fun k => e k j) k) ∧ s.1 7 j = nI (SP (fun k => e k j) k)
section S
variable {σ τ : SS}
theorem x_weighI {N T : Nat → Nat} {e : Nat → Nat → Nat} {a : Nat} (ha : a < 13) (he : ∀ j, j < 13 → e 0 j = if j = a then WH else 0) : ∀ (d i fuel : Nat) (s : SS), i + d = 13 → d < fuel → XS σ s → XL s N T → (∀ j, j < i → s.2.1 (bB (s.2.2 2)) j = lN (e 0 j) ∧ s.2.1 8 j = lN (e 0 j) ∧ s.1 7 j = 0) → ∃ s', L3_weigh_2 (nI a) fuel (nI i) s = some s' ∧ XS σ s' ∧ XL s' N T ∧ WX s' e 0 := by
  intro d
  induction d with
  | zero =>
    intro i fuel s h1 h2 hq hl hz
    obtain ⟨f, rfl⟩ : ∃ q, fuel = q + 1 := ⟨fuel - 1, by omega⟩
    refine ⟨s, ?_, hq, hl, fun j hj => hz j (by omega)⟩
    rw [L3_weigh_2, if_neg (by rw [l13, c_lt (by omega) (by omega)]; omega)]
  | succ d ih =>
    intro i fuel s h1 h2 hq hl hz
    obtain ⟨f, rfl⟩ : ∃ q, fuel = q + 1 := ⟨fuel - 1, by omega⟩
    have hin : inb (nI i) 13 := by rw [c_inb (by omega)]; omega
    have hb := bB_ge (s.2.2 2)
    rw [L3_weigh_2, if_pos (by rw [l13, c_lt (by omega) (by omega)]; omega)]
    have ex : (if nI i = nI a then (1000000000000 : Int64) else 0) = lN (e 0 i) := by
      rw [he i (by omega)]
      by_cases q : i = a
      · rw [if_pos (by rw [q]), if_pos q, lNWH]
      · rw [if_neg (by rw [c_eq (by omega) (by omega)]; exact q), if_neg q]; rfl
    rw [lt_if, ex]
    simp only [gd_t hin, lt_e, c_tn (show i < 2147483648 by omega), nI_1]
    refine ih (i + 1) f _ (by omega) (by omega) (((hq.l' (by omega)).l' (by omega)).i' (by omega)) ((hl.l.l).i (by omega)) (fun j hj => ?_)
    show (sL (sL s (bB (s.2.2 2)) i (lN (e 0 i))) 8 i ((sL s (bB (s.2.2 2)) i (lN (e 0 i))).2.1 (bB (s.2.2 2)) i)).2.1 (bB (s.2.2 2)) j = _ ∧ (sL (sL s (bB (s.2.2 2)) i (lN (e 0 i))) 8 i ((sL s (bB (s.2.2 2)) i (lN (e 0 i))).2.1 (bB (s.2.2 2)) i)).2.1 8 j = _ ∧ _
    by_cases q : j = i
    · subst q
      exact ⟨by rw [sL_o (by omega), sL_s], by rw [sL_s, sL_s], sI_s⟩
    · have z := hz j (by omega)
      exact ⟨by rw [sL_o (by omega), sL_o (by omega)]; exact z.1, by rw [sL_o (by omega), sL_o (by omega)]; exact z.2.1, by rw [sI_o (by omega)]; exact z.2.2⟩
theorem lmax {a b : Nat} (ha : a < 2 ^ 62) (hb : b < 2 ^ 62) {inst : Decidable (lN a < lN b)} : (if lN a < lN b then lN b else lN a) = lN (max b a) := by
  have e := l_lt (a := a) (b := b) (by omega) (by omega)
  by_cases g : a < b
  · rw [if_pos (e ▸ g), Nat.max_eq_left (by omega)]
  · rw [if_neg (e ▸ g), Nat.max_eq_right (by omega)]
theorem x_bestL {s : SS} {N T e : Nat → Nat} {to : Nat} (ht : to < 13) (hN : ∀ i, N i < 8192) (he : ∀ i, e i ≤ WH) (hl : XL s N T) (hb : ∀ j, j < 13 → s.2.1 (bB (s.2.2 2)) j = lN (e j)) : ∀ (d i fuel : Nat), i + d = 13 → d < fuel → L3_bestInto_14 (nI to) s fuel (lN (mx (fun i => if (N i).testBit to = true then e i else 0) i)) (nI i) = some (lN (mx (fun i => if (N i).testBit to = true then e i else 0) 13)) := by
  intro d
  induction d with
  | zero =>
    intro i fuel h1 h2
    obtain ⟨f, rfl⟩ : ∃ q, fuel = q + 1 := ⟨fuel - 1, by omega⟩
    rw [L3_bestInto_14, if_neg (by rw [l13, c_lt (by omega) (by omega)]; omega), show i = 13 by omega]
  | succ d ih =>
    intro i fuel h1 h2
    obtain ⟨f, rfl⟩ : ∃ q, fuel = q + 1 := ⟨fuel - 1, by omega⟩
    have hin : inb (nI i) 13 := by rw [c_inb (by omega)]; omega
    have hNi := hN i
    have k := ih (i + 1) f (by omega) (by omega)
    rw [mx] at k
    rw [L3_bestInto_14, if_pos (by rw [l13, c_lt (by omega) (by omega)]; omega), gd_t hin]
    simp only [lt_e, gd_t hin, nI_1, c_tn (show i < 2147483648 by omega), (hl i (by omega)).1, x_has (show N i < 2147483648 by omega) (show to < 32 by omega), bd_e, ib0, hb i (by omega)]
    have mb : mx (fun i => if (N i).testBit to = true then e i else 0) i ≤ WH := mx_le _ (fun j hj => by
      show (if (N j).testBit to = true then e j else 0) ≤ WH
      split
      · exact he j
      · exact Nat.zero_le _)
    have hei := he i
    have wh : WH < 2 ^ 62 := by decide
    rw [lmax (by omega) (by omega)]
    cases hbt : (N i).testBit to with
    | true => rw [hbt, if_pos rfl] at k; exact k
    | false => rw [hbt, if_neg (by simp), Nat.max_eq_left (by omega)] at k; exact k
theorem x_bestInto {s : SS} {N T e : Nat → Nat} {to : Nat} (ht : to < 13) (hN : ∀ i, N i < 8192) (hT : ∀ i, T i ≤ 10) (he : ∀ i, e i ≤ WH) (hl : XL s N T) (hb : ∀ j, j < 13 → s.2.1 (bB (s.2.2 2)) j = lN (e j)) : f3_bestInto (nI to) s = some (lN (mx (fun i => if (N i).testBit to = true then e i else 0) 13 * T to / 10)) := by
  have hin : inb (nI to) 13 := by rw [c_inb (by omega)]; omega
  have L : L3_bestInto_14 (nI to) s FU 0 0 = _ := x_bestL ht hN he hl hb 13 0 FU (by omega) (by unfold FU; omega)
  have mb : mx (fun i => if (N i).testBit to = true then e i else 0) 13 ≤ WH := mx_le _ (fun j hj => by
    show (if (N j).testBit to = true then e j else 0) ≤ WH
    split
    · exact he j
    · exact Nat.zero_le _)
  have hTt := hT to
  have mm : mx (fun i => if (N i).testBit to = true then e i else 0) 13 * T to ≤ WH * 10 := Nat.mul_le_mul mb hTt
  have wh : WH * 10 < 2 ^ 63 := by decide
  unfold f3_bestInto
  rw [x_isIn ht, bd_e, if_neg (by decide), L, bk1_e, gd_t hin, c_tn (by omega), (hl to ht).2, l_i (by omega), lN_mul, lN10, pk_lDiv (by omega) (by omega) (by omega)]
theorem x_weighS {N T : Nat → Nat} {e : Nat → Nat → Nat} (hN : ∀ i, N i < 8192) (hT : ∀ i, T i ≤ 10) (he : ∀ k i, e k i ≤ WH) {k : Nat} (hs : ∀ j, j < 13 → mx (fun i => if (N i).testBit j = true then e k i else 0) 13 * T j / 10 = e (k + 1) j) : ∀ (d i fuel : Nat) (s : SS), i + d = 13 → d < fuel → XS σ s → XL s N T → (∀ j, j < 13 → s.2.1 (bB (s.2.2 2)) j = lN (e k j) ∧ (j < i → s.2.1 (bB (s.2.2 3)) j = lN (e (k + 1) j)) ∧ s.2.1 8 j = lN (OD (fun k => e k j) (if j < i then k + 1 else k)) ∧ s.1 7 j = nI (SP (fun k => e k j) (if j < i then k + 1 else k))) → ∃ s', L3_weigh_61 (nI (k + 1)) fuel (nI i) s = some s' ∧ XS σ s' ∧ XL s' N T ∧ ∀ j, j < 13 → s'.2.1 (bB (s'.2.2 3)) j = lN (e (k + 1) j) ∧ s'.2.1 8 j = lN (OD (fun k => e k j) (k + 1)) ∧ s'.1 7 j = nI (SP (fun k => e k j) (k + 1)) := by
  have wh : WH < 2 ^ 62 := by decide
  intro d
  induction d with
  | zero =>
    intro i fuel s h1 h2 hq hl hz
    obtain ⟨f, rfl⟩ : ∃ q, fuel = q + 1 := ⟨fuel - 1, by omega⟩
    refine ⟨s, ?_, hq, hl, fun j hj => ?_⟩
    · rw [L3_weigh_61, if_neg (by rw [l13, c_lt (by omega) (by omega)]; omega)]
    · have z := hz j hj
      rw [if_pos (by omega)] at z
      exact ⟨z.2.1 (by omega), z.2.2⟩
  | succ d ih =>
    intro i fuel s h1 h2 hq hl hz
    obtain ⟨f, rfl⟩ : ∃ q, fuel = q + 1 := ⟨fuel - 1, by omega⟩
    have hin : inb (nI i) 13 := by rw [c_inb (by omega)]; omega
    have b2 := bB_ge (s.2.2 2)
    have b3 := bB_ge (s.2.2 3)
    have bn := bB_ne hq.2.2.1
    have zi := hz i (by omega)
    rw [if_neg (by omega)] at zi
    have hB := x_bestInto (s := s) (to := i) (by omega) hN hT (he k) hl (fun j hj => (hz j hj).1)
    rw [hs i (by omega)] at hB
    rw [L3_weigh_61, if_pos (by rw [l13, c_lt (by omega) (by omega)]; omega), hB, bd_e]
    simp only [gd_t hin, lt_e, c_tn (show i < 2147483648 by omega), nI_1]
    have v1 : (sL s (bB (s.2.2 3)) i (lN (e (k + 1) i))).2.1 (bB ((sL s (bB (s.2.2 3)) i (lN (e (k + 1) i))).2.2 3)) i = lN (e (k + 1) i) := sL_s
    have v2 : (sL s (bB (s.2.2 3)) i (lN (e (k + 1) i))).2.1 8 i = lN (OD (fun k => e k i) k) := by rw [sL_o (by omega)]; exact zi.2.2.1
    have o1 := OD_le (e := fun k => e k i) (c := WH) (fun k => he k i) k
    have o2 := he (k + 1) i
    have e1 : OD (fun k => e k i) (k + 1) = if OD (fun k => e k i) k < e (k + 1) i then e (k + 1) i else OD (fun k => e k i) k := rfl
    have e2 : SP (fun k => e k i) (k + 1) = if OD (fun k => e k i) k < e (k + 1) i then k + 1 else SP (fun k => e k i) k := rfl
    rw [v1, v2]
    by_cases g : OD (fun k => e k i) k < e (k + 1) i
    · rw [if_neg (by rw [l_le (by omega) (by omega)]; omega)]
      rw [if_pos g] at e1 e2
      refine ih (i + 1) f _ (by omega) (by omega) (((hq.l' (by omega)).l' (by omega)).i' (by omega)) ((hl.l.l).i (by omega)) (fun j hj => ?_)
      have z := hz j hj
      show (sL (sL s (bB (s.2.2 3)) i (lN (e (k + 1) i))) 8 i (lN (e (k + 1) i))).2.1 (bB (s.2.2 2)) j = _ ∧ (_ → (sL (sL s (bB (s.2.2 3)) i (lN (e (k + 1) i))) 8 i (lN (e (k + 1) i))).2.1 (bB (s.2.2 3)) j = _) ∧ (sL (sL s (bB (s.2.2 3)) i (lN (e (k + 1) i))) 8 i (lN (e (k + 1) i))).2.1 8 j = _ ∧ _
      by_cases q : j = i
      · subst q
        rw [if_pos (by omega)]
        exact ⟨by rw [sL_o (by omega), sL_o (by omega)]; exact z.1, fun _ => by rw [sL_o (by omega), sL_s], by rw [sL_s, e1], by rw [sI_s, e2]⟩
      · refine ⟨by rw [sL_o (by omega), sL_o (by omega)]; exact z.1, fun hj2 => by rw [sL_o (by omega), sL_o (by omega)]; exact z.2.1 (by omega), ?_, ?_⟩
        · rw [sL_o (by omega), sL_o (by omega), z.2.2.1]
          by_cases l : j < i
          · rw [if_pos l, if_pos (by omega)]
          · rw [if_neg l, if_neg (by omega)]
        · rw [sI_o (by omega)]
          show s.1 7 j = _
          rw [z.2.2.2]
          by_cases l : j < i
          · rw [if_pos l, if_pos (by omega)]
          · rw [if_neg l, if_neg (by omega)]
    · rw [if_pos (by rw [l_le (by omega) (by omega)]; omega)]
      rw [if_neg g] at e1 e2
      refine ih (i + 1) f _ (by omega) (by omega) (hq.l' (by omega)) hl.l (fun j hj => ?_)
      have z := hz j hj
      show (sL s (bB (s.2.2 3)) i (lN (e (k + 1) i))).2.1 (bB (s.2.2 2)) j = _ ∧ (_ → (sL s (bB (s.2.2 3)) i (lN (e (k + 1) i))).2.1 (bB (s.2.2 3)) j = _) ∧ (sL s (bB (s.2.2 3)) i (lN (e (k + 1) i))).2.1 8 j = _ ∧ s.1 7 j = _
      by_cases q : j = i
      · subst q
        rw [if_pos (by omega)]
        exact ⟨by rw [sL_o (by omega)]; exact z.1, fun _ => sL_s, by rw [sL_o (by omega), e1]; exact zi.2.2.1, by rw [e2]; exact zi.2.2.2⟩
      · refine ⟨by rw [sL_o (by omega)]; exact z.1, fun hj2 => by rw [sL_o (by omega)]; exact z.2.1 (by omega), ?_, ?_⟩
        · rw [sL_o (by omega), z.2.2.1]
          by_cases l : j < i
          · rw [if_pos l, if_pos (by omega)]
          · rw [if_neg l, if_neg (by omega)]
        · rw [z.2.2.2]
          by_cases l : j < i
          · rw [if_pos l, if_pos (by omega)]
          · rw [if_neg l, if_neg (by omega)]
theorem x_weighO {N T : Nat → Nat} {e : Nat → Nat → Nat} (hN : ∀ i, N i < 8192) (hT : ∀ i, T i ≤ 10) (he : ∀ k i, e k i ≤ WH) (hs : ∀ k j, k < 12 → j < 13 → mx (fun i => if (N i).testBit j = true then e k i else 0) 13 * T j / 10 = e (k + 1) j) : ∀ (d k fuel : Nat) (s : SS), k + d = 12 → d < fuel → XS σ s → XL s N T → WX s e k → ∃ s', L3_weigh_53 fuel (nI (k + 1)) s = some s' ∧ XS σ s' ∧ XL s' N T ∧ WX s' e 12 := by
  intro d
  induction d with
  | zero =>
    intro k fuel s h1 h2 hq hl hz
    obtain ⟨f, rfl⟩ : ∃ q, fuel = q + 1 := ⟨fuel - 1, by omega⟩
    refine ⟨s, ?_, hq, hl, by rw [show 12 = k by omega]; exact hz⟩
    rw [L3_weigh_53, if_neg (by rw [l13, c_lt (by omega) (by omega)]; omega)]
  | succ d ih =>
    intro k fuel s h1 h2 hq hl hz
    obtain ⟨f, rfl⟩ : ∃ q, fuel = q + 1 := ⟨fuel - 1, by omega⟩
    obtain ⟨s', k1, k2, k3, k4⟩ := x_weighS (σ := σ) hN hT he (k := k) (fun j hj => hs k j (by omega) hj) 13 0 FU s (by omega) (by unfold FU; omega) hq hl (fun j hj => by
      have z := hz j hj
      rw [if_neg (by omega)]
      exact ⟨z.1, fun q => absurd q (by omega), z.2⟩)
    have k1 : L3_weigh_61 (nI (k + 1)) FU 0 s = some s' := k1
    rw [L3_weigh_53, if_pos (by rw [l13, c_lt (by omega) (by omega)]; omega), k1, bk1_e]
    simp only [lt_e, nI_1]
    refine ih (k + 1) f _ (by omega) (by omega) ⟨k2.1, k2.2.1, ?_, k2.2.2.2⟩ k3 (fun j hj => k4 j hj)
    show s'.2.2 3 ≠ s'.2.2 2
    exact fun q => k2.2.2.1 q.symm
theorem x_weigh {n : Nat} {M : Nat → Nat → Bool} {H : Nat → Nat} {st : Nat} (hn : n ≤ 12) (hH : ∀ b, pl n b → H b ≤ 10) (hst : pl n st) {s : SS} (hq : XS σ s) (hl : XL s (NN n M) (TT n H)) : ∃ s', f3_weigh (nI (sm st)) s = some s' ∧ XS σ s' ∧ XL s' (NN n M) (TT n H) ∧ WX s' (fun k j => G n M H st k (pm j)) 12 := by
  have hsm := sm_lt hn hst
  obtain ⟨s1, a1, a2, a3, a4⟩ := x_weighI (σ := σ) (N := NN n M) (T := TT n H) (e := fun k j => G n M H st k (pm j)) (a := sm st) (by omega) (fun j hj => by
    show G n M H st 0 (pm j) = _
    rw [G]
    by_cases q : j = sm st
    · rw [if_pos q, q, pm_sm (by rcases hst with h | h <;> omega), if_pos rfl]
    · rw [if_neg q, if_neg (fun h => q (by rw [← h, sm_pm (by omega)]))]) 13 0 FU s (by omega) (by unfold FU; omega) hq hl (fun j hj => by omega)
  obtain ⟨s2, b1, b2, b3, b4⟩ := x_weighO (σ := σ) (N := NN n M) (T := TT n H) (e := fun k j => G n M H st k (pm j)) (NN_lt hn M) (fun i => by
    unfold TT
    split
    · exact hH _ ((pm_pl hn (by omega)).mpr (by omega))
    · omega) (fun k i => G_le hH k _) (fun k j hk hj => G_cls hn hst hk hj (fun i _ => NN_tb n M i j) rfl) 12 0 FU s1 (by omega) (by unfold FU; omega) a2 a3 a4
  have a1 : L3_weigh_2 (nI (sm st)) FU 0 s = some s1 := a1
  have b1 : L3_weigh_53 FU 1 s1 = some s2 := b1
  refine ⟨s2, ?_, b2, b3, b4⟩
  unfold f3_weigh
  rw [a1, bk1_e, b1, bk1_e]
end S
