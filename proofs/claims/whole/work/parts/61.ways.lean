/-! ways: both sides -/
theorem Wy_pl {n : Nat} {M : Nat → Nat → Bool} {H : Nat → Nat} {st : Nat} (hs : pl n st) : ∀ k b, Wy n M H st k b → pl n b := by
  intro k b h
  cases k with
  | zero => rw [show b = st from h]; exact hs
  | succ k => exact h.1
theorem Ws_wy {n : Nat} {M : Nat → Nat → Bool} {H : Nat → Nat} {st Gd : Nat} {al : Nat → Bool} (hn : n ≤ 12) (hst : pl n st) (hG : ∀ j, j < 13 → Gd.testBit j = (decide (0 < TT n H j) && al (pm j))) : ∀ k j, j < 13 → (Ws (NN n M) Gd (sm st) k j ↔ Wy n M (fun b => if al b = true then H b else 0) st k (pm j)) := by
  have hst12 : st ≤ 12 := by rcases hst with h | h <;> omega
  intro k
  induction k with
  | zero =>
    intro j hj
    show j = sm st ↔ pm j = st
    constructor
    · intro h; rw [h, pm_sm hst12]
    · intro h; rw [← h, sm_pm (by omega)]
  | succ k ih =>
    intro j hj
    show (Gd.testBit j = true ∧ ∃ i, i < 13 ∧ Ws (NN n M) Gd (sm st) k i ∧ (NN n M i).testBit j = true) ↔ (pl n (pm j) ∧ 0 < (if al (pm j) = true then H (pm j) else 0) ∧ ∃ a, a < 13 ∧ Wy n M (fun b => if al b = true then H b else 0) st k a ∧ M a (pm j) = true)
    rw [hG j hj]
    constructor
    · rintro ⟨h1, i, hi, h2, h3⟩
      rw [Bool.and_eq_true] at h1
      have h4 := of_decide_eq_true h1.1
      unfold TT at h4
      by_cases e : j ≤ n
      · rw [if_pos e] at h4
        refine ⟨(pm_pl hn (by omega)).mpr e, by rw [if_pos h1.2]; exact h4, pm i, by have := pm_le (i := i) (by omega); omega, (ih i hi).mp h2, ?_⟩
        rw [NN_tb] at h3
        cases q : M (pm i) (pm j)
        · rw [q, Bool.and_false] at h3; cases h3
        · rfl
      · rw [if_neg e] at h4; omega
    · rintro ⟨h1, h2, a, ha, h3, h4⟩
      have e := (pm_pl hn (by omega)).mp h1
      have hpa := Wy_pl hst k a h3
      have hsm := sm_lt hn hpa
      have hal : al (pm j) = true := by
        cases q : al (pm j)
        · rw [q, if_neg (by simp)] at h2; omega
        · rfl
      rw [if_pos hal] at h2
      refine ⟨by rw [Bool.and_eq_true]; exact ⟨decide_eq_true (by unfold TT; rw [if_pos e]; exact h2), hal⟩, sm a, by omega, (ih (sm a) (by omega)).mpr (by rw [pm_sm (by omega)]; exact h3), ?_⟩
      rw [NN_tb, pm_sm (by omega), h4, decide_eq_true hsm, decide_eq_true e]; rfl
theorem shl1a : ∀ a, a < 64 → ∀ b, b < 64 → nI (64 * a + b) <<< ((1 : Int32) &&& 31) = nI (2 * (64 * a + b)) := by decide +kernel
theorem shl1 {s : Nat} (h : s < 4096) : nI s <<< ((1 : Int32) &&& 31) = nI (2 * s) := by
  have k := shl1a (s / 64) (by omega) (s % 64) (by omega)
  rw [show 64 * (s / 64) + s % 64 = s by omega] at k
  exact k
theorem tb_pm {s j : Nat} (hj : j < 13) : (2 * s).testBit j = sawB s (pm j) := by
  cases j with
  | zero => unfold sawB pm; simp
  | succ j =>
    unfold sawB pm
    rw [Nat.testBit_succ, if_neg (by omega), show 2 * s / 2 = s by omega, decide_eq_true (by omega)]; rfl
section S
variable {σ τ s : SS} {n np : Nat} {F Pw : Nat → Nat → Nat} {U od un : Nat → Nat} {M : Nat → Nat → Bool} {H : Nat → Nat}
theorem TT_le (hn : n ≤ 12) (hH : ∀ b, pl n b → H b ≤ 10) (i : Nat) : TT n H i ≤ 10 := by
  unfold TT
  split
  · exact hH _ ((pm_pl hn (by omega)).mpr (by omega))
  · omega
theorem x_reached (hn : n ≤ 12) (hH : ∀ b, pl n b → H b ≤ 10) (hl : XL s (NN n M) (TT n H)) {S2 : Nat} (hs : S2 < 4096) : ∃ Q, Q < 4096 ∧ f5_reached (nI S2) s = some (nI Q) ∧ ∀ b, b < 12 → (Q.testBit b = true ↔ Go n M (fun b => if (!sawB S2 b) = true then H b else 0) 12 b) := by
  obtain ⟨fm, hfm⟩ : ∃ fm, fm = msk (fun j => decide (0 < TT n H j)) 13 := ⟨_, rfl⟩
  have f1 : fm < 8192 := by rw [hfm]; exact msk_lt _ 13
  obtain ⟨Gd, hGd⟩ : ∃ g, g = fm &&& ((2 * S2) ^^^ 8191) := ⟨_, rfl⟩
  obtain ⟨R, r1, r2, r3⟩ := x_floodN (st := 0) (Gd := Gd) (a := (nI S2 <<< ((1 : Int32) &&& 31)) ^^^ -1) (NN_lt hn M) (TT_le hn hH) hl (by omega) (by rw [← hfm, Int32.and_comm, shl1 hs, nI_andnot13 f1, ← hGd])
  have r2 : f3_flood 0 ((nI S2 <<< ((1 : Int32) &&& 31)) ^^^ -1) s = some (nI R) := r2
  refine ⟨R / 2, by omega, ?_, fun b hb => ?_⟩
  · unfold f5_reached
    rw [r2, bd_e, show ((nI R).toUInt32 >>> (Int32.toUInt32 1 &&& Int32.toUInt32 31)).toInt32 = nI (R / 2 ^ 1) from pk_ushrN (by omega) (nI 1) 1 (s_u 1 (by omega))]
  · rw [← Nat.testBit_succ, r3 (b + 1) (by omega)]
    have hst : pl n 12 := Or.inr rfl
    unfold Go
    have key := fun k => Ws_wy (n := n) (M := M) (H := H) (st := 12) (Gd := Gd) (al := fun b => !sawB S2 b) hn hst (fun j hj => by rw [hGd, Nat.testBit_and, tb13 hj, tb_pm hj, hfm, msk_tb, decide_eq_true hj]; rfl) k (b + 1) (by omega)
    have e : pm (b + 1) = b := by unfold pm; rw [if_neg (by omega)]; rfl
    constructor
    · rintro ⟨k, k1, k2⟩; exact ⟨k, k1, by rw [← e]; exact (key k).mp k2⟩
    · rintro ⟨k, k1, k2⟩; exact ⟨k, k1, (key k).mpr (by rw [e]; exact k2)⟩
theorem x_comesDown (hn : n ≤ 12) (hH : ∀ b, pl n b → H b ≤ 10) (hl : XL s (NN n M) (TT n H)) {b : Nat} (hb : b < n) : ∃ r : Bool, f5_comesDown (nI b) s = some (bI r) ∧ (r = true ↔ Go n M H b 12) := by
  obtain ⟨fm, hfm⟩ : ∃ fm, fm = msk (fun j => decide (0 < TT n H j)) 13 := ⟨_, rfl⟩
  obtain ⟨R, r1, r2, r3⟩ := x_floodN (st := b + 1) (Gd := fm) (a := -1) (NN_lt hn M) (TT_le hn hH) hl (by omega) (by rw [← hfm]; simp)
  refine ⟨R.testBit 0, ?_, ?_⟩
  · unfold f5_comesDown
    rw [nI_1, r2, bd_e, show f5_has (nI R) 0 = some (bI (R.testBit 0)) from x_has (k := 0) (by omega) (by omega), bd_e, gd_t (bI_or _)]
  · rw [r3 0 (by omega)]
    have hst : pl n b := Or.inl hb
    have key := fun k => Ws_wy (n := n) (M := M) (H := H) (st := b) (Gd := fm) (al := fun _ => true) hn hst (fun j hj => by rw [hfm, msk_tb, decide_eq_true hj]; simp) k 0 (by omega)
    have e : sm b = b + 1 := by unfold sm; rw [if_neg (by omega)]
    rw [e] at key
    simp only [if_true] at key
    unfold Go
    constructor
    · rintro ⟨k, k1, k2⟩; exact ⟨k, k1, (key k).mp k2⟩
    · rintro ⟨k, k1, k2⟩; exact ⟨k, k1, (key k).mpr k2⟩
theorem imax {a b : Nat} (ha : a < 1000000) (hb : b < 1000000) {inst : Decidable (nI a < nI b)} : (if nI a < nI b then nI b else nI a) = nI (max a b) := by
  have e := c_lt (a := a) (b := b) (by omega) (by omega)
  by_cases g : a < b
  · rw [if_pos (e ▸ g), Nat.max_eq_right (by omega)]
  · rw [if_neg (e ▸ g), Nat.max_eq_left (by omega)]
theorem mxF_le (hR : TR n np F Pw) (P : Nat → Bool) {i : Nat} (hi : i ≤ n) : mx (fun b => if P b = true then F 0 b else 0) i ≤ 99 := by
  refine mx_le i (fun b hb => ?_)
  have := hR.2.2.1 b (by omega)
  show (if P b = true then F 0 b else 0) ≤ 99
  split <;> omega
theorem x_highestL (hR : TR n np F Pw) (hx : XT s n np F Pw) {Q : Nat} (hQ : Q < 4096) : ∀ (d i fuel : Nat), i + d = n → d < fuel → L5_highest_4 (nI Q) s fuel (nI (mx (fun b => if Q.testBit b = true then F 0 b else 0) i)) (nI i) = some (nI (mx (fun b => if Q.testBit b = true then F 0 b else 0) n)) := by
  have r0 := hR.1
  intro d
  induction d with
  | zero =>
    intro i fuel h1 h2
    obtain ⟨f, rfl⟩ : ∃ q, fuel = q + 1 := ⟨fuel - 1, by omega⟩
    rw [L5_highest_4, show s.1 (wB (s.2.2 0)) 0 = nI n from hx.1, if_neg (by rw [c_lt (by omega) (by omega)]; omega), show i = n by omega]
  | succ d ih =>
    intro i fuel h1 h2
    obtain ⟨f, rfl⟩ : ∃ q, fuel = q + 1 := ⟨fuel - 1, by omega⟩
    have ri := hR.2.2.1 i (by omega)
    have k := ih (i + 1) f (by omega) (by omega)
    rw [mx] at k
    have ml := mxF_le hR (fun b => Q.testBit b) (i := i) (by omega)
    rw [L5_highest_4, show s.1 (wB (s.2.2 0)) 0 = nI n from hx.1, if_pos (by rw [c_lt (by omega) (by omega)]; omega), x_has (by omega) (by omega), bd_e, ib0, show f4_feature (s.2.2 0) (nI i) 0 s = some (nI (F 0 i)) from x_feature hR hx (w := 0) (by omega) (by omega)]
    simp only [bd_e, lt_e, nI_1]
    rw [imax (by omega) (by omega)]
    cases q : Q.testBit i with
    | true => rw [q, if_pos rfl] at k; exact k
    | false => rw [q, if_neg (by simp), Nat.max_eq_left (by omega)] at k; exact k
theorem x_highest (hR : TR n np F Pw) (hx : XT s n np F Pw) {Q : Nat} (hQ : Q < 4096) : f5_highest (nI Q) s = some (nI (mx (fun b => if Q.testBit b = true then F 0 b else 0) n)) := by
  have L : L5_highest_4 (nI Q) s FU 0 0 = _ := x_highestL hR hx hQ n 0 FU (by omega) (by unfold FU; have := hR.1; omega)
  unfold f5_highest
  rw [L, bk1_e]
theorem mx_cg {f g : Nat → Nat} : ∀ m, (∀ i, i < m → f i = g i) → mx f m = mx g m := by
  intro m
  induction m with
  | zero => intro _; rfl
  | succ m ih =>
    intro h
    rw [mx, mx, ih (fun j hj => h j (by omega)), h m (by omega)]
/-- the odds that the reference's rows tell -/
def oG (n : Nat) (M : Nat → Nat → Bool) (H : Nat → Nat) (st b : Nat) : Nat := OD (fun k => G n M H st k b) 12
theorem oG_le {st b : Nat} (hH : ∀ b, pl n b → H b ≤ 10) : oG n M H st b ≤ WH := OD_le (fun k => G_le hH k b) 12
def byH (n : Nat) (M : Nat → Nat → Bool) (H : Nat → Nat) (h b : Nat) : Bool := decide (0 < oG n M H 12 b) && decide (h * WH ≤ oG n M H 12 b * 100)
theorem lWH100 {x h : Nat} (hx : x ≤ WH) (hh : h ≤ 100) : (lN x * 100 < Int32.toInt64 (nI h) * 1000000000000) = (x * 100 < h * WH) := by
  have w : WH = 1000000000000 := rfl
  have h1 : h * WH ≤ 100 * WH := Nat.mul_le_mul_right _ hh
  rw [l_i (by omega), lNWH, show (100 : Int64) = lN 100 by decide, lN_mul, lN_mul, l_lt (by omega) (by omega)]
theorem m_highL (hR : TR n np F Pw) (hm : MT s n np F Pw) (hH : ∀ b, pl n b → H b ≤ 10) (hw : WM s (G n M H 12) 12) {h : Nat} (hh : h ≤ 100) : ∀ (d i fuel : Nat), i + d = n → d < fuel → L6_highBy_10 (nI h) s fuel (nI (mx (fun b => if byH n M H h b = true then F 0 b else 0) i)) (nI i) = some (nI (mx (fun b => if byH n M H h b = true then F 0 b else 0) n)) := by
  have r0 := hR.1
  have w : WH = 1000000000000 := rfl
  intro d
  induction d with
  | zero =>
    intro i fuel h1 h2
    obtain ⟨f, rfl⟩ : ∃ q, fuel = q + 1 := ⟨fuel - 1, by omega⟩
    rw [L6_highBy_10, gd_t (iz 2 (by omega)), tz0, hm.1, if_neg (by rw [c_lt (by omega) (by omega)]; omega), show i = n by omega]
  | succ d ih =>
    intro i fuel h1 h2
    obtain ⟨f, rfl⟩ : ∃ q, fuel = q + 1 := ⟨fuel - 1, by omega⟩
    have hin : inb (nI i) 13 := by rw [c_inb (by omega)]; omega
    have ri := hR.2.2.1 i (by omega)
    have k := ih (i + 1) f (by omega) (by omega)
    rw [mx] at k
    have ml := mxF_le hR (fun b => byH n M H h b) (i := i) (by omega)
    have ol := oG_le (n := n) (M := M) (H := H) (st := 12) (b := i) hH
    have ov : s.2.1 8 i = lN (oG n M H 12 i) := (hw i (by omega)).2.1
    have no : byH n M H h i = false → L6_highBy_10 (nI h) s f (nI (mx (fun b => if byH n M H h b = true then F 0 b else 0) i)) (nI (i + 1)) = some (nI (mx (fun b => if byH n M H h b = true then F 0 b else 0) n)) := by
      intro z
      rw [z, if_neg (by simp), Nat.max_eq_left (by omega)] at k
      exact k
    rw [L6_highBy_10, gd_t (iz 2 (by omega)), tz0, hm.1, if_pos (by rw [c_lt (by omega) (by omega)]; omega)]
    simp only [gd_t hin, lt_e, c_tn (show i < 2147483648 by omega), nI_1, ov]
    by_cases g1 : oG n M H 12 i ≤ 0
    · rw [if_pos (by rw [lN0, l_le (by omega) (by omega)]; exact g1)]
      exact no (by unfold byH; rw [decide_eq_false (by omega)]; rfl)
    · rw [if_neg (by rw [lN0, l_le (by omega) (by omega)]; exact g1)]
      by_cases g2 : oG n M H 12 i * 100 < h * WH
      · rw [if_pos (by rw [lWH100 ol hh]; exact g2)]
        exact no (by unfold byH; rw [decide_eq_false (show ¬ h * WH ≤ _ by omega), Bool.and_false])
      · rw [if_neg (by rw [lWH100 ol hh]; exact g2), if_neg (by decide), show f6_of (nI i) 0 s = some (nI (F 0 i)) from m_of hR hm (w := 0) (by omega) (by omega)]
        simp only [bd_e]
        have z : byH n M H h i = true := by unfold byH; rw [decide_eq_true (by omega), decide_eq_true (by omega)]; rfl
        rw [z, if_pos rfl] at k
        by_cases g3 : F 0 i ≤ mx (fun b => if byH n M H h b = true then F 0 b else 0) i
        · rw [if_pos (by rw [c_le (by omega) (by omega)]; exact g3)]
          rw [Nat.max_eq_left g3] at k
          exact k
        · rw [if_neg (by rw [c_le (by omega) (by omega)]; exact g3)]
          rw [Nat.max_eq_right (by omega)] at k
          exact k
theorem m_reachedL (hR : TR n np F Pw) (hm : MT s n np F Pw) (hH : ∀ b, pl n b → H b ≤ 10) (hw : WM s (G n M H 12) 12) : ∀ (d i fuel : Nat), i + d = n → d < fuel → L6_reached_10 s fuel (nI (msk (fun b => decide (0 < oG n M H 12 b)) i)) (nI i) = some (nI (msk (fun b => decide (0 < oG n M H 12 b)) n)) := by
  have r0 := hR.1
  have w : WH = 1000000000000 := rfl
  intro d
  induction d with
  | zero =>
    intro i fuel h1 h2
    obtain ⟨f, rfl⟩ : ∃ q, fuel = q + 1 := ⟨fuel - 1, by omega⟩
    rw [L6_reached_10, gd_t (iz 2 (by omega)), tz0, hm.1, if_neg (by rw [c_lt (by omega) (by omega)]; omega), show i = n by omega]
  | succ d ih =>
    intro i fuel h1 h2
    obtain ⟨f, rfl⟩ : ∃ q, fuel = q + 1 := ⟨fuel - 1, by omega⟩
    have hin : inb (nI i) 13 := by rw [c_inb (by omega)]; omega
    have k := ih (i + 1) f (by omega) (by omega)
    rw [msk] at k
    have ol := oG_le (n := n) (M := M) (H := H) (st := 12) (b := i) hH
    have ov : s.2.1 8 i = lN (oG n M H 12 i) := (hw i (by omega)).2.1
    rw [L6_reached_10, gd_t (iz 2 (by omega)), tz0, hm.1, if_pos (by rw [c_lt (by omega) (by omega)]; omega)]
    simp only [gd_t hin, lt_e, c_tn (show i < 2147483648 by omega), nI_1, ov]
    by_cases g1 : oG n M H 12 i ≤ 0
    · rw [if_pos (by rw [lN0, l_le (by omega) (by omega)]; exact g1), show nI (msk (fun b => decide (0 < oG n M H 12 b)) i) ||| 0 = nI (msk (fun b => decide (0 < oG n M H 12 b)) i) by simp]
      rw [if_neg (by rw [decide_eq_true_eq]; omega)] at k
      exact k
    · rw [if_neg (by rw [lN0, l_le (by omega) (by omega)]; exact g1), nI_or1 (by omega)]
      rw [if_pos (by rw [decide_eq_true_eq]; omega)] at k
      exact k
end S
