/-! the reference: countUps -/
section S
variable {τ t : SS} {n np : Nat} {F Pw : Nat → Nat → Nat} {U od un : Nat → Nat}
/-- which ones are counted already -/
def dn (F : Nat → Nat → Nat) (h b x : Nat) : Bool := decide (hF F x < h) || (decide (hF F x = h) && decide (x < b))
def UV (n : Nat) (F : Nat → Nat → Nat) (M : Nat → Nat → Bool) (f h b x : Nat) : Nat := if dn F h b x = true ∨ x = f then Wu n (EM (hF F) M) f x else 0
def UI (t : SS) (n : Nat) (F : Nat → Nat → Nat) (M : Nat → Nat → Bool) (f h b : Nat) : Prop := ∀ x, x < 13 → t.2.1 12 x = lN (if x < n ∨ x = 12 then UV n F M f h b x else 0)
theorem m_up0 {f : Nat} {g : Nat → Nat} : ∀ (d i fuel : Nat) (t : SS), i + d = 13 → d < fuel → GS τ t → (∀ x, x < i → t.2.1 12 x = lN (if x = f then 1 else 0)) → f < 13 → ∃ t', L6_countUps_2 (nI f) fuel (nI i) t = some t' ∧ GS τ t' ∧ ∀ x, x < 13 → t'.2.1 12 x = lN (if x = f then 1 else 0) := by
  intro d
  induction d with
  | zero =>
    intro i fuel t h1 h2 hq hz hf
    obtain ⟨q, rfl⟩ : ∃ q, fuel = q + 1 := ⟨fuel - 1, by omega⟩
    refine ⟨t, ?_, hq, fun x hx => hz x (by omega)⟩
    rw [L6_countUps_2, if_neg (by rw [l13, c_lt (by omega) (by omega)]; omega)]
  | succ d ih =>
    intro i fuel t h1 h2 hq hz hf
    obtain ⟨q, rfl⟩ : ∃ q, fuel = q + 1 := ⟨fuel - 1, by omega⟩
    have hin : inb (nI i) 13 := by rw [c_inb (by omega)]; omega
    have ex : (if nI i = nI f then (1 : Int64) else 0) = lN (if i = f then 1 else 0) := by
      by_cases e : i = f
      · rw [if_pos (by rw [e]), if_pos e]; rfl
      · rw [if_neg (by rw [c_eq (by omega) (by omega)]; exact e), if_neg e]; rfl
    rw [L6_countUps_2, if_pos (by rw [l13, c_lt (by omega) (by omega)]; omega), lt_if, ex]
    simp only [gd_t hin, lt_e, c_tn (show i < 2147483648 by omega), nI_1]
    refine ih (i + 1) q _ (by omega) (by omega) (hq.l (by omega)) (fun x hx => ?_) hf
    by_cases e : x = i
    · subst e; exact sL_s
    · rw [sL_o (by omega)]; exact hz x (by omega)
theorem lif {P : Prop} [Decidable P] {a b : Nat} : (if P then lN a else lN b) = lN (if P then a else b) := by split <;> rfl
theorem m_upA (hR : TR n np F Pw) (hU : UR U) {s p r bk f h b : Nat} (hs : s < 4096) (hp : p < np) (hr : r < 1000) (hbk : bk < 1000) (hb : b < n) (hhb : F 0 b = h) (hf : pl n f) (hbf : b ≠ f) (bd1 : ∀ a, pl n a → Wu n (EM (hF F) (may F Pw U s p r bk)) f a ≤ 13 ^ 12) : ∀ (d a fuel : Nat) (t : SS), a + d = 13 → d < fuel → MW t n np F Pw U s p r bk → (∀ x, x < 13 → x ≠ b → t.2.1 12 x = lN (if x < n ∨ x = 12 then UV n F (may F Pw U s p r bk) f h b x else 0)) → t.2.1 12 b = lN (su (fun a => if (a < n ∨ a = 12) ∧ EM (hF F) (may F Pw U s p r bk) a b = true then Wu n (EM (hF F) (may F Pw U s p r bk)) f a else 0) a) → ∃ t', L6_countUps_69 (nI h) (nI b) fuel (nI a) t = some t' ∧ GS t t' ∧ (∀ x, x < 13 → x ≠ b → t'.2.1 12 x = t.2.1 12 x) ∧ t'.2.1 12 b = lN (su (fun a => if (a < n ∨ a = 12) ∧ EM (hF F) (may F Pw U s p r bk) a b = true then Wu n (EM (hF F) (may F Pw U s p r bk)) f a else 0) 13) := by
  have r0 := hR.1
  have p13 : (13 : Nat) ^ 12 < 2 ^ 62 := by decide
  have rb := hR.2.2.1 b hb
  intro d
  induction d with
  | zero =>
    intro a fuel t h1 h2 hw hz hv
    obtain ⟨q, rfl⟩ : ∃ q, fuel = q + 1 := ⟨fuel - 1, by omega⟩
    refine ⟨t, ?_, GS.rf, fun _ _ _ => rfl, by rw [show 13 = a by omega]; exact hv⟩
    rw [L6_countUps_69, if_neg (by rw [l13, c_lt (by omega) (by omega)]; omega)]
  | succ d ih =>
    intro a fuel t h1 h2 hw hz hv
    obtain ⟨q, rfl⟩ : ∃ q, fuel = q + 1 := ⟨fuel - 1, by omega⟩
    have hin : inb (nI a) 13 := by rw [c_inb (by omega)]; omega
    have hinb : inb (nI b) 13 := by rw [c_inb (by omega)]; omega
    have hFb : hF F b = h := by unfold hF; rw [if_neg (by omega)]; exact hhb
    -- the value that is added
    have step : ∀ v : Int64, v = lN (if (a < n ∨ a = 12) ∧ EM (hF F) (may F Pw U s p r bk) a b = true then Wu n (EM (hF F) (may F Pw U s p r bk)) f a else 0) → ∃ t', L6_countUps_69 (nI h) (nI b) q (nI (a + 1)) (sL t 12 b (t.2.1 12 b + v)) = some t' ∧ GS t t' ∧ (∀ x, x < 13 → x ≠ b → t'.2.1 12 x = t.2.1 12 x) ∧ t'.2.1 12 b = lN (su (fun a => if (a < n ∨ a = 12) ∧ EM (hF F) (may F Pw U s p r bk) a b = true then Wu n (EM (hF F) (may F Pw U s p r bk)) f a else 0) 13) := by
      intro v ev
      have g1 : GS t (sL t 12 b (t.2.1 12 b + v)) := GS.rf.l (by omega)
      obtain ⟨t', k1, k2, k3, k4⟩ := ih (a + 1) q (sL t 12 b (t.2.1 12 b + v)) (by omega) (by omega) (hw.gs g1) (fun x hx e => by rw [sL_o (by omega)]; exact hz x hx e) (by rw [sL_s, ev, hv, lN_add]; rfl)
      exact ⟨t', k1, g1.tr k2, fun x hx e => by rw [k3 x hx e, sL_o (by omega)], k4⟩
    rw [L6_countUps_69, if_pos (by rw [l13, c_lt (by omega) (by omega)]; omega)]
    simp only [gd_t hin, gd_t hinb, lt_e, c_tn (show a < 2147483648 by omega), c_tn (show b < 2147483648 by omega), nI_1]
    by_cases pa : a < n ∨ a = 12
    · rw [m_heightOf hR hw.1 pa, m_mayStep hR hw.1 hU hw.2.1 hs hw.2.2.1 hp pa (Or.inl hb) hr hbk hw.2.2.2]
      simp only [bd_e, ib0]
      have ha99 := hF_le hR pa
      have bA := bd1 a pa
      by_cases l : hF F a < h
      · -- counted already
        have ab : a ≠ b := fun e => by rw [e, hFb] at l; omega
        have va : t.2.1 12 a = lN (Wu n (EM (hF F) (may F Pw U s p r bk)) f a) := by
          rw [hz a (by omega) ab, if_pos pa]
          unfold UV dn
          rw [if_pos (Or.inl (by rw [decide_eq_true l]; rfl))]
        rw [va]
        by_cases g : Wu n (EM (hF F) (may F Pw U s p r bk)) f a ≤ 0
        · rw [if_pos (by rw [lN0, l_le (by omega) (by omega)]; exact g)]
          refine step 0 ?_
          rw [show Wu n (EM (hF F) (may F Pw U s p r bk)) f a = 0 by omega]
          split <;> rfl
        · rw [if_neg (by rw [lN0, l_le (by omega) (by omega)]; exact g), if_pos (by rw [c_lt (by omega) (by omega)]; exact l)]
          cases q1 : may F Pw U s p r bk a b with
          | false =>
            refine step 0 ?_
            rw [if_neg (fun z => by have := z.2; unfold EM at this; rw [q1, Bool.and_false] at this; cases this)]; rfl
          | true =>
            refine step _ ?_
            rw [if_pos ⟨pa, by unfold EM; rw [q1, hFb, decide_eq_true l]; rfl⟩]
      · have z : (if (a < n ∨ a = 12) ∧ EM (hF F) (may F Pw U s p r bk) a b = true then Wu n (EM (hF F) (may F Pw U s p r bk)) f a else 0) = 0 := if_neg (fun z => by have := EM_h z.2; rw [hFb] at this; exact l this)
        rw [if_neg (show ¬ nI (hF F a) < nI h by rw [c_lt (by omega) (by omega)]; exact l)]
        have k := step 0 (by rw [z]; rfl)
        split
        · exact k
        · exact k
    · have ab : a ≠ b := fun e => pa (Or.inl (by omega))
      rw [hz a (by omega) ab, if_neg pa, if_pos (show lN 0 ≤ 0 by decide)]
      exact step 0 (by rw [if_neg (fun z => pa z.1)]; rfl)
theorem UI_skip {M : Nat → Nat → Bool} {f h b : Nat} (hu : UI t n F M f h b) (hb : b < 12) (hn : F 0 b ≠ h) : UI t n F M f h (b + 1) := by
  intro x hx
  rw [hu x hx]
  congr 1
  by_cases p : x < n ∨ x = 12
  · rw [if_pos p, if_pos p]
    unfold UV
    have : dn F h (b + 1) x = dn F h b x := by
      unfold dn
      by_cases e : x = b
      · subst e
        have : hF F x ≠ h := by unfold hF; rw [if_neg (by omega)]; exact hn
        rw [decide_eq_false this]; simp
      · rw [show decide (x < b + 1) = decide (x < b) from decide_eq_decide.mpr (by omega)]
    rw [this]
  · rw [if_neg p, if_neg p]
theorem m_upB (hR : TR n np F Pw) (hU : UR U) {s p r bk f h : Nat} (hs : s < 4096) (hp : p < np) (hr : r < 1000) (hbk : bk < 1000) (hf : pl n f) (hfh : hF F f < h) (hh : h < 1000) (bd1 : ∀ a, pl n a → Wu n (EM (hF F) (may F Pw U s p r bk)) f a ≤ 13 ^ 12) : ∀ (d b fuel : Nat) (t : SS), b + d = n → d < fuel → MW t n np F Pw U s p r bk → UI t n F (may F Pw U s p r bk) f h b → ∃ t', L6_countUps_46 (nI h) fuel (nI b) t = some t' ∧ GS t t' ∧ UI t' n F (may F Pw U s p r bk) f h n := by
  have r0 := hR.1
  intro d
  induction d with
  | zero =>
    intro b fuel t h1 h2 hw hu
    obtain ⟨q, rfl⟩ : ∃ q, fuel = q + 1 := ⟨fuel - 1, by omega⟩
    refine ⟨t, ?_, GS.rf, by rw [show n = b by omega] at hu ⊢; exact hu⟩
    rw [L6_countUps_46, gd_t (iz 2 (by omega)), tz0, hw.1.1, if_neg (by rw [c_lt (by omega) (by omega)]; omega)]
  | succ d ih =>
    intro b fuel t h1 h2 hw hu
    obtain ⟨q, rfl⟩ : ∃ q, fuel = q + 1 := ⟨fuel - 1, by omega⟩
    have rb := hR.2.2.1 b (by omega)
    rw [L6_countUps_46, gd_t (iz 2 (by omega)), tz0, hw.1.1, if_pos (by rw [c_lt (by omega) (by omega)]; omega), show f6_of (nI b) 0 t = some (nI (F 0 b)) from m_of hR hw.1 (w := 0) (by omega) (by omega), bd_e]
    simp only [lt_e, nI_1]
    by_cases g : F 0 b = h
    · rw [if_pos (by rw [g])]
      have hFb : hF F b = h := by unfold hF; rw [if_neg (by omega)]; exact g
      have bf : b ≠ f := fun e => by rw [← e, hFb] at hfh; omega
      have v0 : t.2.1 12 b = lN 0 := by
        rw [hu b (by omega), if_pos (Or.inl (by omega))]
        unfold UV dn
        rw [if_neg (fun z => by
          rcases z with z | z
          · rw [hFb] at z; simp at z
          · exact bf z)]
      obtain ⟨t1, k1, k2, k3, k4⟩ := m_upA hR hU (f := f) (h := h) (b := b) hs hp hr hbk (by omega) g hf bf bd1 13 0 FU t (by omega) (by unfold FU; omega) hw (fun x hx e => hu x hx) v0
      have k1 : L6_countUps_69 (nI h) (nI b) FU 0 t = some t1 := k1
      rw [k1, bk1_e]
      obtain ⟨t', j1, j2, j3⟩ := ih (b + 1) q t1 (by omega) (by omega) (hw.gs k2) (fun x hx => by
        by_cases e : x = b
        · subst e
          rw [k4, if_pos (Or.inl (by omega))]
          unfold UV
          rw [if_pos (Or.inl (by unfold dn; rw [decide_eq_true hFb, decide_eq_true (show x < x + 1 by omega)]; simp)), W_eq (h := hF F) (fun _ _ => EM_h) (fun a ha => hF_le hR ha) (Or.inl (by omega)), if_neg bf]
        · rw [k3 x hx e, hu x hx]
          congr 1
          have : dn F h (b + 1) x = dn F h b x := by
            unfold dn
            rw [show decide (x < b + 1) = decide (x < b) from decide_eq_decide.mpr (by omega)]
          unfold UV
          rw [this])
      exact ⟨t', j1, k2.tr j2, j3⟩
    · rw [if_neg (by rw [c_eq (by omega) (by omega)]; exact g)]
      exact ih (b + 1) q t (by omega) (by omega) hw (UI_skip hu (by omega) g)
theorem m_upC (hR : TR n np F Pw) (hU : UR U) {s p r bk f : Nat} (hs : s < 4096) (hp : p < np) (hr : r < 1000) (hbk : bk < 1000) (hf : pl n f) (bd1 : ∀ a, pl n a → Wu n (EM (hF F) (may F Pw U s p r bk)) f a ≤ 13 ^ 12) : ∀ (d h fuel : Nat) (t : SS), h + d = 100 → d < fuel → hF F f < h → MW t n np F Pw U s p r bk → UI t n F (may F Pw U s p r bk) f h 0 → ∃ t', L6_countUps_38 fuel (nI h) t = some t' ∧ GS t t' ∧ UI t' n F (may F Pw U s p r bk) f 100 0 := by
  intro d
  induction d with
  | zero =>
    intro h fuel t h1 h2 hfh hw hu
    obtain ⟨q, rfl⟩ : ∃ q, fuel = q + 1 := ⟨fuel - 1, by omega⟩
    refine ⟨t, ?_, GS.rf, by rw [show 100 = h by omega]; exact hu⟩
    rw [L6_countUps_38, if_neg (by rw [l100, c_lt (by omega) (by omega)]; omega)]
  | succ d ih =>
    intro h fuel t h1 h2 hfh hw hu
    obtain ⟨q, rfl⟩ : ∃ q, fuel = q + 1 := ⟨fuel - 1, by omega⟩
    have r0 := hR.1
    obtain ⟨t1, k1, k2, k3⟩ := m_upB hR hU hs hp hr hbk hf hfh (by omega) bd1 n 0 FU t (by omega) (by unfold FU; omega) hw hu
    have k1 : L6_countUps_46 (nI h) FU 0 t = some t1 := k1
    rw [L6_countUps_38, if_pos (by rw [l100, c_lt (by omega) (by omega)]; omega), k1, bk1_e, lt_e, nI_1]
    obtain ⟨t', j1, j2, j3⟩ := ih (h + 1) q t1 (by omega) (by omega) (by omega) (hw.gs k2) (fun x hx => by
      rw [k3 x hx]
      congr 1
      by_cases p : x < n ∨ x = 12
      · rw [if_pos p, if_pos p]
        have e : (dn F h n x = true ∨ x = f) ↔ (dn F (h + 1) 0 x = true ∨ x = f) := by
          unfold dn
          simp only [Bool.or_eq_true, Bool.and_eq_true, decide_eq_true_eq]
          rcases p with p | p
          · omega
          · have : hF F x = 0 := by unfold hF; rw [if_pos p]
            omega
        unfold UV
        by_cases z : dn F h n x = true ∨ x = f
        · rw [if_pos z, if_pos (e.mp z)]
        · rw [if_neg z, if_neg (fun y => z (e.mpr y))]
      · rw [if_neg p, if_neg p])
    exact ⟨t', j1, k2.tr j2, j3⟩
theorem m_countUps (hR : TR n np F Pw) (hU : UR U) (hO : OR n F od un) {s p r bk f : Nat} (hs : s < 4096) (hp : p < np) (hr : r < 1000) (hbk : bk < 1000) (hf : pl n f) (hw : MW τ n np F Pw U s p r bk) : ∃ t, f6_countUps (nI f) τ = some t ∧ GS τ t ∧ ∀ b, b < n → t.2.1 12 b = lN (Wu n (EM (hF F) (may F Pw U s p r bk)) f b) := by
  have r0 := hR.1
  have f12 : f < 13 := by rcases hf with h | h <;> omega
  have hf99 := hF_le hR hf
  have hFn : ∀ a, a < n → hF F a = F 0 a := fun a ha => by unfold hF; rw [if_neg (by omega)]
  have bd1 : ∀ a, pl n a → Wu n (EM (hF F) (may F Pw U s p r bk)) f a ≤ 13 ^ 12 := W_bound (h := hF F) (fun _ _ => EM_h) (fun a ha => hF_le hR ha) (by unfold hF; rw [if_pos rfl]) r0 hO.1 (fun i j h1 h2 => by
    rw [hFn _ (hO.1 i (by omega)), hFn _ (hO.1 j h2)]
    have := hO.2.1 i j h1 h2
    omega) hO.2.2.1 f
  obtain ⟨t1, a1, a2, a3⟩ := m_up0 (τ := τ) (f := f) (g := fun _ => 0) 13 0 FU τ (by omega) (by unfold FU; omega) GS.rf (fun x hx => by omega) f12
  have a1 : L6_countUps_2 (nI f) FU 0 τ = some t1 := a1
  have w1 := hw.gs a2
  have low : ∀ x, pl n x → x ≠ f → hF F x ≤ hF F f → Wu n (EM (hF F) (may F Pw U s p r bk)) f x = 0 := fun x hx e l => W_low (h := hF F) (fun _ _ => EM_h) (fun a ha => hF_le hR ha) (hF F x + 1) x (by omega) hx e l
  obtain ⟨t2, b1, b2, b3⟩ := m_upC hR hU hs hp hr hbk hf bd1 (100 - (hF F f + 1)) (hF F f + 1) FU t1 (by omega) (by unfold FU; omega) (by omega) w1 (fun x hx => by
    rw [a3 x hx]
    congr 1
    by_cases e : x = f
    · have px : x < n ∨ x = 12 := by rw [e]; exact hf
      rw [if_pos e, if_pos px]
      unfold UV
      rw [if_pos (Or.inr e), e, W_ff]
    · rw [if_neg e]
      by_cases px : x < n ∨ x = 12
      · rw [if_pos px]
        unfold UV
        by_cases z : dn F (hF F f + 1) 0 x = true ∨ x = f
        · rw [if_pos z, low x px e]
          rcases z with z | z
          · unfold dn at z
            simp at z
            omega
          · exact absurd z e
        · rw [if_neg z]
      · rw [if_neg px])
  refine ⟨t2, ?_, a2.tr b2, fun b hb => ?_⟩
  · unfold f6_countUps
    rw [a1, bk1_e, m_heightOf hR w1.1 hf, bd_e, nI_1, lt_e, b1, bk1_e]
  · rw [b3 b (by omega), if_pos (Or.inl hb)]
    unfold UV
    have := hF_le hR (Or.inl hb : pl n b)
    rw [if_pos (Or.inl (by unfold dn; rw [decide_eq_true (show hF F b < 100 by omega)]; rfl))]
end S
