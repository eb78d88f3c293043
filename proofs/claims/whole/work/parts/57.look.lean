/-! the class's rows: look -/
def sl (j : Nat) : Int32 := if j = 0 then -1 else nI (j - 1)
theorem sl_s (j : Nat) : sl (j + 1) = nI j := by unfold sl; rw [if_neg (by omega)]; rfl
theorem sl_1 (j : Nat) : sl j + 1 = nI j := by
  cases j with
  | zero => rfl
  | succ j => rw [sl_s, nI_1]
theorem sl_pl {j : Nat} (h : j ≤ 12) : sl j = plI (pm j) := by
  cases j with
  | zero => rfl
  | succ j => rw [sl_s, show pm (j + 1) = j by unfold pm; rw [if_neg (by omega)]; rfl, plI_lt (by omega)]
theorem sl_lt {j n : Nat} (hn : n ≤ 12) (hj : j ≤ 13) : (sl j < nI n) = (j ≤ n) := by
  cases j with
  | zero =>
    refine propext ⟨fun _ => Nat.zero_le _, fun _ => ?_⟩
    show (-1 : Int32) < nI n
    rw [Int32.lt_iff_toInt_lt, nI_toInt (by omega)]
    have : (-1 : Int32).toInt = -1 := by decide
    omega
  | succ j => rw [sl_s, c_lt (by omega) (by omega)]; rfl
section S
variable {σ τ : SS} {n np : Nat} {F Pw : Nat → Nat → Nat} {U od un : Nat → Nat}
theorem XS.xt {s : SS} (q : XS σ s) (h : XT σ n np F Pw) : XT s n np F Pw := by
  have hw := (wB_ge (σ.2.2 0)).1
  have hw : 20 ≤ wd σ := hw
  have e : wd s = wd σ := by unfold wd; rw [q.1]
  have hg := q.2.2.2.2
  exact ⟨by rw [e, hg _ _ (by omega) (by omega)]; exact h.1, by rw [e, hg _ _ (by omega) (by omega)]; exact h.2.1, fun w k hw hk => by rw [e, hg _ _ (by omega) (by omega)]; exact h.2.2.1 w k hw hk, fun w k hw hk => by rw [e, hg _ _ (by omega) (by omega)]; exact h.2.2.2 w k hw hk⟩
theorem XS.xu {s : SS} (q : XS σ s) (h : XU σ U) : XU s U := fun i hi => by rw [q.2.2.2.2 _ _ (by omega) (by omega)]; exact h i hi
theorem XS.xo {s : SS} (q : XS σ s) (h : XO σ n od un) : XO s n od un := by
  have hw := (wB_ge (σ.2.2 0)).1
  have hw : 20 ≤ wd σ := hw
  have e : wd s = wd σ := by unfold wd; rw [q.1]
  have hg := q.2.2.2.2
  exact ⟨fun i hi => by rw [e, hg _ _ (by omega) (by omega)]; exact h.1 i hi, fun i hi => by rw [e, hg _ _ (by omega) (by omega)]; exact h.2 i hi⟩
theorem XS.i' {s : SS} (q : XS σ s) {k j : Nat} {v : Int32} (h : 4 ≤ k ∧ k < 12) : XS σ (sI s k j v) := ⟨q.1, q.2.1, q.2.2.1, q.2.2.2.1, fun k' j' h1 h2 => by rw [sI_o (by omega)]; exact q.2.2.2.2 k' j' h1 h2⟩
theorem XS.l' {s : SS} (q : XS σ s) {k j : Nat} {v : Int64} (h : k ≠ 0) : XS σ (sL s k j v) := ⟨q.1, q.2.1, q.2.2.1, by rw [sL_o (by omega)]; exact q.2.2.2.1, fun k' j' h1 h2 => q.2.2.2.2 k' j' h1 h2⟩
theorem x_isIn {j : Nat} (h : j < 13) : f3_isIn (nI j) = some 1 := by
  unfold f3_isIn
  rw [lt_e, if_neg (nI_pos (by omega)), if_pos (by rw [l13, c_lt (by omega) (by omega)]; exact h)]
theorem x_forgetL : ∀ (d i fuel : Nat) (s : SS), i + d = 13 → d < fuel → XS σ s → (∀ j, j < i → s.1 5 j = 0 ∧ s.1 6 j = 0) → ∃ s', L3_forget_2 fuel (nI i) s = some s' ∧ XS σ s' ∧ ∀ j, j < 13 → s'.1 5 j = 0 ∧ s'.1 6 j = 0 := by
  intro d
  induction d with
  | zero =>
    intro i fuel s h1 h2 hq hz
    obtain ⟨f, rfl⟩ : ∃ q, fuel = q + 1 := ⟨fuel - 1, by omega⟩
    refine ⟨s, ?_, hq, fun j hj => hz j (by omega)⟩
    rw [L3_forget_2, if_neg (by rw [l13, c_lt (by omega) (by omega)]; omega)]
  | succ d ih =>
    intro i fuel s h1 h2 hq hz
    obtain ⟨f, rfl⟩ : ∃ q, fuel = q + 1 := ⟨fuel - 1, by omega⟩
    have hin : inb (nI i) 13 := by rw [c_inb (by omega)]; omega
    rw [L3_forget_2, if_pos (by rw [l13, c_lt (by omega) (by omega)]; omega)]
    simp only [gd_t hin, lt_e, c_tn (show i < 2147483648 by omega), nI_1]
    refine ih (i + 1) f _ (by omega) (by omega) ((hq.i' (by omega)).i' (by omega)) (fun j hj => ?_)
    by_cases e : j = i
    · subst e
      exact ⟨by rw [sI_o (by omega), sI_s], sI_s⟩
    · have := hz j (by omega)
      exact ⟨by rw [sI_o (by omega), sI_o (by omega)]; exact this.1, by rw [sI_o (by omega), sI_o (by omega)]; exact this.2⟩
theorem nI_or1 {m j : Nat} (h : j < 32) : nI m ||| ((1 : Int32) <<< (nI j &&& 31)) = nI (m ||| 2 ^ j) := by rw [sh1 j h, nI_or]
theorem x_lookI (hR : TR n np F Pw) (hx : XT σ n np F Pw) (hU : UR U) (hu : XU σ U) {s0 p r bk i : Nat} (hs : s0 < 4096) (hsw : σ.1 17 7 = nI s0) (hp : p < np) (hr : r < 1000) (hbk : bk < 1000) (hi : i ≤ n) : ∀ (d j fuel : Nat) (s : SS), j + d = n + 1 → d < fuel → XS σ s → s.1 5 i = nI (msk (fun j => may F Pw U s0 p r bk (pm i) (pm j)) j) → ∃ s', L5_look_56 (nI p) (nI bk) (nI r) (sl i) fuel (sl j) s = some s' ∧ XS σ s' ∧ s'.1 5 i = nI (msk (fun j => may F Pw U s0 p r bk (pm i) (pm j)) (n + 1)) ∧ ∀ k l, (k ≠ 5 ∨ l ≠ i) → s'.1 k l = s.1 k l := by
  have r0 := hR.1
  intro d
  induction d with
  | zero =>
    intro j fuel s h1 h2 hq hz
    obtain ⟨f, rfl⟩ : ∃ q, fuel = q + 1 := ⟨fuel - 1, by omega⟩
    refine ⟨s, ?_, hq, by rw [show n + 1 = j by omega]; exact hz, fun _ _ _ => rfl⟩
    rw [L5_look_56, show s.1 (wB (s.2.2 0)) 0 = nI n from (hq.xt hx).1, if_neg (by rw [sl_lt r0 (by omega)]; omega)]
  | succ d ih =>
    intro j fuel s h1 h2 hq hz
    obtain ⟨f, rfl⟩ : ∃ q, fuel = q + 1 := ⟨fuel - 1, by omega⟩
    have hsw' : s.1 17 7 = nI s0 := by rw [hq.2.2.2.2 _ _ (by omega) (by omega)]; exact hsw
    have pi : pl n (pm i) := (pm_pl r0 (by omega)).mpr hi
    have pj : pl n (pm j) := (pm_pl r0 (by omega)).mpr (by omega)
    rw [L5_look_56, show s.1 (wB (s.2.2 0)) 0 = nI n from (hq.xt hx).1, if_pos (by rw [sl_lt r0 (by omega)]; omega), sl_pl (j := i) (by omega), sl_pl (j := j) (by omega), x_mayStep hR (hq.xt hx) hU (hq.xu hu) hs hsw' hp pi pj hr hbk, bd_e, ib0, ← sl_pl (j := i) (by omega), ← sl_pl (j := j) (by omega)]
    simp only [lt_e, sl_1]
    have e1 : msk (fun j => may F Pw U s0 p r bk (pm i) (pm j)) (j + 1) = if may F Pw U s0 p r bk (pm i) (pm j) = true then msk (fun j => may F Pw U s0 p r bk (pm i) (pm j)) j ||| 2 ^ j else msk (fun j => may F Pw U s0 p r bk (pm i) (pm j)) j := rfl
    cases hm : may F Pw U s0 p r bk (pm i) (pm j) with
    | false =>
      rw [hm, if_neg (by simp)] at e1
      simp only [cond_false]
      have k := ih (j + 1) f s (by omega) (by omega) hq (by rw [e1]; exact hz)
      rw [sl_s] at k
      exact k
    | true =>
      rw [hm, if_pos rfl] at e1
      simp only [cond_true]
      have hin : inb (nI i) 13 := by rw [c_inb (by omega)]; omega
      have J : f3_join (nI i) (nI j) s = some (sI s 5 i (nI (msk (fun j => may F Pw U s0 p r bk (pm i) (pm j)) (j + 1)))) := by
        unfold f3_join
        rw [x_isIn (by omega), bd_e, if_neg (by decide), x_isIn (by omega), bd_e, if_neg (by decide), gd_t hin, gd_t hin, c_tn (by omega), hz, nI_or1 (by omega), e1, lt_e]
      rw [J, bd_e]
      obtain ⟨s', k1, k2, k3, k4⟩ := ih (j + 1) f (sI s 5 i (nI (msk (fun j => may F Pw U s0 p r bk (pm i) (pm j)) (j + 1)))) (by omega) (by omega) (hq.i' (by omega)) sI_s
      rw [sl_s] at k1
      exact ⟨s', k1, k2, k3, fun k l hkl => by rw [k4 k l hkl, sI_o hkl]⟩
def NN (n : Nat) (M : Nat → Nat → Bool) (i : Nat) : Nat := if i ≤ n then msk (fun j => M (pm i) (pm j)) (n + 1) else 0
def TT (n : Nat) (H : Nat → Nat) (i : Nat) : Nat := if i ≤ n then H (pm i) else 0
def XL (s : SS) (N T : Nat → Nat) : Prop := ∀ i, i < 13 → s.1 5 i = nI (N i) ∧ s.1 6 i = nI (T i)
theorem NN_tb (n : Nat) (M : Nat → Nat → Bool) (i j : Nat) : (NN n M i).testBit j = (decide (i ≤ n) && decide (j ≤ n) && M (pm i) (pm j)) := by
  unfold NN
  by_cases h : i ≤ n
  · rw [if_pos h, msk_tb, decide_eq_true h, Bool.true_and]
    congr 1
    apply decide_eq_decide.mpr
    omega
  · rw [if_neg h, Nat.zero_testBit, decide_eq_false h]; rfl
theorem NN_lt {n : Nat} (hn : n ≤ 12) (M : Nat → Nat → Bool) (i : Nat) : NN n M i < 8192 := by
  unfold NN
  split
  · exact Nat.lt_of_lt_of_le (msk_lt _ _) (Nat.pow_le_pow_right (n := 2) (by omega) (show n + 1 ≤ 13 by omega))
  · omega
theorem hol_le (hR : TR n np F Pw) {p b : Nat} (hb : pl n b) : hol F Pw U p b ≤ 10 := by
  unfold hol
  rcases hb with hb | rfl
  · have := (hR.2.2.1 b hb).2.2.2.2.2.1
    split
    · exact Nat.le_refl _
    · split <;> omega
  · rw [if_pos rfl]; exact Nat.le_refl _
theorem x_lookO (hR : TR n np F Pw) (hx : XT σ n np F Pw) (hU : UR U) (hu : XU σ U) {s0 p r bk : Nat} (hs : s0 < 4096) (hsw : σ.1 17 7 = nI s0) (hp : p < np) (hr : r < 1000) (hbk : bk < 1000) : ∀ (d i fuel : Nat) (s : SS), i + d = n + 1 → d < fuel → XS σ s → (∀ j, j < 13 → s.1 5 j = nI (if j < i then NN n (may F Pw U s0 p r bk) j else 0) ∧ s.1 6 j = nI (if j < i then TT n (hol F Pw U p) j else 0)) → ∃ s', L5_look_23 (nI p) (nI bk) (nI r) fuel (sl i) s = some s' ∧ XS σ s' ∧ XL s' (NN n (may F Pw U s0 p r bk)) (TT n (hol F Pw U p)) := by
  have r0 := hR.1
  intro d
  induction d with
  | zero =>
    intro i fuel s h1 h2 hq hz
    obtain ⟨f, rfl⟩ : ∃ q, fuel = q + 1 := ⟨fuel - 1, by omega⟩
    refine ⟨s, ?_, hq, fun j hj => ?_⟩
    · rw [L5_look_23, show s.1 (wB (s.2.2 0)) 0 = nI n from (hq.xt hx).1, if_neg (by rw [sl_lt r0 (by omega)]; omega)]
    · have := hz j hj
      by_cases e : j < i
      · rw [if_pos e, if_pos e] at this; exact this
      · rw [if_neg e, if_neg e] at this
        unfold NN TT
        rw [if_neg (by omega), if_neg (by omega)]
        exact this
  | succ d ih =>
    intro i fuel s h1 h2 hq hz
    obtain ⟨f, rfl⟩ : ∃ q, fuel = q + 1 := ⟨fuel - 1, by omega⟩
    have pi : pl n (pm i) := (pm_pl r0 (by omega)).mpr (by omega)
    have hin : inb (nI i) 13 := by rw [c_inb (by omega)]; omega
    have hT : f3_setTenths (nI i) (nI (hol F Pw U p (pm i))) s = some (sI s 6 i (nI (hol F Pw U p (pm i)))) := by
      unfold f3_setTenths
      rw [x_isIn (by omega), bd_e, if_neg (by decide), gd_t hin, c_tn (by omega), lt_e]
    have z := hz i (by omega)
    rw [if_neg (by omega), if_neg (by omega)] at z
    obtain ⟨s', k1, k2, k3, k4⟩ := x_lookI hR hx hU hu hs hsw hp hr hbk (i := i) (by omega) (n + 1) 0 FU (sI s 6 i (nI (hol F Pw U p (pm i)))) (by omega) (by unfold FU; omega) (hq.i' (by omega)) (by rw [sI_o (by omega), z.1]; rfl)
    have k1 : L5_look_56 (nI p) (nI bk) (nI r) (sl i) FU (-1) (sI s 6 i (nI (hol F Pw U p (pm i)))) = some s' := k1
    rw [L5_look_23, show s.1 (wB (s.2.2 0)) 0 = nI n from (hq.xt hx).1, if_pos (by rw [sl_lt r0 (by omega)]; omega), sl_pl (j := i) (by omega), x_tenths hR (hq.xt hx) hU (hq.xu hu) hp pi, bd_e, ← sl_pl (j := i) (by omega), sl_1, hT, bd_e, k1, bk1_e, lt_e]
    have k := ih (i + 1) f s' (by omega) (by omega) k2 (fun j hj => ?_)
    · rw [sl_s] at k
      exact k
    · by_cases e : j = i
      · subst e
        rw [if_pos (by omega), if_pos (by omega)]
        refine ⟨?_, ?_⟩
        · rw [k3]; unfold NN; rw [if_pos (by omega)]
        · rw [k4 _ _ (by omega), sI_s]; unfold TT; rw [if_pos (by omega)]
      · have := hz j hj
        rw [k4 _ _ (by omega), k4 _ _ (by omega), sI_o (by omega), sI_o (by omega)]
        by_cases l : j < i
        · rw [if_pos l, if_pos l] at this
          rw [if_pos (by omega), if_pos (by omega)]
          exact this
        · rw [if_neg l, if_neg l] at this
          rw [if_neg (by omega), if_neg (by omega)]
          exact this
theorem x_look (hR : TR n np F Pw) (hx : XT σ n np F Pw) (hU : UR U) (hu : XU σ U) (hf : XF σ) {s0 p mo bk : Nat} (hs : s0 < 4096) (hsw : σ.1 17 7 = nI s0) (hp : p < np) (hr : mo < 500) (hbk : bk < 1000) : ∃ s, f5_look (nI p) (nI mo) (nI bk) σ = some s ∧ XS σ s ∧ XL s (NN n (may F Pw U s0 p (Pw 0 p + mo) bk)) (TT n (hol F Pw U p)) := by
  have p0 := hR.2.2.2 p hp
  obtain ⟨s1, a1, a2, a3⟩ := x_forgetL (σ := σ) 13 0 FU σ (by omega) (by unfold FU; omega) (XS.rf hf) (fun j hj => by omega)
  obtain ⟨s2, b1, b2, b3⟩ := x_lookO hR hx hU hu hs hsw hp (r := Pw 0 p + mo) (by omega) hbk (n + 1) 0 FU s1 (by omega) (by unfold FU; have := hR.1; omega) a2 (fun j hj => by rw [if_neg (by omega), if_neg (by omega)]; exact a3 j hj)
  refine ⟨s2, ?_, b2, b3⟩
  have a1 : L3_forget_2 FU 0 σ = some s1 := a1
  have b1 : L5_look_23 (nI p) (nI bk) (nI (Pw 0 p + mo)) FU (-1) s1 = some s2 := b1
  unfold f5_look f3_forget
  rw [show f4_power (σ.2.2 0) (nI p) 0 σ = some (nI (Pw 0 p)) from x_power hR hx (w := 0) (by omega) hp, bd_e, lt_e, c_add, a1, bk1_e, bd_e, b1, bk1_e]
end S
