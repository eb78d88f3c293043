/-! THE RELATION -/
def plI (p : Nat) : Int32 := if p = 12 then -1 else nI p
abbrev CT : Type := Nat × Nat × Int32 × Nat × Int32 × Int32 × Int32 × Nat
def XC (σ : SS) (i : Nat) (c : CT) : Prop := σ.1 (17 + i) 0 = nI c.1 ∧ σ.1 (17 + i) 1 = plI c.2.1 ∧ σ.1 (17 + i) 2 = c.2.2.1 ∧ σ.1 (17 + i) 3 = nI c.2.2.2.1 ∧ σ.1 (17 + i) 4 = c.2.2.2.2.1 ∧ σ.1 (17 + i) 5 = c.2.2.2.2.2.1 ∧ σ.1 (17 + i) 6 = c.2.2.2.2.2.2.1 ∧ σ.1 (17 + i) 7 = nI c.2.2.2.2.2.2.2
def MCl (τ : SS) (i : Nat) (c : CT) : Prop := τ.1 16 i = nI c.1 ∧ τ.1 17 i = nI c.2.1 ∧ τ.1 18 i = c.2.2.1 ∧ τ.1 19 i = nI c.2.2.2.1 ∧ τ.1 20 i = c.2.2.2.2.1 ∧ τ.1 21 i = c.2.2.2.2.2.1 ∧ τ.1 22 i = c.2.2.2.2.2.2.1 ∧ τ.1 7 i = nI c.2.2.2.2.2.2.2
def CR (n np : Nat) (c : CT) : Prop := (c.1 < np ∨ c.1 = 0) ∧ (c.2.1 < n ∨ c.2.1 = 12) ∧ c.2.2.2.1 ≤ 99 ∧ c.2.2.2.2.2.2.2 < 2 ^ n
def XX (σ : SS) (tn : Nat) (tb : Nat → Nat) : Prop := σ.1 2 1 = nI tn ∧ ∀ j, j < tn → σ.1 3 j = nI (tb j)
def MX (τ : SS) (tn : Nat) (tb : Nat → Nat) : Prop := τ.1 0 2 = nI tn ∧ ∀ j, j < tn → τ.1 1 j &&& 255 = nI (tb j)
def XR (tn : Nat) (tb : Nat → Nat) : Prop := tn ≤ 400 ∧ ∀ j, j < tn → tb j < 256
def XD (σ : SS) (en : Nat) (d1 d2 d3 : Nat → Nat) : Prop := σ.1 12 0 = nI en ∧ ∀ j, j < en → σ.1 13 j = nI (d1 j) ∧ σ.1 14 j = nI (d2 j) ∧ σ.1 15 j = nI (d3 j)
def MD (τ : SS) (en : Nat) (d1 d2 d3 : Nat → Nat) : Prop := τ.1 0 24 = nI en ∧ ∀ j, j < en → τ.1 13 j = nI (d1 j) ∧ τ.1 14 j = nI (d2 j) ∧ τ.1 15 j = nI (d3 j)
def DR (en : Nat) (d1 d2 d3 : Nat → Nat) : Prop := en ≤ 40 ∧ ∀ j, j < en → d1 j < 3 ∧ d2 j ≤ 9 ∧ d3 j ≤ 99
/-- the sides' distance -/
def sdA (F : Nat → Nat → Nat) (a b : Nat) : Nat := if F 1 a ≤ F 1 b then min (F 1 b - F 1 a) (8 - (F 1 b - F 1 a)) else min (F 1 a - F 1 b) (8 - (F 1 a - F 1 b))
def OR (n : Nat) (F : Nat → Nat → Nat) (od un : Nat → Nat) : Prop := (∀ i, i < n → od i < n) ∧ (∀ i j, i < j → j < n → F 0 (od j) < F 0 (od i) ∨ (F 0 (od i) = F 0 (od j) ∧ od i < od j)) ∧ (∀ k, k < n → ∃ i, i < n ∧ od i = k) ∧ ∀ b, b < n → un b < 2 ^ n ∧ ∀ k, k < n → ((un b).testBit k = true ↔ F 0 k < F 0 b ∧ sdA F k b ≤ 1)
def XO (σ : SS) (n : Nat) (od un : Nat → Nat) : Prop := (∀ i, i < n → σ.1 (wd σ + 12) i = nI (od i)) ∧ ∀ b, b < n → σ.1 (wd σ + 13) b = nI (un b)
def XF (σ : SS) : Prop := σ.2.2 0 ≠ σ.2.2 1 ∧ σ.2.2 2 ≠ σ.2.2 3
def KX (σ : SS) (kp : Nat → Bool) : Prop := ∀ i, i = 1 ∨ i = 2 → σ.1 (17 + i) 8 = bI (kp i)
def KM (τ : SS) (kp : Nat → Bool) : Prop := ∀ i, i = 1 ∨ i = 2 → τ.1 23 (i - 1) = bI (kp i)
/-- all but the climbs -/
def R1 (σ τ : SS) (n np : Nat) (F Pw : Nat → Nat → Nat) (U od un : Nat → Nat) : Prop := TR n np F Pw ∧ XT σ n np F Pw ∧ MT τ n np F Pw ∧ UR U ∧ XU σ U ∧ MU τ U ∧ OR n F od un ∧ XO σ n od un
def R2 (σ τ : SS) (n np : Nat) (ci : Nat → CT) (kp : Nat → Bool) : Prop := KX σ kp ∧ KM τ kp ∧ ∀ i, i = 0 ∨ ((i = 1 ∨ i = 2) ∧ kp i = true) → CR n np (ci i) ∧ XC σ i (ci i) ∧ MCl τ i (ci i)
def R3 (σ τ : SS) (tn : Nat) (tb : Nat → Nat) : Prop := XR tn tb ∧ XX σ tn tb ∧ MX τ tn tb
def R4 (σ τ : SS) (en : Nat) (d1 d2 d3 : Nat → Nat) : Prop := DR en d1 d2 d3 ∧ XD σ en d1 d2 d3 ∧ MD τ en d1 d2 d3
def RR (σ τ : SS) : Prop := (∃ (n np : Nat) (F Pw : Nat → Nat → Nat) (U od un : Nat → Nat) (ci : Nat → CT) (kp : Nat → Bool), R1 σ τ n np F Pw U od un ∧ R2 σ τ n np ci kp) ∧ (∃ (tn : Nat) (tb : Nat → Nat), R3 σ τ tn tb) ∧ (∃ (en : Nat) (d1 d2 d3 : Nat → Nat), R4 σ τ en d1 d2 d3) ∧ σ.2.1 0 8 = τ.2.1 0 0 ∧ XF σ
/-- only scratch changed -/
def XS (σ σ' : SS) : Prop := σ'.2.2 0 = σ.2.2 0 ∧ σ'.2.2 1 = σ.2.2 1 ∧ σ'.2.2 2 ≠ σ'.2.2 3 ∧ σ'.2.1 0 8 = σ.2.1 0 8 ∧ ∀ k j, (k < 4 ∨ 12 ≤ k) → (k = 2 → j = 1) → σ'.1 k j = σ.1 k j
def MS (τ τ' : SS) : Prop := τ'.2.1 0 0 = τ.2.1 0 0 ∧ ∀ k j, k ≠ 9 → (k = 0 → j = 2 ∨ j = 24) → τ'.1 k j = τ.1 k j
theorem MS.rf {τ : SS} : MS τ τ := ⟨rfl, fun _ _ _ _ => rfl⟩
theorem MS.tr {a b c : SS} (h : MS a b) (g : MS b c) : MS a c := ⟨g.1.trans h.1, fun k j h1 h2 => (g.2 k j h1 h2).trans (h.2 k j h1 h2)⟩
theorem XS.rf {σ : SS} (h : XF σ) : XS σ σ := ⟨rfl, rfl, h.2, rfl, fun _ _ _ _ => rfl⟩
theorem XS.tr {a b c : SS} (h : XS a b) (g : XS b c) : XS a c := ⟨g.1.trans h.1, g.2.1.trans h.2.1, g.2.2.1, g.2.2.2.1.trans h.2.2.2.1, fun k j h1 h2 => (g.2.2.2.2 k j h1 h2).trans (h.2.2.2.2 k j h1 h2)⟩
theorem wB_ge (b : Bool) : 20 ≤ wB b ∧ wB b ≤ 34 := by cases b <;> decide
theorem R1.scr {σ τ σ' τ' : SS} {n np : Nat} {F Pw : Nat → Nat → Nat} {U od un : Nat → Nat} (h : R1 σ τ n np F Pw U od un) (hx : XS σ σ') (hm : MS τ τ') : R1 σ' τ' n np F Pw U od un := by
  obtain ⟨h1, ⟨a1, a2, a3, a4⟩, ⟨b1, b2, b3, b4⟩, h4, h5, h6, h7, ⟨c1, c2⟩⟩ := h
  have e : wd σ' = wd σ := by unfold wd; rw [hx.1]
  have hw := (wB_ge (σ.2.2 0)).1
  have hg : ∀ k j, (k < 4 ∨ 12 ≤ k) → (k = 2 → j = 1) → σ'.1 k j = σ.1 k j := hx.2.2.2.2
  have hw : 20 ≤ wd σ := hw
  refine ⟨h1, ⟨?_, ?_, ?_, ?_⟩, ⟨?_, ?_, ?_, ?_⟩, h4, ?_, ?_, h7, ?_, ?_⟩
  · rw [e, hg _ _ (by omega) (by omega)]; exact a1
  · rw [e, hg _ _ (by omega) (by omega)]; exact a2
  · intro w k hw1 hk; rw [e, hg _ _ (by omega) (by omega)]; exact a3 w k hw1 hk
  · intro w k hw1 hk; rw [e, hg _ _ (by omega) (by omega)]; exact a4 w k hw1 hk
  · rw [hm.2 _ _ (by omega) (by omega)]; exact b1
  · rw [hm.2 _ _ (by omega) (by omega)]; exact b2
  · intro w k hw1 hk; rw [hm.2 _ _ (by omega) (by omega)]; exact b3 w k hw1 hk
  · intro w k hw1 hk; rw [hm.2 _ _ (by omega) (by omega)]; exact b4 w k hw1 hk
  · intro i hi; rw [hg _ _ (by omega) (by omega)]; exact h5 i hi
  · intro i hi; rw [hm.2 _ _ (by omega) (by omega)]; exact h6 i hi
  · intro i hi; rw [e, hg _ _ (by omega) (by omega)]; exact c1 i hi
  · intro i hi; rw [e, hg _ _ (by omega) (by omega)]; exact c2 i hi
theorem R2.scr {σ τ σ' τ' : SS} {n np : Nat} {ci : Nat → CT} {kp : Nat → Bool} (h : R2 σ τ n np ci kp) (hx : XS σ σ') (hm : MS τ τ') : R2 σ' τ' n np ci kp := by
  have hg : ∀ k j, (k < 4 ∨ 12 ≤ k) → (k = 2 → j = 1) → σ'.1 k j = σ.1 k j := hx.2.2.2.2
  refine ⟨fun i hi => ?_, fun i hi => ?_, fun i hi => ?_⟩
  · rw [hg _ _ (by omega) (by omega)]; exact h.1 i hi
  · rw [hm.2 _ _ (by omega) (by omega)]; exact h.2.1 i hi
  · obtain ⟨a, b, c⟩ := h.2.2 i hi
    refine ⟨a, ?_, ?_⟩
    · unfold XC at b ⊢
      rw [hg _ _ (by omega) (by omega), hg _ _ (by omega) (by omega), hg _ _ (by omega) (by omega), hg _ _ (by omega) (by omega), hg _ _ (by omega) (by omega), hg _ _ (by omega) (by omega), hg _ _ (by omega) (by omega), hg _ _ (by omega) (by omega)]
      exact b
    · unfold MCl at c ⊢
      rw [hm.2 _ _ (by omega) (by omega), hm.2 _ _ (by omega) (by omega), hm.2 _ _ (by omega) (by omega), hm.2 _ _ (by omega) (by omega), hm.2 _ _ (by omega) (by omega), hm.2 _ _ (by omega) (by omega), hm.2 _ _ (by omega) (by omega), hm.2 _ _ (by omega) (by omega)]
      exact c
theorem R3.scr {σ τ σ' τ' : SS} {tn : Nat} {tb : Nat → Nat} (h : R3 σ τ tn tb) (hx : XS σ σ') (hm : MS τ τ') : R3 σ' τ' tn tb := by
  have hg : ∀ k j, (k < 4 ∨ 12 ≤ k) → (k = 2 → j = 1) → σ'.1 k j = σ.1 k j := hx.2.2.2.2
  refine ⟨h.1, ⟨?_, fun j hj => ?_⟩, ?_, fun j hj => ?_⟩
  · rw [hg _ _ (by omega) (by omega)]; exact h.2.1.1
  · rw [hg _ _ (by omega) (by omega)]; exact h.2.1.2 j hj
  · rw [hm.2 _ _ (by omega) (by omega)]; exact h.2.2.1
  · rw [hm.2 _ _ (by omega) (by omega)]; exact h.2.2.2 j hj
theorem R4.scr {σ τ σ' τ' : SS} {en : Nat} {d1 d2 d3 : Nat → Nat} (h : R4 σ τ en d1 d2 d3) (hx : XS σ σ') (hm : MS τ τ') : R4 σ' τ' en d1 d2 d3 := by
  have hg : ∀ k j, (k < 4 ∨ 12 ≤ k) → (k = 2 → j = 1) → σ'.1 k j = σ.1 k j := hx.2.2.2.2
  refine ⟨h.1, ⟨?_, fun j hj => ?_⟩, ?_, fun j hj => ?_⟩
  · rw [hg _ _ (by omega) (by omega)]; exact h.2.1.1
  · rw [hg _ _ (by omega) (by omega), hg _ _ (by omega) (by omega), hg _ _ (by omega) (by omega)]; exact h.2.1.2 j hj
  · rw [hm.2 _ _ (by omega) (by omega)]; exact h.2.2.1
  · rw [hm.2 _ _ (by omega) (by omega), hm.2 _ _ (by omega) (by omega), hm.2 _ _ (by omega) (by omega)]; exact h.2.2.2 j hj
theorem RR.scr {σ τ σ' τ' : SS} (h : RR σ τ) (hx : XS σ σ') (hm : MS τ τ') : RR σ' τ' := by
  obtain ⟨⟨n, np, F, Pw, U, od, un, ci, kp, h1, h2⟩, ⟨tn, tb, h3⟩, ⟨en, d1, d2, d3, h4⟩, h5, h6⟩ := h
  exact ⟨⟨n, np, F, Pw, U, od, un, ci, kp, h1.scr hx hm, h2.scr hx hm⟩, ⟨tn, tb, h3.scr hx hm⟩, ⟨en, d1, d2, d3, h4.scr hx hm⟩, by rw [hx.2.2.2.1, hm.1]; exact h5, by rw [hx.1, hx.2.1]; exact h6.1, hx.2.2.1⟩
/-! what an update leaves -/
theorem sI_o {σ : SS} {k j : Nat} {v : Int32} {k' j' : Nat} (h : k' ≠ k ∨ j' ≠ j) : (sI σ k j v).1 k' j' = σ.1 k' j' := by
  unfold sI upd
  by_cases e : k' = k
  · subst e
    rcases h with h | h
    · exact absurd rfl h
    · simp [h]
  · simp [e]
theorem sI_s {σ : SS} {k j : Nat} {v : Int32} : (sI σ k j v).1 k j = v := by simp [sI, upd]
theorem sI_2 {σ : SS} {k j : Nat} {v : Int32} : (sI σ k j v).2 = σ.2 := rfl
theorem sL_o {σ : SS} {k j : Nat} {v : Int64} {k' j' : Nat} (h : k' ≠ k ∨ j' ≠ j) : (sL σ k j v).2.1 k' j' = σ.2.1 k' j' := by
  unfold sL vp_updL
  by_cases e : k' = k
  · subst e
    rcases h with h | h
    · exact absurd rfl h
    · simp [h]
  · simp [e]
theorem sL_s {σ : SS} {k j : Nat} {v : Int64} : (sL σ k j v).2.1 k j = v := by simp [sL, vp_updL]
theorem sL_1 {σ : SS} {k j : Nat} {v : Int64} : (sL σ k j v).1 = σ.1 := rfl
theorem sL_3 {σ : SS} {k j : Nat} {v : Int64} : (sL σ k j v).2.2 = σ.2.2 := rfl
theorem sB_1 {σ : SS} {k : Nat} {v : Bool} : (sB σ k v).1 = σ.1 := rfl
theorem sB_2 {σ : SS} {k : Nat} {v : Bool} : (sB σ k v).2.1 = σ.2.1 := rfl
theorem MS.i {τ : SS} {k j : Nat} {v : Int32} (h : k = 9 ∨ (k = 0 ∧ j ≠ 2 ∧ j ≠ 24)) : MS τ (sI τ k j v) := ⟨rfl, fun k' j' h1 h2 => sI_o (by omega)⟩
theorem MS.l {τ : SS} {k j : Nat} {v : Int64} (h : k ≠ 0) : MS τ (sL τ k j v) := ⟨sL_o (by omega), fun k' j' h1 h2 => rfl⟩
theorem XS.i {σ : SS} {k j : Nat} {v : Int32} (hf : XF σ) (h : (4 ≤ k ∧ k < 12) ∨ (k = 2 ∧ j ≠ 1)) : XS σ (sI σ k j v) := ⟨rfl, rfl, hf.2, rfl, fun k' j' h1 h2 => sI_o (by omega)⟩
theorem XS.l {σ : SS} {k j : Nat} {v : Int64} (hf : XF σ) (h : k ≠ 0) : XS σ (sL σ k j v) := ⟨rfl, rfl, hf.2, sL_o (by omega), fun k' j' h1 h2 => rfl⟩
