/-! tree, both -/
theorem nar0 : vp_nar .boolean 0 = 0 := by decide +kernel
section S
/-- the reference's copies -/
theorem m_cp104 (c : Int32) : ∀ (d k fuel : Nat) (t : SS), k + d = 72 → d < fuel → ∃ t', L6_tree_104 c fuel (nI k) t = some t' ∧ t'.2 = t.2 ∧ (∀ i j, (i ≠ 3 ∨ 72 ≤ j ∨ j < k) → t'.1 i j = t.1 i j) ∧ ∀ j, k ≤ j → j < 72 → t'.1 3 j = t.1 3 (72 + j) := by
  intro d
  induction d with
  | zero =>
    intro k fuel t h1 h2
    obtain ⟨f, rfl⟩ : ∃ q, fuel = q + 1 := ⟨fuel - 1, by omega⟩
    refine ⟨t, ?_, rfl, fun _ _ _ => rfl, fun j h3 h4 => by omega⟩
    rw [L6_tree_104, if_neg (by rw [l72, c_lt (by omega) (by omega)]; omega)]
  | succ d ih =>
    intro k fuel t h1 h2
    obtain ⟨f, rfl⟩ : ∃ q, fuel = q + 1 := ⟨fuel - 1, by omega⟩
    have i1 : inb (nI (72 + k)) 144 := by rw [c_inb (by omega)]; omega
    have i2 : inb (nI k) 144 := by rw [c_inb (by omega)]; omega
    obtain ⟨t', a1, a2, a3, a4⟩ := ih (k + 1) f (sI t 3 k (t.1 3 (72 + k))) (by omega) (by omega)
    refine ⟨t', ?_, a2, fun i j hij => ?_, fun j h3 h4 => ?_⟩
    · rw [L6_tree_104, if_pos (by rw [l72, c_lt (by omega) (by omega)]; omega), l72, c_add, gd_t i1, gd_t i2, c_tn (by omega), c_tn (by omega)]
      simp only [lt_e, nI_1]
      exact a1
    · rw [a3 i j (by omega), sI_o (by omega)]
    · by_cases e : j = k
      · subst e
        rw [a3 3 j (by omega), sI_s]
      · rw [a4 j (by omega) h4, sI_o (by omega)]
theorem m_cp133 (c : Int32) : ∀ (d k fuel : Nat) (t : SS), k + d = 9 → d < fuel → ∃ t', L6_tree_133 c fuel (nI k) t = some t' ∧ t'.2 = t.2 ∧ (∀ i j, (i ≠ 5 ∨ 9 ≤ j ∨ j < k) → t'.1 i j = t.1 i j) ∧ ∀ j, k ≤ j → j < 9 → t'.1 5 j = t.1 5 (9 + j) := by
  intro d
  induction d with
  | zero =>
    intro k fuel t h1 h2
    obtain ⟨f, rfl⟩ : ∃ q, fuel = q + 1 := ⟨fuel - 1, by omega⟩
    refine ⟨t, ?_, rfl, fun _ _ _ => rfl, fun j h3 h4 => by omega⟩
    rw [L6_tree_133, if_neg (by rw [l9, c_lt (by omega) (by omega)]; omega)]
  | succ d ih =>
    intro k fuel t h1 h2
    obtain ⟨f, rfl⟩ : ∃ q, fuel = q + 1 := ⟨fuel - 1, by omega⟩
    have i1 : inb (nI (9 + k)) 18 := by rw [c_inb (by omega)]; omega
    have i2 : inb (nI k) 18 := by rw [c_inb (by omega)]; omega
    obtain ⟨t', a1, a2, a3, a4⟩ := ih (k + 1) f (sI t 5 k (t.1 5 (9 + k))) (by omega) (by omega)
    refine ⟨t', ?_, a2, fun i j hij => ?_, fun j h3 h4 => ?_⟩
    · rw [L6_tree_133, if_pos (by rw [l9, c_lt (by omega) (by omega)]; omega), l9, c_add, gd_t i1, gd_t i2, c_tn (by omega), c_tn (by omega)]
      simp only [lt_e, nI_1]
      exact a1
    · rw [a3 i j (by omega), sI_o (by omega)]
    · by_cases e : j = k
      · subst e
        rw [a3 5 j (by omega), sI_s]
      · rw [a4 j (by omega) h4, sI_o (by omega)]
theorem x_kept (s : SS) : L5_tree_52 FU 0 s = some (sI (sI s 18 8 0) 19 8 0) := by
  have e : FU = (4997 + 1) + 1 + 1 := rfl
  have i0 : inb 0 2 := iz 2 (by omega)
  have i1 : inb 1 2 := iz1 2 (by omega)
  rw [e, L5_tree_52, if_pos (by decide), gd_t i0, lt_e, lt_e, show (0 : Int32) + 1 = 1 by decide, L5_tree_52, if_pos (by decide), gd_t i1, lt_e, lt_e, show (1 : Int32) + 1 = 2 by decide, L5_tree_52, if_neg (by decide), tz0, tz1]
/-- the class's first steps -/
def xt1 (s : SS) : SS := sI (sI (sI s (wB (s.2.2 1)) 0 0) (wB (s.2.2 1)) 1 0) 2 2 0
theorem x_readT (s : SS) : f5_readText s = bs1 (L5_readText_16 FU 0 (xt1 s)) (fun q16 => some ((q16.1 2 3), q16)) (fun r => some r) := rfl
def mt1 (t : SS) : SS := sI (sI (sI (sI t 0 8 0) 0 12 (-9)) 2 1 0) 4 1 0
/-- the class's last steps -/
def xt2 (s : SS) : SS := sB (sB (sI s 2 1 0) 0 (s.2.2 1)) 1 (s.2.2 0)
def xt3 (s : SS) : SS := sI (sI (sI (sI (xbeg s 0) 17 7 0) 12 0 0) 18 8 0) 19 8 0
def mt2 (t : SS) : SS := sI (sI (sI (sI (sI (mbeg t 0) 7 0 0) 0 24 0) 23 0 0) 23 1 0) 0 2 0
theorem xt3_o {s : SS} {k j : Nat} (h : k ≠ 12 ∨ j ≠ 0) (h2 : k ≠ 17 ∨ j = 6 ∨ 7 < j) (h3 : (k ≠ 18 ∧ k ≠ 19) ∨ j ≠ 8) : (xt3 s).1 k j = s.1 k j := by
  unfold xt3
  rw [sI_o (by omega), sI_o (by omega), sI_o (by omega), sI_o (by omega), xbeg_o (by omega)]
theorem mt2_o {t : SS} {k j : Nat} (h : k ≠ 7 ∨ j ≠ 0) (h2 : k ≠ 0 ∨ (j ≠ 24 ∧ j ≠ 2)) (h3 : k ≠ 23 ∨ 1 < j) (h4 : (k < 16 ∨ 21 < k) ∨ j ≠ 0) : (mt2 t).1 k j = t.1 k j := by
  unfold mt2
  rw [sI_o (by omega), sI_o (by omega), sI_o (by omega), sI_o (by omega), sI_o (by omega), mbeg_o (by omega)]
theorem x_treeT {s s' s4 : SS} (h : L5_readText_16 FU 0 (xt1 s) = some (.inr (-1, s'))) (h4 : f4_order ((xt2 s').2.2 0) (xt2 s') = some s4) : f5_tree s = some ((xt3 s4).1 (wB (s4.2.2 0)) 0 + (xt3 s4).1 (wB (s4.2.2 0)) 1, xt3 s4) := by
  have e1 : f5_readText s = some (-1, s') := by rw [x_readT, h]; rfl
  have e2 : f5_standDraft (sI s' 2 1 0) = some s4 := by
    unfold f5_standDraft
    simp only [lt_e]
    have e : sB (sB (sI s' 2 1 0) 0 ((sI s' 2 1 0).2.2 1)) 1 ((sI s' 2 1 0).2.2 0) = xt2 s' := rfl
    rw [e, h4, bd_e]
  unfold f5_tree
  rw [e1, bk2_e, if_pos (by decide), lt_e, e2, bd_e, x_begin, bd_e, lt_e, lt_e, x_kept, bk1_e]
  rfl
end S
section S
variable {σ τ : SS}
theorem m_treeH (t : SS) : f6_tree t = bd (f6_next (mt1 t)) (fun q5 => bk2 (L6_tree_31 FU 0 q5) (fun x8 q9 => if (q9.1 0 12) = (-9) then bk1 (L6_tree_104 x8 FU 0 (sI (sI q9 2 0 (q9.1 2 1)) 4 0 ((sI q9 2 0 (q9.1 2 1)).1 4 1))) (fun q14 => bk1 (L6_tree_133 x8 FU 0 q14) (fun q17 => some (x8, mt2 q17))) else some (((-10) - (q9.1 0 12)), q9))) := by
  unfold f6_tree mt1
  simp only [lt_e, gd_t (iz1 2 (by omega)), gd_t (iz 2 (by omega)), gd_t (iz 3 (by omega)), tz0, tz1, m_begin, bd_e, nar0]
  rfl
/-- a tree that stands: the new state -/
theorem RR.tree (h : RR σ τ) {s' t' : SS} (hx : PXf σ s' (wB (σ.2.2 1))) (hm : PMf τ t') {b q : Nat} {F Pw : Nat → Nat → Nat} (hd : DRF s' t' (wB (σ.2.2 1)) b q F Pw) {s4 : SS} {od un : Nat → Nat} (ho : OS (xt2 s') s4) (hO : OR b F od un) (hxo : XO s4 b od un) {t4 : SS} (e2 : t4.2 = t'.2) (g4 : ∀ i j, (i ≠ 2 ∨ j ≠ 0) → (i ≠ 4 ∨ j ≠ 0) → (i ≠ 3 ∨ 72 ≤ j) → (i ≠ 5 ∨ 9 ≤ j) → t4.1 i j = t'.1 i j) (g2 : t4.1 2 0 = t'.1 2 1) (g3 : t4.1 4 0 = t'.1 4 1) (g5 : ∀ j, j < 72 → t4.1 3 j = t'.1 3 (72 + j)) (g6 : ∀ j, j < 9 → t4.1 5 j = t'.1 5 (9 + j)) : RR (xt3 s4) (mt2 t4) := by
  obtain ⟨⟨n, np, F0, Pw0, U, od0, un0, ci, kp, ⟨_, _, _, hU, hxu, hmu, _, _⟩, h2⟩, ⟨tn, tb, h3⟩, ⟨en, d1, d2, d3, h4⟩, h5, h6⟩ := h
  obtain ⟨c1, c2, c3⟩ := h2.2.2 0 (Or.inl rfl)
  obtain ⟨r, a1, a2, a3, a4, a5, a6, a7, a8⟩ := hd
  have r0 := r.1
  have r1 := r.2.1
  have hD := wB_ge (σ.2.2 1)
  obtain ⟨D, eD⟩ : ∃ D, D = wB (σ.2.2 1) := ⟨_, rfl⟩
  rw [← eD] at hx a1 a2 a3 a4 hD
  have w2 : wd (xt2 s') = D := by
    rw [eD]
    show wB ((xt2 s').2.2 0) = _
    rw [show (xt2 s').2.2 0 = s'.2.2 1 from rfl, hx.1]
  have w4 : wd s4 = D := by rw [ho.ewd]; exact w2
  have w5 : wd (xt3 s4) = D := w4
  have gx : ∀ k j, k ≠ D + 12 → k ≠ D + 13 → (k ≠ 2 ∨ j ≠ 1) → s4.1 k j = s'.1 k j := by
    intro k j z1 z2 z3
    rw [ho.2 k j (by rw [w2]; exact z1) (by rw [w2]; exact z2)]
    show (sI s' 2 1 0).1 k j = _
    exact sI_o z3
  have lX : ∀ k j, k < 20 → (k ≠ 2 ∨ j < 1) → s4.1 k j = σ.1 k j := fun k j z1 z2 => by rw [gx k j (by omega) (by omega) (by omega)]; exact hx.2 k j (by omega) (by omega)
  have lM : ∀ k j, (k ≠ 0 ∨ j < 8 ∨ 12 < j) → (k < 2 ∨ 5 < k) → t4.1 k j = τ.1 k j := fun k j z1 z2 => by rw [g4 k j (by omega) (by omega) (by omega) (by omega)]; exact hm.2 k j z1 (by omega) (by omega) (by omega) (by omega)
  refine ⟨⟨b, q, F, Pw, U, od, un, fun _ => ((0, 12, 0, 0, 0, 0, (ci 0).2.2.2.2.2.2.1, 0) : CT), fun _ => false, ⟨r, ⟨?_, ?_, ?_, ?_⟩, ⟨?_, ?_, ?_, ?_⟩, hU, ?_, ?_, hO, ?_, ?_⟩, ⟨?_, ?_, ?_⟩⟩, ⟨0, fun _ => 0, ⟨Nat.zero_le _, fun j hj => by omega⟩, ⟨?_, fun j hj => by omega⟩, ⟨?_, fun j hj => by omega⟩⟩, ⟨0, fun _ => 0, fun _ => 0, fun _ => 0, ⟨Nat.zero_le _, fun j hj => by omega⟩, ⟨?_, fun j hj => by omega⟩, ⟨?_, fun j hj => by omega⟩⟩, ?_, ?_⟩
  · rw [w5, xt3_o (by omega) (by omega) (by omega), gx _ _ (by omega) (by omega) (by omega)]; exact a1
  · rw [w5, xt3_o (by omega) (by omega) (by omega), gx _ _ (by omega) (by omega) (by omega)]; exact a2
  · intro w k hw hk; rw [w5, xt3_o (by omega) (by omega) (by omega), gx _ _ (by omega) (by omega) (by omega)]; exact a3 w k hw hk
  · intro w k hw hk; rw [w5, xt3_o (by omega) (by omega) (by omega), gx _ _ (by omega) (by omega) (by omega)]; exact a4 w k hw hk
  · rw [mt2_o (by omega) (by omega) (by omega) (by omega), g2]; exact a5
  · rw [mt2_o (by omega) (by omega) (by omega) (by omega), g3]; exact a6
  · intro w k hw hk; rw [mt2_o (by omega) (by omega) (by omega) (by omega), g5 _ (by omega), ← Nat.add_assoc]; exact a7 w k hw hk
  · intro w k hw hk; rw [mt2_o (by omega) (by omega) (by omega) (by omega), g6 _ (by omega), ← Nat.add_assoc]; exact a8 w k hw hk
  · intro i hi; rw [xt3_o (by omega) (by omega) (by omega), lX _ _ (by omega) (by omega)]; exact hxu i hi
  · intro i hi; rw [mt2_o (by omega) (by omega) (by omega) (by omega), lM _ _ (by omega) (by omega)]; exact hmu i hi
  · intro i hi; rw [w5, xt3_o (by omega) (by omega) (by omega), ← w4]; exact hxo.1 i hi
  · intro i hi; rw [w5, xt3_o (by omega) (by omega) (by omega), ← w4]; exact hxo.2 i hi
  · intro i hi; rcases hi with rfl | rfl
    · rfl
    · rfl
  · intro i hi; rcases hi with rfl | rfl
    · rfl
    · rfl
  · intro i hi
    rcases hi with rfl | ⟨_, hi⟩
    · refine ⟨⟨Or.inr rfl, Or.inr rfl, by show (0 : Nat) ≤ 99; omega, Nat.two_pow_pos b⟩, ⟨rfl, rfl, rfl, rfl, rfl, rfl, ?_, rfl⟩, ⟨rfl, rfl, rfl, rfl, rfl, rfl, ?_, rfl⟩⟩
      · rw [xt3_o (by omega) (by omega) (by omega), lX _ _ (by omega) (by omega)]; exact c2.2.2.2.2.2.2.1
      · rw [mt2_o (by omega) (by omega) (by omega) (by omega), lM _ _ (by omega) (by omega)]; exact c3.2.2.2.2.2.2.1
    · cases hi
  · rw [xt3_o (by omega) (by omega) (by omega)]
    rw [ho.2 2 1 (by rw [w2]; omega) (by rw [w2]; omega)]
    exact (show (sI s' 2 1 0).1 2 1 = 0 from sI_s)
  · rfl
  · rfl
  · rfl
  · show s4.2.1 0 8 = t4.2.1 0 0
    rw [ho.1, e2, hm.1, show (xt2 s').2.1 = s'.2.1 from rfl, hx.1]; exact h5
  · show s4.2.2 0 ≠ s4.2.2 1 ∧ s4.2.2 2 ≠ s4.2.2 3
    rw [ho.1]
    refine ⟨?_, ?_⟩
    · show s'.2.2 1 ≠ s'.2.2 0
      rw [hx.1]; exact fun e => h6.1 e.symm
    · show s'.2.2 2 ≠ s'.2.2 3
      rw [hx.1]; exact h6.2
theorem r_tree (h : RR σ τ) : BI (f5_tree σ) (f6_tree τ) := by
  have h' := h
  obtain ⟨⟨n, np, F0, Pw0, U, od0, un0, ci, kp, h1, h2⟩, ⟨tn, tb, h3⟩, ⟨en, d1, d2, d3, h4⟩, h5, h6⟩ := h'
  obtain ⟨hR, hxx, hmx⟩ := h3
  have hD := wB_ge (σ.2.2 1)
  have hX1 : PXf σ (xt1 σ) (wB (σ.2.2 1)) := ⟨rfl, fun k j z1 z2 => by unfold xt1; rw [sI_o (by omega), sI_o (by omega), sI_o (by omega)]⟩
  have hM1 : PMf τ (mt1 τ) := ⟨rfl, fun k j z1 z2 z3 z4 z5 => by unfold mt1; rw [sI_o (by omega), sI_o (by omega), sI_o (by omega), sI_o (by omega)]⟩
  have x1 : XX (xt1 σ) tn tb := hX1.xx hD.1 hxx
  have m1 : MX (mt1 τ) tn tb := hM1.mx hmx
  obtain ⟨t5, n1, n2, n3, n4, n5, n6⟩ := m_next hR m1 (p := 0) (Nat.zero_le _) rfl
  have hM5 : PMf τ t5 := hM1.tr ⟨n2.1, fun k j z1 _ _ _ _ => n2.2 k j (by omega)⟩
  have m5 : MX t5 tn tb := hM5.mx hmx
  have b5 : ∀ k j, k ≠ 0 → t5.1 k j = (mt1 τ).1 k j := fun k j hk => n2.2 k j (by omega)
  have hst : ST t5 tn tb (.inl 0) := ⟨Nat.zero_le _, ⟨n3, n4, n5, n6⟩, (n2.2 0 12 (by omega)).trans rfl⟩
  have hd : DRF (xt1 σ) t5 (wB (σ.2.2 1)) 0 0 (fun _ _ => 0) (fun _ _ => 0) := by
    refine ⟨⟨Nat.zero_le _, Nat.zero_le _, fun k hk => by omega, fun k hk => by omega⟩, ?_, ?_, fun w k hw hk => by omega, fun w k hw hk => by omega, ?_, ?_, fun w k hw hk => by omega, fun w k hw hk => by omega⟩
    · unfold xt1; rw [sI_o (by omega), sI_o (by omega), sI_s]; rfl
    · unfold xt1; rw [sI_o (by omega), sI_s]; rfl
    · rw [b5 _ _ (by omega)]; rfl
    · rw [b5 _ _ (by omega)]; rfl
  obtain ⟨s', t', p1, p2, p3⟩ := j_loop hR hD.1 16 0 0 0 FU FU (fun _ _ => 0) (fun _ _ => 0) (xt1 σ) t5 rfl (by unfold FU; omega) (by unfold FU; omega) (by omega) x1 m5 (Nat.zero_le _) rfl hst hd rfl
  have pX := hX1.tr p1
  have pM := hM5.tr p2
  rw [show nI (0 + 0) = (0 : Int32) from rfl] at p3
  have r0 := hR.1
  rcases p3 with ⟨x, x0, x1, v, x2, x3⟩ | ⟨b, q, F, Pw, x1, x2, x3, x4⟩
  · refine ⟨-10 - nI x, s', t', ?_, ?_, h.draft pX pM⟩
    · unfold f5_tree
      rw [x_readT, x1, show bs1 (some (Sum.inr (nI x, s'))) (fun q16 => some ((q16.1 2 3), q16)) (fun r => some r) = some (nI x, s') from rfl, bk2_e, if_neg (nI_pos (by omega))]
    · rw [m_treeH, n1, bd_e, x2, bk2_e, x3, if_neg (m9 (by omega))]
  · have hxt : XT (xt2 s') b q F Pw := by
      obtain ⟨r, a1, a2, a3, a4, a5⟩ := x4
      have w2 : wd (xt2 s') = wB (σ.2.2 1) := by
        show wB ((xt2 s').2.2 0) = _
        rw [show (xt2 s').2.2 0 = s'.2.2 1 from rfl, pX.1]
      have g : ∀ k j, 20 ≤ k → (xt2 s').1 k j = s'.1 k j := fun k j hk => sI_o (by omega)
      exact ⟨by rw [w2, g _ _ (by omega)]; exact a1, by rw [w2, g _ _ (by omega)]; exact a2, fun w k hw hk => by rw [w2, g _ _ (by omega)]; exact a3 w k hw hk, fun w k hw hk => by rw [w2, g _ _ (by omega)]; exact a4 w k hw hk⟩
    obtain ⟨od, un, s4, o1, o2, o3, o4⟩ := x_order x4.1 hxt
    obtain ⟨t2, c1, c2, c3, c4⟩ := m_cp104 (nI (b + q)) 72 0 FU (sI (sI t' 2 0 (t'.1 2 1)) 4 0 ((sI t' 2 0 (t'.1 2 1)).1 4 1)) rfl (by unfold FU; omega)
    obtain ⟨t4, d1, d2, d3, d4⟩ := m_cp133 (nI (b + q)) 9 0 FU t2 rfl (by unfold FU; omega)
    have key := h.tree pX pM x4 o2 o3 o4 (t4 := t4) (by rw [d2, c2]; rfl) (fun i j z1 z2 z3 z4 => by rw [d3 i j (by omega), c3 i j (by omega), sI_o (by omega), sI_o (by omega)]) (by rw [d3 _ _ (by omega), c3 _ _ (by omega), sI_o (by omega), sI_s]) (by rw [d3 _ _ (by omega), c3 _ _ (by omega), sI_s, sI_o (by omega)]) (fun j hj => by rw [d3 _ _ (by omega), c4 j (by omega) hj, sI_o (by omega), sI_o (by omega)]) (fun j hj => by rw [d4 j (by omega) hj, c3 _ _ (by omega), sI_o (by omega), sI_o (by omega)])
    refine ⟨nI (b + q), xt3 s4, mt2 t4, ?_, ?_, key⟩
    · rw [x_treeT x1 o1]
      have w2 : wd (xt2 s') = wB (σ.2.2 1) := by
        show wB ((xt2 s').2.2 0) = _
        rw [show (xt2 s').2.2 0 = s'.2.2 1 from rfl, pX.1]
      have w4 : wB (s4.2.2 0) = wB (σ.2.2 1) := by rw [o2.1]; exact w2
      rw [w4, xt3_o (by omega) (by omega) (by omega), xt3_o (by omega) (by omega) (by omega), o2.2 _ _ (by rw [w2]; omega) (by rw [w2]; omega), o2.2 _ _ (by rw [w2]; omega) (by rw [w2]; omega)]
      rw [show (xt2 s').1 (wB (σ.2.2 1)) 0 = s'.1 (wB (σ.2.2 1)) 0 from sI_o (by omega), show (xt2 s').1 (wB (σ.2.2 1)) 1 = s'.1 (wB (σ.2.2 1)) 1 from sI_o (by omega), x4.2.1, x4.2.2.1, c_add]
    · have c1 : L6_tree_104 (nI (b + q)) FU 0 _ = some t2 := c1
      have d1 : L6_tree_133 (nI (b + q)) FU 0 _ = some t4 := d1
      rw [m_treeH, n1, bd_e, x2, bk2_e, x3, if_pos rfl, c1, bk1_e, d1, bk1_e]
end S
