/-! type, count -/
theorem bits_byte (x : Int64) (s1 : UInt64) (s2 : Int64) (hs : (s1.toBitVec.toNat % 64) = (s2.toBitVec.smod 64).toNat) (hk : (s2.toBitVec.smod 64).toNat < 57) : (Int64.toInt32 ((Int64.toUInt64 x) >>> s1).toInt64) &&& 255 = (vp_nar .byte (Int8.toInt32 (Int32.toInt8 (Int64.toInt32 ((x >>> s2) &&& 255))))) &&& 255 := by
  rw [vp_nar_byte]
  apply Int32.toBitVec_inj.mp
  apply BitVec.eq_of_getLsbD_eq
  intro i hi
  have k255 : ∀ i, i < 32 → (255#32).getLsbD i = decide (i < 8) := by decide
  have hs' : s1.toNat % 64 = (s2.toBitVec.smod 64#64).toNat := hs
  have hk' : (s2.toBitVec.smod 64#64).toNat < 57 := hk
  simp
  rw [k255 i hi]
  by_cases h8 : i < 8
  · have k32 : ∀ i, i < 8 → (4294967295#32).getLsbD i = true := by decide
    rw [k32 i h8, hs']
    simp only [BitVec.getLsbD_signExtend, BitVec.getLsbD_sshiftRight, BitVec.getLsbD_ushiftRight, h8, hi, decide_true, Bool.and_true, Bool.true_and, if_true]
    have e1 : i < 64 := by omega
    have e2 : (s2.toBitVec.smod 64#64).toNat + i < 64 := by omega
    have e3 : ¬ 64 ≤ i := by omega
    simp [e1, e2, e3]
  · simp [h8]
theorem byte_of (x : Int32) : ∃ k, k < 256 ∧ x &&& 255 = nI k := by
  refine ⟨x.toBitVec.toNat % 2 ^ 8, Nat.mod_lt _ (by omega), ?_⟩
  exact pk_and x 8 (by decide)
section S
variable {σ τ : SS}
theorem bc_all2 : ∀ a, a < 64 → ∀ b, b < 64 → fJ6_bitCount_0f7a4 (nI (64 * a + b)) = L6_bitsIn_4 (nI (64 * a + b)) 13 0 0 := by decide +kernel
theorem bc_all (s : Nat) (hs : s < 4096) : fJ6_bitCount_0f7a4 (nI s) = L6_bitsIn_4 (nI s) 13 0 0 := by
  have h := bc_all2 (s / 64) (by omega) (s % 64) (by omega)
  rw [show 64 * (s / 64) + s % 64 = s by omega] at h
  exact h
theorem bi_fuel : ∀ (f g : Nat) (c v1 v2 r : Int32), L6_bitsIn_4 c f v1 v2 = some r → f ≤ g → L6_bitsIn_4 c g v1 v2 = some r := by
  intro f
  induction f with
  | zero => intro g c v1 v2 r h _; cases h
  | succ f ih =>
    intro g c v1 v2 r h hg
    obtain ⟨g, rfl⟩ : ∃ q, g = q + 1 := ⟨g - 1, by omega⟩
    rw [L6_bitsIn_4] at h ⊢
    by_cases q : v2 < 12
    · rw [if_pos q] at h ⊢
      exact ih g c _ _ r h (by omega)
    · rw [if_neg q] at h ⊢; exact h
theorem bi_some : ∀ (d i f : Nat) (c v1 : Int32), i + d = 12 → d < f → ∃ r, L6_bitsIn_4 c f v1 (nI i) = some r := by
  intro d
  induction d with
  | zero =>
    intro i f c v1 h1 h2
    obtain ⟨f, rfl⟩ : ∃ q, f = q + 1 := ⟨f - 1, by omega⟩
    exact ⟨v1, by rw [L6_bitsIn_4, if_neg (by rw [l12, c_lt (by omega) (by omega)]; omega)]⟩
  | succ d ih =>
    intro i f c v1 h1 h2
    obtain ⟨f, rfl⟩ : ∃ q, f = q + 1 := ⟨f - 1, by omega⟩
    rw [L6_bitsIn_4, if_pos (by rw [l12, c_lt (by omega) (by omega)]; omega)]
    simp only [lt_e, nI_1]
    exact ih (i + 1) f c _ (by omega) (by omega)
theorem bits_both {s : Nat} (hs : s < 4096) : ∃ r, fJ6_bitCount_0f7a4 (nI s) = some r ∧ f6_bitsIn (nI s) = some r := by
  obtain ⟨r, hr⟩ := bi_some 12 0 13 (nI s) 0 (by omega) (by omega)
  have hr' : L6_bitsIn_4 (nI s) 13 0 0 = some r := hr
  refine ⟨r, by rw [bc_all s hs, hr'], ?_⟩
  unfold f6_bitsIn
  rw [bi_fuel 13 FU (nI s) 0 0 r hr' (by unfold FU; omega)]
  rfl
theorem r_count (h : RR σ τ) (a : Int32) : BI (pI (f5_count a σ) σ) (pI (f6_count a τ) τ) := by
  have h' := h
  obtain ⟨⟨n, np, F, Pw, U, od, un, ci, kp, h1, h2⟩, ⟨tn, tb, h3⟩, ⟨en, d1, d2, d3, h4⟩, h5, h6⟩ := h
  obtain ⟨c1, c2, c3⟩ := h2.2.2 0 (Or.inl rfl)
  have hs : (ci 0).2.2.2.2.2.2.2 < 4096 := Nat.lt_of_lt_of_le c1.2.2.2 (pow12 h1.1.1)
  obtain ⟨r, b1, b2⟩ := bits_both hs
  have key : ∃ r, f5_count a σ = some r ∧ f6_count a τ = some r := by
    simp only [f5_count, f6_count, gd_t (iz 3 (by omega)), gd_t (iz 2 (by omega)), tz0, bd_e, show (17 + 0 : Nat) = 17 from rfl, show σ.1 17 7 = _ from c2.2.2.2.2.2.2.2, c3.2.2.2.2.2.2.2, b1, b2, show σ.1 (wB (σ.2.2 0)) 0 = _ from h1.2.1.1, show σ.1 (wB (σ.2.2 0)) 1 = _ from h1.2.1.2.1, h1.2.2.1.1, h1.2.2.1.2.1, h3.2.1.1, h3.2.2.1, h4.2.1.1, h4.2.2.1]
    by_cases g0 : a = 0
    · simp only [if_pos g0]; exact ⟨_, rfl, rfl⟩
    · simp only [if_neg g0]
      by_cases g1 : a = 1
      · simp only [if_pos g1]; exact ⟨_, rfl, rfl⟩
      · simp only [if_neg g1]
        by_cases g2 : a = 2
        · simp only [if_pos g2]; exact ⟨_, rfl, rfl⟩
        · simp only [if_neg g2]
          by_cases g3 : a = 3
          · simp only [if_pos g3]; exact ⟨_, rfl, rfl⟩
          · simp only [if_neg g3]
            by_cases g4 : a = 4
            · simp only [if_pos g4]; exact ⟨_, rfl, rfl⟩
            · simp only [if_neg g4]; exact ⟨_, rfl, rfl⟩
  obtain ⟨r, k1, k2⟩ := key
  exact ⟨r, σ, τ, by rw [k1]; rfl, by rw [k2]; rfl, h'⟩
/-- what is typed: the two loops -/
def TS (σ τ σ' τ' : SS) : Prop := σ'.2 = σ.2 ∧ τ'.2 = τ.2 ∧ (∀ k j, k ≠ 3 → (k = 2 → j ≠ 1) → σ'.1 k j = σ.1 k j) ∧ ∀ k j, k ≠ 1 → (k = 0 → j ≠ 2) → τ'.1 k j = τ.1 k j
theorem type_loop (v : Int64) : ∀ (d fuel1 fuel2 tn : Nat) (tb : Nat → Nat) (σ τ : SS), d ≤ 8 → tn + d ≤ 400 → d < fuel1 → d < fuel2 → R3 σ τ tn tb → ∃ σ' τ' tb', L2_append_32 v fuel1 (nI d - 1) σ = some σ' ∧ L6_type_32 v fuel2 (nI d - 1) τ = some τ' ∧ R3 σ' τ' (tn + d) tb' ∧ TS σ τ σ' τ' := by
  intro d
  induction d with
  | zero =>
    intro f1 f2 tn tb σ τ h1 h2 h3 h4 h
    obtain ⟨f1, rfl⟩ : ∃ q, f1 = q + 1 := ⟨f1 - 1, by omega⟩
    obtain ⟨f2, rfl⟩ : ∃ q, f2 = q + 1 := ⟨f2 - 1, by omega⟩
    refine ⟨σ, τ, tb, ?_, ?_, h, rfl, rfl, fun _ _ _ _ => rfl, fun _ _ _ _ => rfl⟩
    · rw [L2_append_32, if_pos (by decide)]
    · rw [L6_type_32, if_pos (by decide)]
  | succ d ih =>
    intro f1 f2 tn tb σ τ h1 h2 h3 h4 h
    obtain ⟨f1, rfl⟩ : ∃ q, f1 = q + 1 := ⟨f1 - 1, by omega⟩
    obtain ⟨f2, rfl⟩ : ∃ q, f2 = q + 1 := ⟨f2 - 1, by omega⟩
    have hin : inb (nI tn) 400 := by rw [c_inb (by omega)]; omega
    have e1 : nI (d + 1) - 1 = nI d := nI_pred d
    have hsh : ∀ d, d < 8 → ((Int64.toUInt64 (Int32.toInt64 (8 * nI d)) &&& Int64.toUInt64 63).toBitVec.toNat % 64) = (((Int32.toInt64 (8 * nI d)) &&& 63).toBitVec.smod 64).toNat ∧ (((Int32.toInt64 (8 * nI d)) &&& 63).toBitVec.smod 64).toNat < 57 := by decide +kernel
    have hb := bits_byte v (Int64.toUInt64 (Int32.toInt64 (8 * nI d)) &&& Int64.toUInt64 63) ((Int32.toInt64 (8 * nI d)) &&& 63) (hsh d (by omega)).1 (hsh d (by omega)).2
    obtain ⟨k, k1, k2⟩ := byte_of (Int64.toInt32 ((Int64.toUInt64 v) >>> (Int64.toUInt64 (Int32.toInt64 (8 * nI d)) &&& Int64.toUInt64 63)).toInt64)
    have xs : ∃ s1, s1 = sI (sI σ 3 tn (nI k)) 2 1 (nI (tn + 1)) := ⟨_, rfl⟩
    obtain ⟨s1, hs1⟩ := xs
    obtain ⟨t1, ht1⟩ : ∃ t1, t1 = sI (sI τ 1 tn (vp_nar .byte (Int8.toInt32 (Int32.toInt8 (Int64.toInt32 ((v >>> ((Int32.toInt64 (8 * nI d)) &&& 63)) &&& 255)))))) 0 2 (nI (tn + 1)) := ⟨_, rfl⟩
    have h' : R3 s1 t1 (tn + 1) (fun j => if j = tn then k else tb j) := by
      subst hs1; subst ht1
      refine ⟨⟨by omega, fun j hj => ?_⟩, ⟨by simp (disch := omega) only [sI_s], fun j hj => ?_⟩, by simp (disch := omega) only [sI_s], fun j hj => ?_⟩
      · by_cases q : j = tn
        · simp only [if_pos q]; exact k1
        · simp only [if_neg q]; exact h.1.2 j (by omega)
      · by_cases q : j = tn
        · subst q; simp (disch := omega) only [sI_o, sI_s, if_true]
        · simp (disch := omega) only [sI_o, if_neg q]; exact h.2.1.2 j (by omega)
      · by_cases q : j = tn
        · subst q; simp (disch := omega) only [sI_o, sI_s, if_true]; rw [← hb]; exact k2
        · simp (disch := omega) only [sI_o, if_neg q]; exact h.2.2.2 j (by omega)
    obtain ⟨σ', τ', tb', g1, g2, g3, g4⟩ := ih f1 f2 (tn + 1) _ s1 t1 (by omega) (by omega) (by omega) (by omega) h'
    refine ⟨σ', τ', tb', ?_, ?_, by rw [show tn + (d + 1) = tn + 1 + d by omega]; exact g3, ?_⟩
    · rw [e1, L2_append_32, if_neg (nI_pos (by omega)), h.2.1.1, gd_t hin]
      simp only [lt_e, c_tn (show tn < 2147483648 by omega), k2]
      rw [sI_o (by omega), h.2.1.1, nI_1, ← hs1, show nI d + -1 = nI d - 1 from (Int32.sub_eq_add_neg _ _).symm]
      exact g1
    · rw [e1, L6_type_32, if_neg (nI_pos (by omega)), h.2.2.1, gd_t hin]
      simp only [lt_e, c_tn (show tn < 2147483648 by omega)]
      rw [sI_o (by omega), h.2.2.1, nI_1, ← ht1, show nI d + -1 = nI d - 1 from (Int32.sub_eq_add_neg _ _).symm]
      exact g2
    · refine ⟨by rw [g4.1, hs1]; rfl, by rw [g4.2.1, ht1]; rfl, fun q j q1 q2 => ?_, fun q j q1 q2 => ?_⟩
      · rw [g4.2.2.1 q j q1 q2, hs1, sI_o (by omega), sI_o (by omega)]
      · rw [g4.2.2.2 q j q1 q2, ht1, sI_o (by omega), sI_o (by omega)]
theorem r_type (h : RR σ τ) (v : Int64) (a : Int32) : BI (f5_type v a σ) (f6_type v a τ) := by
  have h' := h
  obtain ⟨⟨n, np, F, Pw, U, od, un, ci, kp, h1, h2⟩, ⟨tn, tb, h3⟩, ⟨en, d1, d2, d3, h4⟩, h5, h6⟩ := h
  have t0 := h3.1.1
  unfold f5_type f6_type
  rw [f6_in_b, bd_e, ib0]
  rcases i_cases a with g | ⟨k, hk, rfl⟩
  · have q1 : a < 1 := by
      rw [Int32.lt_iff_toInt_lt] at g ⊢
      have z0 : (0 : Int32).toInt = 0 := by decide
      have z1 : (1 : Int32).toInt = 1 := by decide
      omega
    rw [if_pos q1, decide_eq_false (fun q => Int32.not_lt.mpr q.1 q1)]
    exact ⟨-1, σ, τ, rfl, rfl, h'⟩
  · by_cases g1 : 1 ≤ k ∧ k ≤ 8
    · rw [show decide ((1 : Int32) ≤ nI k ∧ nI k ≤ 8) = true from decide_eq_true ⟨by rw [l1, c_le (by omega) (by omega)]; omega, by rw [l8, c_le (by omega) (by omega)]; omega⟩]
      unfold f2_append
      have n1 : ¬ nI k < 1 := by rw [l1, c_lt (by omega) (by omega)]; omega
      have n2 : nI k ≤ 8 := by rw [l8, c_le (by omega) (by omega)]; omega
      simp only [if_neg n1, if_pos n2, cond_true, h3.2.1.1, h3.2.2.1, c_add, lt_e]
      have z : (nI (tn + k) ≤ 400) = (tn + k ≤ 400) := c_le (b := 400) (by omega) (by omega)
      simp only [z]
      by_cases g2 : tn + k ≤ 400
      · rw [if_pos g2, if_pos g2]
        obtain ⟨σ', τ', tb', q1, q2, q3, q4⟩ := type_loop v k FU FU tn tb σ τ (by omega) g2 (by unfold FU; omega) (by unfold FU; omega) h3
        rw [q1, q2]
        simp only [bk1_e, bk2_e]
        rw [if_neg (by decide), q3.2.1.1, q3.2.2.1]
        refine ⟨_, σ', τ', rfl, rfl, ⟨⟨n, np, F, Pw, U, od, un, ci, kp, ?_, ?_⟩, ⟨_, tb', q3⟩, ⟨en, d1, d2, d3, ?_⟩, ?_, ?_⟩⟩
        · exact h1.keep (by rw [q4.1]) (fun k j hk => q4.2.2.1 _ _ (by omega) (by omega)) (fun k j hk => q4.2.2.2 _ _ (by omega) (by omega))
        · exact h2.keep (fun k j hk => q4.2.2.1 _ _ (by omega) (by omega)) (fun k j hk => q4.2.2.2 _ _ (by omega) (by omega))
        · exact h4.keep (fun k j hk => q4.2.2.1 _ _ (by omega) (by omega)) (q4.2.2.2 _ _ (by omega) (by omega)) (fun k j hk => q4.2.2.2 _ _ (by omega) (by omega))
        · rw [q4.1, q4.2.1]; exact h5
        · unfold XF at h6 ⊢; rw [q4.1]; exact h6
      · rw [if_neg g2, if_neg g2, bk2_e, if_pos rfl]
        exact ⟨-3, σ, τ, rfl, rfl, h'⟩
    · rw [show decide ((1 : Int32) ≤ nI k ∧ nI k ≤ 8) = false from decide_eq_false (fun q => by
        have q1 := q.1; have q2 := q.2
        rw [l1, c_le (by omega) (by omega)] at q1
        rw [l8, c_le (by omega) (by omega)] at q2
        exact g1 ⟨q1, q2⟩)]
      refine ⟨-1, σ, τ, ?_, rfl, h'⟩
      by_cases g2 : nI k < 1
      · rw [if_pos g2]
      · rw [if_neg g2, if_neg]
        intro q
        rw [l8, c_le (by omega) (by omega)] at q
        rw [l1, c_lt (by omega) (by omega)] at g2
        omega
end S
