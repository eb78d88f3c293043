/-! falls -/
theorem sd_sym (x y : Nat) : sd x y = sd y x := by unfold sd; split <;> split <;> omega
def hit (F : Nat → Nat → Nat) (s b c : Nat) : Bool := decide (F 0 c < F 0 b) && decide (sdA F c b ≤ 1) && !s.testBit c
abbrev H3 : Type := Int32 × Int32 × Int32
def stp (st : H3) (h : Int32) : H3 := (h, (st.2.1 + (st.1 - h)) / 2, st.2.2 + (st.2.1 + (st.1 - h)) / 2)
def CF (F : Nat → Nat → Nat) (od : Nat → Nat) (P : Nat → Bool) (st : H3) : Nat → H3
  | 0 => st
  | i + 1 => if P (od i) then stp (CF F od P st i) (nI (F 0 (od i))) else CF F od P st i
def bef (F : Nat → Nat → Nat) (x h c : Nat) : Prop := h < F 0 x ∨ (F 0 x = h ∧ x < c)
def pref (n : Nat) (F : Nat → Nat → Nat) (od : Nat → Nat) (j h c : Nat) : Prop := j ≤ n ∧ ∀ i, i < n → (i < j ↔ bef F (od i) h c)
theorem nI_or (a b : Nat) : nI a ||| nI b = nI (a ||| b) := by
  apply Int32.toBitVec_inj.mp
  show BitVec.ofNat 32 a ||| BitVec.ofNat 32 b = BitVec.ofNat 32 (a ||| b)
  apply BitVec.eq_of_getLsbD_eq
  intro i hi
  simp [hi]
theorem nI_andnot {a s : Nat} (ha : a < 4096) : nI a &&& (nI s ^^^ -1) = nI (a &&& (s ^^^ 4095)) := by
  apply Int32.toBitVec_inj.mp
  show BitVec.ofNat 32 a &&& (BitVec.ofNat 32 s ^^^ BitVec.ofNat 32 4294967295) = BitVec.ofNat 32 (a &&& (s ^^^ 4095))
  have k1 : ∀ i, i < 32 → (4294967295 : Nat).testBit i = true := by decide
  have k2 : ∀ i, i < 12 → (4095 : Nat).testBit i = true := by decide
  apply BitVec.eq_of_getLsbD_eq
  intro i hi
  simp only [BitVec.getLsbD_and, BitVec.getLsbD_xor, BitVec.getLsbD_ofNat, hi, decide_true, Bool.true_and, Nat.testBit_and, Nat.testBit_xor, k1 i hi]
  by_cases h : i < 12
  · rw [k2 i h]
  · have : a.testBit i = false := Nat.testBit_lt_two_pow (Nat.lt_of_lt_of_le ha (by have := Nat.pow_le_pow_right (n := 2) (by omega) (show 12 ≤ i by omega); omega))
    simp [this]
theorem tb_out {m n k : Nat} (h : m < 2 ^ n) (hk : n ≤ k) : m.testBit k = false := Nat.testBit_lt_two_pow (Nat.lt_of_lt_of_le h (Nat.pow_le_pow_right (by omega) hk))
theorem pref_ex {n : Nat} {P : Nat → Prop} (hP : ∀ i j, i < j → j < n → P j → P i) : ∃ j, j ≤ n ∧ ∀ i, i < n → (i < j ↔ P i) := by
  classical
  induction n with
  | zero => exact ⟨0, Nat.le_refl _, fun i hi => absurd hi (by omega)⟩
  | succ n ih =>
    by_cases h : P n
    · refine ⟨n + 1, Nat.le_refl _, fun i hi => ⟨fun _ => ?_, fun _ => hi⟩⟩
      by_cases e : i = n
      · subst e; exact h
      · exact hP i n (by omega) (by omega) h
    · obtain ⟨j, h1, h2⟩ := ih (fun i j hij hj q => hP i j hij (by omega) q)
      refine ⟨j, by omega, fun i hi => ?_⟩
      by_cases e : i = n
      · subst e; exact ⟨fun q => absurd q (by omega), fun q => absurd q h⟩
      · exact h2 i (by omega)
section S
variable {σ τ : SS} {n np : Nat} {F Pw : Nat → Nat → Nat} {U od un : Nat → Nat}
theorem x_downward (hn : n ≤ 12) (h : XO σ n od un) {i : Nat} (hi : i < n) : f4_downward (σ.2.2 0) (nI i) σ = some (nI (od i)) := by
  have hin : inb (nI i) 12 := by rw [c_inb (by omega)]; omega
  unfold f4_downward
  rw [lt_e, if_neg (nI_pos (by omega)), if_pos (by rw [l12, c_lt (by omega) (by omega)]; omega), gd_t hin, c_tn (by omega)]
  rw [show σ.1 (wB (σ.2.2 0) + 12) i = nI (od i) from h.1 i hi]
theorem x_below (hn : n ≤ 12) (h : XO σ n od un) {i : Nat} (hi : i < n) : f4_below (σ.2.2 0) (nI i) σ = some (nI (un i)) := by
  have hin : inb (nI i) 12 := by rw [c_inb (by omega)]; omega
  unfold f4_below
  rw [lt_e, if_neg (nI_pos (by omega)), if_pos (by rw [l12, c_lt (by omega) (by omega)]; omega), gd_t hin, c_tn (by omega)]
  rw [show σ.1 (wB (σ.2.2 0) + 13) i = nI (un i) from h.2 i hi]
theorem x_harmL (hR : TR n np F Pw) (hx : XT σ n np F Pw) (hO : OR n F od un) (ho : XO σ n od un) {M : Nat} (hM : M < 4096) {P : Nat → Bool} (hP : ∀ k, k < n → M.testBit k = P k) (st : H3) : ∀ (d i fuel : Nat), i + d = n → d < fuel → L5_harm_33 (nI M) σ fuel (CF F od P st i).1 (CF F od P st i).2.1 (CF F od P st i).2.2 (nI i) = some (CF F od P st n) := by
  have r0 := hR.1
  intro d
  induction d with
  | zero =>
    intro i fuel h1 h2
    obtain ⟨f, rfl⟩ : ∃ q, fuel = q + 1 := ⟨fuel - 1, by omega⟩
    rw [L5_harm_33, show σ.1 (wB (σ.2.2 0)) 0 = nI n from hx.1, if_neg (by rw [c_lt (by omega) (by omega)]; omega), show i = n by omega]
  | succ d ih =>
    intro i fuel h1 h2
    obtain ⟨f, rfl⟩ : ∃ q, fuel = q + 1 := ⟨fuel - 1, by omega⟩
    have ho1 := hO.1 i (by omega)
    have k := ih (i + 1) f (by omega) (by omega)
    rw [L5_harm_33, show σ.1 (wB (σ.2.2 0)) 0 = nI n from hx.1, if_pos (by rw [c_lt (by omega) (by omega)]; omega), x_downward r0 ho (by omega), bd_e, x_has (by omega) (by omega), bd_e, ib0, hP _ ho1, show f4_feature (σ.2.2 0) (nI (od i)) 0 σ = some (nI (F 0 (od i))) from x_feature hR hx (w := 0) (by omega) ho1]
    simp only [bd_e, lt_e, nI_1]
    rw [CF] at k
    cases hp : P (od i) with
    | true =>
      rw [hp] at k
      simp only [if_true, cond_true] at k ⊢
      exact k
    | false =>
      rw [hp] at k
      simp only [cond_false] at k ⊢
      exact k
theorem x_harm (hR : TR n np F Pw) (hx : XT σ n np F Pw) (hU : UR U) (hu : XU σ U) (hO : OR n F od un) (ho : XO σ n od un) {b s : Nat} (hb : b < n) : f5_harm (nI b) (nI s) σ = some ((CF F od (hit F s b) (nI (F 0 b), 0, 0) n).2.2 + ((CF F od (hit F s b) (nI (F 0 b), 0, 0) n).2.1 + (CF F od (hit F s b) (nI (F 0 b), 0, 0) n).1) * nI (U 4)) := by
  have r0 := hR.1
  have hu2 := hO.2.2.2 b hb
  have hun : un b < 4096 := Nat.lt_of_lt_of_le hu2.1 (pow12 r0)
  have hM : un b &&& (s ^^^ 4095) < 4096 := Nat.lt_of_le_of_lt Nat.and_le_left hun
  have hP : ∀ k, k < n → (un b &&& (s ^^^ 4095)).testBit k = hit F s b k := by
    intro k hk
    have k2 : ∀ i, i < 12 → (4095 : Nat).testBit i = true := by decide
    have e := hu2.2 k hk
    rw [Nat.testBit_and, Nat.testBit_xor, k2 k (by omega), Bool.xor_true]
    unfold hit
    congr 1
    cases q : (un b).testBit k with
    | true =>
      have := e.mp q
      simp [this.1, this.2]
    | false =>
      rw [q] at e
      by_cases g1 : F 0 k < F 0 b
      · by_cases g2 : sdA F k b ≤ 1
        · exact absurd (e.mpr ⟨g1, g2⟩) (by simp)
        · simp [g2]
      · simp [g1]
  have L := x_harmL hR hx hO ho hM hP (nI (F 0 b), 0, 0) n 0 FU (by omega) (by unfold FU; omega)
  rw [CF] at L
  unfold f5_harm
  rw [x_below r0 ho hb, bd_e, lt_e, nI_andnot hun, show f4_feature (σ.2.2 0) (nI b) 0 σ = some (nI (F 0 b)) from x_feature hR hx (w := 0) (by omega) hb, bd_e, show (0 : Int32) = nI 0 from rfl]
  rw [show L5_harm_33 (nI (un b &&& (s ^^^ 4095))) σ FU (nI (F 0 b)) (nI 0) (nI 0) (nI 0) = some (CF F od (hit F s b) (nI (F 0 b), 0, 0) n) from L]
  show bk3 (some ((CF F od (hit F s b) (nI (F 0 b), 0, 0) n).1, (CF F od (hit F s b) (nI (F 0 b), 0, 0) n).2.1, (CF F od (hit F s b) (nI (F 0 b), 0, 0) n).2.2)) _ = _
  rw [bk3_e, show f5_tuned 4 σ = some (nI (U 4)) from x_tuned hu (i := 4) (by omega)]
  rfl
/-- only the struck set changed -/
def BH (τ : SS) (m : Nat) (t : SS) : Prop := t.2 = τ.2 ∧ t.1 0 23 = nI m ∧ ∀ k j, (k ≠ 0 ∨ j ≠ 23) → t.1 k j = τ.1 k j
theorem BH.mt {m : Nat} {t : SS} (h : MT τ n np F Pw) (q : BH τ m t) : MT t n np F Pw := ⟨by rw [q.2.2 _ _ (by omega)]; exact h.1, by rw [q.2.2 _ _ (by omega)]; exact h.2.1, fun w k hw hk => by rw [q.2.2 _ _ (by omega)]; exact h.2.2.1 w k hw hk, fun w k hw hk => by rw [q.2.2 _ _ (by omega)]; exact h.2.2.2 w k hw hk⟩
theorem m_harmI (hR : TR n np F Pw) (hm : MT τ n np F Pw) (hO : OR n F od un) {b s h : Nat} (hb : b < n) (hs : s < 4096) (hsw : τ.1 7 0 = nI s) (hh : h < F 0 b) (st : H3) : ∀ (d c fuel j m : Nat) (t : SS), c + d = n → d < fuel → BH τ m t → m < 2 ^ n → pref n F od j h c → (∀ k, k < n → (m.testBit k = true ↔ (bef F k h c ∧ hit F s b k = true))) → ∃ j' m' t', L6_harmFrom_30 (nI b) (nI h) fuel (CF F od (hit F s b) st j).1 (CF F od (hit F s b) st j).2.1 (CF F od (hit F s b) st j).2.2 (nI c) t = some ((CF F od (hit F s b) st j').1, (CF F od (hit F s b) st j').2.1, (CF F od (hit F s b) st j').2.2, t') ∧ BH τ m' t' ∧ m' < 2 ^ n ∧ pref n F od j' h n ∧ ∀ k, k < n → (m'.testBit k = true ↔ (bef F k h n ∧ hit F s b k = true)) := by
  have r0 := hR.1
  intro d
  induction d with
  | zero =>
    intro c fuel j m t h1 h2 hB hm1 hp hk
    obtain ⟨f, rfl⟩ : ∃ q, fuel = q + 1 := ⟨fuel - 1, by omega⟩
    have ht := hB.mt hm
    have e : c = n := by omega
    subst e
    refine ⟨j, m, t, ?_, hB, hm1, hp, hk⟩
    rw [L6_harmFrom_30, gd_t (iz 2 (by omega)), tz0, ht.1, if_neg (by rw [c_lt (by omega) (by omega)]; omega)]
  | succ d ih =>
    intro c fuel j m t h1 h2 hB hm1 hp hk
    obtain ⟨f, rfl⟩ : ∃ q, fuel = q + 1 := ⟨fuel - 1, by omega⟩
    have ht := hB.mt hm
    have hc : c < n := by omega
    have rb := hR.2.2.1 b hb
    have rc := hR.2.2.1 c hc
    have hsw' : t.1 7 0 = nI s := by rw [hB.2.2 _ _ (by omega)]; exact hsw
    have q1 : (nI (F 0 c) = nI h) = (F 0 c = h) := c_eq (by omega) (by omega)
    have ap := m_apart hR ht (Or.inl hb : pl n b) (Or.inl hc : pl n c)
    rw [if_neg (by omega)] at ap
    have q2 : (nI (sdA F b c) ≤ 1) = (sdA F c b ≤ 1) := by
      have := sd_le (F 1 b) (F 1 c)
      rw [l1, c_le (by rw [sdA_sd]; omega) (by omega), sdA_sd, sdA_sd, sd_sym]
    rw [L6_harmFrom_30, gd_t (iz 2 (by omega)), tz0, ht.1, if_pos (by rw [c_lt (by omega) (by omega)]; omega), show f6_of (nI c) 0 t = some (nI (F 0 c)) from m_of hR ht (w := 0) (by omega) hc, m_isSawn hs hsw' (by omega), ap]
    simp only [bd_e, lt_e, ib0, q1, q2, nI_1]
    have keep : F 0 c ≠ h → ∀ x, x < n → (bef F x h (c + 1) ↔ bef F x h c) := by
      intro g x hx
      unfold bef
      constructor
      · rintro (q | ⟨q, q'⟩)
        · exact Or.inl q
        · refine Or.inr ⟨q, ?_⟩
          by_cases e : x = c
          · subst e; exact absurd q g
          · omega
      · rintro (q | ⟨q, q'⟩)
        · exact Or.inl q
        · exact Or.inr ⟨q, by omega⟩
    by_cases g : F 0 c = h
    · rw [if_pos g]
      -- c is the next one in the class's order
      obtain ⟨i, hi, hic⟩ := hO.2.2.1 c hc
      have nb : ¬ bef F c h c := by unfold bef; omega
      have hji : j ≤ i := by
        have := (hp.2 i hi)
        rw [hic] at this
        exact Nat.not_lt.mp (fun q => nb (this.mp q))
      have hij : i = j := by
        by_cases e : j < i
        · have o := hO.2.1 j i e hi
          rw [hic] at o
          have : bef F (od j) h c := by
            unfold bef
            rcases o with o | ⟨o1, o2⟩
            · exact Or.inl (by omega)
            · exact Or.inr ⟨by omega, o2⟩
          exact absurd ((hp.2 j (by omega)).mpr this) (by omega)
        · omega
      subst hij
      have hp' : pref n F od (i + 1) h (c + 1) := by
        refine ⟨by omega, fun x hx => ?_⟩
        have px := hp.2 x hx
        constructor
        · intro q
          by_cases e : x = i
          · subst e; rw [hic]; exact Or.inr ⟨g, by omega⟩
          · rcases px.mp (by omega) with q | ⟨q, q'⟩
            · exact Or.inl q
            · exact Or.inr ⟨q, by omega⟩
        · rintro (q | ⟨q, q'⟩)
          · have := px.mpr (Or.inl q); omega
          · by_cases e : od x = c
            · -- od is injective
              by_cases e2 : x = i
              · omega
              · rcases Nat.lt_or_gt_of_ne e2 with l | l
                · omega
                · have o := hO.2.1 i x l hx
                  rw [hic, e] at o
                  omega
            · have := px.mpr (Or.inr ⟨q, by omega⟩); omega
      have hitc : hit F s b c = (decide (sdA F c b ≤ 1) && !s.testBit c) := by
        unfold hit
        rw [decide_eq_true (show F 0 c < F 0 b by omega), Bool.true_and]
      have sw : sawB s c = s.testBit c := by unfold sawB; rw [decide_eq_true (show c ≠ 12 by omega), Bool.true_and]
      rw [sw]
      have noH : hit F s b c = false → ∀ k, k < n → (m.testBit k = true ↔ (bef F k h (c + 1) ∧ hit F s b k = true)) := by
        intro z k hkn
        rw [hk k hkn]
        constructor
        · rintro ⟨a1, a2⟩
          refine ⟨?_, a2⟩
          rcases a1 with a1 | ⟨a1, a3⟩
          · exact Or.inl a1
          · exact Or.inr ⟨a1, by omega⟩
        · rintro ⟨a1, a2⟩
          refine ⟨?_, a2⟩
          rcases a1 with a1 | ⟨a1, a3⟩
          · exact Or.inl a1
          · refine Or.inr ⟨a1, ?_⟩
            by_cases e : k = c
            · subst e; rw [z] at a2; exact absurd a2 (by simp)
            · omega
      cases hb1 : s.testBit c with
      | true =>
        simp only [cond_true]
        have z : hit F s b c = false := by rw [hitc, hb1]; simp
        have k := ih (c + 1) f (i + 1) m t (by omega) (by omega) hB hm1 hp' (noH z)
        rw [CF, hic, z] at k
        exact k
      | false =>
        simp only [cond_false]
        by_cases g2 : sdA F c b ≤ 1
        · rw [if_pos g2]
          have z : hit F s b c = true := by rw [hitc, hb1, decide_eq_true g2]; rfl
          obtain ⟨t2, ht2⟩ : ∃ t2, t2 = sI t 0 23 (nI (m ||| 2 ^ c)) := ⟨_, rfl⟩
          have hB2 : BH τ (m ||| 2 ^ c) t2 := by
            subst ht2
            exact ⟨hB.1, sI_s, fun k j hkj => by rw [sI_o hkj]; exact hB.2.2 k j hkj⟩
          have hm2 : m ||| 2 ^ c < 2 ^ n := Nat.or_lt_two_pow hm1 (Nat.pow_lt_pow_right (by omega) hc)
          have hk2 : ∀ k, k < n → ((m ||| 2 ^ c).testBit k = true ↔ (bef F k h (c + 1) ∧ hit F s b k = true)) := by
            intro k hkn
            rw [Nat.testBit_or, Nat.testBit_two_pow, Bool.or_eq_true, hk k hkn]
            constructor
            · rintro (⟨a1, a2⟩ | a)
              · refine ⟨?_, a2⟩
                rcases a1 with a1 | ⟨a1, a3⟩
                · exact Or.inl a1
                · exact Or.inr ⟨a1, by omega⟩
              · have e : c = k := of_decide_eq_true a
                subst e
                exact ⟨Or.inr ⟨g, by omega⟩, z⟩
            · rintro ⟨a1, a2⟩
              rcases a1 with a1 | ⟨a1, a3⟩
              · exact Or.inl ⟨Or.inl a1, a2⟩
              · by_cases e : k = c
                · exact Or.inr (decide_eq_true e.symm)
                · exact Or.inl ⟨Or.inr ⟨a1, by omega⟩, a2⟩
          have k := ih (c + 1) f (i + 1) (m ||| 2 ^ c) t2 (by omega) (by omega) hB2 hm2 hp' hk2
          rw [CF, hic, z, if_pos rfl] at k
          unfold stp at k
          rw [g] at k
          rw [hB.2.1, sh1 c (by omega), nI_or, ← ht2]
          exact k
        · rw [if_neg g2]
          have z : hit F s b c = false := by rw [hitc, decide_eq_false g2]; rfl
          have k := ih (c + 1) f (i + 1) m t (by omega) (by omega) hB hm1 hp' (noH z)
          rw [CF, hic, z] at k
          exact k
    · rw [if_neg g]
      refine ih (c + 1) f j m t (by omega) (by omega) hB hm1 ⟨hp.1, fun x hx => ?_⟩ (fun k hkn => ?_)
      · rw [hp.2 x hx, keep g _ (hO.1 x hx)]
      · rw [hk k hkn, keep g k hkn]
theorem m_harmO (hR : TR n np F Pw) (hm : MT τ n np F Pw) (hO : OR n F od un) {b s : Nat} (hb : b < n) (hs : s < 4096) (hsw : τ.1 7 0 = nI s) (st : H3) : ∀ (h fuel j m : Nat) (t : SS), h < fuel → h < F 0 b → BH τ m t → m < 2 ^ n → pref n F od j h 0 → (∀ k, k < n → (m.testBit k = true ↔ (bef F k h 0 ∧ hit F s b k = true))) → ∃ m' t', L6_harmFrom_22 (nI b) fuel (CF F od (hit F s b) st j).1 (CF F od (hit F s b) st j).2.1 (CF F od (hit F s b) st j).2.2 (nI h) t = some ((CF F od (hit F s b) st n).1, (CF F od (hit F s b) st n).2.1, (CF F od (hit F s b) st n).2.2, t') ∧ BH τ m' t' ∧ m' < 2 ^ n ∧ ∀ k, k < n → (m'.testBit k = true ↔ hit F s b k = true) := by
  have r0 := hR.1
  have rb := hR.2.2.1 b hb
  intro h
  induction h with
  | zero =>
    intro fuel j m t h1 h2 hB hm1 hp hk
    obtain ⟨f, rfl⟩ : ∃ q, fuel = q + 1 := ⟨fuel - 1, by omega⟩
    have b0 : ∀ x, x < n → bef F x 0 0 := fun x hx => Or.inl (by have := hR.2.2.1 x hx; omega)
    have jn : j = n := by
      by_cases e : j < n
      · exact absurd ((hp.2 j e).mpr (b0 _ (hO.1 j e))) (by omega)
      · have := hp.1; omega
    subst jn
    refine ⟨m, t, ?_, hB, hm1, fun k hkn => ?_⟩
    · rw [L6_harmFrom_22, if_pos (by decide)]
    · rw [hk k hkn]
      exact ⟨fun q => q.2, fun q => ⟨b0 k hkn, q⟩⟩
  | succ h ih =>
    intro fuel j m t h1 h2 hB hm1 hp hk
    obtain ⟨f, rfl⟩ : ∃ q, fuel = q + 1 := ⟨fuel - 1, by omega⟩
    obtain ⟨j', m', t', a1, a2, a3, a4, a5⟩ := m_harmI hR hm hO hb hs hsw h2 st n 0 FU j m t (by omega) (by unfold FU; omega) hB hm1 hp hk
    have same : ∀ x, x < n → (bef F x (h + 1) n ↔ bef F x h 0) := by
      intro x hx
      unfold bef
      omega
    have k := ih f j' m' t' (by omega) (by omega) a2 a3 ⟨a4.1, fun x hx => by rw [a4.2 x hx, same _ (hO.1 x hx)]⟩ (fun k hkn => by rw [a5 k hkn, same k hkn])
    rw [L6_harmFrom_22, if_neg (by rw [l0, c_le (by omega) (by omega)]; omega), show (0 : Int32) = nI 0 from rfl, a1]
    simp only [bk4_e, lt_e]
    rw [show nI (h + 1) + (-1) = nI h from pk_m1 h]
    exact k
theorem m_harm (hR : TR n np F Pw) (hm : MT τ n np F Pw) (hU : UR U) (hu : MU τ U) (hO : OR n F od un) {b s : Nat} (hb : b < n) (hs : s < 4096) (hsw : τ.1 7 0 = nI s) : ∃ m t, f6_harmFrom (nI b) τ = some ((CF F od (hit F s b) (nI (F 0 b), 0, 0) n).2.2 + ((CF F od (hit F s b) (nI (F 0 b), 0, 0) n).2.1 + (CF F od (hit F s b) (nI (F 0 b), 0, 0) n).1) * nI (U 4), t) ∧ BH τ m t ∧ m < 2 ^ n ∧ ∀ k, k < n → (m.testBit k = true ↔ hit F s b k = true) := by
  have r0 := hR.1
  have rb := hR.2.2.1 b hb
  obtain ⟨t0, ht0⟩ : ∃ t0, t0 = sI τ 0 23 0 := ⟨_, rfl⟩
  have hB0 : BH τ 0 t0 := by subst ht0; exact ⟨rfl, sI_s, fun k j hkj => sI_o hkj⟩
  obtain ⟨j, hj, hp⟩ := pref_ex (n := n) (P := fun i => bef F (od i) (F 0 b - 1) 0) (by
    intro i j hij hj q
    have o := hO.2.1 i j hij hj
    unfold bef at q ⊢
    omega)
  have hst : ∀ i, i ≤ j → CF F od (hit F s b) (nI (F 0 b), 0, 0) i = (nI (F 0 b), 0, 0) := by
    intro i
    induction i with
    | zero => intro _; rfl
    | succ i ih =>
      intro hi
      have q := (hp i (by omega)).mp (by omega)
      have z : hit F s b (od i) = false := by
        unfold hit
        unfold bef at q
        rw [decide_eq_false (show ¬ F 0 (od i) < F 0 b by omega)]
        rfl
      rw [CF, z]
      exact ih (by omega)
  obtain ⟨m, t, a1, a2, a3, a4⟩ := m_harmO hR hm hO hb hs hsw (nI (F 0 b), 0, 0) (F 0 b - 1) FU j 0 t0 (by unfold FU; omega) (by omega) hB0 (Nat.two_pow_pos n) ⟨hj, hp⟩ (by
    intro k hkn
    rw [Nat.zero_testBit]
    constructor
    · intro q; cases q
    · rintro ⟨q1, q2⟩
      unfold bef at q1
      unfold hit at q2
      simp at q2
      omega)
  refine ⟨m, t, ?_, a2, a3, a4⟩
  rw [hst j (Nat.le_refl _)] at a1
  unfold f6_harmFrom
  rw [show f6_of (nI b) 0 τ = some (nI (F 0 b)) from m_of hR hm (w := 0) (by omega) hb, bd_e, lt_e, lt_e, ← ht0, show nI (F 0 b) - 1 = nI (F 0 b - 1) from c_sub (b := 1) (by omega)]
  rw [show L6_harmFrom_22 (nI b) FU (nI (F 0 b)) 0 0 (nI (F 0 b - 1)) t0 = _ from a1, bk4_e, gd_t (iz4 6 (by omega)), tz4, a2.2.2 6 4 (by omega), hu 4 (by omega)]
end S
section OPS
variable {σ τ : SS}
theorem BH.ms {m : Nat} {t : SS} (q : BH τ m t) : MS τ t := ⟨by rw [q.1], fun k j h1 h2 => q.2.2 k j (by omega)⟩
theorem r_fall (h : RR σ τ) (a b : Int32) : BI (pI (f5_fall a b σ) σ) (f6_fall a b τ) := by
  have h' := h
  obtain ⟨⟨n, np, F, Pw, U, od, un, ci, kp, h1, h2⟩, -, -, -, hf⟩ := h
  obtain ⟨hR, hx, hm, hU, hux, hum, hO, hxo⟩ := h1
  obtain ⟨c1, c2, c3⟩ := h2.2.2 0 (Or.inl rfl)
  have r0 := hR.1
  have hs : (ci 0).2.2.2.2.2.2.2 < 4096 := Nat.lt_of_lt_of_le c1.2.2.2 (pow12 r0)
  have bad : ∀ v : Int32, BI (pI (some v) σ) (some (v, τ)) := fun v => ⟨v, σ, τ, rfl, rfl, h'⟩
  unfold f5_fall f6_fall
  rw [x_isBranch' hR hx, m_isBranch hR hm]
  simp only [bd_e, ib0]
  rcases ok_cases a (n := n) (by omega) with e | ⟨k, hk, rfl, e⟩
  · rw [e]; exact bad _
  · rw [e]
    simp only [cond_true, f6_in_b, bd_e, ib0]
    rw [show (17 + 0 : Nat) = 17 from rfl, show σ.1 17 7 = _ from c2.2.2.2.2.2.2.2, x_harm hR hx hU hux hO hxo hk, x_below r0 hxo hk]
    obtain ⟨m, t, a1, a2, a3, a4⟩ := m_harm hR hm hU hum hO hk hs c3.2.2.2.2.2.2.2
    rw [a1]
    simp only [bd_e, bk2_e]
    have hun : un k < 4096 := Nat.lt_of_lt_of_le (hO.2.2.2 k hk).1 (pow12 r0)
    rw [nI_andnot hun, a2.2.1]
    have em : un k &&& ((ci 0).2.2.2.2.2.2.2 ^^^ 4095) = m := by
      apply Nat.eq_of_testBit_eq
      intro i
      by_cases hi : i < n
      · have k2 : ∀ i, i < 12 → (4095 : Nat).testBit i = true := by decide
        have e1 := (hO.2.2.2 k hk).2 i hi
        have e2 := a4 i hi
        rw [Nat.testBit_and, Nat.testBit_xor, k2 i (by omega), Bool.xor_true]
        apply Bool.eq_iff_iff.mpr
        rw [e2, Bool.and_eq_true, e1]
        unfold hit
        simp
      · rw [tb_out a3 (by omega), Nat.testBit_and, tb_out (hO.2.2.2 k hk).1 (by omega)]
        rfl
    rw [em]
    rcases in_range (a := b) (hi := 1) (by omega) with ⟨e1, i, hi, rfl⟩ | ⟨e1, h0⟩
    · have e1' : decide ((0 : Int32) ≤ nI i ∧ nI i ≤ 1) = true := e1
      rw [e1', if_neg (nI_pos (by omega)), if_pos (by rw [l1, c_le (by omega) (by omega)]; omega)]
      have ei : i = 0 ∨ i = 1 := by omega
      rcases ei with rfl | rfl
      · exact ⟨_, σ, t, rfl, rfl, h'.scr (XS.rf hf) a2.ms⟩
      · exact ⟨_, σ, t, rfl, rfl, h'.scr (XS.rf hf) a2.ms⟩
    · have e1' : decide ((0 : Int32) ≤ b ∧ b ≤ 1) = false := e1
      rw [e1']
      rcases h0 with g | ⟨j, k1, k2, rfl⟩
      · rw [if_pos g]; exact bad _
      · rw [if_neg (nI_pos (by omega)), if_neg (by rw [l1, c_le (by omega) (by omega)]; omega)]; exact bad _
end OPS
