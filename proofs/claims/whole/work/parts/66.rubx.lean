/-! the class: skips, ascents -/
theorem allf_iff {P : Nat → Bool} : ∀ d i, allf P i d = true ↔ ∀ j, i ≤ j → j < i + d → P j = true := by
  intro d
  induction d with
  | zero => intro i; exact ⟨fun _ j h1 h2 => by omega, fun _ => rfl⟩
  | succ d ih =>
    intro i
    rw [allf, Bool.and_eq_true, ih]
    constructor
    · rintro ⟨h1, h2⟩ j h3 h4
      by_cases e : j = i
      · subst e; exact h1
      · exact h2 j (by omega) (by omega)
    · intro h
      exact ⟨h i (by omega) (by omega), fun j h1 h2 => h j (by omega) (by omega)⟩
theorem any_all {P : Nat → Bool} {n : Nat} : anyb P n = !allf (fun j => !P j) 0 n := by
  apply Bool.eq_iff_iff.mpr
  rw [anyb_iff]
  cases q : allf (fun j => !P j) 0 n with
  | true =>
    have := (allf_iff n 0).mp q
    constructor
    · rintro ⟨s, h1, h2⟩
      have := this s (by omega) (by omega)
      simp [h2] at this
    · intro h; cases h
  | false =>
    refine ⟨fun _ => rfl, fun _ => ?_⟩
    apply Classical.byContradiction
    intro hn
    have : allf (fun j => !P j) 0 n = true := (allf_iff n 0).mpr (fun j h1 h2 => by
      cases z : P j
      · rfl
      · exact absurd ⟨j, by omega, z⟩ hn)
    rw [this] at q; cases q
def hTop (F : Nat → Nat → Nat) (c : Nat) : Nat := if c = 12 then 99 else F 0 c
def skT (n : Nat) (F : Nat → Nat → Nat) (set a c : Nat) : Bool := anyb (fun t => set.testBit t && decide (t ≠ a) && decide (t ≠ c) && decide (hF F a ≤ F 0 t) && decide (F 0 t ≤ hTop F c)) n
theorem anyb_cg {P Q : Nat → Bool} : ∀ m, (∀ i, i < m → P i = Q i) → anyb P m = anyb Q m := by
  intro m
  induction m with
  | zero => intro _; rfl
  | succ m ih => intro h; rw [anyb, anyb, ih (fun i hi => h i (by omega)), h m (by omega)]
theorem skT_B {n : Nat} {F : Nat → Nat → Nat} {set a b : Nat} (hn : n ≤ 12) (hb : b < n) : skT n F set a b = skB n (hF F) set a b := by
  unfold skT skB
  refine anyb_cg n (fun t ht => ?_)
  unfold skb hTop
  rw [if_neg (show ¬ b = 12 by omega), show hF F t = F 0 t by unfold hF; rw [if_neg (by omega)], show hF F b = F 0 b by unfold hF; rw [if_neg (by omega)]]
section S
variable {σ s : SS} {n np : Nat} {F Pw : Nat → Nat → Nat} {U od un : Nat → Nat} {M : Nat → Nat → Bool} {H : Nat → Nat} {w : Bool}
theorem pl_ne {i a : Nat} (hi : i < 12) (ha : a ≤ 12) : (nI i = plI a) = (i = a) := by
  by_cases e : a = 12
  · rw [e, plI_12, c_n1 (by omega)]
    exact propext ⟨False.elim, fun q => by omega⟩
  · rw [plI_lt (by omega), c_eq (by omega) (by omega)]
theorem x_skipsL (hR : TR n np F Pw) (hx : XT s n np F Pw) (hw : s.2.2 0 = w) {set a c : Nat} (hs : set < 4096) (ha : pl n a) (hc : c ≤ 12) (hct : hTop F c ≤ 99) : ∀ (d i fuel : Nat), i + d = n → d < fuel → L3_skips_30 w (plI a) (nI c) (nI set) (nI (hF F a)) (nI (hTop F c)) s fuel (nI i) = some (if allf (fun t => !(set.testBit t && decide (t ≠ a) && decide (t ≠ c) && decide (hF F a ≤ F 0 t) && decide (F 0 t ≤ hTop F c))) i d = true then .inl () else .inr 1) := by
  subst hw
  have r0 := hR.1
  have hla := hF_le hR ha
  have a12 : a ≤ 12 := by rcases ha with h | h <;> omega
  intro d
  induction d with
  | zero =>
    intro i fuel h1 h2
    obtain ⟨f, rfl⟩ : ∃ q, fuel = q + 1 := ⟨fuel - 1, by omega⟩
    rw [L3_skips_30, show s.1 (wB (s.2.2 0)) 0 = nI n from hx.1, if_neg (by rw [c_lt (by omega) (by omega)]; omega)]
    rfl
  | succ d ih =>
    intro i fuel h1 h2
    obtain ⟨f, rfl⟩ : ∃ q, fuel = q + 1 := ⟨fuel - 1, by omega⟩
    have ri := hR.2.2.1 i (by omega)
    have k := ih (i + 1) f (by omega) (by omega)
    rw [L3_skips_30, show s.1 (wB (s.2.2 0)) 0 = nI n from hx.1, if_pos (by rw [c_lt (by omega) (by omega)]; omega), show f4_feature (s.2.2 0) (nI i) 0 s = some (nI (F 0 i)) from x_feature hR hx (w := 0) (by omega) (by omega), bd_e, x_has (by omega) (by omega), bd_e, ib0]
    simp only [lt_e, nI_1]
    rw [allf]
    cases q : set.testBit i with
    | false => simp only [cond_false, Bool.false_and, Bool.not_false, Bool.true_and]; exact k
    | true =>
      simp only [cond_true, Bool.true_and]
      by_cases g1 : i = a
      · rw [if_pos (by rw [pl_ne (by omega) a12]; exact g1), decide_eq_false (show ¬ i ≠ a by omega)]
        simp only [Bool.false_and, Bool.not_false, Bool.true_and]
        exact k
      · rw [if_neg (by rw [pl_ne (by omega) a12]; exact g1), decide_eq_true (show i ≠ a from g1)]
        by_cases g2 : i = c
        · rw [if_pos (by rw [g2]), decide_eq_false (show ¬ i ≠ c by omega)]
          simp only [Bool.false_and, Bool.and_false, Bool.not_false, Bool.true_and]
          exact k
        · rw [if_neg (by rw [c_eq (by omega) (by omega)]; exact g2), decide_eq_true (show i ≠ c from g2)]
          by_cases g3 : F 0 i < hF F a
          · rw [if_pos (by rw [c_lt (by omega) (by omega)]; exact g3), decide_eq_false (show ¬ hF F a ≤ F 0 i by omega)]
            simp only [Bool.false_and, Bool.and_false, Bool.not_false, Bool.true_and]
            exact k
          · rw [if_neg (by rw [c_lt (by omega) (by omega)]; exact g3), decide_eq_true (show hF F a ≤ F 0 i by omega)]
            by_cases g4 : F 0 i ≤ hTop F c
            · rw [if_pos (by rw [c_le (by omega) (by omega)]; exact g4), decide_eq_true g4]
              rfl
            · rw [if_neg (by rw [c_le (by omega) (by omega)]; exact g4), decide_eq_false g4]
              simp only [Bool.and_false, Bool.not_false, Bool.true_and]
              exact k
theorem x_skips (hR : TR n np F Pw) (hx : XT s n np F Pw) (hw : s.2.2 0 = w) {set a c : Nat} (hs : set < 4096) (ha : pl n a) (hc : pl n c) : f3_skips w (plI a) (nI c) (nI set) s = some (bI (skT n F set a c)) := by
  have r0 := hR.1
  have c12 : c ≤ 12 := by rcases hc with h | h <;> omega
  have hct : hTop F c ≤ 99 := by
    unfold hTop
    rcases hc with h | h
    · have := hR.2.2.1 c h; rw [if_neg (by omega)]; omega
    · rw [if_pos h]; omega
  have L := x_skipsL hR hx hw hs ha c12 hct n 0 FU (by omega) (by unfold FU; omega)
  have L : L3_skips_30 w (plI a) (nI c) (nI set) (nI (hF F a)) (nI (hTop F c)) s FU 0 = _ := L
  have eT : ∀ J : Int32 → Option Int32, (if nI c = 12 then J 99 else bd (f4_feature w (nI c) 0 s) (fun x => J x)) = J (nI (hTop F c)) := by
    intro J
    unfold hTop
    by_cases e : c = 12
    · rw [if_pos (by rw [e]; rfl), if_pos e]; rfl
    · have hcn : c < n := by rcases hc with h | h <;> omega
      rw [if_neg (by rw [l12, c_eq (by omega) (by omega)]; exact e), if_neg e, ← hw, show f4_feature (s.2.2 0) (nI c) 0 s = some (nI (F 0 c)) from x_feature hR hx (w := 0) (by omega) hcn, bd_e]
  unfold f3_skips
  rw [show f4_feature w (plI a) 0 s = some (nI (hF F a)) from by rw [← hw]; exact x_featH hR hx ha, bd_e, lt_e, eT (fun x4 => bs1 (L3_skips_30 w (plI a) (nI c) (nI set) (nI (hF F a)) x4 s FU 0) (fun _u => some 0) (fun r => some r))]
  show bs1 (L3_skips_30 w (plI a) (nI c) (nI set) (nI (hF F a)) (nI (hTop F c)) s FU 0) (fun _u => some 0) (fun r => some r) = _
  unfold skT
  rw [L, any_all]
  cases allf (fun t => !(set.testBit t && decide (t ≠ a) && decide (t ≠ c) && decide (hF F a ≤ F 0 t) && decide (F 0 t ≤ hTop F c))) 0 n <;> rfl
theorem x_intoL (hR : TR n np F Pw) (hx : XT s n np F Pw) (hw : s.2.2 0 = w) {set to : Nat} (hs : set < 4096) (hto : to < n) {N T : Nat → Nat} (hl : XL s (NN n M) (TT n H)) {cc : Nat → Nat} (hc : ∀ i, i ≤ n → EC n (hF F) M set (pm i) to = true → s.2.1 9 i = lN (cc (pm i))) : ∀ (d i fuel : Nat), i + d = n + 1 → d < fuel → L3_ascentsInto_6 w (nI to) (nI set) s fuel (lN (su (fun i => if EC n (hF F) M set (pm i) to = true then cc (pm i) else 0) i)) (sl i) = some (lN (su (fun i => if EC n (hF F) M set (pm i) to = true then cc (pm i) else 0) (n + 1))) := by
  have r0 := hR.1
  intro d
  induction d with
  | zero =>
    intro i fuel h1 h2
    obtain ⟨f, rfl⟩ : ∃ q, fuel = q + 1 := ⟨fuel - 1, by omega⟩
    rw [L3_ascentsInto_6, ← hw, show s.1 (wB (s.2.2 0)) 0 = nI n from hx.1, if_neg (by rw [sl_lt r0 (by omega)]; omega), show i = n + 1 by omega]
  | succ d ih =>
    intro i fuel h1 h2
    obtain ⟨f, rfl⟩ : ∃ q, fuel = q + 1 := ⟨fuel - 1, by omega⟩
    have hin : inb (nI i) 13 := by rw [c_inb (by omega)]; omega
    have pi : pl n (pm i) := (pm_pl r0 (by omega)).mpr (by omega)
    have hpi := hF_le hR pi
    have rt := hR.2.2.1 to hto
    have k := ih (i + 1) f (by omega) (by omega)
    rw [su, sl_s] at k
    have hFt : hF F to = F 0 to := by unfold hF; rw [if_neg (by omega)]
    have Ni := NN_lt r0 M i
    have htb : (NN n M i).testBit (to + 1) = M (pm i) to := by
      rw [NN_tb, decide_eq_true (by omega), decide_eq_true (by omega), show pm (to + 1) = to by unfold pm; rw [if_neg (by omega)]; rfl]; rfl
    have skip : EC n (hF F) M set (pm i) to = false → L3_ascentsInto_6 w (nI to) (nI set) s f (lN (su (fun i => if EC n (hF F) M set (pm i) to = true then cc (pm i) else 0) i)) (nI i) = some (lN (su (fun i => if EC n (hF F) M set (pm i) to = true then cc (pm i) else 0) (n + 1))) := by
      intro z
      rw [z, if_neg (by simp), Nat.add_zero] at k
      exact k
    rw [L3_ascentsInto_6, show s.1 (wB w) 0 = nI n from by rw [← hw]; exact hx.1, if_pos (by rw [sl_lt r0 (by omega)]; omega)]
    simp only [sl_1]
    rw [if_pos (by rw [l13, c_lt (by omega) (by omega)]; omega), sl_pl (j := i) (by omega), show f4_feature w (plI (pm i)) 0 s = some (nI (hF F (pm i))) from by rw [← hw]; exact x_featH hR hx pi, bd_e, show f4_feature w (nI to) 0 s = some (nI (F 0 to)) from by rw [← hw]; exact x_feature hR hx (w := 0) (by omega) hto, bd_e]
    rw [show (nI to : Int32) + 1 = nI (to + 1) from nI_1 to]
    simp only [lt_e, gd_t hin, c_tn (show i < 2147483648 by omega), (hl i (by omega)).1]
    rw [x_has (by omega) (by omega), htb, x_skips hR hx hw hs pi (Or.inl hto), skT_B r0 hto]
    simp only [bd_e, ib0]
    by_cases g1 : hF F (pm i) < F 0 to
    · rw [if_pos (by rw [c_lt (by omega) (by omega)]; exact g1), if_neg (by decide)]
      cases q1 : M (pm i) to with
      | false => exact skip (by unfold EC; rw [q1]; simp)
      | true =>
        cases q2 : skB n (hF F) set (pm i) to with
        | true => exact skip (by unfold EC; rw [q2]; simp)
        | false =>
          have z : EC n (hF F) M set (pm i) to = true := by unfold EC; rw [q1, q2, hFt, decide_eq_true g1]; rfl
          simp only [cond_true, cond_false]
          rw [z, if_pos rfl] at k
          rw [hc i (by omega) z, lN_add]
          exact k
    · rw [if_neg (by rw [c_lt (by omega) (by omega)]; exact g1), if_true]
      exact skip (by unfold EC; rw [hFt, decide_eq_false g1]; simp)
theorem su_pm (hn : n ≤ 12) (f : Nat → Nat) : su (fun i => f (pm i)) (n + 1) = su (fun a => if a < n ∨ a = 12 then f a else 0) 13 := by
  have e1 : ∀ m, su (fun i => f (pm i)) (m + 1) = f 12 + su f m := by
    intro m
    induction m with
    | zero => show 0 + f (pm 0) = f 12 + 0; rw [show pm 0 = 12 from rfl]; omega
    | succ m ih => rw [su, ih, su, show pm (m + 1) = m by unfold pm; rw [if_neg (by omega)]; rfl]; omega
  have e2 : ∀ d, n + d ≤ 12 → su (fun a => if a < n ∨ a = 12 then f a else 0) (n + d) = su f n := by
    intro d
    induction d with
    | zero => intro _; exact su_cg n (fun i hi => by show (if i < n ∨ i = 12 then f i else 0) = f i; rw [if_pos (Or.inl hi)])
    | succ d ih =>
      intro hd
      rw [show n + (d + 1) = (n + d) + 1 by omega, su, ih (by omega)]
      show su f n + (if n + d < n ∨ n + d = 12 then f (n + d) else 0) = su f n
      rw [if_neg (by omega)]; omega
  have e3 := e2 (12 - n) (by omega)
  rw [show n + (12 - n) = 12 by omega] at e3
  rw [e1, su, e3, if_pos (Or.inr rfl)]
  omega
theorem x_into (hR : TR n np F Pw) (hx : XT s n np F Pw) (hw : s.2.2 0 = w) {set to : Nat} (hs : set < 4096) (hto : to < n) (hl : XL s (NN n M) (TT n H)) {cc : Nat → Nat} (hc : ∀ i, i ≤ n → EC n (hF F) M set (pm i) to = true → s.2.1 9 i = lN (cc (pm i))) : f3_ascentsInto w (nI to) (nI set) s = some (lN (su (fun a => if (a < n ∨ a = 12) ∧ EC n (hF F) M set a to = true then cc a else 0) 13)) := by
  have r0 := hR.1
  have L := x_intoL (N := fun _ => 0) (T := fun _ => 0) hR hx hw hs hto hl hc (n + 1) 0 FU (by omega) (by unfold FU; omega)
  have L : L3_ascentsInto_6 w (nI to) (nI set) s FU 0 (-1) = _ := L
  unfold f3_ascentsInto
  rw [L, bk1_e, su_pm r0 (fun a => if EC n (hF F) M set a to = true then cc a else 0)]
  congr 2
  refine su_cg 13 (fun a _ => ?_)
  show (if a < n ∨ a = 12 then (if EC n (hF F) M set a to = true then cc a else 0) else 0) = (if (a < n ∨ a = 12) ∧ EC n (hF F) M set a to = true then cc a else 0)
  by_cases p : a < n ∨ a = 12
  · by_cases q : EC n (hF F) M set a to = true
    · rw [if_pos p, if_pos q, if_pos ⟨p, q⟩]
    · rw [if_pos p, if_neg q, if_neg (fun z => q z.2)]
  · rw [if_neg p, if_neg (fun z => p z.1)]
theorem x_asc0 : ∀ (d i fuel : Nat) (s : SS) (c2 c3 : Int32), i + d = 13 → d < fuel → XS σ s → XL s (NN n M) (TT n H) → s.2.2 0 = w → (0 < i → s.2.1 9 0 = lN 1) → ∃ s', L3_ascents_16 w c2 c3 fuel (nI i) s = some s' ∧ XS σ s' ∧ XL s' (NN n M) (TT n H) ∧ s'.2.2 0 = w ∧ s'.2.1 9 0 = lN 1 := by
  intro d
  induction d with
  | zero =>
    intro i fuel s c2 c3 h1 h2 hq hl hw hz
    obtain ⟨f, rfl⟩ : ∃ q, fuel = q + 1 := ⟨fuel - 1, by omega⟩
    refine ⟨s, ?_, hq, hl, hw, hz (by omega)⟩
    rw [L3_ascents_16, if_neg (by rw [l13, c_lt (by omega) (by omega)]; omega)]
  | succ d ih =>
    intro i fuel s c2 c3 h1 h2 hq hl hw hz
    obtain ⟨f, rfl⟩ : ∃ q, fuel = q + 1 := ⟨fuel - 1, by omega⟩
    have hin : inb (nI i) 13 := by rw [c_inb (by omega)]; omega
    rw [L3_ascents_16, if_pos (by rw [l13, c_lt (by omega) (by omega)]; omega), lt_if]
    simp only [gd_t hin, lt_e, c_tn (show i < 2147483648 by omega), nI_1]
    refine ih (i + 1) f _ c2 c3 (by omega) (by omega) (hq.l' (by omega)) hl.l hw (fun _ => ?_)
    by_cases e : i = 0
    · subst e; rw [sL_s, if_pos (show nI 0 = 0 from rfl)]; rfl
    · rw [sL_o (by omega)]; exact hz (by omega)
theorem x_asc (hR : TR n np F Pw) (hx : XT σ n np F Pw) (hO : OR n F od un) (ho : XO σ n od un) {set : Nat} (hs : set < 4096) (c2 : Int32) : ∀ (i fuel : Nat) (s : SS), i ≤ n → i < fuel → XS σ s → XL s (NN n M) (TT n H) → s.2.2 0 = w → s.2.1 9 0 = lN (Wu n (EC n (hF F) M set) 12 12) → (∀ j, i ≤ j → j < n → s.2.1 9 (od j + 1) = lN (Wu n (EC n (hF F) M set) 12 (od j))) → ∃ s', L3_ascents_54 w c2 (nI set) fuel (nI i - 1) s = some s' ∧ XS σ s' ∧ ∀ b, b < n → s'.2.1 9 (b + 1) = lN (Wu n (EC n (hF F) M set) 12 b) := by
  have r0 := hR.1
  have hh : ∀ a, pl n a → hF F a ≤ 99 := fun a ha => hF_le hR ha
  intro i
  induction i with
  | zero =>
    intro fuel s h1 h2 hq hl hw h0 hz
    obtain ⟨f, rfl⟩ : ∃ q, fuel = q + 1 := ⟨fuel - 1, by omega⟩
    refine ⟨s, ?_, hq, fun b hb => ?_⟩
    · rw [L3_ascents_54, if_pos (by decide)]
    · obtain ⟨k, k1, k2⟩ := hO.2.2.1 b hb
      have := hz k (by omega) k1
      rw [k2] at this
      exact this
  | succ i ih =>
    intro fuel s h1 h2 hq hl hw h0 hz
    obtain ⟨f, rfl⟩ : ∃ q, fuel = q + 1 := ⟨fuel - 1, by omega⟩
    have oi := hO.1 i (by omega)
    have hin : inb (nI (od i + 1)) 13 := by rw [c_inb (by omega)]; omega
    have low : ∀ a, pl n a → hF F a < hF F (od i) → a = 12 ∨ ∃ j, i < j ∧ j < n ∧ od j = a := by
      intro a ha hl
      rcases ha with e | e
      · obtain ⟨k, k1, k2⟩ := hO.2.2.1 a e
        refine Or.inr ⟨k, ?_, k1, k2⟩
        have fa : hF F a = F 0 a := by unfold hF; rw [if_neg (by omega)]
        have fo : hF F (od i) = F 0 (od i) := by unfold hF; rw [if_neg (by omega)]
        rw [fa, fo] at hl
        rcases Nat.lt_trichotomy i k with z | z | z
        · exact z
        · rw [z, k2] at hl; omega
        · have := hO.2.1 k i z (by omega); rw [k2] at this; omega
      · exact Or.inl e
    have I := x_into (M := M) (H := H) (cc := Wu n (EC n (hF F) M set) 12) hR (hq.xt hx) hw hs oi hl (fun k hk hE => by
      rcases low (pm k) ((pm_pl r0 (by omega)).mpr hk) (EC_h hE) with e | ⟨j, j1, j2, j3⟩
      · have : k = 0 := by
          have := congrArg sm e
          rw [sm_pm (by omega)] at this
          exact this
        rw [e, this]; exact h0
      · have : k = od j + 1 := by
          have hj := hO.1 j j2
          have := congrArg sm j3
          rw [sm_pm (by omega)] at this
          rw [← this]; unfold sm; rw [if_neg (by omega)]
        rw [← j3, this]; exact hz j (by omega) j2)
    rw [L3_ascents_54, show nI (i + 1) - 1 = nI i from nI_pred i, if_neg (nI_pos (by omega)), show f4_downward w (nI i) s = some (nI (od i)) from by rw [← hw]; exact x_downward r0 (hq.xo ho) (by omega), bd_e, nI_1, x_isIn (by omega), bd_e, if_neg (by decide), I, bd_e, gd_t hin, c_tn (by omega), lt_e, lt_e]
    have ew : Wu n (EC n (hF F) M set) 12 (od i) = su (fun a => if (a < n ∨ a = 12) ∧ EC n (hF F) M set a (od i) = true then Wu n (EC n (hF F) M set) 12 a else 0) 13 := by
      rw [W_eq (h := hF F) (fun _ _ => EC_h) hh (Or.inl oi), if_neg (by omega)]
    rw [← ew]
    have k := ih f (sL s 9 (od i + 1) (lN (Wu n (EC n (hF F) M set) 12 (od i)))) (by omega) (by omega) (hq.l' (by omega)) hl.l hw (by rw [sL_o (by omega)]; exact h0) (fun j h1 h2 => by
      by_cases e : od j = od i
      · rw [e, sL_s]
      · rw [sL_o (by omega)]
        refine hz j ?_ h2
        by_cases e2 : j = i
        · rw [e2] at e; exact absurd rfl e
        · omega)
    rw [show nI i - 1 = nI i + -1 from by rw [Int32.sub_eq_add_neg]] at k
    exact k
theorem x_ascents (hR : TR n np F Pw) (hx : XT σ n np F Pw) (hO : OR n F od un) (ho : XO σ n od un) {set g : Nat} (hs : set < 4096) (hg : g < n) {s : SS} (hq : XS σ s) (hl : XL s (NN n M) (TT n H)) : ∃ s', f3_ascents (s.2.2 0) (nI g) (nI set) s = some (lN (if skT n F set g 12 = true then 0 else Wu n (EC n (hF F) M set) 12 g), s') ∧ XS σ s' := by
  have r0 := hR.1
  have K := x_skips hR (hq.xt hx) (w := s.2.2 0) rfl hs (Or.inl hg : pl n g) (Or.inr rfl : pl n 12)
  rw [plI_lt (by omega)] at K
  unfold f3_ascents
  rw [show f3_skips (s.2.2 0) (nI g) 12 (nI set) s = _ from K, bd_e, ib0]
  cases q : skT n F set g 12 with
  | true => exact ⟨s, rfl, hq⟩
  | false =>
    obtain ⟨s1, a1, a2, a3, a4, a5⟩ := x_asc0 (w := s.2.2 0) 13 0 FU s (nI g) (nI set) (by omega) (by unfold FU; omega) hq hl rfl (fun z => by omega)
    have a1 : L3_ascents_16 (s.2.2 0) (nI g) (nI set) FU 0 s = some s1 := a1
    obtain ⟨s2, b1, b2, b3⟩ := x_asc hR hx hO ho hs (nI g) (w := s.2.2 0) n FU s1 (by omega) (by unfold FU; omega) a2 a3 a4 (by rw [a5, W_ff]) (fun j h1 h2 => by omega)
    have hin : inb (nI (g + 1)) 13 := by rw [c_inb (by omega)]; omega
    simp only [cond_false]
    rw [a1, bk1_e, lt_e, show s1.1 (wB (s.2.2 0)) 0 = nI n from by rw [← a4]; exact (a2.xt hx).1, b1, bk1_e, nI_1, x_isIn (by omega), bd_e, if_neg (by decide), gd_t hin, c_tn (by omega), b3 g hg]
    exact ⟨s2, rfl, b2⟩
end S
