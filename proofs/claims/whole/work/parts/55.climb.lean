/-! the climb -/
section S
variable {σ τ : SS} {n np : Nat} {F Pw : Nat → Nat → Nat} {U od un : Nat → Nat}
theorem XT.i (h : XT σ n np F Pw) {k j : Nat} {v : Int32} (hk : k < 20) : XT (sI σ k j v) n np F Pw := by
  have hw := (wB_ge (σ.2.2 0)).1
  have hw : 20 ≤ wd σ := hw
  have e : wd (sI σ k j v) = wd σ := rfl
  exact ⟨by rw [e, sI_o (by omega)]; exact h.1, by rw [e, sI_o (by omega)]; exact h.2.1, fun w k hw hk => by rw [e, sI_o (by omega)]; exact h.2.2.1 w k hw hk, fun w k hw hk => by rw [e, sI_o (by omega)]; exact h.2.2.2 w k hw hk⟩
theorem XO.i (h : XO σ n od un) {k j : Nat} {v : Int32} (hk : k < 20) : XO (sI σ k j v) n od un := by
  have hw := (wB_ge (σ.2.2 0)).1
  have hw : 20 ≤ wd σ := hw
  have e : wd (sI σ k j v) = wd σ := rfl
  exact ⟨fun i hi => by rw [e, sI_o (by omega)]; exact h.1 i hi, fun i hi => by rw [e, sI_o (by omega)]; exact h.2 i hi⟩
theorem XU.i (h : XU σ U) {k j : Nat} {v : Int32} (hk : k ≠ 1) : XU (sI σ k j v) U := fun i hi => by rw [sI_o (by omega)]; exact h i hi
theorem MT.i (h : MT τ n np F Pw) {k j : Nat} {v : Int32} (hk : k < 2 ∨ 5 < k) : MT (sI τ k j v) n np F Pw := ⟨by rw [sI_o (by omega)]; exact h.1, by rw [sI_o (by omega)]; exact h.2.1, fun w k hw hk => by rw [sI_o (by omega)]; exact h.2.2.1 w k hw hk, fun w k hw hk => by rw [sI_o (by omega)]; exact h.2.2.2 w k hw hk⟩
theorem MU.i (h : MU τ U) {k j : Nat} {v : Int32} (hk : k ≠ 6) : MU (sI τ k j v) U := fun i hi => by rw [sI_o (by omega)]; exact h i hi
theorem MLk.i {r wt gr bk : Nat} (h : MLk τ r wt gr bk) {k j : Nat} {v : Int32} (hk : k ≠ 0) : MLk (sI τ k j v) r wt gr bk := ⟨by rw [sI_o (by omega)]; exact h.1, by rw [sI_o (by omega)]; exact h.2.1, by rw [sI_o (by omega)]; exact h.2.2.1, by rw [sI_o (by omega)]; exact h.2.2.2⟩
theorem okp_pl (hn : n ≤ 12) {a : Nat} (ha : pl n a) : okp (plI a) n = true := by
  unfold okp
  rcases ha with h | rfl
  · rw [plI_lt (by omega), ok_nI (by omega) h, Bool.or_true]
  · rw [plI_12]; rfl
theorem RR.c0 {σ τ σ' τ' : SS} {ci : Nat → CT} {kp : Nat → Bool} (h1 : R1 σ τ n np F Pw U od un) (h2 : R2 σ τ n np ci kp) (h3 : ∃ (tn : Nat) (tb : Nat → Nat), R3 σ τ tn tb) (h4 : ∃ (en : Nat) (d1 d2 d3 : Nat → Nat), R4 σ τ en d1 d2 d3) (h5 : σ.2.1 0 8 = τ.2.1 0 0) (h6 : XF σ) {c : CT} (hc : CR n np c) (hx : XC σ' 0 c) (hm : MCl τ' 0 c) (e1 : σ'.2 = σ.2) (hg : ∀ k j, k ≠ 17 → σ'.1 k j = σ.1 k j) (e2 : τ'.2 = τ.2) (hm1 : ∀ k j, ((k ≠ 7 ∧ k < 16 ∧ (k ≠ 0 ∨ j = 2 ∨ j = 24)) ∨ 22 < k ∨ ((k = 7 ∨ 16 ≤ k) ∧ j ≠ 0)) → τ'.1 k j = τ.1 k j) : RR σ' τ' := by
  obtain ⟨tn, tb, h3⟩ := h3
  obtain ⟨en, d1, d2, d3, h4⟩ := h4
  refine ⟨⟨n, np, F, Pw, U, od, un, fun i => if i = 0 then c else ci i, kp, ?_, ?_⟩, ⟨tn, tb, ?_⟩, ⟨en, d1, d2, d3, ?_⟩, by rw [e1, e2]; exact h5, by unfold XF; rw [e1]; exact h6⟩
  · exact h1.keep (by rw [e1]) (fun k j hk => hg k j (by omega)) (fun k j hk => hm1 k j (by omega))
  · exact h2.set0 hc hx hm (fun k j hk => hg k j (by omega)) (fun k j hk hi => hm1 k j (by omega)) (fun j => hm1 23 j (by omega))
  · exact h3.keep (hg _ _ (by omega)) (fun j => hg _ _ (by omega)) (hm1 _ _ (by omega)) (fun j => hm1 _ _ (by omega))
  · exact h4.keep (fun k j hk => hg _ _ (by omega)) (hm1 _ _ (by omega)) (fun k j hk => hm1 _ _ (by omega))
def arX (q : SS) (a h : Int32) : SS := sI (sI (sI q 17 1 a) 17 3 (if q.1 17 3 < h then h else q.1 17 3)) 17 4 (q.1 17 4 + 1)
def arM (t : SS) (b h : Int32) : SS := sI (sI (sI t 17 0 b) 20 0 (t.1 20 0 + 1)) 19 0 (if t.1 19 0 < h then h else t.1 19 0)
theorem x_arrive (q : SS) (a h : Int32) : f1_arrive 0 a h q = some (arX q a h) := by
  unfold f1_arrive arX
  simp only [lt_e, Nat.add_zero]
  simp (disch := omega) only [sI_o, sI_s]
theorem m_arr {t : SS} {b : Nat} (hR : TR n np F Pw) (hm : MT t n np F Pw) (hb : pl n b) (j11 : SS → Option (Int32 × SS)) : (gd (inb 0 3) (lt (sI t 17 (Int32.toNatClampNeg 0) (nI b)) (fun q24 => gd (inb 0 3) (gd (inb 0 3) (lt (sI q24 20 (Int32.toNatClampNeg 0) ((q24.1 20 (0 : Int32).toNatClampNeg) + 1)) (fun q25 => bd (f6_heightOf (nI b) q25) (fun x26 => gd (inb 0 3) (if x26 ≤ (q25.1 19 (0 : Int32).toNatClampNeg) then gd (inb 0 3) (gd (inb 0 3) (lt (sI q25 19 (Int32.toNatClampNeg 0) (q25.1 19 (0 : Int32).toNatClampNeg)) (fun q27 => j11 q27))) else bd (f6_heightOf (nI b) q25) (fun x28 => gd (inb 0 3) (lt (sI q25 19 (Int32.toNatClampNeg 0) x28) (fun q29 => j11 q29))))))))))) = j11 (arM t (nI b) (nI (hF F b))) := by
  simp only [lt_e, gd_t (iz 3 (by omega)), tz0]
  rw [m_heightOf hR ((hm.i (by omega)).i (by omega)) hb]
  simp only [bd_e]
  unfold arM
  simp (disch := omega) only [sI_o, sI_s]
  by_cases g : nI (hF F b) ≤ t.1 19 0
  · rw [if_pos g, if_neg (Int32.not_lt.mpr g)]
  · rw [if_neg g, if_pos (Int32.not_le.mp g)]
def drX (q : SS) (v : Int32) : SS := sI (sI (sI q 17 1 (-1)) 17 2 (q.1 17 2 + v)) 17 5 (q.1 17 5 + 1)
def drM (t : SS) (v : Int32) : SS := sI (sI (sI t 18 0 (t.1 18 0 + v)) 17 0 12) 21 0 (t.1 21 0 + 1)
theorem x_drop (q : SS) (v : Int32) : f1_drop 0 v q = some (drX q v) := by
  unfold f1_drop drX
  simp only [lt_e, Nat.add_zero]
  simp (disch := omega) only [sI_o, sI_s]
theorem arC {q t : SS} {c : CT} {b : Nat} {h : Nat} (hc : CR n np c) (hh : h ≤ 99) (hb : pl n b) (hx : XC q 0 c) (hm : MCl t 0 c) : CR n np (c.1, b, c.2.2.1, max c.2.2.2.1 h, c.2.2.2.2.1 + 1, c.2.2.2.2.2.1, c.2.2.2.2.2.2.1, c.2.2.2.2.2.2.2) ∧ XC (arX q (plI b) (nI h)) 0 (c.1, b, c.2.2.1, max c.2.2.2.1 h, c.2.2.2.2.1 + 1, c.2.2.2.2.2.1, c.2.2.2.2.2.2.1, c.2.2.2.2.2.2.2) ∧ MCl (arM t (nI b) (nI h)) 0 (c.1, b, c.2.2.1, max c.2.2.2.1 h, c.2.2.2.2.1 + 1, c.2.2.2.2.2.1, c.2.2.2.2.2.2.1, c.2.2.2.2.2.2.2) := by
  have ht := hc.2.2.1
  have mx : ∀ inst : Decidable (nI c.2.2.2.1 < nI h), (@ite _ (nI c.2.2.2.1 < nI h) inst (nI h) (nI c.2.2.2.1)) = nI (max c.2.2.2.1 h) := by
    intro inst
    have e := c_lt (a := c.2.2.2.1) (b := h) (by omega) (by omega)
    by_cases g : c.2.2.2.1 < h
    · rw [if_pos (e ▸ g), Nat.max_eq_right (by omega)]
    · rw [if_neg (e ▸ g), Nat.max_eq_left (by omega)]
  refine ⟨⟨hc.1, hb, ?_, hc.2.2.2⟩, ?_, ?_⟩
  · show max c.2.2.2.1 h ≤ 99
    omega
  · obtain ⟨a0, a1, a2, a3, a4, a5, a6, a7⟩ := hx
    simp only [Nat.add_zero] at a0 a1 a2 a3 a4 a5 a6 a7
    unfold XC arX
    simp (disch := omega) only [sI_o, sI_s, Nat.add_zero, a0, a2, a3, a4, a5, a6, a7, mx, and_self]
  · obtain ⟨a0, a1, a2, a3, a4, a5, a6, a7⟩ := hm
    unfold MCl arM
    simp (disch := omega) only [sI_o, sI_s, a0, a2, a3, a4, a5, a6, a7, mx, and_self]
theorem drC {q t : SS} {c : CT} {v : Int32} (hc : CR n np c) (hx : XC q 0 c) (hm : MCl t 0 c) : CR n np (c.1, 12, c.2.2.1 + v, c.2.2.2.1, c.2.2.2.2.1, c.2.2.2.2.2.1 + 1, c.2.2.2.2.2.2.1, c.2.2.2.2.2.2.2) ∧ XC (drX q v) 0 (c.1, 12, c.2.2.1 + v, c.2.2.2.1, c.2.2.2.2.1, c.2.2.2.2.2.1 + 1, c.2.2.2.2.2.2.1, c.2.2.2.2.2.2.2) ∧ MCl (drM t v) 0 (c.1, 12, c.2.2.1 + v, c.2.2.2.1, c.2.2.2.2.1, c.2.2.2.2.2.1 + 1, c.2.2.2.2.2.2.1, c.2.2.2.2.2.2.2) := by
  refine ⟨⟨hc.1, Or.inr rfl, hc.2.2.1, hc.2.2.2⟩, ?_, ?_⟩
  · obtain ⟨a0, a1, a2, a3, a4, a5, a6, a7⟩ := hx
    simp only [Nat.add_zero] at a0 a1 a2 a3 a4 a5 a6 a7
    unfold XC drX
    simp (disch := omega) only [sI_o, sI_s, Nat.add_zero, a0, a2, a3, a4, a5, a6, a7, plI_12, and_self]
  · obtain ⟨a0, a1, a2, a3, a4, a5, a6, a7⟩ := hm
    unfold MCl drM
    simp (disch := omega) only [sI_o, sI_s, a0, a2, a3, a4, a5, a6, a7, l12, and_self]
theorem x_harmG (hR : TR n np F Pw) (hx : XT σ n np F Pw) (hu : XU σ U) (hO : OR n F od un) (ho : XO σ n od un) {s : Nat} : f5_harm (-1) (nI s) σ = some 0 := by
  have r0 := hR.1
  have L : ∀ (d i fuel : Nat), i + d = n → d < fuel → L5_harm_33 0 σ fuel 0 0 0 (nI i) = some (0, 0, 0) := by
    intro d
    induction d with
    | zero =>
      intro i fuel h1 h2
      obtain ⟨f, rfl⟩ : ∃ q, fuel = q + 1 := ⟨fuel - 1, by omega⟩
      rw [L5_harm_33, show σ.1 (wB (σ.2.2 0)) 0 = nI n from hx.1, if_neg (by rw [c_lt (by omega) (by omega)]; omega)]
    | succ d ih =>
      intro i fuel h1 h2
      obtain ⟨f, rfl⟩ : ∃ q, fuel = q + 1 := ⟨fuel - 1, by omega⟩
      have ho1 := hO.1 i (by omega)
      rw [L5_harm_33, show σ.1 (wB (σ.2.2 0)) 0 = nI n from hx.1, if_pos (by rw [c_lt (by omega) (by omega)]; omega), x_downward r0 ho (by omega), bd_e, show f5_has 0 (nI (od i)) = some (bI (Nat.testBit 0 (od i))) from x_has (s := 0) (by omega) (by omega), bd_e, ib0, Nat.zero_testBit]
      simp only [lt_e, cond_false, nI_1]
      exact ih (i + 1) f (by omega) (by omega)
  unfold f5_harm f4_below
  rw [lt_e, if_pos (by decide), bd_e, lt_e, show (0 : Int32) &&& (nI s ^^^ -1) = 0 by simp, show f4_feature (σ.2.2 0) (-1) 0 σ = some 0 from x_featureG (w := 0), bd_e]
  rw [show L5_harm_33 0 σ FU 0 0 0 0 = some (0, 0, 0) from L n 0 FU (by omega) (by unfold FU; omega), bk3_e, show f5_tuned 4 σ = some (nI (U 4)) from x_tuned hu (i := 4) (by omega), bd_e]
  simp
theorem pl_if {α : Type} (hn : n ≤ 12) {b : Nat} (hb : pl n b) (f : Int32 → α) : lt f (fun j => if plI b = -1 then j 12 else j (plI b)) = f (nI b) := by
  rw [lt_e]
  by_cases q : b = 12
  · rw [q]; rfl
  · rw [if_neg (by rw [pl_m1 hn hb]; exact q), plI_lt (by rcases hb with h | h <;> omega)]
end S
section OPS
variable {σ τ : SS}
theorem r_climb (h : RR σ τ) (a1 : Int32) : BI (f5_climb a1 σ) (f6_climb a1 τ) := by
  have h' := h
  obtain ⟨⟨n, np, F, Pw, U, od, un, ci, kp, h1, h2⟩, h3, h4, h5, hf⟩ := h
  have h1' := h1
  obtain ⟨hR, hx, hm, hU, hux, hum, hO, hxo⟩ := h1
  obtain ⟨c1, c2, c3⟩ := h2.2.2 0 (Or.inl rfl)
  have r0 := hR.1
  have r1 := hR.2.1
  obtain ⟨c, hc⟩ : ∃ c, c = ci 0 := ⟨_, rfl⟩
  rw [← hc] at c1 c2 c3
  obtain ⟨p, a, hu1, tp1, st1, fl1, lo, s⟩ := c
  have hs : s < 4096 := Nat.lt_of_lt_of_le c1.2.2.2 (pow12 r0)
  have ha : pl n a := c1.2.1
  have bad : BI (some ((-1000000 : Int32), σ)) (some (-1000000, τ)) := ⟨_, σ, τ, rfl, rfl, h'⟩
  unfold f5_climb f6_climb
  rw [lt_e, lt_e, show σ.1 (17 + 0) 0 = nI p from c2.1, show σ.1 (17 + 0) 1 = plI a from c2.2.1, x_isBody' hR hx, m_isPlace hR hm]
  simp only [bd_e, ib0, gd_t (iz 2 (by omega)), gd_t (iz 3 (by omega)), tz0]
  rw [hm.2.1, c3.1]
  by_cases g0 : np = 0
  · have e1 : ok (nI p) np = false := by
      rcases ok_cases (nI p) (n := np) (by omega) with e | ⟨k, hk, -, -⟩
      · exact e
      · omega
    rw [e1, if_pos (by rw [g0]; rfl)]
    cases okp a1 n <;> exact bad
  · have hp : p < np := by rcases c1.1 with q | q <;> first | exact q | (have q : p = 0 := q; omega)
    rw [ok_nI (by omega) hp, if_neg (by rw [l0, c_eq (by omega) (by omega)]; exact g0)]
    simp only [cond_true]
    rw [x_isPlace hR hx, okp_pl r0 ha, bd_e, ib0, cond_true, x_isPlace hR hx, bd_e, ib0]
    rcases okp_cases a1 (n := n) r0 with e | ⟨b, hb, rfl, e⟩
    · rw [e]; exact bad
    · rw [e]
      simp only [cond_true]
      have p0 := hR.2.2.2 p hp
      have u5 := hU.2.2.2.2.2.2.2
      obtain ⟨τ1, t1, t2, t3⟩ := m_look hR hm hum hp
      have q1 := R1.scr h1' (XS.rf hf) t2
      have q2 := h2.scr (XS.rf hf) t2
      have q3 : ∃ (tn : Nat) (tb : Nat → Nat), R3 σ τ1 tn tb := by obtain ⟨tn, tb, q⟩ := h3; exact ⟨tn, tb, q.scr (XS.rf hf) t2⟩
      have q4 : ∃ (en : Nat) (d1 d2 d3 : Nat → Nat), R4 σ τ1 en d1 d2 d3 := by obtain ⟨en, d1, d2, d3, q⟩ := h4; exact ⟨en, d1, d2, d3, q.scr (XS.rf hf) t2⟩
      have q5 : σ.2.1 0 8 = τ1.2.1 0 0 := by rw [t2.1]; exact h5
      have c3 : MCl τ1 0 (p, a, hu1, tp1, st1, fl1, lo, s) := by rw [hc]; exact (q2.2.2 0 (Or.inl rfl)).2.2
      have hm1 := q1.2.2.1
      have hum1 := q1.2.2.2.2.2.1
      rw [show f4_power (σ.2.2 0) (nI p) 0 σ = some (nI (Pw 0 p)) from x_power hR hx (w := 0) (by omega) hp, bd_e, show f5_tuned 5 σ = some (nI (U 5)) from x_tuned hux (i := 5) (by omega), bd_e, x_mayStep hR hx hU hux hs c2.2.2.2.2.2.2.2 hp ha hb (by omega) (by omega), bd_e, ib0]
      rw [pl_if r0 hb, t1, bd_e, c3.2.1, m_mayStep hR hm1 hU hum1 hs c3.2.2.2.2.2.2.2 hp ha hb (by omega) (by omega) t3, bd_e, ib0]
      cases hmay : may F Pw U s p (Pw 0 p) (U 5) a b with
      | false => exact ⟨_, σ, τ1, rfl, rfl, h'.scr (XS.rf hf) t2⟩
      | true =>
        simp only [cond_true]
        have ma := fun (t : SS) (ht : MT t n np F Pw) => m_arr hR ht hb (fun q13 => bd (f6_placeNow q13) (fun x14 => some (x14, q13)))
        simp only [lt_e, gd_t (iz 3 (by omega)), tz0] at ma ⊢
        have fin : ∀ (q t : SS) (c' : CT), CR n np c' → XC q 0 c' → MCl t 0 c' → q.2 = σ.2 → (∀ k j, k ≠ 17 → q.1 k j = σ.1 k j) → t.2 = τ1.2 → (∀ k j, ((k ≠ 7 ∧ k < 16 ∧ (k ≠ 0 ∨ j = 2 ∨ j = 24)) ∨ 22 < k ∨ ((k = 7 ∨ 16 ≤ k) ∧ j ≠ 0)) → t.1 k j = τ1.1 k j) → BI (some ((arX q (plI b) (nI (hF F b))).1 (17 + 0) 1, arX q (plI b) (nI (hF F b)))) (bd (f6_placeNow (arM t (nI b) (nI (hF F b)))) (fun x14 => some (x14, arM t (nI b) (nI (hF F b))))) := by
          intro q t c' d1 d2 d3 d4 d5 d6 d7
          obtain ⟨k1, k2, k3⟩ := arC d1 (hF_le hR hb) hb d2 d3
          rw [m_placeNow r0 k1.2.1 k3, bd_e]
          refine ⟨plI b, _, _, ?_, rfl, RR.c0 q1 q2 q3 q4 q5 hf k1 k2 k3 ?_ ?_ ?_ ?_⟩
          · rw [show (arX q (plI b) (nI (hF F b))).1 (17 + 0) 1 = plI b from k2.2.1]
          · exact d4
          · intro k j hk
            unfold arX
            rw [sI_o (by omega), sI_o (by omega), sI_o (by omega)]
            exact d5 k j hk
          · exact d6
          · intro k j hk
            unfold arM
            rw [sI_o (by omega), sI_o (by omega), sI_o (by omega)]
            exact d7 k j hk
        by_cases g1 : b = 12
        · rw [if_pos (by rw [g1]; rfl), if_pos (by rw [g1]; rfl), show f4_feature (σ.2.2 0) (plI b) 0 σ = some (nI (hF F b)) from x_featH hR hx hb, bd_e, x_arrive, bd_e, if_neg (by decide), ma τ1 hm1]
          exact fin σ τ1 _ c1 c2 c3 rfl (fun _ _ _ => rfl) rfl (fun _ _ _ => rfl)
        · have hbn : b < n := by rcases hb with q | q <;> omega
          rw [if_neg (by rw [pl_m1 r0 hb]; exact g1), if_neg (by rw [l12, c_eq (by omega) (by omega)]; exact g1)]
          obtain ⟨v, hv⟩ : ∃ v, v = lo * 1103515245 + 12345 := ⟨_, rfl⟩
          obtain ⟨w, hw⟩ : ∃ w : Int32, w = ((Int32.toUInt32 v) >>> ((Int32.toUInt32 16) &&& Int32.toUInt32 31)).toInt32 - ((Int32.toUInt32 v) >>> ((Int32.toUInt32 16) &&& Int32.toUInt32 31)).toInt32 / 10 * 10 := ⟨_, rfl⟩
          obtain ⟨σ2, hσ2⟩ : ∃ s2, s2 = sI σ 17 6 v := ⟨_, rfl⟩
          obtain ⟨τ2, hτ2⟩ : ∃ s2, s2 = sI τ1 22 0 v := ⟨_, rfl⟩
          have x2 : XT σ2 n np F Pw := by rw [hσ2]; exact hx.i (by omega)
          have xu2 : XU σ2 U := by rw [hσ2]; exact hux.i (by omega)
          have xo2 : XO σ2 n od un := by rw [hσ2]; exact hxo.i (by omega)
          have m2 : MT τ2 n np F Pw := by rw [hτ2]; exact hm1.i (by omega)
          have mu2 : MU τ2 U := by rw [hτ2]; exact hum1.i (by omega)
          have ml2 : MLk τ2 (Pw 0 p) (Pw 1 p) (Pw 2 p) (U 5) := by rw [hτ2]; exact t3.i (by omega)
          have cx2 : XC σ2 0 (p, a, hu1, tp1, st1, fl1, v, s) := by
            obtain ⟨a0, a1, a2, a3, a4, a5, a6, a7⟩ := c2
            rw [hσ2]
            exact ⟨by rw [sI_o (by omega)]; exact a0, by rw [sI_o (by omega)]; exact a1, by rw [sI_o (by omega)]; exact a2, by rw [sI_o (by omega)]; exact a3, by rw [sI_o (by omega)]; exact a4, by rw [sI_o (by omega)]; exact a5, sI_s, by rw [sI_o (by omega)]; exact a7⟩
          have cm2 : MCl τ2 0 (p, a, hu1, tp1, st1, fl1, v, s) := by
            obtain ⟨a0, a1, a2, a3, a4, a5, a6, a7⟩ := c3
            rw [hτ2]
            exact ⟨by rw [sI_o (by omega)]; exact a0, by rw [sI_o (by omega)]; exact a1, by rw [sI_o (by omega)]; exact a2, by rw [sI_o (by omega)]; exact a3, by rw [sI_o (by omega)]; exact a4, by rw [sI_o (by omega)]; exact a5, sI_s, by rw [sI_o (by omega)]; exact a7⟩
          have cc2 : CR n np (p, a, hu1, tp1, st1, fl1, v, s) := c1
          have f1 : σ2.2 = σ.2 := by rw [hσ2]; rfl
          have f2 : ∀ k j, k ≠ 17 → σ2.1 k j = σ.1 k j := fun k j hk => by rw [hσ2, sI_o (by omega)]
          have f3 : τ2.2 = τ1.2 := by rw [hτ2]; rfl
          have f4 : ∀ k j, ((k ≠ 7 ∧ k < 16 ∧ (k ≠ 0 ∨ j = 2 ∨ j = 24)) ∨ 22 < k ∨ ((k = 7 ∨ 16 ≤ k) ∧ j ≠ 0)) → τ2.1 k j = τ1.1 k j := fun k j hk => by rw [hτ2, sI_o (by omega)]
          have dr : f1_draw 0 σ = some (w, σ2) := by
            unfold f1_draw
            rw [lt_e, show (17 + 0 : Nat) = 17 from rfl, show σ.1 17 6 = lo from c2.2.2.2.2.2.2.1, ← hv, ← hσ2, show σ2.1 17 6 = v by rw [hσ2]; exact sI_s, ← hw]
          rw [dr, bk2_e, x_tenths hR x2 hU xu2 hp hb, bd_e, show τ1.1 22 0 = lo from c3.2.2.2.2.2.2.1, ← hv, ← hτ2, show τ2.1 22 0 = v by rw [hτ2]; exact sI_s, ← hw, m_holdsOn hR m2 hU mu2 hp hb ml2, bd_e]
          by_cases g2 : w < nI (hol F Pw U p b)
          · rw [if_pos g2, if_pos g2, show f4_feature (σ2.2.2 0) (plI b) 0 σ2 = some (nI (hF F b)) from x_featH hR x2 hb, bd_e, x_arrive, bd_e, if_neg (by decide), ma τ2 m2]
            exact fin σ2 τ2 _ cc2 cx2 cm2 f1 f2 f3 f4
          · rw [if_neg g2, if_neg g2, if_true]
            have fin2 : ∀ (V : Int32) (t : SS) (m : Nat), BH τ2 m t ∨ t = τ2 → f5_harm (plI a) (nI s) σ2 = some V → BI (bd (f5_harm (plI a) (σ2.1 (17 + 0) 7) σ2) (fun x17 => bd (f1_drop 0 x17 σ2) (fun q18 => some ((q18.1 (17 + 0) 1), q18)))) (bd (f6_placeNow (drM t V)) (fun x14 => some (x14, drM t V))) := by
              intro V t m hB hV
              have b1 : t.2 = τ2.2 := by
                rcases hB with q | q
                · exact q.1
                · rw [q]
              have b2 : ∀ k j, (k ≠ 0 ∨ j ≠ 23) → t.1 k j = τ2.1 k j := by
                rcases hB with q | q
                · exact q.2.2
                · intro k j _
                  rw [q]
              have cmt : MCl t 0 (p, a, hu1, tp1, st1, fl1, v, s) := cm2.keep (fun k hk => b2 k 0 (by omega))
              obtain ⟨k1, k2, k3⟩ := drC (v := V) cc2 cx2 cmt
              rw [m_placeNow r0 k1.2.1 k3, bd_e, show σ2.1 (17 + 0) 7 = nI s from cx2.2.2.2.2.2.2.2, hV, bd_e, x_drop, bd_e]
              refine ⟨-1, _, _, ?_, rfl, RR.c0 q1 q2 q3 q4 q5 hf k1 k2 k3 ?_ ?_ ?_ ?_⟩
              · rw [show (drX σ2 V).1 (17 + 0) 1 = -1 from k2.2.1]
              · exact f1
              · intro k j hk
                unfold drX
                rw [sI_o (by omega), sI_o (by omega), sI_o (by omega)]
                exact f2 k j hk
              · exact b1.trans f3
              · intro k j hk
                unfold drM
                rw [sI_o (by omega), sI_o (by omega), sI_o (by omega), b2 k j (by omega)]
                exact f4 k j hk
            rw [show τ2.1 17 0 = nI a from cm2.2.1]
            by_cases g3 : a = 12
            · rw [if_pos (by rw [g3]; rfl)]
              have V0 : f5_harm (plI a) (nI s) σ2 = some 0 := by rw [g3]; exact x_harmG hR x2 xu2 hO xo2
              have R := fin2 0 τ2 0 (Or.inr rfl) V0
              unfold drM at R
              simp (disch := omega) only [sI_o, sI_s] at R ⊢
              exact R
            · have han : a < n := by rcases ha with q | q <;> omega
              rw [if_neg (by rw [l12, c_eq (by omega) (by omega)]; exact g3)]
              obtain ⟨m, t, z1, z2, z3, z4⟩ := m_harm hR m2 hU mu2 hO han hs cm2.2.2.2.2.2.2.2
              rw [z1, bk2_e]
              have V0 := x_harm hR x2 hU xu2 hO xo2 (s := s) han
              rw [← plI_lt (show a < 12 by omega)] at V0
              have R := fin2 _ t m (Or.inl z2) V0
              unfold drM at R
              rw [← z2.2.2 18 0 (by omega)]
              simp (disch := omega) only [sI_o, sI_s] at R ⊢
              exact R
end OPS
