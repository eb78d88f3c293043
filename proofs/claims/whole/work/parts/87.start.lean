/-! the law's start -/
theorem gXs {G : GT} {a : Nat → Nat} {σ : SS} {a2 : Nat → Nat} : wX (gX G a) σ = wX (gM (gX G a) a2) σ := rfl
section ST
variable {G : GT} {K : KT} {b L : Nat} {xs : Nat → Int32}
theorem SX.same {G2 : GT} (h : SX G K b L xs) (e : gA G2 = gA G) : SX G2 K b L xs := by
  obtain ⟨p, l, e1, R, s, m, args, below, meth, c, Q, cells, slots, nL⟩ := K
  obtain ⟨h1, h2, h3⟩ := h
  exact ⟨h1, h2, by rw [e]; exact h3⟩
theorem SX.kb {x y : Nat} (h : SX G K b L xs) : SX G (kb K x y) b L xs := by
  obtain ⟨p, l, e1, R, s, m, args, below, meth, c, Q, cells, slots, nL⟩ := K
  exact h
set_option maxHeartbeats 8000000 in
set_option maxRecDepth 100000 in
theorem law_begin (C : CN G K code RL 4 13 474 600000 7302250) (X : SX G K b L xs) (hL : L ≤ 2560) (fin : ∀ (w : va_W) (lv : List (Nat × Value)), V G (kb K 72 1731) w 1299 lv []) : V G (kb K 0 0) [] 0 [(0, .ref b)] [] := by
  have C0 : Ctx G (kb K 0 0) code RL 4 13 474 := C.at (Nat.le_of_ble_eq_true rfl) (Nat.le_of_ble_eq_true rfl)
  refine v_newo (pc := 0) C (Cn := RX5) (T := TX5) (N := 9) (ci := 5) (fs := [.null, .null, .null, .null, .null, .null, .null, .null, .long 0]) (a := 0) (b := 0) (a' := 1) (b' := 9) inlX5 tyX5 tyX5_ok mw_0 mw_1 mw_2 rfl (fun j hj => match j, hj with | 0, _ => rfl | 1, _ => rfl | 2, _ => rfl | 3, _ => rfl | 4, _ => rfl | 5, _ => rfl | 6, _ => rfl | 7, _ => rfl | 8, _ => rfl | n + 9, h => absurd h (by omega)) rfl rfl (Nat.le_of_ble_eq_true rfl) (Nat.le_of_ble_eq_true rfl) dL_law_0 (fun q1 => ?_)
  have C1 : Ctx G (kb K 1 9) code RL 4 13 474 := C.at (Nat.le_of_ble_eq_true rfl) (Nat.le_of_ble_eq_true rfl)
  refine v_dup (pc := 3) C1 (F := True) dL_law_3 rfl (fun _ => ?_) trivial
  refine v_callC (pc := 4) C (w := []) (fc := 2) (lc := 32) (Φ := PH5 G q1) (a := 1) (b := 9) (a' := 48) (b' := 912) (fun A => mk5_init (gS G A) K.2.1 q1) mw_7 mw_8 mw_2 mw_9 rfl ⟨by decide +kernel, by decide +kernel, by decide +kernel⟩ ⟨Nat.le_of_ble_eq_true rfl, Nat.le_of_ble_eq_true rfl⟩ (Nat.le_of_ble_eq_true rfl) rfl rfl (Nat.le_of_ble_eq_true rfl) (Nat.le_of_ble_eq_true rfl) dL_law_4 (fun w1 hw1 => ?_)
  have C2 : Ctx G (kb K 48 912) code RL 4 13 474 := C.at (Nat.le_of_ble_eq_true rfl) (Nat.le_of_ble_eq_true rfl)
  change V G (kb K 48 912) w1 7 [(0, .ref b)] [.ref q1]
  refine v_astore_n (pc := 7) C2 (F := True) (lv' := [(1, .ref q1), (0, .ref b)]) dL_law_7 (by decide) rfl (fun _ => ?_) trivial
  refine v_newo (pc := 8) C (Cn := RX6) (T := TX6) (N := 36) (ci := 6) (fs := [.long 0, .null, .int 0, .null, .null, .null, .null, .null, .int 0, .int 0, .int 0, .int 0, .int 0, .null, .int 0, .int 0, .int 0, .int 0, .null, .null, .null, .null, .null, .int 0, .int 0, .null, .null, .null, .null, .null, .null, .null, .null, .null, .null, .null]) (a := 48) (b := 912) (a' := 49) (b' := 948) inlX6 tyX6 tyX6_ok mw_3 mw_4 mw_5 rfl (fun j hj => match j, hj with | 0, _ => rfl | 1, _ => rfl | 2, _ => rfl | 3, _ => rfl | 4, _ => rfl | 5, _ => rfl | 6, _ => rfl | 7, _ => rfl | 8, _ => rfl | 9, _ => rfl | 10, _ => rfl | 11, _ => rfl | 12, _ => rfl | 13, _ => rfl | 14, _ => rfl | 15, _ => rfl | 16, _ => rfl | 17, _ => rfl | 18, _ => rfl | 19, _ => rfl | 20, _ => rfl | 21, _ => rfl | 22, _ => rfl | 23, _ => rfl | 24, _ => rfl | 25, _ => rfl | 26, _ => rfl | 27, _ => rfl | 28, _ => rfl | 29, _ => rfl | 30, _ => rfl | 31, _ => rfl | 32, _ => rfl | 33, _ => rfl | 34, _ => rfl | 35, _ => rfl | n + 36, h => absurd h (by omega)) rfl rfl (Nat.le_of_ble_eq_true rfl) (Nat.le_of_ble_eq_true rfl) dL_law_8 (fun q2 => ?_)
  have C3 : Ctx G (kb K 49 948) code RL 4 13 474 := C.at (Nat.le_of_ble_eq_true rfl) (Nat.le_of_ble_eq_true rfl)
  refine v_dup (pc := 11) C3 (F := True) dL_law_11 rfl (fun _ => ?_) trivial
  refine v_callC (pc := 12) C (w := w1) (fc := 1) (lc := 12) (Φ := PH6 G q2) (a := 49) (b := 948) (a' := 72) (b' := 1731) (fun A => mk6_init (gS G A) K.2.1 q2) mw_95 mw_96 mw_5 mw_97 rfl ⟨by decide +kernel, by decide +kernel, by decide +kernel⟩ ⟨Nat.le_of_ble_eq_true rfl, Nat.le_of_ble_eq_true rfl⟩ (Nat.le_of_ble_eq_true rfl) rfl rfl (Nat.le_of_ble_eq_true rfl) (Nat.le_of_ble_eq_true rfl) dL_law_12 (fun w2 hw2 => ?_)
  have C4 : Ctx G (kb K 72 1731) code RL 4 13 474 := C.at (Nat.le_of_ble_eq_true rfl) (Nat.le_of_ble_eq_true rfl)
  refine v_astore_n (pc := 15) C4 (F := True) (lv' := [(2, .ref q2), (1, .ref q1), (0, .ref b)]) dL_law_15 (by decide) rfl (fun _ => ?_) trivial
  refine v_iconst (pc := 16) C4 (F := True) 0 dL_law_16 (by decide) (fun _ => ?_) trivial
  refine v_istore_n (pc := 17) C4 (F := True) (lv' := [(3, .int 0), (2, .ref q2), (1, .ref q1), (0, .ref b)]) dL_law_17 (by decide) rfl (fun _ => ?_) trivial
  obtain ⟨a1, e1, rfl⟩ := hw1
  obtain ⟨a2, e2, rfl⟩ := hw2
  subst e1 e2
  have D : Ctx (gM (gX G a1) a2) (kb K 72 1731) code RL 4 13 474 := C4.gX.gM
  exact law_go D (SX.same X.kb rfl) hL fin L 0 (sI σz 17 6 1) τz (by omega) (by omega) r_init
end ST
set_option maxHeartbeats 4000000 in
set_option maxRecDepth 100000 in
/-- THE LAW, from its entry -/
theorem whole_start {p : Program} {e : Env} {s : State} {m : MethodId} {below : List Frame} {meth : Method} {c : Code} (l : Launch) (hflags : l.flags = flags0) {b L : Nat} {xs : Nat → Int32} (hL : L ≤ 2560) (C0 : lw_At p s m meth c b L xs) : W p l e room_1 s m #[Value.ref b] below meth c s.heap [] 0 0 (lw_Z below #[Value.ref b] s) (entryFrame m ([Value.ref b] : List Value).toArray 4) := by
  obtain ⟨hx, hb, hr, hml, hown, hts, hX, hbl, hlocks, hgv⟩ := id C0
  obtain ⟨G, eA, -, -, hK, hst, hext⟩ := start0 hts hgv (fun _ => 0) (fun _ => 0)
  have hbA : ¬ gA G b := by rw [eA]; exact Nat.not_le.mpr hbl
  have hN : gN G s.heap.size := fun q z => by rw [eA]; exact z
  have C : CN G (p, l, e, room_1, s, m, #[Value.ref b], below, meth, c, lw_Z below #[Value.ref b] s, 0, 0, 4) code RL 4 13 474 600000 7302250 := ⟨⟨hx, hb, hml, hown, fun w h => hts w (wsL_law_in w h), hlocks, hK, hst, hN, Nat.le_of_ble_eq_true rfl, Nat.le_of_ble_eq_true rfl, Nat.le_of_ble_eq_true rfl, Nat.le_of_ble_eq_true rfl, rfl⟩, Nat.le_of_ble_eq_true rfl, Nat.le_of_ble_eq_true rfl, hext⟩
  have key := law_begin (G := G) (xs := xs) C ⟨hX, hbl, hbA⟩ hL (fun w lv => by
    have C9 := C.at (a := 72) (b := 1731) (Nat.le_of_ble_eq_true rfl) (Nat.le_of_ble_eq_true rfl)
    refine v_iconst (pc := 1299) C9 (F := True) 1 dL_law_1299 (by decide) (fun _ => ?_) trivial
    intro H locs ls hP hD hS hl
    refine va_forget (fun q hq => by have := hS.2.2 q hq; rw [eA] at this; exact this) ?_
    exact W.widen (Nat.le_of_ble_eq_true rfl) (Nat.le_of_ble_eq_true rfl) (lw_ret hx hb hr hlocks dL_law_1300))
  rw [lg_entry_eq]
  exact key s.heap [] _ (fun k q h => by simp at h) ⟨fun i j x y h => by simp at h, fun k q h => by simp at h⟩ va_S.rf (lv_entry [.ref b] (Nat.le_of_ble_eq_true rfl))
