/-! the class itself, by program (gen_make.py) -/
def aT (G : GT) : va_E := .inl (gC G 0, 6, .inl (fun j => (tvl 0).getD j 0))
def ax5 (L : List Nat) (aw av : Nat → Nat) : Nat → Nat := fun i => if i < 20 then L.getD i 0 else if i < 34 then aw (i - 20) else av (i - 34)
theorem ax5_w (L : List Nat) (aw av : Nat → Nat) (n k m : Nat) (h1 : m = 20 + k) (h2 : k + n ≤ 14) (h3 : 0 < n) (i : Nat) : (if i < n then some (aw (k + i)) else none) = if i < n then some (ax5 L aw av (m + i)) else none := by
  by_cases h : i < n
  · rw [if_pos h, if_pos h]
    unfold ax5
    rw [if_neg (by omega), if_pos (by omega), show m + i - 20 = k + i by omega]
  · rw [if_neg h, if_neg h]
theorem ax5_v (L : List Nat) (aw av : Nat → Nat) (n k m : Nat) (h1 : m = 34 + k) (h3 : 0 < n) (i : Nat) : (if i < n then some (av (k + i)) else none) = if i < n then some (ax5 L aw av (m + i)) else none := by
  by_cases h : i < n
  · rw [if_pos h, if_pos h]
    unfold ax5
    rw [if_neg (by omega), if_neg (by omega), show m + i - 34 = k + i by omega]
  · rw [if_neg h, if_neg h]
theorem ax5_i (m1 m2 : Nat) (aa : Nat → Nat) (h1 : aa 18 = m1) (h2 : aa 19 = m2) (i : Nat) : va_up (va_up (fun _ => none) (Int32.toNatClampNeg (0)) (some m1)) (Int32.toNatClampNeg (0 + 1)) (some m2) i = if i < 2 then some (aa (17 + (1 + i))) else none := by
  rw [show (Int32.toNatClampNeg 0 : Nat) = 0 by decide, show (Int32.toNatClampNeg (0 + 1) : Nat) = 1 by decide]
  match i with
  | 0 => rw [if_pos (by omega), show 17 + (1 + 0) = 18 from rfl, h1]; rfl
  | 1 => rw [if_pos (by omega), show 17 + (1 + 1) = 19 from rfl, h2]; rfl
  | i + 2 =>
    rw [if_neg (by omega), va_up_ne _ _ (by omega), va_up_ne _ _ (by omega)]
def σz : SS := (fun k => if k = 1 then (fun j => (tvl 0).getD j 0) else if k = 17 then (fun j => if j = 1 then -1 else 0) else if k = 18 then (fun j => if j = 1 then -1 else 0) else if k = 19 then (fun j => if j = 1 then -1 else 0) else fun _ => 0, fun _ _ => 0, fun k => if k = 1 then true else if k = 3 then true else false)
def PH5 (G : GT) (h0 : Nat) (w : va_W) : Prop := ∃ a : Nat → Nat, a 0 = h0 ∧ w = wX (gX G a) (sI σz 17 6 1)
set_option maxHeartbeats 16000000 in
set_option maxRecDepth 100000 in
theorem mk5_init (G : GT) (l : Launch) (h0 : Nat) : MC G l yX5_init cX5_init 2 2 32 47 903 [.ref h0] [(h0, .inr (5, [.null, .null, .null, .null, .null, .null, .null, .null, .long 0]))] (PH5 G h0) := by
  refine MC.start (by decide +kernel) rfl (Nat.le_of_ble_eq_true rfl) (fun K hl hk C hret => ?_)
  subst hl
  have C : CN G K cX5_init RX5 2 2 32 47 903 := C
  have C1 : Ctx G (kb K 0 0) cX5_init RX5 2 2 32 := C.at (Nat.le_of_ble_eq_true rfl) (Nat.le_of_ble_eq_true rfl)
  change V G (kb K 0 0) ((h0, .inr (5, [.null, .null, .null, .null, .null, .null, .null, .null, .long 0])) :: []) 0 [(0, .ref h0)] []
  refine v_aload_n (pc := 0) C1 (F := True) 0 rfl dX5_init_0 (fun _ => ?_) trivial
  refine v_objI (pc := 1) C1 (F := True) mw_10 (Nat.le_of_ble_eq_true rfl) (Nat.le_of_ble_eq_true rfl) dX5_init_1 (fun _ => ?_) trivial
  refine v_aload_n (pc := 4) C1 (F := True) 0 rfl dX5_init_4 (fun _ => ?_) trivial
  refine v_gets (pc := 5) C1 (F := True) 0 (by decide) mw_13 dX5_init_5 (fun _ => ?_) trivial
  refine v_clone0 (pc := 8) C (a := 0) (b := 0) (a' := 1) (b' := 6) mw_14 (Nat.le_of_ble_eq_true rfl) (Nat.le_of_ble_eq_true rfl) rfl rfl (Nat.le_of_ble_eq_true rfl) (Nat.le_of_ble_eq_true rfl) dX5_init_8 (fun q1 => ?_)
  have C2 : Ctx G (kb K 1 6) cX5_init RX5 2 2 32 := C.at (Nat.le_of_ble_eq_true rfl) (Nat.le_of_ble_eq_true rfl)
  change V G (kb K 1 6) ((h0, .inr (5, [.null, .null, .null, .null, .null, .null, .null, .null, .long 0])) :: ([(q1, aT G)])) 11 [(0, .ref h0)] [.ref q1, .ref h0]
  refine v_castI (pc := 11) C2 1 rfl mw_19 dX5_init_11 ?_
  refine v_putF (pc := 14) C2 (kin_kb hk) 0 (w' := (h0, .inr (5, [.ref q1, .null, .null, .null, .null, .null, .null, .null, .long 0])) :: ([(q1, aT G)])) rfl rfl inlX5 tyX5 tyX5_ok nmX5 0 (Nat.le_of_ble_eq_true rfl) rfl mw_20 rfl rfl rfl rfl (Nat.le_of_ble_eq_true rfl) rfl dX5_init_14 ?_
  refine v_aload_n (pc := 17) C2 (F := True) 0 rfl dX5_init_17 (fun _ => ?_) trivial
  refine v_newo (pc := 18) C (Cn := RX2) (T := TX2) (N := 6) (ci := 2) (fs := [.null, .int 0, .int 0, .int 0, .int 0, .int 0]) (a := 1) (b := 6) (a' := 2) (b' := 12) inlX2 tyX2 tyX2_ok mw_21 mw_22 mw_23 rfl (fun j hj => match j, hj with | 0, _ => rfl | 1, _ => rfl | 2, _ => rfl | 3, _ => rfl | 4, _ => rfl | 5, _ => rfl | n + 6, h => absurd h (by omega)) rfl rfl (Nat.le_of_ble_eq_true rfl) (Nat.le_of_ble_eq_true rfl) dX5_init_18 (fun qT => ?_)
  have C3 : Ctx G (kb K 2 12) cX5_init RX5 2 2 32 := C.at (Nat.le_of_ble_eq_true rfl) (Nat.le_of_ble_eq_true rfl)
  refine v_dup (pc := 21) C3 (F := True) dX5_init_21 rfl (fun _ => ?_) trivial
  refine v_callN (pc := 22) C (w := (h0, .inr (5, [.ref q1, .null, .null, .null, .null, .null, .null, .null, .long 0])) :: ([(q1, aT G)])) (host := RX5) (fc := 1) (lc := 12) (Φ := PH2 G qT) (a := 2) (b := 12) (a' := 3) (b' := 412) (fun A => mk2_init (gS G A) K.2.1 qT) (by decide +kernel) mw_45 mw_23 mw_46 rfl ⟨by decide +kernel, by decide +kernel, by decide +kernel⟩ ⟨(Nat.le_of_ble_eq_true rfl), (Nat.le_of_ble_eq_true rfl)⟩ (Nat.le_of_ble_eq_true rfl) rfl rfl (Nat.le_of_ble_eq_true rfl) (Nat.le_of_ble_eq_true rfl) dX5_init_22 (fun wT hT => ?_)
  have C4 : Ctx G (kb K 3 412) cX5_init RX5 2 2 32 := C.at (Nat.le_of_ble_eq_true rfl) (Nat.le_of_ble_eq_true rfl)
  change V G (kb K 3 412) ((h0, .inr (5, [.ref q1, .null, .null, .null, .null, .null, .null, .null, .long 0])) :: (([(q1, aT G)]) ++ wT)) 25 [(0, .ref h0)] [.ref qT, .ref h0]
  refine v_putF (pc := 25) C4 (kin_kb hk) 0 (w' := (h0, .inr (5, [.ref q1, .ref qT, .null, .null, .null, .null, .null, .null, .long 0])) :: (([(q1, aT G)]) ++ wT)) rfl rfl inlX5 tyX5 tyX5_ok nmX5 1 (Nat.le_of_ble_eq_true rfl) rfl mw_24 rfl rfl rfl rfl (Nat.le_of_ble_eq_true rfl) rfl dX5_init_25 ?_
  refine v_aload_n (pc := 28) C4 (F := True) 0 rfl dX5_init_28 (fun _ => ?_) trivial
  refine v_newo (pc := 29) C (Cn := RX3) (T := TX3) (N := 7) (ci := 3) (fs := [.null, .null, .null, .null, .null, .null, .null]) (a := 3) (b := 412) (a' := 4) (b' := 419) inlX3 tyX3 tyX3_ok mw_25 mw_26 mw_27 rfl (fun j hj => match j, hj with | 0, _ => rfl | 1, _ => rfl | 2, _ => rfl | 3, _ => rfl | 4, _ => rfl | 5, _ => rfl | 6, _ => rfl | n + 7, h => absurd h (by omega)) rfl rfl (Nat.le_of_ble_eq_true rfl) (Nat.le_of_ble_eq_true rfl) dX5_init_29 (fun qY => ?_)
  have C5 : Ctx G (kb K 4 419) cX5_init RX5 2 2 32 := C.at (Nat.le_of_ble_eq_true rfl) (Nat.le_of_ble_eq_true rfl)
  refine v_dup (pc := 32) C5 (F := True) dX5_init_32 rfl (fun _ => ?_) trivial
  refine v_callN (pc := 33) C (w := (h0, .inr (5, [.ref q1, .ref qT, .null, .null, .null, .null, .null, .null, .long 0])) :: (([(q1, aT G)]) ++ wT)) (host := RX5) (fc := 1) (lc := 12) (Φ := PH3 G qY) (a := 4) (b := 419) (a' := 11) (b' := 510) (fun A => mk3_init (gS G A) K.2.1 qY) (by decide +kernel) mw_55 mw_27 mw_56 rfl ⟨by decide +kernel, by decide +kernel, by decide +kernel⟩ ⟨(Nat.le_of_ble_eq_true rfl), (Nat.le_of_ble_eq_true rfl)⟩ (Nat.le_of_ble_eq_true rfl) rfl rfl (Nat.le_of_ble_eq_true rfl) (Nat.le_of_ble_eq_true rfl) dX5_init_33 (fun wY hY => ?_)
  have C6 : Ctx G (kb K 11 510) cX5_init RX5 2 2 32 := C.at (Nat.le_of_ble_eq_true rfl) (Nat.le_of_ble_eq_true rfl)
  change V G (kb K 11 510) ((h0, .inr (5, [.ref q1, .ref qT, .null, .null, .null, .null, .null, .null, .long 0])) :: ((([(q1, aT G)]) ++ wT) ++ wY)) 36 [(0, .ref h0)] [.ref qY, .ref h0]
  refine v_putF (pc := 36) C6 (kin_kb hk) 0 (w' := (h0, .inr (5, [.ref q1, .ref qT, .ref qY, .null, .null, .null, .null, .null, .long 0])) :: ((([(q1, aT G)]) ++ wT) ++ wY)) rfl rfl inlX5 tyX5 tyX5_ok nmX5 2 (Nat.le_of_ble_eq_true rfl) rfl mw_28 rfl rfl rfl rfl (Nat.le_of_ble_eq_true rfl) rfl dX5_init_36 ?_
  refine v_aload_n (pc := 39) C6 (F := True) 0 rfl dX5_init_39 (fun _ => ?_) trivial
  refine v_newo (pc := 40) C (Cn := RX0) (T := TX0) (N := 4) (ci := 0) (fs := [.int 0, .null, .null, .null]) (a := 11) (b := 510) (a' := 12) (b' := 514) inlX0 tyX0 tyX0_ok mw_29 mw_30 mw_31 rfl (fun j hj => match j, hj with | 0, _ => rfl | 1, _ => rfl | 2, _ => rfl | 3, _ => rfl | n + 4, h => absurd h (by omega)) rfl rfl (Nat.le_of_ble_eq_true rfl) (Nat.le_of_ble_eq_true rfl) dX5_init_40 (fun qD => ?_)
  have C7 : Ctx G (kb K 12 514) cX5_init RX5 2 2 32 := C.at (Nat.le_of_ble_eq_true rfl) (Nat.le_of_ble_eq_true rfl)
  refine v_dup (pc := 43) C7 (F := True) dX5_init_43 rfl (fun _ => ?_) trivial
  refine v_callN (pc := 44) C (w := (h0, .inr (5, [.ref q1, .ref qT, .ref qY, .null, .null, .null, .null, .null, .long 0])) :: ((([(q1, aT G)]) ++ wT) ++ wY)) (host := RX5) (fc := 1) (lc := 12) (Φ := PH0 G qD) (a := 12) (b := 514) (a' := 15) (b' := 634) (fun A => mk0_init (gS G A) K.2.1 qD) (by decide +kernel) mw_66 mw_31 mw_67 rfl ⟨by decide +kernel, by decide +kernel, by decide +kernel⟩ ⟨(Nat.le_of_ble_eq_true rfl), (Nat.le_of_ble_eq_true rfl)⟩ (Nat.le_of_ble_eq_true rfl) rfl rfl (Nat.le_of_ble_eq_true rfl) (Nat.le_of_ble_eq_true rfl) dX5_init_44 (fun wD hD => ?_)
  have C8 : Ctx G (kb K 15 634) cX5_init RX5 2 2 32 := C.at (Nat.le_of_ble_eq_true rfl) (Nat.le_of_ble_eq_true rfl)
  change V G (kb K 15 634) ((h0, .inr (5, [.ref q1, .ref qT, .ref qY, .null, .null, .null, .null, .null, .long 0])) :: (((([(q1, aT G)]) ++ wT) ++ wY) ++ wD)) 47 [(0, .ref h0)] [.ref qD, .ref h0]
  refine v_putF (pc := 47) C8 (kin_kb hk) 0 (w' := (h0, .inr (5, [.ref q1, .ref qT, .ref qY, .ref qD, .null, .null, .null, .null, .long 0])) :: (((([(q1, aT G)]) ++ wT) ++ wY) ++ wD)) rfl rfl inlX5 tyX5 tyX5_ok nmX5 3 (Nat.le_of_ble_eq_true rfl) rfl mw_32 rfl rfl rfl rfl (Nat.le_of_ble_eq_true rfl) rfl dX5_init_47 ?_
  refine v_aload_n (pc := 50) C8 (F := True) 0 rfl dX5_init_50 (fun _ => ?_) trivial
  refine v_newo (pc := 51) C (Cn := RX1) (T := TX1) (N := 9) (ci := 1) (fs := [.int 0, .int 0, .int 0, .int 0, .int 0, .int 0, .int 0, .int 0, .int 0]) (a := 15) (b := 634) (a' := 16) (b' := 643) inlX1 tyX1 tyX1_ok mw_33 mw_34 mw_35 rfl (fun j hj => match j, hj with | 0, _ => rfl | 1, _ => rfl | 2, _ => rfl | 3, _ => rfl | 4, _ => rfl | 5, _ => rfl | 6, _ => rfl | 7, _ => rfl | 8, _ => rfl | n + 9, h => absurd h (by omega)) rfl rfl (Nat.le_of_ble_eq_true rfl) (Nat.le_of_ble_eq_true rfl) dX5_init_51 (fun qP => ?_)
  have C9 : Ctx G (kb K 16 643) cX5_init RX5 2 2 32 := C.at (Nat.le_of_ble_eq_true rfl) (Nat.le_of_ble_eq_true rfl)
  refine v_dup (pc := 54) C9 (F := True) dX5_init_54 rfl (fun _ => ?_) trivial
  refine v_callN (pc := 55) C (w := (h0, .inr (5, [.ref q1, .ref qT, .ref qY, .ref qD, .null, .null, .null, .null, .long 0])) :: (((([(q1, aT G)]) ++ wT) ++ wY) ++ wD)) (host := RX5) (fc := 1) (lc := 12) (Φ := PH1 G qP) (a := 16) (b := 643) (a' := 16) (b' := 643) (fun A => mk1_init (gS G A) K.2.1 qP) (by decide +kernel) mw_73 mw_35 mw_74 rfl ⟨by decide +kernel, by decide +kernel, by decide +kernel⟩ ⟨(Nat.le_of_ble_eq_true rfl), (Nat.le_of_ble_eq_true rfl)⟩ (Nat.le_of_ble_eq_true rfl) rfl rfl (Nat.le_of_ble_eq_true rfl) (Nat.le_of_ble_eq_true rfl) dX5_init_55 (fun wP hP => ?_)
  have C10 : Ctx G (kb K 16 643) cX5_init RX5 2 2 32 := C.at (Nat.le_of_ble_eq_true rfl) (Nat.le_of_ble_eq_true rfl)
  change V G (kb K 16 643) ((h0, .inr (5, [.ref q1, .ref qT, .ref qY, .ref qD, .null, .null, .null, .null, .long 0])) :: ((((([(q1, aT G)]) ++ wT) ++ wY) ++ wD) ++ wP)) 58 [(0, .ref h0)] [.ref qP, .ref h0]
  refine v_putF (pc := 58) C10 (kin_kb hk) 0 (w' := (h0, .inr (5, [.ref q1, .ref qT, .ref qY, .ref qD, .ref qP, .null, .null, .null, .long 0])) :: ((((([(q1, aT G)]) ++ wT) ++ wY) ++ wD) ++ wP)) rfl rfl inlX5 tyX5 tyX5_ok nmX5 4 (Nat.le_of_ble_eq_true rfl) rfl mw_36 rfl rfl rfl rfl (Nat.le_of_ble_eq_true rfl) rfl dX5_init_58 ?_
  refine v_aload_n (pc := 61) C10 (F := True) 0 rfl dX5_init_61 (fun _ => ?_) trivial
  refine v_iconst (pc := 62) C10 (F := True) 2 dX5_init_62 (by decide) (fun _ => ?_) trivial
  refine v_newq (pc := 63) C (N := 2) (a := 16) (b := 643) (a' := 17) (b' := 645) mw_33 (by decide) (by decide) (Nat.le_of_ble_eq_true rfl) rfl rfl (Nat.le_of_ble_eq_true rfl) (Nat.le_of_ble_eq_true rfl) dX5_init_63 (fun qI => ?_)
  have C11 : Ctx G (kb K 17 645) cX5_init RX5 2 2 32 := C.at (Nat.le_of_ble_eq_true rfl) (Nat.le_of_ble_eq_true rfl)
  change V G (kb K 17 645) ((h0, .inr (5, [.ref q1, .ref qT, .ref qY, .ref qD, .ref qP, .null, .null, .null, .long 0])) :: (((((([(q1, aT G)]) ++ wT) ++ wY) ++ wD) ++ wP) ++ [(qI, .inl (gC G 4, 2, .inr (.inr (.inr (.inr (fun _ => none))))))])) 66 [(0, .ref h0)] [.ref qI, .ref h0]
  refine v_putF (pc := 66) C11 (kin_kb hk) 0 (w' := (h0, .inr (5, [.ref q1, .ref qT, .ref qY, .ref qD, .ref qP, .ref qI, .null, .null, .long 0])) :: (((((([(q1, aT G)]) ++ wT) ++ wY) ++ wD) ++ wP) ++ [(qI, .inl (gC G 4, 2, .inr (.inr (.inr (.inr (fun _ => none))))))])) rfl rfl inlX5 tyX5 tyX5_ok nmX5 5 (Nat.le_of_ble_eq_true rfl) rfl mw_37 rfl rfl rfl rfl (Nat.le_of_ble_eq_true rfl) rfl dX5_init_66 ?_
  refine v_perm (w' := (h0, .inr (5, [.ref q1, .ref qT, .ref qY, .ref qD, .ref qP, .ref qI, .null, .null, .long 0])) :: (qI, .inl (gC G 4, 2, .inr (.inr (.inr (.inr (fun _ => none)))))) :: ((((([(q1, aT G)]) ++ wT) ++ wY) ++ wD) ++ wP)) (List.Perm.cons _ (List.perm_append_singleton _ _)) ?_
  refine v_aload_n (pc := 69) C11 (F := True) 0 rfl dX5_init_69 (fun _ => ?_) trivial
  refine v_newo (pc := 70) C (Cn := RX4) (T := TX4) (N := 6) (ci := 4) (fs := [.int 0, .int 0, .null, .null, .null, .null]) (a := 17) (b := 645) (a' := 18) (b' := 651) inlX4 tyX4 tyX4_ok mw_38 mw_39 mw_40 rfl (fun j hj => match j, hj with | 0, _ => rfl | 1, _ => rfl | 2, _ => rfl | 3, _ => rfl | 4, _ => rfl | 5, _ => rfl | n + 6, h => absurd h (by omega)) rfl rfl (Nat.le_of_ble_eq_true rfl) (Nat.le_of_ble_eq_true rfl) dX5_init_70 (fun qW => ?_)
  have C12 : Ctx G (kb K 18 651) cX5_init RX5 2 2 32 := C.at (Nat.le_of_ble_eq_true rfl) (Nat.le_of_ble_eq_true rfl)
  refine v_dup (pc := 73) C12 (F := True) dX5_init_73 rfl (fun _ => ?_) trivial
  refine v_callN (pc := 74) C (w := (h0, .inr (5, [.ref q1, .ref qT, .ref qY, .ref qD, .ref qP, .ref qI, .null, .null, .long 0])) :: (qI, .inl (gC G 4, 2, .inr (.inr (.inr (.inr (fun _ => none)))))) :: ((((([(q1, aT G)]) ++ wT) ++ wY) ++ wD) ++ wP)) (host := RX5) (fc := 1) (lc := 12) (Φ := PH4 G qW) (a := 18) (b := 651) (a' := 31) (b' := 765) (fun A => mk4_init (gS G A) K.2.1 qW) (by decide +kernel) mw_85 mw_40 mw_86 rfl ⟨by decide +kernel, by decide +kernel, by decide +kernel⟩ ⟨(Nat.le_of_ble_eq_true rfl), (Nat.le_of_ble_eq_true rfl)⟩ (Nat.le_of_ble_eq_true rfl) rfl rfl (Nat.le_of_ble_eq_true rfl) (Nat.le_of_ble_eq_true rfl) dX5_init_74 (fun wW hW => ?_)
  have C13 : Ctx G (kb K 31 765) cX5_init RX5 2 2 32 := C.at (Nat.le_of_ble_eq_true rfl) (Nat.le_of_ble_eq_true rfl)
  change V G (kb K 31 765) ((h0, .inr (5, [.ref q1, .ref qT, .ref qY, .ref qD, .ref qP, .ref qI, .null, .null, .long 0])) :: (qI, .inl (gC G 4, 2, .inr (.inr (.inr (.inr (fun _ => none)))))) :: (((((([(q1, aT G)]) ++ wT) ++ wY) ++ wD) ++ wP) ++ wW)) 77 [(0, .ref h0)] [.ref qW, .ref h0]
  refine v_put (pc := 77) C13 (F := True) 0 (w' := (h0, .inr (5, [.ref q1, .ref qT, .ref qY, .ref qD, .ref qP, .ref qI, .ref qW, .null, .long 0])) :: (qI, .inl (gC G 4, 2, .inr (.inr (.inr (.inr (fun _ => none)))))) :: (((((([(q1, aT G)]) ++ wT) ++ wY) ++ wD) ++ wP) ++ wW)) rfl rfl inlX5 tyX5 tyX5_ok nmX5 6 (Nat.le_of_ble_eq_true rfl) rfl mw_41 rfl rfl rfl (Nat.le_of_ble_eq_true rfl) rfl dX5_init_77 (fun _ => ?_) trivial
  refine v_aload_n (pc := 80) C13 (F := True) 0 rfl dX5_init_80 (fun _ => ?_) trivial
  refine v_newo (pc := 81) C (Cn := RX4) (T := TX4) (N := 6) (ci := 4) (fs := [.int 0, .int 0, .null, .null, .null, .null]) (a := 31) (b := 765) (a' := 32) (b' := 771) inlX4 tyX4 tyX4_ok mw_38 mw_39 mw_40 rfl (fun j hj => match j, hj with | 0, _ => rfl | 1, _ => rfl | 2, _ => rfl | 3, _ => rfl | 4, _ => rfl | 5, _ => rfl | n + 6, h => absurd h (by omega)) rfl rfl (Nat.le_of_ble_eq_true rfl) (Nat.le_of_ble_eq_true rfl) dX5_init_81 (fun qV => ?_)
  have C14 : Ctx G (kb K 32 771) cX5_init RX5 2 2 32 := C.at (Nat.le_of_ble_eq_true rfl) (Nat.le_of_ble_eq_true rfl)
  refine v_dup (pc := 84) C14 (F := True) dX5_init_84 rfl (fun _ => ?_) trivial
  refine v_callN (pc := 85) C (w := (h0, .inr (5, [.ref q1, .ref qT, .ref qY, .ref qD, .ref qP, .ref qI, .ref qW, .null, .long 0])) :: (qI, .inl (gC G 4, 2, .inr (.inr (.inr (.inr (fun _ => none)))))) :: (((((([(q1, aT G)]) ++ wT) ++ wY) ++ wD) ++ wP) ++ wW)) (host := RX5) (fc := 1) (lc := 12) (Φ := PH4 G qV) (a := 32) (b := 771) (a' := 45) (b' := 885) (fun A => mk4_init (gS G A) K.2.1 qV) (by decide +kernel) mw_85 mw_40 mw_86 rfl ⟨by decide +kernel, by decide +kernel, by decide +kernel⟩ ⟨(Nat.le_of_ble_eq_true rfl), (Nat.le_of_ble_eq_true rfl)⟩ (Nat.le_of_ble_eq_true rfl) rfl rfl (Nat.le_of_ble_eq_true rfl) (Nat.le_of_ble_eq_true rfl) dX5_init_85 (fun wV hV => ?_)
  have C15 : Ctx G (kb K 45 885) cX5_init RX5 2 2 32 := C.at (Nat.le_of_ble_eq_true rfl) (Nat.le_of_ble_eq_true rfl)
  change V G (kb K 45 885) ((h0, .inr (5, [.ref q1, .ref qT, .ref qY, .ref qD, .ref qP, .ref qI, .ref qW, .null, .long 0])) :: (qI, .inl (gC G 4, 2, .inr (.inr (.inr (.inr (fun _ => none)))))) :: ((((((([(q1, aT G)]) ++ wT) ++ wY) ++ wD) ++ wP) ++ wW) ++ wV)) 88 [(0, .ref h0)] [.ref qV, .ref h0]
  refine v_put (pc := 88) C15 (F := True) 0 (w' := (h0, .inr (5, [.ref q1, .ref qT, .ref qY, .ref qD, .ref qP, .ref qI, .ref qW, .ref qV, .long 0])) :: (qI, .inl (gC G 4, 2, .inr (.inr (.inr (.inr (fun _ => none)))))) :: ((((((([(q1, aT G)]) ++ wT) ++ wY) ++ wD) ++ wP) ++ wW) ++ wV)) rfl rfl inlX5 tyX5 tyX5_ok nmX5 7 (Nat.le_of_ble_eq_true rfl) rfl mw_42 rfl rfl rfl (Nat.le_of_ble_eq_true rfl) rfl dX5_init_88 (fun _ => ?_) trivial
  refine v_aload_n (pc := 91) C15 (F := True) 0 rfl dX5_init_91 (fun _ => ?_) trivial
  refine v_lconst (pc := 92) C15 (F := True) 0 dX5_init_92 (by decide) (fun _ => ?_) trivial
  refine v_put (pc := 93) C15 (F := True) 0 (w' := (h0, .inr (5, [.ref q1, .ref qT, .ref qY, .ref qD, .ref qP, .ref qI, .ref qW, .ref qV, .long 0])) :: (qI, .inl (gC G 4, 2, .inr (.inr (.inr (.inr (fun _ => none)))))) :: ((((((([(q1, aT G)]) ++ wT) ++ wY) ++ wD) ++ wP) ++ wW) ++ wV)) rfl rfl inlX5 tyX5 tyX5_ok nmX5 8 (Nat.le_of_ble_eq_true rfl) rfl mw_43 rfl rfl rfl (Nat.le_of_ble_eq_true rfl) rfl dX5_init_93 (fun _ => ?_) trivial
  refine v_iconst (pc := 96) C15 (F := True) 0 dX5_init_96 (by decide) (fun _ => ?_) trivial
  refine v_istore_n (pc := 97) C15 (F := True) (lv' := [(1, .int 0), (0, .ref h0)]) dX5_init_97 (by decide) rfl (fun _ => ?_) trivial
  refine v_iload_n (pc := 98) C15 (F := True) 0 rfl dX5_init_98 (fun _ => ?_) trivial
  refine v_aload_n (pc := 99) C15 (F := True) 1 rfl dX5_init_99 (fun _ => ?_) trivial
  refine v_get (pc := 100) C15 (F := True) 0 rfl rfl inlX5 5 (Nat.le_of_ble_eq_true rfl) rfl mw_37 rfl dX5_init_100 (fun _ => ?_) trivial
  refine v_alen (pc := 103) C15 (F := True) 1 4 rfl rfl (v := 2) rfl dX5_init_103 (fun _ => ?_) trivial
  refine (?_ : tp (if (0 : Int32) < 2 then some () else (none : Option Unit)) (fun _ => True) → _) ⟨(), by decide, trivial⟩
  refine v_icmp_ge (pc := 104) C15 126 dX5_init_104 (by decide) (fun _ => ?_) tp_no
  refine v_aload_n (pc := 107) C15 (F := True) 1 rfl dX5_init_107 (fun _ => ?_) trivial
  refine v_get (pc := 108) C15 (F := True) 0 rfl rfl inlX5 5 (Nat.le_of_ble_eq_true rfl) rfl mw_37 rfl dX5_init_108 (fun _ => ?_) trivial
  refine v_iload_n (pc := 111) C15 (F := True) 0 rfl dX5_init_111 (fun _ => ?_) trivial
  refine v_newo (pc := 112) C (Cn := RX1) (T := TX1) (N := 9) (ci := 1) (fs := [.int 0, .int 0, .int 0, .int 0, .int 0, .int 0, .int 0, .int 0, .int 0]) (a := 45) (b := 885) (a' := 46) (b' := 894) inlX1 tyX1 tyX1_ok mw_33 mw_34 mw_35 rfl (fun j hj => match j, hj with | 0, _ => rfl | 1, _ => rfl | 2, _ => rfl | 3, _ => rfl | 4, _ => rfl | 5, _ => rfl | 6, _ => rfl | 7, _ => rfl | 8, _ => rfl | n + 9, h => absurd h (by omega)) rfl rfl (Nat.le_of_ble_eq_true rfl) (Nat.le_of_ble_eq_true rfl) dX5_init_112 (fun m1 => ?_)
  have C16 : Ctx G (kb K 46 894) cX5_init RX5 2 2 32 := C.at (Nat.le_of_ble_eq_true rfl) (Nat.le_of_ble_eq_true rfl)
  refine v_dup (pc := 115) C16 (F := True) dX5_init_115 rfl (fun _ => ?_) trivial
  refine v_callN (pc := 116) C (w := (h0, .inr (5, [.ref q1, .ref qT, .ref qY, .ref qD, .ref qP, .ref qI, .ref qW, .ref qV, .long 0])) :: (qI, .inl (gC G 4, 2, .inr (.inr (.inr (.inr (fun _ => none)))))) :: ((((((([(q1, aT G)]) ++ wT) ++ wY) ++ wD) ++ wP) ++ wW) ++ wV)) (host := RX5) (fc := 1) (lc := 12) (Φ := PH1 G m1) (a := 46) (b := 894) (a' := 46) (b' := 894) (fun A => mk1_init (gS G A) K.2.1 m1) (by decide +kernel) mw_73 mw_35 mw_74 rfl ⟨by decide +kernel, by decide +kernel, by decide +kernel⟩ ⟨(Nat.le_of_ble_eq_true rfl), (Nat.le_of_ble_eq_true rfl)⟩ (Nat.le_of_ble_eq_true rfl) rfl rfl (Nat.le_of_ble_eq_true rfl) (Nat.le_of_ble_eq_true rfl) dX5_init_116 (fun wm1 hm1 => ?_)
  have C17 : Ctx G (kb K 46 894) cX5_init RX5 2 2 32 := C.at (Nat.le_of_ble_eq_true rfl) (Nat.le_of_ble_eq_true rfl)
  have hm1 : wm1 = [(m1, .inr (1, [.int 0, .int (-1), .int 0, .int 0, .int 0, .int 0, .int 0, .int 0, .int 0]))] := hm1
  subst hm1
  refine v_perm (w' := (h0, .inr (5, [.ref q1, .ref qT, .ref qY, .ref qD, .ref qP, .ref qI, .ref qW, .ref qV, .long 0])) :: (qI, .inl (gC G 4, 2, .inr (.inr (.inr (.inr (fun _ => none)))))) :: (m1, .inr (1, [.int 0, .int (-1), .int 0, .int 0, .int 0, .int 0, .int 0, .int 0, .int 0])) :: ((((((([(q1, aT G)]) ++ wT) ++ wY) ++ wD) ++ wP) ++ wW) ++ wV)) (List.Perm.cons _ (List.Perm.cons _ (List.perm_append_singleton _ _))) ?_
  refine v_astq (pc := 119) C17 1 2 1 (r := (RX1, TX1, 9)) (w' := (h0, .inr (5, [.ref q1, .ref qT, .ref qY, .ref qD, .ref qP, .ref qI, .ref qW, .ref qV, .long 0])) :: (qI, .inl (gC G 4, 2, .inr (.inr (.inr (.inr (va_up (fun _ => none) (Int32.toNatClampNeg (0)) (some m1))))))) :: (m1, .inr (1, [.int 0, .int (-1), .int 0, .int 0, .int 0, .int 0, .int 0, .int 0, .int 0])) :: ((((((([(q1, aT G)]) ++ wT) ++ wY) ++ wD) ++ wP) ++ wW) ++ wV)) rfl rfl rfl rfl (by decide) rfl dX5_init_119 ?_
  refine v_iinc (pc := 120) C17 (F := True) 1 0 (lv' := [(1, .int (0 + 1)), (0, .ref h0)]) dX5_init_120 rfl (by decide) (by decide) rfl (fun _ => ?_) trivial
  refine v_goto (pc := 123) C17 (F := True) 98 dX5_init_123 (by decide) (fun _ => ?_) trivial
  refine v_iload_n (pc := 98) C17 (F := True) 0 rfl dX5_init_98 (fun _ => ?_) trivial
  refine v_aload_n (pc := 99) C17 (F := True) 1 rfl dX5_init_99 (fun _ => ?_) trivial
  refine v_get (pc := 100) C17 (F := True) 0 rfl rfl inlX5 5 (Nat.le_of_ble_eq_true rfl) rfl mw_37 rfl dX5_init_100 (fun _ => ?_) trivial
  refine v_alen (pc := 103) C17 (F := True) 1 4 rfl rfl (v := 2) rfl dX5_init_103 (fun _ => ?_) trivial
  refine (?_ : tp (if (0 + 1 : Int32) < 2 then some () else (none : Option Unit)) (fun _ => True) → _) ⟨(), by decide, trivial⟩
  refine v_icmp_ge (pc := 104) C17 126 dX5_init_104 (by decide) (fun _ => ?_) tp_no
  refine v_aload_n (pc := 107) C17 (F := True) 1 rfl dX5_init_107 (fun _ => ?_) trivial
  refine v_get (pc := 108) C17 (F := True) 0 rfl rfl inlX5 5 (Nat.le_of_ble_eq_true rfl) rfl mw_37 rfl dX5_init_108 (fun _ => ?_) trivial
  refine v_iload_n (pc := 111) C17 (F := True) 0 rfl dX5_init_111 (fun _ => ?_) trivial
  refine v_newo (pc := 112) C (Cn := RX1) (T := TX1) (N := 9) (ci := 1) (fs := [.int 0, .int 0, .int 0, .int 0, .int 0, .int 0, .int 0, .int 0, .int 0]) (a := 46) (b := 894) (a' := 47) (b' := 903) inlX1 tyX1 tyX1_ok mw_33 mw_34 mw_35 rfl (fun j hj => match j, hj with | 0, _ => rfl | 1, _ => rfl | 2, _ => rfl | 3, _ => rfl | 4, _ => rfl | 5, _ => rfl | 6, _ => rfl | 7, _ => rfl | 8, _ => rfl | n + 9, h => absurd h (by omega)) rfl rfl (Nat.le_of_ble_eq_true rfl) (Nat.le_of_ble_eq_true rfl) dX5_init_112 (fun m2 => ?_)
  have C18 : Ctx G (kb K 47 903) cX5_init RX5 2 2 32 := C.at (Nat.le_of_ble_eq_true rfl) (Nat.le_of_ble_eq_true rfl)
  refine v_dup (pc := 115) C18 (F := True) dX5_init_115 rfl (fun _ => ?_) trivial
  refine v_callN (pc := 116) C (w := (h0, .inr (5, [.ref q1, .ref qT, .ref qY, .ref qD, .ref qP, .ref qI, .ref qW, .ref qV, .long 0])) :: (qI, .inl (gC G 4, 2, .inr (.inr (.inr (.inr (va_up (fun _ => none) (Int32.toNatClampNeg (0)) (some m1))))))) :: (m1, .inr (1, [.int 0, .int (-1), .int 0, .int 0, .int 0, .int 0, .int 0, .int 0, .int 0])) :: ((((((([(q1, aT G)]) ++ wT) ++ wY) ++ wD) ++ wP) ++ wW) ++ wV)) (host := RX5) (fc := 1) (lc := 12) (Φ := PH1 G m2) (a := 47) (b := 903) (a' := 47) (b' := 903) (fun A => mk1_init (gS G A) K.2.1 m2) (by decide +kernel) mw_73 mw_35 mw_74 rfl ⟨by decide +kernel, by decide +kernel, by decide +kernel⟩ ⟨(Nat.le_of_ble_eq_true rfl), (Nat.le_of_ble_eq_true rfl)⟩ (Nat.le_of_ble_eq_true rfl) rfl rfl (Nat.le_of_ble_eq_true rfl) (Nat.le_of_ble_eq_true rfl) dX5_init_116 (fun wm2 hm2 => ?_)
  have C19 : Ctx G (kb K 47 903) cX5_init RX5 2 2 32 := C.at (Nat.le_of_ble_eq_true rfl) (Nat.le_of_ble_eq_true rfl)
  have hm2 : wm2 = [(m2, .inr (1, [.int 0, .int (-1), .int 0, .int 0, .int 0, .int 0, .int 0, .int 0, .int 0]))] := hm2
  subst hm2
  refine v_perm (w' := (h0, .inr (5, [.ref q1, .ref qT, .ref qY, .ref qD, .ref qP, .ref qI, .ref qW, .ref qV, .long 0])) :: (qI, .inl (gC G 4, 2, .inr (.inr (.inr (.inr (va_up (fun _ => none) (Int32.toNatClampNeg (0)) (some m1))))))) :: (m2, .inr (1, [.int 0, .int (-1), .int 0, .int 0, .int 0, .int 0, .int 0, .int 0, .int 0])) :: (m1, .inr (1, [.int 0, .int (-1), .int 0, .int 0, .int 0, .int 0, .int 0, .int 0, .int 0])) :: ((((((([(q1, aT G)]) ++ wT) ++ wY) ++ wD) ++ wP) ++ wW) ++ wV)) (List.Perm.cons _ (List.Perm.cons _ (List.perm_append_singleton _ _))) ?_
  refine v_astq (pc := 119) C19 1 2 1 (r := (RX1, TX1, 9)) (w' := (h0, .inr (5, [.ref q1, .ref qT, .ref qY, .ref qD, .ref qP, .ref qI, .ref qW, .ref qV, .long 0])) :: (qI, .inl (gC G 4, 2, .inr (.inr (.inr (.inr (va_up (va_up (fun _ => none) (Int32.toNatClampNeg (0)) (some m1)) (Int32.toNatClampNeg (0 + 1)) (some m2))))))) :: (m2, .inr (1, [.int 0, .int (-1), .int 0, .int 0, .int 0, .int 0, .int 0, .int 0, .int 0])) :: (m1, .inr (1, [.int 0, .int (-1), .int 0, .int 0, .int 0, .int 0, .int 0, .int 0, .int 0])) :: ((((((([(q1, aT G)]) ++ wT) ++ wY) ++ wD) ++ wP) ++ wW) ++ wV)) rfl rfl rfl rfl (by decide) rfl dX5_init_119 ?_
  refine v_iinc (pc := 120) C19 (F := True) 1 0 (lv' := [(1, .int (0 + 1 + 1)), (0, .ref h0)]) dX5_init_120 rfl (by decide) (by decide) rfl (fun _ => ?_) trivial
  refine v_goto (pc := 123) C19 (F := True) 98 dX5_init_123 (by decide) (fun _ => ?_) trivial
  refine v_iload_n (pc := 98) C19 (F := True) 0 rfl dX5_init_98 (fun _ => ?_) trivial
  refine v_aload_n (pc := 99) C19 (F := True) 1 rfl dX5_init_99 (fun _ => ?_) trivial
  refine v_get (pc := 100) C19 (F := True) 0 rfl rfl inlX5 5 (Nat.le_of_ble_eq_true rfl) rfl mw_37 rfl dX5_init_100 (fun _ => ?_) trivial
  refine v_alen (pc := 103) C19 (F := True) 1 4 rfl rfl (v := 2) rfl dX5_init_103 (fun _ => ?_) trivial
  refine (?_ : tp (if (0 + 1 + 1 : Int32) < 2 then (none : Option Unit) else some ()) (fun _ => True) → _) ⟨(), by decide, trivial⟩
  refine v_icmp_ge (pc := 104) C19 126 dX5_init_104 (by decide) tp_no (fun _ => ?_)
  obtain ⟨t1, rfl⟩ := hT
  obtain ⟨y1, y2, y3, y4, y5, y6, y7, rfl⟩ := hY
  obtain ⟨d1, d2, d3, rfl⟩ := hD
  have hP : wP = [(qP, .inr (1, [.int 0, .int (-1), .int 0, .int 0, .int 0, .int 0, .int 0, .int 0, .int 0]))] := hP
  subst hP
  obtain ⟨aw, f1, g1, rfl, hf1, hg1, rfl⟩ := hW
  obtain ⟨av, f2, g2, rfl, hf2, hg2, rfl⟩ := hV
  have e1 : f1 = fun i => if i < 6 then some ((ax5 [h0, q1, qT, t1, qY, y1, y2, y3, y4, y5, y6, y7, qD, d1, d2, d3, qI, qP, m1, m2] aw av) (22 + i)) else none := funext fun i => (hf1 i).trans (ax5_w _ _ _ 6 2 22 (by omega) (by omega) (by omega) i)
  have e2 : g1 = fun i => if i < 3 then some ((ax5 [h0, q1, qT, t1, qY, y1, y2, y3, y4, y5, y6, y7, qD, d1, d2, d3, qI, qP, m1, m2] aw av) (29 + i)) else none := funext fun i => (hg1 i).trans (ax5_w _ _ _ 3 9 29 (by omega) (by omega) (by omega) i)
  have e3 : f2 = fun i => if i < 6 then some ((ax5 [h0, q1, qT, t1, qY, y1, y2, y3, y4, y5, y6, y7, qD, d1, d2, d3, qI, qP, m1, m2] aw av) (36 + i)) else none := funext fun i => (hf2 i).trans (ax5_v _ _ _ 6 2 36 (by omega) (by omega) i)
  have e4 : g2 = fun i => if i < 3 then some ((ax5 [h0, q1, qT, t1, qY, y1, y2, y3, y4, y5, y6, y7, qD, d1, d2, d3, qI, qP, m1, m2] aw av) (43 + i)) else none := funext fun i => (hg2 i).trans (ax5_v _ _ _ 3 9 43 (by omega) (by omega) i)
  have e5 : (va_up (va_up (fun _ => none) (Int32.toNatClampNeg (0)) (some m1)) (Int32.toNatClampNeg (0 + 1)) (some m2)) = fun i => if i < 2 then some ((ax5 [h0, q1, qT, t1, qY, y1, y2, y3, y4, y5, y6, y7, qD, d1, d2, d3, qI, qP, m1, m2] aw av) (17 + (1 + i))) else none := funext fun i => ax5_i m1 m2 _ rfl rfl i
  rw [e5]
  subst e1 e2 e3 e4
  refine v_pick (w' := wX (gX G (ax5 [h0, q1, qT, t1, qY, y1, y2, y3, y4, y5, y6, y7, qD, d1, d2, d3, qI, qP, m1, m2] aw av)) σz) [0, 4, 5, 6, 7, 8, 9, 10, 11, 12, 13, 14, 15, 16, 17, 18, 1, 19, 3, 2, 20, 21, 22, 23, 24, 25, 26, 27, 28, 29, 30, 31, 32, 33, 34, 35, 36, 37, 38, 39, 40, 41, 42, 43, 44, 45, 46, 47] rfl rfl ?_
  have D9 : Ctx (gX G (ax5 [h0, q1, qT, t1, qY, y1, y2, y3, y4, y5, y6, y7, qD, d1, d2, d3, qI, qP, m1, m2] aw av)) (kb K 47 903) cX5_init RX5 2 2 32 := C19.gX
  change V (gX G (ax5 [h0, q1, qT, t1, qY, y1, y2, y3, y4, y5, y6, y7, qD, d1, d2, d3, qI, qP, m1, m2] aw av)) (kb K 47 903) (wX (gX G (ax5 [h0, q1, qT, t1, qY, y1, y2, y3, y4, y5, y6, y7, qD, d1, d2, d3, qI, qP, m1, m2] aw av)) σz) 126 [(1, .int (0 + 1 + 1)), (0, .ref (aX (gX G (ax5 [h0, q1, qT, t1, qY, y1, y2, y3, y4, y5, y6, y7, qD, d1, d2, d3, qI, qP, m1, m2] aw av)) 0))] []
  refine v_aload_n (pc := 126) D9 (F := True) 1 rfl dX5_init_126 (fun _ => ?_) trivial
  refine g5_present (pc := 127) D9 (F := True) mw_36 dX5_init_127 (fun _ => ?_) trivial
  refine v_iconst (pc := 130) D9 (F := True) 1 dX5_init_130 (by decide) (fun _ => ?_) trivial
  refine p1_lot (pc := 131) 0 (by decide) D9 (F := True) mw_44 dX5_init_131 (fun _ => ?_) trivial
  exact hret _ _ _ ⟨(ax5 [h0, q1, qT, t1, qY, y1, y2, y3, y4, y5, y6, y7, qD, d1, d2, d3, qI, qP, m1, m2] aw av), rfl, rfl⟩ dX5_init_134
