/-! the constructors, by program (gen_make.py) -/
def aI (G : GT) (n : Nat) : va_E := .inl (gC G 0, n, .inl (fun _ => 0))
def aL (G : GT) (n : Nat) : va_E := .inl (gC G 1, n, .inr (.inl (fun _ => 0)))
def aY (G : GT) (n : Nat) : va_E := .inl (gC G 2, n, .inl (fun _ => 0))
def aZ (G : GT) (n : Nat) : va_E := .inl (gC G 3, n, .inl (fun _ => 0))
def PH0 (G : GT) (h0 : Nat) (w : va_W) : Prop := ∃ a b c : Nat, w = [(h0, .inr (0, [.int 0, .ref a, .ref b, .ref c])), (a, aI G 40), (b, aI G 40), (c, aI G 40)]
set_option maxHeartbeats 8000000 in
set_option maxRecDepth 100000 in
theorem mk0_init (G : GT) (l : Launch) (h0 : Nat) : MC G l yX0_init cX0_init 1 1 12 3 120 [.ref h0] [(h0, .inr (0, [.int 0, .null, .null, .null]))] (PH0 G h0) := by
  refine MC.start (by decide +kernel) rfl (Nat.le_of_ble_eq_true rfl) (fun K hl hk C hret => ?_)
  subst hl
  have C : CN G K cX0_init RX0 1 1 12 3 120 := C
  have C1 : Ctx G (kb K 0 0) cX0_init RX0 1 1 12 := C.at (Nat.le_of_ble_eq_true rfl) (Nat.le_of_ble_eq_true rfl)
  change V G (kb K 0 0) [(h0, .inr (0, [.int 0, .null, .null, .null]))] 0 [(0, .ref h0)] []
  refine v_aload_n (pc := 0) C1 (F := True) 0 rfl dX0_init_0 (fun _ => ?_) trivial
  refine v_objI (pc := 1) C1 (F := True) mw_68 (Nat.le_of_ble_eq_true rfl) (Nat.le_of_ble_eq_true rfl) dX0_init_1 (fun _ => ?_) trivial
  refine v_aload_n (pc := 4) C1 (F := True) 0 rfl dX0_init_4 (fun _ => ?_) trivial
  refine v_iconst (pc := 5) C1 (F := True) 0 dX0_init_5 (by decide) (fun _ => ?_) trivial
  refine v_put (pc := 6) C1 (F := True) 0 (w' := [(h0, .inr (0, [.int 0, .null, .null, .null]))]) rfl rfl inlX0 tyX0 tyX0_ok nmX0 0 (Nat.le_of_ble_eq_true rfl) rfl mw_69 rfl rfl rfl (Nat.le_of_ble_eq_true rfl) rfl dX0_init_6 (fun _ => ?_) trivial
  refine v_aload_n (pc := 9) C1 (F := True) 0 rfl dX0_init_9 (fun _ => ?_) trivial
  refine v_bipush (pc := 10) C1 (F := True) 40 dX0_init_10 (by decide) (fun _ => ?_) trivial
  refine v_newa (pc := 12) C 0 (atype := .int) (ty := .int) (N := 40) (z := (40, .inl (fun _ => 0))) (a := 0) (b := 0) (a' := 1) (b' := 40) rfl (fun C h => by cases h) mw_48 rfl (fun _ => rfl) (by decide) (by decide) (Nat.le_of_ble_eq_true rfl) rfl rfl (Nat.le_of_ble_eq_true rfl) (Nat.le_of_ble_eq_true rfl) dX0_init_12 (fun q1 => ?_)
  have C2 : Ctx G (kb K 1 40) cX0_init RX0 1 1 12 := C.at (Nat.le_of_ble_eq_true rfl) (Nat.le_of_ble_eq_true rfl)
  change V G (kb K 1 40) [(h0, .inr (0, [.int 0, .null, .null, .null])), (q1, aI G 40)] 14 [(0, .ref h0)] [.ref q1, .ref h0]
  refine v_putF (pc := 14) C2 (kin_kb hk) 0 (w' := [(h0, .inr (0, [.int 0, .ref q1, .null, .null])), (q1, aI G 40)]) rfl rfl inlX0 tyX0 tyX0_ok nmX0 1 (Nat.le_of_ble_eq_true rfl) rfl mw_70 rfl rfl rfl rfl (Nat.le_of_ble_eq_true rfl) rfl dX0_init_14 ?_
  refine v_aload_n (pc := 17) C2 (F := True) 0 rfl dX0_init_17 (fun _ => ?_) trivial
  refine v_bipush (pc := 18) C2 (F := True) 40 dX0_init_18 (by decide) (fun _ => ?_) trivial
  refine v_newa (pc := 20) C 0 (atype := .int) (ty := .int) (N := 40) (z := (40, .inl (fun _ => 0))) (a := 1) (b := 40) (a' := 2) (b' := 80) rfl (fun C h => by cases h) mw_48 rfl (fun _ => rfl) (by decide) (by decide) (Nat.le_of_ble_eq_true rfl) rfl rfl (Nat.le_of_ble_eq_true rfl) (Nat.le_of_ble_eq_true rfl) dX0_init_20 (fun q2 => ?_)
  have C3 : Ctx G (kb K 2 80) cX0_init RX0 1 1 12 := C.at (Nat.le_of_ble_eq_true rfl) (Nat.le_of_ble_eq_true rfl)
  change V G (kb K 2 80) [(h0, .inr (0, [.int 0, .ref q1, .null, .null])), (q1, aI G 40), (q2, aI G 40)] 22 [(0, .ref h0)] [.ref q2, .ref h0]
  refine v_putF (pc := 22) C3 (kin_kb hk) 0 (w' := [(h0, .inr (0, [.int 0, .ref q1, .ref q2, .null])), (q1, aI G 40), (q2, aI G 40)]) rfl rfl inlX0 tyX0 tyX0_ok nmX0 2 (Nat.le_of_ble_eq_true rfl) rfl mw_71 rfl rfl rfl rfl (Nat.le_of_ble_eq_true rfl) rfl dX0_init_22 ?_
  refine v_aload_n (pc := 25) C3 (F := True) 0 rfl dX0_init_25 (fun _ => ?_) trivial
  refine v_bipush (pc := 26) C3 (F := True) 40 dX0_init_26 (by decide) (fun _ => ?_) trivial
  refine v_newa (pc := 28) C 0 (atype := .int) (ty := .int) (N := 40) (z := (40, .inl (fun _ => 0))) (a := 2) (b := 80) (a' := 3) (b' := 120) rfl (fun C h => by cases h) mw_48 rfl (fun _ => rfl) (by decide) (by decide) (Nat.le_of_ble_eq_true rfl) rfl rfl (Nat.le_of_ble_eq_true rfl) (Nat.le_of_ble_eq_true rfl) dX0_init_28 (fun q3 => ?_)
  have C4 : Ctx G (kb K 3 120) cX0_init RX0 1 1 12 := C.at (Nat.le_of_ble_eq_true rfl) (Nat.le_of_ble_eq_true rfl)
  change V G (kb K 3 120) [(h0, .inr (0, [.int 0, .ref q1, .ref q2, .null])), (q1, aI G 40), (q2, aI G 40), (q3, aI G 40)] 30 [(0, .ref h0)] [.ref q3, .ref h0]
  refine v_putF (pc := 30) C4 (kin_kb hk) 0 (w' := [(h0, .inr (0, [.int 0, .ref q1, .ref q2, .ref q3])), (q1, aI G 40), (q2, aI G 40), (q3, aI G 40)]) rfl rfl inlX0 tyX0 tyX0_ok nmX0 3 (Nat.le_of_ble_eq_true rfl) rfl mw_72 rfl rfl rfl rfl (Nat.le_of_ble_eq_true rfl) rfl dX0_init_30 ?_
  exact hret _ _ _ ⟨q1, q2, q3, rfl⟩ dX0_init_33
def PH1 (_ : GT) (h0 : Nat) (w : va_W) : Prop := w = [(h0, .inr (1, [.int 0, .int (-1), .int 0, .int 0, .int 0, .int 0, .int 0, .int 0, .int 0]))]
set_option maxHeartbeats 8000000 in
set_option maxRecDepth 100000 in
theorem mk1_init (G : GT) (l : Launch) (h0 : Nat) : MC G l yX1_init cX1_init 1 1 12 0 0 [.ref h0] [(h0, .inr (1, [.int 0, .int 0, .int 0, .int 0, .int 0, .int 0, .int 0, .int 0, .int 0]))] (PH1 G h0) := by
  refine MC.start (by decide +kernel) rfl (Nat.le_of_ble_eq_true rfl) (fun K hl hk C hret => ?_)
  subst hl
  have C : CN G K cX1_init RX1 1 1 12 0 0 := C
  have C1 : Ctx G (kb K 0 0) cX1_init RX1 1 1 12 := C.at (Nat.le_of_ble_eq_true rfl) (Nat.le_of_ble_eq_true rfl)
  change V G (kb K 0 0) [(h0, .inr (1, [.int 0, .int 0, .int 0, .int 0, .int 0, .int 0, .int 0, .int 0, .int 0]))] 0 [(0, .ref h0)] []
  refine v_aload_n (pc := 0) C1 (F := True) 0 rfl dX1_init_0 (fun _ => ?_) trivial
  refine v_objI (pc := 1) C1 (F := True) mw_75 (Nat.le_of_ble_eq_true rfl) (Nat.le_of_ble_eq_true rfl) dX1_init_1 (fun _ => ?_) trivial
  refine v_aload_n (pc := 4) C1 (F := True) 0 rfl dX1_init_4 (fun _ => ?_) trivial
  refine v_iconst (pc := 5) C1 (F := True) 0 dX1_init_5 (by decide) (fun _ => ?_) trivial
  refine v_put (pc := 6) C1 (F := True) 0 (w' := [(h0, .inr (1, [.int 0, .int 0, .int 0, .int 0, .int 0, .int 0, .int 0, .int 0, .int 0]))]) rfl rfl inlX1 tyX1 tyX1_ok nmX1 0 (Nat.le_of_ble_eq_true rfl) rfl mw_76 rfl rfl rfl (Nat.le_of_ble_eq_true rfl) rfl dX1_init_6 (fun _ => ?_) trivial
  refine v_aload_n (pc := 9) C1 (F := True) 0 rfl dX1_init_9 (fun _ => ?_) trivial
  refine v_iconst (pc := 10) C1 (F := True) (-1) dX1_init_10 (by decide) (fun _ => ?_) trivial
  refine v_put (pc := 11) C1 (F := True) 0 (w' := [(h0, .inr (1, [.int 0, .int (-1), .int 0, .int 0, .int 0, .int 0, .int 0, .int 0, .int 0]))]) rfl rfl inlX1 tyX1 tyX1_ok nmX1 1 (Nat.le_of_ble_eq_true rfl) rfl mw_77 rfl rfl rfl (Nat.le_of_ble_eq_true rfl) rfl dX1_init_11 (fun _ => ?_) trivial
  refine v_aload_n (pc := 14) C1 (F := True) 0 rfl dX1_init_14 (fun _ => ?_) trivial
  refine v_iconst (pc := 15) C1 (F := True) 0 dX1_init_15 (by decide) (fun _ => ?_) trivial
  refine v_put (pc := 16) C1 (F := True) 0 (w' := [(h0, .inr (1, [.int 0, .int (-1), .int 0, .int 0, .int 0, .int 0, .int 0, .int 0, .int 0]))]) rfl rfl inlX1 tyX1 tyX1_ok nmX1 2 (Nat.le_of_ble_eq_true rfl) rfl mw_78 rfl rfl rfl (Nat.le_of_ble_eq_true rfl) rfl dX1_init_16 (fun _ => ?_) trivial
  refine v_aload_n (pc := 19) C1 (F := True) 0 rfl dX1_init_19 (fun _ => ?_) trivial
  refine v_iconst (pc := 20) C1 (F := True) 0 dX1_init_20 (by decide) (fun _ => ?_) trivial
  refine v_put (pc := 21) C1 (F := True) 0 (w' := [(h0, .inr (1, [.int 0, .int (-1), .int 0, .int 0, .int 0, .int 0, .int 0, .int 0, .int 0]))]) rfl rfl inlX1 tyX1 tyX1_ok nmX1 3 (Nat.le_of_ble_eq_true rfl) rfl mw_79 rfl rfl rfl (Nat.le_of_ble_eq_true rfl) rfl dX1_init_21 (fun _ => ?_) trivial
  refine v_aload_n (pc := 24) C1 (F := True) 0 rfl dX1_init_24 (fun _ => ?_) trivial
  refine v_iconst (pc := 25) C1 (F := True) 0 dX1_init_25 (by decide) (fun _ => ?_) trivial
  refine v_put (pc := 26) C1 (F := True) 0 (w' := [(h0, .inr (1, [.int 0, .int (-1), .int 0, .int 0, .int 0, .int 0, .int 0, .int 0, .int 0]))]) rfl rfl inlX1 tyX1 tyX1_ok nmX1 4 (Nat.le_of_ble_eq_true rfl) rfl mw_80 rfl rfl rfl (Nat.le_of_ble_eq_true rfl) rfl dX1_init_26 (fun _ => ?_) trivial
  refine v_aload_n (pc := 29) C1 (F := True) 0 rfl dX1_init_29 (fun _ => ?_) trivial
  refine v_iconst (pc := 30) C1 (F := True) 0 dX1_init_30 (by decide) (fun _ => ?_) trivial
  refine v_put (pc := 31) C1 (F := True) 0 (w' := [(h0, .inr (1, [.int 0, .int (-1), .int 0, .int 0, .int 0, .int 0, .int 0, .int 0, .int 0]))]) rfl rfl inlX1 tyX1 tyX1_ok nmX1 5 (Nat.le_of_ble_eq_true rfl) rfl mw_81 rfl rfl rfl (Nat.le_of_ble_eq_true rfl) rfl dX1_init_31 (fun _ => ?_) trivial
  refine v_aload_n (pc := 34) C1 (F := True) 0 rfl dX1_init_34 (fun _ => ?_) trivial
  refine v_iconst (pc := 35) C1 (F := True) 0 dX1_init_35 (by decide) (fun _ => ?_) trivial
  refine v_put (pc := 36) C1 (F := True) 0 (w' := [(h0, .inr (1, [.int 0, .int (-1), .int 0, .int 0, .int 0, .int 0, .int 0, .int 0, .int 0]))]) rfl rfl inlX1 tyX1 tyX1_ok nmX1 6 (Nat.le_of_ble_eq_true rfl) rfl mw_82 rfl rfl rfl (Nat.le_of_ble_eq_true rfl) rfl dX1_init_36 (fun _ => ?_) trivial
  refine v_aload_n (pc := 39) C1 (F := True) 0 rfl dX1_init_39 (fun _ => ?_) trivial
  refine v_iconst (pc := 40) C1 (F := True) 0 dX1_init_40 (by decide) (fun _ => ?_) trivial
  refine v_put (pc := 41) C1 (F := True) 0 (w' := [(h0, .inr (1, [.int 0, .int (-1), .int 0, .int 0, .int 0, .int 0, .int 0, .int 0, .int 0]))]) rfl rfl inlX1 tyX1 tyX1_ok nmX1 7 (Nat.le_of_ble_eq_true rfl) rfl mw_83 rfl rfl rfl (Nat.le_of_ble_eq_true rfl) rfl dX1_init_41 (fun _ => ?_) trivial
  refine v_aload_n (pc := 44) C1 (F := True) 0 rfl dX1_init_44 (fun _ => ?_) trivial
  refine v_iconst (pc := 45) C1 (F := True) 0 dX1_init_45 (by decide) (fun _ => ?_) trivial
  refine v_put (pc := 46) C1 (F := True) 0 (w' := [(h0, .inr (1, [.int 0, .int (-1), .int 0, .int 0, .int 0, .int 0, .int 0, .int 0, .int 0]))]) rfl rfl inlX1 tyX1 tyX1_ok nmX1 8 (Nat.le_of_ble_eq_true rfl) rfl mw_84 rfl rfl rfl (Nat.le_of_ble_eq_true rfl) rfl dX1_init_46 (fun _ => ?_) trivial
  exact hret _ _ _ rfl dX1_init_49
def PH2 (G : GT) (h0 : Nat) (w : va_W) : Prop := ∃ a : Nat, w = [(h0, .inr (2, [.ref a, .int 0, .int 0, .int 0, .int 0, .int 0])), (a, aI G 400)]
set_option maxHeartbeats 8000000 in
set_option maxRecDepth 100000 in
theorem mk2_init (G : GT) (l : Launch) (h0 : Nat) : MC G l yX2_init cX2_init 1 1 12 1 400 [.ref h0] [(h0, .inr (2, [.null, .int 0, .int 0, .int 0, .int 0, .int 0]))] (PH2 G h0) := by
  refine MC.start (by decide +kernel) rfl (Nat.le_of_ble_eq_true rfl) (fun K hl hk C hret => ?_)
  subst hl
  have C : CN G K cX2_init RX2 1 1 12 1 400 := C
  have C1 : Ctx G (kb K 0 0) cX2_init RX2 1 1 12 := C.at (Nat.le_of_ble_eq_true rfl) (Nat.le_of_ble_eq_true rfl)
  change V G (kb K 0 0) [(h0, .inr (2, [.null, .int 0, .int 0, .int 0, .int 0, .int 0]))] 0 [(0, .ref h0)] []
  refine v_aload_n (pc := 0) C1 (F := True) 0 rfl dX2_init_0 (fun _ => ?_) trivial
  refine v_objI (pc := 1) C1 (F := True) mw_47 (Nat.le_of_ble_eq_true rfl) (Nat.le_of_ble_eq_true rfl) dX2_init_1 (fun _ => ?_) trivial
  refine v_aload_n (pc := 4) C1 (F := True) 0 rfl dX2_init_4 (fun _ => ?_) trivial
  refine v_sipush (pc := 5) C1 (F := True) 400 dX2_init_5 (by decide) (fun _ => ?_) trivial
  refine v_newa (pc := 8) C 0 (atype := .int) (ty := .int) (N := 400) (z := (400, .inl (fun _ => 0))) (a := 0) (b := 0) (a' := 1) (b' := 400) rfl (fun C h => by cases h) mw_48 rfl (fun _ => rfl) (by decide) (by decide) (Nat.le_of_ble_eq_true rfl) rfl rfl (Nat.le_of_ble_eq_true rfl) (Nat.le_of_ble_eq_true rfl) dX2_init_8 (fun q1 => ?_)
  have C2 : Ctx G (kb K 1 400) cX2_init RX2 1 1 12 := C.at (Nat.le_of_ble_eq_true rfl) (Nat.le_of_ble_eq_true rfl)
  change V G (kb K 1 400) [(h0, .inr (2, [.null, .int 0, .int 0, .int 0, .int 0, .int 0])), (q1, aI G 400)] 10 [(0, .ref h0)] [.ref q1, .ref h0]
  refine v_putF (pc := 10) C2 (kin_kb hk) 0 (w' := [(h0, .inr (2, [.ref q1, .int 0, .int 0, .int 0, .int 0, .int 0])), (q1, aI G 400)]) rfl rfl inlX2 tyX2 tyX2_ok nmX2 0 (Nat.le_of_ble_eq_true rfl) rfl mw_49 rfl rfl rfl rfl (Nat.le_of_ble_eq_true rfl) rfl dX2_init_10 ?_
  refine v_aload_n (pc := 13) C2 (F := True) 0 rfl dX2_init_13 (fun _ => ?_) trivial
  refine v_iconst (pc := 14) C2 (F := True) 0 dX2_init_14 (by decide) (fun _ => ?_) trivial
  refine v_put (pc := 15) C2 (F := True) 0 (w' := [(h0, .inr (2, [.ref q1, .int 0, .int 0, .int 0, .int 0, .int 0])), (q1, aI G 400)]) rfl rfl inlX2 tyX2 tyX2_ok nmX2 1 (Nat.le_of_ble_eq_true rfl) rfl mw_50 rfl rfl rfl (Nat.le_of_ble_eq_true rfl) rfl dX2_init_15 (fun _ => ?_) trivial
  refine v_aload_n (pc := 18) C2 (F := True) 0 rfl dX2_init_18 (fun _ => ?_) trivial
  refine v_iconst (pc := 19) C2 (F := True) 0 dX2_init_19 (by decide) (fun _ => ?_) trivial
  refine v_put (pc := 20) C2 (F := True) 0 (w' := [(h0, .inr (2, [.ref q1, .int 0, .int 0, .int 0, .int 0, .int 0])), (q1, aI G 400)]) rfl rfl inlX2 tyX2 tyX2_ok nmX2 2 (Nat.le_of_ble_eq_true rfl) rfl mw_51 rfl rfl rfl (Nat.le_of_ble_eq_true rfl) rfl dX2_init_20 (fun _ => ?_) trivial
  refine v_aload_n (pc := 23) C2 (F := True) 0 rfl dX2_init_23 (fun _ => ?_) trivial
  refine v_iconst (pc := 24) C2 (F := True) 0 dX2_init_24 (by decide) (fun _ => ?_) trivial
  refine v_put (pc := 25) C2 (F := True) 0 (w' := [(h0, .inr (2, [.ref q1, .int 0, .int 0, .int 0, .int 0, .int 0])), (q1, aI G 400)]) rfl rfl inlX2 tyX2 tyX2_ok nmX2 3 (Nat.le_of_ble_eq_true rfl) rfl mw_52 rfl rfl rfl (Nat.le_of_ble_eq_true rfl) rfl dX2_init_25 (fun _ => ?_) trivial
  refine v_aload_n (pc := 28) C2 (F := True) 0 rfl dX2_init_28 (fun _ => ?_) trivial
  refine v_iconst (pc := 29) C2 (F := True) 0 dX2_init_29 (by decide) (fun _ => ?_) trivial
  refine v_put (pc := 30) C2 (F := True) 0 (w' := [(h0, .inr (2, [.ref q1, .int 0, .int 0, .int 0, .int 0, .int 0])), (q1, aI G 400)]) rfl rfl inlX2 tyX2 tyX2_ok nmX2 4 (Nat.le_of_ble_eq_true rfl) rfl mw_53 rfl rfl rfl (Nat.le_of_ble_eq_true rfl) rfl dX2_init_30 (fun _ => ?_) trivial
  refine v_aload_n (pc := 33) C2 (F := True) 0 rfl dX2_init_33 (fun _ => ?_) trivial
  refine v_iconst (pc := 34) C2 (F := True) 0 dX2_init_34 (by decide) (fun _ => ?_) trivial
  refine v_put (pc := 35) C2 (F := True) 0 (w' := [(h0, .inr (2, [.ref q1, .int 0, .int 0, .int 0, .int 0, .int 0])), (q1, aI G 400)]) rfl rfl inlX2 tyX2 tyX2_ok nmX2 5 (Nat.le_of_ble_eq_true rfl) rfl mw_54 rfl rfl rfl (Nat.le_of_ble_eq_true rfl) rfl dX2_init_35 (fun _ => ?_) trivial
  exact hret _ _ _ ⟨q1, rfl⟩ dX2_init_38
def PH3 (G : GT) (h0 : Nat) (w : va_W) : Prop := ∃ a b c d e f g : Nat, w = [(h0, .inr (3, [.ref a, .ref b, .ref c, .ref d, .ref e, .ref f, .ref g])), (a, aI G 13), (b, aI G 13), (c, aI G 13), (d, aL G 13), (e, aL G 13), (f, aL G 13), (g, aL G 13)]
set_option maxHeartbeats 8000000 in
set_option maxRecDepth 100000 in
theorem mk3_init (G : GT) (l : Launch) (h0 : Nat) : MC G l yX3_init cX3_init 1 1 12 7 91 [.ref h0] [(h0, .inr (3, [.null, .null, .null, .null, .null, .null, .null]))] (PH3 G h0) := by
  refine MC.start (by decide +kernel) rfl (Nat.le_of_ble_eq_true rfl) (fun K hl hk C hret => ?_)
  subst hl
  have C : CN G K cX3_init RX3 1 1 12 7 91 := C
  have C1 : Ctx G (kb K 0 0) cX3_init RX3 1 1 12 := C.at (Nat.le_of_ble_eq_true rfl) (Nat.le_of_ble_eq_true rfl)
  change V G (kb K 0 0) [(h0, .inr (3, [.null, .null, .null, .null, .null, .null, .null]))] 0 [(0, .ref h0)] []
  refine v_aload_n (pc := 0) C1 (F := True) 0 rfl dX3_init_0 (fun _ => ?_) trivial
  refine v_objI (pc := 1) C1 (F := True) mw_57 (Nat.le_of_ble_eq_true rfl) (Nat.le_of_ble_eq_true rfl) dX3_init_1 (fun _ => ?_) trivial
  refine v_aload_n (pc := 4) C1 (F := True) 0 rfl dX3_init_4 (fun _ => ?_) trivial
  refine v_bipush (pc := 5) C1 (F := True) 13 dX3_init_5 (by decide) (fun _ => ?_) trivial
  refine v_newa (pc := 7) C 0 (atype := .int) (ty := .int) (N := 13) (z := (13, .inl (fun _ => 0))) (a := 0) (b := 0) (a' := 1) (b' := 13) rfl (fun C h => by cases h) mw_48 rfl (fun _ => rfl) (by decide) (by decide) (Nat.le_of_ble_eq_true rfl) rfl rfl (Nat.le_of_ble_eq_true rfl) (Nat.le_of_ble_eq_true rfl) dX3_init_7 (fun q1 => ?_)
  have C2 : Ctx G (kb K 1 13) cX3_init RX3 1 1 12 := C.at (Nat.le_of_ble_eq_true rfl) (Nat.le_of_ble_eq_true rfl)
  change V G (kb K 1 13) [(h0, .inr (3, [.null, .null, .null, .null, .null, .null, .null])), (q1, aI G 13)] 9 [(0, .ref h0)] [.ref q1, .ref h0]
  refine v_putF (pc := 9) C2 (kin_kb hk) 0 (w' := [(h0, .inr (3, [.ref q1, .null, .null, .null, .null, .null, .null])), (q1, aI G 13)]) rfl rfl inlX3 tyX3 tyX3_ok nmX3 0 (Nat.le_of_ble_eq_true rfl) rfl mw_58 rfl rfl rfl rfl (Nat.le_of_ble_eq_true rfl) rfl dX3_init_9 ?_
  refine v_aload_n (pc := 12) C2 (F := True) 0 rfl dX3_init_12 (fun _ => ?_) trivial
  refine v_bipush (pc := 13) C2 (F := True) 13 dX3_init_13 (by decide) (fun _ => ?_) trivial
  refine v_newa (pc := 15) C 0 (atype := .int) (ty := .int) (N := 13) (z := (13, .inl (fun _ => 0))) (a := 1) (b := 13) (a' := 2) (b' := 26) rfl (fun C h => by cases h) mw_48 rfl (fun _ => rfl) (by decide) (by decide) (Nat.le_of_ble_eq_true rfl) rfl rfl (Nat.le_of_ble_eq_true rfl) (Nat.le_of_ble_eq_true rfl) dX3_init_15 (fun q2 => ?_)
  have C3 : Ctx G (kb K 2 26) cX3_init RX3 1 1 12 := C.at (Nat.le_of_ble_eq_true rfl) (Nat.le_of_ble_eq_true rfl)
  change V G (kb K 2 26) [(h0, .inr (3, [.ref q1, .null, .null, .null, .null, .null, .null])), (q1, aI G 13), (q2, aI G 13)] 17 [(0, .ref h0)] [.ref q2, .ref h0]
  refine v_putF (pc := 17) C3 (kin_kb hk) 0 (w' := [(h0, .inr (3, [.ref q1, .ref q2, .null, .null, .null, .null, .null])), (q1, aI G 13), (q2, aI G 13)]) rfl rfl inlX3 tyX3 tyX3_ok nmX3 1 (Nat.le_of_ble_eq_true rfl) rfl mw_59 rfl rfl rfl rfl (Nat.le_of_ble_eq_true rfl) rfl dX3_init_17 ?_
  refine v_aload_n (pc := 20) C3 (F := True) 0 rfl dX3_init_20 (fun _ => ?_) trivial
  refine v_bipush (pc := 21) C3 (F := True) 13 dX3_init_21 (by decide) (fun _ => ?_) trivial
  refine v_newa (pc := 23) C 0 (atype := .int) (ty := .int) (N := 13) (z := (13, .inl (fun _ => 0))) (a := 2) (b := 26) (a' := 3) (b' := 39) rfl (fun C h => by cases h) mw_48 rfl (fun _ => rfl) (by decide) (by decide) (Nat.le_of_ble_eq_true rfl) rfl rfl (Nat.le_of_ble_eq_true rfl) (Nat.le_of_ble_eq_true rfl) dX3_init_23 (fun q3 => ?_)
  have C4 : Ctx G (kb K 3 39) cX3_init RX3 1 1 12 := C.at (Nat.le_of_ble_eq_true rfl) (Nat.le_of_ble_eq_true rfl)
  change V G (kb K 3 39) [(h0, .inr (3, [.ref q1, .ref q2, .null, .null, .null, .null, .null])), (q1, aI G 13), (q2, aI G 13), (q3, aI G 13)] 25 [(0, .ref h0)] [.ref q3, .ref h0]
  refine v_putF (pc := 25) C4 (kin_kb hk) 0 (w' := [(h0, .inr (3, [.ref q1, .ref q2, .ref q3, .null, .null, .null, .null])), (q1, aI G 13), (q2, aI G 13), (q3, aI G 13)]) rfl rfl inlX3 tyX3 tyX3_ok nmX3 2 (Nat.le_of_ble_eq_true rfl) rfl mw_60 rfl rfl rfl rfl (Nat.le_of_ble_eq_true rfl) rfl dX3_init_25 ?_
  refine v_aload_n (pc := 28) C4 (F := True) 0 rfl dX3_init_28 (fun _ => ?_) trivial
  refine v_bipush (pc := 29) C4 (F := True) 13 dX3_init_29 (by decide) (fun _ => ?_) trivial
  refine v_newa (pc := 31) C 1 (atype := .long) (ty := .long) (N := 13) (z := (13, .inr (.inl (fun _ => 0)))) (a := 3) (b := 39) (a' := 4) (b' := 52) rfl (fun C h => by cases h) mw_61 rfl (fun _ => rfl) (by decide) (by decide) (Nat.le_of_ble_eq_true rfl) rfl rfl (Nat.le_of_ble_eq_true rfl) (Nat.le_of_ble_eq_true rfl) dX3_init_31 (fun q4 => ?_)
  have C5 : Ctx G (kb K 4 52) cX3_init RX3 1 1 12 := C.at (Nat.le_of_ble_eq_true rfl) (Nat.le_of_ble_eq_true rfl)
  change V G (kb K 4 52) [(h0, .inr (3, [.ref q1, .ref q2, .ref q3, .null, .null, .null, .null])), (q1, aI G 13), (q2, aI G 13), (q3, aI G 13), (q4, aL G 13)] 33 [(0, .ref h0)] [.ref q4, .ref h0]
  refine v_putF (pc := 33) C5 (kin_kb hk) 0 (w' := [(h0, .inr (3, [.ref q1, .ref q2, .ref q3, .ref q4, .null, .null, .null])), (q1, aI G 13), (q2, aI G 13), (q3, aI G 13), (q4, aL G 13)]) rfl rfl inlX3 tyX3 tyX3_ok nmX3 3 (Nat.le_of_ble_eq_true rfl) rfl mw_62 rfl rfl rfl rfl (Nat.le_of_ble_eq_true rfl) rfl dX3_init_33 ?_
  refine v_aload_n (pc := 36) C5 (F := True) 0 rfl dX3_init_36 (fun _ => ?_) trivial
  refine v_bipush (pc := 37) C5 (F := True) 13 dX3_init_37 (by decide) (fun _ => ?_) trivial
  refine v_newa (pc := 39) C 1 (atype := .long) (ty := .long) (N := 13) (z := (13, .inr (.inl (fun _ => 0)))) (a := 4) (b := 52) (a' := 5) (b' := 65) rfl (fun C h => by cases h) mw_61 rfl (fun _ => rfl) (by decide) (by decide) (Nat.le_of_ble_eq_true rfl) rfl rfl (Nat.le_of_ble_eq_true rfl) (Nat.le_of_ble_eq_true rfl) dX3_init_39 (fun q5 => ?_)
  have C6 : Ctx G (kb K 5 65) cX3_init RX3 1 1 12 := C.at (Nat.le_of_ble_eq_true rfl) (Nat.le_of_ble_eq_true rfl)
  change V G (kb K 5 65) [(h0, .inr (3, [.ref q1, .ref q2, .ref q3, .ref q4, .null, .null, .null])), (q1, aI G 13), (q2, aI G 13), (q3, aI G 13), (q4, aL G 13), (q5, aL G 13)] 41 [(0, .ref h0)] [.ref q5, .ref h0]
  refine v_putF (pc := 41) C6 (kin_kb hk) 0 (w' := [(h0, .inr (3, [.ref q1, .ref q2, .ref q3, .ref q4, .ref q5, .null, .null])), (q1, aI G 13), (q2, aI G 13), (q3, aI G 13), (q4, aL G 13), (q5, aL G 13)]) rfl rfl inlX3 tyX3 tyX3_ok nmX3 4 (Nat.le_of_ble_eq_true rfl) rfl mw_63 rfl rfl rfl rfl (Nat.le_of_ble_eq_true rfl) rfl dX3_init_41 ?_
  refine v_aload_n (pc := 44) C6 (F := True) 0 rfl dX3_init_44 (fun _ => ?_) trivial
  refine v_bipush (pc := 45) C6 (F := True) 13 dX3_init_45 (by decide) (fun _ => ?_) trivial
  refine v_newa (pc := 47) C 1 (atype := .long) (ty := .long) (N := 13) (z := (13, .inr (.inl (fun _ => 0)))) (a := 5) (b := 65) (a' := 6) (b' := 78) rfl (fun C h => by cases h) mw_61 rfl (fun _ => rfl) (by decide) (by decide) (Nat.le_of_ble_eq_true rfl) rfl rfl (Nat.le_of_ble_eq_true rfl) (Nat.le_of_ble_eq_true rfl) dX3_init_47 (fun q6 => ?_)
  have C7 : Ctx G (kb K 6 78) cX3_init RX3 1 1 12 := C.at (Nat.le_of_ble_eq_true rfl) (Nat.le_of_ble_eq_true rfl)
  change V G (kb K 6 78) [(h0, .inr (3, [.ref q1, .ref q2, .ref q3, .ref q4, .ref q5, .null, .null])), (q1, aI G 13), (q2, aI G 13), (q3, aI G 13), (q4, aL G 13), (q5, aL G 13), (q6, aL G 13)] 49 [(0, .ref h0)] [.ref q6, .ref h0]
  refine v_put (pc := 49) C7 (F := True) 0 (w' := [(h0, .inr (3, [.ref q1, .ref q2, .ref q3, .ref q4, .ref q5, .ref q6, .null])), (q1, aI G 13), (q2, aI G 13), (q3, aI G 13), (q4, aL G 13), (q5, aL G 13), (q6, aL G 13)]) rfl rfl inlX3 tyX3 tyX3_ok nmX3 5 (Nat.le_of_ble_eq_true rfl) rfl mw_64 rfl rfl rfl (Nat.le_of_ble_eq_true rfl) rfl dX3_init_49 (fun _ => ?_) trivial
  refine v_aload_n (pc := 52) C7 (F := True) 0 rfl dX3_init_52 (fun _ => ?_) trivial
  refine v_bipush (pc := 53) C7 (F := True) 13 dX3_init_53 (by decide) (fun _ => ?_) trivial
  refine v_newa (pc := 55) C 1 (atype := .long) (ty := .long) (N := 13) (z := (13, .inr (.inl (fun _ => 0)))) (a := 6) (b := 78) (a' := 7) (b' := 91) rfl (fun C h => by cases h) mw_61 rfl (fun _ => rfl) (by decide) (by decide) (Nat.le_of_ble_eq_true rfl) rfl rfl (Nat.le_of_ble_eq_true rfl) (Nat.le_of_ble_eq_true rfl) dX3_init_55 (fun q7 => ?_)
  have C8 : Ctx G (kb K 7 91) cX3_init RX3 1 1 12 := C.at (Nat.le_of_ble_eq_true rfl) (Nat.le_of_ble_eq_true rfl)
  change V G (kb K 7 91) [(h0, .inr (3, [.ref q1, .ref q2, .ref q3, .ref q4, .ref q5, .ref q6, .null])), (q1, aI G 13), (q2, aI G 13), (q3, aI G 13), (q4, aL G 13), (q5, aL G 13), (q6, aL G 13), (q7, aL G 13)] 57 [(0, .ref h0)] [.ref q7, .ref h0]
  refine v_put (pc := 57) C8 (F := True) 0 (w' := [(h0, .inr (3, [.ref q1, .ref q2, .ref q3, .ref q4, .ref q5, .ref q6, .ref q7])), (q1, aI G 13), (q2, aI G 13), (q3, aI G 13), (q4, aL G 13), (q5, aL G 13), (q6, aL G 13), (q7, aL G 13)]) rfl rfl inlX3 tyX3 tyX3_ok nmX3 6 (Nat.le_of_ble_eq_true rfl) rfl mw_65 rfl rfl rfl (Nat.le_of_ble_eq_true rfl) rfl dX3_init_57 (fun _ => ?_) trivial
  exact hret _ _ _ ⟨q1, q2, q3, q4, q5, q6, q7, rfl⟩ dX3_init_60
def PH4 (G : GT) (h0 : Nat) (w : va_W) : Prop := ∃ (a : Nat → Nat) (f g : Nat → Option Nat), a 0 = h0 ∧ (∀ i, f i = if i < 6 then some (a (2 + i)) else none) ∧ (∀ i, g i = if i < 3 then some (a (9 + i)) else none) ∧ w = [(h0, .inr (4, [.int 0, .int 0, .ref (a 1), .ref (a 8), .ref (a 12), .ref (a 13)])), (a 1, .inl (gC G 5, 6, .inr (.inr (.inr (.inr f))))), (a 2, aI G 12), (a 3, aI G 12), (a 4, aI G 12), (a 5, aI G 12), (a 6, aI G 12), (a 7, aI G 12), (a 8, .inl (gC G 5, 3, .inr (.inr (.inr (.inr g))))), (a 9, aI G 3), (a 10, aI G 3), (a 11, aI G 3), (a 12, aI G 12), (a 13, aI G 12)]
section PA
variable {h0 q1 q2 q3 q4 : Nat} {r1 r2 : Nat → Nat}
theorem pa1 (i : Nat) : (if i < 6 then some (r1 i) else none) = if i < 6 then some ((fun i => if i = 0 then h0 else if i = 1 then q1 else if i < 8 then r1 (i - 2) else if i = 8 then q2 else if i < 12 then r2 (i - 9) else if i = 12 then q3 else q4 : Nat → Nat) (2 + i)) else none := by
  by_cases h : i < 6
  · rw [if_pos h, if_pos h]
    show _ = some (if 2 + i = 0 then h0 else if 2 + i = 1 then q1 else if 2 + i < 8 then r1 (2 + i - 2) else _)
    rw [if_neg (by omega), if_neg (by omega), if_pos (by omega), Nat.add_sub_cancel_left]
  · rw [if_neg h, if_neg h]
theorem pa2 (i : Nat) : (if i < 3 then some (r2 i) else none) = if i < 3 then some ((fun i => if i = 0 then h0 else if i = 1 then q1 else if i < 8 then r1 (i - 2) else if i = 8 then q2 else if i < 12 then r2 (i - 9) else if i = 12 then q3 else q4 : Nat → Nat) (9 + i)) else none := by
  by_cases h : i < 3
  · rw [if_pos h, if_pos h]
    show _ = some (if 9 + i = 0 then h0 else if 9 + i = 1 then q1 else if 9 + i < 8 then r1 (9 + i - 2) else if 9 + i = 8 then q2 else if 9 + i < 12 then r2 (9 + i - 9) else _)
    rw [if_neg (by omega), if_neg (by omega), if_neg (by omega), if_neg (by omega), if_pos (by omega), Nat.add_sub_cancel_left]
  · rw [if_neg h, if_neg h]
end PA
set_option maxHeartbeats 8000000 in
set_option maxRecDepth 100000 in
theorem mk4_init (G : GT) (l : Launch) (h0 : Nat) : MC G l yX4_init cX4_init 1 1 12 13 114 [.ref h0] [(h0, .inr (4, [.int 0, .int 0, .null, .null, .null, .null]))] (PH4 G h0) := by
  refine MC.start (by decide +kernel) rfl (Nat.le_of_ble_eq_true rfl) (fun K hl hk C hret => ?_)
  subst hl
  have C : CN G K cX4_init RX4 1 1 12 13 114 := C
  have C1 : Ctx G (kb K 0 0) cX4_init RX4 1 1 12 := C.at (Nat.le_of_ble_eq_true rfl) (Nat.le_of_ble_eq_true rfl)
  change V G (kb K 0 0) [(h0, .inr (4, [.int 0, .int 0, .null, .null, .null, .null]))] 0 [(0, .ref h0)] []
  refine v_aload_n (pc := 0) C1 (F := True) 0 rfl dX4_init_0 (fun _ => ?_) trivial
  refine v_objI (pc := 1) C1 (F := True) mw_87 (Nat.le_of_ble_eq_true rfl) (Nat.le_of_ble_eq_true rfl) dX4_init_1 (fun _ => ?_) trivial
  refine v_aload_n (pc := 4) C1 (F := True) 0 rfl dX4_init_4 (fun _ => ?_) trivial
  refine v_iconst (pc := 5) C1 (F := True) 0 dX4_init_5 (by decide) (fun _ => ?_) trivial
  refine v_put (pc := 6) C1 (F := True) 0 (w' := [(h0, .inr (4, [.int 0, .int 0, .null, .null, .null, .null]))]) rfl rfl inlX4 tyX4 tyX4_ok nmX4 0 (Nat.le_of_ble_eq_true rfl) rfl mw_88 rfl rfl rfl (Nat.le_of_ble_eq_true rfl) rfl dX4_init_6 (fun _ => ?_) trivial
  refine v_aload_n (pc := 9) C1 (F := True) 0 rfl dX4_init_9 (fun _ => ?_) trivial
  refine v_iconst (pc := 10) C1 (F := True) 0 dX4_init_10 (by decide) (fun _ => ?_) trivial
  refine v_put (pc := 11) C1 (F := True) 0 (w' := [(h0, .inr (4, [.int 0, .int 0, .null, .null, .null, .null]))]) rfl rfl inlX4 tyX4 tyX4_ok nmX4 1 (Nat.le_of_ble_eq_true rfl) rfl mw_89 rfl rfl rfl (Nat.le_of_ble_eq_true rfl) rfl dX4_init_11 (fun _ => ?_) trivial
  refine v_aload_n (pc := 14) C1 (F := True) 0 rfl dX4_init_14 (fun _ => ?_) trivial
  refine v_bipush (pc := 15) C1 (F := True) 6 dX4_init_15 (by decide) (fun _ => ?_) trivial
  refine v_bipush (pc := 17) C1 (F := True) 12 dX4_init_17 (by decide) (fun _ => ?_) trivial
  refine v_mna (pc := 19) C (N := 6) (M := 12) (a := 0) (b := 0) (a' := 7) (b' := 78) mw_90 (by decide) (by decide) (by decide) (by decide) (Nat.le_of_ble_eq_true rfl) (Nat.le_of_ble_eq_true rfl) rfl rfl (Nat.le_of_ble_eq_true rfl) (Nat.le_of_ble_eq_true rfl) dX4_init_19 (fun q1 r1 => ?_)
  have C2 : Ctx G (kb K 7 78) cX4_init RX4 1 1 12 := C.at (Nat.le_of_ble_eq_true rfl) (Nat.le_of_ble_eq_true rfl)
  change V G (kb K 7 78) [(h0, .inr (4, [.int 0, .int 0, .null, .null, .null, .null])), (q1, .inl (gC G 5, 6, .inr (.inr (.inr (.inr (fun i => if i < 6 then some (r1 i) else none)))))), (r1 0, aI G 12), (r1 1, aI G 12), (r1 2, aI G 12), (r1 3, aI G 12), (r1 4, aI G 12), (r1 5, aI G 12)] 23 [(0, .ref h0)] [.ref q1, .ref h0]
  refine v_putF (pc := 23) C2 (kin_kb hk) 0 (w' := [(h0, .inr (4, [.int 0, .int 0, .ref q1, .null, .null, .null])), (q1, .inl (gC G 5, 6, .inr (.inr (.inr (.inr (fun i => if i < 6 then some (r1 i) else none)))))), (r1 0, aI G 12), (r1 1, aI G 12), (r1 2, aI G 12), (r1 3, aI G 12), (r1 4, aI G 12), (r1 5, aI G 12)]) rfl rfl inlX4 tyX4 tyX4_ok nmX4 2 (Nat.le_of_ble_eq_true rfl) rfl mw_91 rfl rfl rfl rfl (Nat.le_of_ble_eq_true rfl) rfl dX4_init_23 ?_
  refine v_aload_n (pc := 26) C2 (F := True) 0 rfl dX4_init_26 (fun _ => ?_) trivial
  refine v_iconst (pc := 27) C2 (F := True) 3 dX4_init_27 (by decide) (fun _ => ?_) trivial
  refine v_iconst (pc := 28) C2 (F := True) 3 dX4_init_28 (by decide) (fun _ => ?_) trivial
  refine v_mna (pc := 29) C (N := 3) (M := 3) (a := 7) (b := 78) (a' := 11) (b' := 90) mw_90 (by decide) (by decide) (by decide) (by decide) (Nat.le_of_ble_eq_true rfl) (Nat.le_of_ble_eq_true rfl) rfl rfl (Nat.le_of_ble_eq_true rfl) (Nat.le_of_ble_eq_true rfl) dX4_init_29 (fun q2 r2 => ?_)
  have C3 : Ctx G (kb K 11 90) cX4_init RX4 1 1 12 := C.at (Nat.le_of_ble_eq_true rfl) (Nat.le_of_ble_eq_true rfl)
  change V G (kb K 11 90) [(h0, .inr (4, [.int 0, .int 0, .ref q1, .null, .null, .null])), (q1, .inl (gC G 5, 6, .inr (.inr (.inr (.inr (fun i => if i < 6 then some (r1 i) else none)))))), (r1 0, aI G 12), (r1 1, aI G 12), (r1 2, aI G 12), (r1 3, aI G 12), (r1 4, aI G 12), (r1 5, aI G 12), (q2, .inl (gC G 5, 3, .inr (.inr (.inr (.inr (fun i => if i < 3 then some (r2 i) else none)))))), (r2 0, aI G 3), (r2 1, aI G 3), (r2 2, aI G 3)] 33 [(0, .ref h0)] [.ref q2, .ref h0]
  refine v_putF (pc := 33) C3 (kin_kb hk) 0 (w' := [(h0, .inr (4, [.int 0, .int 0, .ref q1, .ref q2, .null, .null])), (q1, .inl (gC G 5, 6, .inr (.inr (.inr (.inr (fun i => if i < 6 then some (r1 i) else none)))))), (r1 0, aI G 12), (r1 1, aI G 12), (r1 2, aI G 12), (r1 3, aI G 12), (r1 4, aI G 12), (r1 5, aI G 12), (q2, .inl (gC G 5, 3, .inr (.inr (.inr (.inr (fun i => if i < 3 then some (r2 i) else none)))))), (r2 0, aI G 3), (r2 1, aI G 3), (r2 2, aI G 3)]) rfl rfl inlX4 tyX4 tyX4_ok nmX4 3 (Nat.le_of_ble_eq_true rfl) rfl mw_92 rfl rfl rfl rfl (Nat.le_of_ble_eq_true rfl) rfl dX4_init_33 ?_
  refine v_aload_n (pc := 36) C3 (F := True) 0 rfl dX4_init_36 (fun _ => ?_) trivial
  refine v_bipush (pc := 37) C3 (F := True) 12 dX4_init_37 (by decide) (fun _ => ?_) trivial
  refine v_newa (pc := 39) C 0 (atype := .int) (ty := .int) (N := 12) (z := (12, .inl (fun _ => 0))) (a := 11) (b := 90) (a' := 12) (b' := 102) rfl (fun C h => by cases h) mw_48 rfl (fun _ => rfl) (by decide) (by decide) (Nat.le_of_ble_eq_true rfl) rfl rfl (Nat.le_of_ble_eq_true rfl) (Nat.le_of_ble_eq_true rfl) dX4_init_39 (fun q3 => ?_)
  have C4 : Ctx G (kb K 12 102) cX4_init RX4 1 1 12 := C.at (Nat.le_of_ble_eq_true rfl) (Nat.le_of_ble_eq_true rfl)
  change V G (kb K 12 102) [(h0, .inr (4, [.int 0, .int 0, .ref q1, .ref q2, .null, .null])), (q1, .inl (gC G 5, 6, .inr (.inr (.inr (.inr (fun i => if i < 6 then some (r1 i) else none)))))), (r1 0, aI G 12), (r1 1, aI G 12), (r1 2, aI G 12), (r1 3, aI G 12), (r1 4, aI G 12), (r1 5, aI G 12), (q2, .inl (gC G 5, 3, .inr (.inr (.inr (.inr (fun i => if i < 3 then some (r2 i) else none)))))), (r2 0, aI G 3), (r2 1, aI G 3), (r2 2, aI G 3), (q3, aI G 12)] 41 [(0, .ref h0)] [.ref q3, .ref h0]
  refine v_putF (pc := 41) C4 (kin_kb hk) 0 (w' := [(h0, .inr (4, [.int 0, .int 0, .ref q1, .ref q2, .ref q3, .null])), (q1, .inl (gC G 5, 6, .inr (.inr (.inr (.inr (fun i => if i < 6 then some (r1 i) else none)))))), (r1 0, aI G 12), (r1 1, aI G 12), (r1 2, aI G 12), (r1 3, aI G 12), (r1 4, aI G 12), (r1 5, aI G 12), (q2, .inl (gC G 5, 3, .inr (.inr (.inr (.inr (fun i => if i < 3 then some (r2 i) else none)))))), (r2 0, aI G 3), (r2 1, aI G 3), (r2 2, aI G 3), (q3, aI G 12)]) rfl rfl inlX4 tyX4 tyX4_ok nmX4 4 (Nat.le_of_ble_eq_true rfl) rfl mw_93 rfl rfl rfl rfl (Nat.le_of_ble_eq_true rfl) rfl dX4_init_41 ?_
  refine v_aload_n (pc := 44) C4 (F := True) 0 rfl dX4_init_44 (fun _ => ?_) trivial
  refine v_bipush (pc := 45) C4 (F := True) 12 dX4_init_45 (by decide) (fun _ => ?_) trivial
  refine v_newa (pc := 47) C 0 (atype := .int) (ty := .int) (N := 12) (z := (12, .inl (fun _ => 0))) (a := 12) (b := 102) (a' := 13) (b' := 114) rfl (fun C h => by cases h) mw_48 rfl (fun _ => rfl) (by decide) (by decide) (Nat.le_of_ble_eq_true rfl) rfl rfl (Nat.le_of_ble_eq_true rfl) (Nat.le_of_ble_eq_true rfl) dX4_init_47 (fun q4 => ?_)
  have C5 : Ctx G (kb K 13 114) cX4_init RX4 1 1 12 := C.at (Nat.le_of_ble_eq_true rfl) (Nat.le_of_ble_eq_true rfl)
  change V G (kb K 13 114) [(h0, .inr (4, [.int 0, .int 0, .ref q1, .ref q2, .ref q3, .null])), (q1, .inl (gC G 5, 6, .inr (.inr (.inr (.inr (fun i => if i < 6 then some (r1 i) else none)))))), (r1 0, aI G 12), (r1 1, aI G 12), (r1 2, aI G 12), (r1 3, aI G 12), (r1 4, aI G 12), (r1 5, aI G 12), (q2, .inl (gC G 5, 3, .inr (.inr (.inr (.inr (fun i => if i < 3 then some (r2 i) else none)))))), (r2 0, aI G 3), (r2 1, aI G 3), (r2 2, aI G 3), (q3, aI G 12), (q4, aI G 12)] 49 [(0, .ref h0)] [.ref q4, .ref h0]
  refine v_putF (pc := 49) C5 (kin_kb hk) 0 (w' := [(h0, .inr (4, [.int 0, .int 0, .ref q1, .ref q2, .ref q3, .ref q4])), (q1, .inl (gC G 5, 6, .inr (.inr (.inr (.inr (fun i => if i < 6 then some (r1 i) else none)))))), (r1 0, aI G 12), (r1 1, aI G 12), (r1 2, aI G 12), (r1 3, aI G 12), (r1 4, aI G 12), (r1 5, aI G 12), (q2, .inl (gC G 5, 3, .inr (.inr (.inr (.inr (fun i => if i < 3 then some (r2 i) else none)))))), (r2 0, aI G 3), (r2 1, aI G 3), (r2 2, aI G 3), (q3, aI G 12), (q4, aI G 12)]) rfl rfl inlX4 tyX4 tyX4_ok nmX4 5 (Nat.le_of_ble_eq_true rfl) rfl mw_94 rfl rfl rfl rfl (Nat.le_of_ble_eq_true rfl) rfl dX4_init_49 ?_
  exact hret _ _ _ ⟨fun i => if i = 0 then h0 else if i = 1 then q1 else if i < 8 then r1 (i - 2) else if i = 8 then q2 else if i < 12 then r2 (i - 9) else if i = 12 then q3 else q4, _, _, rfl, fun i => pa1 i, fun i => pa2 i, rfl⟩ dX4_init_52
def gX (G : GT) (a : Nat → Nat) : GT := (G.1, G.2.1, a, G.2.2.2)
def gM (G : GT) (a : Nat → Nat) : GT := (G.1, G.2.1, G.2.2.1, a, G.2.2.2.2)
theorem Ctx.gX {G : GT} {K : KT} {cc : ByteArray} {own : String} {nl fr lo : Nat} {a : Nat → Nat} (C : Ctx G K cc own nl fr lo) : Ctx (gX G a) K cc own nl fr lo := by
  obtain ⟨p, l, e, R, s, m, args, below, meth, c, Q, cells, slots, nL⟩ := K
  exact C
theorem Ctx.gM {G : GT} {K : KT} {cc : ByteArray} {own : String} {nl fr lo : Nat} {a : Nat → Nat} (C : Ctx G K cc own nl fr lo) : Ctx (gM G a) K cc own nl fr lo := by
  obtain ⟨p, l, e, R, s, m, args, below, meth, c, Q, cells, slots, nL⟩ := K
  exact C
def sZ : SS := (fun _ _ => 0, fun _ _ => 0, fun _ => false)
def τz : SS := sI (sI (sI (sI (sI (sI (sI sZ 6 0 3) 6 1 2) 6 2 2) 6 3 4) 6 4 3) 22 0 1) 17 0 12
def PH6 (G : GT) (h0 : Nat) (w : va_W) : Prop := ∃ a : Nat → Nat, a 0 = h0 ∧ w = wM (gM G a) τz
set_option maxHeartbeats 16000000 in
set_option maxRecDepth 100000 in
theorem mk6_init (G : GT) (l : Launch) (h0 : Nat) : MC G l yX6_init cX6_init 1 1 12 23 783 [.ref h0] [(h0, .inr (6, [.long 0, .null, .int 0, .null, .null, .null, .null, .null, .int 0, .int 0, .int 0, .int 0, .int 0, .null, .int 0, .int 0, .int 0, .int 0, .null, .null, .null, .null, .null, .int 0, .int 0, .null, .null, .null, .null, .null, .null, .null, .null, .null, .null, .null]))] (PH6 G h0) := by
  refine MC.start (by decide +kernel) rfl (Nat.le_of_ble_eq_true rfl) (fun K hl hk C hret => ?_)
  subst hl
  have C : CN G K cX6_init RX6 1 1 12 23 783 := C
  have C1 : Ctx G (kb K 0 0) cX6_init RX6 1 1 12 := C.at (Nat.le_of_ble_eq_true rfl) (Nat.le_of_ble_eq_true rfl)
  change V G (kb K 0 0) [(h0, .inr (6, [.long 0, .null, .int 0, .null, .null, .null, .null, .null, .int 0, .int 0, .int 0, .int 0, .int 0, .null, .int 0, .int 0, .int 0, .int 0, .null, .null, .null, .null, .null, .int 0, .int 0, .null, .null, .null, .null, .null, .null, .null, .null, .null, .null, .null]))] 0 [(0, .ref h0)] []
  refine v_aload_n (pc := 0) C1 (F := True) 0 rfl dX6_init_0 (fun _ => ?_) trivial
  refine v_objI (pc := 1) C1 (F := True) mw_98 (Nat.le_of_ble_eq_true rfl) (Nat.le_of_ble_eq_true rfl) dX6_init_1 (fun _ => ?_) trivial
  refine v_aload_n (pc := 4) C1 (F := True) 0 rfl dX6_init_4 (fun _ => ?_) trivial
  refine v_sipush (pc := 5) C1 (F := True) 400 dX6_init_5 (by decide) (fun _ => ?_) trivial
  refine v_newa (pc := 8) C 2 (atype := .byte) (ty := .byte) (N := 400) (z := (400, .inl (fun _ => 0))) (a := 0) (b := 0) (a' := 1) (b' := 400) rfl (fun C h => by cases h) mw_99 rfl (fun _ => rfl) (by decide) (by decide) (Nat.le_of_ble_eq_true rfl) rfl rfl (Nat.le_of_ble_eq_true rfl) (Nat.le_of_ble_eq_true rfl) dX6_init_8 (fun q1 => ?_)
  have C2 : Ctx G (kb K 1 400) cX6_init RX6 1 1 12 := C.at (Nat.le_of_ble_eq_true rfl) (Nat.le_of_ble_eq_true rfl)
  change V G (kb K 1 400) [(h0, .inr (6, [.long 0, .null, .int 0, .null, .null, .null, .null, .null, .int 0, .int 0, .int 0, .int 0, .int 0, .null, .int 0, .int 0, .int 0, .int 0, .null, .null, .null, .null, .null, .int 0, .int 0, .null, .null, .null, .null, .null, .null, .null, .null, .null, .null, .null])), (q1, aY G 400)] 10 [(0, .ref h0)] [.ref q1, .ref h0]
  refine v_putF (pc := 10) C2 (kin_kb hk) 0 (w' := [(h0, .inr (6, [.long 0, .ref q1, .int 0, .null, .null, .null, .null, .null, .int 0, .int 0, .int 0, .int 0, .int 0, .null, .int 0, .int 0, .int 0, .int 0, .null, .null, .null, .null, .null, .int 0, .int 0, .null, .null, .null, .null, .null, .null, .null, .null, .null, .null, .null])), (q1, aY G 400)]) rfl rfl inlX6 tyX6 tyX6_ok nmX6 1 (Nat.le_of_ble_eq_true rfl) rfl mw_100 rfl rfl rfl rfl (Nat.le_of_ble_eq_true rfl) rfl dX6_init_10 ?_
  refine v_aload_n (pc := 13) C2 (F := True) 0 rfl dX6_init_13 (fun _ => ?_) trivial
  refine v_iconst (pc := 14) C2 (F := True) 2 dX6_init_14 (by decide) (fun _ => ?_) trivial
  refine v_newa (pc := 15) C 0 (atype := .int) (ty := .int) (N := 2) (z := (2, .inl (fun _ => 0))) (a := 1) (b := 400) (a' := 2) (b' := 402) rfl (fun C h => by cases h) mw_48 rfl (fun _ => rfl) (by decide) (by decide) (Nat.le_of_ble_eq_true rfl) rfl rfl (Nat.le_of_ble_eq_true rfl) (Nat.le_of_ble_eq_true rfl) dX6_init_15 (fun q2 => ?_)
  have C3 : Ctx G (kb K 2 402) cX6_init RX6 1 1 12 := C.at (Nat.le_of_ble_eq_true rfl) (Nat.le_of_ble_eq_true rfl)
  change V G (kb K 2 402) [(h0, .inr (6, [.long 0, .ref q1, .int 0, .null, .null, .null, .null, .null, .int 0, .int 0, .int 0, .int 0, .int 0, .null, .int 0, .int 0, .int 0, .int 0, .null, .null, .null, .null, .null, .int 0, .int 0, .null, .null, .null, .null, .null, .null, .null, .null, .null, .null, .null])), (q1, aY G 400), (q2, aI G 2)] 17 [(0, .ref h0)] [.ref q2, .ref h0]
  refine v_putF (pc := 17) C3 (kin_kb hk) 0 (w' := [(h0, .inr (6, [.long 0, .ref q1, .int 0, .ref q2, .null, .null, .null, .null, .int 0, .int 0, .int 0, .int 0, .int 0, .null, .int 0, .int 0, .int 0, .int 0, .null, .null, .null, .null, .null, .int 0, .int 0, .null, .null, .null, .null, .null, .null, .null, .null, .null, .null, .null])), (q1, aY G 400), (q2, aI G 2)]) rfl rfl inlX6 tyX6 tyX6_ok nmX6 3 (Nat.le_of_ble_eq_true rfl) rfl mw_101 rfl rfl rfl rfl (Nat.le_of_ble_eq_true rfl) rfl dX6_init_17 ?_
  refine v_aload_n (pc := 20) C3 (F := True) 0 rfl dX6_init_20 (fun _ => ?_) trivial
  refine v_sipush (pc := 21) C3 (F := True) 144 dX6_init_21 (by decide) (fun _ => ?_) trivial
  refine v_newa (pc := 24) C 0 (atype := .int) (ty := .int) (N := 144) (z := (144, .inl (fun _ => 0))) (a := 2) (b := 402) (a' := 3) (b' := 546) rfl (fun C h => by cases h) mw_48 rfl (fun _ => rfl) (by decide) (by decide) (Nat.le_of_ble_eq_true rfl) rfl rfl (Nat.le_of_ble_eq_true rfl) (Nat.le_of_ble_eq_true rfl) dX6_init_24 (fun q3 => ?_)
  have C4 : Ctx G (kb K 3 546) cX6_init RX6 1 1 12 := C.at (Nat.le_of_ble_eq_true rfl) (Nat.le_of_ble_eq_true rfl)
  change V G (kb K 3 546) [(h0, .inr (6, [.long 0, .ref q1, .int 0, .ref q2, .null, .null, .null, .null, .int 0, .int 0, .int 0, .int 0, .int 0, .null, .int 0, .int 0, .int 0, .int 0, .null, .null, .null, .null, .null, .int 0, .int 0, .null, .null, .null, .null, .null, .null, .null, .null, .null, .null, .null])), (q1, aY G 400), (q2, aI G 2), (q3, aI G 144)] 26 [(0, .ref h0)] [.ref q3, .ref h0]
  refine v_putF (pc := 26) C4 (kin_kb hk) 0 (w' := [(h0, .inr (6, [.long 0, .ref q1, .int 0, .ref q2, .ref q3, .null, .null, .null, .int 0, .int 0, .int 0, .int 0, .int 0, .null, .int 0, .int 0, .int 0, .int 0, .null, .null, .null, .null, .null, .int 0, .int 0, .null, .null, .null, .null, .null, .null, .null, .null, .null, .null, .null])), (q1, aY G 400), (q2, aI G 2), (q3, aI G 144)]) rfl rfl inlX6 tyX6 tyX6_ok nmX6 4 (Nat.le_of_ble_eq_true rfl) rfl mw_102 rfl rfl rfl rfl (Nat.le_of_ble_eq_true rfl) rfl dX6_init_26 ?_
  refine v_aload_n (pc := 29) C4 (F := True) 0 rfl dX6_init_29 (fun _ => ?_) trivial
  refine v_iconst (pc := 30) C4 (F := True) 2 dX6_init_30 (by decide) (fun _ => ?_) trivial
  refine v_newa (pc := 31) C 0 (atype := .int) (ty := .int) (N := 2) (z := (2, .inl (fun _ => 0))) (a := 3) (b := 546) (a' := 4) (b' := 548) rfl (fun C h => by cases h) mw_48 rfl (fun _ => rfl) (by decide) (by decide) (Nat.le_of_ble_eq_true rfl) rfl rfl (Nat.le_of_ble_eq_true rfl) (Nat.le_of_ble_eq_true rfl) dX6_init_31 (fun q4 => ?_)
  have C5 : Ctx G (kb K 4 548) cX6_init RX6 1 1 12 := C.at (Nat.le_of_ble_eq_true rfl) (Nat.le_of_ble_eq_true rfl)
  change V G (kb K 4 548) [(h0, .inr (6, [.long 0, .ref q1, .int 0, .ref q2, .ref q3, .null, .null, .null, .int 0, .int 0, .int 0, .int 0, .int 0, .null, .int 0, .int 0, .int 0, .int 0, .null, .null, .null, .null, .null, .int 0, .int 0, .null, .null, .null, .null, .null, .null, .null, .null, .null, .null, .null])), (q1, aY G 400), (q2, aI G 2), (q3, aI G 144), (q4, aI G 2)] 33 [(0, .ref h0)] [.ref q4, .ref h0]
  refine v_putF (pc := 33) C5 (kin_kb hk) 0 (w' := [(h0, .inr (6, [.long 0, .ref q1, .int 0, .ref q2, .ref q3, .ref q4, .null, .null, .int 0, .int 0, .int 0, .int 0, .int 0, .null, .int 0, .int 0, .int 0, .int 0, .null, .null, .null, .null, .null, .int 0, .int 0, .null, .null, .null, .null, .null, .null, .null, .null, .null, .null, .null])), (q1, aY G 400), (q2, aI G 2), (q3, aI G 144), (q4, aI G 2)]) rfl rfl inlX6 tyX6 tyX6_ok nmX6 5 (Nat.le_of_ble_eq_true rfl) rfl mw_103 rfl rfl rfl rfl (Nat.le_of_ble_eq_true rfl) rfl dX6_init_33 ?_
  refine v_aload_n (pc := 36) C5 (F := True) 0 rfl dX6_init_36 (fun _ => ?_) trivial
  refine v_bipush (pc := 37) C5 (F := True) 18 dX6_init_37 (by decide) (fun _ => ?_) trivial
  refine v_newa (pc := 39) C 0 (atype := .int) (ty := .int) (N := 18) (z := (18, .inl (fun _ => 0))) (a := 4) (b := 548) (a' := 5) (b' := 566) rfl (fun C h => by cases h) mw_48 rfl (fun _ => rfl) (by decide) (by decide) (Nat.le_of_ble_eq_true rfl) rfl rfl (Nat.le_of_ble_eq_true rfl) (Nat.le_of_ble_eq_true rfl) dX6_init_39 (fun q5 => ?_)
  have C6 : Ctx G (kb K 5 566) cX6_init RX6 1 1 12 := C.at (Nat.le_of_ble_eq_true rfl) (Nat.le_of_ble_eq_true rfl)
  change V G (kb K 5 566) [(h0, .inr (6, [.long 0, .ref q1, .int 0, .ref q2, .ref q3, .ref q4, .null, .null, .int 0, .int 0, .int 0, .int 0, .int 0, .null, .int 0, .int 0, .int 0, .int 0, .null, .null, .null, .null, .null, .int 0, .int 0, .null, .null, .null, .null, .null, .null, .null, .null, .null, .null, .null])), (q1, aY G 400), (q2, aI G 2), (q3, aI G 144), (q4, aI G 2), (q5, aI G 18)] 41 [(0, .ref h0)] [.ref q5, .ref h0]
  refine v_putF (pc := 41) C6 (kin_kb hk) 0 (w' := [(h0, .inr (6, [.long 0, .ref q1, .int 0, .ref q2, .ref q3, .ref q4, .ref q5, .null, .int 0, .int 0, .int 0, .int 0, .int 0, .null, .int 0, .int 0, .int 0, .int 0, .null, .null, .null, .null, .null, .int 0, .int 0, .null, .null, .null, .null, .null, .null, .null, .null, .null, .null, .null])), (q1, aY G 400), (q2, aI G 2), (q3, aI G 144), (q4, aI G 2), (q5, aI G 18)]) rfl rfl inlX6 tyX6 tyX6_ok nmX6 6 (Nat.le_of_ble_eq_true rfl) rfl mw_104 rfl rfl rfl rfl (Nat.le_of_ble_eq_true rfl) rfl dX6_init_41 ?_
  refine v_aload_n (pc := 44) C6 (F := True) 0 rfl dX6_init_44 (fun _ => ?_) trivial
  refine v_bipush (pc := 45) C6 (F := True) 6 dX6_init_45 (by decide) (fun _ => ?_) trivial
  refine v_newa (pc := 47) C 0 (atype := .int) (ty := .int) (N := 6) (z := (6, .inl (fun _ => 0))) (a := 5) (b := 566) (a' := 6) (b' := 572) rfl (fun C h => by cases h) mw_48 rfl (fun _ => rfl) (by decide) (by decide) (Nat.le_of_ble_eq_true rfl) rfl rfl (Nat.le_of_ble_eq_true rfl) (Nat.le_of_ble_eq_true rfl) dX6_init_47 (fun q6 => ?_)
  have C7 : Ctx G (kb K 6 572) cX6_init RX6 1 1 12 := C.at (Nat.le_of_ble_eq_true rfl) (Nat.le_of_ble_eq_true rfl)
  change V G (kb K 6 572) [(h0, .inr (6, [.long 0, .ref q1, .int 0, .ref q2, .ref q3, .ref q4, .ref q5, .null, .int 0, .int 0, .int 0, .int 0, .int 0, .null, .int 0, .int 0, .int 0, .int 0, .null, .null, .null, .null, .null, .int 0, .int 0, .null, .null, .null, .null, .null, .null, .null, .null, .null, .null, .null])), (q1, aY G 400), (q2, aI G 2), (q3, aI G 144), (q4, aI G 2), (q5, aI G 18), (q6, aI G 6)] 49 [(0, .ref h0)] [.ref q6, .ref h0]
  refine v_putF (pc := 49) C7 (kin_kb hk) 0 (w' := [(h0, .inr (6, [.long 0, .ref q1, .int 0, .ref q2, .ref q3, .ref q4, .ref q5, .ref q6, .int 0, .int 0, .int 0, .int 0, .int 0, .null, .int 0, .int 0, .int 0, .int 0, .null, .null, .null, .null, .null, .int 0, .int 0, .null, .null, .null, .null, .null, .null, .null, .null, .null, .null, .null])), (q1, aY G 400), (q2, aI G 2), (q3, aI G 144), (q4, aI G 2), (q5, aI G 18), (q6, aI G 6)]) rfl rfl inlX6 tyX6 tyX6_ok nmX6 7 (Nat.le_of_ble_eq_true rfl) rfl mw_105 rfl rfl rfl rfl (Nat.le_of_ble_eq_true rfl) rfl dX6_init_49 ?_
  refine v_aload_n (pc := 52) C7 (F := True) 0 rfl dX6_init_52 (fun _ => ?_) trivial
  refine v_iconst (pc := 53) C7 (F := True) 3 dX6_init_53 (by decide) (fun _ => ?_) trivial
  refine v_newa (pc := 54) C 0 (atype := .int) (ty := .int) (N := 3) (z := (3, .inl (fun _ => 0))) (a := 6) (b := 572) (a' := 7) (b' := 575) rfl (fun C h => by cases h) mw_48 rfl (fun _ => rfl) (by decide) (by decide) (Nat.le_of_ble_eq_true rfl) rfl rfl (Nat.le_of_ble_eq_true rfl) (Nat.le_of_ble_eq_true rfl) dX6_init_54 (fun q7 => ?_)
  have C8 : Ctx G (kb K 7 575) cX6_init RX6 1 1 12 := C.at (Nat.le_of_ble_eq_true rfl) (Nat.le_of_ble_eq_true rfl)
  change V G (kb K 7 575) [(h0, .inr (6, [.long 0, .ref q1, .int 0, .ref q2, .ref q3, .ref q4, .ref q5, .ref q6, .int 0, .int 0, .int 0, .int 0, .int 0, .null, .int 0, .int 0, .int 0, .int 0, .null, .null, .null, .null, .null, .int 0, .int 0, .null, .null, .null, .null, .null, .null, .null, .null, .null, .null, .null])), (q1, aY G 400), (q2, aI G 2), (q3, aI G 144), (q4, aI G 2), (q5, aI G 18), (q6, aI G 6), (q7, aI G 3)] 56 [(0, .ref h0)] [.ref q7, .ref h0]
  refine v_putF (pc := 56) C8 (kin_kb hk) 0 (w' := [(h0, .inr (6, [.long 0, .ref q1, .int 0, .ref q2, .ref q3, .ref q4, .ref q5, .ref q6, .int 0, .int 0, .int 0, .int 0, .int 0, .ref q7, .int 0, .int 0, .int 0, .int 0, .null, .null, .null, .null, .null, .int 0, .int 0, .null, .null, .null, .null, .null, .null, .null, .null, .null, .null, .null])), (q1, aY G 400), (q2, aI G 2), (q3, aI G 144), (q4, aI G 2), (q5, aI G 18), (q6, aI G 6), (q7, aI G 3)]) rfl rfl inlX6 tyX6 tyX6_ok nmX6 13 (Nat.le_of_ble_eq_true rfl) rfl mw_106 rfl rfl rfl rfl (Nat.le_of_ble_eq_true rfl) rfl dX6_init_56 ?_
  refine v_aload_n (pc := 59) C8 (F := True) 0 rfl dX6_init_59 (fun _ => ?_) trivial
  refine v_bipush (pc := 60) C8 (F := True) 13 dX6_init_60 (by decide) (fun _ => ?_) trivial
  refine v_newa (pc := 62) C 1 (atype := .long) (ty := .long) (N := 13) (z := (13, .inr (.inl (fun _ => 0)))) (a := 7) (b := 575) (a' := 8) (b' := 588) rfl (fun C h => by cases h) mw_61 rfl (fun _ => rfl) (by decide) (by decide) (Nat.le_of_ble_eq_true rfl) rfl rfl (Nat.le_of_ble_eq_true rfl) (Nat.le_of_ble_eq_true rfl) dX6_init_62 (fun q8 => ?_)
  have C9 : Ctx G (kb K 8 588) cX6_init RX6 1 1 12 := C.at (Nat.le_of_ble_eq_true rfl) (Nat.le_of_ble_eq_true rfl)
  change V G (kb K 8 588) [(h0, .inr (6, [.long 0, .ref q1, .int 0, .ref q2, .ref q3, .ref q4, .ref q5, .ref q6, .int 0, .int 0, .int 0, .int 0, .int 0, .ref q7, .int 0, .int 0, .int 0, .int 0, .null, .null, .null, .null, .null, .int 0, .int 0, .null, .null, .null, .null, .null, .null, .null, .null, .null, .null, .null])), (q1, aY G 400), (q2, aI G 2), (q3, aI G 144), (q4, aI G 2), (q5, aI G 18), (q6, aI G 6), (q7, aI G 3), (q8, aL G 13)] 64 [(0, .ref h0)] [.ref q8, .ref h0]
  refine v_putF (pc := 64) C9 (kin_kb hk) 0 (w' := [(h0, .inr (6, [.long 0, .ref q1, .int 0, .ref q2, .ref q3, .ref q4, .ref q5, .ref q6, .int 0, .int 0, .int 0, .int 0, .int 0, .ref q7, .int 0, .int 0, .int 0, .int 0, .ref q8, .null, .null, .null, .null, .int 0, .int 0, .null, .null, .null, .null, .null, .null, .null, .null, .null, .null, .null])), (q1, aY G 400), (q2, aI G 2), (q3, aI G 144), (q4, aI G 2), (q5, aI G 18), (q6, aI G 6), (q7, aI G 3), (q8, aL G 13)]) rfl rfl inlX6 tyX6 tyX6_ok nmX6 18 (Nat.le_of_ble_eq_true rfl) rfl mw_107 rfl rfl rfl rfl (Nat.le_of_ble_eq_true rfl) rfl dX6_init_64 ?_
  refine v_aload_n (pc := 67) C9 (F := True) 0 rfl dX6_init_67 (fun _ => ?_) trivial
  refine v_bipush (pc := 68) C9 (F := True) 13 dX6_init_68 (by decide) (fun _ => ?_) trivial
  refine v_newa (pc := 70) C 0 (atype := .int) (ty := .int) (N := 13) (z := (13, .inl (fun _ => 0))) (a := 8) (b := 588) (a' := 9) (b' := 601) rfl (fun C h => by cases h) mw_48 rfl (fun _ => rfl) (by decide) (by decide) (Nat.le_of_ble_eq_true rfl) rfl rfl (Nat.le_of_ble_eq_true rfl) (Nat.le_of_ble_eq_true rfl) dX6_init_70 (fun q9 => ?_)
  have C10 : Ctx G (kb K 9 601) cX6_init RX6 1 1 12 := C.at (Nat.le_of_ble_eq_true rfl) (Nat.le_of_ble_eq_true rfl)
  change V G (kb K 9 601) [(h0, .inr (6, [.long 0, .ref q1, .int 0, .ref q2, .ref q3, .ref q4, .ref q5, .ref q6, .int 0, .int 0, .int 0, .int 0, .int 0, .ref q7, .int 0, .int 0, .int 0, .int 0, .ref q8, .null, .null, .null, .null, .int 0, .int 0, .null, .null, .null, .null, .null, .null, .null, .null, .null, .null, .null])), (q1, aY G 400), (q2, aI G 2), (q3, aI G 144), (q4, aI G 2), (q5, aI G 18), (q6, aI G 6), (q7, aI G 3), (q8, aL G 13), (q9, aI G 13)] 72 [(0, .ref h0)] [.ref q9, .ref h0]
  refine v_putF (pc := 72) C10 (kin_kb hk) 0 (w' := [(h0, .inr (6, [.long 0, .ref q1, .int 0, .ref q2, .ref q3, .ref q4, .ref q5, .ref q6, .int 0, .int 0, .int 0, .int 0, .int 0, .ref q7, .int 0, .int 0, .int 0, .int 0, .ref q8, .ref q9, .null, .null, .null, .int 0, .int 0, .null, .null, .null, .null, .null, .null, .null, .null, .null, .null, .null])), (q1, aY G 400), (q2, aI G 2), (q3, aI G 144), (q4, aI G 2), (q5, aI G 18), (q6, aI G 6), (q7, aI G 3), (q8, aL G 13), (q9, aI G 13)]) rfl rfl inlX6 tyX6 tyX6_ok nmX6 19 (Nat.le_of_ble_eq_true rfl) rfl mw_108 rfl rfl rfl rfl (Nat.le_of_ble_eq_true rfl) rfl dX6_init_72 ?_
  refine v_aload_n (pc := 75) C10 (F := True) 0 rfl dX6_init_75 (fun _ => ?_) trivial
  refine v_bipush (pc := 76) C10 (F := True) 13 dX6_init_76 (by decide) (fun _ => ?_) trivial
  refine v_newa (pc := 78) C 1 (atype := .long) (ty := .long) (N := 13) (z := (13, .inr (.inl (fun _ => 0)))) (a := 9) (b := 601) (a' := 10) (b' := 614) rfl (fun C h => by cases h) mw_61 rfl (fun _ => rfl) (by decide) (by decide) (Nat.le_of_ble_eq_true rfl) rfl rfl (Nat.le_of_ble_eq_true rfl) (Nat.le_of_ble_eq_true rfl) dX6_init_78 (fun q10 => ?_)
  have C11 : Ctx G (kb K 10 614) cX6_init RX6 1 1 12 := C.at (Nat.le_of_ble_eq_true rfl) (Nat.le_of_ble_eq_true rfl)
  change V G (kb K 10 614) [(h0, .inr (6, [.long 0, .ref q1, .int 0, .ref q2, .ref q3, .ref q4, .ref q5, .ref q6, .int 0, .int 0, .int 0, .int 0, .int 0, .ref q7, .int 0, .int 0, .int 0, .int 0, .ref q8, .ref q9, .null, .null, .null, .int 0, .int 0, .null, .null, .null, .null, .null, .null, .null, .null, .null, .null, .null])), (q1, aY G 400), (q2, aI G 2), (q3, aI G 144), (q4, aI G 2), (q5, aI G 18), (q6, aI G 6), (q7, aI G 3), (q8, aL G 13), (q9, aI G 13), (q10, aL G 13)] 80 [(0, .ref h0)] [.ref q10, .ref h0]
  refine v_putF (pc := 80) C11 (kin_kb hk) 0 (w' := [(h0, .inr (6, [.long 0, .ref q1, .int 0, .ref q2, .ref q3, .ref q4, .ref q5, .ref q6, .int 0, .int 0, .int 0, .int 0, .int 0, .ref q7, .int 0, .int 0, .int 0, .int 0, .ref q8, .ref q9, .ref q10, .null, .null, .int 0, .int 0, .null, .null, .null, .null, .null, .null, .null, .null, .null, .null, .null])), (q1, aY G 400), (q2, aI G 2), (q3, aI G 144), (q4, aI G 2), (q5, aI G 18), (q6, aI G 6), (q7, aI G 3), (q8, aL G 13), (q9, aI G 13), (q10, aL G 13)]) rfl rfl inlX6 tyX6 tyX6_ok nmX6 20 (Nat.le_of_ble_eq_true rfl) rfl mw_109 rfl rfl rfl rfl (Nat.le_of_ble_eq_true rfl) rfl dX6_init_80 ?_
  refine v_aload_n (pc := 83) C11 (F := True) 0 rfl dX6_init_83 (fun _ => ?_) trivial
  refine v_bipush (pc := 84) C11 (F := True) 13 dX6_init_84 (by decide) (fun _ => ?_) trivial
  refine v_newa (pc := 86) C 1 (atype := .long) (ty := .long) (N := 13) (z := (13, .inr (.inl (fun _ => 0)))) (a := 10) (b := 614) (a' := 11) (b' := 627) rfl (fun C h => by cases h) mw_61 rfl (fun _ => rfl) (by decide) (by decide) (Nat.le_of_ble_eq_true rfl) rfl rfl (Nat.le_of_ble_eq_true rfl) (Nat.le_of_ble_eq_true rfl) dX6_init_86 (fun q11 => ?_)
  have C12 : Ctx G (kb K 11 627) cX6_init RX6 1 1 12 := C.at (Nat.le_of_ble_eq_true rfl) (Nat.le_of_ble_eq_true rfl)
  change V G (kb K 11 627) [(h0, .inr (6, [.long 0, .ref q1, .int 0, .ref q2, .ref q3, .ref q4, .ref q5, .ref q6, .int 0, .int 0, .int 0, .int 0, .int 0, .ref q7, .int 0, .int 0, .int 0, .int 0, .ref q8, .ref q9, .ref q10, .null, .null, .int 0, .int 0, .null, .null, .null, .null, .null, .null, .null, .null, .null, .null, .null])), (q1, aY G 400), (q2, aI G 2), (q3, aI G 144), (q4, aI G 2), (q5, aI G 18), (q6, aI G 6), (q7, aI G 3), (q8, aL G 13), (q9, aI G 13), (q10, aL G 13), (q11, aL G 13)] 88 [(0, .ref h0)] [.ref q11, .ref h0]
  refine v_putF (pc := 88) C12 (kin_kb hk) 0 (w' := [(h0, .inr (6, [.long 0, .ref q1, .int 0, .ref q2, .ref q3, .ref q4, .ref q5, .ref q6, .int 0, .int 0, .int 0, .int 0, .int 0, .ref q7, .int 0, .int 0, .int 0, .int 0, .ref q8, .ref q9, .ref q10, .ref q11, .null, .int 0, .int 0, .null, .null, .null, .null, .null, .null, .null, .null, .null, .null, .null])), (q1, aY G 400), (q2, aI G 2), (q3, aI G 144), (q4, aI G 2), (q5, aI G 18), (q6, aI G 6), (q7, aI G 3), (q8, aL G 13), (q9, aI G 13), (q10, aL G 13), (q11, aL G 13)]) rfl rfl inlX6 tyX6 tyX6_ok nmX6 21 (Nat.le_of_ble_eq_true rfl) rfl mw_110 rfl rfl rfl rfl (Nat.le_of_ble_eq_true rfl) rfl dX6_init_88 ?_
  refine v_aload_n (pc := 91) C12 (F := True) 0 rfl dX6_init_91 (fun _ => ?_) trivial
  refine v_bipush (pc := 92) C12 (F := True) 13 dX6_init_92 (by decide) (fun _ => ?_) trivial
  refine v_newa (pc := 94) C 1 (atype := .long) (ty := .long) (N := 13) (z := (13, .inr (.inl (fun _ => 0)))) (a := 11) (b := 627) (a' := 12) (b' := 640) rfl (fun C h => by cases h) mw_61 rfl (fun _ => rfl) (by decide) (by decide) (Nat.le_of_ble_eq_true rfl) rfl rfl (Nat.le_of_ble_eq_true rfl) (Nat.le_of_ble_eq_true rfl) dX6_init_94 (fun q12 => ?_)
  have C13 : Ctx G (kb K 12 640) cX6_init RX6 1 1 12 := C.at (Nat.le_of_ble_eq_true rfl) (Nat.le_of_ble_eq_true rfl)
  change V G (kb K 12 640) [(h0, .inr (6, [.long 0, .ref q1, .int 0, .ref q2, .ref q3, .ref q4, .ref q5, .ref q6, .int 0, .int 0, .int 0, .int 0, .int 0, .ref q7, .int 0, .int 0, .int 0, .int 0, .ref q8, .ref q9, .ref q10, .ref q11, .null, .int 0, .int 0, .null, .null, .null, .null, .null, .null, .null, .null, .null, .null, .null])), (q1, aY G 400), (q2, aI G 2), (q3, aI G 144), (q4, aI G 2), (q5, aI G 18), (q6, aI G 6), (q7, aI G 3), (q8, aL G 13), (q9, aI G 13), (q10, aL G 13), (q11, aL G 13), (q12, aL G 13)] 96 [(0, .ref h0)] [.ref q12, .ref h0]
  refine v_putF (pc := 96) C13 (kin_kb hk) 0 (w' := [(h0, .inr (6, [.long 0, .ref q1, .int 0, .ref q2, .ref q3, .ref q4, .ref q5, .ref q6, .int 0, .int 0, .int 0, .int 0, .int 0, .ref q7, .int 0, .int 0, .int 0, .int 0, .ref q8, .ref q9, .ref q10, .ref q11, .ref q12, .int 0, .int 0, .null, .null, .null, .null, .null, .null, .null, .null, .null, .null, .null])), (q1, aY G 400), (q2, aI G 2), (q3, aI G 144), (q4, aI G 2), (q5, aI G 18), (q6, aI G 6), (q7, aI G 3), (q8, aL G 13), (q9, aI G 13), (q10, aL G 13), (q11, aL G 13), (q12, aL G 13)]) rfl rfl inlX6 tyX6 tyX6_ok nmX6 22 (Nat.le_of_ble_eq_true rfl) rfl mw_111 rfl rfl rfl rfl (Nat.le_of_ble_eq_true rfl) rfl dX6_init_96 ?_
  refine v_aload_n (pc := 99) C13 (F := True) 0 rfl dX6_init_99 (fun _ => ?_) trivial
  refine v_bipush (pc := 100) C13 (F := True) 40 dX6_init_100 (by decide) (fun _ => ?_) trivial
  refine v_newa (pc := 102) C 0 (atype := .int) (ty := .int) (N := 40) (z := (40, .inl (fun _ => 0))) (a := 12) (b := 640) (a' := 13) (b' := 680) rfl (fun C h => by cases h) mw_48 rfl (fun _ => rfl) (by decide) (by decide) (Nat.le_of_ble_eq_true rfl) rfl rfl (Nat.le_of_ble_eq_true rfl) (Nat.le_of_ble_eq_true rfl) dX6_init_102 (fun q13 => ?_)
  have C14 : Ctx G (kb K 13 680) cX6_init RX6 1 1 12 := C.at (Nat.le_of_ble_eq_true rfl) (Nat.le_of_ble_eq_true rfl)
  change V G (kb K 13 680) [(h0, .inr (6, [.long 0, .ref q1, .int 0, .ref q2, .ref q3, .ref q4, .ref q5, .ref q6, .int 0, .int 0, .int 0, .int 0, .int 0, .ref q7, .int 0, .int 0, .int 0, .int 0, .ref q8, .ref q9, .ref q10, .ref q11, .ref q12, .int 0, .int 0, .null, .null, .null, .null, .null, .null, .null, .null, .null, .null, .null])), (q1, aY G 400), (q2, aI G 2), (q3, aI G 144), (q4, aI G 2), (q5, aI G 18), (q6, aI G 6), (q7, aI G 3), (q8, aL G 13), (q9, aI G 13), (q10, aL G 13), (q11, aL G 13), (q12, aL G 13), (q13, aI G 40)] 104 [(0, .ref h0)] [.ref q13, .ref h0]
  refine v_putF (pc := 104) C14 (kin_kb hk) 0 (w' := [(h0, .inr (6, [.long 0, .ref q1, .int 0, .ref q2, .ref q3, .ref q4, .ref q5, .ref q6, .int 0, .int 0, .int 0, .int 0, .int 0, .ref q7, .int 0, .int 0, .int 0, .int 0, .ref q8, .ref q9, .ref q10, .ref q11, .ref q12, .int 0, .int 0, .ref q13, .null, .null, .null, .null, .null, .null, .null, .null, .null, .null])), (q1, aY G 400), (q2, aI G 2), (q3, aI G 144), (q4, aI G 2), (q5, aI G 18), (q6, aI G 6), (q7, aI G 3), (q8, aL G 13), (q9, aI G 13), (q10, aL G 13), (q11, aL G 13), (q12, aL G 13), (q13, aI G 40)]) rfl rfl inlX6 tyX6 tyX6_ok nmX6 25 (Nat.le_of_ble_eq_true rfl) rfl mw_112 rfl rfl rfl rfl (Nat.le_of_ble_eq_true rfl) rfl dX6_init_104 ?_
  refine v_aload_n (pc := 107) C14 (F := True) 0 rfl dX6_init_107 (fun _ => ?_) trivial
  refine v_bipush (pc := 108) C14 (F := True) 40 dX6_init_108 (by decide) (fun _ => ?_) trivial
  refine v_newa (pc := 110) C 0 (atype := .int) (ty := .int) (N := 40) (z := (40, .inl (fun _ => 0))) (a := 13) (b := 680) (a' := 14) (b' := 720) rfl (fun C h => by cases h) mw_48 rfl (fun _ => rfl) (by decide) (by decide) (Nat.le_of_ble_eq_true rfl) rfl rfl (Nat.le_of_ble_eq_true rfl) (Nat.le_of_ble_eq_true rfl) dX6_init_110 (fun q14 => ?_)
  have C15 : Ctx G (kb K 14 720) cX6_init RX6 1 1 12 := C.at (Nat.le_of_ble_eq_true rfl) (Nat.le_of_ble_eq_true rfl)
  change V G (kb K 14 720) [(h0, .inr (6, [.long 0, .ref q1, .int 0, .ref q2, .ref q3, .ref q4, .ref q5, .ref q6, .int 0, .int 0, .int 0, .int 0, .int 0, .ref q7, .int 0, .int 0, .int 0, .int 0, .ref q8, .ref q9, .ref q10, .ref q11, .ref q12, .int 0, .int 0, .ref q13, .null, .null, .null, .null, .null, .null, .null, .null, .null, .null])), (q1, aY G 400), (q2, aI G 2), (q3, aI G 144), (q4, aI G 2), (q5, aI G 18), (q6, aI G 6), (q7, aI G 3), (q8, aL G 13), (q9, aI G 13), (q10, aL G 13), (q11, aL G 13), (q12, aL G 13), (q13, aI G 40), (q14, aI G 40)] 112 [(0, .ref h0)] [.ref q14, .ref h0]
  refine v_putF (pc := 112) C15 (kin_kb hk) 0 (w' := [(h0, .inr (6, [.long 0, .ref q1, .int 0, .ref q2, .ref q3, .ref q4, .ref q5, .ref q6, .int 0, .int 0, .int 0, .int 0, .int 0, .ref q7, .int 0, .int 0, .int 0, .int 0, .ref q8, .ref q9, .ref q10, .ref q11, .ref q12, .int 0, .int 0, .ref q13, .ref q14, .null, .null, .null, .null, .null, .null, .null, .null, .null])), (q1, aY G 400), (q2, aI G 2), (q3, aI G 144), (q4, aI G 2), (q5, aI G 18), (q6, aI G 6), (q7, aI G 3), (q8, aL G 13), (q9, aI G 13), (q10, aL G 13), (q11, aL G 13), (q12, aL G 13), (q13, aI G 40), (q14, aI G 40)]) rfl rfl inlX6 tyX6 tyX6_ok nmX6 26 (Nat.le_of_ble_eq_true rfl) rfl mw_113 rfl rfl rfl rfl (Nat.le_of_ble_eq_true rfl) rfl dX6_init_112 ?_
  refine v_aload_n (pc := 115) C15 (F := True) 0 rfl dX6_init_115 (fun _ => ?_) trivial
  refine v_bipush (pc := 116) C15 (F := True) 40 dX6_init_116 (by decide) (fun _ => ?_) trivial
  refine v_newa (pc := 118) C 0 (atype := .int) (ty := .int) (N := 40) (z := (40, .inl (fun _ => 0))) (a := 14) (b := 720) (a' := 15) (b' := 760) rfl (fun C h => by cases h) mw_48 rfl (fun _ => rfl) (by decide) (by decide) (Nat.le_of_ble_eq_true rfl) rfl rfl (Nat.le_of_ble_eq_true rfl) (Nat.le_of_ble_eq_true rfl) dX6_init_118 (fun q15 => ?_)
  have C16 : Ctx G (kb K 15 760) cX6_init RX6 1 1 12 := C.at (Nat.le_of_ble_eq_true rfl) (Nat.le_of_ble_eq_true rfl)
  change V G (kb K 15 760) [(h0, .inr (6, [.long 0, .ref q1, .int 0, .ref q2, .ref q3, .ref q4, .ref q5, .ref q6, .int 0, .int 0, .int 0, .int 0, .int 0, .ref q7, .int 0, .int 0, .int 0, .int 0, .ref q8, .ref q9, .ref q10, .ref q11, .ref q12, .int 0, .int 0, .ref q13, .ref q14, .null, .null, .null, .null, .null, .null, .null, .null, .null])), (q1, aY G 400), (q2, aI G 2), (q3, aI G 144), (q4, aI G 2), (q5, aI G 18), (q6, aI G 6), (q7, aI G 3), (q8, aL G 13), (q9, aI G 13), (q10, aL G 13), (q11, aL G 13), (q12, aL G 13), (q13, aI G 40), (q14, aI G 40), (q15, aI G 40)] 120 [(0, .ref h0)] [.ref q15, .ref h0]
  refine v_putF (pc := 120) C16 (kin_kb hk) 0 (w' := [(h0, .inr (6, [.long 0, .ref q1, .int 0, .ref q2, .ref q3, .ref q4, .ref q5, .ref q6, .int 0, .int 0, .int 0, .int 0, .int 0, .ref q7, .int 0, .int 0, .int 0, .int 0, .ref q8, .ref q9, .ref q10, .ref q11, .ref q12, .int 0, .int 0, .ref q13, .ref q14, .ref q15, .null, .null, .null, .null, .null, .null, .null, .null])), (q1, aY G 400), (q2, aI G 2), (q3, aI G 144), (q4, aI G 2), (q5, aI G 18), (q6, aI G 6), (q7, aI G 3), (q8, aL G 13), (q9, aI G 13), (q10, aL G 13), (q11, aL G 13), (q12, aL G 13), (q13, aI G 40), (q14, aI G 40), (q15, aI G 40)]) rfl rfl inlX6 tyX6 tyX6_ok nmX6 27 (Nat.le_of_ble_eq_true rfl) rfl mw_114 rfl rfl rfl rfl (Nat.le_of_ble_eq_true rfl) rfl dX6_init_120 ?_
  refine v_aload_n (pc := 123) C16 (F := True) 0 rfl dX6_init_123 (fun _ => ?_) trivial
  refine v_iconst (pc := 124) C16 (F := True) 3 dX6_init_124 (by decide) (fun _ => ?_) trivial
  refine v_newa (pc := 125) C 0 (atype := .int) (ty := .int) (N := 3) (z := (3, .inl (fun _ => 0))) (a := 15) (b := 760) (a' := 16) (b' := 763) rfl (fun C h => by cases h) mw_48 rfl (fun _ => rfl) (by decide) (by decide) (Nat.le_of_ble_eq_true rfl) rfl rfl (Nat.le_of_ble_eq_true rfl) (Nat.le_of_ble_eq_true rfl) dX6_init_125 (fun q16 => ?_)
  have C17 : Ctx G (kb K 16 763) cX6_init RX6 1 1 12 := C.at (Nat.le_of_ble_eq_true rfl) (Nat.le_of_ble_eq_true rfl)
  change V G (kb K 16 763) [(h0, .inr (6, [.long 0, .ref q1, .int 0, .ref q2, .ref q3, .ref q4, .ref q5, .ref q6, .int 0, .int 0, .int 0, .int 0, .int 0, .ref q7, .int 0, .int 0, .int 0, .int 0, .ref q8, .ref q9, .ref q10, .ref q11, .ref q12, .int 0, .int 0, .ref q13, .ref q14, .ref q15, .null, .null, .null, .null, .null, .null, .null, .null])), (q1, aY G 400), (q2, aI G 2), (q3, aI G 144), (q4, aI G 2), (q5, aI G 18), (q6, aI G 6), (q7, aI G 3), (q8, aL G 13), (q9, aI G 13), (q10, aL G 13), (q11, aL G 13), (q12, aL G 13), (q13, aI G 40), (q14, aI G 40), (q15, aI G 40), (q16, aI G 3)] 127 [(0, .ref h0)] [.ref q16, .ref h0]
  refine v_putF (pc := 127) C17 (kin_kb hk) 0 (w' := [(h0, .inr (6, [.long 0, .ref q1, .int 0, .ref q2, .ref q3, .ref q4, .ref q5, .ref q6, .int 0, .int 0, .int 0, .int 0, .int 0, .ref q7, .int 0, .int 0, .int 0, .int 0, .ref q8, .ref q9, .ref q10, .ref q11, .ref q12, .int 0, .int 0, .ref q13, .ref q14, .ref q15, .ref q16, .null, .null, .null, .null, .null, .null, .null])), (q1, aY G 400), (q2, aI G 2), (q3, aI G 144), (q4, aI G 2), (q5, aI G 18), (q6, aI G 6), (q7, aI G 3), (q8, aL G 13), (q9, aI G 13), (q10, aL G 13), (q11, aL G 13), (q12, aL G 13), (q13, aI G 40), (q14, aI G 40), (q15, aI G 40), (q16, aI G 3)]) rfl rfl inlX6 tyX6 tyX6_ok nmX6 28 (Nat.le_of_ble_eq_true rfl) rfl mw_115 rfl rfl rfl rfl (Nat.le_of_ble_eq_true rfl) rfl dX6_init_127 ?_
  refine v_aload_n (pc := 130) C17 (F := True) 0 rfl dX6_init_130 (fun _ => ?_) trivial
  refine v_iconst (pc := 131) C17 (F := True) 3 dX6_init_131 (by decide) (fun _ => ?_) trivial
  refine v_newa (pc := 132) C 0 (atype := .int) (ty := .int) (N := 3) (z := (3, .inl (fun _ => 0))) (a := 16) (b := 763) (a' := 17) (b' := 766) rfl (fun C h => by cases h) mw_48 rfl (fun _ => rfl) (by decide) (by decide) (Nat.le_of_ble_eq_true rfl) rfl rfl (Nat.le_of_ble_eq_true rfl) (Nat.le_of_ble_eq_true rfl) dX6_init_132 (fun q17 => ?_)
  have C18 : Ctx G (kb K 17 766) cX6_init RX6 1 1 12 := C.at (Nat.le_of_ble_eq_true rfl) (Nat.le_of_ble_eq_true rfl)
  change V G (kb K 17 766) [(h0, .inr (6, [.long 0, .ref q1, .int 0, .ref q2, .ref q3, .ref q4, .ref q5, .ref q6, .int 0, .int 0, .int 0, .int 0, .int 0, .ref q7, .int 0, .int 0, .int 0, .int 0, .ref q8, .ref q9, .ref q10, .ref q11, .ref q12, .int 0, .int 0, .ref q13, .ref q14, .ref q15, .ref q16, .null, .null, .null, .null, .null, .null, .null])), (q1, aY G 400), (q2, aI G 2), (q3, aI G 144), (q4, aI G 2), (q5, aI G 18), (q6, aI G 6), (q7, aI G 3), (q8, aL G 13), (q9, aI G 13), (q10, aL G 13), (q11, aL G 13), (q12, aL G 13), (q13, aI G 40), (q14, aI G 40), (q15, aI G 40), (q16, aI G 3), (q17, aI G 3)] 134 [(0, .ref h0)] [.ref q17, .ref h0]
  refine v_putF (pc := 134) C18 (kin_kb hk) 0 (w' := [(h0, .inr (6, [.long 0, .ref q1, .int 0, .ref q2, .ref q3, .ref q4, .ref q5, .ref q6, .int 0, .int 0, .int 0, .int 0, .int 0, .ref q7, .int 0, .int 0, .int 0, .int 0, .ref q8, .ref q9, .ref q10, .ref q11, .ref q12, .int 0, .int 0, .ref q13, .ref q14, .ref q15, .ref q16, .ref q17, .null, .null, .null, .null, .null, .null])), (q1, aY G 400), (q2, aI G 2), (q3, aI G 144), (q4, aI G 2), (q5, aI G 18), (q6, aI G 6), (q7, aI G 3), (q8, aL G 13), (q9, aI G 13), (q10, aL G 13), (q11, aL G 13), (q12, aL G 13), (q13, aI G 40), (q14, aI G 40), (q15, aI G 40), (q16, aI G 3), (q17, aI G 3)]) rfl rfl inlX6 tyX6 tyX6_ok nmX6 29 (Nat.le_of_ble_eq_true rfl) rfl mw_116 rfl rfl rfl rfl (Nat.le_of_ble_eq_true rfl) rfl dX6_init_134 ?_
  refine v_aload_n (pc := 137) C18 (F := True) 0 rfl dX6_init_137 (fun _ => ?_) trivial
  refine v_iconst (pc := 138) C18 (F := True) 3 dX6_init_138 (by decide) (fun _ => ?_) trivial
  refine v_newa (pc := 139) C 0 (atype := .int) (ty := .int) (N := 3) (z := (3, .inl (fun _ => 0))) (a := 17) (b := 766) (a' := 18) (b' := 769) rfl (fun C h => by cases h) mw_48 rfl (fun _ => rfl) (by decide) (by decide) (Nat.le_of_ble_eq_true rfl) rfl rfl (Nat.le_of_ble_eq_true rfl) (Nat.le_of_ble_eq_true rfl) dX6_init_139 (fun q18 => ?_)
  have C19 : Ctx G (kb K 18 769) cX6_init RX6 1 1 12 := C.at (Nat.le_of_ble_eq_true rfl) (Nat.le_of_ble_eq_true rfl)
  change V G (kb K 18 769) [(h0, .inr (6, [.long 0, .ref q1, .int 0, .ref q2, .ref q3, .ref q4, .ref q5, .ref q6, .int 0, .int 0, .int 0, .int 0, .int 0, .ref q7, .int 0, .int 0, .int 0, .int 0, .ref q8, .ref q9, .ref q10, .ref q11, .ref q12, .int 0, .int 0, .ref q13, .ref q14, .ref q15, .ref q16, .ref q17, .null, .null, .null, .null, .null, .null])), (q1, aY G 400), (q2, aI G 2), (q3, aI G 144), (q4, aI G 2), (q5, aI G 18), (q6, aI G 6), (q7, aI G 3), (q8, aL G 13), (q9, aI G 13), (q10, aL G 13), (q11, aL G 13), (q12, aL G 13), (q13, aI G 40), (q14, aI G 40), (q15, aI G 40), (q16, aI G 3), (q17, aI G 3), (q18, aI G 3)] 141 [(0, .ref h0)] [.ref q18, .ref h0]
  refine v_putF (pc := 141) C19 (kin_kb hk) 0 (w' := [(h0, .inr (6, [.long 0, .ref q1, .int 0, .ref q2, .ref q3, .ref q4, .ref q5, .ref q6, .int 0, .int 0, .int 0, .int 0, .int 0, .ref q7, .int 0, .int 0, .int 0, .int 0, .ref q8, .ref q9, .ref q10, .ref q11, .ref q12, .int 0, .int 0, .ref q13, .ref q14, .ref q15, .ref q16, .ref q17, .ref q18, .null, .null, .null, .null, .null])), (q1, aY G 400), (q2, aI G 2), (q3, aI G 144), (q4, aI G 2), (q5, aI G 18), (q6, aI G 6), (q7, aI G 3), (q8, aL G 13), (q9, aI G 13), (q10, aL G 13), (q11, aL G 13), (q12, aL G 13), (q13, aI G 40), (q14, aI G 40), (q15, aI G 40), (q16, aI G 3), (q17, aI G 3), (q18, aI G 3)]) rfl rfl inlX6 tyX6 tyX6_ok nmX6 30 (Nat.le_of_ble_eq_true rfl) rfl mw_117 rfl rfl rfl rfl (Nat.le_of_ble_eq_true rfl) rfl dX6_init_141 ?_
  refine v_aload_n (pc := 144) C19 (F := True) 0 rfl dX6_init_144 (fun _ => ?_) trivial
  refine v_iconst (pc := 145) C19 (F := True) 3 dX6_init_145 (by decide) (fun _ => ?_) trivial
  refine v_newa (pc := 146) C 0 (atype := .int) (ty := .int) (N := 3) (z := (3, .inl (fun _ => 0))) (a := 18) (b := 769) (a' := 19) (b' := 772) rfl (fun C h => by cases h) mw_48 rfl (fun _ => rfl) (by decide) (by decide) (Nat.le_of_ble_eq_true rfl) rfl rfl (Nat.le_of_ble_eq_true rfl) (Nat.le_of_ble_eq_true rfl) dX6_init_146 (fun q19 => ?_)
  have C20 : Ctx G (kb K 19 772) cX6_init RX6 1 1 12 := C.at (Nat.le_of_ble_eq_true rfl) (Nat.le_of_ble_eq_true rfl)
  change V G (kb K 19 772) [(h0, .inr (6, [.long 0, .ref q1, .int 0, .ref q2, .ref q3, .ref q4, .ref q5, .ref q6, .int 0, .int 0, .int 0, .int 0, .int 0, .ref q7, .int 0, .int 0, .int 0, .int 0, .ref q8, .ref q9, .ref q10, .ref q11, .ref q12, .int 0, .int 0, .ref q13, .ref q14, .ref q15, .ref q16, .ref q17, .ref q18, .null, .null, .null, .null, .null])), (q1, aY G 400), (q2, aI G 2), (q3, aI G 144), (q4, aI G 2), (q5, aI G 18), (q6, aI G 6), (q7, aI G 3), (q8, aL G 13), (q9, aI G 13), (q10, aL G 13), (q11, aL G 13), (q12, aL G 13), (q13, aI G 40), (q14, aI G 40), (q15, aI G 40), (q16, aI G 3), (q17, aI G 3), (q18, aI G 3), (q19, aI G 3)] 148 [(0, .ref h0)] [.ref q19, .ref h0]
  refine v_putF (pc := 148) C20 (kin_kb hk) 0 (w' := [(h0, .inr (6, [.long 0, .ref q1, .int 0, .ref q2, .ref q3, .ref q4, .ref q5, .ref q6, .int 0, .int 0, .int 0, .int 0, .int 0, .ref q7, .int 0, .int 0, .int 0, .int 0, .ref q8, .ref q9, .ref q10, .ref q11, .ref q12, .int 0, .int 0, .ref q13, .ref q14, .ref q15, .ref q16, .ref q17, .ref q18, .ref q19, .null, .null, .null, .null])), (q1, aY G 400), (q2, aI G 2), (q3, aI G 144), (q4, aI G 2), (q5, aI G 18), (q6, aI G 6), (q7, aI G 3), (q8, aL G 13), (q9, aI G 13), (q10, aL G 13), (q11, aL G 13), (q12, aL G 13), (q13, aI G 40), (q14, aI G 40), (q15, aI G 40), (q16, aI G 3), (q17, aI G 3), (q18, aI G 3), (q19, aI G 3)]) rfl rfl inlX6 tyX6 tyX6_ok nmX6 31 (Nat.le_of_ble_eq_true rfl) rfl mw_118 rfl rfl rfl rfl (Nat.le_of_ble_eq_true rfl) rfl dX6_init_148 ?_
  refine v_aload_n (pc := 151) C20 (F := True) 0 rfl dX6_init_151 (fun _ => ?_) trivial
  refine v_iconst (pc := 152) C20 (F := True) 3 dX6_init_152 (by decide) (fun _ => ?_) trivial
  refine v_newa (pc := 153) C 0 (atype := .int) (ty := .int) (N := 3) (z := (3, .inl (fun _ => 0))) (a := 19) (b := 772) (a' := 20) (b' := 775) rfl (fun C h => by cases h) mw_48 rfl (fun _ => rfl) (by decide) (by decide) (Nat.le_of_ble_eq_true rfl) rfl rfl (Nat.le_of_ble_eq_true rfl) (Nat.le_of_ble_eq_true rfl) dX6_init_153 (fun q20 => ?_)
  have C21 : Ctx G (kb K 20 775) cX6_init RX6 1 1 12 := C.at (Nat.le_of_ble_eq_true rfl) (Nat.le_of_ble_eq_true rfl)
  change V G (kb K 20 775) [(h0, .inr (6, [.long 0, .ref q1, .int 0, .ref q2, .ref q3, .ref q4, .ref q5, .ref q6, .int 0, .int 0, .int 0, .int 0, .int 0, .ref q7, .int 0, .int 0, .int 0, .int 0, .ref q8, .ref q9, .ref q10, .ref q11, .ref q12, .int 0, .int 0, .ref q13, .ref q14, .ref q15, .ref q16, .ref q17, .ref q18, .ref q19, .null, .null, .null, .null])), (q1, aY G 400), (q2, aI G 2), (q3, aI G 144), (q4, aI G 2), (q5, aI G 18), (q6, aI G 6), (q7, aI G 3), (q8, aL G 13), (q9, aI G 13), (q10, aL G 13), (q11, aL G 13), (q12, aL G 13), (q13, aI G 40), (q14, aI G 40), (q15, aI G 40), (q16, aI G 3), (q17, aI G 3), (q18, aI G 3), (q19, aI G 3), (q20, aI G 3)] 155 [(0, .ref h0)] [.ref q20, .ref h0]
  refine v_putF (pc := 155) C21 (kin_kb hk) 0 (w' := [(h0, .inr (6, [.long 0, .ref q1, .int 0, .ref q2, .ref q3, .ref q4, .ref q5, .ref q6, .int 0, .int 0, .int 0, .int 0, .int 0, .ref q7, .int 0, .int 0, .int 0, .int 0, .ref q8, .ref q9, .ref q10, .ref q11, .ref q12, .int 0, .int 0, .ref q13, .ref q14, .ref q15, .ref q16, .ref q17, .ref q18, .ref q19, .ref q20, .null, .null, .null])), (q1, aY G 400), (q2, aI G 2), (q3, aI G 144), (q4, aI G 2), (q5, aI G 18), (q6, aI G 6), (q7, aI G 3), (q8, aL G 13), (q9, aI G 13), (q10, aL G 13), (q11, aL G 13), (q12, aL G 13), (q13, aI G 40), (q14, aI G 40), (q15, aI G 40), (q16, aI G 3), (q17, aI G 3), (q18, aI G 3), (q19, aI G 3), (q20, aI G 3)]) rfl rfl inlX6 tyX6 tyX6_ok nmX6 32 (Nat.le_of_ble_eq_true rfl) rfl mw_119 rfl rfl rfl rfl (Nat.le_of_ble_eq_true rfl) rfl dX6_init_155 ?_
  refine v_aload_n (pc := 158) C21 (F := True) 0 rfl dX6_init_158 (fun _ => ?_) trivial
  refine v_iconst (pc := 159) C21 (F := True) 3 dX6_init_159 (by decide) (fun _ => ?_) trivial
  refine v_newa (pc := 160) C 0 (atype := .int) (ty := .int) (N := 3) (z := (3, .inl (fun _ => 0))) (a := 20) (b := 775) (a' := 21) (b' := 778) rfl (fun C h => by cases h) mw_48 rfl (fun _ => rfl) (by decide) (by decide) (Nat.le_of_ble_eq_true rfl) rfl rfl (Nat.le_of_ble_eq_true rfl) (Nat.le_of_ble_eq_true rfl) dX6_init_160 (fun q21 => ?_)
  have C22 : Ctx G (kb K 21 778) cX6_init RX6 1 1 12 := C.at (Nat.le_of_ble_eq_true rfl) (Nat.le_of_ble_eq_true rfl)
  change V G (kb K 21 778) [(h0, .inr (6, [.long 0, .ref q1, .int 0, .ref q2, .ref q3, .ref q4, .ref q5, .ref q6, .int 0, .int 0, .int 0, .int 0, .int 0, .ref q7, .int 0, .int 0, .int 0, .int 0, .ref q8, .ref q9, .ref q10, .ref q11, .ref q12, .int 0, .int 0, .ref q13, .ref q14, .ref q15, .ref q16, .ref q17, .ref q18, .ref q19, .ref q20, .null, .null, .null])), (q1, aY G 400), (q2, aI G 2), (q3, aI G 144), (q4, aI G 2), (q5, aI G 18), (q6, aI G 6), (q7, aI G 3), (q8, aL G 13), (q9, aI G 13), (q10, aL G 13), (q11, aL G 13), (q12, aL G 13), (q13, aI G 40), (q14, aI G 40), (q15, aI G 40), (q16, aI G 3), (q17, aI G 3), (q18, aI G 3), (q19, aI G 3), (q20, aI G 3), (q21, aI G 3)] 162 [(0, .ref h0)] [.ref q21, .ref h0]
  refine v_putF (pc := 162) C22 (kin_kb hk) 0 (w' := [(h0, .inr (6, [.long 0, .ref q1, .int 0, .ref q2, .ref q3, .ref q4, .ref q5, .ref q6, .int 0, .int 0, .int 0, .int 0, .int 0, .ref q7, .int 0, .int 0, .int 0, .int 0, .ref q8, .ref q9, .ref q10, .ref q11, .ref q12, .int 0, .int 0, .ref q13, .ref q14, .ref q15, .ref q16, .ref q17, .ref q18, .ref q19, .ref q20, .ref q21, .null, .null])), (q1, aY G 400), (q2, aI G 2), (q3, aI G 144), (q4, aI G 2), (q5, aI G 18), (q6, aI G 6), (q7, aI G 3), (q8, aL G 13), (q9, aI G 13), (q10, aL G 13), (q11, aL G 13), (q12, aL G 13), (q13, aI G 40), (q14, aI G 40), (q15, aI G 40), (q16, aI G 3), (q17, aI G 3), (q18, aI G 3), (q19, aI G 3), (q20, aI G 3), (q21, aI G 3)]) rfl rfl inlX6 tyX6 tyX6_ok nmX6 33 (Nat.le_of_ble_eq_true rfl) rfl mw_120 rfl rfl rfl rfl (Nat.le_of_ble_eq_true rfl) rfl dX6_init_162 ?_
  refine v_aload_n (pc := 165) C22 (F := True) 0 rfl dX6_init_165 (fun _ => ?_) trivial
  refine v_iconst (pc := 166) C22 (F := True) 3 dX6_init_166 (by decide) (fun _ => ?_) trivial
  refine v_newa (pc := 167) C 0 (atype := .int) (ty := .int) (N := 3) (z := (3, .inl (fun _ => 0))) (a := 21) (b := 778) (a' := 22) (b' := 781) rfl (fun C h => by cases h) mw_48 rfl (fun _ => rfl) (by decide) (by decide) (Nat.le_of_ble_eq_true rfl) rfl rfl (Nat.le_of_ble_eq_true rfl) (Nat.le_of_ble_eq_true rfl) dX6_init_167 (fun q22 => ?_)
  have C23 : Ctx G (kb K 22 781) cX6_init RX6 1 1 12 := C.at (Nat.le_of_ble_eq_true rfl) (Nat.le_of_ble_eq_true rfl)
  change V G (kb K 22 781) [(h0, .inr (6, [.long 0, .ref q1, .int 0, .ref q2, .ref q3, .ref q4, .ref q5, .ref q6, .int 0, .int 0, .int 0, .int 0, .int 0, .ref q7, .int 0, .int 0, .int 0, .int 0, .ref q8, .ref q9, .ref q10, .ref q11, .ref q12, .int 0, .int 0, .ref q13, .ref q14, .ref q15, .ref q16, .ref q17, .ref q18, .ref q19, .ref q20, .ref q21, .null, .null])), (q1, aY G 400), (q2, aI G 2), (q3, aI G 144), (q4, aI G 2), (q5, aI G 18), (q6, aI G 6), (q7, aI G 3), (q8, aL G 13), (q9, aI G 13), (q10, aL G 13), (q11, aL G 13), (q12, aL G 13), (q13, aI G 40), (q14, aI G 40), (q15, aI G 40), (q16, aI G 3), (q17, aI G 3), (q18, aI G 3), (q19, aI G 3), (q20, aI G 3), (q21, aI G 3), (q22, aI G 3)] 169 [(0, .ref h0)] [.ref q22, .ref h0]
  refine v_putF (pc := 169) C23 (kin_kb hk) 0 (w' := [(h0, .inr (6, [.long 0, .ref q1, .int 0, .ref q2, .ref q3, .ref q4, .ref q5, .ref q6, .int 0, .int 0, .int 0, .int 0, .int 0, .ref q7, .int 0, .int 0, .int 0, .int 0, .ref q8, .ref q9, .ref q10, .ref q11, .ref q12, .int 0, .int 0, .ref q13, .ref q14, .ref q15, .ref q16, .ref q17, .ref q18, .ref q19, .ref q20, .ref q21, .ref q22, .null])), (q1, aY G 400), (q2, aI G 2), (q3, aI G 144), (q4, aI G 2), (q5, aI G 18), (q6, aI G 6), (q7, aI G 3), (q8, aL G 13), (q9, aI G 13), (q10, aL G 13), (q11, aL G 13), (q12, aL G 13), (q13, aI G 40), (q14, aI G 40), (q15, aI G 40), (q16, aI G 3), (q17, aI G 3), (q18, aI G 3), (q19, aI G 3), (q20, aI G 3), (q21, aI G 3), (q22, aI G 3)]) rfl rfl inlX6 tyX6 tyX6_ok nmX6 34 (Nat.le_of_ble_eq_true rfl) rfl mw_121 rfl rfl rfl rfl (Nat.le_of_ble_eq_true rfl) rfl dX6_init_169 ?_
  refine v_aload_n (pc := 172) C23 (F := True) 0 rfl dX6_init_172 (fun _ => ?_) trivial
  refine v_iconst (pc := 173) C23 (F := True) 2 dX6_init_173 (by decide) (fun _ => ?_) trivial
  refine v_newa (pc := 174) C 3 (atype := .boolean) (ty := .boolean) (N := 2) (z := (2, .inl (fun _ => 0))) (a := 22) (b := 781) (a' := 23) (b' := 783) rfl (fun C h => by cases h) mw_122 rfl (fun _ => rfl) (by decide) (by decide) (Nat.le_of_ble_eq_true rfl) rfl rfl (Nat.le_of_ble_eq_true rfl) (Nat.le_of_ble_eq_true rfl) dX6_init_174 (fun q23 => ?_)
  have C24 : Ctx G (kb K 23 783) cX6_init RX6 1 1 12 := C.at (Nat.le_of_ble_eq_true rfl) (Nat.le_of_ble_eq_true rfl)
  change V G (kb K 23 783) [(h0, .inr (6, [.long 0, .ref q1, .int 0, .ref q2, .ref q3, .ref q4, .ref q5, .ref q6, .int 0, .int 0, .int 0, .int 0, .int 0, .ref q7, .int 0, .int 0, .int 0, .int 0, .ref q8, .ref q9, .ref q10, .ref q11, .ref q12, .int 0, .int 0, .ref q13, .ref q14, .ref q15, .ref q16, .ref q17, .ref q18, .ref q19, .ref q20, .ref q21, .ref q22, .null])), (q1, aY G 400), (q2, aI G 2), (q3, aI G 144), (q4, aI G 2), (q5, aI G 18), (q6, aI G 6), (q7, aI G 3), (q8, aL G 13), (q9, aI G 13), (q10, aL G 13), (q11, aL G 13), (q12, aL G 13), (q13, aI G 40), (q14, aI G 40), (q15, aI G 40), (q16, aI G 3), (q17, aI G 3), (q18, aI G 3), (q19, aI G 3), (q20, aI G 3), (q21, aI G 3), (q22, aI G 3), (q23, aZ G 2)] 176 [(0, .ref h0)] [.ref q23, .ref h0]
  refine v_putF (pc := 176) C24 (kin_kb hk) 0 (w' := [(h0, .inr (6, [.long 0, .ref q1, .int 0, .ref q2, .ref q3, .ref q4, .ref q5, .ref q6, .int 0, .int 0, .int 0, .int 0, .int 0, .ref q7, .int 0, .int 0, .int 0, .int 0, .ref q8, .ref q9, .ref q10, .ref q11, .ref q12, .int 0, .int 0, .ref q13, .ref q14, .ref q15, .ref q16, .ref q17, .ref q18, .ref q19, .ref q20, .ref q21, .ref q22, .ref q23])), (q1, aY G 400), (q2, aI G 2), (q3, aI G 144), (q4, aI G 2), (q5, aI G 18), (q6, aI G 6), (q7, aI G 3), (q8, aL G 13), (q9, aI G 13), (q10, aL G 13), (q11, aL G 13), (q12, aL G 13), (q13, aI G 40), (q14, aI G 40), (q15, aI G 40), (q16, aI G 3), (q17, aI G 3), (q18, aI G 3), (q19, aI G 3), (q20, aI G 3), (q21, aI G 3), (q22, aI G 3), (q23, aZ G 2)]) rfl rfl inlX6 tyX6 tyX6_ok nmX6 35 (Nat.le_of_ble_eq_true rfl) rfl mw_123 rfl rfl rfl rfl (Nat.le_of_ble_eq_true rfl) rfl dX6_init_176 ?_
  obtain ⟨ad, had⟩ : ∃ ad : Nat → Nat, ad = fun i => ([h0, q1, q2, q3, q4, q5, q6, q7, q8, q9, q10, q11, q12, q13, q14, q15, q16, q17, q18, q19, q20, q21, q22, q23] : List Nat).getD i 0 := ⟨_, rfl⟩
  have a0 : ad 0 = h0 := by rw [had]; rfl
  have ew : [(h0, .inr (6, [.long 0, .ref q1, .int 0, .ref q2, .ref q3, .ref q4, .ref q5, .ref q6, .int 0, .int 0, .int 0, .int 0, .int 0, .ref q7, .int 0, .int 0, .int 0, .int 0, .ref q8, .ref q9, .ref q10, .ref q11, .ref q12, .int 0, .int 0, .ref q13, .ref q14, .ref q15, .ref q16, .ref q17, .ref q18, .ref q19, .ref q20, .ref q21, .ref q22, .ref q23])), (q1, aY G 400), (q2, aI G 2), (q3, aI G 144), (q4, aI G 2), (q5, aI G 18), (q6, aI G 6), (q7, aI G 3), (q8, aL G 13), (q9, aI G 13), (q10, aL G 13), (q11, aL G 13), (q12, aL G 13), (q13, aI G 40), (q14, aI G 40), (q15, aI G 40), (q16, aI G 3), (q17, aI G 3), (q18, aI G 3), (q19, aI G 3), (q20, aI G 3), (q21, aI G 3), (q22, aI G 3), (q23, aZ G 2)] = wM (gM G ad) sZ := by rw [had]; rfl
  rw [ew]
  have C9 : Ctx (gM G ad) (kb K 23 783) cX6_init RX6 1 1 12 := C24.gM
  have hh : (.ref h0 : Value) = .ref (aM (gM G ad) 0) := by rw [← a0]; rfl
  rw [hh]
  show V (gM G ad) (kb K 23 783) (wM (gM G ad) sZ) 179 [(0, .ref (aM (gM G ad) 0))] []
  refine v_aload_n (pc := 179) C9 (F := True) 0 rfl dX6_init_179 (fun _ => ?_) trivial
  refine g6_tune (pc := 180) C9 (F := True) mw_105 dX6_init_180 (fun _ => ?_) trivial
  refine v_iconst (pc := 183) C9 (F := True) 0 dX6_init_183 (by decide) (fun _ => ?_) trivial
  refine v_iconst (pc := 184) C9 (F := True) 3 dX6_init_184 (by decide) (fun _ => ?_) trivial
  refine v_iast (pc := 185) C9 (A := some ()) (Φ := fun _ => True) 6 am_6 (at_6 _ _) dX6_init_185 (fun _ => ?_) ⟨(), if_pos (show inb 0 6 by decide), trivial⟩
  refine v_aload_n (pc := 186) C9 (F := True) 0 rfl dX6_init_186 (fun _ => ?_) trivial
  refine g6_tune (pc := 187) C9 (F := True) mw_105 dX6_init_187 (fun _ => ?_) trivial
  refine v_iconst (pc := 190) C9 (F := True) 1 dX6_init_190 (by decide) (fun _ => ?_) trivial
  refine v_iconst (pc := 191) C9 (F := True) 2 dX6_init_191 (by decide) (fun _ => ?_) trivial
  refine v_iast (pc := 192) C9 (A := some ()) (Φ := fun _ => True) 6 am_6 (at_6 _ _) dX6_init_192 (fun _ => ?_) ⟨(), if_pos (show inb 1 6 by decide), trivial⟩
  refine v_aload_n (pc := 193) C9 (F := True) 0 rfl dX6_init_193 (fun _ => ?_) trivial
  refine g6_tune (pc := 194) C9 (F := True) mw_105 dX6_init_194 (fun _ => ?_) trivial
  refine v_iconst (pc := 197) C9 (F := True) 2 dX6_init_197 (by decide) (fun _ => ?_) trivial
  refine v_iconst (pc := 198) C9 (F := True) 2 dX6_init_198 (by decide) (fun _ => ?_) trivial
  refine v_iast (pc := 199) C9 (A := some ()) (Φ := fun _ => True) 6 am_6 (at_6 _ _) dX6_init_199 (fun _ => ?_) ⟨(), if_pos (show inb 2 6 by decide), trivial⟩
  refine v_aload_n (pc := 200) C9 (F := True) 0 rfl dX6_init_200 (fun _ => ?_) trivial
  refine g6_tune (pc := 201) C9 (F := True) mw_105 dX6_init_201 (fun _ => ?_) trivial
  refine v_iconst (pc := 204) C9 (F := True) 3 dX6_init_204 (by decide) (fun _ => ?_) trivial
  refine v_iconst (pc := 205) C9 (F := True) 4 dX6_init_205 (by decide) (fun _ => ?_) trivial
  refine v_iast (pc := 206) C9 (A := some ()) (Φ := fun _ => True) 6 am_6 (at_6 _ _) dX6_init_206 (fun _ => ?_) ⟨(), if_pos (show inb 3 6 by decide), trivial⟩
  refine v_aload_n (pc := 207) C9 (F := True) 0 rfl dX6_init_207 (fun _ => ?_) trivial
  refine g6_tune (pc := 208) C9 (F := True) mw_105 dX6_init_208 (fun _ => ?_) trivial
  refine v_iconst (pc := 211) C9 (F := True) 4 dX6_init_211 (by decide) (fun _ => ?_) trivial
  refine v_iconst (pc := 212) C9 (F := True) 3 dX6_init_212 (by decide) (fun _ => ?_) trivial
  refine v_iast (pc := 213) C9 (A := some ()) (Φ := fun _ => True) 6 am_6 (at_6 _ _) dX6_init_213 (fun _ => ?_) ⟨(), if_pos (show inb 4 6 by decide), trivial⟩
  refine v_aload_n (pc := 214) C9 (F := True) 0 rfl dX6_init_214 (fun _ => ?_) trivial
  refine g6_lots (pc := 215) C9 (F := True) mw_121 dX6_init_215 (fun _ => ?_) trivial
  refine v_iconst (pc := 218) C9 (F := True) 0 dX6_init_218 (by decide) (fun _ => ?_) trivial
  refine v_iconst (pc := 219) C9 (F := True) 1 dX6_init_219 (by decide) (fun _ => ?_) trivial
  refine v_iast (pc := 220) C9 (A := some ()) (Φ := fun _ => True) 22 am_22 (at_22 _ _) dX6_init_220 (fun _ => ?_) ⟨(), if_pos (show inb 0 3 by decide), trivial⟩
  refine v_aload_n (pc := 221) C9 (F := True) 0 rfl dX6_init_221 (fun _ => ?_) trivial
  refine g6_where (pc := 222) C9 (F := True) mw_116 dX6_init_222 (fun _ => ?_) trivial
  refine v_iconst (pc := 225) C9 (F := True) 0 dX6_init_225 (by decide) (fun _ => ?_) trivial
  refine v_bipush (pc := 226) C9 (F := True) 12 dX6_init_226 (by decide) (fun _ => ?_) trivial
  refine v_iast (pc := 228) C9 (A := some ()) (Φ := fun _ => True) 17 am_17 (at_17 _ _) dX6_init_228 (fun _ => ?_) ⟨(), if_pos (show inb 0 3 by decide), trivial⟩
  exact hret _ _ _ ⟨ad, a0, rfl⟩ dX6_init_229
