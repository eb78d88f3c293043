def f5_tune (a1 : Int32) (a2 : Int32) (s0 : SS) : Option (Int32 × SS) := if a1 < 0 then some ((-1), s0) else if a1 < 6 then bd (f5_within a2 5 6 a1 s0) (fun x1 => if x1 = 0 then some ((-1), s0) else gd (inb a1 6) (lt ((s0.1 1 a1.toNatClampNeg)) (fun x2 => gd (inb a1 6) (lt (sI s0 1 (Int32.toNatClampNeg a1) a2) (fun q3 => some (x2, q3)))))) else some ((-1), s0)
set_option maxHeartbeats 4000000 in
set_option maxRecDepth 100000 in
theorem m5_tune (G : GT) (l : Launch) (a1 : Int32) (a2 : Int32)  (s0 : SS) (r : Int32) (s1 : SS) (hf : f5_tune a1 a2 s0 = some (r, s1)) : MI G l yX5_tune cX5_tune 4 (some .int) 1 23 [.ref (aX G 0), .int a1, .int a2] (wX G s0) r (wX G s1) := by
  refine MI.start (by decide +kernel) (Nat.le_of_ble_eq_true rfl) (fun K hl C hret => ?_)
  subst hl
  have C : Ctx G K cX5_tune RX5 4 1 23 := C
  change V G K (wX G s0) 0 [(0, .ref (aX G 0)), (1, .int a1), (2, .int a2)] []
  refine (?_ : tp (f5_tune a1 a2 s0) (fun q => q = (r, s1)) → _) ⟨_, hf, rfl⟩
  rw [f5_tune]
  refine v_iload_n (pc := 0) C 1 rfl dX5_tune_0 ?_
  refine v_if_lt (pc := 1) C 27 dX5_tune_1 (by decide) ?_ ?_
  · refine v_iconst (pc := 27) C (-1) dX5_tune_27 (by decide) ?_
    exact tp_out (fun h => hret _ _ _ _ ⟨(Prod.mk.inj h).1, congrArg (wX G) (Prod.mk.inj h).2⟩ dX5_tune_28)
  · refine v_iload_n (pc := 4) C 1 rfl dX5_tune_4 ?_
    refine v_aload_n (pc := 5) C 0 rfl dX5_tune_5 ?_
    refine g5_tunes (pc := 6) C mw_20 dX5_tune_6 ?_
    refine v_alen (pc := 9) C _ 0 ax_1 rfl (v := 6) rfl dX5_tune_9 ?_
    refine v_icmp_ge (pc := 10) C 27 dX5_tune_10 (by decide) ?_ ?_
    · refine v_iload_n (pc := 13) C 2 rfl dX5_tune_13 ?_
      refine v_gets (pc := 14) C 5 (by decide) mw_408 dX5_tune_14 ?_
      refine v_gets (pc := 17) C 6 (by decide) mw_409 dX5_tune_17 ?_
      refine v_iload_n (pc := 20) C 1 rfl dX5_tune_20 ?_
      refine cIs4r (pc := 21) C (fun r9 h9 => m5_within G K.2.1 a2 5 6 a1 (by decide) (by decide) s0 r9 h9) q_yX5_within mw_259 ⟨by decide, by decide⟩ (Nat.le_of_ble_eq_true rfl) dX5_tune_21 (fun x1 => ?_)
      refine v_if_ne (pc := 24) C 29 dX5_tune_24 (by decide) ?_ ?_
      · refine v_iconst (pc := 27) C (-1) dX5_tune_27 (by decide) ?_
        exact tp_out (fun h => hret _ _ _ _ ⟨(Prod.mk.inj h).1, congrArg (wX G) (Prod.mk.inj h).2⟩ dX5_tune_28)
      · refine v_aload_n (pc := 29) C 0 rfl dX5_tune_29 ?_
        refine g5_tunes (pc := 30) C mw_20 dX5_tune_30 ?_
        refine v_iload_n (pc := 33) C 1 rfl dX5_tune_33 ?_
        refine v_iald (pc := 34) C _ ax_1 dX5_tune_34 ?_
        refine r_lti (fun x2 => ?_)
        refine v_istore_n (pc := 35) C dX5_tune_35 (by decide) (lv' := [(3, .int x2), (0, .ref (aX G 0)), (1, .int a1), (2, .int a2)]) rfl ?_
        refine v_aload_n (pc := 36) C 1 rfl dX5_tune_36 ?_
        refine g5_tunes (pc := 37) C mw_20 dX5_tune_37 ?_
        refine v_iload_n (pc := 40) C 2 rfl dX5_tune_40 ?_
        refine v_iload_n (pc := 41) C 3 rfl dX5_tune_41 ?_
        refine v_iast (pc := 42) C _ ax_1 (as_1 _ _) dX5_tune_42 ?_
        refine r_ltx (fun q3 => ?_)
        refine v_iload_n (pc := 43) C 0 rfl dX5_tune_43 ?_
        exact tp_out (fun h => hret _ _ _ _ ⟨(Prod.mk.inj h).1, congrArg (wX G) (Prod.mk.inj h).2⟩ dX5_tune_44)
    · refine v_iconst (pc := 27) C (-1) dX5_tune_27 (by decide) ?_
      exact tp_out (fun h => hret _ _ _ _ ⟨(Prod.mk.inj h).1, congrArg (wX G) (Prod.mk.inj h).2⟩ dX5_tune_28)
def f5_sawn (a1 : Int32) (s0 : SS) : Option (Int32 × SS) := lt ((s0.1 (17 + 0) 7)) (fun x1 => bd (f4_all (s0.2.2 0) s0) (fun x2 => lt (sI s0 (17 + 0) 7 (a1 &&& x2)) (fun q3 => some (x1, q3))))
set_option maxHeartbeats 4000000 in
set_option maxRecDepth 100000 in
theorem m5_sawn (G : GT) (l : Launch) (a1 : Int32)  (s0 : SS) (r : Int32) (s1 : SS) (hf : f5_sawn a1 s0 = some (r, s1)) : MI G l yX5_sawn cX5_sawn 3 (some .int) 1 20 [.ref (aX G 0), .int a1] (wX G s0) r (wX G s1) := by
  refine MI.start (by decide +kernel) (Nat.le_of_ble_eq_true rfl) (fun K hl C hret => ?_)
  subst hl
  have C : Ctx G K cX5_sawn RX5 3 1 20 := C
  change V G K (wX G s0) 0 [(0, .ref (aX G 0)), (1, .int a1)] []
  refine (?_ : tp (f5_sawn a1 s0) (fun q => q = (r, s1)) → _) ⟨_, hf, rfl⟩
  rw [f5_sawn]
  refine v_aload_n (pc := 0) C 0 rfl dX5_sawn_0 ?_
  refine g5_present (pc := 1) C mw_36 dX5_sawn_1 ?_
  refine g1_sawn 0 (by decide) (pc := 4) C mw_154 dX5_sawn_4 ?_
  refine r_lti (fun x1 => ?_)
  refine v_istore_n (pc := 7) C dX5_sawn_7 (by decide) (lv' := [(2, .int x1), (0, .ref (aX G 0)), (1, .int a1)]) rfl ?_
  refine v_aload_n (pc := 8) C 1 rfl dX5_sawn_8 ?_
  refine g5_present (pc := 9) C mw_36 dX5_sawn_9 ?_
  refine v_iload_n (pc := 12) C 2 rfl dX5_sawn_12 ?_
  refine v_aload_n (pc := 13) C 1 rfl dX5_sawn_13 ?_
  refine g5_wood (pc := 14) C mw_41 dX5_sawn_14 ?_
  refine cIv0r (pc := 17) C (fun r9 h9 => m4_all G K.2.1 (s0.2.2 0) s0 r9 h9) q_yX4_all mw_421 (rc_4 (s0.2.2 0)) ⟨by decide, by decide⟩ (Nat.le_of_ble_eq_true rfl) dX5_sawn_17 (fun x2 => ?_)
  refine v_iand (pc := 20) C dX5_sawn_20 ?_
  refine p1_sawn 0 (by decide) (pc := 21) C mw_154 dX5_sawn_21 ?_
  refine r_ltx (fun q3 => ?_)
  refine v_iload_n (pc := 24) C 0 rfl dX5_sawn_24 ?_
  exact tp_out (fun h => hret _ _ _ _ ⟨(Prod.mk.inj h).1, congrArg (wX G) (Prod.mk.inj h).2⟩ dX5_sawn_25)
def f5_isPlace (a1 : Int32) (s0 : SS) : Option Int32 := if a1 = (-1) then some 1 else bd (f5_isBranch a1 s0) (fun x1 => if x1 = 0 then some 0 else some 1)
set_option maxHeartbeats 4000000 in
set_option maxRecDepth 100000 in
theorem m5_isPlace (G : GT) (l : Launch) (a1 : Int32)  (s0 : SS) (r : Int32) (hf : f5_isPlace a1 s0 = some r) : MI G l yX5_isPlace cX5_isPlace 2 (some .boolean) 1 21 [.ref (aX G 0), .int a1] (wX G s0) r (wX G s0) := by
  refine MI.startZ (by decide +kernel) (Nat.le_of_ble_eq_true rfl) (fun K hl C hret => ?_)
  subst hl
  have C : Ctx G K cX5_isPlace RX5 2 1 21 := C
  change V G K (wX G s0) 0 [(0, .ref (aX G 0)), (1, .int a1)] []
  refine (?_ : tp (f5_isPlace a1 s0) (fun q => q = r) → _) ⟨_, hf, rfl⟩
  rw [f5_isPlace]
  refine v_iload_n (pc := 0) C 1 rfl dX5_isPlace_0 ?_
  refine v_iconst (pc := 1) C (-1) dX5_isPlace_1 (by decide) ?_
  refine v_icmp_eq (pc := 2) C 13 dX5_isPlace_2 (by decide) ?_ ?_
  · refine v_iconst (pc := 13) C 1 dX5_isPlace_13 (by decide) ?_
    refine v_goto (pc := 14) C 18 dX5_isPlace_14 (by decide) ?_
    exact tp_out (fun h => hret _ _ _ _ ⟨h, rfl⟩ (Or.inr rfl) dX5_isPlace_18)
  · refine v_aload_n (pc := 5) C 0 rfl dX5_isPlace_5 ?_
    refine v_iload_n (pc := 6) C 1 rfl dX5_isPlace_6 ?_
    refine cIv1r (pc := 7) C (fun r9 h9 => m5_isBranch G K.2.1 a1 s0 r9 h9) q_yX5_isBranch mw_352 rc_5 ⟨by decide, by decide⟩ (Nat.le_of_ble_eq_true rfl) dX5_isPlace_7 (fun x1 => ?_)
    refine v_if_eq (pc := 10) C 17 dX5_isPlace_10 (by decide) ?_ ?_
    · refine v_iconst (pc := 17) C 0 dX5_isPlace_17 (by decide) ?_
      exact tp_out (fun h => hret _ _ _ _ ⟨h, rfl⟩ (Or.inl rfl) dX5_isPlace_18)
    · refine v_iconst (pc := 13) C 1 dX5_isPlace_13 (by decide) ?_
      refine v_goto (pc := 14) C 18 dX5_isPlace_14 (by decide) ?_
      exact tp_out (fun h => hret _ _ _ _ ⟨h, rfl⟩ (Or.inr rfl) dX5_isPlace_18)
def f5_tuned (a1 : Int32) (s0 : SS) : Option Int32 := lt (fun (_u : Unit) => some 0) (fun j1 => if a1 < 0 then j1 () else if a1 < 6 then gd (inb a1 6) (some (s0.1 1 a1.toNatClampNeg)) else j1 ())
set_option maxHeartbeats 4000000 in
set_option maxRecDepth 100000 in
theorem m5_tuned (G : GT) (l : Launch) (a1 : Int32)  (s0 : SS) (r : Int32) (hf : f5_tuned a1 s0 = some r) : MI G l yX5_tuned cX5_tuned 2 (some .int) 0 0 [.ref (aX G 0), .int a1] (wX G s0) r (wX G s0) := by
  refine MI.start (by decide +kernel) (Nat.le_of_ble_eq_true rfl) (fun K hl C hret => ?_)
  subst hl
  have C : Ctx G K cX5_tuned RX5 2 0 0 := C
  change V G K (wX G s0) 0 [(0, .ref (aX G 0)), (1, .int a1)] []
  refine (?_ : tp (f5_tuned a1 s0) (fun q => q = r) → _) ⟨_, hf, rfl⟩
  rw [f5_tuned]
  refine v_iload_n (pc := 0) C 1 rfl dX5_tuned_0 ?_
  refine r_lJ (fun Φ0 j1 => ∀ (_u : Unit), tp (j1 ()) Φ0 → V G K (wX G s0) 22 [] []) (fun _u => ?_) (fun j1 hj2 => ?_)
  · refine v_iconst (pc := 22) C 0 dX5_tuned_22 (by decide) ?_
    exact tp_out (fun h => hret _ _ _ _ ⟨h, rfl⟩ dX5_tuned_23)
  refine v_if_lt (pc := 1) C 22 dX5_tuned_1 (by decide) ?_ ?_
  · exact v_to [] (hj2 ()) rfl
  · refine v_iload_n (pc := 4) C 1 rfl dX5_tuned_4 ?_
    refine v_aload_n (pc := 5) C 0 rfl dX5_tuned_5 ?_
    refine g5_tunes (pc := 6) C mw_20 dX5_tuned_6 ?_
    refine v_alen (pc := 9) C _ 0 ax_1 rfl (v := 6) rfl dX5_tuned_9 ?_
    refine v_icmp_ge (pc := 10) C 22 dX5_tuned_10 (by decide) ?_ ?_
    · refine v_aload_n (pc := 13) C 0 rfl dX5_tuned_13 ?_
      refine g5_tunes (pc := 14) C mw_20 dX5_tuned_14 ?_
      refine v_iload_n (pc := 17) C 1 rfl dX5_tuned_17 ?_
      refine v_iald (pc := 18) C _ ax_1 dX5_tuned_18 ?_
      refine v_goto (pc := 19) C 23 dX5_tuned_19 (by decide) ?_
      exact tp_out (fun h => hret _ _ _ _ ⟨h, rfl⟩ dX5_tuned_23)
    · exact v_to [] (hj2 ()) rfl
def f5_inReach (a1 : Int32) (a2 : Int32) (a3 : Int32) (a4 : Int32) (s0 : SS) : Option Int32 := if a1 ≤ 0 then if a1 = 0 then some 1 else bd (f5_tuned 2 s0) (fun x1 => if (-a1) ≤ (a3 - x1) then some 1 else some 0) else lt (fun (x4 : Int32) => if a1 ≤ x4 then some 1 else some 0) (fun j2 => if a2 = (-1) then j2 (a3 + a4) else j2 a3)
set_option maxHeartbeats 4000000 in
set_option maxRecDepth 100000 in
theorem m5_inReach (G : GT) (l : Launch) (a1 : Int32) (a2 : Int32) (a3 : Int32) (a4 : Int32)  (s0 : SS) (r : Int32) (hf : f5_inReach a1 a2 a3 a4 s0 = some r) : MI G l yX5_inReach cX5_inReach 5 (some .boolean) 1 21 [.ref (aX G 0), .int a1, .int a2, .int a3, .int a4] (wX G s0) r (wX G s0) := by
  refine MI.startZ (by decide +kernel) (Nat.le_of_ble_eq_true rfl) (fun K hl C hret => ?_)
  subst hl
  have C : Ctx G K cX5_inReach RX5 5 1 21 := C
  change V G K (wX G s0) 0 [(0, .ref (aX G 0)), (1, .int a1), (2, .int a2), (3, .int a3), (4, .int a4)] []
  refine (?_ : tp (f5_inReach a1 a2 a3 a4 s0) (fun q => q = r) → _) ⟨_, hf, rfl⟩
  rw [f5_inReach]
  refine v_iload_n (pc := 0) C 1 rfl dX5_inReach_0 ?_
  refine v_if_le (pc := 1) C 27 dX5_inReach_1 (by decide) ?_ ?_
  · refine v_iload_n (pc := 27) C 1 rfl dX5_inReach_27 ?_
    refine v_if_eq (pc := 28) C 43 dX5_inReach_28 (by decide) ?_ ?_
    · refine v_iconst (pc := 43) C 1 dX5_inReach_43 (by decide) ?_
      refine v_goto (pc := 44) C 48 dX5_inReach_44 (by decide) ?_
      exact tp_out (fun h => hret _ _ _ _ ⟨h, rfl⟩ (Or.inr rfl) dX5_inReach_48)
    · refine v_iload_n (pc := 31) C 1 rfl dX5_inReach_31 ?_
      refine v_ineg (pc := 32) C dX5_inReach_32 ?_
      refine v_iload_n (pc := 33) C 3 rfl dX5_inReach_33 ?_
      refine v_aload_n (pc := 34) C 0 rfl dX5_inReach_34 ?_
      refine v_iconst (pc := 35) C 2 dX5_inReach_35 (by decide) ?_
      refine cIv1r (pc := 36) C (fun r9 h9 => m5_tuned G K.2.1 2 s0 r9 h9) q_yX5_tuned mw_437 rc_5 ⟨by decide, by decide⟩ (Nat.le_of_ble_eq_true rfl) dX5_inReach_36 (fun x1 => ?_)
      refine v_isub (pc := 39) C dX5_inReach_39 ?_
      refine v_icmp_gt (pc := 40) C 47 dX5_inReach_40 (by decide) ?_ ?_
      · refine v_iconst (pc := 43) C 1 dX5_inReach_43 (by decide) ?_
        refine v_goto (pc := 44) C 48 dX5_inReach_44 (by decide) ?_
        exact tp_out (fun h => hret _ _ _ _ ⟨h, rfl⟩ (Or.inr rfl) dX5_inReach_48)
      · refine v_iconst (pc := 47) C 0 dX5_inReach_47 (by decide) ?_
        exact tp_out (fun h => hret _ _ _ _ ⟨h, rfl⟩ (Or.inl rfl) dX5_inReach_48)
  · refine v_iload_n (pc := 4) C 1 rfl dX5_inReach_4 ?_
    refine v_iload_n (pc := 5) C 2 rfl dX5_inReach_5 ?_
    refine v_iconst (pc := 6) C (-1) dX5_inReach_6 (by decide) ?_
    refine r_lJ (fun Φ0 j2 => ∀ (x4 : Int32), tp (j2 x4) Φ0 → V G K (wX G s0) 18 [] [.int x4, .int a1]) (fun x4 => ?_) (fun j2 hj3 => ?_)
    · refine v_icmp_gt (pc := 18) C 25 dX5_inReach_18 (by decide) ?_ ?_
      · refine v_iconst (pc := 21) C 1 dX5_inReach_21 (by decide) ?_
        refine v_goto (pc := 22) C 26 dX5_inReach_22 (by decide) ?_
        exact tp_out (fun h => hret _ _ _ _ ⟨h, rfl⟩ (Or.inr rfl) dX5_inReach_26)
      · refine v_iconst (pc := 25) C 0 dX5_inReach_25 (by decide) ?_
        exact tp_out (fun h => hret _ _ _ _ ⟨h, rfl⟩ (Or.inl rfl) dX5_inReach_26)
    refine v_icmp_ne (pc := 7) C 17 dX5_inReach_7 (by decide) ?_ ?_
    · refine v_iload_n (pc := 10) C 3 rfl dX5_inReach_10 ?_
      refine v_iload (pc := 11) C 4 rfl dX5_inReach_11 ?_
      refine v_iadd (pc := 13) C dX5_inReach_13 ?_
      refine v_goto (pc := 14) C 18 dX5_inReach_14 (by decide) ?_
      exact v_to [] (hj3 _) rfl
    · refine v_iload_n (pc := 17) C 3 rfl dX5_inReach_17 ?_
      exact v_to [] (hj3 _) rfl
def f5_bears (a1 : Int32) (a2 : Int32) (s0 : SS) : Option Int32 := bd (f4_power (s0.2.2 0) a1 1 s0) (fun x1 => bd (f4_feature (s0.2.2 0) a2 2 s0) (fun x2 => bd (f5_tuned 0 s0) (fun x3 => if x1 ≤ (x2 * x3) then some 1 else some 0)))
set_option maxHeartbeats 4000000 in
set_option maxRecDepth 100000 in
theorem m5_bears (G : GT) (l : Launch) (a1 : Int32) (a2 : Int32)  (s0 : SS) (r : Int32) (hf : f5_bears a1 a2 s0 = some r) : MI G l yX5_bears cX5_bears 3 (some .boolean) 1 22 [.ref (aX G 0), .int a1, .int a2] (wX G s0) r (wX G s0) := by
  refine MI.startZ (by decide +kernel) (Nat.le_of_ble_eq_true rfl) (fun K hl C hret => ?_)
  subst hl
  have C : Ctx G K cX5_bears RX5 3 1 22 := C
  change V G K (wX G s0) 0 [(0, .ref (aX G 0)), (1, .int a1), (2, .int a2)] []
  refine (?_ : tp (f5_bears a1 a2 s0) (fun q => q = r) → _) ⟨_, hf, rfl⟩
  rw [f5_bears]
  refine v_aload_n (pc := 0) C 0 rfl dX5_bears_0 ?_
  refine g5_wood (pc := 1) C mw_41 dX5_bears_1 ?_
  refine v_iload_n (pc := 4) C 1 rfl dX5_bears_4 ?_
  refine v_iconst (pc := 5) C 1 dX5_bears_5 (by decide) ?_
  refine cIv2r (pc := 6) C (fun r9 h9 => m4_power G K.2.1 (s0.2.2 0) a1 1 s0 r9 h9) q_yX4_power mw_388 (rc_4 (s0.2.2 0)) ⟨by decide, by decide⟩ (Nat.le_of_ble_eq_true rfl) dX5_bears_6 (fun x1 => ?_)
  refine v_aload_n (pc := 9) C 0 rfl dX5_bears_9 ?_
  refine g5_wood (pc := 10) C mw_41 dX5_bears_10 ?_
  refine v_iload_n (pc := 13) C 2 rfl dX5_bears_13 ?_
  refine v_iconst (pc := 14) C 2 dX5_bears_14 (by decide) ?_
  refine cIv2r (pc := 15) C (fun r9 h9 => m4_feature G K.2.1 (s0.2.2 0) a2 2 s0 r9 h9) q_yX4_feature mw_363 (rc_4 (s0.2.2 0)) ⟨by decide, by decide⟩ (Nat.le_of_ble_eq_true rfl) dX5_bears_15 (fun x2 => ?_)
  refine v_aload_n (pc := 18) C 0 rfl dX5_bears_18 ?_
  refine v_iconst (pc := 19) C 0 dX5_bears_19 (by decide) ?_
  refine cIv1r (pc := 20) C (fun r9 h9 => m5_tuned G K.2.1 0 s0 r9 h9) q_yX5_tuned mw_437 rc_5 ⟨by decide, by decide⟩ (Nat.le_of_ble_eq_true rfl) dX5_bears_20 (fun x3 => ?_)
  refine v_imul (pc := 23) C dX5_bears_23 ?_
  refine v_icmp_gt (pc := 24) C 31 dX5_bears_24 (by decide) ?_ ?_
  · refine v_iconst (pc := 27) C 1 dX5_bears_27 (by decide) ?_
    refine v_goto (pc := 28) C 32 dX5_bears_28 (by decide) ?_
    exact tp_out (fun h => hret _ _ _ _ ⟨h, rfl⟩ (Or.inr rfl) dX5_bears_32)
  · refine v_iconst (pc := 31) C 0 dX5_bears_31 (by decide) ?_
    exact tp_out (fun h => hret _ _ _ _ ⟨h, rfl⟩ (Or.inl rfl) dX5_bears_32)
def f5_mayStep (a1 : Int32) (a2 : Int32) (a3 : Int32) (a4 : Int32) (a5 : Int32) (s0 : SS) : Option Int32 := if a2 = a3 then some 0 else bd (f5_isSawn a2 s0) (fun x1 => if x1 = 0 then bd (f5_isSawn a3 s0) (fun x2 => if x2 = 0 then bd (f4_feature (s0.2.2 0) a3 0 s0) (fun x3 => bd (f4_feature (s0.2.2 0) a2 0 s0) (fun x4 => bd (f5_inReach (x3 - x4) a2 a4 a5 s0) (fun x5 => if x5 = 0 then some 0 else lt (fun (_u : Unit) => if a3 = (-1) then some 1 else bd (f5_bears a1 a3 s0) (fun x8 => if x8 = 0 then some 0 else some 1)) (fun j6 => if a2 = (-1) then j6 () else if a3 = (-1) then j6 () else bd (f4_sidesApart (s0.2.2 0) a2 a3 s0) (fun x9 => bd (f5_tuned 1 s0) (fun x10 => lt (fun (_u : Unit) => some 0) (fun j11 => if x9 ≤ x10 then bd (f5_bears a1 a3 s0) (fun x13 => if x13 = 0 then j11 () else some 1) else j11 ()))))))) else some 0) else some 0)
set_option maxHeartbeats 4000000 in
set_option maxRecDepth 100000 in
theorem m5_mayStep (G : GT) (l : Launch) (a1 : Int32) (a2 : Int32) (a3 : Int32) (a4 : Int32) (a5 : Int32)  (s0 : SS) (r : Int32) (hf : f5_mayStep a1 a2 a3 a4 a5 s0 = some r) : MI G l yX5_mayStep cX5_mayStep 6 (some .boolean) 2 46 [.ref (aX G 0), .int a1, .int a2, .int a3, .int a4, .int a5] (wX G s0) r (wX G s0) := by
  refine MI.startZ (by decide +kernel) (Nat.le_of_ble_eq_true rfl) (fun K hl C hret => ?_)
  subst hl
  have C : Ctx G K cX5_mayStep RX5 6 2 46 := C
  change V G K (wX G s0) 0 [(0, .ref (aX G 0)), (1, .int a1), (2, .int a2), (3, .int a3), (4, .int a4), (5, .int a5)] []
  refine (?_ : tp (f5_mayStep a1 a2 a3 a4 a5 s0) (fun q => q = r) → _) ⟨_, hf, rfl⟩
  rw [f5_mayStep]
  refine v_iload_n (pc := 0) C 2 rfl dX5_mayStep_0 ?_
  refine v_iload_n (pc := 1) C 3 rfl dX5_mayStep_1 ?_
  refine v_icmp_eq (pc := 2) C 21 dX5_mayStep_2 (by decide) ?_ ?_
  · refine v_iconst (pc := 21) C 0 dX5_mayStep_21 (by decide) ?_
    exact tp_out (fun h => hret _ _ _ _ ⟨h, rfl⟩ (Or.inl rfl) dX5_mayStep_22)
  · refine v_aload_n (pc := 5) C 0 rfl dX5_mayStep_5 ?_
    refine v_iload_n (pc := 6) C 2 rfl dX5_mayStep_6 ?_
    refine cIv1r (pc := 7) C (fun r9 h9 => m5_isSawn G K.2.1 a2 s0 r9 h9) q_yX5_isSawn mw_356 rc_5 ⟨by decide, by decide⟩ (Nat.le_of_ble_eq_true rfl) dX5_mayStep_7 (fun x1 => ?_)
    refine v_if_ne (pc := 10) C 21 dX5_mayStep_10 (by decide) ?_ ?_
    · refine v_aload_n (pc := 13) C 0 rfl dX5_mayStep_13 ?_
      refine v_iload_n (pc := 14) C 3 rfl dX5_mayStep_14 ?_
      refine cIv1r (pc := 15) C (fun r9 h9 => m5_isSawn G K.2.1 a3 s0 r9 h9) q_yX5_isSawn mw_356 rc_5 ⟨by decide, by decide⟩ (Nat.le_of_ble_eq_true rfl) dX5_mayStep_15 (fun x2 => ?_)
      refine v_if_eq (pc := 18) C 23 dX5_mayStep_18 (by decide) ?_ ?_
      · refine v_aload_n (pc := 23) C 0 rfl dX5_mayStep_23 ?_
        refine v_aload_n (pc := 24) C 0 rfl dX5_mayStep_24 ?_
        refine g5_wood (pc := 25) C mw_41 dX5_mayStep_25 ?_
        refine v_iload_n (pc := 28) C 3 rfl dX5_mayStep_28 ?_
        refine v_iconst (pc := 29) C 0 dX5_mayStep_29 (by decide) ?_
        refine cIv2r (pc := 30) C (fun r9 h9 => m4_feature G K.2.1 (s0.2.2 0) a3 0 s0 r9 h9) q_yX4_feature mw_363 (rc_4 (s0.2.2 0)) ⟨by decide, by decide⟩ (Nat.le_of_ble_eq_true rfl) dX5_mayStep_30 (fun x3 => ?_)
        refine v_aload_n (pc := 33) C 0 rfl dX5_mayStep_33 ?_
        refine g5_wood (pc := 34) C mw_41 dX5_mayStep_34 ?_
        refine v_iload_n (pc := 37) C 2 rfl dX5_mayStep_37 ?_
        refine v_iconst (pc := 38) C 0 dX5_mayStep_38 (by decide) ?_
        refine cIv2r (pc := 39) C (fun r9 h9 => m4_feature G K.2.1 (s0.2.2 0) a2 0 s0 r9 h9) q_yX4_feature mw_363 (rc_4 (s0.2.2 0)) ⟨by decide, by decide⟩ (Nat.le_of_ble_eq_true rfl) dX5_mayStep_39 (fun x4 => ?_)
        refine v_isub (pc := 42) C dX5_mayStep_42 ?_
        refine v_iload_n (pc := 43) C 2 rfl dX5_mayStep_43 ?_
        refine v_iload (pc := 44) C 4 rfl dX5_mayStep_44 ?_
        refine v_iload (pc := 46) C 5 rfl dX5_mayStep_46 ?_
        refine cIv4r (pc := 48) C (fun r9 h9 => m5_inReach G K.2.1 (x3 - x4) a2 a4 a5 s0 r9 h9) q_yX5_inReach mw_445 rc_5 ⟨by decide, by decide⟩ (Nat.le_of_ble_eq_true rfl) dX5_mayStep_48 (fun x5 => ?_)
        refine v_if_ne (pc := 51) C 56 dX5_mayStep_51 (by decide) ?_ ?_
        · refine v_iconst (pc := 54) C 0 dX5_mayStep_54 (by decide) ?_
          exact tp_out (fun h => hret _ _ _ _ ⟨h, rfl⟩ (Or.inl rfl) dX5_mayStep_55)
        · refine v_iload_n (pc := 56) C 2 rfl dX5_mayStep_56 ?_
          refine v_iconst (pc := 57) C (-1) dX5_mayStep_57 (by decide) ?_
          refine r_lJ (fun Φ0 j6 => ∀ (_u : Unit), tp (j6 ()) Φ0 → V G K (wX G s0) 66 [(0, .ref (aX G 0)), (1, .int a1), (3, .int a3)] []) (fun _u => ?_) (fun j6 hj7 => ?_)
          · refine v_iload_n (pc := 66) C 2 rfl dX5_mayStep_66 ?_
            refine v_iconst (pc := 67) C (-1) dX5_mayStep_67 (by decide) ?_
            refine v_icmp_eq (pc := 68) C 80 dX5_mayStep_68 (by decide) ?_ ?_
            · refine v_iconst (pc := 80) C 1 dX5_mayStep_80 (by decide) ?_
              refine v_goto (pc := 81) C 85 dX5_mayStep_81 (by decide) ?_
              exact tp_out (fun h => hret _ _ _ _ ⟨h, rfl⟩ (Or.inr rfl) dX5_mayStep_85)
            · refine v_aload_n (pc := 71) C 0 rfl dX5_mayStep_71 ?_
              refine v_iload_n (pc := 72) C 1 rfl dX5_mayStep_72 ?_
              refine v_iload_n (pc := 73) C 2 rfl dX5_mayStep_73 ?_
              refine cIv2r (pc := 74) C (fun r9 h9 => m5_bears G K.2.1 a1 a3 s0 r9 h9) q_yX5_bears mw_449 rc_5 ⟨by decide, by decide⟩ (Nat.le_of_ble_eq_true rfl) dX5_mayStep_74 (fun x8 => ?_)
              refine v_if_eq (pc := 77) C 84 dX5_mayStep_77 (by decide) ?_ ?_
              · refine v_iconst (pc := 84) C 0 dX5_mayStep_84 (by decide) ?_
                exact tp_out (fun h => hret _ _ _ _ ⟨h, rfl⟩ (Or.inl rfl) dX5_mayStep_85)
              · refine v_iconst (pc := 80) C 1 dX5_mayStep_80 (by decide) ?_
                refine v_goto (pc := 81) C 85 dX5_mayStep_81 (by decide) ?_
                exact tp_out (fun h => hret _ _ _ _ ⟨h, rfl⟩ (Or.inr rfl) dX5_mayStep_85)
          refine v_icmp_eq (pc := 58) C 66 dX5_mayStep_58 (by decide) ?_ ?_
          · exact v_to [0, 1, 3] (hj7 ()) rfl
          · refine v_iload_n (pc := 61) C 3 rfl dX5_mayStep_61 ?_
            refine v_iconst (pc := 62) C (-1) dX5_mayStep_62 (by decide) ?_
            refine v_icmp_ne (pc := 63) C 86 dX5_mayStep_63 (by decide) ?_ ?_
            · exact v_to [0, 1, 3] (hj7 ()) rfl
            · refine v_aload_n (pc := 86) C 0 rfl dX5_mayStep_86 ?_
              refine g5_wood (pc := 87) C mw_41 dX5_mayStep_87 ?_
              refine v_iload_n (pc := 90) C 2 rfl dX5_mayStep_90 ?_
              refine v_iload_n (pc := 91) C 3 rfl dX5_mayStep_91 ?_
              refine cIv2r (pc := 92) C (fun r9 h9 => m4_sidesApart G K.2.1 (s0.2.2 0) a2 a3 s0 r9 h9) q_yX4_sidesApart mw_453 (rc_4 (s0.2.2 0)) ⟨by decide, by decide⟩ (Nat.le_of_ble_eq_true rfl) dX5_mayStep_92 (fun x9 => ?_)
              refine v_aload_n (pc := 95) C 0 rfl dX5_mayStep_95 ?_
              refine v_iconst (pc := 96) C 1 dX5_mayStep_96 (by decide) ?_
              refine cIv1r (pc := 97) C (fun r9 h9 => m5_tuned G K.2.1 1 s0 r9 h9) q_yX5_tuned mw_437 rc_5 ⟨by decide, by decide⟩ (Nat.le_of_ble_eq_true rfl) dX5_mayStep_97 (fun x10 => ?_)
              refine r_lJ (fun Φ0 j11 => ∀ (_u : Unit), tp (j11 ()) Φ0 → V G K (wX G s0) 116 [] []) (fun _u => ?_) (fun j11 hj12 => ?_)
              · refine v_iconst (pc := 116) C 0 dX5_mayStep_116 (by decide) ?_
                exact tp_out (fun h => hret _ _ _ _ ⟨h, rfl⟩ (Or.inl rfl) dX5_mayStep_117)
              refine v_icmp_gt (pc := 100) C 116 dX5_mayStep_100 (by decide) ?_ ?_
              · refine v_aload_n (pc := 103) C 0 rfl dX5_mayStep_103 ?_
                refine v_iload_n (pc := 104) C 1 rfl dX5_mayStep_104 ?_
                refine v_iload_n (pc := 105) C 3 rfl dX5_mayStep_105 ?_
                refine cIv2r (pc := 106) C (fun r9 h9 => m5_bears G K.2.1 a1 a3 s0 r9 h9) q_yX5_bears mw_449 rc_5 ⟨by decide, by decide⟩ (Nat.le_of_ble_eq_true rfl) dX5_mayStep_106 (fun x13 => ?_)
                refine v_if_eq (pc := 109) C 116 dX5_mayStep_109 (by decide) ?_ ?_
                · exact v_to [] (hj12 ()) rfl
                · refine v_iconst (pc := 112) C 1 dX5_mayStep_112 (by decide) ?_
                  refine v_goto (pc := 113) C 117 dX5_mayStep_113 (by decide) ?_
                  exact tp_out (fun h => hret _ _ _ _ ⟨h, rfl⟩ (Or.inr rfl) dX5_mayStep_117)
              · exact v_to [] (hj12 ()) rfl
      · refine v_iconst (pc := 21) C 0 dX5_mayStep_21 (by decide) ?_
        exact tp_out (fun h => hret _ _ _ _ ⟨h, rfl⟩ (Or.inl rfl) dX5_mayStep_22)
    · refine v_iconst (pc := 21) C 0 dX5_mayStep_21 (by decide) ?_
      exact tp_out (fun h => hret _ _ _ _ ⟨h, rfl⟩ (Or.inl rfl) dX5_mayStep_22)
def f5_step (a1 : Int32) (a2 : Int32) (a3 : Int32) (s0 : SS) : Option Int32 := bd (f5_isBody a1 s0) (fun x1 => if x1 = 0 then some (-1) else bd (f5_isPlace a2 s0) (fun x2 => if x2 = 0 then some (-1) else bd (f5_isPlace a3 s0) (fun x3 => if x3 = 0 then some (-1) else if a2 = a3 then some (-1) else bd (f4_power (s0.2.2 0) a1 0 s0) (fun x4 => bd (f5_tuned 5 s0) (fun x5 => bd (f5_mayStep a1 a2 a3 x4 x5 s0) (fun x6 => bd (f5_bit x6) (fun x7 => some x7)))))))
set_option maxHeartbeats 4000000 in
set_option maxRecDepth 100000 in
theorem m5_step (G : GT) (l : Launch) (a1 : Int32) (a2 : Int32) (a3 : Int32)  (s0 : SS) (r : Int32) (hf : f5_step a1 a2 a3 s0 = some r) : MI G l yX5_step cX5_step 4 (some .int) 3 71 [.ref (aX G 0), .int a1, .int a2, .int a3] (wX G s0) r (wX G s0) := by
  refine MI.start (by decide +kernel) (Nat.le_of_ble_eq_true rfl) (fun K hl C hret => ?_)
  subst hl
  have C : Ctx G K cX5_step RX5 4 3 71 := C
  change V G K (wX G s0) 0 [(0, .ref (aX G 0)), (1, .int a1), (2, .int a2), (3, .int a3)] []
  refine (?_ : tp (f5_step a1 a2 a3 s0) (fun q => q = r) → _) ⟨_, hf, rfl⟩
  rw [f5_step]
  refine v_aload_n (pc := 0) C 0 rfl dX5_step_0 ?_
  refine v_iload_n (pc := 1) C 1 rfl dX5_step_1 ?_
  refine cIv1r (pc := 2) C (fun r9 h9 => m5_isBody G K.2.1 a1 s0 r9 h9) q_yX5_isBody mw_384 rc_5 ⟨by decide, by decide⟩ (Nat.le_of_ble_eq_true rfl) dX5_step_2 (fun x1 => ?_)
  refine v_if_eq (pc := 5) C 29 dX5_step_5 (by decide) ?_ ?_
  · refine v_iconst (pc := 29) C (-1) dX5_step_29 (by decide) ?_
    exact tp_out (fun h => hret _ _ _ _ ⟨h, rfl⟩ dX5_step_30)
  · refine v_aload_n (pc := 8) C 0 rfl dX5_step_8 ?_
    refine v_iload_n (pc := 9) C 2 rfl dX5_step_9 ?_
    refine cIv1r (pc := 10) C (fun r9 h9 => m5_isPlace G K.2.1 a2 s0 r9 h9) q_yX5_isPlace mw_433 rc_5 ⟨by decide, by decide⟩ (Nat.le_of_ble_eq_true rfl) dX5_step_10 (fun x2 => ?_)
    refine v_if_eq (pc := 13) C 29 dX5_step_13 (by decide) ?_ ?_
    · refine v_iconst (pc := 29) C (-1) dX5_step_29 (by decide) ?_
      exact tp_out (fun h => hret _ _ _ _ ⟨h, rfl⟩ dX5_step_30)
    · refine v_aload_n (pc := 16) C 0 rfl dX5_step_16 ?_
      refine v_iload_n (pc := 17) C 3 rfl dX5_step_17 ?_
      refine cIv1r (pc := 18) C (fun r9 h9 => m5_isPlace G K.2.1 a3 s0 r9 h9) q_yX5_isPlace mw_433 rc_5 ⟨by decide, by decide⟩ (Nat.le_of_ble_eq_true rfl) dX5_step_18 (fun x3 => ?_)
      refine v_if_eq (pc := 21) C 29 dX5_step_21 (by decide) ?_ ?_
      · refine v_iconst (pc := 29) C (-1) dX5_step_29 (by decide) ?_
        exact tp_out (fun h => hret _ _ _ _ ⟨h, rfl⟩ dX5_step_30)
      · refine v_iload_n (pc := 24) C 2 rfl dX5_step_24 ?_
        refine v_iload_n (pc := 25) C 3 rfl dX5_step_25 ?_
        refine v_icmp_ne (pc := 26) C 31 dX5_step_26 (by decide) ?_ ?_
        · refine v_iconst (pc := 29) C (-1) dX5_step_29 (by decide) ?_
          exact tp_out (fun h => hret _ _ _ _ ⟨h, rfl⟩ dX5_step_30)
        · refine v_aload_n (pc := 31) C 0 rfl dX5_step_31 ?_
          refine v_iload_n (pc := 32) C 1 rfl dX5_step_32 ?_
          refine v_iload_n (pc := 33) C 2 rfl dX5_step_33 ?_
          refine v_iload_n (pc := 34) C 3 rfl dX5_step_34 ?_
          refine v_aload_n (pc := 35) C 0 rfl dX5_step_35 ?_
          refine g5_wood (pc := 36) C mw_41 dX5_step_36 ?_
          refine v_iload_n (pc := 39) C 1 rfl dX5_step_39 ?_
          refine v_iconst (pc := 40) C 0 dX5_step_40 (by decide) ?_
          refine cIv2r (pc := 41) C (fun r9 h9 => m4_power G K.2.1 (s0.2.2 0) a1 0 s0 r9 h9) q_yX4_power mw_388 (rc_4 (s0.2.2 0)) ⟨by decide, by decide⟩ (Nat.le_of_ble_eq_true rfl) dX5_step_41 (fun x4 => ?_)
          refine v_aload_n (pc := 44) C 0 rfl dX5_step_44 ?_
          refine v_iconst (pc := 45) C 5 dX5_step_45 (by decide) ?_
          refine cIv1r (pc := 46) C (fun r9 h9 => m5_tuned G K.2.1 5 s0 r9 h9) q_yX5_tuned mw_437 rc_5 ⟨by decide, by decide⟩ (Nat.le_of_ble_eq_true rfl) dX5_step_46 (fun x5 => ?_)
          refine cIv5r (pc := 49) C (fun r9 h9 => m5_mayStep G K.2.1 a1 a2 a3 x4 x5 s0 r9 h9) q_yX5_mayStep mw_441 rc_5 ⟨by decide, by decide⟩ (Nat.le_of_ble_eq_true rfl) dX5_step_49 (fun x6 => ?_)
          refine cIs1r (pc := 52) C (fun r9 h9 => m5_bit G K.2.1 x6 _ r9 h9) q_yX5_bit mw_266 ⟨by decide, by decide⟩ (Nat.le_of_ble_eq_true rfl) dX5_step_52 (fun x7 => ?_)
          exact tp_out (fun h => hret _ _ _ _ ⟨h, rfl⟩ dX5_step_55)
def f5_tenths (a1 : Int32) (a2 : Int32) (s0 : SS) : Option Int32 := if a2 = (-1) then some 10 else bd (f4_power (s0.2.2 0) a1 1 s0) (fun x1 => bd (f4_feature (s0.2.2 0) a2 2 s0) (fun x2 => lt (fun (x5 : Int32) => bd (f4_feature (s0.2.2 0) a2 4 s0) (fun x6 => lt (fun (x9 : Int32) => lt (if 0 < x9 then x9 else 0) (fun x10 => some x10)) (fun j7 => if x6 = 1 then bd (f5_tuned 3 s0) (fun x11 => bd (f4_power (s0.2.2 0) a1 2 s0) (fun x12 => lt (if 0 < (x11 - x12) then (x11 - x12) else 0) (fun x13 => lt ((x5 - x13)) (fun x14 => j7 x14)))) else j7 x5))) (fun j3 => if x1 ≤ x2 then j3 10 else bd (f4_feature (s0.2.2 0) a2 3 s0) (fun x15 => j3 x15))))
set_option maxHeartbeats 4000000 in
set_option maxRecDepth 100000 in
theorem m5_tenths (G : GT) (l : Launch) (a1 : Int32) (a2 : Int32)  (s0 : SS) (r : Int32) (hf : f5_tenths a1 a2 s0 = some r) : MI G l yX5_tenths cX5_tenths 4 (some .int) 1 23 [.ref (aX G 0), .int a1, .int a2] (wX G s0) r (wX G s0) := by
  refine MI.start (by decide +kernel) (Nat.le_of_ble_eq_true rfl) (fun K hl C hret => ?_)
  subst hl
  have C : Ctx G K cX5_tenths RX5 4 1 23 := C
  change V G K (wX G s0) 0 [(0, .ref (aX G 0)), (1, .int a1), (2, .int a2)] []
  refine (?_ : tp (f5_tenths a1 a2 s0) (fun q => q = r) → _) ⟨_, hf, rfl⟩
  rw [f5_tenths]
  refine v_iload_n (pc := 0) C 2 rfl dX5_tenths_0 ?_
  refine v_iconst (pc := 1) C (-1) dX5_tenths_1 (by decide) ?_
  refine v_icmp_ne (pc := 2) C 8 dX5_tenths_2 (by decide) ?_ ?_
  · refine v_bipush (pc := 5) C 10 dX5_tenths_5 (by decide) ?_
    exact tp_out (fun h => hret _ _ _ _ ⟨h, rfl⟩ dX5_tenths_7)
  · refine v_bipush (pc := 8) C 10 dX5_tenths_8 (by decide) ?_
    refine v_istore_n (pc := 10) C dX5_tenths_10 (by decide) (lv' := [(3, .int 10), (0, .ref (aX G 0)), (1, .int a1), (2, .int a2)]) rfl ?_
    refine v_aload_n (pc := 11) C 1 rfl dX5_tenths_11 ?_
    refine g5_wood (pc := 12) C mw_41 dX5_tenths_12 ?_
    refine v_iload_n (pc := 15) C 2 rfl dX5_tenths_15 ?_
    refine v_iconst (pc := 16) C 1 dX5_tenths_16 (by decide) ?_
    refine cIv2r (pc := 17) C (fun r9 h9 => m4_power G K.2.1 (s0.2.2 0) a1 1 s0 r9 h9) q_yX4_power mw_388 (rc_4 (s0.2.2 0)) ⟨by decide, by decide⟩ (Nat.le_of_ble_eq_true rfl) dX5_tenths_17 (fun x1 => ?_)
    refine v_aload_n (pc := 20) C 1 rfl dX5_tenths_20 ?_
    refine g5_wood (pc := 21) C mw_41 dX5_tenths_21 ?_
    refine v_iload_n (pc := 24) C 3 rfl dX5_tenths_24 ?_
    refine v_iconst (pc := 25) C 2 dX5_tenths_25 (by decide) ?_
    refine cIv2r (pc := 26) C (fun r9 h9 => m4_feature G K.2.1 (s0.2.2 0) a2 2 s0 r9 h9) q_yX4_feature mw_363 (rc_4 (s0.2.2 0)) ⟨by decide, by decide⟩ (Nat.le_of_ble_eq_true rfl) dX5_tenths_26 (fun x2 => ?_)
    refine r_lJ (fun Φ0 j3 => ∀ (x5 : Int32), tp (j3 x5) Φ0 → V G K (wX G s0) 42 [(0, .ref (aX G 0)), (1, .int a1), (2, .int a2), (3, .int x5)] []) (fun x5 => ?_) (fun j3 hj4 => ?_)
    · refine v_aload_n (pc := 42) C 0 rfl dX5_tenths_42 ?_
      refine g5_wood (pc := 43) C mw_41 dX5_tenths_43 ?_
      refine v_iload_n (pc := 46) C 2 rfl dX5_tenths_46 ?_
      refine v_iconst (pc := 47) C 4 dX5_tenths_47 (by decide) ?_
      refine cIv2r (pc := 48) C (fun r9 h9 => m4_feature G K.2.1 (s0.2.2 0) a2 4 s0 r9 h9) q_yX4_feature mw_363 (rc_4 (s0.2.2 0)) ⟨by decide, by decide⟩ (Nat.le_of_ble_eq_true rfl) dX5_tenths_48 (fun x6 => ?_)
      refine v_iconst (pc := 51) C 1 dX5_tenths_51 (by decide) ?_
      refine r_lJ (fun Φ0 j7 => ∀ (x9 : Int32), tp (j7 x9) Φ0 → V G K (wX G s0) 77 [(3, .int x9)] []) (fun x9 => ?_) (fun j7 hj8 => ?_)
      · refine v_iconst (pc := 77) C 0 dX5_tenths_77 (by decide) ?_
        refine v_iload_n (pc := 78) C 0 rfl dX5_tenths_78 ?_
        refine v_mmax (pc := 79) C mw_490 mw_491 mw_190 mw_492 (by decide) (Nat.le_of_ble_eq_true rfl) dX5_tenths_79 ?_
        refine r_lti (fun x10 => ?_)
        exact tp_out (fun h => hret _ _ _ _ ⟨h, rfl⟩ dX5_tenths_82)
      refine v_icmp_ne (pc := 52) C 77 dX5_tenths_52 (by decide) ?_ ?_
      · refine v_iload_n (pc := 55) C 3 rfl dX5_tenths_55 ?_
        refine v_iconst (pc := 56) C 0 dX5_tenths_56 (by decide) ?_
        refine v_aload_n (pc := 57) C 0 rfl dX5_tenths_57 ?_
        refine v_iconst (pc := 58) C 3 dX5_tenths_58 (by decide) ?_
        refine cIv1r (pc := 59) C (fun r9 h9 => m5_tuned G K.2.1 3 s0 r9 h9) q_yX5_tuned mw_437 rc_5 ⟨by decide, by decide⟩ (Nat.le_of_ble_eq_true rfl) dX5_tenths_59 (fun x11 => ?_)
        refine v_aload_n (pc := 62) C 0 rfl dX5_tenths_62 ?_
        refine g5_wood (pc := 63) C mw_41 dX5_tenths_63 ?_
        refine v_iload_n (pc := 66) C 1 rfl dX5_tenths_66 ?_
        refine v_iconst (pc := 67) C 2 dX5_tenths_67 (by decide) ?_
        refine cIv2r (pc := 68) C (fun r9 h9 => m4_power G K.2.1 (s0.2.2 0) a1 2 s0 r9 h9) q_yX4_power mw_388 (rc_4 (s0.2.2 0)) ⟨by decide, by decide⟩ (Nat.le_of_ble_eq_true rfl) dX5_tenths_68 (fun x12 => ?_)
        refine v_isub (pc := 71) C dX5_tenths_71 ?_
        refine v_mmax (pc := 72) C mw_490 mw_491 mw_190 mw_492 (by decide) (Nat.le_of_ble_eq_true rfl) dX5_tenths_72 ?_
        refine r_lti (fun x13 => ?_)
        refine v_isub (pc := 75) C dX5_tenths_75 ?_
        refine r_lti (fun x14 => ?_)
        refine v_istore_n (pc := 76) C dX5_tenths_76 (by decide) (lv' := [(3, .int x14), (0, .ref (aX G 0)), (1, .int a1), (2, .int a2)]) rfl ?_
        exact v_to [0] (hj8 _) rfl
      · exact v_to [3] (hj8 _) rfl
    refine v_icmp_le (pc := 29) C 42 dX5_tenths_29 (by decide) ?_ ?_
    · exact v_to [1, 2, 3, 0] (hj4 _) rfl
    · refine v_aload_n (pc := 32) C 1 rfl dX5_tenths_32 ?_
      refine g5_wood (pc := 33) C mw_41 dX5_tenths_33 ?_
      refine v_iload_n (pc := 36) C 3 rfl dX5_tenths_36 ?_
      refine v_iconst (pc := 37) C 3 dX5_tenths_37 (by decide) ?_
      refine cIv2r (pc := 38) C (fun r9 h9 => m4_feature G K.2.1 (s0.2.2 0) a2 3 s0 r9 h9) q_yX4_feature mw_363 (rc_4 (s0.2.2 0)) ⟨by decide, by decide⟩ (Nat.le_of_ble_eq_true rfl) dX5_tenths_38 (fun x15 => ?_)
      refine v_istore_n (pc := 41) C dX5_tenths_41 (by decide) (lv' := [(3, .int x15), (0, .ref (aX G 0)), (1, .int a1), (2, .int a2)]) rfl ?_
      exact v_to [1, 2, 3, 0] (hj4 _) rfl
def f5_holds (a1 : Int32) (a2 : Int32) (s0 : SS) : Option Int32 := bd (f5_isBody a1 s0) (fun x1 => lt (fun (_u : Unit) => some (-1)) (fun j2 => if x1 = 0 then j2 () else bd (f5_isBranch a2 s0) (fun x4 => if x4 = 0 then j2 () else bd (f5_tenths a1 a2 s0) (fun x5 => some x5))))
set_option maxHeartbeats 4000000 in
set_option maxRecDepth 100000 in
theorem m5_holds (G : GT) (l : Launch) (a1 : Int32) (a2 : Int32)  (s0 : SS) (r : Int32) (hf : f5_holds a1 a2 s0 = some r) : MI G l yX5_holds cX5_holds 3 (some .int) 2 46 [.ref (aX G 0), .int a1, .int a2] (wX G s0) r (wX G s0) := by
  refine MI.start (by decide +kernel) (Nat.le_of_ble_eq_true rfl) (fun K hl C hret => ?_)
  subst hl
  have C : Ctx G K cX5_holds RX5 3 2 46 := C
  change V G K (wX G s0) 0 [(0, .ref (aX G 0)), (1, .int a1), (2, .int a2)] []
  refine (?_ : tp (f5_holds a1 a2 s0) (fun q => q = r) → _) ⟨_, hf, rfl⟩
  rw [f5_holds]
  refine v_aload_n (pc := 0) C 0 rfl dX5_holds_0 ?_
  refine v_iload_n (pc := 1) C 1 rfl dX5_holds_1 ?_
  refine cIv1r (pc := 2) C (fun r9 h9 => m5_isBody G K.2.1 a1 s0 r9 h9) q_yX5_isBody mw_384 rc_5 ⟨by decide, by decide⟩ (Nat.le_of_ble_eq_true rfl) dX5_holds_2 (fun x1 => ?_)
  refine r_lJ (fun Φ0 j2 => ∀ (_u : Unit), tp (j2 ()) Φ0 → V G K (wX G s0) 25 [] []) (fun _u => ?_) (fun j2 hj3 => ?_)
  · refine v_iconst (pc := 25) C (-1) dX5_holds_25 (by decide) ?_
    exact tp_out (fun h => hret _ _ _ _ ⟨h, rfl⟩ dX5_holds_26)
  refine v_if_eq (pc := 5) C 25 dX5_holds_5 (by decide) ?_ ?_
  · exact v_to [] (hj3 ()) rfl
  · refine v_aload_n (pc := 8) C 0 rfl dX5_holds_8 ?_
    refine v_iload_n (pc := 9) C 2 rfl dX5_holds_9 ?_
    refine cIv1r (pc := 10) C (fun r9 h9 => m5_isBranch G K.2.1 a2 s0 r9 h9) q_yX5_isBranch mw_352 rc_5 ⟨by decide, by decide⟩ (Nat.le_of_ble_eq_true rfl) dX5_holds_10 (fun x4 => ?_)
    refine v_if_eq (pc := 13) C 25 dX5_holds_13 (by decide) ?_ ?_
    · exact v_to [] (hj3 ()) rfl
    · refine v_aload_n (pc := 16) C 0 rfl dX5_holds_16 ?_
      refine v_iload_n (pc := 17) C 1 rfl dX5_holds_17 ?_
      refine v_iload_n (pc := 18) C 2 rfl dX5_holds_18 ?_
      refine cIv2r (pc := 19) C (fun r9 h9 => m5_tenths G K.2.1 a1 a2 s0 r9 h9) q_yX5_tenths mw_486 rc_5 ⟨by decide, by decide⟩ (Nat.le_of_ble_eq_true rfl) dX5_holds_19 (fun x5 => ?_)
      refine v_goto (pc := 22) C 26 dX5_holds_22 (by decide) ?_
      exact tp_out (fun h => hret _ _ _ _ ⟨h, rfl⟩ dX5_holds_26)
def L5_look_56 (c1 : Int32) (c3 : Int32) (c4 : Int32) (c5 : Int32) : Nat → Int32 → SS → Option (SS)
  | 0, _, _ => none
  | n + 1, v6, s => if v6 < (s.1 (wB (s.2.2 0)) 0) then bd (f5_mayStep c1 c5 v6 c4 c3 s) (fun x6 => if x6 = 0 then lt (v6 + 1) (fun x7 => L5_look_56 c1 c3 c4 c5 n x7 s) else bd (f3_join (c5 + 1) (v6 + 1) s) (fun q8 => lt (v6 + 1) (fun x9 => L5_look_56 c1 c3 c4 c5 n x9 q8))) else some s
def L5_look_23 (c1 : Int32) (c3 : Int32) (c4 : Int32) : Nat → Int32 → SS → Option (SS)
  | 0, _, _ => none
  | n + 1, v5, s => if v5 < (s.1 (wB (s.2.2 0)) 0) then bd (f5_tenths c1 v5 s) (fun x4 => bd (f3_setTenths (v5 + 1) x4 s) (fun q5 => bk1 (L5_look_56 c1 c3 c4 v5 FU (-1) q5) (fun q10 => lt (v5 + 1) (fun x11 => L5_look_23 c1 c3 c4 n x11 q10)))) else some s
def f5_look (a1 : Int32) (a2 : Int32) (a3 : Int32) (s0 : SS) : Option SS := bd (f4_power (s0.2.2 0) a1 0 s0) (fun x1 => lt ((x1 + a2)) (fun x2 => bd (f3_forget s0) (fun q3 => bk1 (L5_look_23 a1 a3 x2 FU (-1) q3) (fun q12 => some q12))))
set_option maxHeartbeats 4000000 in
set_option maxRecDepth 100000 in
theorem l5_look_56 {G : GT} {K : KT} (C : Ctx G K cX5_look RX5 7 3 71) (c1 : Int32) (c3 : Int32) (c4 : Int32) (c5 : Int32) {Ψ : SS → Prop} (hx : ∀ (so : SS), Ψ so → V G K (wX G so) 104 [(0, .ref (aX G 0)), (1, .int c1), (3, .int c3), (4, .int c4), (5, .int c5)] []) : ∀ (n : Nat) (v6 : Int32) (s : SS), tp (L5_look_56 c1 c3 c4 c5 n v6 s) (k1 Ψ) → V G K (wX G s) 56 [(0, .ref (aX G 0)), (1, .int c1), (3, .int c3), (4, .int c4), (5, .int c5), (6, .int v6)] [] := by
  intro n
  induction n with
  | zero => intro v6 s h; exact tp_no h
  | succ n ih =>
    intro v6 s
    rw [L5_look_56]
    refine v_iload (pc := 56) C 5 rfl dX5_look_56 ?_
    refine v_aload_n (pc := 58) C 0 rfl dX5_look_58 ?_
    refine g5_wood (pc := 59) C mw_41 dX5_look_59 ?_
    refine g4_branches (s.2.2 0) (pc := 62) C mw_157 dX5_look_62 ?_
    refine v_icmp_ge (pc := 65) C 104 dX5_look_65 (by decide) ?_ ?_
    · refine v_aload_n (pc := 68) C 0 rfl dX5_look_68 ?_
      refine v_iload_n (pc := 69) C 1 rfl dX5_look_69 ?_
      refine v_iload (pc := 70) C 4 rfl dX5_look_70 ?_
      refine v_iload (pc := 72) C 5 rfl dX5_look_72 ?_
      refine v_iload (pc := 74) C 3 rfl dX5_look_74 ?_
      refine v_iload_n (pc := 76) C 2 rfl dX5_look_76 ?_
      refine cIv5r (pc := 77) C (fun r9 h9 => m5_mayStep G K.2.1 c1 c5 v6 c4 c3 s r9 h9) q_yX5_mayStep mw_441 rc_5 ⟨by decide, by decide⟩ (Nat.le_of_ble_eq_true rfl) dX5_look_77 (fun x6 => ?_)
      refine v_if_eq (pc := 80) C 98 dX5_look_80 (by decide) ?_ ?_
      · refine v_iincL (pc := 98) C 1 5 dX5_look_98 rfl (by decide) (by decide) (lv0 := [(0, .ref (aX G 0)), (1, .int c1), (3, .int c3), (4, .int c4), (5, .int c5)]) rfl (fun x7 => ?_)
        refine v_goto (pc := 101) C 56 dX5_look_101 (by decide) ?_
        exact v_to [1, 2, 3, 4, 5, 0] (ih _ _) rfl
      · refine v_aload_n (pc := 83) C 0 rfl dX5_look_83 ?_
        refine g5_ways (pc := 84) C mw_28 dX5_look_84 ?_
        refine v_iload (pc := 87) C 4 rfl dX5_look_87 ?_
        refine v_iconst (pc := 89) C 1 dX5_look_89 (by decide) ?_
        refine v_iadd (pc := 90) C dX5_look_90 ?_
        refine v_iload (pc := 91) C 5 rfl dX5_look_91 ?_
        refine v_iconst (pc := 93) C 1 dX5_look_93 (by decide) ?_
        refine v_iadd (pc := 94) C dX5_look_94 ?_
        refine cVv2w (pc := 95) C (W2 := wX G) (fun s9 h9 => m3_join G K.2.1 (c5 + 1) (v6 + 1) s s9 h9) q_yX3_join mw_523 rc_3 ⟨by decide, by decide⟩ (Nat.le_of_ble_eq_true rfl) dX5_look_95 (fun q8 => ?_)
        refine v_iincL (pc := 98) C 1 5 dX5_look_98 rfl (by decide) (by decide) (lv0 := [(0, .ref (aX G 0)), (1, .int c1), (3, .int c3), (4, .int c4), (5, .int c5)]) rfl (fun x9 => ?_)
        refine v_goto (pc := 101) C 56 dX5_look_101 (by decide) ?_
        exact v_to [1, 2, 3, 4, 5, 0] (ih _ _) rfl
    · exact tp_out (fun h => v_to [0, 1, 2, 3, 4] (hx _) rfl h)
set_option maxHeartbeats 4000000 in
set_option maxRecDepth 100000 in
theorem l5_look_23 {G : GT} {K : KT} (C : Ctx G K cX5_look RX5 7 3 71) (c1 : Int32) (c3 : Int32) (c4 : Int32) {Ψ : SS → Prop} (hx : ∀ (so : SS), Ψ so → V G K (wX G so) 110 [] []) : ∀ (n : Nat) (v5 : Int32) (s : SS), tp (L5_look_23 c1 c3 c4 n v5 s) (k1 Ψ) → V G K (wX G s) 23 [(0, .ref (aX G 0)), (1, .int c1), (3, .int c3), (4, .int c4), (5, .int v5)] [] := by
  intro n
  induction n with
  | zero => intro v5 s h; exact tp_no h
  | succ n ih =>
    intro v5 s
    rw [L5_look_23]
    refine v_iload (pc := 23) C 4 rfl dX5_look_23 ?_
    refine v_aload_n (pc := 25) C 0 rfl dX5_look_25 ?_
    refine g5_wood (pc := 26) C mw_41 dX5_look_26 ?_
    refine g4_branches (s.2.2 0) (pc := 29) C mw_157 dX5_look_29 ?_
    refine v_icmp_ge (pc := 32) C 110 dX5_look_32 (by decide) ?_ ?_
    · refine v_aload_n (pc := 35) C 0 rfl dX5_look_35 ?_
      refine g5_ways (pc := 36) C mw_28 dX5_look_36 ?_
      refine v_iload (pc := 39) C 4 rfl dX5_look_39 ?_
      refine v_iconst (pc := 41) C 1 dX5_look_41 (by decide) ?_
      refine v_iadd (pc := 42) C dX5_look_42 ?_
      refine v_aload_n (pc := 43) C 0 rfl dX5_look_43 ?_
      refine v_iload_n (pc := 44) C 1 rfl dX5_look_44 ?_
      refine v_iload (pc := 45) C 4 rfl dX5_look_45 ?_
      refine cIv2r (pc := 47) C (fun r9 h9 => m5_tenths G K.2.1 c1 v5 s r9 h9) q_yX5_tenths mw_486 rc_5 ⟨by decide, by decide⟩ (Nat.le_of_ble_eq_true rfl) dX5_look_47 (fun x4 => ?_)
      refine cVv2w (pc := 50) C (W2 := wX G) (fun s9 h9 => m3_setTenths G K.2.1 (v5 + 1) x4 s s9 h9) q_yX3_setTenths mw_516 rc_3 ⟨by decide, by decide⟩ (Nat.le_of_ble_eq_true rfl) dX5_look_50 (fun q5 => ?_)
      refine v_iconst (pc := 53) C (-1) dX5_look_53 (by decide) ?_
      refine v_istore (pc := 54) C dX5_look_54 (by decide) (lv' := [(6, .int (-1)), (0, .ref (aX G 0)), (1, .int c1), (3, .int c3), (4, .int c4), (5, .int v5)]) rfl ?_
      refine r_bk1 ?_
      refine v_to [1, 2, 3, 4, 5, 0] (l5_look_56 C c1 c3 c4 v5 (fun q10 => ?_) FU _ _) rfl
      refine v_iincL (pc := 104) C 1 4 dX5_look_104 rfl (by decide) (by decide) (lv0 := [(0, .ref (aX G 0)), (1, .int c1), (3, .int c3), (4, .int c4)]) rfl (fun x11 => ?_)
      refine v_goto (pc := 107) C 23 dX5_look_107 (by decide) ?_
      exact v_to [1, 2, 3, 4, 0] (ih _ _) rfl
    · exact tp_out (fun h => v_to [] (hx _) rfl h)
set_option maxHeartbeats 4000000 in
set_option maxRecDepth 100000 in
theorem m5_look (G : GT) (l : Launch) (a1 : Int32) (a2 : Int32) (a3 : Int32)  (s0 : SS) (s1 : SS) (hf : f5_look a1 a2 a3 s0 = some s1) : MV G l yX5_look cX5_look 7 none 3 71 [.ref (aX G 0), .int a1, .int a2, .int a3] (wX G s0) (wX G s1) := by
  refine MV.start (by decide +kernel) (Nat.le_of_ble_eq_true rfl) (fun K hl C hret => ?_)
  subst hl
  have C : Ctx G K cX5_look RX5 7 3 71 := C
  change V G K (wX G s0) 0 [(0, .ref (aX G 0)), (1, .int a1), (2, .int a2), (3, .int a3)] []
  refine (?_ : tp (f5_look a1 a2 a3 s0) (fun q => q = s1) → _) ⟨_, hf, rfl⟩
  rw [f5_look]
  refine v_aload_n (pc := 0) C 0 rfl dX5_look_0 ?_
  refine g5_wood (pc := 1) C mw_41 dX5_look_1 ?_
  refine v_iload_n (pc := 4) C 1 rfl dX5_look_4 ?_
  refine v_iconst (pc := 5) C 0 dX5_look_5 (by decide) ?_
  refine cIv2r (pc := 6) C (fun r9 h9 => m4_power G K.2.1 (s0.2.2 0) a1 0 s0 r9 h9) q_yX4_power mw_388 (rc_4 (s0.2.2 0)) ⟨by decide, by decide⟩ (Nat.le_of_ble_eq_true rfl) dX5_look_6 (fun x1 => ?_)
  refine v_iload_n (pc := 9) C 2 rfl dX5_look_9 ?_
  refine v_iadd (pc := 10) C dX5_look_10 ?_
  refine r_lti (fun x2 => ?_)
  refine v_istore (pc := 11) C dX5_look_11 (by decide) (lv' := [(4, .int x2), (0, .ref (aX G 0)), (1, .int a1), (2, .int a2), (3, .int a3)]) rfl ?_
  refine v_aload_n (pc := 13) C 1 rfl dX5_look_13 ?_
  refine g5_ways (pc := 14) C mw_28 dX5_look_14 ?_
  refine cVv0w (pc := 17) C (W2 := wX G) (fun s9 h9 => m3_forget G K.2.1 s0 s9 h9) q_yX3_forget mw_512 rc_3 ⟨by decide, by decide⟩ (Nat.le_of_ble_eq_true rfl) dX5_look_17 (fun q3 => ?_)
  refine v_iconst (pc := 20) C (-1) dX5_look_20 (by decide) ?_
  refine v_istore (pc := 21) C dX5_look_21 (by decide) (lv' := [(5, .int (-1)), (4, .int x2), (0, .ref (aX G 0)), (1, .int a1), (2, .int a2), (3, .int a3)]) rfl ?_
  refine r_bk1 ?_
  refine v_to [2, 3, 5, 1, 0] (l5_look_23 C a1 a3 x2 (fun q12 => ?_) FU _ _) rfl
  exact tp_out (fun h => hret _ _ _ (congrArg (wX G) h) dX5_look_110)
def L5_commonDivisor_3 : Nat → Int64 → Int64 → Int32 → Option (Int64)
  | 0, _, _, _ => none
  | n + 1, v0, v2, v4 => if v4 < 100 then if v2 = 0 then some v0 else gd (¬ v2 = 0) (lt ((v0 - v0 / v2 * v2)) (fun x1 => lt (v4 + 1) (fun x2 => L5_commonDivisor_3 n v2 x1 x2))) else some v0
def f5_commonDivisor (a0 : Int64) (a2 : Int64) : Option Int64 := bk1 (L5_commonDivisor_3 FU a0 a2 0) (fun x3 => some x3)
set_option maxHeartbeats 4000000 in
set_option maxRecDepth 100000 in
theorem l5_commonDivisor_3 {G : GT} {K : KT} {w : va_W} (C : Ctx G K cX5_commonDivisor RX5 7 0 0) {Ψ : Int64 → Prop} (hx : ∀ (o1 : Int64), Ψ o1 → V G K w 32 [(0, .long o1)] []) : ∀ (n : Nat) (v0 : Int64) (v2 : Int64) (v4 : Int32), tp (L5_commonDivisor_3 n v0 v2 v4) (k1 Ψ) → V G K w 3 [(0, .long v0), (2, .long v2), (4, .int v4)] [] := by
  intro n
  induction n with
  | zero => intro v0 v2 v4 h; exact tp_no h
  | succ n ih =>
    intro v0 v2 v4
    rw [L5_commonDivisor_3]
    refine v_iload (pc := 3) C 2 rfl dX5_commonDivisor_3 ?_
    refine v_bipush (pc := 5) C 100 dX5_commonDivisor_5 (by decide) ?_
    refine v_icmp_ge (pc := 7) C 32 dX5_commonDivisor_7 (by decide) ?_ ?_
    · refine v_lload_n (pc := 10) C 1 rfl dX5_commonDivisor_10 ?_
      refine v_lconst (pc := 11) C 0 dX5_commonDivisor_11 (by decide) ?_
      refine v_lcmp_eq (pc := 12) C 32 dX5_commonDivisor_12 dX5_commonDivisor_13 (by decide) ?_ ?_
      · exact tp_out (fun h => v_to [0] (hx _) rfl h)
      · refine v_lload_n (pc := 16) C 0 rfl dX5_commonDivisor_16 ?_
        refine v_lload_n (pc := 17) C 1 rfl dX5_commonDivisor_17 ?_
        refine v_lremG (pc := 18) C dX5_commonDivisor_18 ?_
        refine r_ltl (fun x1 => ?_)
        refine v_lstore (pc := 19) C dX5_commonDivisor_19 (by decide) (lv' := [(5, .long x1), (0, .long v0), (2, .long v2), (4, .int v4)]) rfl ?_
        refine v_lload_n (pc := 21) C 2 rfl dX5_commonDivisor_21 ?_
        refine v_lstore_n (pc := 22) C dX5_commonDivisor_22 (by decide) (lv' := [(0, .long v2), (5, .long x1), (2, .long v2), (4, .int v4)]) rfl ?_
        refine v_lload (pc := 23) C 1 rfl dX5_commonDivisor_23 ?_
        refine v_lstore_n (pc := 25) C dX5_commonDivisor_25 (by decide) (lv' := [(2, .long x1), (0, .long v2), (5, .long x1), (4, .int v4)]) rfl ?_
        refine v_iincL (pc := 26) C 1 3 dX5_commonDivisor_26 rfl (by decide) (by decide) (lv0 := [(2, .long x1), (0, .long v2), (5, .long x1)]) rfl (fun x2 => ?_)
        refine v_goto (pc := 29) C 3 dX5_commonDivisor_29 (by decide) ?_
        exact v_to [2, 1, 0] (ih _ _ _) rfl
    · exact tp_out (fun h => v_to [0] (hx _) rfl h)
set_option maxHeartbeats 4000000 in
set_option maxRecDepth 100000 in
theorem m5_commonDivisor (G : GT) (l : Launch) (a0 : Int64) (a2 : Int64)  (w : va_W) (r : Int64) (hf : f5_commonDivisor a0 a2 = some r) : ML G l yX5_commonDivisor cX5_commonDivisor 7 (some .long) 0 0 [.long a0, .long a2] w r w := by
  refine ML.start (by decide +kernel) (Nat.le_of_ble_eq_true rfl) (fun K hl C hret => ?_)
  subst hl
  have C : Ctx G K cX5_commonDivisor RX5 7 0 0 := C
  change V G K w 0 [(0, .long a0), (2, .long a2)] []
  refine (?_ : tp (f5_commonDivisor a0 a2) (fun q => q = r) → _) ⟨_, hf, rfl⟩
  rw [f5_commonDivisor]
  refine v_iconst (pc := 0) C 0 dX5_commonDivisor_0 (by decide) ?_
  refine v_istore (pc := 1) C dX5_commonDivisor_1 (by decide) (lv' := [(4, .int 0), (0, .long a0), (2, .long a2)]) rfl ?_
  refine r_bk1 ?_
  refine v_to [1, 2, 0] (l5_commonDivisor_3 C (fun x3 => ?_) FU _ _ _) rfl
  refine v_lload_n (pc := 32) C 0 rfl dX5_commonDivisor_32 ?_
  exact tp_out (fun h => hret _ _ _ _ ⟨h, rfl⟩ dX5_commonDivisor_33)
def f5_leastTerms (a0 : Int64) (a2 : Int64) (a4 : Int32) : Option Int64 := bd (f5_commonDivisor a0 a2) (fun x1 => if x1 < 1 then some 0 else if a4 = 0 then gd (¬ x1 = 0) (some (a0 / x1)) else gd (¬ x1 = 0) (some (a2 / x1)))
set_option maxHeartbeats 4000000 in
set_option maxRecDepth 100000 in
theorem m5_leastTerms (G : GT) (l : Launch) (a0 : Int64) (a2 : Int64) (a4 : Int32)  (w : va_W) (r : Int64) (hf : f5_leastTerms a0 a2 a4 = some r) : ML G l yX5_leastTerms cX5_leastTerms 7 (some .long) 1 26 [.long a0, .long a2, .int a4] w r w := by
  refine ML.start (by decide +kernel) (Nat.le_of_ble_eq_true rfl) (fun K hl C hret => ?_)
  subst hl
  have C : Ctx G K cX5_leastTerms RX5 7 1 26 := C
  change V G K w 0 [(0, .long a0), (2, .long a2), (4, .int a4)] []
  refine (?_ : tp (f5_leastTerms a0 a2 a4) (fun q => q = r) → _) ⟨_, hf, rfl⟩
  rw [f5_leastTerms]
  refine v_lload_n (pc := 0) C 0 rfl dX5_leastTerms_0 ?_
  refine v_lload_n (pc := 1) C 1 rfl dX5_leastTerms_1 ?_
  refine cLs2r (pc := 2) C (fun r9 h9 => m5_commonDivisor G K.2.1 a0 a2 _ r9 h9) q_yX5_commonDivisor mw_551 ⟨by decide, by decide⟩ (Nat.le_of_ble_eq_true rfl) dX5_leastTerms_2 (fun x1 => ?_)
  refine v_lstore (pc := 5) C dX5_leastTerms_5 (by decide) (lv' := [(5, .long x1), (0, .long a0), (2, .long a2), (4, .int a4)]) rfl ?_
  refine v_lload (pc := 7) C 0 rfl dX5_leastTerms_7 ?_
  refine v_lconst (pc := 9) C 1 dX5_leastTerms_9 (by decide) ?_
  refine v_lcmp_ge (pc := 10) C 16 dX5_leastTerms_10 dX5_leastTerms_11 (by decide) ?_ ?_
  · refine v_lconst (pc := 14) C 0 dX5_leastTerms_14 (by decide) ?_
    exact tp_out (fun h => hret _ _ _ _ ⟨h, rfl⟩ dX5_leastTerms_15)
  · refine v_iload (pc := 16) C 3 rfl dX5_leastTerms_16 ?_
    refine v_if_ne (pc := 18) C 28 dX5_leastTerms_18 (by decide) ?_ ?_
    · refine v_lload_n (pc := 21) C 1 rfl dX5_leastTerms_21 ?_
      refine v_lload (pc := 22) C 0 rfl dX5_leastTerms_22 ?_
      refine v_ldivG (pc := 24) C dX5_leastTerms_24 ?_
      refine v_goto (pc := 25) C 32 dX5_leastTerms_25 (by decide) ?_
      exact tp_out (fun h => hret _ _ _ _ ⟨h, rfl⟩ dX5_leastTerms_32)
    · refine v_lload_n (pc := 28) C 2 rfl dX5_leastTerms_28 ?_
      refine v_lload (pc := 29) C 0 rfl dX5_leastTerms_29 ?_
      refine v_ldivG (pc := 31) C dX5_leastTerms_31 ?_
      exact tp_out (fun h => hret _ _ _ _ ⟨h, rfl⟩ dX5_leastTerms_32)
def f5_best (a1 : Int32) (a2 : Int32) (a3 : Int32) (a4 : Int32) (s0 : SS) : Option (Int64 × SS) := bd (f5_isBody a1 s0) (fun x1 => if x1 = 0 then some ((-1), s0) else bd (f5_isPlace a2 s0) (fun x2 => if x2 = 0 then some ((-1), s0) else bd (f5_isPlace a3 s0) (fun x3 => if x3 = 0 then some ((-1), s0) else if a4 < 0 then some ((-1), s0) else if a4 ≤ 2 then bd (f5_tuned 5 s0) (fun x4 => bd (f5_look a1 0 x4 s0) (fun q5 => bd (f3_weigh (a2 + 1) q5) (fun q6 => bd (f3_oddsOf (a3 + 1) q6) (fun x7 => if x7 = 0 then some ((-9), q6) else if a4 = 2 then bd (f3_stepsTo (a3 + 1) q6) (fun x8 => some ((Int32.toInt64 x8), q6)) else bd (f5_leastTerms x7 1000000000000 a4) (fun x9 => some (x9, q6)))))) else some ((-1), s0))))
set_option maxHeartbeats 4000000 in
set_option maxRecDepth 100000 in
theorem m5_best (G : GT) (l : Launch) (a1 : Int32) (a2 : Int32) (a3 : Int32) (a4 : Int32)  (s0 : SS) (r : Int64) (s1 : SS) (hf : f5_best a1 a2 a3 a4 s0 = some (r, s1)) : ML G l yX5_best cX5_best 7 (some .long) 4 97 [.ref (aX G 0), .int a1, .int a2, .int a3, .int a4] (wX G s0) r (wX G s1) := by
  refine ML.start (by decide +kernel) (Nat.le_of_ble_eq_true rfl) (fun K hl C hret => ?_)
  subst hl
  have C : Ctx G K cX5_best RX5 7 4 97 := C
  change V G K (wX G s0) 0 [(0, .ref (aX G 0)), (1, .int a1), (2, .int a2), (3, .int a3), (4, .int a4)] []
  refine (?_ : tp (f5_best a1 a2 a3 a4 s0) (fun q => q = (r, s1)) → _) ⟨_, hf, rfl⟩
  rw [f5_best]
  refine v_aload_n (pc := 0) C 0 rfl dX5_best_0 ?_
  refine v_iload_n (pc := 1) C 1 rfl dX5_best_1 ?_
  refine cIv1r (pc := 2) C (fun r9 h9 => m5_isBody G K.2.1 a1 s0 r9 h9) q_yX5_isBody mw_384 rc_5 ⟨by decide, by decide⟩ (Nat.le_of_ble_eq_true rfl) dX5_best_2 (fun x1 => ?_)
  refine v_if_eq (pc := 5) C 35 dX5_best_5 (by decide) ?_ ?_
  · refine v_ldc2 (pc := 35) C mw_505 dX5_best_35 ?_
    exact tp_out (fun h => hret _ _ _ _ ⟨(Prod.mk.inj h).1, congrArg (wX G) (Prod.mk.inj h).2⟩ dX5_best_38)
  · refine v_aload_n (pc := 8) C 0 rfl dX5_best_8 ?_
    refine v_iload_n (pc := 9) C 2 rfl dX5_best_9 ?_
    refine cIv1r (pc := 10) C (fun r9 h9 => m5_isPlace G K.2.1 a2 s0 r9 h9) q_yX5_isPlace mw_433 rc_5 ⟨by decide, by decide⟩ (Nat.le_of_ble_eq_true rfl) dX5_best_10 (fun x2 => ?_)
    refine v_if_eq (pc := 13) C 35 dX5_best_13 (by decide) ?_ ?_
    · refine v_ldc2 (pc := 35) C mw_505 dX5_best_35 ?_
      exact tp_out (fun h => hret _ _ _ _ ⟨(Prod.mk.inj h).1, congrArg (wX G) (Prod.mk.inj h).2⟩ dX5_best_38)
    · refine v_aload_n (pc := 16) C 0 rfl dX5_best_16 ?_
      refine v_iload_n (pc := 17) C 3 rfl dX5_best_17 ?_
      refine cIv1r (pc := 18) C (fun r9 h9 => m5_isPlace G K.2.1 a3 s0 r9 h9) q_yX5_isPlace mw_433 rc_5 ⟨by decide, by decide⟩ (Nat.le_of_ble_eq_true rfl) dX5_best_18 (fun x3 => ?_)
      refine v_if_eq (pc := 21) C 35 dX5_best_21 (by decide) ?_ ?_
      · refine v_ldc2 (pc := 35) C mw_505 dX5_best_35 ?_
        exact tp_out (fun h => hret _ _ _ _ ⟨(Prod.mk.inj h).1, congrArg (wX G) (Prod.mk.inj h).2⟩ dX5_best_38)
      · refine v_iload (pc := 24) C 4 rfl dX5_best_24 ?_
        refine v_if_lt (pc := 26) C 35 dX5_best_26 (by decide) ?_ ?_
        · refine v_ldc2 (pc := 35) C mw_505 dX5_best_35 ?_
          exact tp_out (fun h => hret _ _ _ _ ⟨(Prod.mk.inj h).1, congrArg (wX G) (Prod.mk.inj h).2⟩ dX5_best_38)
        · refine v_iload (pc := 29) C 4 rfl dX5_best_29 ?_
          refine v_iconst (pc := 31) C 2 dX5_best_31 (by decide) ?_
          refine v_icmp_le (pc := 32) C 39 dX5_best_32 (by decide) ?_ ?_
          · refine v_aload_n (pc := 39) C 0 rfl dX5_best_39 ?_
            refine v_iload_n (pc := 40) C 1 rfl dX5_best_40 ?_
            refine v_iconst (pc := 41) C 0 dX5_best_41 (by decide) ?_
            refine v_aload_n (pc := 42) C 0 rfl dX5_best_42 ?_
            refine v_iconst (pc := 43) C 5 dX5_best_43 (by decide) ?_
            refine cIv1r (pc := 44) C (fun r9 h9 => m5_tuned G K.2.1 5 s0 r9 h9) q_yX5_tuned mw_437 rc_5 ⟨by decide, by decide⟩ (Nat.le_of_ble_eq_true rfl) dX5_best_44 (fun x4 => ?_)
            refine cVv3w (pc := 47) C (W2 := wX G) (fun s9 h9 => m5_look G K.2.1 a1 0 x4 s0 s9 h9) q_yX5_look mw_508 rc_5 ⟨by decide, by decide⟩ (Nat.le_of_ble_eq_true rfl) dX5_best_47 (fun q5 => ?_)
            refine v_aload_n (pc := 50) C 0 rfl dX5_best_50 ?_
            refine g5_ways (pc := 51) C mw_28 dX5_best_51 ?_
            refine v_iload_n (pc := 54) C 2 rfl dX5_best_54 ?_
            refine v_iconst (pc := 55) C 1 dX5_best_55 (by decide) ?_
            refine v_iadd (pc := 56) C dX5_best_56 ?_
            refine cVv1w (pc := 57) C (W2 := wX G) (fun s9 h9 => m3_weigh G K.2.1 (a2 + 1) q5 s9 h9) q_yX3_weigh mw_527 rc_3 ⟨by decide, by decide⟩ (Nat.le_of_ble_eq_true rfl) dX5_best_57 (fun q6 => ?_)
            refine v_aload_n (pc := 60) C 0 rfl dX5_best_60 ?_
            refine g5_ways (pc := 61) C mw_28 dX5_best_61 ?_
            refine v_iload_n (pc := 64) C 3 rfl dX5_best_64 ?_
            refine v_iconst (pc := 65) C 1 dX5_best_65 (by decide) ?_
            refine v_iadd (pc := 66) C dX5_best_66 ?_
            refine cLv1r (pc := 67) C (fun r9 h9 => m3_oddsOf G K.2.1 (a3 + 1) q6 r9 h9) q_yX3_oddsOf mw_540 rc_3 ⟨by decide, by decide⟩ (Nat.le_of_ble_eq_true rfl) dX5_best_67 (fun x7 => ?_)
            refine v_lstore (pc := 70) C dX5_best_70 (by decide) (lv' := [(5, .long x7), (0, .ref (aX G 0)), (1, .int a1), (2, .int a2), (3, .int a3), (4, .int a4)]) rfl ?_
            refine v_lload (pc := 72) C 0 rfl dX5_best_72 ?_
            refine v_lconst (pc := 74) C 0 dX5_best_74 (by decide) ?_
            refine v_lcmp_ne (pc := 75) C 83 dX5_best_75 dX5_best_76 (by decide) ?_ ?_
            · refine v_ldc2 (pc := 79) C mw_506 dX5_best_79 ?_
              exact tp_out (fun h => hret _ _ _ _ ⟨(Prod.mk.inj h).1, congrArg (wX G) (Prod.mk.inj h).2⟩ dX5_best_82)
            · refine v_iload (pc := 83) C 5 rfl dX5_best_83 ?_
              refine v_iconst (pc := 85) C 2 dX5_best_85 (by decide) ?_
              refine v_icmp_ne (pc := 86) C 103 dX5_best_86 (by decide) ?_ ?_
              · refine v_aload_n (pc := 89) C 1 rfl dX5_best_89 ?_
                refine g5_ways (pc := 90) C mw_28 dX5_best_90 ?_
                refine v_iload_n (pc := 93) C 4 rfl dX5_best_93 ?_
                refine v_iconst (pc := 94) C 1 dX5_best_94 (by decide) ?_
                refine v_iadd (pc := 95) C dX5_best_95 ?_
                refine cIv1r (pc := 96) C (fun r9 h9 => m3_stepsTo G K.2.1 (a3 + 1) q6 r9 h9) q_yX3_stepsTo mw_544 rc_3 ⟨by decide, by decide⟩ (Nat.le_of_ble_eq_true rfl) dX5_best_96 (fun x8 => ?_)
                refine v_i2l (pc := 99) C dX5_best_99 ?_
                refine v_goto (pc := 100) C 113 dX5_best_100 (by decide) ?_
                exact tp_out (fun h => hret _ _ _ _ ⟨(Prod.mk.inj h).1, congrArg (wX G) (Prod.mk.inj h).2⟩ dX5_best_113)
              · refine v_lload (pc := 103) C 0 rfl dX5_best_103 ?_
                refine v_ldc2 (pc := 105) C mw_507 dX5_best_105 ?_
                refine v_iload (pc := 108) C 5 rfl dX5_best_108 ?_
                refine cLs3r (pc := 110) C (fun r9 h9 => m5_leastTerms G K.2.1 x7 1000000000000 a4 _ r9 h9) q_yX5_leastTerms mw_548 ⟨by decide, by decide⟩ (Nat.le_of_ble_eq_true rfl) dX5_best_110 (fun x9 => ?_)
                exact tp_out (fun h => hret _ _ _ _ ⟨(Prod.mk.inj h).1, congrArg (wX G) (Prod.mk.inj h).2⟩ dX5_best_113)
          · refine v_ldc2 (pc := 35) C mw_505 dX5_best_35 ?_
            exact tp_out (fun h => hret _ _ _ _ ⟨(Prod.mk.inj h).1, congrArg (wX G) (Prod.mk.inj h).2⟩ dX5_best_38)
def f5_reached (a1 : Int32) (s0 : SS) : Option Int32 := bd (f3_flood 0 ((a1 <<< (1 &&& 31)) ^^^ (-1)) s0) (fun x1 => some ((Int32.toUInt32 x1) >>> ((Int32.toUInt32 1) &&& Int32.toUInt32 31)).toInt32)
set_option maxHeartbeats 4000000 in
set_option maxRecDepth 100000 in
theorem m5_reached (G : GT) (l : Launch) (a1 : Int32)  (s0 : SS) (r : Int32) (hf : f5_reached a1 s0 = some r) : MI G l yX5_reached cX5_reached 2 (some .int) 2 50 [.ref (aX G 0), .int a1] (wX G s0) r (wX G s0) := by
  refine MI.start (by decide +kernel) (Nat.le_of_ble_eq_true rfl) (fun K hl C hret => ?_)
  subst hl
  have C : Ctx G K cX5_reached RX5 2 2 50 := C
  change V G K (wX G s0) 0 [(0, .ref (aX G 0)), (1, .int a1)] []
  refine (?_ : tp (f5_reached a1 s0) (fun q => q = r) → _) ⟨_, hf, rfl⟩
  rw [f5_reached]
  refine v_aload_n (pc := 0) C 0 rfl dX5_reached_0 ?_
  refine g5_ways (pc := 1) C mw_28 dX5_reached_1 ?_
  refine v_iconst (pc := 4) C 0 dX5_reached_4 (by decide) ?_
  refine v_iload_n (pc := 5) C 1 rfl dX5_reached_5 ?_
  refine v_iconst (pc := 6) C 1 dX5_reached_6 (by decide) ?_
  refine v_ishl (pc := 7) C dX5_reached_7 ?_
  refine v_iconst (pc := 8) C (-1) dX5_reached_8 (by decide) ?_
  refine v_ixor (pc := 9) C dX5_reached_9 ?_
  refine cIv2r (pc := 10) C (fun r9 h9 => m3_flood G K.2.1 0 ((a1 <<< (1 &&& 31)) ^^^ (-1)) s0 r9 h9) q_yX3_flood mw_584 rc_3 ⟨by decide, by decide⟩ (Nat.le_of_ble_eq_true rfl) dX5_reached_10 (fun x1 => ?_)
  refine v_iconst (pc := 13) C 1 dX5_reached_13 (by decide) ?_
  refine v_iushr (pc := 14) C dX5_reached_14 ?_
  exact tp_out (fun h => hret _ _ _ _ ⟨h, rfl⟩ dX5_reached_15)
def L5_highest_4 (c1 : Int32) (s0 : SS) : Nat → Int32 → Int32 → Option (Int32)
  | 0, _, _ => none
  | n + 1, v2, v3 => if v3 < (s0.1 (wB (s0.2.2 0)) 0) then bd (f5_has c1 v3) (fun x1 => if x1 = 0 then lt (v3 + 1) (fun x2 => L5_highest_4 c1 s0 n v2 x2) else bd (f4_feature (s0.2.2 0) v3 0 s0) (fun x3 => lt (if v2 < x3 then x3 else v2) (fun x4 => lt (v3 + 1) (fun x5 => L5_highest_4 c1 s0 n x4 x5)))) else some v2
def f5_highest (a1 : Int32) (s0 : SS) : Option Int32 := bk1 (L5_highest_4 a1 s0 FU 0 0) (fun x6 => some x6)
set_option maxHeartbeats 4000000 in
set_option maxRecDepth 100000 in
theorem l5_highest_4 {G : GT} {K : KT} (C : Ctx G K cX5_highest RX5 4 1 23) (c1 : Int32) (s0 : SS) {Ψ : Int32 → Prop} (hx : ∀ (o1 : Int32), Ψ o1 → V G K (wX G s0) 43 [(2, .int o1)] []) : ∀ (n : Nat) (v2 : Int32) (v3 : Int32), tp (L5_highest_4 c1 s0 n v2 v3) (k1 Ψ) → V G K (wX G s0) 4 [(0, .ref (aX G 0)), (1, .int c1), (2, .int v2), (3, .int v3)] [] := by
  intro n
  induction n with
  | zero => intro v2 v3 h; exact tp_no h
  | succ n ih =>
    intro v2 v3
    rw [L5_highest_4]
    refine v_iload_n (pc := 4) C 3 rfl dX5_highest_4 ?_
    refine v_aload_n (pc := 5) C 0 rfl dX5_highest_5 ?_
    refine g5_wood (pc := 6) C mw_41 dX5_highest_6 ?_
    refine g4_branches (s0.2.2 0) (pc := 9) C mw_157 dX5_highest_9 ?_
    refine v_icmp_ge (pc := 12) C 43 dX5_highest_12 (by decide) ?_ ?_
    · refine v_iload_n (pc := 15) C 1 rfl dX5_highest_15 ?_
      refine v_iload_n (pc := 16) C 3 rfl dX5_highest_16 ?_
      refine cIs2r (pc := 17) C (fun r9 h9 => m5_has G K.2.1 c1 v3 _ r9 h9) q_yX5_has mw_360 ⟨by decide, by decide⟩ (Nat.le_of_ble_eq_true rfl) dX5_highest_17 (fun x1 => ?_)
      refine v_if_eq (pc := 20) C 37 dX5_highest_20 (by decide) ?_ ?_
      · refine v_iincL (pc := 37) C 1 3 dX5_highest_37 rfl (by decide) (by decide) (lv0 := [(0, .ref (aX G 0)), (1, .int c1), (2, .int v2)]) rfl (fun x2 => ?_)
        refine v_goto (pc := 40) C 4 dX5_highest_40 (by decide) ?_
        exact v_to [1, 2, 3, 0] (ih _ _) rfl
      · refine v_iload_n (pc := 23) C 2 rfl dX5_highest_23 ?_
        refine v_aload_n (pc := 24) C 0 rfl dX5_highest_24 ?_
        refine g5_wood (pc := 25) C mw_41 dX5_highest_25 ?_
        refine v_iload_n (pc := 28) C 3 rfl dX5_highest_28 ?_
        refine v_iconst (pc := 29) C 0 dX5_highest_29 (by decide) ?_
        refine cIv2r (pc := 30) C (fun r9 h9 => m4_feature G K.2.1 (s0.2.2 0) v3 0 s0 r9 h9) q_yX4_feature mw_363 (rc_4 (s0.2.2 0)) ⟨by decide, by decide⟩ (Nat.le_of_ble_eq_true rfl) dX5_highest_30 (fun x3 => ?_)
        refine v_mmax (pc := 33) C mw_490 mw_491 mw_190 mw_492 (by decide) (Nat.le_of_ble_eq_true rfl) dX5_highest_33 ?_
        refine r_lti (fun x4 => ?_)
        refine v_istore_n (pc := 36) C dX5_highest_36 (by decide) (lv' := [(2, .int x4), (0, .ref (aX G 0)), (1, .int c1), (3, .int v3)]) rfl ?_
        refine v_iincL (pc := 37) C 1 3 dX5_highest_37 rfl (by decide) (by decide) (lv0 := [(2, .int x4), (0, .ref (aX G 0)), (1, .int c1)]) rfl (fun x5 => ?_)
        refine v_goto (pc := 40) C 4 dX5_highest_40 (by decide) ?_
        exact v_to [2, 3, 1, 0] (ih _ _) rfl
    · exact tp_out (fun h => v_to [2] (hx _) rfl h)
set_option maxHeartbeats 4000000 in
set_option maxRecDepth 100000 in
theorem m5_highest (G : GT) (l : Launch) (a1 : Int32)  (s0 : SS) (r : Int32) (hf : f5_highest a1 s0 = some r) : MI G l yX5_highest cX5_highest 4 (some .int) 1 23 [.ref (aX G 0), .int a1] (wX G s0) r (wX G s0) := by
  refine MI.start (by decide +kernel) (Nat.le_of_ble_eq_true rfl) (fun K hl C hret => ?_)
  subst hl
  have C : Ctx G K cX5_highest RX5 4 1 23 := C
  change V G K (wX G s0) 0 [(0, .ref (aX G 0)), (1, .int a1)] []
  refine (?_ : tp (f5_highest a1 s0) (fun q => q = r) → _) ⟨_, hf, rfl⟩
  rw [f5_highest]
  refine v_iconst (pc := 0) C 0 dX5_highest_0 (by decide) ?_
  refine v_istore_n (pc := 1) C dX5_highest_1 (by decide) (lv' := [(2, .int 0), (0, .ref (aX G 0)), (1, .int a1)]) rfl ?_
  refine v_iconst (pc := 2) C 0 dX5_highest_2 (by decide) ?_
  refine v_istore_n (pc := 3) C dX5_highest_3 (by decide) (lv' := [(3, .int 0), (2, .int 0), (0, .ref (aX G 0)), (1, .int a1)]) rfl ?_
  refine r_bk1 ?_
  refine v_to [2, 3, 1, 0] (l5_highest_4 C a1 s0 (fun x6 => ?_) FU _ _) rfl
  refine v_iload_n (pc := 43) C 0 rfl dX5_highest_43 ?_
  exact tp_out (fun h => hret _ _ _ _ ⟨h, rfl⟩ dX5_highest_44)
def f5_comesDown (a1 : Int32) (s0 : SS) : Option Int32 := bd (f3_flood (a1 + 1) (-1) s0) (fun x1 => bd (f5_has x1 0) (fun x2 => gd (x2 = 0 ∨ x2 = 1) (some x2)))
set_option maxHeartbeats 4000000 in
set_option maxRecDepth 100000 in
theorem m5_comesDown (G : GT) (l : Launch) (a1 : Int32)  (s0 : SS) (r : Int32) (hf : f5_comesDown a1 s0 = some r) : MI G l yX5_comesDown cX5_comesDown 2 (some .boolean) 2 50 [.ref (aX G 0), .int a1] (wX G s0) r (wX G s0) := by
  refine MI.startZ (by decide +kernel) (Nat.le_of_ble_eq_true rfl) (fun K hl C hret => ?_)
  subst hl
  have C : Ctx G K cX5_comesDown RX5 2 2 50 := C
  change V G K (wX G s0) 0 [(0, .ref (aX G 0)), (1, .int a1)] []
  refine (?_ : tp (f5_comesDown a1 s0) (fun q => q = r) → _) ⟨_, hf, rfl⟩
  rw [f5_comesDown]
  refine v_aload_n (pc := 0) C 0 rfl dX5_comesDown_0 ?_
  refine g5_ways (pc := 1) C mw_28 dX5_comesDown_1 ?_
  refine v_iload_n (pc := 4) C 1 rfl dX5_comesDown_4 ?_
  refine v_iconst (pc := 5) C 1 dX5_comesDown_5 (by decide) ?_
  refine v_iadd (pc := 6) C dX5_comesDown_6 ?_
  refine v_iconst (pc := 7) C (-1) dX5_comesDown_7 (by decide) ?_
  refine cIv2r (pc := 8) C (fun r9 h9 => m3_flood G K.2.1 (a1 + 1) (-1) s0 r9 h9) q_yX3_flood mw_584 rc_3 ⟨by decide, by decide⟩ (Nat.le_of_ble_eq_true rfl) dX5_comesDown_8 (fun x1 => ?_)
  refine v_iconst (pc := 11) C 0 dX5_comesDown_11 (by decide) ?_
  refine cIs2r (pc := 12) C (fun r9 h9 => m5_has G K.2.1 x1 0 _ r9 h9) q_yX5_has mw_360 ⟨by decide, by decide⟩ (Nat.le_of_ble_eq_true rfl) dX5_comesDown_12 (fun x2 => ?_)
  refine r_gd (fun hz => ?_)
  exact tp_out (fun h => hret _ _ _ _ ⟨h, rfl⟩ hz dX5_comesDown_15)
def L5_returning_4 (c1 : Int32) (s0 : SS) : Nat → Int32 → Int32 → Option (Int32)
  | 0, _, _ => none
  | n + 1, v2, v3 => if v3 < (s0.1 (wB (s0.2.2 0)) 0) then bd (f5_has c1 v3) (fun x1 => if x1 = 0 then lt (v3 + 1) (fun x2 => L5_returning_4 c1 s0 n v2 x2) else bd (f5_comesDown v3 s0) (fun x3 => if x3 = 0 then lt (v3 + 1) (fun x4 => L5_returning_4 c1 s0 n v2 x4) else lt ((v2 ||| ((1 : Int32) <<< (v3 &&& 31)))) (fun x5 => lt (v3 + 1) (fun x6 => L5_returning_4 c1 s0 n x5 x6)))) else some v2
def f5_returning (a1 : Int32) (s0 : SS) : Option Int32 := bk1 (L5_returning_4 a1 s0 FU 0 0) (fun x7 => some x7)
set_option maxHeartbeats 4000000 in
set_option maxRecDepth 100000 in
theorem l5_returning_4 {G : GT} {K : KT} (C : Ctx G K cX5_returning RX5 4 3 71) (c1 : Int32) (s0 : SS) {Ψ : Int32 → Prop} (hx : ∀ (o1 : Int32), Ψ o1 → V G K (wX G s0) 43 [(2, .int o1)] []) : ∀ (n : Nat) (v2 : Int32) (v3 : Int32), tp (L5_returning_4 c1 s0 n v2 v3) (k1 Ψ) → V G K (wX G s0) 4 [(0, .ref (aX G 0)), (1, .int c1), (2, .int v2), (3, .int v3)] [] := by
  intro n
  induction n with
  | zero => intro v2 v3 h; exact tp_no h
  | succ n ih =>
    intro v2 v3
    rw [L5_returning_4]
    refine v_iload_n (pc := 4) C 3 rfl dX5_returning_4 ?_
    refine v_aload_n (pc := 5) C 0 rfl dX5_returning_5 ?_
    refine g5_wood (pc := 6) C mw_41 dX5_returning_6 ?_
    refine g4_branches (s0.2.2 0) (pc := 9) C mw_157 dX5_returning_9 ?_
    refine v_icmp_ge (pc := 12) C 43 dX5_returning_12 (by decide) ?_ ?_
    · refine v_iload_n (pc := 15) C 1 rfl dX5_returning_15 ?_
      refine v_iload_n (pc := 16) C 3 rfl dX5_returning_16 ?_
      refine cIs2r (pc := 17) C (fun r9 h9 => m5_has G K.2.1 c1 v3 _ r9 h9) q_yX5_has mw_360 ⟨by decide, by decide⟩ (Nat.le_of_ble_eq_true rfl) dX5_returning_17 (fun x1 => ?_)
      refine v_if_eq (pc := 20) C 37 dX5_returning_20 (by decide) ?_ ?_
      · refine v_iincL (pc := 37) C 1 3 dX5_returning_37 rfl (by decide) (by decide) (lv0 := [(0, .ref (aX G 0)), (1, .int c1), (2, .int v2)]) rfl (fun x2 => ?_)
        refine v_goto (pc := 40) C 4 dX5_returning_40 (by decide) ?_
        exact v_to [1, 2, 3, 0] (ih _ _) rfl
      · refine v_aload_n (pc := 23) C 0 rfl dX5_returning_23 ?_
        refine v_iload_n (pc := 24) C 3 rfl dX5_returning_24 ?_
        refine cIv1r (pc := 25) C (fun r9 h9 => m5_comesDown G K.2.1 v3 s0 r9 h9) q_yX5_comesDown mw_605 rc_5 ⟨by decide, by decide⟩ (Nat.le_of_ble_eq_true rfl) dX5_returning_25 (fun x3 => ?_)
        refine v_if_eq (pc := 28) C 37 dX5_returning_28 (by decide) ?_ ?_
        · refine v_iincL (pc := 37) C 1 3 dX5_returning_37 rfl (by decide) (by decide) (lv0 := [(0, .ref (aX G 0)), (1, .int c1), (2, .int v2)]) rfl (fun x4 => ?_)
          refine v_goto (pc := 40) C 4 dX5_returning_40 (by decide) ?_
          exact v_to [1, 2, 3, 0] (ih _ _) rfl
        · refine v_iload_n (pc := 31) C 2 rfl dX5_returning_31 ?_
          refine v_iconst (pc := 32) C 1 dX5_returning_32 (by decide) ?_
          refine v_iload_n (pc := 33) C 3 rfl dX5_returning_33 ?_
          refine v_ishl (pc := 34) C dX5_returning_34 ?_
          refine v_ior (pc := 35) C dX5_returning_35 ?_
          refine r_lti (fun x5 => ?_)
          refine v_istore_n (pc := 36) C dX5_returning_36 (by decide) (lv' := [(2, .int x5), (0, .ref (aX G 0)), (1, .int c1), (3, .int v3)]) rfl ?_
          refine v_iincL (pc := 37) C 1 3 dX5_returning_37 rfl (by decide) (by decide) (lv0 := [(2, .int x5), (0, .ref (aX G 0)), (1, .int c1)]) rfl (fun x6 => ?_)
          refine v_goto (pc := 40) C 4 dX5_returning_40 (by decide) ?_
          exact v_to [2, 3, 1, 0] (ih _ _) rfl
    · exact tp_out (fun h => v_to [2] (hx _) rfl h)
set_option maxHeartbeats 4000000 in
set_option maxRecDepth 100000 in
theorem m5_returning (G : GT) (l : Launch) (a1 : Int32)  (s0 : SS) (r : Int32) (hf : f5_returning a1 s0 = some r) : MI G l yX5_returning cX5_returning 4 (some .int) 3 71 [.ref (aX G 0), .int a1] (wX G s0) r (wX G s0) := by
  refine MI.start (by decide +kernel) (Nat.le_of_ble_eq_true rfl) (fun K hl C hret => ?_)
  subst hl
  have C : Ctx G K cX5_returning RX5 4 3 71 := C
  change V G K (wX G s0) 0 [(0, .ref (aX G 0)), (1, .int a1)] []
  refine (?_ : tp (f5_returning a1 s0) (fun q => q = r) → _) ⟨_, hf, rfl⟩
  rw [f5_returning]
  refine v_iconst (pc := 0) C 0 dX5_returning_0 (by decide) ?_
  refine v_istore_n (pc := 1) C dX5_returning_1 (by decide) (lv' := [(2, .int 0), (0, .ref (aX G 0)), (1, .int a1)]) rfl ?_
  refine v_iconst (pc := 2) C 0 dX5_returning_2 (by decide) ?_
  refine v_istore_n (pc := 3) C dX5_returning_3 (by decide) (lv' := [(3, .int 0), (2, .int 0), (0, .ref (aX G 0)), (1, .int a1)]) rfl ?_
  refine r_bk1 ?_
  refine v_to [2, 3, 1, 0] (l5_returning_4 C a1 s0 (fun x7 => ?_) FU _ _) rfl
  refine v_iload_n (pc := 43) C 0 rfl dX5_returning_43 ?_
  exact tp_out (fun h => hret _ _ _ _ ⟨h, rfl⟩ dX5_returning_44)
def f5_high (a1 : Int32) (a2 : Int32) (s0 : SS) : Option (Int32 × SS) := bd (f5_isBody a1 s0) (fun x1 => if x1 = 0 then some ((-1), s0) else if a2 < 0 then some ((-1), s0) else if a2 ≤ 1 then bd (f5_tuned 5 s0) (fun x2 => bd (f5_look a1 0 x2 s0) (fun q3 => if a2 = 0 then bd (f5_reached (q3.1 (17 + 0) 7) q3) (fun x4 => bd (f5_highest x4 q3) (fun x5 => some (x5, q3))) else bd (f5_reached (q3.1 (17 + 0) 7) q3) (fun x6 => bd (f5_returning x6 q3) (fun x7 => bd (f5_highest x7 q3) (fun x8 => some (x8, q3)))))) else some ((-1), s0))
set_option maxHeartbeats 4000000 in
set_option maxRecDepth 100000 in
theorem m5_high (G : GT) (l : Launch) (a1 : Int32) (a2 : Int32)  (s0 : SS) (r : Int32) (s1 : SS) (hf : f5_high a1 a2 s0 = some (r, s1)) : MI G l yX5_high cX5_high 3 (some .int) 4 97 [.ref (aX G 0), .int a1, .int a2] (wX G s0) r (wX G s1) := by
  refine MI.start (by decide +kernel) (Nat.le_of_ble_eq_true rfl) (fun K hl C hret => ?_)
  subst hl
  have C : Ctx G K cX5_high RX5 3 4 97 := C
  change V G K (wX G s0) 0 [(0, .ref (aX G 0)), (1, .int a1), (2, .int a2)] []
  refine (?_ : tp (f5_high a1 a2 s0) (fun q => q = (r, s1)) → _) ⟨_, hf, rfl⟩
  rw [f5_high]
  refine v_aload_n (pc := 0) C 0 rfl dX5_high_0 ?_
  refine v_iload_n (pc := 1) C 1 rfl dX5_high_1 ?_
  refine cIv1r (pc := 2) C (fun r9 h9 => m5_isBody G K.2.1 a1 s0 r9 h9) q_yX5_isBody mw_384 rc_5 ⟨by decide, by decide⟩ (Nat.le_of_ble_eq_true rfl) dX5_high_2 (fun x1 => ?_)
  refine v_if_eq (pc := 5) C 17 dX5_high_5 (by decide) ?_ ?_
  · refine v_iconst (pc := 17) C (-1) dX5_high_17 (by decide) ?_
    exact tp_out (fun h => hret _ _ _ _ ⟨(Prod.mk.inj h).1, congrArg (wX G) (Prod.mk.inj h).2⟩ dX5_high_18)
  · refine v_iload_n (pc := 8) C 2 rfl dX5_high_8 ?_
    refine v_if_lt (pc := 9) C 17 dX5_high_9 (by decide) ?_ ?_
    · refine v_iconst (pc := 17) C (-1) dX5_high_17 (by decide) ?_
      exact tp_out (fun h => hret _ _ _ _ ⟨(Prod.mk.inj h).1, congrArg (wX G) (Prod.mk.inj h).2⟩ dX5_high_18)
    · refine v_iload_n (pc := 12) C 2 rfl dX5_high_12 ?_
      refine v_iconst (pc := 13) C 1 dX5_high_13 (by decide) ?_
      refine v_icmp_le (pc := 14) C 19 dX5_high_14 (by decide) ?_ ?_
      · refine v_aload_n (pc := 19) C 0 rfl dX5_high_19 ?_
        refine v_iload_n (pc := 20) C 1 rfl dX5_high_20 ?_
        refine v_iconst (pc := 21) C 0 dX5_high_21 (by decide) ?_
        refine v_aload_n (pc := 22) C 0 rfl dX5_high_22 ?_
        refine v_iconst (pc := 23) C 5 dX5_high_23 (by decide) ?_
        refine cIv1r (pc := 24) C (fun r9 h9 => m5_tuned G K.2.1 5 s0 r9 h9) q_yX5_tuned mw_437 rc_5 ⟨by decide, by decide⟩ (Nat.le_of_ble_eq_true rfl) dX5_high_24 (fun x2 => ?_)
        refine cVv3w (pc := 27) C (W2 := wX G) (fun s9 h9 => m5_look G K.2.1 a1 0 x2 s0 s9 h9) q_yX5_look mw_508 rc_5 ⟨by decide, by decide⟩ (Nat.le_of_ble_eq_true rfl) dX5_high_27 (fun q3 => ?_)
        refine v_iload_n (pc := 30) C 2 rfl dX5_high_30 ?_
        refine v_if_ne (pc := 31) C 52 dX5_high_31 (by decide) ?_ ?_
        · refine v_aload_n (pc := 34) C 0 rfl dX5_high_34 ?_
          refine v_aload_n (pc := 35) C 0 rfl dX5_high_35 ?_
          refine v_aload_n (pc := 36) C 0 rfl dX5_high_36 ?_
          refine g5_present (pc := 37) C mw_36 dX5_high_37 ?_
          refine g1_sawn 0 (by decide) (pc := 40) C mw_154 dX5_high_40 ?_
          refine cIv1r (pc := 43) C (fun r9 h9 => m5_reached G K.2.1 (q3.1 (17 + 0) 7) q3 r9 h9) q_yX5_reached mw_580 rc_5 ⟨by decide, by decide⟩ (Nat.le_of_ble_eq_true rfl) dX5_high_43 (fun x4 => ?_)
          refine cIv1r (pc := 46) C (fun r9 h9 => m5_highest G K.2.1 x4 q3 r9 h9) q_yX5_highest mw_597 rc_5 ⟨by decide, by decide⟩ (Nat.le_of_ble_eq_true rfl) dX5_high_46 (fun x5 => ?_)
          refine v_goto (pc := 49) C 71 dX5_high_49 (by decide) ?_
          exact tp_out (fun h => hret _ _ _ _ ⟨(Prod.mk.inj h).1, congrArg (wX G) (Prod.mk.inj h).2⟩ dX5_high_71)
        · refine v_aload_n (pc := 52) C 0 rfl dX5_high_52 ?_
          refine v_aload_n (pc := 53) C 0 rfl dX5_high_53 ?_
          refine v_aload_n (pc := 54) C 0 rfl dX5_high_54 ?_
          refine v_aload_n (pc := 55) C 0 rfl dX5_high_55 ?_
          refine g5_present (pc := 56) C mw_36 dX5_high_56 ?_
          refine g1_sawn 0 (by decide) (pc := 59) C mw_154 dX5_high_59 ?_
          refine cIv1r (pc := 62) C (fun r9 h9 => m5_reached G K.2.1 (q3.1 (17 + 0) 7) q3 r9 h9) q_yX5_reached mw_580 rc_5 ⟨by decide, by decide⟩ (Nat.le_of_ble_eq_true rfl) dX5_high_62 (fun x6 => ?_)
          refine cIv1r (pc := 65) C (fun r9 h9 => m5_returning G K.2.1 x6 q3 r9 h9) q_yX5_returning mw_601 rc_5 ⟨by decide, by decide⟩ (Nat.le_of_ble_eq_true rfl) dX5_high_65 (fun x7 => ?_)
          refine cIv1r (pc := 68) C (fun r9 h9 => m5_highest G K.2.1 x7 q3 r9 h9) q_yX5_highest mw_597 rc_5 ⟨by decide, by decide⟩ (Nat.le_of_ble_eq_true rfl) dX5_high_68 (fun x8 => ?_)
          exact tp_out (fun h => hret _ _ _ _ ⟨(Prod.mk.inj h).1, congrArg (wX G) (Prod.mk.inj h).2⟩ dX5_high_71)
      · refine v_iconst (pc := 17) C (-1) dX5_high_17 (by decide) ?_
        exact tp_out (fun h => hret _ _ _ _ ⟨(Prod.mk.inj h).1, congrArg (wX G) (Prod.mk.inj h).2⟩ dX5_high_18)
def L5_sure_44 (c2 : Int32) (s0 : SS) : Nat → Int32 → Int32 → Option (Int32)
  | 0, _, _ => none
  | n + 1, v3, v4 => if v4 < (s0.1 (wB (s0.2.2 0)) 0) then bd (f3_oddsOf (v4 + 1) s0) (fun x5 => if x5 ≤ 0 then lt (v4 + 1) (fun x6 => L5_sure_44 c2 s0 n v3 x6) else if (x5 * 100) < ((Int32.toInt64 c2) * 1000000000000) then lt (v4 + 1) (fun x7 => L5_sure_44 c2 s0 n v3 x7) else bd (f4_feature (s0.2.2 0) v4 0 s0) (fun x8 => lt (if v3 < x8 then x8 else v3) (fun x9 => lt (v4 + 1) (fun x10 => L5_sure_44 c2 s0 n x9 x10)))) else some v3
def f5_sure (a1 : Int32) (a2 : Int32) (s0 : SS) : Option (Int32 × SS) := bd (f5_isBody a1 s0) (fun x1 => if x1 = 0 then some ((-1), s0) else if a2 < 0 then some ((-1), s0) else if a2 ≤ 100 then bd (f5_tuned 5 s0) (fun x2 => bd (f5_look a1 0 x2 s0) (fun q3 => bd (f3_weigh 0 q3) (fun q4 => bk1 (L5_sure_44 a2 q4 FU 0 0) (fun x11 => some (x11, q4))))) else some ((-1), s0))
set_option maxHeartbeats 4000000 in
set_option maxRecDepth 100000 in
theorem l5_sure_44 {G : GT} {K : KT} (C : Ctx G K cX5_sure RX5 7 4 97) (c2 : Int32) (s0 : SS) {Ψ : Int32 → Prop} (hx : ∀ (o1 : Int32), Ψ o1 → V G K (wX G s0) 113 [(3, .int o1)] []) : ∀ (n : Nat) (v3 : Int32) (v4 : Int32), tp (L5_sure_44 c2 s0 n v3 v4) (k1 Ψ) → V G K (wX G s0) 44 [(0, .ref (aX G 0)), (2, .int c2), (3, .int v3), (4, .int v4)] [] := by
  intro n
  induction n with
  | zero => intro v3 v4 h; exact tp_no h
  | succ n ih =>
    intro v3 v4
    rw [L5_sure_44]
    refine v_iload (pc := 44) C 3 rfl dX5_sure_44 ?_
    refine v_aload_n (pc := 46) C 0 rfl dX5_sure_46 ?_
    refine g5_wood (pc := 47) C mw_41 dX5_sure_47 ?_
    refine g4_branches (s0.2.2 0) (pc := 50) C mw_157 dX5_sure_50 ?_
    refine v_icmp_ge (pc := 53) C 113 dX5_sure_53 (by decide) ?_ ?_
    · refine v_aload_n (pc := 56) C 0 rfl dX5_sure_56 ?_
      refine g5_ways (pc := 57) C mw_28 dX5_sure_57 ?_
      refine v_iload (pc := 60) C 3 rfl dX5_sure_60 ?_
      refine v_iconst (pc := 62) C 1 dX5_sure_62 (by decide) ?_
      refine v_iadd (pc := 63) C dX5_sure_63 ?_
      refine cLv1r (pc := 64) C (fun r9 h9 => m3_oddsOf G K.2.1 (v4 + 1) s0 r9 h9) q_yX3_oddsOf mw_540 rc_3 ⟨by decide, by decide⟩ (Nat.le_of_ble_eq_true rfl) dX5_sure_64 (fun x5 => ?_)
      refine v_lstore (pc := 67) C dX5_sure_67 (by decide) (lv' := [(5, .long x5), (0, .ref (aX G 0)), (2, .int c2), (3, .int v3), (4, .int v4)]) rfl ?_
      refine v_lload (pc := 69) C 0 rfl dX5_sure_69 ?_
      refine v_lconst (pc := 71) C 0 dX5_sure_71 (by decide) ?_
      refine v_lcmp_le (pc := 72) C 107 dX5_sure_72 dX5_sure_73 (by decide) ?_ ?_
      · refine v_iincL (pc := 107) C 1 4 dX5_sure_107 rfl (by decide) (by decide) (lv0 := [(5, .long x5), (0, .ref (aX G 0)), (2, .int c2), (3, .int v3)]) rfl (fun x6 => ?_)
        refine v_goto (pc := 110) C 44 dX5_sure_110 (by decide) ?_
        exact v_to [2, 3, 4, 0] (ih _ _) rfl
      · refine v_lload (pc := 76) C 0 rfl dX5_sure_76 ?_
        refine v_ldc2 (pc := 78) C mw_630 dX5_sure_78 ?_
        refine v_lmul (pc := 81) C dX5_sure_81 ?_
        refine v_iload_n (pc := 82) C 2 rfl dX5_sure_82 ?_
        refine v_i2l (pc := 83) C dX5_sure_83 ?_
        refine v_ldc2 (pc := 84) C mw_507 dX5_sure_84 ?_
        refine v_lmul (pc := 87) C dX5_sure_87 ?_
        refine v_lcmp_lt (pc := 88) C 107 dX5_sure_88 dX5_sure_89 (by decide) ?_ ?_
        · refine v_iincL (pc := 107) C 1 4 dX5_sure_107 rfl (by decide) (by decide) (lv0 := [(5, .long x5), (0, .ref (aX G 0)), (2, .int c2), (3, .int v3)]) rfl (fun x7 => ?_)
          refine v_goto (pc := 110) C 44 dX5_sure_110 (by decide) ?_
          exact v_to [2, 3, 4, 0] (ih _ _) rfl
        · refine v_iload_n (pc := 92) C 3 rfl dX5_sure_92 ?_
          refine v_aload_n (pc := 93) C 1 rfl dX5_sure_93 ?_
          refine g5_wood (pc := 94) C mw_41 dX5_sure_94 ?_
          refine v_iload (pc := 97) C 4 rfl dX5_sure_97 ?_
          refine v_iconst (pc := 99) C 0 dX5_sure_99 (by decide) ?_
          refine cIv2r (pc := 100) C (fun r9 h9 => m4_feature G K.2.1 (s0.2.2 0) v4 0 s0 r9 h9) q_yX4_feature mw_363 (rc_4 (s0.2.2 0)) ⟨by decide, by decide⟩ (Nat.le_of_ble_eq_true rfl) dX5_sure_100 (fun x8 => ?_)
          refine v_mmax (pc := 103) C mw_490 mw_491 mw_190 mw_492 (by decide) (Nat.le_of_ble_eq_true rfl) dX5_sure_103 ?_
          refine r_lti (fun x9 => ?_)
          refine v_istore_n (pc := 106) C dX5_sure_106 (by decide) (lv' := [(3, .int x9), (5, .long x5), (0, .ref (aX G 0)), (2, .int c2), (4, .int v4)]) rfl ?_
          refine v_iincL (pc := 107) C 1 4 dX5_sure_107 rfl (by decide) (by decide) (lv0 := [(3, .int x9), (5, .long x5), (0, .ref (aX G 0)), (2, .int c2)]) rfl (fun x10 => ?_)
          refine v_goto (pc := 110) C 44 dX5_sure_110 (by decide) ?_
          exact v_to [3, 4, 1, 0] (ih _ _) rfl
    · exact tp_out (fun h => v_to [2] (hx _) rfl h)
set_option maxHeartbeats 4000000 in
set_option maxRecDepth 100000 in
theorem m5_sure (G : GT) (l : Launch) (a1 : Int32) (a2 : Int32)  (s0 : SS) (r : Int32) (s1 : SS) (hf : f5_sure a1 a2 s0 = some (r, s1)) : MI G l yX5_sure cX5_sure 7 (some .int) 4 97 [.ref (aX G 0), .int a1, .int a2] (wX G s0) r (wX G s1) := by
  refine MI.start (by decide +kernel) (Nat.le_of_ble_eq_true rfl) (fun K hl C hret => ?_)
  subst hl
  have C : Ctx G K cX5_sure RX5 7 4 97 := C
  change V G K (wX G s0) 0 [(0, .ref (aX G 0)), (1, .int a1), (2, .int a2)] []
  refine (?_ : tp (f5_sure a1 a2 s0) (fun q => q = (r, s1)) → _) ⟨_, hf, rfl⟩
  rw [f5_sure]
  refine v_aload_n (pc := 0) C 0 rfl dX5_sure_0 ?_
  refine v_iload_n (pc := 1) C 1 rfl dX5_sure_1 ?_
  refine cIv1r (pc := 2) C (fun r9 h9 => m5_isBody G K.2.1 a1 s0 r9 h9) q_yX5_isBody mw_384 rc_5 ⟨by decide, by decide⟩ (Nat.le_of_ble_eq_true rfl) dX5_sure_2 (fun x1 => ?_)
  refine v_if_eq (pc := 5) C 18 dX5_sure_5 (by decide) ?_ ?_
  · refine v_iconst (pc := 18) C (-1) dX5_sure_18 (by decide) ?_
    exact tp_out (fun h => hret _ _ _ _ ⟨(Prod.mk.inj h).1, congrArg (wX G) (Prod.mk.inj h).2⟩ dX5_sure_19)
  · refine v_iload_n (pc := 8) C 2 rfl dX5_sure_8 ?_
    refine v_if_lt (pc := 9) C 18 dX5_sure_9 (by decide) ?_ ?_
    · refine v_iconst (pc := 18) C (-1) dX5_sure_18 (by decide) ?_
      exact tp_out (fun h => hret _ _ _ _ ⟨(Prod.mk.inj h).1, congrArg (wX G) (Prod.mk.inj h).2⟩ dX5_sure_19)
    · refine v_iload_n (pc := 12) C 2 rfl dX5_sure_12 ?_
      refine v_bipush (pc := 13) C 100 dX5_sure_13 (by decide) ?_
      refine v_icmp_le (pc := 15) C 20 dX5_sure_15 (by decide) ?_ ?_
      · refine v_aload_n (pc := 20) C 0 rfl dX5_sure_20 ?_
        refine v_iload_n (pc := 21) C 1 rfl dX5_sure_21 ?_
        refine v_iconst (pc := 22) C 0 dX5_sure_22 (by decide) ?_
        refine v_aload_n (pc := 23) C 0 rfl dX5_sure_23 ?_
        refine v_iconst (pc := 24) C 5 dX5_sure_24 (by decide) ?_
        refine cIv1r (pc := 25) C (fun r9 h9 => m5_tuned G K.2.1 5 s0 r9 h9) q_yX5_tuned mw_437 rc_5 ⟨by decide, by decide⟩ (Nat.le_of_ble_eq_true rfl) dX5_sure_25 (fun x2 => ?_)
        refine cVv3w (pc := 28) C (W2 := wX G) (fun s9 h9 => m5_look G K.2.1 a1 0 x2 s0 s9 h9) q_yX5_look mw_508 rc_5 ⟨by decide, by decide⟩ (Nat.le_of_ble_eq_true rfl) dX5_sure_28 (fun q3 => ?_)
        refine v_aload_n (pc := 31) C 0 rfl dX5_sure_31 ?_
        refine g5_ways (pc := 32) C mw_28 dX5_sure_32 ?_
        refine v_iconst (pc := 35) C 0 dX5_sure_35 (by decide) ?_
        refine cVv1w (pc := 36) C (W2 := wX G) (fun s9 h9 => m3_weigh G K.2.1 0 q3 s9 h9) q_yX3_weigh mw_527 rc_3 ⟨by decide, by decide⟩ (Nat.le_of_ble_eq_true rfl) dX5_sure_36 (fun q4 => ?_)
        refine v_iconst (pc := 39) C 0 dX5_sure_39 (by decide) ?_
        refine v_istore_n (pc := 40) C dX5_sure_40 (by decide) (lv' := [(3, .int 0), (0, .ref (aX G 0)), (1, .int a1), (2, .int a2)]) rfl ?_
        refine v_iconst (pc := 41) C 0 dX5_sure_41 (by decide) ?_
        refine v_istore (pc := 42) C dX5_sure_42 (by decide) (lv' := [(4, .int 0), (3, .int 0), (0, .ref (aX G 0)), (1, .int a1), (2, .int a2)]) rfl ?_
        refine r_bk1 ?_
        refine v_to [2, 4, 1, 0] (l5_sure_44 C a2 q4 (fun x11 => ?_) FU _ _) rfl
        refine v_iload_n (pc := 113) C 0 rfl dX5_sure_113 ?_
        exact tp_out (fun h => hret _ _ _ _ ⟨(Prod.mk.inj h).1, congrArg (wX G) (Prod.mk.inj h).2⟩ dX5_sure_114)
      · refine v_iconst (pc := 18) C (-1) dX5_sure_18 (by decide) ?_
        exact tp_out (fun h => hret _ _ _ _ ⟨(Prod.mk.inj h).1, congrArg (wX G) (Prod.mk.inj h).2⟩ dX5_sure_19)
def f5_help (a1 : Int32) (a2 : Int32) (s0 : SS) : Option (Int32 × SS) := bd (f5_isBody a1 s0) (fun x1 => if x1 = 0 then some ((-1), s0) else if a2 < 0 then some ((-1), s0) else if a2 ≤ 20 then bd (f5_look a1 0 a2 s0) (fun q2 => bd (f5_reached (q2.1 (17 + 0) 7) q2) (fun x3 => bd (f5_highest x3 q2) (fun x4 => bd (f5_look a1 0 0 q2) (fun q5 => bd (f5_reached (q5.1 (17 + 0) 7) q5) (fun x6 => bd (f5_highest x6 q5) (fun x7 => some ((x4 - x7), q5))))))) else some ((-1), s0))
set_option maxHeartbeats 4000000 in
set_option maxRecDepth 100000 in
theorem m5_help (G : GT) (l : Launch) (a1 : Int32) (a2 : Int32)  (s0 : SS) (r : Int32) (s1 : SS) (hf : f5_help a1 a2 s0 = some (r, s1)) : MI G l yX5_help cX5_help 4 (some .int) 4 97 [.ref (aX G 0), .int a1, .int a2] (wX G s0) r (wX G s1) := by
  refine MI.start (by decide +kernel) (Nat.le_of_ble_eq_true rfl) (fun K hl C hret => ?_)
  subst hl
  have C : Ctx G K cX5_help RX5 4 4 97 := C
  change V G K (wX G s0) 0 [(0, .ref (aX G 0)), (1, .int a1), (2, .int a2)] []
  refine (?_ : tp (f5_help a1 a2 s0) (fun q => q = (r, s1)) → _) ⟨_, hf, rfl⟩
  rw [f5_help]
  refine v_aload_n (pc := 0) C 0 rfl dX5_help_0 ?_
  refine v_iload_n (pc := 1) C 1 rfl dX5_help_1 ?_
  refine cIv1r (pc := 2) C (fun r9 h9 => m5_isBody G K.2.1 a1 s0 r9 h9) q_yX5_isBody mw_384 rc_5 ⟨by decide, by decide⟩ (Nat.le_of_ble_eq_true rfl) dX5_help_2 (fun x1 => ?_)
  refine v_if_eq (pc := 5) C 18 dX5_help_5 (by decide) ?_ ?_
  · refine v_iconst (pc := 18) C (-1) dX5_help_18 (by decide) ?_
    exact tp_out (fun h => hret _ _ _ _ ⟨(Prod.mk.inj h).1, congrArg (wX G) (Prod.mk.inj h).2⟩ dX5_help_19)
  · refine v_iload_n (pc := 8) C 2 rfl dX5_help_8 ?_
    refine v_if_lt (pc := 9) C 18 dX5_help_9 (by decide) ?_ ?_
    · refine v_iconst (pc := 18) C (-1) dX5_help_18 (by decide) ?_
      exact tp_out (fun h => hret _ _ _ _ ⟨(Prod.mk.inj h).1, congrArg (wX G) (Prod.mk.inj h).2⟩ dX5_help_19)
    · refine v_iload_n (pc := 12) C 2 rfl dX5_help_12 ?_
      refine v_bipush (pc := 13) C 20 dX5_help_13 (by decide) ?_
      refine v_icmp_le (pc := 15) C 20 dX5_help_15 (by decide) ?_ ?_
      · refine v_aload_n (pc := 20) C 0 rfl dX5_help_20 ?_
        refine v_iload_n (pc := 21) C 1 rfl dX5_help_21 ?_
        refine v_iconst (pc := 22) C 0 dX5_help_22 (by decide) ?_
        refine v_iload_n (pc := 23) C 2 rfl dX5_help_23 ?_
        refine cVv3w (pc := 24) C (W2 := wX G) (fun s9 h9 => m5_look G K.2.1 a1 0 a2 s0 s9 h9) q_yX5_look mw_508 rc_5 ⟨by decide, by decide⟩ (Nat.le_of_ble_eq_true rfl) dX5_help_24 (fun q2 => ?_)
        refine v_aload_n (pc := 27) C 0 rfl dX5_help_27 ?_
        refine v_aload_n (pc := 28) C 0 rfl dX5_help_28 ?_
        refine v_aload_n (pc := 29) C 0 rfl dX5_help_29 ?_
        refine g5_present (pc := 30) C mw_36 dX5_help_30 ?_
        refine g1_sawn 0 (by decide) (pc := 33) C mw_154 dX5_help_33 ?_
        refine cIv1r (pc := 36) C (fun r9 h9 => m5_reached G K.2.1 (q2.1 (17 + 0) 7) q2 r9 h9) q_yX5_reached mw_580 rc_5 ⟨by decide, by decide⟩ (Nat.le_of_ble_eq_true rfl) dX5_help_36 (fun x3 => ?_)
        refine cIv1r (pc := 39) C (fun r9 h9 => m5_highest G K.2.1 x3 q2 r9 h9) q_yX5_highest mw_597 rc_5 ⟨by decide, by decide⟩ (Nat.le_of_ble_eq_true rfl) dX5_help_39 (fun x4 => ?_)
        refine v_istore_n (pc := 42) C dX5_help_42 (by decide) (lv' := [(3, .int x4), (0, .ref (aX G 0)), (1, .int a1), (2, .int a2)]) rfl ?_
        refine v_aload_n (pc := 43) C 1 rfl dX5_help_43 ?_
        refine v_iload_n (pc := 44) C 2 rfl dX5_help_44 ?_
        refine v_iconst (pc := 45) C 0 dX5_help_45 (by decide) ?_
        refine v_iconst (pc := 46) C 0 dX5_help_46 (by decide) ?_
        refine cVv3w (pc := 47) C (W2 := wX G) (fun s9 h9 => m5_look G K.2.1 a1 0 0 q2 s9 h9) q_yX5_look mw_508 rc_5 ⟨by decide, by decide⟩ (Nat.le_of_ble_eq_true rfl) dX5_help_47 (fun q5 => ?_)
        refine v_iload_n (pc := 50) C 0 rfl dX5_help_50 ?_
        refine v_aload_n (pc := 51) C 1 rfl dX5_help_51 ?_
        refine v_aload_n (pc := 52) C 1 rfl dX5_help_52 ?_
        refine v_aload_n (pc := 53) C 1 rfl dX5_help_53 ?_
        refine g5_present (pc := 54) C mw_36 dX5_help_54 ?_
        refine g1_sawn 0 (by decide) (pc := 57) C mw_154 dX5_help_57 ?_
        refine cIv1r (pc := 60) C (fun r9 h9 => m5_reached G K.2.1 (q5.1 (17 + 0) 7) q5 r9 h9) q_yX5_reached mw_580 rc_5 ⟨by decide, by decide⟩ (Nat.le_of_ble_eq_true rfl) dX5_help_60 (fun x6 => ?_)
        refine cIv1r (pc := 63) C (fun r9 h9 => m5_highest G K.2.1 x6 q5 r9 h9) q_yX5_highest mw_597 rc_5 ⟨by decide, by decide⟩ (Nat.le_of_ble_eq_true rfl) dX5_help_63 (fun x7 => ?_)
        refine v_isub (pc := 66) C dX5_help_66 ?_
        exact tp_out (fun h => hret _ _ _ _ ⟨(Prod.mk.inj h).1, congrArg (wX G) (Prod.mk.inj h).2⟩ dX5_help_67)
      · refine v_iconst (pc := 18) C (-1) dX5_help_18 (by decide) ?_
        exact tp_out (fun h => hret _ _ _ _ ⟨(Prod.mk.inj h).1, congrArg (wX G) (Prod.mk.inj h).2⟩ dX5_help_19)
def L5_stuck_20 (c1 : Int32) (c2 : Int32) : Nat → Int32 → SS → Option ((SS) ⊕ (Int32 × SS))
  | 0, _, _ => none
  | n + 1, v3, s => if v3 ≤ 30 then bd (f5_tuned 5 s) (fun x3 => bd (f5_look c1 v3 x3 s) (fun q4 => bd (f5_comesDown c2 q4) (fun x5 => if x5 = 0 then lt (v3 + 1) (fun x6 => L5_stuck_20 c1 c2 n x6 q4) else some (.inr (v3, q4))))) else some (.inl s)
def f5_stuck (a1 : Int32) (a2 : Int32) (s0 : SS) : Option (Int32 × SS) := bd (f5_isBody a1 s0) (fun x1 => if x1 = 0 then some ((-1), s0) else bd (f5_isBranch a2 s0) (fun x2 => if x2 = 0 then some ((-1), s0) else bs1 (L5_stuck_20 a1 a2 FU 0 s0) (fun q7 => some ((-9), q7)) (fun r => some r)))
set_option maxHeartbeats 4000000 in
set_option maxRecDepth 100000 in
theorem l5_stuck_20 {G : GT} {K : KT} (C : Ctx G K cX5_stuck RX5 4 4 97) (c1 : Int32) (c2 : Int32) {Ψ : SS → Prop} (hx : ∀ (so : SS), Ψ so → V G K (wX G so) 53 [] []) {Φr : (Int32 × SS) → Prop} (hr : ∀ (r : Int32) (sr : SS), Φr (r, sr) → ∀ (pc : Nat) (lv : List (Nat × Value)), decode cX5_stuck pc = .ok (.ireturn, 1) → V G K (wX G sr) pc lv [.int r]) : ∀ (n : Nat) (v3 : Int32) (s : SS), tp (L5_stuck_20 c1 c2 n v3 s) (uS (k1 Ψ) Φr) → V G K (wX G s) 20 [(0, .ref (aX G 0)), (1, .int c1), (2, .int c2), (3, .int v3)] [] := by
  intro n
  induction n with
  | zero => intro v3 s h; exact tp_no h
  | succ n ih =>
    intro v3 s
    rw [L5_stuck_20]
    refine v_iload_n (pc := 20) C 3 rfl dX5_stuck_20 ?_
    refine v_bipush (pc := 21) C 30 dX5_stuck_21 (by decide) ?_
    refine v_icmp_gt (pc := 23) C 53 dX5_stuck_23 (by decide) ?_ ?_
    · refine v_aload_n (pc := 26) C 0 rfl dX5_stuck_26 ?_
      refine v_iload_n (pc := 27) C 1 rfl dX5_stuck_27 ?_
      refine v_iload_n (pc := 28) C 3 rfl dX5_stuck_28 ?_
      refine v_aload_n (pc := 29) C 0 rfl dX5_stuck_29 ?_
      refine v_iconst (pc := 30) C 5 dX5_stuck_30 (by decide) ?_
      refine cIv1r (pc := 31) C (fun r9 h9 => m5_tuned G K.2.1 5 s r9 h9) q_yX5_tuned mw_437 rc_5 ⟨by decide, by decide⟩ (Nat.le_of_ble_eq_true rfl) dX5_stuck_31 (fun x3 => ?_)
      refine cVv3w (pc := 34) C (W2 := wX G) (fun s9 h9 => m5_look G K.2.1 c1 v3 x3 s s9 h9) q_yX5_look mw_508 rc_5 ⟨by decide, by decide⟩ (Nat.le_of_ble_eq_true rfl) dX5_stuck_34 (fun q4 => ?_)
      refine v_aload_n (pc := 37) C 0 rfl dX5_stuck_37 ?_
      refine v_iload_n (pc := 38) C 2 rfl dX5_stuck_38 ?_
      refine cIv1r (pc := 39) C (fun r9 h9 => m5_comesDown G K.2.1 c2 q4 r9 h9) q_yX5_comesDown mw_605 rc_5 ⟨by decide, by decide⟩ (Nat.le_of_ble_eq_true rfl) dX5_stuck_39 (fun x5 => ?_)
      refine v_if_eq (pc := 42) C 47 dX5_stuck_42 (by decide) ?_ ?_
      · refine v_iincL (pc := 47) C 1 3 dX5_stuck_47 rfl (by decide) (by decide) (lv0 := [(0, .ref (aX G 0)), (1, .int c1), (2, .int c2)]) rfl (fun x6 => ?_)
        refine v_goto (pc := 50) C 20 dX5_stuck_50 (by decide) ?_
        exact v_to [1, 2, 3, 0] (ih _ _) rfl
      · refine v_iload_n (pc := 45) C 3 rfl dX5_stuck_45 ?_
        exact tp_out (fun h => hr _ _ h _ _ dX5_stuck_46)
    · exact tp_out (fun h => v_to [] (hx _) rfl h)
set_option maxHeartbeats 4000000 in
set_option maxRecDepth 100000 in
theorem m5_stuck (G : GT) (l : Launch) (a1 : Int32) (a2 : Int32)  (s0 : SS) (r : Int32) (s1 : SS) (hf : f5_stuck a1 a2 s0 = some (r, s1)) : MI G l yX5_stuck cX5_stuck 4 (some .int) 4 97 [.ref (aX G 0), .int a1, .int a2] (wX G s0) r (wX G s1) := by
  refine MI.start (by decide +kernel) (Nat.le_of_ble_eq_true rfl) (fun K hl C hret => ?_)
  subst hl
  have C : Ctx G K cX5_stuck RX5 4 4 97 := C
  change V G K (wX G s0) 0 [(0, .ref (aX G 0)), (1, .int a1), (2, .int a2)] []
  refine (?_ : tp (f5_stuck a1 a2 s0) (fun q => q = (r, s1)) → _) ⟨_, hf, rfl⟩
  rw [f5_stuck]
  refine v_aload_n (pc := 0) C 0 rfl dX5_stuck_0 ?_
  refine v_iload_n (pc := 1) C 1 rfl dX5_stuck_1 ?_
  refine cIv1r (pc := 2) C (fun r9 h9 => m5_isBody G K.2.1 a1 s0 r9 h9) q_yX5_isBody mw_384 rc_5 ⟨by decide, by decide⟩ (Nat.le_of_ble_eq_true rfl) dX5_stuck_2 (fun x1 => ?_)
  refine v_if_eq (pc := 5) C 16 dX5_stuck_5 (by decide) ?_ ?_
  · refine v_iconst (pc := 16) C (-1) dX5_stuck_16 (by decide) ?_
    exact tp_out (fun h => hret _ _ _ _ ⟨(Prod.mk.inj h).1, congrArg (wX G) (Prod.mk.inj h).2⟩ dX5_stuck_17)
  · refine v_aload_n (pc := 8) C 0 rfl dX5_stuck_8 ?_
    refine v_iload_n (pc := 9) C 2 rfl dX5_stuck_9 ?_
    refine cIv1r (pc := 10) C (fun r9 h9 => m5_isBranch G K.2.1 a2 s0 r9 h9) q_yX5_isBranch mw_352 rc_5 ⟨by decide, by decide⟩ (Nat.le_of_ble_eq_true rfl) dX5_stuck_10 (fun x2 => ?_)
    refine v_if_ne (pc := 13) C 18 dX5_stuck_13 (by decide) ?_ ?_
    · refine v_iconst (pc := 16) C (-1) dX5_stuck_16 (by decide) ?_
      exact tp_out (fun h => hret _ _ _ _ ⟨(Prod.mk.inj h).1, congrArg (wX G) (Prod.mk.inj h).2⟩ dX5_stuck_17)
    · refine v_iconst (pc := 18) C 0 dX5_stuck_18 (by decide) ?_
      refine v_istore_n (pc := 19) C dX5_stuck_19 (by decide) (lv' := [(3, .int 0), (0, .ref (aX G 0)), (1, .int a1), (2, .int a2)]) rfl ?_
      refine r_bs1 ?_
      refine v_to [1, 2, 3, 0] (l5_stuck_20 C a1 a2 (fun q7 => ?_) ?hr FU _ _) rfl
      case hr => exact (fun r9 s9 h pc lv d => by obtain ⟨a9, e9, h⟩ := h; cases e9; exact hret _ _ _ _ ⟨(Prod.mk.inj h).1, congrArg (wX G) (Prod.mk.inj h).2⟩ d)
      refine v_bipush (pc := 53) C (-9) dX5_stuck_53 (by decide) ?_
      exact tp_out (fun h => hret _ _ _ _ ⟨(Prod.mk.inj h).1, congrArg (wX G) (Prod.mk.inj h).2⟩ dX5_stuck_55)
def f5_rubbed (a1 : Int32) (a2 : Int32) (a3 : Int32) (s0 : SS) : Option (Int64 × SS) := bd (f5_isBody a1 s0) (fun x1 => if x1 = 0 then some ((-1), s0) else bd (f5_isBranch a2 s0) (fun x2 => if x2 = 0 then some ((-1), s0) else bd (f5_tuned 5 s0) (fun x3 => bd (f5_look a1 0 x3 s0) (fun q4 => bd (f4_all (q4.2.2 0) q4) (fun x5 => bk2 (f3_ascents (q4.2.2 0) a2 (a3 &&& x5) q4) (fun x6 q7 => some (x6, q7)))))))
set_option maxHeartbeats 4000000 in
set_option maxRecDepth 100000 in
theorem m5_rubbed (G : GT) (l : Launch) (a1 : Int32) (a2 : Int32) (a3 : Int32)  (s0 : SS) (r : Int64) (s1 : SS) (hf : f5_rubbed a1 a2 a3 s0 = some (r, s1)) : ML G l yX5_rubbed cX5_rubbed 4 (some .long) 4 101 [.ref (aX G 0), .int a1, .int a2, .int a3] (wX G s0) r (wX G s1) := by
  refine ML.start (by decide +kernel) (Nat.le_of_ble_eq_true rfl) (fun K hl C hret => ?_)
  subst hl
  have C : Ctx G K cX5_rubbed RX5 4 4 101 := C
  change V G K (wX G s0) 0 [(0, .ref (aX G 0)), (1, .int a1), (2, .int a2), (3, .int a3)] []
  refine (?_ : tp (f5_rubbed a1 a2 a3 s0) (fun q => q = (r, s1)) → _) ⟨_, hf, rfl⟩
  rw [f5_rubbed]
  refine v_aload_n (pc := 0) C 0 rfl dX5_rubbed_0 ?_
  refine v_iload_n (pc := 1) C 1 rfl dX5_rubbed_1 ?_
  refine cIv1r (pc := 2) C (fun r9 h9 => m5_isBody G K.2.1 a1 s0 r9 h9) q_yX5_isBody mw_384 rc_5 ⟨by decide, by decide⟩ (Nat.le_of_ble_eq_true rfl) dX5_rubbed_2 (fun x1 => ?_)
  refine v_if_eq (pc := 5) C 16 dX5_rubbed_5 (by decide) ?_ ?_
  · refine v_ldc2 (pc := 16) C mw_505 dX5_rubbed_16 ?_
    exact tp_out (fun h => hret _ _ _ _ ⟨(Prod.mk.inj h).1, congrArg (wX G) (Prod.mk.inj h).2⟩ dX5_rubbed_19)
  · refine v_aload_n (pc := 8) C 0 rfl dX5_rubbed_8 ?_
    refine v_iload_n (pc := 9) C 2 rfl dX5_rubbed_9 ?_
    refine cIv1r (pc := 10) C (fun r9 h9 => m5_isBranch G K.2.1 a2 s0 r9 h9) q_yX5_isBranch mw_352 rc_5 ⟨by decide, by decide⟩ (Nat.le_of_ble_eq_true rfl) dX5_rubbed_10 (fun x2 => ?_)
    refine v_if_ne (pc := 13) C 20 dX5_rubbed_13 (by decide) ?_ ?_
    · refine v_ldc2 (pc := 16) C mw_505 dX5_rubbed_16 ?_
      exact tp_out (fun h => hret _ _ _ _ ⟨(Prod.mk.inj h).1, congrArg (wX G) (Prod.mk.inj h).2⟩ dX5_rubbed_19)
    · refine v_aload_n (pc := 20) C 0 rfl dX5_rubbed_20 ?_
      refine v_iload_n (pc := 21) C 1 rfl dX5_rubbed_21 ?_
      refine v_iconst (pc := 22) C 0 dX5_rubbed_22 (by decide) ?_
      refine v_aload_n (pc := 23) C 0 rfl dX5_rubbed_23 ?_
      refine v_iconst (pc := 24) C 5 dX5_rubbed_24 (by decide) ?_
      refine cIv1r (pc := 25) C (fun r9 h9 => m5_tuned G K.2.1 5 s0 r9 h9) q_yX5_tuned mw_437 rc_5 ⟨by decide, by decide⟩ (Nat.le_of_ble_eq_true rfl) dX5_rubbed_25 (fun x3 => ?_)
      refine cVv3w (pc := 28) C (W2 := wX G) (fun s9 h9 => m5_look G K.2.1 a1 0 x3 s0 s9 h9) q_yX5_look mw_508 rc_5 ⟨by decide, by decide⟩ (Nat.le_of_ble_eq_true rfl) dX5_rubbed_28 (fun q4 => ?_)
      refine v_aload_n (pc := 31) C 0 rfl dX5_rubbed_31 ?_
      refine g5_ways (pc := 32) C mw_28 dX5_rubbed_32 ?_
      refine v_aload_n (pc := 35) C 0 rfl dX5_rubbed_35 ?_
      refine g5_wood (pc := 36) C mw_41 dX5_rubbed_36 ?_
      refine v_iload_n (pc := 39) C 2 rfl dX5_rubbed_39 ?_
      refine v_iload_n (pc := 40) C 3 rfl dX5_rubbed_40 ?_
      refine v_aload_n (pc := 41) C 0 rfl dX5_rubbed_41 ?_
      refine g5_wood (pc := 42) C mw_41 dX5_rubbed_42 ?_
      refine cIv0r (pc := 45) C (fun r9 h9 => m4_all G K.2.1 (q4.2.2 0) q4 r9 h9) q_yX4_all mw_421 (rc_4 (q4.2.2 0)) ⟨by decide, by decide⟩ (Nat.le_of_ble_eq_true rfl) dX5_rubbed_45 (fun x5 => ?_)
      refine v_iand (pc := 48) C dX5_rubbed_48 ?_
      refine cLv3w (pc := 49) C (W2 := wX G) (fun r9 s9 h9 => m3_ascents G K.2.1 (q4.2.2 0) a2 (a3 &&& x5) q4 r9 s9 h9) q_yX3_ascents mw_655 rc_3 ⟨by decide, by decide⟩ (Nat.le_of_ble_eq_true rfl) dX5_rubbed_49 (fun x6 q7 => ?_)
      exact tp_out (fun h => hret _ _ _ _ ⟨(Prod.mk.inj h).1, congrArg (wX G) (Prod.mk.inj h).2⟩ dX5_rubbed_52)
def L5_power_5 (c0 : Int32) (c1 : Int32) : Nat → Int64 → Int32 → Option (Int64)
  | 0, _, _ => none
  | n + 1, v2, v4 => if v4 < c1 then lt ((v2 * (Int32.toInt64 c0))) (fun x1 => lt (v4 + 1) (fun x2 => L5_power_5 c0 c1 n x1 x2)) else some v2
def f5_power (a0 : Int32) (a1 : Int32) : Option Int64 := bk1 (L5_power_5 a0 a1 FU 1 0) (fun x3 => some x3)
set_option maxHeartbeats 4000000 in
set_option maxRecDepth 100000 in
theorem l5_power_5 {G : GT} {K : KT} {w : va_W} (C : Ctx G K cX5_power RX5 5 0 0) (c0 : Int32) (c1 : Int32) {Ψ : Int64 → Prop} (hx : ∀ (o1 : Int64), Ψ o1 → V G K w 22 [(2, .long o1)] []) : ∀ (n : Nat) (v2 : Int64) (v4 : Int32), tp (L5_power_5 c0 c1 n v2 v4) (k1 Ψ) → V G K w 5 [(0, .int c0), (1, .int c1), (2, .long v2), (4, .int v4)] [] := by
  intro n
  induction n with
  | zero => intro v2 v4 h; exact tp_no h
  | succ n ih =>
    intro v2 v4
    rw [L5_power_5]
    refine v_iload (pc := 5) C 3 rfl dX5_power_5 ?_
    refine v_iload_n (pc := 7) C 1 rfl dX5_power_7 ?_
    refine v_icmp_ge (pc := 8) C 22 dX5_power_8 (by decide) ?_ ?_
    · refine v_lload_n (pc := 11) C 2 rfl dX5_power_11 ?_
      refine v_iload_n (pc := 12) C 0 rfl dX5_power_12 ?_
      refine v_i2l (pc := 13) C dX5_power_13 ?_
      refine v_lmul (pc := 14) C dX5_power_14 ?_
      refine r_ltl (fun x1 => ?_)
      refine v_lstore_n (pc := 15) C dX5_power_15 (by decide) (lv' := [(2, .long x1), (0, .int c0), (1, .int c1), (4, .int v4)]) rfl ?_
      refine v_iincL (pc := 16) C 1 3 dX5_power_16 rfl (by decide) (by decide) (lv0 := [(2, .long x1), (0, .int c0), (1, .int c1)]) rfl (fun x2 => ?_)
      refine v_goto (pc := 19) C 5 dX5_power_19 (by decide) ?_
      exact v_to [2, 3, 1, 0] (ih _ _) rfl
    · exact tp_out (fun h => v_to [2] (hx _) rfl h)
set_option maxHeartbeats 4000000 in
set_option maxRecDepth 100000 in
theorem m5_power (G : GT) (l : Launch) (a0 : Int32) (a1 : Int32)  (w : va_W) (r : Int64) (hf : f5_power a0 a1 = some r) : ML G l yX5_power cX5_power 5 (some .long) 0 0 [.int a0, .int a1] w r w := by
  refine ML.start (by decide +kernel) (Nat.le_of_ble_eq_true rfl) (fun K hl C hret => ?_)
  subst hl
  have C : Ctx G K cX5_power RX5 5 0 0 := C
  change V G K w 0 [(0, .int a0), (1, .int a1)] []
  refine (?_ : tp (f5_power a0 a1) (fun q => q = r) → _) ⟨_, hf, rfl⟩
  rw [f5_power]
  refine v_lconst (pc := 0) C 1 dX5_power_0 (by decide) ?_
  refine v_lstore_n (pc := 1) C dX5_power_1 (by decide) (lv' := [(2, .long 1), (0, .int a0), (1, .int a1)]) rfl ?_
  refine v_iconst (pc := 2) C 0 dX5_power_2 (by decide) ?_
  refine v_istore (pc := 3) C dX5_power_3 (by decide) (lv' := [(4, .int 0), (2, .long 1), (0, .int a0), (1, .int a1)]) rfl ?_
  refine r_bk1 ?_
  refine v_to [2, 3, 1, 0] (l5_power_5 C a0 a1 (fun x3 => ?_) FU _ _) rfl
  refine v_lload_n (pc := 22) C 0 rfl dX5_power_22 ?_
  exact tp_out (fun h => hret _ _ _ _ ⟨h, rfl⟩ dX5_power_23)
def f5_soundShare (a1 : Int32) (a2 : Int32) (s0 : SS) : Option Int64 := bd (f4_feature (s0.2.2 0) a1 3 s0) (fun x1 => bd (f5_power 10 a2) (fun x2 => some ((Int32.toInt64 x1) * x2)))
set_option maxHeartbeats 4000000 in
set_option maxRecDepth 100000 in
theorem m5_soundShare (G : GT) (l : Launch) (a1 : Int32) (a2 : Int32)  (s0 : SS) (r : Int64) (hf : f5_soundShare a1 a2 s0 = some r) : ML G l yX5_soundShare cX5_soundShare 3 (some .long) 1 24 [.ref (aX G 0), .int a1, .int a2] (wX G s0) r (wX G s0) := by
  refine ML.start (by decide +kernel) (Nat.le_of_ble_eq_true rfl) (fun K hl C hret => ?_)
  subst hl
  have C : Ctx G K cX5_soundShare RX5 3 1 24 := C
  change V G K (wX G s0) 0 [(0, .ref (aX G 0)), (1, .int a1), (2, .int a2)] []
  refine (?_ : tp (f5_soundShare a1 a2 s0) (fun q => q = r) → _) ⟨_, hf, rfl⟩
  rw [f5_soundShare]
  refine v_aload_n (pc := 0) C 0 rfl dX5_soundShare_0 ?_
  refine g5_wood (pc := 1) C mw_41 dX5_soundShare_1 ?_
  refine v_iload_n (pc := 4) C 1 rfl dX5_soundShare_4 ?_
  refine v_iconst (pc := 5) C 3 dX5_soundShare_5 (by decide) ?_
  refine cIv2r (pc := 6) C (fun r9 h9 => m4_feature G K.2.1 (s0.2.2 0) a1 3 s0 r9 h9) q_yX4_feature mw_363 (rc_4 (s0.2.2 0)) ⟨by decide, by decide⟩ (Nat.le_of_ble_eq_true rfl) dX5_soundShare_6 (fun x1 => ?_)
  refine v_i2l (pc := 9) C dX5_soundShare_9 ?_
  refine v_bipush (pc := 10) C 10 dX5_soundShare_10 (by decide) ?_
  refine v_iload_n (pc := 12) C 2 rfl dX5_soundShare_12 ?_
  refine cLs2r (pc := 13) C (fun r9 h9 => m5_power G K.2.1 10 a2 _ r9 h9) q_yX5_power mw_689 ⟨by decide, by decide⟩ (Nat.le_of_ble_eq_true rfl) dX5_soundShare_13 (fun x2 => ?_)
  refine v_lmul (pc := 16) C dX5_soundShare_16 ?_
  exact tp_out (fun h => hret _ _ _ _ ⟨h, rfl⟩ dX5_soundShare_17)
def f5_unsoundShare (a1 : Int32) (a2 : Int32) (a3 : Int32) (s0 : SS) : Option Int64 := bd (f4_feature (s0.2.2 0) a1 3 s0) (fun x1 => bd (f5_power (10 - a2) a3) (fun x2 => some ((Int32.toInt64 (10 - x1)) * x2)))
set_option maxHeartbeats 4000000 in
set_option maxRecDepth 100000 in
theorem m5_unsoundShare (G : GT) (l : Launch) (a1 : Int32) (a2 : Int32) (a3 : Int32)  (s0 : SS) (r : Int64) (hf : f5_unsoundShare a1 a2 a3 s0 = some r) : ML G l yX5_unsoundShare cX5_unsoundShare 4 (some .long) 1 24 [.ref (aX G 0), .int a1, .int a2, .int a3] (wX G s0) r (wX G s0) := by
  refine ML.start (by decide +kernel) (Nat.le_of_ble_eq_true rfl) (fun K hl C hret => ?_)
  subst hl
  have C : Ctx G K cX5_unsoundShare RX5 4 1 24 := C
  change V G K (wX G s0) 0 [(0, .ref (aX G 0)), (1, .int a1), (2, .int a2), (3, .int a3)] []
  refine (?_ : tp (f5_unsoundShare a1 a2 a3 s0) (fun q => q = r) → _) ⟨_, hf, rfl⟩
  rw [f5_unsoundShare]
  refine v_bipush (pc := 0) C 10 dX5_unsoundShare_0 (by decide) ?_
  refine v_aload_n (pc := 2) C 0 rfl dX5_unsoundShare_2 ?_
  refine g5_wood (pc := 3) C mw_41 dX5_unsoundShare_3 ?_
  refine v_iload_n (pc := 6) C 1 rfl dX5_unsoundShare_6 ?_
  refine v_iconst (pc := 7) C 3 dX5_unsoundShare_7 (by decide) ?_
  refine cIv2r (pc := 8) C (fun r9 h9 => m4_feature G K.2.1 (s0.2.2 0) a1 3 s0 r9 h9) q_yX4_feature mw_363 (rc_4 (s0.2.2 0)) ⟨by decide, by decide⟩ (Nat.le_of_ble_eq_true rfl) dX5_unsoundShare_8 (fun x1 => ?_)
  refine v_isub (pc := 11) C dX5_unsoundShare_11 ?_
  refine v_i2l (pc := 12) C dX5_unsoundShare_12 ?_
  refine v_bipush (pc := 13) C 10 dX5_unsoundShare_13 (by decide) ?_
  refine v_iload_n (pc := 15) C 2 rfl dX5_unsoundShare_15 ?_
  refine v_isub (pc := 16) C dX5_unsoundShare_16 ?_
  refine v_iload_n (pc := 17) C 3 rfl dX5_unsoundShare_17 ?_
  refine cLs2r (pc := 18) C (fun r9 h9 => m5_power G K.2.1 (10 - a2) a3 _ r9 h9) q_yX5_power mw_689 ⟨by decide, by decide⟩ (Nat.le_of_ble_eq_true rfl) dX5_unsoundShare_18 (fun x2 => ?_)
  refine v_lmul (pc := 21) C dX5_unsoundShare_21 ?_
  exact tp_out (fun h => hret _ _ _ _ ⟨h, rfl⟩ dX5_unsoundShare_22)
def f5_tried (a1 : Int32) (a2 : Int32) (a3 : Int32) (a4 : Int32) (s0 : SS) : Option Int64 := bd (f5_isBranch a1 s0) (fun x1 => if x1 = 0 then some (-1) else if a2 < 0 then some (-1) else if a2 ≤ 10 then if a3 < 0 then some (-1) else if a3 ≤ 9 then if a4 < 0 then some (-1) else if a4 ≤ 1 then bd (f5_soundShare a1 a3 s0) (fun x2 => bd (f5_unsoundShare a1 a2 a3 s0) (fun x3 => lt (if (x2 + x3) < 1 then 1 else (x2 + x3)) (fun x4 => bd (f5_leastTerms x2 x4 a4) (fun x5 => some x5)))) else some (-1) else some (-1) else some (-1))
set_option maxHeartbeats 4000000 in
set_option maxRecDepth 100000 in
theorem m5_tried (G : GT) (l : Launch) (a1 : Int32) (a2 : Int32) (a3 : Int32) (a4 : Int32)  (s0 : SS) (r : Int64) (hf : f5_tried a1 a2 a3 a4 s0 = some r) : ML G l yX5_tried cX5_tried 7 (some .long) 2 52 [.ref (aX G 0), .int a1, .int a2, .int a3, .int a4] (wX G s0) r (wX G s0) := by
  refine ML.start (by decide +kernel) (Nat.le_of_ble_eq_true rfl) (fun K hl C hret => ?_)
  subst hl
  have C : Ctx G K cX5_tried RX5 7 2 52 := C
  change V G K (wX G s0) 0 [(0, .ref (aX G 0)), (1, .int a1), (2, .int a2), (3, .int a3), (4, .int a4)] []
  refine (?_ : tp (f5_tried a1 a2 a3 a4 s0) (fun q => q = r) → _) ⟨_, hf, rfl⟩
  rw [f5_tried]
  refine v_aload_n (pc := 0) C 0 rfl dX5_tried_0 ?_
  refine v_iload_n (pc := 1) C 1 rfl dX5_tried_1 ?_
  refine cIv1r (pc := 2) C (fun r9 h9 => m5_isBranch G K.2.1 a1 s0 r9 h9) q_yX5_isBranch mw_352 rc_5 ⟨by decide, by decide⟩ (Nat.le_of_ble_eq_true rfl) dX5_tried_2 (fun x1 => ?_)
  refine v_if_eq (pc := 5) C 39 dX5_tried_5 (by decide) ?_ ?_
  · refine v_ldc2 (pc := 39) C mw_505 dX5_tried_39 ?_
    exact tp_out (fun h => hret _ _ _ _ ⟨h, rfl⟩ dX5_tried_42)
  · refine v_iload_n (pc := 8) C 2 rfl dX5_tried_8 ?_
    refine v_if_lt (pc := 9) C 39 dX5_tried_9 (by decide) ?_ ?_
    · refine v_ldc2 (pc := 39) C mw_505 dX5_tried_39 ?_
      exact tp_out (fun h => hret _ _ _ _ ⟨h, rfl⟩ dX5_tried_42)
    · refine v_iload_n (pc := 12) C 2 rfl dX5_tried_12 ?_
      refine v_bipush (pc := 13) C 10 dX5_tried_13 (by decide) ?_
      refine v_icmp_gt (pc := 15) C 39 dX5_tried_15 (by decide) ?_ ?_
      · refine v_iload_n (pc := 18) C 3 rfl dX5_tried_18 ?_
        refine v_if_lt (pc := 19) C 39 dX5_tried_19 (by decide) ?_ ?_
        · refine v_ldc2 (pc := 39) C mw_505 dX5_tried_39 ?_
          exact tp_out (fun h => hret _ _ _ _ ⟨h, rfl⟩ dX5_tried_42)
        · refine v_iload_n (pc := 22) C 3 rfl dX5_tried_22 ?_
          refine v_bipush (pc := 23) C 9 dX5_tried_23 (by decide) ?_
          refine v_icmp_gt (pc := 25) C 39 dX5_tried_25 (by decide) ?_ ?_
          · refine v_iload (pc := 28) C 4 rfl dX5_tried_28 ?_
            refine v_if_lt (pc := 30) C 39 dX5_tried_30 (by decide) ?_ ?_
            · refine v_ldc2 (pc := 39) C mw_505 dX5_tried_39 ?_
              exact tp_out (fun h => hret _ _ _ _ ⟨h, rfl⟩ dX5_tried_42)
            · refine v_iload (pc := 33) C 4 rfl dX5_tried_33 ?_
              refine v_iconst (pc := 35) C 1 dX5_tried_35 (by decide) ?_
              refine v_icmp_le (pc := 36) C 43 dX5_tried_36 (by decide) ?_ ?_
              · refine v_aload_n (pc := 43) C 0 rfl dX5_tried_43 ?_
                refine v_iload_n (pc := 44) C 1 rfl dX5_tried_44 ?_
                refine v_iload_n (pc := 45) C 3 rfl dX5_tried_45 ?_
                refine cLv2r (pc := 46) C (fun r9 h9 => m5_soundShare G K.2.1 a1 a3 s0 r9 h9) q_yX5_soundShare mw_685 rc_5 ⟨by decide, by decide⟩ (Nat.le_of_ble_eq_true rfl) dX5_tried_46 (fun x2 => ?_)
                refine v_lstore (pc := 49) C dX5_tried_49 (by decide) (lv' := [(5, .long x2), (0, .ref (aX G 0)), (1, .int a1), (2, .int a2), (3, .int a3), (4, .int a4)]) rfl ?_
                refine v_lload (pc := 51) C 0 rfl dX5_tried_51 ?_
                refine v_lconst (pc := 53) C 1 dX5_tried_53 (by decide) ?_
                refine v_lload (pc := 54) C 0 rfl dX5_tried_54 ?_
                refine v_aload_n (pc := 56) C 1 rfl dX5_tried_56 ?_
                refine v_iload_n (pc := 57) C 2 rfl dX5_tried_57 ?_
                refine v_iload_n (pc := 58) C 3 rfl dX5_tried_58 ?_
                refine v_iload_n (pc := 59) C 4 rfl dX5_tried_59 ?_
                refine cLv3r (pc := 60) C (fun r9 h9 => m5_unsoundShare G K.2.1 a1 a2 a3 s0 r9 h9) q_yX5_unsoundShare mw_692 rc_5 ⟨by decide, by decide⟩ (Nat.le_of_ble_eq_true rfl) dX5_tried_60 (fun x3 => ?_)
                refine v_ladd (pc := 63) C dX5_tried_63 ?_
                refine v_mmaxl (pc := 64) C mw_684 mw_537 mw_190 mw_538 (by decide) (Nat.le_of_ble_eq_true rfl) dX5_tried_64 ?_
                refine r_ltl (fun x4 => ?_)
                refine v_iload (pc := 67) C 5 rfl dX5_tried_67 ?_
                refine cLs3r (pc := 69) C (fun r9 h9 => m5_leastTerms G K.2.1 x2 x4 a4 _ r9 h9) q_yX5_leastTerms mw_548 ⟨by decide, by decide⟩ (Nat.le_of_ble_eq_true rfl) dX5_tried_69 (fun x5 => ?_)
                exact tp_out (fun h => hret _ _ _ _ ⟨h, rfl⟩ dX5_tried_72)
              · refine v_ldc2 (pc := 39) C mw_505 dX5_tried_39 ?_
                exact tp_out (fun h => hret _ _ _ _ ⟨h, rfl⟩ dX5_tried_42)
          · refine v_ldc2 (pc := 39) C mw_505 dX5_tried_39 ?_
            exact tp_out (fun h => hret _ _ _ _ ⟨h, rfl⟩ dX5_tried_42)
      · refine v_ldc2 (pc := 39) C mw_505 dX5_tried_39 ?_
        exact tp_out (fun h => hret _ _ _ _ ⟨h, rfl⟩ dX5_tried_42)
def L5_tries_33 (c1 : Int32) (c2 : Int32) (c3 : Int32) (s0 : SS) : Nat → Int32 → Option ((Unit) ⊕ Int32)
  | 0, _ => none
  | n + 1, v4 => if v4 ≤ 9 then bd (f5_soundShare c1 v4 s0) (fun x2 => bd (f5_unsoundShare c1 c2 v4 s0) (fun x3 => lt (if (x2 + x3) < 1 then 1 else (x2 + x3)) (fun x4 => if (x2 * 100) < ((Int32.toInt64 c3) * x4) then lt (v4 + 1) (fun x5 => L5_tries_33 c1 c2 c3 s0 n x5) else some (.inr v4)))) else some (.inl ())
def f5_tries (a1 : Int32) (a2 : Int32) (a3 : Int32) (s0 : SS) : Option Int32 := bd (f5_isBranch a1 s0) (fun x1 => if x1 = 0 then some (-1) else if a2 < 0 then some (-1) else if a2 ≤ 10 then if a3 < 0 then some (-1) else if a3 ≤ 100 then bs1 (L5_tries_33 a1 a2 a3 s0 FU 0) (fun _u => some (-9)) (fun r => some r) else some (-1) else some (-1))
set_option maxHeartbeats 4000000 in
set_option maxRecDepth 100000 in
theorem l5_tries_33 {G : GT} {K : KT} (C : Ctx G K cX5_tries RX5 7 2 47) (c1 : Int32) (c2 : Int32) (c3 : Int32) (s0 : SS) {Ψ : Unit → Prop} (hx : ∀ (u0 : Unit), Ψ u0 → V G K (wX G s0) 86 [] []) {Φr : Int32 → Prop} (hr : ∀ (r : Int32), Φr r → ∀ (pc : Nat) (lv : List (Nat × Value)), decode cX5_tries pc = .ok (.ireturn, 1) → V G K (wX G s0) pc lv [.int r]) : ∀ (n : Nat) (v4 : Int32), tp (L5_tries_33 c1 c2 c3 s0 n v4) (uS (k1 Ψ) Φr) → V G K (wX G s0) 33 [(0, .ref (aX G 0)), (1, .int c1), (2, .int c2), (3, .int c3), (4, .int v4)] [] := by
  intro n
  induction n with
  | zero => intro v4 h; exact tp_no h
  | succ n ih =>
    intro v4
    rw [L5_tries_33]
    refine v_iload (pc := 33) C 4 rfl dX5_tries_33 ?_
    refine v_bipush (pc := 35) C 9 dX5_tries_35 (by decide) ?_
    refine v_icmp_gt (pc := 37) C 86 dX5_tries_37 (by decide) ?_ ?_
    · refine v_aload_n (pc := 40) C 0 rfl dX5_tries_40 ?_
      refine v_iload_n (pc := 41) C 1 rfl dX5_tries_41 ?_
      refine v_iload (pc := 42) C 4 rfl dX5_tries_42 ?_
      refine cLv2r (pc := 44) C (fun r9 h9 => m5_soundShare G K.2.1 c1 v4 s0 r9 h9) q_yX5_soundShare mw_685 rc_5 ⟨by decide, by decide⟩ (Nat.le_of_ble_eq_true rfl) dX5_tries_44 (fun x2 => ?_)
      refine v_lstore (pc := 47) C dX5_tries_47 (by decide) (lv' := [(5, .long x2), (0, .ref (aX G 0)), (1, .int c1), (2, .int c2), (3, .int c3), (4, .int v4)]) rfl ?_
      refine v_lload (pc := 49) C 0 rfl dX5_tries_49 ?_
      refine v_ldc2 (pc := 51) C mw_630 dX5_tries_51 ?_
      refine v_lmul (pc := 54) C dX5_tries_54 ?_
      refine v_iload_n (pc := 55) C 4 rfl dX5_tries_55 ?_
      refine v_i2l (pc := 56) C dX5_tries_56 ?_
      refine v_lconst (pc := 57) C 1 dX5_tries_57 (by decide) ?_
      refine v_lload (pc := 58) C 0 rfl dX5_tries_58 ?_
      refine v_aload_n (pc := 60) C 1 rfl dX5_tries_60 ?_
      refine v_iload_n (pc := 61) C 2 rfl dX5_tries_61 ?_
      refine v_iload_n (pc := 62) C 3 rfl dX5_tries_62 ?_
      refine v_iload (pc := 63) C 5 rfl dX5_tries_63 ?_
      refine cLv3r (pc := 65) C (fun r9 h9 => m5_unsoundShare G K.2.1 c1 c2 v4 s0 r9 h9) q_yX5_unsoundShare mw_692 rc_5 ⟨by decide, by decide⟩ (Nat.le_of_ble_eq_true rfl) dX5_tries_65 (fun x3 => ?_)
      refine v_ladd (pc := 68) C dX5_tries_68 ?_
      refine v_mmaxl (pc := 69) C mw_684 mw_537 mw_190 mw_538 (by decide) (Nat.le_of_ble_eq_true rfl) dX5_tries_69 ?_
      refine r_ltl (fun x4 => ?_)
      refine v_lmul (pc := 72) C dX5_tries_72 ?_
      refine v_lcmp_lt (pc := 73) C 80 dX5_tries_73 dX5_tries_74 (by decide) ?_ ?_
      · refine v_iincL (pc := 80) C 1 5 dX5_tries_80 rfl (by decide) (by decide) (lv0 := [(5, .long x2), (0, .ref (aX G 0)), (1, .int c1), (2, .int c2), (3, .int c3)]) rfl (fun x5 => ?_)
        refine v_goto (pc := 83) C 33 dX5_tries_83 (by decide) ?_
        exact v_to [2, 3, 4, 5, 0] (ih _) rfl
      · refine v_iload (pc := 77) C 5 rfl dX5_tries_77 ?_
        exact tp_out (fun h => hr _ h _ _ dX5_tries_79)
    · exact tp_out (fun h => v_to [] (hx _) rfl h)
set_option maxHeartbeats 4000000 in
set_option maxRecDepth 100000 in
theorem m5_tries (G : GT) (l : Launch) (a1 : Int32) (a2 : Int32) (a3 : Int32)  (s0 : SS) (r : Int32) (hf : f5_tries a1 a2 a3 s0 = some r) : MI G l yX5_tries cX5_tries 7 (some .int) 2 47 [.ref (aX G 0), .int a1, .int a2, .int a3] (wX G s0) r (wX G s0) := by
  refine MI.start (by decide +kernel) (Nat.le_of_ble_eq_true rfl) (fun K hl C hret => ?_)
  subst hl
  have C : Ctx G K cX5_tries RX5 7 2 47 := C
  change V G K (wX G s0) 0 [(0, .ref (aX G 0)), (1, .int a1), (2, .int a2), (3, .int a3)] []
  refine (?_ : tp (f5_tries a1 a2 a3 s0) (fun q => q = r) → _) ⟨_, hf, rfl⟩
  rw [f5_tries]
  refine v_aload_n (pc := 0) C 0 rfl dX5_tries_0 ?_
  refine v_iload_n (pc := 1) C 1 rfl dX5_tries_1 ?_
  refine cIv1r (pc := 2) C (fun r9 h9 => m5_isBranch G K.2.1 a1 s0 r9 h9) q_yX5_isBranch mw_352 rc_5 ⟨by decide, by decide⟩ (Nat.le_of_ble_eq_true rfl) dX5_tries_2 (fun x1 => ?_)
  refine v_if_eq (pc := 5) C 28 dX5_tries_5 (by decide) ?_ ?_
  · refine v_iconst (pc := 28) C (-1) dX5_tries_28 (by decide) ?_
    exact tp_out (fun h => hret _ _ _ _ ⟨h, rfl⟩ dX5_tries_29)
  · refine v_iload_n (pc := 8) C 2 rfl dX5_tries_8 ?_
    refine v_if_lt (pc := 9) C 28 dX5_tries_9 (by decide) ?_ ?_
    · refine v_iconst (pc := 28) C (-1) dX5_tries_28 (by decide) ?_
      exact tp_out (fun h => hret _ _ _ _ ⟨h, rfl⟩ dX5_tries_29)
    · refine v_iload_n (pc := 12) C 2 rfl dX5_tries_12 ?_
      refine v_bipush (pc := 13) C 10 dX5_tries_13 (by decide) ?_
      refine v_icmp_gt (pc := 15) C 28 dX5_tries_15 (by decide) ?_ ?_
      · refine v_iload_n (pc := 18) C 3 rfl dX5_tries_18 ?_
        refine v_if_lt (pc := 19) C 28 dX5_tries_19 (by decide) ?_ ?_
        · refine v_iconst (pc := 28) C (-1) dX5_tries_28 (by decide) ?_
          exact tp_out (fun h => hret _ _ _ _ ⟨h, rfl⟩ dX5_tries_29)
        · refine v_iload_n (pc := 22) C 3 rfl dX5_tries_22 ?_
          refine v_bipush (pc := 23) C 100 dX5_tries_23 (by decide) ?_
          refine v_icmp_le (pc := 25) C 30 dX5_tries_25 (by decide) ?_ ?_
          · refine v_iconst (pc := 30) C 0 dX5_tries_30 (by decide) ?_
            refine v_istore (pc := 31) C dX5_tries_31 (by decide) (lv' := [(4, .int 0), (0, .ref (aX G 0)), (1, .int a1), (2, .int a2), (3, .int a3)]) rfl ?_
            refine r_bs1 ?_
            refine v_to [1, 2, 3, 4, 0] (l5_tries_33 C a1 a2 a3 s0 (fun _u => ?_) ?hr FU _) rfl
            case hr => exact (fun r9 h pc lv d => by obtain ⟨a9, e9, h⟩ := h; cases e9; exact hret _ _ _ _ ⟨h, rfl⟩ d)
            refine v_bipush (pc := 86) C (-9) dX5_tries_86 (by decide) ?_
            exact tp_out (fun h => hret _ _ _ _ ⟨h, rfl⟩ dX5_tries_88)
          · refine v_iconst (pc := 28) C (-1) dX5_tries_28 (by decide) ?_
            exact tp_out (fun h => hret _ _ _ _ ⟨h, rfl⟩ dX5_tries_29)
      · refine v_iconst (pc := 28) C (-1) dX5_tries_28 (by decide) ?_
        exact tp_out (fun h => hret _ _ _ _ ⟨h, rfl⟩ dX5_tries_29)
def L5_swing_39 (c1 : Int32) (c4 : Int32) (c5 : Int32) (s0 : SS) : Nat → Int32 → Int32 → Int32 → Int32 → Option (Int32)
  | 0, _, _, _, _ => none
  | n + 1, v6, v7, v8, v9 => if v9 < 24 then lt ((v7 + ((c4 - ((v6 * c5) / 10)) - (v7 / 4)))) (fun x4 => lt ((v6 + x4)) (fun x5 => lt (if 0 ≤ x5 then x5 else 0 - x5) (fun x6 => lt (if v8 < x6 then x6 else v8) (fun x7 => lt (v9 + 1) (fun x8 => L5_swing_39 c1 c4 c5 s0 n x5 x4 x7 x8))))) else some v8
def f5_swing (a1 : Int32) (a2 : Int32) (a3 : Int32) (s0 : SS) : Option Int32 := bd (f4_feature (s0.2.2 0) a2 0 s0) (fun x1 => lt (((a3 * x1) / 10)) (fun x2 => bd (f4_feature (s0.2.2 0) a2 2 s0) (fun x3 => bk1 (L5_swing_39 a1 x2 x3 s0 FU 0 0 0 0) (fun x9 => bd (f4_power (s0.2.2 0) a1 1 s0) (fun x10 => some ((x9 * x10) / 50))))))
set_option maxHeartbeats 4000000 in
set_option maxRecDepth 100000 in
theorem l5_swing_39 {G : GT} {K : KT} (C : Ctx G K cX5_swing RX5 10 1 23) (c1 : Int32) (c4 : Int32) (c5 : Int32) (s0 : SS) {Ψ : Int32 → Prop} (hx : ∀ (o1 : Int32), Ψ o1 → V G K (wX G s0) 92 [(0, .ref (aX G 0)), (1, .int c1), (8, .int o1)] []) : ∀ (n : Nat) (v6 : Int32) (v7 : Int32) (v8 : Int32) (v9 : Int32), tp (L5_swing_39 c1 c4 c5 s0 n v6 v7 v8 v9) (k1 Ψ) → V G K (wX G s0) 39 [(0, .ref (aX G 0)), (1, .int c1), (4, .int c4), (5, .int c5), (6, .int v6), (7, .int v7), (8, .int v8), (9, .int v9)] [] := by
  intro n
  induction n with
  | zero => intro v6 v7 v8 v9 h; exact tp_no h
  | succ n ih =>
    intro v6 v7 v8 v9
    rw [L5_swing_39]
    refine v_iload (pc := 39) C 7 rfl dX5_swing_39 ?_
    refine v_bipush (pc := 41) C 24 dX5_swing_41 (by decide) ?_
    refine v_icmp_ge (pc := 43) C 92 dX5_swing_43 (by decide) ?_ ?_
    · refine v_iload (pc := 46) C 5 rfl dX5_swing_46 ?_
      refine v_iload (pc := 48) C 2 rfl dX5_swing_48 ?_
      refine v_iload (pc := 50) C 4 rfl dX5_swing_50 ?_
      refine v_iload (pc := 52) C 3 rfl dX5_swing_52 ?_
      refine v_imul (pc := 54) C dX5_swing_54 ?_
      refine v_bipush (pc := 55) C 10 dX5_swing_55 (by decide) ?_
      refine v_idiv (pc := 57) C dX5_swing_57 (by decide) ?_
      refine v_isub (pc := 58) C dX5_swing_58 ?_
      refine v_iload (pc := 59) C 5 rfl dX5_swing_59 ?_
      refine v_iconst (pc := 61) C 4 dX5_swing_61 (by decide) ?_
      refine v_idiv (pc := 62) C dX5_swing_62 (by decide) ?_
      refine v_isub (pc := 63) C dX5_swing_63 ?_
      refine v_iadd (pc := 64) C dX5_swing_64 ?_
      refine r_lti (fun x4 => ?_)
      refine v_istore (pc := 65) C dX5_swing_65 (by decide) (lv' := [(7, .int x4), (0, .ref (aX G 0)), (1, .int c1), (4, .int c4), (5, .int c5), (6, .int v6), (8, .int v8), (9, .int v9)]) rfl ?_
      refine v_iload (pc := 67) C 5 rfl dX5_swing_67 ?_
      refine v_iload (pc := 69) C 0 rfl dX5_swing_69 ?_
      refine v_iadd (pc := 71) C dX5_swing_71 ?_
      refine r_lti (fun x5 => ?_)
      refine v_istore (pc := 72) C dX5_swing_72 (by decide) (lv' := [(6, .int x5), (7, .int x4), (0, .ref (aX G 0)), (1, .int c1), (4, .int c4), (5, .int c5), (8, .int v8), (9, .int v9)]) rfl ?_
      refine v_iload (pc := 74) C 6 rfl dX5_swing_74 ?_
      refine v_iload (pc := 76) C 0 rfl dX5_swing_76 ?_
      refine v_mabs (pc := 78) C mw_727 mw_300 mw_190 mw_301 (by decide) (Nat.le_of_ble_eq_true rfl) dX5_swing_78 ?_
      refine r_lti (fun x6 => ?_)
      refine v_mmax (pc := 81) C mw_490 mw_491 mw_190 mw_492 (by decide) (Nat.le_of_ble_eq_true rfl) dX5_swing_81 ?_
      refine r_lti (fun x7 => ?_)
      refine v_istore (pc := 84) C dX5_swing_84 (by decide) (lv' := [(8, .int x7), (6, .int x5), (7, .int x4), (0, .ref (aX G 0)), (1, .int c1), (4, .int c4), (5, .int c5), (9, .int v9)]) rfl ?_
      refine v_iincL (pc := 86) C 1 7 dX5_swing_86 rfl (by decide) (by decide) (lv0 := [(8, .int x7), (6, .int x5), (7, .int x4), (0, .ref (aX G 0)), (1, .int c1), (4, .int c4), (5, .int c5)]) rfl (fun x8 => ?_)
      refine v_goto (pc := 89) C 39 dX5_swing_89 (by decide) ?_
      exact v_to [4, 5, 6, 7, 2, 3, 1, 0] (ih _ _ _ _) rfl
    · exact tp_out (fun h => v_to [0, 1, 6] (hx _) rfl h)
set_option maxHeartbeats 4000000 in
set_option maxRecDepth 100000 in
theorem m5_swing (G : GT) (l : Launch) (a1 : Int32) (a2 : Int32) (a3 : Int32)  (s0 : SS) (r : Int32) (hf : f5_swing a1 a2 a3 s0 = some r) : MI G l yX5_swing cX5_swing 10 (some .int) 1 23 [.ref (aX G 0), .int a1, .int a2, .int a3] (wX G s0) r (wX G s0) := by
  refine MI.start (by decide +kernel) (Nat.le_of_ble_eq_true rfl) (fun K hl C hret => ?_)
  subst hl
  have C : Ctx G K cX5_swing RX5 10 1 23 := C
  change V G K (wX G s0) 0 [(0, .ref (aX G 0)), (1, .int a1), (2, .int a2), (3, .int a3)] []
  refine (?_ : tp (f5_swing a1 a2 a3 s0) (fun q => q = r) → _) ⟨_, hf, rfl⟩
  rw [f5_swing]
  refine v_iload_n (pc := 0) C 3 rfl dX5_swing_0 ?_
  refine v_aload_n (pc := 1) C 0 rfl dX5_swing_1 ?_
  refine g5_wood (pc := 2) C mw_41 dX5_swing_2 ?_
  refine v_iload_n (pc := 5) C 2 rfl dX5_swing_5 ?_
  refine v_iconst (pc := 6) C 0 dX5_swing_6 (by decide) ?_
  refine cIv2r (pc := 7) C (fun r9 h9 => m4_feature G K.2.1 (s0.2.2 0) a2 0 s0 r9 h9) q_yX4_feature mw_363 (rc_4 (s0.2.2 0)) ⟨by decide, by decide⟩ (Nat.le_of_ble_eq_true rfl) dX5_swing_7 (fun x1 => ?_)
  refine v_imul (pc := 10) C dX5_swing_10 ?_
  refine v_bipush (pc := 11) C 10 dX5_swing_11 (by decide) ?_
  refine v_idiv (pc := 13) C dX5_swing_13 (by decide) ?_
  refine r_lti (fun x2 => ?_)
  refine v_istore (pc := 14) C dX5_swing_14 (by decide) (lv' := [(4, .int x2), (0, .ref (aX G 0)), (1, .int a1), (2, .int a2), (3, .int a3)]) rfl ?_
  refine v_aload_n (pc := 16) C 1 rfl dX5_swing_16 ?_
  refine g5_wood (pc := 17) C mw_41 dX5_swing_17 ?_
  refine v_iload_n (pc := 20) C 3 rfl dX5_swing_20 ?_
  refine v_iconst (pc := 21) C 2 dX5_swing_21 (by decide) ?_
  refine cIv2r (pc := 22) C (fun r9 h9 => m4_feature G K.2.1 (s0.2.2 0) a2 2 s0 r9 h9) q_yX4_feature mw_363 (rc_4 (s0.2.2 0)) ⟨by decide, by decide⟩ (Nat.le_of_ble_eq_true rfl) dX5_swing_22 (fun x3 => ?_)
  refine v_istore (pc := 25) C dX5_swing_25 (by decide) (lv' := [(5, .int x3), (4, .int x2), (0, .ref (aX G 0)), (1, .int a1), (2, .int a2), (3, .int a3)]) rfl ?_
  refine v_iconst (pc := 27) C 0 dX5_swing_27 (by decide) ?_
  refine v_istore (pc := 28) C dX5_swing_28 (by decide) (lv' := [(6, .int 0), (5, .int x3), (4, .int x2), (0, .ref (aX G 0)), (1, .int a1), (2, .int a2), (3, .int a3)]) rfl ?_
  refine v_iconst (pc := 30) C 0 dX5_swing_30 (by decide) ?_
  refine v_istore (pc := 31) C dX5_swing_31 (by decide) (lv' := [(7, .int 0), (6, .int 0), (5, .int x3), (4, .int x2), (0, .ref (aX G 0)), (1, .int a1), (2, .int a2), (3, .int a3)]) rfl ?_
  refine v_iconst (pc := 33) C 0 dX5_swing_33 (by decide) ?_
  refine v_istore (pc := 34) C dX5_swing_34 (by decide) (lv' := [(8, .int 0), (7, .int 0), (6, .int 0), (5, .int x3), (4, .int x2), (0, .ref (aX G 0)), (1, .int a1), (2, .int a2), (3, .int a3)]) rfl ?_
  refine v_iconst (pc := 36) C 0 dX5_swing_36 (by decide) ?_
  refine v_istore (pc := 37) C dX5_swing_37 (by decide) (lv' := [(9, .int 0), (8, .int 0), (7, .int 0), (6, .int 0), (5, .int x3), (4, .int x2), (0, .ref (aX G 0)), (1, .int a1), (2, .int a2), (3, .int a3)]) rfl ?_
  refine r_bk1 ?_
  refine v_to [6, 7, 5, 4, 3, 2, 1, 0] (l5_swing_39 C a1 x2 x3 s0 (fun x9 => ?_) FU _ _ _ _) rfl
  refine v_iload (pc := 92) C 2 rfl dX5_swing_92 ?_
  refine v_aload_n (pc := 94) C 0 rfl dX5_swing_94 ?_
  refine g5_wood (pc := 95) C mw_41 dX5_swing_95 ?_
  refine v_iload_n (pc := 98) C 1 rfl dX5_swing_98 ?_
  refine v_iconst (pc := 99) C 1 dX5_swing_99 (by decide) ?_
  refine cIv2r (pc := 100) C (fun r9 h9 => m4_power G K.2.1 (s0.2.2 0) a1 1 s0 r9 h9) q_yX4_power mw_388 (rc_4 (s0.2.2 0)) ⟨by decide, by decide⟩ (Nat.le_of_ble_eq_true rfl) dX5_swing_100 (fun x10 => ?_)
  refine v_imul (pc := 103) C dX5_swing_103 ?_
  refine v_bipush (pc := 104) C 50 dX5_swing_104 (by decide) ?_
  refine v_idiv (pc := 106) C dX5_swing_106 (by decide) ?_
  exact tp_out (fun h => hret _ _ _ _ ⟨h, rfl⟩ dX5_swing_107)
