def f6_look (a1 : Int32) (s0 : SS) : Option SS := bd (f6_bodyOf a1 0 s0) (fun x1 => lt (sI s0 0 14 x1) (fun q2 => bd (f6_bodyOf a1 1 q2) (fun x3 => lt (sI q2 0 15 x3) (fun q4 => bd (f6_bodyOf a1 2 q4) (fun x5 => lt (sI q4 0 16 x5) (fun q6 => gd (inb 5 6) (lt (sI q6 0 17 (q6.1 6 (5 : Int32).toNatClampNeg)) (fun q7 => some q7))))))))
set_option maxHeartbeats 4000000 in
set_option maxRecDepth 100000 in
theorem m6_look (G : GT) (l : Launch) (a1 : Int32)  (s0 : SS) (s1 : SS) (hf : f6_look a1 s0 = some s1) : MV G l yX6_look cX6_look 2 none 1 22 [.ref (aM G 0), .int a1] (wM G s0) (wM G s1) := by
  refine MV.start (by decide +kernel) (Nat.le_of_ble_eq_true rfl) (fun K hl C hret => ?_)
  subst hl
  have C : Ctx G K cX6_look RX6 2 1 22 := C
  change V G K (wM G s0) 0 [(0, .ref (aM G 0)), (1, .int a1)] []
  refine (?_ : tp (f6_look a1 s0) (fun q => q = s1) → _) ⟨_, hf, rfl⟩
  rw [f6_look]
  refine v_aload_n (pc := 0) C 0 rfl dX6_look_0 ?_
  refine v_aload_n (pc := 1) C 0 rfl dX6_look_1 ?_
  refine v_iload_n (pc := 2) C 1 rfl dX6_look_2 ?_
  refine v_iconst (pc := 3) C 0 dX6_look_3 (by decide) ?_
  refine cIv2r (pc := 4) C (fun r9 h9 => m6_bodyOf G K.2.1 a1 0 s0 r9 h9) q_yX6_bodyOf mw_400 rc_6 ⟨by decide, by decide⟩ (Nat.le_of_ble_eq_true rfl) dX6_look_4 (fun x1 => ?_)
  refine p6_reach (pc := 7) C mw_466 dX6_look_7 ?_
  refine r_ltm (fun q2 => ?_)
  refine v_aload_n (pc := 10) C 0 rfl dX6_look_10 ?_
  refine v_aload_n (pc := 11) C 0 rfl dX6_look_11 ?_
  refine v_iload_n (pc := 12) C 1 rfl dX6_look_12 ?_
  refine v_iconst (pc := 13) C 1 dX6_look_13 (by decide) ?_
  refine cIv2r (pc := 14) C (fun r9 h9 => m6_bodyOf G K.2.1 a1 1 q2 r9 h9) q_yX6_bodyOf mw_400 rc_6 ⟨by decide, by decide⟩ (Nat.le_of_ble_eq_true rfl) dX6_look_14 (fun x3 => ?_)
  refine p6_weight (pc := 17) C mw_467 dX6_look_17 ?_
  refine r_ltm (fun q4 => ?_)
  refine v_aload_n (pc := 20) C 0 rfl dX6_look_20 ?_
  refine v_aload_n (pc := 21) C 0 rfl dX6_look_21 ?_
  refine v_iload_n (pc := 22) C 1 rfl dX6_look_22 ?_
  refine v_iconst (pc := 23) C 2 dX6_look_23 (by decide) ?_
  refine cIv2r (pc := 24) C (fun r9 h9 => m6_bodyOf G K.2.1 a1 2 q4 r9 h9) q_yX6_bodyOf mw_400 rc_6 ⟨by decide, by decide⟩ (Nat.le_of_ble_eq_true rfl) dX6_look_24 (fun x5 => ?_)
  refine p6_grip (pc := 27) C mw_468 dX6_look_27 ?_
  refine r_ltm (fun q6 => ?_)
  refine v_aload_n (pc := 30) C 0 rfl dX6_look_30 ?_
  refine v_aload_n (pc := 31) C 0 rfl dX6_look_31 ?_
  refine g6_tune (pc := 32) C mw_105 dX6_look_32 ?_
  refine v_iconst (pc := 35) C 5 dX6_look_35 (by decide) ?_
  refine v_iald (pc := 36) C _ am_6 dX6_look_36 ?_
  refine p6_backs (pc := 37) C mw_469 dX6_look_37 ?_
  refine r_ltm (fun q7 => ?_)
  exact tp_out (fun h => hret _ _ _ (congrArg (wM G) h) dX6_look_40)
def f6_mayStep (a1 : Int32) (a2 : Int32) (s0 : SS) : Option Int32 := if a1 = a2 then some 0 else bd (f6_isSawn a1 s0) (fun x1 => if x1 = 0 then bd (f6_isSawn a2 s0) (fun x2 => if x2 = 0 then bd (f6_apart a1 a2 s0) (fun x3 => gd (inb 1 6) (if x3 ≤ (s0.1 6 (1 : Int32).toNatClampNeg) then lt (fun (_u : Unit) => bd (f6_heightOf a2 s0) (fun x6 => bd (f6_heightOf a1 s0) (fun x7 => lt ((x6 - x7)) (fun x8 => if x8 = 0 then some 1 else lt (fun (_u : Unit) => some 0) (fun j9 => if x8 ≤ 0 then gd (inb 2 6) (if (-x8) ≤ ((s0.1 0 14) - (s0.1 6 (2 : Int32).toNatClampNeg)) then some 1 else j9 ()) else lt (fun (x13 : Int32) => if x8 ≤ ((s0.1 0 14) + x13) then some 1 else j9 ()) (fun j11 => if a1 = 12 then j11 (s0.1 0 17) else j11 0)))))) (fun j4 => if a2 = 12 then j4 () else bd (f6_of a2 2 s0) (fun x14 => gd (inb 0 6) (if (s0.1 0 15) ≤ (x14 * (s0.1 6 (0 : Int32).toNatClampNeg)) then j4 () else some 0))) else some 0)) else some 0) else some 0)
set_option maxHeartbeats 4000000 in
set_option maxRecDepth 100000 in
theorem m6_mayStep (G : GT) (l : Launch) (a1 : Int32) (a2 : Int32)  (s0 : SS) (r : Int32) (hf : f6_mayStep a1 a2 s0 = some r) : MI G l yX6_mayStep cX6_mayStep 4 (some .boolean) 2 45 [.ref (aM G 0), .int a1, .int a2] (wM G s0) r (wM G s0) := by
  refine MI.startZ (by decide +kernel) (Nat.le_of_ble_eq_true rfl) (fun K hl C hret => ?_)
  subst hl
  have C : Ctx G K cX6_mayStep RX6 4 2 45 := C
  change V G K (wM G s0) 0 [(0, .ref (aM G 0)), (1, .int a1), (2, .int a2)] []
  refine (?_ : tp (f6_mayStep a1 a2 s0) (fun q => q = r) → _) ⟨_, hf, rfl⟩
  rw [f6_mayStep]
  refine v_iload_n (pc := 0) C 1 rfl dX6_mayStep_0 ?_
  refine v_iload_n (pc := 1) C 2 rfl dX6_mayStep_1 ?_
  refine v_icmp_eq (pc := 2) C 36 dX6_mayStep_2 (by decide) ?_ ?_
  · refine v_iconst (pc := 36) C 0 dX6_mayStep_36 (by decide) ?_
    exact tp_out (fun h => hret _ _ _ _ ⟨h, rfl⟩ (Or.inl rfl) dX6_mayStep_37)
  · refine v_aload_n (pc := 5) C 0 rfl dX6_mayStep_5 ?_
    refine v_iload_n (pc := 6) C 1 rfl dX6_mayStep_6 ?_
    refine cIv1r (pc := 7) C (fun r9 h9 => m6_isSawn G K.2.1 a1 s0 r9 h9) q_yX6_isSawn mw_372 rc_6 ⟨by decide, by decide⟩ (Nat.le_of_ble_eq_true rfl) dX6_mayStep_7 (fun x1 => ?_)
    refine v_if_ne (pc := 10) C 36 dX6_mayStep_10 (by decide) ?_ ?_
    · refine v_aload_n (pc := 13) C 0 rfl dX6_mayStep_13 ?_
      refine v_iload_n (pc := 14) C 2 rfl dX6_mayStep_14 ?_
      refine cIv1r (pc := 15) C (fun r9 h9 => m6_isSawn G K.2.1 a2 s0 r9 h9) q_yX6_isSawn mw_372 rc_6 ⟨by decide, by decide⟩ (Nat.le_of_ble_eq_true rfl) dX6_mayStep_15 (fun x2 => ?_)
      refine v_if_ne (pc := 18) C 36 dX6_mayStep_18 (by decide) ?_ ?_
      · refine v_aload_n (pc := 21) C 0 rfl dX6_mayStep_21 ?_
        refine v_iload_n (pc := 22) C 1 rfl dX6_mayStep_22 ?_
        refine v_iload_n (pc := 23) C 2 rfl dX6_mayStep_23 ?_
        refine cIv2r (pc := 24) C (fun r9 h9 => m6_apart G K.2.1 a1 a2 s0 r9 h9) q_yX6_apart mw_474 rc_6 ⟨by decide, by decide⟩ (Nat.le_of_ble_eq_true rfl) dX6_mayStep_24 (fun x3 => ?_)
        refine v_aload_n (pc := 27) C 0 rfl dX6_mayStep_27 ?_
        refine g6_tune (pc := 28) C mw_105 dX6_mayStep_28 ?_
        refine v_iconst (pc := 31) C 1 dX6_mayStep_31 (by decide) ?_
        refine v_iald (pc := 32) C _ am_6 dX6_mayStep_32 ?_
        refine v_icmp_le (pc := 33) C 38 dX6_mayStep_33 (by decide) ?_ ?_
        · refine v_iload_n (pc := 38) C 2 rfl dX6_mayStep_38 ?_
          refine v_bipush (pc := 39) C 12 dX6_mayStep_39 (by decide) ?_
          refine r_lJ (fun Φ0 j4 => ∀ (_u : Unit), tp (j4 ()) Φ0 → V G K (wM G s0) 66 [(0, .ref (aM G 0)), (1, .int a1), (2, .int a2)] []) (fun _u => ?_) (fun j4 hj5 => ?_)
          · refine v_aload_n (pc := 66) C 0 rfl dX6_mayStep_66 ?_
            refine v_iload_n (pc := 67) C 2 rfl dX6_mayStep_67 ?_
            refine cIv1r (pc := 68) C (fun r9 h9 => m6_heightOf G K.2.1 a2 s0 r9 h9) q_yX6_heightOf mw_478 rc_6 ⟨by decide, by decide⟩ (Nat.le_of_ble_eq_true rfl) dX6_mayStep_68 (fun x6 => ?_)
            refine v_aload_n (pc := 71) C 0 rfl dX6_mayStep_71 ?_
            refine v_iload_n (pc := 72) C 1 rfl dX6_mayStep_72 ?_
            refine cIv1r (pc := 73) C (fun r9 h9 => m6_heightOf G K.2.1 a1 s0 r9 h9) q_yX6_heightOf mw_478 rc_6 ⟨by decide, by decide⟩ (Nat.le_of_ble_eq_true rfl) dX6_mayStep_73 (fun x7 => ?_)
            refine v_isub (pc := 76) C dX6_mayStep_76 ?_
            refine r_lti (fun x8 => ?_)
            refine v_istore_n (pc := 77) C dX6_mayStep_77 (by decide) (lv' := [(3, .int x8), (0, .ref (aM G 0)), (1, .int a1), (2, .int a2)]) rfl ?_
            refine v_iload_n (pc := 78) C 0 rfl dX6_mayStep_78 ?_
            refine v_if_eq (pc := 79) C 128 dX6_mayStep_79 (by decide) ?_ ?_
            · refine v_iconst (pc := 128) C 1 dX6_mayStep_128 (by decide) ?_
              refine v_goto (pc := 129) C 133 dX6_mayStep_129 (by decide) ?_
              exact tp_out (fun h => hret _ _ _ _ ⟨h, rfl⟩ (Or.inr rfl) dX6_mayStep_133)
            · refine v_iload_n (pc := 82) C 0 rfl dX6_mayStep_82 ?_
              refine r_lJ (fun Φ0 j9 => ∀ (_u : Unit), tp (j9 ()) Φ0 → V G K (wM G s0) 132 [] []) (fun _u => ?_) (fun j9 hj10 => ?_)
              · refine v_iconst (pc := 132) C 0 dX6_mayStep_132 (by decide) ?_
                exact tp_out (fun h => hret _ _ _ _ ⟨h, rfl⟩ (Or.inl rfl) dX6_mayStep_133)
              refine v_if_le (pc := 83) C 112 dX6_mayStep_83 (by decide) ?_ ?_
              · refine v_iload_n (pc := 112) C 0 rfl dX6_mayStep_112 ?_
                refine v_ineg (pc := 113) C dX6_mayStep_113 ?_
                refine v_aload_n (pc := 114) C 1 rfl dX6_mayStep_114 ?_
                refine g6_reach (pc := 115) C mw_466 dX6_mayStep_115 ?_
                refine v_aload_n (pc := 118) C 1 rfl dX6_mayStep_118 ?_
                refine g6_tune (pc := 119) C mw_105 dX6_mayStep_119 ?_
                refine v_iconst (pc := 122) C 2 dX6_mayStep_122 (by decide) ?_
                refine v_iald (pc := 123) C _ am_6 dX6_mayStep_123 ?_
                refine v_isub (pc := 124) C dX6_mayStep_124 ?_
                refine v_icmp_gt (pc := 125) C 132 dX6_mayStep_125 (by decide) ?_ ?_
                · refine v_iconst (pc := 128) C 1 dX6_mayStep_128 (by decide) ?_
                  refine v_goto (pc := 129) C 133 dX6_mayStep_129 (by decide) ?_
                  exact tp_out (fun h => hret _ _ _ _ ⟨h, rfl⟩ (Or.inr rfl) dX6_mayStep_133)
                · exact v_to [] (hj10 ()) rfl
              · refine v_iload_n (pc := 86) C 0 rfl dX6_mayStep_86 ?_
                refine v_aload_n (pc := 87) C 1 rfl dX6_mayStep_87 ?_
                refine g6_reach (pc := 88) C mw_466 dX6_mayStep_88 ?_
                refine v_iload_n (pc := 91) C 2 rfl dX6_mayStep_91 ?_
                refine v_bipush (pc := 92) C 12 dX6_mayStep_92 (by decide) ?_
                refine r_lJ (fun Φ0 j11 => ∀ (x13 : Int32), tp (j11 x13) Φ0 → V G K (wM G s0) 105 [] [.int x13, .int (s0.1 0 14), .int x8]) (fun x13 => ?_) (fun j11 hj12 => ?_)
                · refine v_iadd (pc := 105) C dX6_mayStep_105 ?_
                  refine v_icmp_gt (pc := 106) C 132 dX6_mayStep_106 (by decide) ?_ ?_
                  · refine v_goto (pc := 109) C 128 dX6_mayStep_109 (by decide) ?_
                    refine v_iconst (pc := 128) C 1 dX6_mayStep_128 (by decide) ?_
                    refine v_goto (pc := 129) C 133 dX6_mayStep_129 (by decide) ?_
                    exact tp_out (fun h => hret _ _ _ _ ⟨h, rfl⟩ (Or.inr rfl) dX6_mayStep_133)
                  · exact v_to [] (hj10 ()) rfl
                refine v_icmp_ne (pc := 94) C 104 dX6_mayStep_94 (by decide) ?_ ?_
                · refine v_aload_n (pc := 97) C 1 rfl dX6_mayStep_97 ?_
                  refine g6_backs (pc := 98) C mw_469 dX6_mayStep_98 ?_
                  refine v_goto (pc := 101) C 105 dX6_mayStep_101 (by decide) ?_
                  exact v_to [] (hj12 _) rfl
                · refine v_iconst (pc := 104) C 0 dX6_mayStep_104 (by decide) ?_
                  exact v_to [] (hj12 _) rfl
          refine v_icmp_eq (pc := 41) C 66 dX6_mayStep_41 (by decide) ?_ ?_
          · exact v_to [0, 1, 2] (hj5 ()) rfl
          · refine v_aload_n (pc := 44) C 0 rfl dX6_mayStep_44 ?_
            refine g6_weight (pc := 45) C mw_467 dX6_mayStep_45 ?_
            refine v_aload_n (pc := 48) C 0 rfl dX6_mayStep_48 ?_
            refine v_iload_n (pc := 49) C 2 rfl dX6_mayStep_49 ?_
            refine v_iconst (pc := 50) C 2 dX6_mayStep_50 (by decide) ?_
            refine cIv2r (pc := 51) C (fun r9 h9 => m6_of G K.2.1 a2 2 s0 r9 h9) q_yX6_of mw_376 rc_6 ⟨by decide, by decide⟩ (Nat.le_of_ble_eq_true rfl) dX6_mayStep_51 (fun x14 => ?_)
            refine v_aload_n (pc := 54) C 0 rfl dX6_mayStep_54 ?_
            refine g6_tune (pc := 55) C mw_105 dX6_mayStep_55 ?_
            refine v_iconst (pc := 58) C 0 dX6_mayStep_58 (by decide) ?_
            refine v_iald (pc := 59) C _ am_6 dX6_mayStep_59 ?_
            refine v_imul (pc := 60) C dX6_mayStep_60 ?_
            refine v_icmp_le (pc := 61) C 66 dX6_mayStep_61 (by decide) ?_ ?_
            · exact v_to [0, 1, 2] (hj5 ()) rfl
            · refine v_iconst (pc := 64) C 0 dX6_mayStep_64 (by decide) ?_
              exact tp_out (fun h => hret _ _ _ _ ⟨h, rfl⟩ (Or.inl rfl) dX6_mayStep_65)
        · refine v_iconst (pc := 36) C 0 dX6_mayStep_36 (by decide) ?_
          exact tp_out (fun h => hret _ _ _ _ ⟨h, rfl⟩ (Or.inl rfl) dX6_mayStep_37)
      · refine v_iconst (pc := 36) C 0 dX6_mayStep_36 (by decide) ?_
        exact tp_out (fun h => hret _ _ _ _ ⟨h, rfl⟩ (Or.inl rfl) dX6_mayStep_37)
    · refine v_iconst (pc := 36) C 0 dX6_mayStep_36 (by decide) ?_
      exact tp_out (fun h => hret _ _ _ _ ⟨h, rfl⟩ (Or.inl rfl) dX6_mayStep_37)
def f6_holdsOn (a1 : Int32) (s0 : SS) : Option Int32 := if a1 = 12 then some 10 else bd (f6_of a1 2 s0) (fun x1 => lt (fun (x4 : Int32) => lt ((10 - x4)) (fun x5 => gd (inb 3 6) (lt (((s0.1 6 (3 : Int32).toNatClampNeg) - (s0.1 0 16))) (fun x6 => bd (f6_of a1 4 s0) (fun x7 => lt (fun (x10 : Int32) => lt ((x5 - x10)) (fun x11 => if x11 < 0 then some 0 else some x11)) (fun j8 => lt (fun (_u : Unit) => j8 0) (fun j12 => if x7 = 1 then if x6 ≤ 0 then j12 () else j8 x6 else j12 ()))))))) (fun j2 => if (s0.1 0 15) ≤ x1 then j2 0 else bd (f6_of a1 3 s0) (fun x14 => j2 (10 - x14))))
set_option maxHeartbeats 4000000 in
set_option maxRecDepth 100000 in
theorem m6_holdsOn (G : GT) (l : Launch) (a1 : Int32)  (s0 : SS) (r : Int32) (hf : f6_holdsOn a1 s0 = some r) : MI G l yX6_holdsOn cX6_holdsOn 4 (some .int) 1 22 [.ref (aM G 0), .int a1] (wM G s0) r (wM G s0) := by
  refine MI.start (by decide +kernel) (Nat.le_of_ble_eq_true rfl) (fun K hl C hret => ?_)
  subst hl
  have C : Ctx G K cX6_holdsOn RX6 4 1 22 := C
  change V G K (wM G s0) 0 [(0, .ref (aM G 0)), (1, .int a1)] []
  refine (?_ : tp (f6_holdsOn a1 s0) (fun q => q = r) → _) ⟨_, hf, rfl⟩
  rw [f6_holdsOn]
  refine v_iload_n (pc := 0) C 1 rfl dX6_holdsOn_0 ?_
  refine v_bipush (pc := 1) C 12 dX6_holdsOn_1 (by decide) ?_
  refine v_icmp_ne (pc := 3) C 9 dX6_holdsOn_3 (by decide) ?_ ?_
  · refine v_bipush (pc := 6) C 10 dX6_holdsOn_6 (by decide) ?_
    exact tp_out (fun h => hret _ _ _ _ ⟨h, rfl⟩ dX6_holdsOn_8)
  · refine v_bipush (pc := 9) C 10 dX6_holdsOn_9 (by decide) ?_
    refine v_aload_n (pc := 11) C 0 rfl dX6_holdsOn_11 ?_
    refine g6_weight (pc := 12) C mw_467 dX6_holdsOn_12 ?_
    refine v_aload_n (pc := 15) C 0 rfl dX6_holdsOn_15 ?_
    refine v_iload_n (pc := 16) C 1 rfl dX6_holdsOn_16 ?_
    refine v_iconst (pc := 17) C 2 dX6_holdsOn_17 (by decide) ?_
    refine cIv2r (pc := 18) C (fun r9 h9 => m6_of G K.2.1 a1 2 s0 r9 h9) q_yX6_of mw_376 rc_6 ⟨by decide, by decide⟩ (Nat.le_of_ble_eq_true rfl) dX6_holdsOn_18 (fun x1 => ?_)
    refine r_lJ (fun Φ0 j2 => ∀ (x4 : Int32), tp (j2 x4) Φ0 → V G K (wM G s0) 37 [(0, .ref (aM G 0)), (1, .int a1)] [.int x4, .int 10]) (fun x4 => ?_) (fun j2 hj3 => ?_)
    · refine v_isub (pc := 37) C dX6_holdsOn_37 ?_
      refine r_lti (fun x5 => ?_)
      refine v_istore_n (pc := 38) C dX6_holdsOn_38 (by decide) (lv' := [(2, .int x5), (0, .ref (aM G 0)), (1, .int a1)]) rfl ?_
      refine v_aload_n (pc := 39) C 1 rfl dX6_holdsOn_39 ?_
      refine g6_tune (pc := 40) C mw_105 dX6_holdsOn_40 ?_
      refine v_iconst (pc := 43) C 3 dX6_holdsOn_43 (by decide) ?_
      refine v_iald (pc := 44) C _ am_6 dX6_holdsOn_44 ?_
      refine v_aload_n (pc := 45) C 1 rfl dX6_holdsOn_45 ?_
      refine g6_grip (pc := 46) C mw_468 dX6_holdsOn_46 ?_
      refine v_isub (pc := 49) C dX6_holdsOn_49 ?_
      refine r_lti (fun x6 => ?_)
      refine v_istore_n (pc := 50) C dX6_holdsOn_50 (by decide) (lv' := [(3, .int x6), (2, .int x5), (0, .ref (aM G 0)), (1, .int a1)]) rfl ?_
      refine v_iload_n (pc := 51) C 1 rfl dX6_holdsOn_51 ?_
      refine v_aload_n (pc := 52) C 2 rfl dX6_holdsOn_52 ?_
      refine v_iload_n (pc := 53) C 3 rfl dX6_holdsOn_53 ?_
      refine v_iconst (pc := 54) C 4 dX6_holdsOn_54 (by decide) ?_
      refine cIv2r (pc := 55) C (fun r9 h9 => m6_of G K.2.1 a1 4 s0 r9 h9) q_yX6_of mw_376 rc_6 ⟨by decide, by decide⟩ (Nat.le_of_ble_eq_true rfl) dX6_holdsOn_55 (fun x7 => ?_)
      refine v_iconst (pc := 58) C 1 dX6_holdsOn_58 (by decide) ?_
      refine r_lJ (fun Φ0 j8 => ∀ (x10 : Int32), tp (j8 x10) Φ0 → V G K (wM G s0) 71 [] [.int x10, .int x5]) (fun x10 => ?_) (fun j8 hj9 => ?_)
      · refine v_isub (pc := 71) C dX6_holdsOn_71 ?_
        refine r_lti (fun x11 => ?_)
        refine v_istore_n (pc := 72) C dX6_holdsOn_72 (by decide) (lv' := [(2, .int x11)]) rfl ?_
        refine v_iload_n (pc := 73) C 0 rfl dX6_holdsOn_73 ?_
        refine v_if_ge (pc := 74) C 81 dX6_holdsOn_74 (by decide) ?_ ?_
        · refine v_iconst (pc := 77) C 0 dX6_holdsOn_77 (by decide) ?_
          refine v_goto (pc := 78) C 82 dX6_holdsOn_78 (by decide) ?_
          exact tp_out (fun h => hret _ _ _ _ ⟨h, rfl⟩ dX6_holdsOn_82)
        · refine v_iload_n (pc := 81) C 0 rfl dX6_holdsOn_81 ?_
          exact tp_out (fun h => hret _ _ _ _ ⟨h, rfl⟩ dX6_holdsOn_82)
      refine r_lJ (fun Φ0 j12 => ∀ (_u : Unit), tp (j12 ()) Φ0 → V G K (wM G s0) 70 [] [.int x5]) (fun _u => ?_) (fun j12 hj13 => ?_)
      · refine v_iconst (pc := 70) C 0 dX6_holdsOn_70 (by decide) ?_
        exact v_to [] (hj9 _) rfl
      refine v_icmp_ne (pc := 59) C 70 dX6_holdsOn_59 (by decide) ?_ ?_
      · refine v_iload_n (pc := 62) C 0 rfl dX6_holdsOn_62 ?_
        refine v_if_le (pc := 63) C 70 dX6_holdsOn_63 (by decide) ?_ ?_
        · exact v_to [] (hj13 ()) rfl
        · refine v_iload_n (pc := 66) C 0 rfl dX6_holdsOn_66 ?_
          refine v_goto (pc := 67) C 71 dX6_holdsOn_67 (by decide) ?_
          exact v_to [] (hj9 _) rfl
      · exact v_to [] (hj13 ()) rfl
    refine v_icmp_le (pc := 21) C 36 dX6_holdsOn_21 (by decide) ?_ ?_
    · refine v_iconst (pc := 36) C 0 dX6_holdsOn_36 (by decide) ?_
      exact v_to [0, 1] (hj3 _) rfl
    · refine v_bipush (pc := 24) C 10 dX6_holdsOn_24 (by decide) ?_
      refine v_aload_n (pc := 26) C 0 rfl dX6_holdsOn_26 ?_
      refine v_iload_n (pc := 27) C 1 rfl dX6_holdsOn_27 ?_
      refine v_iconst (pc := 28) C 3 dX6_holdsOn_28 (by decide) ?_
      refine cIv2r (pc := 29) C (fun r9 h9 => m6_of G K.2.1 a1 3 s0 r9 h9) q_yX6_of mw_376 rc_6 ⟨by decide, by decide⟩ (Nat.le_of_ble_eq_true rfl) dX6_holdsOn_29 (fun x14 => ?_)
      refine v_isub (pc := 32) C dX6_holdsOn_32 ?_
      refine v_goto (pc := 33) C 37 dX6_holdsOn_33 (by decide) ?_
      exact v_to [0, 1] (hj3 _) rfl
def f6_step (a1 : Int32) (a2 : Int32) (a3 : Int32) (s0 : SS) : Option (Int32 × SS) := bd (f6_isBody a1 s0) (fun x1 => if x1 = 0 then some ((-1), s0) else bd (f6_isPlace a2 s0) (fun x2 => if x2 = 0 then some ((-1), s0) else bd (f6_isPlace a3 s0) (fun x3 => if x3 = 0 then some ((-1), s0) else if a2 = a3 then some ((-1), s0) else bd (f6_look a1 s0) (fun q4 => lt (fun (x7 : Int32) => lt (fun (x10 : Int32) => bd (f6_mayStep x7 x10 q4) (fun x11 => if x11 = 0 then some (0, q4) else some (1, q4))) (fun j8 => if a3 = (-1) then j8 12 else j8 a3)) (fun j5 => if a2 = (-1) then j5 12 else j5 a2)))))
set_option maxHeartbeats 4000000 in
set_option maxRecDepth 100000 in
theorem m6_step (G : GT) (l : Launch) (a1 : Int32) (a2 : Int32) (a3 : Int32)  (s0 : SS) (r : Int32) (s1 : SS) (hf : f6_step a1 a2 a3 s0 = some (r, s1)) : MI G l yX6_step cX6_step 4 (some .int) 3 68 [.ref (aM G 0), .int a1, .int a2, .int a3] (wM G s0) r (wM G s1) := by
  refine MI.start (by decide +kernel) (Nat.le_of_ble_eq_true rfl) (fun K hl C hret => ?_)
  subst hl
  have C : Ctx G K cX6_step RX6 4 3 68 := C
  change V G K (wM G s0) 0 [(0, .ref (aM G 0)), (1, .int a1), (2, .int a2), (3, .int a3)] []
  refine (?_ : tp (f6_step a1 a2 a3 s0) (fun q => q = (r, s1)) → _) ⟨_, hf, rfl⟩
  rw [f6_step]
  refine v_aload_n (pc := 0) C 0 rfl dX6_step_0 ?_
  refine v_iload_n (pc := 1) C 1 rfl dX6_step_1 ?_
  refine cIv1r (pc := 2) C (fun r9 h9 => m6_isBody G K.2.1 a1 s0 r9 h9) q_yX6_isBody mw_396 rc_6 ⟨by decide, by decide⟩ (Nat.le_of_ble_eq_true rfl) dX6_step_2 (fun x1 => ?_)
  refine v_if_eq (pc := 5) C 29 dX6_step_5 (by decide) ?_ ?_
  · refine v_iconst (pc := 29) C (-1) dX6_step_29 (by decide) ?_
    exact tp_out (fun h => hret _ _ _ _ ⟨(Prod.mk.inj h).1, congrArg (wM G) (Prod.mk.inj h).2⟩ dX6_step_30)
  · refine v_aload_n (pc := 8) C 0 rfl dX6_step_8 ?_
    refine v_iload_n (pc := 9) C 2 rfl dX6_step_9 ?_
    refine cIv1r (pc := 10) C (fun r9 h9 => m6_isPlace G K.2.1 a2 s0 r9 h9) q_yX6_isPlace mw_458 rc_6 ⟨by decide, by decide⟩ (Nat.le_of_ble_eq_true rfl) dX6_step_10 (fun x2 => ?_)
    refine v_if_eq (pc := 13) C 29 dX6_step_13 (by decide) ?_ ?_
    · refine v_iconst (pc := 29) C (-1) dX6_step_29 (by decide) ?_
      exact tp_out (fun h => hret _ _ _ _ ⟨(Prod.mk.inj h).1, congrArg (wM G) (Prod.mk.inj h).2⟩ dX6_step_30)
    · refine v_aload_n (pc := 16) C 0 rfl dX6_step_16 ?_
      refine v_iload_n (pc := 17) C 3 rfl dX6_step_17 ?_
      refine cIv1r (pc := 18) C (fun r9 h9 => m6_isPlace G K.2.1 a3 s0 r9 h9) q_yX6_isPlace mw_458 rc_6 ⟨by decide, by decide⟩ (Nat.le_of_ble_eq_true rfl) dX6_step_18 (fun x3 => ?_)
      refine v_if_eq (pc := 21) C 29 dX6_step_21 (by decide) ?_ ?_
      · refine v_iconst (pc := 29) C (-1) dX6_step_29 (by decide) ?_
        exact tp_out (fun h => hret _ _ _ _ ⟨(Prod.mk.inj h).1, congrArg (wM G) (Prod.mk.inj h).2⟩ dX6_step_30)
      · refine v_iload_n (pc := 24) C 2 rfl dX6_step_24 ?_
        refine v_iload_n (pc := 25) C 3 rfl dX6_step_25 ?_
        refine v_icmp_ne (pc := 26) C 31 dX6_step_26 (by decide) ?_ ?_
        · refine v_iconst (pc := 29) C (-1) dX6_step_29 (by decide) ?_
          exact tp_out (fun h => hret _ _ _ _ ⟨(Prod.mk.inj h).1, congrArg (wM G) (Prod.mk.inj h).2⟩ dX6_step_30)
        · refine v_aload_n (pc := 31) C 0 rfl dX6_step_31 ?_
          refine v_iload_n (pc := 32) C 1 rfl dX6_step_32 ?_
          refine cVv1w (pc := 33) C (W2 := wM G) (fun s9 h9 => m6_look G K.2.1 a1 s0 s9 h9) q_yX6_look mw_462 rc_6 ⟨by decide, by decide⟩ (Nat.le_of_ble_eq_true rfl) dX6_step_33 (fun q4 => ?_)
          refine v_aload_n (pc := 36) C 0 rfl dX6_step_36 ?_
          refine v_iload_n (pc := 37) C 2 rfl dX6_step_37 ?_
          refine v_iconst (pc := 38) C (-1) dX6_step_38 (by decide) ?_
          refine r_lJ (fun Φ0 j5 => ∀ (x7 : Int32), tp (j5 x7) Φ0 → V G K (wM G q4) 48 [(3, .int a3)] [.int x7, .ref (aM G 0)]) (fun x7 => ?_) (fun j5 hj6 => ?_)
          · refine v_iload_n (pc := 48) C 0 rfl dX6_step_48 ?_
            refine v_iconst (pc := 49) C (-1) dX6_step_49 (by decide) ?_
            refine r_lJ (fun Φ0 j8 => ∀ (x10 : Int32), tp (j8 x10) Φ0 → V G K (wM G q4) 59 [] [.int x10, .int x7, .ref (aM G 0)]) (fun x10 => ?_) (fun j8 hj9 => ?_)
            · refine cIv2r (pc := 59) C (fun r9 h9 => m6_mayStep G K.2.1 x7 x10 q4 r9 h9) q_yX6_mayStep mw_470 rc_6 ⟨by decide, by decide⟩ (Nat.le_of_ble_eq_true rfl) dX6_step_59 (fun x11 => ?_)
              refine v_if_eq (pc := 62) C 69 dX6_step_62 (by decide) ?_ ?_
              · refine v_iconst (pc := 69) C 0 dX6_step_69 (by decide) ?_
                exact tp_out (fun h => hret _ _ _ _ ⟨(Prod.mk.inj h).1, congrArg (wM G) (Prod.mk.inj h).2⟩ dX6_step_70)
              · refine v_iconst (pc := 65) C 1 dX6_step_65 (by decide) ?_
                refine v_goto (pc := 66) C 70 dX6_step_66 (by decide) ?_
                exact tp_out (fun h => hret _ _ _ _ ⟨(Prod.mk.inj h).1, congrArg (wM G) (Prod.mk.inj h).2⟩ dX6_step_70)
            refine v_icmp_ne (pc := 50) C 58 dX6_step_50 (by decide) ?_ ?_
            · refine v_bipush (pc := 53) C 12 dX6_step_53 (by decide) ?_
              refine v_goto (pc := 55) C 59 dX6_step_55 (by decide) ?_
              exact v_to [] (hj9 _) rfl
            · refine v_iload_n (pc := 58) C 0 rfl dX6_step_58 ?_
              exact v_to [] (hj9 _) rfl
          refine v_icmp_ne (pc := 39) C 47 dX6_step_39 (by decide) ?_ ?_
          · refine v_bipush (pc := 42) C 12 dX6_step_42 (by decide) ?_
            refine v_goto (pc := 44) C 48 dX6_step_44 (by decide) ?_
            exact v_to [3] (hj6 _) rfl
          · refine v_iload_n (pc := 47) C 2 rfl dX6_step_47 ?_
            exact v_to [3] (hj6 _) rfl
def f6_holds (a1 : Int32) (a2 : Int32) (s0 : SS) : Option (Int32 × SS) := bd (f6_isBody a1 s0) (fun x1 => if x1 = 0 then some ((-1), s0) else bd (f6_isBranch a2 s0) (fun x2 => if x2 = 0 then some ((-1), s0) else bd (f6_look a1 s0) (fun q3 => bd (f6_holdsOn a2 q3) (fun x4 => some (x4, q3)))))
set_option maxHeartbeats 4000000 in
set_option maxRecDepth 100000 in
theorem m6_holds (G : GT) (l : Launch) (a1 : Int32) (a2 : Int32)  (s0 : SS) (r : Int32) (s1 : SS) (hf : f6_holds a1 a2 s0 = some (r, s1)) : MI G l yX6_holds cX6_holds 3 (some .int) 2 45 [.ref (aM G 0), .int a1, .int a2] (wM G s0) r (wM G s1) := by
  refine MI.start (by decide +kernel) (Nat.le_of_ble_eq_true rfl) (fun K hl C hret => ?_)
  subst hl
  have C : Ctx G K cX6_holds RX6 3 2 45 := C
  change V G K (wM G s0) 0 [(0, .ref (aM G 0)), (1, .int a1), (2, .int a2)] []
  refine (?_ : tp (f6_holds a1 a2 s0) (fun q => q = (r, s1)) → _) ⟨_, hf, rfl⟩
  rw [f6_holds]
  refine v_aload_n (pc := 0) C 0 rfl dX6_holds_0 ?_
  refine v_iload_n (pc := 1) C 1 rfl dX6_holds_1 ?_
  refine cIv1r (pc := 2) C (fun r9 h9 => m6_isBody G K.2.1 a1 s0 r9 h9) q_yX6_isBody mw_396 rc_6 ⟨by decide, by decide⟩ (Nat.le_of_ble_eq_true rfl) dX6_holds_2 (fun x1 => ?_)
  refine v_if_eq (pc := 5) C 16 dX6_holds_5 (by decide) ?_ ?_
  · refine v_iconst (pc := 16) C (-1) dX6_holds_16 (by decide) ?_
    exact tp_out (fun h => hret _ _ _ _ ⟨(Prod.mk.inj h).1, congrArg (wM G) (Prod.mk.inj h).2⟩ dX6_holds_17)
  · refine v_aload_n (pc := 8) C 0 rfl dX6_holds_8 ?_
    refine v_iload_n (pc := 9) C 2 rfl dX6_holds_9 ?_
    refine cIv1r (pc := 10) C (fun r9 h9 => m6_isBranch G K.2.1 a2 s0 r9 h9) q_yX6_isBranch mw_368 rc_6 ⟨by decide, by decide⟩ (Nat.le_of_ble_eq_true rfl) dX6_holds_10 (fun x2 => ?_)
    refine v_if_ne (pc := 13) C 18 dX6_holds_13 (by decide) ?_ ?_
    · refine v_iconst (pc := 16) C (-1) dX6_holds_16 (by decide) ?_
      exact tp_out (fun h => hret _ _ _ _ ⟨(Prod.mk.inj h).1, congrArg (wM G) (Prod.mk.inj h).2⟩ dX6_holds_17)
    · refine v_aload_n (pc := 18) C 0 rfl dX6_holds_18 ?_
      refine v_iload_n (pc := 19) C 1 rfl dX6_holds_19 ?_
      refine cVv1w (pc := 20) C (W2 := wM G) (fun s9 h9 => m6_look G K.2.1 a1 s0 s9 h9) q_yX6_look mw_462 rc_6 ⟨by decide, by decide⟩ (Nat.le_of_ble_eq_true rfl) dX6_holds_20 (fun q3 => ?_)
      refine v_aload_n (pc := 23) C 0 rfl dX6_holds_23 ?_
      refine v_iload_n (pc := 24) C 2 rfl dX6_holds_24 ?_
      refine cIv1r (pc := 25) C (fun r9 h9 => m6_holdsOn G K.2.1 a2 q3 r9 h9) q_yX6_holdsOn mw_497 rc_6 ⟨by decide, by decide⟩ (Nat.le_of_ble_eq_true rfl) dX6_holds_25 (fun x4 => ?_)
      exact tp_out (fun h => hret _ _ _ _ ⟨(Prod.mk.inj h).1, congrArg (wM G) (Prod.mk.inj h).2⟩ dX6_holds_28)
def f6_isThere (a1 : Int32) (s0 : SS) : Option Int32 := if a1 = 12 then some 1 else gd (inb 0 2) (if a1 < (s0.1 2 (0 : Int32).toNatClampNeg) then some 1 else some 0)
set_option maxHeartbeats 4000000 in
set_option maxRecDepth 100000 in
theorem m6_isThere (G : GT) (l : Launch) (a1 : Int32)  (s0 : SS) (r : Int32) (hf : f6_isThere a1 s0 = some r) : MI G l yX6_isThere cX6_isThere 2 (some .boolean) 0 0 [.ref (aM G 0), .int a1] (wM G s0) r (wM G s0) := by
  refine MI.startZ (by decide +kernel) (Nat.le_of_ble_eq_true rfl) (fun K hl C hret => ?_)
  subst hl
  have C : Ctx G K cX6_isThere RX6 2 0 0 := C
  change V G K (wM G s0) 0 [(0, .ref (aM G 0)), (1, .int a1)] []
  refine (?_ : tp (f6_isThere a1 s0) (fun q => q = r) → _) ⟨_, hf, rfl⟩
  rw [f6_isThere]
  refine v_iload_n (pc := 0) C 1 rfl dX6_isThere_0 ?_
  refine v_bipush (pc := 1) C 12 dX6_isThere_1 (by decide) ?_
  refine v_icmp_eq (pc := 3) C 16 dX6_isThere_3 (by decide) ?_ ?_
  · refine v_iconst (pc := 16) C 1 dX6_isThere_16 (by decide) ?_
    refine v_goto (pc := 17) C 21 dX6_isThere_17 (by decide) ?_
    exact tp_out (fun h => hret _ _ _ _ ⟨h, rfl⟩ (Or.inr rfl) dX6_isThere_21)
  · refine v_iload_n (pc := 6) C 1 rfl dX6_isThere_6 ?_
    refine v_aload_n (pc := 7) C 0 rfl dX6_isThere_7 ?_
    refine g6_branches (pc := 8) C mw_101 dX6_isThere_8 ?_
    refine v_iconst (pc := 11) C 0 dX6_isThere_11 (by decide) ?_
    refine v_iald (pc := 12) C _ am_2 dX6_isThere_12 ?_
    refine v_icmp_ge (pc := 13) C 20 dX6_isThere_13 (by decide) ?_ ?_
    · refine v_iconst (pc := 16) C 1 dX6_isThere_16 (by decide) ?_
      refine v_goto (pc := 17) C 21 dX6_isThere_17 (by decide) ?_
      exact tp_out (fun h => hret _ _ _ _ ⟨h, rfl⟩ (Or.inr rfl) dX6_isThere_21)
    · refine v_iconst (pc := 20) C 0 dX6_isThere_20 (by decide) ?_
      exact tp_out (fun h => hret _ _ _ _ ⟨h, rfl⟩ (Or.inl rfl) dX6_isThere_21)
def L6_goFrom_2 (c1 : Int32) : Nat → Int32 → SS → Option (SS)
  | 0, _, _ => none
  | n + 1, v2, s => if v2 < 13 then lt (fun (x3 : Int64) => gd (inb v2 13) (lt (sL s 10 (Int32.toNatClampNeg v2) x3) (fun q4 => gd (inb v2 13) (gd (inb v2 13) (lt (sL q4 8 (Int32.toNatClampNeg v2) (q4.2.1 10 v2.toNatClampNeg)) (fun q5 => gd (inb v2 13) (lt (sI q5 9 (Int32.toNatClampNeg v2) 0) (fun q6 => lt (v2 + 1) (fun x7 => L6_goFrom_2 c1 n x7 q6))))))))) (fun j1 => if v2 = c1 then j1 1000000000000 else j1 0) else some s
def L6_goFrom_77 (c2 : Int32) (c3 : Int32) : Nat → Int32 → SS → Option (SS)
  | 0, _, _ => none
  | n + 1, v4, s => if v4 < 13 then bd (f6_isThere c3 s) (fun x10 => if x10 = 0 then some s else gd (inb v4 13) (if (s.2.1 10 v4.toNatClampNeg) ≤ 0 then lt (v4 + 1) (fun x11 => L6_goFrom_77 c2 c3 n x11 s) else bd (f6_mayStep v4 c3 s) (fun x12 => if x12 = 0 then lt (v4 + 1) (fun x13 => L6_goFrom_77 c2 c3 n x13 s) else gd (inb v4 13) (bd (f6_holdsOn c3 s) (fun x14 => lt ((((s.2.1 10 v4.toNatClampNeg) / 10) * (Int32.toInt64 x14))) (fun x15 => gd (inb c3 13) (lt (fun (x18 : Int64) => gd (inb c3 13) (lt (sL s 11 (Int32.toNatClampNeg c3) x18) (fun q19 => lt (v4 + 1) (fun x20 => L6_goFrom_77 c2 c3 n x20 q19)))) (fun j16 => if x15 ≤ (s.2.1 11 c3.toNatClampNeg) then gd (inb c3 13) (j16 (s.2.1 11 c3.toNatClampNeg)) else j16 x15)))))))) else some s
def L6_goFrom_61 (c2 : Int32) : Nat → Int32 → SS → Option (SS)
  | 0, _, _ => none
  | n + 1, v3, s => if v3 < 13 then gd (inb v3 13) (lt (sL s 11 (Int32.toNatClampNeg v3) 0) (fun q9 => bk1 (L6_goFrom_77 c2 v3 FU 0 q9) (fun q21 => lt (v3 + 1) (fun x22 => L6_goFrom_61 c2 n x22 q21)))) else some s
def L6_goFrom_177 (c2 : Int32) : Nat → Int32 → SS → Option (SS)
  | 0, _, _ => none
  | n + 1, v3, s => if v3 < 13 then gd (inb v3 13) (gd (inb v3 13) (lt (sL s 10 (Int32.toNatClampNeg v3) (s.2.1 11 v3.toNatClampNeg)) (fun q24 => gd (inb v3 13) (gd (inb v3 13) (lt (fun (x27 : Int32) => gd (inb v3 13) (lt (sI q24 9 (Int32.toNatClampNeg v3) x27) (fun q28 => gd (inb v3 13) (gd (inb v3 13) (lt (fun (x31 : Int64) => gd (inb v3 13) (lt (sL q28 8 (Int32.toNatClampNeg v3) x31) (fun q32 => lt (v3 + 1) (fun x33 => L6_goFrom_177 c2 n x33 q32)))) (fun j29 => if (q28.2.1 10 v3.toNatClampNeg) ≤ (q28.2.1 8 v3.toNatClampNeg) then gd (inb v3 13) (j29 (q28.2.1 8 v3.toNatClampNeg)) else gd (inb v3 13) (j29 (q28.2.1 10 v3.toNatClampNeg)))))))) (fun j25 => if (q24.2.1 10 v3.toNatClampNeg) ≤ (q24.2.1 8 v3.toNatClampNeg) then gd (inb v3 13) (j25 (q24.1 9 v3.toNatClampNeg)) else j25 c2)))))) else some s
def L6_goFrom_53 : Nat → Int32 → SS → Option (SS)
  | 0, _, _ => none
  | n + 1, v2, s => if v2 ≤ 12 then bk1 (L6_goFrom_61 v2 FU 0 s) (fun q23 => bk1 (L6_goFrom_177 v2 FU 0 q23) (fun q34 => lt (v2 + 1) (fun x35 => L6_goFrom_53 n x35 q34))) else some s
def f6_goFrom (a1 : Int32) (s0 : SS) : Option SS := bk1 (L6_goFrom_2 a1 FU 0 s0) (fun q8 => bk1 (L6_goFrom_53 FU 1 q8) (fun q36 => some q36))
set_option maxHeartbeats 4000000 in
set_option maxRecDepth 100000 in
theorem l6_goFrom_2 {G : GT} {K : KT} (C : Ctx G K cX6_goFrom RX6 7 3 68) (c1 : Int32) {Ψ : SS → Prop} (hx : ∀ (so : SS), Ψ so → V G K (wM G so) 51 [(0, .ref (aM G 0))] []) : ∀ (n : Nat) (v2 : Int32) (s : SS), tp (L6_goFrom_2 c1 n v2 s) (k1 Ψ) → V G K (wM G s) 2 [(0, .ref (aM G 0)), (1, .int c1), (2, .int v2)] [] := by
  intro n
  induction n with
  | zero => intro v2 s h; exact tp_no h
  | succ n ih =>
    intro v2 s
    rw [L6_goFrom_2]
    refine v_iload_n (pc := 2) C 2 rfl dX6_goFrom_2 ?_
    refine v_bipush (pc := 3) C 13 dX6_goFrom_3 (by decide) ?_
    refine v_icmp_ge (pc := 5) C 51 dX6_goFrom_5 (by decide) ?_ ?_
    · refine v_aload_n (pc := 8) C 0 rfl dX6_goFrom_8 ?_
      refine g6_nows (pc := 9) C mw_109 dX6_goFrom_9 ?_
      refine v_iload_n (pc := 12) C 2 rfl dX6_goFrom_12 ?_
      refine v_iload_n (pc := 13) C 2 rfl dX6_goFrom_13 ?_
      refine v_iload_n (pc := 14) C 1 rfl dX6_goFrom_14 ?_
      refine r_lJ (fun Φ0 j1 => ∀ (x3 : Int64), tp (j1 x3) Φ0 → V G K (wM G s) 25 [(0, .ref (aM G 0)), (1, .int c1), (2, .int v2)] [.long x3, .int v2, .ref (aM G 10)]) (fun x3 => ?_) (fun j1 hj2 => ?_)
      · refine v_last (pc := 25) C _ am_10 (at_10 _ _) dX6_goFrom_25 ?_
        refine r_ltm (fun q4 => ?_)
        refine v_aload_n (pc := 26) C 0 rfl dX6_goFrom_26 ?_
        refine g6_odds (pc := 27) C mw_107 dX6_goFrom_27 ?_
        refine v_iload_n (pc := 30) C 2 rfl dX6_goFrom_30 ?_
        refine v_aload_n (pc := 31) C 0 rfl dX6_goFrom_31 ?_
        refine g6_nows (pc := 32) C mw_109 dX6_goFrom_32 ?_
        refine v_iload_n (pc := 35) C 2 rfl dX6_goFrom_35 ?_
        refine v_lald (pc := 36) C _ am_10 dX6_goFrom_36 ?_
        refine v_last (pc := 37) C _ am_8 (at_8 _ _) dX6_goFrom_37 ?_
        refine r_ltm (fun q5 => ?_)
        refine v_aload_n (pc := 38) C 0 rfl dX6_goFrom_38 ?_
        refine g6_steps (pc := 39) C mw_108 dX6_goFrom_39 ?_
        refine v_iload_n (pc := 42) C 2 rfl dX6_goFrom_42 ?_
        refine v_iconst (pc := 43) C 0 dX6_goFrom_43 (by decide) ?_
        refine v_iast (pc := 44) C _ am_9 (at_9 _ _) dX6_goFrom_44 ?_
        refine r_ltm (fun q6 => ?_)
        refine v_iincL (pc := 45) C 1 2 dX6_goFrom_45 rfl (by decide) (by decide) (lv0 := [(0, .ref (aM G 0)), (1, .int c1)]) rfl (fun x7 => ?_)
        refine v_goto (pc := 48) C 2 dX6_goFrom_48 (by decide) ?_
        exact v_to [1, 2, 0] (ih _ _) rfl
      refine v_icmp_ne (pc := 15) C 24 dX6_goFrom_15 (by decide) ?_ ?_
      · refine v_ldc2 (pc := 18) C mw_560 dX6_goFrom_18 ?_
        refine v_goto (pc := 21) C 25 dX6_goFrom_21 (by decide) ?_
        exact v_to [0, 1, 2] (hj2 _) rfl
      · refine v_lconst (pc := 24) C 0 dX6_goFrom_24 (by decide) ?_
        exact v_to [0, 1, 2] (hj2 _) rfl
    · exact tp_out (fun h => v_to [0] (hx _) rfl h)
set_option maxHeartbeats 4000000 in
set_option maxRecDepth 100000 in
theorem l6_goFrom_77 {G : GT} {K : KT} (C : Ctx G K cX6_goFrom RX6 7 3 68) (c2 : Int32) (c3 : Int32) {Ψ : SS → Prop} (hx : ∀ (so : SS), Ψ so → V G K (wM G so) 169 [(0, .ref (aM G 0)), (2, .int c2), (3, .int c3)] []) : ∀ (n : Nat) (v4 : Int32) (s : SS), tp (L6_goFrom_77 c2 c3 n v4 s) (k1 Ψ) → V G K (wM G s) 77 [(0, .ref (aM G 0)), (2, .int c2), (3, .int c3), (4, .int v4)] [] := by
  intro n
  induction n with
  | zero => intro v4 s h; exact tp_no h
  | succ n ih =>
    intro v4 s
    rw [L6_goFrom_77]
    refine v_iload (pc := 77) C 3 rfl dX6_goFrom_77 ?_
    refine v_bipush (pc := 79) C 13 dX6_goFrom_79 (by decide) ?_
    refine v_icmp_ge (pc := 81) C 169 dX6_goFrom_81 (by decide) ?_ ?_
    · refine v_aload_n (pc := 84) C 0 rfl dX6_goFrom_84 ?_
      refine v_iload_n (pc := 85) C 2 rfl dX6_goFrom_85 ?_
      refine cIv1r (pc := 86) C (fun r9 h9 => m6_isThere G K.2.1 c3 s r9 h9) q_yX6_isThere mw_566 rc_6 ⟨by decide, by decide⟩ (Nat.le_of_ble_eq_true rfl) dX6_goFrom_86 (fun x10 => ?_)
      refine v_if_eq (pc := 89) C 169 dX6_goFrom_89 (by decide) ?_ ?_
      · exact tp_out (fun h => v_to [0, 1, 2] (hx _) rfl h)
      · refine v_aload_n (pc := 92) C 0 rfl dX6_goFrom_92 ?_
        refine g6_nows (pc := 93) C mw_109 dX6_goFrom_93 ?_
        refine v_iload (pc := 96) C 3 rfl dX6_goFrom_96 ?_
        refine v_lald (pc := 98) C _ am_10 dX6_goFrom_98 ?_
        refine v_lconst (pc := 99) C 0 dX6_goFrom_99 (by decide) ?_
        refine v_lcmp_le (pc := 100) C 163 dX6_goFrom_100 dX6_goFrom_101 (by decide) ?_ ?_
        · refine v_iincL (pc := 163) C 1 3 dX6_goFrom_163 rfl (by decide) (by decide) (lv0 := [(0, .ref (aM G 0)), (2, .int c2), (3, .int c3)]) rfl (fun x11 => ?_)
          refine v_goto (pc := 166) C 77 dX6_goFrom_166 (by decide) ?_
          exact v_to [1, 2, 3, 0] (ih _ _) rfl
        · refine v_aload_n (pc := 104) C 0 rfl dX6_goFrom_104 ?_
          refine v_iload (pc := 105) C 3 rfl dX6_goFrom_105 ?_
          refine v_iload_n (pc := 107) C 2 rfl dX6_goFrom_107 ?_
          refine cIv2r (pc := 108) C (fun r9 h9 => m6_mayStep G K.2.1 v4 c3 s r9 h9) q_yX6_mayStep mw_470 rc_6 ⟨by decide, by decide⟩ (Nat.le_of_ble_eq_true rfl) dX6_goFrom_108 (fun x12 => ?_)
          refine v_if_eq (pc := 111) C 163 dX6_goFrom_111 (by decide) ?_ ?_
          · refine v_iincL (pc := 163) C 1 3 dX6_goFrom_163 rfl (by decide) (by decide) (lv0 := [(0, .ref (aM G 0)), (2, .int c2), (3, .int c3)]) rfl (fun x13 => ?_)
            refine v_goto (pc := 166) C 77 dX6_goFrom_166 (by decide) ?_
            exact v_to [1, 2, 3, 0] (ih _ _) rfl
          · refine v_aload_n (pc := 114) C 0 rfl dX6_goFrom_114 ?_
            refine g6_nows (pc := 115) C mw_109 dX6_goFrom_115 ?_
            refine v_iload (pc := 118) C 3 rfl dX6_goFrom_118 ?_
            refine v_lald (pc := 120) C _ am_10 dX6_goFrom_120 ?_
            refine v_ldc2 (pc := 121) C mw_565 dX6_goFrom_121 ?_
            refine v_ldiv (pc := 124) C dX6_goFrom_124 (by decide) ?_
            refine v_aload_n (pc := 125) C 0 rfl dX6_goFrom_125 ?_
            refine v_iload_n (pc := 126) C 2 rfl dX6_goFrom_126 ?_
            refine cIv1r (pc := 127) C (fun r9 h9 => m6_holdsOn G K.2.1 c3 s r9 h9) q_yX6_holdsOn mw_497 rc_6 ⟨by decide, by decide⟩ (Nat.le_of_ble_eq_true rfl) dX6_goFrom_127 (fun x14 => ?_)
            refine v_i2l (pc := 130) C dX6_goFrom_130 ?_
            refine v_lmul (pc := 131) C dX6_goFrom_131 ?_
            refine r_ltl (fun x15 => ?_)
            refine v_lstore (pc := 132) C dX6_goFrom_132 (by decide) (lv' := [(5, .long x15), (0, .ref (aM G 0)), (2, .int c2), (3, .int c3), (4, .int v4)]) rfl ?_
            refine v_aload_n (pc := 134) C 1 rfl dX6_goFrom_134 ?_
            refine g6_then (pc := 135) C mw_110 dX6_goFrom_135 ?_
            refine v_iload_n (pc := 138) C 3 rfl dX6_goFrom_138 ?_
            refine v_lload (pc := 139) C 0 rfl dX6_goFrom_139 ?_
            refine v_aload_n (pc := 141) C 1 rfl dX6_goFrom_141 ?_
            refine g6_then (pc := 142) C mw_110 dX6_goFrom_142 ?_
            refine v_iload_n (pc := 145) C 3 rfl dX6_goFrom_145 ?_
            refine v_lald (pc := 146) C _ am_11 dX6_goFrom_146 ?_
            refine r_lJ (fun Φ0 j16 => ∀ (x18 : Int64), tp (j16 x18) Φ0 → V G K (wM G s) 162 [(0, .ref (aM G 0)), (2, .int c2), (3, .int c3), (4, .int v4)] [.long x18, .int c3, .ref (aM G 11)]) (fun x18 => ?_) (fun j16 hj17 => ?_)
            · refine v_last (pc := 162) C _ am_11 (at_11 _ _) dX6_goFrom_162 ?_
              refine r_ltm (fun q19 => ?_)
              refine v_iincL (pc := 163) C 1 3 dX6_goFrom_163 rfl (by decide) (by decide) (lv0 := [(0, .ref (aM G 0)), (2, .int c2), (3, .int c3)]) rfl (fun x20 => ?_)
              refine v_goto (pc := 166) C 77 dX6_goFrom_166 (by decide) ?_
              exact v_to [1, 2, 3, 0] (ih _ _) rfl
            refine v_lcmp_le (pc := 147) C 156 dX6_goFrom_147 dX6_goFrom_148 (by decide) ?_ ?_
            · refine v_aload_n (pc := 156) C 1 rfl dX6_goFrom_156 ?_
              refine g6_then (pc := 157) C mw_110 dX6_goFrom_157 ?_
              refine v_iload_n (pc := 160) C 3 rfl dX6_goFrom_160 ?_
              refine v_lald (pc := 161) C _ am_11 dX6_goFrom_161 ?_
              exact v_to [1, 2, 3, 4] (hj17 _) rfl
            · refine v_lload (pc := 151) C 0 rfl dX6_goFrom_151 ?_
              refine v_goto (pc := 153) C 162 dX6_goFrom_153 (by decide) ?_
              exact v_to [1, 2, 3, 4] (hj17 _) rfl
    · exact tp_out (fun h => v_to [0, 1, 2] (hx _) rfl h)
set_option maxHeartbeats 4000000 in
set_option maxRecDepth 100000 in
theorem l6_goFrom_61 {G : GT} {K : KT} (C : Ctx G K cX6_goFrom RX6 7 3 68) (c2 : Int32) {Ψ : SS → Prop} (hx : ∀ (so : SS), Ψ so → V G K (wM G so) 175 [(0, .ref (aM G 0)), (2, .int c2)] []) : ∀ (n : Nat) (v3 : Int32) (s : SS), tp (L6_goFrom_61 c2 n v3 s) (k1 Ψ) → V G K (wM G s) 61 [(0, .ref (aM G 0)), (2, .int c2), (3, .int v3)] [] := by
  intro n
  induction n with
  | zero => intro v3 s h; exact tp_no h
  | succ n ih =>
    intro v3 s
    rw [L6_goFrom_61]
    refine v_iload_n (pc := 61) C 2 rfl dX6_goFrom_61 ?_
    refine v_bipush (pc := 62) C 13 dX6_goFrom_62 (by decide) ?_
    refine v_icmp_ge (pc := 64) C 175 dX6_goFrom_64 (by decide) ?_ ?_
    · refine v_aload_n (pc := 67) C 0 rfl dX6_goFrom_67 ?_
      refine g6_then (pc := 68) C mw_110 dX6_goFrom_68 ?_
      refine v_iload_n (pc := 71) C 2 rfl dX6_goFrom_71 ?_
      refine v_lconst (pc := 72) C 0 dX6_goFrom_72 (by decide) ?_
      refine v_last (pc := 73) C _ am_11 (at_11 _ _) dX6_goFrom_73 ?_
      refine r_ltm (fun q9 => ?_)
      refine v_iconst (pc := 74) C 0 dX6_goFrom_74 (by decide) ?_
      refine v_istore (pc := 75) C dX6_goFrom_75 (by decide) (lv' := [(4, .int 0), (0, .ref (aM G 0)), (2, .int c2), (3, .int v3)]) rfl ?_
      refine r_bk1 ?_
      refine v_to [1, 2, 3, 0] (l6_goFrom_77 C c2 v3 (fun q21 => ?_) FU _ _) rfl
      refine v_iincL (pc := 169) C 1 2 dX6_goFrom_169 rfl (by decide) (by decide) (lv0 := [(0, .ref (aM G 0)), (2, .int c2)]) rfl (fun x22 => ?_)
      refine v_goto (pc := 172) C 61 dX6_goFrom_172 (by decide) ?_
      exact v_to [1, 2, 0] (ih _ _) rfl
    · exact tp_out (fun h => v_to [0, 1] (hx _) rfl h)
set_option maxHeartbeats 4000000 in
set_option maxRecDepth 100000 in
theorem l6_goFrom_177 {G : GT} {K : KT} (C : Ctx G K cX6_goFrom RX6 7 3 68) (c2 : Int32) {Ψ : SS → Prop} (hx : ∀ (so : SS), Ψ so → V G K (wM G so) 270 [(0, .ref (aM G 0)), (2, .int c2)] []) : ∀ (n : Nat) (v3 : Int32) (s : SS), tp (L6_goFrom_177 c2 n v3 s) (k1 Ψ) → V G K (wM G s) 177 [(0, .ref (aM G 0)), (2, .int c2), (3, .int v3)] [] := by
  intro n
  induction n with
  | zero => intro v3 s h; exact tp_no h
  | succ n ih =>
    intro v3 s
    rw [L6_goFrom_177]
    refine v_iload_n (pc := 177) C 2 rfl dX6_goFrom_177 ?_
    refine v_bipush (pc := 178) C 13 dX6_goFrom_178 (by decide) ?_
    refine v_icmp_ge (pc := 180) C 270 dX6_goFrom_180 (by decide) ?_ ?_
    · refine v_aload_n (pc := 183) C 0 rfl dX6_goFrom_183 ?_
      refine g6_nows (pc := 184) C mw_109 dX6_goFrom_184 ?_
      refine v_iload_n (pc := 187) C 2 rfl dX6_goFrom_187 ?_
      refine v_aload_n (pc := 188) C 0 rfl dX6_goFrom_188 ?_
      refine g6_then (pc := 189) C mw_110 dX6_goFrom_189 ?_
      refine v_iload_n (pc := 192) C 2 rfl dX6_goFrom_192 ?_
      refine v_lald (pc := 193) C _ am_11 dX6_goFrom_193 ?_
      refine v_last (pc := 194) C _ am_10 (at_10 _ _) dX6_goFrom_194 ?_
      refine r_ltm (fun q24 => ?_)
      refine v_aload_n (pc := 195) C 0 rfl dX6_goFrom_195 ?_
      refine g6_steps (pc := 196) C mw_108 dX6_goFrom_196 ?_
      refine v_iload_n (pc := 199) C 2 rfl dX6_goFrom_199 ?_
      refine v_aload_n (pc := 200) C 0 rfl dX6_goFrom_200 ?_
      refine g6_nows (pc := 201) C mw_109 dX6_goFrom_201 ?_
      refine v_iload_n (pc := 204) C 2 rfl dX6_goFrom_204 ?_
      refine v_lald (pc := 205) C _ am_10 dX6_goFrom_205 ?_
      refine v_aload_n (pc := 206) C 0 rfl dX6_goFrom_206 ?_
      refine g6_odds (pc := 207) C mw_107 dX6_goFrom_207 ?_
      refine v_iload_n (pc := 210) C 2 rfl dX6_goFrom_210 ?_
      refine v_lald (pc := 211) C _ am_8 dX6_goFrom_211 ?_
      refine r_lJ (fun Φ0 j25 => ∀ (x27 : Int32), tp (j25 x27) Φ0 → V G K (wM G q24) 226 [(0, .ref (aM G 0)), (2, .int c2), (3, .int v3)] [.int x27, .int v3, .ref (aM G 9)]) (fun x27 => ?_) (fun j25 hj26 => ?_)
      · refine v_iast (pc := 226) C _ am_9 (at_9 _ _) dX6_goFrom_226 ?_
        refine r_ltm (fun q28 => ?_)
        refine v_aload_n (pc := 227) C 0 rfl dX6_goFrom_227 ?_
        refine g6_odds (pc := 228) C mw_107 dX6_goFrom_228 ?_
        refine v_iload_n (pc := 231) C 2 rfl dX6_goFrom_231 ?_
        refine v_aload_n (pc := 232) C 0 rfl dX6_goFrom_232 ?_
        refine g6_nows (pc := 233) C mw_109 dX6_goFrom_233 ?_
        refine v_iload_n (pc := 236) C 2 rfl dX6_goFrom_236 ?_
        refine v_lald (pc := 237) C _ am_10 dX6_goFrom_237 ?_
        refine v_aload_n (pc := 238) C 0 rfl dX6_goFrom_238 ?_
        refine g6_odds (pc := 239) C mw_107 dX6_goFrom_239 ?_
        refine v_iload_n (pc := 242) C 2 rfl dX6_goFrom_242 ?_
        refine v_lald (pc := 243) C _ am_8 dX6_goFrom_243 ?_
        refine r_lJ (fun Φ0 j29 => ∀ (x31 : Int64), tp (j29 x31) Φ0 → V G K (wM G q28) 263 [(0, .ref (aM G 0)), (2, .int c2), (3, .int v3)] [.long x31, .int v3, .ref (aM G 8)]) (fun x31 => ?_) (fun j29 hj30 => ?_)
        · refine v_last (pc := 263) C _ am_8 (at_8 _ _) dX6_goFrom_263 ?_
          refine r_ltm (fun q32 => ?_)
          refine v_iincL (pc := 264) C 1 2 dX6_goFrom_264 rfl (by decide) (by decide) (lv0 := [(0, .ref (aM G 0)), (2, .int c2)]) rfl (fun x33 => ?_)
          refine v_goto (pc := 267) C 177 dX6_goFrom_267 (by decide) ?_
          exact v_to [1, 2, 0] (ih _ _) rfl
        refine v_lcmp_le (pc := 244) C 257 dX6_goFrom_244 dX6_goFrom_245 (by decide) ?_ ?_
        · refine v_aload_n (pc := 257) C 0 rfl dX6_goFrom_257 ?_
          refine g6_odds (pc := 258) C mw_107 dX6_goFrom_258 ?_
          refine v_iload_n (pc := 261) C 2 rfl dX6_goFrom_261 ?_
          refine v_lald (pc := 262) C _ am_8 dX6_goFrom_262 ?_
          exact v_to [0, 1, 2] (hj30 _) rfl
        · refine v_aload_n (pc := 248) C 0 rfl dX6_goFrom_248 ?_
          refine g6_nows (pc := 249) C mw_109 dX6_goFrom_249 ?_
          refine v_iload_n (pc := 252) C 2 rfl dX6_goFrom_252 ?_
          refine v_lald (pc := 253) C _ am_10 dX6_goFrom_253 ?_
          refine v_goto (pc := 254) C 263 dX6_goFrom_254 (by decide) ?_
          exact v_to [0, 1, 2] (hj30 _) rfl
      refine v_lcmp_le (pc := 212) C 220 dX6_goFrom_212 dX6_goFrom_213 (by decide) ?_ ?_
      · refine v_aload_n (pc := 220) C 0 rfl dX6_goFrom_220 ?_
        refine g6_steps (pc := 221) C mw_108 dX6_goFrom_221 ?_
        refine v_iload_n (pc := 224) C 2 rfl dX6_goFrom_224 ?_
        refine v_iald (pc := 225) C _ am_9 dX6_goFrom_225 ?_
        exact v_to [0, 1, 2] (hj26 _) rfl
      · refine v_iload_n (pc := 216) C 1 rfl dX6_goFrom_216 ?_
        refine v_goto (pc := 217) C 226 dX6_goFrom_217 (by decide) ?_
        exact v_to [0, 1, 2] (hj26 _) rfl
    · exact tp_out (fun h => v_to [0, 1] (hx _) rfl h)
set_option maxHeartbeats 4000000 in
set_option maxRecDepth 100000 in
theorem l6_goFrom_53 {G : GT} {K : KT} (C : Ctx G K cX6_goFrom RX6 7 3 68) {Ψ : SS → Prop} (hx : ∀ (so : SS), Ψ so → V G K (wM G so) 276 [] []) : ∀ (n : Nat) (v2 : Int32) (s : SS), tp (L6_goFrom_53 n v2 s) (k1 Ψ) → V G K (wM G s) 53 [(0, .ref (aM G 0)), (2, .int v2)] [] := by
  intro n
  induction n with
  | zero => intro v2 s h; exact tp_no h
  | succ n ih =>
    intro v2 s
    rw [L6_goFrom_53]
    refine v_iload_n (pc := 53) C 1 rfl dX6_goFrom_53 ?_
    refine v_bipush (pc := 54) C 12 dX6_goFrom_54 (by decide) ?_
    refine v_icmp_gt (pc := 56) C 276 dX6_goFrom_56 (by decide) ?_ ?_
    · refine v_iconst (pc := 59) C 0 dX6_goFrom_59 (by decide) ?_
      refine v_istore_n (pc := 60) C dX6_goFrom_60 (by decide) (lv' := [(3, .int 0), (0, .ref (aM G 0)), (2, .int v2)]) rfl ?_
      refine r_bk1 ?_
      refine v_to [1, 2, 0] (l6_goFrom_61 C v2 (fun q23 => ?_) FU _ _) rfl
      refine v_iconst (pc := 175) C 0 dX6_goFrom_175 (by decide) ?_
      refine v_istore_n (pc := 176) C dX6_goFrom_176 (by decide) (lv' := [(3, .int 0), (0, .ref (aM G 0)), (2, .int v2)]) rfl ?_
      refine r_bk1 ?_
      refine v_to [1, 2, 0] (l6_goFrom_177 C v2 (fun q34 => ?_) FU _ _) rfl
      refine v_iincL (pc := 270) C 1 1 dX6_goFrom_270 rfl (by decide) (by decide) (lv0 := [(0, .ref (aM G 0))]) rfl (fun x35 => ?_)
      refine v_goto (pc := 273) C 53 dX6_goFrom_273 (by decide) ?_
      exact v_to [1, 0] (ih _ _) rfl
    · exact tp_out (fun h => v_to [] (hx _) rfl h)
set_option maxHeartbeats 4000000 in
set_option maxRecDepth 100000 in
theorem m6_goFrom (G : GT) (l : Launch) (a1 : Int32)  (s0 : SS) (s1 : SS) (hf : f6_goFrom a1 s0 = some s1) : MV G l yX6_goFrom cX6_goFrom 7 none 3 68 [.ref (aM G 0), .int a1] (wM G s0) (wM G s1) := by
  refine MV.start (by decide +kernel) (Nat.le_of_ble_eq_true rfl) (fun K hl C hret => ?_)
  subst hl
  have C : Ctx G K cX6_goFrom RX6 7 3 68 := C
  change V G K (wM G s0) 0 [(0, .ref (aM G 0)), (1, .int a1)] []
  refine (?_ : tp (f6_goFrom a1 s0) (fun q => q = s1) → _) ⟨_, hf, rfl⟩
  rw [f6_goFrom]
  refine v_iconst (pc := 0) C 0 dX6_goFrom_0 (by decide) ?_
  refine v_istore_n (pc := 1) C dX6_goFrom_1 (by decide) (lv' := [(2, .int 0), (0, .ref (aM G 0)), (1, .int a1)]) rfl ?_
  refine r_bk1 ?_
  refine v_to [1, 2, 0] (l6_goFrom_2 C a1 (fun q8 => ?_) FU _ _) rfl
  refine v_iconst (pc := 51) C 1 dX6_goFrom_51 (by decide) ?_
  refine v_istore_n (pc := 52) C dX6_goFrom_52 (by decide) (lv' := [(2, .int 1), (0, .ref (aM G 0))]) rfl ?_
  refine r_bk1 ?_
  refine v_to [1, 0] (l6_goFrom_53 C (fun q36 => ?_) FU _ _) rfl
  exact tp_out (fun h => hret _ _ _ (congrArg (wM G) h) dX6_goFrom_276)
def L6_common_6 : Nat → Int64 → Int64 → Option (Int64)
  | 0, _, _ => none
  | n + 1, v4, v6 => if v6 = 0 then some v4 else gd (¬ v6 = 0) (lt ((v4 - v4 / v6 * v6)) (fun x1 => L6_common_6 n v6 x1))
def f6_common (a0 : Int64) (a2 : Int64) : Option Int64 := bk1 (L6_common_6 FU a0 a2) (fun x2 => some x2)
set_option maxHeartbeats 4000000 in
set_option maxRecDepth 100000 in
theorem l6_common_6 {G : GT} {K : KT} {w : va_W} (C : Ctx G K cX6_common RX6 10 0 0) {Ψ : Int64 → Prop} (hx : ∀ (o1 : Int64), Ψ o1 → V G K w 31 [(4, .long o1)] []) : ∀ (n : Nat) (v4 : Int64) (v6 : Int64), tp (L6_common_6 n v4 v6) (k1 Ψ) → V G K w 6 [(4, .long v4), (6, .long v6)] [] := by
  intro n
  induction n with
  | zero => intro v4 v6 h; exact tp_no h
  | succ n ih =>
    intro v4 v6
    rw [L6_common_6]
    refine v_lload (pc := 6) C 1 rfl dX6_common_6 ?_
    refine v_lconst (pc := 8) C 0 dX6_common_8 (by decide) ?_
    refine v_lcmp_eq (pc := 9) C 31 dX6_common_9 dX6_common_10 (by decide) ?_ ?_
    · exact tp_out (fun h => v_to [0] (hx _) rfl h)
    · refine v_lload (pc := 13) C 0 rfl dX6_common_13 ?_
      refine v_lload (pc := 15) C 1 rfl dX6_common_15 ?_
      refine v_lremG (pc := 17) C dX6_common_17 ?_
      refine r_ltl (fun x1 => ?_)
      refine v_lstore (pc := 18) C dX6_common_18 (by decide) (lv' := [(8, .long x1), (4, .long v4), (6, .long v6)]) rfl ?_
      refine v_lload (pc := 20) C 2 rfl dX6_common_20 ?_
      refine v_lstore (pc := 22) C dX6_common_22 (by decide) (lv' := [(4, .long v6), (8, .long x1), (6, .long v6)]) rfl ?_
      refine v_lload (pc := 24) C 1 rfl dX6_common_24 ?_
      refine v_lstore (pc := 26) C dX6_common_26 (by decide) (lv' := [(6, .long x1), (4, .long v6), (8, .long x1)]) rfl ?_
      refine v_goto (pc := 28) C 6 dX6_common_28 (by decide) ?_
      exact v_to [1, 0] (ih _ _) rfl
set_option maxHeartbeats 4000000 in
set_option maxRecDepth 100000 in
theorem m6_common (G : GT) (l : Launch) (a0 : Int64) (a2 : Int64)  (w : va_W) (r : Int64) (hf : f6_common a0 a2 = some r) : ML G l yX6_common cX6_common 10 (some .long) 0 0 [.long a0, .long a2] w r w := by
  refine ML.start (by decide +kernel) (Nat.le_of_ble_eq_true rfl) (fun K hl C hret => ?_)
  subst hl
  have C : Ctx G K cX6_common RX6 10 0 0 := C
  change V G K w 0 [(0, .long a0), (2, .long a2)] []
  refine (?_ : tp (f6_common a0 a2) (fun q => q = r) → _) ⟨_, hf, rfl⟩
  rw [f6_common]
  refine v_lload_n (pc := 0) C 0 rfl dX6_common_0 ?_
  refine v_lstore (pc := 1) C dX6_common_1 (by decide) (lv' := [(4, .long a0), (0, .long a0), (2, .long a2)]) rfl ?_
  refine v_lload_n (pc := 3) C 2 rfl dX6_common_3 ?_
  refine v_lstore (pc := 4) C dX6_common_4 (by decide) (lv' := [(6, .long a2), (4, .long a0), (0, .long a0), (2, .long a2)]) rfl ?_
  refine r_bk1 ?_
  refine v_to [1, 0] (l6_common_6 C (fun x2 => ?_) FU _ _) rfl
  refine v_lload (pc := 31) C 0 rfl dX6_common_31 ?_
  exact tp_out (fun h => hret _ _ _ _ ⟨h, rfl⟩ dX6_common_33)
def f6_inLeast (a0 : Int64) (a2 : Int64) (a4 : Int32) : Option Int64 := if a2 = 0 then some (Int32.toInt64 a4) else bd (f6_common a0 a2) (fun x1 => if a4 = 0 then gd (¬ x1 = 0) (some (a0 / x1)) else gd (¬ x1 = 0) (some (a2 / x1)))
set_option maxHeartbeats 4000000 in
set_option maxRecDepth 100000 in
theorem m6_inLeast (G : GT) (l : Launch) (a0 : Int64) (a2 : Int64) (a4 : Int32)  (w : va_W) (r : Int64) (hf : f6_inLeast a0 a2 a4 = some r) : ML G l yX6_inLeast cX6_inLeast 7 (some .long) 1 29 [.long a0, .long a2, .int a4] w r w := by
  refine ML.start (by decide +kernel) (Nat.le_of_ble_eq_true rfl) (fun K hl C hret => ?_)
  subst hl
  have C : Ctx G K cX6_inLeast RX6 7 1 29 := C
  change V G K w 0 [(0, .long a0), (2, .long a2), (4, .int a4)] []
  refine (?_ : tp (f6_inLeast a0 a2 a4) (fun q => q = r) → _) ⟨_, hf, rfl⟩
  rw [f6_inLeast]
  refine v_lload_n (pc := 0) C 1 rfl dX6_inLeast_0 ?_
  refine v_lconst (pc := 1) C 0 dX6_inLeast_1 (by decide) ?_
  refine v_lcmp_ne (pc := 2) C 10 dX6_inLeast_2 dX6_inLeast_3 (by decide) ?_ ?_
  · refine v_iload (pc := 6) C 2 rfl dX6_inLeast_6 ?_
    refine v_i2l (pc := 8) C dX6_inLeast_8 ?_
    exact tp_out (fun h => hret _ _ _ _ ⟨h, rfl⟩ dX6_inLeast_9)
  · refine v_lload_n (pc := 10) C 0 rfl dX6_inLeast_10 ?_
    refine v_lload_n (pc := 11) C 1 rfl dX6_inLeast_11 ?_
    refine cLs2r (pc := 12) C (fun r9 h9 => m6_common G K.2.1 a0 a2 _ r9 h9) q_yX6_common mw_573 ⟨by decide, by decide⟩ (Nat.le_of_ble_eq_true rfl) dX6_inLeast_12 (fun x1 => ?_)
    refine v_lstore (pc := 15) C dX6_inLeast_15 (by decide) (lv' := [(5, .long x1), (0, .long a0), (2, .long a2), (4, .int a4)]) rfl ?_
    refine v_iload (pc := 17) C 3 rfl dX6_inLeast_17 ?_
    refine v_if_ne (pc := 19) C 29 dX6_inLeast_19 (by decide) ?_ ?_
    · refine v_lload_n (pc := 22) C 1 rfl dX6_inLeast_22 ?_
      refine v_lload (pc := 23) C 0 rfl dX6_inLeast_23 ?_
      refine v_ldivG (pc := 25) C dX6_inLeast_25 ?_
      refine v_goto (pc := 26) C 33 dX6_inLeast_26 (by decide) ?_
      exact tp_out (fun h => hret _ _ _ _ ⟨h, rfl⟩ dX6_inLeast_33)
    · refine v_lload_n (pc := 29) C 2 rfl dX6_inLeast_29 ?_
      refine v_lload (pc := 30) C 0 rfl dX6_inLeast_30 ?_
      refine v_ldivG (pc := 32) C dX6_inLeast_32 ?_
      exact tp_out (fun h => hret _ _ _ _ ⟨h, rfl⟩ dX6_inLeast_33)
def f6_best (a1 : Int32) (a2 : Int32) (a3 : Int32) (a4 : Int32) (s0 : SS) : Option (Int64 × SS) := bd (f6_isBody a1 s0) (fun x1 => if x1 = 0 then some ((-1), s0) else bd (f6_isPlace a2 s0) (fun x2 => if x2 = 0 then some ((-1), s0) else bd (f6_isPlace a3 s0) (fun x3 => if x3 = 0 then some ((-1), s0) else bd (f6_in a4 0 2) (fun x4 => if x4 = 0 then some ((-1), s0) else bd (f6_look a1 s0) (fun q5 => lt (fun (x8 : Int32) => bd (f6_goFrom x8 q5) (fun q9 => lt (fun (x12 : Int32) => gd (inb x12 13) (if (q9.2.1 8 x12.toNatClampNeg) = 0 then some ((-9), q9) else if a4 = 2 then gd (inb x12 13) (some ((Int32.toInt64 (q9.1 9 x12.toNatClampNeg)), q9)) else gd (inb x12 13) (bd (f6_inLeast (q9.2.1 8 x12.toNatClampNeg) 1000000000000 a4) (fun x13 => some (x13, q9))))) (fun j10 => if a3 = (-1) then j10 12 else j10 a3))) (fun j6 => if a2 = (-1) then j6 12 else j6 a2))))))
set_option maxHeartbeats 4000000 in
set_option maxRecDepth 100000 in
theorem m6_best (G : GT) (l : Launch) (a1 : Int32) (a2 : Int32) (a3 : Int32) (a4 : Int32)  (s0 : SS) (r : Int64) (s1 : SS) (hf : f6_best a1 a2 a3 a4 s0 = some (r, s1)) : ML G l yX6_best cX6_best 6 (some .long) 4 94 [.ref (aM G 0), .int a1, .int a2, .int a3, .int a4] (wM G s0) r (wM G s1) := by
  refine ML.start (by decide +kernel) (Nat.le_of_ble_eq_true rfl) (fun K hl C hret => ?_)
  subst hl
  have C : Ctx G K cX6_best RX6 6 4 94 := C
  change V G K (wM G s0) 0 [(0, .ref (aM G 0)), (1, .int a1), (2, .int a2), (3, .int a3), (4, .int a4)] []
  refine (?_ : tp (f6_best a1 a2 a3 a4 s0) (fun q => q = (r, s1)) → _) ⟨_, hf, rfl⟩
  rw [f6_best]
  refine v_aload_n (pc := 0) C 0 rfl dX6_best_0 ?_
  refine v_iload_n (pc := 1) C 1 rfl dX6_best_1 ?_
  refine cIv1r (pc := 2) C (fun r9 h9 => m6_isBody G K.2.1 a1 s0 r9 h9) q_yX6_isBody mw_396 rc_6 ⟨by decide, by decide⟩ (Nat.le_of_ble_eq_true rfl) dX6_best_2 (fun x1 => ?_)
  refine v_if_eq (pc := 5) C 34 dX6_best_5 (by decide) ?_ ?_
  · refine v_ldc2 (pc := 34) C mw_558 dX6_best_34 ?_
    exact tp_out (fun h => hret _ _ _ _ ⟨(Prod.mk.inj h).1, congrArg (wM G) (Prod.mk.inj h).2⟩ dX6_best_37)
  · refine v_aload_n (pc := 8) C 0 rfl dX6_best_8 ?_
    refine v_iload_n (pc := 9) C 2 rfl dX6_best_9 ?_
    refine cIv1r (pc := 10) C (fun r9 h9 => m6_isPlace G K.2.1 a2 s0 r9 h9) q_yX6_isPlace mw_458 rc_6 ⟨by decide, by decide⟩ (Nat.le_of_ble_eq_true rfl) dX6_best_10 (fun x2 => ?_)
    refine v_if_eq (pc := 13) C 34 dX6_best_13 (by decide) ?_ ?_
    · refine v_ldc2 (pc := 34) C mw_558 dX6_best_34 ?_
      exact tp_out (fun h => hret _ _ _ _ ⟨(Prod.mk.inj h).1, congrArg (wM G) (Prod.mk.inj h).2⟩ dX6_best_37)
    · refine v_aload_n (pc := 16) C 0 rfl dX6_best_16 ?_
      refine v_iload_n (pc := 17) C 3 rfl dX6_best_17 ?_
      refine cIv1r (pc := 18) C (fun r9 h9 => m6_isPlace G K.2.1 a3 s0 r9 h9) q_yX6_isPlace mw_458 rc_6 ⟨by decide, by decide⟩ (Nat.le_of_ble_eq_true rfl) dX6_best_18 (fun x3 => ?_)
      refine v_if_eq (pc := 21) C 34 dX6_best_21 (by decide) ?_ ?_
      · refine v_ldc2 (pc := 34) C mw_558 dX6_best_34 ?_
        exact tp_out (fun h => hret _ _ _ _ ⟨(Prod.mk.inj h).1, congrArg (wM G) (Prod.mk.inj h).2⟩ dX6_best_37)
      · refine v_iload (pc := 24) C 4 rfl dX6_best_24 ?_
        refine v_iconst (pc := 26) C 0 dX6_best_26 (by decide) ?_
        refine v_iconst (pc := 27) C 2 dX6_best_27 (by decide) ?_
        refine cIs3r (pc := 28) C (fun r9 h9 => m6_in G K.2.1 a4 0 2 _ r9 h9) q_yX6_in mw_139 ⟨by decide, by decide⟩ (Nat.le_of_ble_eq_true rfl) dX6_best_28 (fun x4 => ?_)
        refine v_if_ne (pc := 31) C 38 dX6_best_31 (by decide) ?_ ?_
        · refine v_ldc2 (pc := 34) C mw_558 dX6_best_34 ?_
          exact tp_out (fun h => hret _ _ _ _ ⟨(Prod.mk.inj h).1, congrArg (wM G) (Prod.mk.inj h).2⟩ dX6_best_37)
        · refine v_aload_n (pc := 38) C 0 rfl dX6_best_38 ?_
          refine v_iload_n (pc := 39) C 1 rfl dX6_best_39 ?_
          refine cVv1w (pc := 40) C (W2 := wM G) (fun s9 h9 => m6_look G K.2.1 a1 s0 s9 h9) q_yX6_look mw_462 rc_6 ⟨by decide, by decide⟩ (Nat.le_of_ble_eq_true rfl) dX6_best_40 (fun q5 => ?_)
          refine v_aload_n (pc := 43) C 0 rfl dX6_best_43 ?_
          refine v_iload_n (pc := 44) C 2 rfl dX6_best_44 ?_
          refine v_iconst (pc := 45) C (-1) dX6_best_45 (by decide) ?_
          refine r_lJ (fun Φ0 j6 => ∀ (x8 : Int32), tp (j6 x8) Φ0 → V G K (wM G q5) 55 [(0, .ref (aM G 0)), (3, .int a3), (4, .int a4)] [.int x8, .ref (aM G 0)]) (fun x8 => ?_) (fun j6 hj7 => ?_)
          · refine cVv1w (pc := 55) C (W2 := wM G) (fun s9 h9 => m6_goFrom G K.2.1 x8 q5 s9 h9) q_yX6_goFrom mw_561 rc_6 ⟨by decide, by decide⟩ (Nat.le_of_ble_eq_true rfl) dX6_best_55 (fun q9 => ?_)
            refine v_iload_n (pc := 58) C 1 rfl dX6_best_58 ?_
            refine v_iconst (pc := 59) C (-1) dX6_best_59 (by decide) ?_
            refine r_lJ (fun Φ0 j10 => ∀ (x12 : Int32), tp (j10 x12) Φ0 → V G K (wM G q9) 69 [(0, .ref (aM G 0)), (4, .int a4)] [.int x12]) (fun x12 => ?_) (fun j10 hj11 => ?_)
            · refine v_istore (pc := 69) C dX6_best_69 (by decide) (lv' := [(5, .int x12), (0, .ref (aM G 0)), (4, .int a4)]) rfl ?_
              refine v_aload_n (pc := 71) C 1 rfl dX6_best_71 ?_
              refine g6_odds (pc := 72) C mw_107 dX6_best_72 ?_
              refine v_iload (pc := 75) C 0 rfl dX6_best_75 ?_
              refine v_lald (pc := 77) C _ am_8 dX6_best_77 ?_
              refine v_lconst (pc := 78) C 0 dX6_best_78 (by decide) ?_
              refine v_lcmp_ne (pc := 79) C 87 dX6_best_79 dX6_best_80 (by decide) ?_ ?_
              · refine v_ldc2 (pc := 83) C mw_559 dX6_best_83 ?_
                exact tp_out (fun h => hret _ _ _ _ ⟨(Prod.mk.inj h).1, congrArg (wM G) (Prod.mk.inj h).2⟩ dX6_best_86)
              · refine v_iload (pc := 87) C 2 rfl dX6_best_87 ?_
                refine v_iconst (pc := 89) C 2 dX6_best_89 (by decide) ?_
                refine v_icmp_ne (pc := 90) C 104 dX6_best_90 (by decide) ?_ ?_
                · refine v_aload_n (pc := 93) C 1 rfl dX6_best_93 ?_
                  refine g6_steps (pc := 94) C mw_108 dX6_best_94 ?_
                  refine v_iload (pc := 97) C 0 rfl dX6_best_97 ?_
                  refine v_iald (pc := 99) C _ am_9 dX6_best_99 ?_
                  refine v_i2l (pc := 100) C dX6_best_100 ?_
                  refine v_goto (pc := 101) C 119 dX6_best_101 (by decide) ?_
                  exact tp_out (fun h => hret _ _ _ _ ⟨(Prod.mk.inj h).1, congrArg (wM G) (Prod.mk.inj h).2⟩ dX6_best_119)
                · refine v_aload_n (pc := 104) C 1 rfl dX6_best_104 ?_
                  refine g6_odds (pc := 105) C mw_107 dX6_best_105 ?_
                  refine v_iload (pc := 108) C 0 rfl dX6_best_108 ?_
                  refine v_lald (pc := 110) C _ am_8 dX6_best_110 ?_
                  refine v_ldc2 (pc := 111) C mw_560 dX6_best_111 ?_
                  refine v_iload (pc := 114) C 2 rfl dX6_best_114 ?_
                  refine cLs3r (pc := 116) C (fun r9 h9 => m6_inLeast G K.2.1 (q9.2.1 8 x12.toNatClampNeg) 1000000000000 a4 _ r9 h9) q_yX6_inLeast mw_570 ⟨by decide, by decide⟩ (Nat.le_of_ble_eq_true rfl) dX6_best_116 (fun x13 => ?_)
                  exact tp_out (fun h => hret _ _ _ _ ⟨(Prod.mk.inj h).1, congrArg (wM G) (Prod.mk.inj h).2⟩ dX6_best_119)
            refine v_icmp_ne (pc := 60) C 68 dX6_best_60 (by decide) ?_ ?_
            · refine v_bipush (pc := 63) C 12 dX6_best_63 (by decide) ?_
              refine v_goto (pc := 65) C 69 dX6_best_65 (by decide) ?_
              exact v_to [0, 2] (hj11 _) rfl
            · refine v_iload_n (pc := 68) C 1 rfl dX6_best_68 ?_
              exact v_to [0, 2] (hj11 _) rfl
          refine v_icmp_ne (pc := 46) C 54 dX6_best_46 (by decide) ?_ ?_
          · refine v_bipush (pc := 49) C 12 dX6_best_49 (by decide) ?_
            refine v_goto (pc := 51) C 55 dX6_best_51 (by decide) ?_
            exact v_to [0, 3, 4] (hj7 _) rfl
          · refine v_iload_n (pc := 54) C 2 rfl dX6_best_54 ?_
            exact v_to [0, 3, 4] (hj7 _) rfl
def L6_highBy_10 (c1 : Int32) (s0 : SS) : Nat → Int32 → Int32 → Option (Int32)
  | 0, _, _ => none
  | n + 1, v2, v3 => gd (inb 0 2) (if v3 < (s0.1 2 (0 : Int32).toNatClampNeg) then gd (inb v3 13) (lt (fun (x4 : Int32) => lt (fun (x7 : Int32) => lt (v3 + 1) (fun x8 => L6_highBy_10 c1 s0 n x7 x8)) (fun j5 => lt (fun (_u : Unit) => j5 v2) (fun j9 => if x4 = 0 then j9 () else bd (f6_of v3 0 s0) (fun x11 => if x11 ≤ v2 then j9 () else bd (f6_of v3 0 s0) (fun x12 => j5 x12))))) (fun j2 => lt (fun (_u : Unit) => j2 0) (fun j13 => if (s0.2.1 8 v3.toNatClampNeg) ≤ 0 then j13 () else gd (inb v3 13) (if ((s0.2.1 8 v3.toNatClampNeg) * 100) < ((Int32.toInt64 c1) * 1000000000000) then j13 () else j2 1)))) else some v2)
def f6_highBy (a1 : Int32) (s0 : SS) : Option (Int32 × SS) := bd (f6_goFrom 12 s0) (fun q1 => bk1 (L6_highBy_10 a1 q1 FU 0 0) (fun x15 => some (x15, q1)))
set_option maxHeartbeats 4000000 in
set_option maxRecDepth 100000 in
theorem l6_highBy_10 {G : GT} {K : KT} (C : Ctx G K cX6_highBy RX6 5 4 94) (c1 : Int32) (s0 : SS) {Ψ : Int32 → Prop} (hx : ∀ (o1 : Int32), Ψ o1 → V G K (wM G s0) 90 [(2, .int o1)] []) : ∀ (n : Nat) (v2 : Int32) (v3 : Int32), tp (L6_highBy_10 c1 s0 n v2 v3) (k1 Ψ) → V G K (wM G s0) 10 [(0, .ref (aM G 0)), (1, .int c1), (2, .int v2), (3, .int v3)] [] := by
  intro n
  induction n with
  | zero => intro v2 v3 h; exact tp_no h
  | succ n ih =>
    intro v2 v3
    rw [L6_highBy_10]
    refine v_iload_n (pc := 10) C 3 rfl dX6_highBy_10 ?_
    refine v_aload_n (pc := 11) C 0 rfl dX6_highBy_11 ?_
    refine g6_branches (pc := 12) C mw_101 dX6_highBy_12 ?_
    refine v_iconst (pc := 15) C 0 dX6_highBy_15 (by decide) ?_
    refine v_iald (pc := 16) C _ am_2 dX6_highBy_16 ?_
    refine v_icmp_ge (pc := 17) C 90 dX6_highBy_17 (by decide) ?_ ?_
    · refine v_aload_n (pc := 20) C 0 rfl dX6_highBy_20 ?_
      refine g6_odds (pc := 21) C mw_107 dX6_highBy_21 ?_
      refine v_iload_n (pc := 24) C 3 rfl dX6_highBy_24 ?_
      refine v_lald (pc := 25) C _ am_8 dX6_highBy_25 ?_
      refine v_lconst (pc := 26) C 0 dX6_highBy_26 (by decide) ?_
      refine r_lJ (fun Φ0 j2 => ∀ (x4 : Int32), tp (j2 x4) Φ0 → V G K (wM G s0) 56 [(0, .ref (aM G 0)), (1, .int c1), (2, .int v2), (3, .int v3)] [.int x4]) (fun x4 => ?_) (fun j2 hj3 => ?_)
      · refine v_istore (pc := 56) C dX6_highBy_56 (by decide) (lv' := [(4, .int x4), (0, .ref (aM G 0)), (1, .int c1), (2, .int v2), (3, .int v3)]) rfl ?_
        refine v_iload (pc := 58) C 0 rfl dX6_highBy_58 ?_
        refine r_lJ (fun Φ0 j5 => ∀ (x7 : Int32), tp (j5 x7) Φ0 → V G K (wM G s0) 83 [(0, .ref (aM G 0)), (1, .int c1), (3, .int v3)] [.int x7]) (fun x7 => ?_) (fun j5 hj6 => ?_)
        · refine v_istore_n (pc := 83) C dX6_highBy_83 (by decide) (lv' := [(2, .int x7), (0, .ref (aM G 0)), (1, .int c1), (3, .int v3)]) rfl ?_
          refine v_iincL (pc := 84) C 1 3 dX6_highBy_84 rfl (by decide) (by decide) (lv0 := [(2, .int x7), (0, .ref (aM G 0)), (1, .int c1)]) rfl (fun x8 => ?_)
          refine v_goto (pc := 87) C 10 dX6_highBy_87 (by decide) ?_
          exact v_to [2, 3, 1, 0] (ih _ _) rfl
        refine r_lJ (fun Φ0 j9 => ∀ (_u : Unit), tp (j9 ()) Φ0 → V G K (wM G s0) 82 [(0, .ref (aM G 0)), (1, .int c1), (2, .int v2), (3, .int v3)] []) (fun _u => ?_) (fun j9 hj10 => ?_)
        · refine v_iload_n (pc := 82) C 2 rfl dX6_highBy_82 ?_
          exact v_to [0, 1, 3] (hj6 _) rfl
        refine v_if_eq (pc := 60) C 82 dX6_highBy_60 (by decide) ?_ ?_
        · exact v_to [1, 2, 3, 4] (hj10 ()) rfl
        · refine v_aload_n (pc := 63) C 1 rfl dX6_highBy_63 ?_
          refine v_iload_n (pc := 64) C 4 rfl dX6_highBy_64 ?_
          refine v_iconst (pc := 65) C 0 dX6_highBy_65 (by decide) ?_
          refine cIv2r (pc := 66) C (fun r9 h9 => m6_of G K.2.1 v3 0 s0 r9 h9) q_yX6_of mw_376 rc_6 ⟨by decide, by decide⟩ (Nat.le_of_ble_eq_true rfl) dX6_highBy_66 (fun x11 => ?_)
          refine v_iload_n (pc := 69) C 3 rfl dX6_highBy_69 ?_
          refine v_icmp_le (pc := 70) C 82 dX6_highBy_70 (by decide) ?_ ?_
          · exact v_to [1, 2, 3, 4] (hj10 ()) rfl
          · refine v_aload_n (pc := 73) C 1 rfl dX6_highBy_73 ?_
            refine v_iload_n (pc := 74) C 4 rfl dX6_highBy_74 ?_
            refine v_iconst (pc := 75) C 0 dX6_highBy_75 (by decide) ?_
            refine cIv2r (pc := 76) C (fun r9 h9 => m6_of G K.2.1 v3 0 s0 r9 h9) q_yX6_of mw_376 rc_6 ⟨by decide, by decide⟩ (Nat.le_of_ble_eq_true rfl) dX6_highBy_76 (fun x12 => ?_)
            refine v_goto (pc := 79) C 83 dX6_highBy_79 (by decide) ?_
            exact v_to [1, 2, 4] (hj6 _) rfl
      refine r_lJ (fun Φ0 j13 => ∀ (_u : Unit), tp (j13 ()) Φ0 → V G K (wM G s0) 55 [(0, .ref (aM G 0)), (1, .int c1), (2, .int v2), (3, .int v3)] []) (fun _u => ?_) (fun j13 hj14 => ?_)
      · refine v_iconst (pc := 55) C 0 dX6_highBy_55 (by decide) ?_
        exact v_to [0, 1, 2, 3] (hj3 _) rfl
      refine v_lcmp_le (pc := 27) C 55 dX6_highBy_27 dX6_highBy_28 (by decide) ?_ ?_
      · exact v_to [0, 1, 2, 3] (hj14 ()) rfl
      · refine v_aload_n (pc := 31) C 0 rfl dX6_highBy_31 ?_
        refine g6_odds (pc := 32) C mw_107 dX6_highBy_32 ?_
        refine v_iload_n (pc := 35) C 3 rfl dX6_highBy_35 ?_
        refine v_lald (pc := 36) C _ am_8 dX6_highBy_36 ?_
        refine v_ldc2 (pc := 37) C mw_617 dX6_highBy_37 ?_
        refine v_lmul (pc := 40) C dX6_highBy_40 ?_
        refine v_iload_n (pc := 41) C 1 rfl dX6_highBy_41 ?_
        refine v_i2l (pc := 42) C dX6_highBy_42 ?_
        refine v_ldc2 (pc := 43) C mw_560 dX6_highBy_43 ?_
        refine v_lmul (pc := 46) C dX6_highBy_46 ?_
        refine v_lcmp_lt (pc := 47) C 55 dX6_highBy_47 dX6_highBy_48 (by decide) ?_ ?_
        · exact v_to [0, 1, 2, 3] (hj14 ()) rfl
        · refine v_iconst (pc := 51) C 1 dX6_highBy_51 (by decide) ?_
          refine v_goto (pc := 52) C 56 dX6_highBy_52 (by decide) ?_
          exact v_to [0, 1, 2, 3] (hj3 _) rfl
    · exact tp_out (fun h => v_to [2] (hx _) rfl h)
set_option maxHeartbeats 4000000 in
set_option maxRecDepth 100000 in
theorem m6_highBy (G : GT) (l : Launch) (a1 : Int32)  (s0 : SS) (r : Int32) (s1 : SS) (hf : f6_highBy a1 s0 = some (r, s1)) : MI G l yX6_highBy cX6_highBy 5 (some .int) 4 94 [.ref (aM G 0), .int a1] (wM G s0) r (wM G s1) := by
  refine MI.start (by decide +kernel) (Nat.le_of_ble_eq_true rfl) (fun K hl C hret => ?_)
  subst hl
  have C : Ctx G K cX6_highBy RX6 5 4 94 := C
  change V G K (wM G s0) 0 [(0, .ref (aM G 0)), (1, .int a1)] []
  refine (?_ : tp (f6_highBy a1 s0) (fun q => q = (r, s1)) → _) ⟨_, hf, rfl⟩
  rw [f6_highBy]
  refine v_aload_n (pc := 0) C 0 rfl dX6_highBy_0 ?_
  refine v_bipush (pc := 1) C 12 dX6_highBy_1 (by decide) ?_
  refine cVv1w (pc := 3) C (W2 := wM G) (fun s9 h9 => m6_goFrom G K.2.1 12 s0 s9 h9) q_yX6_goFrom mw_561 rc_6 ⟨by decide, by decide⟩ (Nat.le_of_ble_eq_true rfl) dX6_highBy_3 (fun q1 => ?_)
  refine v_iconst (pc := 6) C 0 dX6_highBy_6 (by decide) ?_
  refine v_istore_n (pc := 7) C dX6_highBy_7 (by decide) (lv' := [(2, .int 0), (0, .ref (aM G 0)), (1, .int a1)]) rfl ?_
  refine v_iconst (pc := 8) C 0 dX6_highBy_8 (by decide) ?_
  refine v_istore_n (pc := 9) C dX6_highBy_9 (by decide) (lv' := [(3, .int 0), (2, .int 0), (0, .ref (aM G 0)), (1, .int a1)]) rfl ?_
  refine r_bk1 ?_
  refine v_to [2, 3, 1, 0] (l6_highBy_10 C a1 q1 (fun x15 => ?_) FU _ _) rfl
  refine v_iload_n (pc := 90) C 0 rfl dX6_highBy_90 ?_
  exact tp_out (fun h => hret _ _ _ _ ⟨(Prod.mk.inj h).1, congrArg (wM G) (Prod.mk.inj h).2⟩ dX6_highBy_91)
def f6_comesDown (a1 : Int32) (s0 : SS) : Option (Int32 × SS) := bd (f6_goFrom a1 s0) (fun q1 => gd (inb 12 13) (if (q1.2.1 8 (12 : Int32).toNatClampNeg) ≤ 0 then some (0, q1) else some (1, q1)))
set_option maxHeartbeats 4000000 in
set_option maxRecDepth 100000 in
theorem m6_comesDown (G : GT) (l : Launch) (a1 : Int32)  (s0 : SS) (r : Int32) (s1 : SS) (hf : f6_comesDown a1 s0 = some (r, s1)) : MI G l yX6_comesDown cX6_comesDown 2 (some .boolean) 4 94 [.ref (aM G 0), .int a1] (wM G s0) r (wM G s1) := by
  refine MI.startZ (by decide +kernel) (Nat.le_of_ble_eq_true rfl) (fun K hl C hret => ?_)
  subst hl
  have C : Ctx G K cX6_comesDown RX6 2 4 94 := C
  change V G K (wM G s0) 0 [(0, .ref (aM G 0)), (1, .int a1)] []
  refine (?_ : tp (f6_comesDown a1 s0) (fun q => q = (r, s1)) → _) ⟨_, hf, rfl⟩
  rw [f6_comesDown]
  refine v_aload_n (pc := 0) C 0 rfl dX6_comesDown_0 ?_
  refine v_iload_n (pc := 1) C 1 rfl dX6_comesDown_1 ?_
  refine cVv1w (pc := 2) C (W2 := wM G) (fun s9 h9 => m6_goFrom G K.2.1 a1 s0 s9 h9) q_yX6_goFrom mw_561 rc_6 ⟨by decide, by decide⟩ (Nat.le_of_ble_eq_true rfl) dX6_comesDown_2 (fun q1 => ?_)
  refine v_aload_n (pc := 5) C 0 rfl dX6_comesDown_5 ?_
  refine g6_odds (pc := 6) C mw_107 dX6_comesDown_6 ?_
  refine v_bipush (pc := 9) C 12 dX6_comesDown_9 (by decide) ?_
  refine v_lald (pc := 11) C _ am_8 dX6_comesDown_11 ?_
  refine v_lconst (pc := 12) C 0 dX6_comesDown_12 (by decide) ?_
  refine v_lcmp_le (pc := 13) C 21 dX6_comesDown_13 dX6_comesDown_14 (by decide) ?_ ?_
  · refine v_iconst (pc := 21) C 0 dX6_comesDown_21 (by decide) ?_
    exact tp_out (fun h => hret _ _ _ _ ⟨(Prod.mk.inj h).1, congrArg (wM G) (Prod.mk.inj h).2⟩ (Or.inl rfl) dX6_comesDown_22)
  · refine v_iconst (pc := 17) C 1 dX6_comesDown_17 (by decide) ?_
    refine v_goto (pc := 18) C 22 dX6_comesDown_18 (by decide) ?_
    exact tp_out (fun h => hret _ _ _ _ ⟨(Prod.mk.inj h).1, congrArg (wM G) (Prod.mk.inj h).2⟩ (Or.inr rfl) dX6_comesDown_22)
def L6_reached_10 (s0 : SS) : Nat → Int32 → Int32 → Option (Int32)
  | 0, _, _ => none
  | n + 1, v1, v2 => gd (inb 0 2) (if v2 < (s0.1 2 (0 : Int32).toNatClampNeg) then gd (inb v2 13) (lt (fun (x4 : Int32) => lt ((v1 ||| x4)) (fun x5 => lt (v2 + 1) (fun x6 => L6_reached_10 s0 n x5 x6))) (fun j2 => if (s0.2.1 8 v2.toNatClampNeg) ≤ 0 then j2 0 else j2 ((1 : Int32) <<< (v2 &&& 31)))) else some v1)
def f6_reached  (s0 : SS) : Option (Int32 × SS) := bd (f6_goFrom 12 s0) (fun q1 => bk1 (L6_reached_10 q1 FU 0 0) (fun x7 => some (x7, q1)))
set_option maxHeartbeats 4000000 in
set_option maxRecDepth 100000 in
theorem l6_reached_10 {G : GT} {K : KT} (C : Ctx G K cX6_reached RX6 3 4 94) (s0 : SS) {Ψ : Int32 → Prop} (hx : ∀ (o1 : Int32), Ψ o1 → V G K (wM G s0) 47 [(1, .int o1)] []) : ∀ (n : Nat) (v1 : Int32) (v2 : Int32), tp (L6_reached_10 s0 n v1 v2) (k1 Ψ) → V G K (wM G s0) 10 [(0, .ref (aM G 0)), (1, .int v1), (2, .int v2)] [] := by
  intro n
  induction n with
  | zero => intro v1 v2 h; exact tp_no h
  | succ n ih =>
    intro v1 v2
    rw [L6_reached_10]
    refine v_iload_n (pc := 10) C 2 rfl dX6_reached_10 ?_
    refine v_aload_n (pc := 11) C 0 rfl dX6_reached_11 ?_
    refine g6_branches (pc := 12) C mw_101 dX6_reached_12 ?_
    refine v_iconst (pc := 15) C 0 dX6_reached_15 (by decide) ?_
    refine v_iald (pc := 16) C _ am_2 dX6_reached_16 ?_
    refine v_icmp_ge (pc := 17) C 47 dX6_reached_17 (by decide) ?_ ?_
    · refine v_iload_n (pc := 20) C 1 rfl dX6_reached_20 ?_
      refine v_aload_n (pc := 21) C 0 rfl dX6_reached_21 ?_
      refine g6_odds (pc := 22) C mw_107 dX6_reached_22 ?_
      refine v_iload_n (pc := 25) C 2 rfl dX6_reached_25 ?_
      refine v_lald (pc := 26) C _ am_8 dX6_reached_26 ?_
      refine v_lconst (pc := 27) C 0 dX6_reached_27 (by decide) ?_
      refine r_lJ (fun Φ0 j2 => ∀ (x4 : Int32), tp (j2 x4) Φ0 → V G K (wM G s0) 39 [(0, .ref (aM G 0)), (2, .int v2)] [.int x4, .int v1]) (fun x4 => ?_) (fun j2 hj3 => ?_)
      · refine v_ior (pc := 39) C dX6_reached_39 ?_
        refine r_lti (fun x5 => ?_)
        refine v_istore_n (pc := 40) C dX6_reached_40 (by decide) (lv' := [(1, .int x5), (0, .ref (aM G 0)), (2, .int v2)]) rfl ?_
        refine v_iincL (pc := 41) C 1 2 dX6_reached_41 rfl (by decide) (by decide) (lv0 := [(1, .int x5), (0, .ref (aM G 0))]) rfl (fun x6 => ?_)
        refine v_goto (pc := 44) C 10 dX6_reached_44 (by decide) ?_
        exact v_to [2, 1, 0] (ih _ _) rfl
      refine v_lcmp_le (pc := 28) C 38 dX6_reached_28 dX6_reached_29 (by decide) ?_ ?_
      · refine v_iconst (pc := 38) C 0 dX6_reached_38 (by decide) ?_
        exact v_to [0, 2] (hj3 _) rfl
      · refine v_iconst (pc := 32) C 1 dX6_reached_32 (by decide) ?_
        refine v_iload_n (pc := 33) C 2 rfl dX6_reached_33 ?_
        refine v_ishl (pc := 34) C dX6_reached_34 ?_
        refine v_goto (pc := 35) C 39 dX6_reached_35 (by decide) ?_
        exact v_to [0, 2] (hj3 _) rfl
    · exact tp_out (fun h => v_to [1] (hx _) rfl h)
set_option maxHeartbeats 4000000 in
set_option maxRecDepth 100000 in
theorem m6_reached (G : GT) (l : Launch)   (s0 : SS) (r : Int32) (s1 : SS) (hf : f6_reached s0 = some (r, s1)) : MI G l yX6_reached cX6_reached 3 (some .int) 4 94 [.ref (aM G 0)] (wM G s0) r (wM G s1) := by
  refine MI.start (by decide +kernel) (Nat.le_of_ble_eq_true rfl) (fun K hl C hret => ?_)
  subst hl
  have C : Ctx G K cX6_reached RX6 3 4 94 := C
  change V G K (wM G s0) 0 [(0, .ref (aM G 0))] []
  refine (?_ : tp (f6_reached s0) (fun q => q = (r, s1)) → _) ⟨_, hf, rfl⟩
  rw [f6_reached]
  refine v_aload_n (pc := 0) C 0 rfl dX6_reached_0 ?_
  refine v_bipush (pc := 1) C 12 dX6_reached_1 (by decide) ?_
  refine cVv1w (pc := 3) C (W2 := wM G) (fun s9 h9 => m6_goFrom G K.2.1 12 s0 s9 h9) q_yX6_goFrom mw_561 rc_6 ⟨by decide, by decide⟩ (Nat.le_of_ble_eq_true rfl) dX6_reached_3 (fun q1 => ?_)
  refine v_iconst (pc := 6) C 0 dX6_reached_6 (by decide) ?_
  refine v_istore_n (pc := 7) C dX6_reached_7 (by decide) (lv' := [(1, .int 0), (0, .ref (aM G 0))]) rfl ?_
  refine v_iconst (pc := 8) C 0 dX6_reached_8 (by decide) ?_
  refine v_istore_n (pc := 9) C dX6_reached_9 (by decide) (lv' := [(2, .int 0), (1, .int 0), (0, .ref (aM G 0))]) rfl ?_
  refine r_bk1 ?_
  refine v_to [2, 1, 0] (l6_reached_10 C q1 (fun x7 => ?_) FU _ _) rfl
  refine v_iload_n (pc := 47) C 0 rfl dX6_reached_47 ?_
  exact tp_out (fun h => hret _ _ _ _ ⟨(Prod.mk.inj h).1, congrArg (wM G) (Prod.mk.inj h).2⟩ dX6_reached_48)
def L6_high_45 (c3 : Int32) : Nat → Int32 → Int32 → SS → Option (Int32 × SS)
  | 0, _, _, _ => none
  | n + 1, v4, v5, s => gd (inb 0 2) (if v5 < (s.1 2 (0 : Int32).toNatClampNeg) then lt (fun (x10 : Int32) => lt (fun (x13 : Int32) (q14 : SS) => lt (v5 + 1) (fun x15 => L6_high_45 c3 n x13 x15 q14)) (fun j11 => lt (fun (q18 : SS) => j11 v4 q18) (fun j16 => if x10 = 0 then j16 s else bk2 (f6_comesDown v5 s) (fun x19 q20 => if x19 = 0 then j16 q20 else bd (f6_of v5 0 q20) (fun x21 => j11 x21 q20))))) (fun j8 => lt (fun (_u : Unit) => j8 0) (fun j22 => if ((c3 >>> (v5 &&& 31)) &&& 1) = 1 then bd (f6_of v5 0 s) (fun x24 => if x24 ≤ v4 then j22 () else j8 1) else j22 ())) else some (v4, s))
def f6_high (a1 : Int32) (a2 : Int32) (s0 : SS) : Option (Int32 × SS) := bd (f6_isBody a1 s0) (fun x1 => if x1 = 0 then some ((-1), s0) else bd (f6_in a2 0 1) (fun x2 => if x2 = 0 then some ((-1), s0) else bd (f6_look a1 s0) (fun q3 => if a2 = 0 then bk2 (f6_highBy 0 q3) (fun x4 q5 => some (x4, q5)) else bk2 (f6_reached q3) (fun x6 q7 => bk2 (L6_high_45 x6 FU 0 0 q7) (fun x25 q26 => some (x25, q26))))))
set_option maxHeartbeats 4000000 in
set_option maxRecDepth 100000 in
theorem l6_high_45 {G : GT} {K : KT} (C : Ctx G K cX6_high RX6 7 5 118) (c3 : Int32) {Ψ : Int32 → SS → Prop} (hx : ∀ (o1 : Int32) (so : SS), Ψ o1 so → V G K (wM G so) 119 [(4, .int o1)] []) : ∀ (n : Nat) (v4 : Int32) (v5 : Int32) (s : SS), tp (L6_high_45 c3 n v4 v5 s) (k2 Ψ) → V G K (wM G s) 45 [(0, .ref (aM G 0)), (3, .int c3), (4, .int v4), (5, .int v5)] [] := by
  intro n
  induction n with
  | zero => intro v4 v5 s h; exact tp_no h
  | succ n ih =>
    intro v4 v5 s
    rw [L6_high_45]
    refine v_iload (pc := 45) C 3 rfl dX6_high_45 ?_
    refine v_aload_n (pc := 47) C 0 rfl dX6_high_47 ?_
    refine g6_branches (pc := 48) C mw_101 dX6_high_48 ?_
    refine v_iconst (pc := 51) C 0 dX6_high_51 (by decide) ?_
    refine v_iald (pc := 52) C _ am_2 dX6_high_52 ?_
    refine v_icmp_ge (pc := 53) C 119 dX6_high_53 (by decide) ?_ ?_
    · refine v_iload_n (pc := 56) C 1 rfl dX6_high_56 ?_
      refine v_iload (pc := 57) C 3 rfl dX6_high_57 ?_
      refine v_ishr (pc := 59) C dX6_high_59 ?_
      refine v_iconst (pc := 60) C 1 dX6_high_60 (by decide) ?_
      refine v_iand (pc := 61) C dX6_high_61 ?_
      refine v_iconst (pc := 62) C 1 dX6_high_62 (by decide) ?_
      refine r_lJ (fun Φ0 j8 => ∀ (x10 : Int32), tp (j8 x10) Φ0 → V G K (wM G s) 83 [(0, .ref (aM G 0)), (3, .int c3), (4, .int v4), (5, .int v5)] [.int x10]) (fun x10 => ?_) (fun j8 hj9 => ?_)
      · refine v_istore (pc := 83) C dX6_high_83 (by decide) (lv' := [(6, .int x10), (0, .ref (aM G 0)), (3, .int c3), (4, .int v4), (5, .int v5)]) rfl ?_
        refine v_iload (pc := 85) C 0 rfl dX6_high_85 ?_
        refine r_lJ (fun Φ0 j11 => ∀ (x13 : Int32) (q14 : SS), tp (j11 x13 q14) Φ0 → V G K (wM G q14) 111 [(0, .ref (aM G 0)), (3, .int c3), (5, .int v5)] [.int x13]) (fun x13 q14 => ?_) (fun j11 hj12 => ?_)
        · refine v_istore (pc := 111) C dX6_high_111 (by decide) (lv' := [(4, .int x13), (0, .ref (aM G 0)), (3, .int c3), (5, .int v5)]) rfl ?_
          refine v_iincL (pc := 113) C 1 3 dX6_high_113 rfl (by decide) (by decide) (lv0 := [(4, .int x13), (0, .ref (aM G 0)), (3, .int c3)]) rfl (fun x15 => ?_)
          refine v_goto (pc := 116) C 45 dX6_high_116 (by decide) ?_
          exact v_to [2, 3, 1, 0] (ih _ _ _) rfl
        refine r_lJ (fun Φ0 j16 => ∀ (q18 : SS), tp (j16 q18) Φ0 → V G K (wM G q18) 109 [(0, .ref (aM G 0)), (3, .int c3), (4, .int v4), (5, .int v5)] []) (fun q18 => ?_) (fun j16 hj17 => ?_)
        · refine v_iload (pc := 109) C 2 rfl dX6_high_109 ?_
          exact v_to [0, 1, 3] (hj12 _ _) rfl
        refine v_if_eq (pc := 87) C 109 dX6_high_87 (by decide) ?_ ?_
        · exact v_to [1, 2, 3, 4] (hj17 _) rfl
        · refine v_aload_n (pc := 90) C 1 rfl dX6_high_90 ?_
          refine v_iload (pc := 91) C 4 rfl dX6_high_91 ?_
          refine cIv1w (pc := 93) C (W2 := wM G) (fun r9 s9 h9 => m6_comesDown G K.2.1 v5 s r9 s9 h9) q_yX6_comesDown mw_622 rc_6 ⟨by decide, by decide⟩ (Nat.le_of_ble_eq_true rfl) dX6_high_93 (fun x19 q20 => ?_)
          refine v_if_eq (pc := 96) C 109 dX6_high_96 (by decide) ?_ ?_
          · exact v_to [1, 2, 3, 4] (hj17 _) rfl
          · refine v_aload_n (pc := 99) C 1 rfl dX6_high_99 ?_
            refine v_iload (pc := 100) C 4 rfl dX6_high_100 ?_
            refine v_iconst (pc := 102) C 0 dX6_high_102 (by decide) ?_
            refine cIv2r (pc := 103) C (fun r9 h9 => m6_of G K.2.1 v5 0 q20 r9 h9) q_yX6_of mw_376 rc_6 ⟨by decide, by decide⟩ (Nat.le_of_ble_eq_true rfl) dX6_high_103 (fun x21 => ?_)
            refine v_goto (pc := 106) C 111 dX6_high_106 (by decide) ?_
            exact v_to [1, 2, 4] (hj12 _ _) rfl
      refine r_lJ (fun Φ0 j22 => ∀ (_u : Unit), tp (j22 ()) Φ0 → V G K (wM G s) 82 [(0, .ref (aM G 0)), (3, .int c3), (4, .int v4), (5, .int v5)] []) (fun _u => ?_) (fun j22 hj23 => ?_)
      · refine v_iconst (pc := 82) C 0 dX6_high_82 (by decide) ?_
        exact v_to [0, 1, 2, 3] (hj9 _) rfl
      refine v_icmp_ne (pc := 63) C 82 dX6_high_63 (by decide) ?_ ?_
      · refine v_aload_n (pc := 66) C 0 rfl dX6_high_66 ?_
        refine v_iload (pc := 67) C 3 rfl dX6_high_67 ?_
        refine v_iconst (pc := 69) C 0 dX6_high_69 (by decide) ?_
        refine cIv2r (pc := 70) C (fun r9 h9 => m6_of G K.2.1 v5 0 s r9 h9) q_yX6_of mw_376 rc_6 ⟨by decide, by decide⟩ (Nat.le_of_ble_eq_true rfl) dX6_high_70 (fun x24 => ?_)
        refine v_iload (pc := 73) C 2 rfl dX6_high_73 ?_
        refine v_icmp_le (pc := 75) C 82 dX6_high_75 (by decide) ?_ ?_
        · exact v_to [0, 1, 2, 3] (hj23 ()) rfl
        · refine v_iconst (pc := 78) C 1 dX6_high_78 (by decide) ?_
          refine v_goto (pc := 79) C 83 dX6_high_79 (by decide) ?_
          exact v_to [0, 1, 2, 3] (hj9 _) rfl
      · exact v_to [0, 1, 2, 3] (hj23 ()) rfl
    · exact tp_out (fun h => v_to [2] (hx _ _) rfl h)
set_option maxHeartbeats 4000000 in
set_option maxRecDepth 100000 in
theorem m6_high (G : GT) (l : Launch) (a1 : Int32) (a2 : Int32)  (s0 : SS) (r : Int32) (s1 : SS) (hf : f6_high a1 a2 s0 = some (r, s1)) : MI G l yX6_high cX6_high 7 (some .int) 5 118 [.ref (aM G 0), .int a1, .int a2] (wM G s0) r (wM G s1) := by
  refine MI.start (by decide +kernel) (Nat.le_of_ble_eq_true rfl) (fun K hl C hret => ?_)
  subst hl
  have C : Ctx G K cX6_high RX6 7 5 118 := C
  change V G K (wM G s0) 0 [(0, .ref (aM G 0)), (1, .int a1), (2, .int a2)] []
  refine (?_ : tp (f6_high a1 a2 s0) (fun q => q = (r, s1)) → _) ⟨_, hf, rfl⟩
  rw [f6_high]
  refine v_aload_n (pc := 0) C 0 rfl dX6_high_0 ?_
  refine v_iload_n (pc := 1) C 1 rfl dX6_high_1 ?_
  refine cIv1r (pc := 2) C (fun r9 h9 => m6_isBody G K.2.1 a1 s0 r9 h9) q_yX6_isBody mw_396 rc_6 ⟨by decide, by decide⟩ (Nat.le_of_ble_eq_true rfl) dX6_high_2 (fun x1 => ?_)
  refine v_if_eq (pc := 5) C 17 dX6_high_5 (by decide) ?_ ?_
  · refine v_iconst (pc := 17) C (-1) dX6_high_17 (by decide) ?_
    exact tp_out (fun h => hret _ _ _ _ ⟨(Prod.mk.inj h).1, congrArg (wM G) (Prod.mk.inj h).2⟩ dX6_high_18)
  · refine v_iload_n (pc := 8) C 2 rfl dX6_high_8 ?_
    refine v_iconst (pc := 9) C 0 dX6_high_9 (by decide) ?_
    refine v_iconst (pc := 10) C 1 dX6_high_10 (by decide) ?_
    refine cIs3r (pc := 11) C (fun r9 h9 => m6_in G K.2.1 a2 0 1 _ r9 h9) q_yX6_in mw_139 ⟨by decide, by decide⟩ (Nat.le_of_ble_eq_true rfl) dX6_high_11 (fun x2 => ?_)
    refine v_if_ne (pc := 14) C 19 dX6_high_14 (by decide) ?_ ?_
    · refine v_iconst (pc := 17) C (-1) dX6_high_17 (by decide) ?_
      exact tp_out (fun h => hret _ _ _ _ ⟨(Prod.mk.inj h).1, congrArg (wM G) (Prod.mk.inj h).2⟩ dX6_high_18)
    · refine v_aload_n (pc := 19) C 0 rfl dX6_high_19 ?_
      refine v_iload_n (pc := 20) C 1 rfl dX6_high_20 ?_
      refine cVv1w (pc := 21) C (W2 := wM G) (fun s9 h9 => m6_look G K.2.1 a1 s0 s9 h9) q_yX6_look mw_462 rc_6 ⟨by decide, by decide⟩ (Nat.le_of_ble_eq_true rfl) dX6_high_21 (fun q3 => ?_)
      refine v_iload_n (pc := 24) C 2 rfl dX6_high_24 ?_
      refine v_if_ne (pc := 25) C 34 dX6_high_25 (by decide) ?_ ?_
      · refine v_aload_n (pc := 28) C 0 rfl dX6_high_28 ?_
        refine v_iconst (pc := 29) C 0 dX6_high_29 (by decide) ?_
        refine cIv1w (pc := 30) C (W2 := wM G) (fun r9 s9 h9 => m6_highBy G K.2.1 0 q3 r9 s9 h9) q_yX6_highBy mw_613 rc_6 ⟨by decide, by decide⟩ (Nat.le_of_ble_eq_true rfl) dX6_high_30 (fun x4 q5 => ?_)
        exact tp_out (fun h => hret _ _ _ _ ⟨(Prod.mk.inj h).1, congrArg (wM G) (Prod.mk.inj h).2⟩ dX6_high_33)
      · refine v_aload_n (pc := 34) C 0 rfl dX6_high_34 ?_
        refine cIv0w (pc := 35) C (W2 := wM G) (fun r9 s9 h9 => m6_reached G K.2.1 q3 r9 s9 h9) q_yX6_reached mw_618 rc_6 ⟨by decide, by decide⟩ (Nat.le_of_ble_eq_true rfl) dX6_high_35 (fun x6 q7 => ?_)
        refine v_istore_n (pc := 38) C dX6_high_38 (by decide) (lv' := [(3, .int x6), (0, .ref (aM G 0)), (1, .int a1), (2, .int a2)]) rfl ?_
        refine v_iconst (pc := 39) C 0 dX6_high_39 (by decide) ?_
        refine v_istore (pc := 40) C dX6_high_40 (by decide) (lv' := [(4, .int 0), (3, .int x6), (0, .ref (aM G 0)), (1, .int a1), (2, .int a2)]) rfl ?_
        refine v_iconst (pc := 42) C 0 dX6_high_42 (by decide) ?_
        refine v_istore (pc := 43) C dX6_high_43 (by decide) (lv' := [(5, .int 0), (4, .int 0), (3, .int x6), (0, .ref (aM G 0)), (1, .int a1), (2, .int a2)]) rfl ?_
        refine r_bk2 ?_
        refine v_to [3, 2, 1, 0] (l6_high_45 C x6 (fun x25 q26 => ?_) FU _ _ _) rfl
        refine v_iload (pc := 119) C 0 rfl dX6_high_119 ?_
        exact tp_out (fun h => hret _ _ _ _ ⟨(Prod.mk.inj h).1, congrArg (wM G) (Prod.mk.inj h).2⟩ dX6_high_121)
def f6_sure (a1 : Int32) (a2 : Int32) (s0 : SS) : Option (Int32 × SS) := bd (f6_isBody a1 s0) (fun x1 => if x1 = 0 then some ((-1), s0) else bd (f6_in a2 0 100) (fun x2 => if x2 = 0 then some ((-1), s0) else bd (f6_look a1 s0) (fun q3 => bk2 (f6_highBy a2 q3) (fun x4 q5 => some (x4, q5)))))
set_option maxHeartbeats 4000000 in
set_option maxRecDepth 100000 in
theorem m6_sure (G : GT) (l : Launch) (a1 : Int32) (a2 : Int32)  (s0 : SS) (r : Int32) (s1 : SS) (hf : f6_sure a1 a2 s0 = some (r, s1)) : MI G l yX6_sure cX6_sure 3 (some .int) 5 118 [.ref (aM G 0), .int a1, .int a2] (wM G s0) r (wM G s1) := by
  refine MI.start (by decide +kernel) (Nat.le_of_ble_eq_true rfl) (fun K hl C hret => ?_)
  subst hl
  have C : Ctx G K cX6_sure RX6 3 5 118 := C
  change V G K (wM G s0) 0 [(0, .ref (aM G 0)), (1, .int a1), (2, .int a2)] []
  refine (?_ : tp (f6_sure a1 a2 s0) (fun q => q = (r, s1)) → _) ⟨_, hf, rfl⟩
  rw [f6_sure]
  refine v_aload_n (pc := 0) C 0 rfl dX6_sure_0 ?_
  refine v_iload_n (pc := 1) C 1 rfl dX6_sure_1 ?_
  refine cIv1r (pc := 2) C (fun r9 h9 => m6_isBody G K.2.1 a1 s0 r9 h9) q_yX6_isBody mw_396 rc_6 ⟨by decide, by decide⟩ (Nat.le_of_ble_eq_true rfl) dX6_sure_2 (fun x1 => ?_)
  refine v_if_eq (pc := 5) C 18 dX6_sure_5 (by decide) ?_ ?_
  · refine v_iconst (pc := 18) C (-1) dX6_sure_18 (by decide) ?_
    exact tp_out (fun h => hret _ _ _ _ ⟨(Prod.mk.inj h).1, congrArg (wM G) (Prod.mk.inj h).2⟩ dX6_sure_19)
  · refine v_iload_n (pc := 8) C 2 rfl dX6_sure_8 ?_
    refine v_iconst (pc := 9) C 0 dX6_sure_9 (by decide) ?_
    refine v_bipush (pc := 10) C 100 dX6_sure_10 (by decide) ?_
    refine cIs3r (pc := 12) C (fun r9 h9 => m6_in G K.2.1 a2 0 100 _ r9 h9) q_yX6_in mw_139 ⟨by decide, by decide⟩ (Nat.le_of_ble_eq_true rfl) dX6_sure_12 (fun x2 => ?_)
    refine v_if_ne (pc := 15) C 20 dX6_sure_15 (by decide) ?_ ?_
    · refine v_iconst (pc := 18) C (-1) dX6_sure_18 (by decide) ?_
      exact tp_out (fun h => hret _ _ _ _ ⟨(Prod.mk.inj h).1, congrArg (wM G) (Prod.mk.inj h).2⟩ dX6_sure_19)
    · refine v_aload_n (pc := 20) C 0 rfl dX6_sure_20 ?_
      refine v_iload_n (pc := 21) C 1 rfl dX6_sure_21 ?_
      refine cVv1w (pc := 22) C (W2 := wM G) (fun s9 h9 => m6_look G K.2.1 a1 s0 s9 h9) q_yX6_look mw_462 rc_6 ⟨by decide, by decide⟩ (Nat.le_of_ble_eq_true rfl) dX6_sure_22 (fun q3 => ?_)
      refine v_aload_n (pc := 25) C 0 rfl dX6_sure_25 ?_
      refine v_iload_n (pc := 26) C 2 rfl dX6_sure_26 ?_
      refine cIv1w (pc := 27) C (W2 := wM G) (fun r9 s9 h9 => m6_highBy G K.2.1 a2 q3 r9 s9 h9) q_yX6_highBy mw_613 rc_6 ⟨by decide, by decide⟩ (Nat.le_of_ble_eq_true rfl) dX6_sure_27 (fun x4 q5 => ?_)
      exact tp_out (fun h => hret _ _ _ _ ⟨(Prod.mk.inj h).1, congrArg (wM G) (Prod.mk.inj h).2⟩ dX6_sure_30)
def f6_help (a1 : Int32) (a2 : Int32) (s0 : SS) : Option (Int32 × SS) := bd (f6_isBody a1 s0) (fun x1 => if x1 = 0 then some ((-1), s0) else bd (f6_in a2 0 20) (fun x2 => if x2 = 0 then some ((-1), s0) else bd (f6_look a1 s0) (fun q3 => lt (sI q3 0 17 a2) (fun q4 => bk2 (f6_highBy 0 q4) (fun x5 q6 => lt (sI q6 0 17 0) (fun q7 => bk2 (f6_highBy 0 q7) (fun x8 q9 => some ((x5 - x8), q9))))))))
set_option maxHeartbeats 4000000 in
set_option maxRecDepth 100000 in
theorem m6_help (G : GT) (l : Launch) (a1 : Int32) (a2 : Int32)  (s0 : SS) (r : Int32) (s1 : SS) (hf : f6_help a1 a2 s0 = some (r, s1)) : MI G l yX6_help cX6_help 4 (some .int) 5 118 [.ref (aM G 0), .int a1, .int a2] (wM G s0) r (wM G s1) := by
  refine MI.start (by decide +kernel) (Nat.le_of_ble_eq_true rfl) (fun K hl C hret => ?_)
  subst hl
  have C : Ctx G K cX6_help RX6 4 5 118 := C
  change V G K (wM G s0) 0 [(0, .ref (aM G 0)), (1, .int a1), (2, .int a2)] []
  refine (?_ : tp (f6_help a1 a2 s0) (fun q => q = (r, s1)) → _) ⟨_, hf, rfl⟩
  rw [f6_help]
  refine v_aload_n (pc := 0) C 0 rfl dX6_help_0 ?_
  refine v_iload_n (pc := 1) C 1 rfl dX6_help_1 ?_
  refine cIv1r (pc := 2) C (fun r9 h9 => m6_isBody G K.2.1 a1 s0 r9 h9) q_yX6_isBody mw_396 rc_6 ⟨by decide, by decide⟩ (Nat.le_of_ble_eq_true rfl) dX6_help_2 (fun x1 => ?_)
  refine v_if_eq (pc := 5) C 18 dX6_help_5 (by decide) ?_ ?_
  · refine v_iconst (pc := 18) C (-1) dX6_help_18 (by decide) ?_
    exact tp_out (fun h => hret _ _ _ _ ⟨(Prod.mk.inj h).1, congrArg (wM G) (Prod.mk.inj h).2⟩ dX6_help_19)
  · refine v_iload_n (pc := 8) C 2 rfl dX6_help_8 ?_
    refine v_iconst (pc := 9) C 0 dX6_help_9 (by decide) ?_
    refine v_bipush (pc := 10) C 20 dX6_help_10 (by decide) ?_
    refine cIs3r (pc := 12) C (fun r9 h9 => m6_in G K.2.1 a2 0 20 _ r9 h9) q_yX6_in mw_139 ⟨by decide, by decide⟩ (Nat.le_of_ble_eq_true rfl) dX6_help_12 (fun x2 => ?_)
    refine v_if_ne (pc := 15) C 20 dX6_help_15 (by decide) ?_ ?_
    · refine v_iconst (pc := 18) C (-1) dX6_help_18 (by decide) ?_
      exact tp_out (fun h => hret _ _ _ _ ⟨(Prod.mk.inj h).1, congrArg (wM G) (Prod.mk.inj h).2⟩ dX6_help_19)
    · refine v_aload_n (pc := 20) C 0 rfl dX6_help_20 ?_
      refine v_iload_n (pc := 21) C 1 rfl dX6_help_21 ?_
      refine cVv1w (pc := 22) C (W2 := wM G) (fun s9 h9 => m6_look G K.2.1 a1 s0 s9 h9) q_yX6_look mw_462 rc_6 ⟨by decide, by decide⟩ (Nat.le_of_ble_eq_true rfl) dX6_help_22 (fun q3 => ?_)
      refine v_aload_n (pc := 25) C 0 rfl dX6_help_25 ?_
      refine v_iload_n (pc := 26) C 2 rfl dX6_help_26 ?_
      refine p6_backs (pc := 27) C mw_469 dX6_help_27 ?_
      refine r_ltm (fun q4 => ?_)
      refine v_aload_n (pc := 30) C 0 rfl dX6_help_30 ?_
      refine v_iconst (pc := 31) C 0 dX6_help_31 (by decide) ?_
      refine cIv1w (pc := 32) C (W2 := wM G) (fun r9 s9 h9 => m6_highBy G K.2.1 0 q4 r9 s9 h9) q_yX6_highBy mw_613 rc_6 ⟨by decide, by decide⟩ (Nat.le_of_ble_eq_true rfl) dX6_help_32 (fun x5 q6 => ?_)
      refine v_istore_n (pc := 35) C dX6_help_35 (by decide) (lv' := [(3, .int x5), (0, .ref (aM G 0)), (1, .int a1), (2, .int a2)]) rfl ?_
      refine v_aload_n (pc := 36) C 1 rfl dX6_help_36 ?_
      refine v_iconst (pc := 37) C 0 dX6_help_37 (by decide) ?_
      refine p6_backs (pc := 38) C mw_469 dX6_help_38 ?_
      refine r_ltm (fun q7 => ?_)
      refine v_iload_n (pc := 41) C 0 rfl dX6_help_41 ?_
      refine v_aload_n (pc := 42) C 1 rfl dX6_help_42 ?_
      refine v_iconst (pc := 43) C 0 dX6_help_43 (by decide) ?_
      refine cIv1w (pc := 44) C (W2 := wM G) (fun r9 s9 h9 => m6_highBy G K.2.1 0 q7 r9 s9 h9) q_yX6_highBy mw_613 rc_6 ⟨by decide, by decide⟩ (Nat.le_of_ble_eq_true rfl) dX6_help_44 (fun x8 q9 => ?_)
      refine v_isub (pc := 47) C dX6_help_47 ?_
      exact tp_out (fun h => hret _ _ _ _ ⟨(Prod.mk.inj h).1, congrArg (wM G) (Prod.mk.inj h).2⟩ dX6_help_48)
def L6_stuck_31 (c2 : Int32) (c3 : Int32) : Nat → Int32 → SS → Option ((SS) ⊕ (Int32 × SS))
  | 0, _, _ => none
  | n + 1, v4, s => if v4 ≤ 30 then lt (sI s 0 14 (c3 + v4)) (fun q5 => bk2 (f6_comesDown c2 q5) (fun x6 q7 => if x6 = 0 then lt (v4 + 1) (fun x8 => L6_stuck_31 c2 c3 n x8 q7) else some (.inr (v4, q7)))) else some (.inl s)
def f6_stuck (a1 : Int32) (a2 : Int32) (s0 : SS) : Option (Int32 × SS) := bd (f6_isBody a1 s0) (fun x1 => if x1 = 0 then some ((-1), s0) else bd (f6_isBranch a2 s0) (fun x2 => if x2 = 0 then some ((-1), s0) else bd (f6_look a1 s0) (fun q3 => lt ((q3.1 0 14)) (fun x4 => bs1 (L6_stuck_31 a2 x4 FU 0 q3) (fun q9 => some ((-9), q9)) (fun r => some r)))))
set_option maxHeartbeats 4000000 in
set_option maxRecDepth 100000 in
theorem l6_stuck_31 {G : GT} {K : KT} (C : Ctx G K cX6_stuck RX6 5 5 115) (c2 : Int32) (c3 : Int32) {Ψ : SS → Prop} (hx : ∀ (so : SS), Ψ so → V G K (wM G so) 63 [] []) {Φr : (Int32 × SS) → Prop} (hr : ∀ (r : Int32) (sr : SS), Φr (r, sr) → ∀ (pc : Nat) (lv : List (Nat × Value)), decode cX6_stuck pc = .ok (.ireturn, 1) → V G K (wM G sr) pc lv [.int r]) : ∀ (n : Nat) (v4 : Int32) (s : SS), tp (L6_stuck_31 c2 c3 n v4 s) (uS (k1 Ψ) Φr) → V G K (wM G s) 31 [(0, .ref (aM G 0)), (2, .int c2), (3, .int c3), (4, .int v4)] [] := by
  intro n
  induction n with
  | zero => intro v4 s h; exact tp_no h
  | succ n ih =>
    intro v4 s
    rw [L6_stuck_31]
    refine v_iload (pc := 31) C 3 rfl dX6_stuck_31 ?_
    refine v_bipush (pc := 33) C 30 dX6_stuck_33 (by decide) ?_
    refine v_icmp_gt (pc := 35) C 63 dX6_stuck_35 (by decide) ?_ ?_
    · refine v_aload_n (pc := 38) C 0 rfl dX6_stuck_38 ?_
      refine v_iload_n (pc := 39) C 2 rfl dX6_stuck_39 ?_
      refine v_iload (pc := 40) C 3 rfl dX6_stuck_40 ?_
      refine v_iadd (pc := 42) C dX6_stuck_42 ?_
      refine p6_reach (pc := 43) C mw_466 dX6_stuck_43 ?_
      refine r_ltm (fun q5 => ?_)
      refine v_aload_n (pc := 46) C 0 rfl dX6_stuck_46 ?_
      refine v_iload_n (pc := 47) C 1 rfl dX6_stuck_47 ?_
      refine cIv1w (pc := 48) C (W2 := wM G) (fun r9 s9 h9 => m6_comesDown G K.2.1 c2 q5 r9 s9 h9) q_yX6_comesDown mw_622 rc_6 ⟨by decide, by decide⟩ (Nat.le_of_ble_eq_true rfl) dX6_stuck_48 (fun x6 q7 => ?_)
      refine v_if_eq (pc := 51) C 57 dX6_stuck_51 (by decide) ?_ ?_
      · refine v_iincL (pc := 57) C 1 3 dX6_stuck_57 rfl (by decide) (by decide) (lv0 := [(0, .ref (aM G 0)), (2, .int c2), (3, .int c3)]) rfl (fun x8 => ?_)
        refine v_goto (pc := 60) C 31 dX6_stuck_60 (by decide) ?_
        exact v_to [1, 2, 3, 0] (ih _ _) rfl
      · refine v_iload (pc := 54) C 3 rfl dX6_stuck_54 ?_
        exact tp_out (fun h => hr _ _ h _ _ dX6_stuck_56)
    · exact tp_out (fun h => v_to [] (hx _) rfl h)
set_option maxHeartbeats 4000000 in
set_option maxRecDepth 100000 in
theorem m6_stuck (G : GT) (l : Launch) (a1 : Int32) (a2 : Int32)  (s0 : SS) (r : Int32) (s1 : SS) (hf : f6_stuck a1 a2 s0 = some (r, s1)) : MI G l yX6_stuck cX6_stuck 5 (some .int) 5 115 [.ref (aM G 0), .int a1, .int a2] (wM G s0) r (wM G s1) := by
  refine MI.start (by decide +kernel) (Nat.le_of_ble_eq_true rfl) (fun K hl C hret => ?_)
  subst hl
  have C : Ctx G K cX6_stuck RX6 5 5 115 := C
  change V G K (wM G s0) 0 [(0, .ref (aM G 0)), (1, .int a1), (2, .int a2)] []
  refine (?_ : tp (f6_stuck a1 a2 s0) (fun q => q = (r, s1)) → _) ⟨_, hf, rfl⟩
  rw [f6_stuck]
  refine v_aload_n (pc := 0) C 0 rfl dX6_stuck_0 ?_
  refine v_iload_n (pc := 1) C 1 rfl dX6_stuck_1 ?_
  refine cIv1r (pc := 2) C (fun r9 h9 => m6_isBody G K.2.1 a1 s0 r9 h9) q_yX6_isBody mw_396 rc_6 ⟨by decide, by decide⟩ (Nat.le_of_ble_eq_true rfl) dX6_stuck_2 (fun x1 => ?_)
  refine v_if_eq (pc := 5) C 16 dX6_stuck_5 (by decide) ?_ ?_
  · refine v_iconst (pc := 16) C (-1) dX6_stuck_16 (by decide) ?_
    exact tp_out (fun h => hret _ _ _ _ ⟨(Prod.mk.inj h).1, congrArg (wM G) (Prod.mk.inj h).2⟩ dX6_stuck_17)
  · refine v_aload_n (pc := 8) C 0 rfl dX6_stuck_8 ?_
    refine v_iload_n (pc := 9) C 2 rfl dX6_stuck_9 ?_
    refine cIv1r (pc := 10) C (fun r9 h9 => m6_isBranch G K.2.1 a2 s0 r9 h9) q_yX6_isBranch mw_368 rc_6 ⟨by decide, by decide⟩ (Nat.le_of_ble_eq_true rfl) dX6_stuck_10 (fun x2 => ?_)
    refine v_if_ne (pc := 13) C 18 dX6_stuck_13 (by decide) ?_ ?_
    · refine v_iconst (pc := 16) C (-1) dX6_stuck_16 (by decide) ?_
      exact tp_out (fun h => hret _ _ _ _ ⟨(Prod.mk.inj h).1, congrArg (wM G) (Prod.mk.inj h).2⟩ dX6_stuck_17)
    · refine v_aload_n (pc := 18) C 0 rfl dX6_stuck_18 ?_
      refine v_iload_n (pc := 19) C 1 rfl dX6_stuck_19 ?_
      refine cVv1w (pc := 20) C (W2 := wM G) (fun s9 h9 => m6_look G K.2.1 a1 s0 s9 h9) q_yX6_look mw_462 rc_6 ⟨by decide, by decide⟩ (Nat.le_of_ble_eq_true rfl) dX6_stuck_20 (fun q3 => ?_)
      refine v_aload_n (pc := 23) C 0 rfl dX6_stuck_23 ?_
      refine g6_reach (pc := 24) C mw_466 dX6_stuck_24 ?_
      refine r_lti (fun x4 => ?_)
      refine v_istore_n (pc := 27) C dX6_stuck_27 (by decide) (lv' := [(3, .int x4), (0, .ref (aM G 0)), (1, .int a1), (2, .int a2)]) rfl ?_
      refine v_iconst (pc := 28) C 0 dX6_stuck_28 (by decide) ?_
      refine v_istore (pc := 29) C dX6_stuck_29 (by decide) (lv' := [(4, .int 0), (3, .int x4), (0, .ref (aM G 0)), (1, .int a1), (2, .int a2)]) rfl ?_
      refine r_bs1 ?_
      refine v_to [2, 4, 1, 0] (l6_stuck_31 C a2 x4 (fun q9 => ?_) ?hr FU _ _) rfl
      case hr => exact (fun r9 s9 h pc lv d => by obtain ⟨a9, e9, h⟩ := h; cases e9; exact hret _ _ _ _ ⟨(Prod.mk.inj h).1, congrArg (wM G) (Prod.mk.inj h).2⟩ d)
      refine v_bipush (pc := 63) C (-9) dX6_stuck_63 (by decide) ?_
      exact tp_out (fun h => hret _ _ _ _ ⟨(Prod.mk.inj h).1, congrArg (wM G) (Prod.mk.inj h).2⟩ dX6_stuck_65)
def L6_countUps_2 (c1 : Int32) : Nat → Int32 → SS → Option (SS)
  | 0, _, _ => none
  | n + 1, v2, s => if v2 < 13 then lt (fun (x3 : Int64) => gd (inb v2 13) (lt (sL s 12 (Int32.toNatClampNeg v2) x3) (fun q4 => lt (v2 + 1) (fun x5 => L6_countUps_2 c1 n x5 q4)))) (fun j1 => if v2 = c1 then j1 1 else j1 0) else some s
def L6_countUps_69 (c2 : Int32) (c3 : Int32) : Nat → Int32 → SS → Option (SS)
  | 0, _, _ => none
  | n + 1, v4, s => if v4 < 13 then gd (inb c3 13) (gd (inb v4 13) (lt (fun (x12 : Int64) => gd (inb c3 13) (lt (sL s 12 (Int32.toNatClampNeg c3) ((s.2.1 12 c3.toNatClampNeg) + x12)) (fun q13 => lt (v4 + 1) (fun x14 => L6_countUps_69 c2 c3 n x14 q13)))) (fun j10 => lt (fun (_u : Unit) => j10 0) (fun j15 => if (s.2.1 12 v4.toNatClampNeg) ≤ 0 then j15 () else bd (f6_heightOf v4 s) (fun x17 => if x17 < c2 then bd (f6_mayStep v4 c3 s) (fun x18 => if x18 = 0 then j15 () else gd (inb v4 13) (j10 (s.2.1 12 v4.toNatClampNeg))) else j15 ()))))) else some s
def L6_countUps_46 (c2 : Int32) : Nat → Int32 → SS → Option (SS)
  | 0, _, _ => none
  | n + 1, v3, s => gd (inb 0 2) (if v3 < (s.1 2 (0 : Int32).toNatClampNeg) then bd (f6_of v3 0 s) (fun x9 => if x9 = c2 then bk1 (L6_countUps_69 c2 v3 FU 0 s) (fun q19 => lt (v3 + 1) (fun x20 => L6_countUps_46 c2 n x20 q19)) else lt (v3 + 1) (fun x21 => L6_countUps_46 c2 n x21 s)) else some s)
def L6_countUps_38 : Nat → Int32 → SS → Option (SS)
  | 0, _, _ => none
  | n + 1, v2, s => if v2 < 100 then bk1 (L6_countUps_46 v2 FU 0 s) (fun q22 => lt (v2 + 1) (fun x23 => L6_countUps_38 n x23 q22)) else some s
def f6_countUps (a1 : Int32) (s0 : SS) : Option SS := bk1 (L6_countUps_2 a1 FU 0 s0) (fun q6 => bd (f6_heightOf a1 q6) (fun x7 => lt ((x7 + 1)) (fun x8 => bk1 (L6_countUps_38 FU x8 q6) (fun q24 => some q24))))
set_option maxHeartbeats 4000000 in
set_option maxRecDepth 100000 in
theorem l6_countUps_2 {G : GT} {K : KT} (C : Ctx G K cX6_countUps RX6 5 3 68) (c1 : Int32) {Ψ : SS → Prop} (hx : ∀ (so : SS), Ψ so → V G K (wM G so) 30 [(0, .ref (aM G 0)), (1, .int c1)] []) : ∀ (n : Nat) (v2 : Int32) (s : SS), tp (L6_countUps_2 c1 n v2 s) (k1 Ψ) → V G K (wM G s) 2 [(0, .ref (aM G 0)), (1, .int c1), (2, .int v2)] [] := by
  intro n
  induction n with
  | zero => intro v2 s h; exact tp_no h
  | succ n ih =>
    intro v2 s
    rw [L6_countUps_2]
    refine v_iload_n (pc := 2) C 2 rfl dX6_countUps_2 ?_
    refine v_bipush (pc := 3) C 13 dX6_countUps_3 (by decide) ?_
    refine v_icmp_ge (pc := 5) C 30 dX6_countUps_5 (by decide) ?_ ?_
    · refine v_aload_n (pc := 8) C 0 rfl dX6_countUps_8 ?_
      refine g6_ups (pc := 9) C mw_111 dX6_countUps_9 ?_
      refine v_iload_n (pc := 12) C 2 rfl dX6_countUps_12 ?_
      refine v_iload_n (pc := 13) C 2 rfl dX6_countUps_13 ?_
      refine v_iload_n (pc := 14) C 1 rfl dX6_countUps_14 ?_
      refine r_lJ (fun Φ0 j1 => ∀ (x3 : Int64), tp (j1 x3) Φ0 → V G K (wM G s) 23 [(0, .ref (aM G 0)), (1, .int c1), (2, .int v2)] [.long x3, .int v2, .ref (aM G 12)]) (fun x3 => ?_) (fun j1 hj2 => ?_)
      · refine v_last (pc := 23) C _ am_12 (at_12 _ _) dX6_countUps_23 ?_
        refine r_ltm (fun q4 => ?_)
        refine v_iincL (pc := 24) C 1 2 dX6_countUps_24 rfl (by decide) (by decide) (lv0 := [(0, .ref (aM G 0)), (1, .int c1)]) rfl (fun x5 => ?_)
        refine v_goto (pc := 27) C 2 dX6_countUps_27 (by decide) ?_
        exact v_to [1, 2, 0] (ih _ _) rfl
      refine v_icmp_ne (pc := 15) C 22 dX6_countUps_15 (by decide) ?_ ?_
      · refine v_lconst (pc := 18) C 1 dX6_countUps_18 (by decide) ?_
        refine v_goto (pc := 19) C 23 dX6_countUps_19 (by decide) ?_
        exact v_to [0, 1, 2] (hj2 _) rfl
      · refine v_lconst (pc := 22) C 0 dX6_countUps_22 (by decide) ?_
        exact v_to [0, 1, 2] (hj2 _) rfl
    · exact tp_out (fun h => v_to [0, 1] (hx _) rfl h)
set_option maxHeartbeats 4000000 in
set_option maxRecDepth 100000 in
theorem l6_countUps_69 {G : GT} {K : KT} (C : Ctx G K cX6_countUps RX6 5 3 68) (c2 : Int32) (c3 : Int32) {Ψ : SS → Prop} (hx : ∀ (so : SS), Ψ so → V G K (wM G so) 134 [(0, .ref (aM G 0)), (2, .int c2), (3, .int c3)] []) : ∀ (n : Nat) (v4 : Int32) (s : SS), tp (L6_countUps_69 c2 c3 n v4 s) (k1 Ψ) → V G K (wM G s) 69 [(0, .ref (aM G 0)), (2, .int c2), (3, .int c3), (4, .int v4)] [] := by
  intro n
  induction n with
  | zero => intro v4 s h; exact tp_no h
  | succ n ih =>
    intro v4 s
    rw [L6_countUps_69]
    refine v_iload (pc := 69) C 3 rfl dX6_countUps_69 ?_
    refine v_bipush (pc := 71) C 13 dX6_countUps_71 (by decide) ?_
    refine v_icmp_ge (pc := 73) C 134 dX6_countUps_73 (by decide) ?_ ?_
    · refine v_aload_n (pc := 76) C 0 rfl dX6_countUps_76 ?_
      refine g6_ups (pc := 77) C mw_111 dX6_countUps_77 ?_
      refine v_iload_n (pc := 80) C 2 rfl dX6_countUps_80 ?_
      refine v_dup2 (pc := 81) C dX6_countUps_81 rfl rfl ?_
      refine v_lald (pc := 82) C _ am_12 dX6_countUps_82 ?_
      refine v_aload_n (pc := 83) C 0 rfl dX6_countUps_83 ?_
      refine g6_ups (pc := 84) C mw_111 dX6_countUps_84 ?_
      refine v_iload (pc := 87) C 3 rfl dX6_countUps_87 ?_
      refine v_lald (pc := 89) C _ am_12 dX6_countUps_89 ?_
      refine v_lconst (pc := 90) C 0 dX6_countUps_90 (by decide) ?_
      refine r_lJ (fun Φ0 j10 => ∀ (x12 : Int64), tp (j10 x12) Φ0 → V G K (wM G s) 126 [(0, .ref (aM G 0)), (2, .int c2), (3, .int c3), (4, .int v4)] [.long x12, .long (s.2.1 12 c3.toNatClampNeg), .int c3, .ref (aM G 12)]) (fun x12 => ?_) (fun j10 hj11 => ?_)
      · refine v_ladd (pc := 126) C dX6_countUps_126 ?_
        refine v_last (pc := 127) C _ am_12 (at_12 _ _) dX6_countUps_127 ?_
        refine r_ltm (fun q13 => ?_)
        refine v_iincL (pc := 128) C 1 3 dX6_countUps_128 rfl (by decide) (by decide) (lv0 := [(0, .ref (aM G 0)), (2, .int c2), (3, .int c3)]) rfl (fun x14 => ?_)
        refine v_goto (pc := 131) C 69 dX6_countUps_131 (by decide) ?_
        exact v_to [1, 2, 3, 0] (ih _ _) rfl
      refine r_lJ (fun Φ0 j15 => ∀ (_u : Unit), tp (j15 ()) Φ0 → V G K (wM G s) 125 [(0, .ref (aM G 0)), (2, .int c2), (3, .int c3), (4, .int v4)] [.long (s.2.1 12 c3.toNatClampNeg), .int c3, .ref (aM G 12)]) (fun _u => ?_) (fun j15 hj16 => ?_)
      · refine v_lconst (pc := 125) C 0 dX6_countUps_125 (by decide) ?_
        exact v_to [0, 1, 2, 3] (hj11 _) rfl
      refine v_lcmp_le (pc := 91) C 125 dX6_countUps_91 dX6_countUps_92 (by decide) ?_ ?_
      · exact v_to [0, 1, 2, 3] (hj16 ()) rfl
      · refine v_aload_n (pc := 95) C 0 rfl dX6_countUps_95 ?_
        refine v_iload (pc := 96) C 3 rfl dX6_countUps_96 ?_
        refine cIv1r (pc := 98) C (fun r9 h9 => m6_heightOf G K.2.1 v4 s r9 h9) q_yX6_heightOf mw_478 rc_6 ⟨by decide, by decide⟩ (Nat.le_of_ble_eq_true rfl) dX6_countUps_98 (fun x17 => ?_)
        refine v_iload_n (pc := 101) C 1 rfl dX6_countUps_101 ?_
        refine v_icmp_ge (pc := 102) C 125 dX6_countUps_102 (by decide) ?_ ?_
        · refine v_aload_n (pc := 105) C 0 rfl dX6_countUps_105 ?_
          refine v_iload (pc := 106) C 3 rfl dX6_countUps_106 ?_
          refine v_iload_n (pc := 108) C 2 rfl dX6_countUps_108 ?_
          refine cIv2r (pc := 109) C (fun r9 h9 => m6_mayStep G K.2.1 v4 c3 s r9 h9) q_yX6_mayStep mw_470 rc_6 ⟨by decide, by decide⟩ (Nat.le_of_ble_eq_true rfl) dX6_countUps_109 (fun x18 => ?_)
          refine v_if_eq (pc := 112) C 125 dX6_countUps_112 (by decide) ?_ ?_
          · exact v_to [0, 1, 2, 3] (hj16 ()) rfl
          · refine v_aload_n (pc := 115) C 0 rfl dX6_countUps_115 ?_
            refine g6_ups (pc := 116) C mw_111 dX6_countUps_116 ?_
            refine v_iload (pc := 119) C 3 rfl dX6_countUps_119 ?_
            refine v_lald (pc := 121) C _ am_12 dX6_countUps_121 ?_
            refine v_goto (pc := 122) C 126 dX6_countUps_122 (by decide) ?_
            exact v_to [0, 1, 2, 3] (hj11 _) rfl
        · exact v_to [0, 1, 2, 3] (hj16 ()) rfl
    · exact tp_out (fun h => v_to [0, 1, 2] (hx _) rfl h)
set_option maxHeartbeats 4000000 in
set_option maxRecDepth 100000 in
theorem l6_countUps_46 {G : GT} {K : KT} (C : Ctx G K cX6_countUps RX6 5 3 68) (c2 : Int32) {Ψ : SS → Prop} (hx : ∀ (so : SS), Ψ so → V G K (wM G so) 140 [(0, .ref (aM G 0)), (2, .int c2)] []) : ∀ (n : Nat) (v3 : Int32) (s : SS), tp (L6_countUps_46 c2 n v3 s) (k1 Ψ) → V G K (wM G s) 46 [(0, .ref (aM G 0)), (2, .int c2), (3, .int v3)] [] := by
  intro n
  induction n with
  | zero => intro v3 s h; exact tp_no h
  | succ n ih =>
    intro v3 s
    rw [L6_countUps_46]
    refine v_iload_n (pc := 46) C 2 rfl dX6_countUps_46 ?_
    refine v_aload_n (pc := 47) C 0 rfl dX6_countUps_47 ?_
    refine g6_branches (pc := 48) C mw_101 dX6_countUps_48 ?_
    refine v_iconst (pc := 51) C 0 dX6_countUps_51 (by decide) ?_
    refine v_iald (pc := 52) C _ am_2 dX6_countUps_52 ?_
    refine v_icmp_ge (pc := 53) C 140 dX6_countUps_53 (by decide) ?_ ?_
    · refine v_aload_n (pc := 56) C 0 rfl dX6_countUps_56 ?_
      refine v_iload_n (pc := 57) C 2 rfl dX6_countUps_57 ?_
      refine v_iconst (pc := 58) C 0 dX6_countUps_58 (by decide) ?_
      refine cIv2r (pc := 59) C (fun r9 h9 => m6_of G K.2.1 v3 0 s r9 h9) q_yX6_of mw_376 rc_6 ⟨by decide, by decide⟩ (Nat.le_of_ble_eq_true rfl) dX6_countUps_59 (fun x9 => ?_)
      refine v_iload_n (pc := 62) C 1 rfl dX6_countUps_62 ?_
      refine v_icmp_ne (pc := 63) C 134 dX6_countUps_63 (by decide) ?_ ?_
      · refine v_iconst (pc := 66) C 0 dX6_countUps_66 (by decide) ?_
        refine v_istore (pc := 67) C dX6_countUps_67 (by decide) (lv' := [(4, .int 0), (0, .ref (aM G 0)), (2, .int c2), (3, .int v3)]) rfl ?_
        refine r_bk1 ?_
        refine v_to [1, 2, 3, 0] (l6_countUps_69 C c2 v3 (fun q19 => ?_) FU _ _) rfl
        refine v_iincL (pc := 134) C 1 2 dX6_countUps_134 rfl (by decide) (by decide) (lv0 := [(0, .ref (aM G 0)), (2, .int c2)]) rfl (fun x20 => ?_)
        refine v_goto (pc := 137) C 46 dX6_countUps_137 (by decide) ?_
        exact v_to [1, 2, 0] (ih _ _) rfl
      · refine v_iincL (pc := 134) C 1 2 dX6_countUps_134 rfl (by decide) (by decide) (lv0 := [(0, .ref (aM G 0)), (2, .int c2)]) rfl (fun x21 => ?_)
        refine v_goto (pc := 137) C 46 dX6_countUps_137 (by decide) ?_
        exact v_to [1, 2, 0] (ih _ _) rfl
    · exact tp_out (fun h => v_to [0, 1] (hx _) rfl h)
set_option maxHeartbeats 4000000 in
set_option maxRecDepth 100000 in
theorem l6_countUps_38 {G : GT} {K : KT} (C : Ctx G K cX6_countUps RX6 5 3 68) {Ψ : SS → Prop} (hx : ∀ (so : SS), Ψ so → V G K (wM G so) 146 [] []) : ∀ (n : Nat) (v2 : Int32) (s : SS), tp (L6_countUps_38 n v2 s) (k1 Ψ) → V G K (wM G s) 38 [(0, .ref (aM G 0)), (2, .int v2)] [] := by
  intro n
  induction n with
  | zero => intro v2 s h; exact tp_no h
  | succ n ih =>
    intro v2 s
    rw [L6_countUps_38]
    refine v_iload_n (pc := 38) C 1 rfl dX6_countUps_38 ?_
    refine v_bipush (pc := 39) C 100 dX6_countUps_39 (by decide) ?_
    refine v_icmp_ge (pc := 41) C 146 dX6_countUps_41 (by decide) ?_ ?_
    · refine v_iconst (pc := 44) C 0 dX6_countUps_44 (by decide) ?_
      refine v_istore_n (pc := 45) C dX6_countUps_45 (by decide) (lv' := [(3, .int 0), (0, .ref (aM G 0)), (2, .int v2)]) rfl ?_
      refine r_bk1 ?_
      refine v_to [1, 2, 0] (l6_countUps_46 C v2 (fun q22 => ?_) FU _ _) rfl
      refine v_iincL (pc := 140) C 1 1 dX6_countUps_140 rfl (by decide) (by decide) (lv0 := [(0, .ref (aM G 0))]) rfl (fun x23 => ?_)
      refine v_goto (pc := 143) C 38 dX6_countUps_143 (by decide) ?_
      exact v_to [1, 0] (ih _ _) rfl
    · exact tp_out (fun h => v_to [] (hx _) rfl h)
set_option maxHeartbeats 4000000 in
set_option maxRecDepth 100000 in
theorem m6_countUps (G : GT) (l : Launch) (a1 : Int32)  (s0 : SS) (s1 : SS) (hf : f6_countUps a1 s0 = some s1) : MV G l yX6_countUps cX6_countUps 5 none 3 68 [.ref (aM G 0), .int a1] (wM G s0) (wM G s1) := by
  refine MV.start (by decide +kernel) (Nat.le_of_ble_eq_true rfl) (fun K hl C hret => ?_)
  subst hl
  have C : Ctx G K cX6_countUps RX6 5 3 68 := C
  change V G K (wM G s0) 0 [(0, .ref (aM G 0)), (1, .int a1)] []
  refine (?_ : tp (f6_countUps a1 s0) (fun q => q = s1) → _) ⟨_, hf, rfl⟩
  rw [f6_countUps]
  refine v_iconst (pc := 0) C 0 dX6_countUps_0 (by decide) ?_
  refine v_istore_n (pc := 1) C dX6_countUps_1 (by decide) (lv' := [(2, .int 0), (0, .ref (aM G 0)), (1, .int a1)]) rfl ?_
  refine r_bk1 ?_
  refine v_to [1, 2, 0] (l6_countUps_2 C a1 (fun q6 => ?_) FU _ _) rfl
  refine v_aload_n (pc := 30) C 0 rfl dX6_countUps_30 ?_
  refine v_iload_n (pc := 31) C 1 rfl dX6_countUps_31 ?_
  refine cIv1r (pc := 32) C (fun r9 h9 => m6_heightOf G K.2.1 a1 q6 r9 h9) q_yX6_heightOf mw_478 rc_6 ⟨by decide, by decide⟩ (Nat.le_of_ble_eq_true rfl) dX6_countUps_32 (fun x7 => ?_)
  refine v_iconst (pc := 35) C 1 dX6_countUps_35 (by decide) ?_
  refine v_iadd (pc := 36) C dX6_countUps_36 ?_
  refine r_lti (fun x8 => ?_)
  refine v_istore_n (pc := 37) C dX6_countUps_37 (by decide) (lv' := [(2, .int x8), (0, .ref (aM G 0)), (1, .int a1)]) rfl ?_
  refine r_bk1 ?_
  refine v_to [1, 0] (l6_countUps_38 C (fun q24 => ?_) FU _ _) rfl
  exact tp_out (fun h => hret _ _ _ (congrArg (wM G) h) dX6_countUps_146)
def L6_rubbed_62 (c2 : Int32) (c4 : Int32) (c5 : Int32) (c6 : Int64) (s0 : SS) : Nat → Int32 → Int32 → Option (Int32)
  | 0, _, _ => none
  | n + 1, v8, v9 => gd (inb 0 2) (if v9 < (s0.1 2 (0 : Int32).toNatClampNeg) then lt (fun (x7 : Int32) => lt (fun (x10 : Int32) => lt (v9 + 1) (fun x11 => L6_rubbed_62 c2 c4 c5 c6 s0 n x10 x11)) (fun j8 => if x7 = 0 then j8 v8 else j8 v9)) (fun j5 => lt (fun (_u : Unit) => j5 0) (fun j12 => if ((c4 >>> (v9 &&& 31)) &&& 1) = 1 then if v8 = (-9) then j5 1 else bd (f6_of v9 0 s0) (fun x14 => bd (f6_of v8 0 s0) (fun x15 => if x14 < x15 then j5 1 else j12 ())) else j12 ())) else some v8)
def L6_rubbed_50 (c2 : Int32) : Nat → Int32 → Int32 → Int64 → SS → Option (Int32 × Int64 × SS)
  | 0, _, _, _, _ => none
  | n + 1, v4, v5, v6, s => if v4 = 0 then some (v5, v6, s) else bk1 (L6_rubbed_62 c2 v4 v5 v6 s FU (-9) 0) (fun x16 => bd (f6_countUps v5 s) (fun q17 => gd (inb x16 13) (lt ((v6 * (q17.2.1 12 x16.toNatClampNeg))) (fun x18 => lt ((v4 &&& (((1 : Int32) <<< (x16 &&& 31)) ^^^ (-1)))) (fun x19 => L6_rubbed_50 c2 n x19 x16 x18 q17)))))
def f6_rubbed (a1 : Int32) (a2 : Int32) (a3 : Int32) (s0 : SS) : Option (Int64 × SS) := bd (f6_isBody a1 s0) (fun x1 => if x1 = 0 then some ((-1), s0) else bd (f6_isBranch a2 s0) (fun x2 => if x2 = 0 then some ((-1), s0) else bd (f6_look a1 s0) (fun q3 => gd (inb 0 2) (lt (((a3 &&& (((1 : Int32) <<< ((q3.1 2 (0 : Int32).toNatClampNeg) &&& 31)) - 1)) ||| ((1 : Int32) <<< (a2 &&& 31)))) (fun x4 => bk3 (L6_rubbed_50 a2 FU x4 12 1 q3) (fun x20 x21 q22 => if x20 = a2 then some (x21, q22) else some (0, q22)))))))
set_option maxHeartbeats 4000000 in
set_option maxRecDepth 100000 in
theorem l6_rubbed_62 {G : GT} {K : KT} (C : Ctx G K cX6_rubbed RX6 11 4 92) (c2 : Int32) (c4 : Int32) (c5 : Int32) (c6 : Int64) (s0 : SS) {Ψ : Int32 → Prop} (hx : ∀ (o1 : Int32), Ψ o1 → V G K (wM G s0) 135 [(0, .ref (aM G 0)), (2, .int c2), (4, .int c4), (5, .int c5), (6, .long c6), (8, .int o1)] []) : ∀ (n : Nat) (v8 : Int32) (v9 : Int32), tp (L6_rubbed_62 c2 c4 c5 c6 s0 n v8 v9) (k1 Ψ) → V G K (wM G s0) 62 [(0, .ref (aM G 0)), (2, .int c2), (4, .int c4), (5, .int c5), (6, .long c6), (8, .int v8), (9, .int v9)] [] := by
  intro n
  induction n with
  | zero => intro v8 v9 h; exact tp_no h
  | succ n ih =>
    intro v8 v9
    rw [L6_rubbed_62]
    refine v_iload (pc := 62) C 6 rfl dX6_rubbed_62 ?_
    refine v_aload_n (pc := 64) C 0 rfl dX6_rubbed_64 ?_
    refine g6_branches (pc := 65) C mw_101 dX6_rubbed_65 ?_
    refine v_iconst (pc := 68) C 0 dX6_rubbed_68 (by decide) ?_
    refine v_iald (pc := 69) C _ am_2 dX6_rubbed_69 ?_
    refine v_icmp_ge (pc := 70) C 135 dX6_rubbed_70 (by decide) ?_ ?_
    · refine v_iload (pc := 73) C 2 rfl dX6_rubbed_73 ?_
      refine v_iload (pc := 75) C 6 rfl dX6_rubbed_75 ?_
      refine v_ishr (pc := 77) C dX6_rubbed_77 ?_
      refine v_iconst (pc := 78) C 1 dX6_rubbed_78 (by decide) ?_
      refine v_iand (pc := 79) C dX6_rubbed_79 ?_
      refine v_iconst (pc := 80) C 1 dX6_rubbed_80 (by decide) ?_
      refine r_lJ (fun Φ0 j5 => ∀ (x7 : Int32), tp (j5 x7) Φ0 → V G K (wM G s0) 113 [(0, .ref (aM G 0)), (2, .int c2), (4, .int c4), (5, .int c5), (6, .long c6), (8, .int v8), (9, .int v9)] [.int x7]) (fun x7 => ?_) (fun j5 hj6 => ?_)
      · refine v_istore (pc := 113) C dX6_rubbed_113 (by decide) (lv' := [(10, .int x7), (0, .ref (aM G 0)), (2, .int c2), (4, .int c4), (5, .int c5), (6, .long c6), (8, .int v8), (9, .int v9)]) rfl ?_
        refine v_iload (pc := 115) C 0 rfl dX6_rubbed_115 ?_
        refine r_lJ (fun Φ0 j8 => ∀ (x10 : Int32), tp (j8 x10) Φ0 → V G K (wM G s0) 127 [(0, .ref (aM G 0)), (2, .int c2), (4, .int c4), (5, .int c5), (6, .long c6), (9, .int v9)] [.int x10]) (fun x10 => ?_) (fun j8 hj9 => ?_)
        · refine v_istore (pc := 127) C dX6_rubbed_127 (by decide) (lv' := [(8, .int x10), (0, .ref (aM G 0)), (2, .int c2), (4, .int c4), (5, .int c5), (6, .long c6), (9, .int v9)]) rfl ?_
          refine v_iincL (pc := 129) C 1 6 dX6_rubbed_129 rfl (by decide) (by decide) (lv0 := [(8, .int x10), (0, .ref (aM G 0)), (2, .int c2), (4, .int c4), (5, .int c5), (6, .long c6)]) rfl (fun x11 => ?_)
          refine v_goto (pc := 132) C 62 dX6_rubbed_132 (by decide) ?_
          exact v_to [2, 3, 4, 5, 6, 1, 0] (ih _ _) rfl
        refine v_if_eq (pc := 117) C 125 dX6_rubbed_117 (by decide) ?_ ?_
        · refine v_iload (pc := 125) C 6 rfl dX6_rubbed_125 ?_
          exact v_to [1, 2, 3, 4, 5, 7] (hj9 _) rfl
        · refine v_iload (pc := 120) C 7 rfl dX6_rubbed_120 ?_
          refine v_goto (pc := 122) C 127 dX6_rubbed_122 (by decide) ?_
          exact v_to [1, 2, 3, 4, 5, 7] (hj9 _) rfl
      refine r_lJ (fun Φ0 j12 => ∀ (_u : Unit), tp (j12 ()) Φ0 → V G K (wM G s0) 112 [(0, .ref (aM G 0)), (2, .int c2), (4, .int c4), (5, .int c5), (6, .long c6), (8, .int v8), (9, .int v9)] []) (fun _u => ?_) (fun j12 hj13 => ?_)
      · refine v_iconst (pc := 112) C 0 dX6_rubbed_112 (by decide) ?_
        exact v_to [0, 1, 2, 3, 4, 5, 6] (hj6 _) rfl
      refine v_icmp_ne (pc := 81) C 112 dX6_rubbed_81 (by decide) ?_ ?_
      · refine v_iload (pc := 84) C 5 rfl dX6_rubbed_84 ?_
        refine v_bipush (pc := 86) C (-9) dX6_rubbed_86 (by decide) ?_
        refine v_icmp_eq (pc := 88) C 108 dX6_rubbed_88 (by decide) ?_ ?_
        · refine v_iconst (pc := 108) C 1 dX6_rubbed_108 (by decide) ?_
          refine v_goto (pc := 109) C 113 dX6_rubbed_109 (by decide) ?_
          exact v_to [0, 1, 2, 3, 4, 5, 6] (hj6 _) rfl
        · refine v_aload_n (pc := 91) C 0 rfl dX6_rubbed_91 ?_
          refine v_iload (pc := 92) C 6 rfl dX6_rubbed_92 ?_
          refine v_iconst (pc := 94) C 0 dX6_rubbed_94 (by decide) ?_
          refine cIv2r (pc := 95) C (fun r9 h9 => m6_of G K.2.1 v9 0 s0 r9 h9) q_yX6_of mw_376 rc_6 ⟨by decide, by decide⟩ (Nat.le_of_ble_eq_true rfl) dX6_rubbed_95 (fun x14 => ?_)
          refine v_aload_n (pc := 98) C 0 rfl dX6_rubbed_98 ?_
          refine v_iload (pc := 99) C 5 rfl dX6_rubbed_99 ?_
          refine v_iconst (pc := 101) C 0 dX6_rubbed_101 (by decide) ?_
          refine cIv2r (pc := 102) C (fun r9 h9 => m6_of G K.2.1 v8 0 s0 r9 h9) q_yX6_of mw_376 rc_6 ⟨by decide, by decide⟩ (Nat.le_of_ble_eq_true rfl) dX6_rubbed_102 (fun x15 => ?_)
          refine v_icmp_ge (pc := 105) C 112 dX6_rubbed_105 (by decide) ?_ ?_
          · refine v_iconst (pc := 108) C 1 dX6_rubbed_108 (by decide) ?_
            refine v_goto (pc := 109) C 113 dX6_rubbed_109 (by decide) ?_
            exact v_to [0, 1, 2, 3, 4, 5, 6] (hj6 _) rfl
          · exact v_to [0, 1, 2, 3, 4, 5, 6] (hj13 ()) rfl
      · exact v_to [0, 1, 2, 3, 4, 5, 6] (hj13 ()) rfl
    · exact tp_out (fun h => v_to [0, 1, 2, 3, 4, 5] (hx _) rfl h)
set_option maxHeartbeats 4000000 in
set_option maxRecDepth 100000 in
theorem l6_rubbed_50 {G : GT} {K : KT} (C : Ctx G K cX6_rubbed RX6 11 4 92) (c2 : Int32) {Ψ : Int32 → Int64 → SS → Prop} (hx : ∀ (o1 : Int32) (o2 : Int64) (so : SS), Ψ o1 o2 so → V G K (wM G so) 171 [(2, .int c2), (5, .int o1), (6, .long o2)] []) : ∀ (n : Nat) (v4 : Int32) (v5 : Int32) (v6 : Int64) (s : SS), tp (L6_rubbed_50 c2 n v4 v5 v6 s) (k3 Ψ) → V G K (wM G s) 50 [(0, .ref (aM G 0)), (2, .int c2), (4, .int v4), (5, .int v5), (6, .long v6)] [] := by
  intro n
  induction n with
  | zero => intro v4 v5 v6 s h; exact tp_no h
  | succ n ih =>
    intro v4 v5 v6 s
    rw [L6_rubbed_50]
    refine v_iload (pc := 50) C 2 rfl dX6_rubbed_50 ?_
    refine v_if_eq (pc := 52) C 171 dX6_rubbed_52 (by decide) ?_ ?_
    · exact tp_out (fun h => v_to [1, 3, 4] (hx _ _ _) rfl h)
    · refine v_bipush (pc := 55) C (-9) dX6_rubbed_55 (by decide) ?_
      refine v_istore (pc := 57) C dX6_rubbed_57 (by decide) (lv' := [(8, .int (-9)), (0, .ref (aM G 0)), (2, .int c2), (4, .int v4), (5, .int v5), (6, .long v6)]) rfl ?_
      refine v_iconst (pc := 59) C 0 dX6_rubbed_59 (by decide) ?_
      refine v_istore (pc := 60) C dX6_rubbed_60 (by decide) (lv' := [(9, .int 0), (8, .int (-9)), (0, .ref (aM G 0)), (2, .int c2), (4, .int v4), (5, .int v5), (6, .long v6)]) rfl ?_
      refine r_bk1 ?_
      refine v_to [2, 3, 4, 5, 6, 1, 0] (l6_rubbed_62 C c2 v4 v5 v6 s (fun x16 => ?_) FU _ _) rfl
      refine v_aload_n (pc := 135) C 0 rfl dX6_rubbed_135 ?_
      refine v_iload (pc := 136) C 3 rfl dX6_rubbed_136 ?_
      refine cVv1w (pc := 138) C (W2 := wM G) (fun s9 h9 => m6_countUps G K.2.1 v5 s s9 h9) q_yX6_countUps mw_676 rc_6 ⟨by decide, by decide⟩ (Nat.le_of_ble_eq_true rfl) dX6_rubbed_138 (fun q17 => ?_)
      refine v_lload (pc := 141) C 4 rfl dX6_rubbed_141 ?_
      refine v_aload_n (pc := 143) C 0 rfl dX6_rubbed_143 ?_
      refine g6_ups (pc := 144) C mw_111 dX6_rubbed_144 ?_
      refine v_iload (pc := 147) C 5 rfl dX6_rubbed_147 ?_
      refine v_lald (pc := 149) C _ am_12 dX6_rubbed_149 ?_
      refine v_lmul (pc := 150) C dX6_rubbed_150 ?_
      refine r_ltl (fun x18 => ?_)
      refine v_lstore (pc := 151) C dX6_rubbed_151 (by decide) (lv' := [(6, .long x18), (0, .ref (aM G 0)), (2, .int c2), (4, .int v4), (5, .int v5), (8, .int x16)]) rfl ?_
      refine v_iload (pc := 153) C 3 rfl dX6_rubbed_153 ?_
      refine v_iconst (pc := 155) C 1 dX6_rubbed_155 (by decide) ?_
      refine v_iload (pc := 156) C 5 rfl dX6_rubbed_156 ?_
      refine v_ishl (pc := 158) C dX6_rubbed_158 ?_
      refine v_iconst (pc := 159) C (-1) dX6_rubbed_159 (by decide) ?_
      refine v_ixor (pc := 160) C dX6_rubbed_160 ?_
      refine v_iand (pc := 161) C dX6_rubbed_161 ?_
      refine r_lti (fun x19 => ?_)
      refine v_istore (pc := 162) C dX6_rubbed_162 (by decide) (lv' := [(4, .int x19), (6, .long x18), (0, .ref (aM G 0)), (2, .int c2), (5, .int v5), (8, .int x16)]) rfl ?_
      refine v_iload (pc := 164) C 5 rfl dX6_rubbed_164 ?_
      refine v_istore (pc := 166) C dX6_rubbed_166 (by decide) (lv' := [(5, .int x16), (4, .int x19), (6, .long x18), (0, .ref (aM G 0)), (2, .int c2), (8, .int x16)]) rfl ?_
      refine v_goto (pc := 168) C 50 dX6_rubbed_168 (by decide) ?_
      exact v_to [3, 4, 1, 0, 2] (ih _ _ _ _) rfl
set_option maxHeartbeats 4000000 in
set_option maxRecDepth 100000 in
theorem m6_rubbed (G : GT) (l : Launch) (a1 : Int32) (a2 : Int32) (a3 : Int32)  (s0 : SS) (r : Int64) (s1 : SS) (hf : f6_rubbed a1 a2 a3 s0 = some (r, s1)) : ML G l yX6_rubbed cX6_rubbed 11 (some .long) 4 92 [.ref (aM G 0), .int a1, .int a2, .int a3] (wM G s0) r (wM G s1) := by
  refine ML.start (by decide +kernel) (Nat.le_of_ble_eq_true rfl) (fun K hl C hret => ?_)
  subst hl
  have C : Ctx G K cX6_rubbed RX6 11 4 92 := C
  change V G K (wM G s0) 0 [(0, .ref (aM G 0)), (1, .int a1), (2, .int a2), (3, .int a3)] []
  refine (?_ : tp (f6_rubbed a1 a2 a3 s0) (fun q => q = (r, s1)) → _) ⟨_, hf, rfl⟩
  rw [f6_rubbed]
  refine v_aload_n (pc := 0) C 0 rfl dX6_rubbed_0 ?_
  refine v_iload_n (pc := 1) C 1 rfl dX6_rubbed_1 ?_
  refine cIv1r (pc := 2) C (fun r9 h9 => m6_isBody G K.2.1 a1 s0 r9 h9) q_yX6_isBody mw_396 rc_6 ⟨by decide, by decide⟩ (Nat.le_of_ble_eq_true rfl) dX6_rubbed_2 (fun x1 => ?_)
  refine v_if_eq (pc := 5) C 16 dX6_rubbed_5 (by decide) ?_ ?_
  · refine v_ldc2 (pc := 16) C mw_558 dX6_rubbed_16 ?_
    exact tp_out (fun h => hret _ _ _ _ ⟨(Prod.mk.inj h).1, congrArg (wM G) (Prod.mk.inj h).2⟩ dX6_rubbed_19)
  · refine v_aload_n (pc := 8) C 0 rfl dX6_rubbed_8 ?_
    refine v_iload_n (pc := 9) C 2 rfl dX6_rubbed_9 ?_
    refine cIv1r (pc := 10) C (fun r9 h9 => m6_isBranch G K.2.1 a2 s0 r9 h9) q_yX6_isBranch mw_368 rc_6 ⟨by decide, by decide⟩ (Nat.le_of_ble_eq_true rfl) dX6_rubbed_10 (fun x2 => ?_)
    refine v_if_ne (pc := 13) C 20 dX6_rubbed_13 (by decide) ?_ ?_
    · refine v_ldc2 (pc := 16) C mw_558 dX6_rubbed_16 ?_
      exact tp_out (fun h => hret _ _ _ _ ⟨(Prod.mk.inj h).1, congrArg (wM G) (Prod.mk.inj h).2⟩ dX6_rubbed_19)
    · refine v_aload_n (pc := 20) C 0 rfl dX6_rubbed_20 ?_
      refine v_iload_n (pc := 21) C 1 rfl dX6_rubbed_21 ?_
      refine cVv1w (pc := 22) C (W2 := wM G) (fun s9 h9 => m6_look G K.2.1 a1 s0 s9 h9) q_yX6_look mw_462 rc_6 ⟨by decide, by decide⟩ (Nat.le_of_ble_eq_true rfl) dX6_rubbed_22 (fun q3 => ?_)
      refine v_iload_n (pc := 25) C 3 rfl dX6_rubbed_25 ?_
      refine v_iconst (pc := 26) C 1 dX6_rubbed_26 (by decide) ?_
      refine v_aload_n (pc := 27) C 0 rfl dX6_rubbed_27 ?_
      refine g6_branches (pc := 28) C mw_101 dX6_rubbed_28 ?_
      refine v_iconst (pc := 31) C 0 dX6_rubbed_31 (by decide) ?_
      refine v_iald (pc := 32) C _ am_2 dX6_rubbed_32 ?_
      refine v_ishl (pc := 33) C dX6_rubbed_33 ?_
      refine v_iconst (pc := 34) C 1 dX6_rubbed_34 (by decide) ?_
      refine v_isub (pc := 35) C dX6_rubbed_35 ?_
      refine v_iand (pc := 36) C dX6_rubbed_36 ?_
      refine v_iconst (pc := 37) C 1 dX6_rubbed_37 (by decide) ?_
      refine v_iload_n (pc := 38) C 2 rfl dX6_rubbed_38 ?_
      refine v_ishl (pc := 39) C dX6_rubbed_39 ?_
      refine v_ior (pc := 40) C dX6_rubbed_40 ?_
      refine r_lti (fun x4 => ?_)
      refine v_istore (pc := 41) C dX6_rubbed_41 (by decide) (lv' := [(4, .int x4), (0, .ref (aM G 0)), (1, .int a1), (2, .int a2), (3, .int a3)]) rfl ?_
      refine v_bipush (pc := 43) C 12 dX6_rubbed_43 (by decide) ?_
      refine v_istore (pc := 45) C dX6_rubbed_45 (by decide) (lv' := [(5, .int 12), (4, .int x4), (0, .ref (aM G 0)), (1, .int a1), (2, .int a2), (3, .int a3)]) rfl ?_
      refine v_lconst (pc := 47) C 1 dX6_rubbed_47 (by decide) ?_
      refine v_lstore (pc := 48) C dX6_rubbed_48 (by decide) (lv' := [(6, .long 1), (5, .int 12), (4, .int x4), (0, .ref (aM G 0)), (1, .int a1), (2, .int a2), (3, .int a3)]) rfl ?_
      refine r_bk3 ?_
      refine v_to [3, 5, 2, 1, 0] (l6_rubbed_50 C a2 (fun x20 x21 q22 => ?_) FU _ _ _ _) rfl
      refine v_iload (pc := 171) C 1 rfl dX6_rubbed_171 ?_
      refine v_iload_n (pc := 173) C 0 rfl dX6_rubbed_173 ?_
      refine v_icmp_ne (pc := 174) C 182 dX6_rubbed_174 (by decide) ?_ ?_
      · refine v_lload (pc := 177) C 2 rfl dX6_rubbed_177 ?_
        refine v_goto (pc := 179) C 183 dX6_rubbed_179 (by decide) ?_
        exact tp_out (fun h => hret _ _ _ _ ⟨(Prod.mk.inj h).1, congrArg (wM G) (Prod.mk.inj h).2⟩ dX6_rubbed_183)
      · refine v_lconst (pc := 182) C 0 dX6_rubbed_182 (by decide) ?_
        exact tp_out (fun h => hret _ _ _ _ ⟨(Prod.mk.inj h).1, congrArg (wM G) (Prod.mk.inj h).2⟩ dX6_rubbed_183)
def L6_power_5 (c0 : Int32) (c1 : Int32) : Nat → Int64 → Int32 → Option (Int64)
  | 0, _, _ => none
  | n + 1, v2, v4 => if v4 < c1 then lt ((v2 * (Int32.toInt64 c0))) (fun x1 => lt (v4 + 1) (fun x2 => L6_power_5 c0 c1 n x1 x2)) else some v2
def f6_power (a0 : Int32) (a1 : Int32) : Option Int64 := bk1 (L6_power_5 a0 a1 FU 1 0) (fun x3 => some x3)
set_option maxHeartbeats 4000000 in
set_option maxRecDepth 100000 in
theorem l6_power_5 {G : GT} {K : KT} {w : va_W} (C : Ctx G K cX6_power RX6 5 0 0) (c0 : Int32) (c1 : Int32) {Ψ : Int64 → Prop} (hx : ∀ (o1 : Int64), Ψ o1 → V G K w 22 [(2, .long o1)] []) : ∀ (n : Nat) (v2 : Int64) (v4 : Int32), tp (L6_power_5 c0 c1 n v2 v4) (k1 Ψ) → V G K w 5 [(0, .int c0), (1, .int c1), (2, .long v2), (4, .int v4)] [] := by
  intro n
  induction n with
  | zero => intro v2 v4 h; exact tp_no h
  | succ n ih =>
    intro v2 v4
    rw [L6_power_5]
    refine v_iload (pc := 5) C 3 rfl dX6_power_5 ?_
    refine v_iload_n (pc := 7) C 1 rfl dX6_power_7 ?_
    refine v_icmp_ge (pc := 8) C 22 dX6_power_8 (by decide) ?_ ?_
    · refine v_lload_n (pc := 11) C 2 rfl dX6_power_11 ?_
      refine v_iload_n (pc := 12) C 0 rfl dX6_power_12 ?_
      refine v_i2l (pc := 13) C dX6_power_13 ?_
      refine v_lmul (pc := 14) C dX6_power_14 ?_
      refine r_ltl (fun x1 => ?_)
      refine v_lstore_n (pc := 15) C dX6_power_15 (by decide) (lv' := [(2, .long x1), (0, .int c0), (1, .int c1), (4, .int v4)]) rfl ?_
      refine v_iincL (pc := 16) C 1 3 dX6_power_16 rfl (by decide) (by decide) (lv0 := [(2, .long x1), (0, .int c0), (1, .int c1)]) rfl (fun x2 => ?_)
      refine v_goto (pc := 19) C 5 dX6_power_19 (by decide) ?_
      exact v_to [2, 3, 1, 0] (ih _ _) rfl
    · exact tp_out (fun h => v_to [2] (hx _) rfl h)
set_option maxHeartbeats 4000000 in
set_option maxRecDepth 100000 in
theorem m6_power (G : GT) (l : Launch) (a0 : Int32) (a1 : Int32)  (w : va_W) (r : Int64) (hf : f6_power a0 a1 = some r) : ML G l yX6_power cX6_power 5 (some .long) 0 0 [.int a0, .int a1] w r w := by
  refine ML.start (by decide +kernel) (Nat.le_of_ble_eq_true rfl) (fun K hl C hret => ?_)
  subst hl
  have C : Ctx G K cX6_power RX6 5 0 0 := C
  change V G K w 0 [(0, .int a0), (1, .int a1)] []
  refine (?_ : tp (f6_power a0 a1) (fun q => q = r) → _) ⟨_, hf, rfl⟩
  rw [f6_power]
  refine v_lconst (pc := 0) C 1 dX6_power_0 (by decide) ?_
  refine v_lstore_n (pc := 1) C dX6_power_1 (by decide) (lv' := [(2, .long 1), (0, .int a0), (1, .int a1)]) rfl ?_
  refine v_iconst (pc := 2) C 0 dX6_power_2 (by decide) ?_
  refine v_istore (pc := 3) C dX6_power_3 (by decide) (lv' := [(4, .int 0), (2, .long 1), (0, .int a0), (1, .int a1)]) rfl ?_
  refine r_bk1 ?_
  refine v_to [2, 3, 1, 0] (l6_power_5 C a0 a1 (fun x3 => ?_) FU _ _) rfl
  refine v_lload_n (pc := 22) C 0 rfl dX6_power_22 ?_
  exact tp_out (fun h => hret _ _ _ _ ⟨h, rfl⟩ dX6_power_23)
def f6_soundBy (a1 : Int32) (a2 : Int32) (s0 : SS) : Option Int64 := bd (f6_of a1 3 s0) (fun x1 => bd (f6_power 10 a2) (fun x2 => some ((Int32.toInt64 x1) * x2)))
set_option maxHeartbeats 4000000 in
set_option maxRecDepth 100000 in
theorem m6_soundBy (G : GT) (l : Launch) (a1 : Int32) (a2 : Int32)  (s0 : SS) (r : Int64) (hf : f6_soundBy a1 a2 s0 = some r) : ML G l yX6_soundBy cX6_soundBy 3 (some .long) 1 24 [.ref (aM G 0), .int a1, .int a2] (wM G s0) r (wM G s0) := by
  refine ML.start (by decide +kernel) (Nat.le_of_ble_eq_true rfl) (fun K hl C hret => ?_)
  subst hl
  have C : Ctx G K cX6_soundBy RX6 3 1 24 := C
  change V G K (wM G s0) 0 [(0, .ref (aM G 0)), (1, .int a1), (2, .int a2)] []
  refine (?_ : tp (f6_soundBy a1 a2 s0) (fun q => q = r) → _) ⟨_, hf, rfl⟩
  rw [f6_soundBy]
  refine v_aload_n (pc := 0) C 0 rfl dX6_soundBy_0 ?_
  refine v_iload_n (pc := 1) C 1 rfl dX6_soundBy_1 ?_
  refine v_iconst (pc := 2) C 3 dX6_soundBy_2 (by decide) ?_
  refine cIv2r (pc := 3) C (fun r9 h9 => m6_of G K.2.1 a1 3 s0 r9 h9) q_yX6_of mw_376 rc_6 ⟨by decide, by decide⟩ (Nat.le_of_ble_eq_true rfl) dX6_soundBy_3 (fun x1 => ?_)
  refine v_i2l (pc := 6) C dX6_soundBy_6 ?_
  refine v_bipush (pc := 7) C 10 dX6_soundBy_7 (by decide) ?_
  refine v_iload_n (pc := 9) C 2 rfl dX6_soundBy_9 ?_
  refine cLs2r (pc := 10) C (fun r9 h9 => m6_power G K.2.1 10 a2 _ r9 h9) q_yX6_power mw_704 ⟨by decide, by decide⟩ (Nat.le_of_ble_eq_true rfl) dX6_soundBy_10 (fun x2 => ?_)
  refine v_lmul (pc := 13) C dX6_soundBy_13 ?_
  exact tp_out (fun h => hret _ _ _ _ ⟨h, rfl⟩ dX6_soundBy_14)
def f6_allBy (a1 : Int32) (a2 : Int32) (a3 : Int32) (s0 : SS) : Option Int64 := bd (f6_soundBy a1 a3 s0) (fun x1 => bd (f6_of a1 3 s0) (fun x2 => bd (f6_power (10 - a2) a3) (fun x3 => some (x1 + ((Int32.toInt64 (10 - x2)) * x3)))))
set_option maxHeartbeats 4000000 in
set_option maxRecDepth 100000 in
theorem m6_allBy (G : GT) (l : Launch) (a1 : Int32) (a2 : Int32) (a3 : Int32)  (s0 : SS) (r : Int64) (hf : f6_allBy a1 a2 a3 s0 = some r) : ML G l yX6_allBy cX6_allBy 4 (some .long) 2 46 [.ref (aM G 0), .int a1, .int a2, .int a3] (wM G s0) r (wM G s0) := by
  refine ML.start (by decide +kernel) (Nat.le_of_ble_eq_true rfl) (fun K hl C hret => ?_)
  subst hl
  have C : Ctx G K cX6_allBy RX6 4 2 46 := C
  change V G K (wM G s0) 0 [(0, .ref (aM G 0)), (1, .int a1), (2, .int a2), (3, .int a3)] []
  refine (?_ : tp (f6_allBy a1 a2 a3 s0) (fun q => q = r) → _) ⟨_, hf, rfl⟩
  rw [f6_allBy]
  refine v_aload_n (pc := 0) C 0 rfl dX6_allBy_0 ?_
  refine v_iload_n (pc := 1) C 1 rfl dX6_allBy_1 ?_
  refine v_iload_n (pc := 2) C 3 rfl dX6_allBy_2 ?_
  refine cLv2r (pc := 3) C (fun r9 h9 => m6_soundBy G K.2.1 a1 a3 s0 r9 h9) q_yX6_soundBy mw_700 rc_6 ⟨by decide, by decide⟩ (Nat.le_of_ble_eq_true rfl) dX6_allBy_3 (fun x1 => ?_)
  refine v_bipush (pc := 6) C 10 dX6_allBy_6 (by decide) ?_
  refine v_aload_n (pc := 8) C 0 rfl dX6_allBy_8 ?_
  refine v_iload_n (pc := 9) C 1 rfl dX6_allBy_9 ?_
  refine v_iconst (pc := 10) C 3 dX6_allBy_10 (by decide) ?_
  refine cIv2r (pc := 11) C (fun r9 h9 => m6_of G K.2.1 a1 3 s0 r9 h9) q_yX6_of mw_376 rc_6 ⟨by decide, by decide⟩ (Nat.le_of_ble_eq_true rfl) dX6_allBy_11 (fun x2 => ?_)
  refine v_isub (pc := 14) C dX6_allBy_14 ?_
  refine v_i2l (pc := 15) C dX6_allBy_15 ?_
  refine v_bipush (pc := 16) C 10 dX6_allBy_16 (by decide) ?_
  refine v_iload_n (pc := 18) C 2 rfl dX6_allBy_18 ?_
  refine v_isub (pc := 19) C dX6_allBy_19 ?_
  refine v_iload_n (pc := 20) C 3 rfl dX6_allBy_20 ?_
  refine cLs2r (pc := 21) C (fun r9 h9 => m6_power G K.2.1 (10 - a2) a3 _ r9 h9) q_yX6_power mw_704 ⟨by decide, by decide⟩ (Nat.le_of_ble_eq_true rfl) dX6_allBy_21 (fun x3 => ?_)
  refine v_lmul (pc := 24) C dX6_allBy_24 ?_
  refine v_ladd (pc := 25) C dX6_allBy_25 ?_
  exact tp_out (fun h => hret _ _ _ _ ⟨h, rfl⟩ dX6_allBy_26)
def f6_tried (a1 : Int32) (a2 : Int32) (a3 : Int32) (a4 : Int32) (s0 : SS) : Option Int64 := bd (f6_isBranch a1 s0) (fun x1 => if x1 = 0 then some (-1) else bd (f6_in a2 0 10) (fun x2 => if x2 = 0 then some (-1) else bd (f6_in a3 0 9) (fun x3 => if x3 = 0 then some (-1) else bd (f6_in a4 0 1) (fun x4 => if x4 = 0 then some (-1) else bd (f6_soundBy a1 a3 s0) (fun x5 => bd (f6_allBy a1 a2 a3 s0) (fun x6 => bd (f6_inLeast x5 x6 a4) (fun x7 => some x7)))))))
set_option maxHeartbeats 4000000 in
set_option maxRecDepth 100000 in
theorem m6_tried (G : GT) (l : Launch) (a1 : Int32) (a2 : Int32) (a3 : Int32) (a4 : Int32)  (s0 : SS) (r : Int64) (hf : f6_tried a1 a2 a3 a4 s0 = some r) : ML G l yX6_tried cX6_tried 5 (some .long) 3 69 [.ref (aM G 0), .int a1, .int a2, .int a3, .int a4] (wM G s0) r (wM G s0) := by
  refine ML.start (by decide +kernel) (Nat.le_of_ble_eq_true rfl) (fun K hl C hret => ?_)
  subst hl
  have C : Ctx G K cX6_tried RX6 5 3 69 := C
  change V G K (wM G s0) 0 [(0, .ref (aM G 0)), (1, .int a1), (2, .int a2), (3, .int a3), (4, .int a4)] []
  refine (?_ : tp (f6_tried a1 a2 a3 a4 s0) (fun q => q = r) → _) ⟨_, hf, rfl⟩
  rw [f6_tried]
  refine v_aload_n (pc := 0) C 0 rfl dX6_tried_0 ?_
  refine v_iload_n (pc := 1) C 1 rfl dX6_tried_1 ?_
  refine cIv1r (pc := 2) C (fun r9 h9 => m6_isBranch G K.2.1 a1 s0 r9 h9) q_yX6_isBranch mw_368 rc_6 ⟨by decide, by decide⟩ (Nat.le_of_ble_eq_true rfl) dX6_tried_2 (fun x1 => ?_)
  refine v_if_eq (pc := 5) C 38 dX6_tried_5 (by decide) ?_ ?_
  · refine v_ldc2 (pc := 38) C mw_558 dX6_tried_38 ?_
    exact tp_out (fun h => hret _ _ _ _ ⟨h, rfl⟩ dX6_tried_41)
  · refine v_iload_n (pc := 8) C 2 rfl dX6_tried_8 ?_
    refine v_iconst (pc := 9) C 0 dX6_tried_9 (by decide) ?_
    refine v_bipush (pc := 10) C 10 dX6_tried_10 (by decide) ?_
    refine cIs3r (pc := 12) C (fun r9 h9 => m6_in G K.2.1 a2 0 10 _ r9 h9) q_yX6_in mw_139 ⟨by decide, by decide⟩ (Nat.le_of_ble_eq_true rfl) dX6_tried_12 (fun x2 => ?_)
    refine v_if_eq (pc := 15) C 38 dX6_tried_15 (by decide) ?_ ?_
    · refine v_ldc2 (pc := 38) C mw_558 dX6_tried_38 ?_
      exact tp_out (fun h => hret _ _ _ _ ⟨h, rfl⟩ dX6_tried_41)
    · refine v_iload_n (pc := 18) C 3 rfl dX6_tried_18 ?_
      refine v_iconst (pc := 19) C 0 dX6_tried_19 (by decide) ?_
      refine v_bipush (pc := 20) C 9 dX6_tried_20 (by decide) ?_
      refine cIs3r (pc := 22) C (fun r9 h9 => m6_in G K.2.1 a3 0 9 _ r9 h9) q_yX6_in mw_139 ⟨by decide, by decide⟩ (Nat.le_of_ble_eq_true rfl) dX6_tried_22 (fun x3 => ?_)
      refine v_if_eq (pc := 25) C 38 dX6_tried_25 (by decide) ?_ ?_
      · refine v_ldc2 (pc := 38) C mw_558 dX6_tried_38 ?_
        exact tp_out (fun h => hret _ _ _ _ ⟨h, rfl⟩ dX6_tried_41)
      · refine v_iload (pc := 28) C 4 rfl dX6_tried_28 ?_
        refine v_iconst (pc := 30) C 0 dX6_tried_30 (by decide) ?_
        refine v_iconst (pc := 31) C 1 dX6_tried_31 (by decide) ?_
        refine cIs3r (pc := 32) C (fun r9 h9 => m6_in G K.2.1 a4 0 1 _ r9 h9) q_yX6_in mw_139 ⟨by decide, by decide⟩ (Nat.le_of_ble_eq_true rfl) dX6_tried_32 (fun x4 => ?_)
        refine v_if_ne (pc := 35) C 42 dX6_tried_35 (by decide) ?_ ?_
        · refine v_ldc2 (pc := 38) C mw_558 dX6_tried_38 ?_
          exact tp_out (fun h => hret _ _ _ _ ⟨h, rfl⟩ dX6_tried_41)
        · refine v_aload_n (pc := 42) C 0 rfl dX6_tried_42 ?_
          refine v_iload_n (pc := 43) C 1 rfl dX6_tried_43 ?_
          refine v_iload_n (pc := 44) C 3 rfl dX6_tried_44 ?_
          refine cLv2r (pc := 45) C (fun r9 h9 => m6_soundBy G K.2.1 a1 a3 s0 r9 h9) q_yX6_soundBy mw_700 rc_6 ⟨by decide, by decide⟩ (Nat.le_of_ble_eq_true rfl) dX6_tried_45 (fun x5 => ?_)
          refine v_aload_n (pc := 48) C 0 rfl dX6_tried_48 ?_
          refine v_iload_n (pc := 49) C 1 rfl dX6_tried_49 ?_
          refine v_iload_n (pc := 50) C 2 rfl dX6_tried_50 ?_
          refine v_iload_n (pc := 51) C 3 rfl dX6_tried_51 ?_
          refine cLv3r (pc := 52) C (fun r9 h9 => m6_allBy G K.2.1 a1 a2 a3 s0 r9 h9) q_yX6_allBy mw_707 rc_6 ⟨by decide, by decide⟩ (Nat.le_of_ble_eq_true rfl) dX6_tried_52 (fun x6 => ?_)
          refine v_iload (pc := 55) C 4 rfl dX6_tried_55 ?_
          refine cLs3r (pc := 57) C (fun r9 h9 => m6_inLeast G K.2.1 x5 x6 a4 _ r9 h9) q_yX6_inLeast mw_570 ⟨by decide, by decide⟩ (Nat.le_of_ble_eq_true rfl) dX6_tried_57 (fun x7 => ?_)
          exact tp_out (fun h => hret _ _ _ _ ⟨h, rfl⟩ dX6_tried_60)
def L6_tries_33 (c1 : Int32) (c2 : Int32) (c3 : Int32) (s0 : SS) : Nat → Int32 → Option ((Unit) ⊕ Int32)
  | 0, _ => none
  | n + 1, v4 => if v4 < 10 then bd (f6_allBy c1 c2 v4 s0) (fun x4 => if x4 = 0 then if c3 = 0 then some (.inr v4) else lt (v4 + 1) (fun x5 => L6_tries_33 c1 c2 c3 s0 n x5) else bd (f6_soundBy c1 v4 s0) (fun x6 => if (100 * x6) < ((Int32.toInt64 c3) * x4) then lt (v4 + 1) (fun x7 => L6_tries_33 c1 c2 c3 s0 n x7) else some (.inr v4))) else some (.inl ())
def f6_tries (a1 : Int32) (a2 : Int32) (a3 : Int32) (s0 : SS) : Option Int32 := bd (f6_isBranch a1 s0) (fun x1 => if x1 = 0 then some (-1) else bd (f6_in a2 0 10) (fun x2 => if x2 = 0 then some (-1) else bd (f6_in a3 0 100) (fun x3 => if x3 = 0 then some (-1) else bs1 (L6_tries_33 a1 a2 a3 s0 FU 0) (fun _u => some (-9)) (fun r => some r))))
set_option maxHeartbeats 4000000 in
set_option maxRecDepth 100000 in
theorem l6_tries_33 {G : GT} {K : KT} (C : Ctx G K cX6_tries RX6 7 3 69) (c1 : Int32) (c2 : Int32) (c3 : Int32) (s0 : SS) {Ψ : Unit → Prop} (hx : ∀ (u0 : Unit), Ψ u0 → V G K (wM G s0) 93 [] []) {Φr : Int32 → Prop} (hr : ∀ (r : Int32), Φr r → ∀ (pc : Nat) (lv : List (Nat × Value)), decode cX6_tries pc = .ok (.ireturn, 1) → V G K (wM G s0) pc lv [.int r]) : ∀ (n : Nat) (v4 : Int32), tp (L6_tries_33 c1 c2 c3 s0 n v4) (uS (k1 Ψ) Φr) → V G K (wM G s0) 33 [(0, .ref (aM G 0)), (1, .int c1), (2, .int c2), (3, .int c3), (4, .int v4)] [] := by
  intro n
  induction n with
  | zero => intro v4 h; exact tp_no h
  | succ n ih =>
    intro v4
    rw [L6_tries_33]
    refine v_iload (pc := 33) C 4 rfl dX6_tries_33 ?_
    refine v_bipush (pc := 35) C 10 dX6_tries_35 (by decide) ?_
    refine v_icmp_ge (pc := 37) C 93 dX6_tries_37 (by decide) ?_ ?_
    · refine v_aload_n (pc := 40) C 0 rfl dX6_tries_40 ?_
      refine v_iload_n (pc := 41) C 1 rfl dX6_tries_41 ?_
      refine v_iload_n (pc := 42) C 2 rfl dX6_tries_42 ?_
      refine v_iload (pc := 43) C 4 rfl dX6_tries_43 ?_
      refine cLv3r (pc := 45) C (fun r9 h9 => m6_allBy G K.2.1 c1 c2 v4 s0 r9 h9) q_yX6_allBy mw_707 rc_6 ⟨by decide, by decide⟩ (Nat.le_of_ble_eq_true rfl) dX6_tries_45 (fun x4 => ?_)
      refine v_lstore (pc := 48) C dX6_tries_48 (by decide) (lv' := [(5, .long x4), (0, .ref (aM G 0)), (1, .int c1), (2, .int c2), (3, .int c3), (4, .int v4)]) rfl ?_
      refine v_lload (pc := 50) C 0 rfl dX6_tries_50 ?_
      refine v_lconst (pc := 52) C 0 dX6_tries_52 (by decide) ?_
      refine v_lcmp_ne (pc := 53) C 64 dX6_tries_53 dX6_tries_54 (by decide) ?_ ?_
      · refine v_iload_n (pc := 57) C 4 rfl dX6_tries_57 ?_
        refine v_if_ne (pc := 58) C 87 dX6_tries_58 (by decide) ?_ ?_
        · refine v_goto (pc := 61) C 84 dX6_tries_61 (by decide) ?_
          refine v_iload (pc := 84) C 5 rfl dX6_tries_84 ?_
          exact tp_out (fun h => hr _ h _ _ dX6_tries_86)
        · refine v_iincL (pc := 87) C 1 5 dX6_tries_87 rfl (by decide) (by decide) (lv0 := [(5, .long x4), (0, .ref (aM G 0)), (1, .int c1), (2, .int c2), (3, .int c3)]) rfl (fun x5 => ?_)
          refine v_goto (pc := 90) C 33 dX6_tries_90 (by decide) ?_
          exact v_to [2, 3, 4, 5, 0] (ih _) rfl
      · refine v_ldc2 (pc := 64) C mw_617 dX6_tries_64 ?_
        refine v_aload_n (pc := 67) C 1 rfl dX6_tries_67 ?_
        refine v_iload_n (pc := 68) C 2 rfl dX6_tries_68 ?_
        refine v_iload (pc := 69) C 5 rfl dX6_tries_69 ?_
        refine cLv2r (pc := 71) C (fun r9 h9 => m6_soundBy G K.2.1 c1 v4 s0 r9 h9) q_yX6_soundBy mw_700 rc_6 ⟨by decide, by decide⟩ (Nat.le_of_ble_eq_true rfl) dX6_tries_71 (fun x6 => ?_)
        refine v_lmul (pc := 74) C dX6_tries_74 ?_
        refine v_iload_n (pc := 75) C 4 rfl dX6_tries_75 ?_
        refine v_i2l (pc := 76) C dX6_tries_76 ?_
        refine v_lload (pc := 77) C 0 rfl dX6_tries_77 ?_
        refine v_lmul (pc := 79) C dX6_tries_79 ?_
        refine v_lcmp_lt (pc := 80) C 87 dX6_tries_80 dX6_tries_81 (by decide) ?_ ?_
        · refine v_iincL (pc := 87) C 1 5 dX6_tries_87 rfl (by decide) (by decide) (lv0 := [(5, .long x4), (0, .ref (aM G 0)), (1, .int c1), (2, .int c2), (3, .int c3)]) rfl (fun x7 => ?_)
          refine v_goto (pc := 90) C 33 dX6_tries_90 (by decide) ?_
          exact v_to [2, 3, 4, 5, 0] (ih _) rfl
        · refine v_iload (pc := 84) C 5 rfl dX6_tries_84 ?_
          exact tp_out (fun h => hr _ h _ _ dX6_tries_86)
    · exact tp_out (fun h => v_to [] (hx _) rfl h)
set_option maxHeartbeats 4000000 in
set_option maxRecDepth 100000 in
theorem m6_tries (G : GT) (l : Launch) (a1 : Int32) (a2 : Int32) (a3 : Int32)  (s0 : SS) (r : Int32) (hf : f6_tries a1 a2 a3 s0 = some r) : MI G l yX6_tries cX6_tries 7 (some .int) 3 69 [.ref (aM G 0), .int a1, .int a2, .int a3] (wM G s0) r (wM G s0) := by
  refine MI.start (by decide +kernel) (Nat.le_of_ble_eq_true rfl) (fun K hl C hret => ?_)
  subst hl
  have C : Ctx G K cX6_tries RX6 7 3 69 := C
  change V G K (wM G s0) 0 [(0, .ref (aM G 0)), (1, .int a1), (2, .int a2), (3, .int a3)] []
  refine (?_ : tp (f6_tries a1 a2 a3 s0) (fun q => q = r) → _) ⟨_, hf, rfl⟩
  rw [f6_tries]
  refine v_aload_n (pc := 0) C 0 rfl dX6_tries_0 ?_
  refine v_iload_n (pc := 1) C 1 rfl dX6_tries_1 ?_
  refine cIv1r (pc := 2) C (fun r9 h9 => m6_isBranch G K.2.1 a1 s0 r9 h9) q_yX6_isBranch mw_368 rc_6 ⟨by decide, by decide⟩ (Nat.le_of_ble_eq_true rfl) dX6_tries_2 (fun x1 => ?_)
  refine v_if_eq (pc := 5) C 28 dX6_tries_5 (by decide) ?_ ?_
  · refine v_iconst (pc := 28) C (-1) dX6_tries_28 (by decide) ?_
    exact tp_out (fun h => hret _ _ _ _ ⟨h, rfl⟩ dX6_tries_29)
  · refine v_iload_n (pc := 8) C 2 rfl dX6_tries_8 ?_
    refine v_iconst (pc := 9) C 0 dX6_tries_9 (by decide) ?_
    refine v_bipush (pc := 10) C 10 dX6_tries_10 (by decide) ?_
    refine cIs3r (pc := 12) C (fun r9 h9 => m6_in G K.2.1 a2 0 10 _ r9 h9) q_yX6_in mw_139 ⟨by decide, by decide⟩ (Nat.le_of_ble_eq_true rfl) dX6_tries_12 (fun x2 => ?_)
    refine v_if_eq (pc := 15) C 28 dX6_tries_15 (by decide) ?_ ?_
    · refine v_iconst (pc := 28) C (-1) dX6_tries_28 (by decide) ?_
      exact tp_out (fun h => hret _ _ _ _ ⟨h, rfl⟩ dX6_tries_29)
    · refine v_iload_n (pc := 18) C 3 rfl dX6_tries_18 ?_
      refine v_iconst (pc := 19) C 0 dX6_tries_19 (by decide) ?_
      refine v_bipush (pc := 20) C 100 dX6_tries_20 (by decide) ?_
      refine cIs3r (pc := 22) C (fun r9 h9 => m6_in G K.2.1 a3 0 100 _ r9 h9) q_yX6_in mw_139 ⟨by decide, by decide⟩ (Nat.le_of_ble_eq_true rfl) dX6_tries_22 (fun x3 => ?_)
      refine v_if_ne (pc := 25) C 30 dX6_tries_25 (by decide) ?_ ?_
      · refine v_iconst (pc := 28) C (-1) dX6_tries_28 (by decide) ?_
        exact tp_out (fun h => hret _ _ _ _ ⟨h, rfl⟩ dX6_tries_29)
      · refine v_iconst (pc := 30) C 0 dX6_tries_30 (by decide) ?_
        refine v_istore (pc := 31) C dX6_tries_31 (by decide) (lv' := [(4, .int 0), (0, .ref (aM G 0)), (1, .int a1), (2, .int a2), (3, .int a3)]) rfl ?_
        refine r_bs1 ?_
        refine v_to [1, 2, 3, 4, 0] (l6_tries_33 C a1 a2 a3 s0 (fun _u => ?_) ?hr FU _) rfl
        case hr => exact (fun r9 h pc lv d => by obtain ⟨a9, e9, h⟩ := h; cases e9; exact hret _ _ _ _ ⟨h, rfl⟩ d)
        refine v_bipush (pc := 93) C (-9) dX6_tries_93 (by decide) ?_
        exact tp_out (fun h => hret _ _ _ _ ⟨h, rfl⟩ dX6_tries_95)
