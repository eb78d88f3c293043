def f5_sway (a1 : Int32) (a2 : Int32) (a3 : Int32) (s0 : SS) : Option Int32 := bd (f5_isBody a1 s0) (fun x1 => lt (fun (_u : Unit) => some (-1)) (fun j2 => if x1 = 0 then j2 () else bd (f5_isBranch a2 s0) (fun x4 => if x4 = 0 then j2 () else if a3 < 0 then j2 () else if a3 ≤ 20 then bd (f5_swing a1 a2 a3 s0) (fun x5 => some x5) else j2 ())))
set_option maxHeartbeats 4000000 in
set_option maxRecDepth 100000 in
theorem m5_sway (G : GT) (l : Launch) (a1 : Int32) (a2 : Int32) (a3 : Int32)  (s0 : SS) (r : Int32) (hf : f5_sway a1 a2 a3 s0 = some r) : MI G l yX5_sway cX5_sway 4 (some .int) 2 52 [.ref (aX G 0), .int a1, .int a2, .int a3] (wX G s0) r (wX G s0) := by
  refine MI.start (by decide +kernel) (Nat.le_of_ble_eq_true rfl) (fun K hl C hret => ?_)
  subst hl
  have C : Ctx G K cX5_sway RX5 4 2 52 := C
  change V G K (wX G s0) 0 [(0, .ref (aX G 0)), (1, .int a1), (2, .int a2), (3, .int a3)] []
  refine (?_ : tp (f5_sway a1 a2 a3 s0) (fun q => q = r) → _) ⟨_, hf, rfl⟩
  rw [f5_sway]
  refine v_aload_n (pc := 0) C 0 rfl dX5_sway_0 ?_
  refine v_iload_n (pc := 1) C 1 rfl dX5_sway_1 ?_
  refine cIv1r (pc := 2) C (fun r9 h9 => m5_isBody G K.2.1 a1 s0 r9 h9) q_yX5_isBody mw_384 rc_5 ⟨by decide, by decide⟩ (Nat.le_of_ble_eq_true rfl) dX5_sway_2 (fun x1 => ?_)
  refine r_lJ (fun Φ0 j2 => ∀ (_u : Unit), tp (j2 ()) Φ0 → V G K (wX G s0) 36 [] []) (fun _u => ?_) (fun j2 hj3 => ?_)
  · refine v_iconst (pc := 36) C (-1) dX5_sway_36 (by decide) ?_
    exact tp_out (fun h => hret _ _ _ _ ⟨h, rfl⟩ dX5_sway_37)
  refine v_if_eq (pc := 5) C 36 dX5_sway_5 (by decide) ?_ ?_
  · exact v_to [] (hj3 ()) rfl
  · refine v_aload_n (pc := 8) C 0 rfl dX5_sway_8 ?_
    refine v_iload_n (pc := 9) C 2 rfl dX5_sway_9 ?_
    refine cIv1r (pc := 10) C (fun r9 h9 => m5_isBranch G K.2.1 a2 s0 r9 h9) q_yX5_isBranch mw_352 rc_5 ⟨by decide, by decide⟩ (Nat.le_of_ble_eq_true rfl) dX5_sway_10 (fun x4 => ?_)
    refine v_if_eq (pc := 13) C 36 dX5_sway_13 (by decide) ?_ ?_
    · exact v_to [] (hj3 ()) rfl
    · refine v_iload_n (pc := 16) C 3 rfl dX5_sway_16 ?_
      refine v_if_lt (pc := 17) C 36 dX5_sway_17 (by decide) ?_ ?_
      · exact v_to [] (hj3 ()) rfl
      · refine v_iload_n (pc := 20) C 3 rfl dX5_sway_20 ?_
        refine v_bipush (pc := 21) C 20 dX5_sway_21 (by decide) ?_
        refine v_icmp_gt (pc := 23) C 36 dX5_sway_23 (by decide) ?_ ?_
        · refine v_aload_n (pc := 26) C 0 rfl dX5_sway_26 ?_
          refine v_iload_n (pc := 27) C 1 rfl dX5_sway_27 ?_
          refine v_iload_n (pc := 28) C 2 rfl dX5_sway_28 ?_
          refine v_iload_n (pc := 29) C 3 rfl dX5_sway_29 ?_
          refine cIv3r (pc := 30) C (fun r9 h9 => m5_swing G K.2.1 a1 a2 a3 s0 r9 h9) q_yX5_swing mw_723 rc_5 ⟨by decide, by decide⟩ (Nat.le_of_ble_eq_true rfl) dX5_sway_30 (fun x5 => ?_)
          refine v_goto (pc := 33) C 37 dX5_sway_33 (by decide) ?_
          exact tp_out (fun h => hret _ _ _ _ ⟨h, rfl⟩ dX5_sway_37)
        · exact v_to [] (hj3 ()) rfl
def L5_calm_32 (c1 : Int32) (c2 : Int32) (c3 : Int32) (s0 : SS) : Nat → Int32 → Option ((Unit) ⊕ Int32)
  | 0, _ => none
  | n + 1, v4 => if v4 ≤ 20 then bd (f5_swing c1 c2 v4 s0) (fun x3 => if x3 ≤ c3 then lt (v4 + 1) (fun x4 => L5_calm_32 c1 c2 c3 s0 n x4) else some (.inr (v4 - 1))) else some (.inl ())
def f5_calm (a1 : Int32) (a2 : Int32) (a3 : Int32) (s0 : SS) : Option Int32 := bd (f5_isBody a1 s0) (fun x1 => if x1 = 0 then some (-1) else bd (f5_isBranch a2 s0) (fun x2 => if x2 = 0 then some (-1) else if a3 < 0 then some (-1) else if a3 ≤ 9999 then bs1 (L5_calm_32 a1 a2 a3 s0 FU 1) (fun _u => some 20) (fun r => some r) else some (-1)))
set_option maxHeartbeats 4000000 in
set_option maxRecDepth 100000 in
theorem l5_calm_32 {G : GT} {K : KT} (C : Ctx G K cX5_calm RX5 5 2 52) (c1 : Int32) (c2 : Int32) (c3 : Int32) (s0 : SS) {Ψ : Unit → Prop} (hx : ∀ (u0 : Unit), Ψ u0 → V G K (wX G s0) 62 [] []) {Φr : Int32 → Prop} (hr : ∀ (r : Int32), Φr r → ∀ (pc : Nat) (lv : List (Nat × Value)), decode cX5_calm pc = .ok (.ireturn, 1) → V G K (wX G s0) pc lv [.int r]) : ∀ (n : Nat) (v4 : Int32), tp (L5_calm_32 c1 c2 c3 s0 n v4) (uS (k1 Ψ) Φr) → V G K (wX G s0) 32 [(0, .ref (aX G 0)), (1, .int c1), (2, .int c2), (3, .int c3), (4, .int v4)] [] := by
  intro n
  induction n with
  | zero => intro v4 h; exact tp_no h
  | succ n ih =>
    intro v4
    rw [L5_calm_32]
    refine v_iload (pc := 32) C 4 rfl dX5_calm_32 ?_
    refine v_bipush (pc := 34) C 20 dX5_calm_34 (by decide) ?_
    refine v_icmp_gt (pc := 36) C 62 dX5_calm_36 (by decide) ?_ ?_
    · refine v_aload_n (pc := 39) C 0 rfl dX5_calm_39 ?_
      refine v_iload_n (pc := 40) C 1 rfl dX5_calm_40 ?_
      refine v_iload_n (pc := 41) C 2 rfl dX5_calm_41 ?_
      refine v_iload (pc := 42) C 4 rfl dX5_calm_42 ?_
      refine cIv3r (pc := 44) C (fun r9 h9 => m5_swing G K.2.1 c1 c2 v4 s0 r9 h9) q_yX5_swing mw_723 rc_5 ⟨by decide, by decide⟩ (Nat.le_of_ble_eq_true rfl) dX5_calm_44 (fun x3 => ?_)
      refine v_iload_n (pc := 47) C 3 rfl dX5_calm_47 ?_
      refine v_icmp_le (pc := 48) C 56 dX5_calm_48 (by decide) ?_ ?_
      · refine v_iincL (pc := 56) C 1 4 dX5_calm_56 rfl (by decide) (by decide) (lv0 := [(0, .ref (aX G 0)), (1, .int c1), (2, .int c2), (3, .int c3)]) rfl (fun x4 => ?_)
        refine v_goto (pc := 59) C 32 dX5_calm_59 (by decide) ?_
        exact v_to [1, 2, 3, 4, 0] (ih _) rfl
      · refine v_iload (pc := 51) C 4 rfl dX5_calm_51 ?_
        refine v_iconst (pc := 53) C 1 dX5_calm_53 (by decide) ?_
        refine v_isub (pc := 54) C dX5_calm_54 ?_
        exact tp_out (fun h => hr _ h _ _ dX5_calm_55)
    · exact tp_out (fun h => v_to [] (hx _) rfl h)
set_option maxHeartbeats 4000000 in
set_option maxRecDepth 100000 in
theorem m5_calm (G : GT) (l : Launch) (a1 : Int32) (a2 : Int32) (a3 : Int32)  (s0 : SS) (r : Int32) (hf : f5_calm a1 a2 a3 s0 = some r) : MI G l yX5_calm cX5_calm 5 (some .int) 2 52 [.ref (aX G 0), .int a1, .int a2, .int a3] (wX G s0) r (wX G s0) := by
  refine MI.start (by decide +kernel) (Nat.le_of_ble_eq_true rfl) (fun K hl C hret => ?_)
  subst hl
  have C : Ctx G K cX5_calm RX5 5 2 52 := C
  change V G K (wX G s0) 0 [(0, .ref (aX G 0)), (1, .int a1), (2, .int a2), (3, .int a3)] []
  refine (?_ : tp (f5_calm a1 a2 a3 s0) (fun q => q = r) → _) ⟨_, hf, rfl⟩
  rw [f5_calm]
  refine v_aload_n (pc := 0) C 0 rfl dX5_calm_0 ?_
  refine v_iload_n (pc := 1) C 1 rfl dX5_calm_1 ?_
  refine cIv1r (pc := 2) C (fun r9 h9 => m5_isBody G K.2.1 a1 s0 r9 h9) q_yX5_isBody mw_384 rc_5 ⟨by decide, by decide⟩ (Nat.le_of_ble_eq_true rfl) dX5_calm_2 (fun x1 => ?_)
  refine v_if_eq (pc := 5) C 27 dX5_calm_5 (by decide) ?_ ?_
  · refine v_iconst (pc := 27) C (-1) dX5_calm_27 (by decide) ?_
    exact tp_out (fun h => hret _ _ _ _ ⟨h, rfl⟩ dX5_calm_28)
  · refine v_aload_n (pc := 8) C 0 rfl dX5_calm_8 ?_
    refine v_iload_n (pc := 9) C 2 rfl dX5_calm_9 ?_
    refine cIv1r (pc := 10) C (fun r9 h9 => m5_isBranch G K.2.1 a2 s0 r9 h9) q_yX5_isBranch mw_352 rc_5 ⟨by decide, by decide⟩ (Nat.le_of_ble_eq_true rfl) dX5_calm_10 (fun x2 => ?_)
    refine v_if_eq (pc := 13) C 27 dX5_calm_13 (by decide) ?_ ?_
    · refine v_iconst (pc := 27) C (-1) dX5_calm_27 (by decide) ?_
      exact tp_out (fun h => hret _ _ _ _ ⟨h, rfl⟩ dX5_calm_28)
    · refine v_iload_n (pc := 16) C 3 rfl dX5_calm_16 ?_
      refine v_if_lt (pc := 17) C 27 dX5_calm_17 (by decide) ?_ ?_
      · refine v_iconst (pc := 27) C (-1) dX5_calm_27 (by decide) ?_
        exact tp_out (fun h => hret _ _ _ _ ⟨h, rfl⟩ dX5_calm_28)
      · refine v_iload_n (pc := 20) C 3 rfl dX5_calm_20 ?_
        refine v_sipush (pc := 21) C 9999 dX5_calm_21 (by decide) ?_
        refine v_icmp_le (pc := 24) C 29 dX5_calm_24 (by decide) ?_ ?_
        · refine v_iconst (pc := 29) C 1 dX5_calm_29 (by decide) ?_
          refine v_istore (pc := 30) C dX5_calm_30 (by decide) (lv' := [(4, .int 1), (0, .ref (aX G 0)), (1, .int a1), (2, .int a2), (3, .int a3)]) rfl ?_
          refine r_bs1 ?_
          refine v_to [1, 2, 3, 4, 0] (l5_calm_32 C a1 a2 a3 s0 (fun _u => ?_) ?hr FU _) rfl
          case hr => exact (fun r9 h pc lv d => by obtain ⟨a9, e9, h⟩ := h; cases e9; exact hret _ _ _ _ ⟨h, rfl⟩ d)
          refine v_bipush (pc := 62) C 20 dX5_calm_62 (by decide) ?_
          exact tp_out (fun h => hret _ _ _ _ ⟨h, rfl⟩ dX5_calm_64)
        · refine v_iconst (pc := 27) C (-1) dX5_calm_27 (by decide) ?_
          exact tp_out (fun h => hret _ _ _ _ ⟨h, rfl⟩ dX5_calm_28)
def L5_harm_33 (c3 : Int32) (s0 : SS) : Nat → Int32 → Int32 → Int32 → Int32 → Option (Int32 × Int32 × Int32)
  | 0, _, _, _, _ => none
  | n + 1, v4, v5, v6, v7 => if v7 < (s0.1 (wB (s0.2.2 0)) 0) then bd (f4_downward (s0.2.2 0) v7 s0) (fun x4 => bd (f5_has c3 x4) (fun x5 => if x5 = 0 then lt (v7 + 1) (fun x6 => L5_harm_33 c3 s0 n v4 v5 v6 x6) else bd (f4_feature (s0.2.2 0) x4 0 s0) (fun x7 => lt ((v5 + (v4 - x7))) (fun x8 => bd (f4_feature (s0.2.2 0) x4 0 s0) (fun x9 => lt ((x8 / 2)) (fun x10 => lt ((v6 + x10)) (fun x11 => lt (v7 + 1) (fun x12 => L5_harm_33 c3 s0 n x9 x10 x11 x12)))))))) else some (v4, v5, v6)
def f5_harm (a1 : Int32) (a2 : Int32) (s0 : SS) : Option Int32 := bd (f4_below (s0.2.2 0) a1 s0) (fun x1 => lt ((x1 &&& (a2 ^^^ (-1)))) (fun x2 => bd (f4_feature (s0.2.2 0) a1 0 s0) (fun x3 => bk3 (L5_harm_33 x2 s0 FU x3 0 0 0) (fun x13 x14 x15 => bd (f5_tuned 4 s0) (fun x16 => some (x15 + ((x14 + x13) * x16)))))))
set_option maxHeartbeats 4000000 in
set_option maxRecDepth 100000 in
theorem l5_harm_33 {G : GT} {K : KT} (C : Ctx G K cX5_harm RX5 9 1 22) (c3 : Int32) (s0 : SS) {Ψ : Int32 → Int32 → Int32 → Prop} (hx : ∀ (o1 : Int32) (o2 : Int32) (o3 : Int32), Ψ o1 o2 o3 → V G K (wX G s0) 114 [(0, .ref (aX G 0)), (4, .int o1), (5, .int o2), (6, .int o3)] []) : ∀ (n : Nat) (v4 : Int32) (v5 : Int32) (v6 : Int32) (v7 : Int32), tp (L5_harm_33 c3 s0 n v4 v5 v6 v7) (k3 Ψ) → V G K (wX G s0) 33 [(0, .ref (aX G 0)), (3, .int c3), (4, .int v4), (5, .int v5), (6, .int v6), (7, .int v7)] [] := by
  intro n
  induction n with
  | zero => intro v4 v5 v6 v7 h; exact tp_no h
  | succ n ih =>
    intro v4 v5 v6 v7
    rw [L5_harm_33]
    refine v_iload (pc := 33) C 5 rfl dX5_harm_33 ?_
    refine v_aload_n (pc := 35) C 0 rfl dX5_harm_35 ?_
    refine g5_wood (pc := 36) C mw_41 dX5_harm_36 ?_
    refine g4_branches (s0.2.2 0) (pc := 39) C mw_157 dX5_harm_39 ?_
    refine v_icmp_ge (pc := 42) C 114 dX5_harm_42 (by decide) ?_ ?_
    · refine v_aload_n (pc := 45) C 0 rfl dX5_harm_45 ?_
      refine g5_wood (pc := 46) C mw_41 dX5_harm_46 ?_
      refine v_iload (pc := 49) C 5 rfl dX5_harm_49 ?_
      refine cIv1r (pc := 51) C (fun r9 h9 => m4_downward G K.2.1 (s0.2.2 0) v7 s0 r9 h9) q_yX4_downward mw_756 (rc_4 (s0.2.2 0)) ⟨by decide, by decide⟩ (Nat.le_of_ble_eq_true rfl) dX5_harm_51 (fun x4 => ?_)
      refine v_istore (pc := 54) C dX5_harm_54 (by decide) (lv' := [(8, .int x4), (0, .ref (aX G 0)), (3, .int c3), (4, .int v4), (5, .int v5), (6, .int v6), (7, .int v7)]) rfl ?_
      refine v_iload_n (pc := 56) C 2 rfl dX5_harm_56 ?_
      refine v_iload (pc := 57) C 0 rfl dX5_harm_57 ?_
      refine cIs2r (pc := 59) C (fun r9 h9 => m5_has G K.2.1 c3 x4 _ r9 h9) q_yX5_has mw_360 ⟨by decide, by decide⟩ (Nat.le_of_ble_eq_true rfl) dX5_harm_59 (fun x5 => ?_)
      refine v_if_eq (pc := 62) C 108 dX5_harm_62 (by decide) ?_ ?_
      · refine v_iincL (pc := 108) C 1 6 dX5_harm_108 rfl (by decide) (by decide) (lv0 := [(8, .int x4), (0, .ref (aX G 0)), (3, .int c3), (4, .int v4), (5, .int v5), (6, .int v6)]) rfl (fun x6 => ?_)
        refine v_goto (pc := 111) C 33 dX5_harm_111 (by decide) ?_
        exact v_to [2, 3, 4, 5, 6, 0] (ih _ _ _ _) rfl
      · refine v_iload (pc := 65) C 4 rfl dX5_harm_65 ?_
        refine v_iload (pc := 67) C 3 rfl dX5_harm_67 ?_
        refine v_aload_n (pc := 69) C 1 rfl dX5_harm_69 ?_
        refine g5_wood (pc := 70) C mw_41 dX5_harm_70 ?_
        refine v_iload (pc := 73) C 0 rfl dX5_harm_73 ?_
        refine v_iconst (pc := 75) C 0 dX5_harm_75 (by decide) ?_
        refine cIv2r (pc := 76) C (fun r9 h9 => m4_feature G K.2.1 (s0.2.2 0) x4 0 s0 r9 h9) q_yX4_feature mw_363 (rc_4 (s0.2.2 0)) ⟨by decide, by decide⟩ (Nat.le_of_ble_eq_true rfl) dX5_harm_76 (fun x7 => ?_)
        refine v_isub (pc := 79) C dX5_harm_79 ?_
        refine v_iadd (pc := 80) C dX5_harm_80 ?_
        refine r_lti (fun x8 => ?_)
        refine v_istore (pc := 81) C dX5_harm_81 (by decide) (lv' := [(5, .int x8), (8, .int x4), (0, .ref (aX G 0)), (3, .int c3), (4, .int v4), (6, .int v6), (7, .int v7)]) rfl ?_
        refine v_aload_n (pc := 83) C 2 rfl dX5_harm_83 ?_
        refine g5_wood (pc := 84) C mw_41 dX5_harm_84 ?_
        refine v_iload (pc := 87) C 1 rfl dX5_harm_87 ?_
        refine v_iconst (pc := 89) C 0 dX5_harm_89 (by decide) ?_
        refine cIv2r (pc := 90) C (fun r9 h9 => m4_feature G K.2.1 (s0.2.2 0) x4 0 s0 r9 h9) q_yX4_feature mw_363 (rc_4 (s0.2.2 0)) ⟨by decide, by decide⟩ (Nat.le_of_ble_eq_true rfl) dX5_harm_90 (fun x9 => ?_)
        refine v_istore (pc := 93) C dX5_harm_93 (by decide) (lv' := [(4, .int x9), (5, .int x8), (8, .int x4), (0, .ref (aX G 0)), (3, .int c3), (6, .int v6), (7, .int v7)]) rfl ?_
        refine v_iload (pc := 95) C 1 rfl dX5_harm_95 ?_
        refine v_iconst (pc := 97) C 2 dX5_harm_97 (by decide) ?_
        refine v_idiv (pc := 98) C dX5_harm_98 (by decide) ?_
        refine r_lti (fun x10 => ?_)
        refine v_istore (pc := 99) C dX5_harm_99 (by decide) (lv' := [(5, .int x10), (4, .int x9), (8, .int x4), (0, .ref (aX G 0)), (3, .int c3), (6, .int v6), (7, .int v7)]) rfl ?_
        refine v_iload (pc := 101) C 5 rfl dX5_harm_101 ?_
        refine v_iload (pc := 103) C 0 rfl dX5_harm_103 ?_
        refine v_iadd (pc := 105) C dX5_harm_105 ?_
        refine r_lti (fun x11 => ?_)
        refine v_istore (pc := 106) C dX5_harm_106 (by decide) (lv' := [(6, .int x11), (5, .int x10), (4, .int x9), (8, .int x4), (0, .ref (aX G 0)), (3, .int c3), (7, .int v7)]) rfl ?_
        refine v_iincL (pc := 108) C 1 6 dX5_harm_108 rfl (by decide) (by decide) (lv0 := [(6, .int x11), (5, .int x10), (4, .int x9), (8, .int x4), (0, .ref (aX G 0)), (3, .int c3)]) rfl (fun x12 => ?_)
        refine v_goto (pc := 111) C 33 dX5_harm_111 (by decide) ?_
        exact v_to [5, 6, 3, 2, 1, 0] (ih _ _ _ _) rfl
    · exact tp_out (fun h => v_to [0, 2, 3, 4] (hx _ _ _) rfl h)
set_option maxHeartbeats 4000000 in
set_option maxRecDepth 100000 in
theorem m5_harm (G : GT) (l : Launch) (a1 : Int32) (a2 : Int32)  (s0 : SS) (r : Int32) (hf : f5_harm a1 a2 s0 = some r) : MI G l yX5_harm cX5_harm 9 (some .int) 1 22 [.ref (aX G 0), .int a1, .int a2] (wX G s0) r (wX G s0) := by
  refine MI.start (by decide +kernel) (Nat.le_of_ble_eq_true rfl) (fun K hl C hret => ?_)
  subst hl
  have C : Ctx G K cX5_harm RX5 9 1 22 := C
  change V G K (wX G s0) 0 [(0, .ref (aX G 0)), (1, .int a1), (2, .int a2)] []
  refine (?_ : tp (f5_harm a1 a2 s0) (fun q => q = r) → _) ⟨_, hf, rfl⟩
  rw [f5_harm]
  refine v_aload_n (pc := 0) C 0 rfl dX5_harm_0 ?_
  refine g5_wood (pc := 1) C mw_41 dX5_harm_1 ?_
  refine v_iload_n (pc := 4) C 1 rfl dX5_harm_4 ?_
  refine cIv1r (pc := 5) C (fun r9 h9 => m4_below G K.2.1 (s0.2.2 0) a1 s0 r9 h9) q_yX4_below mw_752 (rc_4 (s0.2.2 0)) ⟨by decide, by decide⟩ (Nat.le_of_ble_eq_true rfl) dX5_harm_5 (fun x1 => ?_)
  refine v_iload_n (pc := 8) C 2 rfl dX5_harm_8 ?_
  refine v_iconst (pc := 9) C (-1) dX5_harm_9 (by decide) ?_
  refine v_ixor (pc := 10) C dX5_harm_10 ?_
  refine v_iand (pc := 11) C dX5_harm_11 ?_
  refine r_lti (fun x2 => ?_)
  refine v_istore_n (pc := 12) C dX5_harm_12 (by decide) (lv' := [(3, .int x2), (0, .ref (aX G 0)), (1, .int a1), (2, .int a2)]) rfl ?_
  refine v_aload_n (pc := 13) C 1 rfl dX5_harm_13 ?_
  refine g5_wood (pc := 14) C mw_41 dX5_harm_14 ?_
  refine v_iload_n (pc := 17) C 2 rfl dX5_harm_17 ?_
  refine v_iconst (pc := 18) C 0 dX5_harm_18 (by decide) ?_
  refine cIv2r (pc := 19) C (fun r9 h9 => m4_feature G K.2.1 (s0.2.2 0) a1 0 s0 r9 h9) q_yX4_feature mw_363 (rc_4 (s0.2.2 0)) ⟨by decide, by decide⟩ (Nat.le_of_ble_eq_true rfl) dX5_harm_19 (fun x3 => ?_)
  refine v_istore (pc := 22) C dX5_harm_22 (by decide) (lv' := [(4, .int x3), (3, .int x2), (0, .ref (aX G 0)), (1, .int a1), (2, .int a2)]) rfl ?_
  refine v_iconst (pc := 24) C 0 dX5_harm_24 (by decide) ?_
  refine v_istore (pc := 25) C dX5_harm_25 (by decide) (lv' := [(5, .int 0), (4, .int x3), (3, .int x2), (0, .ref (aX G 0)), (1, .int a1), (2, .int a2)]) rfl ?_
  refine v_iconst (pc := 27) C 0 dX5_harm_27 (by decide) ?_
  refine v_istore (pc := 28) C dX5_harm_28 (by decide) (lv' := [(6, .int 0), (5, .int 0), (4, .int x3), (3, .int x2), (0, .ref (aX G 0)), (1, .int a1), (2, .int a2)]) rfl ?_
  refine v_iconst (pc := 30) C 0 dX5_harm_30 (by decide) ?_
  refine v_istore (pc := 31) C dX5_harm_31 (by decide) (lv' := [(7, .int 0), (6, .int 0), (5, .int 0), (4, .int x3), (3, .int x2), (0, .ref (aX G 0)), (1, .int a1), (2, .int a2)]) rfl ?_
  refine r_bk3 ?_
  refine v_to [5, 4, 3, 2, 1, 0] (l5_harm_33 C x2 s0 (fun x13 x14 x15 => ?_) FU _ _ _ _) rfl
  refine v_iload (pc := 114) C 3 rfl dX5_harm_114 ?_
  refine v_iload (pc := 116) C 2 rfl dX5_harm_116 ?_
  refine v_iload (pc := 118) C 1 rfl dX5_harm_118 ?_
  refine v_iadd (pc := 120) C dX5_harm_120 ?_
  refine v_aload_n (pc := 121) C 0 rfl dX5_harm_121 ?_
  refine v_iconst (pc := 122) C 4 dX5_harm_122 (by decide) ?_
  refine cIv1r (pc := 123) C (fun r9 h9 => m5_tuned G K.2.1 4 s0 r9 h9) q_yX5_tuned mw_437 rc_5 ⟨by decide, by decide⟩ (Nat.le_of_ble_eq_true rfl) dX5_harm_123 (fun x16 => ?_)
  refine v_imul (pc := 126) C dX5_harm_126 ?_
  refine v_iadd (pc := 127) C dX5_harm_127 ?_
  exact tp_out (fun h => hret _ _ _ _ ⟨h, rfl⟩ dX5_harm_128)
def f5_fall (a1 : Int32) (a2 : Int32) (s0 : SS) : Option Int32 := bd (f5_isBranch a1 s0) (fun x1 => if x1 = 0 then some (-1) else if a2 < 0 then some (-1) else if a2 ≤ 1 then if a2 = 0 then bd (f5_harm a1 (s0.1 (17 + 0) 7) s0) (fun x2 => some x2) else bd (f4_below (s0.2.2 0) a1 s0) (fun x3 => some (x3 &&& ((s0.1 (17 + 0) 7) ^^^ (-1)))) else some (-1))
set_option maxHeartbeats 4000000 in
set_option maxRecDepth 100000 in
theorem m5_fall (G : GT) (l : Launch) (a1 : Int32) (a2 : Int32)  (s0 : SS) (r : Int32) (hf : f5_fall a1 a2 s0 = some r) : MI G l yX5_fall cX5_fall 3 (some .int) 2 50 [.ref (aX G 0), .int a1, .int a2] (wX G s0) r (wX G s0) := by
  refine MI.start (by decide +kernel) (Nat.le_of_ble_eq_true rfl) (fun K hl C hret => ?_)
  subst hl
  have C : Ctx G K cX5_fall RX5 3 2 50 := C
  change V G K (wX G s0) 0 [(0, .ref (aX G 0)), (1, .int a1), (2, .int a2)] []
  refine (?_ : tp (f5_fall a1 a2 s0) (fun q => q = r) → _) ⟨_, hf, rfl⟩
  rw [f5_fall]
  refine v_aload_n (pc := 0) C 0 rfl dX5_fall_0 ?_
  refine v_iload_n (pc := 1) C 1 rfl dX5_fall_1 ?_
  refine cIv1r (pc := 2) C (fun r9 h9 => m5_isBranch G K.2.1 a1 s0 r9 h9) q_yX5_isBranch mw_352 rc_5 ⟨by decide, by decide⟩ (Nat.le_of_ble_eq_true rfl) dX5_fall_2 (fun x1 => ?_)
  refine v_if_eq (pc := 5) C 17 dX5_fall_5 (by decide) ?_ ?_
  · refine v_iconst (pc := 17) C (-1) dX5_fall_17 (by decide) ?_
    exact tp_out (fun h => hret _ _ _ _ ⟨h, rfl⟩ dX5_fall_18)
  · refine v_iload_n (pc := 8) C 2 rfl dX5_fall_8 ?_
    refine v_if_lt (pc := 9) C 17 dX5_fall_9 (by decide) ?_ ?_
    · refine v_iconst (pc := 17) C (-1) dX5_fall_17 (by decide) ?_
      exact tp_out (fun h => hret _ _ _ _ ⟨h, rfl⟩ dX5_fall_18)
    · refine v_iload_n (pc := 12) C 2 rfl dX5_fall_12 ?_
      refine v_iconst (pc := 13) C 1 dX5_fall_13 (by decide) ?_
      refine v_icmp_le (pc := 14) C 19 dX5_fall_14 (by decide) ?_ ?_
      · refine v_iload_n (pc := 19) C 2 rfl dX5_fall_19 ?_
        refine v_if_ne (pc := 20) C 38 dX5_fall_20 (by decide) ?_ ?_
        · refine v_aload_n (pc := 23) C 0 rfl dX5_fall_23 ?_
          refine v_iload_n (pc := 24) C 1 rfl dX5_fall_24 ?_
          refine v_aload_n (pc := 25) C 0 rfl dX5_fall_25 ?_
          refine g5_present (pc := 26) C mw_36 dX5_fall_26 ?_
          refine g1_sawn 0 (by decide) (pc := 29) C mw_154 dX5_fall_29 ?_
          refine cIv2r (pc := 32) C (fun r9 h9 => m5_harm G K.2.1 a1 (s0.1 (17 + 0) 7) s0 r9 h9) q_yX5_harm mw_748 rc_5 ⟨by decide, by decide⟩ (Nat.le_of_ble_eq_true rfl) dX5_fall_32 (fun x2 => ?_)
          refine v_goto (pc := 35) C 56 dX5_fall_35 (by decide) ?_
          exact tp_out (fun h => hret _ _ _ _ ⟨h, rfl⟩ dX5_fall_56)
        · refine v_aload_n (pc := 38) C 0 rfl dX5_fall_38 ?_
          refine g5_wood (pc := 39) C mw_41 dX5_fall_39 ?_
          refine v_iload_n (pc := 42) C 1 rfl dX5_fall_42 ?_
          refine cIv1r (pc := 43) C (fun r9 h9 => m4_below G K.2.1 (s0.2.2 0) a1 s0 r9 h9) q_yX4_below mw_752 (rc_4 (s0.2.2 0)) ⟨by decide, by decide⟩ (Nat.le_of_ble_eq_true rfl) dX5_fall_43 (fun x3 => ?_)
          refine v_aload_n (pc := 46) C 0 rfl dX5_fall_46 ?_
          refine g5_present (pc := 47) C mw_36 dX5_fall_47 ?_
          refine g1_sawn 0 (by decide) (pc := 50) C mw_154 dX5_fall_50 ?_
          refine v_iconst (pc := 53) C (-1) dX5_fall_53 (by decide) ?_
          refine v_ixor (pc := 54) C dX5_fall_54 ?_
          refine v_iand (pc := 55) C dX5_fall_55 ?_
          exact tp_out (fun h => hret _ _ _ _ ⟨h, rfl⟩ dX5_fall_56)
      · refine v_iconst (pc := 17) C (-1) dX5_fall_17 (by decide) ?_
        exact tp_out (fun h => hret _ _ _ _ ⟨h, rfl⟩ dX5_fall_18)
def fJ6_bitCount_0f7a4 (a0 : Int32) : Option Int32 := lt ((a0 - (((Int32.toUInt32 a0) >>> ((Int32.toUInt32 1) &&& Int32.toUInt32 31)).toInt32 &&& 1431655765))) (fun x1 => lt (((x1 &&& 858993459) + (((Int32.toUInt32 x1) >>> ((Int32.toUInt32 2) &&& Int32.toUInt32 31)).toInt32 &&& 858993459))) (fun x2 => lt (((x2 + ((Int32.toUInt32 x2) >>> ((Int32.toUInt32 4) &&& Int32.toUInt32 31)).toInt32) &&& 252645135)) (fun x3 => lt ((x3 + ((Int32.toUInt32 x3) >>> ((Int32.toUInt32 8) &&& Int32.toUInt32 31)).toInt32)) (fun x4 => lt ((x4 + ((Int32.toUInt32 x4) >>> ((Int32.toUInt32 16) &&& Int32.toUInt32 31)).toInt32)) (fun x5 => some (x5 &&& 63))))))
set_option maxHeartbeats 4000000 in
set_option maxRecDepth 100000 in
theorem mJ6_bitCount_0f7a4 (G : GT) (l : Launch) (a0 : Int32)  (w : va_W) (r : Int32) (hf : fJ6_bitCount_0f7a4 a0 = some r) : MI G l yJ6_bitCount_0f7a4 cJ6_bitCount_0f7a4 1 (some .int) 0 0 [.int a0] w r w := by
  refine MI.start (by decide +kernel) (Nat.le_of_ble_eq_true rfl) (fun K hl C hret => ?_)
  subst hl
  have C : Ctx G K cJ6_bitCount_0f7a4 RJ6 1 0 0 := C
  change V G K w 0 [(0, .int a0)] []
  refine (?_ : tp (fJ6_bitCount_0f7a4 a0) (fun q => q = r) → _) ⟨_, hf, rfl⟩
  rw [fJ6_bitCount_0f7a4]
  refine v_iload_n (pc := 0) C 0 rfl dJ6_bitCount_0f7a4_0 ?_
  refine v_iload_n (pc := 1) C 0 rfl dJ6_bitCount_0f7a4_1 ?_
  refine v_iconst (pc := 2) C 1 dJ6_bitCount_0f7a4_2 (by decide) ?_
  refine v_iushr (pc := 3) C dJ6_bitCount_0f7a4_3 ?_
  refine v_ldcw (pc := 4) C mw_777 dJ6_bitCount_0f7a4_4 ?_
  refine v_iand (pc := 7) C dJ6_bitCount_0f7a4_7 ?_
  refine v_isub (pc := 8) C dJ6_bitCount_0f7a4_8 ?_
  refine r_lti (fun x1 => ?_)
  refine v_istore_n (pc := 9) C dJ6_bitCount_0f7a4_9 (by decide) (lv' := [(0, .int x1)]) rfl ?_
  refine v_iload_n (pc := 10) C 0 rfl dJ6_bitCount_0f7a4_10 ?_
  refine v_ldcw (pc := 11) C mw_778 dJ6_bitCount_0f7a4_11 ?_
  refine v_iand (pc := 14) C dJ6_bitCount_0f7a4_14 ?_
  refine v_iload_n (pc := 15) C 0 rfl dJ6_bitCount_0f7a4_15 ?_
  refine v_iconst (pc := 16) C 2 dJ6_bitCount_0f7a4_16 (by decide) ?_
  refine v_iushr (pc := 17) C dJ6_bitCount_0f7a4_17 ?_
  refine v_ldcw (pc := 18) C mw_778 dJ6_bitCount_0f7a4_18 ?_
  refine v_iand (pc := 21) C dJ6_bitCount_0f7a4_21 ?_
  refine v_iadd (pc := 22) C dJ6_bitCount_0f7a4_22 ?_
  refine r_lti (fun x2 => ?_)
  refine v_istore_n (pc := 23) C dJ6_bitCount_0f7a4_23 (by decide) (lv' := [(0, .int x2)]) rfl ?_
  refine v_iload_n (pc := 24) C 0 rfl dJ6_bitCount_0f7a4_24 ?_
  refine v_iload_n (pc := 25) C 0 rfl dJ6_bitCount_0f7a4_25 ?_
  refine v_iconst (pc := 26) C 4 dJ6_bitCount_0f7a4_26 (by decide) ?_
  refine v_iushr (pc := 27) C dJ6_bitCount_0f7a4_27 ?_
  refine v_iadd (pc := 28) C dJ6_bitCount_0f7a4_28 ?_
  refine v_ldcw (pc := 29) C mw_779 dJ6_bitCount_0f7a4_29 ?_
  refine v_iand (pc := 32) C dJ6_bitCount_0f7a4_32 ?_
  refine r_lti (fun x3 => ?_)
  refine v_istore_n (pc := 33) C dJ6_bitCount_0f7a4_33 (by decide) (lv' := [(0, .int x3)]) rfl ?_
  refine v_iload_n (pc := 34) C 0 rfl dJ6_bitCount_0f7a4_34 ?_
  refine v_iload_n (pc := 35) C 0 rfl dJ6_bitCount_0f7a4_35 ?_
  refine v_bipush (pc := 36) C 8 dJ6_bitCount_0f7a4_36 (by decide) ?_
  refine v_iushr (pc := 38) C dJ6_bitCount_0f7a4_38 ?_
  refine v_iadd (pc := 39) C dJ6_bitCount_0f7a4_39 ?_
  refine r_lti (fun x4 => ?_)
  refine v_istore_n (pc := 40) C dJ6_bitCount_0f7a4_40 (by decide) (lv' := [(0, .int x4)]) rfl ?_
  refine v_iload_n (pc := 41) C 0 rfl dJ6_bitCount_0f7a4_41 ?_
  refine v_iload_n (pc := 42) C 0 rfl dJ6_bitCount_0f7a4_42 ?_
  refine v_bipush (pc := 43) C 16 dJ6_bitCount_0f7a4_43 (by decide) ?_
  refine v_iushr (pc := 45) C dJ6_bitCount_0f7a4_45 ?_
  refine v_iadd (pc := 46) C dJ6_bitCount_0f7a4_46 ?_
  refine r_lti (fun x5 => ?_)
  refine v_istore_n (pc := 47) C dJ6_bitCount_0f7a4_47 (by decide) (lv' := [(0, .int x5)]) rfl ?_
  refine v_iload_n (pc := 48) C 0 rfl dJ6_bitCount_0f7a4_48 ?_
  refine v_bipush (pc := 49) C 63 dJ6_bitCount_0f7a4_49 (by decide) ?_
  refine v_iand (pc := 51) C dJ6_bitCount_0f7a4_51 ?_
  exact tp_out (fun h => hret _ _ _ _ ⟨h, rfl⟩ dJ6_bitCount_0f7a4_52)
def L5_isSafe_22 (c1 : Int32) (c3 : Int32) (c4 : Int32) (s0 : SS) : Nat → Int32 → Option ((Unit) ⊕ Int32)
  | 0, _ => none
  | n + 1, v5 => if v5 < (s0.1 (wB (s0.2.2 0)) 0) then bd (f5_has c4 v5) (fun x3 => if x3 = 0 then lt (v5 + 1) (fun x4 => L5_isSafe_22 c1 c3 c4 s0 n x4) else bd (f5_harm v5 c3 s0) (fun x5 => if x5 ≤ c1 then lt (v5 + 1) (fun x6 => L5_isSafe_22 c1 c3 c4 s0 n x6) else some (.inr 0))) else some (.inl ())
def f5_isSafe (a1 : Int32) (a2 : Int32) (a3 : Int32) (s0 : SS) : Option Int32 := bd (f5_reached a3 s0) (fun x1 => bd (f5_highest x1 s0) (fun x2 => if x2 < a2 then some 0 else bs1 (L5_isSafe_22 a1 a3 x1 s0 FU 0) (fun _u => some 1) (fun r => some r)))
set_option maxHeartbeats 4000000 in
set_option maxRecDepth 100000 in
theorem l5_isSafe_22 {G : GT} {K : KT} (C : Ctx G K cX5_isSafe RX5 6 3 71) (c1 : Int32) (c3 : Int32) (c4 : Int32) (s0 : SS) {Ψ : Unit → Prop} (hx : ∀ (u0 : Unit), Ψ u0 → V G K (wX G s0) 63 [] []) {Φr : Int32 → Prop} (hr : ∀ (r : Int32), Φr r → (r = 0 ∨ r = 1) → ∀ (pc : Nat) (lv : List (Nat × Value)), decode cX5_isSafe pc = .ok (.ireturn, 1) → V G K (wX G s0) pc lv [.int r]) : ∀ (n : Nat) (v5 : Int32), tp (L5_isSafe_22 c1 c3 c4 s0 n v5) (uS (k1 Ψ) Φr) → V G K (wX G s0) 22 [(0, .ref (aX G 0)), (1, .int c1), (3, .int c3), (4, .int c4), (5, .int v5)] [] := by
  intro n
  induction n with
  | zero => intro v5 h; exact tp_no h
  | succ n ih =>
    intro v5
    rw [L5_isSafe_22]
    refine v_iload (pc := 22) C 4 rfl dX5_isSafe_22 ?_
    refine v_aload_n (pc := 24) C 0 rfl dX5_isSafe_24 ?_
    refine g5_wood (pc := 25) C mw_41 dX5_isSafe_25 ?_
    refine g4_branches (s0.2.2 0) (pc := 28) C mw_157 dX5_isSafe_28 ?_
    refine v_icmp_ge (pc := 31) C 63 dX5_isSafe_31 (by decide) ?_ ?_
    · refine v_iload (pc := 34) C 3 rfl dX5_isSafe_34 ?_
      refine v_iload (pc := 36) C 4 rfl dX5_isSafe_36 ?_
      refine cIs2r (pc := 38) C (fun r9 h9 => m5_has G K.2.1 c4 v5 _ r9 h9) q_yX5_has mw_360 ⟨by decide, by decide⟩ (Nat.le_of_ble_eq_true rfl) dX5_isSafe_38 (fun x3 => ?_)
      refine v_if_eq (pc := 41) C 57 dX5_isSafe_41 (by decide) ?_ ?_
      · refine v_iincL (pc := 57) C 1 4 dX5_isSafe_57 rfl (by decide) (by decide) (lv0 := [(0, .ref (aX G 0)), (1, .int c1), (3, .int c3), (4, .int c4)]) rfl (fun x4 => ?_)
        refine v_goto (pc := 60) C 22 dX5_isSafe_60 (by decide) ?_
        exact v_to [1, 2, 3, 4, 0] (ih _) rfl
      · refine v_aload_n (pc := 44) C 0 rfl dX5_isSafe_44 ?_
        refine v_iload (pc := 45) C 4 rfl dX5_isSafe_45 ?_
        refine v_iload_n (pc := 47) C 2 rfl dX5_isSafe_47 ?_
        refine cIv2r (pc := 48) C (fun r9 h9 => m5_harm G K.2.1 v5 c3 s0 r9 h9) q_yX5_harm mw_748 rc_5 ⟨by decide, by decide⟩ (Nat.le_of_ble_eq_true rfl) dX5_isSafe_48 (fun x5 => ?_)
        refine v_iload_n (pc := 51) C 1 rfl dX5_isSafe_51 ?_
        refine v_icmp_le (pc := 52) C 57 dX5_isSafe_52 (by decide) ?_ ?_
        · refine v_iincL (pc := 57) C 1 4 dX5_isSafe_57 rfl (by decide) (by decide) (lv0 := [(0, .ref (aX G 0)), (1, .int c1), (3, .int c3), (4, .int c4)]) rfl (fun x6 => ?_)
          refine v_goto (pc := 60) C 22 dX5_isSafe_60 (by decide) ?_
          exact v_to [1, 2, 3, 4, 0] (ih _) rfl
        · refine v_iconst (pc := 55) C 0 dX5_isSafe_55 (by decide) ?_
          exact tp_out (fun h => hr _ h (Or.inl rfl) _ _ dX5_isSafe_56)
    · exact tp_out (fun h => v_to [] (hx _) rfl h)
set_option maxHeartbeats 4000000 in
set_option maxRecDepth 100000 in
theorem m5_isSafe (G : GT) (l : Launch) (a1 : Int32) (a2 : Int32) (a3 : Int32)  (s0 : SS) (r : Int32) (hf : f5_isSafe a1 a2 a3 s0 = some r) : MI G l yX5_isSafe cX5_isSafe 6 (some .boolean) 3 71 [.ref (aX G 0), .int a1, .int a2, .int a3] (wX G s0) r (wX G s0) := by
  refine MI.startZ (by decide +kernel) (Nat.le_of_ble_eq_true rfl) (fun K hl C hret => ?_)
  subst hl
  have C : Ctx G K cX5_isSafe RX5 6 3 71 := C
  change V G K (wX G s0) 0 [(0, .ref (aX G 0)), (1, .int a1), (2, .int a2), (3, .int a3)] []
  refine (?_ : tp (f5_isSafe a1 a2 a3 s0) (fun q => q = r) → _) ⟨_, hf, rfl⟩
  rw [f5_isSafe]
  refine v_aload_n (pc := 0) C 0 rfl dX5_isSafe_0 ?_
  refine v_iload_n (pc := 1) C 3 rfl dX5_isSafe_1 ?_
  refine cIv1r (pc := 2) C (fun r9 h9 => m5_reached G K.2.1 a3 s0 r9 h9) q_yX5_reached mw_580 rc_5 ⟨by decide, by decide⟩ (Nat.le_of_ble_eq_true rfl) dX5_isSafe_2 (fun x1 => ?_)
  refine v_istore (pc := 5) C dX5_isSafe_5 (by decide) (lv' := [(4, .int x1), (0, .ref (aX G 0)), (1, .int a1), (2, .int a2), (3, .int a3)]) rfl ?_
  refine v_aload_n (pc := 7) C 1 rfl dX5_isSafe_7 ?_
  refine v_iload (pc := 8) C 0 rfl dX5_isSafe_8 ?_
  refine cIv1r (pc := 10) C (fun r9 h9 => m5_highest G K.2.1 x1 s0 r9 h9) q_yX5_highest mw_597 rc_5 ⟨by decide, by decide⟩ (Nat.le_of_ble_eq_true rfl) dX5_isSafe_10 (fun x2 => ?_)
  refine v_iload_n (pc := 13) C 3 rfl dX5_isSafe_13 ?_
  refine v_icmp_ge (pc := 14) C 19 dX5_isSafe_14 (by decide) ?_ ?_
  · refine v_iconst (pc := 17) C 0 dX5_isSafe_17 (by decide) ?_
    exact tp_out (fun h => hret _ _ _ _ ⟨h, rfl⟩ (Or.inl rfl) dX5_isSafe_18)
  · refine v_iconst (pc := 19) C 0 dX5_isSafe_19 (by decide) ?_
    refine v_istore (pc := 20) C dX5_isSafe_20 (by decide) (lv' := [(5, .int 0), (4, .int x1), (0, .ref (aX G 0)), (1, .int a1), (2, .int a2), (3, .int a3)]) rfl ?_
    refine r_bs1 ?_
    refine v_to [2, 3, 5, 1, 0] (l5_isSafe_22 C a1 a3 x1 s0 (fun _u => ?_) ?hr FU _) rfl
    case hr => exact (fun r9 h hz pc lv d => by obtain ⟨a9, e9, h⟩ := h; cases e9; exact hret _ _ _ _ ⟨h, rfl⟩ hz d)
    refine v_iconst (pc := 63) C 1 dX5_isSafe_63 (by decide) ?_
    exact tp_out (fun h => hret _ _ _ _ ⟨h, rfl⟩ (Or.inr rfl) dX5_isSafe_64)
def L5_leastToSaw_9 (c1 : Int32) (c2 : Int32) (s0 : SS) : Nat → Int32 → Int32 → Int32 → Option (Int32)
  | 0, _, _, _ => none
  | n + 1, v3, v4, v5 => bd (f4_all (s0.2.2 0) s0) (fun x1 => if v5 ≤ x1 then bd (fJ6_bitCount_0f7a4 v5) (fun x2 => if x2 < v4 then if (v5 &&& (s0.1 (17 + 0) 7)) = 0 then bd (f5_isSafe c1 c2 (v5 ||| (s0.1 (17 + 0) 7)) s0) (fun x3 => if x3 = 0 then lt (v5 + 1) (fun x4 => L5_leastToSaw_9 c1 c2 s0 n v3 v4 x4) else lt (v5 + 1) (fun x5 => L5_leastToSaw_9 c1 c2 s0 n v5 x2 x5)) else lt (v5 + 1) (fun x6 => L5_leastToSaw_9 c1 c2 s0 n v3 v4 x6) else lt (v5 + 1) (fun x7 => L5_leastToSaw_9 c1 c2 s0 n v3 v4 x7)) else some v3)
def f5_leastToSaw (a1 : Int32) (a2 : Int32) (s0 : SS) : Option Int32 := bk1 (L5_leastToSaw_9 a1 a2 s0 FU (-9) 4 0) (fun x8 => some x8)
set_option maxHeartbeats 4000000 in
set_option maxRecDepth 100000 in
theorem l5_leastToSaw_9 {G : GT} {K : KT} (C : Ctx G K cX5_leastToSaw RX5 7 4 96) (c1 : Int32) (c2 : Int32) (s0 : SS) {Ψ : Int32 → Prop} (hx : ∀ (o1 : Int32), Ψ o1 → V G K (wX G s0) 80 [(3, .int o1)] []) : ∀ (n : Nat) (v3 : Int32) (v4 : Int32) (v5 : Int32), tp (L5_leastToSaw_9 c1 c2 s0 n v3 v4 v5) (k1 Ψ) → V G K (wX G s0) 9 [(0, .ref (aX G 0)), (1, .int c1), (2, .int c2), (3, .int v3), (4, .int v4), (5, .int v5)] [] := by
  intro n
  induction n with
  | zero => intro v3 v4 v5 h; exact tp_no h
  | succ n ih =>
    intro v3 v4 v5
    rw [L5_leastToSaw_9]
    refine v_iload (pc := 9) C 5 rfl dX5_leastToSaw_9 ?_
    refine v_aload_n (pc := 11) C 0 rfl dX5_leastToSaw_11 ?_
    refine g5_wood (pc := 12) C mw_41 dX5_leastToSaw_12 ?_
    refine cIv0r (pc := 15) C (fun r9 h9 => m4_all G K.2.1 (s0.2.2 0) s0 r9 h9) q_yX4_all mw_421 (rc_4 (s0.2.2 0)) ⟨by decide, by decide⟩ (Nat.le_of_ble_eq_true rfl) dX5_leastToSaw_15 (fun x1 => ?_)
    refine v_icmp_gt (pc := 18) C 80 dX5_leastToSaw_18 (by decide) ?_ ?_
    · refine v_iload (pc := 21) C 5 rfl dX5_leastToSaw_21 ?_
      refine cIs1r (pc := 23) C (fun r9 h9 => mJ6_bitCount_0f7a4 G K.2.1 v5 _ r9 h9) q_yJ6_bitCount_0f7a4 mw_774 ⟨by decide, by decide⟩ (Nat.le_of_ble_eq_true rfl) dX5_leastToSaw_23 (fun x2 => ?_)
      refine v_istore (pc := 26) C dX5_leastToSaw_26 (by decide) (lv' := [(6, .int x2), (0, .ref (aX G 0)), (1, .int c1), (2, .int c2), (3, .int v3), (4, .int v4), (5, .int v5)]) rfl ?_
      refine v_iload (pc := 28) C 0 rfl dX5_leastToSaw_28 ?_
      refine v_iload (pc := 30) C 5 rfl dX5_leastToSaw_30 ?_
      refine v_icmp_ge (pc := 32) C 74 dX5_leastToSaw_32 (by decide) ?_ ?_
      · refine v_iload (pc := 35) C 6 rfl dX5_leastToSaw_35 ?_
        refine v_aload_n (pc := 37) C 1 rfl dX5_leastToSaw_37 ?_
        refine g5_present (pc := 38) C mw_36 dX5_leastToSaw_38 ?_
        refine g1_sawn 0 (by decide) (pc := 41) C mw_154 dX5_leastToSaw_41 ?_
        refine v_iand (pc := 44) C dX5_leastToSaw_44 ?_
        refine v_if_ne (pc := 45) C 74 dX5_leastToSaw_45 (by decide) ?_ ?_
        · refine v_aload_n (pc := 48) C 1 rfl dX5_leastToSaw_48 ?_
          refine v_iload_n (pc := 49) C 2 rfl dX5_leastToSaw_49 ?_
          refine v_iload_n (pc := 50) C 3 rfl dX5_leastToSaw_50 ?_
          refine v_iload (pc := 51) C 6 rfl dX5_leastToSaw_51 ?_
          refine v_aload_n (pc := 53) C 1 rfl dX5_leastToSaw_53 ?_
          refine g5_present (pc := 54) C mw_36 dX5_leastToSaw_54 ?_
          refine g1_sawn 0 (by decide) (pc := 57) C mw_154 dX5_leastToSaw_57 ?_
          refine v_ior (pc := 60) C dX5_leastToSaw_60 ?_
          refine cIv3r (pc := 61) C (fun r9 h9 => m5_isSafe G K.2.1 c1 c2 (v5 ||| (s0.1 (17 + 0) 7)) s0 r9 h9) q_yX5_isSafe mw_780 rc_5 ⟨by decide, by decide⟩ (Nat.le_of_ble_eq_true rfl) dX5_leastToSaw_61 (fun x3 => ?_)
          refine v_if_eq (pc := 64) C 74 dX5_leastToSaw_64 (by decide) ?_ ?_
          · refine v_iincL (pc := 74) C 1 6 dX5_leastToSaw_74 rfl (by decide) (by decide) (lv0 := [(6, .int x2), (0, .ref (aX G 0)), (1, .int c1), (2, .int c2), (3, .int v3), (4, .int v4)]) rfl (fun x4 => ?_)
            refine v_goto (pc := 77) C 9 dX5_leastToSaw_77 (by decide) ?_
            exact v_to [2, 3, 4, 5, 6, 0] (ih _ _ _) rfl
          · refine v_iload (pc := 67) C 6 rfl dX5_leastToSaw_67 ?_
            refine v_istore_n (pc := 69) C dX5_leastToSaw_69 (by decide) (lv' := [(3, .int v5), (6, .int x2), (0, .ref (aX G 0)), (1, .int c1), (2, .int c2), (4, .int v4), (5, .int v5)]) rfl ?_
            refine v_iload (pc := 70) C 1 rfl dX5_leastToSaw_70 ?_
            refine v_istore (pc := 72) C dX5_leastToSaw_72 (by decide) (lv' := [(4, .int x2), (3, .int v5), (6, .int x2), (0, .ref (aX G 0)), (1, .int c1), (2, .int c2), (5, .int v5)]) rfl ?_
            refine v_iincL (pc := 74) C 1 6 dX5_leastToSaw_74 rfl (by decide) (by decide) (lv0 := [(4, .int x2), (3, .int v5), (6, .int x2), (0, .ref (aX G 0)), (1, .int c1), (2, .int c2)]) rfl (fun x5 => ?_)
            refine v_goto (pc := 77) C 9 dX5_leastToSaw_77 (by decide) ?_
            exact v_to [4, 5, 6, 2, 1, 0] (ih _ _ _) rfl
        · refine v_iincL (pc := 74) C 1 6 dX5_leastToSaw_74 rfl (by decide) (by decide) (lv0 := [(6, .int x2), (0, .ref (aX G 0)), (1, .int c1), (2, .int c2), (3, .int v3), (4, .int v4)]) rfl (fun x6 => ?_)
          refine v_goto (pc := 77) C 9 dX5_leastToSaw_77 (by decide) ?_
          exact v_to [2, 3, 4, 5, 6, 0] (ih _ _ _) rfl
      · refine v_iincL (pc := 74) C 1 6 dX5_leastToSaw_74 rfl (by decide) (by decide) (lv0 := [(6, .int x2), (0, .ref (aX G 0)), (1, .int c1), (2, .int c2), (3, .int v3), (4, .int v4)]) rfl (fun x7 => ?_)
        refine v_goto (pc := 77) C 9 dX5_leastToSaw_77 (by decide) ?_
        exact v_to [2, 3, 4, 5, 6, 0] (ih _ _ _) rfl
    · exact tp_out (fun h => v_to [3] (hx _) rfl h)
set_option maxHeartbeats 4000000 in
set_option maxRecDepth 100000 in
theorem m5_leastToSaw (G : GT) (l : Launch) (a1 : Int32) (a2 : Int32)  (s0 : SS) (r : Int32) (hf : f5_leastToSaw a1 a2 s0 = some r) : MI G l yX5_leastToSaw cX5_leastToSaw 7 (some .int) 4 96 [.ref (aX G 0), .int a1, .int a2] (wX G s0) r (wX G s0) := by
  refine MI.start (by decide +kernel) (Nat.le_of_ble_eq_true rfl) (fun K hl C hret => ?_)
  subst hl
  have C : Ctx G K cX5_leastToSaw RX5 7 4 96 := C
  change V G K (wX G s0) 0 [(0, .ref (aX G 0)), (1, .int a1), (2, .int a2)] []
  refine (?_ : tp (f5_leastToSaw a1 a2 s0) (fun q => q = r) → _) ⟨_, hf, rfl⟩
  rw [f5_leastToSaw]
  refine v_bipush (pc := 0) C (-9) dX5_leastToSaw_0 (by decide) ?_
  refine v_istore_n (pc := 2) C dX5_leastToSaw_2 (by decide) (lv' := [(3, .int (-9)), (0, .ref (aX G 0)), (1, .int a1), (2, .int a2)]) rfl ?_
  refine v_iconst (pc := 3) C 4 dX5_leastToSaw_3 (by decide) ?_
  refine v_istore (pc := 4) C dX5_leastToSaw_4 (by decide) (lv' := [(4, .int 4), (3, .int (-9)), (0, .ref (aX G 0)), (1, .int a1), (2, .int a2)]) rfl ?_
  refine v_iconst (pc := 6) C 0 dX5_leastToSaw_6 (by decide) ?_
  refine v_istore (pc := 7) C dX5_leastToSaw_7 (by decide) (lv' := [(5, .int 0), (4, .int 4), (3, .int (-9)), (0, .ref (aX G 0)), (1, .int a1), (2, .int a2)]) rfl ?_
  refine r_bk1 ?_
  refine v_to [3, 4, 5, 2, 1, 0] (l5_leastToSaw_9 C a1 a2 s0 (fun x8 => ?_) FU _ _ _) rfl
  refine v_iload_n (pc := 80) C 0 rfl dX5_leastToSaw_80 ?_
  exact tp_out (fun h => hret _ _ _ _ ⟨h, rfl⟩ dX5_leastToSaw_81)
def f5_saw (a1 : Int32) (a2 : Int32) (a3 : Int32) (a4 : Int32) (s0 : SS) : Option (Int32 × SS) := lt (fun (x3 : Int32) => bd (f5_isBody a1 s0) (fun x4 => if x4 = 0 then some ((-1), s0) else if x3 = 0 then some ((-1), s0) else bd (f5_tuned 5 s0) (fun x5 => bd (f5_look a1 0 x5 s0) (fun q6 => bd (f5_leastToSaw a2 a3 q6) (fun x7 => if a4 = 0 then some (x7, q6) else if x7 = (-9) then some (x7, q6) else bd (fJ6_bitCount_0f7a4 x7) (fun x8 => some (x8, q6))))))) (fun j1 => lt (fun (_u : Unit) => j1 0) (fun j9 => if a2 < 0 then j9 () else if a2 ≤ 9999 then if a3 < 0 then j9 () else if a3 ≤ 99 then if a4 < 0 then j9 () else if a4 ≤ 1 then j1 1 else j9 () else j9 () else j9 ()))
set_option maxHeartbeats 4000000 in
set_option maxRecDepth 100000 in
theorem m5_saw (G : GT) (l : Launch) (a1 : Int32) (a2 : Int32) (a3 : Int32) (a4 : Int32)  (s0 : SS) (r : Int32) (s1 : SS) (hf : f5_saw a1 a2 a3 a4 s0 = some (r, s1)) : MI G l yX5_saw cX5_saw 7 (some .int) 5 122 [.ref (aX G 0), .int a1, .int a2, .int a3, .int a4] (wX G s0) r (wX G s1) := by
  refine MI.start (by decide +kernel) (Nat.le_of_ble_eq_true rfl) (fun K hl C hret => ?_)
  subst hl
  have C : Ctx G K cX5_saw RX5 7 5 122 := C
  change V G K (wX G s0) 0 [(0, .ref (aX G 0)), (1, .int a1), (2, .int a2), (3, .int a3), (4, .int a4)] []
  refine (?_ : tp (f5_saw a1 a2 a3 a4 s0) (fun q => q = (r, s1)) → _) ⟨_, hf, rfl⟩
  rw [f5_saw]
  refine v_iload_n (pc := 0) C 2 rfl dX5_saw_0 ?_
  refine r_lJ (fun Φ0 j1 => ∀ (x3 : Int32), tp (j1 x3) Φ0 → V G K (wX G s0) 37 [(0, .ref (aX G 0)), (1, .int a1), (2, .int a2), (3, .int a3), (4, .int a4)] [.int x3]) (fun x3 => ?_) (fun j1 hj2 => ?_)
  · refine v_istore (pc := 37) C dX5_saw_37 (by decide) (lv' := [(5, .int x3), (0, .ref (aX G 0)), (1, .int a1), (2, .int a2), (3, .int a3), (4, .int a4)]) rfl ?_
    refine v_aload_n (pc := 39) C 1 rfl dX5_saw_39 ?_
    refine v_iload_n (pc := 40) C 2 rfl dX5_saw_40 ?_
    refine cIv1r (pc := 41) C (fun r9 h9 => m5_isBody G K.2.1 a1 s0 r9 h9) q_yX5_isBody mw_384 rc_5 ⟨by decide, by decide⟩ (Nat.le_of_ble_eq_true rfl) dX5_saw_41 (fun x4 => ?_)
    refine v_if_eq (pc := 44) C 52 dX5_saw_44 (by decide) ?_ ?_
    · refine v_iconst (pc := 52) C (-1) dX5_saw_52 (by decide) ?_
      exact tp_out (fun h => hret _ _ _ _ ⟨(Prod.mk.inj h).1, congrArg (wX G) (Prod.mk.inj h).2⟩ dX5_saw_53)
    · refine v_iload (pc := 47) C 0 rfl dX5_saw_47 ?_
      refine v_if_ne (pc := 49) C 54 dX5_saw_49 (by decide) ?_ ?_
      · refine v_iconst (pc := 52) C (-1) dX5_saw_52 (by decide) ?_
        exact tp_out (fun h => hret _ _ _ _ ⟨(Prod.mk.inj h).1, congrArg (wX G) (Prod.mk.inj h).2⟩ dX5_saw_53)
      · refine v_aload_n (pc := 54) C 1 rfl dX5_saw_54 ?_
        refine v_iload_n (pc := 55) C 2 rfl dX5_saw_55 ?_
        refine v_iconst (pc := 56) C 0 dX5_saw_56 (by decide) ?_
        refine v_aload_n (pc := 57) C 1 rfl dX5_saw_57 ?_
        refine v_iconst (pc := 58) C 5 dX5_saw_58 (by decide) ?_
        refine cIv1r (pc := 59) C (fun r9 h9 => m5_tuned G K.2.1 5 s0 r9 h9) q_yX5_tuned mw_437 rc_5 ⟨by decide, by decide⟩ (Nat.le_of_ble_eq_true rfl) dX5_saw_59 (fun x5 => ?_)
        refine cVv3w (pc := 62) C (W2 := wX G) (fun s9 h9 => m5_look G K.2.1 a1 0 x5 s0 s9 h9) q_yX5_look mw_508 rc_5 ⟨by decide, by decide⟩ (Nat.le_of_ble_eq_true rfl) dX5_saw_62 (fun q6 => ?_)
        refine v_aload_n (pc := 65) C 1 rfl dX5_saw_65 ?_
        refine v_iload_n (pc := 66) C 3 rfl dX5_saw_66 ?_
        refine v_iload_n (pc := 67) C 4 rfl dX5_saw_67 ?_
        refine cIv2r (pc := 68) C (fun r9 h9 => m5_leastToSaw G K.2.1 a2 a3 q6 r9 h9) q_yX5_leastToSaw mw_770 rc_5 ⟨by decide, by decide⟩ (Nat.le_of_ble_eq_true rfl) dX5_saw_68 (fun x7 => ?_)
        refine v_istore (pc := 71) C dX5_saw_71 (by decide) (lv' := [(6, .int x7), (5, .int x3), (0, .ref (aX G 0)), (1, .int a1), (2, .int a2), (3, .int a3), (4, .int a4)]) rfl ?_
        refine v_iload (pc := 73) C 6 rfl dX5_saw_73 ?_
        refine v_if_eq (pc := 75) C 85 dX5_saw_75 (by decide) ?_ ?_
        · refine v_iload (pc := 85) C 0 rfl dX5_saw_85 ?_
          refine v_goto (pc := 87) C 95 dX5_saw_87 (by decide) ?_
          exact tp_out (fun h => hret _ _ _ _ ⟨(Prod.mk.inj h).1, congrArg (wX G) (Prod.mk.inj h).2⟩ dX5_saw_95)
        · refine v_iload (pc := 78) C 0 rfl dX5_saw_78 ?_
          refine v_bipush (pc := 80) C (-9) dX5_saw_80 (by decide) ?_
          refine v_icmp_ne (pc := 82) C 90 dX5_saw_82 (by decide) ?_ ?_
          · refine v_iload (pc := 85) C 0 rfl dX5_saw_85 ?_
            refine v_goto (pc := 87) C 95 dX5_saw_87 (by decide) ?_
            exact tp_out (fun h => hret _ _ _ _ ⟨(Prod.mk.inj h).1, congrArg (wX G) (Prod.mk.inj h).2⟩ dX5_saw_95)
          · refine v_iload (pc := 90) C 0 rfl dX5_saw_90 ?_
            refine cIs1r (pc := 92) C (fun r9 h9 => mJ6_bitCount_0f7a4 G K.2.1 x7 _ r9 h9) q_yJ6_bitCount_0f7a4 mw_774 ⟨by decide, by decide⟩ (Nat.le_of_ble_eq_true rfl) dX5_saw_92 (fun x8 => ?_)
            exact tp_out (fun h => hret _ _ _ _ ⟨(Prod.mk.inj h).1, congrArg (wX G) (Prod.mk.inj h).2⟩ dX5_saw_95)
  refine r_lJ (fun Φ0 j9 => ∀ (_u : Unit), tp (j9 ()) Φ0 → V G K (wX G s0) 36 [(0, .ref (aX G 0)), (1, .int a1), (2, .int a2), (3, .int a3), (4, .int a4)] []) (fun _u => ?_) (fun j9 hj10 => ?_)
  · refine v_iconst (pc := 36) C 0 dX5_saw_36 (by decide) ?_
    exact v_to [0, 1, 2, 3, 4] (hj2 _) rfl
  refine v_if_lt (pc := 1) C 36 dX5_saw_1 (by decide) ?_ ?_
  · exact v_to [0, 1, 2, 3, 4] (hj10 ()) rfl
  · refine v_iload_n (pc := 4) C 2 rfl dX5_saw_4 ?_
    refine v_sipush (pc := 5) C 9999 dX5_saw_5 (by decide) ?_
    refine v_icmp_gt (pc := 8) C 36 dX5_saw_8 (by decide) ?_ ?_
    · refine v_iload_n (pc := 11) C 3 rfl dX5_saw_11 ?_
      refine v_if_lt (pc := 12) C 36 dX5_saw_12 (by decide) ?_ ?_
      · exact v_to [0, 1, 2, 3, 4] (hj10 ()) rfl
      · refine v_iload_n (pc := 15) C 3 rfl dX5_saw_15 ?_
        refine v_bipush (pc := 16) C 99 dX5_saw_16 (by decide) ?_
        refine v_icmp_gt (pc := 18) C 36 dX5_saw_18 (by decide) ?_ ?_
        · refine v_iload (pc := 21) C 4 rfl dX5_saw_21 ?_
          refine v_if_lt (pc := 23) C 36 dX5_saw_23 (by decide) ?_ ?_
          · exact v_to [0, 1, 2, 3, 4] (hj10 ()) rfl
          · refine v_iload (pc := 26) C 4 rfl dX5_saw_26 ?_
            refine v_iconst (pc := 28) C 1 dX5_saw_28 (by decide) ?_
            refine v_icmp_gt (pc := 29) C 36 dX5_saw_29 (by decide) ?_ ?_
            · refine v_iconst (pc := 32) C 1 dX5_saw_32 (by decide) ?_
              refine v_goto (pc := 33) C 37 dX5_saw_33 (by decide) ?_
              exact v_to [0, 1, 2, 3, 4] (hj2 _) rfl
            · exact v_to [0, 1, 2, 3, 4] (hj10 ()) rfl
        · exact v_to [0, 1, 2, 3, 4] (hj10 ()) rfl
    · exact v_to [0, 1, 2, 3, 4] (hj10 ()) rfl
def f5_afternoon (a1 : Int32) (a2 : Int32) (a3 : Int32) (s0 : SS) : Option (Int32 × SS) := bd (f5_isBody a1 s0) (fun x1 => if x1 = 0 then some ((-1), s0) else if a2 < 0 then some ((-1), s0) else if a2 ≤ 9 then if a3 < 0 then some ((-1), s0) else if a3 ≤ 99 then bk2 (f0_write a1 a2 a3 s0) (fun x2 q3 => if x2 = 0 then some ((-3), q3) else some ((q3.1 12 0), q3)) else some ((-1), s0) else some ((-1), s0))
set_option maxHeartbeats 4000000 in
set_option maxRecDepth 100000 in
theorem m5_afternoon (G : GT) (l : Launch) (a1 : Int32) (a2 : Int32) (a3 : Int32)  (s0 : SS) (r : Int32) (s1 : SS) (hf : f5_afternoon a1 a2 a3 s0 = some (r, s1)) : MI G l yX5_afternoon cX5_afternoon 4 (some .int) 1 23 [.ref (aX G 0), .int a1, .int a2, .int a3] (wX G s0) r (wX G s1) := by
  refine MI.start (by decide +kernel) (Nat.le_of_ble_eq_true rfl) (fun K hl C hret => ?_)
  subst hl
  have C : Ctx G K cX5_afternoon RX5 4 1 23 := C
  change V G K (wX G s0) 0 [(0, .ref (aX G 0)), (1, .int a1), (2, .int a2), (3, .int a3)] []
  refine (?_ : tp (f5_afternoon a1 a2 a3 s0) (fun q => q = (r, s1)) → _) ⟨_, hf, rfl⟩
  rw [f5_afternoon]
  refine v_aload_n (pc := 0) C 0 rfl dX5_afternoon_0 ?_
  refine v_iload_n (pc := 1) C 1 rfl dX5_afternoon_1 ?_
  refine cIv1r (pc := 2) C (fun r9 h9 => m5_isBody G K.2.1 a1 s0 r9 h9) q_yX5_isBody mw_384 rc_5 ⟨by decide, by decide⟩ (Nat.le_of_ble_eq_true rfl) dX5_afternoon_2 (fun x1 => ?_)
  refine v_if_eq (pc := 5) C 28 dX5_afternoon_5 (by decide) ?_ ?_
  · refine v_iconst (pc := 28) C (-1) dX5_afternoon_28 (by decide) ?_
    exact tp_out (fun h => hret _ _ _ _ ⟨(Prod.mk.inj h).1, congrArg (wX G) (Prod.mk.inj h).2⟩ dX5_afternoon_29)
  · refine v_iload_n (pc := 8) C 2 rfl dX5_afternoon_8 ?_
    refine v_if_lt (pc := 9) C 28 dX5_afternoon_9 (by decide) ?_ ?_
    · refine v_iconst (pc := 28) C (-1) dX5_afternoon_28 (by decide) ?_
      exact tp_out (fun h => hret _ _ _ _ ⟨(Prod.mk.inj h).1, congrArg (wX G) (Prod.mk.inj h).2⟩ dX5_afternoon_29)
    · refine v_iload_n (pc := 12) C 2 rfl dX5_afternoon_12 ?_
      refine v_bipush (pc := 13) C 9 dX5_afternoon_13 (by decide) ?_
      refine v_icmp_gt (pc := 15) C 28 dX5_afternoon_15 (by decide) ?_ ?_
      · refine v_iload_n (pc := 18) C 3 rfl dX5_afternoon_18 ?_
        refine v_if_lt (pc := 19) C 28 dX5_afternoon_19 (by decide) ?_ ?_
        · refine v_iconst (pc := 28) C (-1) dX5_afternoon_28 (by decide) ?_
          exact tp_out (fun h => hret _ _ _ _ ⟨(Prod.mk.inj h).1, congrArg (wX G) (Prod.mk.inj h).2⟩ dX5_afternoon_29)
        · refine v_iload_n (pc := 22) C 3 rfl dX5_afternoon_22 ?_
          refine v_bipush (pc := 23) C 99 dX5_afternoon_23 (by decide) ?_
          refine v_icmp_le (pc := 25) C 30 dX5_afternoon_25 (by decide) ?_ ?_
          · refine v_aload_n (pc := 30) C 0 rfl dX5_afternoon_30 ?_
            refine g5_diary (pc := 31) C mw_32 dX5_afternoon_31 ?_
            refine v_iload_n (pc := 34) C 1 rfl dX5_afternoon_34 ?_
            refine v_iload_n (pc := 35) C 2 rfl dX5_afternoon_35 ?_
            refine v_iload_n (pc := 36) C 3 rfl dX5_afternoon_36 ?_
            refine cIv3w (pc := 37) C (W2 := wX G) (fun r9 s9 h9 => m0_write G K.2.1 a1 a2 a3 s0 r9 s9 h9) q_yX0_write mw_799 rc_0 ⟨by decide, by decide⟩ (Nat.le_of_ble_eq_true rfl) dX5_afternoon_37 (fun x2 q3 => ?_)
            refine v_if_eq (pc := 40) C 53 dX5_afternoon_40 (by decide) ?_ ?_
            · refine v_bipush (pc := 53) C (-3) dX5_afternoon_53 (by decide) ?_
              exact tp_out (fun h => hret _ _ _ _ ⟨(Prod.mk.inj h).1, congrArg (wX G) (Prod.mk.inj h).2⟩ dX5_afternoon_55)
            · refine v_aload_n (pc := 43) C 0 rfl dX5_afternoon_43 ?_
              refine g5_diary (pc := 44) C mw_32 dX5_afternoon_44 ?_
              refine g0_entries (pc := 47) C mw_155 dX5_afternoon_47 ?_
              refine v_goto (pc := 50) C 55 dX5_afternoon_50 (by decide) ?_
              exact tp_out (fun h => hret _ _ _ _ ⟨(Prod.mk.inj h).1, congrArg (wX G) (Prod.mk.inj h).2⟩ dX5_afternoon_55)
          · refine v_iconst (pc := 28) C (-1) dX5_afternoon_28 (by decide) ?_
            exact tp_out (fun h => hret _ _ _ _ ⟨(Prod.mk.inj h).1, congrArg (wX G) (Prod.mk.inj h).2⟩ dX5_afternoon_29)
      · refine v_iconst (pc := 28) C (-1) dX5_afternoon_28 (by decide) ?_
        exact tp_out (fun h => hret _ _ _ _ ⟨(Prod.mk.inj h).1, congrArg (wX G) (Prod.mk.inj h).2⟩ dX5_afternoon_29)
def f5_dares (a1 : Int32) (a2 : Int32) (a3 : Int32) (a4 : Int32) (s0 : SS) : Option Int32 := lt (fun (x3 : Int32) => bd (f5_isBody a1 s0) (fun x4 => if x4 = 0 then some (-1) else if x3 = 0 then some (-1) else bd (f0_howMany a1 a2 9 0 s0) (fun x5 => bd (f0_howMany a1 a2 9 a3 s0) (fun x6 => lt (if 1 < x5 then x5 else 1) (fun x7 => bd (f5_leastTerms (Int32.toInt64 x6) (Int32.toInt64 x7) a4) (fun x8 => some (Int64.toInt32 x8))))))) (fun j1 => lt (fun (_u : Unit) => j1 0) (fun j9 => if a2 < 0 then j9 () else if a2 ≤ 9 then if a3 < 0 then j9 () else if a3 ≤ 99 then if a4 < 0 then j9 () else if a4 ≤ 1 then j1 1 else j9 () else j9 () else j9 ()))
set_option maxHeartbeats 4000000 in
set_option maxRecDepth 100000 in
theorem m5_dares (G : GT) (l : Launch) (a1 : Int32) (a2 : Int32) (a3 : Int32) (a4 : Int32)  (s0 : SS) (r : Int32) (hf : f5_dares a1 a2 a3 a4 s0 = some r) : MI G l yX5_dares cX5_dares 7 (some .int) 2 52 [.ref (aX G 0), .int a1, .int a2, .int a3, .int a4] (wX G s0) r (wX G s0) := by
  refine MI.start (by decide +kernel) (Nat.le_of_ble_eq_true rfl) (fun K hl C hret => ?_)
  subst hl
  have C : Ctx G K cX5_dares RX5 7 2 52 := C
  change V G K (wX G s0) 0 [(0, .ref (aX G 0)), (1, .int a1), (2, .int a2), (3, .int a3), (4, .int a4)] []
  refine (?_ : tp (f5_dares a1 a2 a3 a4 s0) (fun q => q = r) → _) ⟨_, hf, rfl⟩
  rw [f5_dares]
  refine v_iload_n (pc := 0) C 2 rfl dX5_dares_0 ?_
  refine r_lJ (fun Φ0 j1 => ∀ (x3 : Int32), tp (j1 x3) Φ0 → V G K (wX G s0) 36 [(0, .ref (aX G 0)), (1, .int a1), (2, .int a2), (3, .int a3), (4, .int a4)] [.int x3]) (fun x3 => ?_) (fun j1 hj2 => ?_)
  · refine v_istore (pc := 36) C dX5_dares_36 (by decide) (lv' := [(5, .int x3), (0, .ref (aX G 0)), (1, .int a1), (2, .int a2), (3, .int a3), (4, .int a4)]) rfl ?_
    refine v_aload_n (pc := 38) C 1 rfl dX5_dares_38 ?_
    refine v_iload_n (pc := 39) C 2 rfl dX5_dares_39 ?_
    refine cIv1r (pc := 40) C (fun r9 h9 => m5_isBody G K.2.1 a1 s0 r9 h9) q_yX5_isBody mw_384 rc_5 ⟨by decide, by decide⟩ (Nat.le_of_ble_eq_true rfl) dX5_dares_40 (fun x4 => ?_)
    refine v_if_eq (pc := 43) C 51 dX5_dares_43 (by decide) ?_ ?_
    · refine v_iconst (pc := 51) C (-1) dX5_dares_51 (by decide) ?_
      exact tp_out (fun h => hret _ _ _ _ ⟨h, rfl⟩ dX5_dares_52)
    · refine v_iload (pc := 46) C 0 rfl dX5_dares_46 ?_
      refine v_if_ne (pc := 48) C 53 dX5_dares_48 (by decide) ?_ ?_
      · refine v_iconst (pc := 51) C (-1) dX5_dares_51 (by decide) ?_
        exact tp_out (fun h => hret _ _ _ _ ⟨h, rfl⟩ dX5_dares_52)
      · refine v_aload_n (pc := 53) C 1 rfl dX5_dares_53 ?_
        refine g5_diary (pc := 54) C mw_32 dX5_dares_54 ?_
        refine v_iload_n (pc := 57) C 2 rfl dX5_dares_57 ?_
        refine v_iload_n (pc := 58) C 3 rfl dX5_dares_58 ?_
        refine v_bipush (pc := 59) C 9 dX5_dares_59 (by decide) ?_
        refine v_iconst (pc := 61) C 0 dX5_dares_61 (by decide) ?_
        refine cIv4r (pc := 62) C (fun r9 h9 => m0_howMany G K.2.1 a1 a2 9 0 s0 r9 h9) q_yX0_howMany mw_811 rc_0 ⟨by decide, by decide⟩ (Nat.le_of_ble_eq_true rfl) dX5_dares_62 (fun x5 => ?_)
        refine v_istore (pc := 65) C dX5_dares_65 (by decide) (lv' := [(6, .int x5), (5, .int x3), (0, .ref (aX G 0)), (1, .int a1), (2, .int a2), (3, .int a3), (4, .int a4)]) rfl ?_
        refine v_aload_n (pc := 67) C 2 rfl dX5_dares_67 ?_
        refine g5_diary (pc := 68) C mw_32 dX5_dares_68 ?_
        refine v_iload_n (pc := 71) C 3 rfl dX5_dares_71 ?_
        refine v_iload_n (pc := 72) C 4 rfl dX5_dares_72 ?_
        refine v_bipush (pc := 73) C 9 dX5_dares_73 (by decide) ?_
        refine v_iload_n (pc := 75) C 5 rfl dX5_dares_75 ?_
        refine cIv4r (pc := 76) C (fun r9 h9 => m0_howMany G K.2.1 a1 a2 9 a3 s0 r9 h9) q_yX0_howMany mw_811 rc_0 ⟨by decide, by decide⟩ (Nat.le_of_ble_eq_true rfl) dX5_dares_76 (fun x6 => ?_)
        refine v_i2l (pc := 79) C dX5_dares_79 ?_
        refine v_iconst (pc := 80) C 1 dX5_dares_80 (by decide) ?_
        refine v_iload (pc := 81) C 0 rfl dX5_dares_81 ?_
        refine v_mmax (pc := 83) C mw_490 mw_491 mw_190 mw_492 (by decide) (Nat.le_of_ble_eq_true rfl) dX5_dares_83 ?_
        refine r_lti (fun x7 => ?_)
        refine v_i2l (pc := 86) C dX5_dares_86 ?_
        refine v_iload (pc := 87) C 6 rfl dX5_dares_87 ?_
        refine cLs3r (pc := 89) C (fun r9 h9 => m5_leastTerms G K.2.1 (Int32.toInt64 x6) (Int32.toInt64 x7) a4 _ r9 h9) q_yX5_leastTerms mw_548 ⟨by decide, by decide⟩ (Nat.le_of_ble_eq_true rfl) dX5_dares_89 (fun x8 => ?_)
        refine v_l2i (pc := 92) C dX5_dares_92 ?_
        exact tp_out (fun h => hret _ _ _ _ ⟨h, rfl⟩ dX5_dares_93)
  refine r_lJ (fun Φ0 j9 => ∀ (_u : Unit), tp (j9 ()) Φ0 → V G K (wX G s0) 35 [(0, .ref (aX G 0)), (1, .int a1), (2, .int a2), (3, .int a3), (4, .int a4)] []) (fun _u => ?_) (fun j9 hj10 => ?_)
  · refine v_iconst (pc := 35) C 0 dX5_dares_35 (by decide) ?_
    exact v_to [0, 1, 2, 3, 4] (hj2 _) rfl
  refine v_if_lt (pc := 1) C 35 dX5_dares_1 (by decide) ?_ ?_
  · exact v_to [0, 1, 2, 3, 4] (hj10 ()) rfl
  · refine v_iload_n (pc := 4) C 2 rfl dX5_dares_4 ?_
    refine v_bipush (pc := 5) C 9 dX5_dares_5 (by decide) ?_
    refine v_icmp_gt (pc := 7) C 35 dX5_dares_7 (by decide) ?_ ?_
    · refine v_iload_n (pc := 10) C 3 rfl dX5_dares_10 ?_
      refine v_if_lt (pc := 11) C 35 dX5_dares_11 (by decide) ?_ ?_
      · exact v_to [0, 1, 2, 3, 4] (hj10 ()) rfl
      · refine v_iload_n (pc := 14) C 3 rfl dX5_dares_14 ?_
        refine v_bipush (pc := 15) C 99 dX5_dares_15 (by decide) ?_
        refine v_icmp_gt (pc := 17) C 35 dX5_dares_17 (by decide) ?_ ?_
        · refine v_iload (pc := 20) C 4 rfl dX5_dares_20 ?_
          refine v_if_lt (pc := 22) C 35 dX5_dares_22 (by decide) ?_ ?_
          · exact v_to [0, 1, 2, 3, 4] (hj10 ()) rfl
          · refine v_iload (pc := 25) C 4 rfl dX5_dares_25 ?_
            refine v_iconst (pc := 27) C 1 dX5_dares_27 (by decide) ?_
            refine v_icmp_gt (pc := 28) C 35 dX5_dares_28 (by decide) ?_ ?_
            · refine v_iconst (pc := 31) C 1 dX5_dares_31 (by decide) ?_
              refine v_goto (pc := 32) C 36 dX5_dares_32 (by decide) ?_
              exact v_to [0, 1, 2, 3, 4] (hj2 _) rfl
            · exact v_to [0, 1, 2, 3, 4] (hj10 ()) rfl
        · exact v_to [0, 1, 2, 3, 4] (hj10 ()) rfl
    · exact v_to [0, 1, 2, 3, 4] (hj10 ()) rfl
def f5_looked (a1 : Int32) (s0 : SS) : Option Int32 := bd (f5_isBody a1 s0) (fun x1 => if x1 = 0 then some (-1000000) else bd (f0_howMany a1 1 9 0 s0) (fun x2 => bd (f0_howMany a1 0 0 0 s0) (fun x3 => if x2 < 1 then some (-1000000) else if x3 < 1 then some (-1000000) else bd (f0_heights a1 1 9 s0) (fun x4 => gd (¬ x2 = 0) (bd (f0_heights a1 0 0 s0) (fun x5 => gd (¬ x3 = 0) (some (((x4 * 100) / x2) - ((x5 * 100) / x3)))))))))
set_option maxHeartbeats 4000000 in
set_option maxRecDepth 100000 in
theorem m5_looked (G : GT) (l : Launch) (a1 : Int32)  (s0 : SS) (r : Int32) (hf : f5_looked a1 s0 = some r) : MI G l yX5_looked cX5_looked 4 (some .int) 2 50 [.ref (aX G 0), .int a1] (wX G s0) r (wX G s0) := by
  refine MI.start (by decide +kernel) (Nat.le_of_ble_eq_true rfl) (fun K hl C hret => ?_)
  subst hl
  have C : Ctx G K cX5_looked RX5 4 2 50 := C
  change V G K (wX G s0) 0 [(0, .ref (aX G 0)), (1, .int a1)] []
  refine (?_ : tp (f5_looked a1 s0) (fun q => q = r) → _) ⟨_, hf, rfl⟩
  rw [f5_looked]
  refine v_aload_n (pc := 0) C 0 rfl dX5_looked_0 ?_
  refine v_iload_n (pc := 1) C 1 rfl dX5_looked_1 ?_
  refine cIv1r (pc := 2) C (fun r9 h9 => m5_isBody G K.2.1 a1 s0 r9 h9) q_yX5_isBody mw_384 rc_5 ⟨by decide, by decide⟩ (Nat.le_of_ble_eq_true rfl) dX5_looked_2 (fun x1 => ?_)
  refine v_if_ne (pc := 5) C 11 dX5_looked_5 (by decide) ?_ ?_
  · refine v_ldc (pc := 8) C mw_827 dX5_looked_8 ?_
    exact tp_out (fun h => hret _ _ _ _ ⟨h, rfl⟩ dX5_looked_10)
  · refine v_aload_n (pc := 11) C 0 rfl dX5_looked_11 ?_
    refine g5_diary (pc := 12) C mw_32 dX5_looked_12 ?_
    refine v_iload_n (pc := 15) C 1 rfl dX5_looked_15 ?_
    refine v_iconst (pc := 16) C 1 dX5_looked_16 (by decide) ?_
    refine v_bipush (pc := 17) C 9 dX5_looked_17 (by decide) ?_
    refine v_iconst (pc := 19) C 0 dX5_looked_19 (by decide) ?_
    refine cIv4r (pc := 20) C (fun r9 h9 => m0_howMany G K.2.1 a1 1 9 0 s0 r9 h9) q_yX0_howMany mw_811 rc_0 ⟨by decide, by decide⟩ (Nat.le_of_ble_eq_true rfl) dX5_looked_20 (fun x2 => ?_)
    refine v_istore_n (pc := 23) C dX5_looked_23 (by decide) (lv' := [(2, .int x2), (0, .ref (aX G 0)), (1, .int a1)]) rfl ?_
    refine v_aload_n (pc := 24) C 1 rfl dX5_looked_24 ?_
    refine g5_diary (pc := 25) C mw_32 dX5_looked_25 ?_
    refine v_iload_n (pc := 28) C 2 rfl dX5_looked_28 ?_
    refine v_iconst (pc := 29) C 0 dX5_looked_29 (by decide) ?_
    refine v_iconst (pc := 30) C 0 dX5_looked_30 (by decide) ?_
    refine v_iconst (pc := 31) C 0 dX5_looked_31 (by decide) ?_
    refine cIv4r (pc := 32) C (fun r9 h9 => m0_howMany G K.2.1 a1 0 0 0 s0 r9 h9) q_yX0_howMany mw_811 rc_0 ⟨by decide, by decide⟩ (Nat.le_of_ble_eq_true rfl) dX5_looked_32 (fun x3 => ?_)
    refine v_istore_n (pc := 35) C dX5_looked_35 (by decide) (lv' := [(3, .int x3), (2, .int x2), (0, .ref (aX G 0)), (1, .int a1)]) rfl ?_
    refine v_iload_n (pc := 36) C 1 rfl dX5_looked_36 ?_
    refine v_iconst (pc := 37) C 1 dX5_looked_37 (by decide) ?_
    refine v_icmp_lt (pc := 38) C 46 dX5_looked_38 (by decide) ?_ ?_
    · refine v_ldc (pc := 46) C mw_827 dX5_looked_46 ?_
      exact tp_out (fun h => hret _ _ _ _ ⟨h, rfl⟩ dX5_looked_48)
    · refine v_iload_n (pc := 41) C 0 rfl dX5_looked_41 ?_
      refine v_iconst (pc := 42) C 1 dX5_looked_42 (by decide) ?_
      refine v_icmp_ge (pc := 43) C 49 dX5_looked_43 (by decide) ?_ ?_
      · refine v_ldc (pc := 46) C mw_827 dX5_looked_46 ?_
        exact tp_out (fun h => hret _ _ _ _ ⟨h, rfl⟩ dX5_looked_48)
      · refine v_aload_n (pc := 49) C 2 rfl dX5_looked_49 ?_
        refine g5_diary (pc := 50) C mw_32 dX5_looked_50 ?_
        refine v_iload_n (pc := 53) C 3 rfl dX5_looked_53 ?_
        refine v_iconst (pc := 54) C 1 dX5_looked_54 (by decide) ?_
        refine v_bipush (pc := 55) C 9 dX5_looked_55 (by decide) ?_
        refine cIv3r (pc := 57) C (fun r9 h9 => m0_heights G K.2.1 a1 1 9 s0 r9 h9) q_yX0_heights mw_828 rc_0 ⟨by decide, by decide⟩ (Nat.le_of_ble_eq_true rfl) dX5_looked_57 (fun x4 => ?_)
        refine v_bipush (pc := 60) C 100 dX5_looked_60 (by decide) ?_
        refine v_imul (pc := 62) C dX5_looked_62 ?_
        refine v_iload_n (pc := 63) C 1 rfl dX5_looked_63 ?_
        refine v_idivG (pc := 64) C dX5_looked_64 ?_
        refine v_aload_n (pc := 65) C 2 rfl dX5_looked_65 ?_
        refine g5_diary (pc := 66) C mw_32 dX5_looked_66 ?_
        refine v_iload_n (pc := 69) C 3 rfl dX5_looked_69 ?_
        refine v_iconst (pc := 70) C 0 dX5_looked_70 (by decide) ?_
        refine v_iconst (pc := 71) C 0 dX5_looked_71 (by decide) ?_
        refine cIv3r (pc := 72) C (fun r9 h9 => m0_heights G K.2.1 a1 0 0 s0 r9 h9) q_yX0_heights mw_828 rc_0 ⟨by decide, by decide⟩ (Nat.le_of_ble_eq_true rfl) dX5_looked_72 (fun x5 => ?_)
        refine v_bipush (pc := 75) C 100 dX5_looked_75 (by decide) ?_
        refine v_imul (pc := 77) C dX5_looked_77 ?_
        refine v_iload_n (pc := 78) C 0 rfl dX5_looked_78 ?_
        refine v_idivG (pc := 79) C dX5_looked_79 ?_
        refine v_isub (pc := 80) C dX5_looked_80 ?_
        exact tp_out (fun h => hret _ _ _ _ ⟨h, rfl⟩ dX5_looked_81)
def f5_goes (a1 : Int32) (s0 : SS) : Option (Int32 × SS) := bd (f5_isBody a1 s0) (fun x1 => if x1 = 0 then some ((-1), s0) else lt ((s0.1 (17 + 0) 0)) (fun x2 => bd (f1_begin 0 a1 s0) (fun q3 => some (x2, q3))))
set_option maxHeartbeats 4000000 in
set_option maxRecDepth 100000 in
theorem m5_goes (G : GT) (l : Launch) (a1 : Int32)  (s0 : SS) (r : Int32) (s1 : SS) (hf : f5_goes a1 s0 = some (r, s1)) : MI G l yX5_goes cX5_goes 3 (some .int) 1 21 [.ref (aX G 0), .int a1] (wX G s0) r (wX G s1) := by
  refine MI.start (by decide +kernel) (Nat.le_of_ble_eq_true rfl) (fun K hl C hret => ?_)
  subst hl
  have C : Ctx G K cX5_goes RX5 3 1 21 := C
  change V G K (wX G s0) 0 [(0, .ref (aX G 0)), (1, .int a1)] []
  refine (?_ : tp (f5_goes a1 s0) (fun q => q = (r, s1)) → _) ⟨_, hf, rfl⟩
  rw [f5_goes]
  refine v_aload_n (pc := 0) C 0 rfl dX5_goes_0 ?_
  refine v_iload_n (pc := 1) C 1 rfl dX5_goes_1 ?_
  refine cIv1r (pc := 2) C (fun r9 h9 => m5_isBody G K.2.1 a1 s0 r9 h9) q_yX5_isBody mw_384 rc_5 ⟨by decide, by decide⟩ (Nat.le_of_ble_eq_true rfl) dX5_goes_2 (fun x1 => ?_)
  refine v_if_ne (pc := 5) C 10 dX5_goes_5 (by decide) ?_ ?_
  · refine v_iconst (pc := 8) C (-1) dX5_goes_8 (by decide) ?_
    exact tp_out (fun h => hret _ _ _ _ ⟨(Prod.mk.inj h).1, congrArg (wX G) (Prod.mk.inj h).2⟩ dX5_goes_9)
  · refine v_aload_n (pc := 10) C 0 rfl dX5_goes_10 ?_
    refine g5_present (pc := 11) C mw_36 dX5_goes_11 ?_
    refine g1_who 0 (by decide) (pc := 14) C mw_841 dX5_goes_14 ?_
    refine r_lti (fun x2 => ?_)
    refine v_istore_n (pc := 17) C dX5_goes_17 (by decide) (lv' := [(2, .int x2), (0, .ref (aX G 0)), (1, .int a1)]) rfl ?_
    refine v_aload_n (pc := 18) C 1 rfl dX5_goes_18 ?_
    refine g5_present (pc := 19) C mw_36 dX5_goes_19 ?_
    refine v_iload_n (pc := 22) C 2 rfl dX5_goes_22 ?_
    refine cVv1w (pc := 23) C (W2 := wX G) (fun s9 h9 => m1_begin G K.2.1 0 a1 (by decide) s0 s9 h9) q_yX1_begin mw_303 (rc_1 0 (by decide)) ⟨by decide, by decide⟩ (Nat.le_of_ble_eq_true rfl) dX5_goes_23 (fun q3 => ?_)
    refine v_iload_n (pc := 26) C 0 rfl dX5_goes_26 ?_
    exact tp_out (fun h => hret _ _ _ _ ⟨(Prod.mk.inj h).1, congrArg (wX G) (Prod.mk.inj h).2⟩ dX5_goes_27)
def f5_climb (a1 : Int32) (s0 : SS) : Option (Int32 × SS) := lt ((s0.1 (17 + 0) 0)) (fun x1 => lt ((s0.1 (17 + 0) 1)) (fun x2 => bd (f5_isBody x1 s0) (fun x3 => if x3 = 0 then some ((-1000000), s0) else bd (f5_isPlace x2 s0) (fun x4 => if x4 = 0 then some ((-1000000), s0) else bd (f5_isPlace a1 s0) (fun x5 => if x5 = 0 then some ((-1000000), s0) else bd (f4_power (s0.2.2 0) x1 0 s0) (fun x6 => bd (f5_tuned 5 s0) (fun x7 => bd (f5_mayStep x1 x2 a1 x6 x7 s0) (fun x8 => if x8 = 0 then some ((-1000000), s0) else lt (fun (q11 : SS) => bd (f4_feature (q11.2.2 0) a1 0 q11) (fun x12 => bd (f1_arrive 0 a1 x12 q11) (fun q13 => some ((q13.1 (17 + 0) 1), q13)))) (fun j9 => if a1 = (-1) then j9 s0 else bk2 (f1_draw 0 s0) (fun x14 q15 => bd (f5_tenths x1 a1 q15) (fun x16 => if x14 < x16 then j9 q15 else bd (f5_harm x2 (q15.1 (17 + 0) 7) q15) (fun x17 => bd (f1_drop 0 x17 q15) (fun q18 => some ((q18.1 (17 + 0) 1), q18))))))))))))))
set_option maxHeartbeats 4000000 in
set_option maxRecDepth 100000 in
theorem m5_climb (G : GT) (l : Launch) (a1 : Int32)  (s0 : SS) (r : Int32) (s1 : SS) (hf : f5_climb a1 s0 = some (r, s1)) : MI G l yX5_climb cX5_climb 4 (some .int) 3 71 [.ref (aX G 0), .int a1] (wX G s0) r (wX G s1) := by
  refine MI.start (by decide +kernel) (Nat.le_of_ble_eq_true rfl) (fun K hl C hret => ?_)
  subst hl
  have C : Ctx G K cX5_climb RX5 4 3 71 := C
  change V G K (wX G s0) 0 [(0, .ref (aX G 0)), (1, .int a1)] []
  refine (?_ : tp (f5_climb a1 s0) (fun q => q = (r, s1)) → _) ⟨_, hf, rfl⟩
  rw [f5_climb]
  refine v_aload_n (pc := 0) C 0 rfl dX5_climb_0 ?_
  refine g5_present (pc := 1) C mw_36 dX5_climb_1 ?_
  refine g1_who 0 (by decide) (pc := 4) C mw_841 dX5_climb_4 ?_
  refine r_lti (fun x1 => ?_)
  refine v_istore_n (pc := 7) C dX5_climb_7 (by decide) (lv' := [(2, .int x1), (0, .ref (aX G 0)), (1, .int a1)]) rfl ?_
  refine v_aload_n (pc := 8) C 1 rfl dX5_climb_8 ?_
  refine g5_present (pc := 9) C mw_36 dX5_climb_9 ?_
  refine g1_where 0 (by decide) (pc := 12) C mw_850 dX5_climb_12 ?_
  refine r_lti (fun x2 => ?_)
  refine v_istore_n (pc := 15) C dX5_climb_15 (by decide) (lv' := [(3, .int x2), (2, .int x1), (0, .ref (aX G 0)), (1, .int a1)]) rfl ?_
  refine v_aload_n (pc := 16) C 2 rfl dX5_climb_16 ?_
  refine v_iload_n (pc := 17) C 1 rfl dX5_climb_17 ?_
  refine cIv1r (pc := 18) C (fun r9 h9 => m5_isBody G K.2.1 x1 s0 r9 h9) q_yX5_isBody mw_384 rc_5 ⟨by decide, by decide⟩ (Nat.le_of_ble_eq_true rfl) dX5_climb_18 (fun x3 => ?_)
  refine v_if_eq (pc := 21) C 40 dX5_climb_21 (by decide) ?_ ?_
  · refine v_ldc (pc := 40) C mw_827 dX5_climb_40 ?_
    exact tp_out (fun h => hret _ _ _ _ ⟨(Prod.mk.inj h).1, congrArg (wX G) (Prod.mk.inj h).2⟩ dX5_climb_42)
  · refine v_aload_n (pc := 24) C 2 rfl dX5_climb_24 ?_
    refine v_iload_n (pc := 25) C 0 rfl dX5_climb_25 ?_
    refine cIv1r (pc := 26) C (fun r9 h9 => m5_isPlace G K.2.1 x2 s0 r9 h9) q_yX5_isPlace mw_433 rc_5 ⟨by decide, by decide⟩ (Nat.le_of_ble_eq_true rfl) dX5_climb_26 (fun x4 => ?_)
    refine v_if_eq (pc := 29) C 40 dX5_climb_29 (by decide) ?_ ?_
    · refine v_ldc (pc := 40) C mw_827 dX5_climb_40 ?_
      exact tp_out (fun h => hret _ _ _ _ ⟨(Prod.mk.inj h).1, congrArg (wX G) (Prod.mk.inj h).2⟩ dX5_climb_42)
    · refine v_aload_n (pc := 32) C 2 rfl dX5_climb_32 ?_
      refine v_iload_n (pc := 33) C 3 rfl dX5_climb_33 ?_
      refine cIv1r (pc := 34) C (fun r9 h9 => m5_isPlace G K.2.1 a1 s0 r9 h9) q_yX5_isPlace mw_433 rc_5 ⟨by decide, by decide⟩ (Nat.le_of_ble_eq_true rfl) dX5_climb_34 (fun x5 => ?_)
      refine v_if_ne (pc := 37) C 43 dX5_climb_37 (by decide) ?_ ?_
      · refine v_ldc (pc := 40) C mw_827 dX5_climb_40 ?_
        exact tp_out (fun h => hret _ _ _ _ ⟨(Prod.mk.inj h).1, congrArg (wX G) (Prod.mk.inj h).2⟩ dX5_climb_42)
      · refine v_aload_n (pc := 43) C 2 rfl dX5_climb_43 ?_
        refine v_iload_n (pc := 44) C 1 rfl dX5_climb_44 ?_
        refine v_iload_n (pc := 45) C 0 rfl dX5_climb_45 ?_
        refine v_iload_n (pc := 46) C 3 rfl dX5_climb_46 ?_
        refine v_aload_n (pc := 47) C 2 rfl dX5_climb_47 ?_
        refine g5_wood (pc := 48) C mw_41 dX5_climb_48 ?_
        refine v_iload_n (pc := 51) C 1 rfl dX5_climb_51 ?_
        refine v_iconst (pc := 52) C 0 dX5_climb_52 (by decide) ?_
        refine cIv2r (pc := 53) C (fun r9 h9 => m4_power G K.2.1 (s0.2.2 0) x1 0 s0 r9 h9) q_yX4_power mw_388 (rc_4 (s0.2.2 0)) ⟨by decide, by decide⟩ (Nat.le_of_ble_eq_true rfl) dX5_climb_53 (fun x6 => ?_)
        refine v_aload_n (pc := 56) C 2 rfl dX5_climb_56 ?_
        refine v_iconst (pc := 57) C 5 dX5_climb_57 (by decide) ?_
        refine cIv1r (pc := 58) C (fun r9 h9 => m5_tuned G K.2.1 5 s0 r9 h9) q_yX5_tuned mw_437 rc_5 ⟨by decide, by decide⟩ (Nat.le_of_ble_eq_true rfl) dX5_climb_58 (fun x7 => ?_)
        refine cIv5r (pc := 61) C (fun r9 h9 => m5_mayStep G K.2.1 x1 x2 a1 x6 x7 s0 r9 h9) q_yX5_mayStep mw_441 rc_5 ⟨by decide, by decide⟩ (Nat.le_of_ble_eq_true rfl) dX5_climb_61 (fun x8 => ?_)
        refine v_if_ne (pc := 64) C 70 dX5_climb_64 (by decide) ?_ ?_
        · refine v_ldc (pc := 67) C mw_827 dX5_climb_67 ?_
          exact tp_out (fun h => hret _ _ _ _ ⟨(Prod.mk.inj h).1, congrArg (wX G) (Prod.mk.inj h).2⟩ dX5_climb_69)
        · refine v_iload_n (pc := 70) C 3 rfl dX5_climb_70 ?_
          refine v_iconst (pc := 71) C (-1) dX5_climb_71 (by decide) ?_
          refine r_lJ (fun Φ0 j9 => ∀ (q11 : SS), tp (j9 q11) Φ0 → V G K (wX G q11) 91 [(0, .ref (aX G 0)), (1, .int a1)] []) (fun q11 => ?_) (fun j9 hj10 => ?_)
          · refine v_aload_n (pc := 91) C 0 rfl dX5_climb_91 ?_
            refine g5_present (pc := 92) C mw_36 dX5_climb_92 ?_
            refine v_iload_n (pc := 95) C 1 rfl dX5_climb_95 ?_
            refine v_aload_n (pc := 96) C 0 rfl dX5_climb_96 ?_
            refine g5_wood (pc := 97) C mw_41 dX5_climb_97 ?_
            refine v_iload_n (pc := 100) C 1 rfl dX5_climb_100 ?_
            refine v_iconst (pc := 101) C 0 dX5_climb_101 (by decide) ?_
            refine cIv2r (pc := 102) C (fun r9 h9 => m4_feature G K.2.1 (q11.2.2 0) a1 0 q11 r9 h9) q_yX4_feature mw_363 (rc_4 (q11.2.2 0)) ⟨by decide, by decide⟩ (Nat.le_of_ble_eq_true rfl) dX5_climb_102 (fun x12 => ?_)
            refine cVv2w (pc := 105) C (W2 := wX G) (fun s9 h9 => m1_arrive G K.2.1 0 a1 x12 (by decide) q11 s9 h9) q_yX1_arrive mw_856 (rc_1 0 (by decide)) ⟨by decide, by decide⟩ (Nat.le_of_ble_eq_true rfl) dX5_climb_105 (fun q13 => ?_)
            refine v_goto (pc := 108) C 130 dX5_climb_108 (by decide) ?_
            refine v_aload_n (pc := 130) C 0 rfl dX5_climb_130 ?_
            refine g5_present (pc := 131) C mw_36 dX5_climb_131 ?_
            refine g1_where 0 (by decide) (pc := 134) C mw_850 dX5_climb_134 ?_
            exact tp_out (fun h => hret _ _ _ _ ⟨(Prod.mk.inj h).1, congrArg (wX G) (Prod.mk.inj h).2⟩ dX5_climb_137)
          refine v_icmp_eq (pc := 72) C 91 dX5_climb_72 (by decide) ?_ ?_
          · exact v_to [2, 3] (hj10 _) rfl
          · refine v_aload_n (pc := 75) C 2 rfl dX5_climb_75 ?_
            refine g5_present (pc := 76) C mw_36 dX5_climb_76 ?_
            refine cIv0w (pc := 79) C (W2 := wX G) (fun r9 s9 h9 => m1_draw G K.2.1 0 (by decide) s0 r9 s9 h9) q_yX1_draw mw_851 (rc_1 0 (by decide)) ⟨by decide, by decide⟩ (Nat.le_of_ble_eq_true rfl) dX5_climb_79 (fun x14 q15 => ?_)
            refine v_aload_n (pc := 82) C 2 rfl dX5_climb_82 ?_
            refine v_iload_n (pc := 83) C 1 rfl dX5_climb_83 ?_
            refine v_iload_n (pc := 84) C 3 rfl dX5_climb_84 ?_
            refine cIv2r (pc := 85) C (fun r9 h9 => m5_tenths G K.2.1 x1 a1 q15 r9 h9) q_yX5_tenths mw_486 rc_5 ⟨by decide, by decide⟩ (Nat.le_of_ble_eq_true rfl) dX5_climb_85 (fun x16 => ?_)
            refine v_icmp_ge (pc := 88) C 111 dX5_climb_88 (by decide) ?_ ?_
            · exact v_to [2, 3] (hj10 _) rfl
            · refine v_aload_n (pc := 111) C 2 rfl dX5_climb_111 ?_
              refine g5_present (pc := 112) C mw_36 dX5_climb_112 ?_
              refine v_aload_n (pc := 115) C 2 rfl dX5_climb_115 ?_
              refine v_iload_n (pc := 116) C 0 rfl dX5_climb_116 ?_
              refine v_aload_n (pc := 117) C 2 rfl dX5_climb_117 ?_
              refine g5_present (pc := 118) C mw_36 dX5_climb_118 ?_
              refine g1_sawn 0 (by decide) (pc := 121) C mw_154 dX5_climb_121 ?_
              refine cIv2r (pc := 124) C (fun r9 h9 => m5_harm G K.2.1 x2 (q15.1 (17 + 0) 7) q15 r9 h9) q_yX5_harm mw_748 rc_5 ⟨by decide, by decide⟩ (Nat.le_of_ble_eq_true rfl) dX5_climb_124 (fun x17 => ?_)
              refine cVv1w (pc := 127) C (W2 := wX G) (fun s9 h9 => m1_drop G K.2.1 0 x17 (by decide) q15 s9 h9) q_yX1_drop mw_861 (rc_1 0 (by decide)) ⟨by decide, by decide⟩ (Nat.le_of_ble_eq_true rfl) dX5_climb_127 (fun q18 => ?_)
              refine v_aload_n (pc := 130) C 2 rfl dX5_climb_130 ?_
              refine g5_present (pc := 131) C mw_36 dX5_climb_131 ?_
              refine g1_where 0 (by decide) (pc := 134) C mw_850 dX5_climb_134 ?_
              exact tp_out (fun h => hret _ _ _ _ ⟨(Prod.mk.inj h).1, congrArg (wX G) (Prod.mk.inj h).2⟩ dX5_climb_137)
def f5_now (a1 : Int32) (s0 : SS) : Option Int32 := if a1 = 0 then some (s0.1 (17 + 0) 0) else (if a1 = 1 then some (s0.1 (17 + 0) 1) else (if a1 = 2 then some (s0.1 (17 + 0) 2) else (if a1 = 3 then some (s0.1 (17 + 0) 3) else (if a1 = 4 then some (s0.1 (17 + 0) 4) else (if a1 = 5 then some (s0.1 (17 + 0) 5) else (some (-1000000)))))))
set_option maxHeartbeats 4000000 in
set_option maxRecDepth 100000 in
theorem m5_now (G : GT) (l : Launch) (a1 : Int32)  (s0 : SS) (r : Int32) (hf : f5_now a1 s0 = some r) : MI G l yX5_now cX5_now 2 (some .int) 0 0 [.ref (aX G 0), .int a1] (wX G s0) r (wX G s0) := by
  refine MI.start (by decide +kernel) (Nat.le_of_ble_eq_true rfl) (fun K hl C hret => ?_)
  subst hl
  have C : Ctx G K cX5_now RX5 2 0 0 := C
  change V G K (wX G s0) 0 [(0, .ref (aX G 0)), (1, .int a1)] []
  refine (?_ : tp (f5_now a1 s0) (fun q => q = r) → _) ⟨_, hf, rfl⟩
  rw [f5_now]
  refine v_iload_n (pc := 0) C 1 rfl dX5_now_0 ?_
  refine r_if (fun e0 => ?_) (fun e0 => ?_)
  · refine v_tableIn (pc := 1) C 40 dX5_now_1 (by rw [e0]; decide) (by rw [e0]; decide) (off := 39) (by rw [e0]; rfl) (by decide) ?_
    refine v_aload_n (pc := 40) C 0 rfl dX5_now_40 ?_
    refine g5_present (pc := 41) C mw_36 dX5_now_41 ?_
    refine g1_who 0 (by decide) (pc := 44) C mw_841 dX5_now_44 ?_
    exact tp_out (fun h => hret _ _ _ _ ⟨h, rfl⟩ dX5_now_47)
  · skip
    refine r_if (fun e1 => ?_) (fun e1 => ?_)
    · refine v_tableIn (pc := 1) C 48 dX5_now_1 (by rw [e1]; decide) (by rw [e1]; decide) (off := 47) (by rw [e1]; rfl) (by decide) ?_
      refine v_aload_n (pc := 48) C 0 rfl dX5_now_48 ?_
      refine g5_present (pc := 49) C mw_36 dX5_now_49 ?_
      refine g1_where 0 (by decide) (pc := 52) C mw_850 dX5_now_52 ?_
      exact tp_out (fun h => hret _ _ _ _ ⟨h, rfl⟩ dX5_now_55)
    · skip
      refine r_if (fun e2 => ?_) (fun e2 => ?_)
      · refine v_tableIn (pc := 1) C 56 dX5_now_1 (by rw [e2]; decide) (by rw [e2]; decide) (off := 55) (by rw [e2]; rfl) (by decide) ?_
        refine v_aload_n (pc := 56) C 0 rfl dX5_now_56 ?_
        refine g5_present (pc := 57) C mw_36 dX5_now_57 ?_
        refine g1_hurt 0 (by decide) (pc := 60) C mw_878 dX5_now_60 ?_
        exact tp_out (fun h => hret _ _ _ _ ⟨h, rfl⟩ dX5_now_63)
      · skip
        refine r_if (fun e3 => ?_) (fun e3 => ?_)
        · refine v_tableIn (pc := 1) C 64 dX5_now_1 (by rw [e3]; decide) (by rw [e3]; decide) (off := 63) (by rw [e3]; rfl) (by decide) ?_
          refine v_aload_n (pc := 64) C 0 rfl dX5_now_64 ?_
          refine g5_present (pc := 65) C mw_36 dX5_now_65 ?_
          refine g1_top 0 (by decide) (pc := 68) C mw_879 dX5_now_68 ?_
          exact tp_out (fun h => hret _ _ _ _ ⟨h, rfl⟩ dX5_now_71)
        · skip
          refine r_if (fun e4 => ?_) (fun e4 => ?_)
          · refine v_tableIn (pc := 1) C 72 dX5_now_1 (by rw [e4]; decide) (by rw [e4]; decide) (off := 71) (by rw [e4]; rfl) (by decide) ?_
            refine v_aload_n (pc := 72) C 0 rfl dX5_now_72 ?_
            refine g5_present (pc := 73) C mw_36 dX5_now_73 ?_
            refine g1_steps 0 (by decide) (pc := 76) C mw_880 dX5_now_76 ?_
            exact tp_out (fun h => hret _ _ _ _ ⟨h, rfl⟩ dX5_now_79)
          · skip
            refine r_if (fun e5 => ?_) (fun e5 => ?_)
            · refine v_tableIn (pc := 1) C 80 dX5_now_1 (by rw [e5]; decide) (by rw [e5]; decide) (off := 79) (by rw [e5]; rfl) (by decide) ?_
              refine v_aload_n (pc := 80) C 0 rfl dX5_now_80 ?_
              refine g5_present (pc := 81) C mw_36 dX5_now_81 ?_
              refine g1_falls 0 (by decide) (pc := 84) C mw_881 dX5_now_84 ?_
              exact tp_out (fun h => hret _ _ _ _ ⟨h, rfl⟩ dX5_now_87)
            · skip
              refine v_tableOut (pc := 1) C 88 dX5_now_1 (by have z0 := lv_neT e0 (show (0 : Int32).toInt = 0 by decide); have z1 := lv_neT e1 (show (1 : Int32).toInt = 1 by decide); have z2 := lv_neT e2 (show (2 : Int32).toInt = 2 by decide); have z3 := lv_neT e3 (show (3 : Int32).toInt = 3 by decide); have z4 := lv_neT e4 (show (4 : Int32).toInt = 4 by decide); have z5 := lv_neT e5 (show (5 : Int32).toInt = 5 by decide); omega) (by decide) ?_
              refine v_ldc (pc := 88) C mw_827 dX5_now_88 ?_
              exact tp_out (fun h => hret _ _ _ _ ⟨h, rfl⟩ dX5_now_90)
def f5_lot (a1 : Int32) (s0 : SS) : Option (Int32 × SS) := lt ((s0.1 (17 + 0) 6)) (fun x1 => lt (sI s0 (17 + 0) 6 a1) (fun q2 => some (x1, q2)))
set_option maxHeartbeats 4000000 in
set_option maxRecDepth 100000 in
theorem m5_lot (G : GT) (l : Launch) (a1 : Int32)  (s0 : SS) (r : Int32) (s1 : SS) (hf : f5_lot a1 s0 = some (r, s1)) : MI G l yX5_lot cX5_lot 3 (some .int) 0 0 [.ref (aX G 0), .int a1] (wX G s0) r (wX G s1) := by
  refine MI.start (by decide +kernel) (Nat.le_of_ble_eq_true rfl) (fun K hl C hret => ?_)
  subst hl
  have C : Ctx G K cX5_lot RX5 3 0 0 := C
  change V G K (wX G s0) 0 [(0, .ref (aX G 0)), (1, .int a1)] []
  refine (?_ : tp (f5_lot a1 s0) (fun q => q = (r, s1)) → _) ⟨_, hf, rfl⟩
  rw [f5_lot]
  refine v_aload_n (pc := 0) C 0 rfl dX5_lot_0 ?_
  refine g5_present (pc := 1) C mw_36 dX5_lot_1 ?_
  refine g1_lot 0 (by decide) (pc := 4) C mw_44 dX5_lot_4 ?_
  refine r_lti (fun x1 => ?_)
  refine v_istore_n (pc := 7) C dX5_lot_7 (by decide) (lv' := [(2, .int x1), (0, .ref (aX G 0)), (1, .int a1)]) rfl ?_
  refine v_aload_n (pc := 8) C 1 rfl dX5_lot_8 ?_
  refine g5_present (pc := 9) C mw_36 dX5_lot_9 ?_
  refine v_iload_n (pc := 12) C 2 rfl dX5_lot_12 ?_
  refine p1_lot 0 (by decide) (pc := 13) C mw_44 dX5_lot_13 ?_
  refine r_ltx (fun q2 => ?_)
  refine v_iload_n (pc := 16) C 0 rfl dX5_lot_16 ?_
  exact tp_out (fun h => hret _ _ _ _ ⟨(Prod.mk.inj h).1, congrArg (wX G) (Prod.mk.inj h).2⟩ dX5_lot_17)
def f5_markBranch (a1 : Int32) (s0 : SS) : Option (Int32 × SS) := lt (sL s0 0 8 ((s0.2.1 0 8) + 1)) (fun q1 => bd (f4_feature (q1.2.2 0) a1 0 q1) (fun x2 => some (x2, q1)))
set_option maxHeartbeats 4000000 in
set_option maxRecDepth 100000 in
theorem m5_markBranch (G : GT) (l : Launch) (a1 : Int32)  (s0 : SS) (r : Int32) (s1 : SS) (hf : f5_markBranch a1 s0 = some (r, s1)) : MI G l yX5_markBranch cX5_markBranch 2 (some .int) 1 22 [.ref (aX G 0), .int a1] (wX G s0) r (wX G s1) := by
  refine MI.start (by decide +kernel) (Nat.le_of_ble_eq_true rfl) (fun K hl C hret => ?_)
  subst hl
  have C : Ctx G K cX5_markBranch RX5 2 1 22 := C
  change V G K (wX G s0) 0 [(0, .ref (aX G 0)), (1, .int a1)] []
  refine (?_ : tp (f5_markBranch a1 s0) (fun q => q = (r, s1)) → _) ⟨_, hf, rfl⟩
  rw [f5_markBranch]
  refine v_aload_n (pc := 0) C 0 rfl dX5_markBranch_0 ?_
  refine v_dup (pc := 1) C dX5_markBranch_1 rfl ?_
  refine g5_asked (pc := 2) C mw_43 dX5_markBranch_2 ?_
  refine v_lconst (pc := 5) C 1 dX5_markBranch_5 (by decide) ?_
  refine v_ladd (pc := 6) C dX5_markBranch_6 ?_
  refine p5_asked (pc := 7) C mw_43 dX5_markBranch_7 ?_
  refine r_ltx (fun q1 => ?_)
  refine v_aload_n (pc := 10) C 0 rfl dX5_markBranch_10 ?_
  refine g5_wood (pc := 11) C mw_41 dX5_markBranch_11 ?_
  refine v_iload_n (pc := 14) C 1 rfl dX5_markBranch_14 ?_
  refine v_iconst (pc := 15) C 0 dX5_markBranch_15 (by decide) ?_
  refine cIv2r (pc := 16) C (fun r9 h9 => m4_feature G K.2.1 (q1.2.2 0) a1 0 q1 r9 h9) q_yX4_feature mw_363 (rc_4 (q1.2.2 0)) ⟨by decide, by decide⟩ (Nat.le_of_ble_eq_true rfl) dX5_markBranch_16 (fun x2 => ?_)
  exact tp_out (fun h => hret _ _ _ _ ⟨(Prod.mk.inj h).1, congrArg (wX G) (Prod.mk.inj h).2⟩ dX5_markBranch_19)
def f5_markSound (a1 : Int32) (s0 : SS) : Option (Int32 × SS) := lt (sL s0 0 8 ((s0.2.1 0 8) + 10)) (fun q1 => bk2 (f5_markBranch a1 q1) (fun x2 q3 => bd (f4_feature (q3.2.2 0) a1 2 q3) (fun x4 => some ((x2 + x4), q3))))
set_option maxHeartbeats 4000000 in
set_option maxRecDepth 100000 in
theorem m5_markSound (G : GT) (l : Launch) (a1 : Int32)  (s0 : SS) (r : Int32) (s1 : SS) (hf : f5_markSound a1 s0 = some (r, s1)) : MI G l yX5_markSound cX5_markSound 2 (some .int) 2 43 [.ref (aX G 0), .int a1] (wX G s0) r (wX G s1) := by
  refine MI.start (by decide +kernel) (Nat.le_of_ble_eq_true rfl) (fun K hl C hret => ?_)
  subst hl
  have C : Ctx G K cX5_markSound RX5 2 2 43 := C
  change V G K (wX G s0) 0 [(0, .ref (aX G 0)), (1, .int a1)] []
  refine (?_ : tp (f5_markSound a1 s0) (fun q => q = (r, s1)) → _) ⟨_, hf, rfl⟩
  rw [f5_markSound]
  refine v_aload_n (pc := 0) C 0 rfl dX5_markSound_0 ?_
  refine v_dup (pc := 1) C dX5_markSound_1 rfl ?_
  refine g5_asked (pc := 2) C mw_43 dX5_markSound_2 ?_
  refine v_ldc2 (pc := 5) C mw_906 dX5_markSound_5 ?_
  refine v_ladd (pc := 8) C dX5_markSound_8 ?_
  refine p5_asked (pc := 9) C mw_43 dX5_markSound_9 ?_
  refine r_ltx (fun q1 => ?_)
  refine v_aload_n (pc := 12) C 0 rfl dX5_markSound_12 ?_
  refine v_iload_n (pc := 13) C 1 rfl dX5_markSound_13 ?_
  refine cIv1w (pc := 14) C (W2 := wX G) (fun r9 s9 h9 => m5_markBranch G K.2.1 a1 q1 r9 s9 h9) q_yX5_markBranch mw_898 rc_5 ⟨by decide, by decide⟩ (Nat.le_of_ble_eq_true rfl) dX5_markSound_14 (fun x2 q3 => ?_)
  refine v_aload_n (pc := 17) C 0 rfl dX5_markSound_17 ?_
  refine g5_wood (pc := 18) C mw_41 dX5_markSound_18 ?_
  refine v_iload_n (pc := 21) C 1 rfl dX5_markSound_21 ?_
  refine v_iconst (pc := 22) C 2 dX5_markSound_22 (by decide) ?_
  refine cIv2r (pc := 23) C (fun r9 h9 => m4_feature G K.2.1 (q3.2.2 0) a1 2 q3 r9 h9) q_yX4_feature mw_363 (rc_4 (q3.2.2 0)) ⟨by decide, by decide⟩ (Nat.le_of_ble_eq_true rfl) dX5_markSound_23 (fun x4 => ?_)
  refine v_iadd (pc := 26) C dX5_markSound_26 ?_
  exact tp_out (fun h => hret _ _ _ _ ⟨(Prod.mk.inj h).1, congrArg (wX G) (Prod.mk.inj h).2⟩ dX5_markSound_27)
def f5_markDead (a1 : Int32) (s0 : SS) : Option (Int32 × SS) := lt (sL s0 0 8 ((s0.2.1 0 8) + 100)) (fun q1 => bk2 (f5_markBranch a1 q1) (fun x2 q3 => bd (f4_feature (q3.2.2 0) a1 3 q3) (fun x4 => some ((x2 - (10 - x4)), q3))))
set_option maxHeartbeats 4000000 in
set_option maxRecDepth 100000 in
theorem m5_markDead (G : GT) (l : Launch) (a1 : Int32)  (s0 : SS) (r : Int32) (s1 : SS) (hf : f5_markDead a1 s0 = some (r, s1)) : MI G l yX5_markDead cX5_markDead 2 (some .int) 2 43 [.ref (aX G 0), .int a1] (wX G s0) r (wX G s1) := by
  refine MI.start (by decide +kernel) (Nat.le_of_ble_eq_true rfl) (fun K hl C hret => ?_)
  subst hl
  have C : Ctx G K cX5_markDead RX5 2 2 43 := C
  change V G K (wX G s0) 0 [(0, .ref (aX G 0)), (1, .int a1)] []
  refine (?_ : tp (f5_markDead a1 s0) (fun q => q = (r, s1)) → _) ⟨_, hf, rfl⟩
  rw [f5_markDead]
  refine v_aload_n (pc := 0) C 0 rfl dX5_markDead_0 ?_
  refine v_dup (pc := 1) C dX5_markDead_1 rfl ?_
  refine g5_asked (pc := 2) C mw_43 dX5_markDead_2 ?_
  refine v_ldc2 (pc := 5) C mw_630 dX5_markDead_5 ?_
  refine v_ladd (pc := 8) C dX5_markDead_8 ?_
  refine p5_asked (pc := 9) C mw_43 dX5_markDead_9 ?_
  refine r_ltx (fun q1 => ?_)
  refine v_aload_n (pc := 12) C 0 rfl dX5_markDead_12 ?_
  refine v_iload_n (pc := 13) C 1 rfl dX5_markDead_13 ?_
  refine cIv1w (pc := 14) C (W2 := wX G) (fun r9 s9 h9 => m5_markBranch G K.2.1 a1 q1 r9 s9 h9) q_yX5_markBranch mw_898 rc_5 ⟨by decide, by decide⟩ (Nat.le_of_ble_eq_true rfl) dX5_markDead_14 (fun x2 q3 => ?_)
  refine v_bipush (pc := 17) C 10 dX5_markDead_17 (by decide) ?_
  refine v_aload_n (pc := 19) C 0 rfl dX5_markDead_19 ?_
  refine g5_wood (pc := 20) C mw_41 dX5_markDead_20 ?_
  refine v_iload_n (pc := 23) C 1 rfl dX5_markDead_23 ?_
  refine v_iconst (pc := 24) C 3 dX5_markDead_24 (by decide) ?_
  refine cIv2r (pc := 25) C (fun r9 h9 => m4_feature G K.2.1 (q3.2.2 0) a1 3 q3 r9 h9) q_yX4_feature mw_363 (rc_4 (q3.2.2 0)) ⟨by decide, by decide⟩ (Nat.le_of_ble_eq_true rfl) dX5_markDead_25 (fun x4 => ?_)
  refine v_isub (pc := 28) C dX5_markDead_28 ?_
  refine v_isub (pc := 29) C dX5_markDead_29 ?_
  exact tp_out (fun h => hret _ _ _ _ ⟨(Prod.mk.inj h).1, congrArg (wX G) (Prod.mk.inj h).2⟩ dX5_markDead_30)
def f5_markSeeming (a1 : Int32) (s0 : SS) : Option (Int32 × SS) := lt (sL s0 0 8 ((s0.2.1 0 8) + 1000)) (fun q1 => bk2 (f5_markDead a1 q1) (fun x2 q3 => some ((2 * x2), q3)))
set_option maxHeartbeats 4000000 in
set_option maxRecDepth 100000 in
theorem m5_markSeeming (G : GT) (l : Launch) (a1 : Int32)  (s0 : SS) (r : Int32) (s1 : SS) (hf : f5_markSeeming a1 s0 = some (r, s1)) : MI G l yX5_markSeeming cX5_markSeeming 2 (some .int) 3 64 [.ref (aX G 0), .int a1] (wX G s0) r (wX G s1) := by
  refine MI.start (by decide +kernel) (Nat.le_of_ble_eq_true rfl) (fun K hl C hret => ?_)
  subst hl
  have C : Ctx G K cX5_markSeeming RX5 2 3 64 := C
  change V G K (wX G s0) 0 [(0, .ref (aX G 0)), (1, .int a1)] []
  refine (?_ : tp (f5_markSeeming a1 s0) (fun q => q = (r, s1)) → _) ⟨_, hf, rfl⟩
  rw [f5_markSeeming]
  refine v_aload_n (pc := 0) C 0 rfl dX5_markSeeming_0 ?_
  refine v_dup (pc := 1) C dX5_markSeeming_1 rfl ?_
  refine g5_asked (pc := 2) C mw_43 dX5_markSeeming_2 ?_
  refine v_ldc2 (pc := 5) C mw_915 dX5_markSeeming_5 ?_
  refine v_ladd (pc := 8) C dX5_markSeeming_8 ?_
  refine p5_asked (pc := 9) C mw_43 dX5_markSeeming_9 ?_
  refine r_ltx (fun q1 => ?_)
  refine v_iconst (pc := 12) C 2 dX5_markSeeming_12 (by decide) ?_
  refine v_aload_n (pc := 13) C 0 rfl dX5_markSeeming_13 ?_
  refine v_iload_n (pc := 14) C 1 rfl dX5_markSeeming_14 ?_
  refine cIv1w (pc := 15) C (W2 := wX G) (fun r9 s9 h9 => m5_markDead G K.2.1 a1 q1 r9 s9 h9) q_yX5_markDead mw_907 rc_5 ⟨by decide, by decide⟩ (Nat.le_of_ble_eq_true rfl) dX5_markSeeming_15 (fun x2 q3 => ?_)
  refine v_imul (pc := 18) C dX5_markSeeming_18 ?_
  exact tp_out (fun h => hret _ _ _ _ ⟨(Prod.mk.inj h).1, congrArg (wX G) (Prod.mk.inj h).2⟩ dX5_markSeeming_19)
def f5_markBent (a1 : Int32) (s0 : SS) : Option (Int32 × SS) := lt (sL s0 0 8 ((s0.2.1 0 8) + 10000)) (fun q1 => bk2 (f5_markSound a1 q1) (fun x2 q3 => bd (f4_feature (q3.2.2 0) a1 1 q3) (fun x4 => some ((x2 - x4), q3))))
set_option maxHeartbeats 4000000 in
set_option maxRecDepth 100000 in
theorem m5_markBent (G : GT) (l : Launch) (a1 : Int32)  (s0 : SS) (r : Int32) (s1 : SS) (hf : f5_markBent a1 s0 = some (r, s1)) : MI G l yX5_markBent cX5_markBent 2 (some .int) 3 64 [.ref (aX G 0), .int a1] (wX G s0) r (wX G s1) := by
  refine MI.start (by decide +kernel) (Nat.le_of_ble_eq_true rfl) (fun K hl C hret => ?_)
  subst hl
  have C : Ctx G K cX5_markBent RX5 2 3 64 := C
  change V G K (wX G s0) 0 [(0, .ref (aX G 0)), (1, .int a1)] []
  refine (?_ : tp (f5_markBent a1 s0) (fun q => q = (r, s1)) → _) ⟨_, hf, rfl⟩
  rw [f5_markBent]
  refine v_aload_n (pc := 0) C 0 rfl dX5_markBent_0 ?_
  refine v_dup (pc := 1) C dX5_markBent_1 rfl ?_
  refine g5_asked (pc := 2) C mw_43 dX5_markBent_2 ?_
  refine v_ldc2 (pc := 5) C mw_920 dX5_markBent_5 ?_
  refine v_ladd (pc := 8) C dX5_markBent_8 ?_
  refine p5_asked (pc := 9) C mw_43 dX5_markBent_9 ?_
  refine r_ltx (fun q1 => ?_)
  refine v_aload_n (pc := 12) C 0 rfl dX5_markBent_12 ?_
  refine v_iload_n (pc := 13) C 1 rfl dX5_markBent_13 ?_
  refine cIv1w (pc := 14) C (W2 := wX G) (fun r9 s9 h9 => m5_markSound G K.2.1 a1 q1 r9 s9 h9) q_yX5_markSound mw_902 rc_5 ⟨by decide, by decide⟩ (Nat.le_of_ble_eq_true rfl) dX5_markBent_14 (fun x2 q3 => ?_)
  refine v_aload_n (pc := 17) C 0 rfl dX5_markBent_17 ?_
  refine g5_wood (pc := 18) C mw_41 dX5_markBent_18 ?_
  refine v_iload_n (pc := 21) C 1 rfl dX5_markBent_21 ?_
  refine v_iconst (pc := 22) C 1 dX5_markBent_22 (by decide) ?_
  refine cIv2r (pc := 23) C (fun r9 h9 => m4_feature G K.2.1 (q3.2.2 0) a1 1 q3 r9 h9) q_yX4_feature mw_363 (rc_4 (q3.2.2 0)) ⟨by decide, by decide⟩ (Nat.le_of_ble_eq_true rfl) dX5_markBent_23 (fun x4 => ?_)
  refine v_isub (pc := 26) C dX5_markBent_26 ?_
  exact tp_out (fun h => hret _ _ _ _ ⟨(Prod.mk.inj h).1, congrArg (wX G) (Prod.mk.inj h).2⟩ dX5_markBent_27)
def f5_markWet (a1 : Int32) (s0 : SS) : Option (Int32 × SS) := lt (sL s0 0 8 ((s0.2.1 0 8) + 100000)) (fun q1 => bk2 (f5_markBranch a1 q1) (fun x2 q3 => bd (f4_feature (q3.2.2 0) a1 4 q3) (fun x4 => if x4 = 1 then some ((x2 + 5), q3) else some ((x2 + 0), q3))))
set_option maxHeartbeats 4000000 in
set_option maxRecDepth 100000 in
theorem m5_markWet (G : GT) (l : Launch) (a1 : Int32)  (s0 : SS) (r : Int32) (s1 : SS) (hf : f5_markWet a1 s0 = some (r, s1)) : MI G l yX5_markWet cX5_markWet 2 (some .int) 2 43 [.ref (aX G 0), .int a1] (wX G s0) r (wX G s1) := by
  refine MI.start (by decide +kernel) (Nat.le_of_ble_eq_true rfl) (fun K hl C hret => ?_)
  subst hl
  have C : Ctx G K cX5_markWet RX5 2 2 43 := C
  change V G K (wX G s0) 0 [(0, .ref (aX G 0)), (1, .int a1)] []
  refine (?_ : tp (f5_markWet a1 s0) (fun q => q = (r, s1)) → _) ⟨_, hf, rfl⟩
  rw [f5_markWet]
  refine v_aload_n (pc := 0) C 0 rfl dX5_markWet_0 ?_
  refine v_dup (pc := 1) C dX5_markWet_1 rfl ?_
  refine g5_asked (pc := 2) C mw_43 dX5_markWet_2 ?_
  refine v_ldc2 (pc := 5) C mw_925 dX5_markWet_5 ?_
  refine v_ladd (pc := 8) C dX5_markWet_8 ?_
  refine p5_asked (pc := 9) C mw_43 dX5_markWet_9 ?_
  refine r_ltx (fun q1 => ?_)
  refine v_aload_n (pc := 12) C 0 rfl dX5_markWet_12 ?_
  refine v_iload_n (pc := 13) C 1 rfl dX5_markWet_13 ?_
  refine cIv1w (pc := 14) C (W2 := wX G) (fun r9 s9 h9 => m5_markBranch G K.2.1 a1 q1 r9 s9 h9) q_yX5_markBranch mw_898 rc_5 ⟨by decide, by decide⟩ (Nat.le_of_ble_eq_true rfl) dX5_markWet_14 (fun x2 q3 => ?_)
  refine v_aload_n (pc := 17) C 0 rfl dX5_markWet_17 ?_
  refine g5_wood (pc := 18) C mw_41 dX5_markWet_18 ?_
  refine v_iload_n (pc := 21) C 1 rfl dX5_markWet_21 ?_
  refine v_iconst (pc := 22) C 4 dX5_markWet_22 (by decide) ?_
  refine cIv2r (pc := 23) C (fun r9 h9 => m4_feature G K.2.1 (q3.2.2 0) a1 4 q3 r9 h9) q_yX4_feature mw_363 (rc_4 (q3.2.2 0)) ⟨by decide, by decide⟩ (Nat.le_of_ble_eq_true rfl) dX5_markWet_23 (fun x4 => ?_)
  refine v_iconst (pc := 26) C 1 dX5_markWet_26 (by decide) ?_
  refine v_icmp_ne (pc := 27) C 34 dX5_markWet_27 (by decide) ?_ ?_
  · refine v_iconst (pc := 30) C 5 dX5_markWet_30 (by decide) ?_
    refine v_goto (pc := 31) C 35 dX5_markWet_31 (by decide) ?_
    refine v_iadd (pc := 35) C dX5_markWet_35 ?_
    exact tp_out (fun h => hret _ _ _ _ ⟨(Prod.mk.inj h).1, congrArg (wX G) (Prod.mk.inj h).2⟩ dX5_markWet_36)
  · refine v_iconst (pc := 34) C 0 dX5_markWet_34 (by decide) ?_
    refine v_iadd (pc := 35) C dX5_markWet_35 ?_
    exact tp_out (fun h => hret _ _ _ _ ⟨(Prod.mk.inj h).1, congrArg (wX G) (Prod.mk.inj h).2⟩ dX5_markWet_36)
def f5_mark (a1 : Int32) (a2 : Int32) (s0 : SS) : Option (Int32 × SS) := bd (f5_isBranch a2 s0) (fun x1 => if x1 = 0 then some ((-1000000), s0) else if a1 = 0 then bk2 (f5_markBranch a2 s0) (fun x2 q3 => some (x2, q3)) else (if a1 = 1 then bk2 (f5_markSound a2 s0) (fun x4 q5 => some (x4, q5)) else (if a1 = 2 then bk2 (f5_markDead a2 s0) (fun x6 q7 => some (x6, q7)) else (if a1 = 3 then bk2 (f5_markSeeming a2 s0) (fun x8 q9 => some (x8, q9)) else (if a1 = 4 then bk2 (f5_markBent a2 s0) (fun x10 q11 => some (x10, q11)) else (if a1 = 5 then bk2 (f5_markWet a2 s0) (fun x12 q13 => some (x12, q13)) else (some ((-1000000), s0))))))))
set_option maxHeartbeats 4000000 in
set_option maxRecDepth 100000 in
theorem m5_mark (G : GT) (l : Launch) (a1 : Int32) (a2 : Int32)  (s0 : SS) (r : Int32) (s1 : SS) (hf : f5_mark a1 a2 s0 = some (r, s1)) : MI G l yX5_mark cX5_mark 3 (some .int) 4 85 [.ref (aX G 0), .int a1, .int a2] (wX G s0) r (wX G s1) := by
  refine MI.start (by decide +kernel) (Nat.le_of_ble_eq_true rfl) (fun K hl C hret => ?_)
  subst hl
  have C : Ctx G K cX5_mark RX5 3 4 85 := C
  change V G K (wX G s0) 0 [(0, .ref (aX G 0)), (1, .int a1), (2, .int a2)] []
  refine (?_ : tp (f5_mark a1 a2 s0) (fun q => q = (r, s1)) → _) ⟨_, hf, rfl⟩
  rw [f5_mark]
  refine v_aload_n (pc := 0) C 0 rfl dX5_mark_0 ?_
  refine v_iload_n (pc := 1) C 2 rfl dX5_mark_1 ?_
  refine cIv1r (pc := 2) C (fun r9 h9 => m5_isBranch G K.2.1 a2 s0 r9 h9) q_yX5_isBranch mw_352 rc_5 ⟨by decide, by decide⟩ (Nat.le_of_ble_eq_true rfl) dX5_mark_2 (fun x1 => ?_)
  refine v_if_ne (pc := 5) C 11 dX5_mark_5 (by decide) ?_ ?_
  · refine v_ldc (pc := 8) C mw_827 dX5_mark_8 ?_
    exact tp_out (fun h => hret _ _ _ _ ⟨(Prod.mk.inj h).1, congrArg (wX G) (Prod.mk.inj h).2⟩ dX5_mark_10)
  · refine v_iload_n (pc := 11) C 1 rfl dX5_mark_11 ?_
    refine r_if (fun e0 => ?_) (fun e0 => ?_)
    · refine v_tableIn (pc := 12) C 52 dX5_mark_12 (by rw [e0]; decide) (by rw [e0]; decide) (off := 40) (by rw [e0]; rfl) (by decide) ?_
      refine v_aload_n (pc := 52) C 0 rfl dX5_mark_52 ?_
      refine v_iload_n (pc := 53) C 2 rfl dX5_mark_53 ?_
      refine cIv1w (pc := 54) C (W2 := wX G) (fun r9 s9 h9 => m5_markBranch G K.2.1 a2 s0 r9 s9 h9) q_yX5_markBranch mw_898 rc_5 ⟨by decide, by decide⟩ (Nat.le_of_ble_eq_true rfl) dX5_mark_54 (fun x2 q3 => ?_)
      exact tp_out (fun h => hret _ _ _ _ ⟨(Prod.mk.inj h).1, congrArg (wX G) (Prod.mk.inj h).2⟩ dX5_mark_57)
    · skip
      refine r_if (fun e1 => ?_) (fun e1 => ?_)
      · refine v_tableIn (pc := 12) C 58 dX5_mark_12 (by rw [e1]; decide) (by rw [e1]; decide) (off := 46) (by rw [e1]; rfl) (by decide) ?_
        refine v_aload_n (pc := 58) C 0 rfl dX5_mark_58 ?_
        refine v_iload_n (pc := 59) C 2 rfl dX5_mark_59 ?_
        refine cIv1w (pc := 60) C (W2 := wX G) (fun r9 s9 h9 => m5_markSound G K.2.1 a2 s0 r9 s9 h9) q_yX5_markSound mw_902 rc_5 ⟨by decide, by decide⟩ (Nat.le_of_ble_eq_true rfl) dX5_mark_60 (fun x4 q5 => ?_)
        exact tp_out (fun h => hret _ _ _ _ ⟨(Prod.mk.inj h).1, congrArg (wX G) (Prod.mk.inj h).2⟩ dX5_mark_63)
      · skip
        refine r_if (fun e2 => ?_) (fun e2 => ?_)
        · refine v_tableIn (pc := 12) C 64 dX5_mark_12 (by rw [e2]; decide) (by rw [e2]; decide) (off := 52) (by rw [e2]; rfl) (by decide) ?_
          refine v_aload_n (pc := 64) C 0 rfl dX5_mark_64 ?_
          refine v_iload_n (pc := 65) C 2 rfl dX5_mark_65 ?_
          refine cIv1w (pc := 66) C (W2 := wX G) (fun r9 s9 h9 => m5_markDead G K.2.1 a2 s0 r9 s9 h9) q_yX5_markDead mw_907 rc_5 ⟨by decide, by decide⟩ (Nat.le_of_ble_eq_true rfl) dX5_mark_66 (fun x6 q7 => ?_)
          exact tp_out (fun h => hret _ _ _ _ ⟨(Prod.mk.inj h).1, congrArg (wX G) (Prod.mk.inj h).2⟩ dX5_mark_69)
        · skip
          refine r_if (fun e3 => ?_) (fun e3 => ?_)
          · refine v_tableIn (pc := 12) C 70 dX5_mark_12 (by rw [e3]; decide) (by rw [e3]; decide) (off := 58) (by rw [e3]; rfl) (by decide) ?_
            refine v_aload_n (pc := 70) C 0 rfl dX5_mark_70 ?_
            refine v_iload_n (pc := 71) C 2 rfl dX5_mark_71 ?_
            refine cIv1w (pc := 72) C (W2 := wX G) (fun r9 s9 h9 => m5_markSeeming G K.2.1 a2 s0 r9 s9 h9) q_yX5_markSeeming mw_911 rc_5 ⟨by decide, by decide⟩ (Nat.le_of_ble_eq_true rfl) dX5_mark_72 (fun x8 q9 => ?_)
            exact tp_out (fun h => hret _ _ _ _ ⟨(Prod.mk.inj h).1, congrArg (wX G) (Prod.mk.inj h).2⟩ dX5_mark_75)
          · skip
            refine r_if (fun e4 => ?_) (fun e4 => ?_)
            · refine v_tableIn (pc := 12) C 76 dX5_mark_12 (by rw [e4]; decide) (by rw [e4]; decide) (off := 64) (by rw [e4]; rfl) (by decide) ?_
              refine v_aload_n (pc := 76) C 0 rfl dX5_mark_76 ?_
              refine v_iload_n (pc := 77) C 2 rfl dX5_mark_77 ?_
              refine cIv1w (pc := 78) C (W2 := wX G) (fun r9 s9 h9 => m5_markBent G K.2.1 a2 s0 r9 s9 h9) q_yX5_markBent mw_916 rc_5 ⟨by decide, by decide⟩ (Nat.le_of_ble_eq_true rfl) dX5_mark_78 (fun x10 q11 => ?_)
              exact tp_out (fun h => hret _ _ _ _ ⟨(Prod.mk.inj h).1, congrArg (wX G) (Prod.mk.inj h).2⟩ dX5_mark_81)
            · skip
              refine r_if (fun e5 => ?_) (fun e5 => ?_)
              · refine v_tableIn (pc := 12) C 82 dX5_mark_12 (by rw [e5]; decide) (by rw [e5]; decide) (off := 70) (by rw [e5]; rfl) (by decide) ?_
                refine v_aload_n (pc := 82) C 0 rfl dX5_mark_82 ?_
                refine v_iload_n (pc := 83) C 2 rfl dX5_mark_83 ?_
                refine cIv1w (pc := 84) C (W2 := wX G) (fun r9 s9 h9 => m5_markWet G K.2.1 a2 s0 r9 s9 h9) q_yX5_markWet mw_921 rc_5 ⟨by decide, by decide⟩ (Nat.le_of_ble_eq_true rfl) dX5_mark_84 (fun x12 q13 => ?_)
                exact tp_out (fun h => hret _ _ _ _ ⟨(Prod.mk.inj h).1, congrArg (wX G) (Prod.mk.inj h).2⟩ dX5_mark_87)
              · skip
                refine v_tableOut (pc := 12) C 88 dX5_mark_12 (by have z0 := lv_neT e0 (show (0 : Int32).toInt = 0 by decide); have z1 := lv_neT e1 (show (1 : Int32).toInt = 1 by decide); have z2 := lv_neT e2 (show (2 : Int32).toInt = 2 by decide); have z3 := lv_neT e3 (show (3 : Int32).toInt = 3 by decide); have z4 := lv_neT e4 (show (4 : Int32).toInt = 4 by decide); have z5 := lv_neT e5 (show (5 : Int32).toInt = 5 by decide); omega) (by decide) ?_
                refine v_ldc (pc := 88) C mw_827 dX5_mark_88 ?_
                exact tp_out (fun h => hret _ _ _ _ ⟨(Prod.mk.inj h).1, congrArg (wX G) (Prod.mk.inj h).2⟩ dX5_mark_90)
def f5_keep (a1 : Int32) (s0 : SS) : Option (Int32 × SS) := if a1 < 0 then some ((-1), s0) else if a1 < 2 then gd (inb a1 2) (bd (f1_become (1 + (Int32.toNatClampNeg a1)) 0 s0) (fun q2 => gd (inb a1 2) (lt (sI q2 (17 + (1 + (Int32.toNatClampNeg a1))) 8 1) (fun q4 => some ((q4.1 (17 + 0) 2), q4))))) else some ((-1), s0)
set_option maxHeartbeats 4000000 in
set_option maxRecDepth 100000 in
theorem m5_keep (G : GT) (l : Launch) (a1 : Int32)  (s0 : SS) (r : Int32) (s1 : SS) (hf : f5_keep a1 s0 = some (r, s1)) : MI G l yX5_keep cX5_keep 2 (some .int) 1 21 [.ref (aX G 0), .int a1] (wX G s0) r (wX G s1) := by
  refine MI.start (by decide +kernel) (Nat.le_of_ble_eq_true rfl) (fun K hl C hret => ?_)
  subst hl
  have C : Ctx G K cX5_keep RX5 2 1 21 := C
  change V G K (wX G s0) 0 [(0, .ref (aX G 0)), (1, .int a1)] []
  refine (?_ : tp (f5_keep a1 s0) (fun q => q = (r, s1)) → _) ⟨_, hf, rfl⟩
  rw [f5_keep]
  refine v_iload_n (pc := 0) C 1 rfl dX5_keep_0 ?_
  refine v_if_lt (pc := 1) C 13 dX5_keep_1 (by decide) ?_ ?_
  · refine v_iconst (pc := 13) C (-1) dX5_keep_13 (by decide) ?_
    exact tp_out (fun h => hret _ _ _ _ ⟨(Prod.mk.inj h).1, congrArg (wX G) (Prod.mk.inj h).2⟩ dX5_keep_14)
  · refine v_iload_n (pc := 4) C 1 rfl dX5_keep_4 ?_
    refine v_aload_n (pc := 5) C 0 rfl dX5_keep_5 ?_
    refine g5_images (pc := 6) C mw_37 dX5_keep_6 ?_
    refine v_alen (pc := 9) C _ 4 ax_im rfl (v := 2) rfl dX5_keep_9 ?_
    refine v_icmp_lt (pc := 10) C 15 dX5_keep_10 (by decide) ?_ ?_
    · refine v_aload_n (pc := 15) C 0 rfl dX5_keep_15 ?_
      refine g5_images (pc := 16) C mw_37 dX5_keep_16 ?_
      refine v_iload_n (pc := 19) C 1 rfl dX5_keep_19 ?_
      refine v_aldq (pc := 20) C _ ax_im (fun h => if_pos h.2) dX5_keep_20 (fun hi1 => ?_)
      refine v_aload_n (pc := 21) C 0 rfl dX5_keep_21 ?_
      refine g5_present (pc := 22) C mw_36 dX5_keep_22 ?_
      refine cVv1w (pc := 25) C (W2 := wX G) (fun s9 h9 => m1_become G K.2.1 (1 + (Int32.toNatClampNeg a1)) 0 (show 1 + (Int32.toNatClampNeg a1) < 3 by have := hi1.2; omega) (by decide) s0 s9 h9) q_yX1_become mw_940 (rc_1 (1 + (Int32.toNatClampNeg a1)) (show 1 + (Int32.toNatClampNeg a1) < 3 by have := hi1.2; omega)) ⟨by decide, by decide⟩ (Nat.le_of_ble_eq_true rfl) dX5_keep_25 (fun q2 => ?_)
      refine v_aload_n (pc := 28) C 0 rfl dX5_keep_28 ?_
      refine g5_images (pc := 29) C mw_37 dX5_keep_29 ?_
      refine v_iload_n (pc := 32) C 1 rfl dX5_keep_32 ?_
      refine v_aldq (pc := 33) C _ ax_im (fun h => if_pos h.2) dX5_keep_33 (fun hi3 => ?_)
      refine v_iconst (pc := 34) C 1 dX5_keep_34 (by decide) ?_
      refine p1_kept (1 + (Int32.toNatClampNeg a1)) (show 1 + (Int32.toNatClampNeg a1) < 3 by have := hi3.2; omega) (pc := 35) C (by decide) mw_156 dX5_keep_35 ?_
      refine r_ltx (fun q4 => ?_)
      refine v_aload_n (pc := 38) C 0 rfl dX5_keep_38 ?_
      refine g5_present (pc := 39) C mw_36 dX5_keep_39 ?_
      refine g1_hurt 0 (by decide) (pc := 42) C mw_878 dX5_keep_42 ?_
      exact tp_out (fun h => hret _ _ _ _ ⟨(Prod.mk.inj h).1, congrArg (wX G) (Prod.mk.inj h).2⟩ dX5_keep_45)
    · refine v_iconst (pc := 13) C (-1) dX5_keep_13 (by decide) ?_
      exact tp_out (fun h => hret _ _ _ _ ⟨(Prod.mk.inj h).1, congrArg (wX G) (Prod.mk.inj h).2⟩ dX5_keep_14)
def f5_back (a1 : Int32) (s0 : SS) : Option (Int32 × SS) := if a1 < 0 then some ((-1), s0) else if a1 < 2 then gd (inb a1 2) (if (s0.1 (17 + (1 + (Int32.toNatClampNeg a1))) 8) = 0 then some ((-2), s0) else gd (inb a1 2) (bd (f1_become 0 (1 + (Int32.toNatClampNeg a1)) s0) (fun q3 => some ((q3.1 (17 + 0) 2), q3)))) else some ((-1), s0)
set_option maxHeartbeats 4000000 in
set_option maxRecDepth 100000 in
theorem m5_back (G : GT) (l : Launch) (a1 : Int32)  (s0 : SS) (r : Int32) (s1 : SS) (hf : f5_back a1 s0 = some (r, s1)) : MI G l yX5_back cX5_back 2 (some .int) 1 21 [.ref (aX G 0), .int a1] (wX G s0) r (wX G s1) := by
  refine MI.start (by decide +kernel) (Nat.le_of_ble_eq_true rfl) (fun K hl C hret => ?_)
  subst hl
  have C : Ctx G K cX5_back RX5 2 1 21 := C
  change V G K (wX G s0) 0 [(0, .ref (aX G 0)), (1, .int a1)] []
  refine (?_ : tp (f5_back a1 s0) (fun q => q = (r, s1)) → _) ⟨_, hf, rfl⟩
  rw [f5_back]
  refine v_iload_n (pc := 0) C 1 rfl dX5_back_0 ?_
  refine v_if_lt (pc := 1) C 13 dX5_back_1 (by decide) ?_ ?_
  · refine v_iconst (pc := 13) C (-1) dX5_back_13 (by decide) ?_
    exact tp_out (fun h => hret _ _ _ _ ⟨(Prod.mk.inj h).1, congrArg (wX G) (Prod.mk.inj h).2⟩ dX5_back_14)
  · refine v_iload_n (pc := 4) C 1 rfl dX5_back_4 ?_
    refine v_aload_n (pc := 5) C 0 rfl dX5_back_5 ?_
    refine g5_images (pc := 6) C mw_37 dX5_back_6 ?_
    refine v_alen (pc := 9) C _ 4 ax_im rfl (v := 2) rfl dX5_back_9 ?_
    refine v_icmp_lt (pc := 10) C 15 dX5_back_10 (by decide) ?_ ?_
    · refine v_aload_n (pc := 15) C 0 rfl dX5_back_15 ?_
      refine g5_images (pc := 16) C mw_37 dX5_back_16 ?_
      refine v_iload_n (pc := 19) C 1 rfl dX5_back_19 ?_
      refine v_aldq (pc := 20) C _ ax_im (fun h => if_pos h.2) dX5_back_20 (fun hi1 => ?_)
      refine g1_kept (1 + (Int32.toNatClampNeg a1)) (show 1 + (Int32.toNatClampNeg a1) < 3 by have := hi1.2; omega) (pc := 21) C mw_156 dX5_back_21 ?_
      refine v_if_ne (pc := 24) C 30 dX5_back_24 (by decide) ?_ ?_
      · refine v_bipush (pc := 27) C (-2) dX5_back_27 (by decide) ?_
        exact tp_out (fun h => hret _ _ _ _ ⟨(Prod.mk.inj h).1, congrArg (wX G) (Prod.mk.inj h).2⟩ dX5_back_29)
      · refine v_aload_n (pc := 30) C 0 rfl dX5_back_30 ?_
        refine g5_present (pc := 31) C mw_36 dX5_back_31 ?_
        refine v_aload_n (pc := 34) C 0 rfl dX5_back_34 ?_
        refine g5_images (pc := 35) C mw_37 dX5_back_35 ?_
        refine v_iload_n (pc := 38) C 1 rfl dX5_back_38 ?_
        refine v_aldq (pc := 39) C _ ax_im (fun h => if_pos h.2) dX5_back_39 (fun hi2 => ?_)
        refine cVv1w (pc := 40) C (W2 := wX G) (fun s9 h9 => m1_become G K.2.1 0 (1 + (Int32.toNatClampNeg a1)) (by decide) (show 1 + (Int32.toNatClampNeg a1) < 3 by have := hi2.2; omega) s0 s9 h9) q_yX1_become mw_940 (rc_1 0 (by decide)) ⟨by decide, by decide⟩ (Nat.le_of_ble_eq_true rfl) dX5_back_40 (fun q3 => ?_)
        refine v_aload_n (pc := 43) C 0 rfl dX5_back_43 ?_
        refine g5_present (pc := 44) C mw_36 dX5_back_44 ?_
        refine g1_hurt 0 (by decide) (pc := 47) C mw_878 dX5_back_47 ?_
        exact tp_out (fun h => hret _ _ _ _ ⟨(Prod.mk.inj h).1, congrArg (wX G) (Prod.mk.inj h).2⟩ dX5_back_50)
    · refine v_iconst (pc := 13) C (-1) dX5_back_13 (by decide) ?_
      exact tp_out (fun h => hret _ _ _ _ ⟨(Prod.mk.inj h).1, congrArg (wX G) (Prod.mk.inj h).2⟩ dX5_back_14)
def f5_count (a1 : Int32) (s0 : SS) : Option Int32 := if a1 = 0 then some (s0.1 (wB (s0.2.2 0)) 0) else (if a1 = 1 then some (s0.1 (wB (s0.2.2 0)) 1) else (if a1 = 2 then some (s0.1 12 0) else (if a1 = 3 then bd (fJ6_bitCount_0f7a4 (s0.1 (17 + 0) 7)) (fun x1 => some x1) else (if a1 = 4 then some (s0.1 2 1) else (some (-1))))))
set_option maxHeartbeats 4000000 in
set_option maxRecDepth 100000 in
theorem m5_count (G : GT) (l : Launch) (a1 : Int32)  (s0 : SS) (r : Int32) (hf : f5_count a1 s0 = some r) : MI G l yX5_count cX5_count 2 (some .int) 1 20 [.ref (aX G 0), .int a1] (wX G s0) r (wX G s0) := by
  refine MI.start (by decide +kernel) (Nat.le_of_ble_eq_true rfl) (fun K hl C hret => ?_)
  subst hl
  have C : Ctx G K cX5_count RX5 2 1 20 := C
  change V G K (wX G s0) 0 [(0, .ref (aX G 0)), (1, .int a1)] []
  refine (?_ : tp (f5_count a1 s0) (fun q => q = r) → _) ⟨_, hf, rfl⟩
  rw [f5_count]
  refine v_iload_n (pc := 0) C 1 rfl dX5_count_0 ?_
  refine r_if (fun e0 => ?_) (fun e0 => ?_)
  · refine v_tableIn (pc := 1) C 36 dX5_count_1 (by rw [e0]; decide) (by rw [e0]; decide) (off := 35) (by rw [e0]; rfl) (by decide) ?_
    refine v_aload_n (pc := 36) C 0 rfl dX5_count_36 ?_
    refine g5_wood (pc := 37) C mw_41 dX5_count_37 ?_
    refine g4_branches (s0.2.2 0) (pc := 40) C mw_157 dX5_count_40 ?_
    exact tp_out (fun h => hret _ _ _ _ ⟨h, rfl⟩ dX5_count_43)
  · skip
    refine r_if (fun e1 => ?_) (fun e1 => ?_)
    · refine v_tableIn (pc := 1) C 44 dX5_count_1 (by rw [e1]; decide) (by rw [e1]; decide) (off := 43) (by rw [e1]; rfl) (by decide) ?_
      refine v_aload_n (pc := 44) C 0 rfl dX5_count_44 ?_
      refine g5_wood (pc := 45) C mw_41 dX5_count_45 ?_
      refine g4_bodies (s0.2.2 0) (pc := 48) C mw_158 dX5_count_48 ?_
      exact tp_out (fun h => hret _ _ _ _ ⟨h, rfl⟩ dX5_count_51)
    · skip
      refine r_if (fun e2 => ?_) (fun e2 => ?_)
      · refine v_tableIn (pc := 1) C 52 dX5_count_1 (by rw [e2]; decide) (by rw [e2]; decide) (off := 51) (by rw [e2]; rfl) (by decide) ?_
        refine v_aload_n (pc := 52) C 0 rfl dX5_count_52 ?_
        refine g5_diary (pc := 53) C mw_32 dX5_count_53 ?_
        refine g0_entries (pc := 56) C mw_155 dX5_count_56 ?_
        exact tp_out (fun h => hret _ _ _ _ ⟨h, rfl⟩ dX5_count_59)
      · skip
        refine r_if (fun e3 => ?_) (fun e3 => ?_)
        · refine v_tableIn (pc := 1) C 60 dX5_count_1 (by rw [e3]; decide) (by rw [e3]; decide) (off := 59) (by rw [e3]; rfl) (by decide) ?_
          refine v_aload_n (pc := 60) C 0 rfl dX5_count_60 ?_
          refine g5_present (pc := 61) C mw_36 dX5_count_61 ?_
          refine g1_sawn 0 (by decide) (pc := 64) C mw_154 dX5_count_64 ?_
          refine cIs1r (pc := 67) C (fun r9 h9 => mJ6_bitCount_0f7a4 G K.2.1 (s0.1 (17 + 0) 7) _ r9 h9) q_yJ6_bitCount_0f7a4 mw_774 ⟨by decide, by decide⟩ (Nat.le_of_ble_eq_true rfl) dX5_count_67 (fun x1 => ?_)
          exact tp_out (fun h => hret _ _ _ _ ⟨h, rfl⟩ dX5_count_70)
        · skip
          refine r_if (fun e4 => ?_) (fun e4 => ?_)
          · refine v_tableIn (pc := 1) C 71 dX5_count_1 (by rw [e4]; decide) (by rw [e4]; decide) (off := 70) (by rw [e4]; rfl) (by decide) ?_
            refine v_aload_n (pc := 71) C 0 rfl dX5_count_71 ?_
            refine g5_text (pc := 72) C mw_24 dX5_count_72 ?_
            refine g2_length (pc := 75) C mw_128 dX5_count_75 ?_
            exact tp_out (fun h => hret _ _ _ _ ⟨h, rfl⟩ dX5_count_78)
          · skip
            refine v_tableOut (pc := 1) C 79 dX5_count_1 (by have z0 := lv_neT e0 (show (0 : Int32).toInt = 0 by decide); have z1 := lv_neT e1 (show (1 : Int32).toInt = 1 by decide); have z2 := lv_neT e2 (show (2 : Int32).toInt = 2 by decide); have z3 := lv_neT e3 (show (3 : Int32).toInt = 3 by decide); have z4 := lv_neT e4 (show (4 : Int32).toInt = 4 by decide); omega) (by decide) ?_
            refine v_iconst (pc := 79) C (-1) dX5_count_79 (by decide) ?_
            exact tp_out (fun h => hret _ _ _ _ ⟨h, rfl⟩ dX5_count_80)
def f5_trace  (s0 : SS) : Option Int64 := some (s0.2.1 0 8)
set_option maxHeartbeats 4000000 in
set_option maxRecDepth 100000 in
theorem m5_trace (G : GT) (l : Launch)   (s0 : SS) (r : Int64) (hf : f5_trace s0 = some r) : ML G l yX5_trace cX5_trace 1 (some .long) 0 0 [.ref (aX G 0)] (wX G s0) r (wX G s0) := by
  refine ML.start (by decide +kernel) (Nat.le_of_ble_eq_true rfl) (fun K hl C hret => ?_)
  subst hl
  have C : Ctx G K cX5_trace RX5 1 0 0 := C
  change V G K (wX G s0) 0 [(0, .ref (aX G 0))] []
  refine (?_ : tp (f5_trace s0) (fun q => q = r) → _) ⟨_, hf, rfl⟩
  rw [f5_trace]
  refine v_aload_n (pc := 0) C 0 rfl dX5_trace_0 ?_
  refine g5_asked (pc := 1) C mw_43 dX5_trace_1 ?_
  exact tp_out (fun h => hret _ _ _ _ ⟨h, rfl⟩ dX5_trace_4)
