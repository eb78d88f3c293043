def L6_swayOn_24 (c1 : Int32) (c3 : Int32) (s0 : SS) : Nat → Int32 → Int32 → Int32 → Int32 → Option (Int32)
  | 0, _, _, _, _ => none
  | n + 1, v4, v5, v6, v7 => if v7 < 24 then bd (f6_of c1 2 s0) (fun x3 => lt ((v5 + ((c3 - ((v4 * x3) / 10)) - (v5 / 4)))) (fun x4 => lt ((v4 + x4)) (fun x5 => lt (fun (x8 : Int32) => lt (fun (x11 : Int32) => lt (v7 + 1) (fun x12 => L6_swayOn_24 c1 c3 s0 n x5 x4 x11 x12)) (fun j9 => if x8 ≤ v6 then j9 v6 else j9 x8)) (fun j6 => if x5 < 0 then j6 (-x5) else j6 x5)))) else some v6
def f6_swayOn (a1 : Int32) (a2 : Int32) (s0 : SS) : Option Int32 := bd (f6_of a1 0 s0) (fun x1 => lt (((a2 * x1) / 10)) (fun x2 => bk1 (L6_swayOn_24 a1 x2 s0 FU 0 0 0 0) (fun x13 => some ((x13 * (s0.1 0 15)) / 50))))
set_option maxHeartbeats 4000000 in
set_option maxRecDepth 100000 in
theorem l6_swayOn_24 {G : GT} {K : KT} (C : Ctx G K cX6_swayOn RX6 9 1 22) (c1 : Int32) (c3 : Int32) (s0 : SS) {Ψ : Int32 → Prop} (hx : ∀ (o1 : Int32), Ψ o1 → V G K (wM G s0) 99 [(0, .ref (aM G 0)), (6, .int o1)] []) : ∀ (n : Nat) (v4 : Int32) (v5 : Int32) (v6 : Int32) (v7 : Int32), tp (L6_swayOn_24 c1 c3 s0 n v4 v5 v6 v7) (k1 Ψ) → V G K (wM G s0) 24 [(0, .ref (aM G 0)), (1, .int c1), (3, .int c3), (4, .int v4), (5, .int v5), (6, .int v6), (7, .int v7)] [] := by
  intro n
  induction n with
  | zero => intro v4 v5 v6 v7 h; exact tp_no h
  | succ n ih =>
    intro v4 v5 v6 v7
    rw [L6_swayOn_24]
    refine v_iload (pc := 24) C 6 rfl dX6_swayOn_24 ?_
    refine v_bipush (pc := 26) C 24 dX6_swayOn_26 (by decide) ?_
    refine v_icmp_ge (pc := 28) C 99 dX6_swayOn_28 (by decide) ?_ ?_
    · refine v_iload (pc := 31) C 4 rfl dX6_swayOn_31 ?_
      refine v_iload_n (pc := 33) C 2 rfl dX6_swayOn_33 ?_
      refine v_iload (pc := 34) C 3 rfl dX6_swayOn_34 ?_
      refine v_aload_n (pc := 36) C 0 rfl dX6_swayOn_36 ?_
      refine v_iload_n (pc := 37) C 1 rfl dX6_swayOn_37 ?_
      refine v_iconst (pc := 38) C 2 dX6_swayOn_38 (by decide) ?_
      refine cIv2r (pc := 39) C (fun r9 h9 => m6_of G K.2.1 c1 2 s0 r9 h9) q_yX6_of mw_376 rc_6 ⟨by decide, by decide⟩ (Nat.le_of_ble_eq_true rfl) dX6_swayOn_39 (fun x3 => ?_)
      refine v_imul (pc := 42) C dX6_swayOn_42 ?_
      refine v_bipush (pc := 43) C 10 dX6_swayOn_43 (by decide) ?_
      refine v_idiv (pc := 45) C dX6_swayOn_45 (by decide) ?_
      refine v_isub (pc := 46) C dX6_swayOn_46 ?_
      refine v_iload (pc := 47) C 4 rfl dX6_swayOn_47 ?_
      refine v_iconst (pc := 49) C 4 dX6_swayOn_49 (by decide) ?_
      refine v_idiv (pc := 50) C dX6_swayOn_50 (by decide) ?_
      refine v_isub (pc := 51) C dX6_swayOn_51 ?_
      refine v_iadd (pc := 52) C dX6_swayOn_52 ?_
      refine r_lti (fun x4 => ?_)
      refine v_istore (pc := 53) C dX6_swayOn_53 (by decide) (lv' := [(5, .int x4), (0, .ref (aM G 0)), (1, .int c1), (3, .int c3), (4, .int v4), (6, .int v6), (7, .int v7)]) rfl ?_
      refine v_iload (pc := 55) C 4 rfl dX6_swayOn_55 ?_
      refine v_iload (pc := 57) C 0 rfl dX6_swayOn_57 ?_
      refine v_iadd (pc := 59) C dX6_swayOn_59 ?_
      refine r_lti (fun x5 => ?_)
      refine v_istore (pc := 60) C dX6_swayOn_60 (by decide) (lv' := [(4, .int x5), (5, .int x4), (0, .ref (aM G 0)), (1, .int c1), (3, .int c3), (6, .int v6), (7, .int v7)]) rfl ?_
      refine v_iload (pc := 62) C 0 rfl dX6_swayOn_62 ?_
      refine r_lJ (fun Φ0 j6 => ∀ (x8 : Int32), tp (j6 x8) Φ0 → V G K (wM G s0) 75 [(0, .ref (aM G 0)), (1, .int c1), (3, .int c3), (4, .int x5), (5, .int x4), (6, .int v6), (7, .int v7)] [.int x8]) (fun x8 => ?_) (fun j6 hj7 => ?_)
      · refine v_istore (pc := 75) C dX6_swayOn_75 (by decide) (lv' := [(8, .int x8), (0, .ref (aM G 0)), (1, .int c1), (3, .int c3), (4, .int x5), (5, .int x4), (6, .int v6), (7, .int v7)]) rfl ?_
        refine v_iload (pc := 77) C 0 rfl dX6_swayOn_77 ?_
        refine v_iload (pc := 79) C 6 rfl dX6_swayOn_79 ?_
        refine r_lJ (fun Φ0 j9 => ∀ (x11 : Int32), tp (j9 x11) Φ0 → V G K (wM G s0) 91 [(0, .ref (aM G 0)), (1, .int c1), (3, .int c3), (4, .int x5), (5, .int x4), (7, .int v7)] [.int x11]) (fun x11 => ?_) (fun j9 hj10 => ?_)
        · refine v_istore (pc := 91) C dX6_swayOn_91 (by decide) (lv' := [(6, .int x11), (0, .ref (aM G 0)), (1, .int c1), (3, .int c3), (4, .int x5), (5, .int x4), (7, .int v7)]) rfl ?_
          refine v_iincL (pc := 93) C 1 6 dX6_swayOn_93 rfl (by decide) (by decide) (lv0 := [(6, .int x11), (0, .ref (aM G 0)), (1, .int c1), (3, .int c3), (4, .int x5), (5, .int x4)]) rfl (fun x12 => ?_)
          refine v_goto (pc := 96) C 24 dX6_swayOn_96 (by decide) ?_
          exact v_to [2, 3, 4, 5, 6, 1, 0] (ih _ _ _ _) rfl
        refine v_icmp_le (pc := 81) C 89 dX6_swayOn_81 (by decide) ?_ ?_
        · refine v_iload (pc := 89) C 6 rfl dX6_swayOn_89 ?_
          exact v_to [1, 2, 3, 4, 5, 7] (hj10 _) rfl
        · refine v_iload (pc := 84) C 0 rfl dX6_swayOn_84 ?_
          refine v_goto (pc := 86) C 91 dX6_swayOn_86 (by decide) ?_
          exact v_to [1, 2, 3, 4, 5, 7] (hj10 _) rfl
      refine v_if_ge (pc := 64) C 73 dX6_swayOn_64 (by decide) ?_ ?_
      · refine v_iload (pc := 67) C 0 rfl dX6_swayOn_67 ?_
        refine v_ineg (pc := 69) C dX6_swayOn_69 ?_
        refine v_goto (pc := 70) C 75 dX6_swayOn_70 (by decide) ?_
        exact v_to [2, 3, 4, 0, 1, 5, 6] (hj7 _) rfl
      · refine v_iload (pc := 73) C 0 rfl dX6_swayOn_73 ?_
        exact v_to [2, 3, 4, 0, 1, 5, 6] (hj7 _) rfl
    · exact tp_out (fun h => v_to [0, 5] (hx _) rfl h)
set_option maxHeartbeats 4000000 in
set_option maxRecDepth 100000 in
theorem m6_swayOn (G : GT) (l : Launch) (a1 : Int32) (a2 : Int32)  (s0 : SS) (r : Int32) (hf : f6_swayOn a1 a2 s0 = some r) : MI G l yX6_swayOn cX6_swayOn 9 (some .int) 1 22 [.ref (aM G 0), .int a1, .int a2] (wM G s0) r (wM G s0) := by
  refine MI.start (by decide +kernel) (Nat.le_of_ble_eq_true rfl) (fun K hl C hret => ?_)
  subst hl
  have C : Ctx G K cX6_swayOn RX6 9 1 22 := C
  change V G K (wM G s0) 0 [(0, .ref (aM G 0)), (1, .int a1), (2, .int a2)] []
  refine (?_ : tp (f6_swayOn a1 a2 s0) (fun q => q = r) → _) ⟨_, hf, rfl⟩
  rw [f6_swayOn]
  refine v_iload_n (pc := 0) C 2 rfl dX6_swayOn_0 ?_
  refine v_aload_n (pc := 1) C 0 rfl dX6_swayOn_1 ?_
  refine v_iload_n (pc := 2) C 1 rfl dX6_swayOn_2 ?_
  refine v_iconst (pc := 3) C 0 dX6_swayOn_3 (by decide) ?_
  refine cIv2r (pc := 4) C (fun r9 h9 => m6_of G K.2.1 a1 0 s0 r9 h9) q_yX6_of mw_376 rc_6 ⟨by decide, by decide⟩ (Nat.le_of_ble_eq_true rfl) dX6_swayOn_4 (fun x1 => ?_)
  refine v_imul (pc := 7) C dX6_swayOn_7 ?_
  refine v_bipush (pc := 8) C 10 dX6_swayOn_8 (by decide) ?_
  refine v_idiv (pc := 10) C dX6_swayOn_10 (by decide) ?_
  refine r_lti (fun x2 => ?_)
  refine v_istore_n (pc := 11) C dX6_swayOn_11 (by decide) (lv' := [(3, .int x2), (0, .ref (aM G 0)), (1, .int a1), (2, .int a2)]) rfl ?_
  refine v_iconst (pc := 12) C 0 dX6_swayOn_12 (by decide) ?_
  refine v_istore (pc := 13) C dX6_swayOn_13 (by decide) (lv' := [(4, .int 0), (3, .int x2), (0, .ref (aM G 0)), (1, .int a1), (2, .int a2)]) rfl ?_
  refine v_iconst (pc := 15) C 0 dX6_swayOn_15 (by decide) ?_
  refine v_istore (pc := 16) C dX6_swayOn_16 (by decide) (lv' := [(5, .int 0), (4, .int 0), (3, .int x2), (0, .ref (aM G 0)), (1, .int a1), (2, .int a2)]) rfl ?_
  refine v_iconst (pc := 18) C 0 dX6_swayOn_18 (by decide) ?_
  refine v_istore (pc := 19) C dX6_swayOn_19 (by decide) (lv' := [(6, .int 0), (5, .int 0), (4, .int 0), (3, .int x2), (0, .ref (aM G 0)), (1, .int a1), (2, .int a2)]) rfl ?_
  refine v_iconst (pc := 21) C 0 dX6_swayOn_21 (by decide) ?_
  refine v_istore (pc := 22) C dX6_swayOn_22 (by decide) (lv' := [(7, .int 0), (6, .int 0), (5, .int 0), (4, .int 0), (3, .int x2), (0, .ref (aM G 0)), (1, .int a1), (2, .int a2)]) rfl ?_
  refine r_bk1 ?_
  refine v_to [5, 6, 4, 3, 2, 1, 0] (l6_swayOn_24 C a1 x2 s0 (fun x13 => ?_) FU _ _ _ _) rfl
  refine v_iload (pc := 99) C 1 rfl dX6_swayOn_99 ?_
  refine v_aload_n (pc := 101) C 0 rfl dX6_swayOn_101 ?_
  refine g6_weight (pc := 102) C mw_467 dX6_swayOn_102 ?_
  refine v_imul (pc := 105) C dX6_swayOn_105 ?_
  refine v_bipush (pc := 106) C 50 dX6_swayOn_106 (by decide) ?_
  refine v_idiv (pc := 108) C dX6_swayOn_108 (by decide) ?_
  exact tp_out (fun h => hret _ _ _ _ ⟨h, rfl⟩ dX6_swayOn_109)
def f6_sway (a1 : Int32) (a2 : Int32) (a3 : Int32) (s0 : SS) : Option (Int32 × SS) := bd (f6_isBody a1 s0) (fun x1 => if x1 = 0 then some ((-1), s0) else bd (f6_isBranch a2 s0) (fun x2 => if x2 = 0 then some ((-1), s0) else bd (f6_in a3 0 20) (fun x3 => if x3 = 0 then some ((-1), s0) else bd (f6_look a1 s0) (fun q4 => bd (f6_swayOn a2 a3 q4) (fun x5 => some (x5, q4))))))
set_option maxHeartbeats 4000000 in
set_option maxRecDepth 100000 in
theorem m6_sway (G : GT) (l : Launch) (a1 : Int32) (a2 : Int32) (a3 : Int32)  (s0 : SS) (r : Int32) (s1 : SS) (hf : f6_sway a1 a2 a3 s0 = some (r, s1)) : MI G l yX6_sway cX6_sway 4 (some .int) 2 50 [.ref (aM G 0), .int a1, .int a2, .int a3] (wM G s0) r (wM G s1) := by
  refine MI.start (by decide +kernel) (Nat.le_of_ble_eq_true rfl) (fun K hl C hret => ?_)
  subst hl
  have C : Ctx G K cX6_sway RX6 4 2 50 := C
  change V G K (wM G s0) 0 [(0, .ref (aM G 0)), (1, .int a1), (2, .int a2), (3, .int a3)] []
  refine (?_ : tp (f6_sway a1 a2 a3 s0) (fun q => q = (r, s1)) → _) ⟨_, hf, rfl⟩
  rw [f6_sway]
  refine v_aload_n (pc := 0) C 0 rfl dX6_sway_0 ?_
  refine v_iload_n (pc := 1) C 1 rfl dX6_sway_1 ?_
  refine cIv1r (pc := 2) C (fun r9 h9 => m6_isBody G K.2.1 a1 s0 r9 h9) q_yX6_isBody mw_396 rc_6 ⟨by decide, by decide⟩ (Nat.le_of_ble_eq_true rfl) dX6_sway_2 (fun x1 => ?_)
  refine v_if_eq (pc := 5) C 26 dX6_sway_5 (by decide) ?_ ?_
  · refine v_iconst (pc := 26) C (-1) dX6_sway_26 (by decide) ?_
    exact tp_out (fun h => hret _ _ _ _ ⟨(Prod.mk.inj h).1, congrArg (wM G) (Prod.mk.inj h).2⟩ dX6_sway_27)
  · refine v_aload_n (pc := 8) C 0 rfl dX6_sway_8 ?_
    refine v_iload_n (pc := 9) C 2 rfl dX6_sway_9 ?_
    refine cIv1r (pc := 10) C (fun r9 h9 => m6_isBranch G K.2.1 a2 s0 r9 h9) q_yX6_isBranch mw_368 rc_6 ⟨by decide, by decide⟩ (Nat.le_of_ble_eq_true rfl) dX6_sway_10 (fun x2 => ?_)
    refine v_if_eq (pc := 13) C 26 dX6_sway_13 (by decide) ?_ ?_
    · refine v_iconst (pc := 26) C (-1) dX6_sway_26 (by decide) ?_
      exact tp_out (fun h => hret _ _ _ _ ⟨(Prod.mk.inj h).1, congrArg (wM G) (Prod.mk.inj h).2⟩ dX6_sway_27)
    · refine v_iload_n (pc := 16) C 3 rfl dX6_sway_16 ?_
      refine v_iconst (pc := 17) C 0 dX6_sway_17 (by decide) ?_
      refine v_bipush (pc := 18) C 20 dX6_sway_18 (by decide) ?_
      refine cIs3r (pc := 20) C (fun r9 h9 => m6_in G K.2.1 a3 0 20 _ r9 h9) q_yX6_in mw_139 ⟨by decide, by decide⟩ (Nat.le_of_ble_eq_true rfl) dX6_sway_20 (fun x3 => ?_)
      refine v_if_ne (pc := 23) C 28 dX6_sway_23 (by decide) ?_ ?_
      · refine v_iconst (pc := 26) C (-1) dX6_sway_26 (by decide) ?_
        exact tp_out (fun h => hret _ _ _ _ ⟨(Prod.mk.inj h).1, congrArg (wM G) (Prod.mk.inj h).2⟩ dX6_sway_27)
      · refine v_aload_n (pc := 28) C 0 rfl dX6_sway_28 ?_
        refine v_iload_n (pc := 29) C 1 rfl dX6_sway_29 ?_
        refine cVv1w (pc := 30) C (W2 := wM G) (fun s9 h9 => m6_look G K.2.1 a1 s0 s9 h9) q_yX6_look mw_462 rc_6 ⟨by decide, by decide⟩ (Nat.le_of_ble_eq_true rfl) dX6_sway_30 (fun q4 => ?_)
        refine v_aload_n (pc := 33) C 0 rfl dX6_sway_33 ?_
        refine v_iload_n (pc := 34) C 2 rfl dX6_sway_34 ?_
        refine v_iload_n (pc := 35) C 3 rfl dX6_sway_35 ?_
        refine cIv2r (pc := 36) C (fun r9 h9 => m6_swayOn G K.2.1 a2 a3 q4 r9 h9) q_yX6_swayOn mw_732 rc_6 ⟨by decide, by decide⟩ (Nat.le_of_ble_eq_true rfl) dX6_sway_36 (fun x5 => ?_)
        exact tp_out (fun h => hret _ _ _ _ ⟨(Prod.mk.inj h).1, congrArg (wM G) (Prod.mk.inj h).2⟩ dX6_sway_39)
def L6_calm_37 (c2 : Int32) (c3 : Int32) (s0 : SS) : Nat → Int32 → Option (Int32)
  | 0, _ => none
  | n + 1, v4 => if v4 < 20 then bd (f6_swayOn c2 (v4 + 1) s0) (fun x5 => if x5 ≤ c3 then lt (v4 + 1) (fun x6 => L6_calm_37 c2 c3 s0 n x6) else some v4) else some v4
def f6_calm (a1 : Int32) (a2 : Int32) (a3 : Int32) (s0 : SS) : Option (Int32 × SS) := bd (f6_isBody a1 s0) (fun x1 => if x1 = 0 then some ((-1), s0) else bd (f6_isBranch a2 s0) (fun x2 => if x2 = 0 then some ((-1), s0) else bd (f6_in a3 0 9999) (fun x3 => if x3 = 0 then some ((-1), s0) else bd (f6_look a1 s0) (fun q4 => bk1 (L6_calm_37 a2 a3 q4 FU 0) (fun x7 => some (x7, q4))))))
set_option maxHeartbeats 4000000 in
set_option maxRecDepth 100000 in
theorem l6_calm_37 {G : GT} {K : KT} (C : Ctx G K cX6_calm RX6 5 2 50) (c2 : Int32) (c3 : Int32) (s0 : SS) {Ψ : Int32 → Prop} (hx : ∀ (o1 : Int32), Ψ o1 → V G K (wM G s0) 63 [(4, .int o1)] []) : ∀ (n : Nat) (v4 : Int32), tp (L6_calm_37 c2 c3 s0 n v4) (k1 Ψ) → V G K (wM G s0) 37 [(0, .ref (aM G 0)), (2, .int c2), (3, .int c3), (4, .int v4)] [] := by
  intro n
  induction n with
  | zero => intro v4 h; exact tp_no h
  | succ n ih =>
    intro v4
    rw [L6_calm_37]
    refine v_iload (pc := 37) C 3 rfl dX6_calm_37 ?_
    refine v_bipush (pc := 39) C 20 dX6_calm_39 (by decide) ?_
    refine v_icmp_ge (pc := 41) C 63 dX6_calm_41 (by decide) ?_ ?_
    · refine v_aload_n (pc := 44) C 0 rfl dX6_calm_44 ?_
      refine v_iload_n (pc := 45) C 1 rfl dX6_calm_45 ?_
      refine v_iload (pc := 46) C 3 rfl dX6_calm_46 ?_
      refine v_iconst (pc := 48) C 1 dX6_calm_48 (by decide) ?_
      refine v_iadd (pc := 49) C dX6_calm_49 ?_
      refine cIv2r (pc := 50) C (fun r9 h9 => m6_swayOn G K.2.1 c2 (v4 + 1) s0 r9 h9) q_yX6_swayOn mw_732 rc_6 ⟨by decide, by decide⟩ (Nat.le_of_ble_eq_true rfl) dX6_calm_50 (fun x5 => ?_)
      refine v_iload_n (pc := 53) C 2 rfl dX6_calm_53 ?_
      refine v_icmp_gt (pc := 54) C 63 dX6_calm_54 (by decide) ?_ ?_
      · refine v_iincL (pc := 57) C 1 3 dX6_calm_57 rfl (by decide) (by decide) (lv0 := [(0, .ref (aM G 0)), (2, .int c2), (3, .int c3)]) rfl (fun x6 => ?_)
        refine v_goto (pc := 60) C 37 dX6_calm_60 (by decide) ?_
        exact v_to [1, 2, 3, 0] (ih _) rfl
      · exact tp_out (fun h => v_to [3] (hx _) rfl h)
    · exact tp_out (fun h => v_to [3] (hx _) rfl h)
set_option maxHeartbeats 4000000 in
set_option maxRecDepth 100000 in
theorem m6_calm (G : GT) (l : Launch) (a1 : Int32) (a2 : Int32) (a3 : Int32)  (s0 : SS) (r : Int32) (s1 : SS) (hf : f6_calm a1 a2 a3 s0 = some (r, s1)) : MI G l yX6_calm cX6_calm 5 (some .int) 2 50 [.ref (aM G 0), .int a1, .int a2, .int a3] (wM G s0) r (wM G s1) := by
  refine MI.start (by decide +kernel) (Nat.le_of_ble_eq_true rfl) (fun K hl C hret => ?_)
  subst hl
  have C : Ctx G K cX6_calm RX6 5 2 50 := C
  change V G K (wM G s0) 0 [(0, .ref (aM G 0)), (1, .int a1), (2, .int a2), (3, .int a3)] []
  refine (?_ : tp (f6_calm a1 a2 a3 s0) (fun q => q = (r, s1)) → _) ⟨_, hf, rfl⟩
  rw [f6_calm]
  refine v_aload_n (pc := 0) C 0 rfl dX6_calm_0 ?_
  refine v_iload_n (pc := 1) C 1 rfl dX6_calm_1 ?_
  refine cIv1r (pc := 2) C (fun r9 h9 => m6_isBody G K.2.1 a1 s0 r9 h9) q_yX6_isBody mw_396 rc_6 ⟨by decide, by decide⟩ (Nat.le_of_ble_eq_true rfl) dX6_calm_2 (fun x1 => ?_)
  refine v_if_eq (pc := 5) C 27 dX6_calm_5 (by decide) ?_ ?_
  · refine v_iconst (pc := 27) C (-1) dX6_calm_27 (by decide) ?_
    exact tp_out (fun h => hret _ _ _ _ ⟨(Prod.mk.inj h).1, congrArg (wM G) (Prod.mk.inj h).2⟩ dX6_calm_28)
  · refine v_aload_n (pc := 8) C 0 rfl dX6_calm_8 ?_
    refine v_iload_n (pc := 9) C 2 rfl dX6_calm_9 ?_
    refine cIv1r (pc := 10) C (fun r9 h9 => m6_isBranch G K.2.1 a2 s0 r9 h9) q_yX6_isBranch mw_368 rc_6 ⟨by decide, by decide⟩ (Nat.le_of_ble_eq_true rfl) dX6_calm_10 (fun x2 => ?_)
    refine v_if_eq (pc := 13) C 27 dX6_calm_13 (by decide) ?_ ?_
    · refine v_iconst (pc := 27) C (-1) dX6_calm_27 (by decide) ?_
      exact tp_out (fun h => hret _ _ _ _ ⟨(Prod.mk.inj h).1, congrArg (wM G) (Prod.mk.inj h).2⟩ dX6_calm_28)
    · refine v_iload_n (pc := 16) C 3 rfl dX6_calm_16 ?_
      refine v_iconst (pc := 17) C 0 dX6_calm_17 (by decide) ?_
      refine v_sipush (pc := 18) C 9999 dX6_calm_18 (by decide) ?_
      refine cIs3r (pc := 21) C (fun r9 h9 => m6_in G K.2.1 a3 0 9999 _ r9 h9) q_yX6_in mw_139 ⟨by decide, by decide⟩ (Nat.le_of_ble_eq_true rfl) dX6_calm_21 (fun x3 => ?_)
      refine v_if_ne (pc := 24) C 29 dX6_calm_24 (by decide) ?_ ?_
      · refine v_iconst (pc := 27) C (-1) dX6_calm_27 (by decide) ?_
        exact tp_out (fun h => hret _ _ _ _ ⟨(Prod.mk.inj h).1, congrArg (wM G) (Prod.mk.inj h).2⟩ dX6_calm_28)
      · refine v_aload_n (pc := 29) C 0 rfl dX6_calm_29 ?_
        refine v_iload_n (pc := 30) C 1 rfl dX6_calm_30 ?_
        refine cVv1w (pc := 31) C (W2 := wM G) (fun s9 h9 => m6_look G K.2.1 a1 s0 s9 h9) q_yX6_look mw_462 rc_6 ⟨by decide, by decide⟩ (Nat.le_of_ble_eq_true rfl) dX6_calm_31 (fun q4 => ?_)
        refine v_iconst (pc := 34) C 0 dX6_calm_34 (by decide) ?_
        refine v_istore (pc := 35) C dX6_calm_35 (by decide) (lv' := [(4, .int 0), (0, .ref (aM G 0)), (1, .int a1), (2, .int a2), (3, .int a3)]) rfl ?_
        refine r_bk1 ?_
        refine v_to [1, 3, 4, 0] (l6_calm_37 C a2 a3 q4 (fun x7 => ?_) FU _) rfl
        refine v_iload (pc := 63) C 0 rfl dX6_calm_63 ?_
        exact tp_out (fun h => hret _ _ _ _ ⟨(Prod.mk.inj h).1, congrArg (wM G) (Prod.mk.inj h).2⟩ dX6_calm_65)
def L6_harmFrom_30 (c1 : Int32) (c5 : Int32) : Nat → Int32 → Int32 → Int32 → Int32 → SS → Option (Int32 × Int32 × Int32 × SS)
  | 0, _, _, _, _, _ => none
  | n + 1, v2, v3, v4, v6, s => gd (inb 0 2) (if v6 < (s.1 2 (0 : Int32).toNatClampNeg) then bd (f6_of v6 0 s) (fun x4 => if x4 = c5 then bd (f6_isSawn v6 s) (fun x5 => if x5 = 0 then bd (f6_apart c1 v6 s) (fun x6 => if x6 ≤ 1 then lt ((v3 + (v2 - c5))) (fun x7 => lt ((v4 + (x7 / 2))) (fun x8 => lt ((x7 / 2)) (fun x9 => lt (sI s 0 23 ((s.1 0 23) ||| ((1 : Int32) <<< (v6 &&& 31)))) (fun q10 => lt (v6 + 1) (fun x11 => L6_harmFrom_30 c1 c5 n c5 x9 x8 x11 q10))))) else lt (v6 + 1) (fun x12 => L6_harmFrom_30 c1 c5 n v2 v3 v4 x12 s)) else lt (v6 + 1) (fun x13 => L6_harmFrom_30 c1 c5 n v2 v3 v4 x13 s)) else lt (v6 + 1) (fun x14 => L6_harmFrom_30 c1 c5 n v2 v3 v4 x14 s)) else some (v2, v3, v4, s))
def L6_harmFrom_22 (c1 : Int32) : Nat → Int32 → Int32 → Int32 → Int32 → SS → Option (Int32 × Int32 × Int32 × SS)
  | 0, _, _, _, _, _ => none
  | n + 1, v2, v3, v4, v5, s => if v5 ≤ 0 then some (v2, v3, v4, s) else bk4 (L6_harmFrom_30 c1 v5 FU v2 v3 v4 0 s) (fun x15 x16 x17 q18 => lt (v5 + (-1)) (fun x19 => L6_harmFrom_22 c1 n x15 x16 x17 x19 q18))
def f6_harmFrom (a1 : Int32) (s0 : SS) : Option (Int32 × SS) := bd (f6_of a1 0 s0) (fun x1 => lt (sI s0 0 23 0) (fun q2 => lt ((x1 - 1)) (fun x3 => bk4 (L6_harmFrom_22 a1 FU x1 0 0 x3 q2) (fun x20 x21 x22 q23 => gd (inb 4 6) (some ((x22 + ((x21 + x20) * (q23.1 6 (4 : Int32).toNatClampNeg))), q23))))))
set_option maxHeartbeats 4000000 in
set_option maxRecDepth 100000 in
theorem l6_harmFrom_30 {G : GT} {K : KT} (C : Ctx G K cX6_harmFrom RX6 7 2 45) (c1 : Int32) (c5 : Int32) {Ψ : Int32 → Int32 → Int32 → SS → Prop} (hx : ∀ (o1 : Int32) (o2 : Int32) (o3 : Int32) (so : SS), Ψ o1 o2 o3 so → V G K (wM G so) 114 [(0, .ref (aM G 0)), (1, .int c1), (2, .int o1), (3, .int o2), (4, .int o3), (5, .int c5)] []) : ∀ (n : Nat) (v2 : Int32) (v3 : Int32) (v4 : Int32) (v6 : Int32) (s : SS), tp (L6_harmFrom_30 c1 c5 n v2 v3 v4 v6 s) (k4 Ψ) → V G K (wM G s) 30 [(0, .ref (aM G 0)), (1, .int c1), (2, .int v2), (3, .int v3), (4, .int v4), (5, .int c5), (6, .int v6)] [] := by
  intro n
  induction n with
  | zero => intro v2 v3 v4 v6 s h; exact tp_no h
  | succ n ih =>
    intro v2 v3 v4 v6 s
    rw [L6_harmFrom_30]
    refine v_iload (pc := 30) C 6 rfl dX6_harmFrom_30 ?_
    refine v_aload_n (pc := 32) C 0 rfl dX6_harmFrom_32 ?_
    refine g6_branches (pc := 33) C mw_101 dX6_harmFrom_33 ?_
    refine v_iconst (pc := 36) C 0 dX6_harmFrom_36 (by decide) ?_
    refine v_iald (pc := 37) C _ am_2 dX6_harmFrom_37 ?_
    refine v_icmp_ge (pc := 38) C 114 dX6_harmFrom_38 (by decide) ?_ ?_
    · refine v_aload_n (pc := 41) C 0 rfl dX6_harmFrom_41 ?_
      refine v_iload (pc := 42) C 6 rfl dX6_harmFrom_42 ?_
      refine v_iconst (pc := 44) C 0 dX6_harmFrom_44 (by decide) ?_
      refine cIv2r (pc := 45) C (fun r9 h9 => m6_of G K.2.1 v6 0 s r9 h9) q_yX6_of mw_376 rc_6 ⟨by decide, by decide⟩ (Nat.le_of_ble_eq_true rfl) dX6_harmFrom_45 (fun x4 => ?_)
      refine v_iload (pc := 48) C 5 rfl dX6_harmFrom_48 ?_
      refine v_icmp_ne (pc := 50) C 108 dX6_harmFrom_50 (by decide) ?_ ?_
      · refine v_aload_n (pc := 53) C 0 rfl dX6_harmFrom_53 ?_
        refine v_iload (pc := 54) C 6 rfl dX6_harmFrom_54 ?_
        refine cIv1r (pc := 56) C (fun r9 h9 => m6_isSawn G K.2.1 v6 s r9 h9) q_yX6_isSawn mw_372 rc_6 ⟨by decide, by decide⟩ (Nat.le_of_ble_eq_true rfl) dX6_harmFrom_56 (fun x5 => ?_)
        refine v_if_ne (pc := 59) C 108 dX6_harmFrom_59 (by decide) ?_ ?_
        · refine v_aload_n (pc := 62) C 0 rfl dX6_harmFrom_62 ?_
          refine v_iload_n (pc := 63) C 1 rfl dX6_harmFrom_63 ?_
          refine v_iload (pc := 64) C 6 rfl dX6_harmFrom_64 ?_
          refine cIv2r (pc := 66) C (fun r9 h9 => m6_apart G K.2.1 c1 v6 s r9 h9) q_yX6_apart mw_474 rc_6 ⟨by decide, by decide⟩ (Nat.le_of_ble_eq_true rfl) dX6_harmFrom_66 (fun x6 => ?_)
          refine v_iconst (pc := 69) C 1 dX6_harmFrom_69 (by decide) ?_
          refine v_icmp_gt (pc := 70) C 108 dX6_harmFrom_70 (by decide) ?_ ?_
          · refine v_iload_n (pc := 73) C 3 rfl dX6_harmFrom_73 ?_
            refine v_iload_n (pc := 74) C 2 rfl dX6_harmFrom_74 ?_
            refine v_iload (pc := 75) C 5 rfl dX6_harmFrom_75 ?_
            refine v_isub (pc := 77) C dX6_harmFrom_77 ?_
            refine v_iadd (pc := 78) C dX6_harmFrom_78 ?_
            refine r_lti (fun x7 => ?_)
            refine v_istore_n (pc := 79) C dX6_harmFrom_79 (by decide) (lv' := [(3, .int x7), (0, .ref (aM G 0)), (1, .int c1), (2, .int v2), (4, .int v4), (5, .int c5), (6, .int v6)]) rfl ?_
            refine v_iload (pc := 80) C 4 rfl dX6_harmFrom_80 ?_
            refine v_iload_n (pc := 82) C 0 rfl dX6_harmFrom_82 ?_
            refine v_iconst (pc := 83) C 2 dX6_harmFrom_83 (by decide) ?_
            refine v_idiv (pc := 84) C dX6_harmFrom_84 (by decide) ?_
            refine v_iadd (pc := 85) C dX6_harmFrom_85 ?_
            refine r_lti (fun x8 => ?_)
            refine v_istore (pc := 86) C dX6_harmFrom_86 (by decide) (lv' := [(4, .int x8), (3, .int x7), (0, .ref (aM G 0)), (1, .int c1), (2, .int v2), (5, .int c5), (6, .int v6)]) rfl ?_
            refine v_iload_n (pc := 88) C 1 rfl dX6_harmFrom_88 ?_
            refine v_iconst (pc := 89) C 2 dX6_harmFrom_89 (by decide) ?_
            refine v_idiv (pc := 90) C dX6_harmFrom_90 (by decide) ?_
            refine r_lti (fun x9 => ?_)
            refine v_istore_n (pc := 91) C dX6_harmFrom_91 (by decide) (lv' := [(3, .int x9), (4, .int x8), (0, .ref (aM G 0)), (1, .int c1), (2, .int v2), (5, .int c5), (6, .int v6)]) rfl ?_
            refine v_iload (pc := 92) C 5 rfl dX6_harmFrom_92 ?_
            refine v_istore_n (pc := 94) C dX6_harmFrom_94 (by decide) (lv' := [(2, .int c5), (3, .int x9), (4, .int x8), (0, .ref (aM G 0)), (1, .int c1), (5, .int c5), (6, .int v6)]) rfl ?_
            refine v_aload_n (pc := 95) C 3 rfl dX6_harmFrom_95 ?_
            refine v_dup (pc := 96) C dX6_harmFrom_96 rfl ?_
            refine g6_struck (pc := 97) C mw_761 dX6_harmFrom_97 ?_
            refine v_iconst (pc := 100) C 1 dX6_harmFrom_100 (by decide) ?_
            refine v_iload (pc := 101) C 6 rfl dX6_harmFrom_101 ?_
            refine v_ishl (pc := 103) C dX6_harmFrom_103 ?_
            refine v_ior (pc := 104) C dX6_harmFrom_104 ?_
            refine p6_struck (pc := 105) C mw_761 dX6_harmFrom_105 ?_
            refine r_ltm (fun q10 => ?_)
            refine v_iincL (pc := 108) C 1 6 dX6_harmFrom_108 rfl (by decide) (by decide) (lv0 := [(2, .int c5), (3, .int x9), (4, .int x8), (0, .ref (aM G 0)), (1, .int c1), (5, .int c5)]) rfl (fun x11 => ?_)
            refine v_goto (pc := 111) C 30 dX6_harmFrom_111 (by decide) ?_
            exact v_to [4, 5, 1, 2, 3, 6, 0] (ih _ _ _ _ _) rfl
          · refine v_iincL (pc := 108) C 1 6 dX6_harmFrom_108 rfl (by decide) (by decide) (lv0 := [(0, .ref (aM G 0)), (1, .int c1), (2, .int v2), (3, .int v3), (4, .int v4), (5, .int c5)]) rfl (fun x12 => ?_)
            refine v_goto (pc := 111) C 30 dX6_harmFrom_111 (by decide) ?_
            exact v_to [1, 2, 3, 4, 5, 6, 0] (ih _ _ _ _ _) rfl
        · refine v_iincL (pc := 108) C 1 6 dX6_harmFrom_108 rfl (by decide) (by decide) (lv0 := [(0, .ref (aM G 0)), (1, .int c1), (2, .int v2), (3, .int v3), (4, .int v4), (5, .int c5)]) rfl (fun x13 => ?_)
          refine v_goto (pc := 111) C 30 dX6_harmFrom_111 (by decide) ?_
          exact v_to [1, 2, 3, 4, 5, 6, 0] (ih _ _ _ _ _) rfl
      · refine v_iincL (pc := 108) C 1 6 dX6_harmFrom_108 rfl (by decide) (by decide) (lv0 := [(0, .ref (aM G 0)), (1, .int c1), (2, .int v2), (3, .int v3), (4, .int v4), (5, .int c5)]) rfl (fun x14 => ?_)
        refine v_goto (pc := 111) C 30 dX6_harmFrom_111 (by decide) ?_
        exact v_to [1, 2, 3, 4, 5, 6, 0] (ih _ _ _ _ _) rfl
    · exact tp_out (fun h => v_to [0, 1, 2, 3, 4, 5] (hx _ _ _ _) rfl h)
set_option maxHeartbeats 4000000 in
set_option maxRecDepth 100000 in
theorem l6_harmFrom_22 {G : GT} {K : KT} (C : Ctx G K cX6_harmFrom RX6 7 2 45) (c1 : Int32) {Ψ : Int32 → Int32 → Int32 → SS → Prop} (hx : ∀ (o1 : Int32) (o2 : Int32) (o3 : Int32) (so : SS), Ψ o1 o2 o3 so → V G K (wM G so) 120 [(0, .ref (aM G 0)), (2, .int o1), (3, .int o2), (4, .int o3)] []) : ∀ (n : Nat) (v2 : Int32) (v3 : Int32) (v4 : Int32) (v5 : Int32) (s : SS), tp (L6_harmFrom_22 c1 n v2 v3 v4 v5 s) (k4 Ψ) → V G K (wM G s) 22 [(0, .ref (aM G 0)), (1, .int c1), (2, .int v2), (3, .int v3), (4, .int v4), (5, .int v5)] [] := by
  intro n
  induction n with
  | zero => intro v2 v3 v4 v5 s h; exact tp_no h
  | succ n ih =>
    intro v2 v3 v4 v5 s
    rw [L6_harmFrom_22]
    refine v_iload (pc := 22) C 5 rfl dX6_harmFrom_22 ?_
    refine v_if_le (pc := 24) C 120 dX6_harmFrom_24 (by decide) ?_ ?_
    · exact tp_out (fun h => v_to [0, 2, 3, 4] (hx _ _ _ _) rfl h)
    · refine v_iconst (pc := 27) C 0 dX6_harmFrom_27 (by decide) ?_
      refine v_istore (pc := 28) C dX6_harmFrom_28 (by decide) (lv' := [(6, .int 0), (0, .ref (aM G 0)), (1, .int c1), (2, .int v2), (3, .int v3), (4, .int v4), (5, .int v5)]) rfl ?_
      refine r_bk4 ?_
      refine v_to [1, 2, 3, 4, 5, 6, 0] (l6_harmFrom_30 C c1 v5 (fun x15 x16 x17 q18 => ?_) FU _ _ _ _ _) rfl
      refine v_iincL (pc := 114) C (-1) 5 dX6_harmFrom_114 rfl (by decide) (by decide) (lv0 := [(0, .ref (aM G 0)), (1, .int c1), (2, .int x15), (3, .int x16), (4, .int x17)]) rfl (fun x19 => ?_)
      refine v_goto (pc := 117) C 22 dX6_harmFrom_117 (by decide) ?_
      exact v_to [1, 2, 3, 4, 5, 0] (ih _ _ _ _ _) rfl
set_option maxHeartbeats 4000000 in
set_option maxRecDepth 100000 in
theorem m6_harmFrom (G : GT) (l : Launch) (a1 : Int32)  (s0 : SS) (r : Int32) (s1 : SS) (hf : f6_harmFrom a1 s0 = some (r, s1)) : MI G l yX6_harmFrom cX6_harmFrom 7 (some .int) 2 45 [.ref (aM G 0), .int a1] (wM G s0) r (wM G s1) := by
  refine MI.start (by decide +kernel) (Nat.le_of_ble_eq_true rfl) (fun K hl C hret => ?_)
  subst hl
  have C : Ctx G K cX6_harmFrom RX6 7 2 45 := C
  change V G K (wM G s0) 0 [(0, .ref (aM G 0)), (1, .int a1)] []
  refine (?_ : tp (f6_harmFrom a1 s0) (fun q => q = (r, s1)) → _) ⟨_, hf, rfl⟩
  rw [f6_harmFrom]
  refine v_aload_n (pc := 0) C 0 rfl dX6_harmFrom_0 ?_
  refine v_iload_n (pc := 1) C 1 rfl dX6_harmFrom_1 ?_
  refine v_iconst (pc := 2) C 0 dX6_harmFrom_2 (by decide) ?_
  refine cIv2r (pc := 3) C (fun r9 h9 => m6_of G K.2.1 a1 0 s0 r9 h9) q_yX6_of mw_376 rc_6 ⟨by decide, by decide⟩ (Nat.le_of_ble_eq_true rfl) dX6_harmFrom_3 (fun x1 => ?_)
  refine v_istore_n (pc := 6) C dX6_harmFrom_6 (by decide) (lv' := [(2, .int x1), (0, .ref (aM G 0)), (1, .int a1)]) rfl ?_
  refine v_iconst (pc := 7) C 0 dX6_harmFrom_7 (by decide) ?_
  refine v_istore_n (pc := 8) C dX6_harmFrom_8 (by decide) (lv' := [(3, .int 0), (2, .int x1), (0, .ref (aM G 0)), (1, .int a1)]) rfl ?_
  refine v_iconst (pc := 9) C 0 dX6_harmFrom_9 (by decide) ?_
  refine v_istore (pc := 10) C dX6_harmFrom_10 (by decide) (lv' := [(4, .int 0), (3, .int 0), (2, .int x1), (0, .ref (aM G 0)), (1, .int a1)]) rfl ?_
  refine v_aload_n (pc := 12) C 3 rfl dX6_harmFrom_12 ?_
  refine v_iconst (pc := 13) C 0 dX6_harmFrom_13 (by decide) ?_
  refine p6_struck (pc := 14) C mw_761 dX6_harmFrom_14 ?_
  refine r_ltm (fun q2 => ?_)
  refine v_iload_n (pc := 17) C 2 rfl dX6_harmFrom_17 ?_
  refine v_iconst (pc := 18) C 1 dX6_harmFrom_18 (by decide) ?_
  refine v_isub (pc := 19) C dX6_harmFrom_19 ?_
  refine r_lti (fun x3 => ?_)
  refine v_istore (pc := 20) C dX6_harmFrom_20 (by decide) (lv' := [(5, .int x3), (4, .int 0), (3, .int 0), (2, .int x1), (0, .ref (aM G 0)), (1, .int a1)]) rfl ?_
  refine r_bk4 ?_
  refine v_to [4, 5, 3, 2, 1, 0] (l6_harmFrom_22 C a1 (fun x20 x21 x22 q23 => ?_) FU _ _ _ _ _) rfl
  refine v_iload (pc := 120) C 3 rfl dX6_harmFrom_120 ?_
  refine v_iload_n (pc := 122) C 2 rfl dX6_harmFrom_122 ?_
  refine v_iload_n (pc := 123) C 1 rfl dX6_harmFrom_123 ?_
  refine v_iadd (pc := 124) C dX6_harmFrom_124 ?_
  refine v_aload_n (pc := 125) C 0 rfl dX6_harmFrom_125 ?_
  refine g6_tune (pc := 126) C mw_105 dX6_harmFrom_126 ?_
  refine v_iconst (pc := 129) C 4 dX6_harmFrom_129 (by decide) ?_
  refine v_iald (pc := 130) C _ am_6 dX6_harmFrom_130 ?_
  refine v_imul (pc := 131) C dX6_harmFrom_131 ?_
  refine v_iadd (pc := 132) C dX6_harmFrom_132 ?_
  exact tp_out (fun h => hret _ _ _ _ ⟨(Prod.mk.inj h).1, congrArg (wM G) (Prod.mk.inj h).2⟩ dX6_harmFrom_133)
def f6_fall (a1 : Int32) (a2 : Int32) (s0 : SS) : Option (Int32 × SS) := bd (f6_isBranch a1 s0) (fun x1 => if x1 = 0 then some ((-1), s0) else bd (f6_in a2 0 1) (fun x2 => if x2 = 0 then some ((-1), s0) else bk2 (f6_harmFrom a1 s0) (fun x3 q4 => if a2 = 0 then some (x3, q4) else some ((q4.1 0 23), q4))))
set_option maxHeartbeats 4000000 in
set_option maxRecDepth 100000 in
theorem m6_fall (G : GT) (l : Launch) (a1 : Int32) (a2 : Int32)  (s0 : SS) (r : Int32) (s1 : SS) (hf : f6_fall a1 a2 s0 = some (r, s1)) : MI G l yX6_fall cX6_fall 4 (some .int) 3 71 [.ref (aM G 0), .int a1, .int a2] (wM G s0) r (wM G s1) := by
  refine MI.start (by decide +kernel) (Nat.le_of_ble_eq_true rfl) (fun K hl C hret => ?_)
  subst hl
  have C : Ctx G K cX6_fall RX6 4 3 71 := C
  change V G K (wM G s0) 0 [(0, .ref (aM G 0)), (1, .int a1), (2, .int a2)] []
  refine (?_ : tp (f6_fall a1 a2 s0) (fun q => q = (r, s1)) → _) ⟨_, hf, rfl⟩
  rw [f6_fall]
  refine v_aload_n (pc := 0) C 0 rfl dX6_fall_0 ?_
  refine v_iload_n (pc := 1) C 1 rfl dX6_fall_1 ?_
  refine cIv1r (pc := 2) C (fun r9 h9 => m6_isBranch G K.2.1 a1 s0 r9 h9) q_yX6_isBranch mw_368 rc_6 ⟨by decide, by decide⟩ (Nat.le_of_ble_eq_true rfl) dX6_fall_2 (fun x1 => ?_)
  refine v_if_eq (pc := 5) C 17 dX6_fall_5 (by decide) ?_ ?_
  · refine v_iconst (pc := 17) C (-1) dX6_fall_17 (by decide) ?_
    exact tp_out (fun h => hret _ _ _ _ ⟨(Prod.mk.inj h).1, congrArg (wM G) (Prod.mk.inj h).2⟩ dX6_fall_18)
  · refine v_iload_n (pc := 8) C 2 rfl dX6_fall_8 ?_
    refine v_iconst (pc := 9) C 0 dX6_fall_9 (by decide) ?_
    refine v_iconst (pc := 10) C 1 dX6_fall_10 (by decide) ?_
    refine cIs3r (pc := 11) C (fun r9 h9 => m6_in G K.2.1 a2 0 1 _ r9 h9) q_yX6_in mw_139 ⟨by decide, by decide⟩ (Nat.le_of_ble_eq_true rfl) dX6_fall_11 (fun x2 => ?_)
    refine v_if_ne (pc := 14) C 19 dX6_fall_14 (by decide) ?_ ?_
    · refine v_iconst (pc := 17) C (-1) dX6_fall_17 (by decide) ?_
      exact tp_out (fun h => hret _ _ _ _ ⟨(Prod.mk.inj h).1, congrArg (wM G) (Prod.mk.inj h).2⟩ dX6_fall_18)
    · refine v_aload_n (pc := 19) C 0 rfl dX6_fall_19 ?_
      refine v_iload_n (pc := 20) C 1 rfl dX6_fall_20 ?_
      refine cIv1w (pc := 21) C (W2 := wM G) (fun r9 s9 h9 => m6_harmFrom G K.2.1 a1 s0 r9 s9 h9) q_yX6_harmFrom mw_762 rc_6 ⟨by decide, by decide⟩ (Nat.le_of_ble_eq_true rfl) dX6_fall_21 (fun x3 q4 => ?_)
      refine v_istore_n (pc := 24) C dX6_fall_24 (by decide) (lv' := [(3, .int x3), (0, .ref (aM G 0)), (1, .int a1), (2, .int a2)]) rfl ?_
      refine v_iload_n (pc := 25) C 3 rfl dX6_fall_25 ?_
      refine v_if_ne (pc := 26) C 33 dX6_fall_26 (by decide) ?_ ?_
      · refine v_iload_n (pc := 29) C 0 rfl dX6_fall_29 ?_
        refine v_goto (pc := 30) C 37 dX6_fall_30 (by decide) ?_
        exact tp_out (fun h => hret _ _ _ _ ⟨(Prod.mk.inj h).1, congrArg (wM G) (Prod.mk.inj h).2⟩ dX6_fall_37)
      · refine v_aload_n (pc := 33) C 1 rfl dX6_fall_33 ?_
        refine g6_struck (pc := 34) C mw_761 dX6_fall_34 ?_
        exact tp_out (fun h => hret _ _ _ _ ⟨(Prod.mk.inj h).1, congrArg (wM G) (Prod.mk.inj h).2⟩ dX6_fall_37)
def L6_bitsIn_4 (c0 : Int32) : Nat → Int32 → Int32 → Option (Int32)
  | 0, _, _ => none
  | n + 1, v1, v2 => if v2 < 12 then lt ((v1 + ((c0 >>> (v2 &&& 31)) &&& 1))) (fun x1 => lt (v2 + 1) (fun x2 => L6_bitsIn_4 c0 n x1 x2)) else some v1
def f6_bitsIn (a0 : Int32) : Option Int32 := bk1 (L6_bitsIn_4 a0 FU 0 0) (fun x3 => some x3)
set_option maxHeartbeats 4000000 in
set_option maxRecDepth 100000 in
theorem l6_bitsIn_4 {G : GT} {K : KT} {w : va_W} (C : Ctx G K cX6_bitsIn RX6 3 0 0) (c0 : Int32) {Ψ : Int32 → Prop} (hx : ∀ (o1 : Int32), Ψ o1 → V G K w 24 [(1, .int o1)] []) : ∀ (n : Nat) (v1 : Int32) (v2 : Int32), tp (L6_bitsIn_4 c0 n v1 v2) (k1 Ψ) → V G K w 4 [(0, .int c0), (1, .int v1), (2, .int v2)] [] := by
  intro n
  induction n with
  | zero => intro v1 v2 h; exact tp_no h
  | succ n ih =>
    intro v1 v2
    rw [L6_bitsIn_4]
    refine v_iload_n (pc := 4) C 2 rfl dX6_bitsIn_4 ?_
    refine v_bipush (pc := 5) C 12 dX6_bitsIn_5 (by decide) ?_
    refine v_icmp_ge (pc := 7) C 24 dX6_bitsIn_7 (by decide) ?_ ?_
    · refine v_iload_n (pc := 10) C 1 rfl dX6_bitsIn_10 ?_
      refine v_iload_n (pc := 11) C 0 rfl dX6_bitsIn_11 ?_
      refine v_iload_n (pc := 12) C 2 rfl dX6_bitsIn_12 ?_
      refine v_ishr (pc := 13) C dX6_bitsIn_13 ?_
      refine v_iconst (pc := 14) C 1 dX6_bitsIn_14 (by decide) ?_
      refine v_iand (pc := 15) C dX6_bitsIn_15 ?_
      refine v_iadd (pc := 16) C dX6_bitsIn_16 ?_
      refine r_lti (fun x1 => ?_)
      refine v_istore_n (pc := 17) C dX6_bitsIn_17 (by decide) (lv' := [(1, .int x1), (0, .int c0), (2, .int v2)]) rfl ?_
      refine v_iincL (pc := 18) C 1 2 dX6_bitsIn_18 rfl (by decide) (by decide) (lv0 := [(1, .int x1), (0, .int c0)]) rfl (fun x2 => ?_)
      refine v_goto (pc := 21) C 4 dX6_bitsIn_21 (by decide) ?_
      exact v_to [2, 1, 0] (ih _ _) rfl
    · exact tp_out (fun h => v_to [1] (hx _) rfl h)
set_option maxHeartbeats 4000000 in
set_option maxRecDepth 100000 in
theorem m6_bitsIn (G : GT) (l : Launch) (a0 : Int32)  (w : va_W) (r : Int32) (hf : f6_bitsIn a0 = some r) : MI G l yX6_bitsIn cX6_bitsIn 3 (some .int) 0 0 [.int a0] w r w := by
  refine MI.start (by decide +kernel) (Nat.le_of_ble_eq_true rfl) (fun K hl C hret => ?_)
  subst hl
  have C : Ctx G K cX6_bitsIn RX6 3 0 0 := C
  change V G K w 0 [(0, .int a0)] []
  refine (?_ : tp (f6_bitsIn a0) (fun q => q = r) → _) ⟨_, hf, rfl⟩
  rw [f6_bitsIn]
  refine v_iconst (pc := 0) C 0 dX6_bitsIn_0 (by decide) ?_
  refine v_istore_n (pc := 1) C dX6_bitsIn_1 (by decide) (lv' := [(1, .int 0), (0, .int a0)]) rfl ?_
  refine v_iconst (pc := 2) C 0 dX6_bitsIn_2 (by decide) ?_
  refine v_istore_n (pc := 3) C dX6_bitsIn_3 (by decide) (lv' := [(2, .int 0), (1, .int 0), (0, .int a0)]) rfl ?_
  refine r_bk1 ?_
  refine v_to [2, 1, 0] (l6_bitsIn_4 C a0 (fun x3 => ?_) FU _ _) rfl
  refine v_iload_n (pc := 24) C 0 rfl dX6_bitsIn_24 ?_
  exact tp_out (fun h => hret _ _ _ _ ⟨h, rfl⟩ dX6_bitsIn_25)
def L6_isSafe_22 (c1 : Int32) (c3 : Int32) : Nat → Int32 → Int32 → SS → Option (Int32 × SS)
  | 0, _, _, _ => none
  | n + 1, v4, v5, s => gd (inb 0 2) (if v5 < (s.1 2 (0 : Int32).toNatClampNeg) then if v4 = 0 then some (v4, s) else lt (fun (x7 : Int32) (q8 : SS) => lt (v5 + 1) (fun x9 => L6_isSafe_22 c1 c3 n x7 x9 q8)) (fun j5 => if ((c3 >>> (v5 &&& 31)) &&& 1) = 0 then j5 1 s else bk2 (f6_harmFrom v5 s) (fun x10 q11 => if x10 ≤ c1 then j5 1 q11 else j5 0 q11)) else some (v4, s))
def f6_isSafe (a1 : Int32) (a2 : Int32) (s0 : SS) : Option (Int32 × SS) := bk2 (f6_highBy 0 s0) (fun x1 q2 => if x1 < a2 then some (0, q2) else bk2 (f6_reached q2) (fun x3 q4 => bk2 (L6_isSafe_22 a1 x3 FU 1 0 q4) (fun x12 q13 => gd (x12 = 0 ∨ x12 = 1) (some (x12, q13)))))
set_option maxHeartbeats 4000000 in
set_option maxRecDepth 100000 in
theorem l6_isSafe_22 {G : GT} {K : KT} (C : Ctx G K cX6_isSafe RX6 6 5 118) (c1 : Int32) (c3 : Int32) {Ψ : Int32 → SS → Prop} (hx : ∀ (o1 : Int32) (so : SS), Ψ o1 so → V G K (wM G so) 70 [(4, .int o1)] []) : ∀ (n : Nat) (v4 : Int32) (v5 : Int32) (s : SS), tp (L6_isSafe_22 c1 c3 n v4 v5 s) (k2 Ψ) → V G K (wM G s) 22 [(0, .ref (aM G 0)), (1, .int c1), (3, .int c3), (4, .int v4), (5, .int v5)] [] := by
  intro n
  induction n with
  | zero => intro v4 v5 s h; exact tp_no h
  | succ n ih =>
    intro v4 v5 s
    rw [L6_isSafe_22]
    refine v_iload (pc := 22) C 4 rfl dX6_isSafe_22 ?_
    refine v_aload_n (pc := 24) C 0 rfl dX6_isSafe_24 ?_
    refine g6_branches (pc := 25) C mw_101 dX6_isSafe_25 ?_
    refine v_iconst (pc := 28) C 0 dX6_isSafe_28 (by decide) ?_
    refine v_iald (pc := 29) C _ am_2 dX6_isSafe_29 ?_
    refine v_icmp_ge (pc := 30) C 70 dX6_isSafe_30 (by decide) ?_ ?_
    · refine v_iload (pc := 33) C 3 rfl dX6_isSafe_33 ?_
      refine v_if_eq (pc := 35) C 70 dX6_isSafe_35 (by decide) ?_ ?_
      · exact tp_out (fun h => v_to [3] (hx _ _) rfl h)
      · refine v_iload_n (pc := 38) C 2 rfl dX6_isSafe_38 ?_
        refine v_iload (pc := 39) C 4 rfl dX6_isSafe_39 ?_
        refine v_ishr (pc := 41) C dX6_isSafe_41 ?_
        refine v_iconst (pc := 42) C 1 dX6_isSafe_42 (by decide) ?_
        refine v_iand (pc := 43) C dX6_isSafe_43 ?_
        refine r_lJ (fun Φ0 j5 => ∀ (x7 : Int32) (q8 : SS), tp (j5 x7 q8) Φ0 → V G K (wM G q8) 62 [(0, .ref (aM G 0)), (1, .int c1), (3, .int c3), (5, .int v5)] [.int x7]) (fun x7 q8 => ?_) (fun j5 hj6 => ?_)
        · refine v_istore (pc := 62) C dX6_isSafe_62 (by decide) (lv' := [(4, .int x7), (0, .ref (aM G 0)), (1, .int c1), (3, .int c3), (5, .int v5)]) rfl ?_
          refine v_iincL (pc := 64) C 1 4 dX6_isSafe_64 rfl (by decide) (by decide) (lv0 := [(4, .int x7), (0, .ref (aM G 0)), (1, .int c1), (3, .int c3)]) rfl (fun x9 => ?_)
          refine v_goto (pc := 67) C 22 dX6_isSafe_67 (by decide) ?_
          exact v_to [2, 3, 4, 1, 0] (ih _ _ _) rfl
        refine v_if_eq (pc := 44) C 57 dX6_isSafe_44 (by decide) ?_ ?_
        · refine v_iconst (pc := 57) C 1 dX6_isSafe_57 (by decide) ?_
          refine v_goto (pc := 58) C 62 dX6_isSafe_58 (by decide) ?_
          exact v_to [0, 1, 2, 4] (hj6 _ _) rfl
        · refine v_aload_n (pc := 47) C 0 rfl dX6_isSafe_47 ?_
          refine v_iload (pc := 48) C 4 rfl dX6_isSafe_48 ?_
          refine cIv1w (pc := 50) C (W2 := wM G) (fun r9 s9 h9 => m6_harmFrom G K.2.1 v5 s r9 s9 h9) q_yX6_harmFrom mw_762 rc_6 ⟨by decide, by decide⟩ (Nat.le_of_ble_eq_true rfl) dX6_isSafe_50 (fun x10 q11 => ?_)
          refine v_iload_n (pc := 53) C 1 rfl dX6_isSafe_53 ?_
          refine v_icmp_gt (pc := 54) C 61 dX6_isSafe_54 (by decide) ?_ ?_
          · refine v_iconst (pc := 57) C 1 dX6_isSafe_57 (by decide) ?_
            refine v_goto (pc := 58) C 62 dX6_isSafe_58 (by decide) ?_
            exact v_to [0, 1, 2, 4] (hj6 _ _) rfl
          · refine v_iconst (pc := 61) C 0 dX6_isSafe_61 (by decide) ?_
            exact v_to [0, 1, 2, 4] (hj6 _ _) rfl
    · exact tp_out (fun h => v_to [3] (hx _ _) rfl h)
set_option maxHeartbeats 4000000 in
set_option maxRecDepth 100000 in
theorem m6_isSafe (G : GT) (l : Launch) (a1 : Int32) (a2 : Int32)  (s0 : SS) (r : Int32) (s1 : SS) (hf : f6_isSafe a1 a2 s0 = some (r, s1)) : MI G l yX6_isSafe cX6_isSafe 6 (some .boolean) 5 118 [.ref (aM G 0), .int a1, .int a2] (wM G s0) r (wM G s1) := by
  refine MI.startZ (by decide +kernel) (Nat.le_of_ble_eq_true rfl) (fun K hl C hret => ?_)
  subst hl
  have C : Ctx G K cX6_isSafe RX6 6 5 118 := C
  change V G K (wM G s0) 0 [(0, .ref (aM G 0)), (1, .int a1), (2, .int a2)] []
  refine (?_ : tp (f6_isSafe a1 a2 s0) (fun q => q = (r, s1)) → _) ⟨_, hf, rfl⟩
  rw [f6_isSafe]
  refine v_aload_n (pc := 0) C 0 rfl dX6_isSafe_0 ?_
  refine v_iconst (pc := 1) C 0 dX6_isSafe_1 (by decide) ?_
  refine cIv1w (pc := 2) C (W2 := wM G) (fun r9 s9 h9 => m6_highBy G K.2.1 0 s0 r9 s9 h9) q_yX6_highBy mw_613 rc_6 ⟨by decide, by decide⟩ (Nat.le_of_ble_eq_true rfl) dX6_isSafe_2 (fun x1 q2 => ?_)
  refine v_iload_n (pc := 5) C 2 rfl dX6_isSafe_5 ?_
  refine v_icmp_ge (pc := 6) C 11 dX6_isSafe_6 (by decide) ?_ ?_
  · refine v_iconst (pc := 9) C 0 dX6_isSafe_9 (by decide) ?_
    exact tp_out (fun h => hret _ _ _ _ ⟨(Prod.mk.inj h).1, congrArg (wM G) (Prod.mk.inj h).2⟩ (Or.inl rfl) dX6_isSafe_10)
  · refine v_aload_n (pc := 11) C 0 rfl dX6_isSafe_11 ?_
    refine cIv0w (pc := 12) C (W2 := wM G) (fun r9 s9 h9 => m6_reached G K.2.1 q2 r9 s9 h9) q_yX6_reached mw_618 rc_6 ⟨by decide, by decide⟩ (Nat.le_of_ble_eq_true rfl) dX6_isSafe_12 (fun x3 q4 => ?_)
    refine v_istore_n (pc := 15) C dX6_isSafe_15 (by decide) (lv' := [(3, .int x3), (0, .ref (aM G 0)), (1, .int a1), (2, .int a2)]) rfl ?_
    refine v_iconst (pc := 16) C 1 dX6_isSafe_16 (by decide) ?_
    refine v_istore (pc := 17) C dX6_isSafe_17 (by decide) (lv' := [(4, .int 1), (3, .int x3), (0, .ref (aM G 0)), (1, .int a1), (2, .int a2)]) rfl ?_
    refine v_iconst (pc := 19) C 0 dX6_isSafe_19 (by decide) ?_
    refine v_istore (pc := 20) C dX6_isSafe_20 (by decide) (lv' := [(5, .int 0), (4, .int 1), (3, .int x3), (0, .ref (aM G 0)), (1, .int a1), (2, .int a2)]) rfl ?_
    refine r_bk2 ?_
    refine v_to [3, 4, 2, 1, 0] (l6_isSafe_22 C a1 x3 (fun x12 q13 => ?_) FU _ _ _) rfl
    refine v_iload (pc := 70) C 0 rfl dX6_isSafe_70 ?_
    refine r_gd (fun hz => ?_)
    exact tp_out (fun h => hret _ _ _ _ ⟨(Prod.mk.inj h).1, congrArg (wM G) (Prod.mk.inj h).2⟩ hz dX6_isSafe_72)
def L6_saw_77 (c2 : Int32) (c3 : Int32) (c4 : Int32) (c5 : Int32) (c7 : Int32) : Nat → Int32 → Int32 → SS → Option (Int32 × SS)
  | 0, _, _, _ => none
  | n + 1, v6, v8, s => gd (inb 0 2) (if v8 < ((1 : Int32) <<< ((s.1 2 (0 : Int32).toNatClampNeg) &&& 31)) then if v6 = (-9) then bd (f6_bitsIn v8) (fun x7 => if x7 = c7 then if (v8 &&& c5) = 0 then gd (inb 0 3) (lt (sI s 7 (Int32.toNatClampNeg 0) (c5 ||| v8)) (fun q8 => bk2 (f6_isSafe c2 c3 q8) (fun x9 q10 => lt (fun (x13 : Int32) => lt (v8 + 1) (fun x14 => L6_saw_77 c2 c3 c4 c5 c7 n x13 x14 q10)) (fun j11 => if x9 = 0 then j11 (-9) else j11 v8)))) else lt (v8 + 1) (fun x15 => L6_saw_77 c2 c3 c4 c5 c7 n v6 x15 s) else lt (v8 + 1) (fun x16 => L6_saw_77 c2 c3 c4 c5 c7 n v6 x16 s)) else some (v6, s) else some (v6, s))
def L6_saw_61 (c2 : Int32) (c3 : Int32) (c4 : Int32) (c5 : Int32) : Nat → Int32 → Int32 → SS → Option (Int32 × SS)
  | 0, _, _, _ => none
  | n + 1, v6, v7, s => if v7 ≤ 3 then if v6 = (-9) then bk2 (L6_saw_77 c2 c3 c4 c5 v7 FU v6 0 s) (fun x17 q18 => lt (v7 + 1) (fun x19 => L6_saw_61 c2 c3 c4 c5 n x17 x19 q18)) else some (v6, s) else some (v6, s)
def f6_saw (a1 : Int32) (a2 : Int32) (a3 : Int32) (a4 : Int32) (s0 : SS) : Option (Int32 × SS) := bd (f6_isBody a1 s0) (fun x1 => if x1 = 0 then some ((-1), s0) else bd (f6_in a2 0 9999) (fun x2 => if x2 = 0 then some ((-1), s0) else bd (f6_in a3 0 99) (fun x3 => if x3 = 0 then some ((-1), s0) else bd (f6_in a4 0 1) (fun x4 => if x4 = 0 then some ((-1), s0) else bd (f6_look a1 s0) (fun q5 => gd (inb 0 3) (lt ((q5.1 7 (0 : Int32).toNatClampNeg)) (fun x6 => bk2 (L6_saw_61 a2 a3 a4 x6 FU (-9) 0 q5) (fun x20 q21 => gd (inb 0 3) (lt (sI q21 7 (Int32.toNatClampNeg 0) x6) (fun q22 => if x20 = (-9) then some (x20, q22) else if a4 = 0 then some (x20, q22) else bd (f6_bitsIn x20) (fun x23 => some (x23, q22))))))))))))
set_option maxHeartbeats 4000000 in
set_option maxRecDepth 100000 in
theorem l6_saw_77 {G : GT} {K : KT} (C : Ctx G K cX6_saw RX6 9 6 143) (c2 : Int32) (c3 : Int32) (c4 : Int32) (c5 : Int32) (c7 : Int32) {Ψ : Int32 → SS → Prop} (hx : ∀ (o1 : Int32) (so : SS), Ψ o1 so → V G K (wM G so) 150 [(0, .ref (aM G 0)), (2, .int c2), (3, .int c3), (4, .int c4), (5, .int c5), (6, .int o1), (7, .int c7)] []) : ∀ (n : Nat) (v6 : Int32) (v8 : Int32) (s : SS), tp (L6_saw_77 c2 c3 c4 c5 c7 n v6 v8 s) (k2 Ψ) → V G K (wM G s) 77 [(0, .ref (aM G 0)), (2, .int c2), (3, .int c3), (4, .int c4), (5, .int c5), (6, .int v6), (7, .int c7), (8, .int v8)] [] := by
  intro n
  induction n with
  | zero => intro v6 v8 s h; exact tp_no h
  | succ n ih =>
    intro v6 v8 s
    rw [L6_saw_77]
    refine v_iload (pc := 77) C 7 rfl dX6_saw_77 ?_
    refine v_iconst (pc := 79) C 1 dX6_saw_79 (by decide) ?_
    refine v_aload_n (pc := 80) C 0 rfl dX6_saw_80 ?_
    refine g6_branches (pc := 81) C mw_101 dX6_saw_81 ?_
    refine v_iconst (pc := 84) C 0 dX6_saw_84 (by decide) ?_
    refine v_iald (pc := 85) C _ am_2 dX6_saw_85 ?_
    refine v_ishl (pc := 86) C dX6_saw_86 ?_
    refine v_icmp_ge (pc := 87) C 150 dX6_saw_87 (by decide) ?_ ?_
    · refine v_iload (pc := 90) C 5 rfl dX6_saw_90 ?_
      refine v_bipush (pc := 92) C (-9) dX6_saw_92 (by decide) ?_
      refine v_icmp_ne (pc := 94) C 150 dX6_saw_94 (by decide) ?_ ?_
      · refine v_iload (pc := 97) C 7 rfl dX6_saw_97 ?_
        refine cIs1r (pc := 99) C (fun r9 h9 => m6_bitsIn G K.2.1 v8 _ r9 h9) q_yX6_bitsIn mw_788 ⟨by decide, by decide⟩ (Nat.le_of_ble_eq_true rfl) dX6_saw_99 (fun x7 => ?_)
        refine v_iload (pc := 102) C 6 rfl dX6_saw_102 ?_
        refine v_icmp_ne (pc := 104) C 144 dX6_saw_104 (by decide) ?_ ?_
        · refine v_iload (pc := 107) C 7 rfl dX6_saw_107 ?_
          refine v_iload (pc := 109) C 4 rfl dX6_saw_109 ?_
          refine v_iand (pc := 111) C dX6_saw_111 ?_
          refine v_if_ne (pc := 112) C 144 dX6_saw_112 (by decide) ?_ ?_
          · refine v_aload_n (pc := 115) C 0 rfl dX6_saw_115 ?_
            refine g6_sawnOnes (pc := 116) C mw_106 dX6_saw_116 ?_
            refine v_iconst (pc := 119) C 0 dX6_saw_119 (by decide) ?_
            refine v_iload (pc := 120) C 4 rfl dX6_saw_120 ?_
            refine v_iload (pc := 122) C 7 rfl dX6_saw_122 ?_
            refine v_ior (pc := 124) C dX6_saw_124 ?_
            refine v_iast (pc := 125) C _ am_7 (at_7 _ _) dX6_saw_125 ?_
            refine r_ltm (fun q8 => ?_)
            refine v_aload_n (pc := 126) C 0 rfl dX6_saw_126 ?_
            refine v_iload_n (pc := 127) C 1 rfl dX6_saw_127 ?_
            refine v_iload_n (pc := 128) C 2 rfl dX6_saw_128 ?_
            refine cIv2w (pc := 129) C (W2 := wM G) (fun r9 s9 h9 => m6_isSafe G K.2.1 c2 c3 q8 r9 s9 h9) q_yX6_isSafe mw_791 rc_6 ⟨by decide, by decide⟩ (Nat.le_of_ble_eq_true rfl) dX6_saw_129 (fun x9 q10 => ?_)
            refine r_lJ (fun Φ0 j11 => ∀ (x13 : Int32), tp (j11 x13) Φ0 → V G K (wM G q10) 142 [(0, .ref (aM G 0)), (2, .int c2), (3, .int c3), (4, .int c4), (5, .int c5), (7, .int c7), (8, .int v8)] [.int x13]) (fun x13 => ?_) (fun j11 hj12 => ?_)
            · refine v_istore (pc := 142) C dX6_saw_142 (by decide) (lv' := [(6, .int x13), (0, .ref (aM G 0)), (2, .int c2), (3, .int c3), (4, .int c4), (5, .int c5), (7, .int c7), (8, .int v8)]) rfl ?_
              refine v_iincL (pc := 144) C 1 7 dX6_saw_144 rfl (by decide) (by decide) (lv0 := [(6, .int x13), (0, .ref (aM G 0)), (2, .int c2), (3, .int c3), (4, .int c4), (5, .int c5), (7, .int c7)]) rfl (fun x14 => ?_)
              refine v_goto (pc := 147) C 77 dX6_saw_147 (by decide) ?_
              exact v_to [2, 3, 4, 5, 6, 1, 7, 0] (ih _ _ _) rfl
            refine v_if_eq (pc := 132) C 140 dX6_saw_132 (by decide) ?_ ?_
            · refine v_bipush (pc := 140) C (-9) dX6_saw_140 (by decide) ?_
              exact v_to [0, 1, 2, 3, 4, 6, 7] (hj12 _) rfl
            · refine v_iload (pc := 135) C 7 rfl dX6_saw_135 ?_
              refine v_goto (pc := 137) C 142 dX6_saw_137 (by decide) ?_
              exact v_to [0, 1, 2, 3, 4, 6, 7] (hj12 _) rfl
          · refine v_iincL (pc := 144) C 1 7 dX6_saw_144 rfl (by decide) (by decide) (lv0 := [(0, .ref (aM G 0)), (2, .int c2), (3, .int c3), (4, .int c4), (5, .int c5), (6, .int v6), (7, .int c7)]) rfl (fun x15 => ?_)
            refine v_goto (pc := 147) C 77 dX6_saw_147 (by decide) ?_
            exact v_to [1, 2, 3, 4, 5, 6, 7, 0] (ih _ _ _) rfl
        · refine v_iincL (pc := 144) C 1 7 dX6_saw_144 rfl (by decide) (by decide) (lv0 := [(0, .ref (aM G 0)), (2, .int c2), (3, .int c3), (4, .int c4), (5, .int c5), (6, .int v6), (7, .int c7)]) rfl (fun x16 => ?_)
          refine v_goto (pc := 147) C 77 dX6_saw_147 (by decide) ?_
          exact v_to [1, 2, 3, 4, 5, 6, 7, 0] (ih _ _ _) rfl
      · exact tp_out (fun h => v_to [0, 1, 2, 3, 4, 5, 6] (hx _ _) rfl h)
    · exact tp_out (fun h => v_to [0, 1, 2, 3, 4, 5, 6] (hx _ _) rfl h)
set_option maxHeartbeats 4000000 in
set_option maxRecDepth 100000 in
theorem l6_saw_61 {G : GT} {K : KT} (C : Ctx G K cX6_saw RX6 9 6 143) (c2 : Int32) (c3 : Int32) (c4 : Int32) (c5 : Int32) {Ψ : Int32 → SS → Prop} (hx : ∀ (o1 : Int32) (so : SS), Ψ o1 so → V G K (wM G so) 156 [(0, .ref (aM G 0)), (4, .int c4), (5, .int c5), (6, .int o1)] []) : ∀ (n : Nat) (v6 : Int32) (v7 : Int32) (s : SS), tp (L6_saw_61 c2 c3 c4 c5 n v6 v7 s) (k2 Ψ) → V G K (wM G s) 61 [(0, .ref (aM G 0)), (2, .int c2), (3, .int c3), (4, .int c4), (5, .int c5), (6, .int v6), (7, .int v7)] [] := by
  intro n
  induction n with
  | zero => intro v6 v7 s h; exact tp_no h
  | succ n ih =>
    intro v6 v7 s
    rw [L6_saw_61]
    refine v_iload (pc := 61) C 6 rfl dX6_saw_61 ?_
    refine v_iconst (pc := 63) C 3 dX6_saw_63 (by decide) ?_
    refine v_icmp_gt (pc := 64) C 156 dX6_saw_64 (by decide) ?_ ?_
    · refine v_iload (pc := 67) C 5 rfl dX6_saw_67 ?_
      refine v_bipush (pc := 69) C (-9) dX6_saw_69 (by decide) ?_
      refine v_icmp_ne (pc := 71) C 156 dX6_saw_71 (by decide) ?_ ?_
      · refine v_iconst (pc := 74) C 0 dX6_saw_74 (by decide) ?_
        refine v_istore (pc := 75) C dX6_saw_75 (by decide) (lv' := [(8, .int 0), (0, .ref (aM G 0)), (2, .int c2), (3, .int c3), (4, .int c4), (5, .int c5), (6, .int v6), (7, .int v7)]) rfl ?_
        refine r_bk2 ?_
        refine v_to [1, 2, 3, 4, 5, 6, 7, 0] (l6_saw_77 C c2 c3 c4 c5 v7 (fun x17 q18 => ?_) FU _ _ _) rfl
        refine v_iincL (pc := 150) C 1 6 dX6_saw_150 rfl (by decide) (by decide) (lv0 := [(0, .ref (aM G 0)), (2, .int c2), (3, .int c3), (4, .int c4), (5, .int c5), (6, .int x17)]) rfl (fun x19 => ?_)
        refine v_goto (pc := 153) C 61 dX6_saw_153 (by decide) ?_
        exact v_to [1, 2, 3, 4, 5, 6, 0] (ih _ _ _) rfl
      · exact tp_out (fun h => v_to [0, 3, 4, 5] (hx _ _) rfl h)
    · exact tp_out (fun h => v_to [0, 3, 4, 5] (hx _ _) rfl h)
set_option maxHeartbeats 4000000 in
set_option maxRecDepth 100000 in
theorem m6_saw (G : GT) (l : Launch) (a1 : Int32) (a2 : Int32) (a3 : Int32) (a4 : Int32)  (s0 : SS) (r : Int32) (s1 : SS) (hf : f6_saw a1 a2 a3 a4 s0 = some (r, s1)) : MI G l yX6_saw cX6_saw 9 (some .int) 6 143 [.ref (aM G 0), .int a1, .int a2, .int a3, .int a4] (wM G s0) r (wM G s1) := by
  refine MI.start (by decide +kernel) (Nat.le_of_ble_eq_true rfl) (fun K hl C hret => ?_)
  subst hl
  have C : Ctx G K cX6_saw RX6 9 6 143 := C
  change V G K (wM G s0) 0 [(0, .ref (aM G 0)), (1, .int a1), (2, .int a2), (3, .int a3), (4, .int a4)] []
  refine (?_ : tp (f6_saw a1 a2 a3 a4 s0) (fun q => q = (r, s1)) → _) ⟨_, hf, rfl⟩
  rw [f6_saw]
  refine v_aload_n (pc := 0) C 0 rfl dX6_saw_0 ?_
  refine v_iload_n (pc := 1) C 1 rfl dX6_saw_1 ?_
  refine cIv1r (pc := 2) C (fun r9 h9 => m6_isBody G K.2.1 a1 s0 r9 h9) q_yX6_isBody mw_396 rc_6 ⟨by decide, by decide⟩ (Nat.le_of_ble_eq_true rfl) dX6_saw_2 (fun x1 => ?_)
  refine v_if_eq (pc := 5) C 39 dX6_saw_5 (by decide) ?_ ?_
  · refine v_iconst (pc := 39) C (-1) dX6_saw_39 (by decide) ?_
    exact tp_out (fun h => hret _ _ _ _ ⟨(Prod.mk.inj h).1, congrArg (wM G) (Prod.mk.inj h).2⟩ dX6_saw_40)
  · refine v_iload_n (pc := 8) C 2 rfl dX6_saw_8 ?_
    refine v_iconst (pc := 9) C 0 dX6_saw_9 (by decide) ?_
    refine v_sipush (pc := 10) C 9999 dX6_saw_10 (by decide) ?_
    refine cIs3r (pc := 13) C (fun r9 h9 => m6_in G K.2.1 a2 0 9999 _ r9 h9) q_yX6_in mw_139 ⟨by decide, by decide⟩ (Nat.le_of_ble_eq_true rfl) dX6_saw_13 (fun x2 => ?_)
    refine v_if_eq (pc := 16) C 39 dX6_saw_16 (by decide) ?_ ?_
    · refine v_iconst (pc := 39) C (-1) dX6_saw_39 (by decide) ?_
      exact tp_out (fun h => hret _ _ _ _ ⟨(Prod.mk.inj h).1, congrArg (wM G) (Prod.mk.inj h).2⟩ dX6_saw_40)
    · refine v_iload_n (pc := 19) C 3 rfl dX6_saw_19 ?_
      refine v_iconst (pc := 20) C 0 dX6_saw_20 (by decide) ?_
      refine v_bipush (pc := 21) C 99 dX6_saw_21 (by decide) ?_
      refine cIs3r (pc := 23) C (fun r9 h9 => m6_in G K.2.1 a3 0 99 _ r9 h9) q_yX6_in mw_139 ⟨by decide, by decide⟩ (Nat.le_of_ble_eq_true rfl) dX6_saw_23 (fun x3 => ?_)
      refine v_if_eq (pc := 26) C 39 dX6_saw_26 (by decide) ?_ ?_
      · refine v_iconst (pc := 39) C (-1) dX6_saw_39 (by decide) ?_
        exact tp_out (fun h => hret _ _ _ _ ⟨(Prod.mk.inj h).1, congrArg (wM G) (Prod.mk.inj h).2⟩ dX6_saw_40)
      · refine v_iload (pc := 29) C 4 rfl dX6_saw_29 ?_
        refine v_iconst (pc := 31) C 0 dX6_saw_31 (by decide) ?_
        refine v_iconst (pc := 32) C 1 dX6_saw_32 (by decide) ?_
        refine cIs3r (pc := 33) C (fun r9 h9 => m6_in G K.2.1 a4 0 1 _ r9 h9) q_yX6_in mw_139 ⟨by decide, by decide⟩ (Nat.le_of_ble_eq_true rfl) dX6_saw_33 (fun x4 => ?_)
        refine v_if_ne (pc := 36) C 41 dX6_saw_36 (by decide) ?_ ?_
        · refine v_iconst (pc := 39) C (-1) dX6_saw_39 (by decide) ?_
          exact tp_out (fun h => hret _ _ _ _ ⟨(Prod.mk.inj h).1, congrArg (wM G) (Prod.mk.inj h).2⟩ dX6_saw_40)
        · refine v_aload_n (pc := 41) C 0 rfl dX6_saw_41 ?_
          refine v_iload_n (pc := 42) C 1 rfl dX6_saw_42 ?_
          refine cVv1w (pc := 43) C (W2 := wM G) (fun s9 h9 => m6_look G K.2.1 a1 s0 s9 h9) q_yX6_look mw_462 rc_6 ⟨by decide, by decide⟩ (Nat.le_of_ble_eq_true rfl) dX6_saw_43 (fun q5 => ?_)
          refine v_aload_n (pc := 46) C 0 rfl dX6_saw_46 ?_
          refine g6_sawnOnes (pc := 47) C mw_106 dX6_saw_47 ?_
          refine v_iconst (pc := 50) C 0 dX6_saw_50 (by decide) ?_
          refine v_iald (pc := 51) C _ am_7 dX6_saw_51 ?_
          refine r_lti (fun x6 => ?_)
          refine v_istore (pc := 52) C dX6_saw_52 (by decide) (lv' := [(5, .int x6), (0, .ref (aM G 0)), (1, .int a1), (2, .int a2), (3, .int a3), (4, .int a4)]) rfl ?_
          refine v_bipush (pc := 54) C (-9) dX6_saw_54 (by decide) ?_
          refine v_istore (pc := 56) C dX6_saw_56 (by decide) (lv' := [(6, .int (-9)), (5, .int x6), (0, .ref (aM G 0)), (1, .int a1), (2, .int a2), (3, .int a3), (4, .int a4)]) rfl ?_
          refine v_iconst (pc := 58) C 0 dX6_saw_58 (by decide) ?_
          refine v_istore (pc := 59) C dX6_saw_59 (by decide) (lv' := [(7, .int 0), (6, .int (-9)), (5, .int x6), (0, .ref (aM G 0)), (1, .int a1), (2, .int a2), (3, .int a3), (4, .int a4)]) rfl ?_
          refine r_bk2 ?_
          refine v_to [3, 5, 6, 7, 2, 1, 0] (l6_saw_61 C a2 a3 a4 x6 (fun x20 q21 => ?_) FU _ _ _) rfl
          refine v_aload_n (pc := 156) C 0 rfl dX6_saw_156 ?_
          refine g6_sawnOnes (pc := 157) C mw_106 dX6_saw_157 ?_
          refine v_iconst (pc := 160) C 0 dX6_saw_160 (by decide) ?_
          refine v_iload (pc := 161) C 2 rfl dX6_saw_161 ?_
          refine v_iast (pc := 163) C _ am_7 (at_7 _ _) dX6_saw_163 ?_
          refine r_ltm (fun q22 => ?_)
          refine v_iload (pc := 164) C 3 rfl dX6_saw_164 ?_
          refine v_bipush (pc := 166) C (-9) dX6_saw_166 (by decide) ?_
          refine v_icmp_eq (pc := 168) C 176 dX6_saw_168 (by decide) ?_ ?_
          · refine v_iload (pc := 176) C 3 rfl dX6_saw_176 ?_
            refine v_goto (pc := 178) C 186 dX6_saw_178 (by decide) ?_
            exact tp_out (fun h => hret _ _ _ _ ⟨(Prod.mk.inj h).1, congrArg (wM G) (Prod.mk.inj h).2⟩ dX6_saw_186)
          · refine v_iload (pc := 171) C 1 rfl dX6_saw_171 ?_
            refine v_if_ne (pc := 173) C 181 dX6_saw_173 (by decide) ?_ ?_
            · refine v_iload (pc := 176) C 3 rfl dX6_saw_176 ?_
              refine v_goto (pc := 178) C 186 dX6_saw_178 (by decide) ?_
              exact tp_out (fun h => hret _ _ _ _ ⟨(Prod.mk.inj h).1, congrArg (wM G) (Prod.mk.inj h).2⟩ dX6_saw_186)
            · refine v_iload (pc := 181) C 3 rfl dX6_saw_181 ?_
              refine cIs1r (pc := 183) C (fun r9 h9 => m6_bitsIn G K.2.1 x20 _ r9 h9) q_yX6_bitsIn mw_788 ⟨by decide, by decide⟩ (Nat.le_of_ble_eq_true rfl) dX6_saw_183 (fun x23 => ?_)
              exact tp_out (fun h => hret _ _ _ _ ⟨(Prod.mk.inj h).1, congrArg (wM G) (Prod.mk.inj h).2⟩ dX6_saw_186)
def f6_afternoon (a1 : Int32) (a2 : Int32) (a3 : Int32) (s0 : SS) : Option (Int32 × SS) := bd (f6_isBody a1 s0) (fun x1 => if x1 = 0 then some ((-1), s0) else bd (f6_in a2 0 9) (fun x2 => if x2 = 0 then some ((-1), s0) else bd (f6_in a3 0 99) (fun x3 => if x3 = 0 then some ((-1), s0) else if (s0.1 0 24) = 40 then some ((-3), s0) else gd (inb (s0.1 0 24) 40) (lt (sI s0 13 (Int32.toNatClampNeg (s0.1 0 24)) a1) (fun q4 => gd (inb (q4.1 0 24) 40) (lt (sI q4 14 (Int32.toNatClampNeg (q4.1 0 24)) a2) (fun q5 => gd (inb (q5.1 0 24) 40) (lt (sI q5 15 (Int32.toNatClampNeg (q5.1 0 24)) a3) (fun q6 => lt (sI q6 0 24 ((q6.1 0 24) + 1)) (fun q7 => some ((q7.1 0 24), q7)))))))))))
set_option maxHeartbeats 4000000 in
set_option maxRecDepth 100000 in
theorem m6_afternoon (G : GT) (l : Launch) (a1 : Int32) (a2 : Int32) (a3 : Int32)  (s0 : SS) (r : Int32) (s1 : SS) (hf : f6_afternoon a1 a2 a3 s0 = some (r, s1)) : MI G l yX6_afternoon cX6_afternoon 4 (some .int) 2 43 [.ref (aM G 0), .int a1, .int a2, .int a3] (wM G s0) r (wM G s1) := by
  refine MI.start (by decide +kernel) (Nat.le_of_ble_eq_true rfl) (fun K hl C hret => ?_)
  subst hl
  have C : Ctx G K cX6_afternoon RX6 4 2 43 := C
  change V G K (wM G s0) 0 [(0, .ref (aM G 0)), (1, .int a1), (2, .int a2), (3, .int a3)] []
  refine (?_ : tp (f6_afternoon a1 a2 a3 s0) (fun q => q = (r, s1)) → _) ⟨_, hf, rfl⟩
  rw [f6_afternoon]
  refine v_aload_n (pc := 0) C 0 rfl dX6_afternoon_0 ?_
  refine v_iload_n (pc := 1) C 1 rfl dX6_afternoon_1 ?_
  refine cIv1r (pc := 2) C (fun r9 h9 => m6_isBody G K.2.1 a1 s0 r9 h9) q_yX6_isBody mw_396 rc_6 ⟨by decide, by decide⟩ (Nat.le_of_ble_eq_true rfl) dX6_afternoon_2 (fun x1 => ?_)
  refine v_if_eq (pc := 5) C 28 dX6_afternoon_5 (by decide) ?_ ?_
  · refine v_iconst (pc := 28) C (-1) dX6_afternoon_28 (by decide) ?_
    exact tp_out (fun h => hret _ _ _ _ ⟨(Prod.mk.inj h).1, congrArg (wM G) (Prod.mk.inj h).2⟩ dX6_afternoon_29)
  · refine v_iload_n (pc := 8) C 2 rfl dX6_afternoon_8 ?_
    refine v_iconst (pc := 9) C 0 dX6_afternoon_9 (by decide) ?_
    refine v_bipush (pc := 10) C 9 dX6_afternoon_10 (by decide) ?_
    refine cIs3r (pc := 12) C (fun r9 h9 => m6_in G K.2.1 a2 0 9 _ r9 h9) q_yX6_in mw_139 ⟨by decide, by decide⟩ (Nat.le_of_ble_eq_true rfl) dX6_afternoon_12 (fun x2 => ?_)
    refine v_if_eq (pc := 15) C 28 dX6_afternoon_15 (by decide) ?_ ?_
    · refine v_iconst (pc := 28) C (-1) dX6_afternoon_28 (by decide) ?_
      exact tp_out (fun h => hret _ _ _ _ ⟨(Prod.mk.inj h).1, congrArg (wM G) (Prod.mk.inj h).2⟩ dX6_afternoon_29)
    · refine v_iload_n (pc := 18) C 3 rfl dX6_afternoon_18 ?_
      refine v_iconst (pc := 19) C 0 dX6_afternoon_19 (by decide) ?_
      refine v_bipush (pc := 20) C 99 dX6_afternoon_20 (by decide) ?_
      refine cIs3r (pc := 22) C (fun r9 h9 => m6_in G K.2.1 a3 0 99 _ r9 h9) q_yX6_in mw_139 ⟨by decide, by decide⟩ (Nat.le_of_ble_eq_true rfl) dX6_afternoon_22 (fun x3 => ?_)
      refine v_if_ne (pc := 25) C 30 dX6_afternoon_25 (by decide) ?_ ?_
      · refine v_iconst (pc := 28) C (-1) dX6_afternoon_28 (by decide) ?_
        exact tp_out (fun h => hret _ _ _ _ ⟨(Prod.mk.inj h).1, congrArg (wM G) (Prod.mk.inj h).2⟩ dX6_afternoon_29)
      · refine v_aload_n (pc := 30) C 0 rfl dX6_afternoon_30 ?_
        refine g6_afternoons (pc := 31) C mw_314 dX6_afternoon_31 ?_
        refine v_bipush (pc := 34) C 40 dX6_afternoon_34 (by decide) ?_
        refine v_icmp_ne (pc := 36) C 42 dX6_afternoon_36 (by decide) ?_ ?_
        · refine v_bipush (pc := 39) C (-3) dX6_afternoon_39 (by decide) ?_
          exact tp_out (fun h => hret _ _ _ _ ⟨(Prod.mk.inj h).1, congrArg (wM G) (Prod.mk.inj h).2⟩ dX6_afternoon_41)
        · refine v_aload_n (pc := 42) C 0 rfl dX6_afternoon_42 ?_
          refine g6_whose (pc := 43) C mw_112 dX6_afternoon_43 ?_
          refine v_aload_n (pc := 46) C 0 rfl dX6_afternoon_46 ?_
          refine g6_afternoons (pc := 47) C mw_314 dX6_afternoon_47 ?_
          refine v_iload_n (pc := 50) C 1 rfl dX6_afternoon_50 ?_
          refine v_iast (pc := 51) C _ am_13 (at_13 _ _) dX6_afternoon_51 ?_
          refine r_ltm (fun q4 => ?_)
          refine v_aload_n (pc := 52) C 0 rfl dX6_afternoon_52 ?_
          refine g6_looks (pc := 53) C mw_113 dX6_afternoon_53 ?_
          refine v_aload_n (pc := 56) C 0 rfl dX6_afternoon_56 ?_
          refine g6_afternoons (pc := 57) C mw_314 dX6_afternoon_57 ?_
          refine v_iload_n (pc := 60) C 2 rfl dX6_afternoon_60 ?_
          refine v_iast (pc := 61) C _ am_14 (at_14 _ _) dX6_afternoon_61 ?_
          refine r_ltm (fun q5 => ?_)
          refine v_aload_n (pc := 62) C 0 rfl dX6_afternoon_62 ?_
          refine g6_highs (pc := 63) C mw_114 dX6_afternoon_63 ?_
          refine v_aload_n (pc := 66) C 0 rfl dX6_afternoon_66 ?_
          refine g6_afternoons (pc := 67) C mw_314 dX6_afternoon_67 ?_
          refine v_iload_n (pc := 70) C 3 rfl dX6_afternoon_70 ?_
          refine v_iast (pc := 71) C _ am_15 (at_15 _ _) dX6_afternoon_71 ?_
          refine r_ltm (fun q6 => ?_)
          refine v_aload_n (pc := 72) C 0 rfl dX6_afternoon_72 ?_
          refine v_dup (pc := 73) C dX6_afternoon_73 rfl ?_
          refine g6_afternoons (pc := 74) C mw_314 dX6_afternoon_74 ?_
          refine v_iconst (pc := 77) C 1 dX6_afternoon_77 (by decide) ?_
          refine v_iadd (pc := 78) C dX6_afternoon_78 ?_
          refine p6_afternoons (pc := 79) C mw_314 dX6_afternoon_79 ?_
          refine r_ltm (fun q7 => ?_)
          refine v_aload_n (pc := 82) C 0 rfl dX6_afternoon_82 ?_
          refine g6_afternoons (pc := 83) C mw_314 dX6_afternoon_83 ?_
          exact tp_out (fun h => hret _ _ _ _ ⟨(Prod.mk.inj h).1, congrArg (wM G) (Prod.mk.inj h).2⟩ dX6_afternoon_86)
def L6_dares_49 (c1 : Int32) (c2 : Int32) (c3 : Int32) (c4 : Int32) (s0 : SS) : Nat → Int32 → Int32 → Int32 → Option (Int32 × Int32)
  | 0, _, _, _ => none
  | n + 1, v5, v6, v7 => if v7 < (s0.1 0 24) then gd (inb v7 40) (lt (fun (x7 : Int32) => lt (fun (x10 : Int32) => lt ((v5 + x10)) (fun x11 => lt (fun (x14 : Int32) => lt ((v6 + x14)) (fun x15 => lt (v7 + 1) (fun x16 => L6_dares_49 c1 c2 c3 c4 s0 n x11 x15 x16))) (fun j12 => lt (fun (_u : Unit) => j12 0) (fun j17 => if x7 = 0 then j17 () else gd (inb v7 40) (if (s0.1 15 v7.toNatClampNeg) < c3 then j17 () else j12 1))))) (fun j8 => if x7 = 0 then j8 0 else j8 1)) (fun j5 => lt (fun (_u : Unit) => j5 0) (fun j19 => if (s0.1 13 v7.toNatClampNeg) = c1 then gd (inb v7 40) (if (s0.1 14 v7.toNatClampNeg) < c2 then j19 () else j5 1) else j19 ()))) else some (v5, v6)
def f6_dares (a1 : Int32) (a2 : Int32) (a3 : Int32) (a4 : Int32) (s0 : SS) : Option Int32 := bd (f6_isBody a1 s0) (fun x1 => if x1 = 0 then some (-1) else bd (f6_in a2 0 9) (fun x2 => if x2 = 0 then some (-1) else bd (f6_in a3 0 99) (fun x3 => if x3 = 0 then some (-1) else bd (f6_in a4 0 1) (fun x4 => if x4 = 0 then some (-1) else bk2 (L6_dares_49 a1 a2 a3 a4 s0 FU 0 0 0) (fun x21 x22 => bd (f6_inLeast (Int32.toInt64 x22) (Int32.toInt64 x21) a4) (fun x23 => some (Int64.toInt32 x23)))))))
set_option maxHeartbeats 4000000 in
set_option maxRecDepth 100000 in
theorem l6_dares_49 {G : GT} {K : KT} (C : Ctx G K cX6_dares RX6 9 2 55) (c1 : Int32) (c2 : Int32) (c3 : Int32) (c4 : Int32) (s0 : SS) {Ψ : Int32 → Int32 → Prop} (hx : ∀ (o1 : Int32) (o2 : Int32), Ψ o1 o2 → V G K (wM G s0) 134 [(4, .int c4), (5, .int o1), (6, .int o2)] []) : ∀ (n : Nat) (v5 : Int32) (v6 : Int32) (v7 : Int32), tp (L6_dares_49 c1 c2 c3 c4 s0 n v5 v6 v7) (k2 Ψ) → V G K (wM G s0) 49 [(0, .ref (aM G 0)), (1, .int c1), (2, .int c2), (3, .int c3), (4, .int c4), (5, .int v5), (6, .int v6), (7, .int v7)] [] := by
  intro n
  induction n with
  | zero => intro v5 v6 v7 h; exact tp_no h
  | succ n ih =>
    intro v5 v6 v7
    rw [L6_dares_49]
    refine v_iload (pc := 49) C 7 rfl dX6_dares_49 ?_
    refine v_aload_n (pc := 51) C 0 rfl dX6_dares_51 ?_
    refine g6_afternoons (pc := 52) C mw_314 dX6_dares_52 ?_
    refine v_icmp_ge (pc := 55) C 134 dX6_dares_55 (by decide) ?_ ?_
    · refine v_aload_n (pc := 58) C 0 rfl dX6_dares_58 ?_
      refine g6_whose (pc := 59) C mw_112 dX6_dares_59 ?_
      refine v_iload (pc := 62) C 7 rfl dX6_dares_62 ?_
      refine v_iald (pc := 64) C _ am_13 dX6_dares_64 ?_
      refine v_iload_n (pc := 65) C 1 rfl dX6_dares_65 ?_
      refine r_lJ (fun Φ0 j5 => ∀ (x7 : Int32), tp (j5 x7) Φ0 → V G K (wM G s0) 85 [(0, .ref (aM G 0)), (1, .int c1), (2, .int c2), (3, .int c3), (4, .int c4), (5, .int v5), (6, .int v6), (7, .int v7)] [.int x7]) (fun x7 => ?_) (fun j5 hj6 => ?_)
      · refine v_istore (pc := 85) C dX6_dares_85 (by decide) (lv' := [(8, .int x7), (0, .ref (aM G 0)), (1, .int c1), (2, .int c2), (3, .int c3), (4, .int c4), (5, .int v5), (6, .int v6), (7, .int v7)]) rfl ?_
        refine v_iload (pc := 87) C 6 rfl dX6_dares_87 ?_
        refine v_iload (pc := 89) C 0 rfl dX6_dares_89 ?_
        refine r_lJ (fun Φ0 j8 => ∀ (x10 : Int32), tp (j8 x10) Φ0 → V G K (wM G s0) 99 [(0, .ref (aM G 0)), (1, .int c1), (2, .int c2), (3, .int c3), (4, .int c4), (6, .int v6), (7, .int v7), (8, .int x7)] [.int x10, .int v5]) (fun x10 => ?_) (fun j8 hj9 => ?_)
        · refine v_iadd (pc := 99) C dX6_dares_99 ?_
          refine r_lti (fun x11 => ?_)
          refine v_istore (pc := 100) C dX6_dares_100 (by decide) (lv' := [(5, .int x11), (0, .ref (aM G 0)), (1, .int c1), (2, .int c2), (3, .int c3), (4, .int c4), (6, .int v6), (7, .int v7), (8, .int x7)]) rfl ?_
          refine v_iload (pc := 102) C 6 rfl dX6_dares_102 ?_
          refine v_iload (pc := 104) C 8 rfl dX6_dares_104 ?_
          refine r_lJ (fun Φ0 j12 => ∀ (x14 : Int32), tp (j12 x14) Φ0 → V G K (wM G s0) 125 [(0, .ref (aM G 0)), (1, .int c1), (2, .int c2), (3, .int c3), (4, .int c4), (5, .int x11), (7, .int v7)] [.int x14, .int v6]) (fun x14 => ?_) (fun j12 hj13 => ?_)
          · refine v_iadd (pc := 125) C dX6_dares_125 ?_
            refine r_lti (fun x15 => ?_)
            refine v_istore (pc := 126) C dX6_dares_126 (by decide) (lv' := [(6, .int x15), (0, .ref (aM G 0)), (1, .int c1), (2, .int c2), (3, .int c3), (4, .int c4), (5, .int x11), (7, .int v7)]) rfl ?_
            refine v_iincL (pc := 128) C 1 7 dX6_dares_128 rfl (by decide) (by decide) (lv0 := [(6, .int x15), (0, .ref (aM G 0)), (1, .int c1), (2, .int c2), (3, .int c3), (4, .int c4), (5, .int x11)]) rfl (fun x16 => ?_)
            refine v_goto (pc := 131) C 49 dX6_dares_131 (by decide) ?_
            exact v_to [2, 3, 4, 5, 6, 7, 1, 0] (ih _ _ _) rfl
          refine r_lJ (fun Φ0 j17 => ∀ (_u : Unit), tp (j17 ()) Φ0 → V G K (wM G s0) 124 [(0, .ref (aM G 0)), (1, .int c1), (2, .int c2), (3, .int c3), (4, .int c4), (5, .int x11), (7, .int v7)] [.int v6]) (fun _u => ?_) (fun j17 hj18 => ?_)
          · refine v_iconst (pc := 124) C 0 dX6_dares_124 (by decide) ?_
            exact v_to [0, 1, 2, 3, 4, 5, 6] (hj13 _) rfl
          refine v_if_eq (pc := 106) C 124 dX6_dares_106 (by decide) ?_ ?_
          · exact v_to [1, 2, 3, 4, 5, 0, 7] (hj18 ()) rfl
          · refine v_aload_n (pc := 109) C 1 rfl dX6_dares_109 ?_
            refine g6_highs (pc := 110) C mw_114 dX6_dares_110 ?_
            refine v_iload (pc := 113) C 7 rfl dX6_dares_113 ?_
            refine v_iald (pc := 115) C _ am_15 dX6_dares_115 ?_
            refine v_iload_n (pc := 116) C 4 rfl dX6_dares_116 ?_
            refine v_icmp_lt (pc := 117) C 124 dX6_dares_117 (by decide) ?_ ?_
            · exact v_to [1, 2, 3, 4, 5, 0, 7] (hj18 ()) rfl
            · refine v_iconst (pc := 120) C 1 dX6_dares_120 (by decide) ?_
              refine v_goto (pc := 121) C 125 dX6_dares_121 (by decide) ?_
              exact v_to [1, 2, 3, 4, 5, 0, 7] (hj13 _) rfl
        refine v_if_eq (pc := 91) C 98 dX6_dares_91 (by decide) ?_ ?_
        · refine v_iconst (pc := 98) C 0 dX6_dares_98 (by decide) ?_
          exact v_to [1, 2, 3, 4, 5, 7, 8, 0] (hj9 _) rfl
        · refine v_iconst (pc := 94) C 1 dX6_dares_94 (by decide) ?_
          refine v_goto (pc := 95) C 99 dX6_dares_95 (by decide) ?_
          exact v_to [1, 2, 3, 4, 5, 7, 8, 0] (hj9 _) rfl
      refine r_lJ (fun Φ0 j19 => ∀ (_u : Unit), tp (j19 ()) Φ0 → V G K (wM G s0) 84 [(0, .ref (aM G 0)), (1, .int c1), (2, .int c2), (3, .int c3), (4, .int c4), (5, .int v5), (6, .int v6), (7, .int v7)] []) (fun _u => ?_) (fun j19 hj20 => ?_)
      · refine v_iconst (pc := 84) C 0 dX6_dares_84 (by decide) ?_
        exact v_to [0, 1, 2, 3, 4, 5, 6, 7] (hj6 _) rfl
      refine v_icmp_ne (pc := 66) C 84 dX6_dares_66 (by decide) ?_ ?_
      · refine v_aload_n (pc := 69) C 0 rfl dX6_dares_69 ?_
        refine g6_looks (pc := 70) C mw_113 dX6_dares_70 ?_
        refine v_iload (pc := 73) C 7 rfl dX6_dares_73 ?_
        refine v_iald (pc := 75) C _ am_14 dX6_dares_75 ?_
        refine v_iload_n (pc := 76) C 2 rfl dX6_dares_76 ?_
        refine v_icmp_lt (pc := 77) C 84 dX6_dares_77 (by decide) ?_ ?_
        · exact v_to [0, 1, 2, 3, 4, 5, 6, 7] (hj20 ()) rfl
        · refine v_iconst (pc := 80) C 1 dX6_dares_80 (by decide) ?_
          refine v_goto (pc := 81) C 85 dX6_dares_81 (by decide) ?_
          exact v_to [0, 1, 2, 3, 4, 5, 6, 7] (hj6 _) rfl
      · exact v_to [0, 1, 2, 3, 4, 5, 6, 7] (hj20 ()) rfl
    · exact tp_out (fun h => v_to [4, 5, 6] (hx _ _) rfl h)
set_option maxHeartbeats 4000000 in
set_option maxRecDepth 100000 in
theorem m6_dares (G : GT) (l : Launch) (a1 : Int32) (a2 : Int32) (a3 : Int32) (a4 : Int32)  (s0 : SS) (r : Int32) (hf : f6_dares a1 a2 a3 a4 s0 = some r) : MI G l yX6_dares cX6_dares 9 (some .int) 2 55 [.ref (aM G 0), .int a1, .int a2, .int a3, .int a4] (wM G s0) r (wM G s0) := by
  refine MI.start (by decide +kernel) (Nat.le_of_ble_eq_true rfl) (fun K hl C hret => ?_)
  subst hl
  have C : Ctx G K cX6_dares RX6 9 2 55 := C
  change V G K (wM G s0) 0 [(0, .ref (aM G 0)), (1, .int a1), (2, .int a2), (3, .int a3), (4, .int a4)] []
  refine (?_ : tp (f6_dares a1 a2 a3 a4 s0) (fun q => q = r) → _) ⟨_, hf, rfl⟩
  rw [f6_dares]
  refine v_aload_n (pc := 0) C 0 rfl dX6_dares_0 ?_
  refine v_iload_n (pc := 1) C 1 rfl dX6_dares_1 ?_
  refine cIv1r (pc := 2) C (fun r9 h9 => m6_isBody G K.2.1 a1 s0 r9 h9) q_yX6_isBody mw_396 rc_6 ⟨by decide, by decide⟩ (Nat.le_of_ble_eq_true rfl) dX6_dares_2 (fun x1 => ?_)
  refine v_if_eq (pc := 5) C 38 dX6_dares_5 (by decide) ?_ ?_
  · refine v_iconst (pc := 38) C (-1) dX6_dares_38 (by decide) ?_
    exact tp_out (fun h => hret _ _ _ _ ⟨h, rfl⟩ dX6_dares_39)
  · refine v_iload_n (pc := 8) C 2 rfl dX6_dares_8 ?_
    refine v_iconst (pc := 9) C 0 dX6_dares_9 (by decide) ?_
    refine v_bipush (pc := 10) C 9 dX6_dares_10 (by decide) ?_
    refine cIs3r (pc := 12) C (fun r9 h9 => m6_in G K.2.1 a2 0 9 _ r9 h9) q_yX6_in mw_139 ⟨by decide, by decide⟩ (Nat.le_of_ble_eq_true rfl) dX6_dares_12 (fun x2 => ?_)
    refine v_if_eq (pc := 15) C 38 dX6_dares_15 (by decide) ?_ ?_
    · refine v_iconst (pc := 38) C (-1) dX6_dares_38 (by decide) ?_
      exact tp_out (fun h => hret _ _ _ _ ⟨h, rfl⟩ dX6_dares_39)
    · refine v_iload_n (pc := 18) C 3 rfl dX6_dares_18 ?_
      refine v_iconst (pc := 19) C 0 dX6_dares_19 (by decide) ?_
      refine v_bipush (pc := 20) C 99 dX6_dares_20 (by decide) ?_
      refine cIs3r (pc := 22) C (fun r9 h9 => m6_in G K.2.1 a3 0 99 _ r9 h9) q_yX6_in mw_139 ⟨by decide, by decide⟩ (Nat.le_of_ble_eq_true rfl) dX6_dares_22 (fun x3 => ?_)
      refine v_if_eq (pc := 25) C 38 dX6_dares_25 (by decide) ?_ ?_
      · refine v_iconst (pc := 38) C (-1) dX6_dares_38 (by decide) ?_
        exact tp_out (fun h => hret _ _ _ _ ⟨h, rfl⟩ dX6_dares_39)
      · refine v_iload (pc := 28) C 4 rfl dX6_dares_28 ?_
        refine v_iconst (pc := 30) C 0 dX6_dares_30 (by decide) ?_
        refine v_iconst (pc := 31) C 1 dX6_dares_31 (by decide) ?_
        refine cIs3r (pc := 32) C (fun r9 h9 => m6_in G K.2.1 a4 0 1 _ r9 h9) q_yX6_in mw_139 ⟨by decide, by decide⟩ (Nat.le_of_ble_eq_true rfl) dX6_dares_32 (fun x4 => ?_)
        refine v_if_ne (pc := 35) C 40 dX6_dares_35 (by decide) ?_ ?_
        · refine v_iconst (pc := 38) C (-1) dX6_dares_38 (by decide) ?_
          exact tp_out (fun h => hret _ _ _ _ ⟨h, rfl⟩ dX6_dares_39)
        · refine v_iconst (pc := 40) C 0 dX6_dares_40 (by decide) ?_
          refine v_istore (pc := 41) C dX6_dares_41 (by decide) (lv' := [(5, .int 0), (0, .ref (aM G 0)), (1, .int a1), (2, .int a2), (3, .int a3), (4, .int a4)]) rfl ?_
          refine v_iconst (pc := 43) C 0 dX6_dares_43 (by decide) ?_
          refine v_istore (pc := 44) C dX6_dares_44 (by decide) (lv' := [(6, .int 0), (5, .int 0), (0, .ref (aM G 0)), (1, .int a1), (2, .int a2), (3, .int a3), (4, .int a4)]) rfl ?_
          refine v_iconst (pc := 46) C 0 dX6_dares_46 (by decide) ?_
          refine v_istore (pc := 47) C dX6_dares_47 (by decide) (lv' := [(7, .int 0), (6, .int 0), (5, .int 0), (0, .ref (aM G 0)), (1, .int a1), (2, .int a2), (3, .int a3), (4, .int a4)]) rfl ?_
          refine r_bk2 ?_
          refine v_to [3, 4, 5, 6, 7, 2, 1, 0] (l6_dares_49 C a1 a2 a3 a4 s0 (fun x21 x22 => ?_) FU _ _ _) rfl
          refine v_iload (pc := 134) C 2 rfl dX6_dares_134 ?_
          refine v_i2l (pc := 136) C dX6_dares_136 ?_
          refine v_iload (pc := 137) C 1 rfl dX6_dares_137 ?_
          refine v_i2l (pc := 139) C dX6_dares_139 ?_
          refine v_iload (pc := 140) C 0 rfl dX6_dares_140 ?_
          refine cLs3r (pc := 142) C (fun r9 h9 => m6_inLeast G K.2.1 (Int32.toInt64 x22) (Int32.toInt64 x21) a4 _ r9 h9) q_yX6_inLeast mw_570 ⟨by decide, by decide⟩ (Nat.le_of_ble_eq_true rfl) dX6_dares_142 (fun x23 => ?_)
          refine v_l2i (pc := 145) C dX6_dares_145 ?_
          exact tp_out (fun h => hret _ _ _ _ ⟨h, rfl⟩ dX6_dares_146)
def L6_looked_24 (c1 : Int32) (s0 : SS) : Nat → Int32 → Int32 → Int32 → Int32 → Int32 → Option (Int32 × Int32 × Int32 × Int32)
  | 0, _, _, _, _, _ => none
  | n + 1, v2, v3, v4, v5, v6 => if v6 < (s0.1 0 24) then gd (inb v6 40) (lt (fun (x4 : Int32) => lt (fun (x7 : Int32) => lt ((v2 + x7)) (fun x8 => lt (fun (x11 : Int32) => lt ((v3 + x11)) (fun x12 => lt (fun (x15 : Int32) => lt ((v4 + x15)) (fun x16 => lt (fun (x19 : Int32) => lt ((v5 + x19)) (fun x20 => lt (v6 + 1) (fun x21 => L6_looked_24 c1 s0 n x8 x12 x16 x20 x21))) (fun j17 => lt (fun (_u : Unit) => j17 0) (fun j22 => if x4 = 0 then j22 () else gd (inb v6 40) (if (s0.1 14 v6.toNatClampNeg) = 0 then gd (inb v6 40) (j17 (s0.1 15 v6.toNatClampNeg)) else j22 ()))))) (fun j13 => lt (fun (_u : Unit) => j13 0) (fun j24 => if x4 = 0 then j24 () else gd (inb v6 40) (if (s0.1 14 v6.toNatClampNeg) ≤ 0 then j24 () else gd (inb v6 40) (j13 (s0.1 15 v6.toNatClampNeg))))))) (fun j9 => lt (fun (_u : Unit) => j9 0) (fun j26 => if x4 = 0 then j26 () else gd (inb v6 40) (if (s0.1 14 v6.toNatClampNeg) = 0 then j9 1 else j26 ()))))) (fun j5 => lt (fun (_u : Unit) => j5 0) (fun j28 => if x4 = 0 then j28 () else gd (inb v6 40) (if (s0.1 14 v6.toNatClampNeg) ≤ 0 then j28 () else j5 1)))) (fun j2 => if (s0.1 13 v6.toNatClampNeg) = c1 then j2 1 else j2 0)) else some (v2, v3, v4, v5)
def f6_looked (a1 : Int32) (s0 : SS) : Option Int32 := bd (f6_isBody a1 s0) (fun x1 => if x1 = 0 then some (-1000000) else bk4 (L6_looked_24 a1 s0 FU 0 0 0 0 0) (fun x30 x31 x32 x33 => if x30 = 0 then some (-1000000) else if x31 = 0 then some (-1000000) else gd (¬ x30 = 0) (gd (¬ x31 = 0) (some (((100 * x32) / x30) - ((100 * x33) / x31))))))
set_option maxHeartbeats 4000000 in
set_option maxRecDepth 100000 in
theorem l6_looked_24 {G : GT} {K : KT} (C : Ctx G K cX6_looked RX6 8 2 43) (c1 : Int32) (s0 : SS) {Ψ : Int32 → Int32 → Int32 → Int32 → Prop} (hx : ∀ (o1 : Int32) (o2 : Int32) (o3 : Int32) (o4 : Int32), Ψ o1 o2 o3 o4 → V G K (wM G s0) 165 [(2, .int o1), (3, .int o2), (4, .int o3), (5, .int o4)] []) : ∀ (n : Nat) (v2 : Int32) (v3 : Int32) (v4 : Int32) (v5 : Int32) (v6 : Int32), tp (L6_looked_24 c1 s0 n v2 v3 v4 v5 v6) (k4 Ψ) → V G K (wM G s0) 24 [(0, .ref (aM G 0)), (1, .int c1), (2, .int v2), (3, .int v3), (4, .int v4), (5, .int v5), (6, .int v6)] [] := by
  intro n
  induction n with
  | zero => intro v2 v3 v4 v5 v6 h; exact tp_no h
  | succ n ih =>
    intro v2 v3 v4 v5 v6
    rw [L6_looked_24]
    refine v_iload (pc := 24) C 6 rfl dX6_looked_24 ?_
    refine v_aload_n (pc := 26) C 0 rfl dX6_looked_26 ?_
    refine g6_afternoons (pc := 27) C mw_314 dX6_looked_27 ?_
    refine v_icmp_ge (pc := 30) C 165 dX6_looked_30 (by decide) ?_ ?_
    · refine v_aload_n (pc := 33) C 0 rfl dX6_looked_33 ?_
      refine g6_whose (pc := 34) C mw_112 dX6_looked_34 ?_
      refine v_iload (pc := 37) C 6 rfl dX6_looked_37 ?_
      refine v_iald (pc := 39) C _ am_13 dX6_looked_39 ?_
      refine v_iload_n (pc := 40) C 1 rfl dX6_looked_40 ?_
      refine r_lJ (fun Φ0 j2 => ∀ (x4 : Int32), tp (j2 x4) Φ0 → V G K (wM G s0) 49 [(0, .ref (aM G 0)), (1, .int c1), (2, .int v2), (3, .int v3), (4, .int v4), (5, .int v5), (6, .int v6)] [.int x4]) (fun x4 => ?_) (fun j2 hj3 => ?_)
      · refine v_istore (pc := 49) C dX6_looked_49 (by decide) (lv' := [(7, .int x4), (0, .ref (aM G 0)), (1, .int c1), (2, .int v2), (3, .int v3), (4, .int v4), (5, .int v5), (6, .int v6)]) rfl ?_
        refine v_iload_n (pc := 51) C 3 rfl dX6_looked_51 ?_
        refine v_iload (pc := 52) C 0 rfl dX6_looked_52 ?_
        refine r_lJ (fun Φ0 j5 => ∀ (x7 : Int32), tp (j5 x7) Φ0 → V G K (wM G s0) 72 [(0, .ref (aM G 0)), (1, .int c1), (3, .int v3), (4, .int v4), (5, .int v5), (6, .int v6), (7, .int x4)] [.int x7, .int v2]) (fun x7 => ?_) (fun j5 hj6 => ?_)
        · refine v_iadd (pc := 72) C dX6_looked_72 ?_
          refine r_lti (fun x8 => ?_)
          refine v_istore_n (pc := 73) C dX6_looked_73 (by decide) (lv' := [(2, .int x8), (0, .ref (aM G 0)), (1, .int c1), (3, .int v3), (4, .int v4), (5, .int v5), (6, .int v6), (7, .int x4)]) rfl ?_
          refine v_iload_n (pc := 74) C 3 rfl dX6_looked_74 ?_
          refine v_iload (pc := 75) C 7 rfl dX6_looked_75 ?_
          refine r_lJ (fun Φ0 j9 => ∀ (x11 : Int32), tp (j9 x11) Φ0 → V G K (wM G s0) 95 [(0, .ref (aM G 0)), (1, .int c1), (2, .int x8), (4, .int v4), (5, .int v5), (6, .int v6), (7, .int x4)] [.int x11, .int v3]) (fun x11 => ?_) (fun j9 hj10 => ?_)
          · refine v_iadd (pc := 95) C dX6_looked_95 ?_
            refine r_lti (fun x12 => ?_)
            refine v_istore_n (pc := 96) C dX6_looked_96 (by decide) (lv' := [(3, .int x12), (0, .ref (aM G 0)), (1, .int c1), (2, .int x8), (4, .int v4), (5, .int v5), (6, .int v6), (7, .int x4)]) rfl ?_
            refine v_iload (pc := 97) C 4 rfl dX6_looked_97 ?_
            refine v_iload (pc := 99) C 7 rfl dX6_looked_99 ?_
            refine r_lJ (fun Φ0 j13 => ∀ (x15 : Int32), tp (j13 x15) Φ0 → V G K (wM G s0) 125 [(0, .ref (aM G 0)), (1, .int c1), (2, .int x8), (3, .int x12), (5, .int v5), (6, .int v6), (7, .int x4)] [.int x15, .int v4]) (fun x15 => ?_) (fun j13 hj14 => ?_)
            · refine v_iadd (pc := 125) C dX6_looked_125 ?_
              refine r_lti (fun x16 => ?_)
              refine v_istore (pc := 126) C dX6_looked_126 (by decide) (lv' := [(4, .int x16), (0, .ref (aM G 0)), (1, .int c1), (2, .int x8), (3, .int x12), (5, .int v5), (6, .int v6), (7, .int x4)]) rfl ?_
              refine v_iload (pc := 128) C 5 rfl dX6_looked_128 ?_
              refine v_iload (pc := 130) C 7 rfl dX6_looked_130 ?_
              refine r_lJ (fun Φ0 j17 => ∀ (x19 : Int32), tp (j17 x19) Φ0 → V G K (wM G s0) 156 [(0, .ref (aM G 0)), (1, .int c1), (2, .int x8), (3, .int x12), (4, .int x16), (6, .int v6)] [.int x19, .int v5]) (fun x19 => ?_) (fun j17 hj18 => ?_)
              · refine v_iadd (pc := 156) C dX6_looked_156 ?_
                refine r_lti (fun x20 => ?_)
                refine v_istore (pc := 157) C dX6_looked_157 (by decide) (lv' := [(5, .int x20), (0, .ref (aM G 0)), (1, .int c1), (2, .int x8), (3, .int x12), (4, .int x16), (6, .int v6)]) rfl ?_
                refine v_iincL (pc := 159) C 1 6 dX6_looked_159 rfl (by decide) (by decide) (lv0 := [(5, .int x20), (0, .ref (aM G 0)), (1, .int c1), (2, .int x8), (3, .int x12), (4, .int x16)]) rfl (fun x21 => ?_)
                refine v_goto (pc := 162) C 24 dX6_looked_162 (by decide) ?_
                exact v_to [2, 3, 4, 5, 6, 1, 0] (ih _ _ _ _ _) rfl
              refine r_lJ (fun Φ0 j22 => ∀ (_u : Unit), tp (j22 ()) Φ0 → V G K (wM G s0) 155 [(0, .ref (aM G 0)), (1, .int c1), (2, .int x8), (3, .int x12), (4, .int x16), (6, .int v6)] [.int v5]) (fun _u => ?_) (fun j22 hj23 => ?_)
              · refine v_iconst (pc := 155) C 0 dX6_looked_155 (by decide) ?_
                exact v_to [0, 1, 2, 3, 4, 5] (hj18 _) rfl
              refine v_if_eq (pc := 132) C 155 dX6_looked_132 (by decide) ?_ ?_
              · exact v_to [1, 2, 3, 4, 0, 6] (hj23 ()) rfl
              · refine v_aload_n (pc := 135) C 1 rfl dX6_looked_135 ?_
                refine g6_looks (pc := 136) C mw_113 dX6_looked_136 ?_
                refine v_iload (pc := 139) C 6 rfl dX6_looked_139 ?_
                refine v_iald (pc := 141) C _ am_14 dX6_looked_141 ?_
                refine v_if_ne (pc := 142) C 155 dX6_looked_142 (by decide) ?_ ?_
                · refine v_aload_n (pc := 145) C 1 rfl dX6_looked_145 ?_
                  refine g6_highs (pc := 146) C mw_114 dX6_looked_146 ?_
                  refine v_iload (pc := 149) C 6 rfl dX6_looked_149 ?_
                  refine v_iald (pc := 151) C _ am_15 dX6_looked_151 ?_
                  refine v_goto (pc := 152) C 156 dX6_looked_152 (by decide) ?_
                  exact v_to [1, 2, 3, 4, 0, 6] (hj18 _) rfl
                · exact v_to [1, 2, 3, 4, 0, 6] (hj23 ()) rfl
            refine r_lJ (fun Φ0 j24 => ∀ (_u : Unit), tp (j24 ()) Φ0 → V G K (wM G s0) 124 [(0, .ref (aM G 0)), (1, .int c1), (2, .int x8), (3, .int x12), (5, .int v5), (6, .int v6), (7, .int x4)] [.int v4]) (fun _u => ?_) (fun j24 hj25 => ?_)
            · refine v_iconst (pc := 124) C 0 dX6_looked_124 (by decide) ?_
              exact v_to [0, 1, 2, 3, 4, 5, 6] (hj14 _) rfl
            refine v_if_eq (pc := 101) C 124 dX6_looked_101 (by decide) ?_ ?_
            · exact v_to [1, 2, 3, 0, 5, 6, 7] (hj25 ()) rfl
            · refine v_aload_n (pc := 104) C 1 rfl dX6_looked_104 ?_
              refine g6_looks (pc := 105) C mw_113 dX6_looked_105 ?_
              refine v_iload (pc := 108) C 6 rfl dX6_looked_108 ?_
              refine v_iald (pc := 110) C _ am_14 dX6_looked_110 ?_
              refine v_if_le (pc := 111) C 124 dX6_looked_111 (by decide) ?_ ?_
              · exact v_to [1, 2, 3, 0, 5, 6, 7] (hj25 ()) rfl
              · refine v_aload_n (pc := 114) C 1 rfl dX6_looked_114 ?_
                refine g6_highs (pc := 115) C mw_114 dX6_looked_115 ?_
                refine v_iload (pc := 118) C 6 rfl dX6_looked_118 ?_
                refine v_iald (pc := 120) C _ am_15 dX6_looked_120 ?_
                refine v_goto (pc := 121) C 125 dX6_looked_121 (by decide) ?_
                exact v_to [1, 2, 3, 0, 5, 6, 7] (hj14 _) rfl
          refine r_lJ (fun Φ0 j26 => ∀ (_u : Unit), tp (j26 ()) Φ0 → V G K (wM G s0) 94 [(0, .ref (aM G 0)), (1, .int c1), (2, .int x8), (4, .int v4), (5, .int v5), (6, .int v6), (7, .int x4)] [.int v3]) (fun _u => ?_) (fun j26 hj27 => ?_)
          · refine v_iconst (pc := 94) C 0 dX6_looked_94 (by decide) ?_
            exact v_to [0, 1, 2, 3, 4, 5, 6] (hj10 _) rfl
          refine v_if_eq (pc := 77) C 94 dX6_looked_77 (by decide) ?_ ?_
          · exact v_to [1, 2, 0, 4, 5, 6, 7] (hj27 ()) rfl
          · refine v_aload_n (pc := 80) C 1 rfl dX6_looked_80 ?_
            refine g6_looks (pc := 81) C mw_113 dX6_looked_81 ?_
            refine v_iload (pc := 84) C 6 rfl dX6_looked_84 ?_
            refine v_iald (pc := 86) C _ am_14 dX6_looked_86 ?_
            refine v_if_ne (pc := 87) C 94 dX6_looked_87 (by decide) ?_ ?_
            · refine v_iconst (pc := 90) C 1 dX6_looked_90 (by decide) ?_
              refine v_goto (pc := 91) C 95 dX6_looked_91 (by decide) ?_
              exact v_to [1, 2, 0, 4, 5, 6, 7] (hj10 _) rfl
            · exact v_to [1, 2, 0, 4, 5, 6, 7] (hj27 ()) rfl
        refine r_lJ (fun Φ0 j28 => ∀ (_u : Unit), tp (j28 ()) Φ0 → V G K (wM G s0) 71 [(0, .ref (aM G 0)), (1, .int c1), (3, .int v3), (4, .int v4), (5, .int v5), (6, .int v6), (7, .int x4)] [.int v2]) (fun _u => ?_) (fun j28 hj29 => ?_)
        · refine v_iconst (pc := 71) C 0 dX6_looked_71 (by decide) ?_
          exact v_to [0, 1, 2, 3, 4, 5, 6] (hj6 _) rfl
        refine v_if_eq (pc := 54) C 71 dX6_looked_54 (by decide) ?_ ?_
        · exact v_to [1, 2, 4, 5, 6, 7, 0] (hj29 ()) rfl
        · refine v_aload_n (pc := 57) C 1 rfl dX6_looked_57 ?_
          refine g6_looks (pc := 58) C mw_113 dX6_looked_58 ?_
          refine v_iload (pc := 61) C 7 rfl dX6_looked_61 ?_
          refine v_iald (pc := 63) C _ am_14 dX6_looked_63 ?_
          refine v_if_le (pc := 64) C 71 dX6_looked_64 (by decide) ?_ ?_
          · exact v_to [1, 2, 4, 5, 6, 7, 0] (hj29 ()) rfl
          · refine v_iconst (pc := 67) C 1 dX6_looked_67 (by decide) ?_
            refine v_goto (pc := 68) C 72 dX6_looked_68 (by decide) ?_
            exact v_to [1, 2, 4, 5, 6, 7, 0] (hj6 _) rfl
      refine v_icmp_ne (pc := 41) C 48 dX6_looked_41 (by decide) ?_ ?_
      · refine v_iconst (pc := 44) C 1 dX6_looked_44 (by decide) ?_
        refine v_goto (pc := 45) C 49 dX6_looked_45 (by decide) ?_
        exact v_to [0, 1, 2, 3, 4, 5, 6] (hj3 _) rfl
      · refine v_iconst (pc := 48) C 0 dX6_looked_48 (by decide) ?_
        exact v_to [0, 1, 2, 3, 4, 5, 6] (hj3 _) rfl
    · exact tp_out (fun h => v_to [2, 3, 4, 5] (hx _ _ _ _) rfl h)
set_option maxHeartbeats 4000000 in
set_option maxRecDepth 100000 in
theorem m6_looked (G : GT) (l : Launch) (a1 : Int32)  (s0 : SS) (r : Int32) (hf : f6_looked a1 s0 = some r) : MI G l yX6_looked cX6_looked 8 (some .int) 2 43 [.ref (aM G 0), .int a1] (wM G s0) r (wM G s0) := by
  refine MI.start (by decide +kernel) (Nat.le_of_ble_eq_true rfl) (fun K hl C hret => ?_)
  subst hl
  have C : Ctx G K cX6_looked RX6 8 2 43 := C
  change V G K (wM G s0) 0 [(0, .ref (aM G 0)), (1, .int a1)] []
  refine (?_ : tp (f6_looked a1 s0) (fun q => q = r) → _) ⟨_, hf, rfl⟩
  rw [f6_looked]
  refine v_aload_n (pc := 0) C 0 rfl dX6_looked_0 ?_
  refine v_iload_n (pc := 1) C 1 rfl dX6_looked_1 ?_
  refine cIv1r (pc := 2) C (fun r9 h9 => m6_isBody G K.2.1 a1 s0 r9 h9) q_yX6_isBody mw_396 rc_6 ⟨by decide, by decide⟩ (Nat.le_of_ble_eq_true rfl) dX6_looked_2 (fun x1 => ?_)
  refine v_if_ne (pc := 5) C 11 dX6_looked_5 (by decide) ?_ ?_
  · refine v_ldc (pc := 8) C mw_836 dX6_looked_8 ?_
    exact tp_out (fun h => hret _ _ _ _ ⟨h, rfl⟩ dX6_looked_10)
  · refine v_iconst (pc := 11) C 0 dX6_looked_11 (by decide) ?_
    refine v_istore_n (pc := 12) C dX6_looked_12 (by decide) (lv' := [(2, .int 0), (0, .ref (aM G 0)), (1, .int a1)]) rfl ?_
    refine v_iconst (pc := 13) C 0 dX6_looked_13 (by decide) ?_
    refine v_istore_n (pc := 14) C dX6_looked_14 (by decide) (lv' := [(3, .int 0), (2, .int 0), (0, .ref (aM G 0)), (1, .int a1)]) rfl ?_
    refine v_iconst (pc := 15) C 0 dX6_looked_15 (by decide) ?_
    refine v_istore (pc := 16) C dX6_looked_16 (by decide) (lv' := [(4, .int 0), (3, .int 0), (2, .int 0), (0, .ref (aM G 0)), (1, .int a1)]) rfl ?_
    refine v_iconst (pc := 18) C 0 dX6_looked_18 (by decide) ?_
    refine v_istore (pc := 19) C dX6_looked_19 (by decide) (lv' := [(5, .int 0), (4, .int 0), (3, .int 0), (2, .int 0), (0, .ref (aM G 0)), (1, .int a1)]) rfl ?_
    refine v_iconst (pc := 21) C 0 dX6_looked_21 (by decide) ?_
    refine v_istore (pc := 22) C dX6_looked_22 (by decide) (lv' := [(6, .int 0), (5, .int 0), (4, .int 0), (3, .int 0), (2, .int 0), (0, .ref (aM G 0)), (1, .int a1)]) rfl ?_
    refine r_bk4 ?_
    refine v_to [5, 6, 4, 3, 2, 1, 0] (l6_looked_24 C a1 s0 (fun x30 x31 x32 x33 => ?_) FU _ _ _ _ _) rfl
    refine v_iload_n (pc := 165) C 0 rfl dX6_looked_165 ?_
    refine v_if_eq (pc := 166) C 173 dX6_looked_166 (by decide) ?_ ?_
    · refine v_ldc (pc := 173) C mw_836 dX6_looked_173 ?_
      refine v_goto (pc := 175) C 193 dX6_looked_175 (by decide) ?_
      exact tp_out (fun h => hret _ _ _ _ ⟨h, rfl⟩ dX6_looked_193)
    · refine v_iload_n (pc := 169) C 1 rfl dX6_looked_169 ?_
      refine v_if_ne (pc := 170) C 178 dX6_looked_170 (by decide) ?_ ?_
      · refine v_ldc (pc := 173) C mw_836 dX6_looked_173 ?_
        refine v_goto (pc := 175) C 193 dX6_looked_175 (by decide) ?_
        exact tp_out (fun h => hret _ _ _ _ ⟨h, rfl⟩ dX6_looked_193)
      · refine v_bipush (pc := 178) C 100 dX6_looked_178 (by decide) ?_
        refine v_iload (pc := 180) C 2 rfl dX6_looked_180 ?_
        refine v_imul (pc := 182) C dX6_looked_182 ?_
        refine v_iload_n (pc := 183) C 0 rfl dX6_looked_183 ?_
        refine v_idivG (pc := 184) C dX6_looked_184 ?_
        refine v_bipush (pc := 185) C 100 dX6_looked_185 (by decide) ?_
        refine v_iload (pc := 187) C 3 rfl dX6_looked_187 ?_
        refine v_imul (pc := 189) C dX6_looked_189 ?_
        refine v_iload_n (pc := 190) C 1 rfl dX6_looked_190 ?_
        refine v_idivG (pc := 191) C dX6_looked_191 ?_
        refine v_isub (pc := 192) C dX6_looked_192 ?_
        exact tp_out (fun h => hret _ _ _ _ ⟨h, rfl⟩ dX6_looked_193)
def f6_goes (a1 : Int32) (s0 : SS) : Option (Int32 × SS) := bd (f6_isBody a1 s0) (fun x1 => if x1 = 0 then some ((-1), s0) else gd (inb 0 3) (lt ((s0.1 16 (0 : Int32).toNatClampNeg)) (fun x2 => bd (f6_begin a1 s0) (fun q3 => some (x2, q3)))))
set_option maxHeartbeats 4000000 in
set_option maxRecDepth 100000 in
theorem m6_goes (G : GT) (l : Launch) (a1 : Int32)  (s0 : SS) (r : Int32) (s1 : SS) (hf : f6_goes a1 s0 = some (r, s1)) : MI G l yX6_goes cX6_goes 3 (some .int) 2 43 [.ref (aM G 0), .int a1] (wM G s0) r (wM G s1) := by
  refine MI.start (by decide +kernel) (Nat.le_of_ble_eq_true rfl) (fun K hl C hret => ?_)
  subst hl
  have C : Ctx G K cX6_goes RX6 3 2 43 := C
  change V G K (wM G s0) 0 [(0, .ref (aM G 0)), (1, .int a1)] []
  refine (?_ : tp (f6_goes a1 s0) (fun q => q = (r, s1)) → _) ⟨_, hf, rfl⟩
  rw [f6_goes]
  refine v_aload_n (pc := 0) C 0 rfl dX6_goes_0 ?_
  refine v_iload_n (pc := 1) C 1 rfl dX6_goes_1 ?_
  refine cIv1r (pc := 2) C (fun r9 h9 => m6_isBody G K.2.1 a1 s0 r9 h9) q_yX6_isBody mw_396 rc_6 ⟨by decide, by decide⟩ (Nat.le_of_ble_eq_true rfl) dX6_goes_2 (fun x1 => ?_)
  refine v_if_ne (pc := 5) C 10 dX6_goes_5 (by decide) ?_ ?_
  · refine v_iconst (pc := 8) C (-1) dX6_goes_8 (by decide) ?_
    exact tp_out (fun h => hret _ _ _ _ ⟨(Prod.mk.inj h).1, congrArg (wM G) (Prod.mk.inj h).2⟩ dX6_goes_9)
  · refine v_aload_n (pc := 10) C 0 rfl dX6_goes_10 ?_
    refine g6_who (pc := 11) C mw_115 dX6_goes_11 ?_
    refine v_iconst (pc := 14) C 0 dX6_goes_14 (by decide) ?_
    refine v_iald (pc := 15) C _ am_16 dX6_goes_15 ?_
    refine r_lti (fun x2 => ?_)
    refine v_istore_n (pc := 16) C dX6_goes_16 (by decide) (lv' := [(2, .int x2), (0, .ref (aM G 0)), (1, .int a1)]) rfl ?_
    refine v_aload_n (pc := 17) C 1 rfl dX6_goes_17 ?_
    refine v_iload_n (pc := 18) C 2 rfl dX6_goes_18 ?_
    refine cVv1w (pc := 19) C (W2 := wM G) (fun s9 h9 => m6_begin G K.2.1 a1 s0 s9 h9) q_yX6_begin mw_344 rc_6 ⟨by decide, by decide⟩ (Nat.le_of_ble_eq_true rfl) dX6_goes_19 (fun q3 => ?_)
    refine v_iload_n (pc := 22) C 0 rfl dX6_goes_22 ?_
    exact tp_out (fun h => hret _ _ _ _ ⟨(Prod.mk.inj h).1, congrArg (wM G) (Prod.mk.inj h).2⟩ dX6_goes_23)
def f6_placeNow  (s0 : SS) : Option Int32 := gd (inb 0 3) (if (s0.1 17 (0 : Int32).toNatClampNeg) = 12 then some (-1) else gd (inb 0 3) (some (s0.1 17 (0 : Int32).toNatClampNeg)))
set_option maxHeartbeats 4000000 in
set_option maxRecDepth 100000 in
theorem m6_placeNow (G : GT) (l : Launch)   (s0 : SS) (r : Int32) (hf : f6_placeNow s0 = some r) : MI G l yX6_placeNow cX6_placeNow 1 (some .int) 0 0 [.ref (aM G 0)] (wM G s0) r (wM G s0) := by
  refine MI.start (by decide +kernel) (Nat.le_of_ble_eq_true rfl) (fun K hl C hret => ?_)
  subst hl
  have C : Ctx G K cX6_placeNow RX6 1 0 0 := C
  change V G K (wM G s0) 0 [(0, .ref (aM G 0))] []
  refine (?_ : tp (f6_placeNow s0) (fun q => q = r) → _) ⟨_, hf, rfl⟩
  rw [f6_placeNow]
  refine v_aload_n (pc := 0) C 0 rfl dX6_placeNow_0 ?_
  refine g6_where (pc := 1) C mw_116 dX6_placeNow_1 ?_
  refine v_iconst (pc := 4) C 0 dX6_placeNow_4 (by decide) ?_
  refine v_iald (pc := 5) C _ am_17 dX6_placeNow_5 ?_
  refine v_bipush (pc := 6) C 12 dX6_placeNow_6 (by decide) ?_
  refine v_icmp_ne (pc := 8) C 15 dX6_placeNow_8 (by decide) ?_ ?_
  · refine v_iconst (pc := 11) C (-1) dX6_placeNow_11 (by decide) ?_
    refine v_goto (pc := 12) C 21 dX6_placeNow_12 (by decide) ?_
    exact tp_out (fun h => hret _ _ _ _ ⟨h, rfl⟩ dX6_placeNow_21)
  · refine v_aload_n (pc := 15) C 0 rfl dX6_placeNow_15 ?_
    refine g6_where (pc := 16) C mw_116 dX6_placeNow_16 ?_
    refine v_iconst (pc := 19) C 0 dX6_placeNow_19 (by decide) ?_
    refine v_iald (pc := 20) C _ am_17 dX6_placeNow_20 ?_
    exact tp_out (fun h => hret _ _ _ _ ⟨h, rfl⟩ dX6_placeNow_21)
def f6_climb (a1 : Int32) (s0 : SS) : Option (Int32 × SS) := bd (f6_isPlace a1 s0) (fun x1 => if x1 = 0 then some ((-1000000), s0) else gd (inb 0 2) (if (s0.1 4 (0 : Int32).toNatClampNeg) = 0 then some ((-1000000), s0) else lt (fun (x4 : Int32) => gd (inb 0 3) (bd (f6_look (s0.1 16 (0 : Int32).toNatClampNeg) s0) (fun q5 => gd (inb 0 3) (bd (f6_mayStep (q5.1 17 (0 : Int32).toNatClampNeg) x4 q5) (fun x6 => if x6 = 0 then some ((-1000000), q5) else lt (fun (x9 : Int32) (q10 : SS) => lt (fun (q13 : SS) => bd (f6_placeNow q13) (fun x14 => some (x14, q13))) (fun j11 => if x9 = 0 then gd (inb 0 3) (gd (inb 0 3) (lt (fun (x17 : Int32) (q18 : SS) => gd (inb 0 3) (lt (sI q18 18 (Int32.toNatClampNeg 0) ((q10.1 18 (0 : Int32).toNatClampNeg) + x17)) (fun q19 => gd (inb 0 3) (lt (sI q19 17 (Int32.toNatClampNeg 0) 12) (fun q20 => gd (inb 0 3) (gd (inb 0 3) (lt (sI q20 21 (Int32.toNatClampNeg 0) ((q20.1 21 (0 : Int32).toNatClampNeg) + 1)) (fun q21 => j11 q21)))))))) (fun j15 => if (q10.1 17 (0 : Int32).toNatClampNeg) = 12 then j15 0 q10 else gd (inb 0 3) (bk2 (f6_harmFrom (q10.1 17 (0 : Int32).toNatClampNeg) q10) (fun x22 q23 => j15 x22 q23))))) else gd (inb 0 3) (lt (sI q10 17 (Int32.toNatClampNeg 0) x4) (fun q24 => gd (inb 0 3) (gd (inb 0 3) (lt (sI q24 20 (Int32.toNatClampNeg 0) ((q24.1 20 (0 : Int32).toNatClampNeg) + 1)) (fun q25 => bd (f6_heightOf x4 q25) (fun x26 => gd (inb 0 3) (if x26 ≤ (q25.1 19 (0 : Int32).toNatClampNeg) then gd (inb 0 3) (gd (inb 0 3) (lt (sI q25 19 (Int32.toNatClampNeg 0) (q25.1 19 (0 : Int32).toNatClampNeg)) (fun q27 => j11 q27))) else bd (f6_heightOf x4 q25) (fun x28 => gd (inb 0 3) (lt (sI q25 19 (Int32.toNatClampNeg 0) x28) (fun q29 => j11 q29)))))))))))) (fun j7 => if x4 = 12 then j7 1 q5 else gd (inb 0 3) (gd (inb 0 3) (lt (sI q5 22 (Int32.toNatClampNeg 0) (((q5.1 22 (0 : Int32).toNatClampNeg) * 1103515245) + 12345)) (fun q30 => gd (inb 0 3) (bd (f6_holdsOn x4 q30) (fun x31 => lt (fun (x34 : Int32) => j7 x34 q30) (fun j32 => if (((Int32.toUInt32 (q30.1 22 (0 : Int32).toNatClampNeg)) >>> ((Int32.toUInt32 16) &&& Int32.toUInt32 31)).toInt32 - ((Int32.toUInt32 (q30.1 22 (0 : Int32).toNatClampNeg)) >>> ((Int32.toUInt32 16) &&& Int32.toUInt32 31)).toInt32 / 10 * 10) < x31 then j32 1 else j32 0)))))))))))) (fun j2 => if a1 = (-1) then j2 12 else j2 a1)))
set_option maxHeartbeats 4000000 in
set_option maxRecDepth 100000 in
theorem m6_climb (G : GT) (l : Launch) (a1 : Int32)  (s0 : SS) (r : Int32) (s1 : SS) (hf : f6_climb a1 s0 = some (r, s1)) : MI G l yX6_climb cX6_climb 4 (some .int) 3 71 [.ref (aM G 0), .int a1] (wM G s0) r (wM G s1) := by
  refine MI.start (by decide +kernel) (Nat.le_of_ble_eq_true rfl) (fun K hl C hret => ?_)
  subst hl
  have C : Ctx G K cX6_climb RX6 4 3 71 := C
  change V G K (wM G s0) 0 [(0, .ref (aM G 0)), (1, .int a1)] []
  refine (?_ : tp (f6_climb a1 s0) (fun q => q = (r, s1)) → _) ⟨_, hf, rfl⟩
  rw [f6_climb]
  refine v_aload_n (pc := 0) C 0 rfl dX6_climb_0 ?_
  refine v_iload_n (pc := 1) C 1 rfl dX6_climb_1 ?_
  refine cIv1r (pc := 2) C (fun r9 h9 => m6_isPlace G K.2.1 a1 s0 r9 h9) q_yX6_isPlace mw_458 rc_6 ⟨by decide, by decide⟩ (Nat.le_of_ble_eq_true rfl) dX6_climb_2 (fun x1 => ?_)
  refine v_if_eq (pc := 5) C 17 dX6_climb_5 (by decide) ?_ ?_
  · refine v_ldc (pc := 17) C mw_836 dX6_climb_17 ?_
    exact tp_out (fun h => hret _ _ _ _ ⟨(Prod.mk.inj h).1, congrArg (wM G) (Prod.mk.inj h).2⟩ dX6_climb_19)
  · refine v_aload_n (pc := 8) C 0 rfl dX6_climb_8 ?_
    refine g6_bodies (pc := 9) C mw_103 dX6_climb_9 ?_
    refine v_iconst (pc := 12) C 0 dX6_climb_12 (by decide) ?_
    refine v_iald (pc := 13) C _ am_4 dX6_climb_13 ?_
    refine v_if_ne (pc := 14) C 20 dX6_climb_14 (by decide) ?_ ?_
    · refine v_ldc (pc := 17) C mw_836 dX6_climb_17 ?_
      exact tp_out (fun h => hret _ _ _ _ ⟨(Prod.mk.inj h).1, congrArg (wM G) (Prod.mk.inj h).2⟩ dX6_climb_19)
    · refine v_iload_n (pc := 20) C 1 rfl dX6_climb_20 ?_
      refine v_iconst (pc := 21) C (-1) dX6_climb_21 (by decide) ?_
      refine r_lJ (fun Φ0 j2 => ∀ (x4 : Int32), tp (j2 x4) Φ0 → V G K (wM G s0) 31 [(0, .ref (aM G 0))] [.int x4]) (fun x4 => ?_) (fun j2 hj3 => ?_)
      · refine v_istore_n (pc := 31) C dX6_climb_31 (by decide) (lv' := [(2, .int x4), (0, .ref (aM G 0))]) rfl ?_
        refine v_aload_n (pc := 32) C 1 rfl dX6_climb_32 ?_
        refine v_aload_n (pc := 33) C 1 rfl dX6_climb_33 ?_
        refine g6_who (pc := 34) C mw_115 dX6_climb_34 ?_
        refine v_iconst (pc := 37) C 0 dX6_climb_37 (by decide) ?_
        refine v_iald (pc := 38) C _ am_16 dX6_climb_38 ?_
        refine cVv1w (pc := 39) C (W2 := wM G) (fun s9 h9 => m6_look G K.2.1 (s0.1 16 (0 : Int32).toNatClampNeg) s0 s9 h9) q_yX6_look mw_462 rc_6 ⟨by decide, by decide⟩ (Nat.le_of_ble_eq_true rfl) dX6_climb_39 (fun q5 => ?_)
        refine v_aload_n (pc := 42) C 1 rfl dX6_climb_42 ?_
        refine v_aload_n (pc := 43) C 1 rfl dX6_climb_43 ?_
        refine g6_where (pc := 44) C mw_116 dX6_climb_44 ?_
        refine v_iconst (pc := 47) C 0 dX6_climb_47 (by decide) ?_
        refine v_iald (pc := 48) C _ am_17 dX6_climb_48 ?_
        refine v_iload_n (pc := 49) C 0 rfl dX6_climb_49 ?_
        refine cIv2r (pc := 50) C (fun r9 h9 => m6_mayStep G K.2.1 (q5.1 17 (0 : Int32).toNatClampNeg) x4 q5 r9 h9) q_yX6_mayStep mw_470 rc_6 ⟨by decide, by decide⟩ (Nat.le_of_ble_eq_true rfl) dX6_climb_50 (fun x6 => ?_)
        refine v_if_ne (pc := 53) C 59 dX6_climb_53 (by decide) ?_ ?_
        · refine v_ldc (pc := 56) C mw_836 dX6_climb_56 ?_
          exact tp_out (fun h => hret _ _ _ _ ⟨(Prod.mk.inj h).1, congrArg (wM G) (Prod.mk.inj h).2⟩ dX6_climb_58)
        · refine v_iconst (pc := 59) C 1 dX6_climb_59 (by decide) ?_
          refine v_istore_n (pc := 60) C dX6_climb_60 (by decide) (lv' := [(3, .int 1), (2, .int x4), (0, .ref (aM G 0))]) rfl ?_
          refine v_iload_n (pc := 61) C 1 rfl dX6_climb_61 ?_
          refine v_bipush (pc := 62) C 12 dX6_climb_62 (by decide) ?_
          refine r_lJ (fun Φ0 j7 => ∀ (x9 : Int32) (q10 : SS), tp (j7 x9 q10) Φ0 → V G K (wM G q10) 112 [(0, .ref (aM G 0)), (2, .int x4), (3, .int x9)] []) (fun x9 q10 => ?_) (fun j7 hj8 => ?_)
          · refine v_iload_n (pc := 112) C 2 rfl dX6_climb_112 ?_
            refine r_lJ (fun Φ0 j11 => ∀ (q13 : SS), tp (j11 q13) Φ0 → V G K (wM G q13) 222 [(0, .ref (aM G 0))] []) (fun q13 => ?_) (fun j11 hj12 => ?_)
            · refine v_aload_n (pc := 222) C 0 rfl dX6_climb_222 ?_
              refine cIv0r (pc := 223) C (fun r9 h9 => m6_placeNow G K.2.1 q13 r9 h9) q_yX6_placeNow mw_870 rc_6 ⟨by decide, by decide⟩ (Nat.le_of_ble_eq_true rfl) dX6_climb_223 (fun x14 => ?_)
              exact tp_out (fun h => hret _ _ _ _ ⟨(Prod.mk.inj h).1, congrArg (wM G) (Prod.mk.inj h).2⟩ dX6_climb_226)
            refine v_if_eq (pc := 113) C 170 dX6_climb_113 (by decide) ?_ ?_
            · refine v_aload_n (pc := 170) C 0 rfl dX6_climb_170 ?_
              refine g6_hurt (pc := 171) C mw_117 dX6_climb_171 ?_
              refine v_iconst (pc := 174) C 0 dX6_climb_174 (by decide) ?_
              refine v_dup2 (pc := 175) C dX6_climb_175 rfl rfl ?_
              refine v_iald (pc := 176) C _ am_18 dX6_climb_176 ?_
              refine v_aload_n (pc := 177) C 0 rfl dX6_climb_177 ?_
              refine g6_where (pc := 178) C mw_116 dX6_climb_178 ?_
              refine v_iconst (pc := 181) C 0 dX6_climb_181 (by decide) ?_
              refine v_iald (pc := 182) C _ am_17 dX6_climb_182 ?_
              refine v_bipush (pc := 183) C 12 dX6_climb_183 (by decide) ?_
              refine r_lJ (fun Φ0 j15 => ∀ (x17 : Int32) (q18 : SS), tp (j15 x17 q18) Φ0 → V G K (wM G q18) 202 [(0, .ref (aM G 0))] [.int x17, .int (q10.1 18 (0 : Int32).toNatClampNeg), .int 0, .ref (aM G 18)]) (fun x17 q18 => ?_) (fun j15 hj16 => ?_)
              · refine v_iadd (pc := 202) C dX6_climb_202 ?_
                refine v_iast (pc := 203) C _ am_18 (at_18 _ _) dX6_climb_203 ?_
                refine r_ltm (fun q19 => ?_)
                refine v_aload_n (pc := 204) C 0 rfl dX6_climb_204 ?_
                refine g6_where (pc := 205) C mw_116 dX6_climb_205 ?_
                refine v_iconst (pc := 208) C 0 dX6_climb_208 (by decide) ?_
                refine v_bipush (pc := 209) C 12 dX6_climb_209 (by decide) ?_
                refine v_iast (pc := 211) C _ am_17 (at_17 _ _) dX6_climb_211 ?_
                refine r_ltm (fun q20 => ?_)
                refine v_aload_n (pc := 212) C 0 rfl dX6_climb_212 ?_
                refine g6_falls (pc := 213) C mw_120 dX6_climb_213 ?_
                refine v_iconst (pc := 216) C 0 dX6_climb_216 (by decide) ?_
                refine v_dup2 (pc := 217) C dX6_climb_217 rfl rfl ?_
                refine v_iald (pc := 218) C _ am_21 dX6_climb_218 ?_
                refine v_iconst (pc := 219) C 1 dX6_climb_219 (by decide) ?_
                refine v_iadd (pc := 220) C dX6_climb_220 ?_
                refine v_iast (pc := 221) C _ am_21 (at_21 _ _) dX6_climb_221 ?_
                refine r_ltm (fun q21 => ?_)
                exact v_to [0] (hj12 _) rfl
              refine v_icmp_ne (pc := 185) C 192 dX6_climb_185 (by decide) ?_ ?_
              · refine v_iconst (pc := 188) C 0 dX6_climb_188 (by decide) ?_
                refine v_goto (pc := 189) C 202 dX6_climb_189 (by decide) ?_
                exact v_to [0] (hj16 _ _) rfl
              · refine v_aload_n (pc := 192) C 0 rfl dX6_climb_192 ?_
                refine v_aload_n (pc := 193) C 0 rfl dX6_climb_193 ?_
                refine g6_where (pc := 194) C mw_116 dX6_climb_194 ?_
                refine v_iconst (pc := 197) C 0 dX6_climb_197 (by decide) ?_
                refine v_iald (pc := 198) C _ am_17 dX6_climb_198 ?_
                refine cIv1w (pc := 199) C (W2 := wM G) (fun r9 s9 h9 => m6_harmFrom G K.2.1 (q10.1 17 (0 : Int32).toNatClampNeg) q10 r9 s9 h9) q_yX6_harmFrom mw_762 rc_6 ⟨by decide, by decide⟩ (Nat.le_of_ble_eq_true rfl) dX6_climb_199 (fun x22 q23 => ?_)
                exact v_to [0] (hj16 _ _) rfl
            · refine v_aload_n (pc := 116) C 0 rfl dX6_climb_116 ?_
              refine g6_where (pc := 117) C mw_116 dX6_climb_117 ?_
              refine v_iconst (pc := 120) C 0 dX6_climb_120 (by decide) ?_
              refine v_iload_n (pc := 121) C 1 rfl dX6_climb_121 ?_
              refine v_iast (pc := 122) C _ am_17 (at_17 _ _) dX6_climb_122 ?_
              refine r_ltm (fun q24 => ?_)
              refine v_aload_n (pc := 123) C 0 rfl dX6_climb_123 ?_
              refine g6_held (pc := 124) C mw_119 dX6_climb_124 ?_
              refine v_iconst (pc := 127) C 0 dX6_climb_127 (by decide) ?_
              refine v_dup2 (pc := 128) C dX6_climb_128 rfl rfl ?_
              refine v_iald (pc := 129) C _ am_20 dX6_climb_129 ?_
              refine v_iconst (pc := 130) C 1 dX6_climb_130 (by decide) ?_
              refine v_iadd (pc := 131) C dX6_climb_131 ?_
              refine v_iast (pc := 132) C _ am_20 (at_20 _ _) dX6_climb_132 ?_
              refine r_ltm (fun q25 => ?_)
              refine v_aload_n (pc := 133) C 0 rfl dX6_climb_133 ?_
              refine g6_tops (pc := 134) C mw_118 dX6_climb_134 ?_
              refine v_iconst (pc := 137) C 0 dX6_climb_137 (by decide) ?_
              refine v_aload_n (pc := 138) C 0 rfl dX6_climb_138 ?_
              refine v_iload_n (pc := 139) C 1 rfl dX6_climb_139 ?_
              refine cIv1r (pc := 140) C (fun r9 h9 => m6_heightOf G K.2.1 x4 q25 r9 h9) q_yX6_heightOf mw_478 rc_6 ⟨by decide, by decide⟩ (Nat.le_of_ble_eq_true rfl) dX6_climb_140 (fun x26 => ?_)
              refine v_aload_n (pc := 143) C 0 rfl dX6_climb_143 ?_
              refine g6_tops (pc := 144) C mw_118 dX6_climb_144 ?_
              refine v_iconst (pc := 147) C 0 dX6_climb_147 (by decide) ?_
              refine v_iald (pc := 148) C _ am_19 dX6_climb_148 ?_
              refine v_icmp_le (pc := 149) C 160 dX6_climb_149 (by decide) ?_ ?_
              · refine v_aload_n (pc := 160) C 0 rfl dX6_climb_160 ?_
                refine g6_tops (pc := 161) C mw_118 dX6_climb_161 ?_
                refine v_iconst (pc := 164) C 0 dX6_climb_164 (by decide) ?_
                refine v_iald (pc := 165) C _ am_19 dX6_climb_165 ?_
                refine v_iast (pc := 166) C _ am_19 (at_19 _ _) dX6_climb_166 ?_
                refine r_ltm (fun q27 => ?_)
                refine v_goto (pc := 167) C 222 dX6_climb_167 (by decide) ?_
                exact v_to [0] (hj12 _) rfl
              · refine v_aload_n (pc := 152) C 0 rfl dX6_climb_152 ?_
                refine v_iload_n (pc := 153) C 1 rfl dX6_climb_153 ?_
                refine cIv1r (pc := 154) C (fun r9 h9 => m6_heightOf G K.2.1 x4 q25 r9 h9) q_yX6_heightOf mw_478 rc_6 ⟨by decide, by decide⟩ (Nat.le_of_ble_eq_true rfl) dX6_climb_154 (fun x28 => ?_)
                refine v_goto (pc := 157) C 166 dX6_climb_157 (by decide) ?_
                refine v_iast (pc := 166) C _ am_19 (at_19 _ _) dX6_climb_166 ?_
                refine r_ltm (fun q29 => ?_)
                refine v_goto (pc := 167) C 222 dX6_climb_167 (by decide) ?_
                exact v_to [0] (hj12 _) rfl
          refine v_icmp_eq (pc := 64) C 112 dX6_climb_64 (by decide) ?_ ?_
          · exact v_to [2, 1, 0] (hj8 _ _) rfl
          · refine v_aload_n (pc := 67) C 2 rfl dX6_climb_67 ?_
            refine g6_lots (pc := 68) C mw_121 dX6_climb_68 ?_
            refine v_iconst (pc := 71) C 0 dX6_climb_71 (by decide) ?_
            refine v_aload_n (pc := 72) C 2 rfl dX6_climb_72 ?_
            refine g6_lots (pc := 73) C mw_121 dX6_climb_73 ?_
            refine v_iconst (pc := 76) C 0 dX6_climb_76 (by decide) ?_
            refine v_iald (pc := 77) C _ am_22 dX6_climb_77 ?_
            refine v_ldc (pc := 78) C mw_869 dX6_climb_78 ?_
            refine v_imul (pc := 80) C dX6_climb_80 ?_
            refine v_sipush (pc := 81) C 12345 dX6_climb_81 (by decide) ?_
            refine v_iadd (pc := 84) C dX6_climb_84 ?_
            refine v_iast (pc := 85) C _ am_22 (at_22 _ _) dX6_climb_85 ?_
            refine r_ltm (fun q30 => ?_)
            refine v_aload_n (pc := 86) C 2 rfl dX6_climb_86 ?_
            refine g6_lots (pc := 87) C mw_121 dX6_climb_87 ?_
            refine v_iconst (pc := 90) C 0 dX6_climb_90 (by decide) ?_
            refine v_iald (pc := 91) C _ am_22 dX6_climb_91 ?_
            refine v_bipush (pc := 92) C 16 dX6_climb_92 (by decide) ?_
            refine v_iushr (pc := 94) C dX6_climb_94 ?_
            refine v_bipush (pc := 95) C 10 dX6_climb_95 (by decide) ?_
            refine v_irem (pc := 97) C dX6_climb_97 (by decide) ?_
            refine v_aload_n (pc := 98) C 2 rfl dX6_climb_98 ?_
            refine v_iload_n (pc := 99) C 1 rfl dX6_climb_99 ?_
            refine cIv1r (pc := 100) C (fun r9 h9 => m6_holdsOn G K.2.1 x4 q30 r9 h9) q_yX6_holdsOn mw_497 rc_6 ⟨by decide, by decide⟩ (Nat.le_of_ble_eq_true rfl) dX6_climb_100 (fun x31 => ?_)
            refine r_lJ (fun Φ0 j32 => ∀ (x34 : Int32), tp (j32 x34) Φ0 → V G K (wM G q30) 111 [(0, .ref (aM G 0)), (2, .int x4)] [.int x34]) (fun x34 => ?_) (fun j32 hj33 => ?_)
            · refine v_istore_n (pc := 111) C dX6_climb_111 (by decide) (lv' := [(3, .int x34), (0, .ref (aM G 0)), (2, .int x4)]) rfl ?_
              exact v_to [1, 2, 0] (hj8 _ _) rfl
            refine v_icmp_ge (pc := 103) C 110 dX6_climb_103 (by decide) ?_ ?_
            · refine v_iconst (pc := 106) C 1 dX6_climb_106 (by decide) ?_
              refine v_goto (pc := 107) C 111 dX6_climb_107 (by decide) ?_
              exact v_to [2, 1] (hj33 _) rfl
            · refine v_iconst (pc := 110) C 0 dX6_climb_110 (by decide) ?_
              exact v_to [2, 1] (hj33 _) rfl
      refine v_icmp_ne (pc := 22) C 30 dX6_climb_22 (by decide) ?_ ?_
      · refine v_bipush (pc := 25) C 12 dX6_climb_25 (by decide) ?_
        refine v_goto (pc := 27) C 31 dX6_climb_27 (by decide) ?_
        exact v_to [0] (hj3 _) rfl
      · refine v_iload_n (pc := 30) C 1 rfl dX6_climb_30 ?_
        exact v_to [0] (hj3 _) rfl
def f6_now (a1 : Int32) (s0 : SS) : Option Int32 := if a1 = 0 then gd (inb 0 3) (some (s0.1 16 (0 : Int32).toNatClampNeg)) else (if a1 = 1 then bd (f6_placeNow s0) (fun x1 => some x1) else (if a1 = 2 then gd (inb 0 3) (some (s0.1 18 (0 : Int32).toNatClampNeg)) else (if a1 = 3 then gd (inb 0 3) (some (s0.1 19 (0 : Int32).toNatClampNeg)) else (if a1 = 4 then gd (inb 0 3) (some (s0.1 20 (0 : Int32).toNatClampNeg)) else (if a1 = 5 then gd (inb 0 3) (some (s0.1 21 (0 : Int32).toNatClampNeg)) else (some (-1000000)))))))
set_option maxHeartbeats 4000000 in
set_option maxRecDepth 100000 in
theorem m6_now (G : GT) (l : Launch) (a1 : Int32)  (s0 : SS) (r : Int32) (hf : f6_now a1 s0 = some r) : MI G l yX6_now cX6_now 2 (some .int) 1 20 [.ref (aM G 0), .int a1] (wM G s0) r (wM G s0) := by
  refine MI.start (by decide +kernel) (Nat.le_of_ble_eq_true rfl) (fun K hl C hret => ?_)
  subst hl
  have C : Ctx G K cX6_now RX6 2 1 20 := C
  change V G K (wM G s0) 0 [(0, .ref (aM G 0)), (1, .int a1)] []
  refine (?_ : tp (f6_now a1 s0) (fun q => q = r) → _) ⟨_, hf, rfl⟩
  rw [f6_now]
  refine v_iload_n (pc := 0) C 1 rfl dX6_now_0 ?_
  refine r_if (fun e0 => ?_) (fun e0 => ?_)
  · refine v_tableIn (pc := 1) C 40 dX6_now_1 (by rw [e0]; decide) (by rw [e0]; decide) (off := 39) (by rw [e0]; rfl) (by decide) ?_
    refine v_aload_n (pc := 40) C 0 rfl dX6_now_40 ?_
    refine g6_who (pc := 41) C mw_115 dX6_now_41 ?_
    refine v_iconst (pc := 44) C 0 dX6_now_44 (by decide) ?_
    refine v_iald (pc := 45) C _ am_16 dX6_now_45 ?_
    exact tp_out (fun h => hret _ _ _ _ ⟨h, rfl⟩ dX6_now_46)
  · skip
    refine r_if (fun e1 => ?_) (fun e1 => ?_)
    · refine v_tableIn (pc := 1) C 47 dX6_now_1 (by rw [e1]; decide) (by rw [e1]; decide) (off := 46) (by rw [e1]; rfl) (by decide) ?_
      refine v_aload_n (pc := 47) C 0 rfl dX6_now_47 ?_
      refine cIv0r (pc := 48) C (fun r9 h9 => m6_placeNow G K.2.1 s0 r9 h9) q_yX6_placeNow mw_870 rc_6 ⟨by decide, by decide⟩ (Nat.le_of_ble_eq_true rfl) dX6_now_48 (fun x1 => ?_)
      exact tp_out (fun h => hret _ _ _ _ ⟨h, rfl⟩ dX6_now_51)
    · skip
      refine r_if (fun e2 => ?_) (fun e2 => ?_)
      · refine v_tableIn (pc := 1) C 52 dX6_now_1 (by rw [e2]; decide) (by rw [e2]; decide) (off := 51) (by rw [e2]; rfl) (by decide) ?_
        refine v_aload_n (pc := 52) C 0 rfl dX6_now_52 ?_
        refine g6_hurt (pc := 53) C mw_117 dX6_now_53 ?_
        refine v_iconst (pc := 56) C 0 dX6_now_56 (by decide) ?_
        refine v_iald (pc := 57) C _ am_18 dX6_now_57 ?_
        exact tp_out (fun h => hret _ _ _ _ ⟨h, rfl⟩ dX6_now_58)
      · skip
        refine r_if (fun e3 => ?_) (fun e3 => ?_)
        · refine v_tableIn (pc := 1) C 59 dX6_now_1 (by rw [e3]; decide) (by rw [e3]; decide) (off := 58) (by rw [e3]; rfl) (by decide) ?_
          refine v_aload_n (pc := 59) C 0 rfl dX6_now_59 ?_
          refine g6_tops (pc := 60) C mw_118 dX6_now_60 ?_
          refine v_iconst (pc := 63) C 0 dX6_now_63 (by decide) ?_
          refine v_iald (pc := 64) C _ am_19 dX6_now_64 ?_
          exact tp_out (fun h => hret _ _ _ _ ⟨h, rfl⟩ dX6_now_65)
        · skip
          refine r_if (fun e4 => ?_) (fun e4 => ?_)
          · refine v_tableIn (pc := 1) C 66 dX6_now_1 (by rw [e4]; decide) (by rw [e4]; decide) (off := 65) (by rw [e4]; rfl) (by decide) ?_
            refine v_aload_n (pc := 66) C 0 rfl dX6_now_66 ?_
            refine g6_held (pc := 67) C mw_119 dX6_now_67 ?_
            refine v_iconst (pc := 70) C 0 dX6_now_70 (by decide) ?_
            refine v_iald (pc := 71) C _ am_20 dX6_now_71 ?_
            exact tp_out (fun h => hret _ _ _ _ ⟨h, rfl⟩ dX6_now_72)
          · skip
            refine r_if (fun e5 => ?_) (fun e5 => ?_)
            · refine v_tableIn (pc := 1) C 73 dX6_now_1 (by rw [e5]; decide) (by rw [e5]; decide) (off := 72) (by rw [e5]; rfl) (by decide) ?_
              refine v_aload_n (pc := 73) C 0 rfl dX6_now_73 ?_
              refine g6_falls (pc := 74) C mw_120 dX6_now_74 ?_
              refine v_iconst (pc := 77) C 0 dX6_now_77 (by decide) ?_
              refine v_iald (pc := 78) C _ am_21 dX6_now_78 ?_
              exact tp_out (fun h => hret _ _ _ _ ⟨h, rfl⟩ dX6_now_79)
            · skip
              refine v_tableOut (pc := 1) C 80 dX6_now_1 (by have z0 := lv_neT e0 (show (0 : Int32).toInt = 0 by decide); have z1 := lv_neT e1 (show (1 : Int32).toInt = 1 by decide); have z2 := lv_neT e2 (show (2 : Int32).toInt = 2 by decide); have z3 := lv_neT e3 (show (3 : Int32).toInt = 3 by decide); have z4 := lv_neT e4 (show (4 : Int32).toInt = 4 by decide); have z5 := lv_neT e5 (show (5 : Int32).toInt = 5 by decide); omega) (by decide) ?_
              refine v_ldc (pc := 80) C mw_836 dX6_now_80 ?_
              exact tp_out (fun h => hret _ _ _ _ ⟨h, rfl⟩ dX6_now_82)
def f6_lot (a1 : Int32) (s0 : SS) : Option (Int32 × SS) := gd (inb 0 3) (lt ((s0.1 22 (0 : Int32).toNatClampNeg)) (fun x1 => gd (inb 0 3) (lt (sI s0 22 (Int32.toNatClampNeg 0) a1) (fun q2 => some (x1, q2)))))
set_option maxHeartbeats 4000000 in
set_option maxRecDepth 100000 in
theorem m6_lot (G : GT) (l : Launch) (a1 : Int32)  (s0 : SS) (r : Int32) (s1 : SS) (hf : f6_lot a1 s0 = some (r, s1)) : MI G l yX6_lot cX6_lot 3 (some .int) 0 0 [.ref (aM G 0), .int a1] (wM G s0) r (wM G s1) := by
  refine MI.start (by decide +kernel) (Nat.le_of_ble_eq_true rfl) (fun K hl C hret => ?_)
  subst hl
  have C : Ctx G K cX6_lot RX6 3 0 0 := C
  change V G K (wM G s0) 0 [(0, .ref (aM G 0)), (1, .int a1)] []
  refine (?_ : tp (f6_lot a1 s0) (fun q => q = (r, s1)) → _) ⟨_, hf, rfl⟩
  rw [f6_lot]
  refine v_aload_n (pc := 0) C 0 rfl dX6_lot_0 ?_
  refine g6_lots (pc := 1) C mw_121 dX6_lot_1 ?_
  refine v_iconst (pc := 4) C 0 dX6_lot_4 (by decide) ?_
  refine v_iald (pc := 5) C _ am_22 dX6_lot_5 ?_
  refine r_lti (fun x1 => ?_)
  refine v_istore_n (pc := 6) C dX6_lot_6 (by decide) (lv' := [(2, .int x1), (0, .ref (aM G 0)), (1, .int a1)]) rfl ?_
  refine v_aload_n (pc := 7) C 1 rfl dX6_lot_7 ?_
  refine g6_lots (pc := 8) C mw_121 dX6_lot_8 ?_
  refine v_iconst (pc := 11) C 0 dX6_lot_11 (by decide) ?_
  refine v_iload_n (pc := 12) C 2 rfl dX6_lot_12 ?_
  refine v_iast (pc := 13) C _ am_22 (at_22 _ _) dX6_lot_13 ?_
  refine r_ltm (fun q2 => ?_)
  refine v_iload_n (pc := 14) C 0 rfl dX6_lot_14 ?_
  exact tp_out (fun h => hret _ _ _ _ ⟨(Prod.mk.inj h).1, congrArg (wM G) (Prod.mk.inj h).2⟩ dX6_lot_15)
def f6_mark (a1 : Int32) (a2 : Int32) (s0 : SS) : Option (Int32 × SS) := bd (f6_in a1 0 5) (fun x1 => if x1 = 0 then some ((-1000000), s0) else bd (f6_isBranch a2 s0) (fun x2 => if x2 = 0 then some ((-1000000), s0) else bd (f6_of a2 0 s0) (fun x3 => bd (f6_of a2 3 s0) (fun x4 => lt ((x3 - (10 - x4))) (fun x5 => if a1 = 0 then lt (sL s0 0 0 ((s0.2.1 0 0) + 1)) (fun q6 => some (x3, q6)) else (if a1 = 1 then lt (sL s0 0 0 ((s0.2.1 0 0) + 11)) (fun q7 => bd (f6_of a2 2 q7) (fun x8 => some ((x3 + x8), q7))) else (if a1 = 2 then lt (sL s0 0 0 ((s0.2.1 0 0) + 101)) (fun q9 => some (x5, q9)) else (if a1 = 3 then lt (sL s0 0 0 ((s0.2.1 0 0) + 1101)) (fun q10 => some ((2 * x5), q10)) else (if a1 = 4 then lt (sL s0 0 0 ((s0.2.1 0 0) + 10011)) (fun q11 => bd (f6_of a2 2 q11) (fun x12 => bd (f6_of a2 1 q11) (fun x13 => some (((x3 + x12) - x13), q11)))) else (lt (sL s0 0 0 ((s0.2.1 0 0) + 100001)) (fun q14 => bd (f6_of a2 4 q14) (fun x15 => some ((x3 + (5 * x15)), q14)))))))))))))
set_option maxHeartbeats 4000000 in
set_option maxRecDepth 100000 in
theorem m6_mark (G : GT) (l : Launch) (a1 : Int32) (a2 : Int32)  (s0 : SS) (r : Int32) (s1 : SS) (hf : f6_mark a1 a2 s0 = some (r, s1)) : MI G l yX6_mark cX6_mark 5 (some .int) 2 43 [.ref (aM G 0), .int a1, .int a2] (wM G s0) r (wM G s1) := by
  refine MI.start (by decide +kernel) (Nat.le_of_ble_eq_true rfl) (fun K hl C hret => ?_)
  subst hl
  have C : Ctx G K cX6_mark RX6 5 2 43 := C
  change V G K (wM G s0) 0 [(0, .ref (aM G 0)), (1, .int a1), (2, .int a2)] []
  refine (?_ : tp (f6_mark a1 a2 s0) (fun q => q = (r, s1)) → _) ⟨_, hf, rfl⟩
  rw [f6_mark]
  refine v_iload_n (pc := 0) C 1 rfl dX6_mark_0 ?_
  refine v_iconst (pc := 1) C 0 dX6_mark_1 (by decide) ?_
  refine v_iconst (pc := 2) C 5 dX6_mark_2 (by decide) ?_
  refine cIs3r (pc := 3) C (fun r9 h9 => m6_in G K.2.1 a1 0 5 _ r9 h9) q_yX6_in mw_139 ⟨by decide, by decide⟩ (Nat.le_of_ble_eq_true rfl) dX6_mark_3 (fun x1 => ?_)
  refine v_if_eq (pc := 6) C 17 dX6_mark_6 (by decide) ?_ ?_
  · refine v_ldc (pc := 17) C mw_836 dX6_mark_17 ?_
    exact tp_out (fun h => hret _ _ _ _ ⟨(Prod.mk.inj h).1, congrArg (wM G) (Prod.mk.inj h).2⟩ dX6_mark_19)
  · refine v_aload_n (pc := 9) C 0 rfl dX6_mark_9 ?_
    refine v_iload_n (pc := 10) C 2 rfl dX6_mark_10 ?_
    refine cIv1r (pc := 11) C (fun r9 h9 => m6_isBranch G K.2.1 a2 s0 r9 h9) q_yX6_isBranch mw_368 rc_6 ⟨by decide, by decide⟩ (Nat.le_of_ble_eq_true rfl) dX6_mark_11 (fun x2 => ?_)
    refine v_if_ne (pc := 14) C 20 dX6_mark_14 (by decide) ?_ ?_
    · refine v_ldc (pc := 17) C mw_836 dX6_mark_17 ?_
      exact tp_out (fun h => hret _ _ _ _ ⟨(Prod.mk.inj h).1, congrArg (wM G) (Prod.mk.inj h).2⟩ dX6_mark_19)
    · refine v_aload_n (pc := 20) C 0 rfl dX6_mark_20 ?_
      refine v_iload_n (pc := 21) C 2 rfl dX6_mark_21 ?_
      refine v_iconst (pc := 22) C 0 dX6_mark_22 (by decide) ?_
      refine cIv2r (pc := 23) C (fun r9 h9 => m6_of G K.2.1 a2 0 s0 r9 h9) q_yX6_of mw_376 rc_6 ⟨by decide, by decide⟩ (Nat.le_of_ble_eq_true rfl) dX6_mark_23 (fun x3 => ?_)
      refine v_istore_n (pc := 26) C dX6_mark_26 (by decide) (lv' := [(3, .int x3), (0, .ref (aM G 0)), (1, .int a1), (2, .int a2)]) rfl ?_
      refine v_iload_n (pc := 27) C 0 rfl dX6_mark_27 ?_
      refine v_bipush (pc := 28) C 10 dX6_mark_28 (by decide) ?_
      refine v_aload_n (pc := 30) C 1 rfl dX6_mark_30 ?_
      refine v_iload_n (pc := 31) C 3 rfl dX6_mark_31 ?_
      refine v_iconst (pc := 32) C 3 dX6_mark_32 (by decide) ?_
      refine cIv2r (pc := 33) C (fun r9 h9 => m6_of G K.2.1 a2 3 s0 r9 h9) q_yX6_of mw_376 rc_6 ⟨by decide, by decide⟩ (Nat.le_of_ble_eq_true rfl) dX6_mark_33 (fun x4 => ?_)
      refine v_isub (pc := 36) C dX6_mark_36 ?_
      refine v_isub (pc := 37) C dX6_mark_37 ?_
      refine r_lti (fun x5 => ?_)
      refine v_istore (pc := 38) C dX6_mark_38 (by decide) (lv' := [(4, .int x5), (3, .int x3), (0, .ref (aM G 0)), (1, .int a1), (2, .int a2)]) rfl ?_
      refine v_iload_n (pc := 40) C 3 rfl dX6_mark_40 ?_
      refine r_if (fun e0 => ?_) (fun e0 => ?_)
      · refine v_tableIn (pc := 41) C 76 dX6_mark_41 (by rw [e0]; decide) (by rw [e0]; decide) (off := 35) (by rw [e0]; rfl) (by decide) ?_
        refine v_aload_n (pc := 76) C 2 rfl dX6_mark_76 ?_
        refine v_dup (pc := 77) C dX6_mark_77 rfl ?_
        refine g6_trace (pc := 78) C mw_930 dX6_mark_78 ?_
        refine v_lconst (pc := 81) C 1 dX6_mark_81 (by decide) ?_
        refine v_ladd (pc := 82) C dX6_mark_82 ?_
        refine p6_trace (pc := 83) C mw_930 dX6_mark_83 ?_
        refine r_ltm (fun q6 => ?_)
        refine v_iload_n (pc := 86) C 1 rfl dX6_mark_86 ?_
        exact tp_out (fun h => hret _ _ _ _ ⟨(Prod.mk.inj h).1, congrArg (wM G) (Prod.mk.inj h).2⟩ dX6_mark_87)
      · skip
        refine r_if (fun e1 => ?_) (fun e1 => ?_)
        · refine v_tableIn (pc := 41) C 88 dX6_mark_41 (by rw [e1]; decide) (by rw [e1]; decide) (off := 47) (by rw [e1]; rfl) (by decide) ?_
          refine v_aload_n (pc := 88) C 2 rfl dX6_mark_88 ?_
          refine v_dup (pc := 89) C dX6_mark_89 rfl ?_
          refine g6_trace (pc := 90) C mw_930 dX6_mark_90 ?_
          refine v_ldc2 (pc := 93) C mw_931 dX6_mark_93 ?_
          refine v_ladd (pc := 96) C dX6_mark_96 ?_
          refine p6_trace (pc := 97) C mw_930 dX6_mark_97 ?_
          refine r_ltm (fun q7 => ?_)
          refine v_iload_n (pc := 100) C 1 rfl dX6_mark_100 ?_
          refine v_aload_n (pc := 101) C 2 rfl dX6_mark_101 ?_
          refine v_iload_n (pc := 102) C 4 rfl dX6_mark_102 ?_
          refine v_iconst (pc := 103) C 2 dX6_mark_103 (by decide) ?_
          refine cIv2r (pc := 104) C (fun r9 h9 => m6_of G K.2.1 a2 2 q7 r9 h9) q_yX6_of mw_376 rc_6 ⟨by decide, by decide⟩ (Nat.le_of_ble_eq_true rfl) dX6_mark_104 (fun x8 => ?_)
          refine v_iadd (pc := 107) C dX6_mark_107 ?_
          exact tp_out (fun h => hret _ _ _ _ ⟨(Prod.mk.inj h).1, congrArg (wM G) (Prod.mk.inj h).2⟩ dX6_mark_108)
        · skip
          refine r_if (fun e2 => ?_) (fun e2 => ?_)
          · refine v_tableIn (pc := 41) C 109 dX6_mark_41 (by rw [e2]; decide) (by rw [e2]; decide) (off := 68) (by rw [e2]; rfl) (by decide) ?_
            refine v_aload_n (pc := 109) C 2 rfl dX6_mark_109 ?_
            refine v_dup (pc := 110) C dX6_mark_110 rfl ?_
            refine g6_trace (pc := 111) C mw_930 dX6_mark_111 ?_
            refine v_ldc2 (pc := 114) C mw_932 dX6_mark_114 ?_
            refine v_ladd (pc := 117) C dX6_mark_117 ?_
            refine p6_trace (pc := 118) C mw_930 dX6_mark_118 ?_
            refine r_ltm (fun q9 => ?_)
            refine v_iload (pc := 121) C 0 rfl dX6_mark_121 ?_
            exact tp_out (fun h => hret _ _ _ _ ⟨(Prod.mk.inj h).1, congrArg (wM G) (Prod.mk.inj h).2⟩ dX6_mark_123)
          · skip
            refine r_if (fun e3 => ?_) (fun e3 => ?_)
            · refine v_tableIn (pc := 41) C 124 dX6_mark_41 (by rw [e3]; decide) (by rw [e3]; decide) (off := 83) (by rw [e3]; rfl) (by decide) ?_
              refine v_aload_n (pc := 124) C 2 rfl dX6_mark_124 ?_
              refine v_dup (pc := 125) C dX6_mark_125 rfl ?_
              refine g6_trace (pc := 126) C mw_930 dX6_mark_126 ?_
              refine v_ldc2 (pc := 129) C mw_933 dX6_mark_129 ?_
              refine v_ladd (pc := 132) C dX6_mark_132 ?_
              refine p6_trace (pc := 133) C mw_930 dX6_mark_133 ?_
              refine r_ltm (fun q10 => ?_)
              refine v_iconst (pc := 136) C 2 dX6_mark_136 (by decide) ?_
              refine v_iload (pc := 137) C 0 rfl dX6_mark_137 ?_
              refine v_imul (pc := 139) C dX6_mark_139 ?_
              exact tp_out (fun h => hret _ _ _ _ ⟨(Prod.mk.inj h).1, congrArg (wM G) (Prod.mk.inj h).2⟩ dX6_mark_140)
            · skip
              refine r_if (fun e4 => ?_) (fun e4 => ?_)
              · refine v_tableIn (pc := 41) C 141 dX6_mark_41 (by rw [e4]; decide) (by rw [e4]; decide) (off := 100) (by rw [e4]; rfl) (by decide) ?_
                refine v_aload_n (pc := 141) C 2 rfl dX6_mark_141 ?_
                refine v_dup (pc := 142) C dX6_mark_142 rfl ?_
                refine g6_trace (pc := 143) C mw_930 dX6_mark_143 ?_
                refine v_ldc2 (pc := 146) C mw_934 dX6_mark_146 ?_
                refine v_ladd (pc := 149) C dX6_mark_149 ?_
                refine p6_trace (pc := 150) C mw_930 dX6_mark_150 ?_
                refine r_ltm (fun q11 => ?_)
                refine v_iload_n (pc := 153) C 1 rfl dX6_mark_153 ?_
                refine v_aload_n (pc := 154) C 2 rfl dX6_mark_154 ?_
                refine v_iload_n (pc := 155) C 4 rfl dX6_mark_155 ?_
                refine v_iconst (pc := 156) C 2 dX6_mark_156 (by decide) ?_
                refine cIv2r (pc := 157) C (fun r9 h9 => m6_of G K.2.1 a2 2 q11 r9 h9) q_yX6_of mw_376 rc_6 ⟨by decide, by decide⟩ (Nat.le_of_ble_eq_true rfl) dX6_mark_157 (fun x12 => ?_)
                refine v_iadd (pc := 160) C dX6_mark_160 ?_
                refine v_aload_n (pc := 161) C 2 rfl dX6_mark_161 ?_
                refine v_iload_n (pc := 162) C 4 rfl dX6_mark_162 ?_
                refine v_iconst (pc := 163) C 1 dX6_mark_163 (by decide) ?_
                refine cIv2r (pc := 164) C (fun r9 h9 => m6_of G K.2.1 a2 1 q11 r9 h9) q_yX6_of mw_376 rc_6 ⟨by decide, by decide⟩ (Nat.le_of_ble_eq_true rfl) dX6_mark_164 (fun x13 => ?_)
                refine v_isub (pc := 167) C dX6_mark_167 ?_
                exact tp_out (fun h => hret _ _ _ _ ⟨(Prod.mk.inj h).1, congrArg (wM G) (Prod.mk.inj h).2⟩ dX6_mark_168)
              · skip
                refine v_tableOut (pc := 41) C 169 dX6_mark_41 (by have z0 := lv_neT e0 (show (0 : Int32).toInt = 0 by decide); have z1 := lv_neT e1 (show (1 : Int32).toInt = 1 by decide); have z2 := lv_neT e2 (show (2 : Int32).toInt = 2 by decide); have z3 := lv_neT e3 (show (3 : Int32).toInt = 3 by decide); have z4 := lv_neT e4 (show (4 : Int32).toInt = 4 by decide); omega) (by decide) ?_
                refine v_aload_n (pc := 169) C 2 rfl dX6_mark_169 ?_
                refine v_dup (pc := 170) C dX6_mark_170 rfl ?_
                refine g6_trace (pc := 171) C mw_930 dX6_mark_171 ?_
                refine v_ldc2 (pc := 174) C mw_935 dX6_mark_174 ?_
                refine v_ladd (pc := 177) C dX6_mark_177 ?_
                refine p6_trace (pc := 178) C mw_930 dX6_mark_178 ?_
                refine r_ltm (fun q14 => ?_)
                refine v_iload_n (pc := 181) C 1 rfl dX6_mark_181 ?_
                refine v_iconst (pc := 182) C 5 dX6_mark_182 (by decide) ?_
                refine v_aload_n (pc := 183) C 2 rfl dX6_mark_183 ?_
                refine v_iload_n (pc := 184) C 4 rfl dX6_mark_184 ?_
                refine v_iconst (pc := 185) C 4 dX6_mark_185 (by decide) ?_
                refine cIv2r (pc := 186) C (fun r9 h9 => m6_of G K.2.1 a2 4 q14 r9 h9) q_yX6_of mw_376 rc_6 ⟨by decide, by decide⟩ (Nat.le_of_ble_eq_true rfl) dX6_mark_186 (fun x15 => ?_)
                refine v_imul (pc := 189) C dX6_mark_189 ?_
                refine v_iadd (pc := 190) C dX6_mark_190 ?_
                exact tp_out (fun h => hret _ _ _ _ ⟨(Prod.mk.inj h).1, congrArg (wM G) (Prod.mk.inj h).2⟩ dX6_mark_191)
def f6_copy (a1 : Int32) (a2 : Int32) (s0 : SS) : Option SS := gd (inb a1 3) (gd (inb a2 3) (lt (sI s0 16 (Int32.toNatClampNeg a2) (s0.1 16 a1.toNatClampNeg)) (fun q1 => gd (inb a1 3) (gd (inb a2 3) (lt (sI q1 17 (Int32.toNatClampNeg a2) (q1.1 17 a1.toNatClampNeg)) (fun q2 => gd (inb a1 3) (gd (inb a2 3) (lt (sI q2 18 (Int32.toNatClampNeg a2) (q2.1 18 a1.toNatClampNeg)) (fun q3 => gd (inb a1 3) (gd (inb a2 3) (lt (sI q3 19 (Int32.toNatClampNeg a2) (q3.1 19 a1.toNatClampNeg)) (fun q4 => gd (inb a1 3) (gd (inb a2 3) (lt (sI q4 20 (Int32.toNatClampNeg a2) (q4.1 20 a1.toNatClampNeg)) (fun q5 => gd (inb a1 3) (gd (inb a2 3) (lt (sI q5 21 (Int32.toNatClampNeg a2) (q5.1 21 a1.toNatClampNeg)) (fun q6 => gd (inb a1 3) (gd (inb a2 3) (lt (sI q6 22 (Int32.toNatClampNeg a2) (q6.1 22 a1.toNatClampNeg)) (fun q7 => gd (inb a1 3) (gd (inb a2 3) (lt (sI q7 7 (Int32.toNatClampNeg a2) (q7.1 7 a1.toNatClampNeg)) (fun q8 => some q8))))))))))))))))))))))))
set_option maxHeartbeats 4000000 in
set_option maxRecDepth 100000 in
theorem m6_copy (G : GT) (l : Launch) (a1 : Int32) (a2 : Int32)  (s0 : SS) (s1 : SS) (hf : f6_copy a1 a2 s0 = some s1) : MV G l yX6_copy cX6_copy 3 none 0 0 [.ref (aM G 0), .int a1, .int a2] (wM G s0) (wM G s1) := by
  refine MV.start (by decide +kernel) (Nat.le_of_ble_eq_true rfl) (fun K hl C hret => ?_)
  subst hl
  have C : Ctx G K cX6_copy RX6 3 0 0 := C
  change V G K (wM G s0) 0 [(0, .ref (aM G 0)), (1, .int a1), (2, .int a2)] []
  refine (?_ : tp (f6_copy a1 a2 s0) (fun q => q = s1) → _) ⟨_, hf, rfl⟩
  rw [f6_copy]
  refine v_aload_n (pc := 0) C 0 rfl dX6_copy_0 ?_
  refine g6_who (pc := 1) C mw_115 dX6_copy_1 ?_
  refine v_iload_n (pc := 4) C 2 rfl dX6_copy_4 ?_
  refine v_aload_n (pc := 5) C 0 rfl dX6_copy_5 ?_
  refine g6_who (pc := 6) C mw_115 dX6_copy_6 ?_
  refine v_iload_n (pc := 9) C 1 rfl dX6_copy_9 ?_
  refine v_iald (pc := 10) C _ am_16 dX6_copy_10 ?_
  refine v_iast (pc := 11) C _ am_16 (at_16 _ _) dX6_copy_11 ?_
  refine r_ltm (fun q1 => ?_)
  refine v_aload_n (pc := 12) C 0 rfl dX6_copy_12 ?_
  refine g6_where (pc := 13) C mw_116 dX6_copy_13 ?_
  refine v_iload_n (pc := 16) C 2 rfl dX6_copy_16 ?_
  refine v_aload_n (pc := 17) C 0 rfl dX6_copy_17 ?_
  refine g6_where (pc := 18) C mw_116 dX6_copy_18 ?_
  refine v_iload_n (pc := 21) C 1 rfl dX6_copy_21 ?_
  refine v_iald (pc := 22) C _ am_17 dX6_copy_22 ?_
  refine v_iast (pc := 23) C _ am_17 (at_17 _ _) dX6_copy_23 ?_
  refine r_ltm (fun q2 => ?_)
  refine v_aload_n (pc := 24) C 0 rfl dX6_copy_24 ?_
  refine g6_hurt (pc := 25) C mw_117 dX6_copy_25 ?_
  refine v_iload_n (pc := 28) C 2 rfl dX6_copy_28 ?_
  refine v_aload_n (pc := 29) C 0 rfl dX6_copy_29 ?_
  refine g6_hurt (pc := 30) C mw_117 dX6_copy_30 ?_
  refine v_iload_n (pc := 33) C 1 rfl dX6_copy_33 ?_
  refine v_iald (pc := 34) C _ am_18 dX6_copy_34 ?_
  refine v_iast (pc := 35) C _ am_18 (at_18 _ _) dX6_copy_35 ?_
  refine r_ltm (fun q3 => ?_)
  refine v_aload_n (pc := 36) C 0 rfl dX6_copy_36 ?_
  refine g6_tops (pc := 37) C mw_118 dX6_copy_37 ?_
  refine v_iload_n (pc := 40) C 2 rfl dX6_copy_40 ?_
  refine v_aload_n (pc := 41) C 0 rfl dX6_copy_41 ?_
  refine g6_tops (pc := 42) C mw_118 dX6_copy_42 ?_
  refine v_iload_n (pc := 45) C 1 rfl dX6_copy_45 ?_
  refine v_iald (pc := 46) C _ am_19 dX6_copy_46 ?_
  refine v_iast (pc := 47) C _ am_19 (at_19 _ _) dX6_copy_47 ?_
  refine r_ltm (fun q4 => ?_)
  refine v_aload_n (pc := 48) C 0 rfl dX6_copy_48 ?_
  refine g6_held (pc := 49) C mw_119 dX6_copy_49 ?_
  refine v_iload_n (pc := 52) C 2 rfl dX6_copy_52 ?_
  refine v_aload_n (pc := 53) C 0 rfl dX6_copy_53 ?_
  refine g6_held (pc := 54) C mw_119 dX6_copy_54 ?_
  refine v_iload_n (pc := 57) C 1 rfl dX6_copy_57 ?_
  refine v_iald (pc := 58) C _ am_20 dX6_copy_58 ?_
  refine v_iast (pc := 59) C _ am_20 (at_20 _ _) dX6_copy_59 ?_
  refine r_ltm (fun q5 => ?_)
  refine v_aload_n (pc := 60) C 0 rfl dX6_copy_60 ?_
  refine g6_falls (pc := 61) C mw_120 dX6_copy_61 ?_
  refine v_iload_n (pc := 64) C 2 rfl dX6_copy_64 ?_
  refine v_aload_n (pc := 65) C 0 rfl dX6_copy_65 ?_
  refine g6_falls (pc := 66) C mw_120 dX6_copy_66 ?_
  refine v_iload_n (pc := 69) C 1 rfl dX6_copy_69 ?_
  refine v_iald (pc := 70) C _ am_21 dX6_copy_70 ?_
  refine v_iast (pc := 71) C _ am_21 (at_21 _ _) dX6_copy_71 ?_
  refine r_ltm (fun q6 => ?_)
  refine v_aload_n (pc := 72) C 0 rfl dX6_copy_72 ?_
  refine g6_lots (pc := 73) C mw_121 dX6_copy_73 ?_
  refine v_iload_n (pc := 76) C 2 rfl dX6_copy_76 ?_
  refine v_aload_n (pc := 77) C 0 rfl dX6_copy_77 ?_
  refine g6_lots (pc := 78) C mw_121 dX6_copy_78 ?_
  refine v_iload_n (pc := 81) C 1 rfl dX6_copy_81 ?_
  refine v_iald (pc := 82) C _ am_22 dX6_copy_82 ?_
  refine v_iast (pc := 83) C _ am_22 (at_22 _ _) dX6_copy_83 ?_
  refine r_ltm (fun q7 => ?_)
  refine v_aload_n (pc := 84) C 0 rfl dX6_copy_84 ?_
  refine g6_sawnOnes (pc := 85) C mw_106 dX6_copy_85 ?_
  refine v_iload_n (pc := 88) C 2 rfl dX6_copy_88 ?_
  refine v_aload_n (pc := 89) C 0 rfl dX6_copy_89 ?_
  refine g6_sawnOnes (pc := 90) C mw_106 dX6_copy_90 ?_
  refine v_iload_n (pc := 93) C 1 rfl dX6_copy_93 ?_
  refine v_iald (pc := 94) C _ am_7 dX6_copy_94 ?_
  refine v_iast (pc := 95) C _ am_7 (at_7 _ _) dX6_copy_95 ?_
  refine r_ltm (fun q8 => ?_)
  exact tp_out (fun h => hret _ _ _ (congrArg (wM G) h) dX6_copy_96)
def f6_keep (a1 : Int32) (s0 : SS) : Option (Int32 × SS) := bd (f6_in a1 0 1) (fun x1 => if x1 = 0 then some ((-1), s0) else bd (f6_copy 0 (1 + a1) s0) (fun q2 => gd (inb a1 2) (lt (sI q2 23 (Int32.toNatClampNeg a1) (vp_nar .boolean 1)) (fun q3 => gd (inb 0 3) (some ((q3.1 18 (0 : Int32).toNatClampNeg), q3))))))
set_option maxHeartbeats 4000000 in
set_option maxRecDepth 100000 in
theorem m6_keep (G : GT) (l : Launch) (a1 : Int32)  (s0 : SS) (r : Int32) (s1 : SS) (hf : f6_keep a1 s0 = some (r, s1)) : MI G l yX6_keep cX6_keep 2 (some .int) 1 22 [.ref (aM G 0), .int a1] (wM G s0) r (wM G s1) := by
  refine MI.start (by decide +kernel) (Nat.le_of_ble_eq_true rfl) (fun K hl C hret => ?_)
  subst hl
  have C : Ctx G K cX6_keep RX6 2 1 22 := C
  change V G K (wM G s0) 0 [(0, .ref (aM G 0)), (1, .int a1)] []
  refine (?_ : tp (f6_keep a1 s0) (fun q => q = (r, s1)) → _) ⟨_, hf, rfl⟩
  rw [f6_keep]
  refine v_iload_n (pc := 0) C 1 rfl dX6_keep_0 ?_
  refine v_iconst (pc := 1) C 0 dX6_keep_1 (by decide) ?_
  refine v_iconst (pc := 2) C 1 dX6_keep_2 (by decide) ?_
  refine cIs3r (pc := 3) C (fun r9 h9 => m6_in G K.2.1 a1 0 1 _ r9 h9) q_yX6_in mw_139 ⟨by decide, by decide⟩ (Nat.le_of_ble_eq_true rfl) dX6_keep_3 (fun x1 => ?_)
  refine v_if_ne (pc := 6) C 11 dX6_keep_6 (by decide) ?_ ?_
  · refine v_iconst (pc := 9) C (-1) dX6_keep_9 (by decide) ?_
    exact tp_out (fun h => hret _ _ _ _ ⟨(Prod.mk.inj h).1, congrArg (wM G) (Prod.mk.inj h).2⟩ dX6_keep_10)
  · refine v_aload_n (pc := 11) C 0 rfl dX6_keep_11 ?_
    refine v_iconst (pc := 12) C 0 dX6_keep_12 (by decide) ?_
    refine v_iconst (pc := 13) C 1 dX6_keep_13 (by decide) ?_
    refine v_iload_n (pc := 14) C 1 rfl dX6_keep_14 ?_
    refine v_iadd (pc := 15) C dX6_keep_15 ?_
    refine cVv2w (pc := 16) C (W2 := wM G) (fun s9 h9 => m6_copy G K.2.1 0 (1 + a1) s0 s9 h9) q_yX6_copy mw_948 rc_6 ⟨by decide, by decide⟩ (Nat.le_of_ble_eq_true rfl) dX6_keep_16 (fun q2 => ?_)
    refine v_aload_n (pc := 19) C 0 rfl dX6_keep_19 ?_
    refine g6_isKept (pc := 20) C mw_123 dX6_keep_20 ?_
    refine v_iload_n (pc := 23) C 1 rfl dX6_keep_23 ?_
    refine v_iconst (pc := 24) C 1 dX6_keep_24 (by decide) ?_
    refine v_zast (pc := 25) C _ am_23 (at_23 _ _) dX6_keep_25 ?_
    refine r_ltm (fun q3 => ?_)
    refine v_aload_n (pc := 26) C 0 rfl dX6_keep_26 ?_
    refine g6_hurt (pc := 27) C mw_117 dX6_keep_27 ?_
    refine v_iconst (pc := 30) C 0 dX6_keep_30 (by decide) ?_
    refine v_iald (pc := 31) C _ am_18 dX6_keep_31 ?_
    exact tp_out (fun h => hret _ _ _ _ ⟨(Prod.mk.inj h).1, congrArg (wM G) (Prod.mk.inj h).2⟩ dX6_keep_32)
def f6_back (a1 : Int32) (s0 : SS) : Option (Int32 × SS) := bd (f6_in a1 0 1) (fun x1 => if x1 = 0 then some ((-1), s0) else gd (inb a1 2) (if (s0.1 23 a1.toNatClampNeg) = 0 then some ((-2), s0) else bd (f6_copy (1 + a1) 0 s0) (fun q2 => gd (inb 0 3) (some ((q2.1 18 (0 : Int32).toNatClampNeg), q2)))))
set_option maxHeartbeats 4000000 in
set_option maxRecDepth 100000 in
theorem m6_back (G : GT) (l : Launch) (a1 : Int32)  (s0 : SS) (r : Int32) (s1 : SS) (hf : f6_back a1 s0 = some (r, s1)) : MI G l yX6_back cX6_back 2 (some .int) 1 22 [.ref (aM G 0), .int a1] (wM G s0) r (wM G s1) := by
  refine MI.start (by decide +kernel) (Nat.le_of_ble_eq_true rfl) (fun K hl C hret => ?_)
  subst hl
  have C : Ctx G K cX6_back RX6 2 1 22 := C
  change V G K (wM G s0) 0 [(0, .ref (aM G 0)), (1, .int a1)] []
  refine (?_ : tp (f6_back a1 s0) (fun q => q = (r, s1)) → _) ⟨_, hf, rfl⟩
  rw [f6_back]
  refine v_iload_n (pc := 0) C 1 rfl dX6_back_0 ?_
  refine v_iconst (pc := 1) C 0 dX6_back_1 (by decide) ?_
  refine v_iconst (pc := 2) C 1 dX6_back_2 (by decide) ?_
  refine cIs3r (pc := 3) C (fun r9 h9 => m6_in G K.2.1 a1 0 1 _ r9 h9) q_yX6_in mw_139 ⟨by decide, by decide⟩ (Nat.le_of_ble_eq_true rfl) dX6_back_3 (fun x1 => ?_)
  refine v_if_ne (pc := 6) C 11 dX6_back_6 (by decide) ?_ ?_
  · refine v_iconst (pc := 9) C (-1) dX6_back_9 (by decide) ?_
    exact tp_out (fun h => hret _ _ _ _ ⟨(Prod.mk.inj h).1, congrArg (wM G) (Prod.mk.inj h).2⟩ dX6_back_10)
  · refine v_aload_n (pc := 11) C 0 rfl dX6_back_11 ?_
    refine g6_isKept (pc := 12) C mw_123 dX6_back_12 ?_
    refine v_iload_n (pc := 15) C 1 rfl dX6_back_15 ?_
    refine v_zald (pc := 16) C _ am_23 dX6_back_16 ?_
    refine v_if_ne (pc := 17) C 23 dX6_back_17 (by decide) ?_ ?_
    · refine v_bipush (pc := 20) C (-2) dX6_back_20 (by decide) ?_
      exact tp_out (fun h => hret _ _ _ _ ⟨(Prod.mk.inj h).1, congrArg (wM G) (Prod.mk.inj h).2⟩ dX6_back_22)
    · refine v_aload_n (pc := 23) C 0 rfl dX6_back_23 ?_
      refine v_iconst (pc := 24) C 1 dX6_back_24 (by decide) ?_
      refine v_iload_n (pc := 25) C 1 rfl dX6_back_25 ?_
      refine v_iadd (pc := 26) C dX6_back_26 ?_
      refine v_iconst (pc := 27) C 0 dX6_back_27 (by decide) ?_
      refine cVv2w (pc := 28) C (W2 := wM G) (fun s9 h9 => m6_copy G K.2.1 (1 + a1) 0 s0 s9 h9) q_yX6_copy mw_948 rc_6 ⟨by decide, by decide⟩ (Nat.le_of_ble_eq_true rfl) dX6_back_28 (fun q2 => ?_)
      refine v_aload_n (pc := 31) C 0 rfl dX6_back_31 ?_
      refine g6_hurt (pc := 32) C mw_117 dX6_back_32 ?_
      refine v_iconst (pc := 35) C 0 dX6_back_35 (by decide) ?_
      refine v_iald (pc := 36) C _ am_18 dX6_back_36 ?_
      exact tp_out (fun h => hret _ _ _ _ ⟨(Prod.mk.inj h).1, congrArg (wM G) (Prod.mk.inj h).2⟩ dX6_back_37)
def f6_count (a1 : Int32) (s0 : SS) : Option Int32 := if a1 = 0 then gd (inb 0 2) (some (s0.1 2 (0 : Int32).toNatClampNeg)) else (if a1 = 1 then gd (inb 0 2) (some (s0.1 4 (0 : Int32).toNatClampNeg)) else (if a1 = 2 then some (s0.1 0 24) else (if a1 = 3 then gd (inb 0 3) (bd (f6_bitsIn (s0.1 7 (0 : Int32).toNatClampNeg)) (fun x1 => some x1)) else (if a1 = 4 then some (s0.1 0 2) else (some (-1))))))
set_option maxHeartbeats 4000000 in
set_option maxRecDepth 100000 in
theorem m6_count (G : GT) (l : Launch) (a1 : Int32)  (s0 : SS) (r : Int32) (hf : f6_count a1 s0 = some r) : MI G l yX6_count cX6_count 2 (some .int) 1 22 [.ref (aM G 0), .int a1] (wM G s0) r (wM G s0) := by
  refine MI.start (by decide +kernel) (Nat.le_of_ble_eq_true rfl) (fun K hl C hret => ?_)
  subst hl
  have C : Ctx G K cX6_count RX6 2 1 22 := C
  change V G K (wM G s0) 0 [(0, .ref (aM G 0)), (1, .int a1)] []
  refine (?_ : tp (f6_count a1 s0) (fun q => q = r) → _) ⟨_, hf, rfl⟩
  rw [f6_count]
  refine v_iload_n (pc := 0) C 1 rfl dX6_count_0 ?_
  refine r_if (fun e0 => ?_) (fun e0 => ?_)
  · refine v_tableIn (pc := 1) C 36 dX6_count_1 (by rw [e0]; decide) (by rw [e0]; decide) (off := 35) (by rw [e0]; rfl) (by decide) ?_
    refine v_aload_n (pc := 36) C 0 rfl dX6_count_36 ?_
    refine g6_branches (pc := 37) C mw_101 dX6_count_37 ?_
    refine v_iconst (pc := 40) C 0 dX6_count_40 (by decide) ?_
    refine v_iald (pc := 41) C _ am_2 dX6_count_41 ?_
    exact tp_out (fun h => hret _ _ _ _ ⟨h, rfl⟩ dX6_count_42)
  · skip
    refine r_if (fun e1 => ?_) (fun e1 => ?_)
    · refine v_tableIn (pc := 1) C 43 dX6_count_1 (by rw [e1]; decide) (by rw [e1]; decide) (off := 42) (by rw [e1]; rfl) (by decide) ?_
      refine v_aload_n (pc := 43) C 0 rfl dX6_count_43 ?_
      refine g6_bodies (pc := 44) C mw_103 dX6_count_44 ?_
      refine v_iconst (pc := 47) C 0 dX6_count_47 (by decide) ?_
      refine v_iald (pc := 48) C _ am_4 dX6_count_48 ?_
      exact tp_out (fun h => hret _ _ _ _ ⟨h, rfl⟩ dX6_count_49)
    · skip
      refine r_if (fun e2 => ?_) (fun e2 => ?_)
      · refine v_tableIn (pc := 1) C 50 dX6_count_1 (by rw [e2]; decide) (by rw [e2]; decide) (off := 49) (by rw [e2]; rfl) (by decide) ?_
        refine v_aload_n (pc := 50) C 0 rfl dX6_count_50 ?_
        refine g6_afternoons (pc := 51) C mw_314 dX6_count_51 ?_
        exact tp_out (fun h => hret _ _ _ _ ⟨h, rfl⟩ dX6_count_54)
      · skip
        refine r_if (fun e3 => ?_) (fun e3 => ?_)
        · refine v_tableIn (pc := 1) C 55 dX6_count_1 (by rw [e3]; decide) (by rw [e3]; decide) (off := 54) (by rw [e3]; rfl) (by decide) ?_
          refine v_aload_n (pc := 55) C 0 rfl dX6_count_55 ?_
          refine g6_sawnOnes (pc := 56) C mw_106 dX6_count_56 ?_
          refine v_iconst (pc := 59) C 0 dX6_count_59 (by decide) ?_
          refine v_iald (pc := 60) C _ am_7 dX6_count_60 ?_
          refine cIs1r (pc := 61) C (fun r9 h9 => m6_bitsIn G K.2.1 (s0.1 7 (0 : Int32).toNatClampNeg) _ r9 h9) q_yX6_bitsIn mw_788 ⟨by decide, by decide⟩ (Nat.le_of_ble_eq_true rfl) dX6_count_61 (fun x1 => ?_)
          exact tp_out (fun h => hret _ _ _ _ ⟨h, rfl⟩ dX6_count_64)
        · skip
          refine r_if (fun e4 => ?_) (fun e4 => ?_)
          · refine v_tableIn (pc := 1) C 65 dX6_count_1 (by rw [e4]; decide) (by rw [e4]; decide) (off := 64) (by rw [e4]; rfl) (by decide) ?_
            refine v_aload_n (pc := 65) C 0 rfl dX6_count_65 ?_
            refine g6_typed (pc := 66) C mw_137 dX6_count_66 ?_
            exact tp_out (fun h => hret _ _ _ _ ⟨h, rfl⟩ dX6_count_69)
          · skip
            refine v_tableOut (pc := 1) C 70 dX6_count_1 (by have z0 := lv_neT e0 (show (0 : Int32).toInt = 0 by decide); have z1 := lv_neT e1 (show (1 : Int32).toInt = 1 by decide); have z2 := lv_neT e2 (show (2 : Int32).toInt = 2 by decide); have z3 := lv_neT e3 (show (3 : Int32).toInt = 3 by decide); have z4 := lv_neT e4 (show (4 : Int32).toInt = 4 by decide); omega) (by decide) ?_
            refine v_iconst (pc := 70) C (-1) dX6_count_70 (by decide) ?_
            exact tp_out (fun h => hret _ _ _ _ ⟨h, rfl⟩ dX6_count_71)
def f6_trace  (s0 : SS) : Option Int64 := some (s0.2.1 0 0)
set_option maxHeartbeats 4000000 in
set_option maxRecDepth 100000 in
theorem m6_trace (G : GT) (l : Launch)   (s0 : SS) (r : Int64) (hf : f6_trace s0 = some r) : ML G l yX6_trace cX6_trace 1 (some .long) 0 0 [.ref (aM G 0)] (wM G s0) r (wM G s0) := by
  refine ML.start (by decide +kernel) (Nat.le_of_ble_eq_true rfl) (fun K hl C hret => ?_)
  subst hl
  have C : Ctx G K cX6_trace RX6 1 0 0 := C
  change V G K (wM G s0) 0 [(0, .ref (aM G 0))] []
  refine (?_ : tp (f6_trace s0) (fun q => q = r) → _) ⟨_, hf, rfl⟩
  rw [f6_trace]
  refine v_aload_n (pc := 0) C 0 rfl dX6_trace_0 ?_
  refine g6_trace (pc := 1) C mw_930 dX6_trace_1 ?_
  exact tp_out (fun h => hret _ _ _ _ ⟨h, rfl⟩ dX6_trace_4)
