def L3_weigh_2 (c1 : Int32) : Nat → Int32 → SS → Option (SS)
  | 0, _, _ => none
  | n + 1, v2, s => if v2 < 13 then lt (fun (x3 : Int64) => gd (inb v2 13) (lt (sL s (bB (s.2.2 2)) (Int32.toNatClampNeg v2) x3) (fun q4 => gd (inb v2 13) (gd (inb v2 13) (lt (sL q4 8 (Int32.toNatClampNeg v2) (q4.2.1 (bB (q4.2.2 2)) v2.toNatClampNeg)) (fun q5 => gd (inb v2 13) (lt (sI q5 7 (Int32.toNatClampNeg v2) 0) (fun q6 => lt (v2 + 1) (fun x7 => L3_weigh_2 c1 n x7 q6))))))))) (fun j1 => if v2 = c1 then j1 1000000000000 else j1 0) else some s
def L3_weigh_61 (c2 : Int32) : Nat → Int32 → SS → Option (SS)
  | 0, _, _ => none
  | n + 1, v3, s => if v3 < 13 then bd (f3_bestInto v3 s) (fun x9 => gd (inb v3 13) (lt (sL s (bB (s.2.2 3)) (Int32.toNatClampNeg v3) x9) (fun q10 => gd (inb v3 13) (gd (inb v3 13) (if (q10.2.1 (bB (q10.2.2 3)) v3.toNatClampNeg) ≤ (q10.2.1 8 v3.toNatClampNeg) then lt (v3 + 1) (fun x11 => L3_weigh_61 c2 n x11 q10) else gd (inb v3 13) (gd (inb v3 13) (lt (sL q10 8 (Int32.toNatClampNeg v3) (q10.2.1 (bB (q10.2.2 3)) v3.toNatClampNeg)) (fun q12 => gd (inb v3 13) (lt (sI q12 7 (Int32.toNatClampNeg v3) c2) (fun q13 => lt (v3 + 1) (fun x14 => L3_weigh_61 c2 n x14 q13))))))))))) else some s
def L3_weigh_53 : Nat → Int32 → SS → Option (SS)
  | 0, _, _ => none
  | n + 1, v2, s => if v2 < 13 then bk1 (L3_weigh_61 v2 FU 0 s) (fun q15 => lt (sB q15 2 (q15.2.2 3)) (fun q16 => lt (sB q16 3 (q15.2.2 2)) (fun q17 => lt (v2 + 1) (fun x18 => L3_weigh_53 n x18 q17)))) else some s
def f3_weigh (a1 : Int32) (s0 : SS) : Option SS := bk1 (L3_weigh_2 a1 FU 0 s0) (fun q8 => bk1 (L3_weigh_53 FU 1 q8) (fun q19 => some q19))
set_option maxHeartbeats 4000000 in
set_option maxRecDepth 100000 in
theorem l3_weigh_2 {G : GT} {K : KT} (C : Ctx G K cX3_weigh RX3 4 2 47) (c1 : Int32) {Ψ : SS → Prop} (hx : ∀ (so : SS), Ψ so → V G K (wX G so) 51 [(0, .ref (aX G 4))] []) : ∀ (n : Nat) (v2 : Int32) (s : SS), tp (L3_weigh_2 c1 n v2 s) (k1 Ψ) → V G K (wX G s) 2 [(0, .ref (aX G 4)), (1, .int c1), (2, .int v2)] [] := by
  intro n
  induction n with
  | zero => intro v2 s h; exact tp_no h
  | succ n ih =>
    intro v2 s
    rw [L3_weigh_2]
    refine v_iload_n (pc := 2) C 2 rfl dX3_weigh_2 ?_
    refine v_bipush (pc := 3) C 13 dX3_weigh_3 (by decide) ?_
    refine v_icmp_ge (pc := 5) C 51 dX3_weigh_5 (by decide) ?_ ?_
    · refine v_aload_n (pc := 8) C 0 rfl dX3_weigh_8 ?_
      refine g3_before (pc := 9) C mw_64 dX3_weigh_9 ?_
      refine v_iload_n (pc := 12) C 2 rfl dX3_weigh_12 ?_
      refine v_iload_n (pc := 13) C 2 rfl dX3_weigh_13 ?_
      refine v_iload_n (pc := 14) C 1 rfl dX3_weigh_14 ?_
      refine r_lJ (fun Φ0 j1 => ∀ (x3 : Int64), tp (j1 x3) Φ0 → V G K (wX G s) 25 [(0, .ref (aX G 4)), (1, .int c1), (2, .int v2)] [.long x3, .int v2, .ref (aX G (bB (s.2.2 2)))]) (fun x3 => ?_) (fun j1 hj2 => ?_)
      · refine v_last (pc := 25) C _ (ax_bB (s.2.2 2)) (as_bB (s.2.2 2) _ _) dX3_weigh_25 ?_
        refine r_ltx (fun q4 => ?_)
        refine v_aload_n (pc := 26) C 0 rfl dX3_weigh_26 ?_
        refine g3_odds (pc := 27) C mw_62 dX3_weigh_27 ?_
        refine v_iload_n (pc := 30) C 2 rfl dX3_weigh_30 ?_
        refine v_aload_n (pc := 31) C 0 rfl dX3_weigh_31 ?_
        refine g3_before (pc := 32) C mw_64 dX3_weigh_32 ?_
        refine v_iload_n (pc := 35) C 2 rfl dX3_weigh_35 ?_
        refine v_lald (pc := 36) C _ (ax_bB (q4.2.2 2)) dX3_weigh_36 ?_
        refine v_last (pc := 37) C _ ax_8 (as_8 _ _) dX3_weigh_37 ?_
        refine r_ltx (fun q5 => ?_)
        refine v_aload_n (pc := 38) C 0 rfl dX3_weigh_38 ?_
        refine g3_steps (pc := 39) C mw_60 dX3_weigh_39 ?_
        refine v_iload_n (pc := 42) C 2 rfl dX3_weigh_42 ?_
        refine v_iconst (pc := 43) C 0 dX3_weigh_43 (by decide) ?_
        refine v_iast (pc := 44) C _ ax_7 (as_7 _ _) dX3_weigh_44 ?_
        refine r_ltx (fun q6 => ?_)
        refine v_iincL (pc := 45) C 1 2 dX3_weigh_45 rfl (by decide) (by decide) (lv0 := [(0, .ref (aX G 4)), (1, .int c1)]) rfl (fun x7 => ?_)
        refine v_goto (pc := 48) C 2 dX3_weigh_48 (by decide) ?_
        exact v_to [1, 2, 0] (ih _ _) rfl
      refine v_icmp_ne (pc := 15) C 24 dX3_weigh_15 (by decide) ?_ ?_
      · refine v_ldc2 (pc := 18) C mw_531 dX3_weigh_18 ?_
        refine v_goto (pc := 21) C 25 dX3_weigh_21 (by decide) ?_
        exact v_to [0, 1, 2] (hj2 _) rfl
      · refine v_lconst (pc := 24) C 0 dX3_weigh_24 (by decide) ?_
        exact v_to [0, 1, 2] (hj2 _) rfl
    · exact tp_out (fun h => v_to [0] (hx _) rfl h)
set_option maxHeartbeats 4000000 in
set_option maxRecDepth 100000 in
theorem l3_weigh_61 {G : GT} {K : KT} (C : Ctx G K cX3_weigh RX3 4 2 47) (c2 : Int32) {Ψ : SS → Prop} (hx : ∀ (so : SS), Ψ so → V G K (wX G so) 119 [(0, .ref (aX G 4)), (2, .int c2)] []) : ∀ (n : Nat) (v3 : Int32) (s : SS), tp (L3_weigh_61 c2 n v3 s) (k1 Ψ) → V G K (wX G s) 61 [(0, .ref (aX G 4)), (2, .int c2), (3, .int v3)] [] := by
  intro n
  induction n with
  | zero => intro v3 s h; exact tp_no h
  | succ n ih =>
    intro v3 s
    rw [L3_weigh_61]
    refine v_iload_n (pc := 61) C 2 rfl dX3_weigh_61 ?_
    refine v_bipush (pc := 62) C 13 dX3_weigh_62 (by decide) ?_
    refine v_icmp_ge (pc := 64) C 119 dX3_weigh_64 (by decide) ?_ ?_
    · refine v_aload_n (pc := 67) C 0 rfl dX3_weigh_67 ?_
      refine g3_after (pc := 68) C mw_65 dX3_weigh_68 ?_
      refine v_iload_n (pc := 71) C 2 rfl dX3_weigh_71 ?_
      refine v_aload_n (pc := 72) C 0 rfl dX3_weigh_72 ?_
      refine v_iload_n (pc := 73) C 2 rfl dX3_weigh_73 ?_
      refine cLv1r (pc := 74) C (fun r9 h9 => m3_bestInto G K.2.1 v3 s r9 h9) q_yX3_bestInto mw_532 rc_3 ⟨by decide, by decide⟩ (Nat.le_of_ble_eq_true rfl) dX3_weigh_74 (fun x9 => ?_)
      refine v_last (pc := 77) C _ (ax_bB (s.2.2 3)) (as_bB (s.2.2 3) _ _) dX3_weigh_77 ?_
      refine r_ltx (fun q10 => ?_)
      refine v_aload_n (pc := 78) C 0 rfl dX3_weigh_78 ?_
      refine g3_after (pc := 79) C mw_65 dX3_weigh_79 ?_
      refine v_iload_n (pc := 82) C 2 rfl dX3_weigh_82 ?_
      refine v_lald (pc := 83) C _ (ax_bB (q10.2.2 3)) dX3_weigh_83 ?_
      refine v_aload_n (pc := 84) C 0 rfl dX3_weigh_84 ?_
      refine g3_odds (pc := 85) C mw_62 dX3_weigh_85 ?_
      refine v_iload_n (pc := 88) C 2 rfl dX3_weigh_88 ?_
      refine v_lald (pc := 89) C _ ax_8 dX3_weigh_89 ?_
      refine v_lcmp_le (pc := 90) C 113 dX3_weigh_90 dX3_weigh_91 (by decide) ?_ ?_
      · refine v_iincL (pc := 113) C 1 2 dX3_weigh_113 rfl (by decide) (by decide) (lv0 := [(0, .ref (aX G 4)), (2, .int c2)]) rfl (fun x11 => ?_)
        refine v_goto (pc := 116) C 61 dX3_weigh_116 (by decide) ?_
        exact v_to [1, 2, 0] (ih _ _) rfl
      · refine v_aload_n (pc := 94) C 0 rfl dX3_weigh_94 ?_
        refine g3_odds (pc := 95) C mw_62 dX3_weigh_95 ?_
        refine v_iload_n (pc := 98) C 2 rfl dX3_weigh_98 ?_
        refine v_aload_n (pc := 99) C 0 rfl dX3_weigh_99 ?_
        refine g3_after (pc := 100) C mw_65 dX3_weigh_100 ?_
        refine v_iload_n (pc := 103) C 2 rfl dX3_weigh_103 ?_
        refine v_lald (pc := 104) C _ (ax_bB (q10.2.2 3)) dX3_weigh_104 ?_
        refine v_last (pc := 105) C _ ax_8 (as_8 _ _) dX3_weigh_105 ?_
        refine r_ltx (fun q12 => ?_)
        refine v_aload_n (pc := 106) C 0 rfl dX3_weigh_106 ?_
        refine g3_steps (pc := 107) C mw_60 dX3_weigh_107 ?_
        refine v_iload_n (pc := 110) C 2 rfl dX3_weigh_110 ?_
        refine v_iload_n (pc := 111) C 1 rfl dX3_weigh_111 ?_
        refine v_iast (pc := 112) C _ ax_7 (as_7 _ _) dX3_weigh_112 ?_
        refine r_ltx (fun q13 => ?_)
        refine v_iincL (pc := 113) C 1 2 dX3_weigh_113 rfl (by decide) (by decide) (lv0 := [(0, .ref (aX G 4)), (2, .int c2)]) rfl (fun x14 => ?_)
        refine v_goto (pc := 116) C 61 dX3_weigh_116 (by decide) ?_
        exact v_to [1, 2, 0] (ih _ _) rfl
    · exact tp_out (fun h => v_to [0, 1] (hx _) rfl h)
set_option maxHeartbeats 4000000 in
set_option maxRecDepth 100000 in
theorem l3_weigh_53 {G : GT} {K : KT} (C : Ctx G K cX3_weigh RX3 4 2 47) {Ψ : SS → Prop} (hx : ∀ (so : SS), Ψ so → V G K (wX G so) 143 [] []) : ∀ (n : Nat) (v2 : Int32) (s : SS), tp (L3_weigh_53 n v2 s) (k1 Ψ) → V G K (wX G s) 53 [(0, .ref (aX G 4)), (2, .int v2)] [] := by
  intro n
  induction n with
  | zero => intro v2 s h; exact tp_no h
  | succ n ih =>
    intro v2 s
    rw [L3_weigh_53]
    refine v_iload_n (pc := 53) C 1 rfl dX3_weigh_53 ?_
    refine v_bipush (pc := 54) C 13 dX3_weigh_54 (by decide) ?_
    refine v_icmp_ge (pc := 56) C 143 dX3_weigh_56 (by decide) ?_ ?_
    · refine v_iconst (pc := 59) C 0 dX3_weigh_59 (by decide) ?_
      refine v_istore_n (pc := 60) C dX3_weigh_60 (by decide) (lv' := [(3, .int 0), (0, .ref (aX G 4)), (2, .int v2)]) rfl ?_
      refine r_bk1 ?_
      refine v_to [1, 2, 0] (l3_weigh_61 C v2 (fun q15 => ?_) FU _ _) rfl
      refine v_aload_n (pc := 119) C 0 rfl dX3_weigh_119 ?_
      refine g3_before (pc := 120) C mw_64 dX3_weigh_120 ?_
      refine v_astore_n (pc := 123) C dX3_weigh_123 (by decide) (lv' := [(3, .ref (aX G (bB (q15.2.2 2)))), (0, .ref (aX G 4)), (2, .int v2)]) rfl ?_
      refine v_aload_n (pc := 124) C 1 rfl dX3_weigh_124 ?_
      refine v_aload_n (pc := 125) C 1 rfl dX3_weigh_125 ?_
      refine g3_after (pc := 126) C mw_65 dX3_weigh_126 ?_
      refine p3_before (pc := 129) C mw_64 dX3_weigh_129 ?_
      refine r_ltx (fun q16 => ?_)
      refine v_aload_n (pc := 132) C 1 rfl dX3_weigh_132 ?_
      refine v_aload_n (pc := 133) C 0 rfl dX3_weigh_133 ?_
      refine p3_after (pc := 134) C mw_65 dX3_weigh_134 ?_
      refine r_ltx (fun q17 => ?_)
      refine v_iincL (pc := 137) C 1 2 dX3_weigh_137 rfl (by decide) (by decide) (lv0 := [(3, .ref (aX G (bB (q15.2.2 2)))), (0, .ref (aX G 4))]) rfl (fun x18 => ?_)
      refine v_goto (pc := 140) C 53 dX3_weigh_140 (by decide) ?_
      exact v_to [2, 0] (ih _ _) rfl
    · exact tp_out (fun h => v_to [] (hx _) rfl h)
set_option maxHeartbeats 4000000 in
set_option maxRecDepth 100000 in
theorem m3_weigh (G : GT) (l : Launch) (a1 : Int32)  (s0 : SS) (s1 : SS) (hf : f3_weigh a1 s0 = some s1) : MV G l yX3_weigh cX3_weigh 4 none 2 47 [.ref (aX G 4), .int a1] (wX G s0) (wX G s1) := by
  refine MV.start (by decide +kernel) (Nat.le_of_ble_eq_true rfl) (fun K hl C hret => ?_)
  subst hl
  have C : Ctx G K cX3_weigh RX3 4 2 47 := C
  change V G K (wX G s0) 0 [(0, .ref (aX G 4)), (1, .int a1)] []
  refine (?_ : tp (f3_weigh a1 s0) (fun q => q = s1) → _) ⟨_, hf, rfl⟩
  rw [f3_weigh]
  refine v_iconst (pc := 0) C 0 dX3_weigh_0 (by decide) ?_
  refine v_istore_n (pc := 1) C dX3_weigh_1 (by decide) (lv' := [(2, .int 0), (0, .ref (aX G 4)), (1, .int a1)]) rfl ?_
  refine r_bk1 ?_
  refine v_to [1, 2, 0] (l3_weigh_2 C a1 (fun q8 => ?_) FU _ _) rfl
  refine v_iconst (pc := 51) C 1 dX3_weigh_51 (by decide) ?_
  refine v_istore_n (pc := 52) C dX3_weigh_52 (by decide) (lv' := [(2, .int 1), (0, .ref (aX G 4))]) rfl ?_
  refine r_bk1 ?_
  refine v_to [1, 0] (l3_weigh_53 C (fun q19 => ?_) FU _ _) rfl
  exact tp_out (fun h => hret _ _ _ (congrArg (wX G) h) dX3_weigh_143)
def f4_feature (w0 : Bool) (a1 : Int32) (a2 : Int32) (s0 : SS) : Option Int32 := lt (fun (_u : Unit) => some 0) (fun j1 => if a1 < 0 then j1 () else if a1 < 12 then if a2 < 0 then j1 () else if a2 < 6 then gd (inb a2 6) (gd (inb a1 12) (some (s0.1 (wB w0 + 2 + (Int32.toNatClampNeg a2)) a1.toNatClampNeg))) else j1 () else j1 ())
set_option maxHeartbeats 4000000 in
set_option maxRecDepth 100000 in
theorem m4_feature (G : GT) (l : Launch) (w0 : Bool) (a1 : Int32) (a2 : Int32)  (s0 : SS) (r : Int32) (hf : f4_feature w0 a1 a2 s0 = some r) : MI G l yX4_feature cX4_feature 3 (some .int) 0 0 [.ref (aX G (wB w0)), .int a1, .int a2] (wX G s0) r (wX G s0) := by
  refine MI.start (by decide +kernel) (Nat.le_of_ble_eq_true rfl) (fun K hl C hret => ?_)
  subst hl
  have C : Ctx G K cX4_feature RX4 3 0 0 := C
  change V G K (wX G s0) 0 [(0, .ref (aX G (wB w0))), (1, .int a1), (2, .int a2)] []
  refine (?_ : tp (f4_feature w0 a1 a2 s0) (fun q => q = r) → _) ⟨_, hf, rfl⟩
  rw [f4_feature]
  refine v_iload_n (pc := 0) C 1 rfl dX4_feature_0 ?_
  refine r_lJ (fun Φ0 j1 => ∀ (_u : Unit), tp (j1 ()) Φ0 → V G K (wX G s0) 31 [] []) (fun _u => ?_) (fun j1 hj2 => ?_)
  · refine v_iconst (pc := 31) C 0 dX4_feature_31 (by decide) ?_
    exact tp_out (fun h => hret _ _ _ _ ⟨h, rfl⟩ dX4_feature_32)
  refine v_if_lt (pc := 1) C 31 dX4_feature_1 (by decide) ?_ ?_
  · exact v_to [] (hj2 ()) rfl
  · refine v_iload_n (pc := 4) C 1 rfl dX4_feature_4 ?_
    refine v_bipush (pc := 5) C 12 dX4_feature_5 (by decide) ?_
    refine v_icmp_ge (pc := 7) C 31 dX4_feature_7 (by decide) ?_ ?_
    · refine v_iload_n (pc := 10) C 2 rfl dX4_feature_10 ?_
      refine v_if_lt (pc := 11) C 31 dX4_feature_11 (by decide) ?_ ?_
      · exact v_to [] (hj2 ()) rfl
      · refine v_iload_n (pc := 14) C 2 rfl dX4_feature_14 ?_
        refine v_bipush (pc := 15) C 6 dX4_feature_15 (by decide) ?_
        refine v_icmp_ge (pc := 17) C 31 dX4_feature_17 (by decide) ?_ ?_
        · refine v_aload_n (pc := 20) C 0 rfl dX4_feature_20 ?_
          refine g4_features w0 (pc := 21) C mw_91 dX4_feature_21 ?_
          refine v_iload_n (pc := 24) C 2 rfl dX4_feature_24 ?_
          refine v_aldA (pc := 25) C _ (ax_f2 w0) (fun h => if_pos h.2) dX4_feature_25 (fun hi3 => ?_)
          refine v_iload_n (pc := 26) C 1 rfl dX4_feature_26 ?_
          refine v_iald (pc := 27) C _ (ax_fr w0 (Int32.toNatClampNeg a2) hi3.2) dX4_feature_27 ?_
          refine v_goto (pc := 28) C 32 dX4_feature_28 (by decide) ?_
          exact tp_out (fun h => hret _ _ _ _ ⟨h, rfl⟩ dX4_feature_32)
        · exact v_to [] (hj2 ()) rfl
    · exact v_to [] (hj2 ()) rfl
def L3_skips_30 (c0 : Bool) (c1 : Int32) (c2 : Int32) (c3 : Int32) (c4 : Int32) (c5 : Int32) (s0 : SS) : Nat → Int32 → Option ((Unit) ⊕ Int32)
  | 0, _ => none
  | n + 1, v6 => if v6 < (s0.1 (wB c0) 0) then bd (f4_feature c0 v6 0 s0) (fun x5 => bd (f5_has c3 v6) (fun x6 => if x6 = 0 then lt (v6 + 1) (fun x7 => L3_skips_30 c0 c1 c2 c3 c4 c5 s0 n x7) else if v6 = c1 then lt (v6 + 1) (fun x8 => L3_skips_30 c0 c1 c2 c3 c4 c5 s0 n x8) else if v6 = c2 then lt (v6 + 1) (fun x9 => L3_skips_30 c0 c1 c2 c3 c4 c5 s0 n x9) else if x5 < c4 then lt (v6 + 1) (fun x10 => L3_skips_30 c0 c1 c2 c3 c4 c5 s0 n x10) else if x5 ≤ c5 then some (.inr 1) else lt (v6 + 1) (fun x11 => L3_skips_30 c0 c1 c2 c3 c4 c5 s0 n x11))) else some (.inl ())
def f3_skips (w0 : Bool) (a1 : Int32) (a2 : Int32) (a3 : Int32) (s0 : SS) : Option Int32 := bd (f4_feature w0 a1 0 s0) (fun x1 => lt (fun (x4 : Int32) => bs1 (L3_skips_30 w0 a1 a2 a3 x1 x4 s0 FU 0) (fun _u => some 0) (fun r => some r)) (fun j2 => if a2 = 12 then j2 99 else bd (f4_feature w0 a2 0 s0) (fun x12 => j2 x12)))
set_option maxHeartbeats 4000000 in
set_option maxRecDepth 100000 in
theorem l3_skips_30 {G : GT} {K : KT} (C : Ctx G K cX3_skips RX3 8 1 22) (c0 : Bool) (c1 : Int32) (c2 : Int32) (c3 : Int32) (c4 : Int32) (c5 : Int32) (s0 : SS) {Ψ : Unit → Prop} (hx : ∀ (u0 : Unit), Ψ u0 → V G K (wX G s0) 91 [] []) {Φr : Int32 → Prop} (hr : ∀ (r : Int32), Φr r → (r = 0 ∨ r = 1) → ∀ (pc : Nat) (lv : List (Nat × Value)), decode cX3_skips pc = .ok (.ireturn, 1) → V G K (wX G s0) pc lv [.int r]) : ∀ (n : Nat) (v6 : Int32), tp (L3_skips_30 c0 c1 c2 c3 c4 c5 s0 n v6) (uS (k1 Ψ) Φr) → V G K (wX G s0) 30 [(0, .ref (aX G (wB c0))), (1, .int c1), (2, .int c2), (3, .int c3), (4, .int c4), (5, .int c5), (6, .int v6)] [] := by
  intro n
  induction n with
  | zero => intro v6 h; exact tp_no h
  | succ n ih =>
    intro v6
    rw [L3_skips_30]
    refine v_iload (pc := 30) C 6 rfl dX3_skips_30 ?_
    refine v_aload_n (pc := 32) C 0 rfl dX3_skips_32 ?_
    refine g4_branches c0 (pc := 33) C mw_659 dX3_skips_33 ?_
    refine v_icmp_ge (pc := 36) C 91 dX3_skips_36 (by decide) ?_ ?_
    · refine v_aload_n (pc := 39) C 0 rfl dX3_skips_39 ?_
      refine v_iload (pc := 40) C 6 rfl dX3_skips_40 ?_
      refine v_iconst (pc := 42) C 0 dX3_skips_42 (by decide) ?_
      refine cIv2r (pc := 43) C (fun r9 h9 => m4_feature G K.2.1 c0 v6 0 s0 r9 h9) q_yX4_feature mw_663 (rc_4 c0) ⟨by decide, by decide⟩ (Nat.le_of_ble_eq_true rfl) dX3_skips_43 (fun x5 => ?_)
      refine v_istore (pc := 46) C dX3_skips_46 (by decide) (lv' := [(7, .int x5), (0, .ref (aX G (wB c0))), (1, .int c1), (2, .int c2), (3, .int c3), (4, .int c4), (5, .int c5), (6, .int v6)]) rfl ?_
      refine v_iload_n (pc := 48) C 4 rfl dX3_skips_48 ?_
      refine v_iload (pc := 49) C 7 rfl dX3_skips_49 ?_
      refine cIn2r RX5 (pc := 51) C (fun r9 h9 => m5_has G K.2.1 c3 v6 _ r9 h9) q_yX5_has (by decide +kernel) ⟨by decide, by decide⟩ (Nat.le_of_ble_eq_true rfl) dX3_skips_51 (fun x6 => ?_)
      refine v_if_eq (pc := 54) C 85 dX3_skips_54 (by decide) ?_ ?_
      · refine v_iincL (pc := 85) C 1 7 dX3_skips_85 rfl (by decide) (by decide) (lv0 := [(7, .int x5), (0, .ref (aX G (wB c0))), (1, .int c1), (2, .int c2), (3, .int c3), (4, .int c4), (5, .int c5)]) rfl (fun x7 => ?_)
        refine v_goto (pc := 88) C 30 dX3_skips_88 (by decide) ?_
        exact v_to [2, 3, 4, 5, 6, 7, 0] (ih _) rfl
      · refine v_iload (pc := 57) C 7 rfl dX3_skips_57 ?_
        refine v_iload_n (pc := 59) C 2 rfl dX3_skips_59 ?_
        refine v_icmp_eq (pc := 60) C 85 dX3_skips_60 (by decide) ?_ ?_
        · refine v_iincL (pc := 85) C 1 7 dX3_skips_85 rfl (by decide) (by decide) (lv0 := [(7, .int x5), (0, .ref (aX G (wB c0))), (1, .int c1), (2, .int c2), (3, .int c3), (4, .int c4), (5, .int c5)]) rfl (fun x8 => ?_)
          refine v_goto (pc := 88) C 30 dX3_skips_88 (by decide) ?_
          exact v_to [2, 3, 4, 5, 6, 7, 0] (ih _) rfl
        · refine v_iload (pc := 63) C 7 rfl dX3_skips_63 ?_
          refine v_iload_n (pc := 65) C 3 rfl dX3_skips_65 ?_
          refine v_icmp_eq (pc := 66) C 85 dX3_skips_66 (by decide) ?_ ?_
          · refine v_iincL (pc := 85) C 1 7 dX3_skips_85 rfl (by decide) (by decide) (lv0 := [(7, .int x5), (0, .ref (aX G (wB c0))), (1, .int c1), (2, .int c2), (3, .int c3), (4, .int c4), (5, .int c5)]) rfl (fun x9 => ?_)
            refine v_goto (pc := 88) C 30 dX3_skips_88 (by decide) ?_
            exact v_to [2, 3, 4, 5, 6, 7, 0] (ih _) rfl
          · refine v_iload (pc := 69) C 0 rfl dX3_skips_69 ?_
            refine v_iload (pc := 71) C 5 rfl dX3_skips_71 ?_
            refine v_icmp_lt (pc := 73) C 85 dX3_skips_73 (by decide) ?_ ?_
            · refine v_iincL (pc := 85) C 1 7 dX3_skips_85 rfl (by decide) (by decide) (lv0 := [(7, .int x5), (0, .ref (aX G (wB c0))), (1, .int c1), (2, .int c2), (3, .int c3), (4, .int c4), (5, .int c5)]) rfl (fun x10 => ?_)
              refine v_goto (pc := 88) C 30 dX3_skips_88 (by decide) ?_
              exact v_to [2, 3, 4, 5, 6, 7, 0] (ih _) rfl
            · refine v_iload (pc := 76) C 0 rfl dX3_skips_76 ?_
              refine v_iload (pc := 78) C 6 rfl dX3_skips_78 ?_
              refine v_icmp_gt (pc := 80) C 85 dX3_skips_80 (by decide) ?_ ?_
              · refine v_iconst (pc := 83) C 1 dX3_skips_83 (by decide) ?_
                exact tp_out (fun h => hr _ h (Or.inr rfl) _ _ dX3_skips_84)
              · refine v_iincL (pc := 85) C 1 7 dX3_skips_85 rfl (by decide) (by decide) (lv0 := [(7, .int x5), (0, .ref (aX G (wB c0))), (1, .int c1), (2, .int c2), (3, .int c3), (4, .int c4), (5, .int c5)]) rfl (fun x11 => ?_)
                refine v_goto (pc := 88) C 30 dX3_skips_88 (by decide) ?_
                exact v_to [2, 3, 4, 5, 6, 7, 0] (ih _) rfl
    · exact tp_out (fun h => v_to [] (hx _) rfl h)
set_option maxHeartbeats 4000000 in
set_option maxRecDepth 100000 in
theorem m3_skips (G : GT) (l : Launch) (w0 : Bool) (a1 : Int32) (a2 : Int32) (a3 : Int32)  (s0 : SS) (r : Int32) (hf : f3_skips w0 a1 a2 a3 s0 = some r) : MI G l yX3_skips cX3_skips 8 (some .boolean) 1 22 [.ref (aX G (wB w0)), .int a1, .int a2, .int a3] (wX G s0) r (wX G s0) := by
  refine MI.startZ (by decide +kernel) (Nat.le_of_ble_eq_true rfl) (fun K hl C hret => ?_)
  subst hl
  have C : Ctx G K cX3_skips RX3 8 1 22 := C
  change V G K (wX G s0) 0 [(0, .ref (aX G (wB w0))), (1, .int a1), (2, .int a2), (3, .int a3)] []
  refine (?_ : tp (f3_skips w0 a1 a2 a3 s0) (fun q => q = r) → _) ⟨_, hf, rfl⟩
  rw [f3_skips]
  refine v_aload_n (pc := 0) C 0 rfl dX3_skips_0 ?_
  refine v_iload_n (pc := 1) C 1 rfl dX3_skips_1 ?_
  refine v_iconst (pc := 2) C 0 dX3_skips_2 (by decide) ?_
  refine cIv2r (pc := 3) C (fun r9 h9 => m4_feature G K.2.1 w0 a1 0 s0 r9 h9) q_yX4_feature mw_663 (rc_4 w0) ⟨by decide, by decide⟩ (Nat.le_of_ble_eq_true rfl) dX3_skips_3 (fun x1 => ?_)
  refine v_istore (pc := 6) C dX3_skips_6 (by decide) (lv' := [(4, .int x1), (0, .ref (aX G (wB w0))), (1, .int a1), (2, .int a2), (3, .int a3)]) rfl ?_
  refine v_iload_n (pc := 8) C 3 rfl dX3_skips_8 ?_
  refine v_bipush (pc := 9) C 12 dX3_skips_9 (by decide) ?_
  refine r_lJ (fun Φ0 j2 => ∀ (x4 : Int32), tp (j2 x4) Φ0 → V G K (wX G s0) 25 [(0, .ref (aX G (wB w0))), (1, .int a1), (2, .int a2), (3, .int a3), (4, .int x1)] [.int x4]) (fun x4 => ?_) (fun j2 hj3 => ?_)
  · refine v_istore (pc := 25) C dX3_skips_25 (by decide) (lv' := [(5, .int x4), (0, .ref (aX G (wB w0))), (1, .int a1), (2, .int a2), (3, .int a3), (4, .int x1)]) rfl ?_
    refine v_iconst (pc := 27) C 0 dX3_skips_27 (by decide) ?_
    refine v_istore (pc := 28) C dX3_skips_28 (by decide) (lv' := [(6, .int 0), (5, .int x4), (0, .ref (aX G (wB w0))), (1, .int a1), (2, .int a2), (3, .int a3), (4, .int x1)]) rfl ?_
    refine r_bs1 ?_
    refine v_to [2, 3, 4, 5, 6, 1, 0] (l3_skips_30 C w0 a1 a2 a3 x1 x4 s0 (fun _u => ?_) ?hr FU _) rfl
    case hr => exact (fun r9 h hz pc lv d => by obtain ⟨a9, e9, h⟩ := h; cases e9; exact hret _ _ _ _ ⟨h, rfl⟩ hz d)
    refine v_iconst (pc := 91) C 0 dX3_skips_91 (by decide) ?_
    exact tp_out (fun h => hret _ _ _ _ ⟨h, rfl⟩ (Or.inl rfl) dX3_skips_92)
  refine v_icmp_ne (pc := 11) C 19 dX3_skips_11 (by decide) ?_ ?_
  · refine v_bipush (pc := 14) C 99 dX3_skips_14 (by decide) ?_
    refine v_goto (pc := 16) C 25 dX3_skips_16 (by decide) ?_
    exact v_to [1, 2, 3, 4, 0] (hj3 _) rfl
  · refine v_aload_n (pc := 19) C 1 rfl dX3_skips_19 ?_
    refine v_iload_n (pc := 20) C 3 rfl dX3_skips_20 ?_
    refine v_iconst (pc := 21) C 0 dX3_skips_21 (by decide) ?_
    refine cIv2r (pc := 22) C (fun r9 h9 => m4_feature G K.2.1 w0 a2 0 s0 r9 h9) q_yX4_feature mw_663 (rc_4 w0) ⟨by decide, by decide⟩ (Nat.le_of_ble_eq_true rfl) dX3_skips_22 (fun x12 => ?_)
    exact v_to [1, 2, 3, 4, 0] (hj3 _) rfl
def f4_downward (w0 : Bool) (a1 : Int32) (s0 : SS) : Option Int32 := lt (fun (_u : Unit) => some 0) (fun j1 => if a1 < 0 then j1 () else if a1 < 12 then gd (inb a1 12) (some (s0.1 (wB w0 + 12) a1.toNatClampNeg)) else j1 ())
set_option maxHeartbeats 4000000 in
set_option maxRecDepth 100000 in
theorem m4_downward (G : GT) (l : Launch) (w0 : Bool) (a1 : Int32)  (s0 : SS) (r : Int32) (hf : f4_downward w0 a1 s0 = some r) : MI G l yX4_downward cX4_downward 2 (some .int) 0 0 [.ref (aX G (wB w0)), .int a1] (wX G s0) r (wX G s0) := by
  refine MI.start (by decide +kernel) (Nat.le_of_ble_eq_true rfl) (fun K hl C hret => ?_)
  subst hl
  have C : Ctx G K cX4_downward RX4 2 0 0 := C
  change V G K (wX G s0) 0 [(0, .ref (aX G (wB w0))), (1, .int a1)] []
  refine (?_ : tp (f4_downward w0 a1 s0) (fun q => q = r) → _) ⟨_, hf, rfl⟩
  rw [f4_downward]
  refine v_iload_n (pc := 0) C 1 rfl dX4_downward_0 ?_
  refine r_lJ (fun Φ0 j1 => ∀ (_u : Unit), tp (j1 ()) Φ0 → V G K (wX G s0) 22 [] []) (fun _u => ?_) (fun j1 hj2 => ?_)
  · refine v_iconst (pc := 22) C 0 dX4_downward_22 (by decide) ?_
    exact tp_out (fun h => hret _ _ _ _ ⟨h, rfl⟩ dX4_downward_23)
  refine v_if_lt (pc := 1) C 22 dX4_downward_1 (by decide) ?_ ?_
  · exact v_to [] (hj2 ()) rfl
  · refine v_iload_n (pc := 4) C 1 rfl dX4_downward_4 ?_
    refine v_aload_n (pc := 5) C 0 rfl dX4_downward_5 ?_
    refine g4_downward w0 (pc := 6) C mw_93 dX4_downward_6 ?_
    refine v_alen (pc := 9) C _ 0 (ax_dn w0) rfl (v := 12) rfl dX4_downward_9 ?_
    refine v_icmp_ge (pc := 10) C 22 dX4_downward_10 (by decide) ?_ ?_
    · refine v_aload_n (pc := 13) C 0 rfl dX4_downward_13 ?_
      refine g4_downward w0 (pc := 14) C mw_93 dX4_downward_14 ?_
      refine v_iload_n (pc := 17) C 1 rfl dX4_downward_17 ?_
      refine v_iald (pc := 18) C _ (ax_dn w0) dX4_downward_18 ?_
      refine v_goto (pc := 19) C 23 dX4_downward_19 (by decide) ?_
      exact tp_out (fun h => hret _ _ _ _ ⟨h, rfl⟩ dX4_downward_23)
    · exact v_to [] (hj2 ()) rfl
def L3_ascentsInto_6 (c1 : Bool) (c2 : Int32) (c3 : Int32) (s0 : SS) : Nat → Int64 → Int32 → Option (Int64)
  | 0, _, _ => none
  | n + 1, v4, v6 => if v6 < (s0.1 (wB c1) 0) then if (v6 + 1) < 13 then bd (f4_feature c1 v6 0 s0) (fun x1 => bd (f4_feature c1 c2 0 s0) (fun x2 => lt (fun (x5 : Int32) => if x5 = 0 then lt (v6 + 1) (fun x6 => L3_ascentsInto_6 c1 c2 c3 s0 n v4 x6) else gd (inb (v6 + 1) 13) (bd (f5_has (s0.1 5 ((v6 + 1)).toNatClampNeg) (c2 + 1)) (fun x7 => if x7 = 0 then lt (v6 + 1) (fun x8 => L3_ascentsInto_6 c1 c2 c3 s0 n v4 x8) else bd (f3_skips c1 v6 c2 c3 s0) (fun x9 => if x9 = 0 then gd (inb (v6 + 1) 13) (lt ((v4 + (s0.2.1 9 ((v6 + 1)).toNatClampNeg))) (fun x10 => lt (v6 + 1) (fun x11 => L3_ascentsInto_6 c1 c2 c3 s0 n x10 x11))) else lt (v6 + 1) (fun x12 => L3_ascentsInto_6 c1 c2 c3 s0 n v4 x12))))) (fun j3 => if x1 < x2 then j3 1 else j3 0))) else some v4 else some v4
def f3_ascentsInto (w1 : Bool) (a2 : Int32) (a3 : Int32) (s0 : SS) : Option Int64 := bk1 (L3_ascentsInto_6 w1 a2 a3 s0 FU 0 (-1)) (fun x13 => some x13)
set_option maxHeartbeats 4000000 in
set_option maxRecDepth 100000 in
theorem l3_ascentsInto_6 {G : GT} {K : KT} (C : Ctx G K cX3_ascentsInto RX3 8 2 49) (c1 : Bool) (c2 : Int32) (c3 : Int32) (s0 : SS) {Ψ : Int64 → Prop} (hx : ∀ (o1 : Int64), Ψ o1 → V G K (wX G s0) 101 [(4, .long o1)] []) : ∀ (n : Nat) (v4 : Int64) (v6 : Int32), tp (L3_ascentsInto_6 c1 c2 c3 s0 n v4 v6) (k1 Ψ) → V G K (wX G s0) 6 [(0, .ref (aX G 4)), (1, .ref (aX G (wB c1))), (2, .int c2), (3, .int c3), (4, .long v4), (6, .int v6)] [] := by
  intro n
  induction n with
  | zero => intro v4 v6 h; exact tp_no h
  | succ n ih =>
    intro v4 v6
    rw [L3_ascentsInto_6]
    refine v_iload (pc := 6) C 5 rfl dX3_ascentsInto_6 ?_
    refine v_aload_n (pc := 8) C 1 rfl dX3_ascentsInto_8 ?_
    refine g4_branches c1 (pc := 9) C mw_659 dX3_ascentsInto_9 ?_
    refine v_icmp_ge (pc := 12) C 101 dX3_ascentsInto_12 (by decide) ?_ ?_
    · refine v_iload (pc := 15) C 5 rfl dX3_ascentsInto_15 ?_
      refine v_iconst (pc := 17) C 1 dX3_ascentsInto_17 (by decide) ?_
      refine v_iadd (pc := 18) C dX3_ascentsInto_18 ?_
      refine v_bipush (pc := 19) C 13 dX3_ascentsInto_19 (by decide) ?_
      refine v_icmp_ge (pc := 21) C 101 dX3_ascentsInto_21 (by decide) ?_ ?_
      · refine v_aload_n (pc := 24) C 1 rfl dX3_ascentsInto_24 ?_
        refine v_iload (pc := 25) C 5 rfl dX3_ascentsInto_25 ?_
        refine v_iconst (pc := 27) C 0 dX3_ascentsInto_27 (by decide) ?_
        refine cIv2r (pc := 28) C (fun r9 h9 => m4_feature G K.2.1 c1 v6 0 s0 r9 h9) q_yX4_feature mw_663 (rc_4 c1) ⟨by decide, by decide⟩ (Nat.le_of_ble_eq_true rfl) dX3_ascentsInto_28 (fun x1 => ?_)
        refine v_aload_n (pc := 31) C 1 rfl dX3_ascentsInto_31 ?_
        refine v_iload_n (pc := 32) C 2 rfl dX3_ascentsInto_32 ?_
        refine v_iconst (pc := 33) C 0 dX3_ascentsInto_33 (by decide) ?_
        refine cIv2r (pc := 34) C (fun r9 h9 => m4_feature G K.2.1 c1 c2 0 s0 r9 h9) q_yX4_feature mw_663 (rc_4 c1) ⟨by decide, by decide⟩ (Nat.le_of_ble_eq_true rfl) dX3_ascentsInto_34 (fun x2 => ?_)
        refine r_lJ (fun Φ0 j3 => ∀ (x5 : Int32), tp (j3 x5) Φ0 → V G K (wX G s0) 45 [(0, .ref (aX G 4)), (1, .ref (aX G (wB c1))), (2, .int c2), (3, .int c3), (4, .long v4), (6, .int v6)] [.int x5]) (fun x5 => ?_) (fun j3 hj4 => ?_)
        · refine v_istore (pc := 45) C dX3_ascentsInto_45 (by decide) (lv' := [(7, .int x5), (0, .ref (aX G 4)), (1, .ref (aX G (wB c1))), (2, .int c2), (3, .int c3), (4, .long v4), (6, .int v6)]) rfl ?_
          refine v_iload (pc := 47) C 0 rfl dX3_ascentsInto_47 ?_
          refine v_if_eq (pc := 49) C 95 dX3_ascentsInto_49 (by decide) ?_ ?_
          · refine v_iincL (pc := 95) C 1 6 dX3_ascentsInto_95 rfl (by decide) (by decide) (lv0 := [(7, .int x5), (0, .ref (aX G 4)), (1, .ref (aX G (wB c1))), (2, .int c2), (3, .int c3), (4, .long v4)]) rfl (fun x6 => ?_)
            refine v_goto (pc := 98) C 6 dX3_ascentsInto_98 (by decide) ?_
            exact v_to [2, 3, 4, 5, 6, 0] (ih _ _) rfl
          · refine v_aload_n (pc := 52) C 1 rfl dX3_ascentsInto_52 ?_
            refine g3_next (pc := 53) C mw_58 dX3_ascentsInto_53 ?_
            refine v_iload (pc := 56) C 6 rfl dX3_ascentsInto_56 ?_
            refine v_iconst (pc := 58) C 1 dX3_ascentsInto_58 (by decide) ?_
            refine v_iadd (pc := 59) C dX3_ascentsInto_59 ?_
            refine v_iald (pc := 60) C _ ax_5 dX3_ascentsInto_60 ?_
            refine v_iload_n (pc := 61) C 3 rfl dX3_ascentsInto_61 ?_
            refine v_iconst (pc := 62) C 1 dX3_ascentsInto_62 (by decide) ?_
            refine v_iadd (pc := 63) C dX3_ascentsInto_63 ?_
            refine cIn2r RX5 (pc := 64) C (fun r9 h9 => m5_has G K.2.1 (s0.1 5 ((v6 + 1)).toNatClampNeg) (c2 + 1) _ r9 h9) q_yX5_has (by decide +kernel) ⟨by decide, by decide⟩ (Nat.le_of_ble_eq_true rfl) dX3_ascentsInto_64 (fun x7 => ?_)
            refine v_if_eq (pc := 67) C 95 dX3_ascentsInto_67 (by decide) ?_ ?_
            · refine v_iincL (pc := 95) C 1 6 dX3_ascentsInto_95 rfl (by decide) (by decide) (lv0 := [(7, .int x5), (0, .ref (aX G 4)), (1, .ref (aX G (wB c1))), (2, .int c2), (3, .int c3), (4, .long v4)]) rfl (fun x8 => ?_)
              refine v_goto (pc := 98) C 6 dX3_ascentsInto_98 (by decide) ?_
              exact v_to [2, 3, 4, 5, 6, 0] (ih _ _) rfl
            · refine v_aload_n (pc := 70) C 2 rfl dX3_ascentsInto_70 ?_
              refine v_iload (pc := 71) C 6 rfl dX3_ascentsInto_71 ?_
              refine v_iload_n (pc := 73) C 3 rfl dX3_ascentsInto_73 ?_
              refine v_iload_n (pc := 74) C 4 rfl dX3_ascentsInto_74 ?_
              refine cIs4r (pc := 75) C (fun r9 h9 => m3_skips G K.2.1 c1 v6 c2 c3 s0 r9 h9) q_yX3_skips mw_660 ⟨by decide, by decide⟩ (Nat.le_of_ble_eq_true rfl) dX3_ascentsInto_75 (fun x9 => ?_)
              refine v_if_ne (pc := 78) C 95 dX3_ascentsInto_78 (by decide) ?_ ?_
              · refine v_lload (pc := 81) C 5 rfl dX3_ascentsInto_81 ?_
                refine v_aload_n (pc := 83) C 1 rfl dX3_ascentsInto_83 ?_
                refine g3_counts (pc := 84) C mw_63 dX3_ascentsInto_84 ?_
                refine v_iload (pc := 87) C 6 rfl dX3_ascentsInto_87 ?_
                refine v_iconst (pc := 89) C 1 dX3_ascentsInto_89 (by decide) ?_
                refine v_iadd (pc := 90) C dX3_ascentsInto_90 ?_
                refine v_lald (pc := 91) C _ ax_9 dX3_ascentsInto_91 ?_
                refine v_ladd (pc := 92) C dX3_ascentsInto_92 ?_
                refine r_ltl (fun x10 => ?_)
                refine v_lstore (pc := 93) C dX3_ascentsInto_93 (by decide) (lv' := [(4, .long x10), (7, .int x5), (0, .ref (aX G 4)), (1, .ref (aX G (wB c1))), (2, .int c2), (3, .int c3), (6, .int v6)]) rfl ?_
                refine v_iincL (pc := 95) C 1 6 dX3_ascentsInto_95 rfl (by decide) (by decide) (lv0 := [(4, .long x10), (7, .int x5), (0, .ref (aX G 4)), (1, .ref (aX G (wB c1))), (2, .int c2), (3, .int c3)]) rfl (fun x11 => ?_)
                refine v_goto (pc := 98) C 6 dX3_ascentsInto_98 (by decide) ?_
                exact v_to [3, 4, 5, 6, 1, 0] (ih _ _) rfl
              · refine v_iincL (pc := 95) C 1 6 dX3_ascentsInto_95 rfl (by decide) (by decide) (lv0 := [(7, .int x5), (0, .ref (aX G 4)), (1, .ref (aX G (wB c1))), (2, .int c2), (3, .int c3), (4, .long v4)]) rfl (fun x12 => ?_)
                refine v_goto (pc := 98) C 6 dX3_ascentsInto_98 (by decide) ?_
                exact v_to [2, 3, 4, 5, 6, 0] (ih _ _) rfl
        refine v_icmp_ge (pc := 37) C 44 dX3_ascentsInto_37 (by decide) ?_ ?_
        · refine v_iconst (pc := 40) C 1 dX3_ascentsInto_40 (by decide) ?_
          refine v_goto (pc := 41) C 45 dX3_ascentsInto_41 (by decide) ?_
          exact v_to [0, 1, 2, 3, 4, 5] (hj4 _) rfl
        · refine v_iconst (pc := 44) C 0 dX3_ascentsInto_44 (by decide) ?_
          exact v_to [0, 1, 2, 3, 4, 5] (hj4 _) rfl
      · exact tp_out (fun h => v_to [4] (hx _) rfl h)
    · exact tp_out (fun h => v_to [4] (hx _) rfl h)
set_option maxHeartbeats 4000000 in
set_option maxRecDepth 100000 in
theorem m3_ascentsInto (G : GT) (l : Launch) (w1 : Bool) (a2 : Int32) (a3 : Int32)  (s0 : SS) (r : Int64) (hf : f3_ascentsInto w1 a2 a3 s0 = some r) : ML G l yX3_ascentsInto cX3_ascentsInto 8 (some .long) 2 49 [.ref (aX G 4), .ref (aX G (wB w1)), .int a2, .int a3] (wX G s0) r (wX G s0) := by
  refine ML.start (by decide +kernel) (Nat.le_of_ble_eq_true rfl) (fun K hl C hret => ?_)
  subst hl
  have C : Ctx G K cX3_ascentsInto RX3 8 2 49 := C
  change V G K (wX G s0) 0 [(0, .ref (aX G 4)), (1, .ref (aX G (wB w1))), (2, .int a2), (3, .int a3)] []
  refine (?_ : tp (f3_ascentsInto w1 a2 a3 s0) (fun q => q = r) → _) ⟨_, hf, rfl⟩
  rw [f3_ascentsInto]
  refine v_lconst (pc := 0) C 0 dX3_ascentsInto_0 (by decide) ?_
  refine v_lstore (pc := 1) C dX3_ascentsInto_1 (by decide) (lv' := [(4, .long 0), (0, .ref (aX G 4)), (1, .ref (aX G (wB w1))), (2, .int a2), (3, .int a3)]) rfl ?_
  refine v_iconst (pc := 3) C (-1) dX3_ascentsInto_3 (by decide) ?_
  refine v_istore (pc := 4) C dX3_ascentsInto_4 (by decide) (lv' := [(6, .int (-1)), (4, .long 0), (0, .ref (aX G 4)), (1, .ref (aX G (wB w1))), (2, .int a2), (3, .int a3)]) rfl ?_
  refine r_bk1 ?_
  refine v_to [2, 3, 4, 5, 1, 0] (l3_ascentsInto_6 C w1 a2 a3 s0 (fun x13 => ?_) FU _ _) rfl
  refine v_lload (pc := 101) C 0 rfl dX3_ascentsInto_101 ?_
  exact tp_out (fun h => hret _ _ _ _ ⟨h, rfl⟩ dX3_ascentsInto_103)
def L3_ascents_16 (c1 : Bool) (c2 : Int32) (c3 : Int32) : Nat → Int32 → SS → Option (SS)
  | 0, _, _ => none
  | n + 1, v4, s => if v4 < 13 then lt (fun (x4 : Int64) => gd (inb v4 13) (lt (sL s 9 (Int32.toNatClampNeg v4) x4) (fun q5 => lt (v4 + 1) (fun x6 => L3_ascents_16 c1 c2 c3 n x6 q5)))) (fun j2 => if v4 = 0 then j2 1 else j2 0) else some s
def L3_ascents_54 (c1 : Bool) (c2 : Int32) (c3 : Int32) : Nat → Int32 → SS → Option (SS)
  | 0, _, _ => none
  | n + 1, v4, s => if v4 < 0 then some s else bd (f4_downward c1 v4 s) (fun x9 => bd (f3_isIn (x9 + 1)) (fun x10 => if x10 = 0 then lt (v4 + (-1)) (fun x11 => L3_ascents_54 c1 c2 c3 n x11 s) else bd (f3_ascentsInto c1 x9 c3 s) (fun x12 => gd (inb (x9 + 1) 13) (lt (sL s 9 (Int32.toNatClampNeg (x9 + 1)) x12) (fun q13 => lt (v4 + (-1)) (fun x14 => L3_ascents_54 c1 c2 c3 n x14 q13))))))
def f3_ascents (w1 : Bool) (a2 : Int32) (a3 : Int32) (s0 : SS) : Option (Int64 × SS) := bd (f3_skips w1 a2 12 a3 s0) (fun x1 => if x1 = 0 then bk1 (L3_ascents_16 w1 a2 a3 FU 0 s0) (fun q7 => lt (((q7.1 (wB w1) 0) - 1)) (fun x8 => bk1 (L3_ascents_54 w1 a2 a3 FU x8 q7) (fun q15 => bd (f3_isIn (a2 + 1)) (fun x16 => if x16 = 0 then some (0, q15) else gd (inb (a2 + 1) 13) (some ((q15.2.1 9 ((a2 + 1)).toNatClampNeg), q15)))))) else some (0, s0))
set_option maxHeartbeats 4000000 in
set_option maxRecDepth 100000 in
theorem l3_ascents_16 {G : GT} {K : KT} (C : Ctx G K cX3_ascents RX3 6 3 76) (c1 : Bool) (c2 : Int32) (c3 : Int32) {Ψ : SS → Prop} (hx : ∀ (so : SS), Ψ so → V G K (wX G so) 46 [(0, .ref (aX G 4)), (1, .ref (aX G (wB c1))), (2, .int c2), (3, .int c3)] []) : ∀ (n : Nat) (v4 : Int32) (s : SS), tp (L3_ascents_16 c1 c2 c3 n v4 s) (k1 Ψ) → V G K (wX G s) 16 [(0, .ref (aX G 4)), (1, .ref (aX G (wB c1))), (2, .int c2), (3, .int c3), (4, .int v4)] [] := by
  intro n
  induction n with
  | zero => intro v4 s h; exact tp_no h
  | succ n ih =>
    intro v4 s
    rw [L3_ascents_16]
    refine v_iload (pc := 16) C 4 rfl dX3_ascents_16 ?_
    refine v_bipush (pc := 18) C 13 dX3_ascents_18 (by decide) ?_
    refine v_icmp_ge (pc := 20) C 46 dX3_ascents_20 (by decide) ?_ ?_
    · refine v_aload_n (pc := 23) C 0 rfl dX3_ascents_23 ?_
      refine g3_counts (pc := 24) C mw_63 dX3_ascents_24 ?_
      refine v_iload (pc := 27) C 4 rfl dX3_ascents_27 ?_
      refine v_iload (pc := 29) C 4 rfl dX3_ascents_29 ?_
      refine r_lJ (fun Φ0 j2 => ∀ (x4 : Int64), tp (j2 x4) Φ0 → V G K (wX G s) 39 [(0, .ref (aX G 4)), (1, .ref (aX G (wB c1))), (2, .int c2), (3, .int c3), (4, .int v4)] [.long x4, .int v4, .ref (aX G 9)]) (fun x4 => ?_) (fun j2 hj3 => ?_)
      · refine v_last (pc := 39) C _ ax_9 (as_9 _ _) dX3_ascents_39 ?_
        refine r_ltx (fun q5 => ?_)
        refine v_iincL (pc := 40) C 1 4 dX3_ascents_40 rfl (by decide) (by decide) (lv0 := [(0, .ref (aX G 4)), (1, .ref (aX G (wB c1))), (2, .int c2), (3, .int c3)]) rfl (fun x6 => ?_)
        refine v_goto (pc := 43) C 16 dX3_ascents_43 (by decide) ?_
        exact v_to [1, 2, 3, 4, 0] (ih _ _) rfl
      refine v_if_ne (pc := 31) C 38 dX3_ascents_31 (by decide) ?_ ?_
      · refine v_lconst (pc := 34) C 1 dX3_ascents_34 (by decide) ?_
        refine v_goto (pc := 35) C 39 dX3_ascents_35 (by decide) ?_
        exact v_to [0, 1, 2, 3, 4] (hj3 _) rfl
      · refine v_lconst (pc := 38) C 0 dX3_ascents_38 (by decide) ?_
        exact v_to [0, 1, 2, 3, 4] (hj3 _) rfl
    · exact tp_out (fun h => v_to [0, 1, 2, 3] (hx _) rfl h)
set_option maxHeartbeats 4000000 in
set_option maxRecDepth 100000 in
theorem l3_ascents_54 {G : GT} {K : KT} (C : Ctx G K cX3_ascents RX3 6 3 76) (c1 : Bool) (c2 : Int32) (c3 : Int32) {Ψ : SS → Prop} (hx : ∀ (so : SS), Ψ so → V G K (wX G so) 100 [(0, .ref (aX G 4)), (2, .int c2)] []) : ∀ (n : Nat) (v4 : Int32) (s : SS), tp (L3_ascents_54 c1 c2 c3 n v4 s) (k1 Ψ) → V G K (wX G s) 54 [(0, .ref (aX G 4)), (1, .ref (aX G (wB c1))), (2, .int c2), (3, .int c3), (4, .int v4)] [] := by
  intro n
  induction n with
  | zero => intro v4 s h; exact tp_no h
  | succ n ih =>
    intro v4 s
    rw [L3_ascents_54]
    refine v_iload (pc := 54) C 4 rfl dX3_ascents_54 ?_
    refine v_if_lt (pc := 56) C 100 dX3_ascents_56 (by decide) ?_ ?_
    · exact tp_out (fun h => v_to [0, 2] (hx _) rfl h)
    · refine v_aload_n (pc := 59) C 1 rfl dX3_ascents_59 ?_
      refine v_iload (pc := 60) C 4 rfl dX3_ascents_60 ?_
      refine cIv1r (pc := 62) C (fun r9 h9 => m4_downward G K.2.1 c1 v4 s r9 h9) q_yX4_downward mw_664 (rc_4 c1) ⟨by decide, by decide⟩ (Nat.le_of_ble_eq_true rfl) dX3_ascents_62 (fun x9 => ?_)
      refine v_istore (pc := 65) C dX3_ascents_65 (by decide) (lv' := [(5, .int x9), (0, .ref (aX G 4)), (1, .ref (aX G (wB c1))), (2, .int c2), (3, .int c3), (4, .int v4)]) rfl ?_
      refine v_iload (pc := 67) C 0 rfl dX3_ascents_67 ?_
      refine v_iconst (pc := 69) C 1 dX3_ascents_69 (by decide) ?_
      refine v_iadd (pc := 70) C dX3_ascents_70 ?_
      refine cIs1r (pc := 71) C (fun r9 h9 => m3_isIn G K.2.1 (x9 + 1) _ r9 h9) q_yX3_isIn mw_520 ⟨by decide, by decide⟩ (Nat.le_of_ble_eq_true rfl) dX3_ascents_71 (fun x10 => ?_)
      refine v_if_eq (pc := 74) C 94 dX3_ascents_74 (by decide) ?_ ?_
      · refine v_iincL (pc := 94) C (-1) 5 dX3_ascents_94 rfl (by decide) (by decide) (lv0 := [(5, .int x9), (0, .ref (aX G 4)), (1, .ref (aX G (wB c1))), (2, .int c2), (3, .int c3)]) rfl (fun x11 => ?_)
        refine v_goto (pc := 97) C 54 dX3_ascents_97 (by decide) ?_
        exact v_to [2, 3, 4, 5, 0] (ih _ _) rfl
      · refine v_aload_n (pc := 77) C 1 rfl dX3_ascents_77 ?_
        refine g3_counts (pc := 78) C mw_63 dX3_ascents_78 ?_
        refine v_iload (pc := 81) C 0 rfl dX3_ascents_81 ?_
        refine v_iconst (pc := 83) C 1 dX3_ascents_83 (by decide) ?_
        refine v_iadd (pc := 84) C dX3_ascents_84 ?_
        refine v_aload_n (pc := 85) C 1 rfl dX3_ascents_85 ?_
        refine v_aload_n (pc := 86) C 2 rfl dX3_ascents_86 ?_
        refine v_iload (pc := 87) C 0 rfl dX3_ascents_87 ?_
        refine v_iload_n (pc := 89) C 4 rfl dX3_ascents_89 ?_
        refine cLv3r (pc := 90) C (fun r9 h9 => m3_ascentsInto G K.2.1 c1 x9 c3 s r9 h9) q_yX3_ascentsInto mw_668 rc_3 ⟨by decide, by decide⟩ (Nat.le_of_ble_eq_true rfl) dX3_ascents_90 (fun x12 => ?_)
        refine v_last (pc := 93) C _ ax_9 (as_9 _ _) dX3_ascents_93 ?_
        refine r_ltx (fun q13 => ?_)
        refine v_iincL (pc := 94) C (-1) 5 dX3_ascents_94 rfl (by decide) (by decide) (lv0 := [(5, .int x9), (0, .ref (aX G 4)), (1, .ref (aX G (wB c1))), (2, .int c2), (3, .int c3)]) rfl (fun x14 => ?_)
        refine v_goto (pc := 97) C 54 dX3_ascents_97 (by decide) ?_
        exact v_to [2, 3, 4, 5, 0] (ih _ _) rfl
set_option maxHeartbeats 4000000 in
set_option maxRecDepth 100000 in
theorem m3_ascents (G : GT) (l : Launch) (w1 : Bool) (a2 : Int32) (a3 : Int32)  (s0 : SS) (r : Int64) (s1 : SS) (hf : f3_ascents w1 a2 a3 s0 = some (r, s1)) : ML G l yX3_ascents cX3_ascents 6 (some .long) 3 76 [.ref (aX G 4), .ref (aX G (wB w1)), .int a2, .int a3] (wX G s0) r (wX G s1) := by
  refine ML.start (by decide +kernel) (Nat.le_of_ble_eq_true rfl) (fun K hl C hret => ?_)
  subst hl
  have C : Ctx G K cX3_ascents RX3 6 3 76 := C
  change V G K (wX G s0) 0 [(0, .ref (aX G 4)), (1, .ref (aX G (wB w1))), (2, .int a2), (3, .int a3)] []
  refine (?_ : tp (f3_ascents w1 a2 a3 s0) (fun q => q = (r, s1)) → _) ⟨_, hf, rfl⟩
  rw [f3_ascents]
  refine v_aload_n (pc := 0) C 1 rfl dX3_ascents_0 ?_
  refine v_iload_n (pc := 1) C 2 rfl dX3_ascents_1 ?_
  refine v_bipush (pc := 2) C 12 dX3_ascents_2 (by decide) ?_
  refine v_iload_n (pc := 4) C 3 rfl dX3_ascents_4 ?_
  refine cIs4r (pc := 5) C (fun r9 h9 => m3_skips G K.2.1 w1 a2 12 a3 s0 r9 h9) q_yX3_skips mw_660 ⟨by decide, by decide⟩ (Nat.le_of_ble_eq_true rfl) dX3_ascents_5 (fun x1 => ?_)
  refine v_if_eq (pc := 8) C 13 dX3_ascents_8 (by decide) ?_ ?_
  · refine v_iconst (pc := 13) C 0 dX3_ascents_13 (by decide) ?_
    refine v_istore (pc := 14) C dX3_ascents_14 (by decide) (lv' := [(4, .int 0), (0, .ref (aX G 4)), (1, .ref (aX G (wB w1))), (2, .int a2), (3, .int a3)]) rfl ?_
    refine r_bk1 ?_
    refine v_to [1, 2, 3, 4, 0] (l3_ascents_16 C w1 a2 a3 (fun q7 => ?_) FU _ _) rfl
    refine v_aload_n (pc := 46) C 1 rfl dX3_ascents_46 ?_
    refine g4_branches w1 (pc := 47) C mw_659 dX3_ascents_47 ?_
    refine v_iconst (pc := 50) C 1 dX3_ascents_50 (by decide) ?_
    refine v_isub (pc := 51) C dX3_ascents_51 ?_
    refine r_lti (fun x8 => ?_)
    refine v_istore (pc := 52) C dX3_ascents_52 (by decide) (lv' := [(4, .int x8), (0, .ref (aX G 4)), (1, .ref (aX G (wB w1))), (2, .int a2), (3, .int a3)]) rfl ?_
    refine r_bk1 ?_
    refine v_to [1, 2, 3, 4, 0] (l3_ascents_54 C w1 a2 a3 (fun q15 => ?_) FU _ _) rfl
    refine v_iload_n (pc := 100) C 1 rfl dX3_ascents_100 ?_
    refine v_iconst (pc := 101) C 1 dX3_ascents_101 (by decide) ?_
    refine v_iadd (pc := 102) C dX3_ascents_102 ?_
    refine cIs1r (pc := 103) C (fun r9 h9 => m3_isIn G K.2.1 (a2 + 1) _ r9 h9) q_yX3_isIn mw_520 ⟨by decide, by decide⟩ (Nat.le_of_ble_eq_true rfl) dX3_ascents_103 (fun x16 => ?_)
    refine v_if_eq (pc := 106) C 120 dX3_ascents_106 (by decide) ?_ ?_
    · refine v_lconst (pc := 120) C 0 dX3_ascents_120 (by decide) ?_
      exact tp_out (fun h => hret _ _ _ _ ⟨(Prod.mk.inj h).1, congrArg (wX G) (Prod.mk.inj h).2⟩ dX3_ascents_121)
    · refine v_aload_n (pc := 109) C 0 rfl dX3_ascents_109 ?_
      refine g3_counts (pc := 110) C mw_63 dX3_ascents_110 ?_
      refine v_iload_n (pc := 113) C 1 rfl dX3_ascents_113 ?_
      refine v_iconst (pc := 114) C 1 dX3_ascents_114 (by decide) ?_
      refine v_iadd (pc := 115) C dX3_ascents_115 ?_
      refine v_lald (pc := 116) C _ ax_9 dX3_ascents_116 ?_
      refine v_goto (pc := 117) C 121 dX3_ascents_117 (by decide) ?_
      exact tp_out (fun h => hret _ _ _ _ ⟨(Prod.mk.inj h).1, congrArg (wX G) (Prod.mk.inj h).2⟩ dX3_ascents_121)
  · refine v_lconst (pc := 11) C 0 dX3_ascents_11 (by decide) ?_
    exact tp_out (fun h => hret _ _ _ _ ⟨(Prod.mk.inj h).1, congrArg (wX G) (Prod.mk.inj h).2⟩ dX3_ascents_12)
def f4_empty (w0 : Bool) (s0 : SS) : Option SS := lt (sI s0 (wB w0) 0 0) (fun q1 => lt (sI q1 (wB w0) 1 0) (fun q2 => some q2))
set_option maxHeartbeats 4000000 in
set_option maxRecDepth 100000 in
theorem m4_empty (G : GT) (l : Launch) (w0 : Bool)  (s0 : SS) (s1 : SS) (hf : f4_empty w0 s0 = some s1) : MV G l yX4_empty cX4_empty 1 none 0 0 [.ref (aX G (wB w0))] (wX G s0) (wX G s1) := by
  refine MV.start (by decide +kernel) (Nat.le_of_ble_eq_true rfl) (fun K hl C hret => ?_)
  subst hl
  have C : Ctx G K cX4_empty RX4 1 0 0 := C
  change V G K (wX G s0) 0 [(0, .ref (aX G (wB w0)))] []
  refine (?_ : tp (f4_empty w0 s0) (fun q => q = s1) → _) ⟨_, hf, rfl⟩
  rw [f4_empty]
  refine v_aload_n (pc := 0) C 0 rfl dX4_empty_0 ?_
  refine v_iconst (pc := 1) C 0 dX4_empty_1 (by decide) ?_
  refine p4_branches w0 (pc := 2) C mw_88 dX4_empty_2 ?_
  refine r_ltx (fun q1 => ?_)
  refine v_aload_n (pc := 5) C 0 rfl dX4_empty_5 ?_
  refine v_iconst (pc := 6) C 0 dX4_empty_6 (by decide) ?_
  refine p4_bodies w0 (pc := 7) C mw_89 dX4_empty_7 ?_
  refine r_ltx (fun q2 => ?_)
  exact tp_out (fun h => hret _ _ _ (congrArg (wX G) h) dX4_empty_10)
def f4_setFeature (w0 : Bool) (a1 : Int32) (a2 : Int32) (a3 : Int32) (s0 : SS) : Option SS := if a1 < 0 then some s0 else if a1 < 12 then if a2 < 0 then some s0 else if a2 < 6 then gd (inb a2 6) (gd (inb a1 12) (lt (sI s0 (wB w0 + 2 + (Int32.toNatClampNeg a2)) (Int32.toNatClampNeg a1) a3) (fun q2 => some q2))) else some s0 else some s0
set_option maxHeartbeats 4000000 in
set_option maxRecDepth 100000 in
theorem m4_setFeature (G : GT) (l : Launch) (w0 : Bool) (a1 : Int32) (a2 : Int32) (a3 : Int32)  (s0 : SS) (s1 : SS) (hf : f4_setFeature w0 a1 a2 a3 s0 = some s1) : MV G l yX4_setFeature cX4_setFeature 4 none 0 0 [.ref (aX G (wB w0)), .int a1, .int a2, .int a3] (wX G s0) (wX G s1) := by
  refine MV.start (by decide +kernel) (Nat.le_of_ble_eq_true rfl) (fun K hl C hret => ?_)
  subst hl
  have C : Ctx G K cX4_setFeature RX4 4 0 0 := C
  change V G K (wX G s0) 0 [(0, .ref (aX G (wB w0))), (1, .int a1), (2, .int a2), (3, .int a3)] []
  refine (?_ : tp (f4_setFeature w0 a1 a2 a3 s0) (fun q => q = s1) → _) ⟨_, hf, rfl⟩
  rw [f4_setFeature]
  refine v_iload_n (pc := 0) C 1 rfl dX4_setFeature_0 ?_
  refine v_if_lt (pc := 1) C 29 dX4_setFeature_1 (by decide) ?_ ?_
  · exact tp_out (fun h => hret _ _ _ (congrArg (wX G) h) dX4_setFeature_29)
  · refine v_iload_n (pc := 4) C 1 rfl dX4_setFeature_4 ?_
    refine v_bipush (pc := 5) C 12 dX4_setFeature_5 (by decide) ?_
    refine v_icmp_ge (pc := 7) C 29 dX4_setFeature_7 (by decide) ?_ ?_
    · refine v_iload_n (pc := 10) C 2 rfl dX4_setFeature_10 ?_
      refine v_if_lt (pc := 11) C 29 dX4_setFeature_11 (by decide) ?_ ?_
      · exact tp_out (fun h => hret _ _ _ (congrArg (wX G) h) dX4_setFeature_29)
      · refine v_iload_n (pc := 14) C 2 rfl dX4_setFeature_14 ?_
        refine v_bipush (pc := 15) C 6 dX4_setFeature_15 (by decide) ?_
        refine v_icmp_ge (pc := 17) C 29 dX4_setFeature_17 (by decide) ?_ ?_
        · refine v_aload_n (pc := 20) C 0 rfl dX4_setFeature_20 ?_
          refine g4_features w0 (pc := 21) C mw_91 dX4_setFeature_21 ?_
          refine v_iload_n (pc := 24) C 2 rfl dX4_setFeature_24 ?_
          refine v_aldA (pc := 25) C _ (ax_f2 w0) (fun h => if_pos h.2) dX4_setFeature_25 (fun hi1 => ?_)
          refine v_iload_n (pc := 26) C 1 rfl dX4_setFeature_26 ?_
          refine v_iload_n (pc := 27) C 3 rfl dX4_setFeature_27 ?_
          refine v_iast (pc := 28) C _ (ax_fr w0 (Int32.toNatClampNeg a2) hi1.2) (as_fr w0 (Int32.toNatClampNeg a2) hi1.2 _ _) dX4_setFeature_28 ?_
          refine r_ltx (fun q2 => ?_)
          exact tp_out (fun h => hret _ _ _ (congrArg (wX G) h) dX4_setFeature_29)
        · exact tp_out (fun h => hret _ _ _ (congrArg (wX G) h) dX4_setFeature_29)
    · exact tp_out (fun h => hret _ _ _ (congrArg (wX G) h) dX4_setFeature_29)
def f4_power (w0 : Bool) (a1 : Int32) (a2 : Int32) (s0 : SS) : Option Int32 := lt (fun (_u : Unit) => some 0) (fun j1 => if a1 < 0 then j1 () else if a1 < 3 then if a2 < 0 then j1 () else if a2 < 3 then gd (inb a2 3) (gd (inb a1 3) (some (s0.1 (wB w0 + 9 + (Int32.toNatClampNeg a2)) a1.toNatClampNeg))) else j1 () else j1 ())
set_option maxHeartbeats 4000000 in
set_option maxRecDepth 100000 in
theorem m4_power (G : GT) (l : Launch) (w0 : Bool) (a1 : Int32) (a2 : Int32)  (s0 : SS) (r : Int32) (hf : f4_power w0 a1 a2 s0 = some r) : MI G l yX4_power cX4_power 3 (some .int) 0 0 [.ref (aX G (wB w0)), .int a1, .int a2] (wX G s0) r (wX G s0) := by
  refine MI.start (by decide +kernel) (Nat.le_of_ble_eq_true rfl) (fun K hl C hret => ?_)
  subst hl
  have C : Ctx G K cX4_power RX4 3 0 0 := C
  change V G K (wX G s0) 0 [(0, .ref (aX G (wB w0))), (1, .int a1), (2, .int a2)] []
  refine (?_ : tp (f4_power w0 a1 a2 s0) (fun q => q = r) → _) ⟨_, hf, rfl⟩
  rw [f4_power]
  refine v_iload_n (pc := 0) C 1 rfl dX4_power_0 ?_
  refine r_lJ (fun Φ0 j1 => ∀ (_u : Unit), tp (j1 ()) Φ0 → V G K (wX G s0) 29 [] []) (fun _u => ?_) (fun j1 hj2 => ?_)
  · refine v_iconst (pc := 29) C 0 dX4_power_29 (by decide) ?_
    exact tp_out (fun h => hret _ _ _ _ ⟨h, rfl⟩ dX4_power_30)
  refine v_if_lt (pc := 1) C 29 dX4_power_1 (by decide) ?_ ?_
  · exact v_to [] (hj2 ()) rfl
  · refine v_iload_n (pc := 4) C 1 rfl dX4_power_4 ?_
    refine v_iconst (pc := 5) C 3 dX4_power_5 (by decide) ?_
    refine v_icmp_ge (pc := 6) C 29 dX4_power_6 (by decide) ?_ ?_
    · refine v_iload_n (pc := 9) C 2 rfl dX4_power_9 ?_
      refine v_if_lt (pc := 10) C 29 dX4_power_10 (by decide) ?_ ?_
      · exact v_to [] (hj2 ()) rfl
      · refine v_iload_n (pc := 13) C 2 rfl dX4_power_13 ?_
        refine v_iconst (pc := 14) C 3 dX4_power_14 (by decide) ?_
        refine v_icmp_ge (pc := 15) C 29 dX4_power_15 (by decide) ?_ ?_
        · refine v_aload_n (pc := 18) C 0 rfl dX4_power_18 ?_
          refine g4_powers w0 (pc := 19) C mw_92 dX4_power_19 ?_
          refine v_iload_n (pc := 22) C 2 rfl dX4_power_22 ?_
          refine v_aldA (pc := 23) C _ (ax_p2 w0) (fun h => if_pos h.2) dX4_power_23 (fun hi3 => ?_)
          refine v_iload_n (pc := 24) C 1 rfl dX4_power_24 ?_
          refine v_iald (pc := 25) C _ (ax_pr w0 (Int32.toNatClampNeg a2) hi3.2) dX4_power_25 ?_
          refine v_goto (pc := 26) C 30 dX4_power_26 (by decide) ?_
          exact tp_out (fun h => hret _ _ _ _ ⟨h, rfl⟩ dX4_power_30)
        · exact v_to [] (hj2 ()) rfl
    · exact v_to [] (hj2 ()) rfl
def f4_setPower (w0 : Bool) (a1 : Int32) (a2 : Int32) (a3 : Int32) (s0 : SS) : Option SS := if a1 < 0 then some s0 else if a1 < 3 then if a2 < 0 then some s0 else if a2 < 3 then gd (inb a2 3) (gd (inb a1 3) (lt (sI s0 (wB w0 + 9 + (Int32.toNatClampNeg a2)) (Int32.toNatClampNeg a1) a3) (fun q2 => some q2))) else some s0 else some s0
set_option maxHeartbeats 4000000 in
set_option maxRecDepth 100000 in
theorem m4_setPower (G : GT) (l : Launch) (w0 : Bool) (a1 : Int32) (a2 : Int32) (a3 : Int32)  (s0 : SS) (s1 : SS) (hf : f4_setPower w0 a1 a2 a3 s0 = some s1) : MV G l yX4_setPower cX4_setPower 4 none 0 0 [.ref (aX G (wB w0)), .int a1, .int a2, .int a3] (wX G s0) (wX G s1) := by
  refine MV.start (by decide +kernel) (Nat.le_of_ble_eq_true rfl) (fun K hl C hret => ?_)
  subst hl
  have C : Ctx G K cX4_setPower RX4 4 0 0 := C
  change V G K (wX G s0) 0 [(0, .ref (aX G (wB w0))), (1, .int a1), (2, .int a2), (3, .int a3)] []
  refine (?_ : tp (f4_setPower w0 a1 a2 a3 s0) (fun q => q = s1) → _) ⟨_, hf, rfl⟩
  rw [f4_setPower]
  refine v_iload_n (pc := 0) C 1 rfl dX4_setPower_0 ?_
  refine v_if_lt (pc := 1) C 27 dX4_setPower_1 (by decide) ?_ ?_
  · exact tp_out (fun h => hret _ _ _ (congrArg (wX G) h) dX4_setPower_27)
  · refine v_iload_n (pc := 4) C 1 rfl dX4_setPower_4 ?_
    refine v_iconst (pc := 5) C 3 dX4_setPower_5 (by decide) ?_
    refine v_icmp_ge (pc := 6) C 27 dX4_setPower_6 (by decide) ?_ ?_
    · refine v_iload_n (pc := 9) C 2 rfl dX4_setPower_9 ?_
      refine v_if_lt (pc := 10) C 27 dX4_setPower_10 (by decide) ?_ ?_
      · exact tp_out (fun h => hret _ _ _ (congrArg (wX G) h) dX4_setPower_27)
      · refine v_iload_n (pc := 13) C 2 rfl dX4_setPower_13 ?_
        refine v_iconst (pc := 14) C 3 dX4_setPower_14 (by decide) ?_
        refine v_icmp_ge (pc := 15) C 27 dX4_setPower_15 (by decide) ?_ ?_
        · refine v_aload_n (pc := 18) C 0 rfl dX4_setPower_18 ?_
          refine g4_powers w0 (pc := 19) C mw_92 dX4_setPower_19 ?_
          refine v_iload_n (pc := 22) C 2 rfl dX4_setPower_22 ?_
          refine v_aldA (pc := 23) C _ (ax_p2 w0) (fun h => if_pos h.2) dX4_setPower_23 (fun hi1 => ?_)
          refine v_iload_n (pc := 24) C 1 rfl dX4_setPower_24 ?_
          refine v_iload_n (pc := 25) C 3 rfl dX4_setPower_25 ?_
          refine v_iast (pc := 26) C _ (ax_pr w0 (Int32.toNatClampNeg a2) hi1.2) (as_pr w0 (Int32.toNatClampNeg a2) hi1.2 _ _) dX4_setPower_26 ?_
          refine r_ltx (fun q2 => ?_)
          exact tp_out (fun h => hret _ _ _ (congrArg (wX G) h) dX4_setPower_27)
        · exact tp_out (fun h => hret _ _ _ (congrArg (wX G) h) dX4_setPower_27)
    · exact tp_out (fun h => hret _ _ _ (congrArg (wX G) h) dX4_setPower_27)
def f4_all (w0 : Bool) (s0 : SS) : Option Int32 := some (((1 : Int32) <<< ((s0.1 (wB w0) 0) &&& 31)) - 1)
set_option maxHeartbeats 4000000 in
set_option maxRecDepth 100000 in
theorem m4_all (G : GT) (l : Launch) (w0 : Bool)  (s0 : SS) (r : Int32) (hf : f4_all w0 s0 = some r) : MI G l yX4_all cX4_all 1 (some .int) 0 0 [.ref (aX G (wB w0))] (wX G s0) r (wX G s0) := by
  refine MI.start (by decide +kernel) (Nat.le_of_ble_eq_true rfl) (fun K hl C hret => ?_)
  subst hl
  have C : Ctx G K cX4_all RX4 1 0 0 := C
  change V G K (wX G s0) 0 [(0, .ref (aX G (wB w0)))] []
  refine (?_ : tp (f4_all w0 s0) (fun q => q = r) → _) ⟨_, hf, rfl⟩
  rw [f4_all]
  refine v_iconst (pc := 0) C 1 dX4_all_0 (by decide) ?_
  refine v_aload_n (pc := 1) C 0 rfl dX4_all_1 ?_
  refine g4_branches w0 (pc := 2) C mw_88 dX4_all_2 ?_
  refine v_ishl (pc := 5) C dX4_all_5 ?_
  refine v_iconst (pc := 6) C 1 dX4_all_6 (by decide) ?_
  refine v_isub (pc := 7) C dX4_all_7 ?_
  exact tp_out (fun h => hret _ _ _ _ ⟨h, rfl⟩ dX4_all_8)
def f4_sidesApart (w0 : Bool) (a1 : Int32) (a2 : Int32) (s0 : SS) : Option Int32 := bd (f4_feature w0 a1 1 s0) (fun x1 => bd (f4_feature w0 a2 1 s0) (fun x2 => lt (if 0 ≤ (x1 - x2) then (x1 - x2) else 0 - (x1 - x2)) (fun x3 => lt (if (8 - x3) < x3 then (8 - x3) else x3) (fun x4 => some x4))))
set_option maxHeartbeats 4000000 in
set_option maxRecDepth 100000 in
theorem m4_sidesApart (G : GT) (l : Launch) (w0 : Bool) (a1 : Int32) (a2 : Int32)  (s0 : SS) (r : Int32) (hf : f4_sidesApart w0 a1 a2 s0 = some r) : MI G l yX4_sidesApart cX4_sidesApart 4 (some .int) 1 23 [.ref (aX G (wB w0)), .int a1, .int a2] (wX G s0) r (wX G s0) := by
  refine MI.start (by decide +kernel) (Nat.le_of_ble_eq_true rfl) (fun K hl C hret => ?_)
  subst hl
  have C : Ctx G K cX4_sidesApart RX4 4 1 23 := C
  change V G K (wX G s0) 0 [(0, .ref (aX G (wB w0))), (1, .int a1), (2, .int a2)] []
  refine (?_ : tp (f4_sidesApart w0 a1 a2 s0) (fun q => q = r) → _) ⟨_, hf, rfl⟩
  rw [f4_sidesApart]
  refine v_aload_n (pc := 0) C 0 rfl dX4_sidesApart_0 ?_
  refine v_iload_n (pc := 1) C 1 rfl dX4_sidesApart_1 ?_
  refine v_iconst (pc := 2) C 1 dX4_sidesApart_2 (by decide) ?_
  refine cIv2r (pc := 3) C (fun r9 h9 => m4_feature G K.2.1 w0 a1 1 s0 r9 h9) q_yX4_feature mw_287 (rc_4 w0) ⟨by decide, by decide⟩ (Nat.le_of_ble_eq_true rfl) dX4_sidesApart_3 (fun x1 => ?_)
  refine v_aload_n (pc := 6) C 0 rfl dX4_sidesApart_6 ?_
  refine v_iload_n (pc := 7) C 2 rfl dX4_sidesApart_7 ?_
  refine v_iconst (pc := 8) C 1 dX4_sidesApart_8 (by decide) ?_
  refine cIv2r (pc := 9) C (fun r9 h9 => m4_feature G K.2.1 w0 a2 1 s0 r9 h9) q_yX4_feature mw_287 (rc_4 w0) ⟨by decide, by decide⟩ (Nat.le_of_ble_eq_true rfl) dX4_sidesApart_9 (fun x2 => ?_)
  refine v_isub (pc := 12) C dX4_sidesApart_12 ?_
  refine v_mabs (pc := 13) C mw_299 mw_300 mw_190 mw_301 (by decide) (Nat.le_of_ble_eq_true rfl) dX4_sidesApart_13 ?_
  refine r_lti (fun x3 => ?_)
  refine v_istore_n (pc := 16) C dX4_sidesApart_16 (by decide) (lv' := [(3, .int x3), (0, .ref (aX G (wB w0))), (1, .int a1), (2, .int a2)]) rfl ?_
  refine v_iload_n (pc := 17) C 0 rfl dX4_sidesApart_17 ?_
  refine v_bipush (pc := 18) C 8 dX4_sidesApart_18 (by decide) ?_
  refine v_iload_n (pc := 20) C 0 rfl dX4_sidesApart_20 ?_
  refine v_isub (pc := 21) C dX4_sidesApart_21 ?_
  refine v_mmin (pc := 22) C mw_302 mw_189 mw_190 mw_191 (by decide) (Nat.le_of_ble_eq_true rfl) dX4_sidesApart_22 ?_
  refine r_lti (fun x4 => ?_)
  exact tp_out (fun h => hret _ _ _ _ ⟨h, rfl⟩ dX4_sidesApart_25)
def f4_below (w0 : Bool) (a1 : Int32) (s0 : SS) : Option Int32 := lt (fun (_u : Unit) => some 0) (fun j1 => if a1 < 0 then j1 () else if a1 < 12 then gd (inb a1 12) (some (s0.1 (wB w0 + 13) a1.toNatClampNeg)) else j1 ())
set_option maxHeartbeats 4000000 in
set_option maxRecDepth 100000 in
theorem m4_below (G : GT) (l : Launch) (w0 : Bool) (a1 : Int32)  (s0 : SS) (r : Int32) (hf : f4_below w0 a1 s0 = some r) : MI G l yX4_below cX4_below 2 (some .int) 0 0 [.ref (aX G (wB w0)), .int a1] (wX G s0) r (wX G s0) := by
  refine MI.start (by decide +kernel) (Nat.le_of_ble_eq_true rfl) (fun K hl C hret => ?_)
  subst hl
  have C : Ctx G K cX4_below RX4 2 0 0 := C
  change V G K (wX G s0) 0 [(0, .ref (aX G (wB w0))), (1, .int a1)] []
  refine (?_ : tp (f4_below w0 a1 s0) (fun q => q = r) → _) ⟨_, hf, rfl⟩
  rw [f4_below]
  refine v_iload_n (pc := 0) C 1 rfl dX4_below_0 ?_
  refine r_lJ (fun Φ0 j1 => ∀ (_u : Unit), tp (j1 ()) Φ0 → V G K (wX G s0) 22 [] []) (fun _u => ?_) (fun j1 hj2 => ?_)
  · refine v_iconst (pc := 22) C 0 dX4_below_22 (by decide) ?_
    exact tp_out (fun h => hret _ _ _ _ ⟨h, rfl⟩ dX4_below_23)
  refine v_if_lt (pc := 1) C 22 dX4_below_1 (by decide) ?_ ?_
  · exact v_to [] (hj2 ()) rfl
  · refine v_iload_n (pc := 4) C 1 rfl dX4_below_4 ?_
    refine v_aload_n (pc := 5) C 0 rfl dX4_below_5 ?_
    refine g4_under w0 (pc := 6) C mw_94 dX4_below_6 ?_
    refine v_alen (pc := 9) C _ 0 (ax_un w0) rfl (v := 12) rfl dX4_below_9 ?_
    refine v_icmp_ge (pc := 10) C 22 dX4_below_10 (by decide) ?_ ?_
    · refine v_aload_n (pc := 13) C 0 rfl dX4_below_13 ?_
      refine g4_under w0 (pc := 14) C mw_94 dX4_below_14 ?_
      refine v_iload_n (pc := 17) C 1 rfl dX4_below_17 ?_
      refine v_iald (pc := 18) C _ (ax_un w0) dX4_below_18 ?_
      refine v_goto (pc := 19) C 23 dX4_below_19 (by decide) ?_
      exact tp_out (fun h => hret _ _ _ _ ⟨h, rfl⟩ dX4_below_23)
    · exact v_to [] (hj2 ()) rfl
def L4_lowerNear_4 (c0 : Bool) (c1 : Int32) (s0 : SS) : Nat → Int32 → Int32 → Option (Int32)
  | 0, _, _ => none
  | n + 1, v2, v3 => if v3 < (s0.1 (wB c0) 0) then bd (f4_feature c0 v3 0 s0) (fun x1 => bd (f4_feature c0 c1 0 s0) (fun x2 => if x1 < x2 then bd (f4_sidesApart c0 v3 c1 s0) (fun x3 => if x3 ≤ 1 then lt ((v2 ||| ((1 : Int32) <<< (v3 &&& 31)))) (fun x4 => lt (v3 + 1) (fun x5 => L4_lowerNear_4 c0 c1 s0 n x4 x5)) else lt (v3 + 1) (fun x6 => L4_lowerNear_4 c0 c1 s0 n v2 x6)) else lt (v3 + 1) (fun x7 => L4_lowerNear_4 c0 c1 s0 n v2 x7))) else some v2
def f4_lowerNear (w0 : Bool) (a1 : Int32) (s0 : SS) : Option Int32 := bk1 (L4_lowerNear_4 w0 a1 s0 FU 0 0) (fun x8 => some x8)
set_option maxHeartbeats 4000000 in
set_option maxRecDepth 100000 in
theorem l4_lowerNear_4 {G : GT} {K : KT} (C : Ctx G K cX4_lowerNear RX4 4 2 46) (c0 : Bool) (c1 : Int32) (s0 : SS) {Ψ : Int32 → Prop} (hx : ∀ (o1 : Int32), Ψ o1 → V G K (wX G s0) 49 [(2, .int o1)] []) : ∀ (n : Nat) (v2 : Int32) (v3 : Int32), tp (L4_lowerNear_4 c0 c1 s0 n v2 v3) (k1 Ψ) → V G K (wX G s0) 4 [(0, .ref (aX G (wB c0))), (1, .int c1), (2, .int v2), (3, .int v3)] [] := by
  intro n
  induction n with
  | zero => intro v2 v3 h; exact tp_no h
  | succ n ih =>
    intro v2 v3
    rw [L4_lowerNear_4]
    refine v_iload_n (pc := 4) C 3 rfl dX4_lowerNear_4 ?_
    refine v_aload_n (pc := 5) C 0 rfl dX4_lowerNear_5 ?_
    refine g4_branches c0 (pc := 6) C mw_88 dX4_lowerNear_6 ?_
    refine v_icmp_ge (pc := 9) C 49 dX4_lowerNear_9 (by decide) ?_ ?_
    · refine v_aload_n (pc := 12) C 0 rfl dX4_lowerNear_12 ?_
      refine v_iload_n (pc := 13) C 3 rfl dX4_lowerNear_13 ?_
      refine v_iconst (pc := 14) C 0 dX4_lowerNear_14 (by decide) ?_
      refine cIv2r (pc := 15) C (fun r9 h9 => m4_feature G K.2.1 c0 v3 0 s0 r9 h9) q_yX4_feature mw_287 (rc_4 c0) ⟨by decide, by decide⟩ (Nat.le_of_ble_eq_true rfl) dX4_lowerNear_15 (fun x1 => ?_)
      refine v_aload_n (pc := 18) C 0 rfl dX4_lowerNear_18 ?_
      refine v_iload_n (pc := 19) C 1 rfl dX4_lowerNear_19 ?_
      refine v_iconst (pc := 20) C 0 dX4_lowerNear_20 (by decide) ?_
      refine cIv2r (pc := 21) C (fun r9 h9 => m4_feature G K.2.1 c0 c1 0 s0 r9 h9) q_yX4_feature mw_287 (rc_4 c0) ⟨by decide, by decide⟩ (Nat.le_of_ble_eq_true rfl) dX4_lowerNear_21 (fun x2 => ?_)
      refine v_icmp_ge (pc := 24) C 43 dX4_lowerNear_24 (by decide) ?_ ?_
      · refine v_aload_n (pc := 27) C 0 rfl dX4_lowerNear_27 ?_
        refine v_iload_n (pc := 28) C 3 rfl dX4_lowerNear_28 ?_
        refine v_iload_n (pc := 29) C 1 rfl dX4_lowerNear_29 ?_
        refine cIv2r (pc := 30) C (fun r9 h9 => m4_sidesApart G K.2.1 c0 v3 c1 s0 r9 h9) q_yX4_sidesApart mw_295 (rc_4 c0) ⟨by decide, by decide⟩ (Nat.le_of_ble_eq_true rfl) dX4_lowerNear_30 (fun x3 => ?_)
        refine v_iconst (pc := 33) C 1 dX4_lowerNear_33 (by decide) ?_
        refine v_icmp_gt (pc := 34) C 43 dX4_lowerNear_34 (by decide) ?_ ?_
        · refine v_iload_n (pc := 37) C 2 rfl dX4_lowerNear_37 ?_
          refine v_iconst (pc := 38) C 1 dX4_lowerNear_38 (by decide) ?_
          refine v_iload_n (pc := 39) C 3 rfl dX4_lowerNear_39 ?_
          refine v_ishl (pc := 40) C dX4_lowerNear_40 ?_
          refine v_ior (pc := 41) C dX4_lowerNear_41 ?_
          refine r_lti (fun x4 => ?_)
          refine v_istore_n (pc := 42) C dX4_lowerNear_42 (by decide) (lv' := [(2, .int x4), (0, .ref (aX G (wB c0))), (1, .int c1), (3, .int v3)]) rfl ?_
          refine v_iincL (pc := 43) C 1 3 dX4_lowerNear_43 rfl (by decide) (by decide) (lv0 := [(2, .int x4), (0, .ref (aX G (wB c0))), (1, .int c1)]) rfl (fun x5 => ?_)
          refine v_goto (pc := 46) C 4 dX4_lowerNear_46 (by decide) ?_
          exact v_to [2, 3, 1, 0] (ih _ _) rfl
        · refine v_iincL (pc := 43) C 1 3 dX4_lowerNear_43 rfl (by decide) (by decide) (lv0 := [(0, .ref (aX G (wB c0))), (1, .int c1), (2, .int v2)]) rfl (fun x6 => ?_)
          refine v_goto (pc := 46) C 4 dX4_lowerNear_46 (by decide) ?_
          exact v_to [1, 2, 3, 0] (ih _ _) rfl
      · refine v_iincL (pc := 43) C 1 3 dX4_lowerNear_43 rfl (by decide) (by decide) (lv0 := [(0, .ref (aX G (wB c0))), (1, .int c1), (2, .int v2)]) rfl (fun x7 => ?_)
        refine v_goto (pc := 46) C 4 dX4_lowerNear_46 (by decide) ?_
        exact v_to [1, 2, 3, 0] (ih _ _) rfl
    · exact tp_out (fun h => v_to [2] (hx _) rfl h)
set_option maxHeartbeats 4000000 in
set_option maxRecDepth 100000 in
theorem m4_lowerNear (G : GT) (l : Launch) (w0 : Bool) (a1 : Int32)  (s0 : SS) (r : Int32) (hf : f4_lowerNear w0 a1 s0 = some r) : MI G l yX4_lowerNear cX4_lowerNear 4 (some .int) 2 46 [.ref (aX G (wB w0)), .int a1] (wX G s0) r (wX G s0) := by
  refine MI.start (by decide +kernel) (Nat.le_of_ble_eq_true rfl) (fun K hl C hret => ?_)
  subst hl
  have C : Ctx G K cX4_lowerNear RX4 4 2 46 := C
  change V G K (wX G s0) 0 [(0, .ref (aX G (wB w0))), (1, .int a1)] []
  refine (?_ : tp (f4_lowerNear w0 a1 s0) (fun q => q = r) → _) ⟨_, hf, rfl⟩
  rw [f4_lowerNear]
  refine v_iconst (pc := 0) C 0 dX4_lowerNear_0 (by decide) ?_
  refine v_istore_n (pc := 1) C dX4_lowerNear_1 (by decide) (lv' := [(2, .int 0), (0, .ref (aX G (wB w0))), (1, .int a1)]) rfl ?_
  refine v_iconst (pc := 2) C 0 dX4_lowerNear_2 (by decide) ?_
  refine v_istore_n (pc := 3) C dX4_lowerNear_3 (by decide) (lv' := [(3, .int 0), (2, .int 0), (0, .ref (aX G (wB w0))), (1, .int a1)]) rfl ?_
  refine r_bk1 ?_
  refine v_to [2, 3, 1, 0] (l4_lowerNear_4 C w0 a1 s0 (fun x8 => ?_) FU _ _) rfl
  refine v_iload_n (pc := 49) C 0 rfl dX4_lowerNear_49 ?_
  exact tp_out (fun h => hret _ _ _ _ ⟨h, rfl⟩ dX4_lowerNear_50)
def L4_order_18 (c0 : Bool) (c1 : Int32) : Nat → Int32 → SS → Option (Int32 × SS)
  | 0, _, _ => none
  | n + 1, v2, s => if v2 ≤ 0 then some (v2, s) else gd (inb (v2 - 1) 12) (bd (f4_feature c0 (s.1 (wB c0 + 12) ((v2 - 1)).toNatClampNeg) 0 s) (fun x1 => bd (f4_feature c0 c1 0 s) (fun x2 => if x1 < x2 then gd (inb (v2 - 1) 12) (gd (inb v2 12) (lt (sI s (wB c0 + 12) (Int32.toNatClampNeg v2) (s.1 (wB c0 + 12) ((v2 - 1)).toNatClampNeg)) (fun q3 => lt (v2 + (-1)) (fun x4 => L4_order_18 c0 c1 n x4 q3)))) else some (v2, s))))
def L4_order_2 (c0 : Bool) : Nat → Int32 → SS → Option (SS)
  | 0, _, _ => none
  | n + 1, v1, s => if v1 < (s.1 (wB c0) 0) then if v1 < 12 then bk2 (L4_order_18 c0 v1 FU v1 s) (fun x5 q6 => gd (inb x5 12) (lt (sI q6 (wB c0 + 12) (Int32.toNatClampNeg x5) v1) (fun q7 => bd (f4_lowerNear c0 v1 q7) (fun x8 => gd (inb v1 12) (lt (sI q7 (wB c0 + 13) (Int32.toNatClampNeg v1) x8) (fun q9 => lt (v1 + 1) (fun x10 => L4_order_2 c0 n x10 q9))))))) else some s else some s
def f4_order (w0 : Bool) (s0 : SS) : Option SS := bk1 (L4_order_2 w0 FU 0 s0) (fun q11 => some q11)
set_option maxHeartbeats 4000000 in
set_option maxRecDepth 100000 in
theorem l4_order_18 {G : GT} {K : KT} (C : Ctx G K cX4_order RX4 3 3 69) (c0 : Bool) (c1 : Int32) {Ψ : Int32 → SS → Prop} (hx : ∀ (o1 : Int32) (so : SS), Ψ o1 so → V G K (wX G so) 64 [(0, .ref (aX G (wB c0))), (1, .int c1), (2, .int o1)] []) : ∀ (n : Nat) (v2 : Int32) (s : SS), tp (L4_order_18 c0 c1 n v2 s) (k2 Ψ) → V G K (wX G s) 18 [(0, .ref (aX G (wB c0))), (1, .int c1), (2, .int v2)] [] := by
  intro n
  induction n with
  | zero => intro v2 s h; exact tp_no h
  | succ n ih =>
    intro v2 s
    rw [L4_order_18]
    refine v_iload_n (pc := 18) C 2 rfl dX4_order_18 ?_
    refine v_if_le (pc := 19) C 64 dX4_order_19 (by decide) ?_ ?_
    · exact tp_out (fun h => v_to [0, 1, 2] (hx _ _) rfl h)
    · refine v_aload_n (pc := 22) C 0 rfl dX4_order_22 ?_
      refine v_aload_n (pc := 23) C 0 rfl dX4_order_23 ?_
      refine g4_downward c0 (pc := 24) C mw_93 dX4_order_24 ?_
      refine v_iload_n (pc := 27) C 2 rfl dX4_order_27 ?_
      refine v_iconst (pc := 28) C 1 dX4_order_28 (by decide) ?_
      refine v_isub (pc := 29) C dX4_order_29 ?_
      refine v_iald (pc := 30) C _ (ax_dn c0) dX4_order_30 ?_
      refine v_iconst (pc := 31) C 0 dX4_order_31 (by decide) ?_
      refine cIv2r (pc := 32) C (fun r9 h9 => m4_feature G K.2.1 c0 (s.1 (wB c0 + 12) ((v2 - 1)).toNatClampNeg) 0 s r9 h9) q_yX4_feature mw_287 (rc_4 c0) ⟨by decide, by decide⟩ (Nat.le_of_ble_eq_true rfl) dX4_order_32 (fun x1 => ?_)
      refine v_aload_n (pc := 35) C 0 rfl dX4_order_35 ?_
      refine v_iload_n (pc := 36) C 1 rfl dX4_order_36 ?_
      refine v_iconst (pc := 37) C 0 dX4_order_37 (by decide) ?_
      refine cIv2r (pc := 38) C (fun r9 h9 => m4_feature G K.2.1 c0 c1 0 s r9 h9) q_yX4_feature mw_287 (rc_4 c0) ⟨by decide, by decide⟩ (Nat.le_of_ble_eq_true rfl) dX4_order_38 (fun x2 => ?_)
      refine v_icmp_ge (pc := 41) C 64 dX4_order_41 (by decide) ?_ ?_
      · refine v_aload_n (pc := 44) C 0 rfl dX4_order_44 ?_
        refine g4_downward c0 (pc := 45) C mw_93 dX4_order_45 ?_
        refine v_iload_n (pc := 48) C 2 rfl dX4_order_48 ?_
        refine v_aload_n (pc := 49) C 0 rfl dX4_order_49 ?_
        refine g4_downward c0 (pc := 50) C mw_93 dX4_order_50 ?_
        refine v_iload_n (pc := 53) C 2 rfl dX4_order_53 ?_
        refine v_iconst (pc := 54) C 1 dX4_order_54 (by decide) ?_
        refine v_isub (pc := 55) C dX4_order_55 ?_
        refine v_iald (pc := 56) C _ (ax_dn c0) dX4_order_56 ?_
        refine v_iast (pc := 57) C _ (ax_dn c0) (as_dn c0 _ _) dX4_order_57 ?_
        refine r_ltx (fun q3 => ?_)
        refine v_iincL (pc := 58) C (-1) 2 dX4_order_58 rfl (by decide) (by decide) (lv0 := [(0, .ref (aX G (wB c0))), (1, .int c1)]) rfl (fun x4 => ?_)
        refine v_goto (pc := 61) C 18 dX4_order_61 (by decide) ?_
        exact v_to [1, 2, 0] (ih _ _) rfl
      · exact tp_out (fun h => v_to [0, 1, 2] (hx _ _) rfl h)
set_option maxHeartbeats 4000000 in
set_option maxRecDepth 100000 in
theorem l4_order_2 {G : GT} {K : KT} (C : Ctx G K cX4_order RX4 3 3 69) (c0 : Bool) {Ψ : SS → Prop} (hx : ∀ (so : SS), Ψ so → V G K (wX G so) 88 [] []) : ∀ (n : Nat) (v1 : Int32) (s : SS), tp (L4_order_2 c0 n v1 s) (k1 Ψ) → V G K (wX G s) 2 [(0, .ref (aX G (wB c0))), (1, .int v1)] [] := by
  intro n
  induction n with
  | zero => intro v1 s h; exact tp_no h
  | succ n ih =>
    intro v1 s
    rw [L4_order_2]
    refine v_iload_n (pc := 2) C 1 rfl dX4_order_2 ?_
    refine v_aload_n (pc := 3) C 0 rfl dX4_order_3 ?_
    refine g4_branches c0 (pc := 4) C mw_88 dX4_order_4 ?_
    refine v_icmp_ge (pc := 7) C 88 dX4_order_7 (by decide) ?_ ?_
    · refine v_iload_n (pc := 10) C 1 rfl dX4_order_10 ?_
      refine v_bipush (pc := 11) C 12 dX4_order_11 (by decide) ?_
      refine v_icmp_ge (pc := 13) C 88 dX4_order_13 (by decide) ?_ ?_
      · refine v_iload_n (pc := 16) C 1 rfl dX4_order_16 ?_
        refine v_istore_n (pc := 17) C dX4_order_17 (by decide) (lv' := [(2, .int v1), (0, .ref (aX G (wB c0))), (1, .int v1)]) rfl ?_
        refine r_bk2 ?_
        refine v_to [1, 2, 0] (l4_order_18 C c0 v1 (fun x5 q6 => ?_) FU _ _) rfl
        refine v_aload_n (pc := 64) C 0 rfl dX4_order_64 ?_
        refine g4_downward c0 (pc := 65) C mw_93 dX4_order_65 ?_
        refine v_iload_n (pc := 68) C 2 rfl dX4_order_68 ?_
        refine v_iload_n (pc := 69) C 1 rfl dX4_order_69 ?_
        refine v_iast (pc := 70) C _ (ax_dn c0) (as_dn c0 _ _) dX4_order_70 ?_
        refine r_ltx (fun q7 => ?_)
        refine v_aload_n (pc := 71) C 0 rfl dX4_order_71 ?_
        refine g4_under c0 (pc := 72) C mw_94 dX4_order_72 ?_
        refine v_iload_n (pc := 75) C 1 rfl dX4_order_75 ?_
        refine v_aload_n (pc := 76) C 0 rfl dX4_order_76 ?_
        refine v_iload_n (pc := 77) C 1 rfl dX4_order_77 ?_
        refine cIv1r (pc := 78) C (fun r9 h9 => m4_lowerNear G K.2.1 c0 v1 q7 r9 h9) q_yX4_lowerNear mw_291 (rc_4 c0) ⟨by decide, by decide⟩ (Nat.le_of_ble_eq_true rfl) dX4_order_78 (fun x8 => ?_)
        refine v_iast (pc := 81) C _ (ax_un c0) (as_un c0 _ _) dX4_order_81 ?_
        refine r_ltx (fun q9 => ?_)
        refine v_iincL (pc := 82) C 1 1 dX4_order_82 rfl (by decide) (by decide) (lv0 := [(0, .ref (aX G (wB c0))), (2, .int x5)]) rfl (fun x10 => ?_)
        refine v_goto (pc := 85) C 2 dX4_order_85 (by decide) ?_
        exact v_to [1, 0] (ih _ _) rfl
      · exact tp_out (fun h => v_to [] (hx _) rfl h)
    · exact tp_out (fun h => v_to [] (hx _) rfl h)
set_option maxHeartbeats 4000000 in
set_option maxRecDepth 100000 in
theorem m4_order (G : GT) (l : Launch) (w0 : Bool)  (s0 : SS) (s1 : SS) (hf : f4_order w0 s0 = some s1) : MV G l yX4_order cX4_order 3 none 3 69 [.ref (aX G (wB w0))] (wX G s0) (wX G s1) := by
  refine MV.start (by decide +kernel) (Nat.le_of_ble_eq_true rfl) (fun K hl C hret => ?_)
  subst hl
  have C : Ctx G K cX4_order RX4 3 3 69 := C
  change V G K (wX G s0) 0 [(0, .ref (aX G (wB w0)))] []
  refine (?_ : tp (f4_order w0 s0) (fun q => q = s1) → _) ⟨_, hf, rfl⟩
  rw [f4_order]
  refine v_iconst (pc := 0) C 0 dX4_order_0 (by decide) ?_
  refine v_istore_n (pc := 1) C dX4_order_1 (by decide) (lv' := [(1, .int 0), (0, .ref (aX G (wB w0)))]) rfl ?_
  refine r_bk1 ?_
  refine v_to [1, 0] (l4_order_2 C w0 (fun q11 => ?_) FU _ _) rfl
  exact tp_out (fun h => hret _ _ _ (congrArg (wX G) h) dX4_order_88)
def f5_type (a1 : Int64) (a3 : Int32) (s0 : SS) : Option (Int32 × SS) := if a3 < 1 then some ((-1), s0) else if a3 ≤ 8 then bk2 (f2_append a1 a3 s0) (fun x1 q2 => if x1 = 0 then some ((-3), q2) else some ((q2.1 2 1), q2)) else some ((-1), s0)
set_option maxHeartbeats 4000000 in
set_option maxRecDepth 100000 in
theorem m5_type (G : GT) (l : Launch) (a1 : Int64) (a3 : Int32)  (s0 : SS) (r : Int32) (s1 : SS) (hf : f5_type a1 a3 s0 = some (r, s1)) : MI G l yX5_type cX5_type 4 (some .int) 1 24 [.ref (aX G 0), .long a1, .int a3] (wX G s0) r (wX G s1) := by
  refine MI.start (by decide +kernel) (Nat.le_of_ble_eq_true rfl) (fun K hl C hret => ?_)
  subst hl
  have C : Ctx G K cX5_type RX5 4 1 24 := C
  change V G K (wX G s0) 0 [(0, .ref (aX G 0)), (1, .long a1), (3, .int a3)] []
  refine (?_ : tp (f5_type a1 a3 s0) (fun q => q = (r, s1)) → _) ⟨_, hf, rfl⟩
  rw [f5_type]
  refine v_iload_n (pc := 0) C 2 rfl dX5_type_0 ?_
  refine v_iconst (pc := 1) C 1 dX5_type_1 (by decide) ?_
  refine v_icmp_lt (pc := 2) C 11 dX5_type_2 (by decide) ?_ ?_
  · refine v_iconst (pc := 11) C (-1) dX5_type_11 (by decide) ?_
    exact tp_out (fun h => hret _ _ _ _ ⟨(Prod.mk.inj h).1, congrArg (wX G) (Prod.mk.inj h).2⟩ dX5_type_12)
  · refine v_iload_n (pc := 5) C 2 rfl dX5_type_5 ?_
    refine v_bipush (pc := 6) C 8 dX5_type_6 (by decide) ?_
    refine v_icmp_le (pc := 8) C 13 dX5_type_8 (by decide) ?_ ?_
    · refine v_aload_n (pc := 13) C 0 rfl dX5_type_13 ?_
      refine g5_text (pc := 14) C mw_24 dX5_type_14 ?_
      refine v_lload_n (pc := 17) C 1 rfl dX5_type_17 ?_
      refine v_iload_n (pc := 18) C 2 rfl dX5_type_18 ?_
      refine cIv2w (pc := 19) C (W2 := wX G) (fun r9 s9 h9 => m2_append G K.2.1 a1 a3 s0 r9 s9 h9) q_yX2_append mw_129 rc_2 ⟨by decide, by decide⟩ (Nat.le_of_ble_eq_true rfl) dX5_type_19 (fun x1 q2 => ?_)
      refine v_if_eq (pc := 22) C 35 dX5_type_22 (by decide) ?_ ?_
      · refine v_bipush (pc := 35) C (-3) dX5_type_35 (by decide) ?_
        exact tp_out (fun h => hret _ _ _ _ ⟨(Prod.mk.inj h).1, congrArg (wX G) (Prod.mk.inj h).2⟩ dX5_type_37)
      · refine v_aload_n (pc := 25) C 0 rfl dX5_type_25 ?_
        refine g5_text (pc := 26) C mw_24 dX5_type_26 ?_
        refine g2_length (pc := 29) C mw_128 dX5_type_29 ?_
        refine v_goto (pc := 32) C 37 dX5_type_32 (by decide) ?_
        exact tp_out (fun h => hret _ _ _ _ ⟨(Prod.mk.inj h).1, congrArg (wX G) (Prod.mk.inj h).2⟩ dX5_type_37)
    · refine v_iconst (pc := 11) C (-1) dX5_type_11 (by decide) ?_
      exact tp_out (fun h => hret _ _ _ _ ⟨(Prod.mk.inj h).1, congrArg (wX G) (Prod.mk.inj h).2⟩ dX5_type_12)
def f5_clear  (s0 : SS) : Option (Int32 × SS) := lt ((s0.1 2 1)) (fun x1 => lt (sI s0 2 1 0) (fun q2 => some (x1, q2)))
set_option maxHeartbeats 4000000 in
set_option maxRecDepth 100000 in
theorem m5_clear (G : GT) (l : Launch)   (s0 : SS) (r : Int32) (s1 : SS) (hf : f5_clear s0 = some (r, s1)) : MI G l yX5_clear cX5_clear 2 (some .int) 0 0 [.ref (aX G 0)] (wX G s0) r (wX G s1) := by
  refine MI.start (by decide +kernel) (Nat.le_of_ble_eq_true rfl) (fun K hl C hret => ?_)
  subst hl
  have C : Ctx G K cX5_clear RX5 2 0 0 := C
  change V G K (wX G s0) 0 [(0, .ref (aX G 0))] []
  refine (?_ : tp (f5_clear s0) (fun q => q = (r, s1)) → _) ⟨_, hf, rfl⟩
  rw [f5_clear]
  refine v_aload_n (pc := 0) C 0 rfl dX5_clear_0 ?_
  refine g5_text (pc := 1) C mw_24 dX5_clear_1 ?_
  refine g2_length (pc := 4) C mw_128 dX5_clear_4 ?_
  refine r_lti (fun x1 => ?_)
  refine v_istore_n (pc := 7) C dX5_clear_7 (by decide) (lv' := [(1, .int x1), (0, .ref (aX G 0))]) rfl ?_
  refine v_aload_n (pc := 8) C 1 rfl dX5_clear_8 ?_
  refine g5_text (pc := 9) C mw_24 dX5_clear_9 ?_
  refine v_iconst (pc := 12) C 0 dX5_clear_12 (by decide) ?_
  refine p2_length (pc := 13) C mw_128 dX5_clear_13 ?_
  refine r_ltx (fun q2 => ?_)
  refine v_iload_n (pc := 16) C 0 rfl dX5_clear_16 ?_
  exact tp_out (fun h => hret _ _ _ _ ⟨(Prod.mk.inj h).1, congrArg (wX G) (Prod.mk.inj h).2⟩ dX5_clear_17)
def f5_within (a0 : Int32) (t1 : Nat) (t2 : Nat) (a3 : Int32) (s0 : SS) : Option Int32 := lt (fun (_u : Unit) => some 0) (fun j1 => if a3 < 0 then j1 () else if a3 < (Int32.ofNat (tvl t1).length) then if a3 < (Int32.ofNat (tvl t2).length) then gd (inb a3 (tvl t1).length) (if a0 < ((tvl t1).getD a3.toNatClampNeg 0) then j1 () else gd (inb a3 (tvl t2).length) (if a0 ≤ ((tvl t2).getD a3.toNatClampNeg 0) then some 1 else j1 ())) else j1 () else j1 ())
set_option maxHeartbeats 4000000 in
set_option maxRecDepth 100000 in
theorem m5_within (G : GT) (l : Launch) (a0 : Int32) (t1 : Nat) (t2 : Nat) (a3 : Int32) (ht1 : t1 < 7) (ht2 : t2 < 7) (s0 : SS) (r : Int32) (hf : f5_within a0 t1 t2 a3 s0 = some r) : MI G l yX5_within cX5_within 4 (some .boolean) 0 0 [.int a0, .ref (gT G t1), .ref (gT G t2), .int a3] (wX G s0) r (wX G s0) := by
  refine MI.startZ (by decide +kernel) (Nat.le_of_ble_eq_true rfl) (fun K hl C hret => ?_)
  subst hl
  have C : Ctx G K cX5_within RX5 4 0 0 := C
  change V G K (wX G s0) 0 [(0, .int a0), (1, .ref (gT G t1)), (2, .ref (gT G t2)), (3, .int a3)] []
  refine (?_ : tp (f5_within a0 t1 t2 a3 s0) (fun q => q = r) → _) ⟨_, hf, rfl⟩
  rw [f5_within]
  refine v_iload_n (pc := 0) C 3 rfl dX5_within_0 ?_
  refine r_lJ (fun Φ0 j1 => ∀ (_u : Unit), tp (j1 ()) Φ0 → V G K (wX G s0) 34 [] []) (fun _u => ?_) (fun j1 hj2 => ?_)
  · refine v_iconst (pc := 34) C 0 dX5_within_34 (by decide) ?_
    exact tp_out (fun h => hret _ _ _ _ ⟨h, rfl⟩ (Or.inl rfl) dX5_within_35)
  refine v_if_lt (pc := 1) C 34 dX5_within_1 (by decide) ?_ ?_
  · exact v_to [] (hj2 ()) rfl
  · refine v_iload_n (pc := 4) C 3 rfl dX5_within_4 ?_
    refine v_aload_n (pc := 5) C 1 rfl dX5_within_5 ?_
    refine v_tlen (pc := 6) C t1 ht1 dX5_within_6 ?_
    refine v_icmp_ge (pc := 7) C 34 dX5_within_7 (by decide) ?_ ?_
    · refine v_iload_n (pc := 10) C 3 rfl dX5_within_10 ?_
      refine v_aload_n (pc := 11) C 2 rfl dX5_within_11 ?_
      refine v_tlen (pc := 12) C t2 ht2 dX5_within_12 ?_
      refine v_icmp_ge (pc := 13) C 34 dX5_within_13 (by decide) ?_ ?_
      · refine v_iload_n (pc := 16) C 0 rfl dX5_within_16 ?_
        refine v_aload_n (pc := 17) C 1 rfl dX5_within_17 ?_
        refine v_iload_n (pc := 18) C 3 rfl dX5_within_18 ?_
        refine v_tald (pc := 19) C t1 ht1 dX5_within_19 ?_
        refine v_icmp_lt (pc := 20) C 34 dX5_within_20 (by decide) ?_ ?_
        · exact v_to [] (hj2 ()) rfl
        · refine v_iload_n (pc := 23) C 0 rfl dX5_within_23 ?_
          refine v_aload_n (pc := 24) C 2 rfl dX5_within_24 ?_
          refine v_iload_n (pc := 25) C 3 rfl dX5_within_25 ?_
          refine v_tald (pc := 26) C t2 ht2 dX5_within_26 ?_
          refine v_icmp_gt (pc := 27) C 34 dX5_within_27 (by decide) ?_ ?_
          · refine v_iconst (pc := 30) C 1 dX5_within_30 (by decide) ?_
            refine v_goto (pc := 31) C 35 dX5_within_31 (by decide) ?_
            exact tp_out (fun h => hret _ _ _ _ ⟨h, rfl⟩ (Or.inr rfl) dX5_within_35)
          · exact v_to [] (hj2 ()) rfl
      · exact v_to [] (hj2 ()) rfl
    · exact v_to [] (hj2 ()) rfl
def f5_bit (a0 : Int32) : Option Int32 := if a0 = 0 then some 0 else some 1
set_option maxHeartbeats 4000000 in
set_option maxRecDepth 100000 in
theorem m5_bit (G : GT) (l : Launch) (a0 : Int32)  (w : va_W) (r : Int32) (hf : f5_bit a0 = some r) : MI G l yX5_bit cX5_bit 1 (some .int) 0 0 [.int a0] w r w := by
  refine MI.start (by decide +kernel) (Nat.le_of_ble_eq_true rfl) (fun K hl C hret => ?_)
  subst hl
  have C : Ctx G K cX5_bit RX5 1 0 0 := C
  change V G K w 0 [(0, .int a0)] []
  refine (?_ : tp (f5_bit a0) (fun q => q = r) → _) ⟨_, hf, rfl⟩
  rw [f5_bit]
  refine v_iload_n (pc := 0) C 0 rfl dX5_bit_0 ?_
  refine v_if_eq (pc := 1) C 8 dX5_bit_1 (by decide) ?_ ?_
  · refine v_iconst (pc := 8) C 0 dX5_bit_8 (by decide) ?_
    exact tp_out (fun h => hret _ _ _ _ ⟨h, rfl⟩ dX5_bit_9)
  · refine v_iconst (pc := 4) C 1 dX5_bit_4 (by decide) ?_
    refine v_goto (pc := 5) C 9 dX5_bit_5 (by decide) ?_
    exact tp_out (fun h => hret _ _ _ _ ⟨h, rfl⟩ dX5_bit_9)
def L5_readBranch_10 (c1 : Int32) : Nat → Int32 → SS → Option ((SS) ⊕ (Int32 × SS))
  | 0, _, _ => none
  | n + 1, v2, s => if v2 ≤ 3 then bd (f2_advance s) (fun q1 => if (q1.1 2 4) = 2 then bd (f5_within (q1.1 2 5) 1 2 v2 q1) (fun x2 => if x2 = 0 then some (.inr (0, q1)) else bd (f4_setFeature (q1.2.2 1) c1 v2 (q1.1 2 5) q1) (fun q3 => lt (v2 + 1) (fun x4 => L5_readBranch_10 c1 n x4 q3))) else some (.inr (0, q1))) else some (.inl s)
def f5_readBranch (a1 : Int32) (s0 : SS) : Option (Int32 × SS) := if a1 < 12 then bs1 (L5_readBranch_10 a1 FU 0 s0) (fun q5 => bd (f2_advance q5) (fun q6 => lt (fun (x9 : Int32) => lt (fun (q12 : SS) => lt (fun (x15 : Int32) => lt (fun (q18 : SS) => bd (f5_bit x9) (fun x19 => bd (f4_setFeature (q18.2.2 1) a1 4 x19 q18) (fun q20 => bd (f5_bit x15) (fun x21 => bd (f4_setFeature (q20.2.2 1) a1 5 x21 q20) (fun q22 => lt (sI q22 (wB (q22.2.2 1)) 0 (a1 + 1)) (fun q23 => if (q23.1 2 4) = 1 then some (1, q23) else some (0, q23))))))) (fun j16 => if x15 = 0 then j16 q12 else bd (f2_advance q12) (fun q24 => j16 q24))) (fun j13 => if (q12.1 2 4) = 5 then j13 1 else j13 0)) (fun j10 => if x9 = 0 then j10 q6 else bd (f2_advance q6) (fun q25 => j10 q25))) (fun j7 => if (q6.1 2 4) = 4 then j7 1 else j7 0))) (fun r => some r) else some (0, s0)
set_option maxHeartbeats 4000000 in
set_option maxRecDepth 100000 in
theorem l5_readBranch_10 {G : GT} {K : KT} (C : Ctx G K cX5_readBranch RX5 4 7 204) (c1 : Int32) {Ψ : SS → Prop} (hx : ∀ (so : SS), Ψ so → V G K (wX G so) 77 [(0, .ref (aX G 0)), (1, .int c1)] []) {Φr : (Int32 × SS) → Prop} (hr : ∀ (r : Int32) (sr : SS), Φr (r, sr) → (r = 0 ∨ r = 1) → ∀ (pc : Nat) (lv : List (Nat × Value)), decode cX5_readBranch pc = .ok (.ireturn, 1) → V G K (wX G sr) pc lv [.int r]) : ∀ (n : Nat) (v2 : Int32) (s : SS), tp (L5_readBranch_10 c1 n v2 s) (uS (k1 Ψ) Φr) → V G K (wX G s) 10 [(0, .ref (aX G 0)), (1, .int c1), (2, .int v2)] [] := by
  intro n
  induction n with
  | zero => intro v2 s h; exact tp_no h
  | succ n ih =>
    intro v2 s
    rw [L5_readBranch_10]
    refine v_iload_n (pc := 10) C 2 rfl dX5_readBranch_10 ?_
    refine v_iconst (pc := 11) C 3 dX5_readBranch_11 (by decide) ?_
    refine v_icmp_gt (pc := 12) C 77 dX5_readBranch_12 (by decide) ?_ ?_
    · refine v_aload_n (pc := 15) C 0 rfl dX5_readBranch_15 ?_
      refine g5_text (pc := 16) C mw_24 dX5_readBranch_16 ?_
      refine cVv0w (pc := 19) C (W2 := wX G) (fun s9 h9 => m2_advance G K.2.1 s s9 h9) q_yX2_advance mw_173 rc_2 ⟨by decide, by decide⟩ (Nat.le_of_ble_eq_true rfl) dX5_readBranch_19 (fun q1 => ?_)
      refine v_aload_n (pc := 22) C 0 rfl dX5_readBranch_22 ?_
      refine g5_text (pc := 23) C mw_24 dX5_readBranch_23 ?_
      refine g2_token (pc := 26) C mw_163 dX5_readBranch_26 ?_
      refine v_iconst (pc := 29) C 2 dX5_readBranch_29 (by decide) ?_
      refine v_icmp_ne (pc := 30) C 53 dX5_readBranch_30 (by decide) ?_ ?_
      · refine v_aload_n (pc := 33) C 0 rfl dX5_readBranch_33 ?_
        refine g5_text (pc := 34) C mw_24 dX5_readBranch_34 ?_
        refine g2_number (pc := 37) C mw_256 dX5_readBranch_37 ?_
        refine v_gets (pc := 40) C 1 (by decide) mw_257 dX5_readBranch_40 ?_
        refine v_gets (pc := 43) C 2 (by decide) mw_258 dX5_readBranch_43 ?_
        refine v_iload_n (pc := 46) C 2 rfl dX5_readBranch_46 ?_
        refine cIs4r (pc := 47) C (fun r9 h9 => m5_within G K.2.1 (q1.1 2 5) 1 2 v2 (by decide) (by decide) q1 r9 h9) q_yX5_within mw_259 ⟨by decide, by decide⟩ (Nat.le_of_ble_eq_true rfl) dX5_readBranch_47 (fun x2 => ?_)
        refine v_if_ne (pc := 50) C 55 dX5_readBranch_50 (by decide) ?_ ?_
        · refine v_iconst (pc := 53) C 0 dX5_readBranch_53 (by decide) ?_
          exact tp_out (fun h => hr _ _ h (Or.inl rfl) _ _ dX5_readBranch_54)
        · refine v_aload_n (pc := 55) C 0 rfl dX5_readBranch_55 ?_
          refine g5_draft (pc := 56) C mw_42 dX5_readBranch_56 ?_
          refine v_iload_n (pc := 59) C 1 rfl dX5_readBranch_59 ?_
          refine v_iload_n (pc := 60) C 2 rfl dX5_readBranch_60 ?_
          refine v_aload_n (pc := 61) C 0 rfl dX5_readBranch_61 ?_
          refine g5_text (pc := 62) C mw_24 dX5_readBranch_62 ?_
          refine g2_number (pc := 65) C mw_256 dX5_readBranch_65 ?_
          refine cVv3w (pc := 68) C (W2 := wX G) (fun s9 h9 => m4_setFeature G K.2.1 (q1.2.2 1) c1 v2 (q1.1 2 5) q1 s9 h9) q_yX4_setFeature mw_262 (rc_4 (q1.2.2 1)) ⟨by decide, by decide⟩ (Nat.le_of_ble_eq_true rfl) dX5_readBranch_68 (fun q3 => ?_)
          refine v_iincL (pc := 71) C 1 2 dX5_readBranch_71 rfl (by decide) (by decide) (lv0 := [(0, .ref (aX G 0)), (1, .int c1)]) rfl (fun x4 => ?_)
          refine v_goto (pc := 74) C 10 dX5_readBranch_74 (by decide) ?_
          exact v_to [1, 2, 0] (ih _ _) rfl
      · refine v_iconst (pc := 53) C 0 dX5_readBranch_53 (by decide) ?_
        exact tp_out (fun h => hr _ _ h (Or.inl rfl) _ _ dX5_readBranch_54)
    · exact tp_out (fun h => v_to [0, 1] (hx _) rfl h)
set_option maxHeartbeats 4000000 in
set_option maxRecDepth 100000 in
theorem m5_readBranch (G : GT) (l : Launch) (a1 : Int32)  (s0 : SS) (r : Int32) (s1 : SS) (hf : f5_readBranch a1 s0 = some (r, s1)) : MI G l yX5_readBranch cX5_readBranch 4 (some .boolean) 7 204 [.ref (aX G 0), .int a1] (wX G s0) r (wX G s1) := by
  refine MI.startZ (by decide +kernel) (Nat.le_of_ble_eq_true rfl) (fun K hl C hret => ?_)
  subst hl
  have C : Ctx G K cX5_readBranch RX5 4 7 204 := C
  change V G K (wX G s0) 0 [(0, .ref (aX G 0)), (1, .int a1)] []
  refine (?_ : tp (f5_readBranch a1 s0) (fun q => q = (r, s1)) → _) ⟨_, hf, rfl⟩
  rw [f5_readBranch]
  refine v_iload_n (pc := 0) C 1 rfl dX5_readBranch_0 ?_
  refine v_bipush (pc := 1) C 12 dX5_readBranch_1 (by decide) ?_
  refine v_icmp_lt (pc := 3) C 8 dX5_readBranch_3 (by decide) ?_ ?_
  · refine v_iconst (pc := 8) C 0 dX5_readBranch_8 (by decide) ?_
    refine v_istore_n (pc := 9) C dX5_readBranch_9 (by decide) (lv' := [(2, .int 0), (0, .ref (aX G 0)), (1, .int a1)]) rfl ?_
    refine r_bs1 ?_
    refine v_to [1, 2, 0] (l5_readBranch_10 C a1 (fun q5 => ?_) ?hr FU _ _) rfl
    case hr => exact (fun r9 s9 h hz pc lv d => by obtain ⟨a9, e9, h⟩ := h; cases e9; exact hret _ _ _ _ ⟨(Prod.mk.inj h).1, congrArg (wX G) (Prod.mk.inj h).2⟩ hz d)
    refine v_aload_n (pc := 77) C 0 rfl dX5_readBranch_77 ?_
    refine g5_text (pc := 78) C mw_24 dX5_readBranch_78 ?_
    refine cVv0w (pc := 81) C (W2 := wX G) (fun s9 h9 => m2_advance G K.2.1 q5 s9 h9) q_yX2_advance mw_173 rc_2 ⟨by decide, by decide⟩ (Nat.le_of_ble_eq_true rfl) dX5_readBranch_81 (fun q6 => ?_)
    refine v_aload_n (pc := 84) C 0 rfl dX5_readBranch_84 ?_
    refine g5_text (pc := 85) C mw_24 dX5_readBranch_85 ?_
    refine g2_token (pc := 88) C mw_163 dX5_readBranch_88 ?_
    refine v_iconst (pc := 91) C 4 dX5_readBranch_91 (by decide) ?_
    refine r_lJ (fun Φ0 j7 => ∀ (x9 : Int32), tp (j7 x9) Φ0 → V G K (wX G q6) 100 [(0, .ref (aX G 0)), (1, .int a1)] [.int x9]) (fun x9 => ?_) (fun j7 hj8 => ?_)
    · refine v_istore_n (pc := 100) C dX5_readBranch_100 (by decide) (lv' := [(2, .int x9), (0, .ref (aX G 0)), (1, .int a1)]) rfl ?_
      refine v_iload_n (pc := 101) C 0 rfl dX5_readBranch_101 ?_
      refine r_lJ (fun Φ0 j10 => ∀ (q12 : SS), tp (j10 q12) Φ0 → V G K (wX G q12) 112 [(0, .ref (aX G 0)), (1, .int a1), (2, .int x9)] []) (fun q12 => ?_) (fun j10 hj11 => ?_)
      · refine v_aload_n (pc := 112) C 0 rfl dX5_readBranch_112 ?_
        refine g5_text (pc := 113) C mw_24 dX5_readBranch_113 ?_
        refine g2_token (pc := 116) C mw_163 dX5_readBranch_116 ?_
        refine v_iconst (pc := 119) C 5 dX5_readBranch_119 (by decide) ?_
        refine r_lJ (fun Φ0 j13 => ∀ (x15 : Int32), tp (j13 x15) Φ0 → V G K (wX G q12) 128 [(0, .ref (aX G 0)), (1, .int a1), (2, .int x9)] [.int x15]) (fun x15 => ?_) (fun j13 hj14 => ?_)
        · refine v_istore_n (pc := 128) C dX5_readBranch_128 (by decide) (lv' := [(3, .int x15), (0, .ref (aX G 0)), (1, .int a1), (2, .int x9)]) rfl ?_
          refine v_iload_n (pc := 129) C 0 rfl dX5_readBranch_129 ?_
          refine r_lJ (fun Φ0 j16 => ∀ (q18 : SS), tp (j16 q18) Φ0 → V G K (wX G q18) 140 [(0, .ref (aX G 0)), (1, .int a1), (2, .int x9), (3, .int x15)] []) (fun q18 => ?_) (fun j16 hj17 => ?_)
          · refine v_aload_n (pc := 140) C 0 rfl dX5_readBranch_140 ?_
            refine g5_draft (pc := 141) C mw_42 dX5_readBranch_141 ?_
            refine v_iload_n (pc := 144) C 1 rfl dX5_readBranch_144 ?_
            refine v_iconst (pc := 145) C 4 dX5_readBranch_145 (by decide) ?_
            refine v_iload_n (pc := 146) C 2 rfl dX5_readBranch_146 ?_
            refine cIs1r (pc := 147) C (fun r9 h9 => m5_bit G K.2.1 x9 _ r9 h9) q_yX5_bit mw_266 ⟨by decide, by decide⟩ (Nat.le_of_ble_eq_true rfl) dX5_readBranch_147 (fun x19 => ?_)
            refine cVv3w (pc := 150) C (W2 := wX G) (fun s9 h9 => m4_setFeature G K.2.1 (q18.2.2 1) a1 4 x19 q18 s9 h9) q_yX4_setFeature mw_262 (rc_4 (q18.2.2 1)) ⟨by decide, by decide⟩ (Nat.le_of_ble_eq_true rfl) dX5_readBranch_150 (fun q20 => ?_)
            refine v_aload_n (pc := 153) C 0 rfl dX5_readBranch_153 ?_
            refine g5_draft (pc := 154) C mw_42 dX5_readBranch_154 ?_
            refine v_iload_n (pc := 157) C 1 rfl dX5_readBranch_157 ?_
            refine v_iconst (pc := 158) C 5 dX5_readBranch_158 (by decide) ?_
            refine v_iload_n (pc := 159) C 3 rfl dX5_readBranch_159 ?_
            refine cIs1r (pc := 160) C (fun r9 h9 => m5_bit G K.2.1 x15 _ r9 h9) q_yX5_bit mw_266 ⟨by decide, by decide⟩ (Nat.le_of_ble_eq_true rfl) dX5_readBranch_160 (fun x21 => ?_)
            refine cVv3w (pc := 163) C (W2 := wX G) (fun s9 h9 => m4_setFeature G K.2.1 (q20.2.2 1) a1 5 x21 q20 s9 h9) q_yX4_setFeature mw_262 (rc_4 (q20.2.2 1)) ⟨by decide, by decide⟩ (Nat.le_of_ble_eq_true rfl) dX5_readBranch_163 (fun q22 => ?_)
            refine v_aload_n (pc := 166) C 0 rfl dX5_readBranch_166 ?_
            refine g5_draft (pc := 167) C mw_42 dX5_readBranch_167 ?_
            refine v_iload_n (pc := 170) C 1 rfl dX5_readBranch_170 ?_
            refine v_iconst (pc := 171) C 1 dX5_readBranch_171 (by decide) ?_
            refine v_iadd (pc := 172) C dX5_readBranch_172 ?_
            refine p4_branches (q22.2.2 1) (pc := 173) C mw_157 dX5_readBranch_173 ?_
            refine r_ltx (fun q23 => ?_)
            refine v_aload_n (pc := 176) C 0 rfl dX5_readBranch_176 ?_
            refine g5_text (pc := 177) C mw_24 dX5_readBranch_177 ?_
            refine g2_token (pc := 180) C mw_163 dX5_readBranch_180 ?_
            refine v_iconst (pc := 183) C 1 dX5_readBranch_183 (by decide) ?_
            refine v_icmp_ne (pc := 184) C 191 dX5_readBranch_184 (by decide) ?_ ?_
            · refine v_iconst (pc := 187) C 1 dX5_readBranch_187 (by decide) ?_
              refine v_goto (pc := 188) C 192 dX5_readBranch_188 (by decide) ?_
              exact tp_out (fun h => hret _ _ _ _ ⟨(Prod.mk.inj h).1, congrArg (wX G) (Prod.mk.inj h).2⟩ (Or.inr rfl) dX5_readBranch_192)
            · refine v_iconst (pc := 191) C 0 dX5_readBranch_191 (by decide) ?_
              exact tp_out (fun h => hret _ _ _ _ ⟨(Prod.mk.inj h).1, congrArg (wX G) (Prod.mk.inj h).2⟩ (Or.inl rfl) dX5_readBranch_192)
          refine v_if_eq (pc := 130) C 140 dX5_readBranch_130 (by decide) ?_ ?_
          · exact v_to [1, 2, 3, 0] (hj17 _) rfl
          · refine v_aload_n (pc := 133) C 1 rfl dX5_readBranch_133 ?_
            refine g5_text (pc := 134) C mw_24 dX5_readBranch_134 ?_
            refine cVv0w (pc := 137) C (W2 := wX G) (fun s9 h9 => m2_advance G K.2.1 q12 s9 h9) q_yX2_advance mw_173 rc_2 ⟨by decide, by decide⟩ (Nat.le_of_ble_eq_true rfl) dX5_readBranch_137 (fun q24 => ?_)
            exact v_to [1, 2, 3, 0] (hj17 _) rfl
        refine v_icmp_ne (pc := 120) C 127 dX5_readBranch_120 (by decide) ?_ ?_
        · refine v_iconst (pc := 123) C 1 dX5_readBranch_123 (by decide) ?_
          refine v_goto (pc := 124) C 128 dX5_readBranch_124 (by decide) ?_
          exact v_to [0, 1, 2] (hj14 _) rfl
        · refine v_iconst (pc := 127) C 0 dX5_readBranch_127 (by decide) ?_
          exact v_to [0, 1, 2] (hj14 _) rfl
      refine v_if_eq (pc := 102) C 112 dX5_readBranch_102 (by decide) ?_ ?_
      · exact v_to [1, 2, 0] (hj11 _) rfl
      · refine v_aload_n (pc := 105) C 1 rfl dX5_readBranch_105 ?_
        refine g5_text (pc := 106) C mw_24 dX5_readBranch_106 ?_
        refine cVv0w (pc := 109) C (W2 := wX G) (fun s9 h9 => m2_advance G K.2.1 q6 s9 h9) q_yX2_advance mw_173 rc_2 ⟨by decide, by decide⟩ (Nat.le_of_ble_eq_true rfl) dX5_readBranch_109 (fun q25 => ?_)
        exact v_to [1, 2, 0] (hj11 _) rfl
    refine v_icmp_ne (pc := 92) C 99 dX5_readBranch_92 (by decide) ?_ ?_
    · refine v_iconst (pc := 95) C 1 dX5_readBranch_95 (by decide) ?_
      refine v_goto (pc := 96) C 100 dX5_readBranch_96 (by decide) ?_
      exact v_to [0, 1] (hj8 _) rfl
    · refine v_iconst (pc := 99) C 0 dX5_readBranch_99 (by decide) ?_
      exact v_to [0, 1] (hj8 _) rfl
  · refine v_iconst (pc := 6) C 0 dX5_readBranch_6 (by decide) ?_
    exact tp_out (fun h => hret _ _ _ _ ⟨(Prod.mk.inj h).1, congrArg (wX G) (Prod.mk.inj h).2⟩ (Or.inl rfl) dX5_readBranch_7)
def L5_readBody_9 (c1 : Int32) : Nat → Int32 → SS → Option ((SS) ⊕ (Int32 × SS))
  | 0, _, _ => none
  | n + 1, v2, s => if v2 ≤ 2 then bd (f2_advance s) (fun q1 => if (q1.1 2 4) = 2 then bd (f5_within (q1.1 2 5) 3 4 v2 q1) (fun x2 => if x2 = 0 then some (.inr (0, q1)) else bd (f4_setPower (q1.2.2 1) c1 v2 (q1.1 2 5) q1) (fun q3 => lt (v2 + 1) (fun x4 => L5_readBody_9 c1 n x4 q3))) else some (.inr (0, q1))) else some (.inl s)
def f5_readBody (a1 : Int32) (s0 : SS) : Option (Int32 × SS) := if a1 < 3 then bs1 (L5_readBody_9 a1 FU 0 s0) (fun q5 => bd (f2_advance q5) (fun q6 => lt (sI q6 (wB (q6.2.2 1)) 1 (a1 + 1)) (fun q7 => if (q7.1 2 4) = 1 then some (1, q7) else some (0, q7)))) (fun r => some r) else some (0, s0)
set_option maxHeartbeats 4000000 in
set_option maxRecDepth 100000 in
theorem l5_readBody_9 {G : GT} {K : KT} (C : Ctx G K cX5_readBody RX5 3 7 204) (c1 : Int32) {Ψ : SS → Prop} (hx : ∀ (so : SS), Ψ so → V G K (wX G so) 76 [(0, .ref (aX G 0)), (1, .int c1)] []) {Φr : (Int32 × SS) → Prop} (hr : ∀ (r : Int32) (sr : SS), Φr (r, sr) → (r = 0 ∨ r = 1) → ∀ (pc : Nat) (lv : List (Nat × Value)), decode cX5_readBody pc = .ok (.ireturn, 1) → V G K (wX G sr) pc lv [.int r]) : ∀ (n : Nat) (v2 : Int32) (s : SS), tp (L5_readBody_9 c1 n v2 s) (uS (k1 Ψ) Φr) → V G K (wX G s) 9 [(0, .ref (aX G 0)), (1, .int c1), (2, .int v2)] [] := by
  intro n
  induction n with
  | zero => intro v2 s h; exact tp_no h
  | succ n ih =>
    intro v2 s
    rw [L5_readBody_9]
    refine v_iload_n (pc := 9) C 2 rfl dX5_readBody_9 ?_
    refine v_iconst (pc := 10) C 2 dX5_readBody_10 (by decide) ?_
    refine v_icmp_gt (pc := 11) C 76 dX5_readBody_11 (by decide) ?_ ?_
    · refine v_aload_n (pc := 14) C 0 rfl dX5_readBody_14 ?_
      refine g5_text (pc := 15) C mw_24 dX5_readBody_15 ?_
      refine cVv0w (pc := 18) C (W2 := wX G) (fun s9 h9 => m2_advance G K.2.1 s s9 h9) q_yX2_advance mw_173 rc_2 ⟨by decide, by decide⟩ (Nat.le_of_ble_eq_true rfl) dX5_readBody_18 (fun q1 => ?_)
      refine v_aload_n (pc := 21) C 0 rfl dX5_readBody_21 ?_
      refine g5_text (pc := 22) C mw_24 dX5_readBody_22 ?_
      refine g2_token (pc := 25) C mw_163 dX5_readBody_25 ?_
      refine v_iconst (pc := 28) C 2 dX5_readBody_28 (by decide) ?_
      refine v_icmp_ne (pc := 29) C 52 dX5_readBody_29 (by decide) ?_ ?_
      · refine v_aload_n (pc := 32) C 0 rfl dX5_readBody_32 ?_
        refine g5_text (pc := 33) C mw_24 dX5_readBody_33 ?_
        refine g2_number (pc := 36) C mw_256 dX5_readBody_36 ?_
        refine v_gets (pc := 39) C 3 (by decide) mw_273 dX5_readBody_39 ?_
        refine v_gets (pc := 42) C 4 (by decide) mw_274 dX5_readBody_42 ?_
        refine v_iload_n (pc := 45) C 2 rfl dX5_readBody_45 ?_
        refine cIs4r (pc := 46) C (fun r9 h9 => m5_within G K.2.1 (q1.1 2 5) 3 4 v2 (by decide) (by decide) q1 r9 h9) q_yX5_within mw_259 ⟨by decide, by decide⟩ (Nat.le_of_ble_eq_true rfl) dX5_readBody_46 (fun x2 => ?_)
        refine v_if_ne (pc := 49) C 54 dX5_readBody_49 (by decide) ?_ ?_
        · refine v_iconst (pc := 52) C 0 dX5_readBody_52 (by decide) ?_
          exact tp_out (fun h => hr _ _ h (Or.inl rfl) _ _ dX5_readBody_53)
        · refine v_aload_n (pc := 54) C 0 rfl dX5_readBody_54 ?_
          refine g5_draft (pc := 55) C mw_42 dX5_readBody_55 ?_
          refine v_iload_n (pc := 58) C 1 rfl dX5_readBody_58 ?_
          refine v_iload_n (pc := 59) C 2 rfl dX5_readBody_59 ?_
          refine v_aload_n (pc := 60) C 0 rfl dX5_readBody_60 ?_
          refine g5_text (pc := 61) C mw_24 dX5_readBody_61 ?_
          refine g2_number (pc := 64) C mw_256 dX5_readBody_64 ?_
          refine cVv3w (pc := 67) C (W2 := wX G) (fun s9 h9 => m4_setPower G K.2.1 (q1.2.2 1) c1 v2 (q1.1 2 5) q1 s9 h9) q_yX4_setPower mw_275 (rc_4 (q1.2.2 1)) ⟨by decide, by decide⟩ (Nat.le_of_ble_eq_true rfl) dX5_readBody_67 (fun q3 => ?_)
          refine v_iincL (pc := 70) C 1 2 dX5_readBody_70 rfl (by decide) (by decide) (lv0 := [(0, .ref (aX G 0)), (1, .int c1)]) rfl (fun x4 => ?_)
          refine v_goto (pc := 73) C 9 dX5_readBody_73 (by decide) ?_
          exact v_to [1, 2, 0] (ih _ _) rfl
      · refine v_iconst (pc := 52) C 0 dX5_readBody_52 (by decide) ?_
        exact tp_out (fun h => hr _ _ h (Or.inl rfl) _ _ dX5_readBody_53)
    · exact tp_out (fun h => v_to [0, 1] (hx _) rfl h)
set_option maxHeartbeats 4000000 in
set_option maxRecDepth 100000 in
theorem m5_readBody (G : GT) (l : Launch) (a1 : Int32)  (s0 : SS) (r : Int32) (s1 : SS) (hf : f5_readBody a1 s0 = some (r, s1)) : MI G l yX5_readBody cX5_readBody 3 (some .boolean) 7 204 [.ref (aX G 0), .int a1] (wX G s0) r (wX G s1) := by
  refine MI.startZ (by decide +kernel) (Nat.le_of_ble_eq_true rfl) (fun K hl C hret => ?_)
  subst hl
  have C : Ctx G K cX5_readBody RX5 3 7 204 := C
  change V G K (wX G s0) 0 [(0, .ref (aX G 0)), (1, .int a1)] []
  refine (?_ : tp (f5_readBody a1 s0) (fun q => q = (r, s1)) → _) ⟨_, hf, rfl⟩
  rw [f5_readBody]
  refine v_iload_n (pc := 0) C 1 rfl dX5_readBody_0 ?_
  refine v_iconst (pc := 1) C 3 dX5_readBody_1 (by decide) ?_
  refine v_icmp_lt (pc := 2) C 7 dX5_readBody_2 (by decide) ?_ ?_
  · refine v_iconst (pc := 7) C 0 dX5_readBody_7 (by decide) ?_
    refine v_istore_n (pc := 8) C dX5_readBody_8 (by decide) (lv' := [(2, .int 0), (0, .ref (aX G 0)), (1, .int a1)]) rfl ?_
    refine r_bs1 ?_
    refine v_to [1, 2, 0] (l5_readBody_9 C a1 (fun q5 => ?_) ?hr FU _ _) rfl
    case hr => exact (fun r9 s9 h hz pc lv d => by obtain ⟨a9, e9, h⟩ := h; cases e9; exact hret _ _ _ _ ⟨(Prod.mk.inj h).1, congrArg (wX G) (Prod.mk.inj h).2⟩ hz d)
    refine v_aload_n (pc := 76) C 0 rfl dX5_readBody_76 ?_
    refine g5_text (pc := 77) C mw_24 dX5_readBody_77 ?_
    refine cVv0w (pc := 80) C (W2 := wX G) (fun s9 h9 => m2_advance G K.2.1 q5 s9 h9) q_yX2_advance mw_173 rc_2 ⟨by decide, by decide⟩ (Nat.le_of_ble_eq_true rfl) dX5_readBody_80 (fun q6 => ?_)
    refine v_aload_n (pc := 83) C 0 rfl dX5_readBody_83 ?_
    refine g5_draft (pc := 84) C mw_42 dX5_readBody_84 ?_
    refine v_iload_n (pc := 87) C 1 rfl dX5_readBody_87 ?_
    refine v_iconst (pc := 88) C 1 dX5_readBody_88 (by decide) ?_
    refine v_iadd (pc := 89) C dX5_readBody_89 ?_
    refine p4_bodies (q6.2.2 1) (pc := 90) C mw_158 dX5_readBody_90 ?_
    refine r_ltx (fun q7 => ?_)
    refine v_aload_n (pc := 93) C 0 rfl dX5_readBody_93 ?_
    refine g5_text (pc := 94) C mw_24 dX5_readBody_94 ?_
    refine g2_token (pc := 97) C mw_163 dX5_readBody_97 ?_
    refine v_iconst (pc := 100) C 1 dX5_readBody_100 (by decide) ?_
    refine v_icmp_ne (pc := 101) C 108 dX5_readBody_101 (by decide) ?_ ?_
    · refine v_iconst (pc := 104) C 1 dX5_readBody_104 (by decide) ?_
      refine v_goto (pc := 105) C 109 dX5_readBody_105 (by decide) ?_
      exact tp_out (fun h => hret _ _ _ _ ⟨(Prod.mk.inj h).1, congrArg (wX G) (Prod.mk.inj h).2⟩ (Or.inr rfl) dX5_readBody_109)
    · refine v_iconst (pc := 108) C 0 dX5_readBody_108 (by decide) ?_
      exact tp_out (fun h => hret _ _ _ _ ⟨(Prod.mk.inj h).1, congrArg (wX G) (Prod.mk.inj h).2⟩ (Or.inl rfl) dX5_readBody_109)
  · refine v_iconst (pc := 5) C 0 dX5_readBody_5 (by decide) ?_
    exact tp_out (fun h => hret _ _ _ _ ⟨(Prod.mk.inj h).1, congrArg (wX G) (Prod.mk.inj h).2⟩ (Or.inl rfl) dX5_readBody_6)
def L5_readText_16 : Nat → Int32 → SS → Option ((SS) ⊕ (Int32 × SS))
  | 0, _, _ => none
  | n + 1, v1, s => if v1 ≤ 15 then bd (f2_advance s) (fun q3 => if (q3.1 2 4) = 0 then some (.inr ((-1), q3)) else lt (fun (x6 : Int32) (q7 : SS) => if x6 = 0 then some (.inr ((q7.1 2 3), q7)) else lt (v1 + 1) (fun x8 => L5_readText_16 n x8 q7)) (fun j4 => if (q3.1 2 4) = 3 then bk2 (f5_readBranch (q3.1 (wB (q3.2.2 1)) 0) q3) (fun x9 q10 => j4 x9 q10) else lt (fun (q13 : SS) => j4 0 q13) (fun j11 => if (q3.1 2 4) = 6 then bk2 (f5_readBody (q3.1 (wB (q3.2.2 1)) 1) q3) (fun x14 q15 => if x14 = 0 then j11 q15 else j4 1 q15) else j11 q3))) else some (.inl s)
def f5_readText  (s0 : SS) : Option (Int32 × SS) := bd (f4_empty (s0.2.2 1) s0) (fun q1 => bd (f2_rewind q1) (fun q2 => bs1 (L5_readText_16 FU 0 q2) (fun q16 => some ((q16.1 2 3), q16)) (fun r => some r)))
set_option maxHeartbeats 4000000 in
set_option maxRecDepth 100000 in
theorem l5_readText_16 {G : GT} {K : KT} (C : Ctx G K cX5_readText RX5 3 8 227) {Ψ : SS → Prop} (hx : ∀ (so : SS), Ψ so → V G K (wX G so) 116 [(0, .ref (aX G 0))] []) {Φr : (Int32 × SS) → Prop} (hr : ∀ (r : Int32) (sr : SS), Φr (r, sr) → ∀ (pc : Nat) (lv : List (Nat × Value)), decode cX5_readText pc = .ok (.ireturn, 1) → V G K (wX G sr) pc lv [.int r]) : ∀ (n : Nat) (v1 : Int32) (s : SS), tp (L5_readText_16 n v1 s) (uS (k1 Ψ) Φr) → V G K (wX G s) 16 [(0, .ref (aX G 0)), (1, .int v1)] [] := by
  intro n
  induction n with
  | zero => intro v1 s h; exact tp_no h
  | succ n ih =>
    intro v1 s
    rw [L5_readText_16]
    refine v_iload_n (pc := 16) C 1 rfl dX5_readText_16 ?_
    refine v_bipush (pc := 17) C 15 dX5_readText_17 (by decide) ?_
    refine v_icmp_gt (pc := 19) C 116 dX5_readText_19 (by decide) ?_ ?_
    · refine v_aload_n (pc := 22) C 0 rfl dX5_readText_22 ?_
      refine g5_text (pc := 23) C mw_24 dX5_readText_23 ?_
      refine cVv0w (pc := 26) C (W2 := wX G) (fun s9 h9 => m2_advance G K.2.1 s s9 h9) q_yX2_advance mw_173 rc_2 ⟨by decide, by decide⟩ (Nat.le_of_ble_eq_true rfl) dX5_readText_26 (fun q3 => ?_)
      refine v_aload_n (pc := 29) C 0 rfl dX5_readText_29 ?_
      refine g5_text (pc := 30) C mw_24 dX5_readText_30 ?_
      refine g2_token (pc := 33) C mw_163 dX5_readText_33 ?_
      refine v_if_ne (pc := 36) C 41 dX5_readText_36 (by decide) ?_ ?_
      · refine v_iconst (pc := 39) C (-1) dX5_readText_39 (by decide) ?_
        exact tp_out (fun h => hr _ _ h _ _ dX5_readText_40)
      · refine v_aload_n (pc := 41) C 0 rfl dX5_readText_41 ?_
        refine g5_text (pc := 42) C mw_24 dX5_readText_42 ?_
        refine g2_token (pc := 45) C mw_163 dX5_readText_45 ?_
        refine v_iconst (pc := 48) C 3 dX5_readText_48 (by decide) ?_
        refine r_lJ (fun Φ0 j4 => ∀ (x6 : Int32) (q7 : SS), tp (j4 x6 q7) Φ0 → V G K (wX G q7) 97 [(0, .ref (aX G 0)), (1, .int v1)] [.int x6]) (fun x6 q7 => ?_) (fun j4 hj5 => ?_)
        · refine v_istore_n (pc := 97) C dX5_readText_97 (by decide) (lv' := [(2, .int x6), (0, .ref (aX G 0)), (1, .int v1)]) rfl ?_
          refine v_iload_n (pc := 98) C 0 rfl dX5_readText_98 ?_
          refine v_if_ne (pc := 99) C 110 dX5_readText_99 (by decide) ?_ ?_
          · refine v_aload_n (pc := 102) C 1 rfl dX5_readText_102 ?_
            refine g5_text (pc := 103) C mw_24 dX5_readText_103 ?_
            refine g2_start (pc := 106) C mw_164 dX5_readText_106 ?_
            exact tp_out (fun h => hr _ _ h _ _ dX5_readText_109)
          · refine v_iincL (pc := 110) C 1 2 dX5_readText_110 rfl (by decide) (by decide) (lv0 := [(2, .int x6), (0, .ref (aX G 0))]) rfl (fun x8 => ?_)
            refine v_goto (pc := 113) C 16 dX5_readText_113 (by decide) ?_
            exact v_to [2, 0] (ih _ _) rfl
        refine v_icmp_ne (pc := 49) C 66 dX5_readText_49 (by decide) ?_ ?_
        · refine v_aload_n (pc := 52) C 0 rfl dX5_readText_52 ?_
          refine v_aload_n (pc := 53) C 0 rfl dX5_readText_53 ?_
          refine g5_draft (pc := 54) C mw_42 dX5_readText_54 ?_
          refine g4_branches (q3.2.2 1) (pc := 57) C mw_157 dX5_readText_57 ?_
          refine cIv1w (pc := 60) C (W2 := wX G) (fun r9 s9 h9 => m5_readBranch G K.2.1 (q3.1 (wB (q3.2.2 1)) 0) q3 r9 s9 h9) q_yX5_readBranch mw_252 rc_5 ⟨by decide, by decide⟩ (Nat.le_of_ble_eq_true rfl) dX5_readText_60 (fun x9 q10 => ?_)
          refine v_goto (pc := 63) C 97 dX5_readText_63 (by decide) ?_
          exact v_to [0, 1] (hj5 _ _) rfl
        · refine v_aload_n (pc := 66) C 0 rfl dX5_readText_66 ?_
          refine g5_text (pc := 67) C mw_24 dX5_readText_67 ?_
          refine g2_token (pc := 70) C mw_163 dX5_readText_70 ?_
          refine v_bipush (pc := 73) C 6 dX5_readText_73 (by decide) ?_
          refine r_lJ (fun Φ0 j11 => ∀ (q13 : SS), tp (j11 q13) Φ0 → V G K (wX G q13) 96 [(0, .ref (aX G 0)), (1, .int v1)] []) (fun q13 => ?_) (fun j11 hj12 => ?_)
          · refine v_iconst (pc := 96) C 0 dX5_readText_96 (by decide) ?_
            exact v_to [0, 1] (hj5 _ _) rfl
          refine v_icmp_ne (pc := 75) C 96 dX5_readText_75 (by decide) ?_ ?_
          · refine v_aload_n (pc := 78) C 0 rfl dX5_readText_78 ?_
            refine v_aload_n (pc := 79) C 0 rfl dX5_readText_79 ?_
            refine g5_draft (pc := 80) C mw_42 dX5_readText_80 ?_
            refine g4_bodies (q3.2.2 1) (pc := 83) C mw_158 dX5_readText_83 ?_
            refine cIv1w (pc := 86) C (W2 := wX G) (fun r9 s9 h9 => m5_readBody G K.2.1 (q3.1 (wB (q3.2.2 1)) 1) q3 r9 s9 h9) q_yX5_readBody mw_269 rc_5 ⟨by decide, by decide⟩ (Nat.le_of_ble_eq_true rfl) dX5_readText_86 (fun x14 q15 => ?_)
            refine v_if_eq (pc := 89) C 96 dX5_readText_89 (by decide) ?_ ?_
            · exact v_to [0, 1] (hj12 _) rfl
            · refine v_iconst (pc := 92) C 1 dX5_readText_92 (by decide) ?_
              refine v_goto (pc := 93) C 97 dX5_readText_93 (by decide) ?_
              exact v_to [0, 1] (hj5 _ _) rfl
          · exact v_to [0, 1] (hj12 _) rfl
    · exact tp_out (fun h => v_to [0] (hx _) rfl h)
set_option maxHeartbeats 4000000 in
set_option maxRecDepth 100000 in
theorem m5_readText (G : GT) (l : Launch)   (s0 : SS) (r : Int32) (s1 : SS) (hf : f5_readText s0 = some (r, s1)) : MI G l yX5_readText cX5_readText 3 (some .int) 8 227 [.ref (aX G 0)] (wX G s0) r (wX G s1) := by
  refine MI.start (by decide +kernel) (Nat.le_of_ble_eq_true rfl) (fun K hl C hret => ?_)
  subst hl
  have C : Ctx G K cX5_readText RX5 3 8 227 := C
  change V G K (wX G s0) 0 [(0, .ref (aX G 0))] []
  refine (?_ : tp (f5_readText s0) (fun q => q = (r, s1)) → _) ⟨_, hf, rfl⟩
  rw [f5_readText]
  refine v_aload_n (pc := 0) C 0 rfl dX5_readText_0 ?_
  refine g5_draft (pc := 1) C mw_42 dX5_readText_1 ?_
  refine cVv0w (pc := 4) C (W2 := wX G) (fun s9 h9 => m4_empty G K.2.1 (s0.2.2 1) s0 s9 h9) q_yX4_empty mw_165 (rc_4 (s0.2.2 1)) ⟨by decide, by decide⟩ (Nat.le_of_ble_eq_true rfl) dX5_readText_4 (fun q1 => ?_)
  refine v_aload_n (pc := 7) C 0 rfl dX5_readText_7 ?_
  refine g5_text (pc := 8) C mw_24 dX5_readText_8 ?_
  refine cVv0w (pc := 11) C (W2 := wX G) (fun s9 h9 => m2_rewind G K.2.1 q1 s9 h9) q_yX2_rewind mw_169 rc_2 ⟨by decide, by decide⟩ (Nat.le_of_ble_eq_true rfl) dX5_readText_11 (fun q2 => ?_)
  refine v_iconst (pc := 14) C 0 dX5_readText_14 (by decide) ?_
  refine v_istore_n (pc := 15) C dX5_readText_15 (by decide) (lv' := [(1, .int 0), (0, .ref (aX G 0))]) rfl ?_
  refine r_bs1 ?_
  refine v_to [1, 0] (l5_readText_16 C (fun q16 => ?_) ?hr FU _ _) rfl
  case hr => exact (fun r9 s9 h pc lv d => by obtain ⟨a9, e9, h⟩ := h; cases e9; exact hret _ _ _ _ ⟨(Prod.mk.inj h).1, congrArg (wX G) (Prod.mk.inj h).2⟩ d)
  refine v_aload_n (pc := 116) C 0 rfl dX5_readText_116 ?_
  refine g5_text (pc := 117) C mw_24 dX5_readText_117 ?_
  refine g2_start (pc := 120) C mw_164 dX5_readText_120 ?_
  exact tp_out (fun h => hret _ _ _ _ ⟨(Prod.mk.inj h).1, congrArg (wX G) (Prod.mk.inj h).2⟩ dX5_readText_123)
def f5_standDraft  (s0 : SS) : Option SS := lt (sB s0 0 (s0.2.2 1)) (fun q1 => lt (sB q1 1 (s0.2.2 0)) (fun q2 => bd (f4_order (q2.2.2 0) q2) (fun q3 => some q3)))
set_option maxHeartbeats 4000000 in
set_option maxRecDepth 100000 in
theorem m5_standDraft (G : GT) (l : Launch)   (s0 : SS) (s1 : SS) (hf : f5_standDraft s0 = some s1) : MV G l yX5_standDraft cX5_standDraft 2 none 4 91 [.ref (aX G 0)] (wX G s0) (wX G s1) := by
  refine MV.start (by decide +kernel) (Nat.le_of_ble_eq_true rfl) (fun K hl C hret => ?_)
  subst hl
  have C : Ctx G K cX5_standDraft RX5 2 4 91 := C
  change V G K (wX G s0) 0 [(0, .ref (aX G 0))] []
  refine (?_ : tp (f5_standDraft s0) (fun q => q = s1) → _) ⟨_, hf, rfl⟩
  rw [f5_standDraft]
  refine v_aload_n (pc := 0) C 0 rfl dX5_standDraft_0 ?_
  refine g5_wood (pc := 1) C mw_41 dX5_standDraft_1 ?_
  refine v_astore_n (pc := 4) C dX5_standDraft_4 (by decide) (lv' := [(1, .ref (aX G (wB (s0.2.2 0)))), (0, .ref (aX G 0))]) rfl ?_
  refine v_aload_n (pc := 5) C 1 rfl dX5_standDraft_5 ?_
  refine v_aload_n (pc := 6) C 1 rfl dX5_standDraft_6 ?_
  refine g5_draft (pc := 7) C mw_42 dX5_standDraft_7 ?_
  refine p5_wood (pc := 10) C mw_41 dX5_standDraft_10 ?_
  refine r_ltx (fun q1 => ?_)
  refine v_aload_n (pc := 13) C 1 rfl dX5_standDraft_13 ?_
  refine v_aload_n (pc := 14) C 0 rfl dX5_standDraft_14 ?_
  refine p5_draft (pc := 15) C mw_42 dX5_standDraft_15 ?_
  refine r_ltx (fun q2 => ?_)
  refine v_aload_n (pc := 18) C 1 rfl dX5_standDraft_18 ?_
  refine g5_wood (pc := 19) C mw_41 dX5_standDraft_19 ?_
  refine cVv0w (pc := 22) C (W2 := wX G) (fun s9 h9 => m4_order G K.2.1 (q2.2.2 0) q2 s9 h9) q_yX4_order mw_283 (rc_4 (q2.2.2 0)) ⟨by decide, by decide⟩ (Nat.le_of_ble_eq_true rfl) dX5_standDraft_22 (fun q3 => ?_)
  exact tp_out (fun h => hret _ _ _ (congrArg (wX G) h) dX5_standDraft_25)
def L5_tree_52 : Nat → Int32 → SS → Option (SS)
  | 0, _, _ => none
  | n + 1, v2, s => if v2 < 2 then gd (inb v2 2) (lt (sI s (17 + (1 + (Int32.toNatClampNeg v2))) 8 0) (fun q9 => lt (v2 + 1) (fun x10 => L5_tree_52 n x10 q9))) else some s
def f5_tree  (s0 : SS) : Option (Int32 × SS) := bk2 (f5_readText s0) (fun x1 q2 => if x1 < 0 then lt (sI q2 2 1 0) (fun q3 => bd (f5_standDraft q3) (fun q4 => bd (f1_begin 0 0 q4) (fun q5 => lt (sI q5 (17 + 0) 7 0) (fun q6 => lt (sI q6 12 0 0) (fun q7 => bk1 (L5_tree_52 FU 0 q7) (fun q11 => some (((q11.1 (wB (q11.2.2 0)) 0) + (q11.1 (wB (q11.2.2 0)) 1)), q11))))))) else some (((-10) - x1), q2))
set_option maxHeartbeats 4000000 in
set_option maxRecDepth 100000 in
theorem l5_tree_52 {G : GT} {K : KT} (C : Ctx G K cX5_tree RX5 3 9 249) {Ψ : SS → Prop} (hx : ∀ (so : SS), Ψ so → V G K (wX G so) 77 [(0, .ref (aX G 0))] []) : ∀ (n : Nat) (v2 : Int32) (s : SS), tp (L5_tree_52 n v2 s) (k1 Ψ) → V G K (wX G s) 52 [(0, .ref (aX G 0)), (2, .int v2)] [] := by
  intro n
  induction n with
  | zero => intro v2 s h; exact tp_no h
  | succ n ih =>
    intro v2 s
    rw [L5_tree_52]
    refine v_iload_n (pc := 52) C 1 rfl dX5_tree_52 ?_
    refine v_aload_n (pc := 53) C 0 rfl dX5_tree_53 ?_
    refine g5_images (pc := 54) C mw_37 dX5_tree_54 ?_
    refine v_alen (pc := 57) C _ 4 ax_im rfl (v := 2) rfl dX5_tree_57 ?_
    refine v_icmp_ge (pc := 58) C 77 dX5_tree_58 (by decide) ?_ ?_
    · refine v_aload_n (pc := 61) C 0 rfl dX5_tree_61 ?_
      refine g5_images (pc := 62) C mw_37 dX5_tree_62 ?_
      refine v_iload_n (pc := 65) C 1 rfl dX5_tree_65 ?_
      refine v_aldq (pc := 66) C _ ax_im (fun h => if_pos h.2) dX5_tree_66 (fun hi8 => ?_)
      refine v_iconst (pc := 67) C 0 dX5_tree_67 (by decide) ?_
      refine p1_kept (1 + (Int32.toNatClampNeg v2)) (show 1 + (Int32.toNatClampNeg v2) < 3 by have := hi8.2; omega) (pc := 68) C (by decide) mw_156 dX5_tree_68 ?_
      refine r_ltx (fun q9 => ?_)
      refine v_iincL (pc := 71) C 1 1 dX5_tree_71 rfl (by decide) (by decide) (lv0 := [(0, .ref (aX G 0))]) rfl (fun x10 => ?_)
      refine v_goto (pc := 74) C 52 dX5_tree_74 (by decide) ?_
      exact v_to [1, 0] (ih _ _) rfl
    · exact tp_out (fun h => v_to [0] (hx _) rfl h)
set_option maxHeartbeats 4000000 in
set_option maxRecDepth 100000 in
theorem m5_tree (G : GT) (l : Launch)   (s0 : SS) (r : Int32) (s1 : SS) (hf : f5_tree s0 = some (r, s1)) : MI G l yX5_tree cX5_tree 3 (some .int) 9 249 [.ref (aX G 0)] (wX G s0) r (wX G s1) := by
  refine MI.start (by decide +kernel) (Nat.le_of_ble_eq_true rfl) (fun K hl C hret => ?_)
  subst hl
  have C : Ctx G K cX5_tree RX5 3 9 249 := C
  change V G K (wX G s0) 0 [(0, .ref (aX G 0))] []
  refine (?_ : tp (f5_tree s0) (fun q => q = (r, s1)) → _) ⟨_, hf, rfl⟩
  rw [f5_tree]
  refine v_aload_n (pc := 0) C 0 rfl dX5_tree_0 ?_
  refine cIv0w (pc := 1) C (W2 := wX G) (fun r9 s9 h9 => m5_readText G K.2.1 s0 r9 s9 h9) q_yX5_readText mw_159 rc_5 ⟨by decide, by decide⟩ (Nat.le_of_ble_eq_true rfl) dX5_tree_1 (fun x1 q2 => ?_)
  refine v_istore_n (pc := 4) C dX5_tree_4 (by decide) (lv' := [(1, .int x1), (0, .ref (aX G 0))]) rfl ?_
  refine v_iload_n (pc := 5) C 0 rfl dX5_tree_5 ?_
  refine v_if_lt (pc := 6) C 14 dX5_tree_6 (by decide) ?_ ?_
  · refine v_aload_n (pc := 14) C 1 rfl dX5_tree_14 ?_
    refine g5_text (pc := 15) C mw_24 dX5_tree_15 ?_
    refine v_iconst (pc := 18) C 0 dX5_tree_18 (by decide) ?_
    refine p2_length (pc := 19) C mw_128 dX5_tree_19 ?_
    refine r_ltx (fun q3 => ?_)
    refine v_aload_n (pc := 22) C 1 rfl dX5_tree_22 ?_
    refine cVv0w (pc := 23) C (W2 := wX G) (fun s9 h9 => m5_standDraft G K.2.1 q3 s9 h9) q_yX5_standDraft mw_279 rc_5 ⟨by decide, by decide⟩ (Nat.le_of_ble_eq_true rfl) dX5_tree_23 (fun q4 => ?_)
    refine v_aload_n (pc := 26) C 1 rfl dX5_tree_26 ?_
    refine g5_present (pc := 27) C mw_36 dX5_tree_27 ?_
    refine v_iconst (pc := 30) C 0 dX5_tree_30 (by decide) ?_
    refine cVv1w (pc := 31) C (W2 := wX G) (fun s9 h9 => m1_begin G K.2.1 0 0 (by decide) q4 s9 h9) q_yX1_begin mw_303 (rc_1 0 (by decide)) ⟨by decide, by decide⟩ (Nat.le_of_ble_eq_true rfl) dX5_tree_31 (fun q5 => ?_)
    refine v_aload_n (pc := 34) C 1 rfl dX5_tree_34 ?_
    refine g5_present (pc := 35) C mw_36 dX5_tree_35 ?_
    refine v_iconst (pc := 38) C 0 dX5_tree_38 (by decide) ?_
    refine p1_sawn 0 (by decide) (pc := 39) C mw_154 dX5_tree_39 ?_
    refine r_ltx (fun q6 => ?_)
    refine v_aload_n (pc := 42) C 1 rfl dX5_tree_42 ?_
    refine g5_diary (pc := 43) C mw_32 dX5_tree_43 ?_
    refine v_iconst (pc := 46) C 0 dX5_tree_46 (by decide) ?_
    refine p0_entries (pc := 47) C mw_155 dX5_tree_47 ?_
    refine r_ltx (fun q7 => ?_)
    refine v_iconst (pc := 50) C 0 dX5_tree_50 (by decide) ?_
    refine v_istore_n (pc := 51) C dX5_tree_51 (by decide) (lv' := [(2, .int 0), (1, .int x1), (0, .ref (aX G 0))]) rfl ?_
    refine r_bk1 ?_
    refine v_to [2, 0] (l5_tree_52 C (fun q11 => ?_) FU _ _) rfl
    refine v_aload_n (pc := 77) C 0 rfl dX5_tree_77 ?_
    refine g5_wood (pc := 78) C mw_41 dX5_tree_78 ?_
    refine g4_branches (q11.2.2 0) (pc := 81) C mw_157 dX5_tree_81 ?_
    refine v_aload_n (pc := 84) C 0 rfl dX5_tree_84 ?_
    refine g5_wood (pc := 85) C mw_41 dX5_tree_85 ?_
    refine g4_bodies (q11.2.2 0) (pc := 88) C mw_158 dX5_tree_88 ?_
    refine v_iadd (pc := 91) C dX5_tree_91 ?_
    exact tp_out (fun h => hret _ _ _ _ ⟨(Prod.mk.inj h).1, congrArg (wX G) (Prod.mk.inj h).2⟩ dX5_tree_92)
  · refine v_bipush (pc := 9) C (-10) dX5_tree_9 (by decide) ?_
    refine v_iload_n (pc := 11) C 0 rfl dX5_tree_11 ?_
    refine v_isub (pc := 12) C dX5_tree_12 ?_
    exact tp_out (fun h => hret _ _ _ _ ⟨(Prod.mk.inj h).1, congrArg (wX G) (Prod.mk.inj h).2⟩ dX5_tree_13)
def f5_isBranch (a1 : Int32) (s0 : SS) : Option Int32 := lt (fun (_u : Unit) => some 0) (fun j1 => if a1 < 0 then j1 () else if a1 < (s0.1 (wB (s0.2.2 0)) 0) then some 1 else j1 ())
set_option maxHeartbeats 4000000 in
set_option maxRecDepth 100000 in
theorem m5_isBranch (G : GT) (l : Launch) (a1 : Int32)  (s0 : SS) (r : Int32) (hf : f5_isBranch a1 s0 = some r) : MI G l yX5_isBranch cX5_isBranch 2 (some .boolean) 0 0 [.ref (aX G 0), .int a1] (wX G s0) r (wX G s0) := by
  refine MI.startZ (by decide +kernel) (Nat.le_of_ble_eq_true rfl) (fun K hl C hret => ?_)
  subst hl
  have C : Ctx G K cX5_isBranch RX5 2 0 0 := C
  change V G K (wX G s0) 0 [(0, .ref (aX G 0)), (1, .int a1)] []
  refine (?_ : tp (f5_isBranch a1 s0) (fun q => q = r) → _) ⟨_, hf, rfl⟩
  rw [f5_isBranch]
  refine v_iload_n (pc := 0) C 1 rfl dX5_isBranch_0 ?_
  refine r_lJ (fun Φ0 j1 => ∀ (_u : Unit), tp (j1 ()) Φ0 → V G K (wX G s0) 19 [] []) (fun _u => ?_) (fun j1 hj2 => ?_)
  · refine v_iconst (pc := 19) C 0 dX5_isBranch_19 (by decide) ?_
    exact tp_out (fun h => hret _ _ _ _ ⟨h, rfl⟩ (Or.inl rfl) dX5_isBranch_20)
  refine v_if_lt (pc := 1) C 19 dX5_isBranch_1 (by decide) ?_ ?_
  · exact v_to [] (hj2 ()) rfl
  · refine v_iload_n (pc := 4) C 1 rfl dX5_isBranch_4 ?_
    refine v_aload_n (pc := 5) C 0 rfl dX5_isBranch_5 ?_
    refine g5_wood (pc := 6) C mw_41 dX5_isBranch_6 ?_
    refine g4_branches (s0.2.2 0) (pc := 9) C mw_157 dX5_isBranch_9 ?_
    refine v_icmp_ge (pc := 12) C 19 dX5_isBranch_12 (by decide) ?_ ?_
    · refine v_iconst (pc := 15) C 1 dX5_isBranch_15 (by decide) ?_
      refine v_goto (pc := 16) C 20 dX5_isBranch_16 (by decide) ?_
      exact tp_out (fun h => hret _ _ _ _ ⟨h, rfl⟩ (Or.inr rfl) dX5_isBranch_20)
    · exact v_to [] (hj2 ()) rfl
def f5_isSawn (a1 : Int32) (s0 : SS) : Option Int32 := bd (f5_has (s0.1 (17 + 0) 7) a1) (fun x1 => gd (x1 = 0 ∨ x1 = 1) (some x1))
set_option maxHeartbeats 4000000 in
set_option maxRecDepth 100000 in
theorem m5_isSawn (G : GT) (l : Launch) (a1 : Int32)  (s0 : SS) (r : Int32) (hf : f5_isSawn a1 s0 = some r) : MI G l yX5_isSawn cX5_isSawn 2 (some .boolean) 1 21 [.ref (aX G 0), .int a1] (wX G s0) r (wX G s0) := by
  refine MI.startZ (by decide +kernel) (Nat.le_of_ble_eq_true rfl) (fun K hl C hret => ?_)
  subst hl
  have C : Ctx G K cX5_isSawn RX5 2 1 21 := C
  change V G K (wX G s0) 0 [(0, .ref (aX G 0)), (1, .int a1)] []
  refine (?_ : tp (f5_isSawn a1 s0) (fun q => q = r) → _) ⟨_, hf, rfl⟩
  rw [f5_isSawn]
  refine v_aload_n (pc := 0) C 0 rfl dX5_isSawn_0 ?_
  refine g5_present (pc := 1) C mw_36 dX5_isSawn_1 ?_
  refine g1_sawn 0 (by decide) (pc := 4) C mw_154 dX5_isSawn_4 ?_
  refine v_iload_n (pc := 7) C 1 rfl dX5_isSawn_7 ?_
  refine cIs2r (pc := 8) C (fun r9 h9 => m5_has G K.2.1 (s0.1 (17 + 0) 7) a1 _ r9 h9) q_yX5_has mw_360 ⟨by decide, by decide⟩ (Nat.le_of_ble_eq_true rfl) dX5_isSawn_8 (fun x1 => ?_)
  refine r_gd (fun hz => ?_)
  exact tp_out (fun h => hret _ _ _ _ ⟨h, rfl⟩ hz dX5_isSawn_11)
def f5_branch (a1 : Int32) (a2 : Int32) (s0 : SS) : Option Int32 := bd (f5_isBranch a1 s0) (fun x1 => if x1 = 0 then some (-1) else if a2 < 0 then some (-1) else if a2 ≤ 6 then if a2 = 6 then bd (f5_isSawn a1 s0) (fun x2 => bd (f5_bit x2) (fun x3 => some x3)) else bd (f4_feature (s0.2.2 0) a1 a2 s0) (fun x4 => some x4) else some (-1))
set_option maxHeartbeats 4000000 in
set_option maxRecDepth 100000 in
theorem m5_branch (G : GT) (l : Launch) (a1 : Int32) (a2 : Int32)  (s0 : SS) (r : Int32) (hf : f5_branch a1 a2 s0 = some r) : MI G l yX5_branch cX5_branch 3 (some .int) 2 42 [.ref (aX G 0), .int a1, .int a2] (wX G s0) r (wX G s0) := by
  refine MI.start (by decide +kernel) (Nat.le_of_ble_eq_true rfl) (fun K hl C hret => ?_)
  subst hl
  have C : Ctx G K cX5_branch RX5 3 2 42 := C
  change V G K (wX G s0) 0 [(0, .ref (aX G 0)), (1, .int a1), (2, .int a2)] []
  refine (?_ : tp (f5_branch a1 a2 s0) (fun q => q = r) → _) ⟨_, hf, rfl⟩
  rw [f5_branch]
  refine v_aload_n (pc := 0) C 0 rfl dX5_branch_0 ?_
  refine v_iload_n (pc := 1) C 1 rfl dX5_branch_1 ?_
  refine cIv1r (pc := 2) C (fun r9 h9 => m5_isBranch G K.2.1 a1 s0 r9 h9) q_yX5_isBranch mw_352 rc_5 ⟨by decide, by decide⟩ (Nat.le_of_ble_eq_true rfl) dX5_branch_2 (fun x1 => ?_)
  refine v_if_eq (pc := 5) C 18 dX5_branch_5 (by decide) ?_ ?_
  · refine v_iconst (pc := 18) C (-1) dX5_branch_18 (by decide) ?_
    exact tp_out (fun h => hret _ _ _ _ ⟨h, rfl⟩ dX5_branch_19)
  · refine v_iload_n (pc := 8) C 2 rfl dX5_branch_8 ?_
    refine v_if_lt (pc := 9) C 18 dX5_branch_9 (by decide) ?_ ?_
    · refine v_iconst (pc := 18) C (-1) dX5_branch_18 (by decide) ?_
      exact tp_out (fun h => hret _ _ _ _ ⟨h, rfl⟩ dX5_branch_19)
    · refine v_iload_n (pc := 12) C 2 rfl dX5_branch_12 ?_
      refine v_bipush (pc := 13) C 6 dX5_branch_13 (by decide) ?_
      refine v_icmp_le (pc := 15) C 20 dX5_branch_15 (by decide) ?_ ?_
      · refine v_iload_n (pc := 20) C 2 rfl dX5_branch_20 ?_
        refine v_bipush (pc := 21) C 6 dX5_branch_21 (by decide) ?_
        refine v_icmp_ne (pc := 23) C 37 dX5_branch_23 (by decide) ?_ ?_
        · refine v_aload_n (pc := 26) C 0 rfl dX5_branch_26 ?_
          refine v_iload_n (pc := 27) C 1 rfl dX5_branch_27 ?_
          refine cIv1r (pc := 28) C (fun r9 h9 => m5_isSawn G K.2.1 a1 s0 r9 h9) q_yX5_isSawn mw_356 rc_5 ⟨by decide, by decide⟩ (Nat.le_of_ble_eq_true rfl) dX5_branch_28 (fun x2 => ?_)
          refine cIs1r (pc := 31) C (fun r9 h9 => m5_bit G K.2.1 x2 _ r9 h9) q_yX5_bit mw_266 ⟨by decide, by decide⟩ (Nat.le_of_ble_eq_true rfl) dX5_branch_31 (fun x3 => ?_)
          refine v_goto (pc := 34) C 46 dX5_branch_34 (by decide) ?_
          exact tp_out (fun h => hret _ _ _ _ ⟨h, rfl⟩ dX5_branch_46)
        · refine v_aload_n (pc := 37) C 0 rfl dX5_branch_37 ?_
          refine g5_wood (pc := 38) C mw_41 dX5_branch_38 ?_
          refine v_iload_n (pc := 41) C 1 rfl dX5_branch_41 ?_
          refine v_iload_n (pc := 42) C 2 rfl dX5_branch_42 ?_
          refine cIv2r (pc := 43) C (fun r9 h9 => m4_feature G K.2.1 (s0.2.2 0) a1 a2 s0 r9 h9) q_yX4_feature mw_363 (rc_4 (s0.2.2 0)) ⟨by decide, by decide⟩ (Nat.le_of_ble_eq_true rfl) dX5_branch_43 (fun x4 => ?_)
          exact tp_out (fun h => hret _ _ _ _ ⟨h, rfl⟩ dX5_branch_46)
      · refine v_iconst (pc := 18) C (-1) dX5_branch_18 (by decide) ?_
        exact tp_out (fun h => hret _ _ _ _ ⟨h, rfl⟩ dX5_branch_19)
def f5_isBody (a1 : Int32) (s0 : SS) : Option Int32 := lt (fun (_u : Unit) => some 0) (fun j1 => if a1 < 0 then j1 () else if a1 < (s0.1 (wB (s0.2.2 0)) 1) then some 1 else j1 ())
set_option maxHeartbeats 4000000 in
set_option maxRecDepth 100000 in
theorem m5_isBody (G : GT) (l : Launch) (a1 : Int32)  (s0 : SS) (r : Int32) (hf : f5_isBody a1 s0 = some r) : MI G l yX5_isBody cX5_isBody 2 (some .boolean) 0 0 [.ref (aX G 0), .int a1] (wX G s0) r (wX G s0) := by
  refine MI.startZ (by decide +kernel) (Nat.le_of_ble_eq_true rfl) (fun K hl C hret => ?_)
  subst hl
  have C : Ctx G K cX5_isBody RX5 2 0 0 := C
  change V G K (wX G s0) 0 [(0, .ref (aX G 0)), (1, .int a1)] []
  refine (?_ : tp (f5_isBody a1 s0) (fun q => q = r) → _) ⟨_, hf, rfl⟩
  rw [f5_isBody]
  refine v_iload_n (pc := 0) C 1 rfl dX5_isBody_0 ?_
  refine r_lJ (fun Φ0 j1 => ∀ (_u : Unit), tp (j1 ()) Φ0 → V G K (wX G s0) 19 [] []) (fun _u => ?_) (fun j1 hj2 => ?_)
  · refine v_iconst (pc := 19) C 0 dX5_isBody_19 (by decide) ?_
    exact tp_out (fun h => hret _ _ _ _ ⟨h, rfl⟩ (Or.inl rfl) dX5_isBody_20)
  refine v_if_lt (pc := 1) C 19 dX5_isBody_1 (by decide) ?_ ?_
  · exact v_to [] (hj2 ()) rfl
  · refine v_iload_n (pc := 4) C 1 rfl dX5_isBody_4 ?_
    refine v_aload_n (pc := 5) C 0 rfl dX5_isBody_5 ?_
    refine g5_wood (pc := 6) C mw_41 dX5_isBody_6 ?_
    refine g4_bodies (s0.2.2 0) (pc := 9) C mw_158 dX5_isBody_9 ?_
    refine v_icmp_ge (pc := 12) C 19 dX5_isBody_12 (by decide) ?_ ?_
    · refine v_iconst (pc := 15) C 1 dX5_isBody_15 (by decide) ?_
      refine v_goto (pc := 16) C 20 dX5_isBody_16 (by decide) ?_
      exact tp_out (fun h => hret _ _ _ _ ⟨h, rfl⟩ (Or.inr rfl) dX5_isBody_20)
    · exact v_to [] (hj2 ()) rfl
def f5_body (a1 : Int32) (a2 : Int32) (s0 : SS) : Option Int32 := bd (f5_isBody a1 s0) (fun x1 => lt (fun (_u : Unit) => some (-1)) (fun j2 => if x1 = 0 then j2 () else if a2 < 0 then j2 () else if a2 ≤ 2 then bd (f4_power (s0.2.2 0) a1 a2 s0) (fun x4 => some x4) else j2 ()))
set_option maxHeartbeats 4000000 in
set_option maxRecDepth 100000 in
theorem m5_body (G : GT) (l : Launch) (a1 : Int32) (a2 : Int32)  (s0 : SS) (r : Int32) (hf : f5_body a1 a2 s0 = some r) : MI G l yX5_body cX5_body 3 (some .int) 1 22 [.ref (aX G 0), .int a1, .int a2] (wX G s0) r (wX G s0) := by
  refine MI.start (by decide +kernel) (Nat.le_of_ble_eq_true rfl) (fun K hl C hret => ?_)
  subst hl
  have C : Ctx G K cX5_body RX5 3 1 22 := C
  change V G K (wX G s0) 0 [(0, .ref (aX G 0)), (1, .int a1), (2, .int a2)] []
  refine (?_ : tp (f5_body a1 a2 s0) (fun q => q = r) → _) ⟨_, hf, rfl⟩
  rw [f5_body]
  refine v_aload_n (pc := 0) C 0 rfl dX5_body_0 ?_
  refine v_iload_n (pc := 1) C 1 rfl dX5_body_1 ?_
  refine cIv1r (pc := 2) C (fun r9 h9 => m5_isBody G K.2.1 a1 s0 r9 h9) q_yX5_isBody mw_384 rc_5 ⟨by decide, by decide⟩ (Nat.le_of_ble_eq_true rfl) dX5_body_2 (fun x1 => ?_)
  refine r_lJ (fun Φ0 j2 => ∀ (_u : Unit), tp (j2 ()) Φ0 → V G K (wX G s0) 29 [] []) (fun _u => ?_) (fun j2 hj3 => ?_)
  · refine v_iconst (pc := 29) C (-1) dX5_body_29 (by decide) ?_
    exact tp_out (fun h => hret _ _ _ _ ⟨h, rfl⟩ dX5_body_30)
  refine v_if_eq (pc := 5) C 29 dX5_body_5 (by decide) ?_ ?_
  · exact v_to [] (hj3 ()) rfl
  · refine v_iload_n (pc := 8) C 2 rfl dX5_body_8 ?_
    refine v_if_lt (pc := 9) C 29 dX5_body_9 (by decide) ?_ ?_
    · exact v_to [] (hj3 ()) rfl
    · refine v_iload_n (pc := 12) C 2 rfl dX5_body_12 ?_
      refine v_iconst (pc := 13) C 2 dX5_body_13 (by decide) ?_
      refine v_icmp_gt (pc := 14) C 29 dX5_body_14 (by decide) ?_ ?_
      · refine v_aload_n (pc := 17) C 0 rfl dX5_body_17 ?_
        refine g5_wood (pc := 18) C mw_41 dX5_body_18 ?_
        refine v_iload_n (pc := 21) C 1 rfl dX5_body_21 ?_
        refine v_iload_n (pc := 22) C 2 rfl dX5_body_22 ?_
        refine cIv2r (pc := 23) C (fun r9 h9 => m4_power G K.2.1 (s0.2.2 0) a1 a2 s0 r9 h9) q_yX4_power mw_388 (rc_4 (s0.2.2 0)) ⟨by decide, by decide⟩ (Nat.le_of_ble_eq_true rfl) dX5_body_23 (fun x4 => ?_)
        refine v_goto (pc := 26) C 30 dX5_body_26 (by decide) ?_
        exact tp_out (fun h => hret _ _ _ _ ⟨h, rfl⟩ dX5_body_30)
      · exact v_to [] (hj3 ()) rfl
