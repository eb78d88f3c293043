def f0_write (a1 : Int32) (a2 : Int32) (a3 : Int32) (s0 : SS) : Option (Int32 × SS) := if (s0.1 12 0) < 0 then some (0, s0) else if (s0.1 12 0) < 40 then gd (inb (s0.1 12 0) 40) (lt (sI s0 13 (Int32.toNatClampNeg (s0.1 12 0)) a1) (fun q1 => gd (inb (q1.1 12 0) 40) (lt (sI q1 14 (Int32.toNatClampNeg (q1.1 12 0)) a2) (fun q2 => gd (inb (q2.1 12 0) 40) (lt (sI q2 15 (Int32.toNatClampNeg (q2.1 12 0)) a3) (fun q3 => lt (sI q3 12 0 ((q3.1 12 0) + 1)) (fun q4 => some (1, q4)))))))) else some (0, s0)
set_option maxHeartbeats 4000000 in
set_option maxRecDepth 100000 in
theorem m0_write (G : GT) (l : Launch) (a1 : Int32) (a2 : Int32) (a3 : Int32)  (s0 : SS) (r : Int32) (s1 : SS) (hf : f0_write a1 a2 a3 s0 = some (r, s1)) : MI G l yX0_write cX0_write 4 (some .boolean) 0 0 [.ref (aX G 12), .int a1, .int a2, .int a3] (wX G s0) r (wX G s1) := by
  refine MI.startZ (by decide +kernel) (Nat.le_of_ble_eq_true rfl) (fun K hl C hret => ?_)
  subst hl
  have C : Ctx G K cX0_write RX0 4 0 0 := C
  change V G K (wX G s0) 0 [(0, .ref (aX G 12)), (1, .int a1), (2, .int a2), (3, .int a3)] []
  refine (?_ : tp (f0_write a1 a2 a3 s0) (fun q => q = (r, s1)) → _) ⟨_, hf, rfl⟩
  rw [f0_write]
  refine v_aload_n (pc := 0) C 0 rfl dX0_write_0 ?_
  refine g0_entries (pc := 1) C mw_69 dX0_write_1 ?_
  refine v_if_lt (pc := 4) C 16 dX0_write_4 (by decide) ?_ ?_
  · refine v_iconst (pc := 16) C 0 dX0_write_16 (by decide) ?_
    exact tp_out (fun h => hret _ _ _ _ ⟨(Prod.mk.inj h).1, congrArg (wX G) (Prod.mk.inj h).2⟩ (Or.inl rfl) dX0_write_17)
  · refine v_aload_n (pc := 7) C 0 rfl dX0_write_7 ?_
    refine g0_entries (pc := 8) C mw_69 dX0_write_8 ?_
    refine v_bipush (pc := 11) C 40 dX0_write_11 (by decide) ?_
    refine v_icmp_lt (pc := 13) C 18 dX0_write_13 (by decide) ?_ ?_
    · refine v_aload_n (pc := 18) C 0 rfl dX0_write_18 ?_
      refine g0_bodies (pc := 19) C mw_70 dX0_write_19 ?_
      refine v_aload_n (pc := 22) C 0 rfl dX0_write_22 ?_
      refine g0_entries (pc := 23) C mw_69 dX0_write_23 ?_
      refine v_iload_n (pc := 26) C 1 rfl dX0_write_26 ?_
      refine v_iast (pc := 27) C _ ax_13 (as_13 _ _) dX0_write_27 ?_
      refine r_ltx (fun q1 => ?_)
      refine v_aload_n (pc := 28) C 0 rfl dX0_write_28 ?_
      refine g0_lookers (pc := 29) C mw_71 dX0_write_29 ?_
      refine v_aload_n (pc := 32) C 0 rfl dX0_write_32 ?_
      refine g0_entries (pc := 33) C mw_69 dX0_write_33 ?_
      refine v_iload_n (pc := 36) C 2 rfl dX0_write_36 ?_
      refine v_iast (pc := 37) C _ ax_14 (as_14 _ _) dX0_write_37 ?_
      refine r_ltx (fun q2 => ?_)
      refine v_aload_n (pc := 38) C 0 rfl dX0_write_38 ?_
      refine g0_tops (pc := 39) C mw_72 dX0_write_39 ?_
      refine v_aload_n (pc := 42) C 0 rfl dX0_write_42 ?_
      refine g0_entries (pc := 43) C mw_69 dX0_write_43 ?_
      refine v_iload_n (pc := 46) C 3 rfl dX0_write_46 ?_
      refine v_iast (pc := 47) C _ ax_15 (as_15 _ _) dX0_write_47 ?_
      refine r_ltx (fun q3 => ?_)
      refine v_aload_n (pc := 48) C 0 rfl dX0_write_48 ?_
      refine v_dup (pc := 49) C dX0_write_49 rfl ?_
      refine g0_entries (pc := 50) C mw_69 dX0_write_50 ?_
      refine v_iconst (pc := 53) C 1 dX0_write_53 (by decide) ?_
      refine v_iadd (pc := 54) C dX0_write_54 ?_
      refine p0_entries (pc := 55) C mw_69 dX0_write_55 ?_
      refine r_ltx (fun q4 => ?_)
      refine v_iconst (pc := 58) C 1 dX0_write_58 (by decide) ?_
      exact tp_out (fun h => hret _ _ _ _ ⟨(Prod.mk.inj h).1, congrArg (wX G) (Prod.mk.inj h).2⟩ (Or.inr rfl) dX0_write_59)
    · refine v_iconst (pc := 16) C 0 dX0_write_16 (by decide) ?_
      exact tp_out (fun h => hret _ _ _ _ ⟨(Prod.mk.inj h).1, congrArg (wX G) (Prod.mk.inj h).2⟩ (Or.inl rfl) dX0_write_17)
def f0_isOf (a1 : Int32) (a2 : Int32) (a3 : Int32) (a4 : Int32) (s0 : SS) : Option Int32 := if a1 < 0 then some 0 else if a1 < 40 then gd (inb a1 40) (if (s0.1 13 a1.toNatClampNeg) = a2 then gd (inb a1 40) (lt (fun (_u : Unit) => some 0) (fun j1 => if (s0.1 14 a1.toNatClampNeg) < a3 then j1 () else gd (inb a1 40) (if (s0.1 14 a1.toNatClampNeg) ≤ a4 then some 1 else j1 ()))) else some 0) else some 0
set_option maxHeartbeats 4000000 in
set_option maxRecDepth 100000 in
theorem m0_isOf (G : GT) (l : Launch) (a1 : Int32) (a2 : Int32) (a3 : Int32) (a4 : Int32)  (s0 : SS) (r : Int32) (hf : f0_isOf a1 a2 a3 a4 s0 = some r) : MI G l yX0_isOf cX0_isOf 5 (some .boolean) 0 0 [.ref (aX G 12), .int a1, .int a2, .int a3, .int a4] (wX G s0) r (wX G s0) := by
  refine MI.startZ (by decide +kernel) (Nat.le_of_ble_eq_true rfl) (fun K hl C hret => ?_)
  subst hl
  have C : Ctx G K cX0_isOf RX0 5 0 0 := C
  change V G K (wX G s0) 0 [(0, .ref (aX G 12)), (1, .int a1), (2, .int a2), (3, .int a3), (4, .int a4)] []
  refine (?_ : tp (f0_isOf a1 a2 a3 a4 s0) (fun q => q = r) → _) ⟨_, hf, rfl⟩
  rw [f0_isOf]
  refine v_iload_n (pc := 0) C 1 rfl dX0_isOf_0 ?_
  refine v_if_lt (pc := 1) C 20 dX0_isOf_1 (by decide) ?_ ?_
  · refine v_iconst (pc := 20) C 0 dX0_isOf_20 (by decide) ?_
    exact tp_out (fun h => hret _ _ _ _ ⟨h, rfl⟩ (Or.inl rfl) dX0_isOf_21)
  · refine v_iload_n (pc := 4) C 1 rfl dX0_isOf_4 ?_
    refine v_bipush (pc := 5) C 40 dX0_isOf_5 (by decide) ?_
    refine v_icmp_ge (pc := 7) C 20 dX0_isOf_7 (by decide) ?_ ?_
    · refine v_aload_n (pc := 10) C 0 rfl dX0_isOf_10 ?_
      refine g0_bodies (pc := 11) C mw_70 dX0_isOf_11 ?_
      refine v_iload_n (pc := 14) C 1 rfl dX0_isOf_14 ?_
      refine v_iald (pc := 15) C _ ax_13 dX0_isOf_15 ?_
      refine v_iload_n (pc := 16) C 2 rfl dX0_isOf_16 ?_
      refine v_icmp_eq (pc := 17) C 22 dX0_isOf_17 (by decide) ?_ ?_
      · refine v_aload_n (pc := 22) C 0 rfl dX0_isOf_22 ?_
        refine g0_lookers (pc := 23) C mw_71 dX0_isOf_23 ?_
        refine v_iload_n (pc := 26) C 1 rfl dX0_isOf_26 ?_
        refine v_iald (pc := 27) C _ ax_14 dX0_isOf_27 ?_
        refine v_iload_n (pc := 28) C 3 rfl dX0_isOf_28 ?_
        refine r_lJ (fun Φ0 j1 => ∀ (_u : Unit), tp (j1 ()) Φ0 → V G K (wX G s0) 47 [] []) (fun _u => ?_) (fun j1 hj2 => ?_)
        · refine v_iconst (pc := 47) C 0 dX0_isOf_47 (by decide) ?_
          exact tp_out (fun h => hret _ _ _ _ ⟨h, rfl⟩ (Or.inl rfl) dX0_isOf_48)
        refine v_icmp_lt (pc := 29) C 47 dX0_isOf_29 (by decide) ?_ ?_
        · exact v_to [] (hj2 ()) rfl
        · refine v_aload_n (pc := 32) C 0 rfl dX0_isOf_32 ?_
          refine g0_lookers (pc := 33) C mw_71 dX0_isOf_33 ?_
          refine v_iload_n (pc := 36) C 1 rfl dX0_isOf_36 ?_
          refine v_iald (pc := 37) C _ ax_14 dX0_isOf_37 ?_
          refine v_iload (pc := 38) C 4 rfl dX0_isOf_38 ?_
          refine v_icmp_gt (pc := 40) C 47 dX0_isOf_40 (by decide) ?_ ?_
          · refine v_iconst (pc := 43) C 1 dX0_isOf_43 (by decide) ?_
            refine v_goto (pc := 44) C 48 dX0_isOf_44 (by decide) ?_
            exact tp_out (fun h => hret _ _ _ _ ⟨h, rfl⟩ (Or.inr rfl) dX0_isOf_48)
          · exact v_to [] (hj2 ()) rfl
      · refine v_iconst (pc := 20) C 0 dX0_isOf_20 (by decide) ?_
        exact tp_out (fun h => hret _ _ _ _ ⟨h, rfl⟩ (Or.inl rfl) dX0_isOf_21)
    · refine v_iconst (pc := 20) C 0 dX0_isOf_20 (by decide) ?_
      exact tp_out (fun h => hret _ _ _ _ ⟨h, rfl⟩ (Or.inl rfl) dX0_isOf_21)
def L0_howMany_6 (c1 : Int32) (c2 : Int32) (c3 : Int32) (c4 : Int32) (s0 : SS) : Nat → Int32 → Int32 → Option (Int32)
  | 0, _, _ => none
  | n + 1, v5, v6 => if v6 < (s0.1 12 0) then if v6 < 40 then bd (f0_isOf v6 c1 c2 c3 s0) (fun x1 => if x1 = 0 then lt (v6 + 1) (fun x2 => L0_howMany_6 c1 c2 c3 c4 s0 n v5 x2) else gd (inb v6 40) (if (s0.1 15 v6.toNatClampNeg) < c4 then lt (v6 + 1) (fun x3 => L0_howMany_6 c1 c2 c3 c4 s0 n v5 x3) else lt (v5 + 1) (fun x4 => lt (v6 + 1) (fun x5 => L0_howMany_6 c1 c2 c3 c4 s0 n x4 x5)))) else some v5 else some v5
def f0_howMany (a1 : Int32) (a2 : Int32) (a3 : Int32) (a4 : Int32) (s0 : SS) : Option Int32 := bk1 (L0_howMany_6 a1 a2 a3 a4 s0 FU 0 0) (fun x6 => some x6)
set_option maxHeartbeats 4000000 in
set_option maxRecDepth 100000 in
theorem l0_howMany_6 {G : GT} {K : KT} (C : Ctx G K cX0_howMany RX0 7 1 24) (c1 : Int32) (c2 : Int32) (c3 : Int32) (c4 : Int32) (s0 : SS) {Ψ : Int32 → Prop} (hx : ∀ (o1 : Int32), Ψ o1 → V G K (wX G s0) 55 [(5, .int o1)] []) : ∀ (n : Nat) (v5 : Int32) (v6 : Int32), tp (L0_howMany_6 c1 c2 c3 c4 s0 n v5 v6) (k1 Ψ) → V G K (wX G s0) 6 [(0, .ref (aX G 12)), (1, .int c1), (2, .int c2), (3, .int c3), (4, .int c4), (5, .int v5), (6, .int v6)] [] := by
  intro n
  induction n with
  | zero => intro v5 v6 h; exact tp_no h
  | succ n ih =>
    intro v5 v6
    rw [L0_howMany_6]
    refine v_iload (pc := 6) C 6 rfl dX0_howMany_6 ?_
    refine v_aload_n (pc := 8) C 0 rfl dX0_howMany_8 ?_
    refine g0_entries (pc := 9) C mw_69 dX0_howMany_9 ?_
    refine v_icmp_ge (pc := 12) C 55 dX0_howMany_12 (by decide) ?_ ?_
    · refine v_iload (pc := 15) C 6 rfl dX0_howMany_15 ?_
      refine v_bipush (pc := 17) C 40 dX0_howMany_17 (by decide) ?_
      refine v_icmp_ge (pc := 19) C 55 dX0_howMany_19 (by decide) ?_ ?_
      · refine v_aload_n (pc := 22) C 0 rfl dX0_howMany_22 ?_
        refine v_iload (pc := 23) C 6 rfl dX0_howMany_23 ?_
        refine v_iload_n (pc := 25) C 1 rfl dX0_howMany_25 ?_
        refine v_iload_n (pc := 26) C 2 rfl dX0_howMany_26 ?_
        refine v_iload_n (pc := 27) C 3 rfl dX0_howMany_27 ?_
        refine cIv4r (pc := 28) C (fun r9 h9 => m0_isOf G K.2.1 v6 c1 c2 c3 s0 r9 h9) q_yX0_isOf mw_815 rc_0 ⟨by decide, by decide⟩ (Nat.le_of_ble_eq_true rfl) dX0_howMany_28 (fun x1 => ?_)
        refine v_if_eq (pc := 31) C 49 dX0_howMany_31 (by decide) ?_ ?_
        · refine v_iincL (pc := 49) C 1 6 dX0_howMany_49 rfl (by decide) (by decide) (lv0 := [(0, .ref (aX G 12)), (1, .int c1), (2, .int c2), (3, .int c3), (4, .int c4), (5, .int v5)]) rfl (fun x2 => ?_)
          refine v_goto (pc := 52) C 6 dX0_howMany_52 (by decide) ?_
          exact v_to [1, 2, 3, 4, 5, 6, 0] (ih _ _) rfl
        · refine v_aload_n (pc := 34) C 0 rfl dX0_howMany_34 ?_
          refine g0_tops (pc := 35) C mw_72 dX0_howMany_35 ?_
          refine v_iload (pc := 38) C 6 rfl dX0_howMany_38 ?_
          refine v_iald (pc := 40) C _ ax_15 dX0_howMany_40 ?_
          refine v_iload (pc := 41) C 4 rfl dX0_howMany_41 ?_
          refine v_icmp_lt (pc := 43) C 49 dX0_howMany_43 (by decide) ?_ ?_
          · refine v_iincL (pc := 49) C 1 6 dX0_howMany_49 rfl (by decide) (by decide) (lv0 := [(0, .ref (aX G 12)), (1, .int c1), (2, .int c2), (3, .int c3), (4, .int c4), (5, .int v5)]) rfl (fun x3 => ?_)
            refine v_goto (pc := 52) C 6 dX0_howMany_52 (by decide) ?_
            exact v_to [1, 2, 3, 4, 5, 6, 0] (ih _ _) rfl
          · refine v_iincL (pc := 46) C 1 5 dX0_howMany_46 rfl (by decide) (by decide) (lv0 := [(0, .ref (aX G 12)), (1, .int c1), (2, .int c2), (3, .int c3), (4, .int c4), (6, .int v6)]) rfl (fun x4 => ?_)
            refine v_iincL (pc := 49) C 1 6 dX0_howMany_49 rfl (by decide) (by decide) (lv0 := [(5, .int x4), (0, .ref (aX G 12)), (1, .int c1), (2, .int c2), (3, .int c3), (4, .int c4)]) rfl (fun x5 => ?_)
            refine v_goto (pc := 52) C 6 dX0_howMany_52 (by decide) ?_
            exact v_to [2, 3, 4, 5, 6, 1, 0] (ih _ _) rfl
      · exact tp_out (fun h => v_to [5] (hx _) rfl h)
    · exact tp_out (fun h => v_to [5] (hx _) rfl h)
set_option maxHeartbeats 4000000 in
set_option maxRecDepth 100000 in
theorem m0_howMany (G : GT) (l : Launch) (a1 : Int32) (a2 : Int32) (a3 : Int32) (a4 : Int32)  (s0 : SS) (r : Int32) (hf : f0_howMany a1 a2 a3 a4 s0 = some r) : MI G l yX0_howMany cX0_howMany 7 (some .int) 1 24 [.ref (aX G 12), .int a1, .int a2, .int a3, .int a4] (wX G s0) r (wX G s0) := by
  refine MI.start (by decide +kernel) (Nat.le_of_ble_eq_true rfl) (fun K hl C hret => ?_)
  subst hl
  have C : Ctx G K cX0_howMany RX0 7 1 24 := C
  change V G K (wX G s0) 0 [(0, .ref (aX G 12)), (1, .int a1), (2, .int a2), (3, .int a3), (4, .int a4)] []
  refine (?_ : tp (f0_howMany a1 a2 a3 a4 s0) (fun q => q = r) → _) ⟨_, hf, rfl⟩
  rw [f0_howMany]
  refine v_iconst (pc := 0) C 0 dX0_howMany_0 (by decide) ?_
  refine v_istore (pc := 1) C dX0_howMany_1 (by decide) (lv' := [(5, .int 0), (0, .ref (aX G 12)), (1, .int a1), (2, .int a2), (3, .int a3), (4, .int a4)]) rfl ?_
  refine v_iconst (pc := 3) C 0 dX0_howMany_3 (by decide) ?_
  refine v_istore (pc := 4) C dX0_howMany_4 (by decide) (lv' := [(6, .int 0), (5, .int 0), (0, .ref (aX G 12)), (1, .int a1), (2, .int a2), (3, .int a3), (4, .int a4)]) rfl ?_
  refine r_bk1 ?_
  refine v_to [2, 3, 4, 5, 6, 1, 0] (l0_howMany_6 C a1 a2 a3 a4 s0 (fun x6 => ?_) FU _ _) rfl
  refine v_iload (pc := 55) C 0 rfl dX0_howMany_55 ?_
  exact tp_out (fun h => hret _ _ _ _ ⟨h, rfl⟩ dX0_howMany_57)
def L0_heights_6 (c1 : Int32) (c2 : Int32) (c3 : Int32) (s0 : SS) : Nat → Int32 → Int32 → Option (Int32)
  | 0, _, _ => none
  | n + 1, v4, v5 => if v5 < (s0.1 12 0) then if v5 < 40 then bd (f0_isOf v5 c1 c2 c3 s0) (fun x1 => if x1 = 0 then lt (v5 + 1) (fun x2 => L0_heights_6 c1 c2 c3 s0 n v4 x2) else gd (inb v5 40) (lt ((v4 + (s0.1 15 v5.toNatClampNeg))) (fun x3 => lt (v5 + 1) (fun x4 => L0_heights_6 c1 c2 c3 s0 n x3 x4)))) else some v4 else some v4
def f0_heights (a1 : Int32) (a2 : Int32) (a3 : Int32) (s0 : SS) : Option Int32 := bk1 (L0_heights_6 a1 a2 a3 s0 FU 0 0) (fun x5 => some x5)
set_option maxHeartbeats 4000000 in
set_option maxRecDepth 100000 in
theorem l0_heights_6 {G : GT} {K : KT} (C : Ctx G K cX0_heights RX0 6 1 24) (c1 : Int32) (c2 : Int32) (c3 : Int32) (s0 : SS) {Ψ : Int32 → Prop} (hx : ∀ (o1 : Int32), Ψ o1 → V G K (wX G s0) 52 [(4, .int o1)] []) : ∀ (n : Nat) (v4 : Int32) (v5 : Int32), tp (L0_heights_6 c1 c2 c3 s0 n v4 v5) (k1 Ψ) → V G K (wX G s0) 6 [(0, .ref (aX G 12)), (1, .int c1), (2, .int c2), (3, .int c3), (4, .int v4), (5, .int v5)] [] := by
  intro n
  induction n with
  | zero => intro v4 v5 h; exact tp_no h
  | succ n ih =>
    intro v4 v5
    rw [L0_heights_6]
    refine v_iload (pc := 6) C 5 rfl dX0_heights_6 ?_
    refine v_aload_n (pc := 8) C 0 rfl dX0_heights_8 ?_
    refine g0_entries (pc := 9) C mw_69 dX0_heights_9 ?_
    refine v_icmp_ge (pc := 12) C 52 dX0_heights_12 (by decide) ?_ ?_
    · refine v_iload (pc := 15) C 5 rfl dX0_heights_15 ?_
      refine v_bipush (pc := 17) C 40 dX0_heights_17 (by decide) ?_
      refine v_icmp_ge (pc := 19) C 52 dX0_heights_19 (by decide) ?_ ?_
      · refine v_aload_n (pc := 22) C 0 rfl dX0_heights_22 ?_
        refine v_iload (pc := 23) C 5 rfl dX0_heights_23 ?_
        refine v_iload_n (pc := 25) C 1 rfl dX0_heights_25 ?_
        refine v_iload_n (pc := 26) C 2 rfl dX0_heights_26 ?_
        refine v_iload_n (pc := 27) C 3 rfl dX0_heights_27 ?_
        refine cIv4r (pc := 28) C (fun r9 h9 => m0_isOf G K.2.1 v5 c1 c2 c3 s0 r9 h9) q_yX0_isOf mw_815 rc_0 ⟨by decide, by decide⟩ (Nat.le_of_ble_eq_true rfl) dX0_heights_28 (fun x1 => ?_)
        refine v_if_eq (pc := 31) C 46 dX0_heights_31 (by decide) ?_ ?_
        · refine v_iincL (pc := 46) C 1 5 dX0_heights_46 rfl (by decide) (by decide) (lv0 := [(0, .ref (aX G 12)), (1, .int c1), (2, .int c2), (3, .int c3), (4, .int v4)]) rfl (fun x2 => ?_)
          refine v_goto (pc := 49) C 6 dX0_heights_49 (by decide) ?_
          exact v_to [1, 2, 3, 4, 5, 0] (ih _ _) rfl
        · refine v_iload (pc := 34) C 4 rfl dX0_heights_34 ?_
          refine v_aload_n (pc := 36) C 0 rfl dX0_heights_36 ?_
          refine g0_tops (pc := 37) C mw_72 dX0_heights_37 ?_
          refine v_iload (pc := 40) C 5 rfl dX0_heights_40 ?_
          refine v_iald (pc := 42) C _ ax_15 dX0_heights_42 ?_
          refine v_iadd (pc := 43) C dX0_heights_43 ?_
          refine r_lti (fun x3 => ?_)
          refine v_istore (pc := 44) C dX0_heights_44 (by decide) (lv' := [(4, .int x3), (0, .ref (aX G 12)), (1, .int c1), (2, .int c2), (3, .int c3), (5, .int v5)]) rfl ?_
          refine v_iincL (pc := 46) C 1 5 dX0_heights_46 rfl (by decide) (by decide) (lv0 := [(4, .int x3), (0, .ref (aX G 12)), (1, .int c1), (2, .int c2), (3, .int c3)]) rfl (fun x4 => ?_)
          refine v_goto (pc := 49) C 6 dX0_heights_49 (by decide) ?_
          exact v_to [2, 3, 4, 5, 1, 0] (ih _ _) rfl
      · exact tp_out (fun h => v_to [4] (hx _) rfl h)
    · exact tp_out (fun h => v_to [4] (hx _) rfl h)
set_option maxHeartbeats 4000000 in
set_option maxRecDepth 100000 in
theorem m0_heights (G : GT) (l : Launch) (a1 : Int32) (a2 : Int32) (a3 : Int32)  (s0 : SS) (r : Int32) (hf : f0_heights a1 a2 a3 s0 = some r) : MI G l yX0_heights cX0_heights 6 (some .int) 1 24 [.ref (aX G 12), .int a1, .int a2, .int a3] (wX G s0) r (wX G s0) := by
  refine MI.start (by decide +kernel) (Nat.le_of_ble_eq_true rfl) (fun K hl C hret => ?_)
  subst hl
  have C : Ctx G K cX0_heights RX0 6 1 24 := C
  change V G K (wX G s0) 0 [(0, .ref (aX G 12)), (1, .int a1), (2, .int a2), (3, .int a3)] []
  refine (?_ : tp (f0_heights a1 a2 a3 s0) (fun q => q = r) → _) ⟨_, hf, rfl⟩
  rw [f0_heights]
  refine v_iconst (pc := 0) C 0 dX0_heights_0 (by decide) ?_
  refine v_istore (pc := 1) C dX0_heights_1 (by decide) (lv' := [(4, .int 0), (0, .ref (aX G 12)), (1, .int a1), (2, .int a2), (3, .int a3)]) rfl ?_
  refine v_iconst (pc := 3) C 0 dX0_heights_3 (by decide) ?_
  refine v_istore (pc := 4) C dX0_heights_4 (by decide) (lv' := [(5, .int 0), (4, .int 0), (0, .ref (aX G 12)), (1, .int a1), (2, .int a2), (3, .int a3)]) rfl ?_
  refine r_bk1 ?_
  refine v_to [2, 3, 4, 5, 1, 0] (l0_heights_6 C a1 a2 a3 s0 (fun x5 => ?_) FU _ _) rfl
  refine v_iload (pc := 52) C 0 rfl dX0_heights_52 ?_
  exact tp_out (fun h => hret _ _ _ _ ⟨h, rfl⟩ dX0_heights_54)
def f1_begin (m0 : Nat) (a1 : Int32) (s0 : SS) : Option SS := lt (sI s0 (17 + m0) 0 a1) (fun q1 => lt (sI q1 (17 + m0) 1 (-1)) (fun q2 => lt (sI q2 (17 + m0) 2 0) (fun q3 => lt (sI q3 (17 + m0) 3 0) (fun q4 => lt (sI q4 (17 + m0) 4 0) (fun q5 => lt (sI q5 (17 + m0) 5 0) (fun q6 => some q6))))))
set_option maxHeartbeats 4000000 in
set_option maxRecDepth 100000 in
theorem m1_begin (G : GT) (l : Launch) (m0 : Nat) (a1 : Int32) (hm0 : m0 < 3) (s0 : SS) (s1 : SS) (hf : f1_begin m0 a1 s0 = some s1) : MV G l yX1_begin cX1_begin 2 none 0 0 [.ref (aX G (17 + m0)), .int a1] (wX G s0) (wX G s1) := by
  refine MV.start (by decide +kernel) (Nat.le_of_ble_eq_true rfl) (fun K hl C hret => ?_)
  subst hl
  have C : Ctx G K cX1_begin RX1 2 0 0 := C
  change V G K (wX G s0) 0 [(0, .ref (aX G (17 + m0))), (1, .int a1)] []
  refine (?_ : tp (f1_begin m0 a1 s0) (fun q => q = s1) → _) ⟨_, hf, rfl⟩
  rw [f1_begin]
  refine v_aload_n (pc := 0) C 0 rfl dX1_begin_0 ?_
  refine v_iload_n (pc := 1) C 1 rfl dX1_begin_1 ?_
  refine p1_who m0 hm0 (pc := 2) C mw_76 dX1_begin_2 ?_
  refine r_ltx (fun q1 => ?_)
  refine v_aload_n (pc := 5) C 0 rfl dX1_begin_5 ?_
  refine v_iconst (pc := 6) C (-1) dX1_begin_6 (by decide) ?_
  refine p1_where m0 hm0 (pc := 7) C mw_77 dX1_begin_7 ?_
  refine r_ltx (fun q2 => ?_)
  refine v_aload_n (pc := 10) C 0 rfl dX1_begin_10 ?_
  refine v_iconst (pc := 11) C 0 dX1_begin_11 (by decide) ?_
  refine p1_hurt m0 hm0 (pc := 12) C mw_78 dX1_begin_12 ?_
  refine r_ltx (fun q3 => ?_)
  refine v_aload_n (pc := 15) C 0 rfl dX1_begin_15 ?_
  refine v_iconst (pc := 16) C 0 dX1_begin_16 (by decide) ?_
  refine p1_top m0 hm0 (pc := 17) C mw_79 dX1_begin_17 ?_
  refine r_ltx (fun q4 => ?_)
  refine v_aload_n (pc := 20) C 0 rfl dX1_begin_20 ?_
  refine v_iconst (pc := 21) C 0 dX1_begin_21 (by decide) ?_
  refine p1_steps m0 hm0 (pc := 22) C mw_80 dX1_begin_22 ?_
  refine r_ltx (fun q5 => ?_)
  refine v_aload_n (pc := 25) C 0 rfl dX1_begin_25 ?_
  refine v_iconst (pc := 26) C 0 dX1_begin_26 (by decide) ?_
  refine p1_falls m0 hm0 (pc := 27) C mw_81 dX1_begin_27 ?_
  refine r_ltx (fun q6 => ?_)
  exact tp_out (fun h => hret _ _ _ (congrArg (wX G) h) dX1_begin_30)
def f1_become (m0 : Nat) (m1 : Nat) (s0 : SS) : Option SS := lt (sI s0 (17 + m0) 0 (s0.1 (17 + m1) 0)) (fun q1 => lt (sI q1 (17 + m0) 1 (q1.1 (17 + m1) 1)) (fun q2 => lt (sI q2 (17 + m0) 2 (q2.1 (17 + m1) 2)) (fun q3 => lt (sI q3 (17 + m0) 3 (q3.1 (17 + m1) 3)) (fun q4 => lt (sI q4 (17 + m0) 4 (q4.1 (17 + m1) 4)) (fun q5 => lt (sI q5 (17 + m0) 5 (q5.1 (17 + m1) 5)) (fun q6 => lt (sI q6 (17 + m0) 6 (q6.1 (17 + m1) 6)) (fun q7 => lt (sI q7 (17 + m0) 7 (q7.1 (17 + m1) 7)) (fun q8 => some q8))))))))
set_option maxHeartbeats 4000000 in
set_option maxRecDepth 100000 in
theorem m1_become (G : GT) (l : Launch) (m0 : Nat) (m1 : Nat) (hm0 : m0 < 3) (hm1 : m1 < 3) (s0 : SS) (s1 : SS) (hf : f1_become m0 m1 s0 = some s1) : MV G l yX1_become cX1_become 2 none 0 0 [.ref (aX G (17 + m0)), .ref (aX G (17 + m1))] (wX G s0) (wX G s1) := by
  refine MV.start (by decide +kernel) (Nat.le_of_ble_eq_true rfl) (fun K hl C hret => ?_)
  subst hl
  have C : Ctx G K cX1_become RX1 2 0 0 := C
  change V G K (wX G s0) 0 [(0, .ref (aX G (17 + m0))), (1, .ref (aX G (17 + m1)))] []
  refine (?_ : tp (f1_become m0 m1 s0) (fun q => q = s1) → _) ⟨_, hf, rfl⟩
  rw [f1_become]
  refine v_aload_n (pc := 0) C 0 rfl dX1_become_0 ?_
  refine v_aload_n (pc := 1) C 1 rfl dX1_become_1 ?_
  refine g1_who m1 hm1 (pc := 2) C mw_76 dX1_become_2 ?_
  refine p1_who m0 hm0 (pc := 5) C mw_76 dX1_become_5 ?_
  refine r_ltx (fun q1 => ?_)
  refine v_aload_n (pc := 8) C 0 rfl dX1_become_8 ?_
  refine v_aload_n (pc := 9) C 1 rfl dX1_become_9 ?_
  refine g1_where m1 hm1 (pc := 10) C mw_77 dX1_become_10 ?_
  refine p1_where m0 hm0 (pc := 13) C mw_77 dX1_become_13 ?_
  refine r_ltx (fun q2 => ?_)
  refine v_aload_n (pc := 16) C 0 rfl dX1_become_16 ?_
  refine v_aload_n (pc := 17) C 1 rfl dX1_become_17 ?_
  refine g1_hurt m1 hm1 (pc := 18) C mw_78 dX1_become_18 ?_
  refine p1_hurt m0 hm0 (pc := 21) C mw_78 dX1_become_21 ?_
  refine r_ltx (fun q3 => ?_)
  refine v_aload_n (pc := 24) C 0 rfl dX1_become_24 ?_
  refine v_aload_n (pc := 25) C 1 rfl dX1_become_25 ?_
  refine g1_top m1 hm1 (pc := 26) C mw_79 dX1_become_26 ?_
  refine p1_top m0 hm0 (pc := 29) C mw_79 dX1_become_29 ?_
  refine r_ltx (fun q4 => ?_)
  refine v_aload_n (pc := 32) C 0 rfl dX1_become_32 ?_
  refine v_aload_n (pc := 33) C 1 rfl dX1_become_33 ?_
  refine g1_steps m1 hm1 (pc := 34) C mw_80 dX1_become_34 ?_
  refine p1_steps m0 hm0 (pc := 37) C mw_80 dX1_become_37 ?_
  refine r_ltx (fun q5 => ?_)
  refine v_aload_n (pc := 40) C 0 rfl dX1_become_40 ?_
  refine v_aload_n (pc := 41) C 1 rfl dX1_become_41 ?_
  refine g1_falls m1 hm1 (pc := 42) C mw_81 dX1_become_42 ?_
  refine p1_falls m0 hm0 (pc := 45) C mw_81 dX1_become_45 ?_
  refine r_ltx (fun q6 => ?_)
  refine v_aload_n (pc := 48) C 0 rfl dX1_become_48 ?_
  refine v_aload_n (pc := 49) C 1 rfl dX1_become_49 ?_
  refine g1_lot m1 hm1 (pc := 50) C mw_82 dX1_become_50 ?_
  refine p1_lot m0 hm0 (pc := 53) C mw_82 dX1_become_53 ?_
  refine r_ltx (fun q7 => ?_)
  refine v_aload_n (pc := 56) C 0 rfl dX1_become_56 ?_
  refine v_aload_n (pc := 57) C 1 rfl dX1_become_57 ?_
  refine g1_sawn m1 hm1 (pc := 58) C mw_83 dX1_become_58 ?_
  refine p1_sawn m0 hm0 (pc := 61) C mw_83 dX1_become_61 ?_
  refine r_ltx (fun q8 => ?_)
  exact tp_out (fun h => hret _ _ _ (congrArg (wX G) h) dX1_become_64)
def f1_draw (m0 : Nat) (s0 : SS) : Option (Int32 × SS) := lt (sI s0 (17 + m0) 6 (((s0.1 (17 + m0) 6) * 1103515245) + 12345)) (fun q1 => some ((((Int32.toUInt32 (q1.1 (17 + m0) 6)) >>> ((Int32.toUInt32 16) &&& Int32.toUInt32 31)).toInt32 - ((Int32.toUInt32 (q1.1 (17 + m0) 6)) >>> ((Int32.toUInt32 16) &&& Int32.toUInt32 31)).toInt32 / 10 * 10), q1))
set_option maxHeartbeats 4000000 in
set_option maxRecDepth 100000 in
theorem m1_draw (G : GT) (l : Launch) (m0 : Nat) (hm0 : m0 < 3) (s0 : SS) (r : Int32) (s1 : SS) (hf : f1_draw m0 s0 = some (r, s1)) : MI G l yX1_draw cX1_draw 1 (some .int) 0 0 [.ref (aX G (17 + m0))] (wX G s0) r (wX G s1) := by
  refine MI.start (by decide +kernel) (Nat.le_of_ble_eq_true rfl) (fun K hl C hret => ?_)
  subst hl
  have C : Ctx G K cX1_draw RX1 1 0 0 := C
  change V G K (wX G s0) 0 [(0, .ref (aX G (17 + m0)))] []
  refine (?_ : tp (f1_draw m0 s0) (fun q => q = (r, s1)) → _) ⟨_, hf, rfl⟩
  rw [f1_draw]
  refine v_aload_n (pc := 0) C 0 rfl dX1_draw_0 ?_
  refine v_aload_n (pc := 1) C 0 rfl dX1_draw_1 ?_
  refine g1_lot m0 hm0 (pc := 2) C mw_82 dX1_draw_2 ?_
  refine v_ldc (pc := 5) C mw_855 dX1_draw_5 ?_
  refine v_imul (pc := 7) C dX1_draw_7 ?_
  refine v_sipush (pc := 8) C 12345 dX1_draw_8 (by decide) ?_
  refine v_iadd (pc := 11) C dX1_draw_11 ?_
  refine p1_lot m0 hm0 (pc := 12) C mw_82 dX1_draw_12 ?_
  refine r_ltx (fun q1 => ?_)
  refine v_aload_n (pc := 15) C 0 rfl dX1_draw_15 ?_
  refine g1_lot m0 hm0 (pc := 16) C mw_82 dX1_draw_16 ?_
  refine v_bipush (pc := 19) C 16 dX1_draw_19 (by decide) ?_
  refine v_iushr (pc := 21) C dX1_draw_21 ?_
  refine v_bipush (pc := 22) C 10 dX1_draw_22 (by decide) ?_
  refine v_irem (pc := 24) C dX1_draw_24 (by decide) ?_
  exact tp_out (fun h => hret _ _ _ _ ⟨(Prod.mk.inj h).1, congrArg (wX G) (Prod.mk.inj h).2⟩ dX1_draw_25)
def f1_arrive (m0 : Nat) (a1 : Int32) (a2 : Int32) (s0 : SS) : Option SS := lt (sI s0 (17 + m0) 1 a1) (fun q1 => lt (if (q1.1 (17 + m0) 3) < a2 then a2 else (q1.1 (17 + m0) 3)) (fun x2 => lt (sI q1 (17 + m0) 3 x2) (fun q3 => lt (sI q3 (17 + m0) 4 ((q3.1 (17 + m0) 4) + 1)) (fun q4 => some q4))))
set_option maxHeartbeats 4000000 in
set_option maxRecDepth 100000 in
theorem m1_arrive (G : GT) (l : Launch) (m0 : Nat) (a1 : Int32) (a2 : Int32) (hm0 : m0 < 3) (s0 : SS) (s1 : SS) (hf : f1_arrive m0 a1 a2 s0 = some s1) : MV G l yX1_arrive cX1_arrive 3 none 1 23 [.ref (aX G (17 + m0)), .int a1, .int a2] (wX G s0) (wX G s1) := by
  refine MV.start (by decide +kernel) (Nat.le_of_ble_eq_true rfl) (fun K hl C hret => ?_)
  subst hl
  have C : Ctx G K cX1_arrive RX1 3 1 23 := C
  change V G K (wX G s0) 0 [(0, .ref (aX G (17 + m0))), (1, .int a1), (2, .int a2)] []
  refine (?_ : tp (f1_arrive m0 a1 a2 s0) (fun q => q = s1) → _) ⟨_, hf, rfl⟩
  rw [f1_arrive]
  refine v_aload_n (pc := 0) C 0 rfl dX1_arrive_0 ?_
  refine v_iload_n (pc := 1) C 1 rfl dX1_arrive_1 ?_
  refine p1_where m0 hm0 (pc := 2) C mw_77 dX1_arrive_2 ?_
  refine r_ltx (fun q1 => ?_)
  refine v_aload_n (pc := 5) C 0 rfl dX1_arrive_5 ?_
  refine v_aload_n (pc := 6) C 0 rfl dX1_arrive_6 ?_
  refine g1_top m0 hm0 (pc := 7) C mw_79 dX1_arrive_7 ?_
  refine v_iload_n (pc := 10) C 2 rfl dX1_arrive_10 ?_
  refine v_mmax (pc := 11) C mw_860 mw_491 mw_190 mw_492 (by decide) (Nat.le_of_ble_eq_true rfl) dX1_arrive_11 ?_
  refine r_lti (fun x2 => ?_)
  refine p1_top m0 hm0 (pc := 14) C mw_79 dX1_arrive_14 ?_
  refine r_ltx (fun q3 => ?_)
  refine v_aload_n (pc := 17) C 0 rfl dX1_arrive_17 ?_
  refine v_dup (pc := 18) C dX1_arrive_18 rfl ?_
  refine g1_steps m0 hm0 (pc := 19) C mw_80 dX1_arrive_19 ?_
  refine v_iconst (pc := 22) C 1 dX1_arrive_22 (by decide) ?_
  refine v_iadd (pc := 23) C dX1_arrive_23 ?_
  refine p1_steps m0 hm0 (pc := 24) C mw_80 dX1_arrive_24 ?_
  refine r_ltx (fun q4 => ?_)
  exact tp_out (fun h => hret _ _ _ (congrArg (wX G) h) dX1_arrive_27)
def f1_drop (m0 : Nat) (a1 : Int32) (s0 : SS) : Option SS := lt (sI s0 (17 + m0) 1 (-1)) (fun q1 => lt (sI q1 (17 + m0) 2 ((q1.1 (17 + m0) 2) + a1)) (fun q2 => lt (sI q2 (17 + m0) 5 ((q2.1 (17 + m0) 5) + 1)) (fun q3 => some q3)))
set_option maxHeartbeats 4000000 in
set_option maxRecDepth 100000 in
theorem m1_drop (G : GT) (l : Launch) (m0 : Nat) (a1 : Int32) (hm0 : m0 < 3) (s0 : SS) (s1 : SS) (hf : f1_drop m0 a1 s0 = some s1) : MV G l yX1_drop cX1_drop 2 none 0 0 [.ref (aX G (17 + m0)), .int a1] (wX G s0) (wX G s1) := by
  refine MV.start (by decide +kernel) (Nat.le_of_ble_eq_true rfl) (fun K hl C hret => ?_)
  subst hl
  have C : Ctx G K cX1_drop RX1 2 0 0 := C
  change V G K (wX G s0) 0 [(0, .ref (aX G (17 + m0))), (1, .int a1)] []
  refine (?_ : tp (f1_drop m0 a1 s0) (fun q => q = s1) → _) ⟨_, hf, rfl⟩
  rw [f1_drop]
  refine v_aload_n (pc := 0) C 0 rfl dX1_drop_0 ?_
  refine v_iconst (pc := 1) C (-1) dX1_drop_1 (by decide) ?_
  refine p1_where m0 hm0 (pc := 2) C mw_77 dX1_drop_2 ?_
  refine r_ltx (fun q1 => ?_)
  refine v_aload_n (pc := 5) C 0 rfl dX1_drop_5 ?_
  refine v_dup (pc := 6) C dX1_drop_6 rfl ?_
  refine g1_hurt m0 hm0 (pc := 7) C mw_78 dX1_drop_7 ?_
  refine v_iload_n (pc := 10) C 1 rfl dX1_drop_10 ?_
  refine v_iadd (pc := 11) C dX1_drop_11 ?_
  refine p1_hurt m0 hm0 (pc := 12) C mw_78 dX1_drop_12 ?_
  refine r_ltx (fun q2 => ?_)
  refine v_aload_n (pc := 15) C 0 rfl dX1_drop_15 ?_
  refine v_dup (pc := 16) C dX1_drop_16 rfl ?_
  refine g1_falls m0 hm0 (pc := 17) C mw_81 dX1_drop_17 ?_
  refine v_iconst (pc := 20) C 1 dX1_drop_20 (by decide) ?_
  refine v_iadd (pc := 21) C dX1_drop_21 ?_
  refine p1_falls m0 hm0 (pc := 22) C mw_81 dX1_drop_22 ?_
  refine r_ltx (fun q3 => ?_)
  exact tp_out (fun h => hret _ _ _ (congrArg (wX G) h) dX1_drop_25)
def L2_append_32 (c1 : Int64) : Nat → Int32 → SS → Option (SS)
  | 0, _, _ => none
  | n + 1, v4, s => if v4 < 0 then some s else gd (inb (s.1 2 1) 400) (lt (sI s 3 (Int32.toNatClampNeg (s.1 2 1)) ((Int64.toInt32 ((Int64.toUInt64 c1) >>> ((Int64.toUInt64 (Int32.toInt64 (8 * v4))) &&& Int64.toUInt64 63)).toInt64) &&& 255)) (fun q2 => lt (sI q2 2 1 ((q2.1 2 1) + 1)) (fun q3 => lt (v4 + (-1)) (fun x4 => L2_append_32 c1 n x4 q3))))
def f2_append (a1 : Int64) (a3 : Int32) (s0 : SS) : Option (Int32 × SS) := if a3 < 1 then some (0, s0) else if a3 ≤ 8 then if ((s0.1 2 1) + a3) ≤ 400 then lt ((a3 - 1)) (fun x1 => bk1 (L2_append_32 a1 FU x1 s0) (fun q5 => some (1, q5))) else some (0, s0) else some (0, s0)
set_option maxHeartbeats 4000000 in
set_option maxRecDepth 100000 in
theorem l2_append_32 {G : GT} {K : KT} (C : Ctx G K cX2_append RX2 5 0 0) (c1 : Int64) {Ψ : SS → Prop} (hx : ∀ (so : SS), Ψ so → V G K (wX G so) 74 [] []) : ∀ (n : Nat) (v4 : Int32) (s : SS), tp (L2_append_32 c1 n v4 s) (k1 Ψ) → V G K (wX G s) 32 [(0, .ref (aX G 2)), (1, .long c1), (4, .int v4)] [] := by
  intro n
  induction n with
  | zero => intro v4 s h; exact tp_no h
  | succ n ih =>
    intro v4 s
    rw [L2_append_32]
    refine v_iload (pc := 32) C 2 rfl dX2_append_32 ?_
    refine v_if_lt (pc := 34) C 74 dX2_append_34 (by decide) ?_ ?_
    · exact tp_out (fun h => v_to [] (hx _) rfl h)
    · refine v_aload_n (pc := 37) C 0 rfl dX2_append_37 ?_
      refine g2_bytes (pc := 38) C mw_49 dX2_append_38 ?_
      refine v_aload_n (pc := 41) C 0 rfl dX2_append_41 ?_
      refine g2_length (pc := 42) C mw_50 dX2_append_42 ?_
      refine v_lload_n (pc := 45) C 1 rfl dX2_append_45 ?_
      refine v_bipush (pc := 46) C 8 dX2_append_46 (by decide) ?_
      refine v_iload (pc := 48) C 2 rfl dX2_append_48 ?_
      refine v_imul (pc := 50) C dX2_append_50 ?_
      refine v_lushr (pc := 51) C dX2_append_51 ?_
      refine v_l2i (pc := 52) C dX2_append_52 ?_
      refine v_sipush (pc := 53) C 255 dX2_append_53 (by decide) ?_
      refine v_iand (pc := 56) C dX2_append_56 ?_
      refine v_iast (pc := 57) C _ ax_3 (as_3 _ _) dX2_append_57 ?_
      refine r_ltx (fun q2 => ?_)
      refine v_aload_n (pc := 58) C 0 rfl dX2_append_58 ?_
      refine v_dup (pc := 59) C dX2_append_59 rfl ?_
      refine g2_length (pc := 60) C mw_50 dX2_append_60 ?_
      refine v_iconst (pc := 63) C 1 dX2_append_63 (by decide) ?_
      refine v_iadd (pc := 64) C dX2_append_64 ?_
      refine p2_length (pc := 65) C mw_50 dX2_append_65 ?_
      refine r_ltx (fun q3 => ?_)
      refine v_iincL (pc := 68) C (-1) 2 dX2_append_68 rfl (by decide) (by decide) (lv0 := [(0, .ref (aX G 2)), (1, .long c1)]) rfl (fun x4 => ?_)
      refine v_goto (pc := 71) C 32 dX2_append_71 (by decide) ?_
      exact v_to [1, 2, 0] (ih _ _) rfl
set_option maxHeartbeats 4000000 in
set_option maxRecDepth 100000 in
theorem m2_append (G : GT) (l : Launch) (a1 : Int64) (a3 : Int32)  (s0 : SS) (r : Int32) (s1 : SS) (hf : f2_append a1 a3 s0 = some (r, s1)) : MI G l yX2_append cX2_append 5 (some .boolean) 0 0 [.ref (aX G 2), .long a1, .int a3] (wX G s0) r (wX G s1) := by
  refine MI.startZ (by decide +kernel) (Nat.le_of_ble_eq_true rfl) (fun K hl C hret => ?_)
  subst hl
  have C : Ctx G K cX2_append RX2 5 0 0 := C
  change V G K (wX G s0) 0 [(0, .ref (aX G 2)), (1, .long a1), (3, .int a3)] []
  refine (?_ : tp (f2_append a1 a3 s0) (fun q => q = (r, s1)) → _) ⟨_, hf, rfl⟩
  rw [f2_append]
  refine v_iload_n (pc := 0) C 2 rfl dX2_append_0 ?_
  refine v_iconst (pc := 1) C 1 dX2_append_1 (by decide) ?_
  refine v_icmp_lt (pc := 2) C 25 dX2_append_2 (by decide) ?_ ?_
  · refine v_iconst (pc := 25) C 0 dX2_append_25 (by decide) ?_
    exact tp_out (fun h => hret _ _ _ _ ⟨(Prod.mk.inj h).1, congrArg (wX G) (Prod.mk.inj h).2⟩ (Or.inl rfl) dX2_append_26)
  · refine v_iload_n (pc := 5) C 2 rfl dX2_append_5 ?_
    refine v_bipush (pc := 6) C 8 dX2_append_6 (by decide) ?_
    refine v_icmp_gt (pc := 8) C 25 dX2_append_8 (by decide) ?_ ?_
    · refine v_aload_n (pc := 11) C 0 rfl dX2_append_11 ?_
      refine g2_length (pc := 12) C mw_50 dX2_append_12 ?_
      refine v_iload_n (pc := 15) C 2 rfl dX2_append_15 ?_
      refine v_iadd (pc := 16) C dX2_append_16 ?_
      refine v_aload_n (pc := 17) C 0 rfl dX2_append_17 ?_
      refine g2_bytes (pc := 18) C mw_49 dX2_append_18 ?_
      refine v_alen (pc := 21) C _ 0 ax_3 rfl (v := 400) rfl dX2_append_21 ?_
      refine v_icmp_le (pc := 22) C 27 dX2_append_22 (by decide) ?_ ?_
      · refine v_iload_n (pc := 27) C 2 rfl dX2_append_27 ?_
        refine v_iconst (pc := 28) C 1 dX2_append_28 (by decide) ?_
        refine v_isub (pc := 29) C dX2_append_29 ?_
        refine r_lti (fun x1 => ?_)
        refine v_istore (pc := 30) C dX2_append_30 (by decide) (lv' := [(4, .int x1), (0, .ref (aX G 2)), (1, .long a1), (3, .int a3)]) rfl ?_
        refine r_bk1 ?_
        refine v_to [1, 2, 0] (l2_append_32 C a1 (fun q5 => ?_) FU _ _) rfl
        refine v_iconst (pc := 74) C 1 dX2_append_74 (by decide) ?_
        exact tp_out (fun h => hret _ _ _ _ ⟨(Prod.mk.inj h).1, congrArg (wX G) (Prod.mk.inj h).2⟩ (Or.inr rfl) dX2_append_75)
      · refine v_iconst (pc := 25) C 0 dX2_append_25 (by decide) ?_
        exact tp_out (fun h => hret _ _ _ _ ⟨(Prod.mk.inj h).1, congrArg (wX G) (Prod.mk.inj h).2⟩ (Or.inl rfl) dX2_append_26)
    · refine v_iconst (pc := 25) C 0 dX2_append_25 (by decide) ?_
      exact tp_out (fun h => hret _ _ _ _ ⟨(Prod.mk.inj h).1, congrArg (wX G) (Prod.mk.inj h).2⟩ (Or.inl rfl) dX2_append_26)
def f2_rewind  (s0 : SS) : Option SS := lt (sI s0 2 2 0) (fun q1 => some q1)
set_option maxHeartbeats 4000000 in
set_option maxRecDepth 100000 in
theorem m2_rewind (G : GT) (l : Launch)   (s0 : SS) (s1 : SS) (hf : f2_rewind s0 = some s1) : MV G l yX2_rewind cX2_rewind 1 none 0 0 [.ref (aX G 2)] (wX G s0) (wX G s1) := by
  refine MV.start (by decide +kernel) (Nat.le_of_ble_eq_true rfl) (fun K hl C hret => ?_)
  subst hl
  have C : Ctx G K cX2_rewind RX2 1 0 0 := C
  change V G K (wX G s0) 0 [(0, .ref (aX G 2))] []
  refine (?_ : tp (f2_rewind s0) (fun q => q = s1) → _) ⟨_, hf, rfl⟩
  rw [f2_rewind]
  refine v_aload_n (pc := 0) C 0 rfl dX2_rewind_0 ?_
  refine v_iconst (pc := 1) C 0 dX2_rewind_1 (by decide) ?_
  refine p2_at (pc := 2) C mw_51 dX2_rewind_2 ?_
  refine r_ltx (fun q1 => ?_)
  exact tp_out (fun h => hret _ _ _ (congrArg (wX G) h) dX2_rewind_5)
def f2_byteAt (a1 : Int32) (s0 : SS) : Option Int32 := lt (fun (_u : Unit) => some (-1)) (fun j1 => if a1 < 0 then j1 () else if a1 < (s0.1 2 1) then if a1 < 400 then gd (inb a1 400) (some (s0.1 3 a1.toNatClampNeg)) else j1 () else j1 ())
set_option maxHeartbeats 4000000 in
set_option maxRecDepth 100000 in
theorem m2_byteAt (G : GT) (l : Launch) (a1 : Int32)  (s0 : SS) (r : Int32) (hf : f2_byteAt a1 s0 = some r) : MI G l yX2_byteAt cX2_byteAt 2 (some .int) 0 0 [.ref (aX G 2), .int a1] (wX G s0) r (wX G s0) := by
  refine MI.start (by decide +kernel) (Nat.le_of_ble_eq_true rfl) (fun K hl C hret => ?_)
  subst hl
  have C : Ctx G K cX2_byteAt RX2 2 0 0 := C
  change V G K (wX G s0) 0 [(0, .ref (aX G 2)), (1, .int a1)] []
  refine (?_ : tp (f2_byteAt a1 s0) (fun q => q = r) → _) ⟨_, hf, rfl⟩
  rw [f2_byteAt]
  refine v_iload_n (pc := 0) C 1 rfl dX2_byteAt_0 ?_
  refine r_lJ (fun Φ0 j1 => ∀ (_u : Unit), tp (j1 ()) Φ0 → V G K (wX G s0) 30 [] []) (fun _u => ?_) (fun j1 hj2 => ?_)
  · refine v_iconst (pc := 30) C (-1) dX2_byteAt_30 (by decide) ?_
    exact tp_out (fun h => hret _ _ _ _ ⟨h, rfl⟩ dX2_byteAt_31)
  refine v_if_lt (pc := 1) C 30 dX2_byteAt_1 (by decide) ?_ ?_
  · exact v_to [] (hj2 ()) rfl
  · refine v_iload_n (pc := 4) C 1 rfl dX2_byteAt_4 ?_
    refine v_aload_n (pc := 5) C 0 rfl dX2_byteAt_5 ?_
    refine g2_length (pc := 6) C mw_50 dX2_byteAt_6 ?_
    refine v_icmp_ge (pc := 9) C 30 dX2_byteAt_9 (by decide) ?_ ?_
    · refine v_iload_n (pc := 12) C 1 rfl dX2_byteAt_12 ?_
      refine v_aload_n (pc := 13) C 0 rfl dX2_byteAt_13 ?_
      refine g2_bytes (pc := 14) C mw_49 dX2_byteAt_14 ?_
      refine v_alen (pc := 17) C _ 0 ax_3 rfl (v := 400) rfl dX2_byteAt_17 ?_
      refine v_icmp_ge (pc := 18) C 30 dX2_byteAt_18 (by decide) ?_ ?_
      · refine v_aload_n (pc := 21) C 0 rfl dX2_byteAt_21 ?_
        refine g2_bytes (pc := 22) C mw_49 dX2_byteAt_22 ?_
        refine v_iload_n (pc := 25) C 1 rfl dX2_byteAt_25 ?_
        refine v_iald (pc := 26) C _ ax_3 dX2_byteAt_26 ?_
        refine v_goto (pc := 27) C 31 dX2_byteAt_27 (by decide) ?_
        exact tp_out (fun h => hret _ _ _ _ ⟨h, rfl⟩ dX2_byteAt_31)
      · exact v_to [] (hj2 ()) rfl
    · exact v_to [] (hj2 ()) rfl
def f2_isDigit (a0 : Int32) : Option Int32 := lt (fun (_u : Unit) => some 0) (fun j1 => if a0 < 48 then j1 () else if a0 ≤ 57 then some 1 else j1 ())
set_option maxHeartbeats 4000000 in
set_option maxRecDepth 100000 in
theorem m2_isDigit (G : GT) (l : Launch) (a0 : Int32)  (w : va_W) (r : Int32) (hf : f2_isDigit a0 = some r) : MI G l yX2_isDigit cX2_isDigit 1 (some .boolean) 0 0 [.int a0] w r w := by
  refine MI.startZ (by decide +kernel) (Nat.le_of_ble_eq_true rfl) (fun K hl C hret => ?_)
  subst hl
  have C : Ctx G K cX2_isDigit RX2 1 0 0 := C
  change V G K w 0 [(0, .int a0)] []
  refine (?_ : tp (f2_isDigit a0) (fun q => q = r) → _) ⟨_, hf, rfl⟩
  rw [f2_isDigit]
  refine v_iload_n (pc := 0) C 0 rfl dX2_isDigit_0 ?_
  refine v_bipush (pc := 1) C 48 dX2_isDigit_1 (by decide) ?_
  refine r_lJ (fun Φ0 j1 => ∀ (_u : Unit), tp (j1 ()) Φ0 → V G K w 16 [] []) (fun _u => ?_) (fun j1 hj2 => ?_)
  · refine v_iconst (pc := 16) C 0 dX2_isDigit_16 (by decide) ?_
    exact tp_out (fun h => hret _ _ _ _ ⟨h, rfl⟩ (Or.inl rfl) dX2_isDigit_17)
  refine v_icmp_lt (pc := 3) C 16 dX2_isDigit_3 (by decide) ?_ ?_
  · exact v_to [] (hj2 ()) rfl
  · refine v_iload_n (pc := 6) C 0 rfl dX2_isDigit_6 ?_
    refine v_bipush (pc := 7) C 57 dX2_isDigit_7 (by decide) ?_
    refine v_icmp_gt (pc := 9) C 16 dX2_isDigit_9 (by decide) ?_ ?_
    · refine v_iconst (pc := 12) C 1 dX2_isDigit_12 (by decide) ?_
      refine v_goto (pc := 13) C 17 dX2_isDigit_13 (by decide) ?_
      exact tp_out (fun h => hret _ _ _ _ ⟨h, rfl⟩ (Or.inr rfl) dX2_isDigit_17)
    · exact v_to [] (hj2 ()) rfl
def L2_readNumber_2 : Nat → Int32 → SS → Option (Int32 × SS)
  | 0, _, _ => none
  | n + 1, v1, s => if (s.1 2 2) < (s.1 2 1) then bd (f2_byteAt (s.1 2 2) s) (fun x1 => bd (f2_isDigit x1) (fun x2 => if x2 = 0 then some (v1, s) else bd (f2_byteAt (s.1 2 2) s) (fun x3 => lt (if (((v1 * 10) + x3) - 48) < 100 then (((v1 * 10) + x3) - 48) else 100) (fun x4 => lt (sI s 2 2 ((s.1 2 2) + 1)) (fun q5 => L2_readNumber_2 n x4 q5))))) else some (v1, s)
def f2_readNumber  (s0 : SS) : Option (Int32 × SS) := bk2 (L2_readNumber_2 FU 0 s0) (fun x6 q7 => lt (sI q7 2 5 x6) (fun q8 => bd (f2_byteAt (q8.1 2 3) q8) (fun x9 => lt (fun (x12 : Int32) => if x12 = 0 then if x6 ≤ 99 then some (2, q8) else some (7, q8) else some (7, q8)) (fun j10 => lt (fun (_u : Unit) => j10 0) (fun j13 => if x9 = 48 then if ((q8.1 2 2) - (q8.1 2 3)) ≤ 1 then j13 () else j10 1 else j13 ())))))
set_option maxHeartbeats 4000000 in
set_option maxRecDepth 100000 in
theorem l2_readNumber_2 {G : GT} {K : KT} (C : Ctx G K cX2_readNumber RX2 3 1 23) {Ψ : Int32 → SS → Prop} (hx : ∀ (o1 : Int32) (so : SS), Ψ o1 so → V G K (wX G so) 62 [(0, .ref (aX G 2)), (1, .int o1)] []) : ∀ (n : Nat) (v1 : Int32) (s : SS), tp (L2_readNumber_2 n v1 s) (k2 Ψ) → V G K (wX G s) 2 [(0, .ref (aX G 2)), (1, .int v1)] [] := by
  intro n
  induction n with
  | zero => intro v1 s h; exact tp_no h
  | succ n ih =>
    intro v1 s
    rw [L2_readNumber_2]
    refine v_aload_n (pc := 2) C 0 rfl dX2_readNumber_2 ?_
    refine g2_at (pc := 3) C mw_51 dX2_readNumber_3 ?_
    refine v_aload_n (pc := 6) C 0 rfl dX2_readNumber_6 ?_
    refine g2_length (pc := 7) C mw_50 dX2_readNumber_7 ?_
    refine v_icmp_ge (pc := 10) C 62 dX2_readNumber_10 (by decide) ?_ ?_
    · refine v_aload_n (pc := 13) C 0 rfl dX2_readNumber_13 ?_
      refine v_aload_n (pc := 14) C 0 rfl dX2_readNumber_14 ?_
      refine g2_at (pc := 15) C mw_51 dX2_readNumber_15 ?_
      refine cIv1r (pc := 18) C (fun r9 h9 => m2_byteAt G K.2.1 (s.1 2 2) s r9 h9) q_yX2_byteAt mw_177 rc_2 ⟨by decide, by decide⟩ (Nat.le_of_ble_eq_true rfl) dX2_readNumber_18 (fun x1 => ?_)
      refine cIs1r (pc := 21) C (fun r9 h9 => m2_isDigit G K.2.1 x1 _ r9 h9) q_yX2_isDigit mw_181 ⟨by decide, by decide⟩ (Nat.le_of_ble_eq_true rfl) dX2_readNumber_21 (fun x2 => ?_)
      refine v_if_eq (pc := 24) C 62 dX2_readNumber_24 (by decide) ?_ ?_
      · exact tp_out (fun h => v_to [0, 1] (hx _ _) rfl h)
      · refine v_bipush (pc := 27) C 100 dX2_readNumber_27 (by decide) ?_
        refine v_iload_n (pc := 29) C 1 rfl dX2_readNumber_29 ?_
        refine v_bipush (pc := 30) C 10 dX2_readNumber_30 (by decide) ?_
        refine v_imul (pc := 32) C dX2_readNumber_32 ?_
        refine v_aload_n (pc := 33) C 0 rfl dX2_readNumber_33 ?_
        refine v_aload_n (pc := 34) C 0 rfl dX2_readNumber_34 ?_
        refine g2_at (pc := 35) C mw_51 dX2_readNumber_35 ?_
        refine cIv1r (pc := 38) C (fun r9 h9 => m2_byteAt G K.2.1 (s.1 2 2) s r9 h9) q_yX2_byteAt mw_177 rc_2 ⟨by decide, by decide⟩ (Nat.le_of_ble_eq_true rfl) dX2_readNumber_38 (fun x3 => ?_)
        refine v_iadd (pc := 41) C dX2_readNumber_41 ?_
        refine v_bipush (pc := 42) C 48 dX2_readNumber_42 (by decide) ?_
        refine v_isub (pc := 44) C dX2_readNumber_44 ?_
        refine v_mmin (pc := 45) C mw_188 mw_189 mw_190 mw_191 (by decide) (Nat.le_of_ble_eq_true rfl) dX2_readNumber_45 ?_
        refine r_lti (fun x4 => ?_)
        refine v_istore_n (pc := 48) C dX2_readNumber_48 (by decide) (lv' := [(1, .int x4), (0, .ref (aX G 2))]) rfl ?_
        refine v_aload_n (pc := 49) C 1 rfl dX2_readNumber_49 ?_
        refine v_dup (pc := 50) C dX2_readNumber_50 rfl ?_
        refine g2_at (pc := 51) C mw_51 dX2_readNumber_51 ?_
        refine v_iconst (pc := 54) C 1 dX2_readNumber_54 (by decide) ?_
        refine v_iadd (pc := 55) C dX2_readNumber_55 ?_
        refine p2_at (pc := 56) C mw_51 dX2_readNumber_56 ?_
        refine r_ltx (fun q5 => ?_)
        refine v_goto (pc := 59) C 2 dX2_readNumber_59 (by decide) ?_
        exact v_to [1, 0] (ih _ _) rfl
    · exact tp_out (fun h => v_to [0, 1] (hx _ _) rfl h)
set_option maxHeartbeats 4000000 in
set_option maxRecDepth 100000 in
theorem m2_readNumber (G : GT) (l : Launch)   (s0 : SS) (r : Int32) (s1 : SS) (hf : f2_readNumber s0 = some (r, s1)) : MI G l yX2_readNumber cX2_readNumber 3 (some .int) 1 23 [.ref (aX G 2)] (wX G s0) r (wX G s1) := by
  refine MI.start (by decide +kernel) (Nat.le_of_ble_eq_true rfl) (fun K hl C hret => ?_)
  subst hl
  have C : Ctx G K cX2_readNumber RX2 3 1 23 := C
  change V G K (wX G s0) 0 [(0, .ref (aX G 2))] []
  refine (?_ : tp (f2_readNumber s0) (fun q => q = (r, s1)) → _) ⟨_, hf, rfl⟩
  rw [f2_readNumber]
  refine v_iconst (pc := 0) C 0 dX2_readNumber_0 (by decide) ?_
  refine v_istore_n (pc := 1) C dX2_readNumber_1 (by decide) (lv' := [(1, .int 0), (0, .ref (aX G 2))]) rfl ?_
  refine r_bk2 ?_
  refine v_to [1, 0] (l2_readNumber_2 C (fun x6 q7 => ?_) FU _ _) rfl
  refine v_aload_n (pc := 62) C 0 rfl dX2_readNumber_62 ?_
  refine v_iload_n (pc := 63) C 1 rfl dX2_readNumber_63 ?_
  refine p2_number (pc := 64) C mw_54 dX2_readNumber_64 ?_
  refine r_ltx (fun q8 => ?_)
  refine v_aload_n (pc := 67) C 0 rfl dX2_readNumber_67 ?_
  refine v_aload_n (pc := 68) C 0 rfl dX2_readNumber_68 ?_
  refine g2_start (pc := 69) C mw_52 dX2_readNumber_69 ?_
  refine cIv1r (pc := 72) C (fun r9 h9 => m2_byteAt G K.2.1 (q8.1 2 3) q8 r9 h9) q_yX2_byteAt mw_177 rc_2 ⟨by decide, by decide⟩ (Nat.le_of_ble_eq_true rfl) dX2_readNumber_72 (fun x9 => ?_)
  refine v_bipush (pc := 75) C 48 dX2_readNumber_75 (by decide) ?_
  refine r_lJ (fun Φ0 j10 => ∀ (x12 : Int32), tp (j10 x12) Φ0 → V G K (wX G q8) 98 [(1, .int x6)] [.int x12]) (fun x12 => ?_) (fun j10 hj11 => ?_)
  · refine v_istore_n (pc := 98) C dX2_readNumber_98 (by decide) (lv' := [(2, .int x12), (1, .int x6)]) rfl ?_
    refine v_iload_n (pc := 99) C 0 rfl dX2_readNumber_99 ?_
    refine v_if_ne (pc := 100) C 109 dX2_readNumber_100 (by decide) ?_ ?_
    · refine v_iload_n (pc := 103) C 1 rfl dX2_readNumber_103 ?_
      refine v_bipush (pc := 104) C 99 dX2_readNumber_104 (by decide) ?_
      refine v_icmp_le (pc := 106) C 114 dX2_readNumber_106 (by decide) ?_ ?_
      · refine v_iconst (pc := 114) C 2 dX2_readNumber_114 (by decide) ?_
        exact tp_out (fun h => hret _ _ _ _ ⟨(Prod.mk.inj h).1, congrArg (wX G) (Prod.mk.inj h).2⟩ dX2_readNumber_115)
      · refine v_bipush (pc := 109) C 7 dX2_readNumber_109 (by decide) ?_
        refine v_goto (pc := 111) C 115 dX2_readNumber_111 (by decide) ?_
        exact tp_out (fun h => hret _ _ _ _ ⟨(Prod.mk.inj h).1, congrArg (wX G) (Prod.mk.inj h).2⟩ dX2_readNumber_115)
    · refine v_bipush (pc := 109) C 7 dX2_readNumber_109 (by decide) ?_
      refine v_goto (pc := 111) C 115 dX2_readNumber_111 (by decide) ?_
      exact tp_out (fun h => hret _ _ _ _ ⟨(Prod.mk.inj h).1, congrArg (wX G) (Prod.mk.inj h).2⟩ dX2_readNumber_115)
  refine r_lJ (fun Φ0 j13 => ∀ (_u : Unit), tp (j13 ()) Φ0 → V G K (wX G q8) 97 [(1, .int x6)] []) (fun _u => ?_) (fun j13 hj14 => ?_)
  · refine v_iconst (pc := 97) C 0 dX2_readNumber_97 (by decide) ?_
    exact v_to [0] (hj11 _) rfl
  refine v_icmp_ne (pc := 77) C 97 dX2_readNumber_77 (by decide) ?_ ?_
  · refine v_aload_n (pc := 80) C 0 rfl dX2_readNumber_80 ?_
    refine g2_at (pc := 81) C mw_51 dX2_readNumber_81 ?_
    refine v_aload_n (pc := 84) C 0 rfl dX2_readNumber_84 ?_
    refine g2_start (pc := 85) C mw_52 dX2_readNumber_85 ?_
    refine v_isub (pc := 88) C dX2_readNumber_88 ?_
    refine v_iconst (pc := 89) C 1 dX2_readNumber_89 (by decide) ?_
    refine v_icmp_le (pc := 90) C 97 dX2_readNumber_90 (by decide) ?_ ?_
    · exact v_to [1] (hj14 ()) rfl
    · refine v_iconst (pc := 93) C 1 dX2_readNumber_93 (by decide) ?_
      refine v_goto (pc := 94) C 98 dX2_readNumber_94 (by decide) ?_
      exact v_to [1] (hj11 _) rfl
  · exact v_to [1] (hj14 ()) rfl
def f2_isLetter (a0 : Int32) : Option Int32 := lt (fun (_u : Unit) => some 0) (fun j1 => if a0 < 97 then j1 () else if a0 ≤ 122 then some 1 else j1 ())
set_option maxHeartbeats 4000000 in
set_option maxRecDepth 100000 in
theorem m2_isLetter (G : GT) (l : Launch) (a0 : Int32)  (w : va_W) (r : Int32) (hf : f2_isLetter a0 = some r) : MI G l yX2_isLetter cX2_isLetter 1 (some .boolean) 0 0 [.int a0] w r w := by
  refine MI.startZ (by decide +kernel) (Nat.le_of_ble_eq_true rfl) (fun K hl C hret => ?_)
  subst hl
  have C : Ctx G K cX2_isLetter RX2 1 0 0 := C
  change V G K w 0 [(0, .int a0)] []
  refine (?_ : tp (f2_isLetter a0) (fun q => q = r) → _) ⟨_, hf, rfl⟩
  rw [f2_isLetter]
  refine v_iload_n (pc := 0) C 0 rfl dX2_isLetter_0 ?_
  refine v_bipush (pc := 1) C 97 dX2_isLetter_1 (by decide) ?_
  refine r_lJ (fun Φ0 j1 => ∀ (_u : Unit), tp (j1 ()) Φ0 → V G K w 16 [] []) (fun _u => ?_) (fun j1 hj2 => ?_)
  · refine v_iconst (pc := 16) C 0 dX2_isLetter_16 (by decide) ?_
    exact tp_out (fun h => hret _ _ _ _ ⟨h, rfl⟩ (Or.inl rfl) dX2_isLetter_17)
  refine v_icmp_lt (pc := 3) C 16 dX2_isLetter_3 (by decide) ?_ ?_
  · exact v_to [] (hj2 ()) rfl
  · refine v_iload_n (pc := 6) C 0 rfl dX2_isLetter_6 ?_
    refine v_bipush (pc := 7) C 122 dX2_isLetter_7 (by decide) ?_
    refine v_icmp_gt (pc := 9) C 16 dX2_isLetter_9 (by decide) ?_ ?_
    · refine v_iconst (pc := 12) C 1 dX2_isLetter_12 (by decide) ?_
      refine v_goto (pc := 13) C 17 dX2_isLetter_13 (by decide) ?_
      exact tp_out (fun h => hret _ _ _ _ ⟨h, rfl⟩ (Or.inr rfl) dX2_isLetter_17)
    · exact v_to [] (hj2 ()) rfl
def L2_says_20 (c1 : Nat) (s0 : SS) : Nat → Int32 → Option ((Unit) ⊕ Int32)
  | 0, _ => none
  | n + 1, v2 => if v2 < (nI (sLen.getD c1 0)) then bd (f2_byteAt ((s0.1 2 3) + v2) s0) (fun x1 => gd (inb v2 (sLen.getD c1 0)) (if x1 = ((sByt.getD c1 []).getD (Int32.toNatClampNeg v2) 0) then lt (v2 + 1) (fun x2 => L2_says_20 c1 s0 n x2) else some (.inr 0))) else some (.inl ())
def f2_says (t1 : Nat) (s0 : SS) : Option Int32 := if ((s0.1 2 2) - (s0.1 2 3)) = (nI (sLen.getD t1 0)) then bs1 (L2_says_20 t1 s0 FU 0) (fun _u => some 1) (fun r => some r) else some 0
set_option maxHeartbeats 4000000 in
set_option maxRecDepth 100000 in
theorem l2_says_20 {G : GT} {K : KT} (C : Ctx G K cX2_says RX2 3 4 141) (c1 : Nat) (s0 : SS) (hc1 : c1 < 4) {Ψ : Unit → Prop} (hx : ∀ (u0 : Unit), Ψ u0 → V G K (wX G s0) 54 [] []) {Φr : Int32 → Prop} (hr : ∀ (r : Int32), Φr r → (r = 0 ∨ r = 1) → ∀ (pc : Nat) (lv : List (Nat × Value)), decode cX2_says pc = .ok (.ireturn, 1) → V G K (wX G s0) pc lv [.int r]) : ∀ (n : Nat) (v2 : Int32), tp (L2_says_20 c1 s0 n v2) (uS (k1 Ψ) Φr) → V G K (wX G s0) 20 [(0, .ref (aX G 2)), (1, .ref (gK G c1)), (2, .int v2)] [] := by
  intro n
  induction n with
  | zero => intro v2 h; exact tp_no h
  | succ n ih =>
    intro v2
    rw [L2_says_20]
    refine v_iload_n (pc := 20) C 2 rfl dX2_says_20 ?_
    refine v_aload_n (pc := 21) C 1 rfl dX2_says_21 ?_
    refine v_slen (pc := 22) C c1 hc1 mw_203 ⟨by decide, by decide⟩ (Nat.le_of_ble_eq_true rfl) dX2_says_22 ?_
    refine v_icmp_ge (pc := 25) C 54 dX2_says_25 (by decide) ?_ ?_
    · refine v_aload_n (pc := 28) C 0 rfl dX2_says_28 ?_
      refine v_aload_n (pc := 29) C 0 rfl dX2_says_29 ?_
      refine g2_start (pc := 30) C mw_52 dX2_says_30 ?_
      refine v_iload_n (pc := 33) C 2 rfl dX2_says_33 ?_
      refine v_iadd (pc := 34) C dX2_says_34 ?_
      refine cIv1r (pc := 35) C (fun r9 h9 => m2_byteAt G K.2.1 ((s0.1 2 3) + v2) s0 r9 h9) q_yX2_byteAt mw_177 rc_2 ⟨by decide, by decide⟩ (Nat.le_of_ble_eq_true rfl) dX2_says_35 (fun x1 => ?_)
      refine v_aload_n (pc := 38) C 1 rfl dX2_says_38 ?_
      refine v_iload_n (pc := 39) C 2 rfl dX2_says_39 ?_
      refine v_sat (pc := 40) C c1 hc1 mw_215 ⟨by decide, by decide⟩ (Nat.le_of_ble_eq_true rfl) dX2_says_40 ?_
      refine v_icmp_eq (pc := 43) C 48 dX2_says_43 (by decide) ?_ ?_
      · refine v_iincL (pc := 48) C 1 2 dX2_says_48 rfl (by decide) (by decide) (lv0 := [(0, .ref (aX G 2)), (1, .ref (gK G c1))]) rfl (fun x2 => ?_)
        refine v_goto (pc := 51) C 20 dX2_says_51 (by decide) ?_
        exact v_to [1, 2, 0] (ih _) rfl
      · refine v_iconst (pc := 46) C 0 dX2_says_46 (by decide) ?_
        exact tp_out (fun h => hr _ h (Or.inl rfl) _ _ dX2_says_47)
    · exact tp_out (fun h => v_to [] (hx _) rfl h)
set_option maxHeartbeats 4000000 in
set_option maxRecDepth 100000 in
theorem m2_says (G : GT) (l : Launch) (t1 : Nat) (ht1 : t1 < 4) (s0 : SS) (r : Int32) (hf : f2_says t1 s0 = some r) : MI G l yX2_says cX2_says 3 (some .boolean) 4 141 [.ref (aX G 2), .ref (gK G t1)] (wX G s0) r (wX G s0) := by
  refine MI.startZ (by decide +kernel) (Nat.le_of_ble_eq_true rfl) (fun K hl C hret => ?_)
  subst hl
  have C : Ctx G K cX2_says RX2 3 4 141 := C
  change V G K (wX G s0) 0 [(0, .ref (aX G 2)), (1, .ref (gK G t1))] []
  refine (?_ : tp (f2_says t1 s0) (fun q => q = r) → _) ⟨_, hf, rfl⟩
  rw [f2_says]
  refine v_aload_n (pc := 0) C 0 rfl dX2_says_0 ?_
  refine g2_at (pc := 1) C mw_51 dX2_says_1 ?_
  refine v_aload_n (pc := 4) C 0 rfl dX2_says_4 ?_
  refine g2_start (pc := 5) C mw_52 dX2_says_5 ?_
  refine v_isub (pc := 8) C dX2_says_8 ?_
  refine v_aload_n (pc := 9) C 1 rfl dX2_says_9 ?_
  refine v_slen (pc := 10) C t1 ht1 mw_203 ⟨by decide, by decide⟩ (Nat.le_of_ble_eq_true rfl) dX2_says_10 ?_
  refine v_icmp_eq (pc := 13) C 18 dX2_says_13 (by decide) ?_ ?_
  · refine v_iconst (pc := 18) C 0 dX2_says_18 (by decide) ?_
    refine v_istore_n (pc := 19) C dX2_says_19 (by decide) (lv' := [(2, .int 0), (0, .ref (aX G 2)), (1, .ref (gK G t1))]) rfl ?_
    refine r_bs1 ?_
    refine v_to [1, 2, 0] (l2_says_20 C t1 s0 ht1 (fun _u => ?_) ?hr FU _) rfl
    case hr => exact (fun r9 h hz pc lv d => by obtain ⟨a9, e9, h⟩ := h; cases e9; exact hret _ _ _ _ ⟨h, rfl⟩ hz d)
    refine v_iconst (pc := 54) C 1 dX2_says_54 (by decide) ?_
    exact tp_out (fun h => hret _ _ _ _ ⟨h, rfl⟩ (Or.inr rfl) dX2_says_55)
  · refine v_iconst (pc := 16) C 0 dX2_says_16 (by decide) ?_
    exact tp_out (fun h => hret _ _ _ _ ⟨h, rfl⟩ (Or.inl rfl) dX2_says_17)
def L2_readWord_0 : Nat → SS → Option (SS)
  | 0, _ => none
  | n + 1, s => if (s.1 2 2) < (s.1 2 1) then bd (f2_byteAt (s.1 2 2) s) (fun x1 => bd (f2_isLetter x1) (fun x2 => if x2 = 0 then some s else lt (sI s 2 2 ((s.1 2 2) + 1)) (fun q3 => L2_readWord_0 n q3))) else some s
def f2_readWord  (s0 : SS) : Option (Int32 × SS) := bk1 (L2_readWord_0 FU s0) (fun q4 => bd (f2_says 0 q4) (fun x5 => if x5 = 0 then bd (f2_says 1 q4) (fun x6 => if x6 = 0 then bd (f2_says 2 q4) (fun x7 => if x7 = 0 then bd (f2_says 3 q4) (fun x8 => if x8 = 0 then some (7, q4) else some (6, q4)) else some (5, q4)) else some (4, q4)) else some (3, q4)))
set_option maxHeartbeats 4000000 in
set_option maxRecDepth 100000 in
theorem l2_readWord_0 {G : GT} {K : KT} (C : Ctx G K cX2_readWord RX2 1 5 163) {Ψ : SS → Prop} (hx : ∀ (so : SS), Ψ so → V G K (wX G so) 38 [(0, .ref (aX G 2))] []) : ∀ (n : Nat) (s : SS), tp (L2_readWord_0 n s) (k1 Ψ) → V G K (wX G s) 0 [(0, .ref (aX G 2))] [] := by
  intro n
  induction n with
  | zero => intro s h; exact tp_no h
  | succ n ih =>
    intro s
    rw [L2_readWord_0]
    refine v_aload_n (pc := 0) C 0 rfl dX2_readWord_0 ?_
    refine g2_at (pc := 1) C mw_51 dX2_readWord_1 ?_
    refine v_aload_n (pc := 4) C 0 rfl dX2_readWord_4 ?_
    refine g2_length (pc := 5) C mw_50 dX2_readWord_5 ?_
    refine v_icmp_ge (pc := 8) C 38 dX2_readWord_8 (by decide) ?_ ?_
    · refine v_aload_n (pc := 11) C 0 rfl dX2_readWord_11 ?_
      refine v_aload_n (pc := 12) C 0 rfl dX2_readWord_12 ?_
      refine g2_at (pc := 13) C mw_51 dX2_readWord_13 ?_
      refine cIv1r (pc := 16) C (fun r9 h9 => m2_byteAt G K.2.1 (s.1 2 2) s r9 h9) q_yX2_byteAt mw_177 rc_2 ⟨by decide, by decide⟩ (Nat.le_of_ble_eq_true rfl) dX2_readWord_16 (fun x1 => ?_)
      refine cIs1r (pc := 19) C (fun r9 h9 => m2_isLetter G K.2.1 x1 _ r9 h9) q_yX2_isLetter mw_192 ⟨by decide, by decide⟩ (Nat.le_of_ble_eq_true rfl) dX2_readWord_19 (fun x2 => ?_)
      refine v_if_eq (pc := 22) C 38 dX2_readWord_22 (by decide) ?_ ?_
      · exact tp_out (fun h => v_to [0] (hx _) rfl h)
      · refine v_aload_n (pc := 25) C 0 rfl dX2_readWord_25 ?_
        refine v_dup (pc := 26) C dX2_readWord_26 rfl ?_
        refine g2_at (pc := 27) C mw_51 dX2_readWord_27 ?_
        refine v_iconst (pc := 30) C 1 dX2_readWord_30 (by decide) ?_
        refine v_iadd (pc := 31) C dX2_readWord_31 ?_
        refine p2_at (pc := 32) C mw_51 dX2_readWord_32 ?_
        refine r_ltx (fun q3 => ?_)
        refine v_goto (pc := 35) C 0 dX2_readWord_35 (by decide) ?_
        exact v_to [0] (ih _) rfl
    · exact tp_out (fun h => v_to [0] (hx _) rfl h)
set_option maxHeartbeats 4000000 in
set_option maxRecDepth 100000 in
theorem m2_readWord (G : GT) (l : Launch)   (s0 : SS) (r : Int32) (s1 : SS) (hf : f2_readWord s0 = some (r, s1)) : MI G l yX2_readWord cX2_readWord 1 (some .int) 5 163 [.ref (aX G 2)] (wX G s0) r (wX G s1) := by
  refine MI.start (by decide +kernel) (Nat.le_of_ble_eq_true rfl) (fun K hl C hret => ?_)
  subst hl
  have C : Ctx G K cX2_readWord RX2 1 5 163 := C
  change V G K (wX G s0) 0 [(0, .ref (aX G 2))] []
  refine (?_ : tp (f2_readWord s0) (fun q => q = (r, s1)) → _) ⟨_, hf, rfl⟩
  rw [f2_readWord]
  refine r_bk1 ?_
  refine v_to [0] (l2_readWord_0 C (fun q4 => ?_) FU _) rfl
  refine v_aload_n (pc := 38) C 0 rfl dX2_readWord_38 ?_
  refine v_ldcS (pc := 39) C 0 (by decide) dX2_readWord_39 ?_
  refine cIv1r (pc := 41) C (fun r9 h9 => m2_says G K.2.1 0 (by decide) q4 r9 h9) q_yX2_says mw_199 rc_2 ⟨by decide, by decide⟩ (Nat.le_of_ble_eq_true rfl) dX2_readWord_41 (fun x5 => ?_)
  refine v_if_eq (pc := 44) C 49 dX2_readWord_44 (by decide) ?_ ?_
  · refine v_aload_n (pc := 49) C 0 rfl dX2_readWord_49 ?_
    refine v_ldcS (pc := 50) C 1 (by decide) dX2_readWord_50 ?_
    refine cIv1r (pc := 52) C (fun r9 h9 => m2_says G K.2.1 1 (by decide) q4 r9 h9) q_yX2_says mw_199 rc_2 ⟨by decide, by decide⟩ (Nat.le_of_ble_eq_true rfl) dX2_readWord_52 (fun x6 => ?_)
    refine v_if_eq (pc := 55) C 60 dX2_readWord_55 (by decide) ?_ ?_
    · refine v_aload_n (pc := 60) C 0 rfl dX2_readWord_60 ?_
      refine v_ldcS (pc := 61) C 2 (by decide) dX2_readWord_61 ?_
      refine cIv1r (pc := 63) C (fun r9 h9 => m2_says G K.2.1 2 (by decide) q4 r9 h9) q_yX2_says mw_199 rc_2 ⟨by decide, by decide⟩ (Nat.le_of_ble_eq_true rfl) dX2_readWord_63 (fun x7 => ?_)
      refine v_if_eq (pc := 66) C 71 dX2_readWord_66 (by decide) ?_ ?_
      · refine v_aload_n (pc := 71) C 0 rfl dX2_readWord_71 ?_
        refine v_ldcS (pc := 72) C 3 (by decide) dX2_readWord_72 ?_
        refine cIv1r (pc := 74) C (fun r9 h9 => m2_says G K.2.1 3 (by decide) q4 r9 h9) q_yX2_says mw_199 rc_2 ⟨by decide, by decide⟩ (Nat.le_of_ble_eq_true rfl) dX2_readWord_74 (fun x8 => ?_)
        refine v_if_eq (pc := 77) C 85 dX2_readWord_77 (by decide) ?_ ?_
        · refine v_bipush (pc := 85) C 7 dX2_readWord_85 (by decide) ?_
          exact tp_out (fun h => hret _ _ _ _ ⟨(Prod.mk.inj h).1, congrArg (wX G) (Prod.mk.inj h).2⟩ dX2_readWord_87)
        · refine v_bipush (pc := 80) C 6 dX2_readWord_80 (by decide) ?_
          refine v_goto (pc := 82) C 87 dX2_readWord_82 (by decide) ?_
          exact tp_out (fun h => hret _ _ _ _ ⟨(Prod.mk.inj h).1, congrArg (wX G) (Prod.mk.inj h).2⟩ dX2_readWord_87)
      · refine v_iconst (pc := 69) C 5 dX2_readWord_69 (by decide) ?_
        exact tp_out (fun h => hret _ _ _ _ ⟨(Prod.mk.inj h).1, congrArg (wX G) (Prod.mk.inj h).2⟩ dX2_readWord_70)
    · refine v_iconst (pc := 58) C 4 dX2_readWord_58 (by decide) ?_
      exact tp_out (fun h => hret _ _ _ _ ⟨(Prod.mk.inj h).1, congrArg (wX G) (Prod.mk.inj h).2⟩ dX2_readWord_59)
  · refine v_iconst (pc := 47) C 3 dX2_readWord_47 (by decide) ?_
    exact tp_out (fun h => hret _ _ _ _ ⟨(Prod.mk.inj h).1, congrArg (wX G) (Prod.mk.inj h).2⟩ dX2_readWord_48)
def L2_advance_0 : Nat → SS → Option (SS)
  | 0, _ => none
  | n + 1, s => if (s.1 2 2) < (s.1 2 1) then bd (f2_byteAt (s.1 2 2) s) (fun x1 => if x1 = 32 then lt (sI s 2 2 ((s.1 2 2) + 1)) (fun q2 => L2_advance_0 n q2) else some s) else some s
def f2_advance  (s0 : SS) : Option SS := bk1 (L2_advance_0 FU s0) (fun q3 => lt (sI q3 2 3 (q3.1 2 2)) (fun q4 => bd (f2_byteAt (q4.1 2 2) q4) (fun x5 => if x5 < 0 then lt (sI q4 2 4 0) (fun q6 => some q6) else if x5 = 59 then lt (sI q4 2 2 ((q4.1 2 2) + 1)) (fun q7 => lt (sI q7 2 4 1) (fun q8 => some q8)) else bd (f2_isDigit x5) (fun x9 => if x9 = 0 then bd (f2_isLetter x5) (fun x10 => if x10 = 0 then lt (sI q4 2 4 7) (fun q11 => some q11) else bk2 (f2_readWord q4) (fun x12 q13 => lt (sI q13 2 4 x12) (fun q14 => some q14))) else bk2 (f2_readNumber q4) (fun x15 q16 => lt (sI q16 2 4 x15) (fun q17 => some q17))))))
set_option maxHeartbeats 4000000 in
set_option maxRecDepth 100000 in
theorem l2_advance_0 {G : GT} {K : KT} (C : Ctx G K cX2_advance RX2 2 6 183) {Ψ : SS → Prop} (hx : ∀ (so : SS), Ψ so → V G K (wX G so) 37 [(0, .ref (aX G 2))] []) : ∀ (n : Nat) (s : SS), tp (L2_advance_0 n s) (k1 Ψ) → V G K (wX G s) 0 [(0, .ref (aX G 2))] [] := by
  intro n
  induction n with
  | zero => intro s h; exact tp_no h
  | succ n ih =>
    intro s
    rw [L2_advance_0]
    refine v_aload_n (pc := 0) C 0 rfl dX2_advance_0 ?_
    refine g2_at (pc := 1) C mw_51 dX2_advance_1 ?_
    refine v_aload_n (pc := 4) C 0 rfl dX2_advance_4 ?_
    refine g2_length (pc := 5) C mw_50 dX2_advance_5 ?_
    refine v_icmp_ge (pc := 8) C 37 dX2_advance_8 (by decide) ?_ ?_
    · refine v_aload_n (pc := 11) C 0 rfl dX2_advance_11 ?_
      refine v_aload_n (pc := 12) C 0 rfl dX2_advance_12 ?_
      refine g2_at (pc := 13) C mw_51 dX2_advance_13 ?_
      refine cIv1r (pc := 16) C (fun r9 h9 => m2_byteAt G K.2.1 (s.1 2 2) s r9 h9) q_yX2_byteAt mw_177 rc_2 ⟨by decide, by decide⟩ (Nat.le_of_ble_eq_true rfl) dX2_advance_16 (fun x1 => ?_)
      refine v_bipush (pc := 19) C 32 dX2_advance_19 (by decide) ?_
      refine v_icmp_ne (pc := 21) C 37 dX2_advance_21 (by decide) ?_ ?_
      · refine v_aload_n (pc := 24) C 0 rfl dX2_advance_24 ?_
        refine v_dup (pc := 25) C dX2_advance_25 rfl ?_
        refine g2_at (pc := 26) C mw_51 dX2_advance_26 ?_
        refine v_iconst (pc := 29) C 1 dX2_advance_29 (by decide) ?_
        refine v_iadd (pc := 30) C dX2_advance_30 ?_
        refine p2_at (pc := 31) C mw_51 dX2_advance_31 ?_
        refine r_ltx (fun q2 => ?_)
        refine v_goto (pc := 34) C 0 dX2_advance_34 (by decide) ?_
        exact v_to [0] (ih _) rfl
      · exact tp_out (fun h => v_to [0] (hx _) rfl h)
    · exact tp_out (fun h => v_to [0] (hx _) rfl h)
set_option maxHeartbeats 4000000 in
set_option maxRecDepth 100000 in
theorem m2_advance (G : GT) (l : Launch)   (s0 : SS) (s1 : SS) (hf : f2_advance s0 = some s1) : MV G l yX2_advance cX2_advance 2 none 6 183 [.ref (aX G 2)] (wX G s0) (wX G s1) := by
  refine MV.start (by decide +kernel) (Nat.le_of_ble_eq_true rfl) (fun K hl C hret => ?_)
  subst hl
  have C : Ctx G K cX2_advance RX2 2 6 183 := C
  change V G K (wX G s0) 0 [(0, .ref (aX G 2))] []
  refine (?_ : tp (f2_advance s0) (fun q => q = s1) → _) ⟨_, hf, rfl⟩
  rw [f2_advance]
  refine r_bk1 ?_
  refine v_to [0] (l2_advance_0 C (fun q3 => ?_) FU _) rfl
  refine v_aload_n (pc := 37) C 0 rfl dX2_advance_37 ?_
  refine v_aload_n (pc := 38) C 0 rfl dX2_advance_38 ?_
  refine g2_at (pc := 39) C mw_51 dX2_advance_39 ?_
  refine p2_start (pc := 42) C mw_52 dX2_advance_42 ?_
  refine r_ltx (fun q4 => ?_)
  refine v_aload_n (pc := 45) C 0 rfl dX2_advance_45 ?_
  refine v_aload_n (pc := 46) C 0 rfl dX2_advance_46 ?_
  refine g2_at (pc := 47) C mw_51 dX2_advance_47 ?_
  refine cIv1r (pc := 50) C (fun r9 h9 => m2_byteAt G K.2.1 (q4.1 2 2) q4 r9 h9) q_yX2_byteAt mw_177 rc_2 ⟨by decide, by decide⟩ (Nat.le_of_ble_eq_true rfl) dX2_advance_50 (fun x5 => ?_)
  refine v_istore_n (pc := 53) C dX2_advance_53 (by decide) (lv' := [(1, .int x5), (0, .ref (aX G 2))]) rfl ?_
  refine v_iload_n (pc := 54) C 0 rfl dX2_advance_54 ?_
  refine v_if_ge (pc := 55) C 66 dX2_advance_55 (by decide) ?_ ?_
  · refine v_aload_n (pc := 58) C 1 rfl dX2_advance_58 ?_
    refine v_iconst (pc := 59) C 0 dX2_advance_59 (by decide) ?_
    refine p2_token (pc := 60) C mw_53 dX2_advance_60 ?_
    refine r_ltx (fun q6 => ?_)
    refine v_goto (pc := 63) C 132 dX2_advance_63 (by decide) ?_
    exact tp_out (fun h => hret _ _ _ (congrArg (wX G) h) dX2_advance_132)
  · refine v_iload_n (pc := 66) C 0 rfl dX2_advance_66 ?_
    refine v_bipush (pc := 67) C 59 dX2_advance_67 (by decide) ?_
    refine v_icmp_ne (pc := 69) C 90 dX2_advance_69 (by decide) ?_ ?_
    · refine v_aload_n (pc := 72) C 1 rfl dX2_advance_72 ?_
      refine v_dup (pc := 73) C dX2_advance_73 rfl ?_
      refine g2_at (pc := 74) C mw_51 dX2_advance_74 ?_
      refine v_iconst (pc := 77) C 1 dX2_advance_77 (by decide) ?_
      refine v_iadd (pc := 78) C dX2_advance_78 ?_
      refine p2_at (pc := 79) C mw_51 dX2_advance_79 ?_
      refine r_ltx (fun q7 => ?_)
      refine v_aload_n (pc := 82) C 1 rfl dX2_advance_82 ?_
      refine v_iconst (pc := 83) C 1 dX2_advance_83 (by decide) ?_
      refine p2_token (pc := 84) C mw_53 dX2_advance_84 ?_
      refine r_ltx (fun q8 => ?_)
      refine v_goto (pc := 87) C 132 dX2_advance_87 (by decide) ?_
      exact tp_out (fun h => hret _ _ _ (congrArg (wX G) h) dX2_advance_132)
    · refine v_iload_n (pc := 90) C 0 rfl dX2_advance_90 ?_
      refine cIs1r (pc := 91) C (fun r9 h9 => m2_isDigit G K.2.1 x5 _ r9 h9) q_yX2_isDigit mw_181 ⟨by decide, by decide⟩ (Nat.le_of_ble_eq_true rfl) dX2_advance_91 (fun x9 => ?_)
      refine v_if_eq (pc := 94) C 108 dX2_advance_94 (by decide) ?_ ?_
      · refine v_iload_n (pc := 108) C 0 rfl dX2_advance_108 ?_
        refine cIs1r (pc := 109) C (fun r9 h9 => m2_isLetter G K.2.1 x5 _ r9 h9) q_yX2_isLetter mw_192 ⟨by decide, by decide⟩ (Nat.le_of_ble_eq_true rfl) dX2_advance_109 (fun x10 => ?_)
        refine v_if_eq (pc := 112) C 126 dX2_advance_112 (by decide) ?_ ?_
        · refine v_aload_n (pc := 126) C 1 rfl dX2_advance_126 ?_
          refine v_bipush (pc := 127) C 7 dX2_advance_127 (by decide) ?_
          refine p2_token (pc := 129) C mw_53 dX2_advance_129 ?_
          refine r_ltx (fun q11 => ?_)
          exact tp_out (fun h => hret _ _ _ (congrArg (wX G) h) dX2_advance_132)
        · refine v_aload_n (pc := 115) C 1 rfl dX2_advance_115 ?_
          refine v_aload_n (pc := 116) C 1 rfl dX2_advance_116 ?_
          refine cIv0w (pc := 117) C (W2 := wX G) (fun r9 s9 h9 => m2_readWord G K.2.1 q4 r9 s9 h9) q_yX2_readWord mw_195 rc_2 ⟨by decide, by decide⟩ (Nat.le_of_ble_eq_true rfl) dX2_advance_117 (fun x12 q13 => ?_)
          refine p2_token (pc := 120) C mw_53 dX2_advance_120 ?_
          refine r_ltx (fun q14 => ?_)
          refine v_goto (pc := 123) C 132 dX2_advance_123 (by decide) ?_
          exact tp_out (fun h => hret _ _ _ (congrArg (wX G) h) dX2_advance_132)
      · refine v_aload_n (pc := 97) C 1 rfl dX2_advance_97 ?_
        refine v_aload_n (pc := 98) C 1 rfl dX2_advance_98 ?_
        refine cIv0w (pc := 99) C (W2 := wX G) (fun r9 s9 h9 => m2_readNumber G K.2.1 q4 r9 s9 h9) q_yX2_readNumber mw_184 rc_2 ⟨by decide, by decide⟩ (Nat.le_of_ble_eq_true rfl) dX2_advance_99 (fun x15 q16 => ?_)
        refine p2_token (pc := 102) C mw_53 dX2_advance_102 ?_
        refine r_ltx (fun q17 => ?_)
        refine v_goto (pc := 105) C 132 dX2_advance_105 (by decide) ?_
        exact tp_out (fun h => hret _ _ _ (congrArg (wX G) h) dX2_advance_132)
def L3_forget_2 : Nat → Int32 → SS → Option (SS)
  | 0, _, _ => none
  | n + 1, v1, s => if v1 < 13 then gd (inb v1 13) (lt (sI s 5 (Int32.toNatClampNeg v1) 0) (fun q1 => gd (inb v1 13) (lt (sI q1 6 (Int32.toNatClampNeg v1) 0) (fun q2 => lt (v1 + 1) (fun x3 => L3_forget_2 n x3 q2))))) else some s
def f3_forget  (s0 : SS) : Option SS := bk1 (L3_forget_2 FU 0 s0) (fun q4 => some q4)
set_option maxHeartbeats 4000000 in
set_option maxRecDepth 100000 in
theorem l3_forget_2 {G : GT} {K : KT} (C : Ctx G K cX3_forget RX3 2 0 0) {Ψ : SS → Prop} (hx : ∀ (so : SS), Ψ so → V G K (wX G so) 28 [] []) : ∀ (n : Nat) (v1 : Int32) (s : SS), tp (L3_forget_2 n v1 s) (k1 Ψ) → V G K (wX G s) 2 [(0, .ref (aX G 4)), (1, .int v1)] [] := by
  intro n
  induction n with
  | zero => intro v1 s h; exact tp_no h
  | succ n ih =>
    intro v1 s
    rw [L3_forget_2]
    refine v_iload_n (pc := 2) C 1 rfl dX3_forget_2 ?_
    refine v_bipush (pc := 3) C 13 dX3_forget_3 (by decide) ?_
    refine v_icmp_ge (pc := 5) C 28 dX3_forget_5 (by decide) ?_ ?_
    · refine v_aload_n (pc := 8) C 0 rfl dX3_forget_8 ?_
      refine g3_next (pc := 9) C mw_58 dX3_forget_9 ?_
      refine v_iload_n (pc := 12) C 1 rfl dX3_forget_12 ?_
      refine v_iconst (pc := 13) C 0 dX3_forget_13 (by decide) ?_
      refine v_iast (pc := 14) C _ ax_5 (as_5 _ _) dX3_forget_14 ?_
      refine r_ltx (fun q1 => ?_)
      refine v_aload_n (pc := 15) C 0 rfl dX3_forget_15 ?_
      refine g3_tenths (pc := 16) C mw_59 dX3_forget_16 ?_
      refine v_iload_n (pc := 19) C 1 rfl dX3_forget_19 ?_
      refine v_iconst (pc := 20) C 0 dX3_forget_20 (by decide) ?_
      refine v_iast (pc := 21) C _ ax_6 (as_6 _ _) dX3_forget_21 ?_
      refine r_ltx (fun q2 => ?_)
      refine v_iincL (pc := 22) C 1 1 dX3_forget_22 rfl (by decide) (by decide) (lv0 := [(0, .ref (aX G 4))]) rfl (fun x3 => ?_)
      refine v_goto (pc := 25) C 2 dX3_forget_25 (by decide) ?_
      exact v_to [1, 0] (ih _ _) rfl
    · exact tp_out (fun h => v_to [] (hx _) rfl h)
set_option maxHeartbeats 4000000 in
set_option maxRecDepth 100000 in
theorem m3_forget (G : GT) (l : Launch)   (s0 : SS) (s1 : SS) (hf : f3_forget s0 = some s1) : MV G l yX3_forget cX3_forget 2 none 0 0 [.ref (aX G 4)] (wX G s0) (wX G s1) := by
  refine MV.start (by decide +kernel) (Nat.le_of_ble_eq_true rfl) (fun K hl C hret => ?_)
  subst hl
  have C : Ctx G K cX3_forget RX3 2 0 0 := C
  change V G K (wX G s0) 0 [(0, .ref (aX G 4))] []
  refine (?_ : tp (f3_forget s0) (fun q => q = s1) → _) ⟨_, hf, rfl⟩
  rw [f3_forget]
  refine v_iconst (pc := 0) C 0 dX3_forget_0 (by decide) ?_
  refine v_istore_n (pc := 1) C dX3_forget_1 (by decide) (lv' := [(1, .int 0), (0, .ref (aX G 4))]) rfl ?_
  refine r_bk1 ?_
  refine v_to [1, 0] (l3_forget_2 C (fun q4 => ?_) FU _ _) rfl
  exact tp_out (fun h => hret _ _ _ (congrArg (wX G) h) dX3_forget_28)
def f3_isIn (a0 : Int32) : Option Int32 := lt (fun (_u : Unit) => some 0) (fun j1 => if a0 < 0 then j1 () else if a0 < 13 then some 1 else j1 ())
set_option maxHeartbeats 4000000 in
set_option maxRecDepth 100000 in
theorem m3_isIn (G : GT) (l : Launch) (a0 : Int32)  (w : va_W) (r : Int32) (hf : f3_isIn a0 = some r) : MI G l yX3_isIn cX3_isIn 1 (some .boolean) 0 0 [.int a0] w r w := by
  refine MI.startZ (by decide +kernel) (Nat.le_of_ble_eq_true rfl) (fun K hl C hret => ?_)
  subst hl
  have C : Ctx G K cX3_isIn RX3 1 0 0 := C
  change V G K w 0 [(0, .int a0)] []
  refine (?_ : tp (f3_isIn a0) (fun q => q = r) → _) ⟨_, hf, rfl⟩
  rw [f3_isIn]
  refine v_iload_n (pc := 0) C 0 rfl dX3_isIn_0 ?_
  refine r_lJ (fun Φ0 j1 => ∀ (_u : Unit), tp (j1 ()) Φ0 → V G K w 14 [] []) (fun _u => ?_) (fun j1 hj2 => ?_)
  · refine v_iconst (pc := 14) C 0 dX3_isIn_14 (by decide) ?_
    exact tp_out (fun h => hret _ _ _ _ ⟨h, rfl⟩ (Or.inl rfl) dX3_isIn_15)
  refine v_if_lt (pc := 1) C 14 dX3_isIn_1 (by decide) ?_ ?_
  · exact v_to [] (hj2 ()) rfl
  · refine v_iload_n (pc := 4) C 0 rfl dX3_isIn_4 ?_
    refine v_bipush (pc := 5) C 13 dX3_isIn_5 (by decide) ?_
    refine v_icmp_ge (pc := 7) C 14 dX3_isIn_7 (by decide) ?_ ?_
    · refine v_iconst (pc := 10) C 1 dX3_isIn_10 (by decide) ?_
      refine v_goto (pc := 11) C 15 dX3_isIn_11 (by decide) ?_
      exact tp_out (fun h => hret _ _ _ _ ⟨h, rfl⟩ (Or.inr rfl) dX3_isIn_15)
    · exact v_to [] (hj2 ()) rfl
def f3_setTenths (a1 : Int32) (a2 : Int32) (s0 : SS) : Option SS := bd (f3_isIn a1) (fun x1 => if x1 = 0 then some s0 else gd (inb a1 13) (lt (sI s0 6 (Int32.toNatClampNeg a1) a2) (fun q2 => some q2)))
set_option maxHeartbeats 4000000 in
set_option maxRecDepth 100000 in
theorem m3_setTenths (G : GT) (l : Launch) (a1 : Int32) (a2 : Int32)  (s0 : SS) (s1 : SS) (hf : f3_setTenths a1 a2 s0 = some s1) : MV G l yX3_setTenths cX3_setTenths 3 none 1 20 [.ref (aX G 4), .int a1, .int a2] (wX G s0) (wX G s1) := by
  refine MV.start (by decide +kernel) (Nat.le_of_ble_eq_true rfl) (fun K hl C hret => ?_)
  subst hl
  have C : Ctx G K cX3_setTenths RX3 3 1 20 := C
  change V G K (wX G s0) 0 [(0, .ref (aX G 4)), (1, .int a1), (2, .int a2)] []
  refine (?_ : tp (f3_setTenths a1 a2 s0) (fun q => q = s1) → _) ⟨_, hf, rfl⟩
  rw [f3_setTenths]
  refine v_iload_n (pc := 0) C 1 rfl dX3_setTenths_0 ?_
  refine cIs1r (pc := 1) C (fun r9 h9 => m3_isIn G K.2.1 a1 _ r9 h9) q_yX3_isIn mw_520 ⟨by decide, by decide⟩ (Nat.le_of_ble_eq_true rfl) dX3_setTenths_1 (fun x1 => ?_)
  refine v_if_eq (pc := 4) C 14 dX3_setTenths_4 (by decide) ?_ ?_
  · exact tp_out (fun h => hret _ _ _ (congrArg (wX G) h) dX3_setTenths_14)
  · refine v_aload_n (pc := 7) C 0 rfl dX3_setTenths_7 ?_
    refine g3_tenths (pc := 8) C mw_59 dX3_setTenths_8 ?_
    refine v_iload_n (pc := 11) C 1 rfl dX3_setTenths_11 ?_
    refine v_iload_n (pc := 12) C 2 rfl dX3_setTenths_12 ?_
    refine v_iast (pc := 13) C _ ax_6 (as_6 _ _) dX3_setTenths_13 ?_
    refine r_ltx (fun q2 => ?_)
    exact tp_out (fun h => hret _ _ _ (congrArg (wX G) h) dX3_setTenths_14)
def f3_join (a1 : Int32) (a2 : Int32) (s0 : SS) : Option SS := bd (f3_isIn a1) (fun x1 => if x1 = 0 then some s0 else bd (f3_isIn a2) (fun x2 => if x2 = 0 then some s0 else gd (inb a1 13) (gd (inb a1 13) (lt (sI s0 5 (Int32.toNatClampNeg a1) ((s0.1 5 a1.toNatClampNeg) ||| ((1 : Int32) <<< (a2 &&& 31)))) (fun q3 => some q3)))))
set_option maxHeartbeats 4000000 in
set_option maxRecDepth 100000 in
theorem m3_join (G : GT) (l : Launch) (a1 : Int32) (a2 : Int32)  (s0 : SS) (s1 : SS) (hf : f3_join a1 a2 s0 = some s1) : MV G l yX3_join cX3_join 3 none 1 20 [.ref (aX G 4), .int a1, .int a2] (wX G s0) (wX G s1) := by
  refine MV.start (by decide +kernel) (Nat.le_of_ble_eq_true rfl) (fun K hl C hret => ?_)
  subst hl
  have C : Ctx G K cX3_join RX3 3 1 20 := C
  change V G K (wX G s0) 0 [(0, .ref (aX G 4)), (1, .int a1), (2, .int a2)] []
  refine (?_ : tp (f3_join a1 a2 s0) (fun q => q = s1) → _) ⟨_, hf, rfl⟩
  rw [f3_join]
  refine v_iload_n (pc := 0) C 1 rfl dX3_join_0 ?_
  refine cIs1r (pc := 1) C (fun r9 h9 => m3_isIn G K.2.1 a1 _ r9 h9) q_yX3_isIn mw_520 ⟨by decide, by decide⟩ (Nat.le_of_ble_eq_true rfl) dX3_join_1 (fun x1 => ?_)
  refine v_if_eq (pc := 4) C 26 dX3_join_4 (by decide) ?_ ?_
  · exact tp_out (fun h => hret _ _ _ (congrArg (wX G) h) dX3_join_26)
  · refine v_iload_n (pc := 7) C 2 rfl dX3_join_7 ?_
    refine cIs1r (pc := 8) C (fun r9 h9 => m3_isIn G K.2.1 a2 _ r9 h9) q_yX3_isIn mw_520 ⟨by decide, by decide⟩ (Nat.le_of_ble_eq_true rfl) dX3_join_8 (fun x2 => ?_)
    refine v_if_eq (pc := 11) C 26 dX3_join_11 (by decide) ?_ ?_
    · exact tp_out (fun h => hret _ _ _ (congrArg (wX G) h) dX3_join_26)
    · refine v_aload_n (pc := 14) C 0 rfl dX3_join_14 ?_
      refine g3_next (pc := 15) C mw_58 dX3_join_15 ?_
      refine v_iload_n (pc := 18) C 1 rfl dX3_join_18 ?_
      refine v_dup2 (pc := 19) C dX3_join_19 rfl rfl ?_
      refine v_iald (pc := 20) C _ ax_5 dX3_join_20 ?_
      refine v_iconst (pc := 21) C 1 dX3_join_21 (by decide) ?_
      refine v_iload_n (pc := 22) C 2 rfl dX3_join_22 ?_
      refine v_ishl (pc := 23) C dX3_join_23 ?_
      refine v_ior (pc := 24) C dX3_join_24 ?_
      refine v_iast (pc := 25) C _ ax_5 (as_5 _ _) dX3_join_25 ?_
      refine r_ltx (fun q3 => ?_)
      exact tp_out (fun h => hret _ _ _ (congrArg (wX G) h) dX3_join_26)
def f3_oddsOf (a1 : Int32) (s0 : SS) : Option Int64 := bd (f3_isIn a1) (fun x1 => if x1 = 0 then some 0 else gd (inb a1 13) (some (s0.2.1 8 a1.toNatClampNeg)))
set_option maxHeartbeats 4000000 in
set_option maxRecDepth 100000 in
theorem m3_oddsOf (G : GT) (l : Launch) (a1 : Int32)  (s0 : SS) (r : Int64) (hf : f3_oddsOf a1 s0 = some r) : ML G l yX3_oddsOf cX3_oddsOf 2 (some .long) 1 20 [.ref (aX G 4), .int a1] (wX G s0) r (wX G s0) := by
  refine ML.start (by decide +kernel) (Nat.le_of_ble_eq_true rfl) (fun K hl C hret => ?_)
  subst hl
  have C : Ctx G K cX3_oddsOf RX3 2 1 20 := C
  change V G K (wX G s0) 0 [(0, .ref (aX G 4)), (1, .int a1)] []
  refine (?_ : tp (f3_oddsOf a1 s0) (fun q => q = r) → _) ⟨_, hf, rfl⟩
  rw [f3_oddsOf]
  refine v_iload_n (pc := 0) C 1 rfl dX3_oddsOf_0 ?_
  refine cIs1r (pc := 1) C (fun r9 h9 => m3_isIn G K.2.1 a1 _ r9 h9) q_yX3_isIn mw_520 ⟨by decide, by decide⟩ (Nat.le_of_ble_eq_true rfl) dX3_oddsOf_1 (fun x1 => ?_)
  refine v_if_eq (pc := 4) C 16 dX3_oddsOf_4 (by decide) ?_ ?_
  · refine v_lconst (pc := 16) C 0 dX3_oddsOf_16 (by decide) ?_
    exact tp_out (fun h => hret _ _ _ _ ⟨h, rfl⟩ dX3_oddsOf_17)
  · refine v_aload_n (pc := 7) C 0 rfl dX3_oddsOf_7 ?_
    refine g3_odds (pc := 8) C mw_62 dX3_oddsOf_8 ?_
    refine v_iload_n (pc := 11) C 1 rfl dX3_oddsOf_11 ?_
    refine v_lald (pc := 12) C _ ax_8 dX3_oddsOf_12 ?_
    refine v_goto (pc := 13) C 17 dX3_oddsOf_13 (by decide) ?_
    exact tp_out (fun h => hret _ _ _ _ ⟨h, rfl⟩ dX3_oddsOf_17)
def f3_stepsTo (a1 : Int32) (s0 : SS) : Option Int32 := bd (f3_isIn a1) (fun x1 => if x1 = 0 then some 0 else gd (inb a1 13) (some (s0.1 7 a1.toNatClampNeg)))
set_option maxHeartbeats 4000000 in
set_option maxRecDepth 100000 in
theorem m3_stepsTo (G : GT) (l : Launch) (a1 : Int32)  (s0 : SS) (r : Int32) (hf : f3_stepsTo a1 s0 = some r) : MI G l yX3_stepsTo cX3_stepsTo 2 (some .int) 1 20 [.ref (aX G 4), .int a1] (wX G s0) r (wX G s0) := by
  refine MI.start (by decide +kernel) (Nat.le_of_ble_eq_true rfl) (fun K hl C hret => ?_)
  subst hl
  have C : Ctx G K cX3_stepsTo RX3 2 1 20 := C
  change V G K (wX G s0) 0 [(0, .ref (aX G 4)), (1, .int a1)] []
  refine (?_ : tp (f3_stepsTo a1 s0) (fun q => q = r) → _) ⟨_, hf, rfl⟩
  rw [f3_stepsTo]
  refine v_iload_n (pc := 0) C 1 rfl dX3_stepsTo_0 ?_
  refine cIs1r (pc := 1) C (fun r9 h9 => m3_isIn G K.2.1 a1 _ r9 h9) q_yX3_isIn mw_520 ⟨by decide, by decide⟩ (Nat.le_of_ble_eq_true rfl) dX3_stepsTo_1 (fun x1 => ?_)
  refine v_if_eq (pc := 4) C 16 dX3_stepsTo_4 (by decide) ?_ ?_
  · refine v_iconst (pc := 16) C 0 dX3_stepsTo_16 (by decide) ?_
    exact tp_out (fun h => hret _ _ _ _ ⟨h, rfl⟩ dX3_stepsTo_17)
  · refine v_aload_n (pc := 7) C 0 rfl dX3_stepsTo_7 ?_
    refine g3_steps (pc := 8) C mw_60 dX3_stepsTo_8 ?_
    refine v_iload_n (pc := 11) C 1 rfl dX3_stepsTo_11 ?_
    refine v_iald (pc := 12) C _ ax_7 dX3_stepsTo_12 ?_
    refine v_goto (pc := 13) C 17 dX3_stepsTo_13 (by decide) ?_
    exact tp_out (fun h => hret _ _ _ _ ⟨h, rfl⟩ dX3_stepsTo_17)
def L3_firm_4 (s0 : SS) : Nat → Int32 → Int32 → Option (Int32)
  | 0, _, _ => none
  | n + 1, v1, v2 => if v2 < 13 then gd (inb v2 13) (if (s0.1 6 v2.toNatClampNeg) ≤ 0 then lt (v2 + 1) (fun x1 => L3_firm_4 s0 n v1 x1) else lt ((v1 ||| ((1 : Int32) <<< (v2 &&& 31)))) (fun x2 => lt (v2 + 1) (fun x3 => L3_firm_4 s0 n x2 x3))) else some v1
def f3_firm  (s0 : SS) : Option Int32 := bk1 (L3_firm_4 s0 FU 0 0) (fun x4 => some x4)
set_option maxHeartbeats 4000000 in
set_option maxRecDepth 100000 in
theorem l3_firm_4 {G : GT} {K : KT} (C : Ctx G K cX3_firm RX3 3 0 0) (s0 : SS) {Ψ : Int32 → Prop} (hx : ∀ (o1 : Int32), Ψ o1 → V G K (wX G s0) 31 [(1, .int o1)] []) : ∀ (n : Nat) (v1 : Int32) (v2 : Int32), tp (L3_firm_4 s0 n v1 v2) (k1 Ψ) → V G K (wX G s0) 4 [(0, .ref (aX G 4)), (1, .int v1), (2, .int v2)] [] := by
  intro n
  induction n with
  | zero => intro v1 v2 h; exact tp_no h
  | succ n ih =>
    intro v1 v2
    rw [L3_firm_4]
    refine v_iload_n (pc := 4) C 2 rfl dX3_firm_4 ?_
    refine v_bipush (pc := 5) C 13 dX3_firm_5 (by decide) ?_
    refine v_icmp_ge (pc := 7) C 31 dX3_firm_7 (by decide) ?_ ?_
    · refine v_aload_n (pc := 10) C 0 rfl dX3_firm_10 ?_
      refine g3_tenths (pc := 11) C mw_59 dX3_firm_11 ?_
      refine v_iload_n (pc := 14) C 2 rfl dX3_firm_14 ?_
      refine v_iald (pc := 15) C _ ax_6 dX3_firm_15 ?_
      refine v_if_le (pc := 16) C 25 dX3_firm_16 (by decide) ?_ ?_
      · refine v_iincL (pc := 25) C 1 2 dX3_firm_25 rfl (by decide) (by decide) (lv0 := [(0, .ref (aX G 4)), (1, .int v1)]) rfl (fun x1 => ?_)
        refine v_goto (pc := 28) C 4 dX3_firm_28 (by decide) ?_
        exact v_to [1, 2, 0] (ih _ _) rfl
      · refine v_iload_n (pc := 19) C 1 rfl dX3_firm_19 ?_
        refine v_iconst (pc := 20) C 1 dX3_firm_20 (by decide) ?_
        refine v_iload_n (pc := 21) C 2 rfl dX3_firm_21 ?_
        refine v_ishl (pc := 22) C dX3_firm_22 ?_
        refine v_ior (pc := 23) C dX3_firm_23 ?_
        refine r_lti (fun x2 => ?_)
        refine v_istore_n (pc := 24) C dX3_firm_24 (by decide) (lv' := [(1, .int x2), (0, .ref (aX G 4)), (2, .int v2)]) rfl ?_
        refine v_iincL (pc := 25) C 1 2 dX3_firm_25 rfl (by decide) (by decide) (lv0 := [(1, .int x2), (0, .ref (aX G 4))]) rfl (fun x3 => ?_)
        refine v_goto (pc := 28) C 4 dX3_firm_28 (by decide) ?_
        exact v_to [2, 1, 0] (ih _ _) rfl
    · exact tp_out (fun h => v_to [1] (hx _) rfl h)
set_option maxHeartbeats 4000000 in
set_option maxRecDepth 100000 in
theorem m3_firm (G : GT) (l : Launch)   (s0 : SS) (r : Int32) (hf : f3_firm s0 = some r) : MI G l yX3_firm cX3_firm 3 (some .int) 0 0 [.ref (aX G 4)] (wX G s0) r (wX G s0) := by
  refine MI.start (by decide +kernel) (Nat.le_of_ble_eq_true rfl) (fun K hl C hret => ?_)
  subst hl
  have C : Ctx G K cX3_firm RX3 3 0 0 := C
  change V G K (wX G s0) 0 [(0, .ref (aX G 4))] []
  refine (?_ : tp (f3_firm s0) (fun q => q = r) → _) ⟨_, hf, rfl⟩
  rw [f3_firm]
  refine v_iconst (pc := 0) C 0 dX3_firm_0 (by decide) ?_
  refine v_istore_n (pc := 1) C dX3_firm_1 (by decide) (lv' := [(1, .int 0), (0, .ref (aX G 4))]) rfl ?_
  refine v_iconst (pc := 2) C 0 dX3_firm_2 (by decide) ?_
  refine v_istore_n (pc := 3) C dX3_firm_3 (by decide) (lv' := [(2, .int 0), (1, .int 0), (0, .ref (aX G 4))]) rfl ?_
  refine r_bk1 ?_
  refine v_to [2, 1, 0] (l3_firm_4 C s0 (fun x4 => ?_) FU _ _) rfl
  refine v_iload_n (pc := 31) C 0 rfl dX3_firm_31 ?_
  exact tp_out (fun h => hret _ _ _ _ ⟨h, rfl⟩ dX3_firm_32)
def fJ6_numberOfTrailingZeros_0f7a4 (a0 : Int32) : Option Int32 := lt (((a0 ^^^ (-1)) &&& (a0 - 1))) (fun x1 => if x1 ≤ 0 then some (x1 &&& 32) else lt (fun (x4 : Int32) (x5 : Int32) => lt (fun (x8 : Int32) (x9 : Int32) => lt (fun (x12 : Int32) (x13 : Int32) => lt (fun (x16 : Int32) (x17 : Int32) => some (x17 + ((Int32.toUInt32 x16) >>> ((Int32.toUInt32 1) &&& Int32.toUInt32 31)).toInt32)) (fun j14 => if x12 ≤ 4 then j14 x12 x13 else lt (x13 + 2) (fun x18 => lt (((Int32.toUInt32 x12) >>> ((Int32.toUInt32 2) &&& Int32.toUInt32 31)).toInt32) (fun x19 => j14 x19 x18)))) (fun j10 => if x8 ≤ 16 then j10 x8 x9 else lt (x9 + 4) (fun x20 => lt (((Int32.toUInt32 x8) >>> ((Int32.toUInt32 4) &&& Int32.toUInt32 31)).toInt32) (fun x21 => j10 x21 x20)))) (fun j6 => if x4 ≤ 256 then j6 x4 x5 else lt (x5 + 8) (fun x22 => lt (((Int32.toUInt32 x4) >>> ((Int32.toUInt32 8) &&& Int32.toUInt32 31)).toInt32) (fun x23 => j6 x23 x22)))) (fun j2 => if x1 ≤ 65536 then j2 x1 1 else lt (1 + 16) (fun x24 => lt (((Int32.toUInt32 x1) >>> ((Int32.toUInt32 16) &&& Int32.toUInt32 31)).toInt32) (fun x25 => j2 x25 x24))))
set_option maxHeartbeats 4000000 in
set_option maxRecDepth 100000 in
theorem mJ6_numberOfTrailingZeros_0f7a4 (G : GT) (l : Launch) (a0 : Int32)  (w : va_W) (r : Int32) (hf : fJ6_numberOfTrailingZeros_0f7a4 a0 = some r) : MI G l yJ6_numberOfTrailingZeros_0f7a4 cJ6_numberOfTrailingZeros_0f7a4 2 (some .int) 0 0 [.int a0] w r w := by
  refine MI.start (by decide +kernel) (Nat.le_of_ble_eq_true rfl) (fun K hl C hret => ?_)
  subst hl
  have C : Ctx G K cJ6_numberOfTrailingZeros_0f7a4 RJ6 2 0 0 := C
  change V G K w 0 [(0, .int a0)] []
  refine (?_ : tp (fJ6_numberOfTrailingZeros_0f7a4 a0) (fun q => q = r) → _) ⟨_, hf, rfl⟩
  rw [fJ6_numberOfTrailingZeros_0f7a4]
  refine v_iload_n (pc := 0) C 0 rfl dJ6_numberOfTrailingZeros_0f7a4_0 ?_
  refine v_iconst (pc := 1) C (-1) dJ6_numberOfTrailingZeros_0f7a4_1 (by decide) ?_
  refine v_ixor (pc := 2) C dJ6_numberOfTrailingZeros_0f7a4_2 ?_
  refine v_iload_n (pc := 3) C 0 rfl dJ6_numberOfTrailingZeros_0f7a4_3 ?_
  refine v_iconst (pc := 4) C 1 dJ6_numberOfTrailingZeros_0f7a4_4 (by decide) ?_
  refine v_isub (pc := 5) C dJ6_numberOfTrailingZeros_0f7a4_5 ?_
  refine v_iand (pc := 6) C dJ6_numberOfTrailingZeros_0f7a4_6 ?_
  refine r_lti (fun x1 => ?_)
  refine v_istore_n (pc := 7) C dJ6_numberOfTrailingZeros_0f7a4_7 (by decide) (lv' := [(0, .int x1)]) rfl ?_
  refine v_iload_n (pc := 8) C 0 rfl dJ6_numberOfTrailingZeros_0f7a4_8 ?_
  refine v_if_gt (pc := 9) C 17 dJ6_numberOfTrailingZeros_0f7a4_9 (by decide) ?_ ?_
  · refine v_iload_n (pc := 12) C 0 rfl dJ6_numberOfTrailingZeros_0f7a4_12 ?_
    refine v_bipush (pc := 13) C 32 dJ6_numberOfTrailingZeros_0f7a4_13 (by decide) ?_
    refine v_iand (pc := 15) C dJ6_numberOfTrailingZeros_0f7a4_15 ?_
    exact tp_out (fun h => hret _ _ _ _ ⟨h, rfl⟩ dJ6_numberOfTrailingZeros_0f7a4_16)
  · refine v_iconst (pc := 17) C 1 dJ6_numberOfTrailingZeros_0f7a4_17 (by decide) ?_
    refine v_istore_n (pc := 18) C dJ6_numberOfTrailingZeros_0f7a4_18 (by decide) (lv' := [(1, .int 1), (0, .int x1)]) rfl ?_
    refine v_iload_n (pc := 19) C 1 rfl dJ6_numberOfTrailingZeros_0f7a4_19 ?_
    refine v_ldcw (pc := 20) C mw_596 dJ6_numberOfTrailingZeros_0f7a4_20 ?_
    refine r_lJ (fun Φ0 j2 => ∀ (x4 : Int32) (x5 : Int32), tp (j2 x4 x5) Φ0 → V G K w 34 [(0, .int x4), (1, .int x5)] []) (fun x4 x5 => ?_) (fun j2 hj3 => ?_)
    · refine v_iload_n (pc := 34) C 0 rfl dJ6_numberOfTrailingZeros_0f7a4_34 ?_
      refine v_sipush (pc := 35) C 256 dJ6_numberOfTrailingZeros_0f7a4_35 (by decide) ?_
      refine r_lJ (fun Φ0 j6 => ∀ (x8 : Int32) (x9 : Int32), tp (j6 x8 x9) Φ0 → V G K w 49 [(0, .int x8), (1, .int x9)] []) (fun x8 x9 => ?_) (fun j6 hj7 => ?_)
      · refine v_iload_n (pc := 49) C 0 rfl dJ6_numberOfTrailingZeros_0f7a4_49 ?_
        refine v_bipush (pc := 50) C 16 dJ6_numberOfTrailingZeros_0f7a4_50 (by decide) ?_
        refine r_lJ (fun Φ0 j10 => ∀ (x12 : Int32) (x13 : Int32), tp (j10 x12 x13) Φ0 → V G K w 62 [(0, .int x12), (1, .int x13)] []) (fun x12 x13 => ?_) (fun j10 hj11 => ?_)
        · refine v_iload_n (pc := 62) C 0 rfl dJ6_numberOfTrailingZeros_0f7a4_62 ?_
          refine v_iconst (pc := 63) C 4 dJ6_numberOfTrailingZeros_0f7a4_63 (by decide) ?_
          refine r_lJ (fun Φ0 j14 => ∀ (x16 : Int32) (x17 : Int32), tp (j14 x16 x17) Φ0 → V G K w 74 [(0, .int x16), (1, .int x17)] []) (fun x16 x17 => ?_) (fun j14 hj15 => ?_)
          · refine v_iload_n (pc := 74) C 1 rfl dJ6_numberOfTrailingZeros_0f7a4_74 ?_
            refine v_iload_n (pc := 75) C 0 rfl dJ6_numberOfTrailingZeros_0f7a4_75 ?_
            refine v_iconst (pc := 76) C 1 dJ6_numberOfTrailingZeros_0f7a4_76 (by decide) ?_
            refine v_iushr (pc := 77) C dJ6_numberOfTrailingZeros_0f7a4_77 ?_
            refine v_iadd (pc := 78) C dJ6_numberOfTrailingZeros_0f7a4_78 ?_
            exact tp_out (fun h => hret _ _ _ _ ⟨h, rfl⟩ dJ6_numberOfTrailingZeros_0f7a4_79)
          refine v_icmp_le (pc := 64) C 74 dJ6_numberOfTrailingZeros_0f7a4_64 (by decide) ?_ ?_
          · exact v_to [0, 1] (hj15 _ _) rfl
          · refine v_iincL (pc := 67) C 2 1 dJ6_numberOfTrailingZeros_0f7a4_67 rfl (by decide) (by decide) (lv0 := [(0, .int x12)]) rfl (fun x18 => ?_)
            refine v_iload_n (pc := 70) C 1 rfl dJ6_numberOfTrailingZeros_0f7a4_70 ?_
            refine v_iconst (pc := 71) C 2 dJ6_numberOfTrailingZeros_0f7a4_71 (by decide) ?_
            refine v_iushr (pc := 72) C dJ6_numberOfTrailingZeros_0f7a4_72 ?_
            refine r_lti (fun x19 => ?_)
            refine v_istore_n (pc := 73) C dJ6_numberOfTrailingZeros_0f7a4_73 (by decide) (lv' := [(0, .int x19), (1, .int x18)]) rfl ?_
            exact v_to [0, 1] (hj15 _ _) rfl
        refine v_icmp_le (pc := 52) C 62 dJ6_numberOfTrailingZeros_0f7a4_52 (by decide) ?_ ?_
        · exact v_to [0, 1] (hj11 _ _) rfl
        · refine v_iincL (pc := 55) C 4 1 dJ6_numberOfTrailingZeros_0f7a4_55 rfl (by decide) (by decide) (lv0 := [(0, .int x8)]) rfl (fun x20 => ?_)
          refine v_iload_n (pc := 58) C 1 rfl dJ6_numberOfTrailingZeros_0f7a4_58 ?_
          refine v_iconst (pc := 59) C 4 dJ6_numberOfTrailingZeros_0f7a4_59 (by decide) ?_
          refine v_iushr (pc := 60) C dJ6_numberOfTrailingZeros_0f7a4_60 ?_
          refine r_lti (fun x21 => ?_)
          refine v_istore_n (pc := 61) C dJ6_numberOfTrailingZeros_0f7a4_61 (by decide) (lv' := [(0, .int x21), (1, .int x20)]) rfl ?_
          exact v_to [0, 1] (hj11 _ _) rfl
      refine v_icmp_le (pc := 38) C 49 dJ6_numberOfTrailingZeros_0f7a4_38 (by decide) ?_ ?_
      · exact v_to [0, 1] (hj7 _ _) rfl
      · refine v_iincL (pc := 41) C 8 1 dJ6_numberOfTrailingZeros_0f7a4_41 rfl (by decide) (by decide) (lv0 := [(0, .int x4)]) rfl (fun x22 => ?_)
        refine v_iload_n (pc := 44) C 1 rfl dJ6_numberOfTrailingZeros_0f7a4_44 ?_
        refine v_bipush (pc := 45) C 8 dJ6_numberOfTrailingZeros_0f7a4_45 (by decide) ?_
        refine v_iushr (pc := 47) C dJ6_numberOfTrailingZeros_0f7a4_47 ?_
        refine r_lti (fun x23 => ?_)
        refine v_istore_n (pc := 48) C dJ6_numberOfTrailingZeros_0f7a4_48 (by decide) (lv' := [(0, .int x23), (1, .int x22)]) rfl ?_
        exact v_to [0, 1] (hj7 _ _) rfl
    refine v_icmp_le (pc := 23) C 34 dJ6_numberOfTrailingZeros_0f7a4_23 (by decide) ?_ ?_
    · exact v_to [1, 0] (hj3 _ _) rfl
    · refine v_iincL (pc := 26) C 16 0 dJ6_numberOfTrailingZeros_0f7a4_26 rfl (by decide) (by decide) (lv0 := [(0, .int x1)]) rfl (fun x24 => ?_)
      refine v_iload_n (pc := 29) C 1 rfl dJ6_numberOfTrailingZeros_0f7a4_29 ?_
      refine v_bipush (pc := 30) C 16 dJ6_numberOfTrailingZeros_0f7a4_30 (by decide) ?_
      refine v_iushr (pc := 32) C dJ6_numberOfTrailingZeros_0f7a4_32 ?_
      refine r_lti (fun x25 => ?_)
      refine v_istore_n (pc := 33) C dJ6_numberOfTrailingZeros_0f7a4_33 (by decide) (lv' := [(0, .int x25), (1, .int x24)]) rfl ?_
      exact v_to [0, 1] (hj3 _ _) rfl
def L3_flood_30 (c3 : Int32) (s0 : SS) : Nat → Int32 → Int32 → Int32 → Option (Int32)
  | 0, _, _, _ => none
  | n + 1, v4, v5, v6 => if v6 < 13 then if v5 = 0 then some v4 else bd (fJ6_numberOfTrailingZeros_0f7a4 v5) (fun x7 => lt ((v5 &&& (v5 - 1))) (fun x8 => bd (f3_isIn x7) (fun x9 => lt (fun (x12 : Int32) => lt ((v4 ||| x12)) (fun x13 => lt ((x8 ||| x12)) (fun x14 => lt (v6 + 1) (fun x15 => L3_flood_30 c3 s0 n x13 x14 x15)))) (fun j10 => if x9 = 0 then j10 0 else gd (inb x7 13) (j10 (((s0.1 5 x7.toNatClampNeg) &&& c3) &&& (v4 ^^^ (-1)))))))) else some v4
def f3_flood (a1 : Int32) (a2 : Int32) (s0 : SS) : Option Int32 := bd (f3_firm s0) (fun x1 => lt ((a2 &&& x1)) (fun x2 => bd (f3_isIn a1) (fun x3 => lt (fun (x6 : Int32) => bk1 (L3_flood_30 x2 s0 FU x6 x6 0) (fun x16 => some x16)) (fun j4 => if x3 = 0 then j4 0 else j4 ((1 : Int32) <<< (a1 &&& 31))))))
set_option maxHeartbeats 4000000 in
set_option maxRecDepth 100000 in
theorem l3_flood_30 {G : GT} {K : KT} (C : Ctx G K cX3_flood RX3 9 1 22) (c3 : Int32) (s0 : SS) {Ψ : Int32 → Prop} (hx : ∀ (o1 : Int32), Ψ o1 → V G K (wX G s0) 106 [(4, .int o1)] []) : ∀ (n : Nat) (v4 : Int32) (v5 : Int32) (v6 : Int32), tp (L3_flood_30 c3 s0 n v4 v5 v6) (k1 Ψ) → V G K (wX G s0) 30 [(0, .ref (aX G 4)), (3, .int c3), (4, .int v4), (5, .int v5), (6, .int v6)] [] := by
  intro n
  induction n with
  | zero => intro v4 v5 v6 h; exact tp_no h
  | succ n ih =>
    intro v4 v5 v6
    rw [L3_flood_30]
    refine v_iload (pc := 30) C 4 rfl dX3_flood_30 ?_
    refine v_bipush (pc := 32) C 13 dX3_flood_32 (by decide) ?_
    refine v_icmp_ge (pc := 34) C 106 dX3_flood_34 (by decide) ?_ ?_
    · refine v_iload (pc := 37) C 3 rfl dX3_flood_37 ?_
      refine v_if_eq (pc := 39) C 106 dX3_flood_39 (by decide) ?_ ?_
      · exact tp_out (fun h => v_to [2] (hx _) rfl h)
      · refine v_iload (pc := 42) C 3 rfl dX3_flood_42 ?_
        refine cIs1r (pc := 44) C (fun r9 h9 => mJ6_numberOfTrailingZeros_0f7a4 G K.2.1 v5 _ r9 h9) q_yJ6_numberOfTrailingZeros_0f7a4 mw_592 ⟨by decide, by decide⟩ (Nat.le_of_ble_eq_true rfl) dX3_flood_44 (fun x7 => ?_)
        refine v_istore (pc := 47) C dX3_flood_47 (by decide) (lv' := [(7, .int x7), (0, .ref (aX G 4)), (3, .int c3), (4, .int v4), (5, .int v5), (6, .int v6)]) rfl ?_
        refine v_iload (pc := 49) C 4 rfl dX3_flood_49 ?_
        refine v_iload (pc := 51) C 4 rfl dX3_flood_51 ?_
        refine v_iconst (pc := 53) C 1 dX3_flood_53 (by decide) ?_
        refine v_isub (pc := 54) C dX3_flood_54 ?_
        refine v_iand (pc := 55) C dX3_flood_55 ?_
        refine r_lti (fun x8 => ?_)
        refine v_istore (pc := 56) C dX3_flood_56 (by decide) (lv' := [(5, .int x8), (7, .int x7), (0, .ref (aX G 4)), (3, .int c3), (4, .int v4), (6, .int v6)]) rfl ?_
        refine v_iload (pc := 58) C 1 rfl dX3_flood_58 ?_
        refine cIs1r (pc := 60) C (fun r9 h9 => m3_isIn G K.2.1 x7 _ r9 h9) q_yX3_isIn mw_520 ⟨by decide, by decide⟩ (Nat.le_of_ble_eq_true rfl) dX3_flood_60 (fun x9 => ?_)
        refine r_lJ (fun Φ0 j10 => ∀ (x12 : Int32), tp (j10 x12) Φ0 → V G K (wX G s0) 84 [(0, .ref (aX G 4)), (3, .int c3), (4, .int v4), (5, .int x8), (6, .int v6)] [.int x12]) (fun x12 => ?_) (fun j10 hj11 => ?_)
        · refine v_istore (pc := 84) C dX3_flood_84 (by decide) (lv' := [(8, .int x12), (0, .ref (aX G 4)), (3, .int c3), (4, .int v4), (5, .int x8), (6, .int v6)]) rfl ?_
          refine v_iload (pc := 86) C 3 rfl dX3_flood_86 ?_
          refine v_iload (pc := 88) C 0 rfl dX3_flood_88 ?_
          refine v_ior (pc := 90) C dX3_flood_90 ?_
          refine r_lti (fun x13 => ?_)
          refine v_istore (pc := 91) C dX3_flood_91 (by decide) (lv' := [(4, .int x13), (8, .int x12), (0, .ref (aX G 4)), (3, .int c3), (5, .int x8), (6, .int v6)]) rfl ?_
          refine v_iload (pc := 93) C 4 rfl dX3_flood_93 ?_
          refine v_iload (pc := 95) C 1 rfl dX3_flood_95 ?_
          refine v_ior (pc := 97) C dX3_flood_97 ?_
          refine r_lti (fun x14 => ?_)
          refine v_istore (pc := 98) C dX3_flood_98 (by decide) (lv' := [(5, .int x14), (4, .int x13), (8, .int x12), (0, .ref (aX G 4)), (3, .int c3), (6, .int v6)]) rfl ?_
          refine v_iincL (pc := 100) C 1 5 dX3_flood_100 rfl (by decide) (by decide) (lv0 := [(5, .int x14), (4, .int x13), (8, .int x12), (0, .ref (aX G 4)), (3, .int c3)]) rfl (fun x15 => ?_)
          refine v_goto (pc := 103) C 30 dX3_flood_103 (by decide) ?_
          exact v_to [4, 5, 2, 1, 0] (ih _ _ _) rfl
        refine v_if_eq (pc := 63) C 83 dX3_flood_63 (by decide) ?_ ?_
        · refine v_iconst (pc := 83) C 0 dX3_flood_83 (by decide) ?_
          exact v_to [2, 3, 4, 0, 5] (hj11 _) rfl
        · refine v_aload_n (pc := 66) C 2 rfl dX3_flood_66 ?_
          refine g3_next (pc := 67) C mw_58 dX3_flood_67 ?_
          refine v_iload (pc := 70) C 1 rfl dX3_flood_70 ?_
          refine v_iald (pc := 72) C _ ax_5 dX3_flood_72 ?_
          refine v_iload_n (pc := 73) C 3 rfl dX3_flood_73 ?_
          refine v_iand (pc := 74) C dX3_flood_74 ?_
          refine v_iload (pc := 75) C 4 rfl dX3_flood_75 ?_
          refine v_iconst (pc := 77) C (-1) dX3_flood_77 (by decide) ?_
          refine v_ixor (pc := 78) C dX3_flood_78 ?_
          refine v_iand (pc := 79) C dX3_flood_79 ?_
          refine v_goto (pc := 80) C 84 dX3_flood_80 (by decide) ?_
          exact v_to [2, 3, 4, 0, 5] (hj11 _) rfl
    · exact tp_out (fun h => v_to [2] (hx _) rfl h)
set_option maxHeartbeats 4000000 in
set_option maxRecDepth 100000 in
theorem m3_flood (G : GT) (l : Launch) (a1 : Int32) (a2 : Int32)  (s0 : SS) (r : Int32) (hf : f3_flood a1 a2 s0 = some r) : MI G l yX3_flood cX3_flood 9 (some .int) 1 22 [.ref (aX G 4), .int a1, .int a2] (wX G s0) r (wX G s0) := by
  refine MI.start (by decide +kernel) (Nat.le_of_ble_eq_true rfl) (fun K hl C hret => ?_)
  subst hl
  have C : Ctx G K cX3_flood RX3 9 1 22 := C
  change V G K (wX G s0) 0 [(0, .ref (aX G 4)), (1, .int a1), (2, .int a2)] []
  refine (?_ : tp (f3_flood a1 a2 s0) (fun q => q = r) → _) ⟨_, hf, rfl⟩
  rw [f3_flood]
  refine v_iload_n (pc := 0) C 2 rfl dX3_flood_0 ?_
  refine v_aload_n (pc := 1) C 0 rfl dX3_flood_1 ?_
  refine cIv0r (pc := 2) C (fun r9 h9 => m3_firm G K.2.1 s0 r9 h9) q_yX3_firm mw_588 rc_3 ⟨by decide, by decide⟩ (Nat.le_of_ble_eq_true rfl) dX3_flood_2 (fun x1 => ?_)
  refine v_iand (pc := 5) C dX3_flood_5 ?_
  refine r_lti (fun x2 => ?_)
  refine v_istore_n (pc := 6) C dX3_flood_6 (by decide) (lv' := [(3, .int x2), (0, .ref (aX G 4)), (1, .int a1), (2, .int a2)]) rfl ?_
  refine v_iload_n (pc := 7) C 2 rfl dX3_flood_7 ?_
  refine cIs1r (pc := 8) C (fun r9 h9 => m3_isIn G K.2.1 a1 _ r9 h9) q_yX3_isIn mw_520 ⟨by decide, by decide⟩ (Nat.le_of_ble_eq_true rfl) dX3_flood_8 (fun x3 => ?_)
  refine r_lJ (fun Φ0 j4 => ∀ (x6 : Int32), tp (j4 x6) Φ0 → V G K (wX G s0) 21 [(0, .ref (aX G 4)), (3, .int x2)] [.int x6]) (fun x6 => ?_) (fun j4 hj5 => ?_)
  · refine v_istore (pc := 21) C dX3_flood_21 (by decide) (lv' := [(4, .int x6), (0, .ref (aX G 4)), (3, .int x2)]) rfl ?_
    refine v_iload (pc := 23) C 0 rfl dX3_flood_23 ?_
    refine v_istore (pc := 25) C dX3_flood_25 (by decide) (lv' := [(5, .int x6), (4, .int x6), (0, .ref (aX G 4)), (3, .int x2)]) rfl ?_
    refine v_iconst (pc := 27) C 0 dX3_flood_27 (by decide) ?_
    refine v_istore (pc := 28) C dX3_flood_28 (by decide) (lv' := [(6, .int 0), (5, .int x6), (4, .int x6), (0, .ref (aX G 4)), (3, .int x2)]) rfl ?_
    refine r_bk1 ?_
    refine v_to [3, 4, 2, 1, 0] (l3_flood_30 C x2 s0 (fun x16 => ?_) FU _ _ _) rfl
    refine v_iload (pc := 106) C 0 rfl dX3_flood_106 ?_
    exact tp_out (fun h => hret _ _ _ _ ⟨h, rfl⟩ dX3_flood_108)
  refine v_if_eq (pc := 11) C 20 dX3_flood_11 (by decide) ?_ ?_
  · refine v_iconst (pc := 20) C 0 dX3_flood_20 (by decide) ?_
    exact v_to [1, 0] (hj5 _) rfl
  · refine v_iconst (pc := 14) C 1 dX3_flood_14 (by decide) ?_
    refine v_iload_n (pc := 15) C 2 rfl dX3_flood_15 ?_
    refine v_ishl (pc := 16) C dX3_flood_16 ?_
    refine v_goto (pc := 17) C 21 dX3_flood_17 (by decide) ?_
    exact v_to [1, 0] (hj5 _) rfl
def f5_has (a0 : Int32) (a1 : Int32) : Option Int32 := lt (fun (_u : Unit) => some 0) (fun j1 => if a1 < 0 then j1 () else if a1 < 32 then if (((Int32.toUInt32 a0) >>> ((Int32.toUInt32 a1) &&& Int32.toUInt32 31)).toInt32 &&& 1) = 0 then j1 () else some 1 else j1 ())
set_option maxHeartbeats 4000000 in
set_option maxRecDepth 100000 in
theorem m5_has (G : GT) (l : Launch) (a0 : Int32) (a1 : Int32)  (w : va_W) (r : Int32) (hf : f5_has a0 a1 = some r) : MI G l yX5_has cX5_has 2 (some .boolean) 0 0 [.int a0, .int a1] w r w := by
  refine MI.startZ (by decide +kernel) (Nat.le_of_ble_eq_true rfl) (fun K hl C hret => ?_)
  subst hl
  have C : Ctx G K cX5_has RX5 2 0 0 := C
  change V G K w 0 [(0, .int a0), (1, .int a1)] []
  refine (?_ : tp (f5_has a0 a1) (fun q => q = r) → _) ⟨_, hf, rfl⟩
  rw [f5_has]
  refine v_iload_n (pc := 0) C 1 rfl dX5_has_0 ?_
  refine r_lJ (fun Φ0 j1 => ∀ (_u : Unit), tp (j1 ()) Φ0 → V G K w 22 [] []) (fun _u => ?_) (fun j1 hj2 => ?_)
  · refine v_iconst (pc := 22) C 0 dX5_has_22 (by decide) ?_
    exact tp_out (fun h => hret _ _ _ _ ⟨h, rfl⟩ (Or.inl rfl) dX5_has_23)
  refine v_if_lt (pc := 1) C 22 dX5_has_1 (by decide) ?_ ?_
  · exact v_to [] (hj2 ()) rfl
  · refine v_iload_n (pc := 4) C 1 rfl dX5_has_4 ?_
    refine v_bipush (pc := 5) C 32 dX5_has_5 (by decide) ?_
    refine v_icmp_ge (pc := 7) C 22 dX5_has_7 (by decide) ?_ ?_
    · refine v_iload_n (pc := 10) C 0 rfl dX5_has_10 ?_
      refine v_iload_n (pc := 11) C 1 rfl dX5_has_11 ?_
      refine v_iushr (pc := 12) C dX5_has_12 ?_
      refine v_iconst (pc := 13) C 1 dX5_has_13 (by decide) ?_
      refine v_iand (pc := 14) C dX5_has_14 ?_
      refine v_if_eq (pc := 15) C 22 dX5_has_15 (by decide) ?_ ?_
      · exact v_to [] (hj2 ()) rfl
      · refine v_iconst (pc := 18) C 1 dX5_has_18 (by decide) ?_
        refine v_goto (pc := 19) C 23 dX5_has_19 (by decide) ?_
        exact tp_out (fun h => hret _ _ _ _ ⟨h, rfl⟩ (Or.inr rfl) dX5_has_23)
    · exact v_to [] (hj2 ()) rfl
def L3_bestInto_14 (c1 : Int32) (s0 : SS) : Nat → Int64 → Int32 → Option (Int64)
  | 0, _, _ => none
  | n + 1, v2, v4 => if v4 < 13 then gd (inb v4 13) (bd (f5_has (s0.1 5 v4.toNatClampNeg) c1) (fun x2 => if x2 = 0 then lt (v4 + 1) (fun x3 => L3_bestInto_14 c1 s0 n v2 x3) else gd (inb v4 13) (lt (if (s0.2.1 (bB (s0.2.2 2)) v4.toNatClampNeg) < v2 then v2 else (s0.2.1 (bB (s0.2.2 2)) v4.toNatClampNeg)) (fun x4 => lt (v4 + 1) (fun x5 => L3_bestInto_14 c1 s0 n x4 x5))))) else some v2
def f3_bestInto (a1 : Int32) (s0 : SS) : Option Int64 := bd (f3_isIn a1) (fun x1 => if x1 = 0 then some 0 else bk1 (L3_bestInto_14 a1 s0 FU 0 0) (fun x6 => gd (inb a1 13) (some ((x6 * (Int32.toInt64 (s0.1 6 a1.toNatClampNeg))) / 10))))
set_option maxHeartbeats 4000000 in
set_option maxRecDepth 100000 in
theorem l3_bestInto_14 {G : GT} {K : KT} (C : Ctx G K cX3_bestInto RX3 5 1 23) (c1 : Int32) (s0 : SS) {Ψ : Int64 → Prop} (hx : ∀ (o1 : Int64), Ψ o1 → V G K (wX G s0) 53 [(0, .ref (aX G 4)), (1, .int c1), (2, .long o1)] []) : ∀ (n : Nat) (v2 : Int64) (v4 : Int32), tp (L3_bestInto_14 c1 s0 n v2 v4) (k1 Ψ) → V G K (wX G s0) 14 [(0, .ref (aX G 4)), (1, .int c1), (2, .long v2), (4, .int v4)] [] := by
  intro n
  induction n with
  | zero => intro v2 v4 h; exact tp_no h
  | succ n ih =>
    intro v2 v4
    rw [L3_bestInto_14]
    refine v_iload (pc := 14) C 3 rfl dX3_bestInto_14 ?_
    refine v_bipush (pc := 16) C 13 dX3_bestInto_16 (by decide) ?_
    refine v_icmp_ge (pc := 18) C 53 dX3_bestInto_18 (by decide) ?_ ?_
    · refine v_aload_n (pc := 21) C 0 rfl dX3_bestInto_21 ?_
      refine g3_next (pc := 22) C mw_58 dX3_bestInto_22 ?_
      refine v_iload (pc := 25) C 3 rfl dX3_bestInto_25 ?_
      refine v_iald (pc := 27) C _ ax_5 dX3_bestInto_27 ?_
      refine v_iload_n (pc := 28) C 1 rfl dX3_bestInto_28 ?_
      refine cIn2r RX5 (pc := 29) C (fun r9 h9 => m5_has G K.2.1 (s0.1 5 v4.toNatClampNeg) c1 _ r9 h9) q_yX5_has (by decide +kernel) ⟨by decide, by decide⟩ (Nat.le_of_ble_eq_true rfl) dX3_bestInto_29 (fun x2 => ?_)
      refine v_if_eq (pc := 32) C 47 dX3_bestInto_32 (by decide) ?_ ?_
      · refine v_iincL (pc := 47) C 1 3 dX3_bestInto_47 rfl (by decide) (by decide) (lv0 := [(0, .ref (aX G 4)), (1, .int c1), (2, .long v2)]) rfl (fun x3 => ?_)
        refine v_goto (pc := 50) C 14 dX3_bestInto_50 (by decide) ?_
        exact v_to [1, 2, 3, 0] (ih _ _) rfl
      · refine v_lload_n (pc := 35) C 2 rfl dX3_bestInto_35 ?_
        refine v_aload_n (pc := 36) C 0 rfl dX3_bestInto_36 ?_
        refine g3_before (pc := 37) C mw_64 dX3_bestInto_37 ?_
        refine v_iload (pc := 40) C 3 rfl dX3_bestInto_40 ?_
        refine v_lald (pc := 42) C _ (ax_bB (s0.2.2 2)) dX3_bestInto_42 ?_
        refine v_mmaxl (pc := 43) C mw_536 mw_537 mw_190 mw_538 (by decide) (Nat.le_of_ble_eq_true rfl) dX3_bestInto_43 ?_
        refine r_ltl (fun x4 => ?_)
        refine v_lstore_n (pc := 46) C dX3_bestInto_46 (by decide) (lv' := [(2, .long x4), (0, .ref (aX G 4)), (1, .int c1), (4, .int v4)]) rfl ?_
        refine v_iincL (pc := 47) C 1 3 dX3_bestInto_47 rfl (by decide) (by decide) (lv0 := [(2, .long x4), (0, .ref (aX G 4)), (1, .int c1)]) rfl (fun x5 => ?_)
        refine v_goto (pc := 50) C 14 dX3_bestInto_50 (by decide) ?_
        exact v_to [2, 3, 1, 0] (ih _ _) rfl
    · exact tp_out (fun h => v_to [0, 1, 2] (hx _) rfl h)
set_option maxHeartbeats 4000000 in
set_option maxRecDepth 100000 in
theorem m3_bestInto (G : GT) (l : Launch) (a1 : Int32)  (s0 : SS) (r : Int64) (hf : f3_bestInto a1 s0 = some r) : ML G l yX3_bestInto cX3_bestInto 5 (some .long) 1 23 [.ref (aX G 4), .int a1] (wX G s0) r (wX G s0) := by
  refine ML.start (by decide +kernel) (Nat.le_of_ble_eq_true rfl) (fun K hl C hret => ?_)
  subst hl
  have C : Ctx G K cX3_bestInto RX3 5 1 23 := C
  change V G K (wX G s0) 0 [(0, .ref (aX G 4)), (1, .int a1)] []
  refine (?_ : tp (f3_bestInto a1 s0) (fun q => q = r) → _) ⟨_, hf, rfl⟩
  rw [f3_bestInto]
  refine v_iload_n (pc := 0) C 1 rfl dX3_bestInto_0 ?_
  refine cIs1r (pc := 1) C (fun r9 h9 => m3_isIn G K.2.1 a1 _ r9 h9) q_yX3_isIn mw_520 ⟨by decide, by decide⟩ (Nat.le_of_ble_eq_true rfl) dX3_bestInto_1 (fun x1 => ?_)
  refine v_if_ne (pc := 4) C 9 dX3_bestInto_4 (by decide) ?_ ?_
  · refine v_lconst (pc := 7) C 0 dX3_bestInto_7 (by decide) ?_
    exact tp_out (fun h => hret _ _ _ _ ⟨h, rfl⟩ dX3_bestInto_8)
  · refine v_lconst (pc := 9) C 0 dX3_bestInto_9 (by decide) ?_
    refine v_lstore_n (pc := 10) C dX3_bestInto_10 (by decide) (lv' := [(2, .long 0), (0, .ref (aX G 4)), (1, .int a1)]) rfl ?_
    refine v_iconst (pc := 11) C 0 dX3_bestInto_11 (by decide) ?_
    refine v_istore (pc := 12) C dX3_bestInto_12 (by decide) (lv' := [(4, .int 0), (2, .long 0), (0, .ref (aX G 4)), (1, .int a1)]) rfl ?_
    refine r_bk1 ?_
    refine v_to [2, 3, 1, 0] (l3_bestInto_14 C a1 s0 (fun x6 => ?_) FU _ _) rfl
    refine v_lload_n (pc := 53) C 2 rfl dX3_bestInto_53 ?_
    refine v_aload_n (pc := 54) C 0 rfl dX3_bestInto_54 ?_
    refine g3_tenths (pc := 55) C mw_59 dX3_bestInto_55 ?_
    refine v_iload_n (pc := 58) C 1 rfl dX3_bestInto_58 ?_
    refine v_iald (pc := 59) C _ ax_6 dX3_bestInto_59 ?_
    refine v_i2l (pc := 60) C dX3_bestInto_60 ?_
    refine v_lmul (pc := 61) C dX3_bestInto_61 ?_
    refine v_ldc2 (pc := 62) C mw_539 dX3_bestInto_62 ?_
    refine v_ldiv (pc := 65) C dX3_bestInto_65 (by decide) ?_
    exact tp_out (fun h => hret _ _ _ _ ⟨h, rfl⟩ dX3_bestInto_66)
