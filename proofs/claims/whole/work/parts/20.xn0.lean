def f0_write (a1 : Int32) (a2 : Int32) (a3 : Int32) (s0 : SS) : Option (Int32 × SS) := if (s0.1 12 0) < 0 then some (0, s0) else if (s0.1 12 0) < 40 then gd (inb (s0.1 12 0) 40) (lt (sI s0 13 (Int32.toNatClampNeg (s0.1 12 0)) a1) (fun s1 => gd (inb (s1.1 12 0) 40) (lt (sI s1 14 (Int32.toNatClampNeg (s1.1 12 0)) a2) (fun s2 => gd (inb (s2.1 12 0) 40) (lt (sI s2 15 (Int32.toNatClampNeg (s2.1 12 0)) a3) (fun s3 => lt (sI s3 12 0 ((s3.1 12 0) + 1)) (fun s4 => some (1, s4)))))))) else some (0, s0)
set_option maxHeartbeats 4000000 in
set_option maxRecDepth 100000 in
theorem m0_write (G : GT) (l : Launch) (a1 : Int32) (a2 : Int32) (a3 : Int32)  (s0 : SS) (r : Int32) (s1 : SS) (hf : f0_write a1 a2 a3 s0 = some (r, s1)) : MI G l yX0_write cX0_write 4 (some .boolean) 0 0 [.ref (aX G 12), .int a1, .int a2, .int a3] (wX G s0) r (wX G s1) := by
  refine MI.startZ (by decide +kernel) (Nat.le_of_ble_eq_true rfl) (fun K hl C hret => ?_)
  subst hl
  have C : Ctx G K cX0_write RX0 4 0 0 := C
  change V G K (wX G s0) 0 [(0, .ref (aX G 12)), (1, .int a1), (2, .int a2), (3, .int a3)] []
  refine (?_ : tp (f0_write a1 a2 a3 s0) (fun q => q = (r, s1)) → _) ⟨_, hf, rfl⟩
  rw [f0_write]
  refine v_aload_n (pc := 0) C 0 rfl dX0_write_0 ?_
  refine g0_entries (pc := 1) C mw_69 dX0_write_1 ?_
  refine v_if_lt (pc := 4) C 16 dX0_write_4 (by decide) ?_ ?_
  · refine v_iconst (pc := 16) C 0 dX0_write_16 (by decide) ?_
    exact tp_out (fun h => by cases h; exact hret _ _ _ _ ⟨rfl, rfl⟩ (Or.inl rfl) dX0_write_17)
  · refine v_aload_n (pc := 7) C 0 rfl dX0_write_7 ?_
    refine g0_entries (pc := 8) C mw_69 dX0_write_8 ?_
    refine v_bipush (pc := 11) C 40 dX0_write_11 (by decide) ?_
    refine v_icmp_lt (pc := 13) C 18 dX0_write_13 (by decide) ?_ ?_
    · refine v_aload_n (pc := 18) C 0 rfl dX0_write_18 ?_
      refine g0_bodies (pc := 19) C mw_70 dX0_write_19 ?_
      refine v_aload_n (pc := 22) C 0 rfl dX0_write_22 ?_
      refine g0_entries (pc := 23) C mw_69 dX0_write_23 ?_
      refine v_iload_n (pc := 26) C 1 rfl dX0_write_26 ?_
      refine v_iast (pc := 27) C _ ax_13 (as_13 _ _) dX0_write_27 ?_
      refine r_ltx (fun s1 => ?_)
      refine v_aload_n (pc := 28) C 0 rfl dX0_write_28 ?_
      refine g0_lookers (pc := 29) C mw_71 dX0_write_29 ?_
      refine v_aload_n (pc := 32) C 0 rfl dX0_write_32 ?_
      refine g0_entries (pc := 33) C mw_69 dX0_write_33 ?_
      refine v_iload_n (pc := 36) C 2 rfl dX0_write_36 ?_
      refine v_iast (pc := 37) C _ ax_14 (as_14 _ _) dX0_write_37 ?_
      refine r_ltx (fun s2 => ?_)
      refine v_aload_n (pc := 38) C 0 rfl dX0_write_38 ?_
      refine g0_tops (pc := 39) C mw_72 dX0_write_39 ?_
      refine v_aload_n (pc := 42) C 0 rfl dX0_write_42 ?_
      refine g0_entries (pc := 43) C mw_69 dX0_write_43 ?_
      refine v_iload_n (pc := 46) C 3 rfl dX0_write_46 ?_
      refine v_iast (pc := 47) C _ ax_15 (as_15 _ _) dX0_write_47 ?_
      refine r_ltx (fun s3 => ?_)
      refine v_aload_n (pc := 48) C 0 rfl dX0_write_48 ?_
      refine v_dup (pc := 49) C dX0_write_49 rfl ?_
      refine g0_entries (pc := 50) C mw_69 dX0_write_50 ?_
      refine v_iconst (pc := 53) C 1 dX0_write_53 (by decide) ?_
      refine v_iadd (pc := 54) C dX0_write_54 ?_
      refine p0_entries (pc := 55) C mw_69 dX0_write_55 ?_
      refine r_ltx (fun s4 => ?_)
      refine v_iconst (pc := 58) C 1 dX0_write_58 (by decide) ?_
      exact tp_out (fun h => by cases h; exact hret _ _ _ _ ⟨rfl, rfl⟩ (Or.inr rfl) dX0_write_59)
    · refine v_iconst (pc := 16) C 0 dX0_write_16 (by decide) ?_
      exact tp_out (fun h => by cases h; exact hret _ _ _ _ ⟨rfl, rfl⟩ (Or.inl rfl) dX0_write_17)
def f0_isOf (a1 : Int32) (a2 : Int32) (a3 : Int32) (a4 : Int32) (s0 : SS) : Option Int32 := if a1 < 0 then some 0 else if a1 < 40 then gd (inb a1 40) (if (s0.1 13 a1.toNatClampNeg) = a2 then gd (inb a1 40) (lt (fun (_u : Unit) => some 0) (fun j1 => if (s0.1 14 a1.toNatClampNeg) < a3 then j1 () else gd (inb a1 40) (if (s0.1 14 a1.toNatClampNeg) ≤ a4 then some 1 else j1 ()))) else some 0) else some 0
set_option maxHeartbeats 4000000 in
set_option maxRecDepth 100000 in
theorem m0_isOf (G : GT) (l : Launch) (a1 : Int32) (a2 : Int32) (a3 : Int32) (a4 : Int32)  (s0 : SS) (r : Int32) (hf : f0_isOf a1 a2 a3 a4 s0 = some r) : MI G l yX0_isOf cX0_isOf 5 (some .boolean) 0 0 [.ref (aX G 12), .int a1, .int a2, .int a3, .int a4] (wX G s0) r (wX G s0) := by
  refine MI.startZ (by decide +kernel) (Nat.le_of_ble_eq_true rfl) (fun K hl C hret => ?_)
  subst hl
  have C : Ctx G K cX0_isOf RX0 5 0 0 := C
  change V G K (wX G s0) 0 [(0, .ref (aX G 12)), (1, .int a1), (2, .int a2), (3, .int a3), (4, .int a4)] []
  refine (?_ : tp (f0_isOf a1 a2 a3 a4 s0) (fun q => q = r) → _) ⟨_, hf, rfl⟩
  rw [f0_isOf]
  refine v_iload_n (pc := 0) C 1 rfl dX0_isOf_0 ?_
  refine v_if_lt (pc := 1) C 20 dX0_isOf_1 (by decide) ?_ ?_
  · refine v_iconst (pc := 20) C 0 dX0_isOf_20 (by decide) ?_
    exact tp_out (fun h => by cases h; exact hret _ _ _ _ ⟨rfl, rfl⟩ (Or.inl rfl) dX0_isOf_21)
  · refine v_iload_n (pc := 4) C 1 rfl dX0_isOf_4 ?_
    refine v_bipush (pc := 5) C 40 dX0_isOf_5 (by decide) ?_
    refine v_icmp_ge (pc := 7) C 20 dX0_isOf_7 (by decide) ?_ ?_
    · refine v_aload_n (pc := 10) C 0 rfl dX0_isOf_10 ?_
      refine g0_bodies (pc := 11) C mw_70 dX0_isOf_11 ?_
      refine v_iload_n (pc := 14) C 1 rfl dX0_isOf_14 ?_
      refine v_iald (pc := 15) C _ ax_13 dX0_isOf_15 ?_
      refine v_iload_n (pc := 16) C 2 rfl dX0_isOf_16 ?_
      refine v_icmp_eq (pc := 17) C 22 dX0_isOf_17 (by decide) ?_ ?_
      · refine v_aload_n (pc := 22) C 0 rfl dX0_isOf_22 ?_
        refine g0_lookers (pc := 23) C mw_71 dX0_isOf_23 ?_
        refine v_iload_n (pc := 26) C 1 rfl dX0_isOf_26 ?_
        refine v_iald (pc := 27) C _ ax_14 dX0_isOf_27 ?_
        refine v_iload_n (pc := 28) C 3 rfl dX0_isOf_28 ?_
        refine r_lJ (fun Φ0 j1 => ∀ (_u : Unit), tp (j1 ()) Φ0 → V G K (wX G s0) 47 [] []) (fun _u => ?_) (fun j1 hj2 => ?_)
        · refine v_iconst (pc := 47) C 0 dX0_isOf_47 (by decide) ?_
          exact tp_out (fun h => by cases h; exact hret _ _ _ _ ⟨rfl, rfl⟩ (Or.inl rfl) dX0_isOf_48)
        refine v_icmp_lt (pc := 29) C 47 dX0_isOf_29 (by decide) ?_ ?_
        · exact v_to [] (hj2 _) rfl
        · refine v_aload_n (pc := 32) C 0 rfl dX0_isOf_32 ?_
          refine g0_lookers (pc := 33) C mw_71 dX0_isOf_33 ?_
          refine v_iload_n (pc := 36) C 1 rfl dX0_isOf_36 ?_
          refine v_iald (pc := 37) C _ ax_14 dX0_isOf_37 ?_
          refine v_iload (pc := 38) C 4 rfl dX0_isOf_38 ?_
          refine v_icmp_gt (pc := 40) C 47 dX0_isOf_40 (by decide) ?_ ?_
          · refine v_iconst (pc := 43) C 1 dX0_isOf_43 (by decide) ?_
            refine v_goto (pc := 44) C 48 dX0_isOf_44 (by decide) ?_
            exact tp_out (fun h => by cases h; exact hret _ _ _ _ ⟨rfl, rfl⟩ (Or.inr rfl) dX0_isOf_48)
          · exact v_to [] (hj2 _) rfl
      · refine v_iconst (pc := 20) C 0 dX0_isOf_20 (by decide) ?_
        exact tp_out (fun h => by cases h; exact hret _ _ _ _ ⟨rfl, rfl⟩ (Or.inl rfl) dX0_isOf_21)
    · refine v_iconst (pc := 20) C 0 dX0_isOf_20 (by decide) ?_
      exact tp_out (fun h => by cases h; exact hret _ _ _ _ ⟨rfl, rfl⟩ (Or.inl rfl) dX0_isOf_21)
def L0_howMany_6 (c1 : Int32) (c2 : Int32) (c3 : Int32) (c4 : Int32) (s0 : SS) : Nat → Int32 → Int32 → Option (Int32)
  | 0, _, _ => none
  | n + 1, v5, v6 => if v6 < (s0.1 12 0) then if v6 < 40 then bd (f0_isOf v6 c1 c2 c3 s0) (fun v1 => if v1 = 0 then lt (v6 + 1) (fun v2 => L0_howMany_6 c1 c2 c3 c4 s0 n v5 v2) else gd (inb v6 40) (if (s0.1 15 v6.toNatClampNeg) < c4 then lt (v6 + 1) (fun v3 => L0_howMany_6 c1 c2 c3 c4 s0 n v5 v3) else lt (v5 + 1) (fun v4 => lt (v6 + 1) (fun v5 => L0_howMany_6 c1 c2 c3 c4 s0 n v4 v5)))) else some v5 else some v5
def f0_howMany (a1 : Int32) (a2 : Int32) (a3 : Int32) (a4 : Int32) (s0 : SS) : Option Int32 := bk1 (L0_howMany_6 a1 a2 a3 a4 s0 FU 0 0) (fun v6 => some v6)
set_option maxHeartbeats 4000000 in
set_option maxRecDepth 100000 in
theorem l0_howMany_6 {G : GT} {K : KT} (C : Ctx G K cX0_howMany RX0 7 1 24) (c1 : Int32) (c2 : Int32) (c3 : Int32) (c4 : Int32) (s0 : SS) {Ψ : Int32 → Prop} (hx : ∀ (o1 : Int32), Ψ o1 → V G K (wX G s0) 55 [(5, .int o1)] []) : ∀ (n : Nat) (v5 : Int32) (v6 : Int32), tp (L0_howMany_6 c1 c2 c3 c4 s0 n v5 v6) (k1 Ψ) → V G K (wX G s0) 6 [(0, .ref (aX G 12)), (1, .int c1), (2, .int c2), (3, .int c3), (4, .int c4), (5, .int v5), (6, .int v6)] [] := by
  intro n
  induction n with
  | zero => intro v5 v6 h; exact tp_no h
  | succ n ih =>
    intro v5 v6
    rw [L0_howMany_6]
    refine v_iload (pc := 6) C 6 rfl dX0_howMany_6 ?_
    refine v_aload_n (pc := 8) C 0 rfl dX0_howMany_8 ?_
    refine g0_entries (pc := 9) C mw_69 dX0_howMany_9 ?_
    refine v_icmp_ge (pc := 12) C 55 dX0_howMany_12 (by decide) ?_ ?_
    · refine v_iload (pc := 15) C 6 rfl dX0_howMany_15 ?_
      refine v_bipush (pc := 17) C 40 dX0_howMany_17 (by decide) ?_
      refine v_icmp_ge (pc := 19) C 55 dX0_howMany_19 (by decide) ?_ ?_
      · refine v_aload_n (pc := 22) C 0 rfl dX0_howMany_22 ?_
        refine v_iload (pc := 23) C 6 rfl dX0_howMany_23 ?_
        refine v_iload_n (pc := 25) C 1 rfl dX0_howMany_25 ?_
        refine v_iload_n (pc := 26) C 2 rfl dX0_howMany_26 ?_
        refine v_iload_n (pc := 27) C 3 rfl dX0_howMany_27 ?_
        refine cIv4r (pc := 28) C (fun r h => m0_isOf G K.2.1 v6 c1 c2 c3 s0 r h) q_yX0_isOf mw_815 rc_0 ⟨by decide, by decide⟩ (Nat.le_of_ble_eq_true rfl) dX0_howMany_28 (fun v1 => ?_)
        refine v_if_eq (pc := 31) C 49 dX0_howMany_31 (by decide) ?_ ?_
        · refine v_iincL (pc := 49) C 1 6 dX0_howMany_49 rfl (by decide) (by decide) (lv0 := [(0, .ref (aX G 12)), (1, .int c1), (2, .int c2), (3, .int c3), (4, .int c4), (5, .int v5)]) rfl (fun v2 => ?_)
          refine v_goto (pc := 52) C 6 dX0_howMany_52 (by decide) ?_
          exact v_to [1, 2, 3, 4, 5, 6, 0] (ih _ _) rfl
        · refine v_aload_n (pc := 34) C 0 rfl dX0_howMany_34 ?_
          refine g0_tops (pc := 35) C mw_72 dX0_howMany_35 ?_
          refine v_iload (pc := 38) C 6 rfl dX0_howMany_38 ?_
          refine v_iald (pc := 40) C _ ax_15 dX0_howMany_40 ?_
          refine v_iload (pc := 41) C 4 rfl dX0_howMany_41 ?_
          refine v_icmp_lt (pc := 43) C 49 dX0_howMany_43 (by decide) ?_ ?_
          · refine v_iincL (pc := 49) C 1 6 dX0_howMany_49 rfl (by decide) (by decide) (lv0 := [(0, .ref (aX G 12)), (1, .int c1), (2, .int c2), (3, .int c3), (4, .int c4), (5, .int v5)]) rfl (fun v3 => ?_)
            refine v_goto (pc := 52) C 6 dX0_howMany_52 (by decide) ?_
            exact v_to [1, 2, 3, 4, 5, 6, 0] (ih _ _) rfl
          · refine v_iincL (pc := 46) C 1 5 dX0_howMany_46 rfl (by decide) (by decide) (lv0 := [(0, .ref (aX G 12)), (1, .int c1), (2, .int c2), (3, .int c3), (4, .int c4), (6, .int v6)]) rfl (fun v4 => ?_)
            refine v_iincL (pc := 49) C 1 6 dX0_howMany_49 rfl (by decide) (by decide) (lv0 := [(5, .int v4), (0, .ref (aX G 12)), (1, .int c1), (2, .int c2), (3, .int c3), (4, .int c4)]) rfl (fun v5 => ?_)
            refine v_goto (pc := 52) C 6 dX0_howMany_52 (by decide) ?_
            exact v_to [2, 3, 4, 5, 6, 1, 0] (ih _ _) rfl
      · exact tp_out (fun h => v_to [5] (hx _) rfl h)
    · exact tp_out (fun h => v_to [5] (hx _) rfl h)
set_option maxHeartbeats 4000000 in
set_option maxRecDepth 100000 in
theorem m0_howMany (G : GT) (l : Launch) (a1 : Int32) (a2 : Int32) (a3 : Int32) (a4 : Int32)  (s0 : SS) (r : Int32) (hf : f0_howMany a1 a2 a3 a4 s0 = some r) : MI G l yX0_howMany cX0_howMany 7 (some .int) 1 24 [.ref (aX G 12), .int a1, .int a2, .int a3, .int a4] (wX G s0) r (wX G s0) := by
  refine MI.start (by decide +kernel) (Nat.le_of_ble_eq_true rfl) (fun K hl C hret => ?_)
  subst hl
  have C : Ctx G K cX0_howMany RX0 7 1 24 := C
  change V G K (wX G s0) 0 [(0, .ref (aX G 12)), (1, .int a1), (2, .int a2), (3, .int a3), (4, .int a4)] []
  refine (?_ : tp (f0_howMany a1 a2 a3 a4 s0) (fun q => q = r) → _) ⟨_, hf, rfl⟩
  rw [f0_howMany]
  refine v_iconst (pc := 0) C 0 dX0_howMany_0 (by decide) ?_
  refine v_istore (pc := 1) C dX0_howMany_1 (by decide) (lv' := [(5, .int 0), (0, .ref (aX G 12)), (1, .int a1), (2, .int a2), (3, .int a3), (4, .int a4)]) rfl ?_
  refine v_iconst (pc := 3) C 0 dX0_howMany_3 (by decide) ?_
  refine v_istore (pc := 4) C dX0_howMany_4 (by decide) (lv' := [(6, .int 0), (5, .int 0), (0, .ref (aX G 12)), (1, .int a1), (2, .int a2), (3, .int a3), (4, .int a4)]) rfl ?_
  refine r_bk1 ?_
  refine v_to [2, 3, 4, 5, 6, 1, 0] (l0_howMany_6 C a1 a2 a3 a4 s0 (fun v6 => ?_) FU _ _) rfl
  refine v_iload (pc := 55) C 0 rfl dX0_howMany_55 ?_
  exact tp_out (fun h => by cases h; exact hret _ _ _ _ ⟨rfl, rfl⟩ dX0_howMany_57)
def L0_heights_6 (c1 : Int32) (c2 : Int32) (c3 : Int32) (s0 : SS) : Nat → Int32 → Int32 → Option (Int32)
  | 0, _, _ => none
  | n + 1, v4, v5 => if v5 < (s0.1 12 0) then if v5 < 40 then bd (f0_isOf v5 c1 c2 c3 s0) (fun v1 => if v1 = 0 then lt (v5 + 1) (fun v2 => L0_heights_6 c1 c2 c3 s0 n v4 v2) else gd (inb v5 40) (lt ((v4 + (s0.1 15 v5.toNatClampNeg))) (fun v3 => lt (v5 + 1) (fun v4 => L0_heights_6 c1 c2 c3 s0 n v3 v4)))) else some v4 else some v4
def f0_heights (a1 : Int32) (a2 : Int32) (a3 : Int32) (s0 : SS) : Option Int32 := bk1 (L0_heights_6 a1 a2 a3 s0 FU 0 0) (fun v5 => some v5)
set_option maxHeartbeats 4000000 in
set_option maxRecDepth 100000 in
theorem l0_heights_6 {G : GT} {K : KT} (C : Ctx G K cX0_heights RX0 6 1 24) (c1 : Int32) (c2 : Int32) (c3 : Int32) (s0 : SS) {Ψ : Int32 → Prop} (hx : ∀ (o1 : Int32), Ψ o1 → V G K (wX G s0) 52 [(4, .int o1)] []) : ∀ (n : Nat) (v4 : Int32) (v5 : Int32), tp (L0_heights_6 c1 c2 c3 s0 n v4 v5) (k1 Ψ) → V G K (wX G s0) 6 [(0, .ref (aX G 12)), (1, .int c1), (2, .int c2), (3, .int c3), (4, .int v4), (5, .int v5)] [] := by
  intro n
  induction n with
  | zero => intro v4 v5 h; exact tp_no h
  | succ n ih =>
    intro v4 v5
    rw [L0_heights_6]
    refine v_iload (pc := 6) C 5 rfl dX0_heights_6 ?_
    refine v_aload_n (pc := 8) C 0 rfl dX0_heights_8 ?_
    refine g0_entries (pc := 9) C mw_69 dX0_heights_9 ?_
    refine v_icmp_ge (pc := 12) C 52 dX0_heights_12 (by decide) ?_ ?_
    · refine v_iload (pc := 15) C 5 rfl dX0_heights_15 ?_
      refine v_bipush (pc := 17) C 40 dX0_heights_17 (by decide) ?_
      refine v_icmp_ge (pc := 19) C 52 dX0_heights_19 (by decide) ?_ ?_
      · refine v_aload_n (pc := 22) C 0 rfl dX0_heights_22 ?_
        refine v_iload (pc := 23) C 5 rfl dX0_heights_23 ?_
        refine v_iload_n (pc := 25) C 1 rfl dX0_heights_25 ?_
        refine v_iload_n (pc := 26) C 2 rfl dX0_heights_26 ?_
        refine v_iload_n (pc := 27) C 3 rfl dX0_heights_27 ?_
        refine cIv4r (pc := 28) C (fun r h => m0_isOf G K.2.1 v5 c1 c2 c3 s0 r h) q_yX0_isOf mw_815 rc_0 ⟨by decide, by decide⟩ (Nat.le_of_ble_eq_true rfl) dX0_heights_28 (fun v1 => ?_)
        refine v_if_eq (pc := 31) C 46 dX0_heights_31 (by decide) ?_ ?_
        · refine v_iincL (pc := 46) C 1 5 dX0_heights_46 rfl (by decide) (by decide) (lv0 := [(0, .ref (aX G 12)), (1, .int c1), (2, .int c2), (3, .int c3), (4, .int v4)]) rfl (fun v2 => ?_)
          refine v_goto (pc := 49) C 6 dX0_heights_49 (by decide) ?_
          exact v_to [1, 2, 3, 4, 5, 0] (ih _ _) rfl
        · refine v_iload (pc := 34) C 4 rfl dX0_heights_34 ?_
          refine v_aload_n (pc := 36) C 0 rfl dX0_heights_36 ?_
          refine g0_tops (pc := 37) C mw_72 dX0_heights_37 ?_
          refine v_iload (pc := 40) C 5 rfl dX0_heights_40 ?_
          refine v_iald (pc := 42) C _ ax_15 dX0_heights_42 ?_
          refine v_iadd (pc := 43) C dX0_heights_43 ?_
          refine r_lti (fun v3 => ?_)
          refine v_istore (pc := 44) C dX0_heights_44 (by decide) (lv' := [(4, .int v3), (0, .ref (aX G 12)), (1, .int c1), (2, .int c2), (3, .int c3), (5, .int v5)]) rfl ?_
          refine v_iincL (pc := 46) C 1 5 dX0_heights_46 rfl (by decide) (by decide) (lv0 := [(4, .int v3), (0, .ref (aX G 12)), (1, .int c1), (2, .int c2), (3, .int c3)]) rfl (fun v4 => ?_)
          refine v_goto (pc := 49) C 6 dX0_heights_49 (by decide) ?_
          exact v_to [2, 3, 4, 5, 1, 0] (ih _ _) rfl
      · exact tp_out (fun h => v_to [4] (hx _) rfl h)
    · exact tp_out (fun h => v_to [4] (hx _) rfl h)
set_option maxHeartbeats 4000000 in
set_option maxRecDepth 100000 in
theorem m0_heights (G : GT) (l : Launch) (a1 : Int32) (a2 : Int32) (a3 : Int32)  (s0 : SS) (r : Int32) (hf : f0_heights a1 a2 a3 s0 = some r) : MI G l yX0_heights cX0_heights 6 (some .int) 1 24 [.ref (aX G 12), .int a1, .int a2, .int a3] (wX G s0) r (wX G s0) := by
  refine MI.start (by decide +kernel) (Nat.le_of_ble_eq_true rfl) (fun K hl C hret => ?_)
  subst hl
  have C : Ctx G K cX0_heights RX0 6 1 24 := C
  change V G K (wX G s0) 0 [(0, .ref (aX G 12)), (1, .int a1), (2, .int a2), (3, .int a3)] []
  refine (?_ : tp (f0_heights a1 a2 a3 s0) (fun q => q = r) → _) ⟨_, hf, rfl⟩
  rw [f0_heights]
  refine v_iconst (pc := 0) C 0 dX0_heights_0 (by decide) ?_
  refine v_istore (pc := 1) C dX0_heights_1 (by decide) (lv' := [(4, .int 0), (0, .ref (aX G 12)), (1, .int a1), (2, .int a2), (3, .int a3)]) rfl ?_
  refine v_iconst (pc := 3) C 0 dX0_heights_3 (by decide) ?_
  refine v_istore (pc := 4) C dX0_heights_4 (by decide) (lv' := [(5, .int 0), (4, .int 0), (0, .ref (aX G 12)), (1, .int a1), (2, .int a2), (3, .int a3)]) rfl ?_
  refine r_bk1 ?_
  refine v_to [2, 3, 4, 5, 1, 0] (l0_heights_6 C a1 a2 a3 s0 (fun v5 => ?_) FU _ _) rfl
  refine v_iload (pc := 52) C 0 rfl dX0_heights_52 ?_
  exact tp_out (fun h => by cases h; exact hret _ _ _ _ ⟨rfl, rfl⟩ dX0_heights_54)
def f1_begin (m0 : Nat) (a1 : Int32) (s0 : SS) : Option SS := lt (sI s0 (17 + m0) 0 a1) (fun s1 => lt (sI s1 (17 + m0) 1 (-1)) (fun s2 => lt (sI s2 (17 + m0) 2 0) (fun s3 => lt (sI s3 (17 + m0) 3 0) (fun s4 => lt (sI s4 (17 + m0) 4 0) (fun s5 => lt (sI s5 (17 + m0) 5 0) (fun s6 => some s6))))))
set_option maxHeartbeats 4000000 in
set_option maxRecDepth 100000 in
theorem m1_begin (G : GT) (l : Launch) (m0 : Nat) (a1 : Int32) (hm0 : m0 < 3) (s0 : SS) (s1 : SS) (hf : f1_begin m0 a1 s0 = some s1) : MV G l yX1_begin cX1_begin 2 none 0 0 [.ref (aX G (17 + m0)), .int a1] (wX G s0) (wX G s1) := by
  refine MV.start (by decide +kernel) (Nat.le_of_ble_eq_true rfl) (fun K hl C hret => ?_)
  subst hl
  have C : Ctx G K cX1_begin RX1 2 0 0 := C
  change V G K (wX G s0) 0 [(0, .ref (aX G (17 + m0))), (1, .int a1)] []
  refine (?_ : tp (f1_begin m0 a1 s0) (fun q => q = s1) → _) ⟨_, hf, rfl⟩
  rw [f1_begin]
  refine v_aload_n (pc := 0) C 0 rfl dX1_begin_0 ?_
  refine v_iload_n (pc := 1) C 1 rfl dX1_begin_1 ?_
  refine p1_who m0 hm0 (pc := 2) C mw_76 dX1_begin_2 ?_
  refine r_ltx (fun s1 => ?_)
  refine v_aload_n (pc := 5) C 0 rfl dX1_begin_5 ?_
  refine v_iconst (pc := 6) C (-1) dX1_begin_6 (by decide) ?_
  refine p1_where m0 hm0 (pc := 7) C mw_77 dX1_begin_7 ?_
  refine r_ltx (fun s2 => ?_)
  refine v_aload_n (pc := 10) C 0 rfl dX1_begin_10 ?_
  refine v_iconst (pc := 11) C 0 dX1_begin_11 (by decide) ?_
  refine p1_hurt m0 hm0 (pc := 12) C mw_78 dX1_begin_12 ?_
  refine r_ltx (fun s3 => ?_)
  refine v_aload_n (pc := 15) C 0 rfl dX1_begin_15 ?_
  refine v_iconst (pc := 16) C 0 dX1_begin_16 (by decide) ?_
  refine p1_top m0 hm0 (pc := 17) C mw_79 dX1_begin_17 ?_
  refine r_ltx (fun s4 => ?_)
  refine v_aload_n (pc := 20) C 0 rfl dX1_begin_20 ?_
  refine v_iconst (pc := 21) C 0 dX1_begin_21 (by decide) ?_
  refine p1_steps m0 hm0 (pc := 22) C mw_80 dX1_begin_22 ?_
  refine r_ltx (fun s5 => ?_)
  refine v_aload_n (pc := 25) C 0 rfl dX1_begin_25 ?_
  refine v_iconst (pc := 26) C 0 dX1_begin_26 (by decide) ?_
  refine p1_falls m0 hm0 (pc := 27) C mw_81 dX1_begin_27 ?_
  refine r_ltx (fun s6 => ?_)
  exact tp_out (fun h => by cases h; exact hret _ _ _ rfl dX1_begin_30)
def f1_become (m0 : Nat) (m1 : Nat) (s0 : SS) : Option SS := lt (sI s0 (17 + m0) 0 (s0.1 (17 + m1) 0)) (fun s1 => lt (sI s1 (17 + m0) 1 (s1.1 (17 + m1) 1)) (fun s2 => lt (sI s2 (17 + m0) 2 (s2.1 (17 + m1) 2)) (fun s3 => lt (sI s3 (17 + m0) 3 (s3.1 (17 + m1) 3)) (fun s4 => lt (sI s4 (17 + m0) 4 (s4.1 (17 + m1) 4)) (fun s5 => lt (sI s5 (17 + m0) 5 (s5.1 (17 + m1) 5)) (fun s6 => lt (sI s6 (17 + m0) 6 (s6.1 (17 + m1) 6)) (fun s7 => lt (sI s7 (17 + m0) 7 (s7.1 (17 + m1) 7)) (fun s8 => some s8))))))))
set_option maxHeartbeats 4000000 in
set_option maxRecDepth 100000 in
theorem m1_become (G : GT) (l : Launch) (m0 : Nat) (m1 : Nat) (hm0 : m0 < 3) (hm1 : m1 < 3) (s0 : SS) (s1 : SS) (hf : f1_become m0 m1 s0 = some s1) : MV G l yX1_become cX1_become 2 none 0 0 [.ref (aX G (17 + m0)), .ref (aX G (17 + m1))] (wX G s0) (wX G s1) := by
  refine MV.start (by decide +kernel) (Nat.le_of_ble_eq_true rfl) (fun K hl C hret => ?_)
  subst hl
  have C : Ctx G K cX1_become RX1 2 0 0 := C
  change V G K (wX G s0) 0 [(0, .ref (aX G (17 + m0))), (1, .ref (aX G (17 + m1)))] []
  refine (?_ : tp (f1_become m0 m1 s0) (fun q => q = s1) → _) ⟨_, hf, rfl⟩
  rw [f1_become]
  refine v_aload_n (pc := 0) C 0 rfl dX1_become_0 ?_
  refine v_aload_n (pc := 1) C 1 rfl dX1_become_1 ?_
  refine g1_who m1 hm1 (pc := 2) C mw_76 dX1_become_2 ?_
  refine p1_who m0 hm0 (pc := 5) C mw_76 dX1_become_5 ?_
  refine r_ltx (fun s1 => ?_)
  refine v_aload_n (pc := 8) C 0 rfl dX1_become_8 ?_
  refine v_aload_n (pc := 9) C 1 rfl dX1_become_9 ?_
  refine g1_where m1 hm1 (pc := 10) C mw_77 dX1_become_10 ?_
  refine p1_where m0 hm0 (pc := 13) C mw_77 dX1_become_13 ?_
  refine r_ltx (fun s2 => ?_)
  refine v_aload_n (pc := 16) C 0 rfl dX1_become_16 ?_
  refine v_aload_n (pc := 17) C 1 rfl dX1_become_17 ?_
  refine g1_hurt m1 hm1 (pc := 18) C mw_78 dX1_become_18 ?_
  refine p1_hurt m0 hm0 (pc := 21) C mw_78 dX1_become_21 ?_
  refine r_ltx (fun s3 => ?_)
  refine v_aload_n (pc := 24) C 0 rfl dX1_become_24 ?_
  refine v_aload_n (pc := 25) C 1 rfl dX1_become_25 ?_
  refine g1_top m1 hm1 (pc := 26) C mw_79 dX1_become_26 ?_
  refine p1_top m0 hm0 (pc := 29) C mw_79 dX1_become_29 ?_
  refine r_ltx (fun s4 => ?_)
  refine v_aload_n (pc := 32) C 0 rfl dX1_become_32 ?_
  refine v_aload_n (pc := 33) C 1 rfl dX1_become_33 ?_
  refine g1_steps m1 hm1 (pc := 34) C mw_80 dX1_become_34 ?_
  refine p1_steps m0 hm0 (pc := 37) C mw_80 dX1_become_37 ?_
  refine r_ltx (fun s5 => ?_)
  refine v_aload_n (pc := 40) C 0 rfl dX1_become_40 ?_
  refine v_aload_n (pc := 41) C 1 rfl dX1_become_41 ?_
  refine g1_falls m1 hm1 (pc := 42) C mw_81 dX1_become_42 ?_
  refine p1_falls m0 hm0 (pc := 45) C mw_81 dX1_become_45 ?_
  refine r_ltx (fun s6 => ?_)
  refine v_aload_n (pc := 48) C 0 rfl dX1_become_48 ?_
  refine v_aload_n (pc := 49) C 1 rfl dX1_become_49 ?_
  refine g1_lot m1 hm1 (pc := 50) C mw_82 dX1_become_50 ?_
  refine p1_lot m0 hm0 (pc := 53) C mw_82 dX1_become_53 ?_
  refine r_ltx (fun s7 => ?_)
  refine v_aload_n (pc := 56) C 0 rfl dX1_become_56 ?_
  refine v_aload_n (pc := 57) C 1 rfl dX1_become_57 ?_
  refine g1_sawn m1 hm1 (pc := 58) C mw_83 dX1_become_58 ?_
  refine p1_sawn m0 hm0 (pc := 61) C mw_83 dX1_become_61 ?_
  refine r_ltx (fun s8 => ?_)
  exact tp_out (fun h => by cases h; exact hret _ _ _ rfl dX1_become_64)
def f1_draw (m0 : Nat) (s0 : SS) : Option (Int32 × SS) := lt (sI s0 (17 + m0) 6 (((s0.1 (17 + m0) 6) * 1103515245) + 12345)) (fun s1 => some ((((Int32.toUInt32 (s1.1 (17 + m0) 6)) >>> ((Int32.toUInt32 16) &&& Int32.toUInt32 31)).toInt32 - ((Int32.toUInt32 (s1.1 (17 + m0) 6)) >>> ((Int32.toUInt32 16) &&& Int32.toUInt32 31)).toInt32 / 10 * 10), s1))
set_option maxHeartbeats 4000000 in
set_option maxRecDepth 100000 in
theorem m1_draw (G : GT) (l : Launch) (m0 : Nat) (hm0 : m0 < 3) (s0 : SS) (r : Int32) (s1 : SS) (hf : f1_draw m0 s0 = some (r, s1)) : MI G l yX1_draw cX1_draw 1 (some .int) 0 0 [.ref (aX G (17 + m0))] (wX G s0) r (wX G s1) := by
  refine MI.start (by decide +kernel) (Nat.le_of_ble_eq_true rfl) (fun K hl C hret => ?_)
  subst hl
  have C : Ctx G K cX1_draw RX1 1 0 0 := C
  change V G K (wX G s0) 0 [(0, .ref (aX G (17 + m0)))] []
  refine (?_ : tp (f1_draw m0 s0) (fun q => q = (r, s1)) → _) ⟨_, hf, rfl⟩
  rw [f1_draw]
  refine v_aload_n (pc := 0) C 0 rfl dX1_draw_0 ?_
  refine v_aload_n (pc := 1) C 0 rfl dX1_draw_1 ?_
  refine g1_lot m0 hm0 (pc := 2) C mw_82 dX1_draw_2 ?_
  refine v_ldc (pc := 5) C mw_855 dX1_draw_5 ?_
  refine v_imul (pc := 7) C dX1_draw_7 ?_
  refine v_sipush (pc := 8) C 12345 dX1_draw_8 (by decide) ?_
  refine v_iadd (pc := 11) C dX1_draw_11 ?_
  refine p1_lot m0 hm0 (pc := 12) C mw_82 dX1_draw_12 ?_
  refine r_ltx (fun s1 => ?_)
  refine v_aload_n (pc := 15) C 0 rfl dX1_draw_15 ?_
  refine g1_lot m0 hm0 (pc := 16) C mw_82 dX1_draw_16 ?_
  refine v_bipush (pc := 19) C 16 dX1_draw_19 (by decide) ?_
  refine v_iushr (pc := 21) C dX1_draw_21 ?_
  refine v_bipush (pc := 22) C 10 dX1_draw_22 (by decide) ?_
  refine v_irem (pc := 24) C dX1_draw_24 (by decide) ?_
  exact tp_out (fun h => by cases h; exact hret _ _ _ _ ⟨rfl, rfl⟩ dX1_draw_25)
def f1_arrive (m0 : Nat) (a1 : Int32) (a2 : Int32) (s0 : SS) : Option SS := lt (sI s0 (17 + m0) 1 a1) (fun s1 => lt (if (s1.1 (17 + m0) 3) < a2 then a2 else (s1.1 (17 + m0) 3)) (fun v2 => lt (sI s1 (17 + m0) 3 v2) (fun s3 => lt (sI s3 (17 + m0) 4 ((s3.1 (17 + m0) 4) + 1)) (fun s4 => some s4))))
set_option maxHeartbeats 4000000 in
set_option maxRecDepth 100000 in
theorem m1_arrive (G : GT) (l : Launch) (m0 : Nat) (a1 : Int32) (a2 : Int32) (hm0 : m0 < 3) (s0 : SS) (s1 : SS) (hf : f1_arrive m0 a1 a2 s0 = some s1) : MV G l yX1_arrive cX1_arrive 3 none 1 23 [.ref (aX G (17 + m0)), .int a1, .int a2] (wX G s0) (wX G s1) := by
  refine MV.start (by decide +kernel) (Nat.le_of_ble_eq_true rfl) (fun K hl C hret => ?_)
  subst hl
  have C : Ctx G K cX1_arrive RX1 3 1 23 := C
  change V G K (wX G s0) 0 [(0, .ref (aX G (17 + m0))), (1, .int a1), (2, .int a2)] []
  refine (?_ : tp (f1_arrive m0 a1 a2 s0) (fun q => q = s1) → _) ⟨_, hf, rfl⟩
  rw [f1_arrive]
  refine v_aload_n (pc := 0) C 0 rfl dX1_arrive_0 ?_
  refine v_iload_n (pc := 1) C 1 rfl dX1_arrive_1 ?_
  refine p1_where m0 hm0 (pc := 2) C mw_77 dX1_arrive_2 ?_
  refine r_ltx (fun s1 => ?_)
  refine v_aload_n (pc := 5) C 0 rfl dX1_arrive_5 ?_
  refine v_aload_n (pc := 6) C 0 rfl dX1_arrive_6 ?_
  refine g1_top m0 hm0 (pc := 7) C mw_79 dX1_arrive_7 ?_
  refine v_iload_n (pc := 10) C 2 rfl dX1_arrive_10 ?_
  refine v_mmax (pc := 11) C mw_860 mw_491 mw_190 mw_492 (by decide) (Nat.le_of_ble_eq_true rfl) dX1_arrive_11 ?_
  refine r_lti (fun v2 => ?_)
  refine p1_top m0 hm0 (pc := 14) C mw_79 dX1_arrive_14 ?_
  refine r_ltx (fun s3 => ?_)
  refine v_aload_n (pc := 17) C 0 rfl dX1_arrive_17 ?_
  refine v_dup (pc := 18) C dX1_arrive_18 rfl ?_
  refine g1_steps m0 hm0 (pc := 19) C mw_80 dX1_arrive_19 ?_
  refine v_iconst (pc := 22) C 1 dX1_arrive_22 (by decide) ?_
  refine v_iadd (pc := 23) C dX1_arrive_23 ?_
  refine p1_steps m0 hm0 (pc := 24) C mw_80 dX1_arrive_24 ?_
  refine r_ltx (fun s4 => ?_)
  exact tp_out (fun h => by cases h; exact hret _ _ _ rfl dX1_arrive_27)
def f1_drop (m0 : Nat) (a1 : Int32) (s0 : SS) : Option SS := lt (sI s0 (17 + m0) 1 (-1)) (fun s1 => lt (sI s1 (17 + m0) 2 ((s1.1 (17 + m0) 2) + a1)) (fun s2 => lt (sI s2 (17 + m0) 5 ((s2.1 (17 + m0) 5) + 1)) (fun s3 => some s3)))
set_option maxHeartbeats 4000000 in
set_option maxRecDepth 100000 in
theorem m1_drop (G : GT) (l : Launch) (m0 : Nat) (a1 : Int32) (hm0 : m0 < 3) (s0 : SS) (s1 : SS) (hf : f1_drop m0 a1 s0 = some s1) : MV G l yX1_drop cX1_drop 2 none 0 0 [.ref (aX G (17 + m0)), .int a1] (wX G s0) (wX G s1) := by
  refine MV.start (by decide +kernel) (Nat.le_of_ble_eq_true rfl) (fun K hl C hret => ?_)
  subst hl
  have C : Ctx G K cX1_drop RX1 2 0 0 := C
  change V G K (wX G s0) 0 [(0, .ref (aX G (17 + m0))), (1, .int a1)] []
  refine (?_ : tp (f1_drop m0 a1 s0) (fun q => q = s1) → _) ⟨_, hf, rfl⟩
  rw [f1_drop]
  refine v_aload_n (pc := 0) C 0 rfl dX1_drop_0 ?_
  refine v_iconst (pc := 1) C (-1) dX1_drop_1 (by decide) ?_
  refine p1_where m0 hm0 (pc := 2) C mw_77 dX1_drop_2 ?_
  refine r_ltx (fun s1 => ?_)
  refine v_aload_n (pc := 5) C 0 rfl dX1_drop_5 ?_
  refine v_dup (pc := 6) C dX1_drop_6 rfl ?_
  refine g1_hurt m0 hm0 (pc := 7) C mw_78 dX1_drop_7 ?_
  refine v_iload_n (pc := 10) C 1 rfl dX1_drop_10 ?_
  refine v_iadd (pc := 11) C dX1_drop_11 ?_
  refine p1_hurt m0 hm0 (pc := 12) C mw_78 dX1_drop_12 ?_
  refine r_ltx (fun s2 => ?_)
  refine v_aload_n (pc := 15) C 0 rfl dX1_drop_15 ?_
  refine v_dup (pc := 16) C dX1_drop_16 rfl ?_
  refine g1_falls m0 hm0 (pc := 17) C mw_81 dX1_drop_17 ?_
  refine v_iconst (pc := 20) C 1 dX1_drop_20 (by decide) ?_
  refine v_iadd (pc := 21) C dX1_drop_21 ?_
  refine p1_falls m0 hm0 (pc := 22) C mw_81 dX1_drop_22 ?_
  refine r_ltx (fun s3 => ?_)
  exact tp_out (fun h => by cases h; exact hret _ _ _ rfl dX1_drop_25)
def L2_append_32 (c1 : Int64) : Nat → Int32 → SS → Option (SS)
  | 0, _, _ => none
  | n + 1, v4, s => if v4 < 0 then some s else gd (inb (s.1 2 1) 400) (lt (sI s 3 (Int32.toNatClampNeg (s.1 2 1)) ((Int64.toInt32 ((Int64.toUInt64 c1) >>> ((Int64.toUInt64 (Int32.toInt64 (8 * v4))) &&& Int64.toUInt64 63)).toInt64) &&& 255)) (fun s2 => lt (sI s2 2 1 ((s2.1 2 1) + 1)) (fun s3 => lt (v4 + (-1)) (fun v4 => L2_append_32 c1 n v4 s3))))
def f2_append (a1 : Int64) (a3 : Int32) (s0 : SS) : Option (Int32 × SS) := if a3 < 1 then some (0, s0) else if a3 ≤ 8 then if ((s0.1 2 1) + a3) ≤ 400 then lt ((a3 - 1)) (fun v1 => bk1 (L2_append_32 a1 FU v1 s0) (fun s5 => some (1, s5))) else some (0, s0) else some (0, s0)
set_option maxHeartbeats 4000000 in
set_option maxRecDepth 100000 in
theorem l2_append_32 {G : GT} {K : KT} (C : Ctx G K cX2_append RX2 5 0 0) (c1 : Int64) {Ψ : SS → Prop} (hx : ∀ (so : SS), Ψ so → V G K (wX G so) 74 [] []) : ∀ (n : Nat) (v4 : Int32) (s : SS), tp (L2_append_32 c1 n v4 s) (k1 Ψ) → V G K (wX G s) 32 [(0, .ref (aX G 2)), (1, .long c1), (4, .int v4)] [] := by
  intro n
  induction n with
  | zero => intro v4 s h; exact tp_no h
  | succ n ih =>
    intro v4 s
    rw [L2_append_32]
    refine v_iload (pc := 32) C 2 rfl dX2_append_32 ?_
    refine v_if_lt (pc := 34) C 74 dX2_append_34 (by decide) ?_ ?_
    · exact tp_out (fun h => v_to [] (hx _) rfl h)
    · refine v_aload_n (pc := 37) C 0 rfl dX2_append_37 ?_
      refine g2_bytes (pc := 38) C mw_49 dX2_append_38 ?_
      refine v_aload_n (pc := 41) C 0 rfl dX2_append_41 ?_
      refine g2_length (pc := 42) C mw_50 dX2_append_42 ?_
      refine v_lload_n (pc := 45) C 1 rfl dX2_append_45 ?_
      refine v_bipush (pc := 46) C 8 dX2_append_46 (by decide) ?_
      refine v_iload (pc := 48) C 2 rfl dX2_append_48 ?_
      refine v_imul (pc := 50) C dX2_append_50 ?_
      refine v_lushr (pc := 51) C dX2_append_51 ?_
      refine v_l2i (pc := 52) C dX2_append_52 ?_
      refine v_sipush (pc := 53) C 255 dX2_append_53 (by decide) ?_
      refine v_iand (pc := 56) C dX2_append_56 ?_
      refine v_iast (pc := 57) C _ ax_3 (as_3 _ _) dX2_append_57 ?_
      refine r_ltx (fun s2 => ?_)
      refine v_aload_n (pc := 58) C 0 rfl dX2_append_58 ?_
      refine v_dup (pc := 59) C dX2_append_59 rfl ?_
      refine g2_length (pc := 60) C mw_50 dX2_append_60 ?_
      refine v_iconst (pc := 63) C 1 dX2_append_63 (by decide) ?_
      refine v_iadd (pc := 64) C dX2_append_64 ?_
      refine p2_length (pc := 65) C mw_50 dX2_append_65 ?_
      refine r_ltx (fun s3 => ?_)
      refine v_iincL (pc := 68) C (-1) 2 dX2_append_68 rfl (by decide) (by decide) (lv0 := [(0, .ref (aX G 2)), (1, .long c1)]) rfl (fun v4 => ?_)
      refine v_goto (pc := 71) C 32 dX2_append_71 (by decide) ?_
      exact v_to [1, 2, 0] (ih _ _) rfl
set_option maxHeartbeats 4000000 in
set_option maxRecDepth 100000 in
theorem m2_append (G : GT) (l : Launch) (a1 : Int64) (a3 : Int32)  (s0 : SS) (r : Int32) (s1 : SS) (hf : f2_append a1 a3 s0 = some (r, s1)) : MI G l yX2_append cX2_append 5 (some .boolean) 0 0 [.ref (aX G 2), .long a1, .int a3] (wX G s0) r (wX G s1) := by
  refine MI.startZ (by decide +kernel) (Nat.le_of_ble_eq_true rfl) (fun K hl C hret => ?_)
  subst hl
  have C : Ctx G K cX2_append RX2 5 0 0 := C
  change V G K (wX G s0) 0 [(0, .ref (aX G 2)), (1, .long a1), (3, .int a3)] []
  refine (?_ : tp (f2_append a1 a3 s0) (fun q => q = (r, s1)) → _) ⟨_, hf, rfl⟩
  rw [f2_append]
  refine v_iload_n (pc := 0) C 2 rfl dX2_append_0 ?_
  refine v_iconst (pc := 1) C 1 dX2_append_1 (by decide) ?_
  refine v_icmp_lt (pc := 2) C 25 dX2_append_2 (by decide) ?_ ?_
  · refine v_iconst (pc := 25) C 0 dX2_append_25 (by decide) ?_
    exact tp_out (fun h => by cases h; exact hret _ _ _ _ ⟨rfl, rfl⟩ (Or.inl rfl) dX2_append_26)
  · refine v_iload_n (pc := 5) C 2 rfl dX2_append_5 ?_
    refine v_bipush (pc := 6) C 8 dX2_append_6 (by decide) ?_
    refine v_icmp_gt (pc := 8) C 25 dX2_append_8 (by decide) ?_ ?_
    · refine v_aload_n (pc := 11) C 0 rfl dX2_append_11 ?_
      refine g2_length (pc := 12) C mw_50 dX2_append_12 ?_
      refine v_iload_n (pc := 15) C 2 rfl dX2_append_15 ?_
      refine v_iadd (pc := 16) C dX2_append_16 ?_
      refine v_aload_n (pc := 17) C 0 rfl dX2_append_17 ?_
      refine g2_bytes (pc := 18) C mw_49 dX2_append_18 ?_
      refine v_alen (pc := 21) C _ 0 ax_3 rfl (v := 400) rfl dX2_append_21 ?_
      refine v_icmp_le (pc := 22) C 27 dX2_append_22 (by decide) ?_ ?_
      · refine v_iload_n (pc := 27) C 2 rfl dX2_append_27 ?_
        refine v_iconst (pc := 28) C 1 dX2_append_28 (by decide) ?_
        refine v_isub (pc := 29) C dX2_append_29 ?_
        refine r_lti (fun v1 => ?_)
        refine v_istore (pc := 30) C dX2_append_30 (by decide) (lv' := [(4, .int v1), (0, .ref (aX G 2)), (1, .long a1), (3, .int a3)]) rfl ?_
        refine r_bk1 ?_
        refine v_to [1, 2, 0] (l2_append_32 C a1 (fun s5 => ?_) FU _ _) rfl
        refine v_iconst (pc := 74) C 1 dX2_append_74 (by decide) ?_
        exact tp_out (fun h => by cases h; exact hret _ _ _ _ ⟨rfl, rfl⟩ (Or.inr rfl) dX2_append_75)
      · refine v_iconst (pc := 25) C 0 dX2_append_25 (by decide) ?_
        exact tp_out (fun h => by cases h; exact hret _ _ _ _ ⟨rfl, rfl⟩ (Or.inl rfl) dX2_append_26)
    · refine v_iconst (pc := 25) C 0 dX2_append_25 (by decide) ?_
      exact tp_out (fun h => by cases h; exact hret _ _ _ _ ⟨rfl, rfl⟩ (Or.inl rfl) dX2_append_26)
def f2_rewind  (s0 : SS) : Option SS := lt (sI s0 2 2 0) (fun s1 => some s1)
set_option maxHeartbeats 4000000 in
set_option maxRecDepth 100000 in
theorem m2_rewind (G : GT) (l : Launch)   (s0 : SS) (s1 : SS) (hf : f2_rewind s0 = some s1) : MV G l yX2_rewind cX2_rewind 1 none 0 0 [.ref (aX G 2)] (wX G s0) (wX G s1) := by
  refine MV.start (by decide +kernel) (Nat.le_of_ble_eq_true rfl) (fun K hl C hret => ?_)
  subst hl
  have C : Ctx G K cX2_rewind RX2 1 0 0 := C
  change V G K (wX G s0) 0 [(0, .ref (aX G 2))] []
  refine (?_ : tp (f2_rewind s0) (fun q => q = s1) → _) ⟨_, hf, rfl⟩
  rw [f2_rewind]
  refine v_aload_n (pc := 0) C 0 rfl dX2_rewind_0 ?_
  refine v_iconst (pc := 1) C 0 dX2_rewind_1 (by decide) ?_
  refine p2_at (pc := 2) C mw_51 dX2_rewind_2 ?_
  refine r_ltx (fun s1 => ?_)
  exact tp_out (fun h => by cases h; exact hret _ _ _ rfl dX2_rewind_5)
def f2_byteAt (a1 : Int32) (s0 : SS) : Option Int32 := lt (fun (_u : Unit) => some (-1)) (fun j1 => if a1 < 0 then j1 () else if a1 < (s0.1 2 1) then if a1 < 400 then gd (inb a1 400) (some (s0.1 3 a1.toNatClampNeg)) else j1 () else j1 ())
set_option maxHeartbeats 4000000 in
set_option maxRecDepth 100000 in
theorem m2_byteAt (G : GT) (l : Launch) (a1 : Int32)  (s0 : SS) (r : Int32) (hf : f2_byteAt a1 s0 = some r) : MI G l yX2_byteAt cX2_byteAt 2 (some .int) 0 0 [.ref (aX G 2), .int a1] (wX G s0) r (wX G s0) := by
  refine MI.start (by decide +kernel) (Nat.le_of_ble_eq_true rfl) (fun K hl C hret => ?_)
  subst hl
  have C : Ctx G K cX2_byteAt RX2 2 0 0 := C
  change V G K (wX G s0) 0 [(0, .ref (aX G 2)), (1, .int a1)] []
  refine (?_ : tp (f2_byteAt a1 s0) (fun q => q = r) → _) ⟨_, hf, rfl⟩
  rw [f2_byteAt]
  refine v_iload_n (pc := 0) C 1 rfl dX2_byteAt_0 ?_
  refine r_lJ (fun Φ0 j1 => ∀ (_u : Unit), tp (j1 ()) Φ0 → V G K (wX G s0) 30 [] []) (fun _u => ?_) (fun j1 hj2 => ?_)
  · refine v_iconst (pc := 30) C (-1) dX2_byteAt_30 (by decide) ?_
    exact tp_out (fun h => by cases h; exact hret _ _ _ _ ⟨rfl, rfl⟩ dX2_byteAt_31)
  refine v_if_lt (pc := 1) C 30 dX2_byteAt_1 (by decide) ?_ ?_
  · exact v_to [] (hj2 _) rfl
  · refine v_iload_n (pc := 4) C 1 rfl dX2_byteAt_4 ?_
    refine v_aload_n (pc := 5) C 0 rfl dX2_byteAt_5 ?_
    refine g2_length (pc := 6) C mw_50 dX2_byteAt_6 ?_
    refine v_icmp_ge (pc := 9) C 30 dX2_byteAt_9 (by decide) ?_ ?_
    · refine v_iload_n (pc := 12) C 1 rfl dX2_byteAt_12 ?_
      refine v_aload_n (pc := 13) C 0 rfl dX2_byteAt_13 ?_
      refine g2_bytes (pc := 14) C mw_49 dX2_byteAt_14 ?_
      refine v_alen (pc := 17) C _ 0 ax_3 rfl (v := 400) rfl dX2_byteAt_17 ?_
      refine v_icmp_ge (pc := 18) C 30 dX2_byteAt_18 (by decide) ?_ ?_
      · refine v_aload_n (pc := 21) C 0 rfl dX2_byteAt_21 ?_
        refine g2_bytes (pc := 22) C mw_49 dX2_byteAt_22 ?_
        refine v_iload_n (pc := 25) C 1 rfl dX2_byteAt_25 ?_
        refine v_iald (pc := 26) C _ ax_3 dX2_byteAt_26 ?_
        refine v_goto (pc := 27) C 31 dX2_byteAt_27 (by decide) ?_
        exact tp_out (fun h => by cases h; exact hret _ _ _ _ ⟨rfl, rfl⟩ dX2_byteAt_31)
      · exact v_to [] (hj2 _) rfl
    · exact v_to [] (hj2 _) rfl
def f2_isDigit (a0 : Int32) : Option Int32 := lt (fun (_u : Unit) => some 0) (fun j1 => if a0 < 48 then j1 () else if a0 ≤ 57 then some 1 else j1 ())
set_option maxHeartbeats 4000000 in
set_option maxRecDepth 100000 in
theorem m2_isDigit (G : GT) (l : Launch) (a0 : Int32)  (w : va_W) (r : Int32) (hf : f2_isDigit a0 = some r) : MI G l yX2_isDigit cX2_isDigit 1 (some .boolean) 0 0 [.int a0] w r w := by
  refine MI.startZ (by decide +kernel) (Nat.le_of_ble_eq_true rfl) (fun K hl C hret => ?_)
  subst hl
  have C : Ctx G K cX2_isDigit RX2 1 0 0 := C
  change V G K w 0 [(0, .int a0)] []
  refine (?_ : tp (f2_isDigit a0) (fun q => q = r) → _) ⟨_, hf, rfl⟩
  rw [f2_isDigit]
  refine v_iload_n (pc := 0) C 0 rfl dX2_isDigit_0 ?_
  refine v_bipush (pc := 1) C 48 dX2_isDigit_1 (by decide) ?_
  refine r_lJ (fun Φ0 j1 => ∀ (_u : Unit), tp (j1 ()) Φ0 → V G K w 16 [] []) (fun _u => ?_) (fun j1 hj2 => ?_)
  · refine v_iconst (pc := 16) C 0 dX2_isDigit_16 (by decide) ?_
    exact tp_out (fun h => by cases h; exact hret _ _ _ _ ⟨rfl, rfl⟩ (Or.inl rfl) dX2_isDigit_17)
  refine v_icmp_lt (pc := 3) C 16 dX2_isDigit_3 (by decide) ?_ ?_
  · exact v_to [] (hj2 _) rfl
  · refine v_iload_n (pc := 6) C 0 rfl dX2_isDigit_6 ?_
    refine v_bipush (pc := 7) C 57 dX2_isDigit_7 (by decide) ?_
    refine v_icmp_gt (pc := 9) C 16 dX2_isDigit_9 (by decide) ?_ ?_
    · refine v_iconst (pc := 12) C 1 dX2_isDigit_12 (by decide) ?_
      refine v_goto (pc := 13) C 17 dX2_isDigit_13 (by decide) ?_
      exact tp_out (fun h => by cases h; exact hret _ _ _ _ ⟨rfl, rfl⟩ (Or.inr rfl) dX2_isDigit_17)
    · exact v_to [] (hj2 _) rfl
def L2_readNumber_2 : Nat → Int32 → SS → Option (Int32 × SS)
  | 0, _, _ => none
  | n + 1, v1, s => if (s.1 2 2) < (s.1 2 1) then bd (f2_byteAt (s.1 2 2) s) (fun v1 => bd (f2_isDigit v1) (fun v2 => if v2 = 0 then some (v1, s) else bd (f2_byteAt (s.1 2 2) s) (fun v3 => lt (if (((v1 * 10) + v3) - 48) < 100 then (((v1 * 10) + v3) - 48) else 100) (fun v4 => lt (sI s 2 2 ((s.1 2 2) + 1)) (fun s5 => L2_readNumber_2 n v4 s5))))) else some (v1, s)
def f2_readNumber  (s0 : SS) : Option (Int32 × SS) := bk2 (L2_readNumber_2 FU 0 s0) (fun v6 s7 => lt (sI s7 2 5 v6) (fun s8 => bd (f2_byteAt (s8.1 2 3) s8) (fun v9 => lt (fun (v12 : Int32) => if v12 = 0 then if v6 ≤ 99 then some (2, s8) else some (7, s8) else some (7, s8)) (fun j10 => lt (fun (_u : Unit) => j10 0) (fun j13 => if v9 = 48 then if ((s8.1 2 2) - (s8.1 2 3)) ≤ 1 then j13 () else j10 1 else j13 ())))))
set_option maxHeartbeats 4000000 in
set_option maxRecDepth 100000 in
theorem l2_readNumber_2 {G : GT} {K : KT} (C : Ctx G K cX2_readNumber RX2 3 1 23) {Ψ : Int32 → SS → Prop} (hx : ∀ (o1 : Int32) (so : SS), Ψ o1 so → V G K (wX G so) 62 [(0, .ref (aX G 2)), (1, .int o1)] []) : ∀ (n : Nat) (v1 : Int32) (s : SS), tp (L2_readNumber_2 n v1 s) (k2 Ψ) → V G K (wX G s) 2 [(0, .ref (aX G 2)), (1, .int v1)] [] := by
  intro n
  induction n with
  | zero => intro v1 s h; exact tp_no h
  | succ n ih =>
    intro v1 s
    rw [L2_readNumber_2]
    refine v_aload_n (pc := 2) C 0 rfl dX2_readNumber_2 ?_
    refine g2_at (pc := 3) C mw_51 dX2_readNumber_3 ?_
    refine v_aload_n (pc := 6) C 0 rfl dX2_readNumber_6 ?_
    refine g2_length (pc := 7) C mw_50 dX2_readNumber_7 ?_
    refine v_icmp_ge (pc := 10) C 62 dX2_readNumber_10 (by decide) ?_ ?_
    · refine v_aload_n (pc := 13) C 0 rfl dX2_readNumber_13 ?_
      refine v_aload_n (pc := 14) C 0 rfl dX2_readNumber_14 ?_
      refine g2_at (pc := 15) C mw_51 dX2_readNumber_15 ?_
      refine cIv1r (pc := 18) C (fun r h => m2_byteAt G K.2.1 (s.1 2 2) s r h) q_yX2_byteAt mw_177 rc_2 ⟨by decide, by decide⟩ (Nat.le_of_ble_eq_true rfl) dX2_readNumber_18 (fun v1 => ?_)
      refine cIs1r (pc := 21) C (fun r h => m2_isDigit G K.2.1 v1 _ r h) q_yX2_isDigit mw_181 ⟨by decide, by decide⟩ (Nat.le_of_ble_eq_true rfl) dX2_readNumber_21 (fun v2 => ?_)
      refine v_if_eq (pc := 24) C 62 dX2_readNumber_24 (by decide) ?_ ?_
      · exact tp_out (fun h => v_to [0, 1] (hx _ _) rfl h)
      · refine v_bipush (pc := 27) C 100 dX2_readNumber_27 (by decide) ?_
        refine v_iload_n (pc := 29) C 1 rfl dX2_readNumber_29 ?_
        refine v_bipush (pc := 30) C 10 dX2_readNumber_30 (by decide) ?_
        refine v_imul (pc := 32) C dX2_readNumber_32 ?_
        refine v_aload_n (pc := 33) C 0 rfl dX2_readNumber_33 ?_
        refine v_aload_n (pc := 34) C 0 rfl dX2_readNumber_34 ?_
        refine g2_at (pc := 35) C mw_51 dX2_readNumber_35 ?_
        refine cIv1r (pc := 38) C (fun r h => m2_byteAt G K.2.1 (s.1 2 2) s r h) q_yX2_byteAt mw_177 rc_2 ⟨by decide, by decide⟩ (Nat.le_of_ble_eq_true rfl) dX2_readNumber_38 (fun v3 => ?_)
        refine v_iadd (pc := 41) C dX2_readNumber_41 ?_
        refine v_bipush (pc := 42) C 48 dX2_readNumber_42 (by decide) ?_
        refine v_isub (pc := 44) C dX2_readNumber_44 ?_
        refine v_mmin (pc := 45) C mw_188 mw_189 mw_190 mw_191 (by decide) (Nat.le_of_ble_eq_true rfl) dX2_readNumber_45 ?_
        refine r_lti (fun v4 => ?_)
        refine v_istore_n (pc := 48) C dX2_readNumber_48 (by decide) (lv' := [(1, .int v4), (0, .ref (aX G 2))]) rfl ?_
        refine v_aload_n (pc := 49) C 1 rfl dX2_readNumber_49 ?_
        refine v_dup (pc := 50) C dX2_readNumber_50 rfl ?_
        refine g2_at (pc := 51) C mw_51 dX2_readNumber_51 ?_
        refine v_iconst (pc := 54) C 1 dX2_readNumber_54 (by decide) ?_
        refine v_iadd (pc := 55) C dX2_readNumber_55 ?_
        refine p2_at (pc := 56) C mw_51 dX2_readNumber_56 ?_
        refine r_ltx (fun s5 => ?_)
        refine v_goto (pc := 59) C 2 dX2_readNumber_59 (by decide) ?_
        exact v_to [1, 0] (ih _ _) rfl
    · exact tp_out (fun h => v_to [0, 1] (hx _ _) rfl h)
set_option maxHeartbeats 4000000 in
set_option maxRecDepth 100000 in
theorem m2_readNumber (G : GT) (l : Launch)   (s0 : SS) (r : Int32) (s1 : SS) (hf : f2_readNumber s0 = some (r, s1)) : MI G l yX2_readNumber cX2_readNumber 3 (some .int) 1 23 [.ref (aX G 2)] (wX G s0) r (wX G s1) := by
  refine MI.start (by decide +kernel) (Nat.le_of_ble_eq_true rfl) (fun K hl C hret => ?_)
  subst hl
  have C : Ctx G K cX2_readNumber RX2 3 1 23 := C
  change V G K (wX G s0) 0 [(0, .ref (aX G 2))] []
  refine (?_ : tp (f2_readNumber s0) (fun q => q = (r, s1)) → _) ⟨_, hf, rfl⟩
  rw [f2_readNumber]
  refine v_iconst (pc := 0) C 0 dX2_readNumber_0 (by decide) ?_
  refine v_istore_n (pc := 1) C dX2_readNumber_1 (by decide) (lv' := [(1, .int 0), (0, .ref (aX G 2))]) rfl ?_
  refine r_bk2 ?_
  refine v_to [1, 0] (l2_readNumber_2 C (fun v6 s7 => ?_) FU _ _) rfl
  refine v_aload_n (pc := 62) C 0 rfl dX2_readNumber_62 ?_
  refine v_iload_n (pc := 63) C 1 rfl dX2_readNumber_63 ?_
  refine p2_number (pc := 64) C mw_54 dX2_readNumber_64 ?_
  refine r_ltx (fun s8 => ?_)
  refine v_aload_n (pc := 67) C 0 rfl dX2_readNumber_67 ?_
  refine v_aload_n (pc := 68) C 0 rfl dX2_readNumber_68 ?_
  refine g2_start (pc := 69) C mw_52 dX2_readNumber_69 ?_
  refine cIv1r (pc := 72) C (fun r h => m2_byteAt G K.2.1 (s8.1 2 3) s8 r h) q_yX2_byteAt mw_177 rc_2 ⟨by decide, by decide⟩ (Nat.le_of_ble_eq_true rfl) dX2_readNumber_72 (fun v9 => ?_)
  refine v_bipush (pc := 75) C 48 dX2_readNumber_75 (by decide) ?_
  refine r_lJ (fun Φ0 j10 => ∀ (v12 : Int32), tp (j10 v12) Φ0 → V G K (wX G s8) 98 [(1, .int v6)] [.int v12]) (fun v12 => ?_) (fun j10 hj11 => ?_)
  · refine v_istore_n (pc := 98) C dX2_readNumber_98 (by decide) (lv' := [(2, .int v12), (1, .int v6)]) rfl ?_
    refine v_iload_n (pc := 99) C 0 rfl dX2_readNumber_99 ?_
    refine v_if_ne (pc := 100) C 109 dX2_readNumber_100 (by decide) ?_ ?_
    · refine v_iload_n (pc := 103) C 1 rfl dX2_readNumber_103 ?_
      refine v_bipush (pc := 104) C 99 dX2_readNumber_104 (by decide) ?_
      refine v_icmp_le (pc := 106) C 114 dX2_readNumber_106 (by decide) ?_ ?_
      · refine v_iconst (pc := 114) C 2 dX2_readNumber_114 (by decide) ?_
        exact tp_out (fun h => by cases h; exact hret _ _ _ _ ⟨rfl, rfl⟩ dX2_readNumber_115)
      · refine v_bipush (pc := 109) C 7 dX2_readNumber_109 (by decide) ?_
        refine v_goto (pc := 111) C 115 dX2_readNumber_111 (by decide) ?_
        exact tp_out (fun h => by cases h; exact hret _ _ _ _ ⟨rfl, rfl⟩ dX2_readNumber_115)
    · refine v_bipush (pc := 109) C 7 dX2_readNumber_109 (by decide) ?_
      refine v_goto (pc := 111) C 115 dX2_readNumber_111 (by decide) ?_
      exact tp_out (fun h => by cases h; exact hret _ _ _ _ ⟨rfl, rfl⟩ dX2_readNumber_115)
  refine r_lJ (fun Φ0 j13 => ∀ (_u : Unit), tp (j13 ()) Φ0 → V G K (wX G s8) 97 [(1, .int v6)] []) (fun _u => ?_) (fun j13 hj14 => ?_)
  · refine v_iconst (pc := 97) C 0 dX2_readNumber_97 (by decide) ?_
    exact v_to [0] (hj11 _) rfl
  refine v_icmp_ne (pc := 77) C 97 dX2_readNumber_77 (by decide) ?_ ?_
  · refine v_aload_n (pc := 80) C 0 rfl dX2_readNumber_80 ?_
    refine g2_at (pc := 81) C mw_51 dX2_readNumber_81 ?_
    refine v_aload_n (pc := 84) C 0 rfl dX2_readNumber_84 ?_
    refine g2_start (pc := 85) C mw_52 dX2_readNumber_85 ?_
    refine v_isub (pc := 88) C dX2_readNumber_88 ?_
    refine v_iconst (pc := 89) C 1 dX2_readNumber_89 (by decide) ?_
    refine v_icmp_le (pc := 90) C 97 dX2_readNumber_90 (by decide) ?_ ?_
    · exact v_to [1] (hj14 _) rfl
    · refine v_iconst (pc := 93) C 1 dX2_readNumber_93 (by decide) ?_
      refine v_goto (pc := 94) C 98 dX2_readNumber_94 (by decide) ?_
      exact v_to [1] (hj11 _) rfl
  · exact v_to [1] (hj14 _) rfl
def f2_isLetter (a0 : Int32) : Option Int32 := lt (fun (_u : Unit) => some 0) (fun j1 => if a0 < 97 then j1 () else if a0 ≤ 122 then some 1 else j1 ())
set_option maxHeartbeats 4000000 in
set_option maxRecDepth 100000 in
theorem m2_isLetter (G : GT) (l : Launch) (a0 : Int32)  (w : va_W) (r : Int32) (hf : f2_isLetter a0 = some r) : MI G l yX2_isLetter cX2_isLetter 1 (some .boolean) 0 0 [.int a0] w r w := by
  refine MI.startZ (by decide +kernel) (Nat.le_of_ble_eq_true rfl) (fun K hl C hret => ?_)
  subst hl
  have C : Ctx G K cX2_isLetter RX2 1 0 0 := C
  change V G K w 0 [(0, .int a0)] []
  refine (?_ : tp (f2_isLetter a0) (fun q => q = r) → _) ⟨_, hf, rfl⟩
  rw [f2_isLetter]
  refine v_iload_n (pc := 0) C 0 rfl dX2_isLetter_0 ?_
  refine v_bipush (pc := 1) C 97 dX2_isLetter_1 (by decide) ?_
  refine r_lJ (fun Φ0 j1 => ∀ (_u : Unit), tp (j1 ()) Φ0 → V G K w 16 [] []) (fun _u => ?_) (fun j1 hj2 => ?_)
  · refine v_iconst (pc := 16) C 0 dX2_isLetter_16 (by decide) ?_
    exact tp_out (fun h => by cases h; exact hret _ _ _ _ ⟨rfl, rfl⟩ (Or.inl rfl) dX2_isLetter_17)
  refine v_icmp_lt (pc := 3) C 16 dX2_isLetter_3 (by decide) ?_ ?_
  · exact v_to [] (hj2 _) rfl
  · refine v_iload_n (pc := 6) C 0 rfl dX2_isLetter_6 ?_
    refine v_bipush (pc := 7) C 122 dX2_isLetter_7 (by decide) ?_
    refine v_icmp_gt (pc := 9) C 16 dX2_isLetter_9 (by decide) ?_ ?_
    · refine v_iconst (pc := 12) C 1 dX2_isLetter_12 (by decide) ?_
      refine v_goto (pc := 13) C 17 dX2_isLetter_13 (by decide) ?_
      exact tp_out (fun h => by cases h; exact hret _ _ _ _ ⟨rfl, rfl⟩ (Or.inr rfl) dX2_isLetter_17)
    · exact v_to [] (hj2 _) rfl
def L2_says_20 (c1 : Nat) (s0 : SS) : Nat → Int32 → Option ((Unit) ⊕ Int32)
  | 0, _ => none
  | n + 1, v2 => if v2 < (nI (sLen.getD c1 0)) then bd (f2_byteAt ((s0.1 2 3) + v2) s0) (fun v1 => gd (inb v2 (sLen.getD c1 0)) (if v1 = ((sByt.getD c1 []).getD (Int32.toNatClampNeg v2) 0) then lt (v2 + 1) (fun v2 => L2_says_20 c1 s0 n v2) else some (.inr 0))) else some (.inl ())
def f2_says (t1 : Nat) (s0 : SS) : Option Int32 := if ((s0.1 2 2) - (s0.1 2 3)) = (nI (sLen.getD t1 0)) then bs1 (L2_says_20 t1 s0 FU 0) (fun _u => some 1) (fun r => some r) else some 0
set_option maxHeartbeats 4000000 in
set_option maxRecDepth 100000 in
theorem l2_says_20 {G : GT} {K : KT} (C : Ctx G K cX2_says RX2 3 4 141) (c1 : Nat) (s0 : SS) (hc1 : c1 < 4) {Ψ : Unit → Prop} (hx : ∀ (u0 : Unit), Ψ u0 → V G K (wX G s0) 54 [] []) {Φr : Int32 → Prop} (hr : ∀ (r : Int32), Φr r → (r = 0 ∨ r = 1) → ∀ (pc : Nat) (lv : List (Nat × Value)), decode cX2_says pc = .ok (.ireturn, 1) → V G K (wX G s0) pc lv [.int r]) : ∀ (n : Nat) (v2 : Int32), tp (L2_says_20 c1 s0 n v2) (uS (k1 Ψ) Φr) → V G K (wX G s0) 20 [(0, .ref (aX G 2)), (1, .ref (gK G c1)), (2, .int v2)] [] := by
  intro n
  induction n with
  | zero => intro v2 h; exact tp_no h
  | succ n ih =>
    intro v2
    rw [L2_says_20]
    refine v_iload_n (pc := 20) C 2 rfl dX2_says_20 ?_
    refine v_aload_n (pc := 21) C 1 rfl dX2_says_21 ?_
    refine v_slen (pc := 22) C c1 hc1 mw_203 ⟨by decide, by decide⟩ (Nat.le_of_ble_eq_true rfl) dX2_says_22 ?_
    refine v_icmp_ge (pc := 25) C 54 dX2_says_25 (by decide) ?_ ?_
    · refine v_aload_n (pc := 28) C 0 rfl dX2_says_28 ?_
      refine v_aload_n (pc := 29) C 0 rfl dX2_says_29 ?_
      refine g2_start (pc := 30) C mw_52 dX2_says_30 ?_
      refine v_iload_n (pc := 33) C 2 rfl dX2_says_33 ?_
      refine v_iadd (pc := 34) C dX2_says_34 ?_
      refine cIv1r (pc := 35) C (fun r h => m2_byteAt G K.2.1 ((s0.1 2 3) + v2) s0 r h) q_yX2_byteAt mw_177 rc_2 ⟨by decide, by decide⟩ (Nat.le_of_ble_eq_true rfl) dX2_says_35 (fun v1 => ?_)
      refine v_aload_n (pc := 38) C 1 rfl dX2_says_38 ?_
      refine v_iload_n (pc := 39) C 2 rfl dX2_says_39 ?_
      refine v_sat (pc := 40) C c1 hc1 mw_215 ⟨by decide, by decide⟩ (Nat.le_of_ble_eq_true rfl) dX2_says_40 ?_
      refine v_icmp_eq (pc := 43) C 48 dX2_says_43 (by decide) ?_ ?_
      · refine v_iincL (pc := 48) C 1 2 dX2_says_48 rfl (by decide) (by decide) (lv0 := [(0, .ref (aX G 2)), (1, .ref (gK G c1))]) rfl (fun v2 => ?_)
        refine v_goto (pc := 51) C 20 dX2_says_51 (by decide) ?_
        exact v_to [1, 2, 0] (ih _) rfl
      · refine v_iconst (pc := 46) C 0 dX2_says_46 (by decide) ?_
        exact tp_out (fun h => hr _ h (Or.inl rfl) _ _ dX2_says_47)
    · exact tp_out (fun h => v_to [] (hx _) rfl h)
set_option maxHeartbeats 4000000 in
set_option maxRecDepth 100000 in
theorem m2_says (G : GT) (l : Launch) (t1 : Nat) (ht1 : t1 < 4) (s0 : SS) (r : Int32) (hf : f2_says t1 s0 = some r) : MI G l yX2_says cX2_says 3 (some .boolean) 4 141 [.ref (aX G 2), .ref (gK G t1)] (wX G s0) r (wX G s0) := by
  refine MI.startZ (by decide +kernel) (Nat.le_of_ble_eq_true rfl) (fun K hl C hret => ?_)
  subst hl
  have C : Ctx G K cX2_says RX2 3 4 141 := C
  change V G K (wX G s0) 0 [(0, .ref (aX G 2)), (1, .ref (gK G t1))] []
  refine (?_ : tp (f2_says t1 s0) (fun q => q = r) → _) ⟨_, hf, rfl⟩
  rw [f2_says]
  refine v_aload_n (pc := 0) C 0 rfl dX2_says_0 ?_
  refine g2_at (pc := 1) C mw_51 dX2_says_1 ?_
  refine v_aload_n (pc := 4) C 0 rfl dX2_says_4 ?_
  refine g2_start (pc := 5) C mw_52 dX2_says_5 ?_
  refine v_isub (pc := 8) C dX2_says_8 ?_
  refine v_aload_n (pc := 9) C 1 rfl dX2_says_9 ?_
  refine v_slen (pc := 10) C t1 ht1 mw_203 ⟨by decide, by decide⟩ (Nat.le_of_ble_eq_true rfl) dX2_says_10 ?_
  refine v_icmp_eq (pc := 13) C 18 dX2_says_13 (by decide) ?_ ?_
  · refine v_iconst (pc := 18) C 0 dX2_says_18 (by decide) ?_
    refine v_istore_n (pc := 19) C dX2_says_19 (by decide) (lv' := [(2, .int 0), (0, .ref (aX G 2)), (1, .ref (gK G t1))]) rfl ?_
    refine r_bs1 ?_
    refine v_to [1, 2, 0] (l2_says_20 C t1 s0 ht1 (fun _u => ?_) (fun r9 h hz pc lv d => tp_out (fun h => by cases h; exact hret _ _ _ _ ⟨rfl, rfl⟩ hz d) h) FU _) rfl
    refine v_iconst (pc := 54) C 1 dX2_says_54 (by decide) ?_
    exact tp_out (fun h => by cases h; exact hret _ _ _ _ ⟨rfl, rfl⟩ (Or.inr rfl) dX2_says_55)
  · refine v_iconst (pc := 16) C 0 dX2_says_16 (by decide) ?_
    exact tp_out (fun h => by cases h; exact hret _ _ _ _ ⟨rfl, rfl⟩ (Or.inl rfl) dX2_says_17)
def L2_readWord_0 : Nat → SS → Option (SS)
  | 0, _ => none
  | n + 1, s => if (s.1 2 2) < (s.1 2 1) then bd (f2_byteAt (s.1 2 2) s) (fun v10 => bd (f2_isLetter v10) (fun v11 => if v11 = 0 then some s else lt (sI s 2 2 ((s.1 2 2) + 1)) (fun s12 => L2_readWord_0 n s12))) else some s
def f2_readWord  (s0 : SS) : Option (Int32 × SS) := lt (fun (_u : Unit) => bd (f2_says 0 s0) (fun v3 => if v3 = 0 then bd (f2_says 1 s0) (fun v4 => if v4 = 0 then bd (f2_says 2 s0) (fun v5 => if v5 = 0 then bd (f2_says 3 s0) (fun v6 => if v6 = 0 then some (7, s0) else some (6, s0)) else some (5, s0)) else some (4, s0)) else some (3, s0))) (fun j1 => if (s0.1 2 2) < (s0.1 2 1) then bd (f2_byteAt (s0.1 2 2) s0) (fun v7 => bd (f2_isLetter v7) (fun v8 => if v8 = 0 then j1 () else lt (sI s0 2 2 ((s0.1 2 2) + 1)) (fun s9 => bk1 (L2_readWord_0 FU s9) (fun s13 => j1 ())))) else j1 ())
set_option maxHeartbeats 4000000 in
set_option maxRecDepth 100000 in
theorem l2_readWord_0 {G : GT} {K : KT} (C : Ctx G K cX2_readWord RX2 1 5 163) {Ψ : SS → Prop} (hx : ∀ (so : SS), Ψ so → V G K (wX G so) 38 [(0, .ref (aX G 2))] []) : ∀ (n : Nat) (s : SS), tp (L2_readWord_0 n s) (k1 Ψ) → V G K (wX G s) 0 [(0, .ref (aX G 2))] [] := by
  intro n
  induction n with
  | zero => intro s h; exact tp_no h
  | succ n ih =>
    intro s
    rw [L2_readWord_0]
    refine v_aload_n (pc := 0) C 0 rfl dX2_readWord_0 ?_
    refine g2_at (pc := 1) C mw_51 dX2_readWord_1 ?_
    refine v_aload_n (pc := 4) C 0 rfl dX2_readWord_4 ?_
    refine g2_length (pc := 5) C mw_50 dX2_readWord_5 ?_
    refine v_icmp_ge (pc := 8) C 38 dX2_readWord_8 (by decide) ?_ ?_
    · refine v_aload_n (pc := 11) C 0 rfl dX2_readWord_11 ?_
      refine v_aload_n (pc := 12) C 0 rfl dX2_readWord_12 ?_
      refine g2_at (pc := 13) C mw_51 dX2_readWord_13 ?_
      refine cIv1r (pc := 16) C (fun r h => m2_byteAt G K.2.1 (s.1 2 2) s r h) q_yX2_byteAt mw_177 rc_2 ⟨by decide, by decide⟩ (Nat.le_of_ble_eq_true rfl) dX2_readWord_16 (fun v10 => ?_)
      refine cIs1r (pc := 19) C (fun r h => m2_isLetter G K.2.1 v10 _ r h) q_yX2_isLetter mw_192 ⟨by decide, by decide⟩ (Nat.le_of_ble_eq_true rfl) dX2_readWord_19 (fun v11 => ?_)
      refine v_if_eq (pc := 22) C 38 dX2_readWord_22 (by decide) ?_ ?_
      · exact tp_out (fun h => v_to [0] (hx _) rfl h)
      · refine v_aload_n (pc := 25) C 0 rfl dX2_readWord_25 ?_
        refine v_dup (pc := 26) C dX2_readWord_26 rfl ?_
        refine g2_at (pc := 27) C mw_51 dX2_readWord_27 ?_
        refine v_iconst (pc := 30) C 1 dX2_readWord_30 (by decide) ?_
        refine v_iadd (pc := 31) C dX2_readWord_31 ?_
        refine p2_at (pc := 32) C mw_51 dX2_readWord_32 ?_
        refine r_ltx (fun s12 => ?_)
        refine v_goto (pc := 35) C 0 dX2_readWord_35 (by decide) ?_
        exact v_to [0] (ih _) rfl
    · exact tp_out (fun h => v_to [0] (hx _) rfl h)
set_option maxHeartbeats 4000000 in
set_option maxRecDepth 100000 in
theorem m2_readWord (G : GT) (l : Launch)   (s0 : SS) (r : Int32) (s1 : SS) (hf : f2_readWord s0 = some (r, s1)) : MI G l yX2_readWord cX2_readWord 1 (some .int) 5 163 [.ref (aX G 2)] (wX G s0) r (wX G s1) := by
  refine MI.start (by decide +kernel) (Nat.le_of_ble_eq_true rfl) (fun K hl C hret => ?_)
  subst hl
  have C : Ctx G K cX2_readWord RX2 1 5 163 := C
  change V G K (wX G s0) 0 [(0, .ref (aX G 2))] []
  refine (?_ : tp (f2_readWord s0) (fun q => q = (r, s1)) → _) ⟨_, hf, rfl⟩
  rw [f2_readWord]
  refine v_aload_n (pc := 0) C 0 rfl dX2_readWord_0 ?_
  refine g2_at (pc := 1) C mw_51 dX2_readWord_1 ?_
  refine v_aload_n (pc := 4) C 0 rfl dX2_readWord_4 ?_
  refine g2_length (pc := 5) C mw_50 dX2_readWord_5 ?_
  refine r_lJ (fun Φ0 j1 => ∀ (_u : Unit), tp (j1 ()) Φ0 → V G K (wX G s0) 38 [(0, .ref (aX G 2))] []) (fun _u => ?_) (fun j1 hj2 => ?_)
  · refine v_aload_n (pc := 38) C 0 rfl dX2_readWord_38 ?_
    refine v_ldcS (pc := 39) C 0 (by decide) dX2_readWord_39 ?_
    refine cIv1r (pc := 41) C (fun r h => m2_says G K.2.1 0 (by decide) s0 r h) q_yX2_says mw_199 rc_2 ⟨by decide, by decide⟩ (Nat.le_of_ble_eq_true rfl) dX2_readWord_41 (fun v3 => ?_)
    refine v_if_eq (pc := 44) C 49 dX2_readWord_44 (by decide) ?_ ?_
    · refine v_aload_n (pc := 49) C 0 rfl dX2_readWord_49 ?_
      refine v_ldcS (pc := 50) C 1 (by decide) dX2_readWord_50 ?_
      refine cIv1r (pc := 52) C (fun r h => m2_says G K.2.1 1 (by decide) s0 r h) q_yX2_says mw_199 rc_2 ⟨by decide, by decide⟩ (Nat.le_of_ble_eq_true rfl) dX2_readWord_52 (fun v4 => ?_)
      refine v_if_eq (pc := 55) C 60 dX2_readWord_55 (by decide) ?_ ?_
      · refine v_aload_n (pc := 60) C 0 rfl dX2_readWord_60 ?_
        refine v_ldcS (pc := 61) C 2 (by decide) dX2_readWord_61 ?_
        refine cIv1r (pc := 63) C (fun r h => m2_says G K.2.1 2 (by decide) s0 r h) q_yX2_says mw_199 rc_2 ⟨by decide, by decide⟩ (Nat.le_of_ble_eq_true rfl) dX2_readWord_63 (fun v5 => ?_)
        refine v_if_eq (pc := 66) C 71 dX2_readWord_66 (by decide) ?_ ?_
        · refine v_aload_n (pc := 71) C 0 rfl dX2_readWord_71 ?_
          refine v_ldcS (pc := 72) C 3 (by decide) dX2_readWord_72 ?_
          refine cIv1r (pc := 74) C (fun r h => m2_says G K.2.1 3 (by decide) s0 r h) q_yX2_says mw_199 rc_2 ⟨by decide, by decide⟩ (Nat.le_of_ble_eq_true rfl) dX2_readWord_74 (fun v6 => ?_)
          refine v_if_eq (pc := 77) C 85 dX2_readWord_77 (by decide) ?_ ?_
          · refine v_bipush (pc := 85) C 7 dX2_readWord_85 (by decide) ?_
            exact tp_out (fun h => by cases h; exact hret _ _ _ _ ⟨rfl, rfl⟩ dX2_readWord_87)
          · refine v_bipush (pc := 80) C 6 dX2_readWord_80 (by decide) ?_
            refine v_goto (pc := 82) C 87 dX2_readWord_82 (by decide) ?_
            exact tp_out (fun h => by cases h; exact hret _ _ _ _ ⟨rfl, rfl⟩ dX2_readWord_87)
        · refine v_iconst (pc := 69) C 5 dX2_readWord_69 (by decide) ?_
          exact tp_out (fun h => by cases h; exact hret _ _ _ _ ⟨rfl, rfl⟩ dX2_readWord_70)
      · refine v_iconst (pc := 58) C 4 dX2_readWord_58 (by decide) ?_
        exact tp_out (fun h => by cases h; exact hret _ _ _ _ ⟨rfl, rfl⟩ dX2_readWord_59)
    · refine v_iconst (pc := 47) C 3 dX2_readWord_47 (by decide) ?_
      exact tp_out (fun h => by cases h; exact hret _ _ _ _ ⟨rfl, rfl⟩ dX2_readWord_48)
  refine v_icmp_ge (pc := 8) C 38 dX2_readWord_8 (by decide) ?_ ?_
  · refine v_aload_n (pc := 11) C 0 rfl dX2_readWord_11 ?_
    refine v_aload_n (pc := 12) C 0 rfl dX2_readWord_12 ?_
    refine g2_at (pc := 13) C mw_51 dX2_readWord_13 ?_
    refine cIv1r (pc := 16) C (fun r h => m2_byteAt G K.2.1 (s0.1 2 2) s0 r h) q_yX2_byteAt mw_177 rc_2 ⟨by decide, by decide⟩ (Nat.le_of_ble_eq_true rfl) dX2_readWord_16 (fun v7 => ?_)
    refine cIs1r (pc := 19) C (fun r h => m2_isLetter G K.2.1 v7 _ r h) q_yX2_isLetter mw_192 ⟨by decide, by decide⟩ (Nat.le_of_ble_eq_true rfl) dX2_readWord_19 (fun v8 => ?_)
    refine v_if_eq (pc := 22) C 38 dX2_readWord_22 (by decide) ?_ ?_
    · exact v_to [0] (hj2 _) rfl
    · refine v_aload_n (pc := 25) C 0 rfl dX2_readWord_25 ?_
      refine v_dup (pc := 26) C dX2_readWord_26 rfl ?_
      refine g2_at (pc := 27) C mw_51 dX2_readWord_27 ?_
      refine v_iconst (pc := 30) C 1 dX2_readWord_30 (by decide) ?_
      refine v_iadd (pc := 31) C dX2_readWord_31 ?_
      refine p2_at (pc := 32) C mw_51 dX2_readWord_32 ?_
      refine r_ltx (fun s9 => ?_)
      refine v_goto (pc := 35) C 0 dX2_readWord_35 (by decide) ?_
      refine r_bk1 ?_
      refine v_to [0] (l2_readWord_0 C (fun s13 => ?_) FU _) rfl
      exact v_to [0] (hj2 _) rfl
  · exact v_to [0] (hj2 _) rfl
def L2_advance_0 : Nat → SS → Option (SS)
  | 0, _ => none
  | n + 1, s => if (s.1 2 2) < (s.1 2 1) then bd (f2_byteAt (s.1 2 2) s) (fun v19 => if v19 = 32 then lt (sI s 2 2 ((s.1 2 2) + 1)) (fun s20 => L2_advance_0 n s20) else some s) else some s
def f2_advance  (s0 : SS) : Option SS := lt (fun (_u : Unit) => lt (sI s0 2 3 (s0.1 2 2)) (fun s3 => bd (f2_byteAt (s3.1 2 2) s3) (fun v4 => if v4 < 0 then lt (sI s3 2 4 0) (fun s5 => some s5) else if v4 = 59 then lt (sI s3 2 2 ((s3.1 2 2) + 1)) (fun s6 => lt (sI s6 2 4 1) (fun s7 => some s7)) else bd (f2_isDigit v4) (fun v8 => if v8 = 0 then bd (f2_isLetter v4) (fun v9 => if v9 = 0 then lt (sI s3 2 4 7) (fun s10 => some s10) else bk2 (f2_readWord s3) (fun v11 s12 => lt (sI s12 2 4 v11) (fun s13 => some s13))) else bk2 (f2_readNumber s3) (fun v14 s15 => lt (sI s15 2 4 v14) (fun s16 => some s16)))))) (fun j1 => if (s0.1 2 2) < (s0.1 2 1) then bd (f2_byteAt (s0.1 2 2) s0) (fun v17 => if v17 = 32 then lt (sI s0 2 2 ((s0.1 2 2) + 1)) (fun s18 => bk1 (L2_advance_0 FU s18) (fun s21 => j1 ())) else j1 ()) else j1 ())
set_option maxHeartbeats 4000000 in
set_option maxRecDepth 100000 in
theorem l2_advance_0 {G : GT} {K : KT} (C : Ctx G K cX2_advance RX2 2 6 183) {Ψ : SS → Prop} (hx : ∀ (so : SS), Ψ so → V G K (wX G so) 37 [(0, .ref (aX G 2))] []) : ∀ (n : Nat) (s : SS), tp (L2_advance_0 n s) (k1 Ψ) → V G K (wX G s) 0 [(0, .ref (aX G 2))] [] := by
  intro n
  induction n with
  | zero => intro s h; exact tp_no h
  | succ n ih =>
    intro s
    rw [L2_advance_0]
    refine v_aload_n (pc := 0) C 0 rfl dX2_advance_0 ?_
    refine g2_at (pc := 1) C mw_51 dX2_advance_1 ?_
    refine v_aload_n (pc := 4) C 0 rfl dX2_advance_4 ?_
    refine g2_length (pc := 5) C mw_50 dX2_advance_5 ?_
    refine v_icmp_ge (pc := 8) C 37 dX2_advance_8 (by decide) ?_ ?_
    · refine v_aload_n (pc := 11) C 0 rfl dX2_advance_11 ?_
      refine v_aload_n (pc := 12) C 0 rfl dX2_advance_12 ?_
      refine g2_at (pc := 13) C mw_51 dX2_advance_13 ?_
      refine cIv1r (pc := 16) C (fun r h => m2_byteAt G K.2.1 (s.1 2 2) s r h) q_yX2_byteAt mw_177 rc_2 ⟨by decide, by decide⟩ (Nat.le_of_ble_eq_true rfl) dX2_advance_16 (fun v19 => ?_)
      refine v_bipush (pc := 19) C 32 dX2_advance_19 (by decide) ?_
      refine v_icmp_ne (pc := 21) C 37 dX2_advance_21 (by decide) ?_ ?_
      · refine v_aload_n (pc := 24) C 0 rfl dX2_advance_24 ?_
        refine v_dup (pc := 25) C dX2_advance_25 rfl ?_
        refine g2_at (pc := 26) C mw_51 dX2_advance_26 ?_
        refine v_iconst (pc := 29) C 1 dX2_advance_29 (by decide) ?_
        refine v_iadd (pc := 30) C dX2_advance_30 ?_
        refine p2_at (pc := 31) C mw_51 dX2_advance_31 ?_
        refine r_ltx (fun s20 => ?_)
        refine v_goto (pc := 34) C 0 dX2_advance_34 (by decide) ?_
        exact v_to [0] (ih _) rfl
      · exact tp_out (fun h => v_to [0] (hx _) rfl h)
    · exact tp_out (fun h => v_to [0] (hx _) rfl h)
set_option maxHeartbeats 4000000 in
set_option maxRecDepth 100000 in
theorem m2_advance (G : GT) (l : Launch)   (s0 : SS) (s1 : SS) (hf : f2_advance s0 = some s1) : MV G l yX2_advance cX2_advance 2 none 6 183 [.ref (aX G 2)] (wX G s0) (wX G s1) := by
  refine MV.start (by decide +kernel) (Nat.le_of_ble_eq_true rfl) (fun K hl C hret => ?_)
  subst hl
  have C : Ctx G K cX2_advance RX2 2 6 183 := C
  change V G K (wX G s0) 0 [(0, .ref (aX G 2))] []
  refine (?_ : tp (f2_advance s0) (fun q => q = s1) → _) ⟨_, hf, rfl⟩
  rw [f2_advance]
  refine v_aload_n (pc := 0) C 0 rfl dX2_advance_0 ?_
  refine g2_at (pc := 1) C mw_51 dX2_advance_1 ?_
  refine v_aload_n (pc := 4) C 0 rfl dX2_advance_4 ?_
  refine g2_length (pc := 5) C mw_50 dX2_advance_5 ?_
  refine r_lJ (fun Φ0 j1 => ∀ (_u : Unit), tp (j1 ()) Φ0 → V G K (wX G s0) 37 [(0, .ref (aX G 2))] []) (fun _u => ?_) (fun j1 hj2 => ?_)
  · refine v_aload_n (pc := 37) C 0 rfl dX2_advance_37 ?_
    refine v_aload_n (pc := 38) C 0 rfl dX2_advance_38 ?_
    refine g2_at (pc := 39) C mw_51 dX2_advance_39 ?_
    refine p2_start (pc := 42) C mw_52 dX2_advance_42 ?_
    refine r_ltx (fun s3 => ?_)
    refine v_aload_n (pc := 45) C 0 rfl dX2_advance_45 ?_
    refine v_aload_n (pc := 46) C 0 rfl dX2_advance_46 ?_
    refine g2_at (pc := 47) C mw_51 dX2_advance_47 ?_
    refine cIv1r (pc := 50) C (fun r h => m2_byteAt G K.2.1 (s3.1 2 2) s3 r h) q_yX2_byteAt mw_177 rc_2 ⟨by decide, by decide⟩ (Nat.le_of_ble_eq_true rfl) dX2_advance_50 (fun v4 => ?_)
    refine v_istore_n (pc := 53) C dX2_advance_53 (by decide) (lv' := [(1, .int v4), (0, .ref (aX G 2))]) rfl ?_
    refine v_iload_n (pc := 54) C 0 rfl dX2_advance_54 ?_
    refine v_if_ge (pc := 55) C 66 dX2_advance_55 (by decide) ?_ ?_
    · refine v_aload_n (pc := 58) C 1 rfl dX2_advance_58 ?_
      refine v_iconst (pc := 59) C 0 dX2_advance_59 (by decide) ?_
      refine p2_token (pc := 60) C mw_53 dX2_advance_60 ?_
      refine r_ltx (fun s5 => ?_)
      refine v_goto (pc := 63) C 132 dX2_advance_63 (by decide) ?_
      exact tp_out (fun h => by cases h; exact hret _ _ _ rfl dX2_advance_132)
    · refine v_iload_n (pc := 66) C 0 rfl dX2_advance_66 ?_
      refine v_bipush (pc := 67) C 59 dX2_advance_67 (by decide) ?_
      refine v_icmp_ne (pc := 69) C 90 dX2_advance_69 (by decide) ?_ ?_
      · refine v_aload_n (pc := 72) C 1 rfl dX2_advance_72 ?_
        refine v_dup (pc := 73) C dX2_advance_73 rfl ?_
        refine g2_at (pc := 74) C mw_51 dX2_advance_74 ?_
        refine v_iconst (pc := 77) C 1 dX2_advance_77 (by decide) ?_
        refine v_iadd (pc := 78) C dX2_advance_78 ?_
        refine p2_at (pc := 79) C mw_51 dX2_advance_79 ?_
        refine r_ltx (fun s6 => ?_)
        refine v_aload_n (pc := 82) C 1 rfl dX2_advance_82 ?_
        refine v_iconst (pc := 83) C 1 dX2_advance_83 (by decide) ?_
        refine p2_token (pc := 84) C mw_53 dX2_advance_84 ?_
        refine r_ltx (fun s7 => ?_)
        refine v_goto (pc := 87) C 132 dX2_advance_87 (by decide) ?_
        exact tp_out (fun h => by cases h; exact hret _ _ _ rfl dX2_advance_132)
      · refine v_iload_n (pc := 90) C 0 rfl dX2_advance_90 ?_
        refine cIs1r (pc := 91) C (fun r h => m2_isDigit G K.2.1 v4 _ r h) q_yX2_isDigit mw_181 ⟨by decide, by decide⟩ (Nat.le_of_ble_eq_true rfl) dX2_advance_91 (fun v8 => ?_)
        refine v_if_eq (pc := 94) C 108 dX2_advance_94 (by decide) ?_ ?_
        · refine v_iload_n (pc := 108) C 0 rfl dX2_advance_108 ?_
          refine cIs1r (pc := 109) C (fun r h => m2_isLetter G K.2.1 v4 _ r h) q_yX2_isLetter mw_192 ⟨by decide, by decide⟩ (Nat.le_of_ble_eq_true rfl) dX2_advance_109 (fun v9 => ?_)
          refine v_if_eq (pc := 112) C 126 dX2_advance_112 (by decide) ?_ ?_
          · refine v_aload_n (pc := 126) C 1 rfl dX2_advance_126 ?_
            refine v_bipush (pc := 127) C 7 dX2_advance_127 (by decide) ?_
            refine p2_token (pc := 129) C mw_53 dX2_advance_129 ?_
            refine r_ltx (fun s10 => ?_)
            exact tp_out (fun h => by cases h; exact hret _ _ _ rfl dX2_advance_132)
          · refine v_aload_n (pc := 115) C 1 rfl dX2_advance_115 ?_
            refine v_aload_n (pc := 116) C 1 rfl dX2_advance_116 ?_
            refine cIv0w (pc := 117) C (W2 := wX G) (fun r s h => m2_readWord G K.2.1 s3 r s h) q_yX2_readWord mw_195 rc_2 ⟨by decide, by decide⟩ (Nat.le_of_ble_eq_true rfl) dX2_advance_117 (fun v11 s12 => ?_)
            refine p2_token (pc := 120) C mw_53 dX2_advance_120 ?_
            refine r_ltx (fun s13 => ?_)
            refine v_goto (pc := 123) C 132 dX2_advance_123 (by decide) ?_
            exact tp_out (fun h => by cases h; exact hret _ _ _ rfl dX2_advance_132)
        · refine v_aload_n (pc := 97) C 1 rfl dX2_advance_97 ?_
          refine v_aload_n (pc := 98) C 1 rfl dX2_advance_98 ?_
          refine cIv0w (pc := 99) C (W2 := wX G) (fun r s h => m2_readNumber G K.2.1 s3 r s h) q_yX2_readNumber mw_184 rc_2 ⟨by decide, by decide⟩ (Nat.le_of_ble_eq_true rfl) dX2_advance_99 (fun v14 s15 => ?_)
          refine p2_token (pc := 102) C mw_53 dX2_advance_102 ?_
          refine r_ltx (fun s16 => ?_)
          refine v_goto (pc := 105) C 132 dX2_advance_105 (by decide) ?_
          exact tp_out (fun h => by cases h; exact hret _ _ _ rfl dX2_advance_132)
  refine v_icmp_ge (pc := 8) C 37 dX2_advance_8 (by decide) ?_ ?_
  · refine v_aload_n (pc := 11) C 0 rfl dX2_advance_11 ?_
    refine v_aload_n (pc := 12) C 0 rfl dX2_advance_12 ?_
    refine g2_at (pc := 13) C mw_51 dX2_advance_13 ?_
    refine cIv1r (pc := 16) C (fun r h => m2_byteAt G K.2.1 (s0.1 2 2) s0 r h) q_yX2_byteAt mw_177 rc_2 ⟨by decide, by decide⟩ (Nat.le_of_ble_eq_true rfl) dX2_advance_16 (fun v17 => ?_)
    refine v_bipush (pc := 19) C 32 dX2_advance_19 (by decide) ?_
    refine v_icmp_ne (pc := 21) C 37 dX2_advance_21 (by decide) ?_ ?_
    · refine v_aload_n (pc := 24) C 0 rfl dX2_advance_24 ?_
      refine v_dup (pc := 25) C dX2_advance_25 rfl ?_
      refine g2_at (pc := 26) C mw_51 dX2_advance_26 ?_
      refine v_iconst (pc := 29) C 1 dX2_advance_29 (by decide) ?_
      refine v_iadd (pc := 30) C dX2_advance_30 ?_
      refine p2_at (pc := 31) C mw_51 dX2_advance_31 ?_
      refine r_ltx (fun s18 => ?_)
      refine v_goto (pc := 34) C 0 dX2_advance_34 (by decide) ?_
      refine r_bk1 ?_
      refine v_to [0] (l2_advance_0 C (fun s21 => ?_) FU _) rfl
      exact v_to [0] (hj2 _) rfl
    · exact v_to [0] (hj2 _) rfl
  · exact v_to [0] (hj2 _) rfl
def L3_forget_2 : Nat → Int32 → SS → Option (SS)
  | 0, _, _ => none
  | n + 1, v1, s => if v1 < 13 then gd (inb v1 13) (lt (sI s 5 (Int32.toNatClampNeg v1) 0) (fun s1 => gd (inb v1 13) (lt (sI s1 6 (Int32.toNatClampNeg v1) 0) (fun s2 => lt (v1 + 1) (fun v3 => L3_forget_2 n v3 s2))))) else some s
def f3_forget  (s0 : SS) : Option SS := bk1 (L3_forget_2 FU 0 s0) (fun s4 => some s4)
set_option maxHeartbeats 4000000 in
set_option maxRecDepth 100000 in
theorem l3_forget_2 {G : GT} {K : KT} (C : Ctx G K cX3_forget RX3 2 0 0) {Ψ : SS → Prop} (hx : ∀ (so : SS), Ψ so → V G K (wX G so) 28 [] []) : ∀ (n : Nat) (v1 : Int32) (s : SS), tp (L3_forget_2 n v1 s) (k1 Ψ) → V G K (wX G s) 2 [(0, .ref (aX G 4)), (1, .int v1)] [] := by
  intro n
  induction n with
  | zero => intro v1 s h; exact tp_no h
  | succ n ih =>
    intro v1 s
    rw [L3_forget_2]
    refine v_iload_n (pc := 2) C 1 rfl dX3_forget_2 ?_
    refine v_bipush (pc := 3) C 13 dX3_forget_3 (by decide) ?_
    refine v_icmp_ge (pc := 5) C 28 dX3_forget_5 (by decide) ?_ ?_
    · refine v_aload_n (pc := 8) C 0 rfl dX3_forget_8 ?_
      refine g3_next (pc := 9) C mw_58 dX3_forget_9 ?_
      refine v_iload_n (pc := 12) C 1 rfl dX3_forget_12 ?_
      refine v_iconst (pc := 13) C 0 dX3_forget_13 (by decide) ?_
      refine v_iast (pc := 14) C _ ax_5 (as_5 _ _) dX3_forget_14 ?_
      refine r_ltx (fun s1 => ?_)
      refine v_aload_n (pc := 15) C 0 rfl dX3_forget_15 ?_
      refine g3_tenths (pc := 16) C mw_59 dX3_forget_16 ?_
      refine v_iload_n (pc := 19) C 1 rfl dX3_forget_19 ?_
      refine v_iconst (pc := 20) C 0 dX3_forget_20 (by decide) ?_
      refine v_iast (pc := 21) C _ ax_6 (as_6 _ _) dX3_forget_21 ?_
      refine r_ltx (fun s2 => ?_)
      refine v_iincL (pc := 22) C 1 1 dX3_forget_22 rfl (by decide) (by decide) (lv0 := [(0, .ref (aX G 4))]) rfl (fun v3 => ?_)
      refine v_goto (pc := 25) C 2 dX3_forget_25 (by decide) ?_
      exact v_to [1, 0] (ih _ _) rfl
    · exact tp_out (fun h => v_to [] (hx _) rfl h)
set_option maxHeartbeats 4000000 in
set_option maxRecDepth 100000 in
theorem m3_forget (G : GT) (l : Launch)   (s0 : SS) (s1 : SS) (hf : f3_forget s0 = some s1) : MV G l yX3_forget cX3_forget 2 none 0 0 [.ref (aX G 4)] (wX G s0) (wX G s1) := by
  refine MV.start (by decide +kernel) (Nat.le_of_ble_eq_true rfl) (fun K hl C hret => ?_)
  subst hl
  have C : Ctx G K cX3_forget RX3 2 0 0 := C
  change V G K (wX G s0) 0 [(0, .ref (aX G 4))] []
  refine (?_ : tp (f3_forget s0) (fun q => q = s1) → _) ⟨_, hf, rfl⟩
  rw [f3_forget]
  refine v_iconst (pc := 0) C 0 dX3_forget_0 (by decide) ?_
  refine v_istore_n (pc := 1) C dX3_forget_1 (by decide) (lv' := [(1, .int 0), (0, .ref (aX G 4))]) rfl ?_
  refine r_bk1 ?_
  refine v_to [1, 0] (l3_forget_2 C (fun s4 => ?_) FU _ _) rfl
  exact tp_out (fun h => by cases h; exact hret _ _ _ rfl dX3_forget_28)
def f3_isIn (a0 : Int32) : Option Int32 := lt (fun (_u : Unit) => some 0) (fun j1 => if a0 < 0 then j1 () else if a0 < 13 then some 1 else j1 ())
set_option maxHeartbeats 4000000 in
set_option maxRecDepth 100000 in
theorem m3_isIn (G : GT) (l : Launch) (a0 : Int32)  (w : va_W) (r : Int32) (hf : f3_isIn a0 = some r) : MI G l yX3_isIn cX3_isIn 1 (some .boolean) 0 0 [.int a0] w r w := by
  refine MI.startZ (by decide +kernel) (Nat.le_of_ble_eq_true rfl) (fun K hl C hret => ?_)
  subst hl
  have C : Ctx G K cX3_isIn RX3 1 0 0 := C
  change V G K w 0 [(0, .int a0)] []
  refine (?_ : tp (f3_isIn a0) (fun q => q = r) → _) ⟨_, hf, rfl⟩
  rw [f3_isIn]
  refine v_iload_n (pc := 0) C 0 rfl dX3_isIn_0 ?_
  refine r_lJ (fun Φ0 j1 => ∀ (_u : Unit), tp (j1 ()) Φ0 → V G K w 14 [] []) (fun _u => ?_) (fun j1 hj2 => ?_)
  · refine v_iconst (pc := 14) C 0 dX3_isIn_14 (by decide) ?_
    exact tp_out (fun h => by cases h; exact hret _ _ _ _ ⟨rfl, rfl⟩ (Or.inl rfl) dX3_isIn_15)
  refine v_if_lt (pc := 1) C 14 dX3_isIn_1 (by decide) ?_ ?_
  · exact v_to [] (hj2 _) rfl
  · refine v_iload_n (pc := 4) C 0 rfl dX3_isIn_4 ?_
    refine v_bipush (pc := 5) C 13 dX3_isIn_5 (by decide) ?_
    refine v_icmp_ge (pc := 7) C 14 dX3_isIn_7 (by decide) ?_ ?_
    · refine v_iconst (pc := 10) C 1 dX3_isIn_10 (by decide) ?_
      refine v_goto (pc := 11) C 15 dX3_isIn_11 (by decide) ?_
      exact tp_out (fun h => by cases h; exact hret _ _ _ _ ⟨rfl, rfl⟩ (Or.inr rfl) dX3_isIn_15)
    · exact v_to [] (hj2 _) rfl
def f3_setTenths (a1 : Int32) (a2 : Int32) (s0 : SS) : Option SS := bd (f3_isIn a1) (fun v1 => if v1 = 0 then some s0 else gd (inb a1 13) (lt (sI s0 6 (Int32.toNatClampNeg a1) a2) (fun s2 => some s2)))
set_option maxHeartbeats 4000000 in
set_option maxRecDepth 100000 in
theorem m3_setTenths (G : GT) (l : Launch) (a1 : Int32) (a2 : Int32)  (s0 : SS) (s1 : SS) (hf : f3_setTenths a1 a2 s0 = some s1) : MV G l yX3_setTenths cX3_setTenths 3 none 1 20 [.ref (aX G 4), .int a1, .int a2] (wX G s0) (wX G s1) := by
  refine MV.start (by decide +kernel) (Nat.le_of_ble_eq_true rfl) (fun K hl C hret => ?_)
  subst hl
  have C : Ctx G K cX3_setTenths RX3 3 1 20 := C
  change V G K (wX G s0) 0 [(0, .ref (aX G 4)), (1, .int a1), (2, .int a2)] []
  refine (?_ : tp (f3_setTenths a1 a2 s0) (fun q => q = s1) → _) ⟨_, hf, rfl⟩
  rw [f3_setTenths]
  refine v_iload_n (pc := 0) C 1 rfl dX3_setTenths_0 ?_
  refine cIs1r (pc := 1) C (fun r h => m3_isIn G K.2.1 a1 _ r h) q_yX3_isIn mw_520 ⟨by decide, by decide⟩ (Nat.le_of_ble_eq_true rfl) dX3_setTenths_1 (fun v1 => ?_)
  refine v_if_eq (pc := 4) C 14 dX3_setTenths_4 (by decide) ?_ ?_
  · exact tp_out (fun h => by cases h; exact hret _ _ _ rfl dX3_setTenths_14)
  · refine v_aload_n (pc := 7) C 0 rfl dX3_setTenths_7 ?_
    refine g3_tenths (pc := 8) C mw_59 dX3_setTenths_8 ?_
    refine v_iload_n (pc := 11) C 1 rfl dX3_setTenths_11 ?_
    refine v_iload_n (pc := 12) C 2 rfl dX3_setTenths_12 ?_
    refine v_iast (pc := 13) C _ ax_6 (as_6 _ _) dX3_setTenths_13 ?_
    refine r_ltx (fun s2 => ?_)
    exact tp_out (fun h => by cases h; exact hret _ _ _ rfl dX3_setTenths_14)
def f3_join (a1 : Int32) (a2 : Int32) (s0 : SS) : Option SS := bd (f3_isIn a1) (fun v1 => if v1 = 0 then some s0 else bd (f3_isIn a2) (fun v2 => if v2 = 0 then some s0 else gd (inb a1 13) (gd (inb a1 13) (lt (sI s0 5 (Int32.toNatClampNeg a1) ((s0.1 5 a1.toNatClampNeg) ||| (1 <<< (a2 &&& 31)))) (fun s3 => some s3)))))
set_option maxHeartbeats 4000000 in
set_option maxRecDepth 100000 in
theorem m3_join (G : GT) (l : Launch) (a1 : Int32) (a2 : Int32)  (s0 : SS) (s1 : SS) (hf : f3_join a1 a2 s0 = some s1) : MV G l yX3_join cX3_join 3 none 1 20 [.ref (aX G 4), .int a1, .int a2] (wX G s0) (wX G s1) := by
  refine MV.start (by decide +kernel) (Nat.le_of_ble_eq_true rfl) (fun K hl C hret => ?_)
  subst hl
  have C : Ctx G K cX3_join RX3 3 1 20 := C
  change V G K (wX G s0) 0 [(0, .ref (aX G 4)), (1, .int a1), (2, .int a2)] []
  refine (?_ : tp (f3_join a1 a2 s0) (fun q => q = s1) → _) ⟨_, hf, rfl⟩
  rw [f3_join]
  refine v_iload_n (pc := 0) C 1 rfl dX3_join_0 ?_
  refine cIs1r (pc := 1) C (fun r h => m3_isIn G K.2.1 a1 _ r h) q_yX3_isIn mw_520 ⟨by decide, by decide⟩ (Nat.le_of_ble_eq_true rfl) dX3_join_1 (fun v1 => ?_)
  refine v_if_eq (pc := 4) C 26 dX3_join_4 (by decide) ?_ ?_
  · exact tp_out (fun h => by cases h; exact hret _ _ _ rfl dX3_join_26)
  · refine v_iload_n (pc := 7) C 2 rfl dX3_join_7 ?_
    refine cIs1r (pc := 8) C (fun r h => m3_isIn G K.2.1 a2 _ r h) q_yX3_isIn mw_520 ⟨by decide, by decide⟩ (Nat.le_of_ble_eq_true rfl) dX3_join_8 (fun v2 => ?_)
    refine v_if_eq (pc := 11) C 26 dX3_join_11 (by decide) ?_ ?_
    · exact tp_out (fun h => by cases h; exact hret _ _ _ rfl dX3_join_26)
    · refine v_aload_n (pc := 14) C 0 rfl dX3_join_14 ?_
      refine g3_next (pc := 15) C mw_58 dX3_join_15 ?_
      refine v_iload_n (pc := 18) C 1 rfl dX3_join_18 ?_
      refine v_dup2 (pc := 19) C dX3_join_19 rfl rfl ?_
      refine v_iald (pc := 20) C _ ax_5 dX3_join_20 ?_
      refine v_iconst (pc := 21) C 1 dX3_join_21 (by decide) ?_
      refine v_iload_n (pc := 22) C 2 rfl dX3_join_22 ?_
      refine v_ishl (pc := 23) C dX3_join_23 ?_
      refine v_ior (pc := 24) C dX3_join_24 ?_
      refine v_iast (pc := 25) C _ ax_5 (as_5 _ _) dX3_join_25 ?_
      refine r_ltx (fun s3 => ?_)
      exact tp_out (fun h => by cases h; exact hret _ _ _ rfl dX3_join_26)
def f3_oddsOf (a1 : Int32) (s0 : SS) : Option Int64 := bd (f3_isIn a1) (fun v1 => if v1 = 0 then some 0 else gd (inb a1 13) (some (s0.2.1 8 a1.toNatClampNeg)))
set_option maxHeartbeats 4000000 in
set_option maxRecDepth 100000 in
theorem m3_oddsOf (G : GT) (l : Launch) (a1 : Int32)  (s0 : SS) (r : Int64) (hf : f3_oddsOf a1 s0 = some r) : ML G l yX3_oddsOf cX3_oddsOf 2 (some .long) 1 20 [.ref (aX G 4), .int a1] (wX G s0) r (wX G s0) := by
  refine ML.start (by decide +kernel) (Nat.le_of_ble_eq_true rfl) (fun K hl C hret => ?_)
  subst hl
  have C : Ctx G K cX3_oddsOf RX3 2 1 20 := C
  change V G K (wX G s0) 0 [(0, .ref (aX G 4)), (1, .int a1)] []
  refine (?_ : tp (f3_oddsOf a1 s0) (fun q => q = r) → _) ⟨_, hf, rfl⟩
  rw [f3_oddsOf]
  refine v_iload_n (pc := 0) C 1 rfl dX3_oddsOf_0 ?_
  refine cIs1r (pc := 1) C (fun r h => m3_isIn G K.2.1 a1 _ r h) q_yX3_isIn mw_520 ⟨by decide, by decide⟩ (Nat.le_of_ble_eq_true rfl) dX3_oddsOf_1 (fun v1 => ?_)
  refine v_if_eq (pc := 4) C 16 dX3_oddsOf_4 (by decide) ?_ ?_
  · refine v_lconst (pc := 16) C 0 dX3_oddsOf_16 (by decide) ?_
    exact tp_out (fun h => by cases h; exact hret _ _ _ _ ⟨rfl, rfl⟩ dX3_oddsOf_17)
  · refine v_aload_n (pc := 7) C 0 rfl dX3_oddsOf_7 ?_
    refine g3_odds (pc := 8) C mw_62 dX3_oddsOf_8 ?_
    refine v_iload_n (pc := 11) C 1 rfl dX3_oddsOf_11 ?_
    refine v_lald (pc := 12) C _ ax_8 dX3_oddsOf_12 ?_
    refine v_goto (pc := 13) C 17 dX3_oddsOf_13 (by decide) ?_
    exact tp_out (fun h => by cases h; exact hret _ _ _ _ ⟨rfl, rfl⟩ dX3_oddsOf_17)
def f3_stepsTo (a1 : Int32) (s0 : SS) : Option Int32 := bd (f3_isIn a1) (fun v1 => if v1 = 0 then some 0 else gd (inb a1 13) (some (s0.1 7 a1.toNatClampNeg)))
set_option maxHeartbeats 4000000 in
set_option maxRecDepth 100000 in
theorem m3_stepsTo (G : GT) (l : Launch) (a1 : Int32)  (s0 : SS) (r : Int32) (hf : f3_stepsTo a1 s0 = some r) : MI G l yX3_stepsTo cX3_stepsTo 2 (some .int) 1 20 [.ref (aX G 4), .int a1] (wX G s0) r (wX G s0) := by
  refine MI.start (by decide +kernel) (Nat.le_of_ble_eq_true rfl) (fun K hl C hret => ?_)
  subst hl
  have C : Ctx G K cX3_stepsTo RX3 2 1 20 := C
  change V G K (wX G s0) 0 [(0, .ref (aX G 4)), (1, .int a1)] []
  refine (?_ : tp (f3_stepsTo a1 s0) (fun q => q = r) → _) ⟨_, hf, rfl⟩
  rw [f3_stepsTo]
  refine v_iload_n (pc := 0) C 1 rfl dX3_stepsTo_0 ?_
  refine cIs1r (pc := 1) C (fun r h => m3_isIn G K.2.1 a1 _ r h) q_yX3_isIn mw_520 ⟨by decide, by decide⟩ (Nat.le_of_ble_eq_true rfl) dX3_stepsTo_1 (fun v1 => ?_)
  refine v_if_eq (pc := 4) C 16 dX3_stepsTo_4 (by decide) ?_ ?_
  · refine v_iconst (pc := 16) C 0 dX3_stepsTo_16 (by decide) ?_
    exact tp_out (fun h => by cases h; exact hret _ _ _ _ ⟨rfl, rfl⟩ dX3_stepsTo_17)
  · refine v_aload_n (pc := 7) C 0 rfl dX3_stepsTo_7 ?_
    refine g3_steps (pc := 8) C mw_60 dX3_stepsTo_8 ?_
    refine v_iload_n (pc := 11) C 1 rfl dX3_stepsTo_11 ?_
    refine v_iald (pc := 12) C _ ax_7 dX3_stepsTo_12 ?_
    refine v_goto (pc := 13) C 17 dX3_stepsTo_13 (by decide) ?_
    exact tp_out (fun h => by cases h; exact hret _ _ _ _ ⟨rfl, rfl⟩ dX3_stepsTo_17)
def L3_firm_4 (s0 : SS) : Nat → Int32 → Int32 → Option (Int32)
  | 0, _, _ => none
  | n + 1, v1, v2 => if v2 < 13 then gd (inb v2 13) (if (s0.1 6 v2.toNatClampNeg) ≤ 0 then lt (v2 + 1) (fun v1 => L3_firm_4 s0 n v1 v1) else lt ((v1 ||| (1 <<< (v2 &&& 31)))) (fun v2 => lt (v2 + 1) (fun v3 => L3_firm_4 s0 n v2 v3))) else some v1
def f3_firm  (s0 : SS) : Option Int32 := bk1 (L3_firm_4 s0 FU 0 0) (fun v4 => some v4)
set_option maxHeartbeats 4000000 in
set_option maxRecDepth 100000 in
theorem l3_firm_4 {G : GT} {K : KT} (C : Ctx G K cX3_firm RX3 3 0 0) (s0 : SS) {Ψ : Int32 → Prop} (hx : ∀ (o1 : Int32), Ψ o1 → V G K (wX G s0) 31 [(1, .int o1)] []) : ∀ (n : Nat) (v1 : Int32) (v2 : Int32), tp (L3_firm_4 s0 n v1 v2) (k1 Ψ) → V G K (wX G s0) 4 [(0, .ref (aX G 4)), (1, .int v1), (2, .int v2)] [] := by
  intro n
  induction n with
  | zero => intro v1 v2 h; exact tp_no h
  | succ n ih =>
    intro v1 v2
    rw [L3_firm_4]
    refine v_iload_n (pc := 4) C 2 rfl dX3_firm_4 ?_
    refine v_bipush (pc := 5) C 13 dX3_firm_5 (by decide) ?_
    refine v_icmp_ge (pc := 7) C 31 dX3_firm_7 (by decide) ?_ ?_
    · refine v_aload_n (pc := 10) C 0 rfl dX3_firm_10 ?_
      refine g3_tenths (pc := 11) C mw_59 dX3_firm_11 ?_
      refine v_iload_n (pc := 14) C 2 rfl dX3_firm_14 ?_
      refine v_iald (pc := 15) C _ ax_6 dX3_firm_15 ?_
      refine v_if_le (pc := 16) C 25 dX3_firm_16 (by decide) ?_ ?_
      · refine v_iincL (pc := 25) C 1 2 dX3_firm_25 rfl (by decide) (by decide) (lv0 := [(0, .ref (aX G 4)), (1, .int v1)]) rfl (fun v1 => ?_)
        refine v_goto (pc := 28) C 4 dX3_firm_28 (by decide) ?_
        exact v_to [1, 2, 0] (ih _ _) rfl
      · refine v_iload_n (pc := 19) C 1 rfl dX3_firm_19 ?_
        refine v_iconst (pc := 20) C 1 dX3_firm_20 (by decide) ?_
        refine v_iload_n (pc := 21) C 2 rfl dX3_firm_21 ?_
        refine v_ishl (pc := 22) C dX3_firm_22 ?_
        refine v_ior (pc := 23) C dX3_firm_23 ?_
        refine r_lti (fun v2 => ?_)
        refine v_istore_n (pc := 24) C dX3_firm_24 (by decide) (lv' := [(1, .int v2), (0, .ref (aX G 4)), (2, .int v2)]) rfl ?_
        refine v_iincL (pc := 25) C 1 2 dX3_firm_25 rfl (by decide) (by decide) (lv0 := [(1, .int v2), (0, .ref (aX G 4))]) rfl (fun v3 => ?_)
        refine v_goto (pc := 28) C 4 dX3_firm_28 (by decide) ?_
        exact v_to [2, 1, 0] (ih _ _) rfl
    · exact tp_out (fun h => v_to [1] (hx _) rfl h)
set_option maxHeartbeats 4000000 in
set_option maxRecDepth 100000 in
theorem m3_firm (G : GT) (l : Launch)   (s0 : SS) (r : Int32) (hf : f3_firm s0 = some r) : MI G l yX3_firm cX3_firm 3 (some .int) 0 0 [.ref (aX G 4)] (wX G s0) r (wX G s0) := by
  refine MI.start (by decide +kernel) (Nat.le_of_ble_eq_true rfl) (fun K hl C hret => ?_)
  subst hl
  have C : Ctx G K cX3_firm RX3 3 0 0 := C
  change V G K (wX G s0) 0 [(0, .ref (aX G 4))] []
  refine (?_ : tp (f3_firm s0) (fun q => q = r) → _) ⟨_, hf, rfl⟩
  rw [f3_firm]
  refine v_iconst (pc := 0) C 0 dX3_firm_0 (by decide) ?_
  refine v_istore_n (pc := 1) C dX3_firm_1 (by decide) (lv' := [(1, .int 0), (0, .ref (aX G 4))]) rfl ?_
  refine v_iconst (pc := 2) C 0 dX3_firm_2 (by decide) ?_
  refine v_istore_n (pc := 3) C dX3_firm_3 (by decide) (lv' := [(2, .int 0), (1, .int 0), (0, .ref (aX G 4))]) rfl ?_
  refine r_bk1 ?_
  refine v_to [2, 1, 0] (l3_firm_4 C s0 (fun v4 => ?_) FU _ _) rfl
  refine v_iload_n (pc := 31) C 0 rfl dX3_firm_31 ?_
  exact tp_out (fun h => by cases h; exact hret _ _ _ _ ⟨rfl, rfl⟩ dX3_firm_32)
def fJ6_numberOfTrailingZeros_0f7a4 (a0 : Int32) : Option Int32 := lt (((a0 ^^^ (-1)) &&& (a0 - 1))) (fun v1 => if v1 ≤ 0 then some (v1 &&& 32) else lt (fun (v4 : Int32) (v5 : Int32) => lt (fun (v8 : Int32) (v9 : Int32) => lt (fun (v12 : Int32) (v13 : Int32) => lt (fun (v16 : Int32) (v17 : Int32) => some (v17 + ((Int32.toUInt32 v16) >>> ((Int32.toUInt32 1) &&& Int32.toUInt32 31)).toInt32)) (fun j14 => if v12 ≤ 4 then j14 v12 v13 else lt (v13 + 2) (fun v18 => lt (((Int32.toUInt32 v12) >>> ((Int32.toUInt32 2) &&& Int32.toUInt32 31)).toInt32) (fun v19 => j14 v19 v18)))) (fun j10 => if v8 ≤ 16 then j10 v8 v9 else lt (v9 + 4) (fun v20 => lt (((Int32.toUInt32 v8) >>> ((Int32.toUInt32 4) &&& Int32.toUInt32 31)).toInt32) (fun v21 => j10 v21 v20)))) (fun j6 => if v4 ≤ 256 then j6 v4 v5 else lt (v5 + 8) (fun v22 => lt (((Int32.toUInt32 v4) >>> ((Int32.toUInt32 8) &&& Int32.toUInt32 31)).toInt32) (fun v23 => j6 v23 v22)))) (fun j2 => if v1 ≤ 65536 then j2 v1 1 else lt (1 + 16) (fun v24 => lt (((Int32.toUInt32 v1) >>> ((Int32.toUInt32 16) &&& Int32.toUInt32 31)).toInt32) (fun v25 => j2 v25 v24))))
set_option maxHeartbeats 4000000 in
set_option maxRecDepth 100000 in
theorem mJ6_numberOfTrailingZeros_0f7a4 (G : GT) (l : Launch) (a0 : Int32)  (w : va_W) (r : Int32) (hf : fJ6_numberOfTrailingZeros_0f7a4 a0 = some r) : MI G l yJ6_numberOfTrailingZeros_0f7a4 cJ6_numberOfTrailingZeros_0f7a4 2 (some .int) 0 0 [.int a0] w r w := by
  refine MI.start (by decide +kernel) (Nat.le_of_ble_eq_true rfl) (fun K hl C hret => ?_)
  subst hl
  have C : Ctx G K cJ6_numberOfTrailingZeros_0f7a4 RJ6 2 0 0 := C
  change V G K w 0 [(0, .int a0)] []
  refine (?_ : tp (fJ6_numberOfTrailingZeros_0f7a4 a0) (fun q => q = r) → _) ⟨_, hf, rfl⟩
  rw [fJ6_numberOfTrailingZeros_0f7a4]
  refine v_iload_n (pc := 0) C 0 rfl dJ6_numberOfTrailingZeros_0f7a4_0 ?_
  refine v_iconst (pc := 1) C (-1) dJ6_numberOfTrailingZeros_0f7a4_1 (by decide) ?_
  refine v_ixor (pc := 2) C dJ6_numberOfTrailingZeros_0f7a4_2 ?_
  refine v_iload_n (pc := 3) C 0 rfl dJ6_numberOfTrailingZeros_0f7a4_3 ?_
  refine v_iconst (pc := 4) C 1 dJ6_numberOfTrailingZeros_0f7a4_4 (by decide) ?_
  refine v_isub (pc := 5) C dJ6_numberOfTrailingZeros_0f7a4_5 ?_
  refine v_iand (pc := 6) C dJ6_numberOfTrailingZeros_0f7a4_6 ?_
  refine r_lti (fun v1 => ?_)
  refine v_istore_n (pc := 7) C dJ6_numberOfTrailingZeros_0f7a4_7 (by decide) (lv' := [(0, .int v1)]) rfl ?_
  refine v_iload_n (pc := 8) C 0 rfl dJ6_numberOfTrailingZeros_0f7a4_8 ?_
  refine v_if_gt (pc := 9) C 17 dJ6_numberOfTrailingZeros_0f7a4_9 (by decide) ?_ ?_
  · refine v_iload_n (pc := 12) C 0 rfl dJ6_numberOfTrailingZeros_0f7a4_12 ?_
    refine v_bipush (pc := 13) C 32 dJ6_numberOfTrailingZeros_0f7a4_13 (by decide) ?_
    refine v_iand (pc := 15) C dJ6_numberOfTrailingZeros_0f7a4_15 ?_
    exact tp_out (fun h => by cases h; exact hret _ _ _ _ ⟨rfl, rfl⟩ dJ6_numberOfTrailingZeros_0f7a4_16)
  · refine v_iconst (pc := 17) C 1 dJ6_numberOfTrailingZeros_0f7a4_17 (by decide) ?_
    refine v_istore_n (pc := 18) C dJ6_numberOfTrailingZeros_0f7a4_18 (by decide) (lv' := [(1, .int 1), (0, .int v1)]) rfl ?_
    refine v_iload_n (pc := 19) C 1 rfl dJ6_numberOfTrailingZeros_0f7a4_19 ?_
    refine v_ldcw (pc := 20) C mw_596 dJ6_numberOfTrailingZeros_0f7a4_20 ?_
    refine r_lJ (fun Φ0 j2 => ∀ (v4 : Int32) (v5 : Int32), tp (j2 v4 v5) Φ0 → V G K w 34 [(0, .int v4), (1, .int v5)] []) (fun v4 v5 => ?_) (fun j2 hj3 => ?_)
    · refine v_iload_n (pc := 34) C 0 rfl dJ6_numberOfTrailingZeros_0f7a4_34 ?_
      refine v_sipush (pc := 35) C 256 dJ6_numberOfTrailingZeros_0f7a4_35 (by decide) ?_
      refine r_lJ (fun Φ0 j6 => ∀ (v8 : Int32) (v9 : Int32), tp (j6 v8 v9) Φ0 → V G K w 49 [(0, .int v8), (1, .int v9)] []) (fun v8 v9 => ?_) (fun j6 hj7 => ?_)
      · refine v_iload_n (pc := 49) C 0 rfl dJ6_numberOfTrailingZeros_0f7a4_49 ?_
        refine v_bipush (pc := 50) C 16 dJ6_numberOfTrailingZeros_0f7a4_50 (by decide) ?_
        refine r_lJ (fun Φ0 j10 => ∀ (v12 : Int32) (v13 : Int32), tp (j10 v12 v13) Φ0 → V G K w 62 [(0, .int v12), (1, .int v13)] []) (fun v12 v13 => ?_) (fun j10 hj11 => ?_)
        · refine v_iload_n (pc := 62) C 0 rfl dJ6_numberOfTrailingZeros_0f7a4_62 ?_
          refine v_iconst (pc := 63) C 4 dJ6_numberOfTrailingZeros_0f7a4_63 (by decide) ?_
          refine r_lJ (fun Φ0 j14 => ∀ (v16 : Int32) (v17 : Int32), tp (j14 v16 v17) Φ0 → V G K w 74 [(0, .int v16), (1, .int v17)] []) (fun v16 v17 => ?_) (fun j14 hj15 => ?_)
          · refine v_iload_n (pc := 74) C 1 rfl dJ6_numberOfTrailingZeros_0f7a4_74 ?_
            refine v_iload_n (pc := 75) C 0 rfl dJ6_numberOfTrailingZeros_0f7a4_75 ?_
            refine v_iconst (pc := 76) C 1 dJ6_numberOfTrailingZeros_0f7a4_76 (by decide) ?_
            refine v_iushr (pc := 77) C dJ6_numberOfTrailingZeros_0f7a4_77 ?_
            refine v_iadd (pc := 78) C dJ6_numberOfTrailingZeros_0f7a4_78 ?_
            exact tp_out (fun h => by cases h; exact hret _ _ _ _ ⟨rfl, rfl⟩ dJ6_numberOfTrailingZeros_0f7a4_79)
          refine v_icmp_le (pc := 64) C 74 dJ6_numberOfTrailingZeros_0f7a4_64 (by decide) ?_ ?_
          · exact v_to [0, 1] (hj15 _ _) rfl
          · refine v_iincL (pc := 67) C 2 1 dJ6_numberOfTrailingZeros_0f7a4_67 rfl (by decide) (by decide) (lv0 := [(0, .int v12)]) rfl (fun v18 => ?_)
            refine v_iload_n (pc := 70) C 1 rfl dJ6_numberOfTrailingZeros_0f7a4_70 ?_
            refine v_iconst (pc := 71) C 2 dJ6_numberOfTrailingZeros_0f7a4_71 (by decide) ?_
            refine v_iushr (pc := 72) C dJ6_numberOfTrailingZeros_0f7a4_72 ?_
            refine r_lti (fun v19 => ?_)
            refine v_istore_n (pc := 73) C dJ6_numberOfTrailingZeros_0f7a4_73 (by decide) (lv' := [(0, .int v19), (1, .int v18)]) rfl ?_
            exact v_to [0, 1] (hj15 _ _) rfl
        refine v_icmp_le (pc := 52) C 62 dJ6_numberOfTrailingZeros_0f7a4_52 (by decide) ?_ ?_
        · exact v_to [0, 1] (hj11 _ _) rfl
        · refine v_iincL (pc := 55) C 4 1 dJ6_numberOfTrailingZeros_0f7a4_55 rfl (by decide) (by decide) (lv0 := [(0, .int v8)]) rfl (fun v20 => ?_)
          refine v_iload_n (pc := 58) C 1 rfl dJ6_numberOfTrailingZeros_0f7a4_58 ?_
          refine v_iconst (pc := 59) C 4 dJ6_numberOfTrailingZeros_0f7a4_59 (by decide) ?_
          refine v_iushr (pc := 60) C dJ6_numberOfTrailingZeros_0f7a4_60 ?_
          refine r_lti (fun v21 => ?_)
          refine v_istore_n (pc := 61) C dJ6_numberOfTrailingZeros_0f7a4_61 (by decide) (lv' := [(0, .int v21), (1, .int v20)]) rfl ?_
          exact v_to [0, 1] (hj11 _ _) rfl
      refine v_icmp_le (pc := 38) C 49 dJ6_numberOfTrailingZeros_0f7a4_38 (by decide) ?_ ?_
      · exact v_to [0, 1] (hj7 _ _) rfl
      · refine v_iincL (pc := 41) C 8 1 dJ6_numberOfTrailingZeros_0f7a4_41 rfl (by decide) (by decide) (lv0 := [(0, .int v4)]) rfl (fun v22 => ?_)
        refine v_iload_n (pc := 44) C 1 rfl dJ6_numberOfTrailingZeros_0f7a4_44 ?_
        refine v_bipush (pc := 45) C 8 dJ6_numberOfTrailingZeros_0f7a4_45 (by decide) ?_
        refine v_iushr (pc := 47) C dJ6_numberOfTrailingZeros_0f7a4_47 ?_
        refine r_lti (fun v23 => ?_)
        refine v_istore_n (pc := 48) C dJ6_numberOfTrailingZeros_0f7a4_48 (by decide) (lv' := [(0, .int v23), (1, .int v22)]) rfl ?_
        exact v_to [0, 1] (hj7 _ _) rfl
    refine v_icmp_le (pc := 23) C 34 dJ6_numberOfTrailingZeros_0f7a4_23 (by decide) ?_ ?_
    · exact v_to [1, 0] (hj3 _ _) rfl
    · refine v_iincL (pc := 26) C 16 0 dJ6_numberOfTrailingZeros_0f7a4_26 rfl (by decide) (by decide) (lv0 := [(0, .int v1)]) rfl (fun v24 => ?_)
      refine v_iload_n (pc := 29) C 1 rfl dJ6_numberOfTrailingZeros_0f7a4_29 ?_
      refine v_bipush (pc := 30) C 16 dJ6_numberOfTrailingZeros_0f7a4_30 (by decide) ?_
      refine v_iushr (pc := 32) C dJ6_numberOfTrailingZeros_0f7a4_32 ?_
      refine r_lti (fun v25 => ?_)
      refine v_istore_n (pc := 33) C dJ6_numberOfTrailingZeros_0f7a4_33 (by decide) (lv' := [(0, .int v25), (1, .int v24)]) rfl ?_
      exact v_to [0, 1] (hj3 _ _) rfl
def L3_flood_30 (c3 : Int32) (s0 : SS) : Nat → Int32 → Int32 → Int32 → Option (Int32)
  | 0, _, _, _ => none
  | n + 1, v4, v5, v6 => if v6 < 13 then if v5 = 0 then some v4 else bd (fJ6_numberOfTrailingZeros_0f7a4 v5) (fun v7 => lt ((v5 &&& (v5 - 1))) (fun v8 => bd (f3_isIn v7) (fun v9 => lt (fun (v12 : Int32) => lt ((v4 ||| v12)) (fun v13 => lt ((v8 ||| v12)) (fun v14 => lt (v6 + 1) (fun v15 => L3_flood_30 c3 s0 n v13 v14 v15)))) (fun j10 => if v9 = 0 then j10 0 else gd (inb v7 13) (j10 (((s0.1 5 v7.toNatClampNeg) &&& c3) &&& (v4 ^^^ (-1)))))))) else some v4
def f3_flood (a1 : Int32) (a2 : Int32) (s0 : SS) : Option Int32 := bd (f3_firm s0) (fun v1 => lt ((a2 &&& v1)) (fun v2 => bd (f3_isIn a1) (fun v3 => lt (fun (v6 : Int32) => bk1 (L3_flood_30 v2 s0 FU v6 v6 0) (fun v16 => some v16)) (fun j4 => if v3 = 0 then j4 0 else j4 (1 <<< (a1 &&& 31))))))
set_option maxHeartbeats 4000000 in
set_option maxRecDepth 100000 in
theorem l3_flood_30 {G : GT} {K : KT} (C : Ctx G K cX3_flood RX3 9 1 22) (c3 : Int32) (s0 : SS) {Ψ : Int32 → Prop} (hx : ∀ (o1 : Int32), Ψ o1 → V G K (wX G s0) 106 [(4, .int o1)] []) : ∀ (n : Nat) (v4 : Int32) (v5 : Int32) (v6 : Int32), tp (L3_flood_30 c3 s0 n v4 v5 v6) (k1 Ψ) → V G K (wX G s0) 30 [(0, .ref (aX G 4)), (3, .int c3), (4, .int v4), (5, .int v5), (6, .int v6)] [] := by
  intro n
  induction n with
  | zero => intro v4 v5 v6 h; exact tp_no h
  | succ n ih =>
    intro v4 v5 v6
    rw [L3_flood_30]
    refine v_iload (pc := 30) C 4 rfl dX3_flood_30 ?_
    refine v_bipush (pc := 32) C 13 dX3_flood_32 (by decide) ?_
    refine v_icmp_ge (pc := 34) C 106 dX3_flood_34 (by decide) ?_ ?_
    · refine v_iload (pc := 37) C 3 rfl dX3_flood_37 ?_
      refine v_if_eq (pc := 39) C 106 dX3_flood_39 (by decide) ?_ ?_
      · exact tp_out (fun h => v_to [2] (hx _) rfl h)
      · refine v_iload (pc := 42) C 3 rfl dX3_flood_42 ?_
        refine cIs1r (pc := 44) C (fun r h => mJ6_numberOfTrailingZeros_0f7a4 G K.2.1 v5 _ r h) q_yJ6_numberOfTrailingZeros_0f7a4 mw_592 ⟨by decide, by decide⟩ (Nat.le_of_ble_eq_true rfl) dX3_flood_44 (fun v7 => ?_)
        refine v_istore (pc := 47) C dX3_flood_47 (by decide) (lv' := [(7, .int v7), (0, .ref (aX G 4)), (3, .int c3), (4, .int v4), (5, .int v5), (6, .int v6)]) rfl ?_
        refine v_iload (pc := 49) C 4 rfl dX3_flood_49 ?_
        refine v_iload (pc := 51) C 4 rfl dX3_flood_51 ?_
        refine v_iconst (pc := 53) C 1 dX3_flood_53 (by decide) ?_
        refine v_isub (pc := 54) C dX3_flood_54 ?_
        refine v_iand (pc := 55) C dX3_flood_55 ?_
        refine r_lti (fun v8 => ?_)
        refine v_istore (pc := 56) C dX3_flood_56 (by decide) (lv' := [(5, .int v8), (7, .int v7), (0, .ref (aX G 4)), (3, .int c3), (4, .int v4), (6, .int v6)]) rfl ?_
        refine v_iload (pc := 58) C 1 rfl dX3_flood_58 ?_
        refine cIs1r (pc := 60) C (fun r h => m3_isIn G K.2.1 v7 _ r h) q_yX3_isIn mw_520 ⟨by decide, by decide⟩ (Nat.le_of_ble_eq_true rfl) dX3_flood_60 (fun v9 => ?_)
        refine r_lJ (fun Φ0 j10 => ∀ (v12 : Int32), tp (j10 v12) Φ0 → V G K (wX G s0) 84 [(0, .ref (aX G 4)), (3, .int c3), (4, .int v4), (5, .int v8), (6, .int v6)] [.int v12]) (fun v12 => ?_) (fun j10 hj11 => ?_)
        · refine v_istore (pc := 84) C dX3_flood_84 (by decide) (lv' := [(8, .int v12), (0, .ref (aX G 4)), (3, .int c3), (4, .int v4), (5, .int v8), (6, .int v6)]) rfl ?_
          refine v_iload (pc := 86) C 3 rfl dX3_flood_86 ?_
          refine v_iload (pc := 88) C 0 rfl dX3_flood_88 ?_
          refine v_ior (pc := 90) C dX3_flood_90 ?_
          refine r_lti (fun v13 => ?_)
          refine v_istore (pc := 91) C dX3_flood_91 (by decide) (lv' := [(4, .int v13), (8, .int v12), (0, .ref (aX G 4)), (3, .int c3), (5, .int v8), (6, .int v6)]) rfl ?_
          refine v_iload (pc := 93) C 4 rfl dX3_flood_93 ?_
          refine v_iload (pc := 95) C 1 rfl dX3_flood_95 ?_
          refine v_ior (pc := 97) C dX3_flood_97 ?_
          refine r_lti (fun v14 => ?_)
          refine v_istore (pc := 98) C dX3_flood_98 (by decide) (lv' := [(5, .int v14), (4, .int v13), (8, .int v12), (0, .ref (aX G 4)), (3, .int c3), (6, .int v6)]) rfl ?_
          refine v_iincL (pc := 100) C 1 5 dX3_flood_100 rfl (by decide) (by decide) (lv0 := [(5, .int v14), (4, .int v13), (8, .int v12), (0, .ref (aX G 4)), (3, .int c3)]) rfl (fun v15 => ?_)
          refine v_goto (pc := 103) C 30 dX3_flood_103 (by decide) ?_
          exact v_to [4, 5, 2, 1, 0] (ih _ _ _) rfl
        refine v_if_eq (pc := 63) C 83 dX3_flood_63 (by decide) ?_ ?_
        · refine v_iconst (pc := 83) C 0 dX3_flood_83 (by decide) ?_
          exact v_to [2, 3, 4, 0, 5] (hj11 _) rfl
        · refine v_aload_n (pc := 66) C 2 rfl dX3_flood_66 ?_
          refine g3_next (pc := 67) C mw_58 dX3_flood_67 ?_
          refine v_iload (pc := 70) C 1 rfl dX3_flood_70 ?_
          refine v_iald (pc := 72) C _ ax_5 dX3_flood_72 ?_
          refine v_iload_n (pc := 73) C 3 rfl dX3_flood_73 ?_
          refine v_iand (pc := 74) C dX3_flood_74 ?_
          refine v_iload (pc := 75) C 4 rfl dX3_flood_75 ?_
          refine v_iconst (pc := 77) C (-1) dX3_flood_77 (by decide) ?_
          refine v_ixor (pc := 78) C dX3_flood_78 ?_
          refine v_iand (pc := 79) C dX3_flood_79 ?_
          refine v_goto (pc := 80) C 84 dX3_flood_80 (by decide) ?_
          exact v_to [2, 3, 4, 0, 5] (hj11 _) rfl
    · exact tp_out (fun h => v_to [2] (hx _) rfl h)
set_option maxHeartbeats 4000000 in
set_option maxRecDepth 100000 in
theorem m3_flood (G : GT) (l : Launch) (a1 : Int32) (a2 : Int32)  (s0 : SS) (r : Int32) (hf : f3_flood a1 a2 s0 = some r) : MI G l yX3_flood cX3_flood 9 (some .int) 1 22 [.ref (aX G 4), .int a1, .int a2] (wX G s0) r (wX G s0) := by
  refine MI.start (by decide +kernel) (Nat.le_of_ble_eq_true rfl) (fun K hl C hret => ?_)
  subst hl
  have C : Ctx G K cX3_flood RX3 9 1 22 := C
  change V G K (wX G s0) 0 [(0, .ref (aX G 4)), (1, .int a1), (2, .int a2)] []
  refine (?_ : tp (f3_flood a1 a2 s0) (fun q => q = r) → _) ⟨_, hf, rfl⟩
  rw [f3_flood]
  refine v_iload_n (pc := 0) C 2 rfl dX3_flood_0 ?_
  refine v_aload_n (pc := 1) C 0 rfl dX3_flood_1 ?_
  refine cIv0r (pc := 2) C (fun r h => m3_firm G K.2.1 s0 r h) q_yX3_firm mw_588 rc_3 ⟨by decide, by decide⟩ (Nat.le_of_ble_eq_true rfl) dX3_flood_2 (fun v1 => ?_)
  refine v_iand (pc := 5) C dX3_flood_5 ?_
  refine r_lti (fun v2 => ?_)
  refine v_istore_n (pc := 6) C dX3_flood_6 (by decide) (lv' := [(3, .int v2), (0, .ref (aX G 4)), (1, .int a1), (2, .int a2)]) rfl ?_
  refine v_iload_n (pc := 7) C 2 rfl dX3_flood_7 ?_
  refine cIs1r (pc := 8) C (fun r h => m3_isIn G K.2.1 a1 _ r h) q_yX3_isIn mw_520 ⟨by decide, by decide⟩ (Nat.le_of_ble_eq_true rfl) dX3_flood_8 (fun v3 => ?_)
  refine r_lJ (fun Φ0 j4 => ∀ (v6 : Int32), tp (j4 v6) Φ0 → V G K (wX G s0) 21 [(0, .ref (aX G 4)), (3, .int v2)] [.int v6]) (fun v6 => ?_) (fun j4 hj5 => ?_)
  · refine v_istore (pc := 21) C dX3_flood_21 (by decide) (lv' := [(4, .int v6), (0, .ref (aX G 4)), (3, .int v2)]) rfl ?_
    refine v_iload (pc := 23) C 0 rfl dX3_flood_23 ?_
    refine v_istore (pc := 25) C dX3_flood_25 (by decide) (lv' := [(5, .int v6), (4, .int v6), (0, .ref (aX G 4)), (3, .int v2)]) rfl ?_
    refine v_iconst (pc := 27) C 0 dX3_flood_27 (by decide) ?_
    refine v_istore (pc := 28) C dX3_flood_28 (by decide) (lv' := [(6, .int 0), (5, .int v6), (4, .int v6), (0, .ref (aX G 4)), (3, .int v2)]) rfl ?_
    refine r_bk1 ?_
    refine v_to [3, 4, 2, 1, 0] (l3_flood_30 C v2 s0 (fun v16 => ?_) FU _ _ _) rfl
    refine v_iload (pc := 106) C 0 rfl dX3_flood_106 ?_
    exact tp_out (fun h => by cases h; exact hret _ _ _ _ ⟨rfl, rfl⟩ dX3_flood_108)
  refine v_if_eq (pc := 11) C 20 dX3_flood_11 (by decide) ?_ ?_
  · refine v_iconst (pc := 20) C 0 dX3_flood_20 (by decide) ?_
    exact v_to [1, 0] (hj5 _) rfl
  · refine v_iconst (pc := 14) C 1 dX3_flood_14 (by decide) ?_
    refine v_iload_n (pc := 15) C 2 rfl dX3_flood_15 ?_
    refine v_ishl (pc := 16) C dX3_flood_16 ?_
    refine v_goto (pc := 17) C 21 dX3_flood_17 (by decide) ?_
    exact v_to [1, 0] (hj5 _) rfl
def L3_bestInto_14 (c1 : Int32) (s0 : SS) : Nat → Int64 → Int32 → Option (Int64)
  | 0, _, _ => none
  | n + 1, v2, v4 => if v4 < 13 then gd (inb v4 13) (bd (f5_has (s0.1 5 v4.toNatClampNeg) c1) (fun v2 => if v2 = 0 then lt (v4 + 1) (fun v3 => L3_bestInto_14 c1 s0 n v2 v3) else gd (inb v4 13) (lt (if (s0.2.1 (bB (s0.2.2 2)) v4.toNatClampNeg) < v2 then v2 else (s0.2.1 (bB (s0.2.2 2)) v4.toNatClampNeg)) (fun v4 => lt (v4 + 1) (fun v5 => L3_bestInto_14 c1 s0 n v4 v5))))) else some v2
def f3_bestInto (a1 : Int32) (s0 : SS) : Option Int64 := bd (f3_isIn a1) (fun v1 => if v1 = 0 then some 0 else bk1 (L3_bestInto_14 a1 s0 FU 0 0) (fun v6 => gd (inb a1 13) (some ((v6 * (Int32.toInt64 (s0.1 6 a1.toNatClampNeg))) / 10))))
set_option maxHeartbeats 4000000 in
set_option maxRecDepth 100000 in
theorem l3_bestInto_14 {G : GT} {K : KT} (C : Ctx G K cX3_bestInto RX3 5 1 23) (c1 : Int32) (s0 : SS) {Ψ : Int64 → Prop} (hx : ∀ (o1 : Int64), Ψ o1 → V G K (wX G s0) 53 [(0, .ref (aX G 4)), (1, .int c1), (2, .long o1)] []) : ∀ (n : Nat) (v2 : Int64) (v4 : Int32), tp (L3_bestInto_14 c1 s0 n v2 v4) (k1 Ψ) → V G K (wX G s0) 14 [(0, .ref (aX G 4)), (1, .int c1), (2, .long v2), (4, .int v4)] [] := by
  intro n
  induction n with
  | zero => intro v2 v4 h; exact tp_no h
  | succ n ih =>
    intro v2 v4
    rw [L3_bestInto_14]
    refine v_iload (pc := 14) C 3 rfl dX3_bestInto_14 ?_
    refine v_bipush (pc := 16) C 13 dX3_bestInto_16 (by decide) ?_
    refine v_icmp_ge (pc := 18) C 53 dX3_bestInto_18 (by decide) ?_ ?_
    · refine v_aload_n (pc := 21) C 0 rfl dX3_bestInto_21 ?_
      refine g3_next (pc := 22) C mw_58 dX3_bestInto_22 ?_
      refine v_iload (pc := 25) C 3 rfl dX3_bestInto_25 ?_
      refine v_iald (pc := 27) C _ ax_5 dX3_bestInto_27 ?_
      refine v_iload_n (pc := 28) C 1 rfl dX3_bestInto_28 ?_
      refine cIn2r RX5 (pc := 29) C (fun r h => m5_has G K.2.1 (s0.1 5 v4.toNatClampNeg) c1 _ r h) q_yX5_has (by decide +kernel) ⟨by decide, by decide⟩ (Nat.le_of_ble_eq_true rfl) dX3_bestInto_29 (fun v2 => ?_)
      refine v_if_eq (pc := 32) C 47 dX3_bestInto_32 (by decide) ?_ ?_
      · refine v_iincL (pc := 47) C 1 3 dX3_bestInto_47 rfl (by decide) (by decide) (lv0 := [(0, .ref (aX G 4)), (1, .int c1), (2, .long v2)]) rfl (fun v3 => ?_)
        refine v_goto (pc := 50) C 14 dX3_bestInto_50 (by decide) ?_
        exact v_to [1, 2, 3, 0] (ih _ _) rfl
      · refine v_lload_n (pc := 35) C 2 rfl dX3_bestInto_35 ?_
        refine v_aload_n (pc := 36) C 0 rfl dX3_bestInto_36 ?_
        refine g3_before (pc := 37) C mw_64 dX3_bestInto_37 ?_
        refine v_iload (pc := 40) C 3 rfl dX3_bestInto_40 ?_
        refine v_lald (pc := 42) C _ (ax_bB (s0.2.2 2)) dX3_bestInto_42 ?_
        refine v_mmaxl (pc := 43) C mw_536 mw_537 mw_190 mw_538 (by decide) (Nat.le_of_ble_eq_true rfl) dX3_bestInto_43 ?_
        refine r_ltl (fun v4 => ?_)
        refine v_lstore_n (pc := 46) C dX3_bestInto_46 (by decide) (lv' := [(2, .long v4), (0, .ref (aX G 4)), (1, .int c1), (4, .int v4)]) rfl ?_
        refine v_iincL (pc := 47) C 1 3 dX3_bestInto_47 rfl (by decide) (by decide) (lv0 := [(2, .long v4), (0, .ref (aX G 4)), (1, .int c1)]) rfl (fun v5 => ?_)
        refine v_goto (pc := 50) C 14 dX3_bestInto_50 (by decide) ?_
        exact v_to [2, 3, 1, 0] (ih _ _) rfl
    · exact tp_out (fun h => v_to [0, 1, 2] (hx _) rfl h)
set_option maxHeartbeats 4000000 in
set_option maxRecDepth 100000 in
theorem m3_bestInto (G : GT) (l : Launch) (a1 : Int32)  (s0 : SS) (r : Int64) (hf : f3_bestInto a1 s0 = some r) : ML G l yX3_bestInto cX3_bestInto 5 (some .long) 1 23 [.ref (aX G 4), .int a1] (wX G s0) r (wX G s0) := by
  refine ML.start (by decide +kernel) (Nat.le_of_ble_eq_true rfl) (fun K hl C hret => ?_)
  subst hl
  have C : Ctx G K cX3_bestInto RX3 5 1 23 := C
  change V G K (wX G s0) 0 [(0, .ref (aX G 4)), (1, .int a1)] []
  refine (?_ : tp (f3_bestInto a1 s0) (fun q => q = r) → _) ⟨_, hf, rfl⟩
  rw [f3_bestInto]
  refine v_iload_n (pc := 0) C 1 rfl dX3_bestInto_0 ?_
  refine cIs1r (pc := 1) C (fun r h => m3_isIn G K.2.1 a1 _ r h) q_yX3_isIn mw_520 ⟨by decide, by decide⟩ (Nat.le_of_ble_eq_true rfl) dX3_bestInto_1 (fun v1 => ?_)
  refine v_if_ne (pc := 4) C 9 dX3_bestInto_4 (by decide) ?_ ?_
  · refine v_lconst (pc := 7) C 0 dX3_bestInto_7 (by decide) ?_
    exact tp_out (fun h => by cases h; exact hret _ _ _ _ ⟨rfl, rfl⟩ dX3_bestInto_8)
  · refine v_lconst (pc := 9) C 0 dX3_bestInto_9 (by decide) ?_
    refine v_lstore_n (pc := 10) C dX3_bestInto_10 (by decide) (lv' := [(2, .long 0), (0, .ref (aX G 4)), (1, .int a1)]) rfl ?_
    refine v_iconst (pc := 11) C 0 dX3_bestInto_11 (by decide) ?_
    refine v_istore (pc := 12) C dX3_bestInto_12 (by decide) (lv' := [(4, .int 0), (2, .long 0), (0, .ref (aX G 4)), (1, .int a1)]) rfl ?_
    refine r_bk1 ?_
    refine v_to [2, 3, 1, 0] (l3_bestInto_14 C a1 s0 (fun v6 => ?_) FU _ _) rfl
    refine v_lload_n (pc := 53) C 2 rfl dX3_bestInto_53 ?_
    refine v_aload_n (pc := 54) C 0 rfl dX3_bestInto_54 ?_
    refine g3_tenths (pc := 55) C mw_59 dX3_bestInto_55 ?_
    refine v_iload_n (pc := 58) C 1 rfl dX3_bestInto_58 ?_
    refine v_iald (pc := 59) C _ ax_6 dX3_bestInto_59 ?_
    refine v_i2l (pc := 60) C dX3_bestInto_60 ?_
    refine v_lmul (pc := 61) C dX3_bestInto_61 ?_
    refine v_ldc2 (pc := 62) C mw_539 dX3_bestInto_62 ?_
    refine v_ldiv (pc := 65) C dX3_bestInto_65 (by decide) ?_
    exact tp_out (fun h => by cases h; exact hret _ _ _ _ ⟨rfl, rfl⟩ dX3_bestInto_66)
def L3_weigh_2 (c1 : Int32) : Nat → Int32 → SS → Option (SS)
  | 0, _, _ => none
  | n + 1, v2, s => if v2 < 13 then lt (fun (v3 : Int64) => gd (inb v2 13) (lt (sL s (bB (s.2.2 2)) (Int32.toNatClampNeg v2) v3) (fun s4 => gd (inb v2 13) (gd (inb v2 13) (lt (sL s4 8 (Int32.toNatClampNeg v2) (s4.2.1 (bB (s4.2.2 2)) v2.toNatClampNeg)) (fun s5 => gd (inb v2 13) (lt (sI s5 7 (Int32.toNatClampNeg v2) 0) (fun s6 => lt (v2 + 1) (fun v7 => L3_weigh_2 c1 n v7 s6))))))))) (fun j1 => if v2 = c1 then j1 1000000000000 else j1 0) else some s
def L3_weigh_61 (c2 : Int32) : Nat → Int32 → SS → Option (SS)
  | 0, _, _ => none
  | n + 1, v3, s => if v3 < 13 then bd (f3_bestInto v3 s) (fun v9 => gd (inb v3 13) (lt (sL s (bB (s.2.2 3)) (Int32.toNatClampNeg v3) v9) (fun s10 => gd (inb v3 13) (gd (inb v3 13) (if (s10.2.1 (bB (s10.2.2 3)) v3.toNatClampNeg) ≤ (s10.2.1 8 v3.toNatClampNeg) then lt (v3 + 1) (fun v11 => L3_weigh_61 c2 n v11 s10) else gd (inb v3 13) (gd (inb v3 13) (lt (sL s10 8 (Int32.toNatClampNeg v3) (s10.2.1 (bB (s10.2.2 3)) v3.toNatClampNeg)) (fun s12 => gd (inb v3 13) (lt (sI s12 7 (Int32.toNatClampNeg v3) c2) (fun s13 => lt (v3 + 1) (fun v14 => L3_weigh_61 c2 n v14 s13))))))))))) else some s
def L3_weigh_53 : Nat → Int32 → SS → Option (SS)
  | 0, _, _ => none
  | n + 1, v2, s => if v2 < 13 then bk1 (L3_weigh_61 v2 FU 0 s) (fun s15 => lt (sB s15 2 (s15.2.2 3)) (fun s16 => lt (sB s16 3 (s15.2.2 2)) (fun s17 => lt (v2 + 1) (fun v18 => L3_weigh_53 n v18 s17)))) else some s
def f3_weigh (a1 : Int32) (s0 : SS) : Option SS := bk1 (L3_weigh_2 a1 FU 0 s0) (fun s8 => bk1 (L3_weigh_53 FU 1 s8) (fun s19 => some s19))
set_option maxHeartbeats 4000000 in
set_option maxRecDepth 100000 in
theorem l3_weigh_2 {G : GT} {K : KT} (C : Ctx G K cX3_weigh RX3 4 2 47) (c1 : Int32) {Ψ : SS → Prop} (hx : ∀ (so : SS), Ψ so → V G K (wX G so) 51 [(0, .ref (aX G 4))] []) : ∀ (n : Nat) (v2 : Int32) (s : SS), tp (L3_weigh_2 c1 n v2 s) (k1 Ψ) → V G K (wX G s) 2 [(0, .ref (aX G 4)), (1, .int c1), (2, .int v2)] [] := by
  intro n
  induction n with
  | zero => intro v2 s h; exact tp_no h
  | succ n ih =>
    intro v2 s
    rw [L3_weigh_2]
    refine v_iload_n (pc := 2) C 2 rfl dX3_weigh_2 ?_
    refine v_bipush (pc := 3) C 13 dX3_weigh_3 (by decide) ?_
    refine v_icmp_ge (pc := 5) C 51 dX3_weigh_5 (by decide) ?_ ?_
    · refine v_aload_n (pc := 8) C 0 rfl dX3_weigh_8 ?_
      refine g3_before (pc := 9) C mw_64 dX3_weigh_9 ?_
      refine v_iload_n (pc := 12) C 2 rfl dX3_weigh_12 ?_
      refine v_iload_n (pc := 13) C 2 rfl dX3_weigh_13 ?_
      refine v_iload_n (pc := 14) C 1 rfl dX3_weigh_14 ?_
      refine r_lJ (fun Φ0 j1 => ∀ (v3 : Int64), tp (j1 v3) Φ0 → V G K (wX G s) 25 [(0, .ref (aX G 4)), (1, .int c1), (2, .int v2)] [.long v3, .int v2, .ref (aX G (bB (s.2.2 2)))]) (fun v3 => ?_) (fun j1 hj2 => ?_)
      · refine v_last (pc := 25) C _ (ax_bB (s.2.2 2)) (as_bB (s.2.2 2) _ _) dX3_weigh_25 ?_
        refine r_ltx (fun s4 => ?_)
        refine v_aload_n (pc := 26) C 0 rfl dX3_weigh_26 ?_
        refine g3_odds (pc := 27) C mw_62 dX3_weigh_27 ?_
        refine v_iload_n (pc := 30) C 2 rfl dX3_weigh_30 ?_
        refine v_aload_n (pc := 31) C 0 rfl dX3_weigh_31 ?_
        refine g3_before (pc := 32) C mw_64 dX3_weigh_32 ?_
        refine v_iload_n (pc := 35) C 2 rfl dX3_weigh_35 ?_
        refine v_lald (pc := 36) C _ (ax_bB (s4.2.2 2)) dX3_weigh_36 ?_
        refine v_last (pc := 37) C _ ax_8 (as_8 _ _) dX3_weigh_37 ?_
        refine r_ltx (fun s5 => ?_)
        refine v_aload_n (pc := 38) C 0 rfl dX3_weigh_38 ?_
        refine g3_steps (pc := 39) C mw_60 dX3_weigh_39 ?_
        refine v_iload_n (pc := 42) C 2 rfl dX3_weigh_42 ?_
        refine v_iconst (pc := 43) C 0 dX3_weigh_43 (by decide) ?_
        refine v_iast (pc := 44) C _ ax_7 (as_7 _ _) dX3_weigh_44 ?_
        refine r_ltx (fun s6 => ?_)
        refine v_iincL (pc := 45) C 1 2 dX3_weigh_45 rfl (by decide) (by decide) (lv0 := [(0, .ref (aX G 4)), (1, .int c1)]) rfl (fun v7 => ?_)
        refine v_goto (pc := 48) C 2 dX3_weigh_48 (by decide) ?_
        exact v_to [1, 2, 0] (ih _ _) rfl
      refine v_icmp_ne (pc := 15) C 24 dX3_weigh_15 (by decide) ?_ ?_
      · refine v_ldc2 (pc := 18) C mw_531 dX3_weigh_18 ?_
        refine v_goto (pc := 21) C 25 dX3_weigh_21 (by decide) ?_
        exact v_to [0, 1, 2] (hj2 _) rfl
      · refine v_lconst (pc := 24) C 0 dX3_weigh_24 (by decide) ?_
        exact v_to [0, 1, 2] (hj2 _) rfl
    · exact tp_out (fun h => v_to [0] (hx _) rfl h)
set_option maxHeartbeats 4000000 in
set_option maxRecDepth 100000 in
theorem l3_weigh_61 {G : GT} {K : KT} (C : Ctx G K cX3_weigh RX3 4 2 47) (c2 : Int32) {Ψ : SS → Prop} (hx : ∀ (so : SS), Ψ so → V G K (wX G so) 119 [(0, .ref (aX G 4)), (2, .int c2)] []) : ∀ (n : Nat) (v3 : Int32) (s : SS), tp (L3_weigh_61 c2 n v3 s) (k1 Ψ) → V G K (wX G s) 61 [(0, .ref (aX G 4)), (2, .int c2), (3, .int v3)] [] := by
  intro n
  induction n with
  | zero => intro v3 s h; exact tp_no h
  | succ n ih =>
    intro v3 s
    rw [L3_weigh_61]
    refine v_iload_n (pc := 61) C 2 rfl dX3_weigh_61 ?_
    refine v_bipush (pc := 62) C 13 dX3_weigh_62 (by decide) ?_
    refine v_icmp_ge (pc := 64) C 119 dX3_weigh_64 (by decide) ?_ ?_
    · refine v_aload_n (pc := 67) C 0 rfl dX3_weigh_67 ?_
      refine g3_after (pc := 68) C mw_65 dX3_weigh_68 ?_
      refine v_iload_n (pc := 71) C 2 rfl dX3_weigh_71 ?_
      refine v_aload_n (pc := 72) C 0 rfl dX3_weigh_72 ?_
      refine v_iload_n (pc := 73) C 2 rfl dX3_weigh_73 ?_
      refine cLv1r (pc := 74) C (fun r h => m3_bestInto G K.2.1 v3 s r h) q_yX3_bestInto mw_532 rc_3 ⟨by decide, by decide⟩ (Nat.le_of_ble_eq_true rfl) dX3_weigh_74 (fun v9 => ?_)
      refine v_last (pc := 77) C _ (ax_bB (s.2.2 3)) (as_bB (s.2.2 3) _ _) dX3_weigh_77 ?_
      refine r_ltx (fun s10 => ?_)
      refine v_aload_n (pc := 78) C 0 rfl dX3_weigh_78 ?_
      refine g3_after (pc := 79) C mw_65 dX3_weigh_79 ?_
      refine v_iload_n (pc := 82) C 2 rfl dX3_weigh_82 ?_
      refine v_lald (pc := 83) C _ (ax_bB (s10.2.2 3)) dX3_weigh_83 ?_
      refine v_aload_n (pc := 84) C 0 rfl dX3_weigh_84 ?_
      refine g3_odds (pc := 85) C mw_62 dX3_weigh_85 ?_
      refine v_iload_n (pc := 88) C 2 rfl dX3_weigh_88 ?_
      refine v_lald (pc := 89) C _ ax_8 dX3_weigh_89 ?_
      refine v_lcmp_le (pc := 90) C 113 dX3_weigh_90 dX3_weigh_91 (by decide) ?_ ?_
      · refine v_iincL (pc := 113) C 1 2 dX3_weigh_113 rfl (by decide) (by decide) (lv0 := [(0, .ref (aX G 4)), (2, .int c2)]) rfl (fun v11 => ?_)
        refine v_goto (pc := 116) C 61 dX3_weigh_116 (by decide) ?_
        exact v_to [1, 2, 0] (ih _ _) rfl
      · refine v_aload_n (pc := 94) C 0 rfl dX3_weigh_94 ?_
        refine g3_odds (pc := 95) C mw_62 dX3_weigh_95 ?_
        refine v_iload_n (pc := 98) C 2 rfl dX3_weigh_98 ?_
        refine v_aload_n (pc := 99) C 0 rfl dX3_weigh_99 ?_
        refine g3_after (pc := 100) C mw_65 dX3_weigh_100 ?_
        refine v_iload_n (pc := 103) C 2 rfl dX3_weigh_103 ?_
        refine v_lald (pc := 104) C _ (ax_bB (s10.2.2 3)) dX3_weigh_104 ?_
        refine v_last (pc := 105) C _ ax_8 (as_8 _ _) dX3_weigh_105 ?_
        refine r_ltx (fun s12 => ?_)
        refine v_aload_n (pc := 106) C 0 rfl dX3_weigh_106 ?_
        refine g3_steps (pc := 107) C mw_60 dX3_weigh_107 ?_
        refine v_iload_n (pc := 110) C 2 rfl dX3_weigh_110 ?_
        refine v_iload_n (pc := 111) C 1 rfl dX3_weigh_111 ?_
        refine v_iast (pc := 112) C _ ax_7 (as_7 _ _) dX3_weigh_112 ?_
        refine r_ltx (fun s13 => ?_)
        refine v_iincL (pc := 113) C 1 2 dX3_weigh_113 rfl (by decide) (by decide) (lv0 := [(0, .ref (aX G 4)), (2, .int c2)]) rfl (fun v14 => ?_)
        refine v_goto (pc := 116) C 61 dX3_weigh_116 (by decide) ?_
        exact v_to [1, 2, 0] (ih _ _) rfl
    · exact tp_out (fun h => v_to [0, 1] (hx _) rfl h)
set_option maxHeartbeats 4000000 in
set_option maxRecDepth 100000 in
theorem l3_weigh_53 {G : GT} {K : KT} (C : Ctx G K cX3_weigh RX3 4 2 47) {Ψ : SS → Prop} (hx : ∀ (so : SS), Ψ so → V G K (wX G so) 143 [] []) : ∀ (n : Nat) (v2 : Int32) (s : SS), tp (L3_weigh_53 n v2 s) (k1 Ψ) → V G K (wX G s) 53 [(0, .ref (aX G 4)), (2, .int v2)] [] := by
  intro n
  induction n with
  | zero => intro v2 s h; exact tp_no h
  | succ n ih =>
    intro v2 s
    rw [L3_weigh_53]
    refine v_iload_n (pc := 53) C 1 rfl dX3_weigh_53 ?_
    refine v_bipush (pc := 54) C 13 dX3_weigh_54 (by decide) ?_
    refine v_icmp_ge (pc := 56) C 143 dX3_weigh_56 (by decide) ?_ ?_
    · refine v_iconst (pc := 59) C 0 dX3_weigh_59 (by decide) ?_
      refine v_istore_n (pc := 60) C dX3_weigh_60 (by decide) (lv' := [(3, .int 0), (0, .ref (aX G 4)), (2, .int v2)]) rfl ?_
      refine r_bk1 ?_
      refine v_to [1, 2, 0] (l3_weigh_61 C v2 (fun s15 => ?_) FU _ _) rfl
      refine v_aload_n (pc := 119) C 0 rfl dX3_weigh_119 ?_
      refine g3_before (pc := 120) C mw_64 dX3_weigh_120 ?_
      refine v_astore_n (pc := 123) C dX3_weigh_123 (by decide) (lv' := [(3, .ref (aX G (bB (s15.2.2 2)))), (0, .ref (aX G 4)), (2, .int v2)]) rfl ?_
      refine v_aload_n (pc := 124) C 1 rfl dX3_weigh_124 ?_
      refine v_aload_n (pc := 125) C 1 rfl dX3_weigh_125 ?_
      refine g3_after (pc := 126) C mw_65 dX3_weigh_126 ?_
      refine p3_before (pc := 129) C mw_64 dX3_weigh_129 ?_
      refine r_ltx (fun s16 => ?_)
      refine v_aload_n (pc := 132) C 1 rfl dX3_weigh_132 ?_
      refine v_aload_n (pc := 133) C 0 rfl dX3_weigh_133 ?_
      refine p3_after (pc := 134) C mw_65 dX3_weigh_134 ?_
      refine r_ltx (fun s17 => ?_)
      refine v_iincL (pc := 137) C 1 2 dX3_weigh_137 rfl (by decide) (by decide) (lv0 := [(3, .ref (aX G (bB (s15.2.2 2)))), (0, .ref (aX G 4))]) rfl (fun v18 => ?_)
      refine v_goto (pc := 140) C 53 dX3_weigh_140 (by decide) ?_
      exact v_to [2, 0] (ih _ _) rfl
    · exact tp_out (fun h => v_to [] (hx _) rfl h)
set_option maxHeartbeats 4000000 in
set_option maxRecDepth 100000 in
theorem m3_weigh (G : GT) (l : Launch) (a1 : Int32)  (s0 : SS) (s1 : SS) (hf : f3_weigh a1 s0 = some s1) : MV G l yX3_weigh cX3_weigh 4 none 2 47 [.ref (aX G 4), .int a1] (wX G s0) (wX G s1) := by
  refine MV.start (by decide +kernel) (Nat.le_of_ble_eq_true rfl) (fun K hl C hret => ?_)
  subst hl
  have C : Ctx G K cX3_weigh RX3 4 2 47 := C
  change V G K (wX G s0) 0 [(0, .ref (aX G 4)), (1, .int a1)] []
  refine (?_ : tp (f3_weigh a1 s0) (fun q => q = s1) → _) ⟨_, hf, rfl⟩
  rw [f3_weigh]
  refine v_iconst (pc := 0) C 0 dX3_weigh_0 (by decide) ?_
  refine v_istore_n (pc := 1) C dX3_weigh_1 (by decide) (lv' := [(2, .int 0), (0, .ref (aX G 4)), (1, .int a1)]) rfl ?_
  refine r_bk1 ?_
  refine v_to [1, 2, 0] (l3_weigh_2 C a1 (fun s8 => ?_) FU _ _) rfl
  refine v_iconst (pc := 51) C 1 dX3_weigh_51 (by decide) ?_
  refine v_istore_n (pc := 52) C dX3_weigh_52 (by decide) (lv' := [(2, .int 1), (0, .ref (aX G 4))]) rfl ?_
  refine r_bk1 ?_
  refine v_to [1, 0] (l3_weigh_53 C (fun s19 => ?_) FU _ _) rfl
  exact tp_out (fun h => by cases h; exact hret _ _ _ rfl dX3_weigh_143)
def f4_feature (w0 : Bool) (a1 : Int32) (a2 : Int32) (s0 : SS) : Option Int32 := lt (fun (_u : Unit) => some 0) (fun j1 => if a1 < 0 then j1 () else if a1 < 12 then if a2 < 0 then j1 () else if a2 < 6 then gd (inb a2 6) (gd (inb a1 12) (some (s0.1 (wB w0 + 2 + (Int32.toNatClampNeg a2)) a1.toNatClampNeg))) else j1 () else j1 ())
set_option maxHeartbeats 4000000 in
set_option maxRecDepth 100000 in
theorem m4_feature (G : GT) (l : Launch) (w0 : Bool) (a1 : Int32) (a2 : Int32)  (s0 : SS) (r : Int32) (hf : f4_feature w0 a1 a2 s0 = some r) : MI G l yX4_feature cX4_feature 3 (some .int) 0 0 [.ref (aX G (wB w0)), .int a1, .int a2] (wX G s0) r (wX G s0) := by
  refine MI.start (by decide +kernel) (Nat.le_of_ble_eq_true rfl) (fun K hl C hret => ?_)
  subst hl
  have C : Ctx G K cX4_feature RX4 3 0 0 := C
  change V G K (wX G s0) 0 [(0, .ref (aX G (wB w0))), (1, .int a1), (2, .int a2)] []
  refine (?_ : tp (f4_feature w0 a1 a2 s0) (fun q => q = r) → _) ⟨_, hf, rfl⟩
  rw [f4_feature]
  refine v_iload_n (pc := 0) C 1 rfl dX4_feature_0 ?_
  refine r_lJ (fun Φ0 j1 => ∀ (_u : Unit), tp (j1 ()) Φ0 → V G K (wX G s0) 31 [] []) (fun _u => ?_) (fun j1 hj2 => ?_)
  · refine v_iconst (pc := 31) C 0 dX4_feature_31 (by decide) ?_
    exact tp_out (fun h => by cases h; exact hret _ _ _ _ ⟨rfl, rfl⟩ dX4_feature_32)
  refine v_if_lt (pc := 1) C 31 dX4_feature_1 (by decide) ?_ ?_
  · exact v_to [] (hj2 _) rfl
  · refine v_iload_n (pc := 4) C 1 rfl dX4_feature_4 ?_
    refine v_bipush (pc := 5) C 12 dX4_feature_5 (by decide) ?_
    refine v_icmp_ge (pc := 7) C 31 dX4_feature_7 (by decide) ?_ ?_
    · refine v_iload_n (pc := 10) C 2 rfl dX4_feature_10 ?_
      refine v_if_lt (pc := 11) C 31 dX4_feature_11 (by decide) ?_ ?_
      · exact v_to [] (hj2 _) rfl
      · refine v_iload_n (pc := 14) C 2 rfl dX4_feature_14 ?_
        refine v_bipush (pc := 15) C 6 dX4_feature_15 (by decide) ?_
        refine v_icmp_ge (pc := 17) C 31 dX4_feature_17 (by decide) ?_ ?_
        · refine v_aload_n (pc := 20) C 0 rfl dX4_feature_20 ?_
          refine g4_features w0 (pc := 21) C mw_91 dX4_feature_21 ?_
          refine v_iload_n (pc := 24) C 2 rfl dX4_feature_24 ?_
          refine v_aldA (pc := 25) C _ (ax_f2 w0) (fun h => if_pos h.2) dX4_feature_25 (fun hi3 => ?_)
          refine v_iload_n (pc := 26) C 1 rfl dX4_feature_26 ?_
          refine v_iald (pc := 27) C _ (ax_fr w0 (Int32.toNatClampNeg a2) hi3.2) dX4_feature_27 ?_
          refine v_goto (pc := 28) C 32 dX4_feature_28 (by decide) ?_
          exact tp_out (fun h => by cases h; exact hret _ _ _ _ ⟨rfl, rfl⟩ dX4_feature_32)
        · exact v_to [] (hj2 _) rfl
    · exact v_to [] (hj2 _) rfl
def L3_skips_30 (c0 : Bool) (c1 : Int32) (c2 : Int32) (c3 : Int32) (c4 : Int32) (c5 : Int32) (s0 : SS) : Nat → Int32 → Option ((Unit) ⊕ Int32)
  | 0, _ => none
  | n + 1, v6 => if v6 < (s0.1 (wB c0) 0) then bd (f4_feature c0 v6 0 s0) (fun v5 => bd (f5_has c3 v6) (fun v6 => if v6 = 0 then lt (v6 + 1) (fun v7 => L3_skips_30 c0 c1 c2 c3 c4 c5 s0 n v7) else if v6 = c1 then lt (v6 + 1) (fun v8 => L3_skips_30 c0 c1 c2 c3 c4 c5 s0 n v8) else if v6 = c2 then lt (v6 + 1) (fun v9 => L3_skips_30 c0 c1 c2 c3 c4 c5 s0 n v9) else if v5 < c4 then lt (v6 + 1) (fun v10 => L3_skips_30 c0 c1 c2 c3 c4 c5 s0 n v10) else if v5 ≤ c5 then some (.inr 1) else lt (v6 + 1) (fun v11 => L3_skips_30 c0 c1 c2 c3 c4 c5 s0 n v11))) else some (.inl ())
def f3_skips (w0 : Bool) (a1 : Int32) (a2 : Int32) (a3 : Int32) (s0 : SS) : Option Int32 := bd (f4_feature w0 a1 0 s0) (fun v1 => lt (fun (v4 : Int32) => bs1 (L3_skips_30 w0 a1 a2 a3 v1 v4 s0 FU 0) (fun _u => some 0) (fun r => some r)) (fun j2 => if a2 = 12 then j2 99 else bd (f4_feature w0 a2 0 s0) (fun v12 => j2 v12)))
set_option maxHeartbeats 4000000 in
set_option maxRecDepth 100000 in
theorem l3_skips_30 {G : GT} {K : KT} (C : Ctx G K cX3_skips RX3 8 1 22) (c0 : Bool) (c1 : Int32) (c2 : Int32) (c3 : Int32) (c4 : Int32) (c5 : Int32) (s0 : SS) {Ψ : Unit → Prop} (hx : ∀ (u0 : Unit), Ψ u0 → V G K (wX G s0) 91 [] []) {Φr : Int32 → Prop} (hr : ∀ (r : Int32), Φr r → (r = 0 ∨ r = 1) → ∀ (pc : Nat) (lv : List (Nat × Value)), decode cX3_skips pc = .ok (.ireturn, 1) → V G K (wX G s0) pc lv [.int r]) : ∀ (n : Nat) (v6 : Int32), tp (L3_skips_30 c0 c1 c2 c3 c4 c5 s0 n v6) (uS (k1 Ψ) Φr) → V G K (wX G s0) 30 [(0, .ref (aX G (wB c0))), (1, .int c1), (2, .int c2), (3, .int c3), (4, .int c4), (5, .int c5), (6, .int v6)] [] := by
  intro n
  induction n with
  | zero => intro v6 h; exact tp_no h
  | succ n ih =>
    intro v6
    rw [L3_skips_30]
    refine v_iload (pc := 30) C 6 rfl dX3_skips_30 ?_
    refine v_aload_n (pc := 32) C 0 rfl dX3_skips_32 ?_
    refine g4_branches c0 (pc := 33) C mw_659 dX3_skips_33 ?_
    refine v_icmp_ge (pc := 36) C 91 dX3_skips_36 (by decide) ?_ ?_
    · refine v_aload_n (pc := 39) C 0 rfl dX3_skips_39 ?_
      refine v_iload (pc := 40) C 6 rfl dX3_skips_40 ?_
      refine v_iconst (pc := 42) C 0 dX3_skips_42 (by decide) ?_
      refine cIv2r (pc := 43) C (fun r h => m4_feature G K.2.1 c0 v6 0 s0 r h) q_yX4_feature mw_663 (rc_4 c0) ⟨by decide, by decide⟩ (Nat.le_of_ble_eq_true rfl) dX3_skips_43 (fun v5 => ?_)
      refine v_istore (pc := 46) C dX3_skips_46 (by decide) (lv' := [(7, .int v5), (0, .ref (aX G (wB c0))), (1, .int c1), (2, .int c2), (3, .int c3), (4, .int c4), (5, .int c5), (6, .int v6)]) rfl ?_
      refine v_iload_n (pc := 48) C 4 rfl dX3_skips_48 ?_
      refine v_iload (pc := 49) C 7 rfl dX3_skips_49 ?_
      refine cIn2r RX5 (pc := 51) C (fun r h => m5_has G K.2.1 c3 v6 _ r h) q_yX5_has (by decide +kernel) ⟨by decide, by decide⟩ (Nat.le_of_ble_eq_true rfl) dX3_skips_51 (fun v6 => ?_)
      refine v_if_eq (pc := 54) C 85 dX3_skips_54 (by decide) ?_ ?_
      · refine v_iincL (pc := 85) C 1 7 dX3_skips_85 rfl (by decide) (by decide) (lv0 := [(7, .int v5), (0, .ref (aX G (wB c0))), (1, .int c1), (2, .int c2), (3, .int c3), (4, .int c4), (5, .int c5)]) rfl (fun v7 => ?_)
        refine v_goto (pc := 88) C 30 dX3_skips_88 (by decide) ?_
        exact v_to [2, 3, 4, 5, 6, 7, 0] (ih _) rfl
      · refine v_iload (pc := 57) C 7 rfl dX3_skips_57 ?_
        refine v_iload_n (pc := 59) C 2 rfl dX3_skips_59 ?_
        refine v_icmp_eq (pc := 60) C 85 dX3_skips_60 (by decide) ?_ ?_
        · refine v_iincL (pc := 85) C 1 7 dX3_skips_85 rfl (by decide) (by decide) (lv0 := [(7, .int v5), (0, .ref (aX G (wB c0))), (1, .int c1), (2, .int c2), (3, .int c3), (4, .int c4), (5, .int c5)]) rfl (fun v8 => ?_)
          refine v_goto (pc := 88) C 30 dX3_skips_88 (by decide) ?_
          exact v_to [2, 3, 4, 5, 6, 7, 0] (ih _) rfl
        · refine v_iload (pc := 63) C 7 rfl dX3_skips_63 ?_
          refine v_iload_n (pc := 65) C 3 rfl dX3_skips_65 ?_
          refine v_icmp_eq (pc := 66) C 85 dX3_skips_66 (by decide) ?_ ?_
          · refine v_iincL (pc := 85) C 1 7 dX3_skips_85 rfl (by decide) (by decide) (lv0 := [(7, .int v5), (0, .ref (aX G (wB c0))), (1, .int c1), (2, .int c2), (3, .int c3), (4, .int c4), (5, .int c5)]) rfl (fun v9 => ?_)
            refine v_goto (pc := 88) C 30 dX3_skips_88 (by decide) ?_
            exact v_to [2, 3, 4, 5, 6, 7, 0] (ih _) rfl
          · refine v_iload (pc := 69) C 0 rfl dX3_skips_69 ?_
            refine v_iload (pc := 71) C 5 rfl dX3_skips_71 ?_
            refine v_icmp_lt (pc := 73) C 85 dX3_skips_73 (by decide) ?_ ?_
            · refine v_iincL (pc := 85) C 1 7 dX3_skips_85 rfl (by decide) (by decide) (lv0 := [(7, .int v5), (0, .ref (aX G (wB c0))), (1, .int c1), (2, .int c2), (3, .int c3), (4, .int c4), (5, .int c5)]) rfl (fun v10 => ?_)
              refine v_goto (pc := 88) C 30 dX3_skips_88 (by decide) ?_
              exact v_to [2, 3, 4, 5, 6, 7, 0] (ih _) rfl
            · refine v_iload (pc := 76) C 0 rfl dX3_skips_76 ?_
              refine v_iload (pc := 78) C 6 rfl dX3_skips_78 ?_
              refine v_icmp_gt (pc := 80) C 85 dX3_skips_80 (by decide) ?_ ?_
              · refine v_iconst (pc := 83) C 1 dX3_skips_83 (by decide) ?_
                exact tp_out (fun h => hr _ h (Or.inr rfl) _ _ dX3_skips_84)
              · refine v_iincL (pc := 85) C 1 7 dX3_skips_85 rfl (by decide) (by decide) (lv0 := [(7, .int v5), (0, .ref (aX G (wB c0))), (1, .int c1), (2, .int c2), (3, .int c3), (4, .int c4), (5, .int c5)]) rfl (fun v11 => ?_)
                refine v_goto (pc := 88) C 30 dX3_skips_88 (by decide) ?_
                exact v_to [2, 3, 4, 5, 6, 7, 0] (ih _) rfl
    · exact tp_out (fun h => v_to [] (hx _) rfl h)
set_option maxHeartbeats 4000000 in
set_option maxRecDepth 100000 in
theorem m3_skips (G : GT) (l : Launch) (w0 : Bool) (a1 : Int32) (a2 : Int32) (a3 : Int32)  (s0 : SS) (r : Int32) (hf : f3_skips w0 a1 a2 a3 s0 = some r) : MI G l yX3_skips cX3_skips 8 (some .boolean) 1 22 [.ref (aX G (wB w0)), .int a1, .int a2, .int a3] (wX G s0) r (wX G s0) := by
  refine MI.startZ (by decide +kernel) (Nat.le_of_ble_eq_true rfl) (fun K hl C hret => ?_)
  subst hl
  have C : Ctx G K cX3_skips RX3 8 1 22 := C
  change V G K (wX G s0) 0 [(0, .ref (aX G (wB w0))), (1, .int a1), (2, .int a2), (3, .int a3)] []
  refine (?_ : tp (f3_skips w0 a1 a2 a3 s0) (fun q => q = r) → _) ⟨_, hf, rfl⟩
  rw [f3_skips]
  refine v_aload_n (pc := 0) C 0 rfl dX3_skips_0 ?_
  refine v_iload_n (pc := 1) C 1 rfl dX3_skips_1 ?_
  refine v_iconst (pc := 2) C 0 dX3_skips_2 (by decide) ?_
  refine cIv2r (pc := 3) C (fun r h => m4_feature G K.2.1 w0 a1 0 s0 r h) q_yX4_feature mw_663 (rc_4 w0) ⟨by decide, by decide⟩ (Nat.le_of_ble_eq_true rfl) dX3_skips_3 (fun v1 => ?_)
  refine v_istore (pc := 6) C dX3_skips_6 (by decide) (lv' := [(4, .int v1), (0, .ref (aX G (wB w0))), (1, .int a1), (2, .int a2), (3, .int a3)]) rfl ?_
  refine v_iload_n (pc := 8) C 3 rfl dX3_skips_8 ?_
  refine v_bipush (pc := 9) C 12 dX3_skips_9 (by decide) ?_
  refine r_lJ (fun Φ0 j2 => ∀ (v4 : Int32), tp (j2 v4) Φ0 → V G K (wX G s0) 25 [(0, .ref (aX G (wB w0))), (1, .int a1), (2, .int a2), (3, .int a3), (4, .int v1)] [.int v4]) (fun v4 => ?_) (fun j2 hj3 => ?_)
  · refine v_istore (pc := 25) C dX3_skips_25 (by decide) (lv' := [(5, .int v4), (0, .ref (aX G (wB w0))), (1, .int a1), (2, .int a2), (3, .int a3), (4, .int v1)]) rfl ?_
    refine v_iconst (pc := 27) C 0 dX3_skips_27 (by decide) ?_
    refine v_istore (pc := 28) C dX3_skips_28 (by decide) (lv' := [(6, .int 0), (5, .int v4), (0, .ref (aX G (wB w0))), (1, .int a1), (2, .int a2), (3, .int a3), (4, .int v1)]) rfl ?_
    refine r_bs1 ?_
    refine v_to [2, 3, 4, 5, 6, 1, 0] (l3_skips_30 C w0 a1 a2 a3 v1 v4 s0 (fun _u => ?_) (fun r9 h hz pc lv d => tp_out (fun h => by cases h; exact hret _ _ _ _ ⟨rfl, rfl⟩ hz d) h) FU _) rfl
    refine v_iconst (pc := 91) C 0 dX3_skips_91 (by decide) ?_
    exact tp_out (fun h => by cases h; exact hret _ _ _ _ ⟨rfl, rfl⟩ (Or.inl rfl) dX3_skips_92)
  refine v_icmp_ne (pc := 11) C 19 dX3_skips_11 (by decide) ?_ ?_
  · refine v_bipush (pc := 14) C 99 dX3_skips_14 (by decide) ?_
    refine v_goto (pc := 16) C 25 dX3_skips_16 (by decide) ?_
    exact v_to [1, 2, 3, 4, 0] (hj3 _) rfl
  · refine v_aload_n (pc := 19) C 1 rfl dX3_skips_19 ?_
    refine v_iload_n (pc := 20) C 3 rfl dX3_skips_20 ?_
    refine v_iconst (pc := 21) C 0 dX3_skips_21 (by decide) ?_
    refine cIv2r (pc := 22) C (fun r h => m4_feature G K.2.1 w0 a2 0 s0 r h) q_yX4_feature mw_663 (rc_4 w0) ⟨by decide, by decide⟩ (Nat.le_of_ble_eq_true rfl) dX3_skips_22 (fun v12 => ?_)
    exact v_to [1, 2, 3, 4, 0] (hj3 _) rfl
def f4_downward (w0 : Bool) (a1 : Int32) (s0 : SS) : Option Int32 := lt (fun (_u : Unit) => some 0) (fun j1 => if a1 < 0 then j1 () else if a1 < 12 then gd (inb a1 12) (some (s0.1 (wB w0 + 12) a1.toNatClampNeg)) else j1 ())
set_option maxHeartbeats 4000000 in
set_option maxRecDepth 100000 in
theorem m4_downward (G : GT) (l : Launch) (w0 : Bool) (a1 : Int32)  (s0 : SS) (r : Int32) (hf : f4_downward w0 a1 s0 = some r) : MI G l yX4_downward cX4_downward 2 (some .int) 0 0 [.ref (aX G (wB w0)), .int a1] (wX G s0) r (wX G s0) := by
  refine MI.start (by decide +kernel) (Nat.le_of_ble_eq_true rfl) (fun K hl C hret => ?_)
  subst hl
  have C : Ctx G K cX4_downward RX4 2 0 0 := C
  change V G K (wX G s0) 0 [(0, .ref (aX G (wB w0))), (1, .int a1)] []
  refine (?_ : tp (f4_downward w0 a1 s0) (fun q => q = r) → _) ⟨_, hf, rfl⟩
  rw [f4_downward]
  refine v_iload_n (pc := 0) C 1 rfl dX4_downward_0 ?_
  refine r_lJ (fun Φ0 j1 => ∀ (_u : Unit), tp (j1 ()) Φ0 → V G K (wX G s0) 22 [] []) (fun _u => ?_) (fun j1 hj2 => ?_)
  · refine v_iconst (pc := 22) C 0 dX4_downward_22 (by decide) ?_
    exact tp_out (fun h => by cases h; exact hret _ _ _ _ ⟨rfl, rfl⟩ dX4_downward_23)
  refine v_if_lt (pc := 1) C 22 dX4_downward_1 (by decide) ?_ ?_
  · exact v_to [] (hj2 _) rfl
  · refine v_iload_n (pc := 4) C 1 rfl dX4_downward_4 ?_
    refine v_aload_n (pc := 5) C 0 rfl dX4_downward_5 ?_
    refine g4_downward w0 (pc := 6) C mw_93 dX4_downward_6 ?_
    refine v_alen (pc := 9) C _ 0 (ax_dn w0) rfl (v := 12) rfl dX4_downward_9 ?_
    refine v_icmp_ge (pc := 10) C 22 dX4_downward_10 (by decide) ?_ ?_
    · refine v_aload_n (pc := 13) C 0 rfl dX4_downward_13 ?_
      refine g4_downward w0 (pc := 14) C mw_93 dX4_downward_14 ?_
      refine v_iload_n (pc := 17) C 1 rfl dX4_downward_17 ?_
      refine v_iald (pc := 18) C _ (ax_dn w0) dX4_downward_18 ?_
      refine v_goto (pc := 19) C 23 dX4_downward_19 (by decide) ?_
      exact tp_out (fun h => by cases h; exact hret _ _ _ _ ⟨rfl, rfl⟩ dX4_downward_23)
    · exact v_to [] (hj2 _) rfl
def L3_ascentsInto_6 (c1 : Bool) (c2 : Int32) (c3 : Int32) (s0 : SS) : Nat → Int64 → Int32 → Option (Int64)
  | 0, _, _ => none
  | n + 1, v4, v6 => if v6 < (s0.1 (wB c1) 0) then if (v6 + 1) < 13 then bd (f4_feature c1 v6 0 s0) (fun v1 => bd (f4_feature c1 c2 0 s0) (fun v2 => lt (fun (v5 : Int32) => if v5 = 0 then lt (v6 + 1) (fun v6 => L3_ascentsInto_6 c1 c2 c3 s0 n v4 v6) else gd (inb (v6 + 1) 13) (bd (f5_has (s0.1 5 ((v6 + 1)).toNatClampNeg) (c2 + 1)) (fun v7 => if v7 = 0 then lt (v6 + 1) (fun v8 => L3_ascentsInto_6 c1 c2 c3 s0 n v4 v8) else bd (f3_skips c1 v6 c2 c3 s0) (fun v9 => if v9 = 0 then gd (inb (v6 + 1) 13) (lt ((v4 + (s0.2.1 9 ((v6 + 1)).toNatClampNeg))) (fun v10 => lt (v6 + 1) (fun v11 => L3_ascentsInto_6 c1 c2 c3 s0 n v10 v11))) else lt (v6 + 1) (fun v12 => L3_ascentsInto_6 c1 c2 c3 s0 n v4 v12))))) (fun j3 => if v1 < v2 then j3 1 else j3 0))) else some v4 else some v4
def f3_ascentsInto (w1 : Bool) (a2 : Int32) (a3 : Int32) (s0 : SS) : Option Int64 := bk1 (L3_ascentsInto_6 w1 a2 a3 s0 FU 0 (-1)) (fun v13 => some v13)
set_option maxHeartbeats 4000000 in
set_option maxRecDepth 100000 in
theorem l3_ascentsInto_6 {G : GT} {K : KT} (C : Ctx G K cX3_ascentsInto RX3 8 2 49) (c1 : Bool) (c2 : Int32) (c3 : Int32) (s0 : SS) {Ψ : Int64 → Prop} (hx : ∀ (o1 : Int64), Ψ o1 → V G K (wX G s0) 101 [(4, .long o1)] []) : ∀ (n : Nat) (v4 : Int64) (v6 : Int32), tp (L3_ascentsInto_6 c1 c2 c3 s0 n v4 v6) (k1 Ψ) → V G K (wX G s0) 6 [(0, .ref (aX G 4)), (1, .ref (aX G (wB c1))), (2, .int c2), (3, .int c3), (4, .long v4), (6, .int v6)] [] := by
  intro n
  induction n with
  | zero => intro v4 v6 h; exact tp_no h
  | succ n ih =>
    intro v4 v6
    rw [L3_ascentsInto_6]
    refine v_iload (pc := 6) C 5 rfl dX3_ascentsInto_6 ?_
    refine v_aload_n (pc := 8) C 1 rfl dX3_ascentsInto_8 ?_
    refine g4_branches c1 (pc := 9) C mw_659 dX3_ascentsInto_9 ?_
    refine v_icmp_ge (pc := 12) C 101 dX3_ascentsInto_12 (by decide) ?_ ?_
    · refine v_iload (pc := 15) C 5 rfl dX3_ascentsInto_15 ?_
      refine v_iconst (pc := 17) C 1 dX3_ascentsInto_17 (by decide) ?_
      refine v_iadd (pc := 18) C dX3_ascentsInto_18 ?_
      refine v_bipush (pc := 19) C 13 dX3_ascentsInto_19 (by decide) ?_
      refine v_icmp_ge (pc := 21) C 101 dX3_ascentsInto_21 (by decide) ?_ ?_
      · refine v_aload_n (pc := 24) C 1 rfl dX3_ascentsInto_24 ?_
        refine v_iload (pc := 25) C 5 rfl dX3_ascentsInto_25 ?_
        refine v_iconst (pc := 27) C 0 dX3_ascentsInto_27 (by decide) ?_
        refine cIv2r (pc := 28) C (fun r h => m4_feature G K.2.1 c1 v6 0 s0 r h) q_yX4_feature mw_663 (rc_4 c1) ⟨by decide, by decide⟩ (Nat.le_of_ble_eq_true rfl) dX3_ascentsInto_28 (fun v1 => ?_)
        refine v_aload_n (pc := 31) C 1 rfl dX3_ascentsInto_31 ?_
        refine v_iload_n (pc := 32) C 2 rfl dX3_ascentsInto_32 ?_
        refine v_iconst (pc := 33) C 0 dX3_ascentsInto_33 (by decide) ?_
        refine cIv2r (pc := 34) C (fun r h => m4_feature G K.2.1 c1 c2 0 s0 r h) q_yX4_feature mw_663 (rc_4 c1) ⟨by decide, by decide⟩ (Nat.le_of_ble_eq_true rfl) dX3_ascentsInto_34 (fun v2 => ?_)
        refine r_lJ (fun Φ0 j3 => ∀ (v5 : Int32), tp (j3 v5) Φ0 → V G K (wX G s0) 45 [(0, .ref (aX G 4)), (1, .ref (aX G (wB c1))), (2, .int c2), (3, .int c3), (4, .long v4), (6, .int v6)] [.int v5]) (fun v5 => ?_) (fun j3 hj4 => ?_)
        · refine v_istore (pc := 45) C dX3_ascentsInto_45 (by decide) (lv' := [(7, .int v5), (0, .ref (aX G 4)), (1, .ref (aX G (wB c1))), (2, .int c2), (3, .int c3), (4, .long v4), (6, .int v6)]) rfl ?_
          refine v_iload (pc := 47) C 0 rfl dX3_ascentsInto_47 ?_
          refine v_if_eq (pc := 49) C 95 dX3_ascentsInto_49 (by decide) ?_ ?_
          · refine v_iincL (pc := 95) C 1 6 dX3_ascentsInto_95 rfl (by decide) (by decide) (lv0 := [(7, .int v5), (0, .ref (aX G 4)), (1, .ref (aX G (wB c1))), (2, .int c2), (3, .int c3), (4, .long v4)]) rfl (fun v6 => ?_)
            refine v_goto (pc := 98) C 6 dX3_ascentsInto_98 (by decide) ?_
            exact v_to [2, 3, 4, 5, 6, 0] (ih _ _) rfl
          · refine v_aload_n (pc := 52) C 1 rfl dX3_ascentsInto_52 ?_
            refine g3_next (pc := 53) C mw_58 dX3_ascentsInto_53 ?_
            refine v_iload (pc := 56) C 6 rfl dX3_ascentsInto_56 ?_
            refine v_iconst (pc := 58) C 1 dX3_ascentsInto_58 (by decide) ?_
            refine v_iadd (pc := 59) C dX3_ascentsInto_59 ?_
            refine v_iald (pc := 60) C _ ax_5 dX3_ascentsInto_60 ?_
            refine v_iload_n (pc := 61) C 3 rfl dX3_ascentsInto_61 ?_
            refine v_iconst (pc := 62) C 1 dX3_ascentsInto_62 (by decide) ?_
            refine v_iadd (pc := 63) C dX3_ascentsInto_63 ?_
            refine cIn2r RX5 (pc := 64) C (fun r h => m5_has G K.2.1 (s0.1 5 ((v6 + 1)).toNatClampNeg) (c2 + 1) _ r h) q_yX5_has (by decide +kernel) ⟨by decide, by decide⟩ (Nat.le_of_ble_eq_true rfl) dX3_ascentsInto_64 (fun v7 => ?_)
            refine v_if_eq (pc := 67) C 95 dX3_ascentsInto_67 (by decide) ?_ ?_
            · refine v_iincL (pc := 95) C 1 6 dX3_ascentsInto_95 rfl (by decide) (by decide) (lv0 := [(7, .int v5), (0, .ref (aX G 4)), (1, .ref (aX G (wB c1))), (2, .int c2), (3, .int c3), (4, .long v4)]) rfl (fun v8 => ?_)
              refine v_goto (pc := 98) C 6 dX3_ascentsInto_98 (by decide) ?_
              exact v_to [2, 3, 4, 5, 6, 0] (ih _ _) rfl
            · refine v_aload_n (pc := 70) C 2 rfl dX3_ascentsInto_70 ?_
              refine v_iload (pc := 71) C 6 rfl dX3_ascentsInto_71 ?_
              refine v_iload_n (pc := 73) C 3 rfl dX3_ascentsInto_73 ?_
              refine v_iload_n (pc := 74) C 4 rfl dX3_ascentsInto_74 ?_
              refine cIs4r (pc := 75) C (fun r h => m3_skips G K.2.1 c1 v6 c2 c3 s0 r h) q_yX3_skips mw_660 ⟨by decide, by decide⟩ (Nat.le_of_ble_eq_true rfl) dX3_ascentsInto_75 (fun v9 => ?_)
              refine v_if_ne (pc := 78) C 95 dX3_ascentsInto_78 (by decide) ?_ ?_
              · refine v_lload (pc := 81) C 5 rfl dX3_ascentsInto_81 ?_
                refine v_aload_n (pc := 83) C 1 rfl dX3_ascentsInto_83 ?_
                refine g3_counts (pc := 84) C mw_63 dX3_ascentsInto_84 ?_
                refine v_iload (pc := 87) C 6 rfl dX3_ascentsInto_87 ?_
                refine v_iconst (pc := 89) C 1 dX3_ascentsInto_89 (by decide) ?_
                refine v_iadd (pc := 90) C dX3_ascentsInto_90 ?_
                refine v_lald (pc := 91) C _ ax_9 dX3_ascentsInto_91 ?_
                refine v_ladd (pc := 92) C dX3_ascentsInto_92 ?_
                refine r_ltl (fun v10 => ?_)
                refine v_lstore (pc := 93) C dX3_ascentsInto_93 (by decide) (lv' := [(4, .long v10), (7, .int v5), (0, .ref (aX G 4)), (1, .ref (aX G (wB c1))), (2, .int c2), (3, .int c3), (6, .int v6)]) rfl ?_
                refine v_iincL (pc := 95) C 1 6 dX3_ascentsInto_95 rfl (by decide) (by decide) (lv0 := [(4, .long v10), (7, .int v5), (0, .ref (aX G 4)), (1, .ref (aX G (wB c1))), (2, .int c2), (3, .int c3)]) rfl (fun v11 => ?_)
                refine v_goto (pc := 98) C 6 dX3_ascentsInto_98 (by decide) ?_
                exact v_to [3, 4, 5, 6, 1, 0] (ih _ _) rfl
              · refine v_iincL (pc := 95) C 1 6 dX3_ascentsInto_95 rfl (by decide) (by decide) (lv0 := [(7, .int v5), (0, .ref (aX G 4)), (1, .ref (aX G (wB c1))), (2, .int c2), (3, .int c3), (4, .long v4)]) rfl (fun v12 => ?_)
                refine v_goto (pc := 98) C 6 dX3_ascentsInto_98 (by decide) ?_
                exact v_to [2, 3, 4, 5, 6, 0] (ih _ _) rfl
        refine v_icmp_ge (pc := 37) C 44 dX3_ascentsInto_37 (by decide) ?_ ?_
        · refine v_iconst (pc := 40) C 1 dX3_ascentsInto_40 (by decide) ?_
          refine v_goto (pc := 41) C 45 dX3_ascentsInto_41 (by decide) ?_
          exact v_to [0, 1, 2, 3, 4, 5] (hj4 _) rfl
        · refine v_iconst (pc := 44) C 0 dX3_ascentsInto_44 (by decide) ?_
          exact v_to [0, 1, 2, 3, 4, 5] (hj4 _) rfl
      · exact tp_out (fun h => v_to [4] (hx _) rfl h)
    · exact tp_out (fun h => v_to [4] (hx _) rfl h)
set_option maxHeartbeats 4000000 in
set_option maxRecDepth 100000 in
theorem m3_ascentsInto (G : GT) (l : Launch) (w1 : Bool) (a2 : Int32) (a3 : Int32)  (s0 : SS) (r : Int64) (hf : f3_ascentsInto w1 a2 a3 s0 = some r) : ML G l yX3_ascentsInto cX3_ascentsInto 8 (some .long) 2 49 [.ref (aX G 4), .ref (aX G (wB w1)), .int a2, .int a3] (wX G s0) r (wX G s0) := by
  refine ML.start (by decide +kernel) (Nat.le_of_ble_eq_true rfl) (fun K hl C hret => ?_)
  subst hl
  have C : Ctx G K cX3_ascentsInto RX3 8 2 49 := C
  change V G K (wX G s0) 0 [(0, .ref (aX G 4)), (1, .ref (aX G (wB w1))), (2, .int a2), (3, .int a3)] []
  refine (?_ : tp (f3_ascentsInto w1 a2 a3 s0) (fun q => q = r) → _) ⟨_, hf, rfl⟩
  rw [f3_ascentsInto]
  refine v_lconst (pc := 0) C 0 dX3_ascentsInto_0 (by decide) ?_
  refine v_lstore (pc := 1) C dX3_ascentsInto_1 (by decide) (lv' := [(4, .long 0), (0, .ref (aX G 4)), (1, .ref (aX G (wB w1))), (2, .int a2), (3, .int a3)]) rfl ?_
  refine v_iconst (pc := 3) C (-1) dX3_ascentsInto_3 (by decide) ?_
  refine v_istore (pc := 4) C dX3_ascentsInto_4 (by decide) (lv' := [(6, .int (-1)), (4, .long 0), (0, .ref (aX G 4)), (1, .ref (aX G (wB w1))), (2, .int a2), (3, .int a3)]) rfl ?_
  refine r_bk1 ?_
  refine v_to [2, 3, 4, 5, 1, 0] (l3_ascentsInto_6 C w1 a2 a3 s0 (fun v13 => ?_) FU _ _) rfl
  refine v_lload (pc := 101) C 0 rfl dX3_ascentsInto_101 ?_
  exact tp_out (fun h => by cases h; exact hret _ _ _ _ ⟨rfl, rfl⟩ dX3_ascentsInto_103)
def L3_ascents_16 (c1 : Bool) (c2 : Int32) (c3 : Int32) : Nat → Int32 → SS → Option (SS)
  | 0, _, _ => none
  | n + 1, v4, s => if v4 < 13 then lt (fun (v4 : Int64) => gd (inb v4 13) (lt (sL s 9 (Int32.toNatClampNeg v4) v4) (fun s5 => lt (v4 + 1) (fun v6 => L3_ascents_16 c1 c2 c3 n v6 s5)))) (fun j2 => if v4 = 0 then j2 1 else j2 0) else some s
def L3_ascents_54 (c1 : Bool) (c2 : Int32) (c3 : Int32) : Nat → Int32 → SS → Option (SS)
  | 0, _, _ => none
  | n + 1, v4, s => if v4 < 0 then some s else bd (f4_downward c1 v4 s) (fun v9 => bd (f3_isIn (v9 + 1)) (fun v10 => if v10 = 0 then lt (v4 + (-1)) (fun v11 => L3_ascents_54 c1 c2 c3 n v11 s) else bd (f3_ascentsInto c1 v9 c3 s) (fun v12 => gd (inb (v9 + 1) 13) (lt (sL s 9 (Int32.toNatClampNeg (v9 + 1)) v12) (fun s13 => lt (v4 + (-1)) (fun v14 => L3_ascents_54 c1 c2 c3 n v14 s13))))))
def f3_ascents (w1 : Bool) (a2 : Int32) (a3 : Int32) (s0 : SS) : Option (Int64 × SS) := bd (f3_skips w1 a2 12 a3 s0) (fun v1 => if v1 = 0 then bk1 (L3_ascents_16 w1 a2 a3 FU 0 s0) (fun s7 => lt (((s7.1 (wB w1) 0) - 1)) (fun v8 => bk1 (L3_ascents_54 w1 a2 a3 FU v8 s7) (fun s15 => bd (f3_isIn (a2 + 1)) (fun v16 => if v16 = 0 then some (0, s15) else gd (inb (a2 + 1) 13) (some ((s15.2.1 9 ((a2 + 1)).toNatClampNeg), s15)))))) else some (0, s0))
set_option maxHeartbeats 4000000 in
set_option maxRecDepth 100000 in
theorem l3_ascents_16 {G : GT} {K : KT} (C : Ctx G K cX3_ascents RX3 6 3 76) (c1 : Bool) (c2 : Int32) (c3 : Int32) {Ψ : SS → Prop} (hx : ∀ (so : SS), Ψ so → V G K (wX G so) 46 [(0, .ref (aX G 4)), (1, .ref (aX G (wB c1))), (2, .int c2), (3, .int c3)] []) : ∀ (n : Nat) (v4 : Int32) (s : SS), tp (L3_ascents_16 c1 c2 c3 n v4 s) (k1 Ψ) → V G K (wX G s) 16 [(0, .ref (aX G 4)), (1, .ref (aX G (wB c1))), (2, .int c2), (3, .int c3), (4, .int v4)] [] := by
  intro n
  induction n with
  | zero => intro v4 s h; exact tp_no h
  | succ n ih =>
    intro v4 s
    rw [L3_ascents_16]
    refine v_iload (pc := 16) C 4 rfl dX3_ascents_16 ?_
    refine v_bipush (pc := 18) C 13 dX3_ascents_18 (by decide) ?_
    refine v_icmp_ge (pc := 20) C 46 dX3_ascents_20 (by decide) ?_ ?_
    · refine v_aload_n (pc := 23) C 0 rfl dX3_ascents_23 ?_
      refine g3_counts (pc := 24) C mw_63 dX3_ascents_24 ?_
      refine v_iload (pc := 27) C 4 rfl dX3_ascents_27 ?_
      refine v_iload (pc := 29) C 4 rfl dX3_ascents_29 ?_
      refine r_lJ (fun Φ0 j2 => ∀ (v4 : Int64), tp (j2 v4) Φ0 → V G K (wX G s) 39 [(0, .ref (aX G 4)), (1, .ref (aX G (wB c1))), (2, .int c2), (3, .int c3), (4, .int v4)] [.long v4, .int v4, .ref (aX G 9)]) (fun v4 => ?_) (fun j2 hj3 => ?_)
      · refine v_last (pc := 39) C _ ax_9 (as_9 _ _) dX3_ascents_39 ?_
        refine r_ltx (fun s5 => ?_)
        refine v_iincL (pc := 40) C 1 4 dX3_ascents_40 rfl (by decide) (by decide) (lv0 := [(0, .ref (aX G 4)), (1, .ref (aX G (wB c1))), (2, .int c2), (3, .int c3)]) rfl (fun v6 => ?_)
        refine v_goto (pc := 43) C 16 dX3_ascents_43 (by decide) ?_
        exact v_to [1, 2, 3, 4, 0] (ih _ _) rfl
      refine v_if_ne (pc := 31) C 38 dX3_ascents_31 (by decide) ?_ ?_
      · refine v_lconst (pc := 34) C 1 dX3_ascents_34 (by decide) ?_
        refine v_goto (pc := 35) C 39 dX3_ascents_35 (by decide) ?_
        exact v_to [0, 1, 2, 3, 4] (hj3 _) rfl
      · refine v_lconst (pc := 38) C 0 dX3_ascents_38 (by decide) ?_
        exact v_to [0, 1, 2, 3, 4] (hj3 _) rfl
    · exact tp_out (fun h => v_to [0, 1, 2, 3] (hx _) rfl h)
set_option maxHeartbeats 4000000 in
set_option maxRecDepth 100000 in
theorem l3_ascents_54 {G : GT} {K : KT} (C : Ctx G K cX3_ascents RX3 6 3 76) (c1 : Bool) (c2 : Int32) (c3 : Int32) {Ψ : SS → Prop} (hx : ∀ (so : SS), Ψ so → V G K (wX G so) 100 [(0, .ref (aX G 4)), (2, .int c2)] []) : ∀ (n : Nat) (v4 : Int32) (s : SS), tp (L3_ascents_54 c1 c2 c3 n v4 s) (k1 Ψ) → V G K (wX G s) 54 [(0, .ref (aX G 4)), (1, .ref (aX G (wB c1))), (2, .int c2), (3, .int c3), (4, .int v4)] [] := by
  intro n
  induction n with
  | zero => intro v4 s h; exact tp_no h
  | succ n ih =>
    intro v4 s
    rw [L3_ascents_54]
    refine v_iload (pc := 54) C 4 rfl dX3_ascents_54 ?_
    refine v_if_lt (pc := 56) C 100 dX3_ascents_56 (by decide) ?_ ?_
    · exact tp_out (fun h => v_to [0, 2] (hx _) rfl h)
    · refine v_aload_n (pc := 59) C 1 rfl dX3_ascents_59 ?_
      refine v_iload (pc := 60) C 4 rfl dX3_ascents_60 ?_
      refine cIv1r (pc := 62) C (fun r h => m4_downward G K.2.1 c1 v4 s r h) q_yX4_downward mw_664 (rc_4 c1) ⟨by decide, by decide⟩ (Nat.le_of_ble_eq_true rfl) dX3_ascents_62 (fun v9 => ?_)
      refine v_istore (pc := 65) C dX3_ascents_65 (by decide) (lv' := [(5, .int v9), (0, .ref (aX G 4)), (1, .ref (aX G (wB c1))), (2, .int c2), (3, .int c3), (4, .int v4)]) rfl ?_
      refine v_iload (pc := 67) C 0 rfl dX3_ascents_67 ?_
      refine v_iconst (pc := 69) C 1 dX3_ascents_69 (by decide) ?_
      refine v_iadd (pc := 70) C dX3_ascents_70 ?_
      refine cIs1r (pc := 71) C (fun r h => m3_isIn G K.2.1 (v9 + 1) _ r h) q_yX3_isIn mw_520 ⟨by decide, by decide⟩ (Nat.le_of_ble_eq_true rfl) dX3_ascents_71 (fun v10 => ?_)
      refine v_if_eq (pc := 74) C 94 dX3_ascents_74 (by decide) ?_ ?_
      · refine v_iincL (pc := 94) C (-1) 5 dX3_ascents_94 rfl (by decide) (by decide) (lv0 := [(5, .int v9), (0, .ref (aX G 4)), (1, .ref (aX G (wB c1))), (2, .int c2), (3, .int c3)]) rfl (fun v11 => ?_)
        refine v_goto (pc := 97) C 54 dX3_ascents_97 (by decide) ?_
        exact v_to [2, 3, 4, 5, 0] (ih _ _) rfl
      · refine v_aload_n (pc := 77) C 1 rfl dX3_ascents_77 ?_
        refine g3_counts (pc := 78) C mw_63 dX3_ascents_78 ?_
        refine v_iload (pc := 81) C 0 rfl dX3_ascents_81 ?_
        refine v_iconst (pc := 83) C 1 dX3_ascents_83 (by decide) ?_
        refine v_iadd (pc := 84) C dX3_ascents_84 ?_
        refine v_aload_n (pc := 85) C 1 rfl dX3_ascents_85 ?_
        refine v_aload_n (pc := 86) C 2 rfl dX3_ascents_86 ?_
        refine v_iload (pc := 87) C 0 rfl dX3_ascents_87 ?_
        refine v_iload_n (pc := 89) C 4 rfl dX3_ascents_89 ?_
        refine cLv3r (pc := 90) C (fun r h => m3_ascentsInto G K.2.1 c1 v9 c3 s r h) q_yX3_ascentsInto mw_668 rc_3 ⟨by decide, by decide⟩ (Nat.le_of_ble_eq_true rfl) dX3_ascents_90 (fun v12 => ?_)
        refine v_last (pc := 93) C _ ax_9 (as_9 _ _) dX3_ascents_93 ?_
        refine r_ltx (fun s13 => ?_)
        refine v_iincL (pc := 94) C (-1) 5 dX3_ascents_94 rfl (by decide) (by decide) (lv0 := [(5, .int v9), (0, .ref (aX G 4)), (1, .ref (aX G (wB c1))), (2, .int c2), (3, .int c3)]) rfl (fun v14 => ?_)
        refine v_goto (pc := 97) C 54 dX3_ascents_97 (by decide) ?_
        exact v_to [2, 3, 4, 5, 0] (ih _ _) rfl
set_option maxHeartbeats 4000000 in
set_option maxRecDepth 100000 in
theorem m3_ascents (G : GT) (l : Launch) (w1 : Bool) (a2 : Int32) (a3 : Int32)  (s0 : SS) (r : Int64) (s1 : SS) (hf : f3_ascents w1 a2 a3 s0 = some (r, s1)) : ML G l yX3_ascents cX3_ascents 6 (some .long) 3 76 [.ref (aX G 4), .ref (aX G (wB w1)), .int a2, .int a3] (wX G s0) r (wX G s1) := by
  refine ML.start (by decide +kernel) (Nat.le_of_ble_eq_true rfl) (fun K hl C hret => ?_)
  subst hl
  have C : Ctx G K cX3_ascents RX3 6 3 76 := C
  change V G K (wX G s0) 0 [(0, .ref (aX G 4)), (1, .ref (aX G (wB w1))), (2, .int a2), (3, .int a3)] []
  refine (?_ : tp (f3_ascents w1 a2 a3 s0) (fun q => q = (r, s1)) → _) ⟨_, hf, rfl⟩
  rw [f3_ascents]
  refine v_aload_n (pc := 0) C 1 rfl dX3_ascents_0 ?_
  refine v_iload_n (pc := 1) C 2 rfl dX3_ascents_1 ?_
  refine v_bipush (pc := 2) C 12 dX3_ascents_2 (by decide) ?_
  refine v_iload_n (pc := 4) C 3 rfl dX3_ascents_4 ?_
  refine cIs4r (pc := 5) C (fun r h => m3_skips G K.2.1 w1 a2 12 a3 s0 r h) q_yX3_skips mw_660 ⟨by decide, by decide⟩ (Nat.le_of_ble_eq_true rfl) dX3_ascents_5 (fun v1 => ?_)
  refine v_if_eq (pc := 8) C 13 dX3_ascents_8 (by decide) ?_ ?_
  · refine v_iconst (pc := 13) C 0 dX3_ascents_13 (by decide) ?_
    refine v_istore (pc := 14) C dX3_ascents_14 (by decide) (lv' := [(4, .int 0), (0, .ref (aX G 4)), (1, .ref (aX G (wB w1))), (2, .int a2), (3, .int a3)]) rfl ?_
    refine r_bk1 ?_
    refine v_to [1, 2, 3, 4, 0] (l3_ascents_16 C w1 a2 a3 (fun s7 => ?_) FU _ _) rfl
    refine v_aload_n (pc := 46) C 1 rfl dX3_ascents_46 ?_
    refine g4_branches w1 (pc := 47) C mw_659 dX3_ascents_47 ?_
    refine v_iconst (pc := 50) C 1 dX3_ascents_50 (by decide) ?_
    refine v_isub (pc := 51) C dX3_ascents_51 ?_
    refine r_lti (fun v8 => ?_)
    refine v_istore (pc := 52) C dX3_ascents_52 (by decide) (lv' := [(4, .int v8), (0, .ref (aX G 4)), (1, .ref (aX G (wB w1))), (2, .int a2), (3, .int a3)]) rfl ?_
    refine r_bk1 ?_
    refine v_to [1, 2, 3, 4, 0] (l3_ascents_54 C w1 a2 a3 (fun s15 => ?_) FU _ _) rfl
    refine v_iload_n (pc := 100) C 1 rfl dX3_ascents_100 ?_
    refine v_iconst (pc := 101) C 1 dX3_ascents_101 (by decide) ?_
    refine v_iadd (pc := 102) C dX3_ascents_102 ?_
    refine cIs1r (pc := 103) C (fun r h => m3_isIn G K.2.1 (a2 + 1) _ r h) q_yX3_isIn mw_520 ⟨by decide, by decide⟩ (Nat.le_of_ble_eq_true rfl) dX3_ascents_103 (fun v16 => ?_)
    refine v_if_eq (pc := 106) C 120 dX3_ascents_106 (by decide) ?_ ?_
    · refine v_lconst (pc := 120) C 0 dX3_ascents_120 (by decide) ?_
      exact tp_out (fun h => by cases h; exact hret _ _ _ _ ⟨rfl, rfl⟩ dX3_ascents_121)
    · refine v_aload_n (pc := 109) C 0 rfl dX3_ascents_109 ?_
      refine g3_counts (pc := 110) C mw_63 dX3_ascents_110 ?_
      refine v_iload_n (pc := 113) C 1 rfl dX3_ascents_113 ?_
      refine v_iconst (pc := 114) C 1 dX3_ascents_114 (by decide) ?_
      refine v_iadd (pc := 115) C dX3_ascents_115 ?_
      refine v_lald (pc := 116) C _ ax_9 dX3_ascents_116 ?_
      refine v_goto (pc := 117) C 121 dX3_ascents_117 (by decide) ?_
      exact tp_out (fun h => by cases h; exact hret _ _ _ _ ⟨rfl, rfl⟩ dX3_ascents_121)
  · refine v_lconst (pc := 11) C 0 dX3_ascents_11 (by decide) ?_
    exact tp_out (fun h => by cases h; exact hret _ _ _ _ ⟨rfl, rfl⟩ dX3_ascents_12)
def f4_empty (w0 : Bool) (s0 : SS) : Option SS := lt (sI s0 (wB w0) 0 0) (fun s1 => lt (sI s1 (wB w0) 1 0) (fun s2 => some s2))
set_option maxHeartbeats 4000000 in
set_option maxRecDepth 100000 in
theorem m4_empty (G : GT) (l : Launch) (w0 : Bool)  (s0 : SS) (s1 : SS) (hf : f4_empty w0 s0 = some s1) : MV G l yX4_empty cX4_empty 1 none 0 0 [.ref (aX G (wB w0))] (wX G s0) (wX G s1) := by
  refine MV.start (by decide +kernel) (Nat.le_of_ble_eq_true rfl) (fun K hl C hret => ?_)
  subst hl
  have C : Ctx G K cX4_empty RX4 1 0 0 := C
  change V G K (wX G s0) 0 [(0, .ref (aX G (wB w0)))] []
  refine (?_ : tp (f4_empty w0 s0) (fun q => q = s1) → _) ⟨_, hf, rfl⟩
  rw [f4_empty]
  refine v_aload_n (pc := 0) C 0 rfl dX4_empty_0 ?_
  refine v_iconst (pc := 1) C 0 dX4_empty_1 (by decide) ?_
  refine p4_branches w0 (pc := 2) C mw_88 dX4_empty_2 ?_
  refine r_ltx (fun s1 => ?_)
  refine v_aload_n (pc := 5) C 0 rfl dX4_empty_5 ?_
  refine v_iconst (pc := 6) C 0 dX4_empty_6 (by decide) ?_
  refine p4_bodies w0 (pc := 7) C mw_89 dX4_empty_7 ?_
  refine r_ltx (fun s2 => ?_)
  exact tp_out (fun h => by cases h; exact hret _ _ _ rfl dX4_empty_10)
def f4_setFeature (w0 : Bool) (a1 : Int32) (a2 : Int32) (a3 : Int32) (s0 : SS) : Option SS := if a1 < 0 then some s0 else if a1 < 12 then if a2 < 0 then some s0 else if a2 < 6 then gd (inb a2 6) (gd (inb a1 12) (lt (sI s0 (wB w0 + 2 + (Int32.toNatClampNeg a2)) (Int32.toNatClampNeg a1) a3) (fun s2 => some s2))) else some s0 else some s0
set_option maxHeartbeats 4000000 in
set_option maxRecDepth 100000 in
theorem m4_setFeature (G : GT) (l : Launch) (w0 : Bool) (a1 : Int32) (a2 : Int32) (a3 : Int32)  (s0 : SS) (s1 : SS) (hf : f4_setFeature w0 a1 a2 a3 s0 = some s1) : MV G l yX4_setFeature cX4_setFeature 4 none 0 0 [.ref (aX G (wB w0)), .int a1, .int a2, .int a3] (wX G s0) (wX G s1) := by
  refine MV.start (by decide +kernel) (Nat.le_of_ble_eq_true rfl) (fun K hl C hret => ?_)
  subst hl
  have C : Ctx G K cX4_setFeature RX4 4 0 0 := C
  change V G K (wX G s0) 0 [(0, .ref (aX G (wB w0))), (1, .int a1), (2, .int a2), (3, .int a3)] []
  refine (?_ : tp (f4_setFeature w0 a1 a2 a3 s0) (fun q => q = s1) → _) ⟨_, hf, rfl⟩
  rw [f4_setFeature]
  refine v_iload_n (pc := 0) C 1 rfl dX4_setFeature_0 ?_
  refine v_if_lt (pc := 1) C 29 dX4_setFeature_1 (by decide) ?_ ?_
  · exact tp_out (fun h => by cases h; exact hret _ _ _ rfl dX4_setFeature_29)
  · refine v_iload_n (pc := 4) C 1 rfl dX4_setFeature_4 ?_
    refine v_bipush (pc := 5) C 12 dX4_setFeature_5 (by decide) ?_
    refine v_icmp_ge (pc := 7) C 29 dX4_setFeature_7 (by decide) ?_ ?_
    · refine v_iload_n (pc := 10) C 2 rfl dX4_setFeature_10 ?_
      refine v_if_lt (pc := 11) C 29 dX4_setFeature_11 (by decide) ?_ ?_
      · exact tp_out (fun h => by cases h; exact hret _ _ _ rfl dX4_setFeature_29)
      · refine v_iload_n (pc := 14) C 2 rfl dX4_setFeature_14 ?_
        refine v_bipush (pc := 15) C 6 dX4_setFeature_15 (by decide) ?_
        refine v_icmp_ge (pc := 17) C 29 dX4_setFeature_17 (by decide) ?_ ?_
        · refine v_aload_n (pc := 20) C 0 rfl dX4_setFeature_20 ?_
          refine g4_features w0 (pc := 21) C mw_91 dX4_setFeature_21 ?_
          refine v_iload_n (pc := 24) C 2 rfl dX4_setFeature_24 ?_
          refine v_aldA (pc := 25) C _ (ax_f2 w0) (fun h => if_pos h.2) dX4_setFeature_25 (fun hi1 => ?_)
          refine v_iload_n (pc := 26) C 1 rfl dX4_setFeature_26 ?_
          refine v_iload_n (pc := 27) C 3 rfl dX4_setFeature_27 ?_
          refine v_iast (pc := 28) C _ (ax_fr w0 (Int32.toNatClampNeg a2) hi1.2) (as_fr w0 (Int32.toNatClampNeg a2) hi1.2 _ _) dX4_setFeature_28 ?_
          refine r_ltx (fun s2 => ?_)
          exact tp_out (fun h => by cases h; exact hret _ _ _ rfl dX4_setFeature_29)
        · exact tp_out (fun h => by cases h; exact hret _ _ _ rfl dX4_setFeature_29)
    · exact tp_out (fun h => by cases h; exact hret _ _ _ rfl dX4_setFeature_29)
def f4_power (w0 : Bool) (a1 : Int32) (a2 : Int32) (s0 : SS) : Option Int32 := lt (fun (_u : Unit) => some 0) (fun j1 => if a1 < 0 then j1 () else if a1 < 3 then if a2 < 0 then j1 () else if a2 < 3 then gd (inb a2 3) (gd (inb a1 3) (some (s0.1 (wB w0 + 9 + (Int32.toNatClampNeg a2)) a1.toNatClampNeg))) else j1 () else j1 ())
set_option maxHeartbeats 4000000 in
set_option maxRecDepth 100000 in
theorem m4_power (G : GT) (l : Launch) (w0 : Bool) (a1 : Int32) (a2 : Int32)  (s0 : SS) (r : Int32) (hf : f4_power w0 a1 a2 s0 = some r) : MI G l yX4_power cX4_power 3 (some .int) 0 0 [.ref (aX G (wB w0)), .int a1, .int a2] (wX G s0) r (wX G s0) := by
  refine MI.start (by decide +kernel) (Nat.le_of_ble_eq_true rfl) (fun K hl C hret => ?_)
  subst hl
  have C : Ctx G K cX4_power RX4 3 0 0 := C
  change V G K (wX G s0) 0 [(0, .ref (aX G (wB w0))), (1, .int a1), (2, .int a2)] []
  refine (?_ : tp (f4_power w0 a1 a2 s0) (fun q => q = r) → _) ⟨_, hf, rfl⟩
  rw [f4_power]
  refine v_iload_n (pc := 0) C 1 rfl dX4_power_0 ?_
  refine r_lJ (fun Φ0 j1 => ∀ (_u : Unit), tp (j1 ()) Φ0 → V G K (wX G s0) 29 [] []) (fun _u => ?_) (fun j1 hj2 => ?_)
  · refine v_iconst (pc := 29) C 0 dX4_power_29 (by decide) ?_
    exact tp_out (fun h => by cases h; exact hret _ _ _ _ ⟨rfl, rfl⟩ dX4_power_30)
  refine v_if_lt (pc := 1) C 29 dX4_power_1 (by decide) ?_ ?_
  · exact v_to [] (hj2 _) rfl
  · refine v_iload_n (pc := 4) C 1 rfl dX4_power_4 ?_
    refine v_iconst (pc := 5) C 3 dX4_power_5 (by decide) ?_
    refine v_icmp_ge (pc := 6) C 29 dX4_power_6 (by decide) ?_ ?_
    · refine v_iload_n (pc := 9) C 2 rfl dX4_power_9 ?_
      refine v_if_lt (pc := 10) C 29 dX4_power_10 (by decide) ?_ ?_
      · exact v_to [] (hj2 _) rfl
      · refine v_iload_n (pc := 13) C 2 rfl dX4_power_13 ?_
        refine v_iconst (pc := 14) C 3 dX4_power_14 (by decide) ?_
        refine v_icmp_ge (pc := 15) C 29 dX4_power_15 (by decide) ?_ ?_
        · refine v_aload_n (pc := 18) C 0 rfl dX4_power_18 ?_
          refine g4_powers w0 (pc := 19) C mw_92 dX4_power_19 ?_
          refine v_iload_n (pc := 22) C 2 rfl dX4_power_22 ?_
          refine v_aldA (pc := 23) C _ (ax_p2 w0) (fun h => if_pos h.2) dX4_power_23 (fun hi3 => ?_)
          refine v_iload_n (pc := 24) C 1 rfl dX4_power_24 ?_
          refine v_iald (pc := 25) C _ (ax_pr w0 (Int32.toNatClampNeg a2) hi3.2) dX4_power_25 ?_
          refine v_goto (pc := 26) C 30 dX4_power_26 (by decide) ?_
          exact tp_out (fun h => by cases h; exact hret _ _ _ _ ⟨rfl, rfl⟩ dX4_power_30)
        · exact v_to [] (hj2 _) rfl
    · exact v_to [] (hj2 _) rfl
def f4_setPower (w0 : Bool) (a1 : Int32) (a2 : Int32) (a3 : Int32) (s0 : SS) : Option SS := if a1 < 0 then some s0 else if a1 < 3 then if a2 < 0 then some s0 else if a2 < 3 then gd (inb a2 3) (gd (inb a1 3) (lt (sI s0 (wB w0 + 9 + (Int32.toNatClampNeg a2)) (Int32.toNatClampNeg a1) a3) (fun s2 => some s2))) else some s0 else some s0
set_option maxHeartbeats 4000000 in
set_option maxRecDepth 100000 in
theorem m4_setPower (G : GT) (l : Launch) (w0 : Bool) (a1 : Int32) (a2 : Int32) (a3 : Int32)  (s0 : SS) (s1 : SS) (hf : f4_setPower w0 a1 a2 a3 s0 = some s1) : MV G l yX4_setPower cX4_setPower 4 none 0 0 [.ref (aX G (wB w0)), .int a1, .int a2, .int a3] (wX G s0) (wX G s1) := by
  refine MV.start (by decide +kernel) (Nat.le_of_ble_eq_true rfl) (fun K hl C hret => ?_)
  subst hl
  have C : Ctx G K cX4_setPower RX4 4 0 0 := C
  change V G K (wX G s0) 0 [(0, .ref (aX G (wB w0))), (1, .int a1), (2, .int a2), (3, .int a3)] []
  refine (?_ : tp (f4_setPower w0 a1 a2 a3 s0) (fun q => q = s1) → _) ⟨_, hf, rfl⟩
  rw [f4_setPower]
  refine v_iload_n (pc := 0) C 1 rfl dX4_setPower_0 ?_
  refine v_if_lt (pc := 1) C 27 dX4_setPower_1 (by decide) ?_ ?_
  · exact tp_out (fun h => by cases h; exact hret _ _ _ rfl dX4_setPower_27)
  · refine v_iload_n (pc := 4) C 1 rfl dX4_setPower_4 ?_
    refine v_iconst (pc := 5) C 3 dX4_setPower_5 (by decide) ?_
    refine v_icmp_ge (pc := 6) C 27 dX4_setPower_6 (by decide) ?_ ?_
    · refine v_iload_n (pc := 9) C 2 rfl dX4_setPower_9 ?_
      refine v_if_lt (pc := 10) C 27 dX4_setPower_10 (by decide) ?_ ?_
      · exact tp_out (fun h => by cases h; exact hret _ _ _ rfl dX4_setPower_27)
      · refine v_iload_n (pc := 13) C 2 rfl dX4_setPower_13 ?_
        refine v_iconst (pc := 14) C 3 dX4_setPower_14 (by decide) ?_
        refine v_icmp_ge (pc := 15) C 27 dX4_setPower_15 (by decide) ?_ ?_
        · refine v_aload_n (pc := 18) C 0 rfl dX4_setPower_18 ?_
          refine g4_powers w0 (pc := 19) C mw_92 dX4_setPower_19 ?_
          refine v_iload_n (pc := 22) C 2 rfl dX4_setPower_22 ?_
          refine v_aldA (pc := 23) C _ (ax_p2 w0) (fun h => if_pos h.2) dX4_setPower_23 (fun hi1 => ?_)
          refine v_iload_n (pc := 24) C 1 rfl dX4_setPower_24 ?_
          refine v_iload_n (pc := 25) C 3 rfl dX4_setPower_25 ?_
          refine v_iast (pc := 26) C _ (ax_pr w0 (Int32.toNatClampNeg a2) hi1.2) (as_pr w0 (Int32.toNatClampNeg a2) hi1.2 _ _) dX4_setPower_26 ?_
          refine r_ltx (fun s2 => ?_)
          exact tp_out (fun h => by cases h; exact hret _ _ _ rfl dX4_setPower_27)
        · exact tp_out (fun h => by cases h; exact hret _ _ _ rfl dX4_setPower_27)
    · exact tp_out (fun h => by cases h; exact hret _ _ _ rfl dX4_setPower_27)
def f4_all (w0 : Bool) (s0 : SS) : Option Int32 := some ((1 <<< ((s0.1 (wB w0) 0) &&& 31)) - 1)
set_option maxHeartbeats 4000000 in
set_option maxRecDepth 100000 in
theorem m4_all (G : GT) (l : Launch) (w0 : Bool)  (s0 : SS) (r : Int32) (hf : f4_all w0 s0 = some r) : MI G l yX4_all cX4_all 1 (some .int) 0 0 [.ref (aX G (wB w0))] (wX G s0) r (wX G s0) := by
  refine MI.start (by decide +kernel) (Nat.le_of_ble_eq_true rfl) (fun K hl C hret => ?_)
  subst hl
  have C : Ctx G K cX4_all RX4 1 0 0 := C
  change V G K (wX G s0) 0 [(0, .ref (aX G (wB w0)))] []
  refine (?_ : tp (f4_all w0 s0) (fun q => q = r) → _) ⟨_, hf, rfl⟩
  rw [f4_all]
  refine v_iconst (pc := 0) C 1 dX4_all_0 (by decide) ?_
  refine v_aload_n (pc := 1) C 0 rfl dX4_all_1 ?_
  refine g4_branches w0 (pc := 2) C mw_88 dX4_all_2 ?_
  refine v_ishl (pc := 5) C dX4_all_5 ?_
  refine v_iconst (pc := 6) C 1 dX4_all_6 (by decide) ?_
  refine v_isub (pc := 7) C dX4_all_7 ?_
  exact tp_out (fun h => by cases h; exact hret _ _ _ _ ⟨rfl, rfl⟩ dX4_all_8)
def f4_sidesApart (w0 : Bool) (a1 : Int32) (a2 : Int32) (s0 : SS) : Option Int32 := bd (f4_feature w0 a1 1 s0) (fun v1 => bd (f4_feature w0 a2 1 s0) (fun v2 => lt (if 0 ≤ (v1 - v2) then (v1 - v2) else 0 - (v1 - v2)) (fun v3 => lt (if (8 - v3) < v3 then (8 - v3) else v3) (fun v4 => some v4))))
set_option maxHeartbeats 4000000 in
set_option maxRecDepth 100000 in
theorem m4_sidesApart (G : GT) (l : Launch) (w0 : Bool) (a1 : Int32) (a2 : Int32)  (s0 : SS) (r : Int32) (hf : f4_sidesApart w0 a1 a2 s0 = some r) : MI G l yX4_sidesApart cX4_sidesApart 4 (some .int) 1 23 [.ref (aX G (wB w0)), .int a1, .int a2] (wX G s0) r (wX G s0) := by
  refine MI.start (by decide +kernel) (Nat.le_of_ble_eq_true rfl) (fun K hl C hret => ?_)
  subst hl
  have C : Ctx G K cX4_sidesApart RX4 4 1 23 := C
  change V G K (wX G s0) 0 [(0, .ref (aX G (wB w0))), (1, .int a1), (2, .int a2)] []
  refine (?_ : tp (f4_sidesApart w0 a1 a2 s0) (fun q => q = r) → _) ⟨_, hf, rfl⟩
  rw [f4_sidesApart]
  refine v_aload_n (pc := 0) C 0 rfl dX4_sidesApart_0 ?_
  refine v_iload_n (pc := 1) C 1 rfl dX4_sidesApart_1 ?_
  refine v_iconst (pc := 2) C 1 dX4_sidesApart_2 (by decide) ?_
  refine cIv2r (pc := 3) C (fun r h => m4_feature G K.2.1 w0 a1 1 s0 r h) q_yX4_feature mw_287 (rc_4 w0) ⟨by decide, by decide⟩ (Nat.le_of_ble_eq_true rfl) dX4_sidesApart_3 (fun v1 => ?_)
  refine v_aload_n (pc := 6) C 0 rfl dX4_sidesApart_6 ?_
  refine v_iload_n (pc := 7) C 2 rfl dX4_sidesApart_7 ?_
  refine v_iconst (pc := 8) C 1 dX4_sidesApart_8 (by decide) ?_
  refine cIv2r (pc := 9) C (fun r h => m4_feature G K.2.1 w0 a2 1 s0 r h) q_yX4_feature mw_287 (rc_4 w0) ⟨by decide, by decide⟩ (Nat.le_of_ble_eq_true rfl) dX4_sidesApart_9 (fun v2 => ?_)
  refine v_isub (pc := 12) C dX4_sidesApart_12 ?_
  refine v_mabs (pc := 13) C mw_299 mw_300 mw_190 mw_301 (by decide) (Nat.le_of_ble_eq_true rfl) dX4_sidesApart_13 ?_
  refine r_lti (fun v3 => ?_)
  refine v_istore_n (pc := 16) C dX4_sidesApart_16 (by decide) (lv' := [(3, .int v3), (0, .ref (aX G (wB w0))), (1, .int a1), (2, .int a2)]) rfl ?_
  refine v_iload_n (pc := 17) C 0 rfl dX4_sidesApart_17 ?_
  refine v_bipush (pc := 18) C 8 dX4_sidesApart_18 (by decide) ?_
  refine v_iload_n (pc := 20) C 0 rfl dX4_sidesApart_20 ?_
  refine v_isub (pc := 21) C dX4_sidesApart_21 ?_
  refine v_mmin (pc := 22) C mw_302 mw_189 mw_190 mw_191 (by decide) (Nat.le_of_ble_eq_true rfl) dX4_sidesApart_22 ?_
  refine r_lti (fun v4 => ?_)
  exact tp_out (fun h => by cases h; exact hret _ _ _ _ ⟨rfl, rfl⟩ dX4_sidesApart_25)
def f4_below (w0 : Bool) (a1 : Int32) (s0 : SS) : Option Int32 := lt (fun (_u : Unit) => some 0) (fun j1 => if a1 < 0 then j1 () else if a1 < 12 then gd (inb a1 12) (some (s0.1 (wB w0 + 13) a1.toNatClampNeg)) else j1 ())
set_option maxHeartbeats 4000000 in
set_option maxRecDepth 100000 in
theorem m4_below (G : GT) (l : Launch) (w0 : Bool) (a1 : Int32)  (s0 : SS) (r : Int32) (hf : f4_below w0 a1 s0 = some r) : MI G l yX4_below cX4_below 2 (some .int) 0 0 [.ref (aX G (wB w0)), .int a1] (wX G s0) r (wX G s0) := by
  refine MI.start (by decide +kernel) (Nat.le_of_ble_eq_true rfl) (fun K hl C hret => ?_)
  subst hl
  have C : Ctx G K cX4_below RX4 2 0 0 := C
  change V G K (wX G s0) 0 [(0, .ref (aX G (wB w0))), (1, .int a1)] []
  refine (?_ : tp (f4_below w0 a1 s0) (fun q => q = r) → _) ⟨_, hf, rfl⟩
  rw [f4_below]
  refine v_iload_n (pc := 0) C 1 rfl dX4_below_0 ?_
  refine r_lJ (fun Φ0 j1 => ∀ (_u : Unit), tp (j1 ()) Φ0 → V G K (wX G s0) 22 [] []) (fun _u => ?_) (fun j1 hj2 => ?_)
  · refine v_iconst (pc := 22) C 0 dX4_below_22 (by decide) ?_
    exact tp_out (fun h => by cases h; exact hret _ _ _ _ ⟨rfl, rfl⟩ dX4_below_23)
  refine v_if_lt (pc := 1) C 22 dX4_below_1 (by decide) ?_ ?_
  · exact v_to [] (hj2 _) rfl
  · refine v_iload_n (pc := 4) C 1 rfl dX4_below_4 ?_
    refine v_aload_n (pc := 5) C 0 rfl dX4_below_5 ?_
    refine g4_under w0 (pc := 6) C mw_94 dX4_below_6 ?_
    refine v_alen (pc := 9) C _ 0 (ax_un w0) rfl (v := 12) rfl dX4_below_9 ?_
    refine v_icmp_ge (pc := 10) C 22 dX4_below_10 (by decide) ?_ ?_
    · refine v_aload_n (pc := 13) C 0 rfl dX4_below_13 ?_
      refine g4_under w0 (pc := 14) C mw_94 dX4_below_14 ?_
      refine v_iload_n (pc := 17) C 1 rfl dX4_below_17 ?_
      refine v_iald (pc := 18) C _ (ax_un w0) dX4_below_18 ?_
      refine v_goto (pc := 19) C 23 dX4_below_19 (by decide) ?_
      exact tp_out (fun h => by cases h; exact hret _ _ _ _ ⟨rfl, rfl⟩ dX4_below_23)
    · exact v_to [] (hj2 _) rfl
def L4_lowerNear_4 (c0 : Bool) (c1 : Int32) (s0 : SS) : Nat → Int32 → Int32 → Option (Int32)
  | 0, _, _ => none
  | n + 1, v2, v3 => if v3 < (s0.1 (wB c0) 0) then bd (f4_feature c0 v3 0 s0) (fun v1 => bd (f4_feature c0 c1 0 s0) (fun v2 => if v1 < v2 then bd (f4_sidesApart c0 v3 c1 s0) (fun v3 => if v3 ≤ 1 then lt ((v2 ||| (1 <<< (v3 &&& 31)))) (fun v4 => lt (v3 + 1) (fun v5 => L4_lowerNear_4 c0 c1 s0 n v4 v5)) else lt (v3 + 1) (fun v6 => L4_lowerNear_4 c0 c1 s0 n v2 v6)) else lt (v3 + 1) (fun v7 => L4_lowerNear_4 c0 c1 s0 n v2 v7))) else some v2
def f4_lowerNear (w0 : Bool) (a1 : Int32) (s0 : SS) : Option Int32 := bk1 (L4_lowerNear_4 w0 a1 s0 FU 0 0) (fun v8 => some v8)
set_option maxHeartbeats 4000000 in
set_option maxRecDepth 100000 in
theorem l4_lowerNear_4 {G : GT} {K : KT} (C : Ctx G K cX4_lowerNear RX4 4 2 46) (c0 : Bool) (c1 : Int32) (s0 : SS) {Ψ : Int32 → Prop} (hx : ∀ (o1 : Int32), Ψ o1 → V G K (wX G s0) 49 [(2, .int o1)] []) : ∀ (n : Nat) (v2 : Int32) (v3 : Int32), tp (L4_lowerNear_4 c0 c1 s0 n v2 v3) (k1 Ψ) → V G K (wX G s0) 4 [(0, .ref (aX G (wB c0))), (1, .int c1), (2, .int v2), (3, .int v3)] [] := by
  intro n
  induction n with
  | zero => intro v2 v3 h; exact tp_no h
  | succ n ih =>
    intro v2 v3
    rw [L4_lowerNear_4]
    refine v_iload_n (pc := 4) C 3 rfl dX4_lowerNear_4 ?_
    refine v_aload_n (pc := 5) C 0 rfl dX4_lowerNear_5 ?_
    refine g4_branches c0 (pc := 6) C mw_88 dX4_lowerNear_6 ?_
    refine v_icmp_ge (pc := 9) C 49 dX4_lowerNear_9 (by decide) ?_ ?_
    · refine v_aload_n (pc := 12) C 0 rfl dX4_lowerNear_12 ?_
      refine v_iload_n (pc := 13) C 3 rfl dX4_lowerNear_13 ?_
      refine v_iconst (pc := 14) C 0 dX4_lowerNear_14 (by decide) ?_
      refine cIv2r (pc := 15) C (fun r h => m4_feature G K.2.1 c0 v3 0 s0 r h) q_yX4_feature mw_287 (rc_4 c0) ⟨by decide, by decide⟩ (Nat.le_of_ble_eq_true rfl) dX4_lowerNear_15 (fun v1 => ?_)
      refine v_aload_n (pc := 18) C 0 rfl dX4_lowerNear_18 ?_
      refine v_iload_n (pc := 19) C 1 rfl dX4_lowerNear_19 ?_
      refine v_iconst (pc := 20) C 0 dX4_lowerNear_20 (by decide) ?_
      refine cIv2r (pc := 21) C (fun r h => m4_feature G K.2.1 c0 c1 0 s0 r h) q_yX4_feature mw_287 (rc_4 c0) ⟨by decide, by decide⟩ (Nat.le_of_ble_eq_true rfl) dX4_lowerNear_21 (fun v2 => ?_)
      refine v_icmp_ge (pc := 24) C 43 dX4_lowerNear_24 (by decide) ?_ ?_
      · refine v_aload_n (pc := 27) C 0 rfl dX4_lowerNear_27 ?_
        refine v_iload_n (pc := 28) C 3 rfl dX4_lowerNear_28 ?_
        refine v_iload_n (pc := 29) C 1 rfl dX4_lowerNear_29 ?_
        refine cIv2r (pc := 30) C (fun r h => m4_sidesApart G K.2.1 c0 v3 c1 s0 r h) q_yX4_sidesApart mw_295 (rc_4 c0) ⟨by decide, by decide⟩ (Nat.le_of_ble_eq_true rfl) dX4_lowerNear_30 (fun v3 => ?_)
        refine v_iconst (pc := 33) C 1 dX4_lowerNear_33 (by decide) ?_
        refine v_icmp_gt (pc := 34) C 43 dX4_lowerNear_34 (by decide) ?_ ?_
        · refine v_iload_n (pc := 37) C 2 rfl dX4_lowerNear_37 ?_
          refine v_iconst (pc := 38) C 1 dX4_lowerNear_38 (by decide) ?_
          refine v_iload_n (pc := 39) C 3 rfl dX4_lowerNear_39 ?_
          refine v_ishl (pc := 40) C dX4_lowerNear_40 ?_
          refine v_ior (pc := 41) C dX4_lowerNear_41 ?_
          refine r_lti (fun v4 => ?_)
          refine v_istore_n (pc := 42) C dX4_lowerNear_42 (by decide) (lv' := [(2, .int v4), (0, .ref (aX G (wB c0))), (1, .int c1), (3, .int v3)]) rfl ?_
          refine v_iincL (pc := 43) C 1 3 dX4_lowerNear_43 rfl (by decide) (by decide) (lv0 := [(2, .int v4), (0, .ref (aX G (wB c0))), (1, .int c1)]) rfl (fun v5 => ?_)
          refine v_goto (pc := 46) C 4 dX4_lowerNear_46 (by decide) ?_
          exact v_to [2, 3, 1, 0] (ih _ _) rfl
        · refine v_iincL (pc := 43) C 1 3 dX4_lowerNear_43 rfl (by decide) (by decide) (lv0 := [(0, .ref (aX G (wB c0))), (1, .int c1), (2, .int v2)]) rfl (fun v6 => ?_)
          refine v_goto (pc := 46) C 4 dX4_lowerNear_46 (by decide) ?_
          exact v_to [1, 2, 3, 0] (ih _ _) rfl
      · refine v_iincL (pc := 43) C 1 3 dX4_lowerNear_43 rfl (by decide) (by decide) (lv0 := [(0, .ref (aX G (wB c0))), (1, .int c1), (2, .int v2)]) rfl (fun v7 => ?_)
        refine v_goto (pc := 46) C 4 dX4_lowerNear_46 (by decide) ?_
        exact v_to [1, 2, 3, 0] (ih _ _) rfl
    · exact tp_out (fun h => v_to [2] (hx _) rfl h)
set_option maxHeartbeats 4000000 in
set_option maxRecDepth 100000 in
theorem m4_lowerNear (G : GT) (l : Launch) (w0 : Bool) (a1 : Int32)  (s0 : SS) (r : Int32) (hf : f4_lowerNear w0 a1 s0 = some r) : MI G l yX4_lowerNear cX4_lowerNear 4 (some .int) 2 46 [.ref (aX G (wB w0)), .int a1] (wX G s0) r (wX G s0) := by
  refine MI.start (by decide +kernel) (Nat.le_of_ble_eq_true rfl) (fun K hl C hret => ?_)
  subst hl
  have C : Ctx G K cX4_lowerNear RX4 4 2 46 := C
  change V G K (wX G s0) 0 [(0, .ref (aX G (wB w0))), (1, .int a1)] []
  refine (?_ : tp (f4_lowerNear w0 a1 s0) (fun q => q = r) → _) ⟨_, hf, rfl⟩
  rw [f4_lowerNear]
  refine v_iconst (pc := 0) C 0 dX4_lowerNear_0 (by decide) ?_
  refine v_istore_n (pc := 1) C dX4_lowerNear_1 (by decide) (lv' := [(2, .int 0), (0, .ref (aX G (wB w0))), (1, .int a1)]) rfl ?_
  refine v_iconst (pc := 2) C 0 dX4_lowerNear_2 (by decide) ?_
  refine v_istore_n (pc := 3) C dX4_lowerNear_3 (by decide) (lv' := [(3, .int 0), (2, .int 0), (0, .ref (aX G (wB w0))), (1, .int a1)]) rfl ?_
  refine r_bk1 ?_
  refine v_to [2, 3, 1, 0] (l4_lowerNear_4 C w0 a1 s0 (fun v8 => ?_) FU _ _) rfl
  refine v_iload_n (pc := 49) C 0 rfl dX4_lowerNear_49 ?_
  exact tp_out (fun h => by cases h; exact hret _ _ _ _ ⟨rfl, rfl⟩ dX4_lowerNear_50)
def L4_order_18 (c0 : Bool) (c1 : Int32) : Nat → Int32 → SS → Option (Int32 × SS)
  | 0, _, _ => none
  | n + 1, v2, s => if v2 ≤ 0 then some (v2, s) else gd (inb (v2 - 1) 12) (bd (f4_feature c0 (s.1 (wB c0 + 12) ((v2 - 1)).toNatClampNeg) 0 s) (fun v1 => bd (f4_feature c0 c1 0 s) (fun v2 => if v1 < v2 then gd (inb (v2 - 1) 12) (gd (inb v2 12) (lt (sI s (wB c0 + 12) (Int32.toNatClampNeg v2) (s.1 (wB c0 + 12) ((v2 - 1)).toNatClampNeg)) (fun s3 => lt (v2 + (-1)) (fun v4 => L4_order_18 c0 c1 n v4 s3)))) else some (v2, s))))
def L4_order_2 (c0 : Bool) : Nat → Int32 → SS → Option (SS)
  | 0, _, _ => none
  | n + 1, v1, s => if v1 < (s.1 (wB c0) 0) then if v1 < 12 then bk2 (L4_order_18 c0 v1 FU v1 s) (fun v5 s6 => gd (inb v5 12) (lt (sI s6 (wB c0 + 12) (Int32.toNatClampNeg v5) v1) (fun s7 => bd (f4_lowerNear c0 v1 s7) (fun v8 => gd (inb v1 12) (lt (sI s7 (wB c0 + 13) (Int32.toNatClampNeg v1) v8) (fun s9 => lt (v1 + 1) (fun v10 => L4_order_2 c0 n v10 s9))))))) else some s else some s
def f4_order (w0 : Bool) (s0 : SS) : Option SS := bk1 (L4_order_2 w0 FU 0 s0) (fun s11 => some s11)
set_option maxHeartbeats 4000000 in
set_option maxRecDepth 100000 in
theorem l4_order_18 {G : GT} {K : KT} (C : Ctx G K cX4_order RX4 3 3 69) (c0 : Bool) (c1 : Int32) {Ψ : Int32 → SS → Prop} (hx : ∀ (o1 : Int32) (so : SS), Ψ o1 so → V G K (wX G so) 64 [(0, .ref (aX G (wB c0))), (1, .int c1), (2, .int o1)] []) : ∀ (n : Nat) (v2 : Int32) (s : SS), tp (L4_order_18 c0 c1 n v2 s) (k2 Ψ) → V G K (wX G s) 18 [(0, .ref (aX G (wB c0))), (1, .int c1), (2, .int v2)] [] := by
  intro n
  induction n with
  | zero => intro v2 s h; exact tp_no h
  | succ n ih =>
    intro v2 s
    rw [L4_order_18]
    refine v_iload_n (pc := 18) C 2 rfl dX4_order_18 ?_
    refine v_if_le (pc := 19) C 64 dX4_order_19 (by decide) ?_ ?_
    · exact tp_out (fun h => v_to [0, 1, 2] (hx _ _) rfl h)
    · refine v_aload_n (pc := 22) C 0 rfl dX4_order_22 ?_
      refine v_aload_n (pc := 23) C 0 rfl dX4_order_23 ?_
      refine g4_downward c0 (pc := 24) C mw_93 dX4_order_24 ?_
      refine v_iload_n (pc := 27) C 2 rfl dX4_order_27 ?_
      refine v_iconst (pc := 28) C 1 dX4_order_28 (by decide) ?_
      refine v_isub (pc := 29) C dX4_order_29 ?_
      refine v_iald (pc := 30) C _ (ax_dn c0) dX4_order_30 ?_
      refine v_iconst (pc := 31) C 0 dX4_order_31 (by decide) ?_
      refine cIv2r (pc := 32) C (fun r h => m4_feature G K.2.1 c0 (s.1 (wB c0 + 12) ((v2 - 1)).toNatClampNeg) 0 s r h) q_yX4_feature mw_287 (rc_4 c0) ⟨by decide, by decide⟩ (Nat.le_of_ble_eq_true rfl) dX4_order_32 (fun v1 => ?_)
      refine v_aload_n (pc := 35) C 0 rfl dX4_order_35 ?_
      refine v_iload_n (pc := 36) C 1 rfl dX4_order_36 ?_
      refine v_iconst (pc := 37) C 0 dX4_order_37 (by decide) ?_
      refine cIv2r (pc := 38) C (fun r h => m4_feature G K.2.1 c0 c1 0 s r h) q_yX4_feature mw_287 (rc_4 c0) ⟨by decide, by decide⟩ (Nat.le_of_ble_eq_true rfl) dX4_order_38 (fun v2 => ?_)
      refine v_icmp_ge (pc := 41) C 64 dX4_order_41 (by decide) ?_ ?_
      · refine v_aload_n (pc := 44) C 0 rfl dX4_order_44 ?_
        refine g4_downward c0 (pc := 45) C mw_93 dX4_order_45 ?_
        refine v_iload_n (pc := 48) C 2 rfl dX4_order_48 ?_
        refine v_aload_n (pc := 49) C 0 rfl dX4_order_49 ?_
        refine g4_downward c0 (pc := 50) C mw_93 dX4_order_50 ?_
        refine v_iload_n (pc := 53) C 2 rfl dX4_order_53 ?_
        refine v_iconst (pc := 54) C 1 dX4_order_54 (by decide) ?_
        refine v_isub (pc := 55) C dX4_order_55 ?_
        refine v_iald (pc := 56) C _ (ax_dn c0) dX4_order_56 ?_
        refine v_iast (pc := 57) C _ (ax_dn c0) (as_dn c0 _ _) dX4_order_57 ?_
        refine r_ltx (fun s3 => ?_)
        refine v_iincL (pc := 58) C (-1) 2 dX4_order_58 rfl (by decide) (by decide) (lv0 := [(0, .ref (aX G (wB c0))), (1, .int c1)]) rfl (fun v4 => ?_)
        refine v_goto (pc := 61) C 18 dX4_order_61 (by decide) ?_
        exact v_to [1, 2, 0] (ih _ _) rfl
      · exact tp_out (fun h => v_to [0, 1, 2] (hx _ _) rfl h)
set_option maxHeartbeats 4000000 in
set_option maxRecDepth 100000 in
theorem l4_order_2 {G : GT} {K : KT} (C : Ctx G K cX4_order RX4 3 3 69) (c0 : Bool) {Ψ : SS → Prop} (hx : ∀ (so : SS), Ψ so → V G K (wX G so) 88 [] []) : ∀ (n : Nat) (v1 : Int32) (s : SS), tp (L4_order_2 c0 n v1 s) (k1 Ψ) → V G K (wX G s) 2 [(0, .ref (aX G (wB c0))), (1, .int v1)] [] := by
  intro n
  induction n with
  | zero => intro v1 s h; exact tp_no h
  | succ n ih =>
    intro v1 s
    rw [L4_order_2]
    refine v_iload_n (pc := 2) C 1 rfl dX4_order_2 ?_
    refine v_aload_n (pc := 3) C 0 rfl dX4_order_3 ?_
    refine g4_branches c0 (pc := 4) C mw_88 dX4_order_4 ?_
    refine v_icmp_ge (pc := 7) C 88 dX4_order_7 (by decide) ?_ ?_
    · refine v_iload_n (pc := 10) C 1 rfl dX4_order_10 ?_
      refine v_bipush (pc := 11) C 12 dX4_order_11 (by decide) ?_
      refine v_icmp_ge (pc := 13) C 88 dX4_order_13 (by decide) ?_ ?_
      · refine v_iload_n (pc := 16) C 1 rfl dX4_order_16 ?_
        refine v_istore_n (pc := 17) C dX4_order_17 (by decide) (lv' := [(2, .int v1), (0, .ref (aX G (wB c0))), (1, .int v1)]) rfl ?_
        refine r_bk2 ?_
        refine v_to [1, 2, 0] (l4_order_18 C c0 v1 (fun v5 s6 => ?_) FU _ _) rfl
        refine v_aload_n (pc := 64) C 0 rfl dX4_order_64 ?_
        refine g4_downward c0 (pc := 65) C mw_93 dX4_order_65 ?_
        refine v_iload_n (pc := 68) C 2 rfl dX4_order_68 ?_
        refine v_iload_n (pc := 69) C 1 rfl dX4_order_69 ?_
        refine v_iast (pc := 70) C _ (ax_dn c0) (as_dn c0 _ _) dX4_order_70 ?_
        refine r_ltx (fun s7 => ?_)
        refine v_aload_n (pc := 71) C 0 rfl dX4_order_71 ?_
        refine g4_under c0 (pc := 72) C mw_94 dX4_order_72 ?_
        refine v_iload_n (pc := 75) C 1 rfl dX4_order_75 ?_
        refine v_aload_n (pc := 76) C 0 rfl dX4_order_76 ?_
        refine v_iload_n (pc := 77) C 1 rfl dX4_order_77 ?_
        refine cIv1r (pc := 78) C (fun r h => m4_lowerNear G K.2.1 c0 v1 s7 r h) q_yX4_lowerNear mw_291 (rc_4 c0) ⟨by decide, by decide⟩ (Nat.le_of_ble_eq_true rfl) dX4_order_78 (fun v8 => ?_)
        refine v_iast (pc := 81) C _ (ax_un c0) (as_un c0 _ _) dX4_order_81 ?_
        refine r_ltx (fun s9 => ?_)
        refine v_iincL (pc := 82) C 1 1 dX4_order_82 rfl (by decide) (by decide) (lv0 := [(0, .ref (aX G (wB c0))), (2, .int v5)]) rfl (fun v10 => ?_)
        refine v_goto (pc := 85) C 2 dX4_order_85 (by decide) ?_
        exact v_to [1, 0] (ih _ _) rfl
      · exact tp_out (fun h => v_to [] (hx _) rfl h)
    · exact tp_out (fun h => v_to [] (hx _) rfl h)
set_option maxHeartbeats 4000000 in
set_option maxRecDepth 100000 in
theorem m4_order (G : GT) (l : Launch) (w0 : Bool)  (s0 : SS) (s1 : SS) (hf : f4_order w0 s0 = some s1) : MV G l yX4_order cX4_order 3 none 3 69 [.ref (aX G (wB w0))] (wX G s0) (wX G s1) := by
  refine MV.start (by decide +kernel) (Nat.le_of_ble_eq_true rfl) (fun K hl C hret => ?_)
  subst hl
  have C : Ctx G K cX4_order RX4 3 3 69 := C
  change V G K (wX G s0) 0 [(0, .ref (aX G (wB w0)))] []
  refine (?_ : tp (f4_order w0 s0) (fun q => q = s1) → _) ⟨_, hf, rfl⟩
  rw [f4_order]
  refine v_iconst (pc := 0) C 0 dX4_order_0 (by decide) ?_
  refine v_istore_n (pc := 1) C dX4_order_1 (by decide) (lv' := [(1, .int 0), (0, .ref (aX G (wB w0)))]) rfl ?_
  refine r_bk1 ?_
  refine v_to [1, 0] (l4_order_2 C w0 (fun s11 => ?_) FU _ _) rfl
  exact tp_out (fun h => by cases h; exact hret _ _ _ rfl dX4_order_88)
def fJ6_bitCount_0f7a4 (a0 : Int32) : Option Int32 := lt ((a0 - (((Int32.toUInt32 a0) >>> ((Int32.toUInt32 1) &&& Int32.toUInt32 31)).toInt32 &&& 1431655765))) (fun v1 => lt (((v1 &&& 858993459) + (((Int32.toUInt32 v1) >>> ((Int32.toUInt32 2) &&& Int32.toUInt32 31)).toInt32 &&& 858993459))) (fun v2 => lt (((v2 + ((Int32.toUInt32 v2) >>> ((Int32.toUInt32 4) &&& Int32.toUInt32 31)).toInt32) &&& 252645135)) (fun v3 => lt ((v3 + ((Int32.toUInt32 v3) >>> ((Int32.toUInt32 8) &&& Int32.toUInt32 31)).toInt32)) (fun v4 => lt ((v4 + ((Int32.toUInt32 v4) >>> ((Int32.toUInt32 16) &&& Int32.toUInt32 31)).toInt32)) (fun v5 => some (v5 &&& 63))))))
set_option maxHeartbeats 4000000 in
set_option maxRecDepth 100000 in
theorem mJ6_bitCount_0f7a4 (G : GT) (l : Launch) (a0 : Int32)  (w : va_W) (r : Int32) (hf : fJ6_bitCount_0f7a4 a0 = some r) : MI G l yJ6_bitCount_0f7a4 cJ6_bitCount_0f7a4 1 (some .int) 0 0 [.int a0] w r w := by
  refine MI.start (by decide +kernel) (Nat.le_of_ble_eq_true rfl) (fun K hl C hret => ?_)
  subst hl
  have C : Ctx G K cJ6_bitCount_0f7a4 RJ6 1 0 0 := C
  change V G K w 0 [(0, .int a0)] []
  refine (?_ : tp (fJ6_bitCount_0f7a4 a0) (fun q => q = r) → _) ⟨_, hf, rfl⟩
  rw [fJ6_bitCount_0f7a4]
  refine v_iload_n (pc := 0) C 0 rfl dJ6_bitCount_0f7a4_0 ?_
  refine v_iload_n (pc := 1) C 0 rfl dJ6_bitCount_0f7a4_1 ?_
  refine v_iconst (pc := 2) C 1 dJ6_bitCount_0f7a4_2 (by decide) ?_
  refine v_iushr (pc := 3) C dJ6_bitCount_0f7a4_3 ?_
  refine v_ldcw (pc := 4) C mw_777 dJ6_bitCount_0f7a4_4 ?_
  refine v_iand (pc := 7) C dJ6_bitCount_0f7a4_7 ?_
  refine v_isub (pc := 8) C dJ6_bitCount_0f7a4_8 ?_
  refine r_lti (fun v1 => ?_)
  refine v_istore_n (pc := 9) C dJ6_bitCount_0f7a4_9 (by decide) (lv' := [(0, .int v1)]) rfl ?_
  refine v_iload_n (pc := 10) C 0 rfl dJ6_bitCount_0f7a4_10 ?_
  refine v_ldcw (pc := 11) C mw_778 dJ6_bitCount_0f7a4_11 ?_
  refine v_iand (pc := 14) C dJ6_bitCount_0f7a4_14 ?_
  refine v_iload_n (pc := 15) C 0 rfl dJ6_bitCount_0f7a4_15 ?_
  refine v_iconst (pc := 16) C 2 dJ6_bitCount_0f7a4_16 (by decide) ?_
  refine v_iushr (pc := 17) C dJ6_bitCount_0f7a4_17 ?_
  refine v_ldcw (pc := 18) C mw_778 dJ6_bitCount_0f7a4_18 ?_
  refine v_iand (pc := 21) C dJ6_bitCount_0f7a4_21 ?_
  refine v_iadd (pc := 22) C dJ6_bitCount_0f7a4_22 ?_
  refine r_lti (fun v2 => ?_)
  refine v_istore_n (pc := 23) C dJ6_bitCount_0f7a4_23 (by decide) (lv' := [(0, .int v2)]) rfl ?_
  refine v_iload_n (pc := 24) C 0 rfl dJ6_bitCount_0f7a4_24 ?_
  refine v_iload_n (pc := 25) C 0 rfl dJ6_bitCount_0f7a4_25 ?_
  refine v_iconst (pc := 26) C 4 dJ6_bitCount_0f7a4_26 (by decide) ?_
  refine v_iushr (pc := 27) C dJ6_bitCount_0f7a4_27 ?_
  refine v_iadd (pc := 28) C dJ6_bitCount_0f7a4_28 ?_
  refine v_ldcw (pc := 29) C mw_779 dJ6_bitCount_0f7a4_29 ?_
  refine v_iand (pc := 32) C dJ6_bitCount_0f7a4_32 ?_
  refine r_lti (fun v3 => ?_)
  refine v_istore_n (pc := 33) C dJ6_bitCount_0f7a4_33 (by decide) (lv' := [(0, .int v3)]) rfl ?_
  refine v_iload_n (pc := 34) C 0 rfl dJ6_bitCount_0f7a4_34 ?_
  refine v_iload_n (pc := 35) C 0 rfl dJ6_bitCount_0f7a4_35 ?_
  refine v_bipush (pc := 36) C 8 dJ6_bitCount_0f7a4_36 (by decide) ?_
  refine v_iushr (pc := 38) C dJ6_bitCount_0f7a4_38 ?_
  refine v_iadd (pc := 39) C dJ6_bitCount_0f7a4_39 ?_
  refine r_lti (fun v4 => ?_)
  refine v_istore_n (pc := 40) C dJ6_bitCount_0f7a4_40 (by decide) (lv' := [(0, .int v4)]) rfl ?_
  refine v_iload_n (pc := 41) C 0 rfl dJ6_bitCount_0f7a4_41 ?_
  refine v_iload_n (pc := 42) C 0 rfl dJ6_bitCount_0f7a4_42 ?_
  refine v_bipush (pc := 43) C 16 dJ6_bitCount_0f7a4_43 (by decide) ?_
  refine v_iushr (pc := 45) C dJ6_bitCount_0f7a4_45 ?_
  refine v_iadd (pc := 46) C dJ6_bitCount_0f7a4_46 ?_
  refine r_lti (fun v5 => ?_)
  refine v_istore_n (pc := 47) C dJ6_bitCount_0f7a4_47 (by decide) (lv' := [(0, .int v5)]) rfl ?_
  refine v_iload_n (pc := 48) C 0 rfl dJ6_bitCount_0f7a4_48 ?_
  refine v_bipush (pc := 49) C 63 dJ6_bitCount_0f7a4_49 (by decide) ?_
  refine v_iand (pc := 51) C dJ6_bitCount_0f7a4_51 ?_
  exact tp_out (fun h => by cases h; exact hret _ _ _ _ ⟨rfl, rfl⟩ dJ6_bitCount_0f7a4_52)
