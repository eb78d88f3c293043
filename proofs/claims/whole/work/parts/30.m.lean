def f6_in (a0 : Int32) (a1 : Int32) (a2 : Int32) : Option Int32 := lt (fun (_u : Unit) => some 0) (fun j1 => if a0 < a1 then j1 () else if a0 ≤ a2 then some 1 else j1 ())
set_option maxHeartbeats 4000000 in
set_option maxRecDepth 100000 in
theorem m6_in (G : GT) (l : Launch) (a0 : Int32) (a1 : Int32) (a2 : Int32)  (w : va_W) (r : Int32) (hf : f6_in a0 a1 a2 = some r) : MI G l yX6_in cX6_in 3 (some .boolean) 0 0 [.int a0, .int a1, .int a2] w r w := by
  refine MI.startZ (by decide +kernel) (Nat.le_of_ble_eq_true rfl) (fun K hl C hret => ?_)
  subst hl
  have C : Ctx G K cX6_in RX6 3 0 0 := C
  change V G K w 0 [(0, .int a0), (1, .int a1), (2, .int a2)] []
  refine (?_ : tp (f6_in a0 a1 a2) (fun q => q = r) → _) ⟨_, hf, rfl⟩
  rw [f6_in]
  refine v_iload_n (pc := 0) C 0 rfl dX6_in_0 ?_
  refine v_iload_n (pc := 1) C 1 rfl dX6_in_1 ?_
  refine r_lJ (fun Φ0 j1 => ∀ (_u : Unit), tp (j1 ()) Φ0 → V G K w 14 [] []) (fun _u => ?_) (fun j1 hj2 => ?_)
  · refine v_iconst (pc := 14) C 0 dX6_in_14 (by decide) ?_
    exact tp_out (fun h => hret _ _ _ _ ⟨h, rfl⟩ (Or.inl rfl) dX6_in_15)
  refine v_icmp_lt (pc := 2) C 14 dX6_in_2 (by decide) ?_ ?_
  · exact v_to [] (hj2 ()) rfl
  · refine v_iload_n (pc := 5) C 0 rfl dX6_in_5 ?_
    refine v_iload_n (pc := 6) C 2 rfl dX6_in_6 ?_
    refine v_icmp_gt (pc := 7) C 14 dX6_in_7 (by decide) ?_ ?_
    · refine v_iconst (pc := 10) C 1 dX6_in_10 (by decide) ?_
      refine v_goto (pc := 11) C 15 dX6_in_11 (by decide) ?_
      exact tp_out (fun h => hret _ _ _ _ ⟨h, rfl⟩ (Or.inr rfl) dX6_in_15)
    · exact v_to [] (hj2 ()) rfl
def L6_type_32 (c1 : Int64) : Nat → Int32 → SS → Option (SS)
  | 0, _, _ => none
  | n + 1, v4, s => if v4 < 0 then some s else gd (inb (s.1 0 2) 400) (lt (sI s 1 (Int32.toNatClampNeg (s.1 0 2)) (vp_nar .byte (Int8.toInt32 (Int32.toInt8 (Int64.toInt32 ((c1 >>> ((Int32.toInt64 (8 * v4)) &&& 63)) &&& 255)))))) (fun q3 => lt (sI q3 0 2 ((q3.1 0 2) + 1)) (fun q4 => lt (v4 + (-1)) (fun x5 => L6_type_32 c1 n x5 q4))))
def f6_type (a1 : Int64) (a3 : Int32) (s0 : SS) : Option (Int32 × SS) := bd (f6_in a3 1 8) (fun x1 => if x1 = 0 then some ((-1), s0) else if ((s0.1 0 2) + a3) ≤ 400 then lt ((a3 - 1)) (fun x2 => bk1 (L6_type_32 a1 FU x2 s0) (fun q6 => some ((q6.1 0 2), q6))) else some ((-3), s0))
set_option maxHeartbeats 4000000 in
set_option maxRecDepth 100000 in
theorem l6_type_32 {G : GT} {K : KT} (C : Ctx G K cX6_type RX6 5 1 22) (c1 : Int64) {Ψ : SS → Prop} (hx : ∀ (so : SS), Ψ so → V G K (wM G so) 75 [(0, .ref (aM G 0))] []) : ∀ (n : Nat) (v4 : Int32) (s : SS), tp (L6_type_32 c1 n v4 s) (k1 Ψ) → V G K (wM G s) 32 [(0, .ref (aM G 0)), (1, .long c1), (4, .int v4)] [] := by
  intro n
  induction n with
  | zero => intro v4 s h; exact tp_no h
  | succ n ih =>
    intro v4 s
    rw [L6_type_32]
    refine v_iload (pc := 32) C 2 rfl dX6_type_32 ?_
    refine v_if_lt (pc := 34) C 75 dX6_type_34 (by decide) ?_ ?_
    · exact tp_out (fun h => v_to [0] (hx _) rfl h)
    · refine v_aload_n (pc := 37) C 0 rfl dX6_type_37 ?_
      refine g6_text (pc := 38) C mw_100 dX6_type_38 ?_
      refine v_aload_n (pc := 41) C 0 rfl dX6_type_41 ?_
      refine g6_typed (pc := 42) C mw_137 dX6_type_42 ?_
      refine v_lload_n (pc := 45) C 1 rfl dX6_type_45 ?_
      refine v_bipush (pc := 46) C 8 dX6_type_46 (by decide) ?_
      refine v_iload (pc := 48) C 2 rfl dX6_type_48 ?_
      refine v_imul (pc := 50) C dX6_type_50 ?_
      refine v_lshr (pc := 51) C dX6_type_51 ?_
      refine v_ldc2 (pc := 52) C mw_138 dX6_type_52 ?_
      refine v_land (pc := 55) C dX6_type_55 ?_
      refine v_l2i (pc := 56) C dX6_type_56 ?_
      refine v_i2b (pc := 57) C dX6_type_57 ?_
      refine v_bast (pc := 58) C _ am_1 (at_1 _ _) dX6_type_58 ?_
      refine r_ltm (fun q3 => ?_)
      refine v_aload_n (pc := 59) C 0 rfl dX6_type_59 ?_
      refine v_dup (pc := 60) C dX6_type_60 rfl ?_
      refine g6_typed (pc := 61) C mw_137 dX6_type_61 ?_
      refine v_iconst (pc := 64) C 1 dX6_type_64 (by decide) ?_
      refine v_iadd (pc := 65) C dX6_type_65 ?_
      refine p6_typed (pc := 66) C mw_137 dX6_type_66 ?_
      refine r_ltm (fun q4 => ?_)
      refine v_iincL (pc := 69) C (-1) 2 dX6_type_69 rfl (by decide) (by decide) (lv0 := [(0, .ref (aM G 0)), (1, .long c1)]) rfl (fun x5 => ?_)
      refine v_goto (pc := 72) C 32 dX6_type_72 (by decide) ?_
      exact v_to [1, 2, 0] (ih _ _) rfl
set_option maxHeartbeats 4000000 in
set_option maxRecDepth 100000 in
theorem m6_type (G : GT) (l : Launch) (a1 : Int64) (a3 : Int32)  (s0 : SS) (r : Int32) (s1 : SS) (hf : f6_type a1 a3 s0 = some (r, s1)) : MI G l yX6_type cX6_type 5 (some .int) 1 22 [.ref (aM G 0), .long a1, .int a3] (wM G s0) r (wM G s1) := by
  refine MI.start (by decide +kernel) (Nat.le_of_ble_eq_true rfl) (fun K hl C hret => ?_)
  subst hl
  have C : Ctx G K cX6_type RX6 5 1 22 := C
  change V G K (wM G s0) 0 [(0, .ref (aM G 0)), (1, .long a1), (3, .int a3)] []
  refine (?_ : tp (f6_type a1 a3 s0) (fun q => q = (r, s1)) → _) ⟨_, hf, rfl⟩
  rw [f6_type]
  refine v_iload_n (pc := 0) C 2 rfl dX6_type_0 ?_
  refine v_iconst (pc := 1) C 1 dX6_type_1 (by decide) ?_
  refine v_bipush (pc := 2) C 8 dX6_type_2 (by decide) ?_
  refine cIs3r (pc := 4) C (fun r9 h9 => m6_in G K.2.1 a3 1 8 _ r9 h9) q_yX6_in mw_139 ⟨by decide, by decide⟩ (Nat.le_of_ble_eq_true rfl) dX6_type_4 (fun x1 => ?_)
  refine v_if_ne (pc := 7) C 12 dX6_type_7 (by decide) ?_ ?_
  · refine v_iconst (pc := 10) C (-1) dX6_type_10 (by decide) ?_
    exact tp_out (fun h => hret _ _ _ _ ⟨(Prod.mk.inj h).1, congrArg (wM G) (Prod.mk.inj h).2⟩ dX6_type_11)
  · refine v_aload_n (pc := 12) C 0 rfl dX6_type_12 ?_
    refine g6_typed (pc := 13) C mw_137 dX6_type_13 ?_
    refine v_iload_n (pc := 16) C 2 rfl dX6_type_16 ?_
    refine v_iadd (pc := 17) C dX6_type_17 ?_
    refine v_sipush (pc := 18) C 400 dX6_type_18 (by decide) ?_
    refine v_icmp_le (pc := 21) C 27 dX6_type_21 (by decide) ?_ ?_
    · refine v_iload_n (pc := 27) C 2 rfl dX6_type_27 ?_
      refine v_iconst (pc := 28) C 1 dX6_type_28 (by decide) ?_
      refine v_isub (pc := 29) C dX6_type_29 ?_
      refine r_lti (fun x2 => ?_)
      refine v_istore (pc := 30) C dX6_type_30 (by decide) (lv' := [(4, .int x2), (0, .ref (aM G 0)), (1, .long a1), (3, .int a3)]) rfl ?_
      refine r_bk1 ?_
      refine v_to [1, 2, 0] (l6_type_32 C a1 (fun q6 => ?_) FU _ _) rfl
      refine v_aload_n (pc := 75) C 0 rfl dX6_type_75 ?_
      refine g6_typed (pc := 76) C mw_137 dX6_type_76 ?_
      exact tp_out (fun h => hret _ _ _ _ ⟨(Prod.mk.inj h).1, congrArg (wM G) (Prod.mk.inj h).2⟩ dX6_type_79)
    · refine v_bipush (pc := 24) C (-3) dX6_type_24 (by decide) ?_
      exact tp_out (fun h => hret _ _ _ _ ⟨(Prod.mk.inj h).1, congrArg (wM G) (Prod.mk.inj h).2⟩ dX6_type_26)
def f6_clear  (s0 : SS) : Option (Int32 × SS) := lt ((s0.1 0 2)) (fun x1 => lt (sI s0 0 2 0) (fun q2 => some (x1, q2)))
set_option maxHeartbeats 4000000 in
set_option maxRecDepth 100000 in
theorem m6_clear (G : GT) (l : Launch)   (s0 : SS) (r : Int32) (s1 : SS) (hf : f6_clear s0 = some (r, s1)) : MI G l yX6_clear cX6_clear 2 (some .int) 0 0 [.ref (aM G 0)] (wM G s0) r (wM G s1) := by
  refine MI.start (by decide +kernel) (Nat.le_of_ble_eq_true rfl) (fun K hl C hret => ?_)
  subst hl
  have C : Ctx G K cX6_clear RX6 2 0 0 := C
  change V G K (wM G s0) 0 [(0, .ref (aM G 0))] []
  refine (?_ : tp (f6_clear s0) (fun q => q = (r, s1)) → _) ⟨_, hf, rfl⟩
  rw [f6_clear]
  refine v_aload_n (pc := 0) C 0 rfl dX6_clear_0 ?_
  refine g6_typed (pc := 1) C mw_137 dX6_clear_1 ?_
  refine r_lti (fun x1 => ?_)
  refine v_istore_n (pc := 4) C dX6_clear_4 (by decide) (lv' := [(1, .int x1), (0, .ref (aM G 0))]) rfl ?_
  refine v_aload_n (pc := 5) C 1 rfl dX6_clear_5 ?_
  refine v_iconst (pc := 6) C 0 dX6_clear_6 (by decide) ?_
  refine p6_typed (pc := 7) C mw_137 dX6_clear_7 ?_
  refine r_ltm (fun q2 => ?_)
  refine v_iload_n (pc := 10) C 0 rfl dX6_clear_10 ?_
  exact tp_out (fun h => hret _ _ _ _ ⟨(Prod.mk.inj h).1, congrArg (wM G) (Prod.mk.inj h).2⟩ dX6_clear_11)
def f6_here  (s0 : SS) : Option Int32 := if (s0.1 0 8) < (s0.1 0 2) then gd (inb (s0.1 0 8) 400) (some ((s0.1 1 ((s0.1 0 8)).toNatClampNeg) &&& 255)) else some (-1)
set_option maxHeartbeats 4000000 in
set_option maxRecDepth 100000 in
theorem m6_here (G : GT) (l : Launch)   (s0 : SS) (r : Int32) (hf : f6_here s0 = some r) : MI G l yX6_here cX6_here 1 (some .int) 0 0 [.ref (aM G 0)] (wM G s0) r (wM G s0) := by
  refine MI.start (by decide +kernel) (Nat.le_of_ble_eq_true rfl) (fun K hl C hret => ?_)
  subst hl
  have C : Ctx G K cX6_here RX6 1 0 0 := C
  change V G K (wM G s0) 0 [(0, .ref (aM G 0))] []
  refine (?_ : tp (f6_here s0) (fun q => q = r) → _) ⟨_, hf, rfl⟩
  rw [f6_here]
  refine v_aload_n (pc := 0) C 0 rfl dX6_here_0 ?_
  refine g6_at (pc := 1) C mw_311 dX6_here_1 ?_
  refine v_aload_n (pc := 4) C 0 rfl dX6_here_4 ?_
  refine g6_typed (pc := 5) C mw_137 dX6_here_5 ?_
  refine v_icmp_ge (pc := 8) C 27 dX6_here_8 (by decide) ?_ ?_
  · refine v_aload_n (pc := 11) C 0 rfl dX6_here_11 ?_
    refine g6_text (pc := 12) C mw_100 dX6_here_12 ?_
    refine v_aload_n (pc := 15) C 0 rfl dX6_here_15 ?_
    refine g6_at (pc := 16) C mw_311 dX6_here_16 ?_
    refine v_bald (pc := 19) C _ am_1 dX6_here_19 ?_
    refine v_sipush (pc := 20) C 255 dX6_here_20 (by decide) ?_
    refine v_iand (pc := 23) C dX6_here_23 ?_
    refine v_goto (pc := 24) C 28 dX6_here_24 (by decide) ?_
    exact tp_out (fun h => hret _ _ _ _ ⟨h, rfl⟩ dX6_here_28)
  · refine v_iconst (pc := 27) C (-1) dX6_here_27 (by decide) ?_
    exact tp_out (fun h => hret _ _ _ _ ⟨h, rfl⟩ dX6_here_28)
def L6_next_0 : Nat → SS → Option (SS)
  | 0, _ => none
  | n + 1, s => bd (f6_here s) (fun x1 => if x1 = 32 then lt (sI s 0 8 ((s.1 0 8) + 1)) (fun q2 => L6_next_0 n q2) else some s)
def L6_next_204 (c1 : Int32) : Nat → SS → Option (SS)
  | 0, _ => none
  | n + 1, s => bd (f6_here s) (fun x15 => bd (f6_in x15 48 57) (fun x16 => if x16 = 0 then some s else lt (fun (x19 : Int32) => lt (sI s 0 11 x19) (fun q20 => lt (sI q20 0 8 ((q20.1 0 8) + 1)) (fun q21 => L6_next_204 c1 n q21))) (fun j17 => if (s.1 0 11) ≤ 99 then bd (f6_here s) (fun x22 => j17 (((10 * (s.1 0 11)) + x22) - 48)) else j17 (s.1 0 11))))
def L6_next_65 : Nat → Int32 → SS → Option (Int32 × SS)
  | 0, _, _ => none
  | n + 1, v2, s => bd (f6_here s) (fun x29 => bd (f6_in x29 97 122) (fun x30 => if x30 = 0 then some (v2, s) else lt (fun (x33 : Int32) => lt (sI s 0 8 ((s.1 0 8) + 1)) (fun q34 => L6_next_65 n x33 q34)) (fun j31 => if ((s.1 0 8) - (s.1 0 9)) < 6 then bd (f6_here s) (fun x35 => j31 (((27 * v2) + x35) - 96)) else j31 0)))
def f6_next  (s0 : SS) : Option SS := bk1 (L6_next_0 FU s0) (fun q3 => lt (sI q3 0 9 (q3.1 0 8)) (fun q4 => lt (sI q4 0 11 0) (fun q5 => bd (f6_here q5) (fun x6 => if x6 < 0 then lt (sI q5 0 10 0) (fun q7 => some q7) else bd (f6_in x6 97 122) (fun x8 => if x8 = 0 then bd (f6_in x6 48 57) (fun x9 => if x9 = 0 then lt (sI q5 0 8 ((q5.1 0 8) + 1)) (fun q10 => lt (fun (x13 : Int32) => lt (sI q10 0 10 x13) (fun q14 => some q14)) (fun j11 => if x6 = 59 then j11 6 else j11 7)) else bk1 (L6_next_204 x6 FU q5) (fun q23 => if (q23.1 0 11) ≤ 99 then lt (fun (_u : Unit) => lt (sI q23 0 10 5) (fun q26 => some q26)) (fun j24 => if x6 = 48 then if ((q23.1 0 8) - (q23.1 0 9)) ≤ 1 then j24 () else lt (sI q23 0 10 7) (fun q27 => some q27) else j24 ()) else lt (sI q23 0 10 7) (fun q28 => some q28))) else bk2 (L6_next_65 FU 0 q5) (fun x36 q37 => lt (fun (x40 : Int32) => if x40 = 38293730 then lt (sI q37 0 10 1) (fun q41 => some q41) else if x40 = 16922 then lt (sI q37 0 10 2) (fun q42 => some q42) else if x40 = 279740 then lt (sI q37 0 10 3) (fun q43 => some q43) else if x40 = 50434 then lt (sI q37 0 10 4) (fun q44 => some q44) else lt (sI q37 0 10 7) (fun q45 => some q45)) (fun j38 => if ((q37.1 0 8) - (q37.1 0 9)) ≤ 6 then j38 x36 else j38 0)))))))
set_option maxHeartbeats 4000000 in
set_option maxRecDepth 100000 in
theorem l6_next_0 {G : GT} {K : KT} (C : Ctx G K cX6_next RX6 3 1 22) {Ψ : SS → Prop} (hx : ∀ (so : SS), Ψ so → V G K (wM G so) 22 [(0, .ref (aM G 0))] []) : ∀ (n : Nat) (s : SS), tp (L6_next_0 n s) (k1 Ψ) → V G K (wM G s) 0 [(0, .ref (aM G 0))] [] := by
  intro n
  induction n with
  | zero => intro s h; exact tp_no h
  | succ n ih =>
    intro s
    rw [L6_next_0]
    refine v_aload_n (pc := 0) C 0 rfl dX6_next_0 ?_
    refine cIv0r (pc := 1) C (fun r9 h9 => m6_here G K.2.1 s r9 h9) q_yX6_here mw_324 rc_6 ⟨by decide, by decide⟩ (Nat.le_of_ble_eq_true rfl) dX6_next_1 (fun x1 => ?_)
    refine v_bipush (pc := 4) C 32 dX6_next_4 (by decide) ?_
    refine v_icmp_ne (pc := 6) C 22 dX6_next_6 (by decide) ?_ ?_
    · refine v_aload_n (pc := 9) C 0 rfl dX6_next_9 ?_
      refine v_dup (pc := 10) C dX6_next_10 rfl ?_
      refine g6_at (pc := 11) C mw_311 dX6_next_11 ?_
      refine v_iconst (pc := 14) C 1 dX6_next_14 (by decide) ?_
      refine v_iadd (pc := 15) C dX6_next_15 ?_
      refine p6_at (pc := 16) C mw_311 dX6_next_16 ?_
      refine r_ltm (fun q2 => ?_)
      refine v_goto (pc := 19) C 0 dX6_next_19 (by decide) ?_
      exact v_to [0] (ih _) rfl
    · exact tp_out (fun h => v_to [0] (hx _) rfl h)
set_option maxHeartbeats 4000000 in
set_option maxRecDepth 100000 in
theorem l6_next_204 {G : GT} {K : KT} (C : Ctx G K cX6_next RX6 3 1 22) (c1 : Int32) {Ψ : SS → Prop} (hx : ∀ (so : SS), Ψ so → V G K (wM G so) 266 [(0, .ref (aM G 0)), (1, .int c1)] []) : ∀ (n : Nat) (s : SS), tp (L6_next_204 c1 n s) (k1 Ψ) → V G K (wM G s) 204 [(0, .ref (aM G 0)), (1, .int c1)] [] := by
  intro n
  induction n with
  | zero => intro s h; exact tp_no h
  | succ n ih =>
    intro s
    rw [L6_next_204]
    refine v_aload_n (pc := 204) C 0 rfl dX6_next_204 ?_
    refine cIv0r (pc := 205) C (fun r9 h9 => m6_here G K.2.1 s r9 h9) q_yX6_here mw_324 rc_6 ⟨by decide, by decide⟩ (Nat.le_of_ble_eq_true rfl) dX6_next_205 (fun x15 => ?_)
    refine v_bipush (pc := 208) C 48 dX6_next_208 (by decide) ?_
    refine v_bipush (pc := 210) C 57 dX6_next_210 (by decide) ?_
    refine cIs3r (pc := 212) C (fun r9 h9 => m6_in G K.2.1 x15 48 57 _ r9 h9) q_yX6_in mw_139 ⟨by decide, by decide⟩ (Nat.le_of_ble_eq_true rfl) dX6_next_212 (fun x16 => ?_)
    refine v_if_eq (pc := 215) C 266 dX6_next_215 (by decide) ?_ ?_
    · exact tp_out (fun h => v_to [0, 1] (hx _) rfl h)
    · refine v_aload_n (pc := 218) C 0 rfl dX6_next_218 ?_
      refine v_aload_n (pc := 219) C 0 rfl dX6_next_219 ?_
      refine g6_value (pc := 220) C mw_320 dX6_next_220 ?_
      refine v_bipush (pc := 223) C 99 dX6_next_223 (by decide) ?_
      refine r_lJ (fun Φ0 j17 => ∀ (x19 : Int32), tp (j17 x19) Φ0 → V G K (wM G s) 250 [(0, .ref (aM G 0)), (1, .int c1)] [.int x19, .ref (aM G 0)]) (fun x19 => ?_) (fun j17 hj18 => ?_)
      · refine p6_value (pc := 250) C mw_320 dX6_next_250 ?_
        refine r_ltm (fun q20 => ?_)
        refine v_aload_n (pc := 253) C 0 rfl dX6_next_253 ?_
        refine v_dup (pc := 254) C dX6_next_254 rfl ?_
        refine g6_at (pc := 255) C mw_311 dX6_next_255 ?_
        refine v_iconst (pc := 258) C 1 dX6_next_258 (by decide) ?_
        refine v_iadd (pc := 259) C dX6_next_259 ?_
        refine p6_at (pc := 260) C mw_311 dX6_next_260 ?_
        refine r_ltm (fun q21 => ?_)
        refine v_goto (pc := 263) C 204 dX6_next_263 (by decide) ?_
        exact v_to [0, 1] (ih _) rfl
      refine v_icmp_le (pc := 225) C 235 dX6_next_225 (by decide) ?_ ?_
      · refine v_bipush (pc := 235) C 10 dX6_next_235 (by decide) ?_
        refine v_aload_n (pc := 237) C 0 rfl dX6_next_237 ?_
        refine g6_value (pc := 238) C mw_320 dX6_next_238 ?_
        refine v_imul (pc := 241) C dX6_next_241 ?_
        refine v_aload_n (pc := 242) C 0 rfl dX6_next_242 ?_
        refine cIv0r (pc := 243) C (fun r9 h9 => m6_here G K.2.1 s r9 h9) q_yX6_here mw_324 rc_6 ⟨by decide, by decide⟩ (Nat.le_of_ble_eq_true rfl) dX6_next_243 (fun x22 => ?_)
        refine v_iadd (pc := 246) C dX6_next_246 ?_
        refine v_bipush (pc := 247) C 48 dX6_next_247 (by decide) ?_
        refine v_isub (pc := 249) C dX6_next_249 ?_
        exact v_to [0, 1] (hj18 _) rfl
      · refine v_aload_n (pc := 228) C 0 rfl dX6_next_228 ?_
        refine g6_value (pc := 229) C mw_320 dX6_next_229 ?_
        refine v_goto (pc := 232) C 250 dX6_next_232 (by decide) ?_
        exact v_to [0, 1] (hj18 _) rfl
set_option maxHeartbeats 4000000 in
set_option maxRecDepth 100000 in
theorem l6_next_65 {G : GT} {K : KT} (C : Ctx G K cX6_next RX6 3 1 22) {Ψ : Int32 → SS → Prop} (hx : ∀ (o1 : Int32) (so : SS), Ψ o1 so → V G K (wM G so) 123 [(0, .ref (aM G 0)), (2, .int o1)] []) : ∀ (n : Nat) (v2 : Int32) (s : SS), tp (L6_next_65 n v2 s) (k2 Ψ) → V G K (wM G s) 65 [(0, .ref (aM G 0)), (2, .int v2)] [] := by
  intro n
  induction n with
  | zero => intro v2 s h; exact tp_no h
  | succ n ih =>
    intro v2 s
    rw [L6_next_65]
    refine v_aload_n (pc := 65) C 0 rfl dX6_next_65 ?_
    refine cIv0r (pc := 66) C (fun r9 h9 => m6_here G K.2.1 s r9 h9) q_yX6_here mw_324 rc_6 ⟨by decide, by decide⟩ (Nat.le_of_ble_eq_true rfl) dX6_next_66 (fun x29 => ?_)
    refine v_bipush (pc := 69) C 97 dX6_next_69 (by decide) ?_
    refine v_bipush (pc := 71) C 122 dX6_next_71 (by decide) ?_
    refine cIs3r (pc := 73) C (fun r9 h9 => m6_in G K.2.1 x29 97 122 _ r9 h9) q_yX6_in mw_139 ⟨by decide, by decide⟩ (Nat.le_of_ble_eq_true rfl) dX6_next_73 (fun x30 => ?_)
    refine v_if_eq (pc := 76) C 123 dX6_next_76 (by decide) ?_ ?_
    · exact tp_out (fun h => v_to [0, 1] (hx _ _) rfl h)
    · refine v_aload_n (pc := 79) C 0 rfl dX6_next_79 ?_
      refine g6_at (pc := 80) C mw_311 dX6_next_80 ?_
      refine v_aload_n (pc := 83) C 0 rfl dX6_next_83 ?_
      refine g6_start (pc := 84) C mw_319 dX6_next_84 ?_
      refine v_isub (pc := 87) C dX6_next_87 ?_
      refine v_bipush (pc := 88) C 6 dX6_next_88 (by decide) ?_
      refine r_lJ (fun Φ0 j31 => ∀ (x33 : Int32), tp (j31 x33) Φ0 → V G K (wM G s) 109 [(0, .ref (aM G 0))] [.int x33]) (fun x33 => ?_) (fun j31 hj32 => ?_)
      · refine v_istore_n (pc := 109) C dX6_next_109 (by decide) (lv' := [(2, .int x33), (0, .ref (aM G 0))]) rfl ?_
        refine v_aload_n (pc := 110) C 1 rfl dX6_next_110 ?_
        refine v_dup (pc := 111) C dX6_next_111 rfl ?_
        refine g6_at (pc := 112) C mw_311 dX6_next_112 ?_
        refine v_iconst (pc := 115) C 1 dX6_next_115 (by decide) ?_
        refine v_iadd (pc := 116) C dX6_next_116 ?_
        refine p6_at (pc := 117) C mw_311 dX6_next_117 ?_
        refine r_ltm (fun q34 => ?_)
        refine v_goto (pc := 120) C 65 dX6_next_120 (by decide) ?_
        exact v_to [1, 0] (ih _ _) rfl
      refine v_icmp_ge (pc := 90) C 108 dX6_next_90 (by decide) ?_ ?_
      · refine v_bipush (pc := 93) C 27 dX6_next_93 (by decide) ?_
        refine v_iload_n (pc := 95) C 1 rfl dX6_next_95 ?_
        refine v_imul (pc := 96) C dX6_next_96 ?_
        refine v_aload_n (pc := 97) C 0 rfl dX6_next_97 ?_
        refine cIv0r (pc := 98) C (fun r9 h9 => m6_here G K.2.1 s r9 h9) q_yX6_here mw_324 rc_6 ⟨by decide, by decide⟩ (Nat.le_of_ble_eq_true rfl) dX6_next_98 (fun x35 => ?_)
        refine v_iadd (pc := 101) C dX6_next_101 ?_
        refine v_bipush (pc := 102) C 96 dX6_next_102 (by decide) ?_
        refine v_isub (pc := 104) C dX6_next_104 ?_
        refine v_goto (pc := 105) C 109 dX6_next_105 (by decide) ?_
        exact v_to [0] (hj32 _) rfl
      · refine v_iconst (pc := 108) C 0 dX6_next_108 (by decide) ?_
        exact v_to [0] (hj32 _) rfl
set_option maxHeartbeats 4000000 in
set_option maxRecDepth 100000 in
theorem m6_next (G : GT) (l : Launch)   (s0 : SS) (s1 : SS) (hf : f6_next s0 = some s1) : MV G l yX6_next cX6_next 3 none 1 22 [.ref (aM G 0)] (wM G s0) (wM G s1) := by
  refine MV.start (by decide +kernel) (Nat.le_of_ble_eq_true rfl) (fun K hl C hret => ?_)
  subst hl
  have C : Ctx G K cX6_next RX6 3 1 22 := C
  change V G K (wM G s0) 0 [(0, .ref (aM G 0))] []
  refine (?_ : tp (f6_next s0) (fun q => q = s1) → _) ⟨_, hf, rfl⟩
  rw [f6_next]
  refine r_bk1 ?_
  refine v_to [0] (l6_next_0 C (fun q3 => ?_) FU _) rfl
  refine v_aload_n (pc := 22) C 0 rfl dX6_next_22 ?_
  refine v_aload_n (pc := 23) C 0 rfl dX6_next_23 ?_
  refine g6_at (pc := 24) C mw_311 dX6_next_24 ?_
  refine p6_start (pc := 27) C mw_319 dX6_next_27 ?_
  refine r_ltm (fun q4 => ?_)
  refine v_aload_n (pc := 30) C 0 rfl dX6_next_30 ?_
  refine v_iconst (pc := 31) C 0 dX6_next_31 (by decide) ?_
  refine p6_value (pc := 32) C mw_320 dX6_next_32 ?_
  refine r_ltm (fun q5 => ?_)
  refine v_aload_n (pc := 35) C 0 rfl dX6_next_35 ?_
  refine cIv0r (pc := 36) C (fun r9 h9 => m6_here G K.2.1 q5 r9 h9) q_yX6_here mw_324 rc_6 ⟨by decide, by decide⟩ (Nat.le_of_ble_eq_true rfl) dX6_next_36 (fun x6 => ?_)
  refine v_istore_n (pc := 39) C dX6_next_39 (by decide) (lv' := [(1, .int x6), (0, .ref (aM G 0))]) rfl ?_
  refine v_iload_n (pc := 40) C 0 rfl dX6_next_40 ?_
  refine v_if_ge (pc := 41) C 52 dX6_next_41 (by decide) ?_ ?_
  · refine v_aload_n (pc := 44) C 1 rfl dX6_next_44 ?_
    refine v_iconst (pc := 45) C 0 dX6_next_45 (by decide) ?_
    refine p6_sort (pc := 46) C mw_313 dX6_next_46 ?_
    refine r_ltm (fun q7 => ?_)
    refine v_goto (pc := 49) C 334 dX6_next_49 (by decide) ?_
    exact tp_out (fun h => hret _ _ _ (congrArg (wM G) h) dX6_next_334)
  · refine v_iload_n (pc := 52) C 0 rfl dX6_next_52 ?_
    refine v_bipush (pc := 53) C 97 dX6_next_53 (by decide) ?_
    refine v_bipush (pc := 55) C 122 dX6_next_55 (by decide) ?_
    refine cIs3r (pc := 57) C (fun r9 h9 => m6_in G K.2.1 x6 97 122 _ r9 h9) q_yX6_in mw_139 ⟨by decide, by decide⟩ (Nat.le_of_ble_eq_true rfl) dX6_next_57 (fun x8 => ?_)
    refine v_if_eq (pc := 60) C 193 dX6_next_60 (by decide) ?_ ?_
    · refine v_iload_n (pc := 193) C 0 rfl dX6_next_193 ?_
      refine v_bipush (pc := 194) C 48 dX6_next_194 (by decide) ?_
      refine v_bipush (pc := 196) C 57 dX6_next_196 (by decide) ?_
      refine cIs3r (pc := 198) C (fun r9 h9 => m6_in G K.2.1 x6 48 57 _ r9 h9) q_yX6_in mw_139 ⟨by decide, by decide⟩ (Nat.le_of_ble_eq_true rfl) dX6_next_198 (fun x9 => ?_)
      refine v_if_eq (pc := 201) C 307 dX6_next_201 (by decide) ?_ ?_
      · refine v_aload_n (pc := 307) C 1 rfl dX6_next_307 ?_
        refine v_dup (pc := 308) C dX6_next_308 rfl ?_
        refine g6_at (pc := 309) C mw_311 dX6_next_309 ?_
        refine v_iconst (pc := 312) C 1 dX6_next_312 (by decide) ?_
        refine v_iadd (pc := 313) C dX6_next_313 ?_
        refine p6_at (pc := 314) C mw_311 dX6_next_314 ?_
        refine r_ltm (fun q10 => ?_)
        refine v_aload_n (pc := 317) C 1 rfl dX6_next_317 ?_
        refine v_iload_n (pc := 318) C 0 rfl dX6_next_318 ?_
        refine v_bipush (pc := 319) C 59 dX6_next_319 (by decide) ?_
        refine r_lJ (fun Φ0 j11 => ∀ (x13 : Int32), tp (j11 x13) Φ0 → V G K (wM G q10) 331 [] [.int x13, .ref (aM G 0)]) (fun x13 => ?_) (fun j11 hj12 => ?_)
        · refine p6_sort (pc := 331) C mw_313 dX6_next_331 ?_
          refine r_ltm (fun q14 => ?_)
          exact tp_out (fun h => hret _ _ _ (congrArg (wM G) h) dX6_next_334)
        refine v_icmp_ne (pc := 321) C 329 dX6_next_321 (by decide) ?_ ?_
        · refine v_bipush (pc := 324) C 6 dX6_next_324 (by decide) ?_
          refine v_goto (pc := 326) C 331 dX6_next_326 (by decide) ?_
          exact v_to [] (hj12 _) rfl
        · refine v_bipush (pc := 329) C 7 dX6_next_329 (by decide) ?_
          exact v_to [] (hj12 _) rfl
      · refine r_bk1 ?_
        refine v_to [1, 0] (l6_next_204 C x6 (fun q23 => ?_) FU _) rfl
        refine v_aload_n (pc := 266) C 0 rfl dX6_next_266 ?_
        refine v_aload_n (pc := 267) C 0 rfl dX6_next_267 ?_
        refine g6_value (pc := 268) C mw_320 dX6_next_268 ?_
        refine v_bipush (pc := 271) C 99 dX6_next_271 (by decide) ?_
        refine v_icmp_gt (pc := 273) C 295 dX6_next_273 (by decide) ?_ ?_
        · refine v_iload_n (pc := 276) C 1 rfl dX6_next_276 ?_
          refine v_bipush (pc := 277) C 48 dX6_next_277 (by decide) ?_
          refine r_lJ (fun Φ0 j24 => ∀ (_u : Unit), tp (j24 ()) Φ0 → V G K (wM G q23) 300 [] [.ref (aM G 0)]) (fun _u => ?_) (fun j24 hj25 => ?_)
          · refine v_iconst (pc := 300) C 5 dX6_next_300 (by decide) ?_
            refine p6_sort (pc := 301) C mw_313 dX6_next_301 ?_
            refine r_ltm (fun q26 => ?_)
            refine v_goto (pc := 304) C 334 dX6_next_304 (by decide) ?_
            exact tp_out (fun h => hret _ _ _ (congrArg (wM G) h) dX6_next_334)
          refine v_icmp_ne (pc := 279) C 300 dX6_next_279 (by decide) ?_ ?_
          · refine v_aload_n (pc := 282) C 0 rfl dX6_next_282 ?_
            refine g6_at (pc := 283) C mw_311 dX6_next_283 ?_
            refine v_aload_n (pc := 286) C 0 rfl dX6_next_286 ?_
            refine g6_start (pc := 287) C mw_319 dX6_next_287 ?_
            refine v_isub (pc := 290) C dX6_next_290 ?_
            refine v_iconst (pc := 291) C 1 dX6_next_291 (by decide) ?_
            refine v_icmp_le (pc := 292) C 300 dX6_next_292 (by decide) ?_ ?_
            · exact v_to [] (hj25 ()) rfl
            · refine v_bipush (pc := 295) C 7 dX6_next_295 (by decide) ?_
              refine v_goto (pc := 297) C 301 dX6_next_297 (by decide) ?_
              refine p6_sort (pc := 301) C mw_313 dX6_next_301 ?_
              refine r_ltm (fun q27 => ?_)
              refine v_goto (pc := 304) C 334 dX6_next_304 (by decide) ?_
              exact tp_out (fun h => hret _ _ _ (congrArg (wM G) h) dX6_next_334)
          · exact v_to [] (hj25 ()) rfl
        · refine v_bipush (pc := 295) C 7 dX6_next_295 (by decide) ?_
          refine v_goto (pc := 297) C 301 dX6_next_297 (by decide) ?_
          refine p6_sort (pc := 301) C mw_313 dX6_next_301 ?_
          refine r_ltm (fun q28 => ?_)
          refine v_goto (pc := 304) C 334 dX6_next_304 (by decide) ?_
          exact tp_out (fun h => hret _ _ _ (congrArg (wM G) h) dX6_next_334)
    · refine v_iconst (pc := 63) C 0 dX6_next_63 (by decide) ?_
      refine v_istore_n (pc := 64) C dX6_next_64 (by decide) (lv' := [(2, .int 0), (1, .int x6), (0, .ref (aM G 0))]) rfl ?_
      refine r_bk2 ?_
      refine v_to [2, 0] (l6_next_65 C (fun x36 q37 => ?_) FU _ _) rfl
      refine v_aload_n (pc := 123) C 0 rfl dX6_next_123 ?_
      refine g6_at (pc := 124) C mw_311 dX6_next_124 ?_
      refine v_aload_n (pc := 127) C 0 rfl dX6_next_127 ?_
      refine g6_start (pc := 128) C mw_319 dX6_next_128 ?_
      refine v_isub (pc := 131) C dX6_next_131 ?_
      refine v_bipush (pc := 132) C 6 dX6_next_132 (by decide) ?_
      refine r_lJ (fun Φ0 j38 => ∀ (x40 : Int32), tp (j38 x40) Φ0 → V G K (wM G q37) 142 [(0, .ref (aM G 0))] [.int x40]) (fun x40 => ?_) (fun j38 hj39 => ?_)
      · refine v_istore_n (pc := 142) C dX6_next_142 (by decide) (lv' := [(2, .int x40), (0, .ref (aM G 0))]) rfl ?_
        refine v_aload_n (pc := 143) C 1 rfl dX6_next_143 ?_
        refine v_iload_n (pc := 144) C 0 rfl dX6_next_144 ?_
        refine v_ldc (pc := 145) C mw_321 dX6_next_145 ?_
        refine v_icmp_ne (pc := 147) C 154 dX6_next_147 (by decide) ?_ ?_
        · refine v_iconst (pc := 150) C 1 dX6_next_150 (by decide) ?_
          refine v_goto (pc := 151) C 187 dX6_next_151 (by decide) ?_
          refine p6_sort (pc := 187) C mw_313 dX6_next_187 ?_
          refine r_ltm (fun q41 => ?_)
          refine v_goto (pc := 190) C 334 dX6_next_190 (by decide) ?_
          exact tp_out (fun h => hret _ _ _ (congrArg (wM G) h) dX6_next_334)
        · refine v_iload_n (pc := 154) C 0 rfl dX6_next_154 ?_
          refine v_sipush (pc := 155) C 16922 dX6_next_155 (by decide) ?_
          refine v_icmp_ne (pc := 158) C 165 dX6_next_158 (by decide) ?_ ?_
          · refine v_iconst (pc := 161) C 2 dX6_next_161 (by decide) ?_
            refine v_goto (pc := 162) C 187 dX6_next_162 (by decide) ?_
            refine p6_sort (pc := 187) C mw_313 dX6_next_187 ?_
            refine r_ltm (fun q42 => ?_)
            refine v_goto (pc := 190) C 334 dX6_next_190 (by decide) ?_
            exact tp_out (fun h => hret _ _ _ (congrArg (wM G) h) dX6_next_334)
          · refine v_iload_n (pc := 165) C 0 rfl dX6_next_165 ?_
            refine v_ldc (pc := 166) C mw_322 dX6_next_166 ?_
            refine v_icmp_ne (pc := 168) C 175 dX6_next_168 (by decide) ?_ ?_
            · refine v_iconst (pc := 171) C 3 dX6_next_171 (by decide) ?_
              refine v_goto (pc := 172) C 187 dX6_next_172 (by decide) ?_
              refine p6_sort (pc := 187) C mw_313 dX6_next_187 ?_
              refine r_ltm (fun q43 => ?_)
              refine v_goto (pc := 190) C 334 dX6_next_190 (by decide) ?_
              exact tp_out (fun h => hret _ _ _ (congrArg (wM G) h) dX6_next_334)
            · refine v_iload_n (pc := 175) C 0 rfl dX6_next_175 ?_
              refine v_ldc (pc := 176) C mw_323 dX6_next_176 ?_
              refine v_icmp_ne (pc := 178) C 185 dX6_next_178 (by decide) ?_ ?_
              · refine v_iconst (pc := 181) C 4 dX6_next_181 (by decide) ?_
                refine v_goto (pc := 182) C 187 dX6_next_182 (by decide) ?_
                refine p6_sort (pc := 187) C mw_313 dX6_next_187 ?_
                refine r_ltm (fun q44 => ?_)
                refine v_goto (pc := 190) C 334 dX6_next_190 (by decide) ?_
                exact tp_out (fun h => hret _ _ _ (congrArg (wM G) h) dX6_next_334)
              · refine v_bipush (pc := 185) C 7 dX6_next_185 (by decide) ?_
                refine p6_sort (pc := 187) C mw_313 dX6_next_187 ?_
                refine r_ltm (fun q45 => ?_)
                refine v_goto (pc := 190) C 334 dX6_next_190 (by decide) ?_
                exact tp_out (fun h => hret _ _ _ (congrArg (wM G) h) dX6_next_334)
      refine v_icmp_le (pc := 134) C 141 dX6_next_134 (by decide) ?_ ?_
      · refine v_iload_n (pc := 141) C 1 rfl dX6_next_141 ?_
        exact v_to [0] (hj39 _) rfl
      · refine v_iconst (pc := 137) C 0 dX6_next_137 (by decide) ?_
        refine v_goto (pc := 138) C 142 dX6_next_138 (by decide) ?_
        exact v_to [0] (hj39 _) rfl
def f6_due (a1 : Int32) (s0 : SS) : Option (Int32 × SS) := lt ((s0.1 0 11)) (fun x1 => if (s0.1 0 12) = (-9) then if a1 = 0 then lt (sI s0 0 12 (s0.1 0 9)) (fun q2 => some (x1, q2)) else bd (f6_next s0) (fun q3 => some (x1, q3)) else some (x1, s0))
set_option maxHeartbeats 4000000 in
set_option maxRecDepth 100000 in
theorem m6_due (G : GT) (l : Launch) (a1 : Int32)  (s0 : SS) (r : Int32) (s1 : SS) (hf : f6_due a1 s0 = some (r, s1)) : MI G l yX6_due cX6_due 3 (some .int) 2 44 [.ref (aM G 0), .int a1] (wM G s0) r (wM G s1) := by
  refine MI.start (by decide +kernel) (Nat.le_of_ble_eq_true rfl) (fun K hl C hret => ?_)
  subst hl
  have C : Ctx G K cX6_due RX6 3 2 44 := C
  change V G K (wM G s0) 0 [(0, .ref (aM G 0)), (1, .int a1)] []
  refine (?_ : tp (f6_due a1 s0) (fun q => q = (r, s1)) → _) ⟨_, hf, rfl⟩
  rw [f6_due]
  refine v_aload_n (pc := 0) C 0 rfl dX6_due_0 ?_
  refine g6_value (pc := 1) C mw_320 dX6_due_1 ?_
  refine r_lti (fun x1 => ?_)
  refine v_istore_n (pc := 4) C dX6_due_4 (by decide) (lv' := [(2, .int x1), (0, .ref (aM G 0)), (1, .int a1)]) rfl ?_
  refine v_aload_n (pc := 5) C 1 rfl dX6_due_5 ?_
  refine g6_fault (pc := 6) C mw_312 dX6_due_6 ?_
  refine v_bipush (pc := 9) C (-9) dX6_due_9 (by decide) ?_
  refine v_icmp_ne (pc := 11) C 33 dX6_due_11 (by decide) ?_ ?_
  · refine v_iload_n (pc := 14) C 2 rfl dX6_due_14 ?_
    refine v_if_eq (pc := 15) C 25 dX6_due_15 (by decide) ?_ ?_
    · refine v_aload_n (pc := 25) C 1 rfl dX6_due_25 ?_
      refine v_aload_n (pc := 26) C 1 rfl dX6_due_26 ?_
      refine g6_start (pc := 27) C mw_319 dX6_due_27 ?_
      refine p6_fault (pc := 30) C mw_312 dX6_due_30 ?_
      refine r_ltm (fun q2 => ?_)
      refine v_iload_n (pc := 33) C 0 rfl dX6_due_33 ?_
      exact tp_out (fun h => hret _ _ _ _ ⟨(Prod.mk.inj h).1, congrArg (wM G) (Prod.mk.inj h).2⟩ dX6_due_34)
    · refine v_aload_n (pc := 18) C 1 rfl dX6_due_18 ?_
      refine cVv0w (pc := 19) C (W2 := wM G) (fun s9 h9 => m6_next G K.2.1 s0 s9 h9) q_yX6_next mw_315 rc_6 ⟨by decide, by decide⟩ (Nat.le_of_ble_eq_true rfl) dX6_due_19 (fun q3 => ?_)
      refine v_goto (pc := 22) C 33 dX6_due_22 (by decide) ?_
      refine v_iload_n (pc := 33) C 0 rfl dX6_due_33 ?_
      exact tp_out (fun h => hret _ _ _ _ ⟨(Prod.mk.inj h).1, congrArg (wM G) (Prod.mk.inj h).2⟩ dX6_due_34)
  · refine v_iload_n (pc := 33) C 0 rfl dX6_due_33 ?_
    exact tp_out (fun h => hret _ _ _ _ ⟨(Prod.mk.inj h).1, congrArg (wM G) (Prod.mk.inj h).2⟩ dX6_due_34)
def f6_number (a1 : Int32) (a2 : Int32) (s0 : SS) : Option (Int32 × SS) := lt (fun (x3 : Int32) => bk2 (f6_due x3 s0) (fun x4 q5 => some (x4, q5))) (fun j1 => lt (fun (_u : Unit) => j1 0) (fun j6 => if (s0.1 0 10) = 5 then bd (f6_in (s0.1 0 11) a1 a2) (fun x8 => if x8 = 0 then j6 () else j1 1) else j6 ()))
set_option maxHeartbeats 4000000 in
set_option maxRecDepth 100000 in
theorem m6_number (G : GT) (l : Launch) (a1 : Int32) (a2 : Int32)  (s0 : SS) (r : Int32) (s1 : SS) (hf : f6_number a1 a2 s0 = some (r, s1)) : MI G l yX6_number cX6_number 3 (some .int) 3 66 [.ref (aM G 0), .int a1, .int a2] (wM G s0) r (wM G s1) := by
  refine MI.start (by decide +kernel) (Nat.le_of_ble_eq_true rfl) (fun K hl C hret => ?_)
  subst hl
  have C : Ctx G K cX6_number RX6 3 3 66 := C
  change V G K (wM G s0) 0 [(0, .ref (aM G 0)), (1, .int a1), (2, .int a2)] []
  refine (?_ : tp (f6_number a1 a2 s0) (fun q => q = (r, s1)) → _) ⟨_, hf, rfl⟩
  rw [f6_number]
  refine v_aload_n (pc := 0) C 0 rfl dX6_number_0 ?_
  refine v_aload_n (pc := 1) C 0 rfl dX6_number_1 ?_
  refine g6_sort (pc := 2) C mw_313 dX6_number_2 ?_
  refine v_iconst (pc := 5) C 5 dX6_number_5 (by decide) ?_
  refine r_lJ (fun Φ0 j1 => ∀ (x3 : Int32), tp (j1 x3) Φ0 → V G K (wM G s0) 26 [] [.int x3, .ref (aM G 0)]) (fun x3 => ?_) (fun j1 hj2 => ?_)
  · refine cIv1w (pc := 26) C (W2 := wM G) (fun r9 s9 h9 => m6_due G K.2.1 x3 s0 r9 s9 h9) q_yX6_due mw_332 rc_6 ⟨by decide, by decide⟩ (Nat.le_of_ble_eq_true rfl) dX6_number_26 (fun x4 q5 => ?_)
    exact tp_out (fun h => hret _ _ _ _ ⟨(Prod.mk.inj h).1, congrArg (wM G) (Prod.mk.inj h).2⟩ dX6_number_29)
  refine r_lJ (fun Φ0 j6 => ∀ (_u : Unit), tp (j6 ()) Φ0 → V G K (wM G s0) 25 [] [.ref (aM G 0)]) (fun _u => ?_) (fun j6 hj7 => ?_)
  · refine v_iconst (pc := 25) C 0 dX6_number_25 (by decide) ?_
    exact v_to [] (hj2 _) rfl
  refine v_icmp_ne (pc := 6) C 25 dX6_number_6 (by decide) ?_ ?_
  · refine v_aload_n (pc := 9) C 0 rfl dX6_number_9 ?_
    refine g6_value (pc := 10) C mw_320 dX6_number_10 ?_
    refine v_iload_n (pc := 13) C 1 rfl dX6_number_13 ?_
    refine v_iload_n (pc := 14) C 2 rfl dX6_number_14 ?_
    refine cIs3r (pc := 15) C (fun r9 h9 => m6_in G K.2.1 (s0.1 0 11) a1 a2 _ r9 h9) q_yX6_in mw_139 ⟨by decide, by decide⟩ (Nat.le_of_ble_eq_true rfl) dX6_number_15 (fun x8 => ?_)
    refine v_if_eq (pc := 18) C 25 dX6_number_18 (by decide) ?_ ?_
    · exact v_to [] (hj7 ()) rfl
    · refine v_iconst (pc := 21) C 1 dX6_number_21 (by decide) ?_
      refine v_goto (pc := 22) C 26 dX6_number_22 (by decide) ?_
      exact v_to [] (hj2 _) rfl
  · exact v_to [] (hj7 ()) rfl
def f6_optional (a1 : Int32) (s0 : SS) : Option (Int32 × SS) := lt (fun (x3 : Int32) => lt (fun (q6 : SS) => if x3 = 0 then some (0, q6) else some (1, q6)) (fun j4 => if x3 = 0 then j4 s0 else bk2 (f6_due 1 s0) (fun x7 q8 => j4 q8))) (fun j1 => lt (fun (_u : Unit) => j1 0) (fun j9 => if (s0.1 0 12) = (-9) then if (s0.1 0 10) = a1 then j1 1 else j9 () else j9 ()))
set_option maxHeartbeats 4000000 in
set_option maxRecDepth 100000 in
theorem m6_optional (G : GT) (l : Launch) (a1 : Int32)  (s0 : SS) (r : Int32) (s1 : SS) (hf : f6_optional a1 s0 = some (r, s1)) : MI G l yX6_optional cX6_optional 3 (some .int) 3 66 [.ref (aM G 0), .int a1] (wM G s0) r (wM G s1) := by
  refine MI.start (by decide +kernel) (Nat.le_of_ble_eq_true rfl) (fun K hl C hret => ?_)
  subst hl
  have C : Ctx G K cX6_optional RX6 3 3 66 := C
  change V G K (wM G s0) 0 [(0, .ref (aM G 0)), (1, .int a1)] []
  refine (?_ : tp (f6_optional a1 s0) (fun q => q = (r, s1)) → _) ⟨_, hf, rfl⟩
  rw [f6_optional]
  refine v_aload_n (pc := 0) C 0 rfl dX6_optional_0 ?_
  refine g6_fault (pc := 1) C mw_312 dX6_optional_1 ?_
  refine v_bipush (pc := 4) C (-9) dX6_optional_4 (by decide) ?_
  refine r_lJ (fun Φ0 j1 => ∀ (x3 : Int32), tp (j1 x3) Φ0 → V G K (wM G s0) 22 [(0, .ref (aM G 0))] [.int x3]) (fun x3 => ?_) (fun j1 hj2 => ?_)
  · refine v_istore_n (pc := 22) C dX6_optional_22 (by decide) (lv' := [(2, .int x3), (0, .ref (aM G 0))]) rfl ?_
    refine v_iload_n (pc := 23) C 0 rfl dX6_optional_23 ?_
    refine r_lJ (fun Φ0 j4 => ∀ (q6 : SS), tp (j4 q6) Φ0 → V G K (wM G q6) 33 [(2, .int x3)] []) (fun q6 => ?_) (fun j4 hj5 => ?_)
    · refine v_iload_n (pc := 33) C 0 rfl dX6_optional_33 ?_
      refine v_if_eq (pc := 34) C 41 dX6_optional_34 (by decide) ?_ ?_
      · refine v_iconst (pc := 41) C 0 dX6_optional_41 (by decide) ?_
        exact tp_out (fun h => hret _ _ _ _ ⟨(Prod.mk.inj h).1, congrArg (wM G) (Prod.mk.inj h).2⟩ dX6_optional_42)
      · refine v_iconst (pc := 37) C 1 dX6_optional_37 (by decide) ?_
        refine v_goto (pc := 38) C 42 dX6_optional_38 (by decide) ?_
        exact tp_out (fun h => hret _ _ _ _ ⟨(Prod.mk.inj h).1, congrArg (wM G) (Prod.mk.inj h).2⟩ dX6_optional_42)
    refine v_if_eq (pc := 24) C 33 dX6_optional_24 (by decide) ?_ ?_
    · exact v_to [0] (hj5 _) rfl
    · refine v_aload_n (pc := 27) C 1 rfl dX6_optional_27 ?_
      refine v_iconst (pc := 28) C 1 dX6_optional_28 (by decide) ?_
      refine cIv1w (pc := 29) C (W2 := wM G) (fun r9 s9 h9 => m6_due G K.2.1 1 s0 r9 s9 h9) q_yX6_due mw_332 rc_6 ⟨by decide, by decide⟩ (Nat.le_of_ble_eq_true rfl) dX6_optional_29 (fun x7 q8 => ?_)
      refine v_pop (pc := 32) C dX6_optional_32 rfl ?_
      exact v_to [0] (hj5 _) rfl
  refine r_lJ (fun Φ0 j9 => ∀ (_u : Unit), tp (j9 ()) Φ0 → V G K (wM G s0) 21 [(0, .ref (aM G 0))] []) (fun _u => ?_) (fun j9 hj10 => ?_)
  · refine v_iconst (pc := 21) C 0 dX6_optional_21 (by decide) ?_
    exact v_to [0] (hj2 _) rfl
  refine v_icmp_ne (pc := 6) C 21 dX6_optional_6 (by decide) ?_ ?_
  · refine v_aload_n (pc := 9) C 0 rfl dX6_optional_9 ?_
    refine g6_sort (pc := 10) C mw_313 dX6_optional_10 ?_
    refine v_iload_n (pc := 13) C 1 rfl dX6_optional_13 ?_
    refine v_icmp_ne (pc := 14) C 21 dX6_optional_14 (by decide) ?_ ?_
    · refine v_iconst (pc := 17) C 1 dX6_optional_17 (by decide) ?_
      refine v_goto (pc := 18) C 22 dX6_optional_18 (by decide) ?_
      exact v_to [0] (hj2 _) rfl
    · exact v_to [0] (hj10 ()) rfl
  · exact v_to [0] (hj10 ()) rfl
def f6_item (a1 : Int32) (s0 : SS) : Option SS := lt (fun (x3 : Int32) => bk2 (f6_due x3 s0) (fun x4 q5 => if (q5.1 0 12) = (-9) then lt (fun (q8 : SS) => lt (fun (x11 : Int32) => bk2 (f6_due x11 q8) (fun x12 q13 => some q13)) (fun j9 => if (q8.1 0 10) = 6 then j9 1 else j9 0)) (fun j6 => if a1 = 1 then gd (inb 1 2) (lt ((72 + (6 * (q5.1 2 (1 : Int32).toNatClampNeg)))) (fun x14 => bk2 (f6_number 1 99 q5) (fun x15 q16 => gd (inb x14 144) (lt (sI q16 3 (Int32.toNatClampNeg x14) x15) (fun q17 => bk2 (f6_number 0 7 q17) (fun x18 q19 => gd (inb (x14 + 1) 144) (lt (sI q19 3 (Int32.toNatClampNeg (x14 + 1)) x18) (fun q20 => bk2 (f6_number 1 30 q20) (fun x21 q22 => gd (inb (x14 + 2) 144) (lt (sI q22 3 (Int32.toNatClampNeg (x14 + 2)) x21) (fun q23 => bk2 (f6_number 0 10 q23) (fun x24 q25 => gd (inb (x14 + 3) 144) (lt (sI q25 3 (Int32.toNatClampNeg (x14 + 3)) x24) (fun q26 => bk2 (f6_optional 2 q26) (fun x27 q28 => gd (inb (x14 + 4) 144) (lt (sI q28 3 (Int32.toNatClampNeg (x14 + 4)) x27) (fun q29 => bk2 (f6_optional 3 q29) (fun x30 q31 => gd (inb (x14 + 5) 144) (lt (sI q31 3 (Int32.toNatClampNeg (x14 + 5)) x30) (fun q32 => gd (inb 1 2) (gd (inb 1 2) (lt (sI q32 2 (Int32.toNatClampNeg 1) ((q32.1 2 (1 : Int32).toNatClampNeg) + 1)) (fun q33 => j6 q33))))))))))))))))))))))) else gd (inb 1 2) (lt ((9 + (3 * (q5.1 4 (1 : Int32).toNatClampNeg)))) (fun x34 => bk2 (f6_number 1 30 q5) (fun x35 q36 => gd (inb x34 18) (lt (sI q36 5 (Int32.toNatClampNeg x34) x35) (fun q37 => bk2 (f6_number 1 99 q37) (fun x38 q39 => gd (inb (x34 + 1) 18) (lt (sI q39 5 (Int32.toNatClampNeg (x34 + 1)) x38) (fun q40 => bk2 (f6_number 0 9 q40) (fun x41 q42 => gd (inb (x34 + 2) 18) (lt (sI q42 5 (Int32.toNatClampNeg (x34 + 2)) x41) (fun q43 => gd (inb 1 2) (gd (inb 1 2) (lt (sI q43 4 (Int32.toNatClampNeg 1) ((q43.1 4 (1 : Int32).toNatClampNeg) + 1)) (fun q44 => j6 q44))))))))))))))) else some q5)) (fun j1 => if a1 = 1 then gd (inb 1 2) (if (s0.1 2 (1 : Int32).toNatClampNeg) < 12 then j1 1 else j1 0) else lt (fun (_u : Unit) => j1 0) (fun j45 => if a1 = 4 then gd (inb 1 2) (if (s0.1 4 (1 : Int32).toNatClampNeg) < 3 then j1 1 else j45 ()) else j45 ()))
set_option maxHeartbeats 4000000 in
set_option maxRecDepth 100000 in
theorem m6_item (G : GT) (l : Launch) (a1 : Int32)  (s0 : SS) (s1 : SS) (hf : f6_item a1 s0 = some s1) : MV G l yX6_item cX6_item 3 none 4 88 [.ref (aM G 0), .int a1] (wM G s0) (wM G s1) := by
  refine MV.start (by decide +kernel) (Nat.le_of_ble_eq_true rfl) (fun K hl C hret => ?_)
  subst hl
  have C : Ctx G K cX6_item RX6 3 4 88 := C
  change V G K (wM G s0) 0 [(0, .ref (aM G 0)), (1, .int a1)] []
  refine (?_ : tp (f6_item a1 s0) (fun q => q = s1) → _) ⟨_, hf, rfl⟩
  rw [f6_item]
  refine v_aload_n (pc := 0) C 0 rfl dX6_item_0 ?_
  refine v_iload_n (pc := 1) C 1 rfl dX6_item_1 ?_
  refine v_iconst (pc := 2) C 1 dX6_item_2 (by decide) ?_
  refine r_lJ (fun Φ0 j1 => ∀ (x3 : Int32), tp (j1 x3) Φ0 → V G K (wM G s0) 45 [(0, .ref (aM G 0)), (1, .int a1)] [.int x3, .ref (aM G 0)]) (fun x3 => ?_) (fun j1 hj2 => ?_)
  · refine cIv1w (pc := 45) C (W2 := wM G) (fun r9 s9 h9 => m6_due G K.2.1 x3 s0 r9 s9 h9) q_yX6_due mw_332 rc_6 ⟨by decide, by decide⟩ (Nat.le_of_ble_eq_true rfl) dX6_item_45 (fun x4 q5 => ?_)
    refine v_pop (pc := 48) C dX6_item_48 rfl ?_
    refine v_aload_n (pc := 49) C 0 rfl dX6_item_49 ?_
    refine g6_fault (pc := 50) C mw_312 dX6_item_50 ?_
    refine v_bipush (pc := 53) C (-9) dX6_item_53 (by decide) ?_
    refine v_icmp_eq (pc := 55) C 59 dX6_item_55 (by decide) ?_ ?_
    · refine v_iload_n (pc := 59) C 1 rfl dX6_item_59 ?_
      refine v_iconst (pc := 60) C 1 dX6_item_60 (by decide) ?_
      refine r_lJ (fun Φ0 j6 => ∀ (q8 : SS), tp (j6 q8) Φ0 → V G K (wM G q8) 239 [(0, .ref (aM G 0))] []) (fun q8 => ?_) (fun j6 hj7 => ?_)
      · refine v_aload_n (pc := 239) C 0 rfl dX6_item_239 ?_
        refine v_aload_n (pc := 240) C 0 rfl dX6_item_240 ?_
        refine g6_sort (pc := 241) C mw_313 dX6_item_241 ?_
        refine v_bipush (pc := 244) C 6 dX6_item_244 (by decide) ?_
        refine r_lJ (fun Φ0 j9 => ∀ (x11 : Int32), tp (j9 x11) Φ0 → V G K (wM G q8) 254 [] [.int x11, .ref (aM G 0)]) (fun x11 => ?_) (fun j9 hj10 => ?_)
        · refine cIv1w (pc := 254) C (W2 := wM G) (fun r9 s9 h9 => m6_due G K.2.1 x11 q8 r9 s9 h9) q_yX6_due mw_332 rc_6 ⟨by decide, by decide⟩ (Nat.le_of_ble_eq_true rfl) dX6_item_254 (fun x12 q13 => ?_)
          refine v_pop (pc := 257) C dX6_item_257 rfl ?_
          exact tp_out (fun h => hret _ _ _ (congrArg (wM G) h) dX6_item_258)
        refine v_icmp_ne (pc := 246) C 253 dX6_item_246 (by decide) ?_ ?_
        · refine v_iconst (pc := 249) C 1 dX6_item_249 (by decide) ?_
          refine v_goto (pc := 250) C 254 dX6_item_250 (by decide) ?_
          exact v_to [] (hj10 _) rfl
        · refine v_iconst (pc := 253) C 0 dX6_item_253 (by decide) ?_
          exact v_to [] (hj10 _) rfl
      refine v_icmp_ne (pc := 61) C 174 dX6_item_61 (by decide) ?_ ?_
      · refine v_bipush (pc := 64) C 72 dX6_item_64 (by decide) ?_
        refine v_bipush (pc := 66) C 6 dX6_item_66 (by decide) ?_
        refine v_aload_n (pc := 68) C 0 rfl dX6_item_68 ?_
        refine g6_branches (pc := 69) C mw_101 dX6_item_69 ?_
        refine v_iconst (pc := 72) C 1 dX6_item_72 (by decide) ?_
        refine v_iald (pc := 73) C _ am_2 dX6_item_73 ?_
        refine v_imul (pc := 74) C dX6_item_74 ?_
        refine v_iadd (pc := 75) C dX6_item_75 ?_
        refine r_lti (fun x14 => ?_)
        refine v_istore_n (pc := 76) C dX6_item_76 (by decide) (lv' := [(2, .int x14), (0, .ref (aM G 0)), (1, .int a1)]) rfl ?_
        refine v_aload_n (pc := 77) C 1 rfl dX6_item_77 ?_
        refine g6_told (pc := 78) C mw_102 dX6_item_78 ?_
        refine v_iload_n (pc := 81) C 0 rfl dX6_item_81 ?_
        refine v_aload_n (pc := 82) C 1 rfl dX6_item_82 ?_
        refine v_iconst (pc := 83) C 1 dX6_item_83 (by decide) ?_
        refine v_bipush (pc := 84) C 99 dX6_item_84 (by decide) ?_
        refine cIv2w (pc := 86) C (W2 := wM G) (fun r9 s9 h9 => m6_number G K.2.1 1 99 q5 r9 s9 h9) q_yX6_number mw_336 rc_6 ⟨by decide, by decide⟩ (Nat.le_of_ble_eq_true rfl) dX6_item_86 (fun x15 q16 => ?_)
        refine v_iast (pc := 89) C _ am_3 (at_3 _ _) dX6_item_89 ?_
        refine r_ltm (fun q17 => ?_)
        refine v_aload_n (pc := 90) C 1 rfl dX6_item_90 ?_
        refine g6_told (pc := 91) C mw_102 dX6_item_91 ?_
        refine v_iload_n (pc := 94) C 0 rfl dX6_item_94 ?_
        refine v_iconst (pc := 95) C 1 dX6_item_95 (by decide) ?_
        refine v_iadd (pc := 96) C dX6_item_96 ?_
        refine v_aload_n (pc := 97) C 1 rfl dX6_item_97 ?_
        refine v_iconst (pc := 98) C 0 dX6_item_98 (by decide) ?_
        refine v_bipush (pc := 99) C 7 dX6_item_99 (by decide) ?_
        refine cIv2w (pc := 101) C (W2 := wM G) (fun r9 s9 h9 => m6_number G K.2.1 0 7 q17 r9 s9 h9) q_yX6_number mw_336 rc_6 ⟨by decide, by decide⟩ (Nat.le_of_ble_eq_true rfl) dX6_item_101 (fun x18 q19 => ?_)
        refine v_iast (pc := 104) C _ am_3 (at_3 _ _) dX6_item_104 ?_
        refine r_ltm (fun q20 => ?_)
        refine v_aload_n (pc := 105) C 1 rfl dX6_item_105 ?_
        refine g6_told (pc := 106) C mw_102 dX6_item_106 ?_
        refine v_iload_n (pc := 109) C 0 rfl dX6_item_109 ?_
        refine v_iconst (pc := 110) C 2 dX6_item_110 (by decide) ?_
        refine v_iadd (pc := 111) C dX6_item_111 ?_
        refine v_aload_n (pc := 112) C 1 rfl dX6_item_112 ?_
        refine v_iconst (pc := 113) C 1 dX6_item_113 (by decide) ?_
        refine v_bipush (pc := 114) C 30 dX6_item_114 (by decide) ?_
        refine cIv2w (pc := 116) C (W2 := wM G) (fun r9 s9 h9 => m6_number G K.2.1 1 30 q20 r9 s9 h9) q_yX6_number mw_336 rc_6 ⟨by decide, by decide⟩ (Nat.le_of_ble_eq_true rfl) dX6_item_116 (fun x21 q22 => ?_)
        refine v_iast (pc := 119) C _ am_3 (at_3 _ _) dX6_item_119 ?_
        refine r_ltm (fun q23 => ?_)
        refine v_aload_n (pc := 120) C 1 rfl dX6_item_120 ?_
        refine g6_told (pc := 121) C mw_102 dX6_item_121 ?_
        refine v_iload_n (pc := 124) C 0 rfl dX6_item_124 ?_
        refine v_iconst (pc := 125) C 3 dX6_item_125 (by decide) ?_
        refine v_iadd (pc := 126) C dX6_item_126 ?_
        refine v_aload_n (pc := 127) C 1 rfl dX6_item_127 ?_
        refine v_iconst (pc := 128) C 0 dX6_item_128 (by decide) ?_
        refine v_bipush (pc := 129) C 10 dX6_item_129 (by decide) ?_
        refine cIv2w (pc := 131) C (W2 := wM G) (fun r9 s9 h9 => m6_number G K.2.1 0 10 q23 r9 s9 h9) q_yX6_number mw_336 rc_6 ⟨by decide, by decide⟩ (Nat.le_of_ble_eq_true rfl) dX6_item_131 (fun x24 q25 => ?_)
        refine v_iast (pc := 134) C _ am_3 (at_3 _ _) dX6_item_134 ?_
        refine r_ltm (fun q26 => ?_)
        refine v_aload_n (pc := 135) C 1 rfl dX6_item_135 ?_
        refine g6_told (pc := 136) C mw_102 dX6_item_136 ?_
        refine v_iload_n (pc := 139) C 0 rfl dX6_item_139 ?_
        refine v_iconst (pc := 140) C 4 dX6_item_140 (by decide) ?_
        refine v_iadd (pc := 141) C dX6_item_141 ?_
        refine v_aload_n (pc := 142) C 1 rfl dX6_item_142 ?_
        refine v_iconst (pc := 143) C 2 dX6_item_143 (by decide) ?_
        refine cIv1w (pc := 144) C (W2 := wM G) (fun r9 s9 h9 => m6_optional G K.2.1 2 q26 r9 s9 h9) q_yX6_optional mw_340 rc_6 ⟨by decide, by decide⟩ (Nat.le_of_ble_eq_true rfl) dX6_item_144 (fun x27 q28 => ?_)
        refine v_iast (pc := 147) C _ am_3 (at_3 _ _) dX6_item_147 ?_
        refine r_ltm (fun q29 => ?_)
        refine v_aload_n (pc := 148) C 1 rfl dX6_item_148 ?_
        refine g6_told (pc := 149) C mw_102 dX6_item_149 ?_
        refine v_iload_n (pc := 152) C 0 rfl dX6_item_152 ?_
        refine v_iconst (pc := 153) C 5 dX6_item_153 (by decide) ?_
        refine v_iadd (pc := 154) C dX6_item_154 ?_
        refine v_aload_n (pc := 155) C 1 rfl dX6_item_155 ?_
        refine v_iconst (pc := 156) C 3 dX6_item_156 (by decide) ?_
        refine cIv1w (pc := 157) C (W2 := wM G) (fun r9 s9 h9 => m6_optional G K.2.1 3 q29 r9 s9 h9) q_yX6_optional mw_340 rc_6 ⟨by decide, by decide⟩ (Nat.le_of_ble_eq_true rfl) dX6_item_157 (fun x30 q31 => ?_)
        refine v_iast (pc := 160) C _ am_3 (at_3 _ _) dX6_item_160 ?_
        refine r_ltm (fun q32 => ?_)
        refine v_aload_n (pc := 161) C 1 rfl dX6_item_161 ?_
        refine g6_branches (pc := 162) C mw_101 dX6_item_162 ?_
        refine v_iconst (pc := 165) C 1 dX6_item_165 (by decide) ?_
        refine v_dup2 (pc := 166) C dX6_item_166 rfl rfl ?_
        refine v_iald (pc := 167) C _ am_2 dX6_item_167 ?_
        refine v_iconst (pc := 168) C 1 dX6_item_168 (by decide) ?_
        refine v_iadd (pc := 169) C dX6_item_169 ?_
        refine v_iast (pc := 170) C _ am_2 (at_2 _ _) dX6_item_170 ?_
        refine r_ltm (fun q33 => ?_)
        refine v_goto (pc := 171) C 239 dX6_item_171 (by decide) ?_
        exact v_to [1] (hj7 _) rfl
      · refine v_bipush (pc := 174) C 9 dX6_item_174 (by decide) ?_
        refine v_iconst (pc := 176) C 3 dX6_item_176 (by decide) ?_
        refine v_aload_n (pc := 177) C 0 rfl dX6_item_177 ?_
        refine g6_bodies (pc := 178) C mw_103 dX6_item_178 ?_
        refine v_iconst (pc := 181) C 1 dX6_item_181 (by decide) ?_
        refine v_iald (pc := 182) C _ am_4 dX6_item_182 ?_
        refine v_imul (pc := 183) C dX6_item_183 ?_
        refine v_iadd (pc := 184) C dX6_item_184 ?_
        refine r_lti (fun x34 => ?_)
        refine v_istore_n (pc := 185) C dX6_item_185 (by decide) (lv' := [(2, .int x34), (0, .ref (aM G 0)), (1, .int a1)]) rfl ?_
        refine v_aload_n (pc := 186) C 1 rfl dX6_item_186 ?_
        refine g6_bodyTold (pc := 187) C mw_104 dX6_item_187 ?_
        refine v_iload_n (pc := 190) C 0 rfl dX6_item_190 ?_
        refine v_aload_n (pc := 191) C 1 rfl dX6_item_191 ?_
        refine v_iconst (pc := 192) C 1 dX6_item_192 (by decide) ?_
        refine v_bipush (pc := 193) C 30 dX6_item_193 (by decide) ?_
        refine cIv2w (pc := 195) C (W2 := wM G) (fun r9 s9 h9 => m6_number G K.2.1 1 30 q5 r9 s9 h9) q_yX6_number mw_336 rc_6 ⟨by decide, by decide⟩ (Nat.le_of_ble_eq_true rfl) dX6_item_195 (fun x35 q36 => ?_)
        refine v_iast (pc := 198) C _ am_5 (at_5 _ _) dX6_item_198 ?_
        refine r_ltm (fun q37 => ?_)
        refine v_aload_n (pc := 199) C 1 rfl dX6_item_199 ?_
        refine g6_bodyTold (pc := 200) C mw_104 dX6_item_200 ?_
        refine v_iload_n (pc := 203) C 0 rfl dX6_item_203 ?_
        refine v_iconst (pc := 204) C 1 dX6_item_204 (by decide) ?_
        refine v_iadd (pc := 205) C dX6_item_205 ?_
        refine v_aload_n (pc := 206) C 1 rfl dX6_item_206 ?_
        refine v_iconst (pc := 207) C 1 dX6_item_207 (by decide) ?_
        refine v_bipush (pc := 208) C 99 dX6_item_208 (by decide) ?_
        refine cIv2w (pc := 210) C (W2 := wM G) (fun r9 s9 h9 => m6_number G K.2.1 1 99 q37 r9 s9 h9) q_yX6_number mw_336 rc_6 ⟨by decide, by decide⟩ (Nat.le_of_ble_eq_true rfl) dX6_item_210 (fun x38 q39 => ?_)
        refine v_iast (pc := 213) C _ am_5 (at_5 _ _) dX6_item_213 ?_
        refine r_ltm (fun q40 => ?_)
        refine v_aload_n (pc := 214) C 1 rfl dX6_item_214 ?_
        refine g6_bodyTold (pc := 215) C mw_104 dX6_item_215 ?_
        refine v_iload_n (pc := 218) C 0 rfl dX6_item_218 ?_
        refine v_iconst (pc := 219) C 2 dX6_item_219 (by decide) ?_
        refine v_iadd (pc := 220) C dX6_item_220 ?_
        refine v_aload_n (pc := 221) C 1 rfl dX6_item_221 ?_
        refine v_iconst (pc := 222) C 0 dX6_item_222 (by decide) ?_
        refine v_bipush (pc := 223) C 9 dX6_item_223 (by decide) ?_
        refine cIv2w (pc := 225) C (W2 := wM G) (fun r9 s9 h9 => m6_number G K.2.1 0 9 q40 r9 s9 h9) q_yX6_number mw_336 rc_6 ⟨by decide, by decide⟩ (Nat.le_of_ble_eq_true rfl) dX6_item_225 (fun x41 q42 => ?_)
        refine v_iast (pc := 228) C _ am_5 (at_5 _ _) dX6_item_228 ?_
        refine r_ltm (fun q43 => ?_)
        refine v_aload_n (pc := 229) C 1 rfl dX6_item_229 ?_
        refine g6_bodies (pc := 230) C mw_103 dX6_item_230 ?_
        refine v_iconst (pc := 233) C 1 dX6_item_233 (by decide) ?_
        refine v_dup2 (pc := 234) C dX6_item_234 rfl rfl ?_
        refine v_iald (pc := 235) C _ am_4 dX6_item_235 ?_
        refine v_iconst (pc := 236) C 1 dX6_item_236 (by decide) ?_
        refine v_iadd (pc := 237) C dX6_item_237 ?_
        refine v_iast (pc := 238) C _ am_4 (at_4 _ _) dX6_item_238 ?_
        refine r_ltm (fun q44 => ?_)
        exact v_to [1] (hj7 _) rfl
    · exact tp_out (fun h => hret _ _ _ (congrArg (wM G) h) dX6_item_58)
  refine v_icmp_ne (pc := 3) C 25 dX6_item_3 (by decide) ?_ ?_
  · refine v_aload_n (pc := 6) C 0 rfl dX6_item_6 ?_
    refine g6_branches (pc := 7) C mw_101 dX6_item_7 ?_
    refine v_iconst (pc := 10) C 1 dX6_item_10 (by decide) ?_
    refine v_iald (pc := 11) C _ am_2 dX6_item_11 ?_
    refine v_bipush (pc := 12) C 12 dX6_item_12 (by decide) ?_
    refine v_icmp_ge (pc := 14) C 21 dX6_item_14 (by decide) ?_ ?_
    · refine v_iconst (pc := 17) C 1 dX6_item_17 (by decide) ?_
      refine v_goto (pc := 18) C 45 dX6_item_18 (by decide) ?_
      exact v_to [0, 1] (hj2 _) rfl
    · refine v_iconst (pc := 21) C 0 dX6_item_21 (by decide) ?_
      refine v_goto (pc := 22) C 45 dX6_item_22 (by decide) ?_
      exact v_to [0, 1] (hj2 _) rfl
  · refine v_iload_n (pc := 25) C 1 rfl dX6_item_25 ?_
    refine v_iconst (pc := 26) C 4 dX6_item_26 (by decide) ?_
    refine r_lJ (fun Φ0 j45 => ∀ (_u : Unit), tp (j45 ()) Φ0 → V G K (wM G s0) 44 [(0, .ref (aM G 0)), (1, .int a1)] [.ref (aM G 0)]) (fun _u => ?_) (fun j45 hj46 => ?_)
    · refine v_iconst (pc := 44) C 0 dX6_item_44 (by decide) ?_
      exact v_to [0, 1] (hj2 _) rfl
    refine v_icmp_ne (pc := 27) C 44 dX6_item_27 (by decide) ?_ ?_
    · refine v_aload_n (pc := 30) C 0 rfl dX6_item_30 ?_
      refine g6_bodies (pc := 31) C mw_103 dX6_item_31 ?_
      refine v_iconst (pc := 34) C 1 dX6_item_34 (by decide) ?_
      refine v_iald (pc := 35) C _ am_4 dX6_item_35 ?_
      refine v_iconst (pc := 36) C 3 dX6_item_36 (by decide) ?_
      refine v_icmp_ge (pc := 37) C 44 dX6_item_37 (by decide) ?_ ?_
      · refine v_iconst (pc := 40) C 1 dX6_item_40 (by decide) ?_
        refine v_goto (pc := 41) C 45 dX6_item_41 (by decide) ?_
        exact v_to [0, 1] (hj2 _) rfl
      · exact v_to [0, 1] (hj46 ()) rfl
    · exact v_to [0, 1] (hj46 ()) rfl
def f6_begin (a1 : Int32) (s0 : SS) : Option SS := gd (inb 0 3) (lt (sI s0 16 (Int32.toNatClampNeg 0) a1) (fun q1 => gd (inb 0 3) (lt (sI q1 17 (Int32.toNatClampNeg 0) 12) (fun q2 => gd (inb 0 3) (lt (sI q2 18 (Int32.toNatClampNeg 0) 0) (fun q3 => gd (inb 0 3) (lt (sI q3 19 (Int32.toNatClampNeg 0) 0) (fun q4 => gd (inb 0 3) (lt (sI q4 20 (Int32.toNatClampNeg 0) 0) (fun q5 => gd (inb 0 3) (lt (sI q5 21 (Int32.toNatClampNeg 0) 0) (fun q6 => some q6))))))))))))
set_option maxHeartbeats 4000000 in
set_option maxRecDepth 100000 in
theorem m6_begin (G : GT) (l : Launch) (a1 : Int32)  (s0 : SS) (s1 : SS) (hf : f6_begin a1 s0 = some s1) : MV G l yX6_begin cX6_begin 2 none 0 0 [.ref (aM G 0), .int a1] (wM G s0) (wM G s1) := by
  refine MV.start (by decide +kernel) (Nat.le_of_ble_eq_true rfl) (fun K hl C hret => ?_)
  subst hl
  have C : Ctx G K cX6_begin RX6 2 0 0 := C
  change V G K (wM G s0) 0 [(0, .ref (aM G 0)), (1, .int a1)] []
  refine (?_ : tp (f6_begin a1 s0) (fun q => q = s1) → _) ⟨_, hf, rfl⟩
  rw [f6_begin]
  refine v_aload_n (pc := 0) C 0 rfl dX6_begin_0 ?_
  refine g6_who (pc := 1) C mw_115 dX6_begin_1 ?_
  refine v_iconst (pc := 4) C 0 dX6_begin_4 (by decide) ?_
  refine v_iload_n (pc := 5) C 1 rfl dX6_begin_5 ?_
  refine v_iast (pc := 6) C _ am_16 (at_16 _ _) dX6_begin_6 ?_
  refine r_ltm (fun q1 => ?_)
  refine v_aload_n (pc := 7) C 0 rfl dX6_begin_7 ?_
  refine g6_where (pc := 8) C mw_116 dX6_begin_8 ?_
  refine v_iconst (pc := 11) C 0 dX6_begin_11 (by decide) ?_
  refine v_bipush (pc := 12) C 12 dX6_begin_12 (by decide) ?_
  refine v_iast (pc := 14) C _ am_17 (at_17 _ _) dX6_begin_14 ?_
  refine r_ltm (fun q2 => ?_)
  refine v_aload_n (pc := 15) C 0 rfl dX6_begin_15 ?_
  refine g6_hurt (pc := 16) C mw_117 dX6_begin_16 ?_
  refine v_iconst (pc := 19) C 0 dX6_begin_19 (by decide) ?_
  refine v_iconst (pc := 20) C 0 dX6_begin_20 (by decide) ?_
  refine v_iast (pc := 21) C _ am_18 (at_18 _ _) dX6_begin_21 ?_
  refine r_ltm (fun q3 => ?_)
  refine v_aload_n (pc := 22) C 0 rfl dX6_begin_22 ?_
  refine g6_tops (pc := 23) C mw_118 dX6_begin_23 ?_
  refine v_iconst (pc := 26) C 0 dX6_begin_26 (by decide) ?_
  refine v_iconst (pc := 27) C 0 dX6_begin_27 (by decide) ?_
  refine v_iast (pc := 28) C _ am_19 (at_19 _ _) dX6_begin_28 ?_
  refine r_ltm (fun q4 => ?_)
  refine v_aload_n (pc := 29) C 0 rfl dX6_begin_29 ?_
  refine g6_held (pc := 30) C mw_119 dX6_begin_30 ?_
  refine v_iconst (pc := 33) C 0 dX6_begin_33 (by decide) ?_
  refine v_iconst (pc := 34) C 0 dX6_begin_34 (by decide) ?_
  refine v_iast (pc := 35) C _ am_20 (at_20 _ _) dX6_begin_35 ?_
  refine r_ltm (fun q5 => ?_)
  refine v_aload_n (pc := 36) C 0 rfl dX6_begin_36 ?_
  refine g6_falls (pc := 37) C mw_120 dX6_begin_37 ?_
  refine v_iconst (pc := 40) C 0 dX6_begin_40 (by decide) ?_
  refine v_iconst (pc := 41) C 0 dX6_begin_41 (by decide) ?_
  refine v_iast (pc := 42) C _ am_21 (at_21 _ _) dX6_begin_42 ?_
  refine r_ltm (fun q6 => ?_)
  exact tp_out (fun h => hret _ _ _ (congrArg (wM G) h) dX6_begin_43)
def L6_tree_31 : Nat → Int32 → SS → Option (Int32 × SS)
  | 0, _, _ => none
  | n + 1, v1, s => if (s.1 0 12) = (-9) then if (s.1 0 10) = 0 then some (v1, s) else bd (f6_item (s.1 0 10) s) (fun q6 => lt (v1 + 1) (fun x7 => L6_tree_31 n x7 q6)) else some (v1, s)
def L6_tree_104 (c1 : Int32) : Nat → Int32 → SS → Option (SS)
  | 0, _, _ => none
  | n + 1, v2, s => if v2 < 72 then gd (inb (72 + v2) 144) (gd (inb v2 144) (lt (sI s 3 (Int32.toNatClampNeg v2) (s.1 3 ((72 + v2)).toNatClampNeg)) (fun q12 => lt (v2 + 1) (fun x13 => L6_tree_104 c1 n x13 q12)))) else some s
def L6_tree_133 (c1 : Int32) : Nat → Int32 → SS → Option (SS)
  | 0, _, _ => none
  | n + 1, v2, s => if v2 < 9 then gd (inb (9 + v2) 18) (gd (inb v2 18) (lt (sI s 5 (Int32.toNatClampNeg v2) (s.1 5 ((9 + v2)).toNatClampNeg)) (fun q15 => lt (v2 + 1) (fun x16 => L6_tree_133 c1 n x16 q15)))) else some s
def f6_tree  (s0 : SS) : Option (Int32 × SS) := lt (sI s0 0 8 0) (fun q1 => lt (sI q1 0 12 (-9)) (fun q2 => gd (inb 1 2) (lt (sI q2 2 (Int32.toNatClampNeg 1) 0) (fun q3 => gd (inb 1 2) (lt (sI q3 4 (Int32.toNatClampNeg 1) 0) (fun q4 => bd (f6_next q4) (fun q5 => bk2 (L6_tree_31 FU 0 q5) (fun x8 q9 => if (q9.1 0 12) = (-9) then gd (inb 1 2) (gd (inb 0 2) (lt (sI q9 2 (Int32.toNatClampNeg 0) (q9.1 2 (1 : Int32).toNatClampNeg)) (fun q10 => gd (inb 1 2) (gd (inb 0 2) (lt (sI q10 4 (Int32.toNatClampNeg 0) (q10.1 4 (1 : Int32).toNatClampNeg)) (fun q11 => bk1 (L6_tree_104 x8 FU 0 q11) (fun q14 => bk1 (L6_tree_133 x8 FU 0 q14) (fun q17 => bd (f6_begin 0 q17) (fun q18 => gd (inb 0 3) (lt (sI q18 7 (Int32.toNatClampNeg 0) 0) (fun q19 => lt (sI q19 0 24 0) (fun q20 => gd (inb 0 2) (lt (sI q20 23 (Int32.toNatClampNeg 0) (vp_nar .boolean 0)) (fun q21 => gd (inb 1 2) (lt (sI q21 23 (Int32.toNatClampNeg 1) (vp_nar .boolean 0)) (fun q22 => lt (sI q22 0 2 0) (fun q23 => some (x8, q23)))))))))))))))))) else some (((-10) - (q9.1 0 12)), q9)))))))))
set_option maxHeartbeats 4000000 in
set_option maxRecDepth 100000 in
theorem l6_tree_31 {G : GT} {K : KT} (C : Ctx G K cX6_tree RX6 3 5 110) {Ψ : Int32 → SS → Prop} (hx : ∀ (o1 : Int32) (so : SS), Ψ o1 so → V G K (wM G so) 61 [(0, .ref (aM G 0)), (1, .int o1)] []) : ∀ (n : Nat) (v1 : Int32) (s : SS), tp (L6_tree_31 n v1 s) (k2 Ψ) → V G K (wM G s) 31 [(0, .ref (aM G 0)), (1, .int v1)] [] := by
  intro n
  induction n with
  | zero => intro v1 s h; exact tp_no h
  | succ n ih =>
    intro v1 s
    rw [L6_tree_31]
    refine v_aload_n (pc := 31) C 0 rfl dX6_tree_31 ?_
    refine g6_fault (pc := 32) C mw_312 dX6_tree_32 ?_
    refine v_bipush (pc := 35) C (-9) dX6_tree_35 (by decide) ?_
    refine v_icmp_ne (pc := 37) C 61 dX6_tree_37 (by decide) ?_ ?_
    · refine v_aload_n (pc := 40) C 0 rfl dX6_tree_40 ?_
      refine g6_sort (pc := 41) C mw_313 dX6_tree_41 ?_
      refine v_if_eq (pc := 44) C 61 dX6_tree_44 (by decide) ?_ ?_
      · exact tp_out (fun h => v_to [0, 1] (hx _ _) rfl h)
      · refine v_aload_n (pc := 47) C 0 rfl dX6_tree_47 ?_
        refine v_aload_n (pc := 48) C 0 rfl dX6_tree_48 ?_
        refine g6_sort (pc := 49) C mw_313 dX6_tree_49 ?_
        refine cVv1w (pc := 52) C (W2 := wM G) (fun s9 h9 => m6_item G K.2.1 (s.1 0 10) s s9 h9) q_yX6_item mw_328 rc_6 ⟨by decide, by decide⟩ (Nat.le_of_ble_eq_true rfl) dX6_tree_52 (fun q6 => ?_)
        refine v_iincL (pc := 55) C 1 1 dX6_tree_55 rfl (by decide) (by decide) (lv0 := [(0, .ref (aM G 0))]) rfl (fun x7 => ?_)
        refine v_goto (pc := 58) C 31 dX6_tree_58 (by decide) ?_
        exact v_to [1, 0] (ih _ _) rfl
    · exact tp_out (fun h => v_to [0, 1] (hx _ _) rfl h)
set_option maxHeartbeats 4000000 in
set_option maxRecDepth 100000 in
theorem l6_tree_104 {G : GT} {K : KT} (C : Ctx G K cX6_tree RX6 3 5 110) (c1 : Int32) {Ψ : SS → Prop} (hx : ∀ (so : SS), Ψ so → V G K (wM G so) 131 [(0, .ref (aM G 0)), (1, .int c1)] []) : ∀ (n : Nat) (v2 : Int32) (s : SS), tp (L6_tree_104 c1 n v2 s) (k1 Ψ) → V G K (wM G s) 104 [(0, .ref (aM G 0)), (1, .int c1), (2, .int v2)] [] := by
  intro n
  induction n with
  | zero => intro v2 s h; exact tp_no h
  | succ n ih =>
    intro v2 s
    rw [L6_tree_104]
    refine v_iload_n (pc := 104) C 2 rfl dX6_tree_104 ?_
    refine v_bipush (pc := 105) C 72 dX6_tree_105 (by decide) ?_
    refine v_icmp_ge (pc := 107) C 131 dX6_tree_107 (by decide) ?_ ?_
    · refine v_aload_n (pc := 110) C 0 rfl dX6_tree_110 ?_
      refine g6_told (pc := 111) C mw_102 dX6_tree_111 ?_
      refine v_iload_n (pc := 114) C 2 rfl dX6_tree_114 ?_
      refine v_aload_n (pc := 115) C 0 rfl dX6_tree_115 ?_
      refine g6_told (pc := 116) C mw_102 dX6_tree_116 ?_
      refine v_bipush (pc := 119) C 72 dX6_tree_119 (by decide) ?_
      refine v_iload_n (pc := 121) C 2 rfl dX6_tree_121 ?_
      refine v_iadd (pc := 122) C dX6_tree_122 ?_
      refine v_iald (pc := 123) C _ am_3 dX6_tree_123 ?_
      refine v_iast (pc := 124) C _ am_3 (at_3 _ _) dX6_tree_124 ?_
      refine r_ltm (fun q12 => ?_)
      refine v_iincL (pc := 125) C 1 2 dX6_tree_125 rfl (by decide) (by decide) (lv0 := [(0, .ref (aM G 0)), (1, .int c1)]) rfl (fun x13 => ?_)
      refine v_goto (pc := 128) C 104 dX6_tree_128 (by decide) ?_
      exact v_to [1, 2, 0] (ih _ _) rfl
    · exact tp_out (fun h => v_to [0, 1] (hx _) rfl h)
set_option maxHeartbeats 4000000 in
set_option maxRecDepth 100000 in
theorem l6_tree_133 {G : GT} {K : KT} (C : Ctx G K cX6_tree RX6 3 5 110) (c1 : Int32) {Ψ : SS → Prop} (hx : ∀ (so : SS), Ψ so → V G K (wM G so) 160 [(0, .ref (aM G 0)), (1, .int c1)] []) : ∀ (n : Nat) (v2 : Int32) (s : SS), tp (L6_tree_133 c1 n v2 s) (k1 Ψ) → V G K (wM G s) 133 [(0, .ref (aM G 0)), (1, .int c1), (2, .int v2)] [] := by
  intro n
  induction n with
  | zero => intro v2 s h; exact tp_no h
  | succ n ih =>
    intro v2 s
    rw [L6_tree_133]
    refine v_iload_n (pc := 133) C 2 rfl dX6_tree_133 ?_
    refine v_bipush (pc := 134) C 9 dX6_tree_134 (by decide) ?_
    refine v_icmp_ge (pc := 136) C 160 dX6_tree_136 (by decide) ?_ ?_
    · refine v_aload_n (pc := 139) C 0 rfl dX6_tree_139 ?_
      refine g6_bodyTold (pc := 140) C mw_104 dX6_tree_140 ?_
      refine v_iload_n (pc := 143) C 2 rfl dX6_tree_143 ?_
      refine v_aload_n (pc := 144) C 0 rfl dX6_tree_144 ?_
      refine g6_bodyTold (pc := 145) C mw_104 dX6_tree_145 ?_
      refine v_bipush (pc := 148) C 9 dX6_tree_148 (by decide) ?_
      refine v_iload_n (pc := 150) C 2 rfl dX6_tree_150 ?_
      refine v_iadd (pc := 151) C dX6_tree_151 ?_
      refine v_iald (pc := 152) C _ am_5 dX6_tree_152 ?_
      refine v_iast (pc := 153) C _ am_5 (at_5 _ _) dX6_tree_153 ?_
      refine r_ltm (fun q15 => ?_)
      refine v_iincL (pc := 154) C 1 2 dX6_tree_154 rfl (by decide) (by decide) (lv0 := [(0, .ref (aM G 0)), (1, .int c1)]) rfl (fun x16 => ?_)
      refine v_goto (pc := 157) C 133 dX6_tree_157 (by decide) ?_
      exact v_to [1, 2, 0] (ih _ _) rfl
    · exact tp_out (fun h => v_to [0, 1] (hx _) rfl h)
set_option maxHeartbeats 4000000 in
set_option maxRecDepth 100000 in
theorem m6_tree (G : GT) (l : Launch)   (s0 : SS) (r : Int32) (s1 : SS) (hf : f6_tree s0 = some (r, s1)) : MI G l yX6_tree cX6_tree 3 (some .int) 5 110 [.ref (aM G 0)] (wM G s0) r (wM G s1) := by
  refine MI.start (by decide +kernel) (Nat.le_of_ble_eq_true rfl) (fun K hl C hret => ?_)
  subst hl
  have C : Ctx G K cX6_tree RX6 3 5 110 := C
  change V G K (wM G s0) 0 [(0, .ref (aM G 0))] []
  refine (?_ : tp (f6_tree s0) (fun q => q = (r, s1)) → _) ⟨_, hf, rfl⟩
  rw [f6_tree]
  refine v_aload_n (pc := 0) C 0 rfl dX6_tree_0 ?_
  refine v_iconst (pc := 1) C 0 dX6_tree_1 (by decide) ?_
  refine p6_at (pc := 2) C mw_311 dX6_tree_2 ?_
  refine r_ltm (fun q1 => ?_)
  refine v_aload_n (pc := 5) C 0 rfl dX6_tree_5 ?_
  refine v_bipush (pc := 6) C (-9) dX6_tree_6 (by decide) ?_
  refine p6_fault (pc := 8) C mw_312 dX6_tree_8 ?_
  refine r_ltm (fun q2 => ?_)
  refine v_aload_n (pc := 11) C 0 rfl dX6_tree_11 ?_
  refine g6_branches (pc := 12) C mw_101 dX6_tree_12 ?_
  refine v_iconst (pc := 15) C 1 dX6_tree_15 (by decide) ?_
  refine v_iconst (pc := 16) C 0 dX6_tree_16 (by decide) ?_
  refine v_iast (pc := 17) C _ am_2 (at_2 _ _) dX6_tree_17 ?_
  refine r_ltm (fun q3 => ?_)
  refine v_aload_n (pc := 18) C 0 rfl dX6_tree_18 ?_
  refine g6_bodies (pc := 19) C mw_103 dX6_tree_19 ?_
  refine v_iconst (pc := 22) C 1 dX6_tree_22 (by decide) ?_
  refine v_iconst (pc := 23) C 0 dX6_tree_23 (by decide) ?_
  refine v_iast (pc := 24) C _ am_4 (at_4 _ _) dX6_tree_24 ?_
  refine r_ltm (fun q4 => ?_)
  refine v_iconst (pc := 25) C 0 dX6_tree_25 (by decide) ?_
  refine v_istore_n (pc := 26) C dX6_tree_26 (by decide) (lv' := [(1, .int 0), (0, .ref (aM G 0))]) rfl ?_
  refine v_aload_n (pc := 27) C 1 rfl dX6_tree_27 ?_
  refine cVv0w (pc := 28) C (W2 := wM G) (fun s9 h9 => m6_next G K.2.1 q4 s9 h9) q_yX6_next mw_315 rc_6 ⟨by decide, by decide⟩ (Nat.le_of_ble_eq_true rfl) dX6_tree_28 (fun q5 => ?_)
  refine r_bk2 ?_
  refine v_to [1, 0] (l6_tree_31 C (fun x8 q9 => ?_) FU _ _) rfl
  refine v_aload_n (pc := 61) C 0 rfl dX6_tree_61 ?_
  refine g6_fault (pc := 62) C mw_312 dX6_tree_62 ?_
  refine v_bipush (pc := 65) C (-9) dX6_tree_65 (by decide) ?_
  refine v_icmp_eq (pc := 67) C 78 dX6_tree_67 (by decide) ?_ ?_
  · refine v_aload_n (pc := 78) C 0 rfl dX6_tree_78 ?_
    refine g6_branches (pc := 79) C mw_101 dX6_tree_79 ?_
    refine v_iconst (pc := 82) C 0 dX6_tree_82 (by decide) ?_
    refine v_aload_n (pc := 83) C 0 rfl dX6_tree_83 ?_
    refine g6_branches (pc := 84) C mw_101 dX6_tree_84 ?_
    refine v_iconst (pc := 87) C 1 dX6_tree_87 (by decide) ?_
    refine v_iald (pc := 88) C _ am_2 dX6_tree_88 ?_
    refine v_iast (pc := 89) C _ am_2 (at_2 _ _) dX6_tree_89 ?_
    refine r_ltm (fun q10 => ?_)
    refine v_aload_n (pc := 90) C 0 rfl dX6_tree_90 ?_
    refine g6_bodies (pc := 91) C mw_103 dX6_tree_91 ?_
    refine v_iconst (pc := 94) C 0 dX6_tree_94 (by decide) ?_
    refine v_aload_n (pc := 95) C 0 rfl dX6_tree_95 ?_
    refine g6_bodies (pc := 96) C mw_103 dX6_tree_96 ?_
    refine v_iconst (pc := 99) C 1 dX6_tree_99 (by decide) ?_
    refine v_iald (pc := 100) C _ am_4 dX6_tree_100 ?_
    refine v_iast (pc := 101) C _ am_4 (at_4 _ _) dX6_tree_101 ?_
    refine r_ltm (fun q11 => ?_)
    refine v_iconst (pc := 102) C 0 dX6_tree_102 (by decide) ?_
    refine v_istore_n (pc := 103) C dX6_tree_103 (by decide) (lv' := [(2, .int 0), (0, .ref (aM G 0)), (1, .int x8)]) rfl ?_
    refine r_bk1 ?_
    refine v_to [1, 2, 0] (l6_tree_104 C x8 (fun q14 => ?_) FU _ _) rfl
    refine v_iconst (pc := 131) C 0 dX6_tree_131 (by decide) ?_
    refine v_istore_n (pc := 132) C dX6_tree_132 (by decide) (lv' := [(2, .int 0), (0, .ref (aM G 0)), (1, .int x8)]) rfl ?_
    refine r_bk1 ?_
    refine v_to [1, 2, 0] (l6_tree_133 C x8 (fun q17 => ?_) FU _ _) rfl
    refine v_aload_n (pc := 160) C 0 rfl dX6_tree_160 ?_
    refine v_iconst (pc := 161) C 0 dX6_tree_161 (by decide) ?_
    refine cVv1w (pc := 162) C (W2 := wM G) (fun s9 h9 => m6_begin G K.2.1 0 q17 s9 h9) q_yX6_begin mw_344 rc_6 ⟨by decide, by decide⟩ (Nat.le_of_ble_eq_true rfl) dX6_tree_162 (fun q18 => ?_)
    refine v_aload_n (pc := 165) C 0 rfl dX6_tree_165 ?_
    refine g6_sawnOnes (pc := 166) C mw_106 dX6_tree_166 ?_
    refine v_iconst (pc := 169) C 0 dX6_tree_169 (by decide) ?_
    refine v_iconst (pc := 170) C 0 dX6_tree_170 (by decide) ?_
    refine v_iast (pc := 171) C _ am_7 (at_7 _ _) dX6_tree_171 ?_
    refine r_ltm (fun q19 => ?_)
    refine v_aload_n (pc := 172) C 0 rfl dX6_tree_172 ?_
    refine v_iconst (pc := 173) C 0 dX6_tree_173 (by decide) ?_
    refine p6_afternoons (pc := 174) C mw_314 dX6_tree_174 ?_
    refine r_ltm (fun q20 => ?_)
    refine v_aload_n (pc := 177) C 0 rfl dX6_tree_177 ?_
    refine g6_isKept (pc := 178) C mw_123 dX6_tree_178 ?_
    refine v_iconst (pc := 181) C 0 dX6_tree_181 (by decide) ?_
    refine v_iconst (pc := 182) C 0 dX6_tree_182 (by decide) ?_
    refine v_zast (pc := 183) C _ am_23 (at_23 _ _) dX6_tree_183 ?_
    refine r_ltm (fun q21 => ?_)
    refine v_aload_n (pc := 184) C 0 rfl dX6_tree_184 ?_
    refine g6_isKept (pc := 185) C mw_123 dX6_tree_185 ?_
    refine v_iconst (pc := 188) C 1 dX6_tree_188 (by decide) ?_
    refine v_iconst (pc := 189) C 0 dX6_tree_189 (by decide) ?_
    refine v_zast (pc := 190) C _ am_23 (at_23 _ _) dX6_tree_190 ?_
    refine r_ltm (fun q22 => ?_)
    refine v_aload_n (pc := 191) C 0 rfl dX6_tree_191 ?_
    refine v_iconst (pc := 192) C 0 dX6_tree_192 (by decide) ?_
    refine p6_typed (pc := 193) C mw_137 dX6_tree_193 ?_
    refine r_ltm (fun q23 => ?_)
    refine v_iload_n (pc := 196) C 1 rfl dX6_tree_196 ?_
    exact tp_out (fun h => hret _ _ _ _ ⟨(Prod.mk.inj h).1, congrArg (wM G) (Prod.mk.inj h).2⟩ dX6_tree_197)
  · refine v_bipush (pc := 70) C (-10) dX6_tree_70 (by decide) ?_
    refine v_aload_n (pc := 72) C 0 rfl dX6_tree_72 ?_
    refine g6_fault (pc := 73) C mw_312 dX6_tree_73 ?_
    refine v_isub (pc := 76) C dX6_tree_76 ?_
    exact tp_out (fun h => hret _ _ _ _ ⟨(Prod.mk.inj h).1, congrArg (wM G) (Prod.mk.inj h).2⟩ dX6_tree_77)
def f6_isBranch (a1 : Int32) (s0 : SS) : Option Int32 := gd (inb 0 2) (bd (f6_in a1 0 ((s0.1 2 (0 : Int32).toNatClampNeg) - 1)) (fun x1 => gd (x1 = 0 ∨ x1 = 1) (some x1)))
set_option maxHeartbeats 4000000 in
set_option maxRecDepth 100000 in
theorem m6_isBranch (G : GT) (l : Launch) (a1 : Int32)  (s0 : SS) (r : Int32) (hf : f6_isBranch a1 s0 = some r) : MI G l yX6_isBranch cX6_isBranch 2 (some .boolean) 1 22 [.ref (aM G 0), .int a1] (wM G s0) r (wM G s0) := by
  refine MI.startZ (by decide +kernel) (Nat.le_of_ble_eq_true rfl) (fun K hl C hret => ?_)
  subst hl
  have C : Ctx G K cX6_isBranch RX6 2 1 22 := C
  change V G K (wM G s0) 0 [(0, .ref (aM G 0)), (1, .int a1)] []
  refine (?_ : tp (f6_isBranch a1 s0) (fun q => q = r) → _) ⟨_, hf, rfl⟩
  rw [f6_isBranch]
  refine v_iload_n (pc := 0) C 1 rfl dX6_isBranch_0 ?_
  refine v_iconst (pc := 1) C 0 dX6_isBranch_1 (by decide) ?_
  refine v_aload_n (pc := 2) C 0 rfl dX6_isBranch_2 ?_
  refine g6_branches (pc := 3) C mw_101 dX6_isBranch_3 ?_
  refine v_iconst (pc := 6) C 0 dX6_isBranch_6 (by decide) ?_
  refine v_iald (pc := 7) C _ am_2 dX6_isBranch_7 ?_
  refine v_iconst (pc := 8) C 1 dX6_isBranch_8 (by decide) ?_
  refine v_isub (pc := 9) C dX6_isBranch_9 ?_
  refine cIs3r (pc := 10) C (fun r9 h9 => m6_in G K.2.1 a1 0 ((s0.1 2 (0 : Int32).toNatClampNeg) - 1) _ r9 h9) q_yX6_in mw_139 ⟨by decide, by decide⟩ (Nat.le_of_ble_eq_true rfl) dX6_isBranch_10 (fun x1 => ?_)
  refine r_gd (fun hz => ?_)
  exact tp_out (fun h => hret _ _ _ _ ⟨h, rfl⟩ hz dX6_isBranch_13)
def f6_isBody (a1 : Int32) (s0 : SS) : Option Int32 := gd (inb 0 2) (bd (f6_in a1 0 ((s0.1 4 (0 : Int32).toNatClampNeg) - 1)) (fun x1 => gd (x1 = 0 ∨ x1 = 1) (some x1)))
set_option maxHeartbeats 4000000 in
set_option maxRecDepth 100000 in
theorem m6_isBody (G : GT) (l : Launch) (a1 : Int32)  (s0 : SS) (r : Int32) (hf : f6_isBody a1 s0 = some r) : MI G l yX6_isBody cX6_isBody 2 (some .boolean) 1 22 [.ref (aM G 0), .int a1] (wM G s0) r (wM G s0) := by
  refine MI.startZ (by decide +kernel) (Nat.le_of_ble_eq_true rfl) (fun K hl C hret => ?_)
  subst hl
  have C : Ctx G K cX6_isBody RX6 2 1 22 := C
  change V G K (wM G s0) 0 [(0, .ref (aM G 0)), (1, .int a1)] []
  refine (?_ : tp (f6_isBody a1 s0) (fun q => q = r) → _) ⟨_, hf, rfl⟩
  rw [f6_isBody]
  refine v_iload_n (pc := 0) C 1 rfl dX6_isBody_0 ?_
  refine v_iconst (pc := 1) C 0 dX6_isBody_1 (by decide) ?_
  refine v_aload_n (pc := 2) C 0 rfl dX6_isBody_2 ?_
  refine g6_bodies (pc := 3) C mw_103 dX6_isBody_3 ?_
  refine v_iconst (pc := 6) C 0 dX6_isBody_6 (by decide) ?_
  refine v_iald (pc := 7) C _ am_4 dX6_isBody_7 ?_
  refine v_iconst (pc := 8) C 1 dX6_isBody_8 (by decide) ?_
  refine v_isub (pc := 9) C dX6_isBody_9 ?_
  refine cIs3r (pc := 10) C (fun r9 h9 => m6_in G K.2.1 a1 0 ((s0.1 4 (0 : Int32).toNatClampNeg) - 1) _ r9 h9) q_yX6_in mw_139 ⟨by decide, by decide⟩ (Nat.le_of_ble_eq_true rfl) dX6_isBody_10 (fun x1 => ?_)
  refine r_gd (fun hz => ?_)
  exact tp_out (fun h => hret _ _ _ _ ⟨h, rfl⟩ hz dX6_isBody_13)
def f6_isPlace (a1 : Int32) (s0 : SS) : Option Int32 := if a1 = (-1) then some 1 else bd (f6_isBranch a1 s0) (fun x1 => if x1 = 0 then some 0 else some 1)
set_option maxHeartbeats 4000000 in
set_option maxRecDepth 100000 in
theorem m6_isPlace (G : GT) (l : Launch) (a1 : Int32)  (s0 : SS) (r : Int32) (hf : f6_isPlace a1 s0 = some r) : MI G l yX6_isPlace cX6_isPlace 2 (some .boolean) 2 43 [.ref (aM G 0), .int a1] (wM G s0) r (wM G s0) := by
  refine MI.startZ (by decide +kernel) (Nat.le_of_ble_eq_true rfl) (fun K hl C hret => ?_)
  subst hl
  have C : Ctx G K cX6_isPlace RX6 2 2 43 := C
  change V G K (wM G s0) 0 [(0, .ref (aM G 0)), (1, .int a1)] []
  refine (?_ : tp (f6_isPlace a1 s0) (fun q => q = r) → _) ⟨_, hf, rfl⟩
  rw [f6_isPlace]
  refine v_iload_n (pc := 0) C 1 rfl dX6_isPlace_0 ?_
  refine v_iconst (pc := 1) C (-1) dX6_isPlace_1 (by decide) ?_
  refine v_icmp_eq (pc := 2) C 13 dX6_isPlace_2 (by decide) ?_ ?_
  · refine v_iconst (pc := 13) C 1 dX6_isPlace_13 (by decide) ?_
    refine v_goto (pc := 14) C 18 dX6_isPlace_14 (by decide) ?_
    exact tp_out (fun h => hret _ _ _ _ ⟨h, rfl⟩ (Or.inr rfl) dX6_isPlace_18)
  · refine v_aload_n (pc := 5) C 0 rfl dX6_isPlace_5 ?_
    refine v_iload_n (pc := 6) C 1 rfl dX6_isPlace_6 ?_
    refine cIv1r (pc := 7) C (fun r9 h9 => m6_isBranch G K.2.1 a1 s0 r9 h9) q_yX6_isBranch mw_368 rc_6 ⟨by decide, by decide⟩ (Nat.le_of_ble_eq_true rfl) dX6_isPlace_7 (fun x1 => ?_)
    refine v_if_eq (pc := 10) C 17 dX6_isPlace_10 (by decide) ?_ ?_
    · refine v_iconst (pc := 17) C 0 dX6_isPlace_17 (by decide) ?_
      exact tp_out (fun h => hret _ _ _ _ ⟨h, rfl⟩ (Or.inl rfl) dX6_isPlace_18)
    · refine v_iconst (pc := 13) C 1 dX6_isPlace_13 (by decide) ?_
      refine v_goto (pc := 14) C 18 dX6_isPlace_14 (by decide) ?_
      exact tp_out (fun h => hret _ _ _ _ ⟨h, rfl⟩ (Or.inr rfl) dX6_isPlace_18)
def f6_of (a1 : Int32) (a2 : Int32) (s0 : SS) : Option Int32 := gd (inb ((6 * a1) + a2) 144) (some (s0.1 3 (((6 * a1) + a2)).toNatClampNeg))
set_option maxHeartbeats 4000000 in
set_option maxRecDepth 100000 in
theorem m6_of (G : GT) (l : Launch) (a1 : Int32) (a2 : Int32)  (s0 : SS) (r : Int32) (hf : f6_of a1 a2 s0 = some r) : MI G l yX6_of cX6_of 3 (some .int) 0 0 [.ref (aM G 0), .int a1, .int a2] (wM G s0) r (wM G s0) := by
  refine MI.start (by decide +kernel) (Nat.le_of_ble_eq_true rfl) (fun K hl C hret => ?_)
  subst hl
  have C : Ctx G K cX6_of RX6 3 0 0 := C
  change V G K (wM G s0) 0 [(0, .ref (aM G 0)), (1, .int a1), (2, .int a2)] []
  refine (?_ : tp (f6_of a1 a2 s0) (fun q => q = r) → _) ⟨_, hf, rfl⟩
  rw [f6_of]
  refine v_aload_n (pc := 0) C 0 rfl dX6_of_0 ?_
  refine g6_told (pc := 1) C mw_102 dX6_of_1 ?_
  refine v_bipush (pc := 4) C 6 dX6_of_4 (by decide) ?_
  refine v_iload_n (pc := 6) C 1 rfl dX6_of_6 ?_
  refine v_imul (pc := 7) C dX6_of_7 ?_
  refine v_iload_n (pc := 8) C 2 rfl dX6_of_8 ?_
  refine v_iadd (pc := 9) C dX6_of_9 ?_
  refine v_iald (pc := 10) C _ am_3 dX6_of_10 ?_
  exact tp_out (fun h => hret _ _ _ _ ⟨h, rfl⟩ dX6_of_11)
def f6_bodyOf (a1 : Int32) (a2 : Int32) (s0 : SS) : Option Int32 := gd (inb ((3 * a1) + a2) 18) (some (s0.1 5 (((3 * a1) + a2)).toNatClampNeg))
set_option maxHeartbeats 4000000 in
set_option maxRecDepth 100000 in
theorem m6_bodyOf (G : GT) (l : Launch) (a1 : Int32) (a2 : Int32)  (s0 : SS) (r : Int32) (hf : f6_bodyOf a1 a2 s0 = some r) : MI G l yX6_bodyOf cX6_bodyOf 3 (some .int) 0 0 [.ref (aM G 0), .int a1, .int a2] (wM G s0) r (wM G s0) := by
  refine MI.start (by decide +kernel) (Nat.le_of_ble_eq_true rfl) (fun K hl C hret => ?_)
  subst hl
  have C : Ctx G K cX6_bodyOf RX6 3 0 0 := C
  change V G K (wM G s0) 0 [(0, .ref (aM G 0)), (1, .int a1), (2, .int a2)] []
  refine (?_ : tp (f6_bodyOf a1 a2 s0) (fun q => q = r) → _) ⟨_, hf, rfl⟩
  rw [f6_bodyOf]
  refine v_aload_n (pc := 0) C 0 rfl dX6_bodyOf_0 ?_
  refine g6_bodyTold (pc := 1) C mw_104 dX6_bodyOf_1 ?_
  refine v_iconst (pc := 4) C 3 dX6_bodyOf_4 (by decide) ?_
  refine v_iload_n (pc := 5) C 1 rfl dX6_bodyOf_5 ?_
  refine v_imul (pc := 6) C dX6_bodyOf_6 ?_
  refine v_iload_n (pc := 7) C 2 rfl dX6_bodyOf_7 ?_
  refine v_iadd (pc := 8) C dX6_bodyOf_8 ?_
  refine v_iald (pc := 9) C _ am_5 dX6_bodyOf_9 ?_
  exact tp_out (fun h => hret _ _ _ _ ⟨h, rfl⟩ dX6_bodyOf_10)
def f6_isSawn (a1 : Int32) (s0 : SS) : Option Int32 := lt (fun (_u : Unit) => some 0) (fun j1 => if a1 < 12 then gd (inb 0 3) (if (((s0.1 7 (0 : Int32).toNatClampNeg) >>> (a1 &&& 31)) &&& 1) = 1 then some 1 else j1 ()) else j1 ())
set_option maxHeartbeats 4000000 in
set_option maxRecDepth 100000 in
theorem m6_isSawn (G : GT) (l : Launch) (a1 : Int32)  (s0 : SS) (r : Int32) (hf : f6_isSawn a1 s0 = some r) : MI G l yX6_isSawn cX6_isSawn 2 (some .boolean) 0 0 [.ref (aM G 0), .int a1] (wM G s0) r (wM G s0) := by
  refine MI.startZ (by decide +kernel) (Nat.le_of_ble_eq_true rfl) (fun K hl C hret => ?_)
  subst hl
  have C : Ctx G K cX6_isSawn RX6 2 0 0 := C
  change V G K (wM G s0) 0 [(0, .ref (aM G 0)), (1, .int a1)] []
  refine (?_ : tp (f6_isSawn a1 s0) (fun q => q = r) → _) ⟨_, hf, rfl⟩
  rw [f6_isSawn]
  refine v_iload_n (pc := 0) C 1 rfl dX6_isSawn_0 ?_
  refine v_bipush (pc := 1) C 12 dX6_isSawn_1 (by decide) ?_
  refine r_lJ (fun Φ0 j1 => ∀ (_u : Unit), tp (j1 ()) Φ0 → V G K (wM G s0) 24 [] []) (fun _u => ?_) (fun j1 hj2 => ?_)
  · refine v_iconst (pc := 24) C 0 dX6_isSawn_24 (by decide) ?_
    exact tp_out (fun h => hret _ _ _ _ ⟨h, rfl⟩ (Or.inl rfl) dX6_isSawn_25)
  refine v_icmp_ge (pc := 3) C 24 dX6_isSawn_3 (by decide) ?_ ?_
  · refine v_aload_n (pc := 6) C 0 rfl dX6_isSawn_6 ?_
    refine g6_sawnOnes (pc := 7) C mw_106 dX6_isSawn_7 ?_
    refine v_iconst (pc := 10) C 0 dX6_isSawn_10 (by decide) ?_
    refine v_iald (pc := 11) C _ am_7 dX6_isSawn_11 ?_
    refine v_iload_n (pc := 12) C 1 rfl dX6_isSawn_12 ?_
    refine v_ishr (pc := 13) C dX6_isSawn_13 ?_
    refine v_iconst (pc := 14) C 1 dX6_isSawn_14 (by decide) ?_
    refine v_iand (pc := 15) C dX6_isSawn_15 ?_
    refine v_iconst (pc := 16) C 1 dX6_isSawn_16 (by decide) ?_
    refine v_icmp_ne (pc := 17) C 24 dX6_isSawn_17 (by decide) ?_ ?_
    · refine v_iconst (pc := 20) C 1 dX6_isSawn_20 (by decide) ?_
      refine v_goto (pc := 21) C 25 dX6_isSawn_21 (by decide) ?_
      exact tp_out (fun h => hret _ _ _ _ ⟨h, rfl⟩ (Or.inr rfl) dX6_isSawn_25)
    · exact v_to [] (hj2 ()) rfl
  · exact v_to [] (hj2 ()) rfl
def f6_branch (a1 : Int32) (a2 : Int32) (s0 : SS) : Option Int32 := bd (f6_isBranch a1 s0) (fun x1 => lt (fun (_u : Unit) => some (-1)) (fun j2 => if x1 = 0 then j2 () else bd (f6_in a2 0 6) (fun x4 => if x4 = 0 then j2 () else if a2 = 6 then bd (f6_isSawn a1 s0) (fun x5 => if x5 = 0 then some 0 else some 1) else bd (f6_of a1 a2 s0) (fun x6 => some x6))))
set_option maxHeartbeats 4000000 in
set_option maxRecDepth 100000 in
theorem m6_branch (G : GT) (l : Launch) (a1 : Int32) (a2 : Int32)  (s0 : SS) (r : Int32) (hf : f6_branch a1 a2 s0 = some r) : MI G l yX6_branch cX6_branch 3 (some .int) 2 43 [.ref (aM G 0), .int a1, .int a2] (wM G s0) r (wM G s0) := by
  refine MI.start (by decide +kernel) (Nat.le_of_ble_eq_true rfl) (fun K hl C hret => ?_)
  subst hl
  have C : Ctx G K cX6_branch RX6 3 2 43 := C
  change V G K (wM G s0) 0 [(0, .ref (aM G 0)), (1, .int a1), (2, .int a2)] []
  refine (?_ : tp (f6_branch a1 a2 s0) (fun q => q = r) → _) ⟨_, hf, rfl⟩
  rw [f6_branch]
  refine v_aload_n (pc := 0) C 0 rfl dX6_branch_0 ?_
  refine v_iload_n (pc := 1) C 1 rfl dX6_branch_1 ?_
  refine cIv1r (pc := 2) C (fun r9 h9 => m6_isBranch G K.2.1 a1 s0 r9 h9) q_yX6_isBranch mw_368 rc_6 ⟨by decide, by decide⟩ (Nat.le_of_ble_eq_true rfl) dX6_branch_2 (fun x1 => ?_)
  refine r_lJ (fun Φ0 j2 => ∀ (_u : Unit), tp (j2 ()) Φ0 → V G K (wM G s0) 49 [] []) (fun _u => ?_) (fun j2 hj3 => ?_)
  · refine v_iconst (pc := 49) C (-1) dX6_branch_49 (by decide) ?_
    exact tp_out (fun h => hret _ _ _ _ ⟨h, rfl⟩ dX6_branch_50)
  refine v_if_eq (pc := 5) C 49 dX6_branch_5 (by decide) ?_ ?_
  · exact v_to [] (hj3 ()) rfl
  · refine v_iload_n (pc := 8) C 2 rfl dX6_branch_8 ?_
    refine v_iconst (pc := 9) C 0 dX6_branch_9 (by decide) ?_
    refine v_bipush (pc := 10) C 6 dX6_branch_10 (by decide) ?_
    refine cIs3r (pc := 12) C (fun r9 h9 => m6_in G K.2.1 a2 0 6 _ r9 h9) q_yX6_in mw_139 ⟨by decide, by decide⟩ (Nat.le_of_ble_eq_true rfl) dX6_branch_12 (fun x4 => ?_)
    refine v_if_eq (pc := 15) C 49 dX6_branch_15 (by decide) ?_ ?_
    · exact v_to [] (hj3 ()) rfl
    · refine v_iload_n (pc := 18) C 2 rfl dX6_branch_18 ?_
      refine v_bipush (pc := 19) C 6 dX6_branch_19 (by decide) ?_
      refine v_icmp_ne (pc := 21) C 40 dX6_branch_21 (by decide) ?_ ?_
      · refine v_aload_n (pc := 24) C 0 rfl dX6_branch_24 ?_
        refine v_iload_n (pc := 25) C 1 rfl dX6_branch_25 ?_
        refine cIv1r (pc := 26) C (fun r9 h9 => m6_isSawn G K.2.1 a1 s0 r9 h9) q_yX6_isSawn mw_372 rc_6 ⟨by decide, by decide⟩ (Nat.le_of_ble_eq_true rfl) dX6_branch_26 (fun x5 => ?_)
        refine v_if_eq (pc := 29) C 36 dX6_branch_29 (by decide) ?_ ?_
        · refine v_iconst (pc := 36) C 0 dX6_branch_36 (by decide) ?_
          refine v_goto (pc := 37) C 50 dX6_branch_37 (by decide) ?_
          exact tp_out (fun h => hret _ _ _ _ ⟨h, rfl⟩ dX6_branch_50)
        · refine v_iconst (pc := 32) C 1 dX6_branch_32 (by decide) ?_
          refine v_goto (pc := 33) C 50 dX6_branch_33 (by decide) ?_
          exact tp_out (fun h => hret _ _ _ _ ⟨h, rfl⟩ dX6_branch_50)
      · refine v_aload_n (pc := 40) C 0 rfl dX6_branch_40 ?_
        refine v_iload_n (pc := 41) C 1 rfl dX6_branch_41 ?_
        refine v_iload_n (pc := 42) C 2 rfl dX6_branch_42 ?_
        refine cIv2r (pc := 43) C (fun r9 h9 => m6_of G K.2.1 a1 a2 s0 r9 h9) q_yX6_of mw_376 rc_6 ⟨by decide, by decide⟩ (Nat.le_of_ble_eq_true rfl) dX6_branch_43 (fun x6 => ?_)
        refine v_goto (pc := 46) C 50 dX6_branch_46 (by decide) ?_
        exact tp_out (fun h => hret _ _ _ _ ⟨h, rfl⟩ dX6_branch_50)
def f6_body (a1 : Int32) (a2 : Int32) (s0 : SS) : Option Int32 := bd (f6_isBody a1 s0) (fun x1 => lt (fun (_u : Unit) => some (-1)) (fun j2 => if x1 = 0 then j2 () else bd (f6_in a2 0 2) (fun x4 => if x4 = 0 then j2 () else bd (f6_bodyOf a1 a2 s0) (fun x5 => some x5))))
set_option maxHeartbeats 4000000 in
set_option maxRecDepth 100000 in
theorem m6_body (G : GT) (l : Launch) (a1 : Int32) (a2 : Int32)  (s0 : SS) (r : Int32) (hf : f6_body a1 a2 s0 = some r) : MI G l yX6_body cX6_body 3 (some .int) 2 43 [.ref (aM G 0), .int a1, .int a2] (wM G s0) r (wM G s0) := by
  refine MI.start (by decide +kernel) (Nat.le_of_ble_eq_true rfl) (fun K hl C hret => ?_)
  subst hl
  have C : Ctx G K cX6_body RX6 3 2 43 := C
  change V G K (wM G s0) 0 [(0, .ref (aM G 0)), (1, .int a1), (2, .int a2)] []
  refine (?_ : tp (f6_body a1 a2 s0) (fun q => q = r) → _) ⟨_, hf, rfl⟩
  rw [f6_body]
  refine v_aload_n (pc := 0) C 0 rfl dX6_body_0 ?_
  refine v_iload_n (pc := 1) C 1 rfl dX6_body_1 ?_
  refine cIv1r (pc := 2) C (fun r9 h9 => m6_isBody G K.2.1 a1 s0 r9 h9) q_yX6_isBody mw_396 rc_6 ⟨by decide, by decide⟩ (Nat.le_of_ble_eq_true rfl) dX6_body_2 (fun x1 => ?_)
  refine r_lJ (fun Φ0 j2 => ∀ (_u : Unit), tp (j2 ()) Φ0 → V G K (wM G s0) 26 [] []) (fun _u => ?_) (fun j2 hj3 => ?_)
  · refine v_iconst (pc := 26) C (-1) dX6_body_26 (by decide) ?_
    exact tp_out (fun h => hret _ _ _ _ ⟨h, rfl⟩ dX6_body_27)
  refine v_if_eq (pc := 5) C 26 dX6_body_5 (by decide) ?_ ?_
  · exact v_to [] (hj3 ()) rfl
  · refine v_iload_n (pc := 8) C 2 rfl dX6_body_8 ?_
    refine v_iconst (pc := 9) C 0 dX6_body_9 (by decide) ?_
    refine v_iconst (pc := 10) C 2 dX6_body_10 (by decide) ?_
    refine cIs3r (pc := 11) C (fun r9 h9 => m6_in G K.2.1 a2 0 2 _ r9 h9) q_yX6_in mw_139 ⟨by decide, by decide⟩ (Nat.le_of_ble_eq_true rfl) dX6_body_11 (fun x4 => ?_)
    refine v_if_eq (pc := 14) C 26 dX6_body_14 (by decide) ?_ ?_
    · exact v_to [] (hj3 ()) rfl
    · refine v_aload_n (pc := 17) C 0 rfl dX6_body_17 ?_
      refine v_iload_n (pc := 18) C 1 rfl dX6_body_18 ?_
      refine v_iload_n (pc := 19) C 2 rfl dX6_body_19 ?_
      refine cIv2r (pc := 20) C (fun r9 h9 => m6_bodyOf G K.2.1 a1 a2 s0 r9 h9) q_yX6_bodyOf mw_400 rc_6 ⟨by decide, by decide⟩ (Nat.le_of_ble_eq_true rfl) dX6_body_20 (fun x5 => ?_)
      refine v_goto (pc := 23) C 27 dX6_body_23 (by decide) ?_
      exact tp_out (fun h => hret _ _ _ _ ⟨h, rfl⟩ dX6_body_27)
def f6_highOf (a0 : Int32) : Option Int32 := if a0 = 0 then some 9 else if a0 = 2 then some 9 else if a0 = 4 then some 9 else if a0 = 1 then some 4 else if a0 = 3 then some 10 else some 20
set_option maxHeartbeats 4000000 in
set_option maxRecDepth 100000 in
theorem m6_highOf (G : GT) (l : Launch) (a0 : Int32)  (w : va_W) (r : Int32) (hf : f6_highOf a0 = some r) : MI G l yX6_highOf cX6_highOf 1 (some .int) 0 0 [.int a0] w r w := by
  refine MI.start (by decide +kernel) (Nat.le_of_ble_eq_true rfl) (fun K hl C hret => ?_)
  subst hl
  have C : Ctx G K cX6_highOf RX6 1 0 0 := C
  change V G K w 0 [(0, .int a0)] []
  refine (?_ : tp (f6_highOf a0) (fun q => q = r) → _) ⟨_, hf, rfl⟩
  rw [f6_highOf]
  refine v_iload_n (pc := 0) C 0 rfl dX6_highOf_0 ?_
  refine v_if_eq (pc := 1) C 14 dX6_highOf_1 (by decide) ?_ ?_
  · refine v_bipush (pc := 14) C 9 dX6_highOf_14 (by decide) ?_
    refine v_goto (pc := 16) C 40 dX6_highOf_16 (by decide) ?_
    exact tp_out (fun h => hret _ _ _ _ ⟨h, rfl⟩ dX6_highOf_40)
  · refine v_iload_n (pc := 4) C 0 rfl dX6_highOf_4 ?_
    refine v_iconst (pc := 5) C 2 dX6_highOf_5 (by decide) ?_
    refine v_icmp_eq (pc := 6) C 14 dX6_highOf_6 (by decide) ?_ ?_
    · refine v_bipush (pc := 14) C 9 dX6_highOf_14 (by decide) ?_
      refine v_goto (pc := 16) C 40 dX6_highOf_16 (by decide) ?_
      exact tp_out (fun h => hret _ _ _ _ ⟨h, rfl⟩ dX6_highOf_40)
    · refine v_iload_n (pc := 9) C 0 rfl dX6_highOf_9 ?_
      refine v_iconst (pc := 10) C 4 dX6_highOf_10 (by decide) ?_
      refine v_icmp_ne (pc := 11) C 19 dX6_highOf_11 (by decide) ?_ ?_
      · refine v_bipush (pc := 14) C 9 dX6_highOf_14 (by decide) ?_
        refine v_goto (pc := 16) C 40 dX6_highOf_16 (by decide) ?_
        exact tp_out (fun h => hret _ _ _ _ ⟨h, rfl⟩ dX6_highOf_40)
      · refine v_iload_n (pc := 19) C 0 rfl dX6_highOf_19 ?_
        refine v_iconst (pc := 20) C 1 dX6_highOf_20 (by decide) ?_
        refine v_icmp_ne (pc := 21) C 28 dX6_highOf_21 (by decide) ?_ ?_
        · refine v_iconst (pc := 24) C 4 dX6_highOf_24 (by decide) ?_
          refine v_goto (pc := 25) C 40 dX6_highOf_25 (by decide) ?_
          exact tp_out (fun h => hret _ _ _ _ ⟨h, rfl⟩ dX6_highOf_40)
        · refine v_iload_n (pc := 28) C 0 rfl dX6_highOf_28 ?_
          refine v_iconst (pc := 29) C 3 dX6_highOf_29 (by decide) ?_
          refine v_icmp_ne (pc := 30) C 38 dX6_highOf_30 (by decide) ?_ ?_
          · refine v_bipush (pc := 33) C 10 dX6_highOf_33 (by decide) ?_
            refine v_goto (pc := 35) C 40 dX6_highOf_35 (by decide) ?_
            exact tp_out (fun h => hret _ _ _ _ ⟨h, rfl⟩ dX6_highOf_40)
          · refine v_bipush (pc := 38) C 20 dX6_highOf_38 (by decide) ?_
            exact tp_out (fun h => hret _ _ _ _ ⟨h, rfl⟩ dX6_highOf_40)
def f6_tune (a1 : Int32) (a2 : Int32) (s0 : SS) : Option (Int32 × SS) := bd (f6_in a1 0 5) (fun x1 => if x1 = 0 then some ((-1), s0) else lt (fun (x4 : Int32) => bd (f6_highOf a1) (fun x5 => bd (f6_in a2 x4 x5) (fun x6 => if x6 = 0 then some ((-1), s0) else gd (inb a1 6) (lt ((s0.1 6 a1.toNatClampNeg)) (fun x7 => gd (inb a1 6) (lt (sI s0 6 (Int32.toNatClampNeg a1) a2) (fun q8 => some (x7, q8)))))))) (fun j2 => if a1 = 0 then j2 1 else if a1 = 4 then j2 1 else j2 0))
set_option maxHeartbeats 4000000 in
set_option maxRecDepth 100000 in
theorem m6_tune (G : GT) (l : Launch) (a1 : Int32) (a2 : Int32)  (s0 : SS) (r : Int32) (s1 : SS) (hf : f6_tune a1 a2 s0 = some (r, s1)) : MI G l yX6_tune cX6_tune 4 (some .int) 1 22 [.ref (aM G 0), .int a1, .int a2] (wM G s0) r (wM G s1) := by
  refine MI.start (by decide +kernel) (Nat.le_of_ble_eq_true rfl) (fun K hl C hret => ?_)
  subst hl
  have C : Ctx G K cX6_tune RX6 4 1 22 := C
  change V G K (wM G s0) 0 [(0, .ref (aM G 0)), (1, .int a1), (2, .int a2)] []
  refine (?_ : tp (f6_tune a1 a2 s0) (fun q => q = (r, s1)) → _) ⟨_, hf, rfl⟩
  rw [f6_tune]
  refine v_iload_n (pc := 0) C 1 rfl dX6_tune_0 ?_
  refine v_iconst (pc := 1) C 0 dX6_tune_1 (by decide) ?_
  refine v_iconst (pc := 2) C 5 dX6_tune_2 (by decide) ?_
  refine cIs3r (pc := 3) C (fun r9 h9 => m6_in G K.2.1 a1 0 5 _ r9 h9) q_yX6_in mw_139 ⟨by decide, by decide⟩ (Nat.le_of_ble_eq_true rfl) dX6_tune_3 (fun x1 => ?_)
  refine v_if_eq (pc := 6) C 34 dX6_tune_6 (by decide) ?_ ?_
  · refine v_iconst (pc := 34) C (-1) dX6_tune_34 (by decide) ?_
    exact tp_out (fun h => hret _ _ _ _ ⟨(Prod.mk.inj h).1, congrArg (wM G) (Prod.mk.inj h).2⟩ dX6_tune_35)
  · refine v_iload_n (pc := 9) C 2 rfl dX6_tune_9 ?_
    refine v_iload_n (pc := 10) C 1 rfl dX6_tune_10 ?_
    refine r_lJ (fun Φ0 j2 => ∀ (x4 : Int32), tp (j2 x4) Φ0 → V G K (wM G s0) 24 [(0, .ref (aM G 0)), (1, .int a1), (2, .int a2)] [.int x4, .int a2]) (fun x4 => ?_) (fun j2 hj3 => ?_)
    · refine v_iload_n (pc := 24) C 1 rfl dX6_tune_24 ?_
      refine cIs1r (pc := 25) C (fun r9 h9 => m6_highOf G K.2.1 a1 _ r9 h9) q_yX6_highOf mw_414 ⟨by decide, by decide⟩ (Nat.le_of_ble_eq_true rfl) dX6_tune_25 (fun x5 => ?_)
      refine cIs3r (pc := 28) C (fun r9 h9 => m6_in G K.2.1 a2 x4 x5 _ r9 h9) q_yX6_in mw_139 ⟨by decide, by decide⟩ (Nat.le_of_ble_eq_true rfl) dX6_tune_28 (fun x6 => ?_)
      refine v_if_ne (pc := 31) C 36 dX6_tune_31 (by decide) ?_ ?_
      · refine v_iconst (pc := 34) C (-1) dX6_tune_34 (by decide) ?_
        exact tp_out (fun h => hret _ _ _ _ ⟨(Prod.mk.inj h).1, congrArg (wM G) (Prod.mk.inj h).2⟩ dX6_tune_35)
      · refine v_aload_n (pc := 36) C 0 rfl dX6_tune_36 ?_
        refine g6_tune (pc := 37) C mw_105 dX6_tune_37 ?_
        refine v_iload_n (pc := 40) C 1 rfl dX6_tune_40 ?_
        refine v_iald (pc := 41) C _ am_6 dX6_tune_41 ?_
        refine r_lti (fun x7 => ?_)
        refine v_istore_n (pc := 42) C dX6_tune_42 (by decide) (lv' := [(3, .int x7), (0, .ref (aM G 0)), (1, .int a1), (2, .int a2)]) rfl ?_
        refine v_aload_n (pc := 43) C 1 rfl dX6_tune_43 ?_
        refine g6_tune (pc := 44) C mw_105 dX6_tune_44 ?_
        refine v_iload_n (pc := 47) C 2 rfl dX6_tune_47 ?_
        refine v_iload_n (pc := 48) C 3 rfl dX6_tune_48 ?_
        refine v_iast (pc := 49) C _ am_6 (at_6 _ _) dX6_tune_49 ?_
        refine r_ltm (fun q8 => ?_)
        refine v_iload_n (pc := 50) C 0 rfl dX6_tune_50 ?_
        exact tp_out (fun h => hret _ _ _ _ ⟨(Prod.mk.inj h).1, congrArg (wM G) (Prod.mk.inj h).2⟩ dX6_tune_51)
    refine v_if_eq (pc := 11) C 19 dX6_tune_11 (by decide) ?_ ?_
    · refine v_iconst (pc := 19) C 1 dX6_tune_19 (by decide) ?_
      refine v_goto (pc := 20) C 24 dX6_tune_20 (by decide) ?_
      exact v_to [0, 1, 2] (hj3 _) rfl
    · refine v_iload_n (pc := 14) C 1 rfl dX6_tune_14 ?_
      refine v_iconst (pc := 15) C 4 dX6_tune_15 (by decide) ?_
      refine v_icmp_ne (pc := 16) C 23 dX6_tune_16 (by decide) ?_ ?_
      · refine v_iconst (pc := 19) C 1 dX6_tune_19 (by decide) ?_
        refine v_goto (pc := 20) C 24 dX6_tune_20 (by decide) ?_
        exact v_to [0, 1, 2] (hj3 _) rfl
      · refine v_iconst (pc := 23) C 0 dX6_tune_23 (by decide) ?_
        exact v_to [0, 1, 2] (hj3 _) rfl
def f6_sawn (a1 : Int32) (s0 : SS) : Option (Int32 × SS) := gd (inb 0 3) (lt ((s0.1 7 (0 : Int32).toNatClampNeg)) (fun x1 => gd (inb 0 2) (gd (inb 0 3) (lt (sI s0 7 (Int32.toNatClampNeg 0) (a1 &&& (((1 : Int32) <<< ((s0.1 2 (0 : Int32).toNatClampNeg) &&& 31)) - 1))) (fun q2 => some (x1, q2))))))
set_option maxHeartbeats 4000000 in
set_option maxRecDepth 100000 in
theorem m6_sawn (G : GT) (l : Launch) (a1 : Int32)  (s0 : SS) (r : Int32) (s1 : SS) (hf : f6_sawn a1 s0 = some (r, s1)) : MI G l yX6_sawn cX6_sawn 3 (some .int) 0 0 [.ref (aM G 0), .int a1] (wM G s0) r (wM G s1) := by
  refine MI.start (by decide +kernel) (Nat.le_of_ble_eq_true rfl) (fun K hl C hret => ?_)
  subst hl
  have C : Ctx G K cX6_sawn RX6 3 0 0 := C
  change V G K (wM G s0) 0 [(0, .ref (aM G 0)), (1, .int a1)] []
  refine (?_ : tp (f6_sawn a1 s0) (fun q => q = (r, s1)) → _) ⟨_, hf, rfl⟩
  rw [f6_sawn]
  refine v_aload_n (pc := 0) C 0 rfl dX6_sawn_0 ?_
  refine g6_sawnOnes (pc := 1) C mw_106 dX6_sawn_1 ?_
  refine v_iconst (pc := 4) C 0 dX6_sawn_4 (by decide) ?_
  refine v_iald (pc := 5) C _ am_7 dX6_sawn_5 ?_
  refine r_lti (fun x1 => ?_)
  refine v_istore_n (pc := 6) C dX6_sawn_6 (by decide) (lv' := [(2, .int x1), (0, .ref (aM G 0)), (1, .int a1)]) rfl ?_
  refine v_aload_n (pc := 7) C 1 rfl dX6_sawn_7 ?_
  refine g6_sawnOnes (pc := 8) C mw_106 dX6_sawn_8 ?_
  refine v_iconst (pc := 11) C 0 dX6_sawn_11 (by decide) ?_
  refine v_iload_n (pc := 12) C 2 rfl dX6_sawn_12 ?_
  refine v_iconst (pc := 13) C 1 dX6_sawn_13 (by decide) ?_
  refine v_aload_n (pc := 14) C 1 rfl dX6_sawn_14 ?_
  refine g6_branches (pc := 15) C mw_101 dX6_sawn_15 ?_
  refine v_iconst (pc := 18) C 0 dX6_sawn_18 (by decide) ?_
  refine v_iald (pc := 19) C _ am_2 dX6_sawn_19 ?_
  refine v_ishl (pc := 20) C dX6_sawn_20 ?_
  refine v_iconst (pc := 21) C 1 dX6_sawn_21 (by decide) ?_
  refine v_isub (pc := 22) C dX6_sawn_22 ?_
  refine v_iand (pc := 23) C dX6_sawn_23 ?_
  refine v_iast (pc := 24) C _ am_7 (at_7 _ _) dX6_sawn_24 ?_
  refine r_ltm (fun q2 => ?_)
  refine v_iload_n (pc := 25) C 0 rfl dX6_sawn_25 ?_
  exact tp_out (fun h => hret _ _ _ _ ⟨(Prod.mk.inj h).1, congrArg (wM G) (Prod.mk.inj h).2⟩ dX6_sawn_26)
def f6_heightOf (a1 : Int32) (s0 : SS) : Option Int32 := if a1 = 12 then some 0 else bd (f6_of a1 0 s0) (fun x1 => some x1)
set_option maxHeartbeats 4000000 in
set_option maxRecDepth 100000 in
theorem m6_heightOf (G : GT) (l : Launch) (a1 : Int32)  (s0 : SS) (r : Int32) (hf : f6_heightOf a1 s0 = some r) : MI G l yX6_heightOf cX6_heightOf 2 (some .int) 1 22 [.ref (aM G 0), .int a1] (wM G s0) r (wM G s0) := by
  refine MI.start (by decide +kernel) (Nat.le_of_ble_eq_true rfl) (fun K hl C hret => ?_)
  subst hl
  have C : Ctx G K cX6_heightOf RX6 2 1 22 := C
  change V G K (wM G s0) 0 [(0, .ref (aM G 0)), (1, .int a1)] []
  refine (?_ : tp (f6_heightOf a1 s0) (fun q => q = r) → _) ⟨_, hf, rfl⟩
  rw [f6_heightOf]
  refine v_iload_n (pc := 0) C 1 rfl dX6_heightOf_0 ?_
  refine v_bipush (pc := 1) C 12 dX6_heightOf_1 (by decide) ?_
  refine v_icmp_ne (pc := 3) C 10 dX6_heightOf_3 (by decide) ?_ ?_
  · refine v_iconst (pc := 6) C 0 dX6_heightOf_6 (by decide) ?_
    refine v_goto (pc := 7) C 16 dX6_heightOf_7 (by decide) ?_
    exact tp_out (fun h => hret _ _ _ _ ⟨h, rfl⟩ dX6_heightOf_16)
  · refine v_aload_n (pc := 10) C 0 rfl dX6_heightOf_10 ?_
    refine v_iload_n (pc := 11) C 1 rfl dX6_heightOf_11 ?_
    refine v_iconst (pc := 12) C 0 dX6_heightOf_12 (by decide) ?_
    refine cIv2r (pc := 13) C (fun r9 h9 => m6_of G K.2.1 a1 0 s0 r9 h9) q_yX6_of mw_376 rc_6 ⟨by decide, by decide⟩ (Nat.le_of_ble_eq_true rfl) dX6_heightOf_13 (fun x1 => ?_)
    exact tp_out (fun h => hret _ _ _ _ ⟨h, rfl⟩ dX6_heightOf_16)
def f6_apart (a1 : Int32) (a2 : Int32) (s0 : SS) : Option Int32 := if a1 = 12 then some 0 else if a2 = 12 then some 0 else bd (f6_of a1 1 s0) (fun x1 => bd (f6_of a2 1 s0) (fun x2 => lt ((x1 - x2)) (fun x3 => lt (fun (x6 : Int32) => if x6 ≤ 4 then some x6 else some (8 - x6)) (fun j4 => if x3 < 0 then j4 (-x3) else j4 x3))))
set_option maxHeartbeats 4000000 in
set_option maxRecDepth 100000 in
theorem m6_apart (G : GT) (l : Launch) (a1 : Int32) (a2 : Int32)  (s0 : SS) (r : Int32) (hf : f6_apart a1 a2 s0 = some r) : MI G l yX6_apart cX6_apart 4 (some .int) 1 22 [.ref (aM G 0), .int a1, .int a2] (wM G s0) r (wM G s0) := by
  refine MI.start (by decide +kernel) (Nat.le_of_ble_eq_true rfl) (fun K hl C hret => ?_)
  subst hl
  have C : Ctx G K cX6_apart RX6 4 1 22 := C
  change V G K (wM G s0) 0 [(0, .ref (aM G 0)), (1, .int a1), (2, .int a2)] []
  refine (?_ : tp (f6_apart a1 a2 s0) (fun q => q = r) → _) ⟨_, hf, rfl⟩
  rw [f6_apart]
  refine v_iload_n (pc := 0) C 1 rfl dX6_apart_0 ?_
  refine v_bipush (pc := 1) C 12 dX6_apart_1 (by decide) ?_
  refine v_icmp_eq (pc := 3) C 12 dX6_apart_3 (by decide) ?_ ?_
  · refine v_iconst (pc := 12) C 0 dX6_apart_12 (by decide) ?_
    exact tp_out (fun h => hret _ _ _ _ ⟨h, rfl⟩ dX6_apart_13)
  · refine v_iload_n (pc := 6) C 2 rfl dX6_apart_6 ?_
    refine v_bipush (pc := 7) C 12 dX6_apart_7 (by decide) ?_
    refine v_icmp_ne (pc := 9) C 14 dX6_apart_9 (by decide) ?_ ?_
    · refine v_iconst (pc := 12) C 0 dX6_apart_12 (by decide) ?_
      exact tp_out (fun h => hret _ _ _ _ ⟨h, rfl⟩ dX6_apart_13)
    · refine v_aload_n (pc := 14) C 0 rfl dX6_apart_14 ?_
      refine v_iload_n (pc := 15) C 1 rfl dX6_apart_15 ?_
      refine v_iconst (pc := 16) C 1 dX6_apart_16 (by decide) ?_
      refine cIv2r (pc := 17) C (fun r9 h9 => m6_of G K.2.1 a1 1 s0 r9 h9) q_yX6_of mw_376 rc_6 ⟨by decide, by decide⟩ (Nat.le_of_ble_eq_true rfl) dX6_apart_17 (fun x1 => ?_)
      refine v_aload_n (pc := 20) C 0 rfl dX6_apart_20 ?_
      refine v_iload_n (pc := 21) C 2 rfl dX6_apart_21 ?_
      refine v_iconst (pc := 22) C 1 dX6_apart_22 (by decide) ?_
      refine cIv2r (pc := 23) C (fun r9 h9 => m6_of G K.2.1 a2 1 s0 r9 h9) q_yX6_of mw_376 rc_6 ⟨by decide, by decide⟩ (Nat.le_of_ble_eq_true rfl) dX6_apart_23 (fun x2 => ?_)
      refine v_isub (pc := 26) C dX6_apart_26 ?_
      refine r_lti (fun x3 => ?_)
      refine v_istore_n (pc := 27) C dX6_apart_27 (by decide) (lv' := [(3, .int x3), (0, .ref (aM G 0)), (1, .int a1), (2, .int a2)]) rfl ?_
      refine v_iload_n (pc := 28) C 0 rfl dX6_apart_28 ?_
      refine r_lJ (fun Φ0 j4 => ∀ (x6 : Int32), tp (j4 x6) Φ0 → V G K (wM G s0) 38 [] [.int x6]) (fun x6 => ?_) (fun j4 hj5 => ?_)
      · refine v_istore_n (pc := 38) C dX6_apart_38 (by decide) (lv' := [(3, .int x6)]) rfl ?_
        refine v_iload_n (pc := 39) C 0 rfl dX6_apart_39 ?_
        refine v_iconst (pc := 40) C 4 dX6_apart_40 (by decide) ?_
        refine v_icmp_le (pc := 41) C 51 dX6_apart_41 (by decide) ?_ ?_
        · refine v_iload_n (pc := 51) C 0 rfl dX6_apart_51 ?_
          exact tp_out (fun h => hret _ _ _ _ ⟨h, rfl⟩ dX6_apart_52)
        · refine v_bipush (pc := 44) C 8 dX6_apart_44 (by decide) ?_
          refine v_iload_n (pc := 46) C 0 rfl dX6_apart_46 ?_
          refine v_isub (pc := 47) C dX6_apart_47 ?_
          refine v_goto (pc := 48) C 52 dX6_apart_48 (by decide) ?_
          exact tp_out (fun h => hret _ _ _ _ ⟨h, rfl⟩ dX6_apart_52)
      refine v_if_ge (pc := 29) C 37 dX6_apart_29 (by decide) ?_ ?_
      · refine v_iload_n (pc := 32) C 0 rfl dX6_apart_32 ?_
        refine v_ineg (pc := 33) C dX6_apart_33 ?_
        refine v_goto (pc := 34) C 38 dX6_apart_34 (by decide) ?_
        exact v_to [] (hj5 _) rfl
      · refine v_iload_n (pc := 37) C 0 rfl dX6_apart_37 ?_
        exact v_to [] (hj5 _) rfl
