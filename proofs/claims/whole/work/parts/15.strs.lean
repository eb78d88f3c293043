section STRS
variable {G : GT} {K : KT} {cc : ByteArray} {own : String} {nl fr lo : Nat} {w w' : va_W} {pc : Nat} {lv lv' : List (Nat × Value)} {rest st : List Value} {F : Prop}
theorem v_ldcw (C : Ctx G K cc own nl fr lo) {index : Nat} {v : Int32} (hq : Cond.constant own index v ∈ wsL_law) (hd : decode cc pc = .ok (.ldc_w index, 3)) (k : F → V G K w (pc + 3) lv (.int v :: st)) : F → V G K w pc lv st := by
  obtain ⟨p, l, e, R, s, m, args, below, meth, c, Q, cells, slots, nL⟩ := K
  obtain ⟨hx, hb, hml, hown, hts, hlk, hK, hst, hN, hfr, hlo, hc, hs, rfl⟩ := C
  intro hF H locs ls hP hD hS hl
  exact lv_ldcw hx hb hown (hts _ hq) hd (k hF H locs ls hP hD hS hl)
theorem v_gcs (C : Ctx G K cc own nl fr lo) {index : Nat} (hq : Cond.fieldLink own index "java/lang/String" "COMPACT_STRINGS" "Z" ∈ wsL_law) (hd : decode cc pc = .ok (.getstatic index, 3)) (k : F → V G K w (pc + 3) lv (.int 1 :: st)) : F → V G K w pc lv st := by
  obtain ⟨p, l, e, R, s, m, args, below, meth, c, Q, cells, slots, nL⟩ := K
  obtain ⟨hx, hb, hml, hown, hts, hlk, hK, hst, hN, hfr, hlo, hc, hs, rfl⟩ := C
  intro hF H locs ls hP hD hS hl
  exact va_gets hx hb hst.2.2.2.1 hS hown (hts _ hq) (fun _ h => h) hd (k hF H locs ls hP hD hS hl)
theorem v_gfm (C : Ctx G K cc own nl fr lo) {index : Nat} (hq : Cond.fieldLink own index "jdk/internal/util/Preconditions" "SIOOBE_FORMATTER" "Ljava/util/function/BiFunction;" ∈ wsL_law) (hd : decode cc pc = .ok (.getstatic index, 3)) (k : ∀ v : Value, (v = .null ∨ ∃ t : Nat, v = .ref t) → F → V G K w (pc + 3) lv (v :: st)) : F → V G K w pc lv st := by
  obtain ⟨p, l, e, R, s, m, args, below, meth, c, Q, cells, slots, nL⟩ := K
  obtain ⟨hx, hb, hml, hown, hts, hlk, hK, hst, hN, hfr, hlo, hc, hs, rfl⟩ := C
  intro hF H locs ls hP hD hS hl
  rcases hst.2.2.2.2.1 with h | ⟨t, h⟩
  · exact va_gets hx hb h hS hown (hts _ hq) (fun _ h => h) hd (k .null (Or.inl rfl) hF H locs ls hP hD hS hl)
  · exact va_gets hx hb h hS hown (hts _ hq) (fun _ h => h) hd (k (.ref t) (Or.inr ⟨t, rfl⟩) hF H locs ls hP hD hS hl)
theorem v_sval (C : Ctx G K cc own nl fr lo) (i : Nat) (hi : i < 4) {index : Nat} (hq : Cond.fieldLink own index "java/lang/String" "value" "[B" ∈ wsL_law) (hd : decode cc pc = .ok (.getfield index, 3)) (k : F → V G K w (pc + 3) lv (.ref (gV G i) :: rest)) : F → V G K w pc lv (.ref (gK G i) :: rest) := by
  obtain ⟨p, l, e, R, s, m, args, below, meth, c, Q, cells, slots, nL⟩ := K
  obtain ⟨hx, hb, hml, hown, hts, hlk, hK, hst, hN, hfr, hlo, hc, hs, rfl⟩ := C
  intro hF H locs ls hP hD hS hl
  exact vk_getf hx hb (hst.2.1.1 i hi).2.2.1 hS hown (hts _ hq) (fun _ h => h) hd (k hF H locs ls hP hD hS hl)
theorem v_scod (C : Ctx G K cc own nl fr lo) (i : Nat) (hi : i < 4) {index : Nat} (hq : Cond.fieldLink own index "java/lang/String" "coder" "B" ∈ wsL_law) (hd : decode cc pc = .ok (.getfield index, 3)) (k : F → V G K w (pc + 3) lv (.int 0 :: rest)) : F → V G K w pc lv (.ref (gK G i) :: rest) := by
  obtain ⟨p, l, e, R, s, m, args, below, meth, c, Q, cells, slots, nL⟩ := K
  obtain ⟨hx, hb, hml, hown, hts, hlk, hK, hst, hN, hfr, hlo, hc, hs, rfl⟩ := C
  intro hF H locs ls hP hD hS hl
  exact vk_getf hx hb (hst.2.1.1 i hi).2.1 hS hown (hts _ hq) (fun _ h => h) hd (k hF H locs ls hP hD hS hl)
theorem v_sbl (C : Ctx G K cc own nl fr lo) (i : Nat) (hi : i < 4) (hd : decode cc pc = .ok (.arraylength, 1)) (k : F → V G K w (pc + 1) lv (.int (Int32.ofNat (sLen.getD i 0)) :: rest)) : F → V G K w pc lv (.ref (gV G i) :: rest) := by
  obtain ⟨p, l, e, R, s, m, args, below, meth, c, Q, cells, slots, nL⟩ := K
  obtain ⟨hx, hb, hml, hown, hts, hlk, hK, hst, hN, hfr, hlo, hc, hs, rfl⟩ := C
  intro hF H locs ls hP hD hS hl
  exact va_tlen hx hb (hst.2.1.1 i hi).2.2.2 hS rfl hd (k hF H locs ls hP hD hS hl)
theorem v_sbb (C : Ctx G K cc own nl fr lo) (t : Nat) (ht : t < 4) {i : Int32} (hi : inb i (sLen.getD t 0)) (hd : decode cc pc = .ok (.baload, 1)) (k : F → V G K w (pc + 1) lv (.int ((sByt.getD t []).getD i.toNatClampNeg 0) :: rest)) : F → V G K w pc lv (.int i :: .ref (gV G t) :: rest) := by
  obtain ⟨p, l, e, R, s, m, args, below, meth, c, Q, cells, slots, nL⟩ := K
  obtain ⟨hx, hb, hml, hown, hts, hlk, hK, hst, hN, hfr, hlo, hc, hs, rfl⟩ := C
  intro hF H locs ls hP hD hS hl
  exact va_tb hx hb (hst.2.1.1 t ht).2.2.2 hS (inb_vp hi) rfl hd (k hF H locs ls hP hD hS hl)
/-- a call on a String constant -/
theorem v_callIk (C : Ctx G K cc own nl fr lo) (i : Nat) (hi : i < 4) {y : MethodName} {bytes : ByteArray} {n fc lc nargs index : Nat} {ret : Option FieldType} {As : List Value} {r : Int32} {w2 : va_W} (hy : y.cls = "java/lang/String") (hM : MI G K.2.1 y bytes n ret fc lc (.ref (gK G i) :: As) w r w2) (h0 : Cond.methodLink own index y ∈ wsL_law) (h1 : Cond.instanceMethod y ∈ wsL_law) (h2 : Cond.selects y.cls y y ∈ wsL_law) (h3 : Cond.initialized y.cls ∈ wsL_law) (h4 : Cond.code y bytes n ret ∈ wsL_law) (hd : y.cls ≠ "java/lang/invoke/MethodHandle" ∧ y.cls ≠ "java/lang/invoke/VarHandle" ∧ (parseMethodDescriptor y.desc).map (fun d => d.parameters.length) = some nargs) (hR : fc + 1 ≤ fr ∧ 8 + (n + 11) + lc ≤ lo) (hlen : As.length = nargs) (hcat : (rest.map fun v => v.category).sum ≤ 8) (hdg : decode cc pc = .ok (.invokevirtual index, 3)) (k : F → V G K w2 (pc + 3) lv (.int r :: rest)) : F → V G K w pc lv (As.reverse ++ .ref (gK G i) :: rest) := by
  obtain ⟨p, l, e, R, s, m, args, below, meth, c, Q, cells, slots, nL⟩ := K
  obtain ⟨hx, hb, hml, hown, hts, hlk, hK, hst, hN, hfr, hlo, hc, hs, rfl⟩ := C
  intro hF H locs ls hP hD hS hl
  have hrecv : ∃ cell : Cell, H[gK G i]? = some cell ∧ cell.vm.isStatics = false ∧ s.vm.findClass y.cls = some cell.cls := by rw [hy]; exact vk_recv hst.2.1 hi hS
  refine va_calli (va_runV (As := As) (rest := rest) ⟨hx, hb, hml, hown, hts⟩ hM ⟨callB_of nargs hts (good_in (fun _ h => h) h4) rfl rfl rfl (hts _ h3) (hts _ h0) hd ⟨Nat.le_trans hR.1 hfr, Nat.le_trans hR.2 hlo⟩, hts _ h1, hts _ h2⟩ ⟨fun a U g mk q => PW.pass q, hrecv, fun U hU hW => ⟨rfl, by rw [hU]; exact gN.up hN hS.1, by rw [hU]; exact hP, va_K.moved hW.alike hK, hD, by rw [hU]; exact hst.go hS hW⟩⟩ rfl hlen hl.1 rfl (lv_room hcat) hdg ⟨hc, hs⟩) hS (fun q _ h => h) (fun q h => h) (fun q u t H1 locs1 ht hvm hw hB hz1 hk1 hS1 => ?_)
  obtain ⟨hN1, hP1, hK1, hD1, hst1⟩ := hB
  rw [ht] at hP1
  subst hw
  exact k hF H1 locs1 ls hP1 hD1 hS1 hl
end STRS
section STRM
set_option maxHeartbeats 4000000 in
set_option maxRecDepth 100000 in
theorem mJ0_coder (G : GT) (l : Launch) (i : Nat) (hi : i < 4) (w : va_W) : MI G l yJ0_coder_7d493 cJ0_coder_7d493 1 (some .byte) 0 0 [.ref (gK G i)] w 0 w := by
  refine MI.startC (by decide +kernel) (Nat.le_of_ble_eq_true rfl) (fun K hl C hret => ?_)
  subst hl
  have C : Ctx G K cJ0_coder_7d493 RJ0 1 0 0 := C
  change V G K w 0 [(0, .ref (gK G i))] []
  refine (?_ : tp (if (1 : Int32) = 0 then (none : Option Unit) else some ()) (fun _ => True) → _) ⟨(), rfl, trivial⟩
  refine v_gcs (pc := 0) C mw_213 dJ0_coder_7d493_0 ?_
  refine v_if_eq (pc := 3) C 13 dJ0_coder_7d493_3 (by decide) tp_no ?_
  refine v_aload_n (pc := 6) C 0 rfl dJ0_coder_7d493_6 ?_
  refine v_scod (pc := 7) C i hi mw_214 dJ0_coder_7d493_7 ?_
  refine v_goto (pc := 10) C 14 dJ0_coder_7d493_10 (by decide) ?_
  exact fun _ => hret _ _ _ _ ⟨rfl, rfl⟩ rfl dJ0_coder_7d493_14
set_option maxHeartbeats 4000000 in
set_option maxRecDepth 100000 in
theorem mJ0_isLatin1 (G : GT) (l : Launch) (i : Nat) (hi : i < 4) (w : va_W) : MI G l yJ0_isLatin1_aae02 cJ0_isLatin1_aae02 1 (some .boolean) 0 0 [.ref (gK G i)] w 1 w := by
  refine MI.startZ (by decide +kernel) (Nat.le_of_ble_eq_true rfl) (fun K hl C hret => ?_)
  subst hl
  have C : Ctx G K cJ0_isLatin1_aae02 RJ0 1 0 0 := C
  change V G K w 0 [(0, .ref (gK G i))] []
  refine (?_ : tp (if (1 : Int32) = 0 then (none : Option Unit) else if (0 : Int32) = 0 then some () else none) (fun _ => True) → _) ⟨(), rfl, trivial⟩
  refine v_gcs (pc := 0) C mw_213 dJ0_isLatin1_aae02_0 ?_
  refine v_if_eq (pc := 3) C 17 dJ0_isLatin1_aae02_3 (by decide) tp_no ?_
  refine v_aload_n (pc := 6) C 0 rfl dJ0_isLatin1_aae02_6 ?_
  refine v_scod (pc := 7) C i hi mw_214 dJ0_isLatin1_aae02_7 ?_
  refine v_if_ne (pc := 10) C 17 dJ0_isLatin1_aae02_10 (by decide) ?_ tp_no
  refine v_iconst (pc := 13) C 1 dJ0_isLatin1_aae02_13 (by decide) ?_
  refine v_goto (pc := 14) C 18 dJ0_isLatin1_aae02_14 (by decide) ?_
  exact fun _ => hret _ _ _ _ ⟨rfl, rfl⟩ (Or.inr rfl) dJ0_isLatin1_aae02_18
theorem slen_eq : ∀ i, i < 4 → (Int32.ofNat (sLen.getD i 0)) >>> ((0 : Int32) &&& 31) = nI (sLen.getD i 0) := by decide +kernel
set_option maxHeartbeats 4000000 in
set_option maxRecDepth 100000 in
theorem mJ0_length (G : GT) (l : Launch) (i : Nat) (hi : i < 4) (w : va_W) : MI G l yJ0_length_8abf5 cJ0_length_8abf5 1 (some .int) 1 20 [.ref (gK G i)] w (nI (sLen.getD i 0)) w := by
  refine MI.start (by decide +kernel) (Nat.le_of_ble_eq_true rfl) (fun K hl C hret => ?_)
  subst hl
  have C : Ctx G K cJ0_length_8abf5 RJ0 1 1 20 := C
  change V G K w 0 [(0, .ref (gK G i))] []
  refine (?_ : True → _) trivial
  refine v_aload_n (pc := 0) C 0 rfl dJ0_length_8abf5_0 ?_
  refine v_sval (pc := 1) C i hi mw_208 dJ0_length_8abf5_1 ?_
  refine v_sbl (pc := 4) C i hi dJ0_length_8abf5_4 ?_
  refine v_aload_n (pc := 5) C 0 rfl dJ0_length_8abf5_5 ?_
  refine v_callIk (pc := 6) C i hi (As := []) (nargs := 0) rfl (mJ0_coder G K.2.1 i hi w) mw_209 mw_210 mw_211 mw_206 mw_212 ⟨by decide +kernel, by decide +kernel, by decide +kernel⟩ ⟨Nat.le_of_ble_eq_true rfl, Nat.le_of_ble_eq_true rfl⟩ rfl (Nat.le_of_ble_eq_true rfl) dJ0_length_8abf5_6 ?_
  refine v_ishr (pc := 9) C dJ0_length_8abf5_9 ?_
  rw [slen_eq i hi]
  exact fun _ => hret _ _ _ _ ⟨rfl, rfl⟩ dJ0_length_8abf5_10
set_option maxHeartbeats 4000000 in
set_option maxRecDepth 100000 in
theorem mJ3_checkIndex (G : GT) (l : Launch) (w : va_W) (i n : Int32) (v : Value) (hv : v = .null ∨ ∃ t : Nat, v = .ref t) (h0 : ¬ i < 0) (h1 : i < n) : MI G l yJ3_checkIndex_8e157 cJ3_checkIndex_8e157 3 (some .int) 0 0 [.int i, .int n, v] w i w := by
  rcases hv with rfl | ⟨t, rfl⟩
  · refine MI.start (by decide +kernel) (Nat.le_of_ble_eq_true rfl) (fun K hl C hret => ?_)
    subst hl
    have C : Ctx G K cJ3_checkIndex_8e157 RJ3 3 0 0 := C
    change V G K w 0 [(0, .int i), (1, .int n), (2, .null)] []
    refine (?_ : tp (if i < 0 then (none : Option Unit) else if i < n then some () else none) (fun _ => True) → _) ⟨(), by rw [if_neg h0, if_pos h1], trivial⟩
    refine v_iload_n (pc := 0) C 0 rfl dJ3_checkIndex_8e157_0 ?_
    refine v_if_lt (pc := 1) C 9 dJ3_checkIndex_8e157_1 (by decide) tp_no ?_
    refine v_iload_n (pc := 4) C 0 rfl dJ3_checkIndex_8e157_4 ?_
    refine v_iload_n (pc := 5) C 1 rfl dJ3_checkIndex_8e157_5 ?_
    refine v_icmp_lt (pc := 6) C 16 dJ3_checkIndex_8e157_6 (by decide) ?_ tp_no
    refine v_iload_n (pc := 16) C 0 rfl dJ3_checkIndex_8e157_16 ?_
    exact fun _ => hret _ _ _ _ ⟨rfl, rfl⟩ dJ3_checkIndex_8e157_17
  · refine MI.start (by decide +kernel) (Nat.le_of_ble_eq_true rfl) (fun K hl C hret => ?_)
    subst hl
    have C : Ctx G K cJ3_checkIndex_8e157 RJ3 3 0 0 := C
    change V G K w 0 [(0, .int i), (1, .int n), (2, .ref t)] []
    refine (?_ : tp (if i < 0 then (none : Option Unit) else if i < n then some () else none) (fun _ => True) → _) ⟨(), by rw [if_neg h0, if_pos h1], trivial⟩
    refine v_iload_n (pc := 0) C 0 rfl dJ3_checkIndex_8e157_0 ?_
    refine v_if_lt (pc := 1) C 9 dJ3_checkIndex_8e157_1 (by decide) tp_no ?_
    refine v_iload_n (pc := 4) C 0 rfl dJ3_checkIndex_8e157_4 ?_
    refine v_iload_n (pc := 5) C 1 rfl dJ3_checkIndex_8e157_5 ?_
    refine v_icmp_lt (pc := 6) C 16 dJ3_checkIndex_8e157_6 (by decide) ?_ tp_no
    refine v_iload_n (pc := 16) C 0 rfl dJ3_checkIndex_8e157_16 ?_
    exact fun _ => hret _ _ _ _ ⟨rfl, rfl⟩ dJ3_checkIndex_8e157_17
set_option maxHeartbeats 4000000 in
set_option maxRecDepth 100000 in
theorem mJ0_checkIndex (G : GT) (l : Launch) (w : va_W) (i n : Int32) (h0 : ¬ i < 0) (h1 : i < n) : MV G l yJ0_checkIndex_df160 cJ0_checkIndex_df160 2 none 1 22 [.int i, .int n] w w := by
  refine MV.start (by decide +kernel) (Nat.le_of_ble_eq_true rfl) (fun K hl C hret => ?_)
  subst hl
  have C : Ctx G K cJ0_checkIndex_df160 RJ0 2 1 22 := C
  change V G K w 0 [(0, .int i), (1, .int n)] []
  refine (?_ : True → _) trivial
  refine v_iload_n (pc := 0) C 0 rfl dJ0_checkIndex_df160_0 ?_
  refine v_iload_n (pc := 1) C 1 rfl dJ0_checkIndex_df160_1 ?_
  refine v_gfm (pc := 2) C mw_230 dJ0_checkIndex_df160_2 (fun v hv => ?_)
  refine v_callIs (pc := 5) C (As := [.int i, .int n, v]) (nargs := 3) (mJ3_checkIndex G K.2.1 w i n v hv h0 h1) mw_231 mw_232 mw_233 mw_234 ⟨by decide +kernel, by decide +kernel, by decide +kernel⟩ ⟨Nat.le_of_ble_eq_true rfl, Nat.le_of_ble_eq_true rfl⟩ rfl (Nat.le_of_ble_eq_true rfl) dJ0_checkIndex_df160_5 ?_
  refine v_pop (pc := 8) C dJ0_checkIndex_df160_8 rfl ?_
  exact fun _ => hret _ _ _ rfl dJ0_checkIndex_df160_9
theorem sbyt_eq : ∀ t, t < 4 → ∀ j, j < sLen.getD t 0 → (((sByt.getD t []).getD j 0 &&& (255 : Int32)).toUInt32 % 65536).toInt32 = (sByt.getD t []).getD j 0 ∧ narrow .char (.int ((sByt.getD t []).getD j 0)) = .int ((sByt.getD t []).getD j 0) := by decide +kernel
theorem slen_lt : ∀ t, t < 4 → sLen.getD t 0 < 100 := by decide +kernel
theorem inb_lt {i : Int32} {t : Nat} (ht : t < 4) (h : inb i (sLen.getD t 0)) : i < Int32.ofNat (sLen.getD t 0) := by
  have h1 := slen_lt t ht
  obtain ⟨k, hk, rfl⟩ := nI_of h.1
  have h2 := h.2
  rw [nI_clamp hk] at h2
  show nI k < nI (sLen.getD t 0)
  exact (nI_ltI hk (by omega)).mpr h2
set_option maxHeartbeats 4000000 in
set_option maxRecDepth 100000 in
theorem mJ1_charAt (G : GT) (l : Launch) (t : Nat) (ht : t < 4) (w : va_W) (i : Int32) (hi : inb i (sLen.getD t 0)) : MI G l yJ1_charAt_3b067 cJ1_charAt_3b067 2 (some .char) 2 43 [.ref (gV G t), .int i] w ((sByt.getD t []).getD i.toNatClampNeg 0) w := by
  refine MI.startC (by decide +kernel) (Nat.le_of_ble_eq_true rfl) (fun K hl C hret => ?_)
  subst hl
  have C : Ctx G K cJ1_charAt_3b067 RJ1 2 2 43 := C
  change V G K w 0 [(0, .ref (gV G t)), (1, .int i)] []
  refine (?_ : True → _) trivial
  refine v_iload_n (pc := 0) C 1 rfl dJ1_charAt_3b067_0 ?_
  refine v_aload_n (pc := 1) C 0 rfl dJ1_charAt_3b067_1 ?_
  refine v_sbl (pc := 2) C t ht dJ1_charAt_3b067_2 ?_
  refine v_callVs (pc := 3) C (As := [.int i, .int (Int32.ofNat (sLen.getD t 0))]) (nargs := 2) (mJ0_checkIndex G K.2.1 w i (Int32.ofNat (sLen.getD t 0)) hi.1 (inb_lt ht hi)) mw_227 mw_228 mw_206 mw_229 ⟨by decide +kernel, by decide +kernel, by decide +kernel⟩ ⟨Nat.le_of_ble_eq_true rfl, Nat.le_of_ble_eq_true rfl⟩ rfl (Nat.le_of_ble_eq_true rfl) dJ1_charAt_3b067_3 ?_
  refine v_aload_n (pc := 6) C 0 rfl dJ1_charAt_3b067_6 ?_
  refine v_iload_n (pc := 7) C 1 rfl dJ1_charAt_3b067_7 ?_
  refine v_sbb (pc := 8) C t ht hi dJ1_charAt_3b067_8 ?_
  refine v_sipush (pc := 9) C 255 dJ1_charAt_3b067_9 (by decide) ?_
  refine v_iand (pc := 12) C dJ1_charAt_3b067_12 ?_
  refine v_i2c (pc := 13) C dJ1_charAt_3b067_13 ?_
  rw [(sbyt_eq t ht _ hi.2).1]
  exact fun _ => hret _ _ _ _ ⟨rfl, rfl⟩ (sbyt_eq t ht _ hi.2).2 dJ1_charAt_3b067_14
set_option maxHeartbeats 4000000 in
set_option maxRecDepth 100000 in
theorem mJ0_charAt (G : GT) (l : Launch) (t : Nat) (ht : t < 4) (w : va_W) (i : Int32) (hi : inb i (sLen.getD t 0)) : MI G l yJ0_charAt_5068e cJ0_charAt_5068e 2 (some .char) 3 64 [.ref (gK G t), .int i] w ((sByt.getD t []).getD i.toNatClampNeg 0) w := by
  refine MI.startC (by decide +kernel) (Nat.le_of_ble_eq_true rfl) (fun K hl C hret => ?_)
  subst hl
  have C : Ctx G K cJ0_charAt_5068e RJ0 2 3 64 := C
  change V G K w 0 [(0, .ref (gK G t)), (1, .int i)] []
  refine (?_ : tp (if (1 : Int32) = 0 then (none : Option Unit) else some ()) (fun _ => True) → _) ⟨(), rfl, trivial⟩
  refine v_aload_n (pc := 0) C 0 rfl dJ0_charAt_5068e_0 ?_
  refine v_callIk (pc := 1) C t ht (As := []) (nargs := 0) rfl (mJ0_isLatin1 G K.2.1 t ht w) mw_219 mw_220 mw_221 mw_206 mw_222 ⟨by decide +kernel, by decide +kernel, by decide +kernel⟩ ⟨Nat.le_of_ble_eq_true rfl, Nat.le_of_ble_eq_true rfl⟩ rfl (Nat.le_of_ble_eq_true rfl) dJ0_charAt_5068e_1 ?_
  refine v_if_eq (pc := 4) C 16 dJ0_charAt_5068e_4 (by decide) tp_no ?_
  refine v_aload_n (pc := 7) C 0 rfl dJ0_charAt_5068e_7 ?_
  refine v_sval (pc := 8) C t ht mw_208 dJ0_charAt_5068e_8 ?_
  refine v_iload_n (pc := 11) C 1 rfl dJ0_charAt_5068e_11 ?_
  refine v_callIs (pc := 12) C (As := [.ref (gV G t), .int i]) (nargs := 2) (mJ1_charAt G K.2.1 t ht w i hi) mw_223 mw_224 mw_225 mw_226 ⟨by decide +kernel, by decide +kernel, by decide +kernel⟩ ⟨Nat.le_of_ble_eq_true rfl, Nat.le_of_ble_eq_true rfl⟩ rfl (Nat.le_of_ble_eq_true rfl) dJ0_charAt_5068e_12 ?_
  exact fun _ => hret _ _ _ _ ⟨rfl, rfl⟩ (sbyt_eq t ht _ hi.2).2 dJ0_charAt_5068e_15
end STRM
section STRS
variable {G : GT} {K : KT} {cc : ByteArray} {own : String} {nl fr lo : Nat} {w w' : va_W} {pc : Nat} {lv lv' : List (Nat × Value)} {rest st : List Value} {F : Prop}
theorem v_slen (C : Ctx G K cc own nl fr lo) (i : Nat) (hi : i < 4) {index : Nat} (h0 : Cond.methodLink own index yJ0_length_8abf5 ∈ wsL_law) (hR : 2 ≤ fr ∧ 40 ≤ lo) (hcat : (rest.map fun v => v.category).sum ≤ 8) (hdg : decode cc pc = .ok (.invokevirtual index, 3)) (k : F → V G K w (pc + 3) lv (.int (nI (sLen.getD i 0)) :: rest)) : F → V G K w pc lv (.ref (gK G i) :: rest) :=
  v_callIk C i hi (As := []) (nargs := 0) rfl (mJ0_length G K.2.1 i hi w) h0 mw_204 mw_205 mw_206 mw_207 ⟨by decide +kernel, by decide +kernel, by decide +kernel⟩ ⟨hR.1, hR.2⟩ rfl hcat hdg k
theorem v_sat (C : Ctx G K cc own nl fr lo) (t : Nat) (ht : t < 4) {index : Nat} {i : Int32} (h0 : Cond.methodLink own index yJ0_charAt_5068e ∈ wsL_law) (hR : 4 ≤ fr ∧ 128 ≤ lo) (hcat : (rest.map fun v => v.category).sum ≤ 8) {α : Type} {A : Option α} {Φ : α → Prop} [Decidable (inb i (sLen.getD t 0))] (hdg : decode cc pc = .ok (.invokevirtual index, 3)) (k : tp A Φ → V G K w (pc + 3) lv (.int ((sByt.getD t []).getD i.toNatClampNeg 0) :: rest)) : tp (gd (inb i (sLen.getD t 0)) A) Φ → V G K w pc lv (.int i :: .ref (gK G t) :: rest) :=
  r_gd (fun hi => v_callIk C t ht (As := [.int i]) (nargs := 1) rfl (mJ0_charAt G K.2.1 t ht w i hi) h0 mw_216 mw_217 mw_206 mw_218 ⟨by decide +kernel, by decide +kernel, by decide +kernel⟩ ⟨hR.1, Nat.le_trans (Nat.le_of_ble_eq_true rfl) hR.2⟩ rfl hcat hdg k)
end STRS
