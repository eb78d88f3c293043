/-! the law's loop and its start, by program (gen_law.py) -/
section LOOP
variable {G : GT} {K : KT} {b L : Nat} {xs : Nat → Int32}
set_option maxHeartbeats 4000000 in
set_option maxRecDepth 100000 in
theorem law_go (C : Ctx G K code RL 4 13 474) (X : SX G K b L xs) (hL : L ≤ 2560) (fin : ∀ (w : va_W) (lv : List (Nat × Value)), V G K w 1299 lv []) : ∀ (n i : Nat) (σ τ : SS), L ≤ i + n → i ≤ L + 5 → RR σ τ → V G K (wX G σ ++ wM G τ) 18 (lvL G b i) [] := by
  intro n
  induction n with
  | zero =>
    intro i σ τ h1 h2 h
    refine v_iload_n (pc := 18) C (F := True) 0 rfl dL_law_18 (fun _ => ?_) trivial
    refine v_aload_n (pc := 19) C (F := True) 3 rfl dL_law_19 (fun _ => ?_) trivial
    refine v_sln (pc := 20) C X dL_law_20 ?_
    refine v_iconst (pc := 21) C (F := True) 5 dL_law_21 (by decide) (fun _ => ?_) trivial
    refine v_isub (pc := 22) C (F := True) dL_law_22 (fun _ => ?_) trivial
    refine (?_ : tp (if nI i ≤ Int32.ofNat L - 5 then (none : Option Unit) else some ()) (fun _ => True) → _) ⟨(), if_neg (by rw [go_on hL h2]; omega), trivial⟩
    exact v_icmp_gt (pc := 23) C 1299 dL_law_23 (by decide) tp_no (fun _ => fin _ _)
  | succ n ih =>
    intro i σ τ h1 h2 h
    refine v_iload_n (pc := 18) C (F := True) 0 rfl dL_law_18 (fun _ => ?_) trivial
    refine v_aload_n (pc := 19) C (F := True) 3 rfl dL_law_19 (fun _ => ?_) trivial
    refine v_sln (pc := 20) C X dL_law_20 ?_
    refine v_iconst (pc := 21) C (F := True) 5 dL_law_21 (by decide) (fun _ => ?_) trivial
    refine v_isub (pc := 22) C (F := True) dL_law_22 (fun _ => ?_) trivial
    by_cases hi : i + 5 ≤ L
    · refine (?_ : tp (if nI i ≤ Int32.ofNat L - 5 then some () else (none : Option Unit)) (fun _ => True) → _) ⟨(), if_pos (by rw [go_on hL h2]; exact hi), trivial⟩
      refine v_icmp_gt (pc := 23) C 1299 dL_law_23 (by decide) (fun _ => ?_) tp_no
      refine v_aload_n (pc := 26) C (F := True) 3 rfl dL_law_26 (fun _ => ?_) trivial
      refine v_iload_n (pc := 27) C (F := True) 0 rfl dL_law_27 (fun _ => ?_) trivial
      refine v_sld (pc := 28) C X (sin0 hi hL) dL_law_28 ?_
      refine v_bipush (pc := 29) C (F := True) 63 dL_law_29 (by decide) (fun _ => ?_) trivial
      refine v_iand (pc := 31) C (F := True) dL_law_31 (fun _ => ?_) trivial
      have nx : NX G K b i := fun σ' τ' h' => by
        refine v_iinc (pc := 1293) C (F := True) 5 0 (lv' := lvL G b (i + 5)) dL_law_1293 rfl (by decide) (by decide) (by rw [l5, nI_add]; rfl) (fun _ => ?_) trivial
        refine v_goto (pc := 1296) C (F := True) 18 dL_law_1296 (by decide) (fun _ => ?_) trivial
        exact ih (i + 5) σ' τ' (by omega) (by omega) h'
      generalize xs (Int32.toNatClampNeg (nI i)) &&& 63 = x
      rcases sw x with ⟨j, hj, rfl⟩ | ho
      · match j, hj with
        | 0, _ => exact v_tableIn (pc := 32) C (F := True) (off := 148) 180 dL_law_32 (by decide) (by decide) rfl (by decide) (fun _ => lc_type C X hL hi h nx) trivial
        | 1, _ => exact v_tableIn (pc := 32) C (F := True) (off := 211) 243 dL_law_32 (by decide) (by decide) rfl (by decide) (fun _ => lc_clear C X hL hi h nx) trivial
        | 2, _ => exact v_tableIn (pc := 32) C (F := True) (off := 224) 256 dL_law_32 (by decide) (by decide) rfl (by decide) (fun _ => lc_tree C X hL hi h nx) trivial
        | 3, _ => exact v_tableIn (pc := 32) C (F := True) (off := 237) 269 dL_law_32 (by decide) (by decide) rfl (by decide) (fun _ => lc_branch C X hL hi h nx) trivial
        | 4, _ => exact v_tableIn (pc := 32) C (F := True) (off := 270) 302 dL_law_32 (by decide) (by decide) rfl (by decide) (fun _ => lc_body C X hL hi h nx) trivial
        | 5, _ => exact v_tableIn (pc := 32) C (F := True) (off := 303) 335 dL_law_32 (by decide) (by decide) rfl (by decide) (fun _ => lc_tune C X hL hi h nx) trivial
        | 6, _ => exact v_tableIn (pc := 32) C (F := True) (off := 336) 368 dL_law_32 (by decide) (by decide) rfl (by decide) (fun _ => lc_sawn C X hL hi h nx) trivial
        | 7, _ => exact v_tableIn (pc := 32) C (F := True) (off := 359) 391 dL_law_32 (by decide) (by decide) rfl (by decide) (fun _ => lc_step C X hL hi h nx) trivial
        | 8, _ => exact v_tableIn (pc := 32) C (F := True) (off := 402) 434 dL_law_32 (by decide) (by decide) rfl (by decide) (fun _ => lc_holds C X hL hi h nx) trivial
        | 9, _ => exact v_tableIn (pc := 32) C (F := True) (off := 435) 467 dL_law_32 (by decide) (by decide) rfl (by decide) (fun _ => lc_best C X hL hi h nx) trivial
        | 10, _ => exact v_tableIn (pc := 32) C (F := True) (off := 489) 521 dL_law_32 (by decide) (by decide) rfl (by decide) (fun _ => lc_high C X hL hi h nx) trivial
        | 11, _ => exact v_tableIn (pc := 32) C (F := True) (off := 522) 554 dL_law_32 (by decide) (by decide) rfl (by decide) (fun _ => lc_sure C X hL hi h nx) trivial
        | 12, _ => exact v_tableIn (pc := 32) C (F := True) (off := 555) 587 dL_law_32 (by decide) (by decide) rfl (by decide) (fun _ => lc_help C X hL hi h nx) trivial
        | 13, _ => exact v_tableIn (pc := 32) C (F := True) (off := 588) 620 dL_law_32 (by decide) (by decide) rfl (by decide) (fun _ => lc_stuck C X hL hi h nx) trivial
        | 14, _ => exact v_tableIn (pc := 32) C (F := True) (off := 621) 653 dL_law_32 (by decide) (by decide) rfl (by decide) (fun _ => lc_rubbed C X hL hi h nx) trivial
        | 15, _ => exact v_tableIn (pc := 32) C (F := True) (off := 665) 697 dL_law_32 (by decide) (by decide) rfl (by decide) (fun _ => lc_tried C X hL hi h nx) trivial
        | 16, _ => exact v_tableIn (pc := 32) C (F := True) (off := 719) 751 dL_law_32 (by decide) (by decide) rfl (by decide) (fun _ => lc_tries C X hL hi h nx) trivial
        | 17, _ => exact v_tableIn (pc := 32) C (F := True) (off := 762) 794 dL_law_32 (by decide) (by decide) rfl (by decide) (fun _ => lc_sway C X hL hi h nx) trivial
        | 18, _ => exact v_tableIn (pc := 32) C (F := True) (off := 805) 837 dL_law_32 (by decide) (by decide) rfl (by decide) (fun _ => lc_calm C X hL hi h nx) trivial
        | 19, _ => exact v_tableIn (pc := 32) C (F := True) (off := 848) 880 dL_law_32 (by decide) (by decide) rfl (by decide) (fun _ => lc_fall C X hL hi h nx) trivial
        | 20, _ => exact v_tableIn (pc := 32) C (F := True) (off := 881) 913 dL_law_32 (by decide) (by decide) rfl (by decide) (fun _ => lc_saw C X hL hi h nx) trivial
        | 21, _ => exact v_tableIn (pc := 32) C (F := True) (off := 934) 966 dL_law_32 (by decide) (by decide) rfl (by decide) (fun _ => lc_afternoon C X hL hi h nx) trivial
        | 22, _ => exact v_tableIn (pc := 32) C (F := True) (off := 977) 1009 dL_law_32 (by decide) (by decide) rfl (by decide) (fun _ => lc_dares C X hL hi h nx) trivial
        | 23, _ => exact v_tableIn (pc := 32) C (F := True) (off := 1030) 1062 dL_law_32 (by decide) (by decide) rfl (by decide) (fun _ => lc_looked C X hL hi h nx) trivial
        | 24, _ => exact v_tableIn (pc := 32) C (F := True) (off := 1053) 1085 dL_law_32 (by decide) (by decide) rfl (by decide) (fun _ => lc_goes C X hL hi h nx) trivial
        | 25, _ => exact v_tableIn (pc := 32) C (F := True) (off := 1076) 1108 dL_law_32 (by decide) (by decide) rfl (by decide) (fun _ => lc_climb C X hL hi h nx) trivial
        | 26, _ => exact v_tableIn (pc := 32) C (F := True) (off := 1099) 1131 dL_law_32 (by decide) (by decide) rfl (by decide) (fun _ => lc_now C X hL hi h nx) trivial
        | 27, _ => exact v_tableIn (pc := 32) C (F := True) (off := 1122) 1154 dL_law_32 (by decide) (by decide) rfl (by decide) (fun _ => lc_lot C X hL hi h nx) trivial
        | 28, _ => exact v_tableIn (pc := 32) C (F := True) (off := 1145) 1177 dL_law_32 (by decide) (by decide) rfl (by decide) (fun _ => lc_mark C X hL hi h nx) trivial
        | 29, _ => exact v_tableIn (pc := 32) C (F := True) (off := 1178) 1210 dL_law_32 (by decide) (by decide) rfl (by decide) (fun _ => lc_keep C X hL hi h nx) trivial
        | 30, _ => exact v_tableIn (pc := 32) C (F := True) (off := 1201) 1233 dL_law_32 (by decide) (by decide) rfl (by decide) (fun _ => lc_back C X hL hi h nx) trivial
        | 31, _ => exact v_tableIn (pc := 32) C (F := True) (off := 1224) 1256 dL_law_32 (by decide) (by decide) rfl (by decide) (fun _ => lc_count C X hL hi h nx) trivial
        | 32, _ => exact v_tableIn (pc := 32) C (F := True) (off := 1247) 1279 dL_law_32 (by decide) (by decide) rfl (by decide) (fun _ => lc_trace C X hL hi h nx) trivial
        | m + 33, h => exact absurd h (by omega)
      · exact v_tableOut (pc := 32) C (F := True) 1293 dL_law_32 ho (by decide) (fun _ => nx σ τ h) trivial
    · refine (?_ : tp (if nI i ≤ Int32.ofNat L - 5 then (none : Option Unit) else some ()) (fun _ => True) → _) ⟨(), if_neg (by rw [go_on hL h2]; exact hi), trivial⟩
      exact v_icmp_gt (pc := 23) C 1299 dL_law_23 (by decide) tp_no (fun _ => fin _ _)
end LOOP
