/-! a call on a part of the world: the rest stays -/
section FRAME
variable {G : GT} {K : KT} {cc : ByteArray} {own : String} {nl fr lo : Nat} {pc : Nat} {lv : List (Nat × Value)} {rest : List Value}
def cellsA (w1 : va_W) (n : Nat) : Nat → Prop := fun x => (∃ e : va_E, (x, e) ∈ w1) ∨ n ≤ x
theorem joinA {D : va_G} {A0 : Nat → Prop} {H H1 : Heap} {w1 w2 wr : va_W} (hP : va_P D vwCl (w1 ++ wr) H) (hD : va_D A0 (w1 ++ wr)) (hk : ∀ x : Nat, x < H.size → ¬ cellsA w1 H.size x → H1[x]? = H[x]?) (hP1 : va_P D vwCl w2 H1) (hD1 : va_D (cellsA w1 H.size) w2) (hA : ∀ x, cellsA w1 H.size x → A0 x) : va_P D vwCl (w2 ++ wr) H1 ∧ va_D A0 (w2 ++ wr) := by
  have hr : ∀ (i : Nat) (x : Nat × va_E), wr[i]? = some x → (w1 ++ wr)[w1.length + i]? = some x := fun i x hx => by rw [List.getElem?_append_right (by omega), Nat.add_sub_cancel_left]; exact hx
  have hlt : ∀ (i : Nat) (x : Nat × va_E), wr[i]? = some x → x.1 < H.size := fun i x hx => (hP _ x (hr i x hx)).lt
  have hne : ∀ (i : Nat) (x : Nat × va_E), wr[i]? = some x → ¬ cellsA w1 H.size x.1 := fun i x hx hc => by
    rcases hc with ⟨e, he⟩ | hc
    · obtain ⟨j, hj⟩ := List.getElem?_of_mem he
      have hl := (List.getElem?_eq_some_iff.mp hj).1
      have := hD.1 j (w1.length + i) (x.1, e) x (by rw [List.getElem?_append_left hl]; exact hj) (hr i x hx) rfl
      omega
    · exact Nat.not_le.mpr (hlt i x hx) hc
  have hPr : va_P D vwCl wr H := fun i x hx => hP _ x (hr i x hx)
  refine ⟨hP1.app (hPr.kept (fun i x hx => hk x.1 (hlt i x hx) (hne i x hx))), fun i j x y hi hj hxy => ?_, fun i x hx => ?_⟩
  · by_cases g1 : i < w2.length <;> by_cases g2 : j < w2.length
    · rw [List.getElem?_append_left g1] at hi
      rw [List.getElem?_append_left g2] at hj
      exact hD1.1 i j x y hi hj hxy
    · rw [List.getElem?_append_left g1] at hi
      rw [List.getElem?_append_right (by omega)] at hj
      exact absurd (hxy ▸ hD1.2 _ _ hi) (hne _ y hj)
    · rw [List.getElem?_append_right (by omega)] at hi
      rw [List.getElem?_append_left g2] at hj
      exact absurd (hxy ▸ hD1.2 _ _ hj) (hne _ x hi)
    · rw [List.getElem?_append_right (by omega)] at hi hj
      have := hD.1 _ _ x y (hr _ x hi) (hr _ y hj) hxy
      omega
  · by_cases g1 : i < w2.length
    · rw [List.getElem?_append_left g1] at hx
      exact hA _ (hD1.2 _ _ hx)
    · rw [List.getElem?_append_right (by omega)] at hx
      exact hD.2 _ x (hr _ x hx)
theorem va_D.left {A0 : Nat → Prop} {w1 wr : va_W} {n : Nat} (hD : va_D A0 (w1 ++ wr)) : va_D (cellsA w1 n) w1 := by
  refine ⟨fun i j x y hi hj hxy => ?_, fun i x hx => Or.inl ⟨x.2, List.mem_of_getElem? hx⟩⟩
  have li := (List.getElem?_eq_some_iff.mp hi).1
  have lj := (List.getElem?_eq_some_iff.mp hj).1
  exact hD.1 i j x y (by rw [List.getElem?_append_left li]; exact hi) (by rw [List.getElem?_append_left lj]; exact hj) hxy
theorem va_P.left {D : va_G} {H : Heap} {w1 wr : va_W} (hP : va_P D vwCl (w1 ++ wr) H) : va_P D vwCl w1 H := fun i x hx => hP i x (by rw [List.getElem?_append_left (List.getElem?_eq_some_iff.mp hx).1]; exact hx)
theorem cellsA_sub {A0 : Nat → Prop} {w1 wr : va_W} {n : Nat} (hD : va_D A0 (w1 ++ wr)) (hn : ∀ x, n ≤ x → A0 x) : ∀ x, cellsA w1 n x → A0 x := by
  rintro x (⟨e, he⟩ | h)
  · obtain ⟨j, hj⟩ := List.getElem?_of_mem he
    exact hD.2 j (x, e) (by rw [List.getElem?_append_left (List.getElem?_eq_some_iff.mp hj).1]; exact hj)
  · exact hn x h
theorem v_callLI (C : Ctx G K cc own nl fr lo) {w1 w2 wr : va_W} {y : MethodName} {bytes : ByteArray} {n fc lc nargs index : Nat} {ret : Option FieldType} {As : List Value} {r : Int32} {b : Nat} (hM : ∀ A : Nat → Prop, MI (gS G A) K.2.1 y bytes n ret fc lc (.ref b :: As) w1 r w2) (h0 : Cond.methodLink own index y ∈ wsL_law) (h1 : Cond.instanceMethod y ∈ wsL_law) (h2 : Cond.selects y.cls y y ∈ wsL_law) (h3 : Cond.initialized y.cls ∈ wsL_law) (h4 : Cond.code y bytes n ret ∈ wsL_law) (hrecv : ∃ (q0 ci : Nat) (fs : List Value) (T : u_T) (N : Nat), vwCl[ci]? = some (y.cls, T, N) ∧ w1[q0]? = some (b, .inr (ci, fs))) (hd : y.cls ≠ "java/lang/invoke/MethodHandle" ∧ y.cls ≠ "java/lang/invoke/VarHandle" ∧ (parseMethodDescriptor y.desc).map (fun d => d.parameters.length) = some nargs) (hR : fc + 1 ≤ fr ∧ 8 + (n + 11) + lc ≤ lo) (hlen : As.length = nargs) (hcat : (rest.map fun v => v.category).sum ≤ 8) (hdg : decode cc pc = .ok (.invokevirtual index, 3)) (k : V G K (w2 ++ wr) (pc + 3) lv (.int r :: rest)) : V G K (w1 ++ wr) pc lv (As.reverse ++ .ref b :: rest) := by
  obtain ⟨p, l, e, R, s, m, args, below, meth, c, Q, cells, slots, nL⟩ := K
  obtain ⟨hx, hb, hml, hown, hts, hlk, hK, hst, hN, hfr, hlo, hc, hs, rfl⟩ := C
  intro H locs ls hP hD hS hl
  obtain ⟨q0, ci, fs, T, N, hrc, hre⟩ := hrecv
  have hA := cellsA_sub (n := H.size) hD (fun x z => hN x (Nat.le_trans hS.1 z))
  refine va_calli (va_runV (As := As) (rest := rest) ⟨hx, hb, hml, hown, hts⟩ (hM (cellsA w1 H.size)) ⟨callB_of nargs hts (good_in (fun _ h => h) h4) rfl rfl rfl (hts _ h3) (hts _ h0) hd ⟨Nat.le_trans hR.1 hfr, Nat.le_trans hR.2 hlo⟩, hts _ h1, hts _ h2⟩ ⟨fun a U g mk q => PW.pass q, va_recv hK hP.left hrc hre, fun U hU hW => ⟨rfl, fun x z => by rw [hU] at z; exact Or.inr z, by rw [hU]; exact hP.left, va_K.moved hW.alike hK, hD.left, by rw [hU]; exact (hst.go hS hW).nar hA⟩⟩ rfl hlen hl.1 rfl (lv_room hcat) hdg ⟨hc, hs⟩) hS (fun x _ h => hA x h) (fun x h => hA x h) (fun q u t H1 locs1 ht hvm hw hB hz1 hk1 hS1 => ?_)
  obtain ⟨hN1, hP1, hK1, hD1, hst1⟩ := hB
  rw [ht] at hP1
  subst hw
  obtain ⟨j1, j2⟩ := joinA hP hD hk1 hP1 hD1 hA
  exact k H1 locs1 ls j1 j2 hS1 hl
theorem v_callLL (C : Ctx G K cc own nl fr lo) {w1 w2 wr : va_W} {y : MethodName} {bytes : ByteArray} {n fc lc nargs index : Nat} {ret : Option FieldType} {As : List Value} {r : Int64} {b : Nat} (hM : ∀ A : Nat → Prop, ML (gS G A) K.2.1 y bytes n ret fc lc (.ref b :: As) w1 r w2) (h0 : Cond.methodLink own index y ∈ wsL_law) (h1 : Cond.instanceMethod y ∈ wsL_law) (h2 : Cond.selects y.cls y y ∈ wsL_law) (h3 : Cond.initialized y.cls ∈ wsL_law) (h4 : Cond.code y bytes n ret ∈ wsL_law) (hrecv : ∃ (q0 ci : Nat) (fs : List Value) (T : u_T) (N : Nat), vwCl[ci]? = some (y.cls, T, N) ∧ w1[q0]? = some (b, .inr (ci, fs))) (hd : y.cls ≠ "java/lang/invoke/MethodHandle" ∧ y.cls ≠ "java/lang/invoke/VarHandle" ∧ (parseMethodDescriptor y.desc).map (fun d => d.parameters.length) = some nargs) (hR : fc + 1 ≤ fr ∧ 8 + (n + 11) + lc ≤ lo) (hlen : As.length = nargs) (hcat : (rest.map fun v => v.category).sum ≤ 8) (hdg : decode cc pc = .ok (.invokevirtual index, 3)) (k : V G K (w2 ++ wr) (pc + 3) lv (.long r :: rest)) : V G K (w1 ++ wr) pc lv (As.reverse ++ .ref b :: rest) := by
  obtain ⟨p, l, e, R, s, m, args, below, meth, c, Q, cells, slots, nL⟩ := K
  obtain ⟨hx, hb, hml, hown, hts, hlk, hK, hst, hN, hfr, hlo, hc, hs, rfl⟩ := C
  intro H locs ls hP hD hS hl
  obtain ⟨q0, ci, fs, T, N, hrc, hre⟩ := hrecv
  have hA := cellsA_sub (n := H.size) hD (fun x z => hN x (Nat.le_trans hS.1 z))
  refine va_calll (va_runV (As := As) (rest := rest) ⟨hx, hb, hml, hown, hts⟩ (hM (cellsA w1 H.size)) ⟨callB_of nargs hts (good_in (fun _ h => h) h4) rfl rfl rfl (hts _ h3) (hts _ h0) hd ⟨Nat.le_trans hR.1 hfr, Nat.le_trans hR.2 hlo⟩, hts _ h1, hts _ h2⟩ ⟨fun a U g mk q => PW.pass q, va_recv hK hP.left hrc hre, fun U hU hW => ⟨rfl, fun x z => by rw [hU] at z; exact Or.inr z, by rw [hU]; exact hP.left, va_K.moved hW.alike hK, hD.left, by rw [hU]; exact (hst.go hS hW).nar hA⟩⟩ rfl hlen hl.1 rfl (lv_room hcat) hdg ⟨hc, hs⟩) hS (fun x _ h => hA x h) (fun x h => hA x h) (fun q u t H1 locs1 ht hvm hw hB hz1 hk1 hS1 => ?_)
  obtain ⟨hN1, hP1, hK1, hD1, hst1⟩ := hB
  rw [ht] at hP1
  subst hw
  obtain ⟨j1, j2⟩ := joinA hP hD hk1 hP1 hD1 hA
  exact k H1 locs1 ls j1 j2 hS1 hl
theorem v_flip {w1 w2 : va_W} (k : V G K (w2 ++ w1) pc lv rest) : V G K (w1 ++ w2) pc lv rest := v_perm List.perm_append_comm k
end FRAME
