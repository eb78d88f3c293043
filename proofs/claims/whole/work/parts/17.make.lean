/-! makers: rows for constructors -/
/-- the same frame, with that much made -/
def kb (K : KT) (a b : Nat) : KT := match K with
  | (p, l, e, R, s, m, args, below, meth, c, Q, cells, slots, nL) => (p, l, e, R, s, m, args, below, meth, c, Q, cells + a, slots + b, nL)
theorem kb_0 (K : KT) : kb K 0 0 = K := by
  obtain ⟨p, l, e, R, s, m, args, below, meth, c, Q, cells, slots, nL⟩ := K
  rfl
/-- what stands besides: the first tunes' own cell; the array classes' words -/
def FT0 (G : GT) (U : State) (H : Heap) : Prop := ∃ cell : Cell, H[gT G 0]? = some cell ∧ cell.vm ≠ .unknown ∧ cell.vm.isStatics = false ∧ U.vm.findClass "[I" = some cell.cls ∧ cell.slots.size = 6 ∧ (∀ j, j < 6 → cell.slots[j]? = some (.int ((tvl 0).getD j 0))) ∧ ¬ gA G (gT G 0)
def Ext (G : GT) (U : State) (H : Heap) : Prop := FT0 G U H ∧ va_Nw (.castable "[I" "java/lang/Cloneable") U ∧ va_AO "TreeClimb$Moment" U ∧ va_AOA .int U
theorem Ext.go {G : GT} {s U : State} {H : Heap} {locs : List Loc} (h : Ext G s s.heap) (hS : va_S (gA G) s.heap H locs) (hW : s.WarmedH U.vm) : Ext G U H := by
  obtain ⟨⟨cell, h1, h2, h3, h4, h5, h6, h7⟩, g1, g2, g3⟩ := h
  refine ⟨⟨cell, ?_, h2, h3, ?_, h5, h6, h7⟩, va_Nw.warmC hW g1, va_AO.moved hW.alike g2, va_AOA.moved hW.alike g3⟩
  · rw [hS.2.1 _ (Array.getElem?_eq_some_iff.mp h1).1 h7]; exact h1
  · rw [hW.alike.findClass]; exact h4
def CN (G : GT) (K : KT) (cc : ByteArray) (own : String) (nl fr lo mc ms : Nat) : Prop := Ctx G K cc own nl fr lo ∧ match K with
  | (_, _, _, R, s, _, _, _, _, _, _, cells, slots, _) => cells + mc ≤ R.cells ∧ slots + ms ≤ R.slots ∧ Ext G s s.heap
def kin (K : KT) : Prop := match K with
  | (_, _, _, _, _, _, _, _, meth, _, _, _, _, _) => meth.name = "<init>"
theorem CN.at {G : GT} {K : KT} {cc : ByteArray} {own : String} {nl fr lo mc ms a b : Nat} (C : CN G K cc own nl fr lo mc ms) (h1 : a ≤ mc) (h2 : b ≤ ms) : Ctx G (kb K a b) cc own nl fr lo := by
  obtain ⟨p, l, e, R, s, m, args, below, meth, c, Q, cells, slots, nL⟩ := K
  obtain ⟨⟨hx, hb, hml, hown, hts, hlk, hK, hst, hN, hfr, hlo, hc, hs, hn⟩, e1, e2, e3⟩ := C
  exact ⟨hx, hb, hml, hown, hts, hlk, hK, hst, hN, hfr, hlo, Nat.le_trans (Nat.add_le_add_left h1 _) e1, Nat.le_trans (Nat.add_le_add_left h2 _) e2, hn⟩
section MAKE
variable {G : GT} {K : KT} {cc : ByteArray} {own : String} {nl fr lo mc ms a b a' b' : Nat} {w w' : va_W} {pc : Nat} {lv lv' : List (Nat × Value)} {rest st : List Value}
theorem v_perm (h : w.Perm w') (k : V G K w' pc lv st) : V G K w pc lv st := by
  obtain ⟨p, l, e, R, s, m, args, below, meth, c, Q, cells, slots, nL⟩ := K
  intro H locs ls hP hD hS hl
  refine k H locs ls (fun i q hq => ?_) ⟨fun i j x y hi hj hxy => ?_, fun i q hq => ?_⟩ hS hl
  · obtain ⟨i', hi'⟩ := List.getElem?_of_mem (h.symm.mem_iff.mp (List.mem_of_getElem? hq))
    exact hP i' q hi'
  · have hn : (w.map Prod.fst).Nodup := by
      refine List.pairwise_iff_getElem.mpr (fun i j hi hj hij => ?_)
      rw [List.length_map] at hi hj
      rw [List.getElem_map, List.getElem_map]
      intro q
      have := hD.1 i j _ _ (List.getElem?_eq_getElem hi) (List.getElem?_eq_getElem hj) q
      omega
    have hn' : (w'.map Prod.fst).Nodup := (h.map Prod.fst).nodup_iff.mp hn
    have hn2 := List.pairwise_iff_getElem.mp hn'
    obtain ⟨li, ei⟩ := List.getElem?_eq_some_iff.mp hi
    obtain ⟨lj, ej⟩ := List.getElem?_eq_some_iff.mp hj
    rcases Nat.lt_trichotomy i j with g | g | g
    · exact absurd (by rw [List.getElem_map, List.getElem_map, ei, ej]; exact hxy) (hn2 i j (by rw [List.length_map]; exact li) (by rw [List.length_map]; exact lj) g)
    · exact g
    · exact absurd (by rw [List.getElem_map, List.getElem_map, ei, ej]; exact hxy.symm) (hn2 j i (by rw [List.length_map]; exact lj) (by rw [List.length_map]; exact li) g)
  · obtain ⟨i', hi'⟩ := List.getElem?_of_mem (h.symm.mem_iff.mp (List.mem_of_getElem? hq))
    exact hD.2 i' q hi'
theorem v_pick (is : List Nat) (hn : va_nd is = true) (hs : is.map (fun i => w[i]?) = w'.map some) (k : V G K w' pc lv st) : V G K w pc lv st := by
  obtain ⟨p, l, e, R, s, m, args, below, meth, c, Q, cells, slots, nL⟩ := K
  intro H locs ls hP hD hS hl
  refine k H locs ls (hP.sub is ?_) (hD.sub is hn hs) hS hl
  have e : is.filterMap (fun i => w[i]?) = (is.map (fun i => w[i]?)).filterMap id := by rw [List.filterMap_map]; rfl
  rw [e, hs]
  simp
theorem v_objI (C : Ctx G K cc own nl fr lo) {index x : Nat} {F : Prop} (hq : Cond.methodLink own index objectInit ∈ wsL_law) (hfr1 : 1 ≤ fr) (hlo1 : (rest.map fun v => v.category).sum + 12 ≤ lo) (hd : decode cc pc = .ok (.invokespecial index, 3)) (k : F → V G K w (pc + 3) lv rest) : F → V G K w pc lv (.ref x :: rest) := by
  obtain ⟨p, l, e, R, s, m, args, below, meth, c, Q, cells, slots, nL⟩ := K
  obtain ⟨hx, hb, hml, hown, hts, hlk, hK, hst, hN, hfr, hlo, hc, hs, rfl⟩ := C
  intro hF H locs ls hP hD hS hl
  exact W.objInit hx hb hown (hts _ hq) (hts _ mw_11) (hts _ mw_12) rfl (by rw [hml]; exact hl.1) rfl hd (Nat.le_trans hfr1 hfr) (by show 2 * 0 + _ + 12 ≤ _; exact Nat.le_trans (by omega) hlo) (k hF H locs ls hP hD hS hl)
theorem tyK {D : va_G} {cl : List vw_C} {tys : List (ClassId × FieldType)} {s : State} (hK : va_K D cl tys s) {i : Nat} {c : ClassId} {t : FieldType} (hi : tys[i]? = some (c, t)) (ht : ∀ C, t ≠ .object C) : s.vm.findClass ("[" ++ t.toString) = some c := by
  have h := (hK.2 i _ hi).2
  cases t with
  | object C => exact absurd rfl (ht C)
  | _ => exact h
theorem v_newa (C : CN G K cc own nl fr lo mc ms) (i : Nat) {atype : ArrayType} {ty : FieldType} {n : Int32} {N : Nat} {z : vp_A} (hty : newarray.typeOf atype = ty) (hto : ∀ C, ty ≠ .object C) (harr : Cond.arrayClass (newarray.typeOf atype) ∈ wsL_law) (htys : (tysG G)[i]? = some (gC G i, ty)) (hz : ∀ cA : ClassId, vp_cell cA z = arrV cA N (fun _ => defaultValue ty)) (hn : ¬ n < 0) (hNN : n.toNatClampNeg = N) (hby : N * componentBytes ty ≤ 536870912) (ha : a + 1 = a') (hb' : b + N = b') (h1 : a' ≤ mc) (h2 : b' ≤ ms) (hd : decode cc pc = .ok (.newarray atype, 2)) (k : ∀ q : Nat, V G (kb K a' b') (w ++ [(q, .inl (gC G i, z))]) (pc + 2) lv (.ref q :: rest)) : V G (kb K a b) w pc lv (.int n :: rest) := by
  obtain ⟨p, l, e, R, s, m, args, below, meth, c, Q, cells, slots, nL⟩ := K
  obtain ⟨⟨hx, hb, hml, hown, hts, hlk, hK, hst, hN, hfr, hlo, hc, hs, rfl⟩, e1, e2, e3⟩ := C
  subst ha hb'
  intro H locs ls hP hD hS hl
  refine va_newa hx hb (hts _ harr) hty hK hP hD hS hN hz hn hNN hby (by have := Nat.le_trans (Nat.add_le_add_left h1 cells) e1; omega) (by have := Nat.le_trans (Nat.add_le_add_left h2 slots) e2; omega) hd (fun q cA H1 hK1 hP1 hD1 hS1 => ?_)
  have f1 := tyK hK htys hto
  have f2 := tyK hK1 (i := (tysG G).length) (by rw [List.getElem?_append_right (Nat.le_refl _), Nat.sub_self]; rfl) hto
  have e : cA = gC G i := Option.some.inj (f2.symm.trans f1)
  subst e
  exact W.widen (Nat.le_of_eq (by omega)) (Nat.le_of_eq (by omega)) (k q H1 locs ls hP1 hD1 hS1 hl)
theorem v_newo (C : CN G K cc own nl fr lo mc ms) {Cn : String} {T : u_T} {N ci index : Nat} (hin : ∀ x ∈ u_ws Cn T N, x ∈ wsL_law) (ty0 : Nat → FieldType) (hty : ∀ k, k < N → parseFieldDescriptor (T k).2.2.1 = some (ty0 k)) (hcl : Cond.classLink own index Cn ∈ wsL_law) (hinst : Cond.instantiable Cn N ∈ wsL_law) (hini : Cond.initialized Cn ∈ wsL_law) (hcc : vwCl[ci]? = some (Cn, T, N)) {fs : List Value} (hfs : ∀ j, j < N → defaultValue (ty0 j) = vp_V fs j) (ha : a + 1 = a') (hb' : b + N = b') (h1 : a' ≤ mc) (h2 : b' ≤ ms) (hd : decode cc pc = .ok (.new index, 3)) (k : ∀ q : Nat, V G (kb K a' b') (w ++ [(q, .inr (ci, fs))]) (pc + 3) lv (.ref q :: rest)) : V G (kb K a b) w pc lv rest := by
  obtain ⟨p, l, e, R, s, m, args, below, meth, c, Q, cells, slots, nL⟩ := K
  obtain ⟨⟨hx, hb, hml, hown, hts, hlk, hK, hst, hN, hfr, hlo, hc, hs, rfl⟩, e1, e2, e3⟩ := C
  subst ha hb'
  intro H locs ls hP hD hS hl
  exact va_new hx hb hts hin ty0 hty hown (hts _ hcl) (hts _ hinst) (hts _ hini) hK hP hD hS hN hcc hfs (by have := Nat.le_trans (Nat.add_le_add_left h1 cells) e1; omega) (by have := Nat.le_trans (Nat.add_le_add_left h2 slots) e2; omega) hd (fun q H1 hP1 hD1 hS1 => W.widen (Nat.le_of_eq (by omega)) (Nat.le_of_eq (by omega)) (k q H1 locs ls hP1 hD1 hS1 hl))
theorem v_putF (C : Ctx G K cc own nl fr lo) (hi : kin K) {x ci : Nat} {fs : List Value} {Cn : String} {T : u_T} {N index : Nat} (q0 : Nat) (he : w[q0]? = some (x, .inr (ci, fs))) (hcl : vwCl[ci]? = some (Cn, T, N)) (hin : ∀ x ∈ u_ws Cn T N, x ∈ wsL_law) (ty0 : Nat → FieldType) (hty : ∀ k, k < N → parseFieldDescriptor (T k).2.2.1 = some (ty0 k)) (hnm : ∀ a, a < N → ∀ b, b < N → a ≠ b → (T a).2.1 ≠ (T b).2.1) (j : Nat) (hj : j < N) (hT : (T j).1 = Cn) (hq : Cond.fieldLink own index Cn (T j).2.1 (T j).2.2.1 ∈ wsL_law) (hfin : (T j).2.2.2 = true) (ho : (T j).1 = own) {v : Value} (hn : narrow (ty0 j) v = v) (hfit : fits (ty0 j) v = true) (hlen : j < fs.length) (hset : w.set q0 (x, .inr (ci, fs.set j v)) = w') (hd : decode cc pc = .ok (.putfield index, 3)) (k : V G K w' (pc + 3) lv rest) : V G K w pc lv (v :: .ref x :: rest) := by
  obtain ⟨p, l, e, R, s, m, args, below, meth, c, Q, cells, slots, nL⟩ := K
  obtain ⟨hx, hb, hml, hown, hts, hlk, hK, hst, hN, hfr, hlo, hc, hs, rfl⟩ := C
  intro H locs ls hP hD hS hl
  subst hset
  exact va_putF (D := G.1) hx hb hts hin ty0 hty hnm hown hK hP hD hS q0 he hcl j hj (hts _ hq) (fun _ h => by rw [hT] at h; exact h) hfin hi ho (hty j hj) hn hfit hlen hd (fun H locs hP hD hS => k H locs ls hP hD hS hl)
theorem v_newq (C : CN G K cc own nl fr lo mc ms) {index : Nat} {n : Int32} {N : Nat} (hcl : Cond.classLink own index "TreeClimb$Moment" ∈ wsL_law) (hn : ¬ n < 0) (hNN : n.toNatClampNeg = N) (hby : N * 4 ≤ 536870912) (ha : a + 1 = a') (hb' : b + N = b') (h1 : a' ≤ mc) (h2 : b' ≤ ms) (hd : decode cc pc = .ok (.anewarray index, 3)) (k : ∀ q : Nat, V G (kb K a' b') (w ++ [(q, .inl (gC G 4, N, .inr (.inr (.inr (.inr (fun _ => none))))))]) (pc + 3) lv (.ref q :: rest)) : V G (kb K a b) w pc lv (.int n :: rest) := by
  obtain ⟨p, l, e, R, s, m, args, below, meth, c, Q, cells, slots, nL⟩ := K
  obtain ⟨⟨hx, hb, hml, hown, hts, hlk, hK, hst, hN, hfr, hlo, hc, hs, rfl⟩, e1, e2, e3⟩ := C
  subst ha hb'
  intro H locs ls hP hD hS hl
  refine va_newq hx hb hown (hts _ hcl) e3.2.2.1 hK hP hD hS hN hn hNN hby (by have := Nat.le_trans (Nat.add_le_add_left h1 cells) e1; omega) (by have := Nat.le_trans (Nat.add_le_add_left h2 slots) e2; omega) hd (fun q cA H1 hK1 hP1 hD1 hS1 => ?_)
  obtain ⟨kA, comp, f1, f2, f3, f4⟩ := (hK.2 4 _ rfl).2
  obtain ⟨kA', comp', f1', f2', f3', f4'⟩ := (hK1.2 (tysG G).length (cA, .object "TreeClimb$Moment") (by rw [List.getElem?_append_right (Nat.le_refl _), Nat.sub_self]; rfl)).2
  have e : cA = gC G 4 := Option.some.inj (f4'.symm.trans f4)
  subst e
  exact W.widen (Nat.le_of_eq (by omega)) (Nat.le_of_eq (by omega)) (k q H1 locs ls hP1 hD1 hS1 hl)
theorem v_astq (C : Ctx G K cc own nl fr lo) (q0 qk ci : Nat) {r : vw_C} {x v n : Nat} {vs : List Value} {f : Nat → Option Nat} (he : w[q0]? = some (x, .inl (gC G 4, n, .inr (.inr (.inr (.inr f)))))) (hr : r.1 = "TreeClimb$Moment") (hv : w[qk]? = some (v, .inr (ci, vs))) (hcc : vwCl[ci]? = some r) {i : Int32} (hi : inb i n) (hset : w.set q0 (x, .inl (gC G 4, n, .inr (.inr (.inr (.inr (va_up f i.toNatClampNeg (some v))))))) = w') (hd : decode cc pc = .ok (.aastore, 1)) (k : V G K w' (pc + 1) lv rest) : V G K w pc lv (.ref v :: .int i :: .ref x :: rest) := by
  obtain ⟨p, l, e, R, s, m, args, below, meth, c, Q, cells, slots, nL⟩ := K
  obtain ⟨hx, hb, hml, hown, hts, hlk, hK, hst, hN, hfr, hlo, hc, hs, rfl⟩ := C
  intro H locs ls hP hD hS hl
  subst hset
  exact va_astq (D := G.1) hx hb hK hP hD hS q0 4 qk ci (r := r) he (by rw [hr]; rfl) hv hcc (inb_vp hi) hd (fun H1 locs1 hP1 hD1 hS1 => k H1 locs1 ls hP1 hD1 hS1 hl)
end MAKE
section MAKE
variable {G : GT} {K : KT} {cc : ByteArray} {own : String} {nl fr lo mc ms a b a' b' : Nat} {w w' : va_W} {pc : Nat} {lv lv' : List (Nat × Value)} {rest st : List Value}
theorem nI_name : ("[" ++ FieldType.int.toString) = "[I" := by decide +kernel
theorem v_clone0 (C : CN G K cc own nl fr lo mc ms) {index : Nat} (h0 : Cond.methodLink own index ⟨"[I", "clone", "()Ljava/lang/Object;"⟩ ∈ wsL_law) (hfr1 : 1 ≤ fr) (hlo1 : (rest.map fun v => v.category).sum + 14 ≤ lo) (ha : a + 1 = a') (hb' : b + 6 = b') (h1 : a' ≤ mc) (h2 : b' ≤ ms) (hd : decode cc pc = .ok (.invokevirtual index, 3)) (k : ∀ q : Nat, V G (kb K a' b') (w ++ [(q, .inl (gC G 0, 6, .inl (fun j => (tvl 0).getD j 0)))]) (pc + 3) lv (.ref q :: rest)) : V G (kb K a b) w pc lv (.ref (gT G 0) :: rest) := by
  obtain ⟨p, l, e, R, s, m, args, below, meth, c, Q, cells, slots, nL⟩ := K
  obtain ⟨⟨hx, hb, hml, hown, hts, hlk, hK, hst, hN, hfr, hlo, hc, hs, rfl⟩, e1, e2, ⟨cell, c1, c2, c3, c4, c5, c6, c7⟩, e4, -⟩ := C
  subst ha hb'
  have ec : cell.cls = gC G 0 := by
    have h := tyK hK (i := 0) (c := gC G 0) (t := .int) rfl (fun C h => by cases h)
    rw [nI_name, c4] at h
    exact Option.some.inj h
  have es : cell.slots = (arrV (gC G 0) 6 (fun j => .int ((tvl 0).getD j 0))).slots := by
    apply Array.ext_getElem?
    intro i
    by_cases hi : i < 6
    · rw [c6 i hi, arrV_read _ _ hi]
    · rw [Array.getElem?_eq_none (by rw [c5]; omega), Array.getElem?_eq_none (by rw [arrV_size]; omega)]
  have eC : ({ cls := cell.cls, slots := cell.slots } : Cell) = vp_cell (gC G 0) (6, .inl (fun j => (tvl 0).getD j 0)) := by
    rw [ec, es]; rfl
  obtain ⟨c0, t0', f1, f2, f3⟩ := Cond.castable_spec (va_Nw.use (A := args) rfl e4)
  cases c4.symm.trans f1
  intro H locs ls hP hD hS hl
  intro T hT X
  have hcellT : T.heap[gT G 0]? = some cell := by rw [hT, hS.2.1 _ (Array.getElem?_eq_some_iff.mp c1).1 c7]; exact c1
  obtain ⟨-, kA, hkA, comp, hkind⟩ := State.isArrayOf_alike X.warmed.alike ((hK.2 0 _ rfl).1 0 (fun _ => .null))
  obtain ⟨-, kS, hkS, compS, hkindS⟩ := (hK.2 0 _ rfl).1 0 (fun _ => .null)
  obtain ⟨vm', X', stp⟩ := X.cloneArray hx hown (hts _ h0) (hts _ mw_15) (hts _ mw_16) (hts _ mw_17) (hts _ mw_18) (a := gT G 0) (cell := cell) hcellT (fun k h => by rw [h] at c3; cases c3) c2 c4 f2 f3
    (fun i v hv => by
      have hi : i < 6 := by rw [← c5]; exact (Array.getElem?_eq_some_iff.mp hv).1
      rw [c6 i hi] at hv
      cases hv
      rw [ec]
      have hk' : T.vm.classes[gC G 0]? = some kA := hkA
      simp [State.fitsSlot, State.slotType?, hk', hkind, fits])
    (g := F0 m pc ls (.ref (gT G 0) :: rest)) rfl (by rw [hml]; exact hl.1) rfl (by rw [hb]; exact hd) (Nat.le_trans hfr1 hfr) (by show 2 * 0 + _ + 14 ≤ _; exact Nat.le_trans (by omega) hlo) (by have := Nat.le_trans (Nat.add_le_add_left h1 cells) e1; omega) (by rw [c5]; have := Nat.le_trans (Nat.add_le_add_left h2 slots) e2; omega) (hloader := by rw [ec]; exact Vm.clonesLoader_of_array hkS hkindS)
  rw [eC, c5] at X'
  generalize hH1 : H.push (vp_cell (gC G 0) (6, .inl (fun j => (tvl 0).getD j 0))) = H1
  have z1 : H1.size = H.size + 1 := by rw [← hH1, Array.size_push]
  have g1 : H1[H.size]? = some (vp_cell (gC G 0) (6, .inl (fun j => (tvl 0).getD j 0))) := by rw [← hH1, Array.getElem?_push_size]
  have o1 : ∀ q : Nat, q < H.size → H1[q]? = H[q]? := fun q hq => by rw [← hH1, Array.getElem?_push, if_neg (Nat.ne_of_lt hq)]
  have hk : ∀ (k : Nat) (y : Nat × va_E), w[k]? = some y → H1[y.1]? = H[y.1]? := fun k y hy => o1 y.1 ((hP k y hy).lt)
  obtain ⟨t, b1, b2⟩ := k H.size H1 locs ls ((hP.kept hk).app (fun k y hy => by
      have hz : k < 1 := (List.getElem?_eq_some_iff.mp hy).1
      rw [show k = 0 by omega] at hy
      cases hy
      exact g1)) (hD.push hP rfl (hN _ hS.1)) ⟨Nat.le_trans hS.1 (by omega), fun y h1 h2 => (o1 y (Nat.lt_of_lt_of_le h1 hS.1)).trans (hS.2.1 y h1 h2), hS.2.2⟩ hl
    ((T.setVm vm').pushCell (vp_cell (gC G 0) (6, .inl (fun j => (tvl 0).getD j 0)))) (by rw [← hH1, ← hT]; rfl) X'
  refine ⟨t, stp t ?_, b2⟩
  rw [eC, hT]
  exact b1
theorem v_castI (C : Ctx G K cc own nl fr lo) {index x : Nat} {z : vp_A} (q0 : Nat) (he : w[q0]? = some (x, .inl (gC G 0, z))) (hq : Cond.classLink own index "[I" ∈ wsL_law) (hd : decode cc pc = .ok (.checkcast index, 3)) (k : V G K w (pc + 3) lv (.ref x :: rest)) : V G K w pc lv (.ref x :: rest) := by
  obtain ⟨p, l, e, R, s, m, args, below, meth, c, Q, cells, slots, nL⟩ := K
  obtain ⟨hx, hb, hml, hown, hts, hlk, hK, hst, hN, hfr, hlo, hc, hs, rfl⟩ := C
  intro H locs ls hP hD hS hl
  have h := tyK hK (i := 0) (c := gC G 0) (t := .int) rfl (fun C h => by cases h)
  rw [nI_name] at h
  exact va_castA hx hb hown (hts _ hq) hP q0 he h hd (k H locs ls hP hD hS hl)
theorem nA_name : ("[" ++ (FieldType.array .int).toString) = "[[I" := by decide +kernel
theorem v_mna (C : CN G K cc own nl fr lo mc ms) {index : Nat} {n j : Int32} {N M : Nat} (hcl : Cond.classLink own index "[[I" ∈ wsL_law) (hn : ¬ n < 0) (hj : ¬ j < 0) (hNN : n.toNatClampNeg = N) (hMM : j.toNatClampNeg = M) (hb1 : N * 4 ≤ 536870912) (hb2 : M * 4 ≤ 536870912) (ha : a + (1 + N) = a') (hb' : b + (N + N * M) = b') (h1 : a' ≤ mc) (h2 : b' ≤ ms) (hd : decode cc pc = .ok (.multianewarray index 2, 4)) (k : ∀ (q : Nat) (r : Nat → Nat), V G (kb K a' b') ((w ++ [(q, .inl (gC G 5, N, .inr (.inr (.inr (.inr (fun i => if i < N then some (r i) else none))))))]) ++ (List.range N).map (fun i => (r i, .inl (gC G 0, M, .inl (fun _ => 0))))) (pc + 4) lv (.ref q :: rest)) : V G (kb K a b) w pc lv (.int j :: .int n :: rest) := by
  obtain ⟨p, l, e, R, s, m, args, below, meth, c, Q, cells, slots, nL⟩ := K
  obtain ⟨⟨hx, hb, hml, hown, hts, hlk, hK, hst, hN, hfr, hlo, hc, hs, rfl⟩, e1, e2, e3⟩ := C
  subst ha hb'
  intro H locs ls hP hD hS hl
  have f0 := tyK hK (i := 0) (c := gC G 0) (t := .int) rfl (fun C h => by cases h)
  have f5 := tyK hK (i := 5) (c := gC G 5) (t := .array .int) rfl (fun C h => by cases h)
  have pl0 : va_pl [] (fun _ => (.inr (0, []) : va_E)) = [] := rfl
  refine va_mna (X := w) (L := []) (f := fun _ => (.inr (0, []) : va_E)) (ty := .int) (cy := gC G 0) (z := (M, .inl (fun _ => 0))) hx hb hown (by rw [nA_name]; exact hts _ hcl) e3.2.2.2 (hts _ mw_48) f0 hK (by rw [pl0, List.append_nil]; exact hP) (by rw [pl0, List.append_nil]; exact hD) hS hN hn hj hNN hMM hb1 hb2 (by omega) rfl rfl (by have := Nat.le_trans (Nat.add_le_add_left h1 cells) e1; omega) (by have := Nat.le_trans (Nat.add_le_add_left h2 slots) e2; omega) (fun c => arrV_new c M (.int 0)) hd (fun q r cA H1 hinj hnin hK1 hP1 hD1 hS1 => ?_)
  have f5' := tyK hK1 (i := (tysG G).length) (c := cA) (t := .array .int) (by rw [List.getElem?_append_right (Nat.le_refl _), Nat.sub_self]; rfl) (fun C h => by cases h)
  have e : cA = gC G 5 := Option.some.inj (f5'.symm.trans f5)
  subst e
  have ew : va_pl ([] ++ (List.range N).map r) (vr_up (fun _ => (.inr (0, []) : va_E)) ((List.range N).map r) (.inl (gC G 0, (M, .inl (fun _ => 0))))) = (List.range N).map (fun i => (r i, .inl (gC G 0, M, .inl (fun _ => 0)))) := by
    rw [List.nil_append]
    unfold va_pl
    rw [List.map_map]
    apply List.map_congr_left
    intro i hi
    show (r i, vr_up _ _ _ (r i)) = _
    rw [vr_up_in (List.mem_map.mpr ⟨i, hi, rfl⟩)]
  rw [ew] at hP1 hD1
  exact W.widen (Nat.le_of_eq (by omega)) (Nat.le_of_eq (by omega)) (k q r H1 locs ls hP1 hD1 hS1 hl)
/-- G with another free set -/
def gS (G : GT) (A : Nat → Prop) : GT := (G.1, A, G.2.2)
theorem Stat.nar {G : GT} {A : Nat → Prop} {U : State} {H : Heap} (h : Stat G U H) (hA : ∀ x, A x → gA G x) : Stat (gS G A) U H := by
  obtain ⟨h1, h2, h3, h4, h5, h6⟩ := h
  exact ⟨fun i hi => ⟨(h1 i hi).1.narrow hA, (h1 i hi).2.narrow hA⟩, h2.narrow hA, h3, h4.narrow hA, h5.narrow hA, h6⟩
theorem Ext.nar {G : GT} {A : Nat → Prop} {U : State} {H : Heap} (h : Ext G U H) (hA : ∀ x, A x → gA G x) : Ext (gS G A) U H := by
  obtain ⟨⟨cell, h1, h2, h3, h4, h5, h6, h7⟩, g⟩ := h
  exact ⟨⟨cell, h1, h2, h3, h4, h5, h6, fun q => h7 (hA _ q)⟩, g⟩
/-- a contract of a maker -/
def MC (G : GT) (l : Launch) (y : MethodName) (c : ByteArray) (n : Nat) (fr lo mc ms : Nat) (av : List Value) (w1 : va_W) (Φ : va_W → Prop) : Prop := Met l y (.code y c n none :: wsL_law) ({ frames := fr, cells := mc, slots := ms, locals := lo } : Room) (va_Pc av (fun U => PW G w1 U ∧ Ext G U U.heap)) (va_Qv (fun (w : va_W) => Φ w) (fun w t => PW G w t) (gA G)) mc ms (gA G)
theorem MC.start {l : Launch} {y : MethodName} {n : Nat} {av : List Value} {w1 : va_W} {Φ : va_W → Prop} (hy : plainName y.cls = true) (hyn : y.name = "<init>") (hn : (lg_sl av).length ≤ n) (h : ∀ K : KT, K.2.1 = l → kin K → CN G K cc y.cls n fr lo mc ms → (∀ (w : va_W) (pc : Nat) (lv : List (Nat × Value)), Φ w → decode cc pc = .ok (.return_, 1) → V G (kb K mc ms) w pc lv []) → V G (kb K 0 0) w1 0 (lv_args 0 av) []) : MC G l y cc n fr lo mc ms av w1 Φ := by
  refine Met.ofW (cc := cc) (maxL := n) (ret := none) hy rfl ?_
  intro p e s m args below meth c s₁ B hml hv
  obtain ⟨rfl, ⟨hN, hP, hK, hD, hst⟩, hext⟩ := hv
  have hts := atoms_spec (ws := .code y cc n none :: wsL_law) B.pre
  rw [lg_entry_eq]
  have hin : meth.name = "<init>" := (name_of_methodNamed B.named B.method).1.trans hyn
  have k := h (p, l, e, ({ frames := fr, cells := mc, slots := ms, locals := lo } : Room), s, m, av.toArray, below, meth, c, MQ below (va_Qv (fun (w : va_W) => Φ w) (fun w t => PW G w t) (gA G)) av.toArray s mc ms (gA G), 0, 0, n) rfl hin ⟨⟨B.exec, B.bytes, hml, findClass_of_methodNamed B.named, fun x hx => hts x (List.mem_cons_of_mem _ hx), B.notSynchronized, hK, hst, hN, Nat.le_refl _, Nat.le_refl _, Nat.zero_le _, Nat.zero_le _, rfl⟩, Nat.le_of_eq (Nat.zero_add _), Nat.le_of_eq (Nat.zero_add _), hext⟩ ?_
  · rw [kb_0] at k
    exact k s.heap [] _ hP hD va_S.rf (lv_entry av hn)
  · intro w pc lv hw hd H locs ls hP2 hD2 hS2 hl2
    have key := W.vret (Qc := va_Qv (fun (w : va_W) => Φ w) (fun w t => PW G w t) (gA G)) (p := p) (l := l) (e := e) (R := ({ frames := fr, cells := mc, slots := ms, locals := lo } : Room)) (args := av.toArray) (m := m) (below := below) (cells := mc) (slots := ms) (free := gA G) (ls := ls) B.exec B.bytes B.returns (fun t ht hW => ⟨⟨w, rfl, hw, by rw [ht]; exact gN.up hN hS2.1, by rw [ht]; exact hP2, va_K.moved hW.alike hK, hD2, by rw [ht]; exact hst.go hS2 hW⟩, hS2.F ht⟩) hS2.2.2 hd B.notSynchronized
    exact W.widen (Nat.le_of_eq (Nat.zero_add _)) (Nat.le_of_eq (Nat.zero_add _)) key
theorem Ext.pass {av : List Value} {w1 : va_W} {x : Array Value} {U : State} {g : JFrame} {mk : MethodId} (h : va_Pc av (fun U => PW G w1 U ∧ Ext G U U.heap) x U) : va_Pc av (fun U => PW G w1 U ∧ Ext G U U.heap) x (U.calling g mk x) := by
  obtain ⟨h0, hp, ⟨cell, h1, h2, h3, h4, h5, h6, h7⟩, g1, g2, g3⟩ := h
  exact ⟨h0, (PW.pass (G := G) (w := w1) (av := av) ⟨h0, hp⟩).2, ⟨cell, h1, h2, h3, h4, h5, h6, h7⟩, va_Nw.same rfl rfl g1, va_AO.moved (u := U) (U := U.calling g mk x) (Vm.Alike.refl U.vm) g2, va_AOA.moved (u := U) (U := U.calling g mk x) (Vm.Alike.refl U.vm) g3⟩
/-- a maker's cells beside the rest -/
theorem join1 {D : va_G} {A0 : Nat → Prop} {H H1 : Heap} {q : Nat} {e : va_E} {w2 : va_W} (hP : va_P D vwCl (w ++ [(q, e)]) H) (hD : va_D A0 (w ++ [(q, e)])) (hk : ∀ x : Nat, x < H.size → ¬ (x = q ∨ H.size ≤ x) → H1[x]? = H[x]?) (hP1 : va_P D vwCl w2 H1) (hD1 : va_D (fun x => x = q ∨ H.size ≤ x) w2) (hA : ∀ x, H.size ≤ x → A0 x) : va_P D vwCl (w ++ w2) H1 ∧ va_D A0 (w ++ w2) := by
  have hl : (w ++ [(q, e)])[w.length]? = some (q, e) := by rw [List.getElem?_append_right (Nat.le_refl _), Nat.sub_self]; rfl
  have aq : A0 q := hD.2 _ _ hl
  have ha : ∀ (i : Nat) (x : Nat × va_E), w[i]? = some x → (w ++ [(q, e)])[i]? = some x := fun i x hx => by rw [List.getElem?_append_left (List.getElem?_eq_some_iff.mp hx).1]; exact hx
  have hlt : ∀ (i : Nat) (x : Nat × va_E), w[i]? = some x → x.1 < H.size := fun i x hx => (hP i x (ha i x hx)).lt
  have hne : ∀ (i : Nat) (x : Nat × va_E), w[i]? = some x → x.1 ≠ q := fun i x hx he => by
    have := hD.1 i w.length _ _ (ha i x hx) hl he
    have := (List.getElem?_eq_some_iff.mp hx).1
    omega
  have hPw : va_P D vwCl w H := fun i x hx => hP i x (ha i x hx)
  refine ⟨(hPw.kept (fun i x hx => hk x.1 (hlt i x hx) (fun z => z.elim (hne i x hx) (fun z => Nat.not_le.mpr (hlt i x hx) z)))).app hP1, fun i j x y hi hj hxy => ?_, fun i x hx => ?_⟩
  · by_cases g1 : i < w.length <;> by_cases g2 : j < w.length
    · rw [List.getElem?_append_left g1] at hi
      rw [List.getElem?_append_left g2] at hj
      exact hD.1 i j x y (ha i x hi) (ha j y hj) hxy
    · rw [List.getElem?_append_left g1] at hi
      rw [List.getElem?_append_right (by omega)] at hj
      rcases hD1.2 _ _ hj with z | z
      · exact absurd (hxy.trans z) (hne i x hi)
      · exact absurd z (by rw [← hxy]; exact Nat.not_le.mpr (hlt i x hi))
    · rw [List.getElem?_append_right (by omega)] at hi
      rw [List.getElem?_append_left g2] at hj
      rcases hD1.2 _ _ hi with z | z
      · exact absurd (hxy.symm.trans z) (hne j y hj)
      · exact absurd z (by rw [hxy]; exact Nat.not_le.mpr (hlt j y hj))
    · rw [List.getElem?_append_right (by omega)] at hi hj
      have := hD1.1 _ _ x y hi hj hxy
      omega
  · by_cases g1 : i < w.length
    · rw [List.getElem?_append_left g1] at hx
      exact hD.2 i x (ha i x hx)
    · rw [List.getElem?_append_right (by omega)] at hx
      rcases hD1.2 _ _ hx with z | z
      · rw [z]; exact aq
      · exact hA _ z
theorem v_callN (C : CN G K cc own nl fr lo mc ms) {y : MethodName} {host : String} {bytes : ByteArray} {n fc lc mc' ms' index q : Nat} {e : va_E} {Φ : va_W → Prop} (hM : ∀ A : Nat → Prop, MC (gS G A) K.2.1 y bytes n fc lc mc' ms' [.ref q] [(q, e)] Φ) (hnst : (own, index, y, host) ∈ nestW) (h1 : Cond.instanceMethod y ∈ wsL_law) (h3 : Cond.initialized y.cls ∈ wsL_law) (h4 : Cond.code y bytes n none ∈ wsL_law) (hyn : y.name = "<init>") (hd : y.cls ≠ "java/lang/invoke/MethodHandle" ∧ y.cls ≠ "java/lang/invoke/VarHandle" ∧ (parseMethodDescriptor y.desc).map (fun d => d.parameters.length) = some 0) (hR : fc + 1 ≤ fr ∧ 8 + (n + 11) + lc ≤ lo) (hcat : (rest.map fun v => v.category).sum ≤ 8) (ha : a + mc' = a') (hb' : b + ms' = b') (ha1 : a' ≤ mc) (hb1 : b' ≤ ms) (hdg : decode cc pc = .ok (.invokespecial index, 3)) (k : ∀ w2 : va_W, Φ w2 → V G (kb K a' b') (w ++ w2) (pc + 3) lv rest) : V G (kb K a b) (w ++ [(q, e)]) pc lv (.ref q :: rest) := by
  obtain ⟨p, l, e0, R, s, m, args, below, meth, c, Q, cells, slots, nL⟩ := K
  obtain ⟨⟨hx, hb, hml, hown, hts, hlk, hK, hst, hN, hfr, hlo, hc, hs, rfl⟩, e1, e2, e3⟩ := C
  subst ha hb'
  intro H locs ls hP hD hS hl
  have hq : (w ++ [(q, e)])[w.length]? = some (q, e) := by rw [List.getElem?_append_right (Nat.le_refl _), Nat.sub_self]; rfl
  have hA : ∀ x, (x = q ∨ H.size ≤ x) → gA G x := fun x z => z.elim (fun z => by rw [z]; exact hD.2 _ _ hq) (fun z => hN x (Nat.le_trans hS.1 z))
  have hP0 : va_P G.1 vwCl [(q, e)] H := fun i x hx => by
    have hz : i < 1 := (List.getElem?_eq_some_iff.mp hx).1
    rw [show i = 0 by omega] at hx
    cases hx
    exact hP _ _ hq
  have hD0 : va_D (fun x => x = q ∨ H.size ≤ x) [(q, e)] := by
    refine ⟨fun i j x y hi hj _ => ?_, fun i x hx => ?_⟩
    · have z1 : i < 1 := (List.getElem?_eq_some_iff.mp hi).1
      have z2 : j < 1 := (List.getElem?_eq_some_iff.mp hj).1
      omega
    · have hz : i < 1 := (List.getElem?_eq_some_iff.mp hx).1
      rw [show i = 0 by omega] at hx
      cases hx
      exact Or.inl rfl
  refine va_callv (va_runIN (As := []) (rest := rest) (host := host) ⟨hx, hb, hml, hown, hts⟩ (hM (fun x => x = q ∨ H.size ≤ x)) ⟨va_cnB 0 hts (good_in (fun _ h => h) h4) rfl rfl rfl (hst.2.2.2.2.2 _ hnst) (hts _ h3) hd ⟨Nat.le_trans hR.1 hfr, Nat.le_trans hR.2 hlo⟩, hyn, hts _ h1⟩ ⟨fun a U g mk q => Ext.pass q, fun U hU hW => ⟨rfl, ⟨fun x z => by rw [hU] at z; exact Or.inr z, by rw [hU]; exact hP0, va_K.moved hW.alike hK, hD0, by rw [hU]; exact (hst.go hS hW).nar hA⟩, by rw [hU]; exact (e3.go hS hW).nar hA⟩⟩ rfl rfl hl.1 rfl (lv_room hcat) hdg ⟨by have := Nat.le_trans (Nat.add_le_add_left ha1 cells) e1; omega, by have := Nat.le_trans (Nat.add_le_add_left hb1 slots) e2; omega⟩) hS (fun x _ h => hA x h) (fun x h => hA x h) (fun u t H1 locs1 ht hvm hw hB hz1 hk1 hS1 => ?_)
  obtain ⟨hN1, hP1, hK1, hD1, hst1⟩ := hB
  rw [ht] at hP1
  obtain ⟨j1, j2⟩ := join1 hP hD hk1 hP1 hD1 (fun x z => hA x (Or.inr z))
  exact W.widen (Nat.le_of_eq (by omega)) (Nat.le_of_eq (by omega)) (k u hw H1 locs1 ls j1 j2 hS1 hl)
theorem v_callC (C : CN G K cc own nl fr lo mc ms) {y : MethodName} {bytes : ByteArray} {n fc lc mc' ms' index q : Nat} {e : va_E} {Φ : va_W → Prop} (hM : ∀ A : Nat → Prop, MC (gS G A) K.2.1 y bytes n fc lc mc' ms' [.ref q] [(q, e)] Φ) (h0 : Cond.methodLink own index y ∈ wsL_law) (h1 : Cond.instanceMethod y ∈ wsL_law) (h3 : Cond.initialized y.cls ∈ wsL_law) (h4 : Cond.code y bytes n none ∈ wsL_law) (hyn : y.name = "<init>") (hd : y.cls ≠ "java/lang/invoke/MethodHandle" ∧ y.cls ≠ "java/lang/invoke/VarHandle" ∧ (parseMethodDescriptor y.desc).map (fun d => d.parameters.length) = some 0) (hR : fc + 1 ≤ fr ∧ 8 + (n + 11) + lc ≤ lo) (hcat : (rest.map fun v => v.category).sum ≤ 8) (ha : a + mc' = a') (hb' : b + ms' = b') (ha1 : a' ≤ mc) (hb1 : b' ≤ ms) (hdg : decode cc pc = .ok (.invokespecial index, 3)) (k : ∀ w2 : va_W, Φ w2 → V G (kb K a' b') (w ++ w2) (pc + 3) lv rest) : V G (kb K a b) (w ++ [(q, e)]) pc lv (.ref q :: rest) := by
  obtain ⟨p, l, e0, R, s, m, args, below, meth, c, Q, cells, slots, nL⟩ := K
  obtain ⟨⟨hx, hb, hml, hown, hts, hlk, hK, hst, hN, hfr, hlo, hc, hs, rfl⟩, e1, e2, e3⟩ := C
  subst ha hb'
  intro H locs ls hP hD hS hl
  have hq : (w ++ [(q, e)])[w.length]? = some (q, e) := by rw [List.getElem?_append_right (Nat.le_refl _), Nat.sub_self]; rfl
  have hA : ∀ x, (x = q ∨ H.size ≤ x) → gA G x := fun x z => z.elim (fun z => by rw [z]; exact hD.2 _ _ hq) (fun z => hN x (Nat.le_trans hS.1 z))
  have hP0 : va_P G.1 vwCl [(q, e)] H := fun i x hx => by
    have hz : i < 1 := (List.getElem?_eq_some_iff.mp hx).1
    rw [show i = 0 by omega] at hx
    cases hx
    exact hP _ _ hq
  have hD0 : va_D (fun x => x = q ∨ H.size ≤ x) [(q, e)] := by
    refine ⟨fun i j x y hi hj _ => ?_, fun i x hx => ?_⟩
    · have z1 : i < 1 := (List.getElem?_eq_some_iff.mp hi).1
      have z2 : j < 1 := (List.getElem?_eq_some_iff.mp hj).1
      omega
    · have hz : i < 1 := (List.getElem?_eq_some_iff.mp hx).1
      rw [show i = 0 by omega] at hx
      cases hx
      exact Or.inl rfl
  refine va_callv (va_runI (As := []) (rest := rest) ⟨hx, hb, hml, hown, hts⟩ (hM (fun x => x = q ∨ H.size ≤ x)) ⟨callB_of 0 hts (good_in (fun _ h => h) h4) rfl rfl rfl (hts _ h3) (hts _ h0) hd ⟨Nat.le_trans hR.1 hfr, Nat.le_trans hR.2 hlo⟩, hyn, hts _ h1⟩ ⟨fun a U g mk q => Ext.pass q, fun U hU hW => ⟨rfl, ⟨fun x z => by rw [hU] at z; exact Or.inr z, by rw [hU]; exact hP0, va_K.moved hW.alike hK, hD0, by rw [hU]; exact (hst.go hS hW).nar hA⟩, by rw [hU]; exact (e3.go hS hW).nar hA⟩⟩ rfl rfl hl.1 rfl (lv_room hcat) hdg ⟨by have := Nat.le_trans (Nat.add_le_add_left ha1 cells) e1; omega, by have := Nat.le_trans (Nat.add_le_add_left hb1 slots) e2; omega⟩) hS (fun x _ h => hA x h) (fun x h => hA x h) (fun u t H1 locs1 ht hvm hw hB hz1 hk1 hS1 => ?_)
  obtain ⟨hN1, hP1, hK1, hD1, hst1⟩ := hB
  rw [ht] at hP1
  obtain ⟨j1, j2⟩ := join1 hP hD hk1 hP1 hD1 (fun x z => hA x (Or.inr z))
  exact W.widen (Nat.le_of_eq (by omega)) (Nat.le_of_eq (by omega)) (k u hw H1 locs1 ls j1 j2 hS1 hl)
end MAKE
theorem kin_kb {K : KT} {a b : Nat} (h : kin K) : kin (kb K a b) := by
  obtain ⟨p, l, e, R, s, m, args, below, meth, c, Q, cells, slots, nL⟩ := K
  exact h
