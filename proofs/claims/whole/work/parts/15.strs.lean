section STRS
variable {G : GT} {K : KT} {cc : ByteArray} {own : String} {nl fr lo : Nat} {w w' : va_W} {pc : Nat} {lv lv' : List (Nat × Value)} {rest st : List Value} {F : Prop}
theorem v_ldcw (C : Ctx G K cc own nl fr lo) {index : Nat} {v : Int32} (hq : Cond.constant own index v ∈ wsL_law) (hd : decode cc pc = .ok (.ldc_w index, 3)) (k : F → V G K w (pc + 3) lv (.int v :: st)) : F → V G K w pc lv st := by
  obtain ⟨p, l, e, R, s, m, args, below, meth, c, Q, cells, slots, nL⟩ := K
  obtain ⟨hx, hb, hml, hown, hts, hlk, hK, hst, hN, hfr, hlo, hc, hs, rfl⟩ := C
  intro hF H locs ls hP hD hS hl
  exact lv_ldcw hx hb hown (hts _ hq) hd (k hF H locs ls hP hD hS hl)
theorem v_slen (C : Ctx G K cc own nl fr lo) (i : Nat) (hi : i < 4) {index : Nat} (h0 : Cond.methodLink own index yJ0_length_8abf5 ∈ wsL_law) (hR : 2 ≤ fr ∧ 40 ≤ lo) (hcat : (rest.map fun v => v.category).sum ≤ 8) (hdg : decode cc pc = .ok (.invokevirtual index, 3)) (k : F → V G K w (pc + 3) lv (.int (nI (sLen.getD i 0)) :: rest)) : F → V G K w pc lv (.ref (gK G i) :: rest) := sorry
theorem v_sat (C : Ctx G K cc own nl fr lo) (t : Nat) (ht : t < 4) {index : Nat} {i : Int32} (h0 : Cond.methodLink own index yJ0_charAt_5068e ∈ wsL_law) (hR : 4 ≤ fr ∧ 128 ≤ lo) (hcat : (rest.map fun v => v.category).sum ≤ 8) {α : Type} {A : Option α} {Φ : α → Prop} [Decidable (inb i (sLen.getD t 0))] (hdg : decode cc pc = .ok (.invokevirtual index, 3)) (k : tp A Φ → V G K w (pc + 3) lv (.int ((sByt.getD t []).getD i.toNatClampNeg 0) :: rest)) : tp (gd (inb i (sLen.getD t 0)) A) Φ → V G K w pc lv (.int i :: .ref (gK G t) :: rest) := sorry
end STRS
