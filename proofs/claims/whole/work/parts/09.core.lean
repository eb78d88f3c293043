/-! THE CORE. KT: all that a frame of the machine stands in; GT: where things lie; V: from any heap that holds the world w, with these locals and this stack, W. -/
abbrev KT : Type := Program × Launch × Env × Room × State × MethodId × Array Value × List Frame × Method × Code × (State → Prop) × Nat × Nat × Nat
abbrev GT : Type := va_G × (Nat → Prop) × (Nat → Nat) × (Nat → Nat) × (Nat → ClassId) × (Nat → Nat) × (Nat → Nat) × (Nat → Nat)
abbrev gD (G : GT) : va_G := G.1
def gA (G : GT) : Nat → Prop := G.2.1
/-- all that is new is free -/
def gN (G : GT) (n : Nat) : Prop := ∀ q : Nat, n ≤ q → gA G q
theorem gN.up {G : GT} {a b : Nat} (h : gN G a) (k : a ≤ b) : gN G b := fun q z => h q (Nat.le_trans k z)
abbrev aX (G : GT) : Nat → Nat := G.2.2.1
abbrev aM (G : GT) : Nat → Nat := G.2.2.2.1
abbrev gC (G : GT) : Nat → ClassId := G.2.2.2.2.1
abbrev gT (G : GT) : Nat → Nat := G.2.2.2.2.2.1
abbrev gK (G : GT) : Nat → Nat := G.2.2.2.2.2.2.1
abbrev gV (G : GT) : Nat → Nat := G.2.2.2.2.2.2.2
def tysG (G : GT) : List (ClassId × FieldType) := [(gC G 0, .int), (gC G 1, .long), (gC G 2, .byte), (gC G 3, .boolean), (gC G 4, .object "TreeClimb$Moment"), (gC G 5, .array .int)]
def tabs : List (String × List Int32) := [("FIRST_TUNE", [3, 2, 2, 4, 3, 0]), ("LEAST_OF_BRANCH", [1, 0, 1, 0]), ("MOST_OF_BRANCH", [99, 7, 30, 10]), ("LEAST_OF_BODY", [1, 1, 0]), ("MOST_OF_BODY", [30, 99, 9]), ("LEAST_TUNE", [1, 0, 0, 0, 1, 0]), ("MOST_TUNE", [9, 4, 9, 10, 9, 20])]
def tnm (i : Nat) : String := (tabs.getD i ("", [])).1
def tvl (i : Nat) : List Int32 := (tabs.getD i ("", [])).2
def strs : List (String × Nat × List Int32) := [("branch", 55, [98, 114, 97, 110, 99, 104]), ("wet", 61, [119, 101, 116]), ("nest", 63, [110, 101, 115, 116]), ("body", 65, [98, 111, 100, 121])]
def sTx (i : Nat) : String := (strs.getD i ("", 0, [])).1
def sIx (i : Nat) : Nat := (strs.getD i ("", 0, [])).2.1
def sByt : List (List Int32) := strs.map fun x => x.2.2
def sLen : List Nat := sByt.map List.length
def nestW : List (String × Nat × MethodName × String) := [(RX5, 23, yX2_init, RX5), (RX5, 30, yX3_init, RX5), (RX5, 37, yX0_init, RX5), (RX5, 44, yX1_init, RX5), (RX5, 55, yX4_init, RX5), (RX3, 54, yX5_has, RX5)]
/-- what lies below: tables, strings, statics, links of nest mates -/
def Stat (G : GT) (U : State) (H : Heap) : Prop :=
  (∀ i : Nat, i < 7 → va_Z "TreeClimb" (tnm i) "[I" (.ref (gT G i)) (gA G) U H ∧ va_T .int (gT G i) (tvl i).length (fun j => .int ((tvl i).getD j 0)) (gA G) U H) ∧
  vk_S 4 sLen sByt (gK G) (gV G) (gA G) U H ∧
  (∀ i : Nat, i < 4 → vk_R "TreeClimb$Text" (sIx i) (sTx i) (gK G i) U) ∧
  va_Z "java/lang/String" "COMPACT_STRINGS" "Z" (.int 1) (gA G) U H ∧
  va_Zq "jdk/internal/util/Preconditions" "SIOOBE_FORMATTER" "Ljava/util/function/BiFunction;" (gA G) U H ∧
  ∀ x ∈ nestW, va_Nw (.methodLinkNest x.1 x.2.1 x.2.2.1 x.2.2.2) U
theorem Stat.go {G : GT} {s U : State} {H : Heap} {locs : List Loc} (h : Stat G s s.heap) (hS : va_S (gA G) s.heap H locs) (hW : s.WarmedH U.vm) : Stat G U H := by
  obtain ⟨h1, h2, h3, h4, h5, h6⟩ := h
  exact ⟨fun i hi => ⟨((h1 i hi).1.moved hW.alike).kept hS.2.1, ((h1 i hi).2.moved hW.alike).kept hS.2.1⟩, (h2.moved hW.alike).kept hS.2.1, fun i hi => (h3 i hi).warm hW, (h4.moved hW.alike).kept hS.2.1, (h5.moved hW.alike).kept hS.2.1, fun x hx => va_Nw.warmM hW (h6 x hx)⟩
/-- the picture of a world, of a state -/
def PW (G : GT) (w : va_W) (U : State) : Prop := gN G U.heap.size ∧ va_P G.1 vwCl w U.heap ∧ va_K G.1 vwCl (tysG G) U ∧ va_D (gA G) w ∧ Stat G U U.heap
def V (G : GT) (K : KT) (w : va_W) (pc : Nat) (lv : List (Nat × Value)) (st : List Value) : Prop :=
  match K with
  | (p, l, e, R, s, m, args, below, meth, c, Q, cells, slots, nL) => ∀ (H : Heap) (locs : List Loc) (ls : Array Slot), va_P G.1 vwCl w H → va_D (gA G) w → va_S (gA G) s.heap H locs → lv_has ls nL lv → W p l e R s m args below meth c H locs cells slots Q (F0 m pc ls st)
def Ctx (G : GT) (K : KT) (cc : ByteArray) (own : String) (nl fr lo : Nat) : Prop :=
  match K with
  | (p, _, _, R, s, m, args, _, meth, c, _, cells, slots, nL) => p.tables.exec = Jvm.exec ∧ c.code = cc ∧ c.maxLocals = nL ∧ s.vm.findClass own = some m.cls ∧ (∀ w ∈ wsL_law, w.before args s = true) ∧ meth.locks = false ∧ va_K G.1 vwCl (tysG G) s ∧ Stat G s s.heap ∧ gN G s.heap.size ∧ fr ≤ R.frames ∧ lo ≤ R.locals ∧ cells ≤ R.cells ∧ slots ≤ R.slots ∧ nL = nl
def tp {α : Type} (x : Option α) (Φ : α → Prop) : Prop := ∃ a, x = some a ∧ Φ a
theorem tp_some {α : Type} {a : α} {Φ : α → Prop} (h : Φ a) : tp (some a) Φ := ⟨a, rfl, h⟩
theorem tp_of {α : Type} {x : Option α} {a : α} {Φ : α → Prop} (hx : x = some a) (h : Φ a) : tp x Φ := ⟨a, hx, h⟩
theorem tp_eq {α : Type} {x y : Option α} {Φ : α → Prop} {X : Prop} (h : x = y) (k : tp y Φ → X) : tp x Φ → X := fun q => k (h ▸ q)
theorem tp_no {α : Type} {Φ : α → Prop} {X : Prop} : tp (none : Option α) Φ → X := fun ⟨_, h, _⟩ => by cases h
theorem tp_out {α : Type} {a : α} {Φ : α → Prop} {X : Prop} (k : Φ a → X) : tp (some a) Φ → X := fun ⟨_, h, q⟩ => by cases h; exact k q
/-- a name for a value -/
def lt {α β : Type} (a : α) (f : α → β) : β := f a
/-- a guard -/
def gd {α : Type} (c : Prop) [Decidable c] (x : Option α) : Option α := if c then x else none
/-- a call whose answer goes on -/
def bd {α β : Type} (x : Option α) (f : α → Option β) : Option β := match x with | some a => f a | none => none
def bd2 {α β γ : Type} (x : Option (α × β)) (f : α → β → Option γ) : Option γ := match x with | some a => f a.1 a.2 | none => none
def u2 {α β : Type} (Ψ : α → β → Prop) : α × β → Prop := fun o => Ψ o.1 o.2
/-- a loop with a way out by a return: .inl: it ends, .inr: it returns -/
def bdS {α ρ β : Type} (x : Option (α ⊕ ρ)) (f : α → Option β) (g : ρ → Option β) : Option β := match x with | some (.inl a) => f a | some (.inr r) => g r | none => none
def uS {α ρ : Type} (Ψ : α → Prop) (Φ : ρ → Prop) : α ⊕ ρ → Prop := fun o => match o with | .inl a => Ψ a | .inr r => Φ r
theorem r_bd {α β : Type} {x : Option α} {f : α → Option β} {Φ : β → Prop} {X : Prop} (k : tp x (fun a => tp (f a) Φ) → X) : tp (bd x f) Φ → X := by
  intro ⟨b, h, q⟩
  cases x with
  | none => cases h
  | some a => exact k ⟨a, rfl, b, h, q⟩
theorem r_bd2 {α β γ : Type} {x : Option (α × β)} {f : α → β → Option γ} {Φ : γ → Prop} {X : Prop} (k : tp x (u2 fun a b => tp (f a b) Φ) → X) : tp (bd2 x f) Φ → X := by
  intro ⟨b, h, q⟩
  cases x with
  | none => cases h
  | some a => exact k ⟨a, rfl, b, h, q⟩
theorem r_bdS {α ρ β : Type} {x : Option (α ⊕ ρ)} {f : α → Option β} {g : ρ → Option β} {Φ : β → Prop} {X : Prop} (k : tp x (uS (fun a => tp (f a) Φ) (fun r => tp (g r) Φ)) → X) : tp (bdS x f g) Φ → X := by
  intro ⟨b, h, q⟩
  cases x with
  | none => cases h
  | some a =>
    cases a with
    | inl a => exact k ⟨.inl a, rfl, b, h, q⟩
    | inr r => exact k ⟨.inr r, rfl, b, h, q⟩
theorem r_if {α : Type} {c : Prop} [Decidable c] {A B : Option α} {Φ : α → Prop} {X : Prop} (ka : c → tp A Φ → X) (kb : ¬ c → tp B Φ → X) : tp (if c then A else B) Φ → X := by
  intro h
  by_cases hc : c
  · rw [if_pos hc] at h; exact ka hc h
  · rw [if_neg hc] at h; exact kb hc h
theorem r_gd {α : Type} {c : Prop} [Decidable c] {A : Option α} {Φ : α → Prop} {X : Prop} (ka : c → tp A Φ → X) : tp (gd c A) Φ → X := by
  intro h
  unfold gd at h
  by_cases hc : c
  · rw [if_pos hc] at h; exact ka hc h
  · rw [if_neg hc] at h; exact tp_no h
theorem r_lt {α β : Type} {a : α} {f : α → Option β} {Φ : β → Prop} {X : α → Prop} (k : ∀ x, tp (f x) Φ → X x) : tp (lt a f) Φ → X a := fun h => k a h
theorem r_lj {α β : Type} {a : α} {f : α → Option β} {Φ : β → Prop} {X : Prop} {J : α → Prop} (hj : J a) (k : ∀ x, J x → tp (f x) Φ → X) : tp (lt a f) Φ → X := fun h => k a hj h

section ROWS
variable {G : GT} {K : KT} {cc : ByteArray} {own : String} {nl fr lo : Nat} {w w' : va_W} {pc : Nat} {lv lv' : List (Nat × Value)} {rest st : List Value} {F : Prop} {cells slots : Nat}

theorem v_iadd (C : Ctx G K cc own nl fr lo) {x y : Int32} (hd : decode cc pc = .ok (.iadd, 1)) (k : F → V G K w (pc + 1) lv (.int (x + y) :: rest)) : F → V G K w pc lv (.int y :: .int x :: rest) := by
  obtain ⟨p, l, e, R, s, m, args, below, meth, c, Q, cells, slots, nL⟩ := K
  obtain ⟨hx, hb, hml, hown, hts, hlk, hK, hst, hN, hfr, hlo, hc, hs, rfl⟩ := C
  intro hF H locs ls hP hD hS hl
  exact lv_iadd hx hb hd (k hF H locs ls hP hD hS hl)
theorem v_isub (C : Ctx G K cc own nl fr lo) {x y : Int32} (hd : decode cc pc = .ok (.isub, 1)) (k : F → V G K w (pc + 1) lv (.int (x - y) :: rest)) : F → V G K w pc lv (.int y :: .int x :: rest) := by
  obtain ⟨p, l, e, R, s, m, args, below, meth, c, Q, cells, slots, nL⟩ := K
  obtain ⟨hx, hb, hml, hown, hts, hlk, hK, hst, hN, hfr, hlo, hc, hs, rfl⟩ := C
  intro hF H locs ls hP hD hS hl
  exact lv_isub hx hb hd (k hF H locs ls hP hD hS hl)
theorem v_imul (C : Ctx G K cc own nl fr lo) {x y : Int32} (hd : decode cc pc = .ok (.imul, 1)) (k : F → V G K w (pc + 1) lv (.int (x * y) :: rest)) : F → V G K w pc lv (.int y :: .int x :: rest) := by
  obtain ⟨p, l, e, R, s, m, args, below, meth, c, Q, cells, slots, nL⟩ := K
  obtain ⟨hx, hb, hml, hown, hts, hlk, hK, hst, hN, hfr, hlo, hc, hs, rfl⟩ := C
  intro hF H locs ls hP hD hS hl
  exact lv_imul hx hb hd (k hF H locs ls hP hD hS hl)
theorem v_iand (C : Ctx G K cc own nl fr lo) {x y : Int32} (hd : decode cc pc = .ok (.iand, 1)) (k : F → V G K w (pc + 1) lv (.int (x &&& y) :: rest)) : F → V G K w pc lv (.int y :: .int x :: rest) := by
  obtain ⟨p, l, e, R, s, m, args, below, meth, c, Q, cells, slots, nL⟩ := K
  obtain ⟨hx, hb, hml, hown, hts, hlk, hK, hst, hN, hfr, hlo, hc, hs, rfl⟩ := C
  intro hF H locs ls hP hD hS hl
  exact lv_iand hx hb hd (k hF H locs ls hP hD hS hl)
theorem v_ior (C : Ctx G K cc own nl fr lo) {x y : Int32} (hd : decode cc pc = .ok (.ior, 1)) (k : F → V G K w (pc + 1) lv (.int (x ||| y) :: rest)) : F → V G K w pc lv (.int y :: .int x :: rest) := by
  obtain ⟨p, l, e, R, s, m, args, below, meth, c, Q, cells, slots, nL⟩ := K
  obtain ⟨hx, hb, hml, hown, hts, hlk, hK, hst, hN, hfr, hlo, hc, hs, rfl⟩ := C
  intro hF H locs ls hP hD hS hl
  exact lv_ior hx hb hd (k hF H locs ls hP hD hS hl)
theorem v_ixor (C : Ctx G K cc own nl fr lo) {x y : Int32} (hd : decode cc pc = .ok (.ixor, 1)) (k : F → V G K w (pc + 1) lv (.int (x ^^^ y) :: rest)) : F → V G K w pc lv (.int y :: .int x :: rest) := by
  obtain ⟨p, l, e, R, s, m, args, below, meth, c, Q, cells, slots, nL⟩ := K
  obtain ⟨hx, hb, hml, hown, hts, hlk, hK, hst, hN, hfr, hlo, hc, hs, rfl⟩ := C
  intro hF H locs ls hP hD hS hl
  exact lv_ixor hx hb hd (k hF H locs ls hP hD hS hl)
theorem v_ishl (C : Ctx G K cc own nl fr lo) {x y : Int32} (hd : decode cc pc = .ok (.ishl, 1)) (k : F → V G K w (pc + 1) lv (.int (x <<< (y &&& 31)) :: rest)) : F → V G K w pc lv (.int y :: .int x :: rest) := by
  obtain ⟨p, l, e, R, s, m, args, below, meth, c, Q, cells, slots, nL⟩ := K
  obtain ⟨hx, hb, hml, hown, hts, hlk, hK, hst, hN, hfr, hlo, hc, hs, rfl⟩ := C
  intro hF H locs ls hP hD hS hl
  exact lv_ishl hx hb hd (k hF H locs ls hP hD hS hl)
theorem v_ishr (C : Ctx G K cc own nl fr lo) {x y : Int32} (hd : decode cc pc = .ok (.ishr, 1)) (k : F → V G K w (pc + 1) lv (.int (x >>> (y &&& 31)) :: rest)) : F → V G K w pc lv (.int y :: .int x :: rest) := by
  obtain ⟨p, l, e, R, s, m, args, below, meth, c, Q, cells, slots, nL⟩ := K
  obtain ⟨hx, hb, hml, hown, hts, hlk, hK, hst, hN, hfr, hlo, hc, hs, rfl⟩ := C
  intro hF H locs ls hP hD hS hl
  exact lv_ishr hx hb hd (k hF H locs ls hP hD hS hl)
theorem v_idiv (C : Ctx G K cc own nl fr lo) {x y : Int32} (hd : decode cc pc = .ok (.idiv, 1)) (hne : ¬ y = 0) (k : F → V G K w (pc + 1) lv (.int (x / y) :: rest)) : F → V G K w pc lv (.int y :: .int x :: rest) := by
  obtain ⟨p, l, e, R, s, m, args, below, meth, c, Q, cells, slots, nL⟩ := K
  obtain ⟨hx, hb, hml, hown, hts, hlk, hK, hst, hN, hfr, hlo, hc, hs, rfl⟩ := C
  intro hF H locs ls hP hD hS hl
  exact lv_idiv hx hb hd hne (k hF H locs ls hP hD hS hl)
theorem v_irem (C : Ctx G K cc own nl fr lo) {x y : Int32} (hd : decode cc pc = .ok (.irem, 1)) (hne : ¬ y = 0) (k : F → V G K w (pc + 1) lv (.int (x - x / y * y) :: rest)) : F → V G K w pc lv (.int y :: .int x :: rest) := by
  obtain ⟨p, l, e, R, s, m, args, below, meth, c, Q, cells, slots, nL⟩ := K
  obtain ⟨hx, hb, hml, hown, hts, hlk, hK, hst, hN, hfr, hlo, hc, hs, rfl⟩ := C
  intro hF H locs ls hP hD hS hl
  exact lv_irem hx hb hd hne (k hF H locs ls hP hD hS hl)
theorem v_ladd (C : Ctx G K cc own nl fr lo) {x y : Int64} (hd : decode cc pc = .ok (.ladd, 1)) (k : F → V G K w (pc + 1) lv (.long (x + y) :: rest)) : F → V G K w pc lv (.long y :: .long x :: rest) := by
  obtain ⟨p, l, e, R, s, m, args, below, meth, c, Q, cells, slots, nL⟩ := K
  obtain ⟨hx, hb, hml, hown, hts, hlk, hK, hst, hN, hfr, hlo, hc, hs, rfl⟩ := C
  intro hF H locs ls hP hD hS hl
  exact lv_ladd hx hb hd (k hF H locs ls hP hD hS hl)
theorem v_lsub (C : Ctx G K cc own nl fr lo) {x y : Int64} (hd : decode cc pc = .ok (.lsub, 1)) (k : F → V G K w (pc + 1) lv (.long (x - y) :: rest)) : F → V G K w pc lv (.long y :: .long x :: rest) := by
  obtain ⟨p, l, e, R, s, m, args, below, meth, c, Q, cells, slots, nL⟩ := K
  obtain ⟨hx, hb, hml, hown, hts, hlk, hK, hst, hN, hfr, hlo, hc, hs, rfl⟩ := C
  intro hF H locs ls hP hD hS hl
  exact lv_lsub hx hb hd (k hF H locs ls hP hD hS hl)
theorem v_lmul (C : Ctx G K cc own nl fr lo) {x y : Int64} (hd : decode cc pc = .ok (.lmul, 1)) (k : F → V G K w (pc + 1) lv (.long (x * y) :: rest)) : F → V G K w pc lv (.long y :: .long x :: rest) := by
  obtain ⟨p, l, e, R, s, m, args, below, meth, c, Q, cells, slots, nL⟩ := K
  obtain ⟨hx, hb, hml, hown, hts, hlk, hK, hst, hN, hfr, hlo, hc, hs, rfl⟩ := C
  intro hF H locs ls hP hD hS hl
  exact lv_lmul hx hb hd (k hF H locs ls hP hD hS hl)
theorem v_land (C : Ctx G K cc own nl fr lo) {x y : Int64} (hd : decode cc pc = .ok (.land, 1)) (k : F → V G K w (pc + 1) lv (.long (x &&& y) :: rest)) : F → V G K w pc lv (.long y :: .long x :: rest) := by
  obtain ⟨p, l, e, R, s, m, args, below, meth, c, Q, cells, slots, nL⟩ := K
  obtain ⟨hx, hb, hml, hown, hts, hlk, hK, hst, hN, hfr, hlo, hc, hs, rfl⟩ := C
  intro hF H locs ls hP hD hS hl
  exact lv_land hx hb hd (k hF H locs ls hP hD hS hl)
theorem v_lor (C : Ctx G K cc own nl fr lo) {x y : Int64} (hd : decode cc pc = .ok (.lor, 1)) (k : F → V G K w (pc + 1) lv (.long (x ||| y) :: rest)) : F → V G K w pc lv (.long y :: .long x :: rest) := by
  obtain ⟨p, l, e, R, s, m, args, below, meth, c, Q, cells, slots, nL⟩ := K
  obtain ⟨hx, hb, hml, hown, hts, hlk, hK, hst, hN, hfr, hlo, hc, hs, rfl⟩ := C
  intro hF H locs ls hP hD hS hl
  exact lv_lor hx hb hd (k hF H locs ls hP hD hS hl)
theorem v_ldiv (C : Ctx G K cc own nl fr lo) {x y : Int64} (hd : decode cc pc = .ok (.ldiv, 1)) (hne : ¬ y = 0) (k : F → V G K w (pc + 1) lv (.long (x / y) :: rest)) : F → V G K w pc lv (.long y :: .long x :: rest) := by
  obtain ⟨p, l, e, R, s, m, args, below, meth, c, Q, cells, slots, nL⟩ := K
  obtain ⟨hx, hb, hml, hown, hts, hlk, hK, hst, hN, hfr, hlo, hc, hs, rfl⟩ := C
  intro hF H locs ls hP hD hS hl
  exact lv_ldiv hx hb hd hne (k hF H locs ls hP hD hS hl)
theorem v_lrem (C : Ctx G K cc own nl fr lo) {x y : Int64} (hd : decode cc pc = .ok (.lrem, 1)) (hne : ¬ y = 0) (k : F → V G K w (pc + 1) lv (.long (x - x / y * y) :: rest)) : F → V G K w pc lv (.long y :: .long x :: rest) := by
  obtain ⟨p, l, e, R, s, m, args, below, meth, c, Q, cells, slots, nL⟩ := K
  obtain ⟨hx, hb, hml, hown, hts, hlk, hK, hst, hN, hfr, hlo, hc, hs, rfl⟩ := C
  intro hF H locs ls hP hD hS hl
  exact lv_lrem hx hb hd hne (k hF H locs ls hP hD hS hl)
theorem v_ineg (C : Ctx G K cc own nl fr lo) {x : Int32} (hd : decode cc pc = .ok (.ineg, 1)) (k : F → V G K w (pc + 1) lv (.int (-x) :: rest)) : F → V G K w pc lv (.int x :: rest) := by
  obtain ⟨p, l, e, R, s, m, args, below, meth, c, Q, cells, slots, nL⟩ := K
  obtain ⟨hx, hb, hml, hown, hts, hlk, hK, hst, hN, hfr, hlo, hc, hs, rfl⟩ := C
  intro hF H locs ls hP hD hS hl
  exact lv_ineg hx hb hd (k hF H locs ls hP hD hS hl)
theorem v_iushr (C : Ctx G K cc own nl fr lo) {x y : Int32} (hd : decode cc pc = .ok (.iushr, 1)) (k : F → V G K w (pc + 1) lv (.int (x.toUInt32 >>> (y.toUInt32 &&& Int32.toUInt32 31)).toInt32 :: rest)) : F → V G K w pc lv (.int y :: .int x :: rest) := by
  obtain ⟨p, l, e, R, s, m, args, below, meth, c, Q, cells, slots, nL⟩ := K
  obtain ⟨hx, hb, hml, hown, hts, hlk, hK, hst, hN, hfr, hlo, hc, hs, rfl⟩ := C
  intro hF H locs ls hP hD hS hl
  exact lv_iushr hx hb hd rfl (k hF H locs ls hP hD hS hl)
theorem v_lushr (C : Ctx G K cc own nl fr lo) {x : Int64} {y : Int32} (hd : decode cc pc = .ok (.lushr, 1)) (k : F → V G K w (pc + 1) lv (.long (x.toUInt64 >>> (y.toInt64.toUInt64 &&& Int64.toUInt64 63)).toInt64 :: rest)) : F → V G K w pc lv (.int y :: .long x :: rest) := by
  obtain ⟨p, l, e, R, s, m, args, below, meth, c, Q, cells, slots, nL⟩ := K
  obtain ⟨hx, hb, hml, hown, hts, hlk, hK, hst, hN, hfr, hlo, hc, hs, rfl⟩ := C
  intro hF H locs ls hP hD hS hl
  exact lv_lushr hx hb hd rfl (k hF H locs ls hP hD hS hl)
theorem v_lshl (C : Ctx G K cc own nl fr lo) {x : Int64} {y : Int32} (hd : decode cc pc = .ok (.lshl, 1)) (k : F → V G K w (pc + 1) lv (.long (x <<< (y.toInt64 &&& 63)) :: rest)) : F → V G K w pc lv (.int y :: .long x :: rest) := by
  obtain ⟨p, l, e, R, s, m, args, below, meth, c, Q, cells, slots, nL⟩ := K
  obtain ⟨hx, hb, hml, hown, hts, hlk, hK, hst, hN, hfr, hlo, hc, hs, rfl⟩ := C
  intro hF H locs ls hP hD hS hl
  exact lv_lshl hx hb hd rfl (k hF H locs ls hP hD hS hl)
theorem v_lshr (C : Ctx G K cc own nl fr lo) {x : Int64} {y : Int32} (hd : decode cc pc = .ok (.lshr, 1)) (k : F → V G K w (pc + 1) lv (.long (x >>> (y.toInt64 &&& 63)) :: rest)) : F → V G K w pc lv (.int y :: .long x :: rest) := by
  obtain ⟨p, l, e, R, s, m, args, below, meth, c, Q, cells, slots, nL⟩ := K
  obtain ⟨hx, hb, hml, hown, hts, hlk, hK, hst, hN, hfr, hlo, hc, hs, rfl⟩ := C
  intro hF H locs ls hP hD hS hl
  exact lv_lshr hx hb hd rfl (k hF H locs ls hP hD hS hl)
theorem v_i2l (C : Ctx G K cc own nl fr lo) {x : Int32} (hd : decode cc pc = .ok (.i2l, 1)) (k : F → V G K w (pc + 1) lv (.long x.toInt64 :: rest)) : F → V G K w pc lv (.int x :: rest) := by
  obtain ⟨p, l, e, R, s, m, args, below, meth, c, Q, cells, slots, nL⟩ := K
  obtain ⟨hx, hb, hml, hown, hts, hlk, hK, hst, hN, hfr, hlo, hc, hs, rfl⟩ := C
  intro hF H locs ls hP hD hS hl
  exact lv_i2l hx hb hd rfl (k hF H locs ls hP hD hS hl)
theorem v_l2i (C : Ctx G K cc own nl fr lo) {x : Int64} (hd : decode cc pc = .ok (.l2i, 1)) (k : F → V G K w (pc + 1) lv (.int x.toInt32 :: rest)) : F → V G K w pc lv (.long x :: rest) := by
  obtain ⟨p, l, e, R, s, m, args, below, meth, c, Q, cells, slots, nL⟩ := K
  obtain ⟨hx, hb, hml, hown, hts, hlk, hK, hst, hN, hfr, hlo, hc, hs, rfl⟩ := C
  intro hF H locs ls hP hD hS hl
  exact lv_l2i hx hb hd rfl (k hF H locs ls hP hD hS hl)
theorem v_i2b (C : Ctx G K cc own nl fr lo) {x : Int32} (hd : decode cc pc = .ok (.i2b, 1)) (k : F → V G K w (pc + 1) lv (.int x.toInt8.toInt32 :: rest)) : F → V G K w pc lv (.int x :: rest) := by
  obtain ⟨p, l, e, R, s, m, args, below, meth, c, Q, cells, slots, nL⟩ := K
  obtain ⟨hx, hb, hml, hown, hts, hlk, hK, hst, hN, hfr, hlo, hc, hs, rfl⟩ := C
  intro hF H locs ls hP hD hS hl
  exact lv_i2b hx hb hd rfl (k hF H locs ls hP hD hS hl)
theorem v_i2c (C : Ctx G K cc own nl fr lo) {x : Int32} (hd : decode cc pc = .ok (.i2c, 1)) (k : F → V G K w (pc + 1) lv (.int (x.toUInt32 % 65536).toInt32 :: rest)) : F → V G K w pc lv (.int x :: rest) := by
  obtain ⟨p, l, e, R, s, m, args, below, meth, c, Q, cells, slots, nL⟩ := K
  obtain ⟨hx, hb, hml, hown, hts, hlk, hK, hst, hN, hfr, hlo, hc, hs, rfl⟩ := C
  intro hF H locs ls hP hD hS hl
  exact lv_i2c hx hb hd rfl (k hF H locs ls hP hD hS hl)
theorem v_lcmp (C : Ctx G K cc own nl fr lo) {x y : Int64} (hd : decode cc pc = .ok (.lcmp, 1)) (k : F → V G K w (pc + 1) lv (.int (lg_cmp x y) :: rest)) : F → V G K w pc lv (.long y :: .long x :: rest) := by
  obtain ⟨p, l, e, R, s, m, args, below, meth, c, Q, cells, slots, nL⟩ := K
  obtain ⟨hx, hb, hml, hown, hts, hlk, hK, hst, hN, hfr, hlo, hc, hs, rfl⟩ := C
  intro hF H locs ls hP hD hS hl
  exact W.lcmp hx hb hd (k hF H locs ls hP hD hS hl)
theorem v_iconst (C : Ctx G K cc own nl fr lo) {n : Int} (v : Int32) (hd : decode cc pc = .ok (.iconst n, 1)) (hv : Int32.ofInt n = v) (k : F → V G K w (pc + 1) lv (.int v :: st)) : F → V G K w pc lv st := by
  obtain ⟨p, l, e, R, s, m, args, below, meth, c, Q, cells, slots, nL⟩ := K
  obtain ⟨hx, hb, hml, hown, hts, hlk, hK, hst, hN, hfr, hlo, hc, hs, rfl⟩ := C
  intro hF H locs ls hP hD hS hl
  exact lv_iconst hx hb hd hv (k hF H locs ls hP hD hS hl)
theorem v_bipush (C : Ctx G K cc own nl fr lo) {n : Int} (v : Int32) (hd : decode cc pc = .ok (.bipush n, 2)) (hv : (Int8.ofInt n).toInt32 = v) (k : F → V G K w (pc + 2) lv (.int v :: st)) : F → V G K w pc lv st := by
  obtain ⟨p, l, e, R, s, m, args, below, meth, c, Q, cells, slots, nL⟩ := K
  obtain ⟨hx, hb, hml, hown, hts, hlk, hK, hst, hN, hfr, hlo, hc, hs, rfl⟩ := C
  intro hF H locs ls hP hD hS hl
  exact lv_bipush hx hb hd hv (k hF H locs ls hP hD hS hl)
theorem v_sipush (C : Ctx G K cc own nl fr lo) {n : Int} (v : Int32) (hd : decode cc pc = .ok (.sipush n, 3)) (hv : (Int16.ofInt n).toInt32 = v) (k : F → V G K w (pc + 3) lv (.int v :: st)) : F → V G K w pc lv st := by
  obtain ⟨p, l, e, R, s, m, args, below, meth, c, Q, cells, slots, nL⟩ := K
  obtain ⟨hx, hb, hml, hown, hts, hlk, hK, hst, hN, hfr, hlo, hc, hs, rfl⟩ := C
  intro hF H locs ls hP hD hS hl
  exact lv_sipush hx hb hd hv (k hF H locs ls hP hD hS hl)
theorem v_lconst (C : Ctx G K cc own nl fr lo) {n : Fin 2} (v : Int64) (hd : decode cc pc = .ok (.lconst n, 1)) (hv : Int64.ofNat (n : Nat) = v) (k : F → V G K w (pc + 1) lv (.long v :: st)) : F → V G K w pc lv st := by
  obtain ⟨p, l, e, R, s, m, args, below, meth, c, Q, cells, slots, nL⟩ := K
  obtain ⟨hx, hb, hml, hown, hts, hlk, hK, hst, hN, hfr, hlo, hc, hs, rfl⟩ := C
  intro hF H locs ls hP hD hS hl
  exact lv_lconst hx hb hd hv (k hF H locs ls hP hD hS hl)
theorem v_ldc (C : Ctx G K cc own nl fr lo) {index : Nat} {v : Int32} (hq : Cond.constant own index v ∈ wsL_law) (hd : decode cc pc = .ok (.ldc index, 2)) (k : F → V G K w (pc + 2) lv (.int v :: st)) : F → V G K w pc lv st := by
  obtain ⟨p, l, e, R, s, m, args, below, meth, c, Q, cells, slots, nL⟩ := K
  obtain ⟨hx, hb, hml, hown, hts, hlk, hK, hst, hN, hfr, hlo, hc, hs, rfl⟩ := C
  intro hF H locs ls hP hD hS hl
  exact lv_ldc hx hb hown (hts _ hq) hd (k hF H locs ls hP hD hS hl)
theorem v_ldc2 (C : Ctx G K cc own nl fr lo) {index : Nat} {v : Int64} (hq : Cond.constantLong own index v ∈ wsL_law) (hd : decode cc pc = .ok (.ldc2_w index, 3)) (k : F → V G K w (pc + 3) lv (.long v :: st)) : F → V G K w pc lv st := by
  obtain ⟨p, l, e, R, s, m, args, below, meth, c, Q, cells, slots, nL⟩ := K
  obtain ⟨hx, hb, hml, hown, hts, hlk, hK, hst, hN, hfr, hlo, hc, hs, rfl⟩ := C
  intro hF H locs ls hP hD hS hl
  exact lv_ldc2 hx hb hown (hts _ hq) hd (k hF H locs ls hP hD hS hl)
theorem v_dup (C : Ctx G K cc own nl fr lo) {a : Value} (hd : decode cc pc = .ok (.dup, 1)) (ha : a.category = 1) (k : F → V G K w (pc + 1) lv (a :: a :: rest)) : F → V G K w pc lv (a :: rest) := by
  obtain ⟨p, l, e, R, s, m, args, below, meth, c, Q, cells, slots, nL⟩ := K
  obtain ⟨hx, hb, hml, hown, hts, hlk, hK, hst, hN, hfr, hlo, hc, hs, rfl⟩ := C
  intro hF H locs ls hP hD hS hl
  exact lv_dup hx hb hd ha (k hF H locs ls hP hD hS hl)
theorem v_pop (C : Ctx G K cc own nl fr lo) {a : Value} (hd : decode cc pc = .ok (.pop, 1)) (ha : a.category = 1) (k : F → V G K w (pc + 1) lv rest) : F → V G K w pc lv (a :: rest) := by
  obtain ⟨p, l, e, R, s, m, args, below, meth, c, Q, cells, slots, nL⟩ := K
  obtain ⟨hx, hb, hml, hown, hts, hlk, hK, hst, hN, hfr, hlo, hc, hs, rfl⟩ := C
  intro hF H locs ls hP hD hS hl
  exact lv_pop hx hb hd ha (k hF H locs ls hP hD hS hl)
theorem v_dup2 (C : Ctx G K cc own nl fr lo) {a b : Value} (hd : decode cc pc = .ok (.dup2, 1)) (ha : a.category = 1) (hb2 : b.category = 1) (k : F → V G K w (pc + 1) lv (a :: b :: a :: b :: rest)) : F → V G K w pc lv (a :: b :: rest) := by
  obtain ⟨p, l, e, R, s, m, args, below, meth, c, Q, cells, slots, nL⟩ := K
  obtain ⟨hx, hb, hml, hown, hts, hlk, hK, hst, hN, hfr, hlo, hc, hs, rfl⟩ := C
  intro hF H locs ls hP hD hS hl
  exact lv_dup2_11 hx hb hd ha hb2 (k hF H locs ls hP hD hS hl)
theorem v_dup_x1 (C : Ctx G K cc own nl fr lo) {a b : Value} (hd : decode cc pc = .ok (.dup_x1, 1)) (ha : a.category = 1) (hb2 : b.category = 1) (k : F → V G K w (pc + 1) lv (a :: b :: a :: rest)) : F → V G K w pc lv (a :: b :: rest) := by
  obtain ⟨p, l, e, R, s, m, args, below, meth, c, Q, cells, slots, nL⟩ := K
  obtain ⟨hx, hb, hml, hown, hts, hlk, hK, hst, hN, hfr, hlo, hc, hs, rfl⟩ := C
  intro hF H locs ls hP hD hS hl
  exact lv_dup_x1 hx hb hd ha hb2 (k hF H locs ls hP hD hS hl)
theorem v_iload_n (C : Ctx G K cc own nl fr lo) {kf : Fin 4} {x : Int32} (q : Nat) (hq : lv[q]? = some ((kf : Nat), .int x)) (hd : decode cc pc = .ok (.iload_n kf, 1)) (k : F → V G K w (pc + 1) lv (.int x :: st)) : F → V G K w pc lv st := by
  obtain ⟨p, l, e, R, s, m, args, below, meth, c, Q, cells, slots, nL⟩ := K
  obtain ⟨hx, hb, hml, hown, hts, hlk, hK, hst, hN, hfr, hlo, hc, hs, rfl⟩ := C
  intro hF H locs ls hP hD hS hl
  exact lv_iload_n hx hb hd rfl (lv_at hl q hq) (k hF H locs ls hP hD hS hl)
theorem v_iload (C : Ctx G K cc own nl fr lo) {i : Nat} {x : Int32} (q : Nat) (hq : lv[q]? = some (i, .int x)) (hd : decode cc pc = .ok (.iload i, 2)) (k : F → V G K w (pc + 2) lv (.int x :: st)) : F → V G K w pc lv st := by
  obtain ⟨p, l, e, R, s, m, args, below, meth, c, Q, cells, slots, nL⟩ := K
  obtain ⟨hx, hb, hml, hown, hts, hlk, hK, hst, hN, hfr, hlo, hc, hs, rfl⟩ := C
  intro hF H locs ls hP hD hS hl
  exact lv_iload hx hb hd (lv_at hl q hq) (k hF H locs ls hP hD hS hl)
theorem v_lload_n (C : Ctx G K cc own nl fr lo) {kf : Fin 4} {x : Int64} (q : Nat) (hq : lv[q]? = some ((kf : Nat), .long x)) (hd : decode cc pc = .ok (.lload_n kf, 1)) (k : F → V G K w (pc + 1) lv (.long x :: st)) : F → V G K w pc lv st := by
  obtain ⟨p, l, e, R, s, m, args, below, meth, c, Q, cells, slots, nL⟩ := K
  obtain ⟨hx, hb, hml, hown, hts, hlk, hK, hst, hN, hfr, hlo, hc, hs, rfl⟩ := C
  intro hF H locs ls hP hD hS hl
  exact lv_lload_n hx hb hd rfl (lv_at hl q hq) (k hF H locs ls hP hD hS hl)
theorem v_lload (C : Ctx G K cc own nl fr lo) {i : Nat} {x : Int64} (q : Nat) (hq : lv[q]? = some (i, .long x)) (hd : decode cc pc = .ok (.lload i, 2)) (k : F → V G K w (pc + 2) lv (.long x :: st)) : F → V G K w pc lv st := by
  obtain ⟨p, l, e, R, s, m, args, below, meth, c, Q, cells, slots, nL⟩ := K
  obtain ⟨hx, hb, hml, hown, hts, hlk, hK, hst, hN, hfr, hlo, hc, hs, rfl⟩ := C
  intro hF H locs ls hP hD hS hl
  exact lv_lload hx hb hd (lv_at hl q hq) (k hF H locs ls hP hD hS hl)
theorem v_aload_n (C : Ctx G K cc own nl fr lo) {kf : Fin 4} {x : Nat} (q : Nat) (hq : lv[q]? = some ((kf : Nat), .ref x)) (hd : decode cc pc = .ok (.aload_n kf, 1)) (k : F → V G K w (pc + 1) lv (.ref x :: st)) : F → V G K w pc lv st := by
  obtain ⟨p, l, e, R, s, m, args, below, meth, c, Q, cells, slots, nL⟩ := K
  obtain ⟨hx, hb, hml, hown, hts, hlk, hK, hst, hN, hfr, hlo, hc, hs, rfl⟩ := C
  intro hF H locs ls hP hD hS hl
  exact lv_aload_n hx hb hd rfl (lv_at hl q hq) (k hF H locs ls hP hD hS hl)
theorem v_aload (C : Ctx G K cc own nl fr lo) {i : Nat} {x : Nat} (q : Nat) (hq : lv[q]? = some (i, .ref x)) (hd : decode cc pc = .ok (.aload i, 2)) (k : F → V G K w (pc + 2) lv (.ref x :: st)) : F → V G K w pc lv st := by
  obtain ⟨p, l, e, R, s, m, args, below, meth, c, Q, cells, slots, nL⟩ := K
  obtain ⟨hx, hb, hml, hown, hts, hlk, hK, hst, hN, hfr, hlo, hc, hs, rfl⟩ := C
  intro hF H locs ls hP hD hS hl
  exact lv_aload hx hb hd (lv_at hl q hq) (k hF H locs ls hP hD hS hl)
theorem v_istore_n (C : Ctx G K cc own nl fr lo) {kf : Fin 4} {x : Int32} (hd : decode cc pc = .ok (.istore_n kf, 1)) (hn : (kf : Nat) < nl) (hl2 : ((kf : Nat), Value.int x) :: lv.filter (fun q => !(q.1 == (kf : Nat)) && !(q.1 + 1 == (kf : Nat) && q.2.category == 2)) = lv') (k : F → V G K w (pc + 1) lv' rest) : F → V G K w pc lv (.int x :: rest) := by
  obtain ⟨p, l, e, R, s, m, args, below, meth, c, Q, cells, slots, nL⟩ := K
  obtain ⟨hx, hb, hml, hown, hts, hlk, hK, hst, hN, hfr, hlo, hc, hs, rfl⟩ := C
  intro hF H locs ls hP hD hS hl
  exact lv_istore_n hx hb hd rfl hl hn hl2 (fun ls hl => (k hF H locs ls hP hD hS hl))
theorem v_istore (C : Ctx G K cc own nl fr lo) {i : Nat} {x : Int32} (hd : decode cc pc = .ok (.istore i, 2)) (hn : i < nl) (hl2 : (i, Value.int x) :: lv.filter (fun q => !(q.1 == i) && !(q.1 + 1 == i && q.2.category == 2)) = lv') (k : F → V G K w (pc + 2) lv' rest) : F → V G K w pc lv (.int x :: rest) := by
  obtain ⟨p, l, e, R, s, m, args, below, meth, c, Q, cells, slots, nL⟩ := K
  obtain ⟨hx, hb, hml, hown, hts, hlk, hK, hst, hN, hfr, hlo, hc, hs, rfl⟩ := C
  intro hF H locs ls hP hD hS hl
  exact lv_istore hx hb hd hl hn hl2 (fun ls hl => (k hF H locs ls hP hD hS hl))
theorem v_astore_n (C : Ctx G K cc own nl fr lo) {kf : Fin 4} {x : Nat} (hd : decode cc pc = .ok (.astore_n kf, 1)) (hn : (kf : Nat) < nl) (hl2 : ((kf : Nat), Value.ref x) :: lv.filter (fun q => !(q.1 == (kf : Nat)) && !(q.1 + 1 == (kf : Nat) && q.2.category == 2)) = lv') (k : F → V G K w (pc + 1) lv' rest) : F → V G K w pc lv (.ref x :: rest) := by
  obtain ⟨p, l, e, R, s, m, args, below, meth, c, Q, cells, slots, nL⟩ := K
  obtain ⟨hx, hb, hml, hown, hts, hlk, hK, hst, hN, hfr, hlo, hc, hs, rfl⟩ := C
  intro hF H locs ls hP hD hS hl
  exact lv_astore_n hx hb hd rfl hl hn hl2 (fun ls hl => (k hF H locs ls hP hD hS hl))
theorem v_astore (C : Ctx G K cc own nl fr lo) {i : Nat} {x : Nat} (hd : decode cc pc = .ok (.astore i, 2)) (hn : i < nl) (hl2 : (i, Value.ref x) :: lv.filter (fun q => !(q.1 == i) && !(q.1 + 1 == i && q.2.category == 2)) = lv') (k : F → V G K w (pc + 2) lv' rest) : F → V G K w pc lv (.ref x :: rest) := by
  obtain ⟨p, l, e, R, s, m, args, below, meth, c, Q, cells, slots, nL⟩ := K
  obtain ⟨hx, hb, hml, hown, hts, hlk, hK, hst, hN, hfr, hlo, hc, hs, rfl⟩ := C
  intro hF H locs ls hP hD hS hl
  exact lv_astore hx hb hd hl hn hl2 (fun ls hl => (k hF H locs ls hP hD hS hl))
theorem v_lstore_n (C : Ctx G K cc own nl fr lo) {kf : Fin 4} {x : Int64} (hd : decode cc pc = .ok (.lstore_n kf, 1)) (hn : (kf : Nat) + 1 < nl) (hl2 : ((kf : Nat), Value.long x) :: lv.filter (fun q => !(q.1 == (kf : Nat)) && (!(q.1 == (kf : Nat) + 1) && !(q.1 + 1 == (kf : Nat) && q.2.category == 2))) = lv') (k : F → V G K w (pc + 1) lv' rest) : F → V G K w pc lv (.long x :: rest) := by
  obtain ⟨p, l, e, R, s, m, args, below, meth, c, Q, cells, slots, nL⟩ := K
  obtain ⟨hx, hb, hml, hown, hts, hlk, hK, hst, hN, hfr, hlo, hc, hs, rfl⟩ := C
  intro hF H locs ls hP hD hS hl
  exact lv_lstore_n hx hb hd rfl hl hn hl2 (fun ls hl => (k hF H locs ls hP hD hS hl))
theorem v_lstore (C : Ctx G K cc own nl fr lo) {i : Nat} {x : Int64} (hd : decode cc pc = .ok (.lstore i, 2)) (hn : i + 1 < nl) (hl2 : (i, Value.long x) :: lv.filter (fun q => !(q.1 == i) && (!(q.1 == i + 1) && !(q.1 + 1 == i && q.2.category == 2))) = lv') (k : F → V G K w (pc + 2) lv' rest) : F → V G K w pc lv (.long x :: rest) := by
  obtain ⟨p, l, e, R, s, m, args, below, meth, c, Q, cells, slots, nL⟩ := K
  obtain ⟨hx, hb, hml, hown, hts, hlk, hK, hst, hN, hfr, hlo, hc, hs, rfl⟩ := C
  intro hF H locs ls hP hD hS hl
  exact lv_lstore hx hb hd hl hn hl2 (fun ls hl => (k hF H locs ls hP hD hS hl))
theorem v_iinc (C : Ctx G K cc own nl fr lo) {i : Nat} {n : Int} {x : Int32} (v : Int32) (q : Nat) (hd : decode cc pc = .ok (.iinc i n, 3)) (hq : lv[q]? = some (i, .int x)) (hv : Int32.ofInt n = v) (hn : i < nl) (hl2 : (i, Value.int (x + v)) :: lv.filter (fun q => !(q.1 == i) && !(q.1 + 1 == i && q.2.category == 2)) = lv') (k : F → V G K w (pc + 3) lv' st) : F → V G K w pc lv st := by
  obtain ⟨p, l, e, R, s, m, args, below, meth, c, Q, cells, slots, nL⟩ := K
  obtain ⟨hx, hb, hml, hown, hts, hlk, hK, hst, hN, hfr, hlo, hc, hs, rfl⟩ := C
  intro hF H locs ls hP hD hS hl
  exact lv_iinc hx hb hd hl hq (by rw [hv]) hn hl2 (fun ls hl => (k hF H locs ls hP hD hS hl))
theorem v_sub (ks : List Nat) (h : lv_pick lv ks = lv') (k : F → V G K w pc lv' st) : F → V G K w pc lv st := by
  obtain ⟨p, l, e, R, s, m, args, below, meth, c, Q, cells, slots, nL⟩ := K
  intro hF H locs ls hP hD hS hl
  exact k hF H locs ls hP hD hS (lv_sub hl ks h)
theorem v_goto (C : Ctx G K cc own nl fr lo) {off : Int} (tgt : Nat) (hd : decode cc pc = .ok (.goto off, 3)) (ht : (pc : Int) + off = (tgt : Int)) (k : F → V G K w tgt lv st) : F → V G K w pc lv st := by
  obtain ⟨p, l, e, R, s, m, args, below, meth, c, Q, cells, slots, nL⟩ := K
  obtain ⟨hx, hb, hml, hown, hts, hlk, hK, hst, hN, hfr, hlo, hc, hs, rfl⟩ := C
  intro hF H locs ls hP hD hS hl
  exact lv_goto hx hb hd ht (k hF H locs ls hP hD hS hl)
theorem ip {α : Type} {c : Prop} [Decidable c] {A B : Option α} {Φ : α → Prop} (h : c) (q : tp (if c then A else B) Φ) : tp A Φ := by rw [if_pos h] at q; exact q
theorem inn {α : Type} {c : Prop} [Decidable c] {A B : Option α} {Φ : α → Prop} (h : ¬ c) (q : tp (if c then A else B) Φ) : tp B Φ := by rw [if_neg h] at q; exact q
theorem n_le {x y : Int32} (h : y ≤ x) : ¬ x < y := Int32.not_lt.mpr h
theorem n_lt {x y : Int32} (h : y < x) : ¬ x ≤ y := Int32.not_le.mpr h
theorem n_nle {x y : Int32} (h : ¬ y ≤ x) : x < y := Int32.not_le.mp h
theorem n_nlt {x y : Int32} (h : ¬ y < x) : x ≤ y := Int32.not_lt.mp h
theorem v_if_eq (C : Ctx G K cc own nl fr lo) {x : Int32} {off : Int} (tgt : Nat) {α : Type} {A B : Option α} {Φ : α → Prop} [Decidable (x = 0)] (hd : decode cc pc = .ok (.ifCond .eq off, 3)) (ht : (pc : Int) + off = (tgt : Int)) (kp : tp A Φ → V G K w tgt lv rest) (kn : tp B Φ → V G K w (pc + 3) lv rest) : tp (if x = 0 then A else B) Φ → V G K w pc lv (.int x :: rest) := by
  obtain ⟨p, l, e, R, s, m, args, below, meth, c, Q, cells, slots, nL⟩ := K
  obtain ⟨hx, hb, hml, hown, hts, hlk, hK, hst, hN, hfr, hlo, hc, hs, rfl⟩ := C
  intro hF H locs ls hP hD hS hl
  exact lv_if_eq hx hb hd ht (fun h => kp (ip h hF) H locs ls hP hD hS hl) (fun h => kn (inn h hF) H locs ls hP hD hS hl)
theorem v_icmp_eq (C : Ctx G K cc own nl fr lo) {x y : Int32} {off : Int} (tgt : Nat) {α : Type} {A B : Option α} {Φ : α → Prop} [Decidable (x = y)] (hd : decode cc pc = .ok (.if_icmp .eq off, 3)) (ht : (pc : Int) + off = (tgt : Int)) (kp : tp A Φ → V G K w tgt lv rest) (kn : tp B Φ → V G K w (pc + 3) lv rest) : tp (if x = y then A else B) Φ → V G K w pc lv (.int y :: .int x :: rest) := by
  obtain ⟨p, l, e, R, s, m, args, below, meth, c, Q, cells, slots, nL⟩ := K
  obtain ⟨hx, hb, hml, hown, hts, hlk, hK, hst, hN, hfr, hlo, hc, hs, rfl⟩ := C
  intro hF H locs ls hP hD hS hl
  exact lv_icmp_eq hx hb hd ht (fun h => kp (ip h hF) H locs ls hP hD hS hl) (fun h => kn (inn h hF) H locs ls hP hD hS hl)
theorem v_if_ne (C : Ctx G K cc own nl fr lo) {x : Int32} {off : Int} (tgt : Nat) {α : Type} {A B : Option α} {Φ : α → Prop} [Decidable (x = 0)] (hd : decode cc pc = .ok (.ifCond .ne off, 3)) (ht : (pc : Int) + off = (tgt : Int)) (kp : tp A Φ → V G K w (pc + 3) lv rest) (kn : tp B Φ → V G K w tgt lv rest) : tp (if x = 0 then A else B) Φ → V G K w pc lv (.int x :: rest) := by
  obtain ⟨p, l, e, R, s, m, args, below, meth, c, Q, cells, slots, nL⟩ := K
  obtain ⟨hx, hb, hml, hown, hts, hlk, hK, hst, hN, hfr, hlo, hc, hs, rfl⟩ := C
  intro hF H locs ls hP hD hS hl
  exact lv_if_ne hx hb hd ht (fun h => kn (inn h hF) H locs ls hP hD hS hl) (fun h => kp (ip h hF) H locs ls hP hD hS hl)
theorem v_icmp_ne (C : Ctx G K cc own nl fr lo) {x y : Int32} {off : Int} (tgt : Nat) {α : Type} {A B : Option α} {Φ : α → Prop} [Decidable (x = y)] (hd : decode cc pc = .ok (.if_icmp .ne off, 3)) (ht : (pc : Int) + off = (tgt : Int)) (kp : tp A Φ → V G K w (pc + 3) lv rest) (kn : tp B Φ → V G K w tgt lv rest) : tp (if x = y then A else B) Φ → V G K w pc lv (.int y :: .int x :: rest) := by
  obtain ⟨p, l, e, R, s, m, args, below, meth, c, Q, cells, slots, nL⟩ := K
  obtain ⟨hx, hb, hml, hown, hts, hlk, hK, hst, hN, hfr, hlo, hc, hs, rfl⟩ := C
  intro hF H locs ls hP hD hS hl
  exact lv_icmp_ne hx hb hd ht (fun h => kn (inn h hF) H locs ls hP hD hS hl) (fun h => kp (ip h hF) H locs ls hP hD hS hl)
theorem v_if_lt (C : Ctx G K cc own nl fr lo) {x : Int32} {off : Int} (tgt : Nat) {α : Type} {A B : Option α} {Φ : α → Prop} [Decidable (x < 0)] (hd : decode cc pc = .ok (.ifCond .lt off, 3)) (ht : (pc : Int) + off = (tgt : Int)) (kp : tp A Φ → V G K w tgt lv rest) (kn : tp B Φ → V G K w (pc + 3) lv rest) : tp (if x < 0 then A else B) Φ → V G K w pc lv (.int x :: rest) := by
  obtain ⟨p, l, e, R, s, m, args, below, meth, c, Q, cells, slots, nL⟩ := K
  obtain ⟨hx, hb, hml, hown, hts, hlk, hK, hst, hN, hfr, hlo, hc, hs, rfl⟩ := C
  intro hF H locs ls hP hD hS hl
  exact lv_if_lt hx hb hd ht (fun h => kp (ip h hF) H locs ls hP hD hS hl) (fun h => kn (inn h hF) H locs ls hP hD hS hl)
theorem v_icmp_lt (C : Ctx G K cc own nl fr lo) {x y : Int32} {off : Int} (tgt : Nat) {α : Type} {A B : Option α} {Φ : α → Prop} [Decidable (x < y)] (hd : decode cc pc = .ok (.if_icmp .lt off, 3)) (ht : (pc : Int) + off = (tgt : Int)) (kp : tp A Φ → V G K w tgt lv rest) (kn : tp B Φ → V G K w (pc + 3) lv rest) : tp (if x < y then A else B) Φ → V G K w pc lv (.int y :: .int x :: rest) := by
  obtain ⟨p, l, e, R, s, m, args, below, meth, c, Q, cells, slots, nL⟩ := K
  obtain ⟨hx, hb, hml, hown, hts, hlk, hK, hst, hN, hfr, hlo, hc, hs, rfl⟩ := C
  intro hF H locs ls hP hD hS hl
  exact lv_icmp_lt hx hb hd ht (fun h => kp (ip h hF) H locs ls hP hD hS hl) (fun h => kn (inn h hF) H locs ls hP hD hS hl)
theorem v_if_ge (C : Ctx G K cc own nl fr lo) {x : Int32} {off : Int} (tgt : Nat) {α : Type} {A B : Option α} {Φ : α → Prop} [Decidable (x < 0)] (hd : decode cc pc = .ok (.ifCond .ge off, 3)) (ht : (pc : Int) + off = (tgt : Int)) (kp : tp A Φ → V G K w (pc + 3) lv rest) (kn : tp B Φ → V G K w tgt lv rest) : tp (if x < 0 then A else B) Φ → V G K w pc lv (.int x :: rest) := by
  obtain ⟨p, l, e, R, s, m, args, below, meth, c, Q, cells, slots, nL⟩ := K
  obtain ⟨hx, hb, hml, hown, hts, hlk, hK, hst, hN, hfr, hlo, hc, hs, rfl⟩ := C
  intro hF H locs ls hP hD hS hl
  exact lv_if_ge hx hb hd ht (fun h => kn (inn (n_le h) hF) H locs ls hP hD hS hl) (fun h => kp (ip (n_nle h) hF) H locs ls hP hD hS hl)
theorem v_icmp_ge (C : Ctx G K cc own nl fr lo) {x y : Int32} {off : Int} (tgt : Nat) {α : Type} {A B : Option α} {Φ : α → Prop} [Decidable (x < y)] (hd : decode cc pc = .ok (.if_icmp .ge off, 3)) (ht : (pc : Int) + off = (tgt : Int)) (kp : tp A Φ → V G K w (pc + 3) lv rest) (kn : tp B Φ → V G K w tgt lv rest) : tp (if x < y then A else B) Φ → V G K w pc lv (.int y :: .int x :: rest) := by
  obtain ⟨p, l, e, R, s, m, args, below, meth, c, Q, cells, slots, nL⟩ := K
  obtain ⟨hx, hb, hml, hown, hts, hlk, hK, hst, hN, hfr, hlo, hc, hs, rfl⟩ := C
  intro hF H locs ls hP hD hS hl
  exact lv_icmp_ge hx hb hd ht (fun h => kn (inn (n_le h) hF) H locs ls hP hD hS hl) (fun h => kp (ip (n_nle h) hF) H locs ls hP hD hS hl)
theorem v_if_gt (C : Ctx G K cc own nl fr lo) {x : Int32} {off : Int} (tgt : Nat) {α : Type} {A B : Option α} {Φ : α → Prop} [Decidable (x ≤ 0)] (hd : decode cc pc = .ok (.ifCond .gt off, 3)) (ht : (pc : Int) + off = (tgt : Int)) (kp : tp A Φ → V G K w (pc + 3) lv rest) (kn : tp B Φ → V G K w tgt lv rest) : tp (if x ≤ 0 then A else B) Φ → V G K w pc lv (.int x :: rest) := by
  obtain ⟨p, l, e, R, s, m, args, below, meth, c, Q, cells, slots, nL⟩ := K
  obtain ⟨hx, hb, hml, hown, hts, hlk, hK, hst, hN, hfr, hlo, hc, hs, rfl⟩ := C
  intro hF H locs ls hP hD hS hl
  exact lv_if_gt hx hb hd ht (fun h => kn (inn (n_lt h) hF) H locs ls hP hD hS hl) (fun h => kp (ip (n_nlt h) hF) H locs ls hP hD hS hl)
theorem v_icmp_gt (C : Ctx G K cc own nl fr lo) {x y : Int32} {off : Int} (tgt : Nat) {α : Type} {A B : Option α} {Φ : α → Prop} [Decidable (x ≤ y)] (hd : decode cc pc = .ok (.if_icmp .gt off, 3)) (ht : (pc : Int) + off = (tgt : Int)) (kp : tp A Φ → V G K w (pc + 3) lv rest) (kn : tp B Φ → V G K w tgt lv rest) : tp (if x ≤ y then A else B) Φ → V G K w pc lv (.int y :: .int x :: rest) := by
  obtain ⟨p, l, e, R, s, m, args, below, meth, c, Q, cells, slots, nL⟩ := K
  obtain ⟨hx, hb, hml, hown, hts, hlk, hK, hst, hN, hfr, hlo, hc, hs, rfl⟩ := C
  intro hF H locs ls hP hD hS hl
  exact lv_icmp_gt hx hb hd ht (fun h => kn (inn (n_lt h) hF) H locs ls hP hD hS hl) (fun h => kp (ip (n_nlt h) hF) H locs ls hP hD hS hl)
theorem v_if_le (C : Ctx G K cc own nl fr lo) {x : Int32} {off : Int} (tgt : Nat) {α : Type} {A B : Option α} {Φ : α → Prop} [Decidable (x ≤ 0)] (hd : decode cc pc = .ok (.ifCond .le off, 3)) (ht : (pc : Int) + off = (tgt : Int)) (kp : tp A Φ → V G K w tgt lv rest) (kn : tp B Φ → V G K w (pc + 3) lv rest) : tp (if x ≤ 0 then A else B) Φ → V G K w pc lv (.int x :: rest) := by
  obtain ⟨p, l, e, R, s, m, args, below, meth, c, Q, cells, slots, nL⟩ := K
  obtain ⟨hx, hb, hml, hown, hts, hlk, hK, hst, hN, hfr, hlo, hc, hs, rfl⟩ := C
  intro hF H locs ls hP hD hS hl
  exact lv_if_le hx hb hd ht (fun h => kp (ip h hF) H locs ls hP hD hS hl) (fun h => kn (inn h hF) H locs ls hP hD hS hl)
theorem v_icmp_le (C : Ctx G K cc own nl fr lo) {x y : Int32} {off : Int} (tgt : Nat) {α : Type} {A B : Option α} {Φ : α → Prop} [Decidable (x ≤ y)] (hd : decode cc pc = .ok (.if_icmp .le off, 3)) (ht : (pc : Int) + off = (tgt : Int)) (kp : tp A Φ → V G K w tgt lv rest) (kn : tp B Φ → V G K w (pc + 3) lv rest) : tp (if x ≤ y then A else B) Φ → V G K w pc lv (.int y :: .int x :: rest) := by
  obtain ⟨p, l, e, R, s, m, args, below, meth, c, Q, cells, slots, nL⟩ := K
  obtain ⟨hx, hb, hml, hown, hts, hlk, hK, hst, hN, hfr, hlo, hc, hs, rfl⟩ := C
  intro hF H locs ls hP hD hS hl
  exact lv_icmp_le hx hb hd ht (fun h => kp (ip h hF) H locs ls hP hD hS hl) (fun h => kn (inn h hF) H locs ls hP hD hS hl)
theorem lgc {x y : Int64} : lg_cmp x y = 1 ∧ y < x ∨ lg_cmp x y = 0 ∧ x = y ∨ lg_cmp x y = -1 ∧ x < y := by
  unfold lg_cmp
  by_cases h1 : x > y
  · rw [if_pos h1]; exact Or.inl ⟨rfl, h1⟩
  · rw [if_neg h1]
    by_cases h2 : x = y
    · rw [if_pos h2]; exact Or.inr (Or.inl ⟨rfl, h2⟩)
    · rw [if_neg h2]
      refine Or.inr (Or.inr ⟨rfl, ?_⟩)
      rw [Int64.lt_iff_toInt_lt]
      have h3 : ¬ y.toInt < x.toInt := fun h => h1 (Int64.lt_iff_toInt_lt.mpr h)
      have h4 : x.toInt ≠ y.toInt := fun h => h2 (Int64.toInt_inj.mp h)
      omega
theorem lgc_eq {x y : Int64} : lg_cmp x y = 0 ↔ x = y := by
  rcases lgc (x := x) (y := y) with ⟨h, q⟩ | ⟨h, q⟩ | ⟨h, q⟩
  · rw [h]; exact ⟨fun z => absurd z (by decide), fun z => by subst z; exact absurd q (Int64.lt_irrefl)⟩
  · rw [h]; exact ⟨fun _ => q, fun _ => rfl⟩
  · rw [h]; exact ⟨fun z => absurd z (by decide), fun z => by subst z; exact absurd q (Int64.lt_irrefl)⟩
theorem lgc_lt {x y : Int64} : lg_cmp x y < 0 ↔ x < y := by
  rcases lgc (x := x) (y := y) with ⟨h, q⟩ | ⟨h, q⟩ | ⟨h, q⟩
  · rw [h]; exact ⟨fun z => absurd z (by decide), fun z => absurd (Int64.lt_trans z q) Int64.lt_irrefl⟩
  · rw [h]; subst q; exact ⟨fun z => absurd z (by decide), fun z => absurd z Int64.lt_irrefl⟩
  · rw [h]; exact ⟨fun _ => q, fun _ => by decide⟩
theorem lgc_le {x y : Int64} : lg_cmp x y ≤ 0 ↔ x ≤ y := by
  rcases lgc (x := x) (y := y) with ⟨h, q⟩ | ⟨h, q⟩ | ⟨h, q⟩
  · rw [h]; exact ⟨fun z => absurd z (by decide), fun z => absurd q (Int64.not_lt.mpr z)⟩
  · rw [h]; subst q; exact ⟨fun _ => Int64.le_refl _, fun _ => by decide⟩
  · rw [h]; exact ⟨fun _ => Int64.le_of_lt q, fun _ => by decide⟩
theorem v_lcmp_eq (C : Ctx G K cc own nl fr lo) {x y : Int64} {off : Int} (tgt : Nat) {α : Type} {A B : Option α} {Φ : α → Prop} [Decidable (x = y)] (hd1 : decode cc pc = .ok (.lcmp, 1)) (hd : decode cc (pc + 1) = .ok (.ifCond .eq off, 3)) (ht : ((pc + 1 : Nat) : Int) + off = (tgt : Int)) (kp : tp A Φ → V G K w tgt lv rest) (kn : tp B Φ → V G K w (pc + 1 + 3) lv rest) : tp (if x = y then A else B) Φ → V G K w pc lv (.long y :: .long x :: rest) := by
  obtain ⟨p, l, e, R, s, m, args, below, meth, c, Q, cells, slots, nL⟩ := K
  obtain ⟨hx, hb, hml, hown, hts, hlk, hK, hst, hN, hfr, hlo, hc, hs, rfl⟩ := C
  intro hF H locs ls hP hD hS hl
  exact W.lcmp hx hb hd1 (lv_if_eq hx hb hd ht (fun h => kp (ip (lgc_eq.mp h) hF) H locs ls hP hD hS hl) (fun h => kn (inn (fun z => h (lgc_eq.mpr z)) hF) H locs ls hP hD hS hl))
theorem v_lcmp_ne (C : Ctx G K cc own nl fr lo) {x y : Int64} {off : Int} (tgt : Nat) {α : Type} {A B : Option α} {Φ : α → Prop} [Decidable (x = y)] (hd1 : decode cc pc = .ok (.lcmp, 1)) (hd : decode cc (pc + 1) = .ok (.ifCond .ne off, 3)) (ht : ((pc + 1 : Nat) : Int) + off = (tgt : Int)) (kp : tp A Φ → V G K w (pc + 1 + 3) lv rest) (kn : tp B Φ → V G K w tgt lv rest) : tp (if x = y then A else B) Φ → V G K w pc lv (.long y :: .long x :: rest) := by
  obtain ⟨p, l, e, R, s, m, args, below, meth, c, Q, cells, slots, nL⟩ := K
  obtain ⟨hx, hb, hml, hown, hts, hlk, hK, hst, hN, hfr, hlo, hc, hs, rfl⟩ := C
  intro hF H locs ls hP hD hS hl
  exact W.lcmp hx hb hd1 (lv_if_ne hx hb hd ht (fun h => kn (inn (fun z => h (lgc_eq.mpr z)) hF) H locs ls hP hD hS hl) (fun h => kp (ip (lgc_eq.mp h) hF) H locs ls hP hD hS hl))
theorem v_lcmp_lt (C : Ctx G K cc own nl fr lo) {x y : Int64} {off : Int} (tgt : Nat) {α : Type} {A B : Option α} {Φ : α → Prop} [Decidable (x < y)] (hd1 : decode cc pc = .ok (.lcmp, 1)) (hd : decode cc (pc + 1) = .ok (.ifCond .lt off, 3)) (ht : ((pc + 1 : Nat) : Int) + off = (tgt : Int)) (kp : tp A Φ → V G K w tgt lv rest) (kn : tp B Φ → V G K w (pc + 1 + 3) lv rest) : tp (if x < y then A else B) Φ → V G K w pc lv (.long y :: .long x :: rest) := by
  obtain ⟨p, l, e, R, s, m, args, below, meth, c, Q, cells, slots, nL⟩ := K
  obtain ⟨hx, hb, hml, hown, hts, hlk, hK, hst, hN, hfr, hlo, hc, hs, rfl⟩ := C
  intro hF H locs ls hP hD hS hl
  exact W.lcmp hx hb hd1 (lv_if_lt hx hb hd ht (fun h => kp (ip (lgc_lt.mp h) hF) H locs ls hP hD hS hl) (fun h => kn (inn (fun z => h (lgc_lt.mpr z)) hF) H locs ls hP hD hS hl))
theorem v_lcmp_ge (C : Ctx G K cc own nl fr lo) {x y : Int64} {off : Int} (tgt : Nat) {α : Type} {A B : Option α} {Φ : α → Prop} [Decidable (x < y)] (hd1 : decode cc pc = .ok (.lcmp, 1)) (hd : decode cc (pc + 1) = .ok (.ifCond .ge off, 3)) (ht : ((pc + 1 : Nat) : Int) + off = (tgt : Int)) (kp : tp A Φ → V G K w (pc + 1 + 3) lv rest) (kn : tp B Φ → V G K w tgt lv rest) : tp (if x < y then A else B) Φ → V G K w pc lv (.long y :: .long x :: rest) := by
  obtain ⟨p, l, e, R, s, m, args, below, meth, c, Q, cells, slots, nL⟩ := K
  obtain ⟨hx, hb, hml, hown, hts, hlk, hK, hst, hN, hfr, hlo, hc, hs, rfl⟩ := C
  intro hF H locs ls hP hD hS hl
  exact W.lcmp hx hb hd1 (lv_if_ge hx hb hd ht (fun h => kn (inn (fun z => n_le h (lgc_lt.mpr z)) hF) H locs ls hP hD hS hl) (fun h => kp (ip (lgc_lt.mp (n_nle h)) hF) H locs ls hP hD hS hl))
theorem v_lcmp_gt (C : Ctx G K cc own nl fr lo) {x y : Int64} {off : Int} (tgt : Nat) {α : Type} {A B : Option α} {Φ : α → Prop} [Decidable (x ≤ y)] (hd1 : decode cc pc = .ok (.lcmp, 1)) (hd : decode cc (pc + 1) = .ok (.ifCond .gt off, 3)) (ht : ((pc + 1 : Nat) : Int) + off = (tgt : Int)) (kp : tp A Φ → V G K w (pc + 1 + 3) lv rest) (kn : tp B Φ → V G K w tgt lv rest) : tp (if x ≤ y then A else B) Φ → V G K w pc lv (.long y :: .long x :: rest) := by
  obtain ⟨p, l, e, R, s, m, args, below, meth, c, Q, cells, slots, nL⟩ := K
  obtain ⟨hx, hb, hml, hown, hts, hlk, hK, hst, hN, hfr, hlo, hc, hs, rfl⟩ := C
  intro hF H locs ls hP hD hS hl
  exact W.lcmp hx hb hd1 (lv_if_gt hx hb hd ht (fun h => kn (inn (fun z => n_lt h (lgc_le.mpr z)) hF) H locs ls hP hD hS hl) (fun h => kp (ip (lgc_le.mp (n_nlt h)) hF) H locs ls hP hD hS hl))
theorem v_lcmp_le (C : Ctx G K cc own nl fr lo) {x y : Int64} {off : Int} (tgt : Nat) {α : Type} {A B : Option α} {Φ : α → Prop} [Decidable (x ≤ y)] (hd1 : decode cc pc = .ok (.lcmp, 1)) (hd : decode cc (pc + 1) = .ok (.ifCond .le off, 3)) (ht : ((pc + 1 : Nat) : Int) + off = (tgt : Int)) (kp : tp A Φ → V G K w tgt lv rest) (kn : tp B Φ → V G K w (pc + 1 + 3) lv rest) : tp (if x ≤ y then A else B) Φ → V G K w pc lv (.long y :: .long x :: rest) := by
  obtain ⟨p, l, e, R, s, m, args, below, meth, c, Q, cells, slots, nL⟩ := K
  obtain ⟨hx, hb, hml, hown, hts, hlk, hK, hst, hN, hfr, hlo, hc, hs, rfl⟩ := C
  intro hF H locs ls hP hD hS hl
  exact W.lcmp hx hb hd1 (lv_if_le hx hb hd ht (fun h => kp (ip (lgc_le.mp h) hF) H locs ls hP hD hS hl) (fun h => kn (inn (fun z => h (lgc_le.mpr z)) hF) H locs ls hP hD hS hl))
theorem v_tableOut (C : Ctx G K cc own nl fr lo) {dflt lo2 hi : Int} {offs : Array Int} {len : Nat} {x : Int32} (tgt : Nat) (hd : decode cc pc = .ok (.tableswitch dflt lo2 hi offs, len)) (h : x.toInt < lo2 ∨ hi < x.toInt) (ht : (pc : Int) + dflt = (tgt : Int)) (k : F → V G K w tgt lv rest) : F → V G K w pc lv (.int x :: rest) := by
  obtain ⟨p, l, e, R, s, m, args, below, meth, c, Q, cells, slots, nL⟩ := K
  obtain ⟨hx, hb, hml, hown, hts, hlk, hK, hst, hN, hfr, hlo, hc, hs, rfl⟩ := C
  intro hF H locs ls hP hD hS hl
  exact lv_tableOut hx hb hd h ht (k hF H locs ls hP hD hS hl)
theorem v_tableIn (C : Ctx G K cc own nl fr lo) {dflt lo2 hi : Int} {offs : Array Int} {len : Nat} {x : Int32} {off : Int} (tgt : Nat) (hd : decode cc pc = .ok (.tableswitch dflt lo2 hi offs, len)) (h1 : ¬ x.toInt < lo2) (h2 : ¬ hi < x.toInt) (ho : offs[(x.toInt - lo2).toNat]? = some off) (ht : (pc : Int) + off = (tgt : Int)) (k : F → V G K w tgt lv rest) : F → V G K w pc lv (.int x :: rest) := by
  obtain ⟨p, l, e, R, s, m, args, below, meth, c, Q, cells, slots, nL⟩ := K
  obtain ⟨hx, hb, hml, hown, hts, hlk, hK, hst, hN, hfr, hlo, hc, hs, rfl⟩ := C
  intro hF H locs ls hP hD hS hl
  exact lv_tableIn hx hb hd h1 h2 ho ht (k hF H locs ls hP hD hS hl)
theorem v_get (C : Ctx G K cc own nl fr lo) {a ci : Nat} {fs : List Value} {Cn : String} {T : u_T} {N index : Nat} (q0 : Nat) (he : w[q0]? = some (a, .inr (ci, fs))) (hcl : vwCl[ci]? = some (Cn, T, N)) (hin : ∀ x ∈ u_ws Cn T N, x ∈ wsL_law) (j : Nat) (hj : j < N) (hT : (T j).1 = Cn) (hq : Cond.fieldLink own index Cn (T j).2.1 (T j).2.2.1 ∈ wsL_law) {v : Value} (hv : fs[j]? = some v) (hd : decode cc pc = .ok (.getfield index, 3)) (k : F → V G K w (pc + 3) lv (v :: rest)) : F → V G K w pc lv (.ref a :: rest) := by
  obtain ⟨p, l, e, R, s, m, args, below, meth, c, Q, cells, slots, nL⟩ := K
  obtain ⟨hx, hb, hml, hown, hts, hlk, hK, hst, hN, hfr, hlo, hc, hs, rfl⟩ := C
  intro hF H locs ls hP hD hS hl
  exact va_get (D := G.1) hx hb hts hin hown hK hP q0 he hcl j hj (hts _ hq) (fun _ h => by rw [hT] at h; exact h) hv hd (k hF H locs ls hP hD hS hl)
theorem v_put (C : Ctx G K cc own nl fr lo) {a ci : Nat} {fs : List Value} {Cn : String} {T : u_T} {N index : Nat} (q0 : Nat) (he : w[q0]? = some (a, .inr (ci, fs))) (hcl : vwCl[ci]? = some (Cn, T, N)) (hin : ∀ x ∈ u_ws Cn T N, x ∈ wsL_law) (ty0 : Nat → FieldType) (hty : ∀ k, k < N → parseFieldDescriptor (T k).2.2.1 = some (ty0 k)) (hnm : ∀ a, a < N → ∀ b, b < N → a ≠ b → (T a).2.1 ≠ (T b).2.1) (j : Nat) (hj : j < N) (hT : (T j).1 = Cn) (hq : Cond.fieldLink own index Cn (T j).2.1 (T j).2.2.1 ∈ wsL_law) (hfin : (T j).2.2.2 = false) {v : Value} (hn : narrow (ty0 j) v = v) (hfit : fits (ty0 j) v = true) (hlen : j < fs.length) (hset : w.set q0 (a, .inr (ci, fs.set j v)) = w') (hd : decode cc pc = .ok (.putfield index, 3)) (k : F → V G K w' (pc + 3) lv rest) : F → V G K w pc lv (v :: .ref a :: rest) := by
  obtain ⟨p, l, e, R, s, m, args, below, meth, c, Q, cells, slots, nL⟩ := K
  obtain ⟨hx, hb, hml, hown, hts, hlk, hK, hst, hN, hfr, hlo, hc, hs, rfl⟩ := C
  intro hF H locs ls hP hD hS hl
  subst hset
  exact va_put (D := G.1) hx hb hts hin ty0 hty hnm hown hK hP hD hS q0 he hcl j hj (hts _ hq) (fun _ h => by rw [hT] at h; exact h) hfin (hty j hj) hn hfit hlen hd (fun H locs hP hD hS => k hF H locs ls hP hD hS hl)
/-- an index within -/
abbrev inb (i : Int32) (n : Nat) : Prop := ¬ (i < 0) ∧ i.toNatClampNeg < n
theorem inb_vp {i : Int32} {n : Nat} (h : inb i n) : vp_in i n := fun q => q.elim (fun z => h.1 z) (fun z => Nat.not_lt.mpr z h.2)
theorem v_iald (C : Ctx G K cc own nl fr lo) {a n : Nat} {f : Nat → Int32} {i : Int32} (q0 : Nat) (he : w[q0]? = some (a, .inl (gC G 0, n, .inl f))) {α : Type} {A : Option α} {Φ : α → Prop} [Decidable (inb i n)] (hd : decode cc pc = .ok (.iaload, 1)) (k : tp A Φ → V G K w (pc + 1) lv (.int (f i.toNatClampNeg) :: rest)) : tp (gd (inb i n) A) Φ → V G K w pc lv (.int i :: .ref a :: rest) := by
  refine r_gd (fun hi => ?_)
  obtain ⟨p, l, e, R, s, m, args, below, meth, c, Q, cells, slots, nL⟩ := K
  obtain ⟨hx, hb, hml, hown, hts, hlk, hK, hst, hN, hfr, hlo, hc, hs, rfl⟩ := C
  intro hF H locs ls hP hD hS hl
  exact va_iald (D := G.1) hx hb hK hP q0 0 he rfl (inb_vp hi) hd (k hF H locs ls hP hD hS hl)
theorem v_iast (C : Ctx G K cc own nl fr lo) {a n : Nat} {f : Nat → Int32} {i : Int32} {x : Int32} (q0 : Nat) (he : w[q0]? = some (a, .inl (gC G 0, n, .inl f))) (hset : w.set q0 (a, .inl (gC G 0, n, .inl (upd f i.toNatClampNeg x))) = w') {α : Type} {A : Option α} {Φ : α → Prop} [Decidable (inb i n)] (hd : decode cc pc = .ok (.iastore, 1)) (k : tp A Φ → V G K w' (pc + 1) lv rest) : tp (gd (inb i n) A) Φ → V G K w pc lv (.int x :: .int i :: .ref a :: rest) := by
  refine r_gd (fun hi => ?_)
  obtain ⟨p, l, e, R, s, m, args, below, meth, c, Q, cells, slots, nL⟩ := K
  obtain ⟨hx, hb, hml, hown, hts, hlk, hK, hst, hN, hfr, hlo, hc, hs, rfl⟩ := C
  intro hF H locs ls hP hD hS hl
  subst hset
  exact va_iast (D := G.1) hx hb hK hP hD hS q0 0 he rfl (inb_vp hi) hd (fun H locs hP hD hS => k hF H locs ls hP hD hS hl)
theorem v_lald (C : Ctx G K cc own nl fr lo) {a n : Nat} {f : Nat → Int64} {i : Int32} (q0 : Nat) (he : w[q0]? = some (a, .inl (gC G 1, n, .inr (.inl f)))) {α : Type} {A : Option α} {Φ : α → Prop} [Decidable (inb i n)] (hd : decode cc pc = .ok (.laload, 1)) (k : tp A Φ → V G K w (pc + 1) lv (.long (f i.toNatClampNeg) :: rest)) : tp (gd (inb i n) A) Φ → V G K w pc lv (.int i :: .ref a :: rest) := by
  refine r_gd (fun hi => ?_)
  obtain ⟨p, l, e, R, s, m, args, below, meth, c, Q, cells, slots, nL⟩ := K
  obtain ⟨hx, hb, hml, hown, hts, hlk, hK, hst, hN, hfr, hlo, hc, hs, rfl⟩ := C
  intro hF H locs ls hP hD hS hl
  exact va_lald (D := G.1) hx hb hK hP q0 1 he rfl (inb_vp hi) hd (k hF H locs ls hP hD hS hl)
theorem v_last (C : Ctx G K cc own nl fr lo) {a n : Nat} {f : Nat → Int64} {i : Int32} {x : Int64} (q0 : Nat) (he : w[q0]? = some (a, .inl (gC G 1, n, .inr (.inl f)))) (hset : w.set q0 (a, .inl (gC G 1, n, .inr (.inl (vp_updL f i.toNatClampNeg x)))) = w') {α : Type} {A : Option α} {Φ : α → Prop} [Decidable (inb i n)] (hd : decode cc pc = .ok (.lastore, 1)) (k : tp A Φ → V G K w' (pc + 1) lv rest) : tp (gd (inb i n) A) Φ → V G K w pc lv (.long x :: .int i :: .ref a :: rest) := by
  refine r_gd (fun hi => ?_)
  obtain ⟨p, l, e, R, s, m, args, below, meth, c, Q, cells, slots, nL⟩ := K
  obtain ⟨hx, hb, hml, hown, hts, hlk, hK, hst, hN, hfr, hlo, hc, hs, rfl⟩ := C
  intro hF H locs ls hP hD hS hl
  subst hset
  exact va_last (D := G.1) hx hb hK hP hD hS q0 1 he rfl (inb_vp hi) hd (fun H locs hP hD hS => k hF H locs ls hP hD hS hl)
theorem v_bald (C : Ctx G K cc own nl fr lo) {a n : Nat} {f : Nat → Int32} {i : Int32} (q0 : Nat) (he : w[q0]? = some (a, .inl (gC G 2, n, .inl f))) {α : Type} {A : Option α} {Φ : α → Prop} [Decidable (inb i n)] (hd : decode cc pc = .ok (.baload, 1)) (k : tp A Φ → V G K w (pc + 1) lv (.int (f i.toNatClampNeg) :: rest)) : tp (gd (inb i n) A) Φ → V G K w pc lv (.int i :: .ref a :: rest) := by
  refine r_gd (fun hi => ?_)
  obtain ⟨p, l, e, R, s, m, args, below, meth, c, Q, cells, slots, nL⟩ := K
  obtain ⟨hx, hb, hml, hown, hts, hlk, hK, hst, hN, hfr, hlo, hc, hs, rfl⟩ := C
  intro hF H locs ls hP hD hS hl
  exact va_bald (D := G.1) hx hb hK hP q0 2 he rfl (inb_vp hi) hd (k hF H locs ls hP hD hS hl)
theorem v_bast (C : Ctx G K cc own nl fr lo) {a n : Nat} {f : Nat → Int32} {i : Int32} {x : Int32} (q0 : Nat) (he : w[q0]? = some (a, .inl (gC G 2, n, .inl f))) (hset : w.set q0 (a, .inl (gC G 2, n, .inl (upd f i.toNatClampNeg (vp_nar .byte x)))) = w') {α : Type} {A : Option α} {Φ : α → Prop} [Decidable (inb i n)] (hd : decode cc pc = .ok (.bastore, 1)) (k : tp A Φ → V G K w' (pc + 1) lv rest) : tp (gd (inb i n) A) Φ → V G K w pc lv (.int x :: .int i :: .ref a :: rest) := by
  refine r_gd (fun hi => ?_)
  obtain ⟨p, l, e, R, s, m, args, below, meth, c, Q, cells, slots, nL⟩ := K
  obtain ⟨hx, hb, hml, hown, hts, hlk, hK, hst, hN, hfr, hlo, hc, hs, rfl⟩ := C
  intro hF H locs ls hP hD hS hl
  subst hset
  exact va_bast (D := G.1) hx hb hK hP hD hS q0 2 he rfl (inb_vp hi) hd (fun H locs hP hD hS => k hF H locs ls hP hD hS hl)
theorem v_zald (C : Ctx G K cc own nl fr lo) {a n : Nat} {f : Nat → Int32} {i : Int32} (q0 : Nat) (he : w[q0]? = some (a, .inl (gC G 3, n, .inl f))) {α : Type} {A : Option α} {Φ : α → Prop} [Decidable (inb i n)] (hd : decode cc pc = .ok (.baload, 1)) (k : tp A Φ → V G K w (pc + 1) lv (.int (f i.toNatClampNeg) :: rest)) : tp (gd (inb i n) A) Φ → V G K w pc lv (.int i :: .ref a :: rest) := by
  refine r_gd (fun hi => ?_)
  obtain ⟨p, l, e, R, s, m, args, below, meth, c, Q, cells, slots, nL⟩ := K
  obtain ⟨hx, hb, hml, hown, hts, hlk, hK, hst, hN, hfr, hlo, hc, hs, rfl⟩ := C
  intro hF H locs ls hP hD hS hl
  exact va_zald (D := G.1) hx hb hK hP q0 3 he rfl (inb_vp hi) hd (k hF H locs ls hP hD hS hl)
theorem v_zast (C : Ctx G K cc own nl fr lo) {a n : Nat} {f : Nat → Int32} {i : Int32} {x : Int32} (q0 : Nat) (he : w[q0]? = some (a, .inl (gC G 3, n, .inl f))) (hset : w.set q0 (a, .inl (gC G 3, n, .inl (upd f i.toNatClampNeg (vp_nar .boolean x)))) = w') {α : Type} {A : Option α} {Φ : α → Prop} [Decidable (inb i n)] (hd : decode cc pc = .ok (.bastore, 1)) (k : tp A Φ → V G K w' (pc + 1) lv rest) : tp (gd (inb i n) A) Φ → V G K w pc lv (.int x :: .int i :: .ref a :: rest) := by
  refine r_gd (fun hi => ?_)
  obtain ⟨p, l, e, R, s, m, args, below, meth, c, Q, cells, slots, nL⟩ := K
  obtain ⟨hx, hb, hml, hown, hts, hlk, hK, hst, hN, hfr, hlo, hc, hs, rfl⟩ := C
  intro hF H locs ls hP hD hS hl
  subst hset
  exact va_zast (D := G.1) hx hb hK hP hD hS q0 3 he rfl (inb_vp hi) hd (fun H locs hP hD hS => k hF H locs ls hP hD hS hl)
theorem v_aldq (C : Ctx G K cc own nl fr lo) {a n b : Nat} {f : Nat → Option Nat} {i : Int32} (q0 : Nat) (he : w[q0]? = some (a, .inl (gC G 4, n, .inr (.inr (.inr (.inr f)))))) {α : Type} {A : Option α} {Φ : α → Prop} [Decidable (inb i n)] (hv : inb i n → f i.toNatClampNeg = some b) (hd : decode cc pc = .ok (.aaload, 1)) (k : inb i n → tp A Φ → V G K w (pc + 1) lv (.ref b :: rest)) : tp (gd (inb i n) A) Φ → V G K w pc lv (.int i :: .ref a :: rest) := by
  refine r_gd (fun hi => ?_)
  obtain ⟨p, l, e, R, s, m, args, below, meth, c, Q, cells, slots, nL⟩ := K
  obtain ⟨hx, hb, hml, hown, hts, hlk, hK, hst, hN, hfr, hlo, hc, hs, rfl⟩ := C
  intro hF H locs ls hP hD hS hl
  exact va_aldq (D := G.1) hx hb hK hP q0 4 he rfl (inb_vp hi) hd (by rw [hv hi]; exact k hi hF H locs ls hP hD hS hl)
theorem v_aldA (C : Ctx G K cc own nl fr lo) {a n b : Nat} {f : Nat → Option Nat} {i : Int32} (q0 : Nat) (he : w[q0]? = some (a, .inl (gC G 5, n, .inr (.inr (.inr (.inr f)))))) {α : Type} {A : Option α} {Φ : α → Prop} [Decidable (inb i n)] (hv : inb i n → f i.toNatClampNeg = some b) (hd : decode cc pc = .ok (.aaload, 1)) (k : inb i n → tp A Φ → V G K w (pc + 1) lv (.ref b :: rest)) : tp (gd (inb i n) A) Φ → V G K w pc lv (.int i :: .ref a :: rest) := by
  refine r_gd (fun hi => ?_)
  obtain ⟨p, l, e, R, s, m, args, below, meth, c, Q, cells, slots, nL⟩ := K
  obtain ⟨hx, hb, hml, hown, hts, hlk, hK, hst, hN, hfr, hlo, hc, hs, rfl⟩ := C
  intro hF H locs ls hP hD hS hl
  exact W.aald (v := .ref b) (ty := .array .int) hx hb (hP q0 _ he) ((hK.2 5 _ rfl).1 n (fun j => va_rf (f j))) rfl (fun q => by cases q) (by show ¬ (i < 0 ∨ (arrV _ _ _).slots.size ≤ _); rw [arrV_size]; exact inb_vp hi) (by show (arrV _ _ _).slots[_]? = _; rw [arrV_read _ _ hi.2, hv hi]; rfl) rfl rfl hd (k hi hF H locs ls hP hD hS hl)
theorem v_alen (C : Ctx G K cc own nl fr lo) {a : Nat} {cA : ClassId} {x : vp_A} {ty : FieldType} (q0 t0 : Nat) (he : w[q0]? = some (a, .inl (cA, x))) (ht : (tysG G)[t0]? = some (cA, ty)) {v : Int32} (hv : Int32.ofNat x.1 = v) (hd : decode cc pc = .ok (.arraylength, 1)) (k : F → V G K w (pc + 1) lv (.int v :: rest)) : F → V G K w pc lv (.ref a :: rest) := by
  obtain ⟨p, l, e, R, s, m, args, below, meth, c, Q, cells, slots, nL⟩ := K
  obtain ⟨hx, hb, hml, hown, hts, hlk, hK, hst, hN, hfr, hlo, hc, hs, rfl⟩ := C
  intro hF H locs ls hP hD hS hl
  exact va_alen (D := G.1) hx hb hK hP q0 t0 he ht hv hd (k hF H locs ls hP hD hS hl)
theorem v_gets (C : Ctx G K cc own nl fr lo) {index : Nat} (i : Nat) (hi : i < 7) (hq : Cond.fieldLink own index "TreeClimb" (tnm i) "[I" ∈ wsL_law) (hd : decode cc pc = .ok (.getstatic index, 3)) (k : F → V G K w (pc + 3) lv (.ref (gT G i) :: st)) : F → V G K w pc lv st := by
  obtain ⟨p, l, e, R, s, m, args, below, meth, c, Q, cells, slots, nL⟩ := K
  obtain ⟨hx, hb, hml, hown, hts, hlk, hK, hst, hN, hfr, hlo, hc, hs, rfl⟩ := C
  intro hF H locs ls hP hD hS hl
  exact va_gets hx hb (hst.1 i hi).1 hS hown (hts _ hq) (fun _ h => h) hd (k hF H locs ls hP hD hS hl)
theorem v_tald (C : Ctx G K cc own nl fr lo) {i : Int32} (t : Nat) (ht : t < 7) {α : Type} {A : Option α} {Φ : α → Prop} [Decidable (inb i (tvl t).length)] (hd : decode cc pc = .ok (.iaload, 1)) (k : tp A Φ → V G K w (pc + 1) lv (.int ((tvl t).getD i.toNatClampNeg 0) :: rest)) : tp (gd (inb i (tvl t).length) A) Φ → V G K w pc lv (.int i :: .ref (gT G t) :: rest) := by
  refine r_gd (fun hi => ?_)
  obtain ⟨p, l, e, R, s, m, args, below, meth, c, Q, cells, slots, nL⟩ := K
  obtain ⟨hx, hb, hml, hown, hts, hlk, hK, hst, hN, hfr, hlo, hc, hs, rfl⟩ := C
  intro hF H locs ls hP hD hS hl
  exact va_ti hx hb (hst.1 t ht).2 hS (inb_vp hi) rfl hd (k hF H locs ls hP hD hS hl)
theorem v_tlen (C : Ctx G K cc own nl fr lo) (t : Nat) (ht : t < 7) (hd : decode cc pc = .ok (.arraylength, 1)) (k : F → V G K w (pc + 1) lv (.int (Int32.ofNat (tvl t).length) :: rest)) : F → V G K w pc lv (.ref (gT G t) :: rest) := by
  obtain ⟨p, l, e, R, s, m, args, below, meth, c, Q, cells, slots, nL⟩ := K
  obtain ⟨hx, hb, hml, hown, hts, hlk, hK, hst, hN, hfr, hlo, hc, hs, rfl⟩ := C
  intro hF H locs ls hP hD hS hl
  exact va_tlen hx hb (hst.1 t ht).2 hS rfl hd (k hF H locs ls hP hD hS hl)
theorem v_mmax (C : Ctx G K cc own nl fr lo) {x y : Int32} {index : Nat} (hq : Cond.methodLink own index Lib.Math.max.name ∈ wsL_law) (h0 : Cond.static Lib.Math.max.name ∈ wsL_law) (h1 : Cond.initialized "java/lang/Math" ∈ wsL_law) (h2 : Cond.code Lib.Math.max.name Lib.Math.max.code 2 (some .int) ∈ wsL_law) (hfr1 : 1 ≤ fr) (hlo1 : (rest.map fun v => v.category).sum + 13 ≤ lo) (hd : decode cc pc = .ok (.invokestatic index, 3)) (k : F → V G K w (pc + 3) lv (.int (if x < y then y else x) :: rest)) : F → V G K w pc lv (.int y :: .int x :: rest) := by
  obtain ⟨p, l, e, R, s, m, args, below, meth, c, Q, cells, slots, nL⟩ := K
  obtain ⟨hx, hb, hml, hown, hts, hlk, hK, hst, hN, hfr, hlo, hc, hs, rfl⟩ := C
  intro hF H locs ls hP hD hS hl
  exact va_mmax hx hb (hml.trans hl.1.symm) hown (hts _ hq) (hts _ h0) (hts _ h1) (hts _ h2) (Nat.le_trans hfr1 hfr) (Nat.le_trans hlo1 hlo) hc hs hd (k hF H locs ls hP hD hS hl)
theorem v_mmin (C : Ctx G K cc own nl fr lo) {x y : Int32} {index : Nat} (hq : Cond.methodLink own index Lib.Math.min.name ∈ wsL_law) (h0 : Cond.static Lib.Math.min.name ∈ wsL_law) (h1 : Cond.initialized "java/lang/Math" ∈ wsL_law) (h2 : Cond.code Lib.Math.min.name Lib.Math.min.code 2 (some .int) ∈ wsL_law) (hfr1 : 1 ≤ fr) (hlo1 : (rest.map fun v => v.category).sum + 13 ≤ lo) (hd : decode cc pc = .ok (.invokestatic index, 3)) (k : F → V G K w (pc + 3) lv (.int (if y < x then y else x) :: rest)) : F → V G K w pc lv (.int y :: .int x :: rest) := by
  obtain ⟨p, l, e, R, s, m, args, below, meth, c, Q, cells, slots, nL⟩ := K
  obtain ⟨hx, hb, hml, hown, hts, hlk, hK, hst, hN, hfr, hlo, hc, hs, rfl⟩ := C
  intro hF H locs ls hP hD hS hl
  exact va_mmin hx hb (hml.trans hl.1.symm) hown (hts _ hq) (hts _ h0) (hts _ h1) (hts _ h2) (Nat.le_trans hfr1 hfr) (Nat.le_trans hlo1 hlo) hc hs hd (k hF H locs ls hP hD hS hl)
theorem v_mabs (C : Ctx G K cc own nl fr lo) {x : Int32} {index : Nat} (hq : Cond.methodLink own index Lib.Math.abs.name ∈ wsL_law) (h0 : Cond.static Lib.Math.abs.name ∈ wsL_law) (h1 : Cond.initialized "java/lang/Math" ∈ wsL_law) (h2 : Cond.code Lib.Math.abs.name Lib.Math.abs.code 1 (some .int) ∈ wsL_law) (hfr1 : 1 ≤ fr) (hlo1 : (rest.map fun v => v.category).sum + 13 ≤ lo) (hd : decode cc pc = .ok (.invokestatic index, 3)) (k : F → V G K w (pc + 3) lv (.int (if 0 ≤ x then x else 0 - x) :: rest)) : F → V G K w pc lv (.int x :: rest) := by
  obtain ⟨p, l, e, R, s, m, args, below, meth, c, Q, cells, slots, nL⟩ := K
  obtain ⟨hx, hb, hml, hown, hts, hlk, hK, hst, hN, hfr, hlo, hc, hs, rfl⟩ := C
  intro hF H locs ls hP hD hS hl
  exact va_mabs hx hb (hml.trans hl.1.symm) hown (hts _ hq) (hts _ h0) (hts _ h1) (hts _ h2) (Nat.le_trans hfr1 hfr) (Nat.le_trans hlo1 hlo) hc hs hd (k hF H locs ls hP hD hS hl)
theorem v_mmaxl (C : Ctx G K cc own nl fr lo) {x y : Int64} {index : Nat} (hq : Cond.methodLink own index Lib.MathLoose.max_long.x ∈ wsL_law) (h0 : Cond.static Lib.MathLoose.max_long.x ∈ wsL_law) (h1 : Cond.initialized "java/lang/Math" ∈ wsL_law) (h2 : Cond.code Lib.MathLoose.max_long.x Lib.MathLoose.max_long.code 4 (some .long) ∈ wsL_law) (hfr1 : 1 ≤ fr) (hlo1 : (rest.map fun v => v.category).sum + 15 ≤ lo) (hd : decode cc pc = .ok (.invokestatic index, 3)) (k : F → V G K w (pc + 3) lv (.long (if y < x then x else y) :: rest)) : F → V G K w pc lv (.long y :: .long x :: rest) := by
  obtain ⟨p, l, e, R, s, m, args, below, meth, c, Q, cells, slots, nL⟩ := K
  obtain ⟨hx, hb, hml, hown, hts, hlk, hK, hst, hN, hfr, hlo, hc, hs, rfl⟩ := C
  intro hF H locs ls hP hD hS hl
  exact va_mmax_long hx hb (hml.trans hl.1.symm) hown (hts _ hq) (hts _ h0) (hts _ h1) (hts _ h2) (Nat.le_trans hfr1 hfr) (Nat.le_trans hlo1 hlo) hc hs hd (k hF H locs ls hP hD hS hl)
end ROWS
/-- contracts of methods that make nothing: from the world w1, with these arguments, the answer r and the world w2 -/
def mrm (fr lo : Nat) : Room := { frames := fr, cells := 0, slots := 0, locals := lo }
def MI (G : GT) (l : Launch) (y : MethodName) (c : ByteArray) (n : Nat) (ret : Option FieldType) (fr lo : Nat) (av : List Value) (w1 : va_W) (r : Int32) (w2 : va_W) : Prop := Met l y (.code y c n ret :: wsL_law) (mrm fr lo) (va_Pc av (PW G w1)) (va_Qi (fun (q : Int32) (_ : Unit) => q = r) (fun _ t => PW G w2 t) (gA G)) 0 0 (gA G)
def ML (G : GT) (l : Launch) (y : MethodName) (c : ByteArray) (n : Nat) (ret : Option FieldType) (fr lo : Nat) (av : List Value) (w1 : va_W) (r : Int64) (w2 : va_W) : Prop := Met l y (.code y c n ret :: wsL_law) (mrm fr lo) (va_Pc av (PW G w1)) (va_Ql (fun (q : Int64) (_ : Unit) => q = r) (fun _ t => PW G w2 t) (gA G)) 0 0 (gA G)
def MV (G : GT) (l : Launch) (y : MethodName) (c : ByteArray) (n : Nat) (ret : Option FieldType) (fr lo : Nat) (av : List Value) (w1 : va_W) (w2 : va_W) : Prop := Met l y (.code y c n ret :: wsL_law) (mrm fr lo) (va_Pc av (PW G w1)) (va_Qv (fun (_ : Unit) => True) (fun _ t => PW G w2 t) (gA G)) 0 0 (gA G)
theorem PW.pass {G : GT} {w : va_W} {av : List Value} {a : Array Value} {U : State} {g : JFrame} {mk : MethodId} (h : va_Pc av (PW G w) a U) : va_Pc av (PW G w) a (U.calling g mk a) := by
  obtain ⟨h0, h1, h2, h3, h4, h5, h6, h7, h8, h9, h10⟩ := h
  exact ⟨h0, h1, h2, va_K.moved (u := U) (U := U.calling g mk a) (Vm.Alike.refl U.vm) h3, h4, h5, h6, fun i hi => (h7 i hi).same rfl, h8, h9, fun x hx => va_Nw.same rfl rfl (h10 x hx)⟩

def RetI (G : GT) (K : KT) (cc : ByteArray) (Φ : Int32 → va_W → Prop) : Prop := ∀ (r : Int32) (w : va_W) (pc : Nat) (lv : List (Nat × Value)), Φ r w → decode cc pc = .ok (.ireturn, 1) → V G K w pc lv [.int r]
def RetL (G : GT) (K : KT) (cc : ByteArray) (Φ : Int64 → va_W → Prop) : Prop := ∀ (r : Int64) (w : va_W) (pc : Nat) (lv : List (Nat × Value)), Φ r w → decode cc pc = .ok (.lreturn, 1) → V G K w pc lv [.long r]
def RetZ (G : GT) (K : KT) (cc : ByteArray) (Φ : Int32 → va_W → Prop) : Prop := ∀ (r : Int32) (w : va_W) (pc : Nat) (lv : List (Nat × Value)), Φ r w → (r = 0 ∨ r = 1) → decode cc pc = .ok (.ireturn, 1) → V G K w pc lv [.int r]
def RetC (G : GT) (K : KT) (cc : ByteArray) (ty : FieldType) (Φ : Int32 → va_W → Prop) : Prop := ∀ (r : Int32) (w : va_W) (pc : Nat) (lv : List (Nat × Value)), Φ r w → narrow ty (.int r) = .int r → decode cc pc = .ok (.ireturn, 1) → V G K w pc lv [.int r]
def RetV (G : GT) (K : KT) (cc : ByteArray) (Φ : va_W → Prop) : Prop := ∀ (w : va_W) (pc : Nat) (lv : List (Nat × Value)), Φ w → decode cc pc = .ok (.return_, 1) → V G K w pc lv []
theorem MI.start {G : GT} {l : Launch} {y : MethodName} {cc : ByteArray} {n fr lo : Nat} {av : List Value} {w1 w2 : va_W} {r : Int32} (hy : plainName y.cls = true) (hn : (lg_sl av).length ≤ n) (h : ∀ K : KT, K.2.1 = l → Ctx G K cc y.cls n fr lo → RetI G K cc (fun q w => q = r ∧ w = w2) → V G K w1 0 (lv_args 0 av) []) : MI G l y cc n (some .int) fr lo av w1 r w2 := by
  refine Met.ofW (cc := cc) (maxL := n) (ret := (some .int)) hy rfl ?_
  intro p e s m args below meth c s₁ B hml hv
  obtain ⟨rfl, hN, hP, hK, hD, hst⟩ := hv
  have hts := atoms_spec (ws := .code y cc n (some .int) :: wsL_law) B.pre
  rw [lg_entry_eq]
  refine h (p, l, e, mrm fr lo, s, m, av.toArray, below, meth, c, MQ below (va_Qi (fun (q : Int32) (_ : Unit) => q = r) (fun _ t => PW G w2 t) (gA G)) av.toArray s 0 0 (gA G), 0, 0, n) rfl ⟨B.exec, B.bytes, hml, findClass_of_methodNamed B.named, fun x hx => hts x (List.mem_cons_of_mem _ hx), B.notSynchronized, hK, hst, hN, Nat.le_refl _, Nat.le_refl _, Nat.le_refl _, Nat.le_refl _, rfl⟩ ?_ s.heap [] _ hP hD va_S.rf (lv_entry av hn)
  intro q w pc lv ⟨hq, hw⟩ hd H locs ls hP2 hD2 hS2 hl2
  subst hw
  exact W.iret (v := q) B.exec B.bytes B.returns (fun t ht hW => ⟨⟨q, (), rfl, hq, by rw [ht]; exact gN.up hN hS2.1, by rw [ht]; exact hP2, va_K.moved hW.alike hK, hD2, by rw [ht]; exact hst.go hS2 hW⟩, hS2.F ht⟩) hS2.2.2 hd
theorem MI.startZ {G : GT} {l : Launch} {y : MethodName} {cc : ByteArray} {n fr lo : Nat} {av : List Value} {w1 w2 : va_W} {r : Int32} (hy : plainName y.cls = true) (hn : (lg_sl av).length ≤ n) (h : ∀ K : KT, K.2.1 = l → Ctx G K cc y.cls n fr lo → RetZ G K cc (fun q w => q = r ∧ w = w2) → V G K w1 0 (lv_args 0 av) []) : MI G l y cc n (some .boolean) fr lo av w1 r w2 := by
  refine Met.ofW (cc := cc) (maxL := n) (ret := (some .boolean)) hy rfl ?_
  intro p e s m args below meth c s₁ B hml hv
  obtain ⟨rfl, hN, hP, hK, hD, hst⟩ := hv
  have hts := atoms_spec (ws := .code y cc n (some .boolean) :: wsL_law) B.pre
  rw [lg_entry_eq]
  refine h (p, l, e, mrm fr lo, s, m, av.toArray, below, meth, c, MQ below (va_Qi (fun (q : Int32) (_ : Unit) => q = r) (fun _ t => PW G w2 t) (gA G)) av.toArray s 0 0 (gA G), 0, 0, n) rfl ⟨B.exec, B.bytes, hml, findClass_of_methodNamed B.named, fun x hx => hts x (List.mem_cons_of_mem _ hx), B.notSynchronized, hK, hst, hN, Nat.le_refl _, Nat.le_refl _, Nat.le_refl _, Nat.le_refl _, rfl⟩ ?_ s.heap [] _ hP hD va_S.rf (lv_entry av hn)
  intro q w pc lv ⟨hq, hw⟩ hz hd H locs ls hP2 hD2 hS2 hl2
  subst hw
  exact W.zret (v := q) B.exec B.bytes B.returns (by rcases hz with h | h <;> subst h <;> rfl) (fun t ht hW => ⟨⟨q, (), rfl, hq, by rw [ht]; exact gN.up hN hS2.1, by rw [ht]; exact hP2, va_K.moved hW.alike hK, hD2, by rw [ht]; exact hst.go hS2 hW⟩, hS2.F ht⟩) hS2.2.2 hd
theorem MI.startC {G : GT} {l : Launch} {y : MethodName} {cc : ByteArray} {n fr lo : Nat} {av : List Value} {w1 w2 : va_W} {r : Int32} {ty : FieldType} (hy : plainName y.cls = true) (hn : (lg_sl av).length ≤ n) (h : ∀ K : KT, K.2.1 = l → Ctx G K cc y.cls n fr lo → RetC G K cc ty (fun q w => q = r ∧ w = w2) → V G K w1 0 (lv_args 0 av) []) : MI G l y cc n (some ty) fr lo av w1 r w2 := by
  refine Met.ofW (cc := cc) (maxL := n) (ret := (some ty)) hy rfl ?_
  intro p e s m args below meth c s₁ B hml hv
  obtain ⟨rfl, hN, hP, hK, hD, hst⟩ := hv
  have hts := atoms_spec (ws := .code y cc n (some ty) :: wsL_law) B.pre
  rw [lg_entry_eq]
  refine h (p, l, e, mrm fr lo, s, m, av.toArray, below, meth, c, MQ below (va_Qi (fun (q : Int32) (_ : Unit) => q = r) (fun _ t => PW G w2 t) (gA G)) av.toArray s 0 0 (gA G), 0, 0, n) rfl ⟨B.exec, B.bytes, hml, findClass_of_methodNamed B.named, fun x hx => hts x (List.mem_cons_of_mem _ hx), B.notSynchronized, hK, hst, hN, Nat.le_refl _, Nat.le_refl _, Nat.le_refl _, Nat.le_refl _, rfl⟩ ?_ s.heap [] _ hP hD va_S.rf (lv_entry av hn)
  intro q w pc lv ⟨hq, hw⟩ hz hd H locs ls hP2 hD2 hS2 hl2
  subst hw
  exact W.zret (v := q) B.exec B.bytes B.returns hz (fun t ht hW => ⟨⟨q, (), rfl, hq, by rw [ht]; exact gN.up hN hS2.1, by rw [ht]; exact hP2, va_K.moved hW.alike hK, hD2, by rw [ht]; exact hst.go hS2 hW⟩, hS2.F ht⟩) hS2.2.2 hd
theorem ML.start {G : GT} {l : Launch} {y : MethodName} {cc : ByteArray} {n fr lo : Nat} {av : List Value} {w1 w2 : va_W} {r : Int64} (hy : plainName y.cls = true) (hn : (lg_sl av).length ≤ n) (h : ∀ K : KT, K.2.1 = l → Ctx G K cc y.cls n fr lo → RetL G K cc (fun q w => q = r ∧ w = w2) → V G K w1 0 (lv_args 0 av) []) : ML G l y cc n (some .long) fr lo av w1 r w2 := by
  refine Met.ofW (cc := cc) (maxL := n) (ret := (some .long)) hy rfl ?_
  intro p e s m args below meth c s₁ B hml hv
  obtain ⟨rfl, hN, hP, hK, hD, hst⟩ := hv
  have hts := atoms_spec (ws := .code y cc n (some .long) :: wsL_law) B.pre
  rw [lg_entry_eq]
  refine h (p, l, e, mrm fr lo, s, m, av.toArray, below, meth, c, MQ below (va_Ql (fun (q : Int64) (_ : Unit) => q = r) (fun _ t => PW G w2 t) (gA G)) av.toArray s 0 0 (gA G), 0, 0, n) rfl ⟨B.exec, B.bytes, hml, findClass_of_methodNamed B.named, fun x hx => hts x (List.mem_cons_of_mem _ hx), B.notSynchronized, hK, hst, hN, Nat.le_refl _, Nat.le_refl _, Nat.le_refl _, Nat.le_refl _, rfl⟩ ?_ s.heap [] _ hP hD va_S.rf (lv_entry av hn)
  intro q w pc lv ⟨hq, hw⟩ hd H locs ls hP2 hD2 hS2 hl2
  subst hw
  exact W.lret (v := q) B.exec B.bytes B.returns (fun t ht hW => ⟨⟨q, (), rfl, hq, by rw [ht]; exact gN.up hN hS2.1, by rw [ht]; exact hP2, va_K.moved hW.alike hK, hD2, by rw [ht]; exact hst.go hS2 hW⟩, hS2.F ht⟩) hS2.2.2 hd
theorem MV.start {G : GT} {l : Launch} {y : MethodName} {cc : ByteArray} {n fr lo : Nat} {av : List Value} {w1 w2 : va_W} (hy : plainName y.cls = true) (hn : (lg_sl av).length ≤ n) (h : ∀ K : KT, K.2.1 = l → Ctx G K cc y.cls n fr lo → RetV G K cc (fun w => w = w2) → V G K w1 0 (lv_args 0 av) []) : MV G l y cc n none fr lo av w1 w2 := by
  refine Met.ofW (cc := cc) (maxL := n) (ret := none) hy rfl ?_
  intro p e s m args below meth c s₁ B hml hv
  obtain ⟨rfl, hN, hP, hK, hD, hst⟩ := hv
  have hts := atoms_spec (ws := .code y cc n none :: wsL_law) B.pre
  rw [lg_entry_eq]
  refine h (p, l, e, mrm fr lo, s, m, av.toArray, below, meth, c, MQ below (va_Qv (fun (_ : Unit) => True) (fun _ t => PW G w2 t) (gA G)) av.toArray s 0 0 (gA G), 0, 0, n) rfl ⟨B.exec, B.bytes, hml, findClass_of_methodNamed B.named, fun x hx => hts x (List.mem_cons_of_mem _ hx), B.notSynchronized, hK, hst, hN, Nat.le_refl _, Nat.le_refl _, Nat.le_refl _, Nat.le_refl _, rfl⟩ ?_ s.heap [] _ hP hD va_S.rf (lv_entry av hn)
  intro w pc lv hw hd H locs ls hP2 hD2 hS2 hl2
  subst hw
  exact W.vret B.exec B.bytes B.returns (fun t ht hW => ⟨⟨(), rfl, trivial, by rw [ht]; exact gN.up hN hS2.1, by rw [ht]; exact hP2, va_K.moved hW.alike hK, hD2, by rw [ht]; exact hst.go hS2 hW⟩, hS2.F ht⟩) hS2.2.2 hd
section CALLS
variable {G : GT} {K : KT} {cc : ByteArray} {own : String} {nl fr lo : Nat} {w w2 : va_W} {pc : Nat} {lv lv' : List (Nat × Value)} {rest : List Value} {F : Prop}
theorem good_all : wsL_law.all goodWord = true := by decide +kernel
theorem good_in {Ts : List Cond} (hT : ∀ w ∈ wsL_law, w ∈ Ts) {c : Cond} (hc : c ∈ wsL_law) : GoodIn Ts (c :: wsL_law) := by
  intro x hx
  have hx2 : x ∈ wsL_law := by
    rcases List.mem_cons.mp hx with h | h
    · rw [h]; exact hc
    · exact h
  exact ⟨hT x hx2, good_of_word (List.all_eq_true.mp good_all x hx2)⟩

theorem v_callIv (C : Ctx G K cc own nl fr lo) {y : MethodName} {bytes : ByteArray} {n fc lc nargs index : Nat} {ret : Option FieldType} {As : List Value} {r : Int32} {b : Nat} (hM : MI G K.2.1 y bytes n ret fc lc (.ref b :: As) w r w2) (h0 : Cond.methodLink own index y ∈ wsL_law) (h1 : Cond.instanceMethod y ∈ wsL_law) (h2 : Cond.selects y.cls y y ∈ wsL_law) (h3 : Cond.initialized y.cls ∈ wsL_law) (h4 : Cond.code y bytes n ret ∈ wsL_law) (hrecv : ∃ (q0 ci : Nat) (fs : List Value) (T : u_T) (N : Nat), vwCl[ci]? = some (y.cls, T, N) ∧ w[q0]? = some (b, .inr (ci, fs))) (hd : y.cls ≠ "java/lang/invoke/MethodHandle" ∧ y.cls ≠ "java/lang/invoke/VarHandle" ∧ (parseMethodDescriptor y.desc).map (fun d => d.parameters.length) = some nargs) (hR : fc + 1 ≤ fr ∧ 8 + (n + 11) + lc ≤ lo) (hlen : As.length = nargs) (hcat : (rest.map fun v => v.category).sum ≤ 8) (hdg : decode cc pc = .ok (.invokevirtual index, 3)) (k : F → V G K w2 (pc + 3) lv (.int r :: rest)) : F → V G K w pc lv (As.reverse ++ .ref b :: rest) := by
  obtain ⟨p, l, e, R, s, m, args, below, meth, c, Q, cells, slots, nL⟩ := K
  obtain ⟨hx, hb, hml, hown, hts, hlk, hK, hst, hN, hfr, hlo, hc, hs, rfl⟩ := C
  intro hF H locs ls hP hD hS hl
  obtain ⟨q0, ci, fs, T, N, hrc, hre⟩ := hrecv
  refine va_calli (va_runV (As := As) (rest := rest) ⟨hx, hb, hml, hown, hts⟩ hM ⟨callB_of nargs hts (good_in (fun _ h => h) h4) rfl rfl rfl (hts _ h3) (hts _ h0) hd ⟨Nat.le_trans hR.1 hfr, Nat.le_trans hR.2 hlo⟩, hts _ h1, hts _ h2⟩ ⟨fun a U g mk q => PW.pass q, va_recv hK hP hrc hre, fun U hU hW => ⟨rfl, by rw [hU]; exact gN.up hN hS.1, by rw [hU]; exact hP, va_K.moved hW.alike hK, hD, by rw [hU]; exact hst.go hS hW⟩⟩ rfl hlen hl.1 rfl (lv_room hcat) hdg ⟨hc, hs⟩) hS (fun q _ h => h) (fun q h => h) (fun q u t H1 locs1 ht hvm hw hB hz1 hk1 hS1 => ?_)
  obtain ⟨hN1, hP1, hK1, hD1, hst1⟩ := hB
  rw [ht] at hP1
  subst hw
  exact k hF H1 locs1 ls hP1 hD1 hS1 hl
theorem v_callIs (C : Ctx G K cc own nl fr lo) {y : MethodName} {bytes : ByteArray} {n fc lc nargs index : Nat} {ret : Option FieldType} {As : List Value} {r : Int32} (hM : MI G K.2.1 y bytes n ret fc lc As w r w2) (h0 : Cond.methodLink own index y ∈ wsL_law) (h1 : Cond.static y ∈ wsL_law) (h3 : Cond.initialized y.cls ∈ wsL_law) (h4 : Cond.code y bytes n ret ∈ wsL_law) (hd : y.cls ≠ "java/lang/invoke/MethodHandle" ∧ y.cls ≠ "java/lang/invoke/VarHandle" ∧ (parseMethodDescriptor y.desc).map (fun d => d.parameters.length) = some nargs) (hR : fc + 1 ≤ fr ∧ 8 + (n + 11) + lc ≤ lo) (hlen : As.length = nargs) (hcat : (rest.map fun v => v.category).sum ≤ 8) (hdg : decode cc pc = .ok (.invokestatic index, 3)) (k : F → V G K w2 (pc + 3) lv (.int r :: rest)) : F → V G K w pc lv (As.reverse ++ rest) := by
  obtain ⟨p, l, e, R, s, m, args, below, meth, c, Q, cells, slots, nL⟩ := K
  obtain ⟨hx, hb, hml, hown, hts, hlk, hK, hst, hN, hfr, hlo, hc, hs, rfl⟩ := C
  intro hF H locs ls hP hD hS hl
  refine va_calli (va_runS (As := As) (rest := rest) ⟨hx, hb, hml, hown, hts⟩ hM ⟨callB_of nargs hts (good_in (fun _ h => h) h4) rfl rfl rfl (hts _ h3) (hts _ h0) hd ⟨Nat.le_trans hR.1 hfr, Nat.le_trans hR.2 hlo⟩, hts _ h1⟩ ⟨fun a U g mk q => PW.pass q, fun U hU hW => ⟨rfl, by rw [hU]; exact gN.up hN hS.1, by rw [hU]; exact hP, va_K.moved hW.alike hK, hD, by rw [hU]; exact hst.go hS hW⟩⟩ rfl hlen hl.1 rfl (lv_room hcat) hdg ⟨hc, hs⟩) hS (fun q _ h => h) (fun q h => h) (fun q u t H1 locs1 ht hvm hw hB hz1 hk1 hS1 => ?_)
  obtain ⟨hN1, hP1, hK1, hD1, hst1⟩ := hB
  rw [ht] at hP1
  subst hw
  exact k hF H1 locs1 ls hP1 hD1 hS1 hl
theorem v_callLv (C : Ctx G K cc own nl fr lo) {y : MethodName} {bytes : ByteArray} {n fc lc nargs index : Nat} {ret : Option FieldType} {As : List Value} {r : Int64} {b : Nat} (hM : ML G K.2.1 y bytes n ret fc lc (.ref b :: As) w r w2) (h0 : Cond.methodLink own index y ∈ wsL_law) (h1 : Cond.instanceMethod y ∈ wsL_law) (h2 : Cond.selects y.cls y y ∈ wsL_law) (h3 : Cond.initialized y.cls ∈ wsL_law) (h4 : Cond.code y bytes n ret ∈ wsL_law) (hrecv : ∃ (q0 ci : Nat) (fs : List Value) (T : u_T) (N : Nat), vwCl[ci]? = some (y.cls, T, N) ∧ w[q0]? = some (b, .inr (ci, fs))) (hd : y.cls ≠ "java/lang/invoke/MethodHandle" ∧ y.cls ≠ "java/lang/invoke/VarHandle" ∧ (parseMethodDescriptor y.desc).map (fun d => d.parameters.length) = some nargs) (hR : fc + 1 ≤ fr ∧ 8 + (n + 11) + lc ≤ lo) (hlen : As.length = nargs) (hcat : (rest.map fun v => v.category).sum ≤ 8) (hdg : decode cc pc = .ok (.invokevirtual index, 3)) (k : F → V G K w2 (pc + 3) lv (.long r :: rest)) : F → V G K w pc lv (As.reverse ++ .ref b :: rest) := by
  obtain ⟨p, l, e, R, s, m, args, below, meth, c, Q, cells, slots, nL⟩ := K
  obtain ⟨hx, hb, hml, hown, hts, hlk, hK, hst, hN, hfr, hlo, hc, hs, rfl⟩ := C
  intro hF H locs ls hP hD hS hl
  obtain ⟨q0, ci, fs, T, N, hrc, hre⟩ := hrecv
  refine va_calll (va_runV (As := As) (rest := rest) ⟨hx, hb, hml, hown, hts⟩ hM ⟨callB_of nargs hts (good_in (fun _ h => h) h4) rfl rfl rfl (hts _ h3) (hts _ h0) hd ⟨Nat.le_trans hR.1 hfr, Nat.le_trans hR.2 hlo⟩, hts _ h1, hts _ h2⟩ ⟨fun a U g mk q => PW.pass q, va_recv hK hP hrc hre, fun U hU hW => ⟨rfl, by rw [hU]; exact gN.up hN hS.1, by rw [hU]; exact hP, va_K.moved hW.alike hK, hD, by rw [hU]; exact hst.go hS hW⟩⟩ rfl hlen hl.1 rfl (lv_room hcat) hdg ⟨hc, hs⟩) hS (fun q _ h => h) (fun q h => h) (fun q u t H1 locs1 ht hvm hw hB hz1 hk1 hS1 => ?_)
  obtain ⟨hN1, hP1, hK1, hD1, hst1⟩ := hB
  rw [ht] at hP1
  subst hw
  exact k hF H1 locs1 ls hP1 hD1 hS1 hl
theorem v_callLs (C : Ctx G K cc own nl fr lo) {y : MethodName} {bytes : ByteArray} {n fc lc nargs index : Nat} {ret : Option FieldType} {As : List Value} {r : Int64} (hM : ML G K.2.1 y bytes n ret fc lc As w r w2) (h0 : Cond.methodLink own index y ∈ wsL_law) (h1 : Cond.static y ∈ wsL_law) (h3 : Cond.initialized y.cls ∈ wsL_law) (h4 : Cond.code y bytes n ret ∈ wsL_law) (hd : y.cls ≠ "java/lang/invoke/MethodHandle" ∧ y.cls ≠ "java/lang/invoke/VarHandle" ∧ (parseMethodDescriptor y.desc).map (fun d => d.parameters.length) = some nargs) (hR : fc + 1 ≤ fr ∧ 8 + (n + 11) + lc ≤ lo) (hlen : As.length = nargs) (hcat : (rest.map fun v => v.category).sum ≤ 8) (hdg : decode cc pc = .ok (.invokestatic index, 3)) (k : F → V G K w2 (pc + 3) lv (.long r :: rest)) : F → V G K w pc lv (As.reverse ++ rest) := by
  obtain ⟨p, l, e, R, s, m, args, below, meth, c, Q, cells, slots, nL⟩ := K
  obtain ⟨hx, hb, hml, hown, hts, hlk, hK, hst, hN, hfr, hlo, hc, hs, rfl⟩ := C
  intro hF H locs ls hP hD hS hl
  refine va_calll (va_runS (As := As) (rest := rest) ⟨hx, hb, hml, hown, hts⟩ hM ⟨callB_of nargs hts (good_in (fun _ h => h) h4) rfl rfl rfl (hts _ h3) (hts _ h0) hd ⟨Nat.le_trans hR.1 hfr, Nat.le_trans hR.2 hlo⟩, hts _ h1⟩ ⟨fun a U g mk q => PW.pass q, fun U hU hW => ⟨rfl, by rw [hU]; exact gN.up hN hS.1, by rw [hU]; exact hP, va_K.moved hW.alike hK, hD, by rw [hU]; exact hst.go hS hW⟩⟩ rfl hlen hl.1 rfl (lv_room hcat) hdg ⟨hc, hs⟩) hS (fun q _ h => h) (fun q h => h) (fun q u t H1 locs1 ht hvm hw hB hz1 hk1 hS1 => ?_)
  obtain ⟨hN1, hP1, hK1, hD1, hst1⟩ := hB
  rw [ht] at hP1
  subst hw
  exact k hF H1 locs1 ls hP1 hD1 hS1 hl
theorem v_callVv (C : Ctx G K cc own nl fr lo) {y : MethodName} {bytes : ByteArray} {n fc lc nargs index : Nat} {ret : Option FieldType} {As : List Value} {b : Nat} (hM : MV G K.2.1 y bytes n ret fc lc (.ref b :: As) w w2) (h0 : Cond.methodLink own index y ∈ wsL_law) (h1 : Cond.instanceMethod y ∈ wsL_law) (h2 : Cond.selects y.cls y y ∈ wsL_law) (h3 : Cond.initialized y.cls ∈ wsL_law) (h4 : Cond.code y bytes n ret ∈ wsL_law) (hrecv : ∃ (q0 ci : Nat) (fs : List Value) (T : u_T) (N : Nat), vwCl[ci]? = some (y.cls, T, N) ∧ w[q0]? = some (b, .inr (ci, fs))) (hd : y.cls ≠ "java/lang/invoke/MethodHandle" ∧ y.cls ≠ "java/lang/invoke/VarHandle" ∧ (parseMethodDescriptor y.desc).map (fun d => d.parameters.length) = some nargs) (hR : fc + 1 ≤ fr ∧ 8 + (n + 11) + lc ≤ lo) (hlen : As.length = nargs) (hcat : (rest.map fun v => v.category).sum ≤ 8) (hdg : decode cc pc = .ok (.invokevirtual index, 3)) (k : F → V G K w2 (pc + 3) lv (rest)) : F → V G K w pc lv (As.reverse ++ .ref b :: rest) := by
  obtain ⟨p, l, e, R, s, m, args, below, meth, c, Q, cells, slots, nL⟩ := K
  obtain ⟨hx, hb, hml, hown, hts, hlk, hK, hst, hN, hfr, hlo, hc, hs, rfl⟩ := C
  intro hF H locs ls hP hD hS hl
  obtain ⟨q0, ci, fs, T, N, hrc, hre⟩ := hrecv
  refine va_callv (va_runV (As := As) (rest := rest) ⟨hx, hb, hml, hown, hts⟩ hM ⟨callB_of nargs hts (good_in (fun _ h => h) h4) rfl rfl rfl (hts _ h3) (hts _ h0) hd ⟨Nat.le_trans hR.1 hfr, Nat.le_trans hR.2 hlo⟩, hts _ h1, hts _ h2⟩ ⟨fun a U g mk q => PW.pass q, va_recv hK hP hrc hre, fun U hU hW => ⟨rfl, by rw [hU]; exact gN.up hN hS.1, by rw [hU]; exact hP, va_K.moved hW.alike hK, hD, by rw [hU]; exact hst.go hS hW⟩⟩ rfl hlen hl.1 rfl (lv_room hcat) hdg ⟨hc, hs⟩) hS (fun q _ h => h) (fun q h => h) (fun u t H1 locs1 ht hvm hw hB hz1 hk1 hS1 => ?_)
  obtain ⟨hN1, hP1, hK1, hD1, hst1⟩ := hB
  rw [ht] at hP1
  exact k hF H1 locs1 ls hP1 hD1 hS1 hl
theorem v_callVs (C : Ctx G K cc own nl fr lo) {y : MethodName} {bytes : ByteArray} {n fc lc nargs index : Nat} {ret : Option FieldType} {As : List Value} (hM : MV G K.2.1 y bytes n ret fc lc As w w2) (h0 : Cond.methodLink own index y ∈ wsL_law) (h1 : Cond.static y ∈ wsL_law) (h3 : Cond.initialized y.cls ∈ wsL_law) (h4 : Cond.code y bytes n ret ∈ wsL_law) (hd : y.cls ≠ "java/lang/invoke/MethodHandle" ∧ y.cls ≠ "java/lang/invoke/VarHandle" ∧ (parseMethodDescriptor y.desc).map (fun d => d.parameters.length) = some nargs) (hR : fc + 1 ≤ fr ∧ 8 + (n + 11) + lc ≤ lo) (hlen : As.length = nargs) (hcat : (rest.map fun v => v.category).sum ≤ 8) (hdg : decode cc pc = .ok (.invokestatic index, 3)) (k : F → V G K w2 (pc + 3) lv (rest)) : F → V G K w pc lv (As.reverse ++ rest) := by
  obtain ⟨p, l, e, R, s, m, args, below, meth, c, Q, cells, slots, nL⟩ := K
  obtain ⟨hx, hb, hml, hown, hts, hlk, hK, hst, hN, hfr, hlo, hc, hs, rfl⟩ := C
  intro hF H locs ls hP hD hS hl
  refine va_callv (va_runS (As := As) (rest := rest) ⟨hx, hb, hml, hown, hts⟩ hM ⟨callB_of nargs hts (good_in (fun _ h => h) h4) rfl rfl rfl (hts _ h3) (hts _ h0) hd ⟨Nat.le_trans hR.1 hfr, Nat.le_trans hR.2 hlo⟩, hts _ h1⟩ ⟨fun a U g mk q => PW.pass q, fun U hU hW => ⟨rfl, by rw [hU]; exact gN.up hN hS.1, by rw [hU]; exact hP, va_K.moved hW.alike hK, hD, by rw [hU]; exact hst.go hS hW⟩⟩ rfl hlen hl.1 rfl (lv_room hcat) hdg ⟨hc, hs⟩) hS (fun q _ h => h) (fun q h => h) (fun u t H1 locs1 ht hvm hw hB hz1 hk1 hS1 => ?_)
  obtain ⟨hN1, hP1, hK1, hD1, hst1⟩ := hB
  rw [ht] at hP1
  exact k hF H1 locs1 ls hP1 hD1 hS1 hl
theorem v_callIn (C : Ctx G K cc own nl fr lo) {y : MethodName} {host : String} {bytes : ByteArray} {n fc lc nargs index : Nat} {ret : Option FieldType} {As : List Value} {r : Int32} (hM : MI G K.2.1 y bytes n ret fc lc As w r w2) (hnst : (own, index, y, host) ∈ nestW) (h1 : Cond.static y ∈ wsL_law) (h3 : Cond.initialized y.cls ∈ wsL_law) (h4 : Cond.code y bytes n ret ∈ wsL_law) (hd : y.cls ≠ "java/lang/invoke/MethodHandle" ∧ y.cls ≠ "java/lang/invoke/VarHandle" ∧ (parseMethodDescriptor y.desc).map (fun d => d.parameters.length) = some nargs) (hR : fc + 1 ≤ fr ∧ 8 + (n + 11) + lc ≤ lo) (hlen : As.length = nargs) (hcat : (rest.map fun v => v.category).sum ≤ 8) (hdg : decode cc pc = .ok (.invokestatic index, 3)) (k : F → V G K w2 (pc + 3) lv (.int r :: rest)) : F → V G K w pc lv (As.reverse ++ rest) := by
  obtain ⟨p, l, e, R, s, m, args, below, meth, c, Q, cells, slots, nL⟩ := K
  obtain ⟨hx, hb, hml, hown, hts, hlk, hK, hst, hN, hfr, hlo, hc, hs, rfl⟩ := C
  intro hF H locs ls hP hD hS hl
  refine va_calli (va_runSN (As := As) (rest := rest) (host := host) ⟨hx, hb, hml, hown, hts⟩ hM ⟨va_cnB nargs hts (good_in (fun _ h => h) h4) rfl rfl rfl (hst.2.2.2.2.2 _ hnst) (hts _ h3) hd ⟨Nat.le_trans hR.1 hfr, Nat.le_trans hR.2 hlo⟩, hts _ h1, trivial⟩ ⟨fun a U g mk q => PW.pass q, fun U hU hW => ⟨rfl, by rw [hU]; exact gN.up hN hS.1, by rw [hU]; exact hP, va_K.moved hW.alike hK, hD, by rw [hU]; exact hst.go hS hW⟩⟩ rfl hlen hl.1 rfl (lv_room hcat) hdg ⟨hc, hs⟩) hS (fun q _ h => h) (fun q h => h) (fun q u t H1 locs1 ht hvm hw hB hz1 hk1 hS1 => ?_)
  obtain ⟨hN1, hP1, hK1, hD1, hst1⟩ := hB
  rw [ht] at hP1
  subst hw
  exact k hF H1 locs1 ls hP1 hD1 hS1 hl
end CALLS
