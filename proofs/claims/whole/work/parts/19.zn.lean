/-! the law's start: what the Statement gives, in our words (gen_stat.py) -/
abbrev gvC : Cond := Jvm.Cond.and given_1 narrow_1
set_option maxRecDepth 100000 in
set_option maxHeartbeats 4000000 in
theorem tb_0 {s : State} {b : Nat} (hts : ∀ x ∈ lw_tbl, x.before #[Value.ref b] s = true) (hs : ∀ x ∈ flatC gvC, x.before #[Value.ref b] s = true) {A : Nat → Prop} (hA : ∀ a : Nat, a < s.heap.size → ¬ A a) : ∃ t : Nat, (Term.static "TreeClimb" "FIRST_TUNE" "[I").eval #[Value.ref b] s none [] s = some (.ref t) ∧ va_Z "TreeClimb" (tnm 0) "[I" (.ref t) A s s.heap ∧ va_T .int t (tvl 0).length (fun j => .int ((tvl 0).getD j 0)) A s s.heap := by
  obtain ⟨t, ht, hT⟩ := va_Tof (tm := Term.static "TreeClimb" "FIRST_TUNE" "[I") (ty := .int) (N := 6) (f := fun j => .int ((tvl 0).getD j 0)) (A := A) (by decide) (hs (Cond.arrayOf (Term.static "TreeClimb" "FIRST_TUNE" "[I") FieldType.int) (by decide +kernel)) (va_eqt (hs (Cond.eq (Term.length (Term.static "TreeClimb" "FIRST_TUNE" "[I")) (Term.int (6 : Int32))) (by decide +kernel))) (fun j hj => match j, hj with | 0, _ => va_eqt (hs (Cond.eq (Term.elem (Term.static "TreeClimb" "FIRST_TUNE" "[I") (Term.int (0 : Int32))) (Term.int (3 : Int32))) (by decide +kernel)) | 1, _ => va_eqt (hs (Cond.eq (Term.elem (Term.static "TreeClimb" "FIRST_TUNE" "[I") (Term.int (1 : Int32))) (Term.int (2 : Int32))) (by decide +kernel)) | 2, _ => va_eqt (hs (Cond.eq (Term.elem (Term.static "TreeClimb" "FIRST_TUNE" "[I") (Term.int (2 : Int32))) (Term.int (2 : Int32))) (by decide +kernel)) | 3, _ => va_eqt (hs (Cond.eq (Term.elem (Term.static "TreeClimb" "FIRST_TUNE" "[I") (Term.int (3 : Int32))) (Term.int (4 : Int32))) (by decide +kernel)) | 4, _ => va_eqt (hs (Cond.eq (Term.elem (Term.static "TreeClimb" "FIRST_TUNE" "[I") (Term.int (4 : Int32))) (Term.int (3 : Int32))) (by decide +kernel)) | 5, _ => va_eqt (hs (Cond.eq (Term.elem (Term.static "TreeClimb" "FIRST_TUNE" "[I") (Term.int (5 : Int32))) (Term.int (0 : Int32))) (by decide +kernel)) | n + 6, h => absurd h (by omega)) hA
  exact ⟨t, ht, va_Zref (hts (Cond.laysStatic "TreeClimb" "FIRST_TUNE" "[I") (by decide +kernel)) (hts (Cond.initialized "TreeClimb") (by decide +kernel)) ht hA, hT⟩
set_option maxRecDepth 100000 in
set_option maxHeartbeats 4000000 in
theorem tb_1 {s : State} {b : Nat} (hts : ∀ x ∈ lw_tbl, x.before #[Value.ref b] s = true) (hs : ∀ x ∈ flatC gvC, x.before #[Value.ref b] s = true) {A : Nat → Prop} (hA : ∀ a : Nat, a < s.heap.size → ¬ A a) : ∃ t : Nat, (Term.static "TreeClimb" "LEAST_OF_BRANCH" "[I").eval #[Value.ref b] s none [] s = some (.ref t) ∧ va_Z "TreeClimb" (tnm 1) "[I" (.ref t) A s s.heap ∧ va_T .int t (tvl 1).length (fun j => .int ((tvl 1).getD j 0)) A s s.heap := by
  obtain ⟨t, ht, hT⟩ := va_Tof (tm := Term.static "TreeClimb" "LEAST_OF_BRANCH" "[I") (ty := .int) (N := 4) (f := fun j => .int ((tvl 1).getD j 0)) (A := A) (by decide) (hs (Cond.arrayOf (Term.static "TreeClimb" "LEAST_OF_BRANCH" "[I") FieldType.int) (by decide +kernel)) (va_eqt (hs (Cond.eq (Term.length (Term.static "TreeClimb" "LEAST_OF_BRANCH" "[I")) (Term.int (4 : Int32))) (by decide +kernel))) (fun j hj => match j, hj with | 0, _ => va_eqt (hs (Cond.eq (Term.elem (Term.static "TreeClimb" "LEAST_OF_BRANCH" "[I") (Term.int (0 : Int32))) (Term.int (1 : Int32))) (by decide +kernel)) | 1, _ => va_eqt (hs (Cond.eq (Term.elem (Term.static "TreeClimb" "LEAST_OF_BRANCH" "[I") (Term.int (1 : Int32))) (Term.int (0 : Int32))) (by decide +kernel)) | 2, _ => va_eqt (hs (Cond.eq (Term.elem (Term.static "TreeClimb" "LEAST_OF_BRANCH" "[I") (Term.int (2 : Int32))) (Term.int (1 : Int32))) (by decide +kernel)) | 3, _ => va_eqt (hs (Cond.eq (Term.elem (Term.static "TreeClimb" "LEAST_OF_BRANCH" "[I") (Term.int (3 : Int32))) (Term.int (0 : Int32))) (by decide +kernel)) | n + 4, h => absurd h (by omega)) hA
  exact ⟨t, ht, va_Zref (hts (Cond.laysStatic "TreeClimb" "LEAST_OF_BRANCH" "[I") (by decide +kernel)) (hts (Cond.initialized "TreeClimb") (by decide +kernel)) ht hA, hT⟩
set_option maxRecDepth 100000 in
set_option maxHeartbeats 4000000 in
theorem tb_2 {s : State} {b : Nat} (hts : ∀ x ∈ lw_tbl, x.before #[Value.ref b] s = true) (hs : ∀ x ∈ flatC gvC, x.before #[Value.ref b] s = true) {A : Nat → Prop} (hA : ∀ a : Nat, a < s.heap.size → ¬ A a) : ∃ t : Nat, (Term.static "TreeClimb" "MOST_OF_BRANCH" "[I").eval #[Value.ref b] s none [] s = some (.ref t) ∧ va_Z "TreeClimb" (tnm 2) "[I" (.ref t) A s s.heap ∧ va_T .int t (tvl 2).length (fun j => .int ((tvl 2).getD j 0)) A s s.heap := by
  obtain ⟨t, ht, hT⟩ := va_Tof (tm := Term.static "TreeClimb" "MOST_OF_BRANCH" "[I") (ty := .int) (N := 4) (f := fun j => .int ((tvl 2).getD j 0)) (A := A) (by decide) (hs (Cond.arrayOf (Term.static "TreeClimb" "MOST_OF_BRANCH" "[I") FieldType.int) (by decide +kernel)) (va_eqt (hs (Cond.eq (Term.length (Term.static "TreeClimb" "MOST_OF_BRANCH" "[I")) (Term.int (4 : Int32))) (by decide +kernel))) (fun j hj => match j, hj with | 0, _ => va_eqt (hs (Cond.eq (Term.elem (Term.static "TreeClimb" "MOST_OF_BRANCH" "[I") (Term.int (0 : Int32))) (Term.int (99 : Int32))) (by decide +kernel)) | 1, _ => va_eqt (hs (Cond.eq (Term.elem (Term.static "TreeClimb" "MOST_OF_BRANCH" "[I") (Term.int (1 : Int32))) (Term.int (7 : Int32))) (by decide +kernel)) | 2, _ => va_eqt (hs (Cond.eq (Term.elem (Term.static "TreeClimb" "MOST_OF_BRANCH" "[I") (Term.int (2 : Int32))) (Term.int (30 : Int32))) (by decide +kernel)) | 3, _ => va_eqt (hs (Cond.eq (Term.elem (Term.static "TreeClimb" "MOST_OF_BRANCH" "[I") (Term.int (3 : Int32))) (Term.int (10 : Int32))) (by decide +kernel)) | n + 4, h => absurd h (by omega)) hA
  exact ⟨t, ht, va_Zref (hts (Cond.laysStatic "TreeClimb" "MOST_OF_BRANCH" "[I") (by decide +kernel)) (hts (Cond.initialized "TreeClimb") (by decide +kernel)) ht hA, hT⟩
set_option maxRecDepth 100000 in
set_option maxHeartbeats 4000000 in
theorem tb_3 {s : State} {b : Nat} (hts : ∀ x ∈ lw_tbl, x.before #[Value.ref b] s = true) (hs : ∀ x ∈ flatC gvC, x.before #[Value.ref b] s = true) {A : Nat → Prop} (hA : ∀ a : Nat, a < s.heap.size → ¬ A a) : ∃ t : Nat, (Term.static "TreeClimb" "LEAST_OF_BODY" "[I").eval #[Value.ref b] s none [] s = some (.ref t) ∧ va_Z "TreeClimb" (tnm 3) "[I" (.ref t) A s s.heap ∧ va_T .int t (tvl 3).length (fun j => .int ((tvl 3).getD j 0)) A s s.heap := by
  obtain ⟨t, ht, hT⟩ := va_Tof (tm := Term.static "TreeClimb" "LEAST_OF_BODY" "[I") (ty := .int) (N := 3) (f := fun j => .int ((tvl 3).getD j 0)) (A := A) (by decide) (hs (Cond.arrayOf (Term.static "TreeClimb" "LEAST_OF_BODY" "[I") FieldType.int) (by decide +kernel)) (va_eqt (hs (Cond.eq (Term.length (Term.static "TreeClimb" "LEAST_OF_BODY" "[I")) (Term.int (3 : Int32))) (by decide +kernel))) (fun j hj => match j, hj with | 0, _ => va_eqt (hs (Cond.eq (Term.elem (Term.static "TreeClimb" "LEAST_OF_BODY" "[I") (Term.int (0 : Int32))) (Term.int (1 : Int32))) (by decide +kernel)) | 1, _ => va_eqt (hs (Cond.eq (Term.elem (Term.static "TreeClimb" "LEAST_OF_BODY" "[I") (Term.int (1 : Int32))) (Term.int (1 : Int32))) (by decide +kernel)) | 2, _ => va_eqt (hs (Cond.eq (Term.elem (Term.static "TreeClimb" "LEAST_OF_BODY" "[I") (Term.int (2 : Int32))) (Term.int (0 : Int32))) (by decide +kernel)) | n + 3, h => absurd h (by omega)) hA
  exact ⟨t, ht, va_Zref (hts (Cond.laysStatic "TreeClimb" "LEAST_OF_BODY" "[I") (by decide +kernel)) (hts (Cond.initialized "TreeClimb") (by decide +kernel)) ht hA, hT⟩
set_option maxRecDepth 100000 in
set_option maxHeartbeats 4000000 in
theorem tb_4 {s : State} {b : Nat} (hts : ∀ x ∈ lw_tbl, x.before #[Value.ref b] s = true) (hs : ∀ x ∈ flatC gvC, x.before #[Value.ref b] s = true) {A : Nat → Prop} (hA : ∀ a : Nat, a < s.heap.size → ¬ A a) : ∃ t : Nat, (Term.static "TreeClimb" "MOST_OF_BODY" "[I").eval #[Value.ref b] s none [] s = some (.ref t) ∧ va_Z "TreeClimb" (tnm 4) "[I" (.ref t) A s s.heap ∧ va_T .int t (tvl 4).length (fun j => .int ((tvl 4).getD j 0)) A s s.heap := by
  obtain ⟨t, ht, hT⟩ := va_Tof (tm := Term.static "TreeClimb" "MOST_OF_BODY" "[I") (ty := .int) (N := 3) (f := fun j => .int ((tvl 4).getD j 0)) (A := A) (by decide) (hs (Cond.arrayOf (Term.static "TreeClimb" "MOST_OF_BODY" "[I") FieldType.int) (by decide +kernel)) (va_eqt (hs (Cond.eq (Term.length (Term.static "TreeClimb" "MOST_OF_BODY" "[I")) (Term.int (3 : Int32))) (by decide +kernel))) (fun j hj => match j, hj with | 0, _ => va_eqt (hs (Cond.eq (Term.elem (Term.static "TreeClimb" "MOST_OF_BODY" "[I") (Term.int (0 : Int32))) (Term.int (30 : Int32))) (by decide +kernel)) | 1, _ => va_eqt (hs (Cond.eq (Term.elem (Term.static "TreeClimb" "MOST_OF_BODY" "[I") (Term.int (1 : Int32))) (Term.int (99 : Int32))) (by decide +kernel)) | 2, _ => va_eqt (hs (Cond.eq (Term.elem (Term.static "TreeClimb" "MOST_OF_BODY" "[I") (Term.int (2 : Int32))) (Term.int (9 : Int32))) (by decide +kernel)) | n + 3, h => absurd h (by omega)) hA
  exact ⟨t, ht, va_Zref (hts (Cond.laysStatic "TreeClimb" "MOST_OF_BODY" "[I") (by decide +kernel)) (hts (Cond.initialized "TreeClimb") (by decide +kernel)) ht hA, hT⟩
set_option maxRecDepth 100000 in
set_option maxHeartbeats 4000000 in
theorem tb_5 {s : State} {b : Nat} (hts : ∀ x ∈ lw_tbl, x.before #[Value.ref b] s = true) (hs : ∀ x ∈ flatC gvC, x.before #[Value.ref b] s = true) {A : Nat → Prop} (hA : ∀ a : Nat, a < s.heap.size → ¬ A a) : ∃ t : Nat, (Term.static "TreeClimb" "LEAST_TUNE" "[I").eval #[Value.ref b] s none [] s = some (.ref t) ∧ va_Z "TreeClimb" (tnm 5) "[I" (.ref t) A s s.heap ∧ va_T .int t (tvl 5).length (fun j => .int ((tvl 5).getD j 0)) A s s.heap := by
  obtain ⟨t, ht, hT⟩ := va_Tof (tm := Term.static "TreeClimb" "LEAST_TUNE" "[I") (ty := .int) (N := 6) (f := fun j => .int ((tvl 5).getD j 0)) (A := A) (by decide) (hs (Cond.arrayOf (Term.static "TreeClimb" "LEAST_TUNE" "[I") FieldType.int) (by decide +kernel)) (va_eqt (hs (Cond.eq (Term.length (Term.static "TreeClimb" "LEAST_TUNE" "[I")) (Term.int (6 : Int32))) (by decide +kernel))) (fun j hj => match j, hj with | 0, _ => va_eqt (hs (Cond.eq (Term.elem (Term.static "TreeClimb" "LEAST_TUNE" "[I") (Term.int (0 : Int32))) (Term.int (1 : Int32))) (by decide +kernel)) | 1, _ => va_eqt (hs (Cond.eq (Term.elem (Term.static "TreeClimb" "LEAST_TUNE" "[I") (Term.int (1 : Int32))) (Term.int (0 : Int32))) (by decide +kernel)) | 2, _ => va_eqt (hs (Cond.eq (Term.elem (Term.static "TreeClimb" "LEAST_TUNE" "[I") (Term.int (2 : Int32))) (Term.int (0 : Int32))) (by decide +kernel)) | 3, _ => va_eqt (hs (Cond.eq (Term.elem (Term.static "TreeClimb" "LEAST_TUNE" "[I") (Term.int (3 : Int32))) (Term.int (0 : Int32))) (by decide +kernel)) | 4, _ => va_eqt (hs (Cond.eq (Term.elem (Term.static "TreeClimb" "LEAST_TUNE" "[I") (Term.int (4 : Int32))) (Term.int (1 : Int32))) (by decide +kernel)) | 5, _ => va_eqt (hs (Cond.eq (Term.elem (Term.static "TreeClimb" "LEAST_TUNE" "[I") (Term.int (5 : Int32))) (Term.int (0 : Int32))) (by decide +kernel)) | n + 6, h => absurd h (by omega)) hA
  exact ⟨t, ht, va_Zref (hts (Cond.laysStatic "TreeClimb" "LEAST_TUNE" "[I") (by decide +kernel)) (hts (Cond.initialized "TreeClimb") (by decide +kernel)) ht hA, hT⟩
set_option maxRecDepth 100000 in
set_option maxHeartbeats 4000000 in
theorem tb_6 {s : State} {b : Nat} (hts : ∀ x ∈ lw_tbl, x.before #[Value.ref b] s = true) (hs : ∀ x ∈ flatC gvC, x.before #[Value.ref b] s = true) {A : Nat → Prop} (hA : ∀ a : Nat, a < s.heap.size → ¬ A a) : ∃ t : Nat, (Term.static "TreeClimb" "MOST_TUNE" "[I").eval #[Value.ref b] s none [] s = some (.ref t) ∧ va_Z "TreeClimb" (tnm 6) "[I" (.ref t) A s s.heap ∧ va_T .int t (tvl 6).length (fun j => .int ((tvl 6).getD j 0)) A s s.heap := by
  obtain ⟨t, ht, hT⟩ := va_Tof (tm := Term.static "TreeClimb" "MOST_TUNE" "[I") (ty := .int) (N := 6) (f := fun j => .int ((tvl 6).getD j 0)) (A := A) (by decide) (hs (Cond.arrayOf (Term.static "TreeClimb" "MOST_TUNE" "[I") FieldType.int) (by decide +kernel)) (va_eqt (hs (Cond.eq (Term.length (Term.static "TreeClimb" "MOST_TUNE" "[I")) (Term.int (6 : Int32))) (by decide +kernel))) (fun j hj => match j, hj with | 0, _ => va_eqt (hs (Cond.eq (Term.elem (Term.static "TreeClimb" "MOST_TUNE" "[I") (Term.int (0 : Int32))) (Term.int (9 : Int32))) (by decide +kernel)) | 1, _ => va_eqt (hs (Cond.eq (Term.elem (Term.static "TreeClimb" "MOST_TUNE" "[I") (Term.int (1 : Int32))) (Term.int (4 : Int32))) (by decide +kernel)) | 2, _ => va_eqt (hs (Cond.eq (Term.elem (Term.static "TreeClimb" "MOST_TUNE" "[I") (Term.int (2 : Int32))) (Term.int (9 : Int32))) (by decide +kernel)) | 3, _ => va_eqt (hs (Cond.eq (Term.elem (Term.static "TreeClimb" "MOST_TUNE" "[I") (Term.int (3 : Int32))) (Term.int (10 : Int32))) (by decide +kernel)) | 4, _ => va_eqt (hs (Cond.eq (Term.elem (Term.static "TreeClimb" "MOST_TUNE" "[I") (Term.int (4 : Int32))) (Term.int (9 : Int32))) (by decide +kernel)) | 5, _ => va_eqt (hs (Cond.eq (Term.elem (Term.static "TreeClimb" "MOST_TUNE" "[I") (Term.int (5 : Int32))) (Term.int (20 : Int32))) (by decide +kernel)) | n + 6, h => absurd h (by omega)) hA
  exact ⟨t, ht, va_Zref (hts (Cond.laysStatic "TreeClimb" "MOST_TUNE" "[I") (by decide +kernel)) (hts (Cond.initialized "TreeClimb") (by decide +kernel)) ht hA, hT⟩
set_option maxRecDepth 100000 in
theorem ft_0 {s : State} {b t : Nat} (hs : ∀ x ∈ flatC gvC, x.before #[Value.ref b] s = true) {A : Nat → Prop} (ht : (Term.static "TreeClimb" "FIRST_TUNE" "[I").eval #[Value.ref b] s none [] s = some (.ref t)) (hT : va_T .int t (tvl 0).length (fun j => .int ((tvl 0).getD j 0)) A s s.heap) : ∃ cell : Cell, s.heap[t]? = some cell ∧ cell.vm ≠ .unknown ∧ cell.vm.isStatics = false ∧ s.vm.findClass "[I" = some cell.cls ∧ cell.slots.size = 6 ∧ (∀ j, j < 6 → cell.slots[j]? = some (.int ((tvl 0).getD j 0))) ∧ ¬ A t := by
  obtain ⟨cell, h1, h2, h3, h4, h5, h6, h7⟩ := hT
  obtain ⟨a, c, cA, kA, q1, q2, q3, q4, q5, q6, -⟩ := Cond.exactly_spec (args := #[Value.ref b]) (first := s) (o := none) (s := s) (idx := []) (t := Term.static "TreeClimb" "FIRST_TUNE" "[I") (cls := "[I") (hs (Cond.exactly (Term.static "TreeClimb" "FIRST_TUNE" "[I") "[I") (by decide +kernel))
  cases ht.symm.trans q1
  cases h1.symm.trans q3
  obtain ⟨b2, cell2, p1, p2, p3, -⟩ := Jvm.Lib.length_spec (va_eqt (hs (Cond.eq (Term.length (Term.static "TreeClimb" "FIRST_TUNE" "[I")) (Term.int (6 : Int32))) (by decide +kernel)))
  cases ht.symm.trans p1
  cases h1.symm.trans (State.arrayAt?_spec p2).1
  refine ⟨cell, h1, h3, q5, by rw [q6]; exact q2, ?_, h6, h7⟩
  have e : nI cell.slots.size = nI 6 := h5
  exact (nI_eq p3 (by decide)).mp e
set_option maxRecDepth 100000 in
set_option maxHeartbeats 8000000 in
theorem sg_0 {s : State} {b : Nat} (hs : ∀ x ∈ flatC gvC, x.before #[Value.ref b] s = true) {A : Nat → Prop} (hA : ∀ a : Nat, a < s.heap.size → ¬ A a) : ∃ adK adV : Nat → Nat, vk_S 4 sLen sByt adK adV A s s.heap ∧ ∀ i : Nat, i < 4 → (Term.string "TreeClimb$Text" (sIx i)).eval #[Value.ref b] s none [] s = some (.ref (adK i)) := by
  refine vk_Sof (tm := fun i => Term.string "TreeClimb$Text" (sIx i)) (by decide) (fun i hi => match i, hi with | 0, _ => hs (Cond.exactly (Term.string "TreeClimb$Text" (55 : Nat)) "java/lang/String") (by decide +kernel) | 1, _ => hs (Cond.exactly (Term.string "TreeClimb$Text" (61 : Nat)) "java/lang/String") (by decide +kernel) | 2, _ => hs (Cond.exactly (Term.string "TreeClimb$Text" (63 : Nat)) "java/lang/String") (by decide +kernel) | 3, _ => hs (Cond.exactly (Term.string "TreeClimb$Text" (65 : Nat)) "java/lang/String") (by decide +kernel) | n + 4, h => absurd h (by omega)) (fun i hi => match i, hi with | 0, _ => hs (Cond.eq (Term.field (Term.string "TreeClimb$Text" (55 : Nat)) "java/lang/String" "coder" "B") (Term.int (0 : Int32))) (by decide +kernel) | 1, _ => hs (Cond.eq (Term.field (Term.string "TreeClimb$Text" (61 : Nat)) "java/lang/String" "coder" "B") (Term.int (0 : Int32))) (by decide +kernel) | 2, _ => hs (Cond.eq (Term.field (Term.string "TreeClimb$Text" (63 : Nat)) "java/lang/String" "coder" "B") (Term.int (0 : Int32))) (by decide +kernel) | 3, _ => hs (Cond.eq (Term.field (Term.string "TreeClimb$Text" (65 : Nat)) "java/lang/String" "coder" "B") (Term.int (0 : Int32))) (by decide +kernel) | n + 4, h => absurd h (by omega)) (fun i hi => match i, hi with | 0, _ => hs (Cond.arrayOf (Term.field (Term.string "TreeClimb$Text" (55 : Nat)) "java/lang/String" "value" "[B") FieldType.byte) (by decide +kernel) | 1, _ => hs (Cond.arrayOf (Term.field (Term.string "TreeClimb$Text" (61 : Nat)) "java/lang/String" "value" "[B") FieldType.byte) (by decide +kernel) | 2, _ => hs (Cond.arrayOf (Term.field (Term.string "TreeClimb$Text" (63 : Nat)) "java/lang/String" "value" "[B") FieldType.byte) (by decide +kernel) | 3, _ => hs (Cond.arrayOf (Term.field (Term.string "TreeClimb$Text" (65 : Nat)) "java/lang/String" "value" "[B") FieldType.byte) (by decide +kernel) | n + 4, h => absurd h (by omega)) (fun i hi => match i, hi with | 0, _ => hs (Cond.eq (Term.length (Term.field (Term.string "TreeClimb$Text" (55 : Nat)) "java/lang/String" "value" "[B")) (Term.int (6 : Int32))) (by decide +kernel) | 1, _ => hs (Cond.eq (Term.length (Term.field (Term.string "TreeClimb$Text" (61 : Nat)) "java/lang/String" "value" "[B")) (Term.int (3 : Int32))) (by decide +kernel) | 2, _ => hs (Cond.eq (Term.length (Term.field (Term.string "TreeClimb$Text" (63 : Nat)) "java/lang/String" "value" "[B")) (Term.int (4 : Int32))) (by decide +kernel) | 3, _ => hs (Cond.eq (Term.length (Term.field (Term.string "TreeClimb$Text" (65 : Nat)) "java/lang/String" "value" "[B")) (Term.int (4 : Int32))) (by decide +kernel) | n + 4, h => absurd h (by omega)) ?_ ?_ hA
  · intro i hi
    match i, hi with
    | 0, _ => exact fun j hj => match j, hj with | 0, _ => hs (Cond.eq (Term.elem (Term.field (Term.string "TreeClimb$Text" (55 : Nat)) "java/lang/String" "value" "[B") (Term.int (0 : Int32))) (Term.int (98 : Int32))) (by decide +kernel) | 1, _ => hs (Cond.eq (Term.elem (Term.field (Term.string "TreeClimb$Text" (55 : Nat)) "java/lang/String" "value" "[B") (Term.int (1 : Int32))) (Term.int (114 : Int32))) (by decide +kernel) | 2, _ => hs (Cond.eq (Term.elem (Term.field (Term.string "TreeClimb$Text" (55 : Nat)) "java/lang/String" "value" "[B") (Term.int (2 : Int32))) (Term.int (97 : Int32))) (by decide +kernel) | 3, _ => hs (Cond.eq (Term.elem (Term.field (Term.string "TreeClimb$Text" (55 : Nat)) "java/lang/String" "value" "[B") (Term.int (3 : Int32))) (Term.int (110 : Int32))) (by decide +kernel) | 4, _ => hs (Cond.eq (Term.elem (Term.field (Term.string "TreeClimb$Text" (55 : Nat)) "java/lang/String" "value" "[B") (Term.int (4 : Int32))) (Term.int (99 : Int32))) (by decide +kernel) | 5, _ => hs (Cond.eq (Term.elem (Term.field (Term.string "TreeClimb$Text" (55 : Nat)) "java/lang/String" "value" "[B") (Term.int (5 : Int32))) (Term.int (104 : Int32))) (by decide +kernel) | n + 6, h => absurd (show n + 6 < 6 from h) (by omega)
    | 1, _ => exact fun j hj => match j, hj with | 0, _ => hs (Cond.eq (Term.elem (Term.field (Term.string "TreeClimb$Text" (61 : Nat)) "java/lang/String" "value" "[B") (Term.int (0 : Int32))) (Term.int (119 : Int32))) (by decide +kernel) | 1, _ => hs (Cond.eq (Term.elem (Term.field (Term.string "TreeClimb$Text" (61 : Nat)) "java/lang/String" "value" "[B") (Term.int (1 : Int32))) (Term.int (101 : Int32))) (by decide +kernel) | 2, _ => hs (Cond.eq (Term.elem (Term.field (Term.string "TreeClimb$Text" (61 : Nat)) "java/lang/String" "value" "[B") (Term.int (2 : Int32))) (Term.int (116 : Int32))) (by decide +kernel) | n + 3, h => absurd (show n + 3 < 3 from h) (by omega)
    | 2, _ => exact fun j hj => match j, hj with | 0, _ => hs (Cond.eq (Term.elem (Term.field (Term.string "TreeClimb$Text" (63 : Nat)) "java/lang/String" "value" "[B") (Term.int (0 : Int32))) (Term.int (110 : Int32))) (by decide +kernel) | 1, _ => hs (Cond.eq (Term.elem (Term.field (Term.string "TreeClimb$Text" (63 : Nat)) "java/lang/String" "value" "[B") (Term.int (1 : Int32))) (Term.int (101 : Int32))) (by decide +kernel) | 2, _ => hs (Cond.eq (Term.elem (Term.field (Term.string "TreeClimb$Text" (63 : Nat)) "java/lang/String" "value" "[B") (Term.int (2 : Int32))) (Term.int (115 : Int32))) (by decide +kernel) | 3, _ => hs (Cond.eq (Term.elem (Term.field (Term.string "TreeClimb$Text" (63 : Nat)) "java/lang/String" "value" "[B") (Term.int (3 : Int32))) (Term.int (116 : Int32))) (by decide +kernel) | n + 4, h => absurd (show n + 4 < 4 from h) (by omega)
    | 3, _ => exact fun j hj => match j, hj with | 0, _ => hs (Cond.eq (Term.elem (Term.field (Term.string "TreeClimb$Text" (65 : Nat)) "java/lang/String" "value" "[B") (Term.int (0 : Int32))) (Term.int (98 : Int32))) (by decide +kernel) | 1, _ => hs (Cond.eq (Term.elem (Term.field (Term.string "TreeClimb$Text" (65 : Nat)) "java/lang/String" "value" "[B") (Term.int (1 : Int32))) (Term.int (111 : Int32))) (by decide +kernel) | 2, _ => hs (Cond.eq (Term.elem (Term.field (Term.string "TreeClimb$Text" (65 : Nat)) "java/lang/String" "value" "[B") (Term.int (2 : Int32))) (Term.int (100 : Int32))) (by decide +kernel) | 3, _ => hs (Cond.eq (Term.elem (Term.field (Term.string "TreeClimb$Text" (65 : Nat)) "java/lang/String" "value" "[B") (Term.int (3 : Int32))) (Term.int (121 : Int32))) (by decide +kernel) | n + 4, h => absurd (show n + 4 < 4 from h) (by omega)
    | n + 4, h => exact absurd h (by omega)
  · intro i j hi hj hij
    match i, j, hi, hj with
    | 0, 0, _, _ => exact absurd rfl hij
    | 0, 1, _, _ => exact Or.inl (hs (Cond.not (Cond.eq (Term.string "TreeClimb$Text" (55 : Nat)) (Term.string "TreeClimb$Text" (61 : Nat)))) (by decide +kernel))
    | 0, 2, _, _ => exact Or.inl (hs (Cond.not (Cond.eq (Term.string "TreeClimb$Text" (55 : Nat)) (Term.string "TreeClimb$Text" (63 : Nat)))) (by decide +kernel))
    | 0, 3, _, _ => exact Or.inl (hs (Cond.not (Cond.eq (Term.string "TreeClimb$Text" (55 : Nat)) (Term.string "TreeClimb$Text" (65 : Nat)))) (by decide +kernel))
    | 1, 0, _, _ => exact Or.inr (hs (Cond.not (Cond.eq (Term.string "TreeClimb$Text" (55 : Nat)) (Term.string "TreeClimb$Text" (61 : Nat)))) (by decide +kernel))
    | 1, 1, _, _ => exact absurd rfl hij
    | 1, 2, _, _ => exact Or.inl (hs (Cond.not (Cond.eq (Term.string "TreeClimb$Text" (61 : Nat)) (Term.string "TreeClimb$Text" (63 : Nat)))) (by decide +kernel))
    | 1, 3, _, _ => exact Or.inl (hs (Cond.not (Cond.eq (Term.string "TreeClimb$Text" (61 : Nat)) (Term.string "TreeClimb$Text" (65 : Nat)))) (by decide +kernel))
    | 2, 0, _, _ => exact Or.inr (hs (Cond.not (Cond.eq (Term.string "TreeClimb$Text" (55 : Nat)) (Term.string "TreeClimb$Text" (63 : Nat)))) (by decide +kernel))
    | 2, 1, _, _ => exact Or.inr (hs (Cond.not (Cond.eq (Term.string "TreeClimb$Text" (61 : Nat)) (Term.string "TreeClimb$Text" (63 : Nat)))) (by decide +kernel))
    | 2, 2, _, _ => exact absurd rfl hij
    | 2, 3, _, _ => exact Or.inl (hs (Cond.not (Cond.eq (Term.string "TreeClimb$Text" (63 : Nat)) (Term.string "TreeClimb$Text" (65 : Nat)))) (by decide +kernel))
    | 3, 0, _, _ => exact Or.inr (hs (Cond.not (Cond.eq (Term.string "TreeClimb$Text" (55 : Nat)) (Term.string "TreeClimb$Text" (65 : Nat)))) (by decide +kernel))
    | 3, 1, _, _ => exact Or.inr (hs (Cond.not (Cond.eq (Term.string "TreeClimb$Text" (61 : Nat)) (Term.string "TreeClimb$Text" (65 : Nat)))) (by decide +kernel))
    | 3, 2, _, _ => exact Or.inr (hs (Cond.not (Cond.eq (Term.string "TreeClimb$Text" (63 : Nat)) (Term.string "TreeClimb$Text" (65 : Nat)))) (by decide +kernel))
    | 3, 3, _, _ => exact absurd rfl hij
    | n + 4, _, h, _ => exact absurd h (by omega)
    | _, n + 4, _, h => exact absurd h (by omega)
set_option maxRecDepth 100000 in
theorem nest_in : ∀ x ∈ nestW, Cond.methodLinkNest x.1 x.2.1 x.2.2.1 x.2.2.2 ∈ lw_tbl := by decide +kernel
def pk7 (a0 a1 a2 a3 a4 a5 a6 : Nat) : Nat → Nat := fun i => [a0, a1, a2, a3, a4, a5, a6].getD i 0
set_option maxRecDepth 100000 in
set_option maxHeartbeats 8000000 in
/-- all that lies below, at the law's start -/
theorem start0 {s : State} {b : Nat} (hts : ∀ x ∈ lw_tbl, x.before #[Value.ref b] s = true) (hgv : gvC.before #[Value.ref b] s = true) (aX0 aM0 : Nat → Nat) : ∃ G : GT, gA G = (fun q => s.heap.size ≤ q) ∧ aX G = aX0 ∧ aM G = aM0 ∧ va_K G.1 vwCl (tysG G) s ∧ Stat G s s.heap ∧ Ext G s s.heap := by
  have hs := flat_of_before _ hgv
  have hA : ∀ a : Nat, a < s.heap.size → ¬ (fun q : Nat => s.heap.size ≤ q) a := fun a h => Nat.not_le.mpr h
  obtain ⟨t0, e0, z0, T0⟩ := tb_0 hts hs hA
  obtain ⟨t1, e1, z1, T1⟩ := tb_1 hts hs hA
  obtain ⟨t2, e2, z2, T2⟩ := tb_2 hts hs hA
  obtain ⟨t3, e3, z3, T3⟩ := tb_3 hts hs hA
  obtain ⟨t4, e4, z4, T4⟩ := tb_4 hts hs hA
  obtain ⟨t5, e5, z5, T5⟩ := tb_5 hts hs hA
  obtain ⟨t6, e6, z6, T6⟩ := tb_6 hts hs hA
  obtain ⟨adK, adV, hS, hK⟩ := sg_0 hs hA
  obtain ⟨c0, i0, kn0⟩ := u_known (C := RX0) (T := TX0) (N := 4) (n := 4) hts (fun w h => wsL_law_in w (inlX0 w h)) (hts _ (wsL_law_in _ mw_30))
  obtain ⟨c1, i1, kn1⟩ := u_known (C := RX1) (T := TX1) (N := 9) (n := 9) hts (fun w h => wsL_law_in w (inlX1 w h)) (hts _ (wsL_law_in _ mw_34))
  obtain ⟨c2, i2, kn2⟩ := u_known (C := RX2) (T := TX2) (N := 6) (n := 6) hts (fun w h => wsL_law_in w (inlX2 w h)) (hts _ (wsL_law_in _ mw_22))
  obtain ⟨c3, i3, kn3⟩ := u_known (C := RX3) (T := TX3) (N := 7) (n := 7) hts (fun w h => wsL_law_in w (inlX3 w h)) (hts _ (wsL_law_in _ mw_26))
  obtain ⟨c4, i4, kn4⟩ := u_known (C := RX4) (T := TX4) (N := 6) (n := 6) hts (fun w h => wsL_law_in w (inlX4 w h)) (hts _ (wsL_law_in _ mw_39))
  obtain ⟨c5, i5, kn5⟩ := u_known (C := RX5) (T := TX5) (N := 9) (n := 9) hts (fun w h => wsL_law_in w (inlX5 w h)) (hts _ (wsL_law_in _ mw_1))
  obtain ⟨c6, i6, kn6⟩ := u_known (C := RX6) (T := TX6) (N := 36) (n := 36) hts (fun w h => wsL_law_in w (inlX6 w h)) (hts _ (wsL_law_in _ mw_4))
  obtain ⟨g0, k0, m0, f0, d0, n0⟩ := Cond.arrayClass_spec (hts (Cond.arrayClass .int) (wsL_law_in _ mw_48))
  obtain ⟨g1, k1, m1, f1, d1, n1⟩ := Cond.arrayClass_spec (hts (Cond.arrayClass .long) (wsL_law_in _ mw_61))
  obtain ⟨g2, k2, m2, f2, d2, n2⟩ := Cond.arrayClass_spec (hts (Cond.arrayClass .byte) (wsL_law_in _ mw_99))
  obtain ⟨g3, k3, m3, f3, d3, n3⟩ := Cond.arrayClass_spec (hts (Cond.arrayClass .boolean) (wsL_law_in _ mw_122))
  have hq : (Cond.arrayOver (.object "TreeClimb$Moment")).before #[Value.ref b] s = true := hts _ (by decide +kernel)
  have hr : (Cond.arrayOver (.array .int)).before #[Value.ref b] s = true := hts _ (by decide +kernel)
  obtain ⟨m4, g4, k4, f4, -, d4, n4, f4'⟩ := Cond.arrayOver_spec hq
  obtain ⟨m5, g5, k5, f5, -, d5, n5, f5'⟩ := aoa_spec (va_AOA.of hr)
  refine ⟨((fun k => [c0, c1, c2, c3, c4, c5, c6].getD k 0, fun k => [i0, i1, i2, i3, i4, i5, i6].getD k (fun _ => 0)), fun q => s.heap.size ≤ q, aX0, aM0, fun k => [g0, g1, g2, g3, g4, g5].getD k 0, pk7 t0 t1 t2 t3 t4 t5 t6, adK, adV), rfl, rfl, rfl, ⟨fun k q hq => ?_, fun k q hq => ?_⟩, ⟨fun i hi => ?_, hS, fun i hi => ?_, ?_, ?_, fun x hx => ?_⟩, ft_0 hs e0 T0, ?_, va_AO.of hq, va_AOA.of hr⟩
  · match k, hq with
    | 0, hq => cases hq; exact kn0
    | 1, hq => cases hq; exact kn1
    | 2, hq => cases hq; exact kn2
    | 3, hq => cases hq; exact kn3
    | 4, hq => cases hq; exact kn4
    | 5, hq => cases hq; exact kn5
    | 6, hq => cases hq; exact kn6
    | k + 7, hq => simp at hq
  · match k, hq with
    | 0, hq => cases hq; exact ⟨fun N z => ⟨fun k h => (by cases h), k0, d0, m0, n0⟩, f0⟩
    | 1, hq => cases hq; exact ⟨fun N z => ⟨fun k h => (by cases h), k1, d1, m1, n1⟩, f1⟩
    | 2, hq => cases hq; exact ⟨fun N z => ⟨fun k h => (by cases h), k2, d2, m2, n2⟩, f2⟩
    | 3, hq => cases hq; exact ⟨fun N z => ⟨fun k h => (by cases h), k3, d3, m3, n3⟩, f3⟩
    | 4, hq => cases hq; exact ⟨fun N z => ⟨fun k h => (by cases h), k4, d4, m4, n4⟩, k4, m4, d4, n4, f4, f4'⟩
    | 5, hq => cases hq; exact ⟨fun N z => ⟨fun k h => (by cases h), k5, d5, m5, n5⟩, f5'⟩
    | k + 6, hq => simp [tysG] at hq
  · match i, hi with
    | 0, _ => exact ⟨z0, T0⟩
    | 1, _ => exact ⟨z1, T1⟩
    | 2, _ => exact ⟨z2, T2⟩
    | 3, _ => exact ⟨z3, T3⟩
    | 4, _ => exact ⟨z4, T4⟩
    | 5, _ => exact ⟨z5, T5⟩
    | 6, _ => exact ⟨z6, T6⟩
    | n + 7, h => exact absurd h (by omega)
  · match i, hi with
    | 0, h => exact vk_R.of (hts (Cond.stringRef "TreeClimb$Text" 55 "branch") (by decide +kernel)) (hK 0 h)
    | 1, h => exact vk_R.of (hts (Cond.stringRef "TreeClimb$Text" 61 "wet") (by decide +kernel)) (hK 1 h)
    | 2, h => exact vk_R.of (hts (Cond.stringRef "TreeClimb$Text" 63 "nest") (by decide +kernel)) (hK 2 h)
    | 3, h => exact vk_R.of (hts (Cond.stringRef "TreeClimb$Text" 65 "body") (by decide +kernel)) (hK 3 h)
    | n + 4, h => exact absurd h (by omega)
  · exact va_Zof (hts (Cond.laysStatic "java/lang/String" "COMPACT_STRINGS" "Z") (by decide +kernel)) (hts (Cond.initialized "java/lang/String") (by decide +kernel)) (va_eqi (hs (Cond.eq (Term.static "java/lang/String" "COMPACT_STRINGS" "Z") (Term.int (1 : Int32))) (by decide +kernel))) hA
  · exact va_Zqof (hts (Cond.laysStatic "jdk/internal/util/Preconditions" "SIOOBE_FORMATTER" "Ljava/util/function/BiFunction;") (by decide +kernel)) (hts (Cond.initialized "jdk/internal/util/Preconditions") (by decide +kernel)) (hs (Cond.isRef (Term.static "jdk/internal/util/Preconditions" "SIOOBE_FORMATTER" "Ljava/util/function/BiFunction;")) (by decide +kernel)) hA
  · exact va_Nw.of rfl (hts _ (nest_in x hx))
  · exact va_Nw.of rfl (hts (Cond.castable "[I" "java/lang/Cloneable") (by decide +kernel))
