/-! THE WORLDS. SS: ints by cell and place, longs by cell and place, flags. wX: the class's 48 cells; wM: the reference's 23. -/
abbrev SS : Type := (Nat → Nat → Int32) × (Nat → Nat → Int64) × (Nat → Bool)
def sI (σ : SS) (k j : Nat) (v : Int32) : SS := (fun q => if q = k then upd (σ.1 k) j v else σ.1 q, σ.2)
def sL (σ : SS) (k j : Nat) (v : Int64) : SS := (σ.1, fun q => if q = k then vp_updL (σ.2.1 k) j v else σ.2.1 q, σ.2.2)
def sB (σ : SS) (k : Nat) (v : Bool) : SS := (σ.1, σ.2.1, fun q => if q = k then v else σ.2.2 q)
def wB (b : Bool) : Nat := cond b 34 20
def bB (b : Bool) : Nat := cond b 11 10
def FU : Nat := 5000

def wX (G : GT) (σ : SS) : va_W := [(aX G 0, .inr (5, [.ref (aX G 1), .ref (aX G 2), .ref (aX G 4), .ref (aX G 12), .ref (aX G 17), .ref (aX G 16), .ref (aX G (wB (σ.2.2 0))), .ref (aX G (wB (σ.2.2 1))), .long (σ.2.1 0 8)])),
  (aX G 1, .inl (gC G 0, 6, .inl (σ.1 1))),
  (aX G 2, .inr (2, [.ref (aX G 3), .int (σ.1 2 1), .int (σ.1 2 2), .int (σ.1 2 3), .int (σ.1 2 4), .int (σ.1 2 5)])),
  (aX G 3, .inl (gC G 0, 400, .inl (σ.1 3))),
  (aX G 4, .inr (3, [.ref (aX G 5), .ref (aX G 6), .ref (aX G 7), .ref (aX G 8), .ref (aX G 9), .ref (aX G (bB (σ.2.2 2))), .ref (aX G (bB (σ.2.2 3)))])),
  (aX G 5, .inl (gC G 0, 13, .inl (σ.1 5))),
  (aX G 6, .inl (gC G 0, 13, .inl (σ.1 6))),
  (aX G 7, .inl (gC G 0, 13, .inl (σ.1 7))),
  (aX G 8, .inl (gC G 1, 13, .inr (.inl (σ.2.1 8)))),
  (aX G 9, .inl (gC G 1, 13, .inr (.inl (σ.2.1 9)))),
  (aX G 10, .inl (gC G 1, 13, .inr (.inl (σ.2.1 10)))),
  (aX G 11, .inl (gC G 1, 13, .inr (.inl (σ.2.1 11)))),
  (aX G 12, .inr (0, [.int (σ.1 12 0), .ref (aX G 13), .ref (aX G 14), .ref (aX G 15)])),
  (aX G 13, .inl (gC G 0, 40, .inl (σ.1 13))),
  (aX G 14, .inl (gC G 0, 40, .inl (σ.1 14))),
  (aX G 15, .inl (gC G 0, 40, .inl (σ.1 15))),
  (aX G 16, .inl (gC G 4, 2, .inr (.inr (.inr (.inr (fun i => if i < 2 then some (aX G (17 + (1 + i))) else none)))))),
  (aX G 17, .inr (1, [.int (σ.1 17 0), .int (σ.1 17 1), .int (σ.1 17 2), .int (σ.1 17 3), .int (σ.1 17 4), .int (σ.1 17 5), .int (σ.1 17 6), .int (σ.1 17 7), .int (σ.1 17 8)])),
  (aX G 18, .inr (1, [.int (σ.1 18 0), .int (σ.1 18 1), .int (σ.1 18 2), .int (σ.1 18 3), .int (σ.1 18 4), .int (σ.1 18 5), .int (σ.1 18 6), .int (σ.1 18 7), .int (σ.1 18 8)])),
  (aX G 19, .inr (1, [.int (σ.1 19 0), .int (σ.1 19 1), .int (σ.1 19 2), .int (σ.1 19 3), .int (σ.1 19 4), .int (σ.1 19 5), .int (σ.1 19 6), .int (σ.1 19 7), .int (σ.1 19 8)])),
  (aX G 20, .inr (4, [.int (σ.1 20 0), .int (σ.1 20 1), .ref (aX G (21)), .ref (aX G (28)), .ref (aX G (32)), .ref (aX G (33))])),
  (aX G 21, .inl (gC G 5, 6, .inr (.inr (.inr (.inr (fun i => if i < 6 then some (aX G (22 + i)) else none)))))),
  (aX G 22, .inl (gC G 0, 12, .inl (σ.1 22))),
  (aX G 23, .inl (gC G 0, 12, .inl (σ.1 23))),
  (aX G 24, .inl (gC G 0, 12, .inl (σ.1 24))),
  (aX G 25, .inl (gC G 0, 12, .inl (σ.1 25))),
  (aX G 26, .inl (gC G 0, 12, .inl (σ.1 26))),
  (aX G 27, .inl (gC G 0, 12, .inl (σ.1 27))),
  (aX G 28, .inl (gC G 5, 3, .inr (.inr (.inr (.inr (fun i => if i < 3 then some (aX G (29 + i)) else none)))))),
  (aX G 29, .inl (gC G 0, 3, .inl (σ.1 29))),
  (aX G 30, .inl (gC G 0, 3, .inl (σ.1 30))),
  (aX G 31, .inl (gC G 0, 3, .inl (σ.1 31))),
  (aX G 32, .inl (gC G 0, 12, .inl (σ.1 32))),
  (aX G 33, .inl (gC G 0, 12, .inl (σ.1 33))),
  (aX G 34, .inr (4, [.int (σ.1 34 0), .int (σ.1 34 1), .ref (aX G (35)), .ref (aX G (42)), .ref (aX G (46)), .ref (aX G (47))])),
  (aX G 35, .inl (gC G 5, 6, .inr (.inr (.inr (.inr (fun i => if i < 6 then some (aX G (36 + i)) else none)))))),
  (aX G 36, .inl (gC G 0, 12, .inl (σ.1 36))),
  (aX G 37, .inl (gC G 0, 12, .inl (σ.1 37))),
  (aX G 38, .inl (gC G 0, 12, .inl (σ.1 38))),
  (aX G 39, .inl (gC G 0, 12, .inl (σ.1 39))),
  (aX G 40, .inl (gC G 0, 12, .inl (σ.1 40))),
  (aX G 41, .inl (gC G 0, 12, .inl (σ.1 41))),
  (aX G 42, .inl (gC G 5, 3, .inr (.inr (.inr (.inr (fun i => if i < 3 then some (aX G (43 + i)) else none)))))),
  (aX G 43, .inl (gC G 0, 3, .inl (σ.1 43))),
  (aX G 44, .inl (gC G 0, 3, .inl (σ.1 44))),
  (aX G 45, .inl (gC G 0, 3, .inl (σ.1 45))),
  (aX G 46, .inl (gC G 0, 12, .inl (σ.1 46))),
  (aX G 47, .inl (gC G 0, 12, .inl (σ.1 47)))]
def wM (G : GT) (σ : SS) : va_W := [(aM G 0, .inr (6, [.long (σ.2.1 0 0), .ref (aM G 1), .int (σ.1 0 2), .ref (aM G 2), .ref (aM G 3), .ref (aM G 4), .ref (aM G 5), .ref (aM G 6), .int (σ.1 0 8), .int (σ.1 0 9), .int (σ.1 0 10), .int (σ.1 0 11), .int (σ.1 0 12), .ref (aM G 7), .int (σ.1 0 14), .int (σ.1 0 15), .int (σ.1 0 16), .int (σ.1 0 17), .ref (aM G 8), .ref (aM G 9), .ref (aM G 10), .ref (aM G 11), .ref (aM G 12), .int (σ.1 0 23), .int (σ.1 0 24), .ref (aM G 13), .ref (aM G 14), .ref (aM G 15), .ref (aM G 16), .ref (aM G 17), .ref (aM G 18), .ref (aM G 19), .ref (aM G 20), .ref (aM G 21), .ref (aM G 22), .ref (aM G 23)])),
  (aM G 1, .inl (gC G 2, 400, .inl (σ.1 1))),
  (aM G 2, .inl (gC G 0, 2, .inl (σ.1 2))),
  (aM G 3, .inl (gC G 0, 144, .inl (σ.1 3))),
  (aM G 4, .inl (gC G 0, 2, .inl (σ.1 4))),
  (aM G 5, .inl (gC G 0, 18, .inl (σ.1 5))),
  (aM G 6, .inl (gC G 0, 6, .inl (σ.1 6))),
  (aM G 7, .inl (gC G 0, 3, .inl (σ.1 7))),
  (aM G 8, .inl (gC G 1, 13, .inr (.inl (σ.2.1 8)))),
  (aM G 9, .inl (gC G 0, 13, .inl (σ.1 9))),
  (aM G 10, .inl (gC G 1, 13, .inr (.inl (σ.2.1 10)))),
  (aM G 11, .inl (gC G 1, 13, .inr (.inl (σ.2.1 11)))),
  (aM G 12, .inl (gC G 1, 13, .inr (.inl (σ.2.1 12)))),
  (aM G 13, .inl (gC G 0, 40, .inl (σ.1 13))),
  (aM G 14, .inl (gC G 0, 40, .inl (σ.1 14))),
  (aM G 15, .inl (gC G 0, 40, .inl (σ.1 15))),
  (aM G 16, .inl (gC G 0, 3, .inl (σ.1 16))),
  (aM G 17, .inl (gC G 0, 3, .inl (σ.1 17))),
  (aM G 18, .inl (gC G 0, 3, .inl (σ.1 18))),
  (aM G 19, .inl (gC G 0, 3, .inl (σ.1 19))),
  (aM G 20, .inl (gC G 0, 3, .inl (σ.1 20))),
  (aM G 21, .inl (gC G 0, 3, .inl (σ.1 21))),
  (aM G 22, .inl (gC G 0, 3, .inl (σ.1 22))),
  (aM G 23, .inl (gC G 3, 2, .inl (σ.1 23)))]
section WROWS
variable {G : GT} {K : KT} {cc : ByteArray} {own : String} {nl fr lo : Nat} {pc : Nat} {lv lv' : List (Nat × Value)} {rest st : List Value} {F : Prop} {σ : SS}
theorem ox_5 : (wX G σ)[0]? = some (aX G 0, .inr (5, [.ref (aX G 1), .ref (aX G 2), .ref (aX G 4), .ref (aX G 12), .ref (aX G 17), .ref (aX G 16), .ref (aX G (wB (σ.2.2 0))), .ref (aX G (wB (σ.2.2 1))), .long (σ.2.1 0 8)])) := rfl
theorem ox_2 : (wX G σ)[2]? = some (aX G 2, .inr (2, [.ref (aX G 3), .int (σ.1 2 1), .int (σ.1 2 2), .int (σ.1 2 3), .int (σ.1 2 4), .int (σ.1 2 5)])) := rfl
theorem ox_3 : (wX G σ)[4]? = some (aX G 4, .inr (3, [.ref (aX G 5), .ref (aX G 6), .ref (aX G 7), .ref (aX G 8), .ref (aX G 9), .ref (aX G (bB (σ.2.2 2))), .ref (aX G (bB (σ.2.2 3)))])) := rfl
theorem ox_0 : (wX G σ)[12]? = some (aX G 12, .inr (0, [.int (σ.1 12 0), .ref (aX G 13), .ref (aX G 14), .ref (aX G 15)])) := rfl
theorem ox_1 (m : Nat) (hm : m < 3) : (wX G σ)[17 + m]? = some (aX G (17 + m), .inr (1, [.int (σ.1 (17 + m) 0), .int (σ.1 (17 + m) 1), .int (σ.1 (17 + m) 2), .int (σ.1 (17 + m) 3), .int (σ.1 (17 + m) 4), .int (σ.1 (17 + m) 5), .int (σ.1 (17 + m) 6), .int (σ.1 (17 + m) 7), .int (σ.1 (17 + m) 8)])) := by
  match m, hm with
  | 0, _ => rfl
  | 1, _ => rfl
  | 2, _ => rfl
theorem ox_4 (b : Bool) : (wX G σ)[wB b]? = some (aX G (wB b), .inr (4, [.int (σ.1 (wB b) 0), .int (σ.1 (wB b) 1), .ref (aX G ((wB b) + 1)), .ref (aX G ((wB b) + 8)), .ref (aX G ((wB b) + 12)), .ref (aX G ((wB b) + 13))])) := by cases b <;> rfl
theorem om_6 : (wM G σ)[0]? = some (aM G 0, .inr (6, [.long (σ.2.1 0 0), .ref (aM G 1), .int (σ.1 0 2), .ref (aM G 2), .ref (aM G 3), .ref (aM G 4), .ref (aM G 5), .ref (aM G 6), .int (σ.1 0 8), .int (σ.1 0 9), .int (σ.1 0 10), .int (σ.1 0 11), .int (σ.1 0 12), .ref (aM G 7), .int (σ.1 0 14), .int (σ.1 0 15), .int (σ.1 0 16), .int (σ.1 0 17), .ref (aM G 8), .ref (aM G 9), .ref (aM G 10), .ref (aM G 11), .ref (aM G 12), .int (σ.1 0 23), .int (σ.1 0 24), .ref (aM G 13), .ref (aM G 14), .ref (aM G 15), .ref (aM G 16), .ref (aM G 17), .ref (aM G 18), .ref (aM G 19), .ref (aM G 20), .ref (aM G 21), .ref (aM G 22), .ref (aM G 23)])) := rfl
theorem rc_5 : ∃ (q0 ci : Nat) (fs : List Value) (T : u_T) (N : Nat), vwCl[ci]? = some (RX5, T, N) ∧ (wX G σ)[q0]? = some (aX G (0), .inr (ci, fs)) := ⟨0, 5, _, TX5, 9, rfl, ox_5⟩
theorem rc_2 : ∃ (q0 ci : Nat) (fs : List Value) (T : u_T) (N : Nat), vwCl[ci]? = some (RX2, T, N) ∧ (wX G σ)[q0]? = some (aX G (2), .inr (ci, fs)) := ⟨2, 2, _, TX2, 6, rfl, ox_2⟩
theorem rc_3 : ∃ (q0 ci : Nat) (fs : List Value) (T : u_T) (N : Nat), vwCl[ci]? = some (RX3, T, N) ∧ (wX G σ)[q0]? = some (aX G (4), .inr (ci, fs)) := ⟨4, 3, _, TX3, 7, rfl, ox_3⟩
theorem rc_0 : ∃ (q0 ci : Nat) (fs : List Value) (T : u_T) (N : Nat), vwCl[ci]? = some (RX0, T, N) ∧ (wX G σ)[q0]? = some (aX G (12), .inr (ci, fs)) := ⟨12, 0, _, TX0, 4, rfl, ox_0⟩
theorem rc_1 (m : Nat) (hm : m < 3) : ∃ (q0 ci : Nat) (fs : List Value) (T : u_T) (N : Nat), vwCl[ci]? = some (RX1, T, N) ∧ (wX G σ)[q0]? = some (aX G (17 + m), .inr (ci, fs)) := ⟨17 + m, 1, _, TX1, 9, rfl, ox_1 m hm⟩
theorem rc_4 (b : Bool) : ∃ (q0 ci : Nat) (fs : List Value) (T : u_T) (N : Nat), vwCl[ci]? = some (RX4, T, N) ∧ (wX G σ)[q0]? = some (aX G (wB b), .inr (ci, fs)) := ⟨wB b, 4, _, TX4, 6, rfl, ox_4 b⟩
theorem rc_6 : ∃ (q0 ci : Nat) (fs : List Value) (T : u_T) (N : Nat), vwCl[ci]? = some (RX6, T, N) ∧ (wM G σ)[q0]? = some (aM G 0, .inr (ci, fs)) := ⟨0, 6, _, TX6, 36, rfl, om_6⟩
theorem g0_entries (C : Ctx G K cc own nl fr lo) {index : Nat} (hq : Cond.fieldLink own index "TreeClimb$Diary" "entries" "I" ∈ wsL_law) (hd : decode cc pc = .ok (.getfield index, 3)) (k : F → V G K (wX G σ) (pc + 3) lv (.int (σ.1 12 0) :: rest)) : F → V G K (wX G σ) pc lv (.ref (aX G 12) :: rest) := v_get C _ (ox_0) rfl inlX0 0 (Nat.le_of_ble_eq_true rfl) rfl hq rfl hd k
theorem e0_entries (v : Int32) : (wX G σ).set (12) (aX G 12, .inr (0, [.int (σ.1 12 0), .ref (aX G 13), .ref (aX G 14), .ref (aX G 15)].set 0 (.int v))) = wX G (sI σ 12 0 v) := rfl
theorem p0_entries (C : Ctx G K cc own nl fr lo) {index : Nat} {v : Int32} (hq : Cond.fieldLink own index "TreeClimb$Diary" "entries" "I" ∈ wsL_law) (hd : decode cc pc = .ok (.putfield index, 3)) (k : F → V G K (wX G (sI σ 12 0 v)) (pc + 3) lv rest) : F → V G K (wX G σ) pc lv (.int v :: .ref (aX G 12) :: rest) := v_put C _ (ox_0) rfl inlX0 tyX0 tyX0_ok nmX0 0 (Nat.le_of_ble_eq_true rfl) rfl hq rfl rfl rfl (Nat.le_of_ble_eq_true rfl) (e0_entries v) hd k
theorem g0_bodies (C : Ctx G K cc own nl fr lo) {index : Nat} (hq : Cond.fieldLink own index "TreeClimb$Diary" "bodies" "[I" ∈ wsL_law) (hd : decode cc pc = .ok (.getfield index, 3)) (k : F → V G K (wX G σ) (pc + 3) lv (.ref (aX G 13) :: rest)) : F → V G K (wX G σ) pc lv (.ref (aX G 12) :: rest) := v_get C _ (ox_0) rfl inlX0 1 (Nat.le_of_ble_eq_true rfl) rfl hq rfl hd k
theorem g0_lookers (C : Ctx G K cc own nl fr lo) {index : Nat} (hq : Cond.fieldLink own index "TreeClimb$Diary" "lookers" "[I" ∈ wsL_law) (hd : decode cc pc = .ok (.getfield index, 3)) (k : F → V G K (wX G σ) (pc + 3) lv (.ref (aX G 14) :: rest)) : F → V G K (wX G σ) pc lv (.ref (aX G 12) :: rest) := v_get C _ (ox_0) rfl inlX0 2 (Nat.le_of_ble_eq_true rfl) rfl hq rfl hd k
theorem g0_tops (C : Ctx G K cc own nl fr lo) {index : Nat} (hq : Cond.fieldLink own index "TreeClimb$Diary" "tops" "[I" ∈ wsL_law) (hd : decode cc pc = .ok (.getfield index, 3)) (k : F → V G K (wX G σ) (pc + 3) lv (.ref (aX G 15) :: rest)) : F → V G K (wX G σ) pc lv (.ref (aX G 12) :: rest) := v_get C _ (ox_0) rfl inlX0 3 (Nat.le_of_ble_eq_true rfl) rfl hq rfl hd k
theorem g1_who (m : Nat) (hm : m < 3) (C : Ctx G K cc own nl fr lo) {index : Nat} (hq : Cond.fieldLink own index "TreeClimb$Moment" "who" "I" ∈ wsL_law) (hd : decode cc pc = .ok (.getfield index, 3)) (k : F → V G K (wX G σ) (pc + 3) lv (.int (σ.1 (17 + m) 0) :: rest)) : F → V G K (wX G σ) pc lv (.ref (aX G (17 + m)) :: rest) := v_get C _ (ox_1 m hm) rfl inlX1 0 (Nat.le_of_ble_eq_true rfl) rfl hq rfl hd k
theorem e1_who (m : Nat) (hm : m < 3) (v : Int32) : (wX G σ).set ((17 + m)) (aX G (17 + m), .inr (1, [.int (σ.1 (17 + m) 0), .int (σ.1 (17 + m) 1), .int (σ.1 (17 + m) 2), .int (σ.1 (17 + m) 3), .int (σ.1 (17 + m) 4), .int (σ.1 (17 + m) 5), .int (σ.1 (17 + m) 6), .int (σ.1 (17 + m) 7), .int (σ.1 (17 + m) 8)].set 0 (.int v))) = wX G (sI σ (17 + m) 0 v) := by
  match m, hm with
  | 0, _ => rfl
  | 1, _ => rfl
  | 2, _ => rfl
theorem p1_who (m : Nat) (hm : m < 3) (C : Ctx G K cc own nl fr lo) {index : Nat} {v : Int32} (hq : Cond.fieldLink own index "TreeClimb$Moment" "who" "I" ∈ wsL_law) (hd : decode cc pc = .ok (.putfield index, 3)) (k : F → V G K (wX G (sI σ (17 + m) 0 v)) (pc + 3) lv rest) : F → V G K (wX G σ) pc lv (.int v :: .ref (aX G (17 + m)) :: rest) := v_put C _ (ox_1 m hm) rfl inlX1 tyX1 tyX1_ok nmX1 0 (Nat.le_of_ble_eq_true rfl) rfl hq rfl rfl rfl (Nat.le_of_ble_eq_true rfl) (e1_who m hm v) hd k
theorem g1_where (m : Nat) (hm : m < 3) (C : Ctx G K cc own nl fr lo) {index : Nat} (hq : Cond.fieldLink own index "TreeClimb$Moment" "where" "I" ∈ wsL_law) (hd : decode cc pc = .ok (.getfield index, 3)) (k : F → V G K (wX G σ) (pc + 3) lv (.int (σ.1 (17 + m) 1) :: rest)) : F → V G K (wX G σ) pc lv (.ref (aX G (17 + m)) :: rest) := v_get C _ (ox_1 m hm) rfl inlX1 1 (Nat.le_of_ble_eq_true rfl) rfl hq rfl hd k
theorem e1_where (m : Nat) (hm : m < 3) (v : Int32) : (wX G σ).set ((17 + m)) (aX G (17 + m), .inr (1, [.int (σ.1 (17 + m) 0), .int (σ.1 (17 + m) 1), .int (σ.1 (17 + m) 2), .int (σ.1 (17 + m) 3), .int (σ.1 (17 + m) 4), .int (σ.1 (17 + m) 5), .int (σ.1 (17 + m) 6), .int (σ.1 (17 + m) 7), .int (σ.1 (17 + m) 8)].set 1 (.int v))) = wX G (sI σ (17 + m) 1 v) := by
  match m, hm with
  | 0, _ => rfl
  | 1, _ => rfl
  | 2, _ => rfl
theorem p1_where (m : Nat) (hm : m < 3) (C : Ctx G K cc own nl fr lo) {index : Nat} {v : Int32} (hq : Cond.fieldLink own index "TreeClimb$Moment" "where" "I" ∈ wsL_law) (hd : decode cc pc = .ok (.putfield index, 3)) (k : F → V G K (wX G (sI σ (17 + m) 1 v)) (pc + 3) lv rest) : F → V G K (wX G σ) pc lv (.int v :: .ref (aX G (17 + m)) :: rest) := v_put C _ (ox_1 m hm) rfl inlX1 tyX1 tyX1_ok nmX1 1 (Nat.le_of_ble_eq_true rfl) rfl hq rfl rfl rfl (Nat.le_of_ble_eq_true rfl) (e1_where m hm v) hd k
theorem g1_hurt (m : Nat) (hm : m < 3) (C : Ctx G K cc own nl fr lo) {index : Nat} (hq : Cond.fieldLink own index "TreeClimb$Moment" "hurt" "I" ∈ wsL_law) (hd : decode cc pc = .ok (.getfield index, 3)) (k : F → V G K (wX G σ) (pc + 3) lv (.int (σ.1 (17 + m) 2) :: rest)) : F → V G K (wX G σ) pc lv (.ref (aX G (17 + m)) :: rest) := v_get C _ (ox_1 m hm) rfl inlX1 2 (Nat.le_of_ble_eq_true rfl) rfl hq rfl hd k
theorem e1_hurt (m : Nat) (hm : m < 3) (v : Int32) : (wX G σ).set ((17 + m)) (aX G (17 + m), .inr (1, [.int (σ.1 (17 + m) 0), .int (σ.1 (17 + m) 1), .int (σ.1 (17 + m) 2), .int (σ.1 (17 + m) 3), .int (σ.1 (17 + m) 4), .int (σ.1 (17 + m) 5), .int (σ.1 (17 + m) 6), .int (σ.1 (17 + m) 7), .int (σ.1 (17 + m) 8)].set 2 (.int v))) = wX G (sI σ (17 + m) 2 v) := by
  match m, hm with
  | 0, _ => rfl
  | 1, _ => rfl
  | 2, _ => rfl
theorem p1_hurt (m : Nat) (hm : m < 3) (C : Ctx G K cc own nl fr lo) {index : Nat} {v : Int32} (hq : Cond.fieldLink own index "TreeClimb$Moment" "hurt" "I" ∈ wsL_law) (hd : decode cc pc = .ok (.putfield index, 3)) (k : F → V G K (wX G (sI σ (17 + m) 2 v)) (pc + 3) lv rest) : F → V G K (wX G σ) pc lv (.int v :: .ref (aX G (17 + m)) :: rest) := v_put C _ (ox_1 m hm) rfl inlX1 tyX1 tyX1_ok nmX1 2 (Nat.le_of_ble_eq_true rfl) rfl hq rfl rfl rfl (Nat.le_of_ble_eq_true rfl) (e1_hurt m hm v) hd k
theorem g1_top (m : Nat) (hm : m < 3) (C : Ctx G K cc own nl fr lo) {index : Nat} (hq : Cond.fieldLink own index "TreeClimb$Moment" "top" "I" ∈ wsL_law) (hd : decode cc pc = .ok (.getfield index, 3)) (k : F → V G K (wX G σ) (pc + 3) lv (.int (σ.1 (17 + m) 3) :: rest)) : F → V G K (wX G σ) pc lv (.ref (aX G (17 + m)) :: rest) := v_get C _ (ox_1 m hm) rfl inlX1 3 (Nat.le_of_ble_eq_true rfl) rfl hq rfl hd k
theorem e1_top (m : Nat) (hm : m < 3) (v : Int32) : (wX G σ).set ((17 + m)) (aX G (17 + m), .inr (1, [.int (σ.1 (17 + m) 0), .int (σ.1 (17 + m) 1), .int (σ.1 (17 + m) 2), .int (σ.1 (17 + m) 3), .int (σ.1 (17 + m) 4), .int (σ.1 (17 + m) 5), .int (σ.1 (17 + m) 6), .int (σ.1 (17 + m) 7), .int (σ.1 (17 + m) 8)].set 3 (.int v))) = wX G (sI σ (17 + m) 3 v) := by
  match m, hm with
  | 0, _ => rfl
  | 1, _ => rfl
  | 2, _ => rfl
theorem p1_top (m : Nat) (hm : m < 3) (C : Ctx G K cc own nl fr lo) {index : Nat} {v : Int32} (hq : Cond.fieldLink own index "TreeClimb$Moment" "top" "I" ∈ wsL_law) (hd : decode cc pc = .ok (.putfield index, 3)) (k : F → V G K (wX G (sI σ (17 + m) 3 v)) (pc + 3) lv rest) : F → V G K (wX G σ) pc lv (.int v :: .ref (aX G (17 + m)) :: rest) := v_put C _ (ox_1 m hm) rfl inlX1 tyX1 tyX1_ok nmX1 3 (Nat.le_of_ble_eq_true rfl) rfl hq rfl rfl rfl (Nat.le_of_ble_eq_true rfl) (e1_top m hm v) hd k
theorem g1_steps (m : Nat) (hm : m < 3) (C : Ctx G K cc own nl fr lo) {index : Nat} (hq : Cond.fieldLink own index "TreeClimb$Moment" "steps" "I" ∈ wsL_law) (hd : decode cc pc = .ok (.getfield index, 3)) (k : F → V G K (wX G σ) (pc + 3) lv (.int (σ.1 (17 + m) 4) :: rest)) : F → V G K (wX G σ) pc lv (.ref (aX G (17 + m)) :: rest) := v_get C _ (ox_1 m hm) rfl inlX1 4 (Nat.le_of_ble_eq_true rfl) rfl hq rfl hd k
theorem e1_steps (m : Nat) (hm : m < 3) (v : Int32) : (wX G σ).set ((17 + m)) (aX G (17 + m), .inr (1, [.int (σ.1 (17 + m) 0), .int (σ.1 (17 + m) 1), .int (σ.1 (17 + m) 2), .int (σ.1 (17 + m) 3), .int (σ.1 (17 + m) 4), .int (σ.1 (17 + m) 5), .int (σ.1 (17 + m) 6), .int (σ.1 (17 + m) 7), .int (σ.1 (17 + m) 8)].set 4 (.int v))) = wX G (sI σ (17 + m) 4 v) := by
  match m, hm with
  | 0, _ => rfl
  | 1, _ => rfl
  | 2, _ => rfl
theorem p1_steps (m : Nat) (hm : m < 3) (C : Ctx G K cc own nl fr lo) {index : Nat} {v : Int32} (hq : Cond.fieldLink own index "TreeClimb$Moment" "steps" "I" ∈ wsL_law) (hd : decode cc pc = .ok (.putfield index, 3)) (k : F → V G K (wX G (sI σ (17 + m) 4 v)) (pc + 3) lv rest) : F → V G K (wX G σ) pc lv (.int v :: .ref (aX G (17 + m)) :: rest) := v_put C _ (ox_1 m hm) rfl inlX1 tyX1 tyX1_ok nmX1 4 (Nat.le_of_ble_eq_true rfl) rfl hq rfl rfl rfl (Nat.le_of_ble_eq_true rfl) (e1_steps m hm v) hd k
theorem g1_falls (m : Nat) (hm : m < 3) (C : Ctx G K cc own nl fr lo) {index : Nat} (hq : Cond.fieldLink own index "TreeClimb$Moment" "falls" "I" ∈ wsL_law) (hd : decode cc pc = .ok (.getfield index, 3)) (k : F → V G K (wX G σ) (pc + 3) lv (.int (σ.1 (17 + m) 5) :: rest)) : F → V G K (wX G σ) pc lv (.ref (aX G (17 + m)) :: rest) := v_get C _ (ox_1 m hm) rfl inlX1 5 (Nat.le_of_ble_eq_true rfl) rfl hq rfl hd k
theorem e1_falls (m : Nat) (hm : m < 3) (v : Int32) : (wX G σ).set ((17 + m)) (aX G (17 + m), .inr (1, [.int (σ.1 (17 + m) 0), .int (σ.1 (17 + m) 1), .int (σ.1 (17 + m) 2), .int (σ.1 (17 + m) 3), .int (σ.1 (17 + m) 4), .int (σ.1 (17 + m) 5), .int (σ.1 (17 + m) 6), .int (σ.1 (17 + m) 7), .int (σ.1 (17 + m) 8)].set 5 (.int v))) = wX G (sI σ (17 + m) 5 v) := by
  match m, hm with
  | 0, _ => rfl
  | 1, _ => rfl
  | 2, _ => rfl
theorem p1_falls (m : Nat) (hm : m < 3) (C : Ctx G K cc own nl fr lo) {index : Nat} {v : Int32} (hq : Cond.fieldLink own index "TreeClimb$Moment" "falls" "I" ∈ wsL_law) (hd : decode cc pc = .ok (.putfield index, 3)) (k : F → V G K (wX G (sI σ (17 + m) 5 v)) (pc + 3) lv rest) : F → V G K (wX G σ) pc lv (.int v :: .ref (aX G (17 + m)) :: rest) := v_put C _ (ox_1 m hm) rfl inlX1 tyX1 tyX1_ok nmX1 5 (Nat.le_of_ble_eq_true rfl) rfl hq rfl rfl rfl (Nat.le_of_ble_eq_true rfl) (e1_falls m hm v) hd k
theorem g1_lot (m : Nat) (hm : m < 3) (C : Ctx G K cc own nl fr lo) {index : Nat} (hq : Cond.fieldLink own index "TreeClimb$Moment" "lot" "I" ∈ wsL_law) (hd : decode cc pc = .ok (.getfield index, 3)) (k : F → V G K (wX G σ) (pc + 3) lv (.int (σ.1 (17 + m) 6) :: rest)) : F → V G K (wX G σ) pc lv (.ref (aX G (17 + m)) :: rest) := v_get C _ (ox_1 m hm) rfl inlX1 6 (Nat.le_of_ble_eq_true rfl) rfl hq rfl hd k
theorem e1_lot (m : Nat) (hm : m < 3) (v : Int32) : (wX G σ).set ((17 + m)) (aX G (17 + m), .inr (1, [.int (σ.1 (17 + m) 0), .int (σ.1 (17 + m) 1), .int (σ.1 (17 + m) 2), .int (σ.1 (17 + m) 3), .int (σ.1 (17 + m) 4), .int (σ.1 (17 + m) 5), .int (σ.1 (17 + m) 6), .int (σ.1 (17 + m) 7), .int (σ.1 (17 + m) 8)].set 6 (.int v))) = wX G (sI σ (17 + m) 6 v) := by
  match m, hm with
  | 0, _ => rfl
  | 1, _ => rfl
  | 2, _ => rfl
theorem p1_lot (m : Nat) (hm : m < 3) (C : Ctx G K cc own nl fr lo) {index : Nat} {v : Int32} (hq : Cond.fieldLink own index "TreeClimb$Moment" "lot" "I" ∈ wsL_law) (hd : decode cc pc = .ok (.putfield index, 3)) (k : F → V G K (wX G (sI σ (17 + m) 6 v)) (pc + 3) lv rest) : F → V G K (wX G σ) pc lv (.int v :: .ref (aX G (17 + m)) :: rest) := v_put C _ (ox_1 m hm) rfl inlX1 tyX1 tyX1_ok nmX1 6 (Nat.le_of_ble_eq_true rfl) rfl hq rfl rfl rfl (Nat.le_of_ble_eq_true rfl) (e1_lot m hm v) hd k
theorem g1_sawn (m : Nat) (hm : m < 3) (C : Ctx G K cc own nl fr lo) {index : Nat} (hq : Cond.fieldLink own index "TreeClimb$Moment" "sawn" "I" ∈ wsL_law) (hd : decode cc pc = .ok (.getfield index, 3)) (k : F → V G K (wX G σ) (pc + 3) lv (.int (σ.1 (17 + m) 7) :: rest)) : F → V G K (wX G σ) pc lv (.ref (aX G (17 + m)) :: rest) := v_get C _ (ox_1 m hm) rfl inlX1 7 (Nat.le_of_ble_eq_true rfl) rfl hq rfl hd k
theorem e1_sawn (m : Nat) (hm : m < 3) (v : Int32) : (wX G σ).set ((17 + m)) (aX G (17 + m), .inr (1, [.int (σ.1 (17 + m) 0), .int (σ.1 (17 + m) 1), .int (σ.1 (17 + m) 2), .int (σ.1 (17 + m) 3), .int (σ.1 (17 + m) 4), .int (σ.1 (17 + m) 5), .int (σ.1 (17 + m) 6), .int (σ.1 (17 + m) 7), .int (σ.1 (17 + m) 8)].set 7 (.int v))) = wX G (sI σ (17 + m) 7 v) := by
  match m, hm with
  | 0, _ => rfl
  | 1, _ => rfl
  | 2, _ => rfl
theorem p1_sawn (m : Nat) (hm : m < 3) (C : Ctx G K cc own nl fr lo) {index : Nat} {v : Int32} (hq : Cond.fieldLink own index "TreeClimb$Moment" "sawn" "I" ∈ wsL_law) (hd : decode cc pc = .ok (.putfield index, 3)) (k : F → V G K (wX G (sI σ (17 + m) 7 v)) (pc + 3) lv rest) : F → V G K (wX G σ) pc lv (.int v :: .ref (aX G (17 + m)) :: rest) := v_put C _ (ox_1 m hm) rfl inlX1 tyX1 tyX1_ok nmX1 7 (Nat.le_of_ble_eq_true rfl) rfl hq rfl rfl rfl (Nat.le_of_ble_eq_true rfl) (e1_sawn m hm v) hd k
theorem g1_kept (m : Nat) (hm : m < 3) (C : Ctx G K cc own nl fr lo) {index : Nat} (hq : Cond.fieldLink own index "TreeClimb$Moment" "kept" "Z" ∈ wsL_law) (hd : decode cc pc = .ok (.getfield index, 3)) (k : F → V G K (wX G σ) (pc + 3) lv (.int (σ.1 (17 + m) 8) :: rest)) : F → V G K (wX G σ) pc lv (.ref (aX G (17 + m)) :: rest) := v_get C _ (ox_1 m hm) rfl inlX1 8 (Nat.le_of_ble_eq_true rfl) rfl hq rfl hd k
theorem e1_kept (m : Nat) (hm : m < 3) (v : Int32) : (wX G σ).set ((17 + m)) (aX G (17 + m), .inr (1, [.int (σ.1 (17 + m) 0), .int (σ.1 (17 + m) 1), .int (σ.1 (17 + m) 2), .int (σ.1 (17 + m) 3), .int (σ.1 (17 + m) 4), .int (σ.1 (17 + m) 5), .int (σ.1 (17 + m) 6), .int (σ.1 (17 + m) 7), .int (σ.1 (17 + m) 8)].set 8 (.int v))) = wX G (sI σ (17 + m) 8 v) := by
  match m, hm with
  | 0, _ => rfl
  | 1, _ => rfl
  | 2, _ => rfl
theorem p1_kept (m : Nat) (hm : m < 3) (C : Ctx G K cc own nl fr lo) {index : Nat} {v : Int32} (hz : v = 0 ∨ v = 1) (hq : Cond.fieldLink own index "TreeClimb$Moment" "kept" "Z" ∈ wsL_law) (hd : decode cc pc = .ok (.putfield index, 3)) (k : F → V G K (wX G (sI σ (17 + m) 8 v)) (pc + 3) lv rest) : F → V G K (wX G σ) pc lv (.int v :: .ref (aX G (17 + m)) :: rest) := v_put C _ (ox_1 m hm) rfl inlX1 tyX1 tyX1_ok nmX1 8 (Nat.le_of_ble_eq_true rfl) rfl hq rfl (by rcases hz with h | h <;> subst h <;> rfl) (by rcases hz with h | h <;> subst h <;> rfl) (Nat.le_of_ble_eq_true rfl) (e1_kept m hm v) hd k
theorem g2_bytes (C : Ctx G K cc own nl fr lo) {index : Nat} (hq : Cond.fieldLink own index "TreeClimb$Text" "bytes" "[I" ∈ wsL_law) (hd : decode cc pc = .ok (.getfield index, 3)) (k : F → V G K (wX G σ) (pc + 3) lv (.ref (aX G 3) :: rest)) : F → V G K (wX G σ) pc lv (.ref (aX G 2) :: rest) := v_get C _ (ox_2) rfl inlX2 0 (Nat.le_of_ble_eq_true rfl) rfl hq rfl hd k
theorem g2_length (C : Ctx G K cc own nl fr lo) {index : Nat} (hq : Cond.fieldLink own index "TreeClimb$Text" "length" "I" ∈ wsL_law) (hd : decode cc pc = .ok (.getfield index, 3)) (k : F → V G K (wX G σ) (pc + 3) lv (.int (σ.1 2 1) :: rest)) : F → V G K (wX G σ) pc lv (.ref (aX G 2) :: rest) := v_get C _ (ox_2) rfl inlX2 1 (Nat.le_of_ble_eq_true rfl) rfl hq rfl hd k
theorem e2_length (v : Int32) : (wX G σ).set (2) (aX G 2, .inr (2, [.ref (aX G 3), .int (σ.1 2 1), .int (σ.1 2 2), .int (σ.1 2 3), .int (σ.1 2 4), .int (σ.1 2 5)].set 1 (.int v))) = wX G (sI σ 2 1 v) := rfl
theorem p2_length (C : Ctx G K cc own nl fr lo) {index : Nat} {v : Int32} (hq : Cond.fieldLink own index "TreeClimb$Text" "length" "I" ∈ wsL_law) (hd : decode cc pc = .ok (.putfield index, 3)) (k : F → V G K (wX G (sI σ 2 1 v)) (pc + 3) lv rest) : F → V G K (wX G σ) pc lv (.int v :: .ref (aX G 2) :: rest) := v_put C _ (ox_2) rfl inlX2 tyX2 tyX2_ok nmX2 1 (Nat.le_of_ble_eq_true rfl) rfl hq rfl rfl rfl (Nat.le_of_ble_eq_true rfl) (e2_length v) hd k
theorem g2_at (C : Ctx G K cc own nl fr lo) {index : Nat} (hq : Cond.fieldLink own index "TreeClimb$Text" "at" "I" ∈ wsL_law) (hd : decode cc pc = .ok (.getfield index, 3)) (k : F → V G K (wX G σ) (pc + 3) lv (.int (σ.1 2 2) :: rest)) : F → V G K (wX G σ) pc lv (.ref (aX G 2) :: rest) := v_get C _ (ox_2) rfl inlX2 2 (Nat.le_of_ble_eq_true rfl) rfl hq rfl hd k
theorem e2_at (v : Int32) : (wX G σ).set (2) (aX G 2, .inr (2, [.ref (aX G 3), .int (σ.1 2 1), .int (σ.1 2 2), .int (σ.1 2 3), .int (σ.1 2 4), .int (σ.1 2 5)].set 2 (.int v))) = wX G (sI σ 2 2 v) := rfl
theorem p2_at (C : Ctx G K cc own nl fr lo) {index : Nat} {v : Int32} (hq : Cond.fieldLink own index "TreeClimb$Text" "at" "I" ∈ wsL_law) (hd : decode cc pc = .ok (.putfield index, 3)) (k : F → V G K (wX G (sI σ 2 2 v)) (pc + 3) lv rest) : F → V G K (wX G σ) pc lv (.int v :: .ref (aX G 2) :: rest) := v_put C _ (ox_2) rfl inlX2 tyX2 tyX2_ok nmX2 2 (Nat.le_of_ble_eq_true rfl) rfl hq rfl rfl rfl (Nat.le_of_ble_eq_true rfl) (e2_at v) hd k
theorem g2_start (C : Ctx G K cc own nl fr lo) {index : Nat} (hq : Cond.fieldLink own index "TreeClimb$Text" "start" "I" ∈ wsL_law) (hd : decode cc pc = .ok (.getfield index, 3)) (k : F → V G K (wX G σ) (pc + 3) lv (.int (σ.1 2 3) :: rest)) : F → V G K (wX G σ) pc lv (.ref (aX G 2) :: rest) := v_get C _ (ox_2) rfl inlX2 3 (Nat.le_of_ble_eq_true rfl) rfl hq rfl hd k
theorem e2_start (v : Int32) : (wX G σ).set (2) (aX G 2, .inr (2, [.ref (aX G 3), .int (σ.1 2 1), .int (σ.1 2 2), .int (σ.1 2 3), .int (σ.1 2 4), .int (σ.1 2 5)].set 3 (.int v))) = wX G (sI σ 2 3 v) := rfl
theorem p2_start (C : Ctx G K cc own nl fr lo) {index : Nat} {v : Int32} (hq : Cond.fieldLink own index "TreeClimb$Text" "start" "I" ∈ wsL_law) (hd : decode cc pc = .ok (.putfield index, 3)) (k : F → V G K (wX G (sI σ 2 3 v)) (pc + 3) lv rest) : F → V G K (wX G σ) pc lv (.int v :: .ref (aX G 2) :: rest) := v_put C _ (ox_2) rfl inlX2 tyX2 tyX2_ok nmX2 3 (Nat.le_of_ble_eq_true rfl) rfl hq rfl rfl rfl (Nat.le_of_ble_eq_true rfl) (e2_start v) hd k
theorem g2_token (C : Ctx G K cc own nl fr lo) {index : Nat} (hq : Cond.fieldLink own index "TreeClimb$Text" "token" "I" ∈ wsL_law) (hd : decode cc pc = .ok (.getfield index, 3)) (k : F → V G K (wX G σ) (pc + 3) lv (.int (σ.1 2 4) :: rest)) : F → V G K (wX G σ) pc lv (.ref (aX G 2) :: rest) := v_get C _ (ox_2) rfl inlX2 4 (Nat.le_of_ble_eq_true rfl) rfl hq rfl hd k
theorem e2_token (v : Int32) : (wX G σ).set (2) (aX G 2, .inr (2, [.ref (aX G 3), .int (σ.1 2 1), .int (σ.1 2 2), .int (σ.1 2 3), .int (σ.1 2 4), .int (σ.1 2 5)].set 4 (.int v))) = wX G (sI σ 2 4 v) := rfl
theorem p2_token (C : Ctx G K cc own nl fr lo) {index : Nat} {v : Int32} (hq : Cond.fieldLink own index "TreeClimb$Text" "token" "I" ∈ wsL_law) (hd : decode cc pc = .ok (.putfield index, 3)) (k : F → V G K (wX G (sI σ 2 4 v)) (pc + 3) lv rest) : F → V G K (wX G σ) pc lv (.int v :: .ref (aX G 2) :: rest) := v_put C _ (ox_2) rfl inlX2 tyX2 tyX2_ok nmX2 4 (Nat.le_of_ble_eq_true rfl) rfl hq rfl rfl rfl (Nat.le_of_ble_eq_true rfl) (e2_token v) hd k
theorem g2_number (C : Ctx G K cc own nl fr lo) {index : Nat} (hq : Cond.fieldLink own index "TreeClimb$Text" "number" "I" ∈ wsL_law) (hd : decode cc pc = .ok (.getfield index, 3)) (k : F → V G K (wX G σ) (pc + 3) lv (.int (σ.1 2 5) :: rest)) : F → V G K (wX G σ) pc lv (.ref (aX G 2) :: rest) := v_get C _ (ox_2) rfl inlX2 5 (Nat.le_of_ble_eq_true rfl) rfl hq rfl hd k
theorem e2_number (v : Int32) : (wX G σ).set (2) (aX G 2, .inr (2, [.ref (aX G 3), .int (σ.1 2 1), .int (σ.1 2 2), .int (σ.1 2 3), .int (σ.1 2 4), .int (σ.1 2 5)].set 5 (.int v))) = wX G (sI σ 2 5 v) := rfl
theorem p2_number (C : Ctx G K cc own nl fr lo) {index : Nat} {v : Int32} (hq : Cond.fieldLink own index "TreeClimb$Text" "number" "I" ∈ wsL_law) (hd : decode cc pc = .ok (.putfield index, 3)) (k : F → V G K (wX G (sI σ 2 5 v)) (pc + 3) lv rest) : F → V G K (wX G σ) pc lv (.int v :: .ref (aX G 2) :: rest) := v_put C _ (ox_2) rfl inlX2 tyX2 tyX2_ok nmX2 5 (Nat.le_of_ble_eq_true rfl) rfl hq rfl rfl rfl (Nat.le_of_ble_eq_true rfl) (e2_number v) hd k
theorem g3_next (C : Ctx G K cc own nl fr lo) {index : Nat} (hq : Cond.fieldLink own index "TreeClimb$Ways" "next" "[I" ∈ wsL_law) (hd : decode cc pc = .ok (.getfield index, 3)) (k : F → V G K (wX G σ) (pc + 3) lv (.ref (aX G 5) :: rest)) : F → V G K (wX G σ) pc lv (.ref (aX G 4) :: rest) := v_get C _ (ox_3) rfl inlX3 0 (Nat.le_of_ble_eq_true rfl) rfl hq rfl hd k
theorem g3_tenths (C : Ctx G K cc own nl fr lo) {index : Nat} (hq : Cond.fieldLink own index "TreeClimb$Ways" "tenths" "[I" ∈ wsL_law) (hd : decode cc pc = .ok (.getfield index, 3)) (k : F → V G K (wX G σ) (pc + 3) lv (.ref (aX G 6) :: rest)) : F → V G K (wX G σ) pc lv (.ref (aX G 4) :: rest) := v_get C _ (ox_3) rfl inlX3 1 (Nat.le_of_ble_eq_true rfl) rfl hq rfl hd k
theorem g3_steps (C : Ctx G K cc own nl fr lo) {index : Nat} (hq : Cond.fieldLink own index "TreeClimb$Ways" "steps" "[I" ∈ wsL_law) (hd : decode cc pc = .ok (.getfield index, 3)) (k : F → V G K (wX G σ) (pc + 3) lv (.ref (aX G 7) :: rest)) : F → V G K (wX G σ) pc lv (.ref (aX G 4) :: rest) := v_get C _ (ox_3) rfl inlX3 2 (Nat.le_of_ble_eq_true rfl) rfl hq rfl hd k
theorem g3_odds (C : Ctx G K cc own nl fr lo) {index : Nat} (hq : Cond.fieldLink own index "TreeClimb$Ways" "odds" "[J" ∈ wsL_law) (hd : decode cc pc = .ok (.getfield index, 3)) (k : F → V G K (wX G σ) (pc + 3) lv (.ref (aX G 8) :: rest)) : F → V G K (wX G σ) pc lv (.ref (aX G 4) :: rest) := v_get C _ (ox_3) rfl inlX3 3 (Nat.le_of_ble_eq_true rfl) rfl hq rfl hd k
theorem g3_counts (C : Ctx G K cc own nl fr lo) {index : Nat} (hq : Cond.fieldLink own index "TreeClimb$Ways" "counts" "[J" ∈ wsL_law) (hd : decode cc pc = .ok (.getfield index, 3)) (k : F → V G K (wX G σ) (pc + 3) lv (.ref (aX G 9) :: rest)) : F → V G K (wX G σ) pc lv (.ref (aX G 4) :: rest) := v_get C _ (ox_3) rfl inlX3 4 (Nat.le_of_ble_eq_true rfl) rfl hq rfl hd k
theorem g3_before (C : Ctx G K cc own nl fr lo) {index : Nat} (hq : Cond.fieldLink own index "TreeClimb$Ways" "before" "[J" ∈ wsL_law) (hd : decode cc pc = .ok (.getfield index, 3)) (k : F → V G K (wX G σ) (pc + 3) lv (.ref (aX G (bB (σ.2.2 2))) :: rest)) : F → V G K (wX G σ) pc lv (.ref (aX G 4) :: rest) := v_get C _ (ox_3) rfl inlX3 5 (Nat.le_of_ble_eq_true rfl) rfl hq rfl hd k
theorem g3_after (C : Ctx G K cc own nl fr lo) {index : Nat} (hq : Cond.fieldLink own index "TreeClimb$Ways" "after" "[J" ∈ wsL_law) (hd : decode cc pc = .ok (.getfield index, 3)) (k : F → V G K (wX G σ) (pc + 3) lv (.ref (aX G (bB (σ.2.2 3))) :: rest)) : F → V G K (wX G σ) pc lv (.ref (aX G 4) :: rest) := v_get C _ (ox_3) rfl inlX3 6 (Nat.le_of_ble_eq_true rfl) rfl hq rfl hd k
theorem g4_branches (b : Bool) (C : Ctx G K cc own nl fr lo) {index : Nat} (hq : Cond.fieldLink own index "TreeClimb$Wood" "branches" "I" ∈ wsL_law) (hd : decode cc pc = .ok (.getfield index, 3)) (k : F → V G K (wX G σ) (pc + 3) lv (.int (σ.1 (wB b) 0) :: rest)) : F → V G K (wX G σ) pc lv (.ref (aX G (wB b)) :: rest) := v_get C _ (ox_4 b) rfl inlX4 0 (Nat.le_of_ble_eq_true rfl) rfl hq rfl hd k
theorem e4_branches (b : Bool) (v : Int32) : (wX G σ).set ((wB b)) (aX G (wB b), .inr (4, [.int (σ.1 (wB b) 0), .int (σ.1 (wB b) 1), .ref (aX G ((wB b) + 1)), .ref (aX G ((wB b) + 8)), .ref (aX G ((wB b) + 12)), .ref (aX G ((wB b) + 13))].set 0 (.int v))) = wX G (sI σ (wB b) 0 v) := by cases b <;> rfl
theorem p4_branches (b : Bool) (C : Ctx G K cc own nl fr lo) {index : Nat} {v : Int32} (hq : Cond.fieldLink own index "TreeClimb$Wood" "branches" "I" ∈ wsL_law) (hd : decode cc pc = .ok (.putfield index, 3)) (k : F → V G K (wX G (sI σ (wB b) 0 v)) (pc + 3) lv rest) : F → V G K (wX G σ) pc lv (.int v :: .ref (aX G (wB b)) :: rest) := v_put C _ (ox_4 b) rfl inlX4 tyX4 tyX4_ok nmX4 0 (Nat.le_of_ble_eq_true rfl) rfl hq rfl rfl rfl (Nat.le_of_ble_eq_true rfl) (e4_branches b v) hd k
theorem g4_bodies (b : Bool) (C : Ctx G K cc own nl fr lo) {index : Nat} (hq : Cond.fieldLink own index "TreeClimb$Wood" "bodies" "I" ∈ wsL_law) (hd : decode cc pc = .ok (.getfield index, 3)) (k : F → V G K (wX G σ) (pc + 3) lv (.int (σ.1 (wB b) 1) :: rest)) : F → V G K (wX G σ) pc lv (.ref (aX G (wB b)) :: rest) := v_get C _ (ox_4 b) rfl inlX4 1 (Nat.le_of_ble_eq_true rfl) rfl hq rfl hd k
theorem e4_bodies (b : Bool) (v : Int32) : (wX G σ).set ((wB b)) (aX G (wB b), .inr (4, [.int (σ.1 (wB b) 0), .int (σ.1 (wB b) 1), .ref (aX G ((wB b) + 1)), .ref (aX G ((wB b) + 8)), .ref (aX G ((wB b) + 12)), .ref (aX G ((wB b) + 13))].set 1 (.int v))) = wX G (sI σ (wB b) 1 v) := by cases b <;> rfl
theorem p4_bodies (b : Bool) (C : Ctx G K cc own nl fr lo) {index : Nat} {v : Int32} (hq : Cond.fieldLink own index "TreeClimb$Wood" "bodies" "I" ∈ wsL_law) (hd : decode cc pc = .ok (.putfield index, 3)) (k : F → V G K (wX G (sI σ (wB b) 1 v)) (pc + 3) lv rest) : F → V G K (wX G σ) pc lv (.int v :: .ref (aX G (wB b)) :: rest) := v_put C _ (ox_4 b) rfl inlX4 tyX4 tyX4_ok nmX4 1 (Nat.le_of_ble_eq_true rfl) rfl hq rfl rfl rfl (Nat.le_of_ble_eq_true rfl) (e4_bodies b v) hd k
theorem g4_features (b : Bool) (C : Ctx G K cc own nl fr lo) {index : Nat} (hq : Cond.fieldLink own index "TreeClimb$Wood" "features" "[[I" ∈ wsL_law) (hd : decode cc pc = .ok (.getfield index, 3)) (k : F → V G K (wX G σ) (pc + 3) lv (.ref (aX G ((wB b) + 1)) :: rest)) : F → V G K (wX G σ) pc lv (.ref (aX G (wB b)) :: rest) := v_get C _ (ox_4 b) rfl inlX4 2 (Nat.le_of_ble_eq_true rfl) rfl hq rfl hd k
theorem g4_powers (b : Bool) (C : Ctx G K cc own nl fr lo) {index : Nat} (hq : Cond.fieldLink own index "TreeClimb$Wood" "powers" "[[I" ∈ wsL_law) (hd : decode cc pc = .ok (.getfield index, 3)) (k : F → V G K (wX G σ) (pc + 3) lv (.ref (aX G ((wB b) + 8)) :: rest)) : F → V G K (wX G σ) pc lv (.ref (aX G (wB b)) :: rest) := v_get C _ (ox_4 b) rfl inlX4 3 (Nat.le_of_ble_eq_true rfl) rfl hq rfl hd k
theorem g4_downward (b : Bool) (C : Ctx G K cc own nl fr lo) {index : Nat} (hq : Cond.fieldLink own index "TreeClimb$Wood" "downward" "[I" ∈ wsL_law) (hd : decode cc pc = .ok (.getfield index, 3)) (k : F → V G K (wX G σ) (pc + 3) lv (.ref (aX G ((wB b) + 12)) :: rest)) : F → V G K (wX G σ) pc lv (.ref (aX G (wB b)) :: rest) := v_get C _ (ox_4 b) rfl inlX4 4 (Nat.le_of_ble_eq_true rfl) rfl hq rfl hd k
theorem g4_under (b : Bool) (C : Ctx G K cc own nl fr lo) {index : Nat} (hq : Cond.fieldLink own index "TreeClimb$Wood" "under" "[I" ∈ wsL_law) (hd : decode cc pc = .ok (.getfield index, 3)) (k : F → V G K (wX G σ) (pc + 3) lv (.ref (aX G ((wB b) + 13)) :: rest)) : F → V G K (wX G σ) pc lv (.ref (aX G (wB b)) :: rest) := v_get C _ (ox_4 b) rfl inlX4 5 (Nat.le_of_ble_eq_true rfl) rfl hq rfl hd k
theorem g5_tunes (C : Ctx G K cc own nl fr lo) {index : Nat} (hq : Cond.fieldLink own index "TreeClimb" "tunes" "[I" ∈ wsL_law) (hd : decode cc pc = .ok (.getfield index, 3)) (k : F → V G K (wX G σ) (pc + 3) lv (.ref (aX G 1) :: rest)) : F → V G K (wX G σ) pc lv (.ref (aX G 0) :: rest) := v_get C _ (ox_5) rfl inlX5 0 (Nat.le_of_ble_eq_true rfl) rfl hq rfl hd k
theorem g5_text (C : Ctx G K cc own nl fr lo) {index : Nat} (hq : Cond.fieldLink own index "TreeClimb" "text" "LTreeClimb$Text;" ∈ wsL_law) (hd : decode cc pc = .ok (.getfield index, 3)) (k : F → V G K (wX G σ) (pc + 3) lv (.ref (aX G 2) :: rest)) : F → V G K (wX G σ) pc lv (.ref (aX G 0) :: rest) := v_get C _ (ox_5) rfl inlX5 1 (Nat.le_of_ble_eq_true rfl) rfl hq rfl hd k
theorem g5_ways (C : Ctx G K cc own nl fr lo) {index : Nat} (hq : Cond.fieldLink own index "TreeClimb" "ways" "LTreeClimb$Ways;" ∈ wsL_law) (hd : decode cc pc = .ok (.getfield index, 3)) (k : F → V G K (wX G σ) (pc + 3) lv (.ref (aX G 4) :: rest)) : F → V G K (wX G σ) pc lv (.ref (aX G 0) :: rest) := v_get C _ (ox_5) rfl inlX5 2 (Nat.le_of_ble_eq_true rfl) rfl hq rfl hd k
theorem g5_diary (C : Ctx G K cc own nl fr lo) {index : Nat} (hq : Cond.fieldLink own index "TreeClimb" "diary" "LTreeClimb$Diary;" ∈ wsL_law) (hd : decode cc pc = .ok (.getfield index, 3)) (k : F → V G K (wX G σ) (pc + 3) lv (.ref (aX G 12) :: rest)) : F → V G K (wX G σ) pc lv (.ref (aX G 0) :: rest) := v_get C _ (ox_5) rfl inlX5 3 (Nat.le_of_ble_eq_true rfl) rfl hq rfl hd k
theorem g5_present (C : Ctx G K cc own nl fr lo) {index : Nat} (hq : Cond.fieldLink own index "TreeClimb" "present" "LTreeClimb$Moment;" ∈ wsL_law) (hd : decode cc pc = .ok (.getfield index, 3)) (k : F → V G K (wX G σ) (pc + 3) lv (.ref (aX G 17) :: rest)) : F → V G K (wX G σ) pc lv (.ref (aX G 0) :: rest) := v_get C _ (ox_5) rfl inlX5 4 (Nat.le_of_ble_eq_true rfl) rfl hq rfl hd k
theorem g5_images (C : Ctx G K cc own nl fr lo) {index : Nat} (hq : Cond.fieldLink own index "TreeClimb" "images" "[LTreeClimb$Moment;" ∈ wsL_law) (hd : decode cc pc = .ok (.getfield index, 3)) (k : F → V G K (wX G σ) (pc + 3) lv (.ref (aX G 16) :: rest)) : F → V G K (wX G σ) pc lv (.ref (aX G 0) :: rest) := v_get C _ (ox_5) rfl inlX5 5 (Nat.le_of_ble_eq_true rfl) rfl hq rfl hd k
theorem g5_wood (C : Ctx G K cc own nl fr lo) {index : Nat} (hq : Cond.fieldLink own index "TreeClimb" "wood" "LTreeClimb$Wood;" ∈ wsL_law) (hd : decode cc pc = .ok (.getfield index, 3)) (k : F → V G K (wX G σ) (pc + 3) lv (.ref (aX G (wB (σ.2.2 0))) :: rest)) : F → V G K (wX G σ) pc lv (.ref (aX G 0) :: rest) := v_get C _ (ox_5) rfl inlX5 6 (Nat.le_of_ble_eq_true rfl) rfl hq rfl hd k
theorem g5_draft (C : Ctx G K cc own nl fr lo) {index : Nat} (hq : Cond.fieldLink own index "TreeClimb" "draft" "LTreeClimb$Wood;" ∈ wsL_law) (hd : decode cc pc = .ok (.getfield index, 3)) (k : F → V G K (wX G σ) (pc + 3) lv (.ref (aX G (wB (σ.2.2 1))) :: rest)) : F → V G K (wX G σ) pc lv (.ref (aX G 0) :: rest) := v_get C _ (ox_5) rfl inlX5 7 (Nat.le_of_ble_eq_true rfl) rfl hq rfl hd k
theorem g5_asked (C : Ctx G K cc own nl fr lo) {index : Nat} (hq : Cond.fieldLink own index "TreeClimb" "asked" "J" ∈ wsL_law) (hd : decode cc pc = .ok (.getfield index, 3)) (k : F → V G K (wX G σ) (pc + 3) lv (.long (σ.2.1 0 8) :: rest)) : F → V G K (wX G σ) pc lv (.ref (aX G 0) :: rest) := v_get C _ (ox_5) rfl inlX5 8 (Nat.le_of_ble_eq_true rfl) rfl hq rfl hd k
theorem e5_asked (v : Int64) : (wX G σ).set (0) (aX G 0, .inr (5, [.ref (aX G 1), .ref (aX G 2), .ref (aX G 4), .ref (aX G 12), .ref (aX G 17), .ref (aX G 16), .ref (aX G (wB (σ.2.2 0))), .ref (aX G (wB (σ.2.2 1))), .long (σ.2.1 0 8)].set 8 (.long v))) = wX G (sL σ 0 8 v) := rfl
theorem p5_asked (C : Ctx G K cc own nl fr lo) {index : Nat} {v : Int64} (hq : Cond.fieldLink own index "TreeClimb" "asked" "J" ∈ wsL_law) (hd : decode cc pc = .ok (.putfield index, 3)) (k : F → V G K (wX G (sL σ 0 8 v)) (pc + 3) lv rest) : F → V G K (wX G σ) pc lv (.long v :: .ref (aX G 0) :: rest) := v_put C _ (ox_5) rfl inlX5 tyX5 tyX5_ok nmX5 8 (Nat.le_of_ble_eq_true rfl) rfl hq rfl rfl rfl (Nat.le_of_ble_eq_true rfl) (e5_asked v) hd k
theorem g6_trace (C : Ctx G K cc own nl fr lo) {index : Nat} (hq : Cond.fieldLink own index "TreeClimbModel" "trace" "J" ∈ wsL_law) (hd : decode cc pc = .ok (.getfield index, 3)) (k : F → V G K (wM G σ) (pc + 3) lv (.long (σ.2.1 0 0) :: rest)) : F → V G K (wM G σ) pc lv (.ref (aM G 0) :: rest) := v_get C _ (om_6) rfl inlX6 0 (Nat.le_of_ble_eq_true rfl) rfl hq rfl hd k
theorem e6_trace (v : Int64) : (wM G σ).set (0) (aM G 0, .inr (6, [.long (σ.2.1 0 0), .ref (aM G 1), .int (σ.1 0 2), .ref (aM G 2), .ref (aM G 3), .ref (aM G 4), .ref (aM G 5), .ref (aM G 6), .int (σ.1 0 8), .int (σ.1 0 9), .int (σ.1 0 10), .int (σ.1 0 11), .int (σ.1 0 12), .ref (aM G 7), .int (σ.1 0 14), .int (σ.1 0 15), .int (σ.1 0 16), .int (σ.1 0 17), .ref (aM G 8), .ref (aM G 9), .ref (aM G 10), .ref (aM G 11), .ref (aM G 12), .int (σ.1 0 23), .int (σ.1 0 24), .ref (aM G 13), .ref (aM G 14), .ref (aM G 15), .ref (aM G 16), .ref (aM G 17), .ref (aM G 18), .ref (aM G 19), .ref (aM G 20), .ref (aM G 21), .ref (aM G 22), .ref (aM G 23)].set 0 (.long v))) = wM G (sL σ 0 0 v) := rfl
theorem p6_trace (C : Ctx G K cc own nl fr lo) {index : Nat} {v : Int64} (hq : Cond.fieldLink own index "TreeClimbModel" "trace" "J" ∈ wsL_law) (hd : decode cc pc = .ok (.putfield index, 3)) (k : F → V G K (wM G (sL σ 0 0 v)) (pc + 3) lv rest) : F → V G K (wM G σ) pc lv (.long v :: .ref (aM G 0) :: rest) := v_put C _ (om_6) rfl inlX6 tyX6 tyX6_ok nmX6 0 (Nat.le_of_ble_eq_true rfl) rfl hq rfl rfl rfl (Nat.le_of_ble_eq_true rfl) (e6_trace v) hd k
theorem g6_text (C : Ctx G K cc own nl fr lo) {index : Nat} (hq : Cond.fieldLink own index "TreeClimbModel" "text" "[B" ∈ wsL_law) (hd : decode cc pc = .ok (.getfield index, 3)) (k : F → V G K (wM G σ) (pc + 3) lv (.ref (aM G 1) :: rest)) : F → V G K (wM G σ) pc lv (.ref (aM G 0) :: rest) := v_get C _ (om_6) rfl inlX6 1 (Nat.le_of_ble_eq_true rfl) rfl hq rfl hd k
theorem g6_typed (C : Ctx G K cc own nl fr lo) {index : Nat} (hq : Cond.fieldLink own index "TreeClimbModel" "typed" "I" ∈ wsL_law) (hd : decode cc pc = .ok (.getfield index, 3)) (k : F → V G K (wM G σ) (pc + 3) lv (.int (σ.1 0 2) :: rest)) : F → V G K (wM G σ) pc lv (.ref (aM G 0) :: rest) := v_get C _ (om_6) rfl inlX6 2 (Nat.le_of_ble_eq_true rfl) rfl hq rfl hd k
theorem e6_typed (v : Int32) : (wM G σ).set (0) (aM G 0, .inr (6, [.long (σ.2.1 0 0), .ref (aM G 1), .int (σ.1 0 2), .ref (aM G 2), .ref (aM G 3), .ref (aM G 4), .ref (aM G 5), .ref (aM G 6), .int (σ.1 0 8), .int (σ.1 0 9), .int (σ.1 0 10), .int (σ.1 0 11), .int (σ.1 0 12), .ref (aM G 7), .int (σ.1 0 14), .int (σ.1 0 15), .int (σ.1 0 16), .int (σ.1 0 17), .ref (aM G 8), .ref (aM G 9), .ref (aM G 10), .ref (aM G 11), .ref (aM G 12), .int (σ.1 0 23), .int (σ.1 0 24), .ref (aM G 13), .ref (aM G 14), .ref (aM G 15), .ref (aM G 16), .ref (aM G 17), .ref (aM G 18), .ref (aM G 19), .ref (aM G 20), .ref (aM G 21), .ref (aM G 22), .ref (aM G 23)].set 2 (.int v))) = wM G (sI σ 0 2 v) := rfl
theorem p6_typed (C : Ctx G K cc own nl fr lo) {index : Nat} {v : Int32} (hq : Cond.fieldLink own index "TreeClimbModel" "typed" "I" ∈ wsL_law) (hd : decode cc pc = .ok (.putfield index, 3)) (k : F → V G K (wM G (sI σ 0 2 v)) (pc + 3) lv rest) : F → V G K (wM G σ) pc lv (.int v :: .ref (aM G 0) :: rest) := v_put C _ (om_6) rfl inlX6 tyX6 tyX6_ok nmX6 2 (Nat.le_of_ble_eq_true rfl) rfl hq rfl rfl rfl (Nat.le_of_ble_eq_true rfl) (e6_typed v) hd k
theorem g6_branches (C : Ctx G K cc own nl fr lo) {index : Nat} (hq : Cond.fieldLink own index "TreeClimbModel" "branches" "[I" ∈ wsL_law) (hd : decode cc pc = .ok (.getfield index, 3)) (k : F → V G K (wM G σ) (pc + 3) lv (.ref (aM G 2) :: rest)) : F → V G K (wM G σ) pc lv (.ref (aM G 0) :: rest) := v_get C _ (om_6) rfl inlX6 3 (Nat.le_of_ble_eq_true rfl) rfl hq rfl hd k
theorem g6_told (C : Ctx G K cc own nl fr lo) {index : Nat} (hq : Cond.fieldLink own index "TreeClimbModel" "told" "[I" ∈ wsL_law) (hd : decode cc pc = .ok (.getfield index, 3)) (k : F → V G K (wM G σ) (pc + 3) lv (.ref (aM G 3) :: rest)) : F → V G K (wM G σ) pc lv (.ref (aM G 0) :: rest) := v_get C _ (om_6) rfl inlX6 4 (Nat.le_of_ble_eq_true rfl) rfl hq rfl hd k
theorem g6_bodies (C : Ctx G K cc own nl fr lo) {index : Nat} (hq : Cond.fieldLink own index "TreeClimbModel" "bodies" "[I" ∈ wsL_law) (hd : decode cc pc = .ok (.getfield index, 3)) (k : F → V G K (wM G σ) (pc + 3) lv (.ref (aM G 4) :: rest)) : F → V G K (wM G σ) pc lv (.ref (aM G 0) :: rest) := v_get C _ (om_6) rfl inlX6 5 (Nat.le_of_ble_eq_true rfl) rfl hq rfl hd k
theorem g6_bodyTold (C : Ctx G K cc own nl fr lo) {index : Nat} (hq : Cond.fieldLink own index "TreeClimbModel" "bodyTold" "[I" ∈ wsL_law) (hd : decode cc pc = .ok (.getfield index, 3)) (k : F → V G K (wM G σ) (pc + 3) lv (.ref (aM G 5) :: rest)) : F → V G K (wM G σ) pc lv (.ref (aM G 0) :: rest) := v_get C _ (om_6) rfl inlX6 6 (Nat.le_of_ble_eq_true rfl) rfl hq rfl hd k
theorem g6_tune (C : Ctx G K cc own nl fr lo) {index : Nat} (hq : Cond.fieldLink own index "TreeClimbModel" "tune" "[I" ∈ wsL_law) (hd : decode cc pc = .ok (.getfield index, 3)) (k : F → V G K (wM G σ) (pc + 3) lv (.ref (aM G 6) :: rest)) : F → V G K (wM G σ) pc lv (.ref (aM G 0) :: rest) := v_get C _ (om_6) rfl inlX6 7 (Nat.le_of_ble_eq_true rfl) rfl hq rfl hd k
theorem g6_at (C : Ctx G K cc own nl fr lo) {index : Nat} (hq : Cond.fieldLink own index "TreeClimbModel" "at" "I" ∈ wsL_law) (hd : decode cc pc = .ok (.getfield index, 3)) (k : F → V G K (wM G σ) (pc + 3) lv (.int (σ.1 0 8) :: rest)) : F → V G K (wM G σ) pc lv (.ref (aM G 0) :: rest) := v_get C _ (om_6) rfl inlX6 8 (Nat.le_of_ble_eq_true rfl) rfl hq rfl hd k
theorem e6_at (v : Int32) : (wM G σ).set (0) (aM G 0, .inr (6, [.long (σ.2.1 0 0), .ref (aM G 1), .int (σ.1 0 2), .ref (aM G 2), .ref (aM G 3), .ref (aM G 4), .ref (aM G 5), .ref (aM G 6), .int (σ.1 0 8), .int (σ.1 0 9), .int (σ.1 0 10), .int (σ.1 0 11), .int (σ.1 0 12), .ref (aM G 7), .int (σ.1 0 14), .int (σ.1 0 15), .int (σ.1 0 16), .int (σ.1 0 17), .ref (aM G 8), .ref (aM G 9), .ref (aM G 10), .ref (aM G 11), .ref (aM G 12), .int (σ.1 0 23), .int (σ.1 0 24), .ref (aM G 13), .ref (aM G 14), .ref (aM G 15), .ref (aM G 16), .ref (aM G 17), .ref (aM G 18), .ref (aM G 19), .ref (aM G 20), .ref (aM G 21), .ref (aM G 22), .ref (aM G 23)].set 8 (.int v))) = wM G (sI σ 0 8 v) := rfl
theorem p6_at (C : Ctx G K cc own nl fr lo) {index : Nat} {v : Int32} (hq : Cond.fieldLink own index "TreeClimbModel" "at" "I" ∈ wsL_law) (hd : decode cc pc = .ok (.putfield index, 3)) (k : F → V G K (wM G (sI σ 0 8 v)) (pc + 3) lv rest) : F → V G K (wM G σ) pc lv (.int v :: .ref (aM G 0) :: rest) := v_put C _ (om_6) rfl inlX6 tyX6 tyX6_ok nmX6 8 (Nat.le_of_ble_eq_true rfl) rfl hq rfl rfl rfl (Nat.le_of_ble_eq_true rfl) (e6_at v) hd k
theorem g6_start (C : Ctx G K cc own nl fr lo) {index : Nat} (hq : Cond.fieldLink own index "TreeClimbModel" "start" "I" ∈ wsL_law) (hd : decode cc pc = .ok (.getfield index, 3)) (k : F → V G K (wM G σ) (pc + 3) lv (.int (σ.1 0 9) :: rest)) : F → V G K (wM G σ) pc lv (.ref (aM G 0) :: rest) := v_get C _ (om_6) rfl inlX6 9 (Nat.le_of_ble_eq_true rfl) rfl hq rfl hd k
theorem e6_start (v : Int32) : (wM G σ).set (0) (aM G 0, .inr (6, [.long (σ.2.1 0 0), .ref (aM G 1), .int (σ.1 0 2), .ref (aM G 2), .ref (aM G 3), .ref (aM G 4), .ref (aM G 5), .ref (aM G 6), .int (σ.1 0 8), .int (σ.1 0 9), .int (σ.1 0 10), .int (σ.1 0 11), .int (σ.1 0 12), .ref (aM G 7), .int (σ.1 0 14), .int (σ.1 0 15), .int (σ.1 0 16), .int (σ.1 0 17), .ref (aM G 8), .ref (aM G 9), .ref (aM G 10), .ref (aM G 11), .ref (aM G 12), .int (σ.1 0 23), .int (σ.1 0 24), .ref (aM G 13), .ref (aM G 14), .ref (aM G 15), .ref (aM G 16), .ref (aM G 17), .ref (aM G 18), .ref (aM G 19), .ref (aM G 20), .ref (aM G 21), .ref (aM G 22), .ref (aM G 23)].set 9 (.int v))) = wM G (sI σ 0 9 v) := rfl
theorem p6_start (C : Ctx G K cc own nl fr lo) {index : Nat} {v : Int32} (hq : Cond.fieldLink own index "TreeClimbModel" "start" "I" ∈ wsL_law) (hd : decode cc pc = .ok (.putfield index, 3)) (k : F → V G K (wM G (sI σ 0 9 v)) (pc + 3) lv rest) : F → V G K (wM G σ) pc lv (.int v :: .ref (aM G 0) :: rest) := v_put C _ (om_6) rfl inlX6 tyX6 tyX6_ok nmX6 9 (Nat.le_of_ble_eq_true rfl) rfl hq rfl rfl rfl (Nat.le_of_ble_eq_true rfl) (e6_start v) hd k
theorem g6_sort (C : Ctx G K cc own nl fr lo) {index : Nat} (hq : Cond.fieldLink own index "TreeClimbModel" "sort" "I" ∈ wsL_law) (hd : decode cc pc = .ok (.getfield index, 3)) (k : F → V G K (wM G σ) (pc + 3) lv (.int (σ.1 0 10) :: rest)) : F → V G K (wM G σ) pc lv (.ref (aM G 0) :: rest) := v_get C _ (om_6) rfl inlX6 10 (Nat.le_of_ble_eq_true rfl) rfl hq rfl hd k
theorem e6_sort (v : Int32) : (wM G σ).set (0) (aM G 0, .inr (6, [.long (σ.2.1 0 0), .ref (aM G 1), .int (σ.1 0 2), .ref (aM G 2), .ref (aM G 3), .ref (aM G 4), .ref (aM G 5), .ref (aM G 6), .int (σ.1 0 8), .int (σ.1 0 9), .int (σ.1 0 10), .int (σ.1 0 11), .int (σ.1 0 12), .ref (aM G 7), .int (σ.1 0 14), .int (σ.1 0 15), .int (σ.1 0 16), .int (σ.1 0 17), .ref (aM G 8), .ref (aM G 9), .ref (aM G 10), .ref (aM G 11), .ref (aM G 12), .int (σ.1 0 23), .int (σ.1 0 24), .ref (aM G 13), .ref (aM G 14), .ref (aM G 15), .ref (aM G 16), .ref (aM G 17), .ref (aM G 18), .ref (aM G 19), .ref (aM G 20), .ref (aM G 21), .ref (aM G 22), .ref (aM G 23)].set 10 (.int v))) = wM G (sI σ 0 10 v) := rfl
theorem p6_sort (C : Ctx G K cc own nl fr lo) {index : Nat} {v : Int32} (hq : Cond.fieldLink own index "TreeClimbModel" "sort" "I" ∈ wsL_law) (hd : decode cc pc = .ok (.putfield index, 3)) (k : F → V G K (wM G (sI σ 0 10 v)) (pc + 3) lv rest) : F → V G K (wM G σ) pc lv (.int v :: .ref (aM G 0) :: rest) := v_put C _ (om_6) rfl inlX6 tyX6 tyX6_ok nmX6 10 (Nat.le_of_ble_eq_true rfl) rfl hq rfl rfl rfl (Nat.le_of_ble_eq_true rfl) (e6_sort v) hd k
theorem g6_value (C : Ctx G K cc own nl fr lo) {index : Nat} (hq : Cond.fieldLink own index "TreeClimbModel" "value" "I" ∈ wsL_law) (hd : decode cc pc = .ok (.getfield index, 3)) (k : F → V G K (wM G σ) (pc + 3) lv (.int (σ.1 0 11) :: rest)) : F → V G K (wM G σ) pc lv (.ref (aM G 0) :: rest) := v_get C _ (om_6) rfl inlX6 11 (Nat.le_of_ble_eq_true rfl) rfl hq rfl hd k
theorem e6_value (v : Int32) : (wM G σ).set (0) (aM G 0, .inr (6, [.long (σ.2.1 0 0), .ref (aM G 1), .int (σ.1 0 2), .ref (aM G 2), .ref (aM G 3), .ref (aM G 4), .ref (aM G 5), .ref (aM G 6), .int (σ.1 0 8), .int (σ.1 0 9), .int (σ.1 0 10), .int (σ.1 0 11), .int (σ.1 0 12), .ref (aM G 7), .int (σ.1 0 14), .int (σ.1 0 15), .int (σ.1 0 16), .int (σ.1 0 17), .ref (aM G 8), .ref (aM G 9), .ref (aM G 10), .ref (aM G 11), .ref (aM G 12), .int (σ.1 0 23), .int (σ.1 0 24), .ref (aM G 13), .ref (aM G 14), .ref (aM G 15), .ref (aM G 16), .ref (aM G 17), .ref (aM G 18), .ref (aM G 19), .ref (aM G 20), .ref (aM G 21), .ref (aM G 22), .ref (aM G 23)].set 11 (.int v))) = wM G (sI σ 0 11 v) := rfl
theorem p6_value (C : Ctx G K cc own nl fr lo) {index : Nat} {v : Int32} (hq : Cond.fieldLink own index "TreeClimbModel" "value" "I" ∈ wsL_law) (hd : decode cc pc = .ok (.putfield index, 3)) (k : F → V G K (wM G (sI σ 0 11 v)) (pc + 3) lv rest) : F → V G K (wM G σ) pc lv (.int v :: .ref (aM G 0) :: rest) := v_put C _ (om_6) rfl inlX6 tyX6 tyX6_ok nmX6 11 (Nat.le_of_ble_eq_true rfl) rfl hq rfl rfl rfl (Nat.le_of_ble_eq_true rfl) (e6_value v) hd k
theorem g6_fault (C : Ctx G K cc own nl fr lo) {index : Nat} (hq : Cond.fieldLink own index "TreeClimbModel" "fault" "I" ∈ wsL_law) (hd : decode cc pc = .ok (.getfield index, 3)) (k : F → V G K (wM G σ) (pc + 3) lv (.int (σ.1 0 12) :: rest)) : F → V G K (wM G σ) pc lv (.ref (aM G 0) :: rest) := v_get C _ (om_6) rfl inlX6 12 (Nat.le_of_ble_eq_true rfl) rfl hq rfl hd k
theorem e6_fault (v : Int32) : (wM G σ).set (0) (aM G 0, .inr (6, [.long (σ.2.1 0 0), .ref (aM G 1), .int (σ.1 0 2), .ref (aM G 2), .ref (aM G 3), .ref (aM G 4), .ref (aM G 5), .ref (aM G 6), .int (σ.1 0 8), .int (σ.1 0 9), .int (σ.1 0 10), .int (σ.1 0 11), .int (σ.1 0 12), .ref (aM G 7), .int (σ.1 0 14), .int (σ.1 0 15), .int (σ.1 0 16), .int (σ.1 0 17), .ref (aM G 8), .ref (aM G 9), .ref (aM G 10), .ref (aM G 11), .ref (aM G 12), .int (σ.1 0 23), .int (σ.1 0 24), .ref (aM G 13), .ref (aM G 14), .ref (aM G 15), .ref (aM G 16), .ref (aM G 17), .ref (aM G 18), .ref (aM G 19), .ref (aM G 20), .ref (aM G 21), .ref (aM G 22), .ref (aM G 23)].set 12 (.int v))) = wM G (sI σ 0 12 v) := rfl
theorem p6_fault (C : Ctx G K cc own nl fr lo) {index : Nat} {v : Int32} (hq : Cond.fieldLink own index "TreeClimbModel" "fault" "I" ∈ wsL_law) (hd : decode cc pc = .ok (.putfield index, 3)) (k : F → V G K (wM G (sI σ 0 12 v)) (pc + 3) lv rest) : F → V G K (wM G σ) pc lv (.int v :: .ref (aM G 0) :: rest) := v_put C _ (om_6) rfl inlX6 tyX6 tyX6_ok nmX6 12 (Nat.le_of_ble_eq_true rfl) rfl hq rfl rfl rfl (Nat.le_of_ble_eq_true rfl) (e6_fault v) hd k
theorem g6_sawnOnes (C : Ctx G K cc own nl fr lo) {index : Nat} (hq : Cond.fieldLink own index "TreeClimbModel" "sawnOnes" "[I" ∈ wsL_law) (hd : decode cc pc = .ok (.getfield index, 3)) (k : F → V G K (wM G σ) (pc + 3) lv (.ref (aM G 7) :: rest)) : F → V G K (wM G σ) pc lv (.ref (aM G 0) :: rest) := v_get C _ (om_6) rfl inlX6 13 (Nat.le_of_ble_eq_true rfl) rfl hq rfl hd k
theorem g6_reach (C : Ctx G K cc own nl fr lo) {index : Nat} (hq : Cond.fieldLink own index "TreeClimbModel" "reach" "I" ∈ wsL_law) (hd : decode cc pc = .ok (.getfield index, 3)) (k : F → V G K (wM G σ) (pc + 3) lv (.int (σ.1 0 14) :: rest)) : F → V G K (wM G σ) pc lv (.ref (aM G 0) :: rest) := v_get C _ (om_6) rfl inlX6 14 (Nat.le_of_ble_eq_true rfl) rfl hq rfl hd k
theorem e6_reach (v : Int32) : (wM G σ).set (0) (aM G 0, .inr (6, [.long (σ.2.1 0 0), .ref (aM G 1), .int (σ.1 0 2), .ref (aM G 2), .ref (aM G 3), .ref (aM G 4), .ref (aM G 5), .ref (aM G 6), .int (σ.1 0 8), .int (σ.1 0 9), .int (σ.1 0 10), .int (σ.1 0 11), .int (σ.1 0 12), .ref (aM G 7), .int (σ.1 0 14), .int (σ.1 0 15), .int (σ.1 0 16), .int (σ.1 0 17), .ref (aM G 8), .ref (aM G 9), .ref (aM G 10), .ref (aM G 11), .ref (aM G 12), .int (σ.1 0 23), .int (σ.1 0 24), .ref (aM G 13), .ref (aM G 14), .ref (aM G 15), .ref (aM G 16), .ref (aM G 17), .ref (aM G 18), .ref (aM G 19), .ref (aM G 20), .ref (aM G 21), .ref (aM G 22), .ref (aM G 23)].set 14 (.int v))) = wM G (sI σ 0 14 v) := rfl
theorem p6_reach (C : Ctx G K cc own nl fr lo) {index : Nat} {v : Int32} (hq : Cond.fieldLink own index "TreeClimbModel" "reach" "I" ∈ wsL_law) (hd : decode cc pc = .ok (.putfield index, 3)) (k : F → V G K (wM G (sI σ 0 14 v)) (pc + 3) lv rest) : F → V G K (wM G σ) pc lv (.int v :: .ref (aM G 0) :: rest) := v_put C _ (om_6) rfl inlX6 tyX6 tyX6_ok nmX6 14 (Nat.le_of_ble_eq_true rfl) rfl hq rfl rfl rfl (Nat.le_of_ble_eq_true rfl) (e6_reach v) hd k
theorem g6_weight (C : Ctx G K cc own nl fr lo) {index : Nat} (hq : Cond.fieldLink own index "TreeClimbModel" "weight" "I" ∈ wsL_law) (hd : decode cc pc = .ok (.getfield index, 3)) (k : F → V G K (wM G σ) (pc + 3) lv (.int (σ.1 0 15) :: rest)) : F → V G K (wM G σ) pc lv (.ref (aM G 0) :: rest) := v_get C _ (om_6) rfl inlX6 15 (Nat.le_of_ble_eq_true rfl) rfl hq rfl hd k
theorem e6_weight (v : Int32) : (wM G σ).set (0) (aM G 0, .inr (6, [.long (σ.2.1 0 0), .ref (aM G 1), .int (σ.1 0 2), .ref (aM G 2), .ref (aM G 3), .ref (aM G 4), .ref (aM G 5), .ref (aM G 6), .int (σ.1 0 8), .int (σ.1 0 9), .int (σ.1 0 10), .int (σ.1 0 11), .int (σ.1 0 12), .ref (aM G 7), .int (σ.1 0 14), .int (σ.1 0 15), .int (σ.1 0 16), .int (σ.1 0 17), .ref (aM G 8), .ref (aM G 9), .ref (aM G 10), .ref (aM G 11), .ref (aM G 12), .int (σ.1 0 23), .int (σ.1 0 24), .ref (aM G 13), .ref (aM G 14), .ref (aM G 15), .ref (aM G 16), .ref (aM G 17), .ref (aM G 18), .ref (aM G 19), .ref (aM G 20), .ref (aM G 21), .ref (aM G 22), .ref (aM G 23)].set 15 (.int v))) = wM G (sI σ 0 15 v) := rfl
theorem p6_weight (C : Ctx G K cc own nl fr lo) {index : Nat} {v : Int32} (hq : Cond.fieldLink own index "TreeClimbModel" "weight" "I" ∈ wsL_law) (hd : decode cc pc = .ok (.putfield index, 3)) (k : F → V G K (wM G (sI σ 0 15 v)) (pc + 3) lv rest) : F → V G K (wM G σ) pc lv (.int v :: .ref (aM G 0) :: rest) := v_put C _ (om_6) rfl inlX6 tyX6 tyX6_ok nmX6 15 (Nat.le_of_ble_eq_true rfl) rfl hq rfl rfl rfl (Nat.le_of_ble_eq_true rfl) (e6_weight v) hd k
theorem g6_grip (C : Ctx G K cc own nl fr lo) {index : Nat} (hq : Cond.fieldLink own index "TreeClimbModel" "grip" "I" ∈ wsL_law) (hd : decode cc pc = .ok (.getfield index, 3)) (k : F → V G K (wM G σ) (pc + 3) lv (.int (σ.1 0 16) :: rest)) : F → V G K (wM G σ) pc lv (.ref (aM G 0) :: rest) := v_get C _ (om_6) rfl inlX6 16 (Nat.le_of_ble_eq_true rfl) rfl hq rfl hd k
theorem e6_grip (v : Int32) : (wM G σ).set (0) (aM G 0, .inr (6, [.long (σ.2.1 0 0), .ref (aM G 1), .int (σ.1 0 2), .ref (aM G 2), .ref (aM G 3), .ref (aM G 4), .ref (aM G 5), .ref (aM G 6), .int (σ.1 0 8), .int (σ.1 0 9), .int (σ.1 0 10), .int (σ.1 0 11), .int (σ.1 0 12), .ref (aM G 7), .int (σ.1 0 14), .int (σ.1 0 15), .int (σ.1 0 16), .int (σ.1 0 17), .ref (aM G 8), .ref (aM G 9), .ref (aM G 10), .ref (aM G 11), .ref (aM G 12), .int (σ.1 0 23), .int (σ.1 0 24), .ref (aM G 13), .ref (aM G 14), .ref (aM G 15), .ref (aM G 16), .ref (aM G 17), .ref (aM G 18), .ref (aM G 19), .ref (aM G 20), .ref (aM G 21), .ref (aM G 22), .ref (aM G 23)].set 16 (.int v))) = wM G (sI σ 0 16 v) := rfl
theorem p6_grip (C : Ctx G K cc own nl fr lo) {index : Nat} {v : Int32} (hq : Cond.fieldLink own index "TreeClimbModel" "grip" "I" ∈ wsL_law) (hd : decode cc pc = .ok (.putfield index, 3)) (k : F → V G K (wM G (sI σ 0 16 v)) (pc + 3) lv rest) : F → V G K (wM G σ) pc lv (.int v :: .ref (aM G 0) :: rest) := v_put C _ (om_6) rfl inlX6 tyX6 tyX6_ok nmX6 16 (Nat.le_of_ble_eq_true rfl) rfl hq rfl rfl rfl (Nat.le_of_ble_eq_true rfl) (e6_grip v) hd k
theorem g6_backs (C : Ctx G K cc own nl fr lo) {index : Nat} (hq : Cond.fieldLink own index "TreeClimbModel" "backs" "I" ∈ wsL_law) (hd : decode cc pc = .ok (.getfield index, 3)) (k : F → V G K (wM G σ) (pc + 3) lv (.int (σ.1 0 17) :: rest)) : F → V G K (wM G σ) pc lv (.ref (aM G 0) :: rest) := v_get C _ (om_6) rfl inlX6 17 (Nat.le_of_ble_eq_true rfl) rfl hq rfl hd k
theorem e6_backs (v : Int32) : (wM G σ).set (0) (aM G 0, .inr (6, [.long (σ.2.1 0 0), .ref (aM G 1), .int (σ.1 0 2), .ref (aM G 2), .ref (aM G 3), .ref (aM G 4), .ref (aM G 5), .ref (aM G 6), .int (σ.1 0 8), .int (σ.1 0 9), .int (σ.1 0 10), .int (σ.1 0 11), .int (σ.1 0 12), .ref (aM G 7), .int (σ.1 0 14), .int (σ.1 0 15), .int (σ.1 0 16), .int (σ.1 0 17), .ref (aM G 8), .ref (aM G 9), .ref (aM G 10), .ref (aM G 11), .ref (aM G 12), .int (σ.1 0 23), .int (σ.1 0 24), .ref (aM G 13), .ref (aM G 14), .ref (aM G 15), .ref (aM G 16), .ref (aM G 17), .ref (aM G 18), .ref (aM G 19), .ref (aM G 20), .ref (aM G 21), .ref (aM G 22), .ref (aM G 23)].set 17 (.int v))) = wM G (sI σ 0 17 v) := rfl
theorem p6_backs (C : Ctx G K cc own nl fr lo) {index : Nat} {v : Int32} (hq : Cond.fieldLink own index "TreeClimbModel" "backs" "I" ∈ wsL_law) (hd : decode cc pc = .ok (.putfield index, 3)) (k : F → V G K (wM G (sI σ 0 17 v)) (pc + 3) lv rest) : F → V G K (wM G σ) pc lv (.int v :: .ref (aM G 0) :: rest) := v_put C _ (om_6) rfl inlX6 tyX6 tyX6_ok nmX6 17 (Nat.le_of_ble_eq_true rfl) rfl hq rfl rfl rfl (Nat.le_of_ble_eq_true rfl) (e6_backs v) hd k
theorem g6_odds (C : Ctx G K cc own nl fr lo) {index : Nat} (hq : Cond.fieldLink own index "TreeClimbModel" "odds" "[J" ∈ wsL_law) (hd : decode cc pc = .ok (.getfield index, 3)) (k : F → V G K (wM G σ) (pc + 3) lv (.ref (aM G 8) :: rest)) : F → V G K (wM G σ) pc lv (.ref (aM G 0) :: rest) := v_get C _ (om_6) rfl inlX6 18 (Nat.le_of_ble_eq_true rfl) rfl hq rfl hd k
theorem g6_steps (C : Ctx G K cc own nl fr lo) {index : Nat} (hq : Cond.fieldLink own index "TreeClimbModel" "steps" "[I" ∈ wsL_law) (hd : decode cc pc = .ok (.getfield index, 3)) (k : F → V G K (wM G σ) (pc + 3) lv (.ref (aM G 9) :: rest)) : F → V G K (wM G σ) pc lv (.ref (aM G 0) :: rest) := v_get C _ (om_6) rfl inlX6 19 (Nat.le_of_ble_eq_true rfl) rfl hq rfl hd k
theorem g6_nows (C : Ctx G K cc own nl fr lo) {index : Nat} (hq : Cond.fieldLink own index "TreeClimbModel" "nows" "[J" ∈ wsL_law) (hd : decode cc pc = .ok (.getfield index, 3)) (k : F → V G K (wM G σ) (pc + 3) lv (.ref (aM G 10) :: rest)) : F → V G K (wM G σ) pc lv (.ref (aM G 0) :: rest) := v_get C _ (om_6) rfl inlX6 20 (Nat.le_of_ble_eq_true rfl) rfl hq rfl hd k
theorem g6_then (C : Ctx G K cc own nl fr lo) {index : Nat} (hq : Cond.fieldLink own index "TreeClimbModel" "then" "[J" ∈ wsL_law) (hd : decode cc pc = .ok (.getfield index, 3)) (k : F → V G K (wM G σ) (pc + 3) lv (.ref (aM G 11) :: rest)) : F → V G K (wM G σ) pc lv (.ref (aM G 0) :: rest) := v_get C _ (om_6) rfl inlX6 21 (Nat.le_of_ble_eq_true rfl) rfl hq rfl hd k
theorem g6_ups (C : Ctx G K cc own nl fr lo) {index : Nat} (hq : Cond.fieldLink own index "TreeClimbModel" "ups" "[J" ∈ wsL_law) (hd : decode cc pc = .ok (.getfield index, 3)) (k : F → V G K (wM G σ) (pc + 3) lv (.ref (aM G 12) :: rest)) : F → V G K (wM G σ) pc lv (.ref (aM G 0) :: rest) := v_get C _ (om_6) rfl inlX6 22 (Nat.le_of_ble_eq_true rfl) rfl hq rfl hd k
theorem g6_struck (C : Ctx G K cc own nl fr lo) {index : Nat} (hq : Cond.fieldLink own index "TreeClimbModel" "struck" "I" ∈ wsL_law) (hd : decode cc pc = .ok (.getfield index, 3)) (k : F → V G K (wM G σ) (pc + 3) lv (.int (σ.1 0 23) :: rest)) : F → V G K (wM G σ) pc lv (.ref (aM G 0) :: rest) := v_get C _ (om_6) rfl inlX6 23 (Nat.le_of_ble_eq_true rfl) rfl hq rfl hd k
theorem e6_struck (v : Int32) : (wM G σ).set (0) (aM G 0, .inr (6, [.long (σ.2.1 0 0), .ref (aM G 1), .int (σ.1 0 2), .ref (aM G 2), .ref (aM G 3), .ref (aM G 4), .ref (aM G 5), .ref (aM G 6), .int (σ.1 0 8), .int (σ.1 0 9), .int (σ.1 0 10), .int (σ.1 0 11), .int (σ.1 0 12), .ref (aM G 7), .int (σ.1 0 14), .int (σ.1 0 15), .int (σ.1 0 16), .int (σ.1 0 17), .ref (aM G 8), .ref (aM G 9), .ref (aM G 10), .ref (aM G 11), .ref (aM G 12), .int (σ.1 0 23), .int (σ.1 0 24), .ref (aM G 13), .ref (aM G 14), .ref (aM G 15), .ref (aM G 16), .ref (aM G 17), .ref (aM G 18), .ref (aM G 19), .ref (aM G 20), .ref (aM G 21), .ref (aM G 22), .ref (aM G 23)].set 23 (.int v))) = wM G (sI σ 0 23 v) := rfl
theorem p6_struck (C : Ctx G K cc own nl fr lo) {index : Nat} {v : Int32} (hq : Cond.fieldLink own index "TreeClimbModel" "struck" "I" ∈ wsL_law) (hd : decode cc pc = .ok (.putfield index, 3)) (k : F → V G K (wM G (sI σ 0 23 v)) (pc + 3) lv rest) : F → V G K (wM G σ) pc lv (.int v :: .ref (aM G 0) :: rest) := v_put C _ (om_6) rfl inlX6 tyX6 tyX6_ok nmX6 23 (Nat.le_of_ble_eq_true rfl) rfl hq rfl rfl rfl (Nat.le_of_ble_eq_true rfl) (e6_struck v) hd k
theorem g6_afternoons (C : Ctx G K cc own nl fr lo) {index : Nat} (hq : Cond.fieldLink own index "TreeClimbModel" "afternoons" "I" ∈ wsL_law) (hd : decode cc pc = .ok (.getfield index, 3)) (k : F → V G K (wM G σ) (pc + 3) lv (.int (σ.1 0 24) :: rest)) : F → V G K (wM G σ) pc lv (.ref (aM G 0) :: rest) := v_get C _ (om_6) rfl inlX6 24 (Nat.le_of_ble_eq_true rfl) rfl hq rfl hd k
theorem e6_afternoons (v : Int32) : (wM G σ).set (0) (aM G 0, .inr (6, [.long (σ.2.1 0 0), .ref (aM G 1), .int (σ.1 0 2), .ref (aM G 2), .ref (aM G 3), .ref (aM G 4), .ref (aM G 5), .ref (aM G 6), .int (σ.1 0 8), .int (σ.1 0 9), .int (σ.1 0 10), .int (σ.1 0 11), .int (σ.1 0 12), .ref (aM G 7), .int (σ.1 0 14), .int (σ.1 0 15), .int (σ.1 0 16), .int (σ.1 0 17), .ref (aM G 8), .ref (aM G 9), .ref (aM G 10), .ref (aM G 11), .ref (aM G 12), .int (σ.1 0 23), .int (σ.1 0 24), .ref (aM G 13), .ref (aM G 14), .ref (aM G 15), .ref (aM G 16), .ref (aM G 17), .ref (aM G 18), .ref (aM G 19), .ref (aM G 20), .ref (aM G 21), .ref (aM G 22), .ref (aM G 23)].set 24 (.int v))) = wM G (sI σ 0 24 v) := rfl
theorem p6_afternoons (C : Ctx G K cc own nl fr lo) {index : Nat} {v : Int32} (hq : Cond.fieldLink own index "TreeClimbModel" "afternoons" "I" ∈ wsL_law) (hd : decode cc pc = .ok (.putfield index, 3)) (k : F → V G K (wM G (sI σ 0 24 v)) (pc + 3) lv rest) : F → V G K (wM G σ) pc lv (.int v :: .ref (aM G 0) :: rest) := v_put C _ (om_6) rfl inlX6 tyX6 tyX6_ok nmX6 24 (Nat.le_of_ble_eq_true rfl) rfl hq rfl rfl rfl (Nat.le_of_ble_eq_true rfl) (e6_afternoons v) hd k
theorem g6_whose (C : Ctx G K cc own nl fr lo) {index : Nat} (hq : Cond.fieldLink own index "TreeClimbModel" "whose" "[I" ∈ wsL_law) (hd : decode cc pc = .ok (.getfield index, 3)) (k : F → V G K (wM G σ) (pc + 3) lv (.ref (aM G 13) :: rest)) : F → V G K (wM G σ) pc lv (.ref (aM G 0) :: rest) := v_get C _ (om_6) rfl inlX6 25 (Nat.le_of_ble_eq_true rfl) rfl hq rfl hd k
theorem g6_looks (C : Ctx G K cc own nl fr lo) {index : Nat} (hq : Cond.fieldLink own index "TreeClimbModel" "looks" "[I" ∈ wsL_law) (hd : decode cc pc = .ok (.getfield index, 3)) (k : F → V G K (wM G σ) (pc + 3) lv (.ref (aM G 14) :: rest)) : F → V G K (wM G σ) pc lv (.ref (aM G 0) :: rest) := v_get C _ (om_6) rfl inlX6 26 (Nat.le_of_ble_eq_true rfl) rfl hq rfl hd k
theorem g6_highs (C : Ctx G K cc own nl fr lo) {index : Nat} (hq : Cond.fieldLink own index "TreeClimbModel" "highs" "[I" ∈ wsL_law) (hd : decode cc pc = .ok (.getfield index, 3)) (k : F → V G K (wM G σ) (pc + 3) lv (.ref (aM G 15) :: rest)) : F → V G K (wM G σ) pc lv (.ref (aM G 0) :: rest) := v_get C _ (om_6) rfl inlX6 27 (Nat.le_of_ble_eq_true rfl) rfl hq rfl hd k
theorem g6_who (C : Ctx G K cc own nl fr lo) {index : Nat} (hq : Cond.fieldLink own index "TreeClimbModel" "who" "[I" ∈ wsL_law) (hd : decode cc pc = .ok (.getfield index, 3)) (k : F → V G K (wM G σ) (pc + 3) lv (.ref (aM G 16) :: rest)) : F → V G K (wM G σ) pc lv (.ref (aM G 0) :: rest) := v_get C _ (om_6) rfl inlX6 28 (Nat.le_of_ble_eq_true rfl) rfl hq rfl hd k
theorem g6_where (C : Ctx G K cc own nl fr lo) {index : Nat} (hq : Cond.fieldLink own index "TreeClimbModel" "where" "[I" ∈ wsL_law) (hd : decode cc pc = .ok (.getfield index, 3)) (k : F → V G K (wM G σ) (pc + 3) lv (.ref (aM G 17) :: rest)) : F → V G K (wM G σ) pc lv (.ref (aM G 0) :: rest) := v_get C _ (om_6) rfl inlX6 29 (Nat.le_of_ble_eq_true rfl) rfl hq rfl hd k
theorem g6_hurt (C : Ctx G K cc own nl fr lo) {index : Nat} (hq : Cond.fieldLink own index "TreeClimbModel" "hurt" "[I" ∈ wsL_law) (hd : decode cc pc = .ok (.getfield index, 3)) (k : F → V G K (wM G σ) (pc + 3) lv (.ref (aM G 18) :: rest)) : F → V G K (wM G σ) pc lv (.ref (aM G 0) :: rest) := v_get C _ (om_6) rfl inlX6 30 (Nat.le_of_ble_eq_true rfl) rfl hq rfl hd k
theorem g6_tops (C : Ctx G K cc own nl fr lo) {index : Nat} (hq : Cond.fieldLink own index "TreeClimbModel" "tops" "[I" ∈ wsL_law) (hd : decode cc pc = .ok (.getfield index, 3)) (k : F → V G K (wM G σ) (pc + 3) lv (.ref (aM G 19) :: rest)) : F → V G K (wM G σ) pc lv (.ref (aM G 0) :: rest) := v_get C _ (om_6) rfl inlX6 31 (Nat.le_of_ble_eq_true rfl) rfl hq rfl hd k
theorem g6_held (C : Ctx G K cc own nl fr lo) {index : Nat} (hq : Cond.fieldLink own index "TreeClimbModel" "held" "[I" ∈ wsL_law) (hd : decode cc pc = .ok (.getfield index, 3)) (k : F → V G K (wM G σ) (pc + 3) lv (.ref (aM G 20) :: rest)) : F → V G K (wM G σ) pc lv (.ref (aM G 0) :: rest) := v_get C _ (om_6) rfl inlX6 32 (Nat.le_of_ble_eq_true rfl) rfl hq rfl hd k
theorem g6_falls (C : Ctx G K cc own nl fr lo) {index : Nat} (hq : Cond.fieldLink own index "TreeClimbModel" "falls" "[I" ∈ wsL_law) (hd : decode cc pc = .ok (.getfield index, 3)) (k : F → V G K (wM G σ) (pc + 3) lv (.ref (aM G 21) :: rest)) : F → V G K (wM G σ) pc lv (.ref (aM G 0) :: rest) := v_get C _ (om_6) rfl inlX6 33 (Nat.le_of_ble_eq_true rfl) rfl hq rfl hd k
theorem g6_lots (C : Ctx G K cc own nl fr lo) {index : Nat} (hq : Cond.fieldLink own index "TreeClimbModel" "lots" "[I" ∈ wsL_law) (hd : decode cc pc = .ok (.getfield index, 3)) (k : F → V G K (wM G σ) (pc + 3) lv (.ref (aM G 22) :: rest)) : F → V G K (wM G σ) pc lv (.ref (aM G 0) :: rest) := v_get C _ (om_6) rfl inlX6 34 (Nat.le_of_ble_eq_true rfl) rfl hq rfl hd k
theorem g6_isKept (C : Ctx G K cc own nl fr lo) {index : Nat} (hq : Cond.fieldLink own index "TreeClimbModel" "isKept" "[Z" ∈ wsL_law) (hd : decode cc pc = .ok (.getfield index, 3)) (k : F → V G K (wM G σ) (pc + 3) lv (.ref (aM G 23) :: rest)) : F → V G K (wM G σ) pc lv (.ref (aM G 0) :: rest) := v_get C _ (om_6) rfl inlX6 35 (Nat.le_of_ble_eq_true rfl) rfl hq rfl hd k
theorem e5_wood (v : Bool) : (wX G σ).set (0) (aX G 0, .inr (5, [.ref (aX G 1), .ref (aX G 2), .ref (aX G 4), .ref (aX G 12), .ref (aX G 17), .ref (aX G 16), .ref (aX G (wB (σ.2.2 0))), .ref (aX G (wB (σ.2.2 1))), .long (σ.2.1 0 8)].set 6 (.ref (aX G (wB v))))) = wX G (sB σ 0 v) := rfl
theorem p5_wood (C : Ctx G K cc own nl fr lo) {index : Nat} {v : Bool} (hq : Cond.fieldLink own index "TreeClimb" "wood" "LTreeClimb$Wood;" ∈ wsL_law) (hd : decode cc pc = .ok (.putfield index, 3)) (k : F → V G K (wX G (sB σ 0 v)) (pc + 3) lv rest) : F → V G K (wX G σ) pc lv (.ref (aX G (wB v)) :: .ref (aX G 0) :: rest) := v_put C _ (ox_5) rfl inlX5 tyX5 tyX5_ok nmX5 6 (Nat.le_of_ble_eq_true rfl) rfl hq rfl rfl rfl (Nat.le_of_ble_eq_true rfl) (e5_wood v) hd k
theorem e5_draft (v : Bool) : (wX G σ).set (0) (aX G 0, .inr (5, [.ref (aX G 1), .ref (aX G 2), .ref (aX G 4), .ref (aX G 12), .ref (aX G 17), .ref (aX G 16), .ref (aX G (wB (σ.2.2 0))), .ref (aX G (wB (σ.2.2 1))), .long (σ.2.1 0 8)].set 7 (.ref (aX G (wB v))))) = wX G (sB σ 1 v) := rfl
theorem p5_draft (C : Ctx G K cc own nl fr lo) {index : Nat} {v : Bool} (hq : Cond.fieldLink own index "TreeClimb" "draft" "LTreeClimb$Wood;" ∈ wsL_law) (hd : decode cc pc = .ok (.putfield index, 3)) (k : F → V G K (wX G (sB σ 1 v)) (pc + 3) lv rest) : F → V G K (wX G σ) pc lv (.ref (aX G (wB v)) :: .ref (aX G 0) :: rest) := v_put C _ (ox_5) rfl inlX5 tyX5 tyX5_ok nmX5 7 (Nat.le_of_ble_eq_true rfl) rfl hq rfl rfl rfl (Nat.le_of_ble_eq_true rfl) (e5_draft v) hd k
theorem e3_before (v : Bool) : (wX G σ).set (4) (aX G 4, .inr (3, [.ref (aX G 5), .ref (aX G 6), .ref (aX G 7), .ref (aX G 8), .ref (aX G 9), .ref (aX G (bB (σ.2.2 2))), .ref (aX G (bB (σ.2.2 3)))].set 5 (.ref (aX G (bB v))))) = wX G (sB σ 2 v) := rfl
theorem p3_before (C : Ctx G K cc own nl fr lo) {index : Nat} {v : Bool} (hq : Cond.fieldLink own index "TreeClimb$Ways" "before" "[J" ∈ wsL_law) (hd : decode cc pc = .ok (.putfield index, 3)) (k : F → V G K (wX G (sB σ 2 v)) (pc + 3) lv rest) : F → V G K (wX G σ) pc lv (.ref (aX G (bB v)) :: .ref (aX G 4) :: rest) := v_put C _ (ox_3) rfl inlX3 tyX3 tyX3_ok nmX3 5 (Nat.le_of_ble_eq_true rfl) rfl hq rfl rfl rfl (Nat.le_of_ble_eq_true rfl) (e3_before v) hd k
theorem e3_after (v : Bool) : (wX G σ).set (4) (aX G 4, .inr (3, [.ref (aX G 5), .ref (aX G 6), .ref (aX G 7), .ref (aX G 8), .ref (aX G 9), .ref (aX G (bB (σ.2.2 2))), .ref (aX G (bB (σ.2.2 3)))].set 6 (.ref (aX G (bB v))))) = wX G (sB σ 3 v) := rfl
theorem p3_after (C : Ctx G K cc own nl fr lo) {index : Nat} {v : Bool} (hq : Cond.fieldLink own index "TreeClimb$Ways" "after" "[J" ∈ wsL_law) (hd : decode cc pc = .ok (.putfield index, 3)) (k : F → V G K (wX G (sB σ 3 v)) (pc + 3) lv rest) : F → V G K (wX G σ) pc lv (.ref (aX G (bB v)) :: .ref (aX G 4) :: rest) := v_put C _ (ox_3) rfl inlX3 tyX3 tyX3_ok nmX3 6 (Nat.le_of_ble_eq_true rfl) rfl hq rfl rfl rfl (Nat.le_of_ble_eq_true rfl) (e3_after v) hd k
theorem ax_1 : (wX G σ)[1]? = some (aX G 1, .inl (gC G 0, 6, .inl (σ.1 1))) := rfl
theorem as_1 (j : Nat) (v : Int32) : (wX G σ).set 1 (aX G 1, .inl (gC G 0, 6, .inl (upd (σ.1 1) j v))) = wX G (sI σ 1 j v) := rfl
theorem ax_3 : (wX G σ)[3]? = some (aX G 3, .inl (gC G 0, 400, .inl (σ.1 3))) := rfl
theorem as_3 (j : Nat) (v : Int32) : (wX G σ).set 3 (aX G 3, .inl (gC G 0, 400, .inl (upd (σ.1 3) j v))) = wX G (sI σ 3 j v) := rfl
theorem ax_5 : (wX G σ)[5]? = some (aX G 5, .inl (gC G 0, 13, .inl (σ.1 5))) := rfl
theorem as_5 (j : Nat) (v : Int32) : (wX G σ).set 5 (aX G 5, .inl (gC G 0, 13, .inl (upd (σ.1 5) j v))) = wX G (sI σ 5 j v) := rfl
theorem ax_6 : (wX G σ)[6]? = some (aX G 6, .inl (gC G 0, 13, .inl (σ.1 6))) := rfl
theorem as_6 (j : Nat) (v : Int32) : (wX G σ).set 6 (aX G 6, .inl (gC G 0, 13, .inl (upd (σ.1 6) j v))) = wX G (sI σ 6 j v) := rfl
theorem ax_7 : (wX G σ)[7]? = some (aX G 7, .inl (gC G 0, 13, .inl (σ.1 7))) := rfl
theorem as_7 (j : Nat) (v : Int32) : (wX G σ).set 7 (aX G 7, .inl (gC G 0, 13, .inl (upd (σ.1 7) j v))) = wX G (sI σ 7 j v) := rfl
theorem ax_8 : (wX G σ)[8]? = some (aX G 8, .inl (gC G 1, 13, .inr (.inl (σ.2.1 8)))) := rfl
theorem as_8 (j : Nat) (v : Int64) : (wX G σ).set 8 (aX G 8, .inl (gC G 1, 13, .inr (.inl (vp_updL (σ.2.1 8) j v)))) = wX G (sL σ 8 j v) := rfl
theorem ax_9 : (wX G σ)[9]? = some (aX G 9, .inl (gC G 1, 13, .inr (.inl (σ.2.1 9)))) := rfl
theorem as_9 (j : Nat) (v : Int64) : (wX G σ).set 9 (aX G 9, .inl (gC G 1, 13, .inr (.inl (vp_updL (σ.2.1 9) j v)))) = wX G (sL σ 9 j v) := rfl
theorem ax_13 : (wX G σ)[13]? = some (aX G 13, .inl (gC G 0, 40, .inl (σ.1 13))) := rfl
theorem as_13 (j : Nat) (v : Int32) : (wX G σ).set 13 (aX G 13, .inl (gC G 0, 40, .inl (upd (σ.1 13) j v))) = wX G (sI σ 13 j v) := rfl
theorem ax_14 : (wX G σ)[14]? = some (aX G 14, .inl (gC G 0, 40, .inl (σ.1 14))) := rfl
theorem as_14 (j : Nat) (v : Int32) : (wX G σ).set 14 (aX G 14, .inl (gC G 0, 40, .inl (upd (σ.1 14) j v))) = wX G (sI σ 14 j v) := rfl
theorem ax_15 : (wX G σ)[15]? = some (aX G 15, .inl (gC G 0, 40, .inl (σ.1 15))) := rfl
theorem as_15 (j : Nat) (v : Int32) : (wX G σ).set 15 (aX G 15, .inl (gC G 0, 40, .inl (upd (σ.1 15) j v))) = wX G (sI σ 15 j v) := rfl
theorem am_1 : (wM G σ)[1]? = some (aM G 1, .inl (gC G 2, 400, .inl (σ.1 1))) := rfl
theorem at_1 (j : Nat) (v : Int32) : (wM G σ).set 1 (aM G 1, .inl (gC G 2, 400, .inl (upd (σ.1 1) j (vp_nar .byte v)))) = wM G (sI σ 1 j (vp_nar .byte v)) := rfl
theorem am_2 : (wM G σ)[2]? = some (aM G 2, .inl (gC G 0, 2, .inl (σ.1 2))) := rfl
theorem at_2 (j : Nat) (v : Int32) : (wM G σ).set 2 (aM G 2, .inl (gC G 0, 2, .inl (upd (σ.1 2) j v))) = wM G (sI σ 2 j v) := rfl
theorem am_3 : (wM G σ)[3]? = some (aM G 3, .inl (gC G 0, 144, .inl (σ.1 3))) := rfl
theorem at_3 (j : Nat) (v : Int32) : (wM G σ).set 3 (aM G 3, .inl (gC G 0, 144, .inl (upd (σ.1 3) j v))) = wM G (sI σ 3 j v) := rfl
theorem am_4 : (wM G σ)[4]? = some (aM G 4, .inl (gC G 0, 2, .inl (σ.1 4))) := rfl
theorem at_4 (j : Nat) (v : Int32) : (wM G σ).set 4 (aM G 4, .inl (gC G 0, 2, .inl (upd (σ.1 4) j v))) = wM G (sI σ 4 j v) := rfl
theorem am_5 : (wM G σ)[5]? = some (aM G 5, .inl (gC G 0, 18, .inl (σ.1 5))) := rfl
theorem at_5 (j : Nat) (v : Int32) : (wM G σ).set 5 (aM G 5, .inl (gC G 0, 18, .inl (upd (σ.1 5) j v))) = wM G (sI σ 5 j v) := rfl
theorem am_6 : (wM G σ)[6]? = some (aM G 6, .inl (gC G 0, 6, .inl (σ.1 6))) := rfl
theorem at_6 (j : Nat) (v : Int32) : (wM G σ).set 6 (aM G 6, .inl (gC G 0, 6, .inl (upd (σ.1 6) j v))) = wM G (sI σ 6 j v) := rfl
theorem am_7 : (wM G σ)[7]? = some (aM G 7, .inl (gC G 0, 3, .inl (σ.1 7))) := rfl
theorem at_7 (j : Nat) (v : Int32) : (wM G σ).set 7 (aM G 7, .inl (gC G 0, 3, .inl (upd (σ.1 7) j v))) = wM G (sI σ 7 j v) := rfl
theorem am_8 : (wM G σ)[8]? = some (aM G 8, .inl (gC G 1, 13, .inr (.inl (σ.2.1 8)))) := rfl
theorem at_8 (j : Nat) (v : Int64) : (wM G σ).set 8 (aM G 8, .inl (gC G 1, 13, .inr (.inl (vp_updL (σ.2.1 8) j v)))) = wM G (sL σ 8 j v) := rfl
theorem am_9 : (wM G σ)[9]? = some (aM G 9, .inl (gC G 0, 13, .inl (σ.1 9))) := rfl
theorem at_9 (j : Nat) (v : Int32) : (wM G σ).set 9 (aM G 9, .inl (gC G 0, 13, .inl (upd (σ.1 9) j v))) = wM G (sI σ 9 j v) := rfl
theorem am_10 : (wM G σ)[10]? = some (aM G 10, .inl (gC G 1, 13, .inr (.inl (σ.2.1 10)))) := rfl
theorem at_10 (j : Nat) (v : Int64) : (wM G σ).set 10 (aM G 10, .inl (gC G 1, 13, .inr (.inl (vp_updL (σ.2.1 10) j v)))) = wM G (sL σ 10 j v) := rfl
theorem am_11 : (wM G σ)[11]? = some (aM G 11, .inl (gC G 1, 13, .inr (.inl (σ.2.1 11)))) := rfl
theorem at_11 (j : Nat) (v : Int64) : (wM G σ).set 11 (aM G 11, .inl (gC G 1, 13, .inr (.inl (vp_updL (σ.2.1 11) j v)))) = wM G (sL σ 11 j v) := rfl
theorem am_12 : (wM G σ)[12]? = some (aM G 12, .inl (gC G 1, 13, .inr (.inl (σ.2.1 12)))) := rfl
theorem at_12 (j : Nat) (v : Int64) : (wM G σ).set 12 (aM G 12, .inl (gC G 1, 13, .inr (.inl (vp_updL (σ.2.1 12) j v)))) = wM G (sL σ 12 j v) := rfl
theorem am_13 : (wM G σ)[13]? = some (aM G 13, .inl (gC G 0, 40, .inl (σ.1 13))) := rfl
theorem at_13 (j : Nat) (v : Int32) : (wM G σ).set 13 (aM G 13, .inl (gC G 0, 40, .inl (upd (σ.1 13) j v))) = wM G (sI σ 13 j v) := rfl
theorem am_14 : (wM G σ)[14]? = some (aM G 14, .inl (gC G 0, 40, .inl (σ.1 14))) := rfl
theorem at_14 (j : Nat) (v : Int32) : (wM G σ).set 14 (aM G 14, .inl (gC G 0, 40, .inl (upd (σ.1 14) j v))) = wM G (sI σ 14 j v) := rfl
theorem am_15 : (wM G σ)[15]? = some (aM G 15, .inl (gC G 0, 40, .inl (σ.1 15))) := rfl
theorem at_15 (j : Nat) (v : Int32) : (wM G σ).set 15 (aM G 15, .inl (gC G 0, 40, .inl (upd (σ.1 15) j v))) = wM G (sI σ 15 j v) := rfl
theorem am_16 : (wM G σ)[16]? = some (aM G 16, .inl (gC G 0, 3, .inl (σ.1 16))) := rfl
theorem at_16 (j : Nat) (v : Int32) : (wM G σ).set 16 (aM G 16, .inl (gC G 0, 3, .inl (upd (σ.1 16) j v))) = wM G (sI σ 16 j v) := rfl
theorem am_17 : (wM G σ)[17]? = some (aM G 17, .inl (gC G 0, 3, .inl (σ.1 17))) := rfl
theorem at_17 (j : Nat) (v : Int32) : (wM G σ).set 17 (aM G 17, .inl (gC G 0, 3, .inl (upd (σ.1 17) j v))) = wM G (sI σ 17 j v) := rfl
theorem am_18 : (wM G σ)[18]? = some (aM G 18, .inl (gC G 0, 3, .inl (σ.1 18))) := rfl
theorem at_18 (j : Nat) (v : Int32) : (wM G σ).set 18 (aM G 18, .inl (gC G 0, 3, .inl (upd (σ.1 18) j v))) = wM G (sI σ 18 j v) := rfl
theorem am_19 : (wM G σ)[19]? = some (aM G 19, .inl (gC G 0, 3, .inl (σ.1 19))) := rfl
theorem at_19 (j : Nat) (v : Int32) : (wM G σ).set 19 (aM G 19, .inl (gC G 0, 3, .inl (upd (σ.1 19) j v))) = wM G (sI σ 19 j v) := rfl
theorem am_20 : (wM G σ)[20]? = some (aM G 20, .inl (gC G 0, 3, .inl (σ.1 20))) := rfl
theorem at_20 (j : Nat) (v : Int32) : (wM G σ).set 20 (aM G 20, .inl (gC G 0, 3, .inl (upd (σ.1 20) j v))) = wM G (sI σ 20 j v) := rfl
theorem am_21 : (wM G σ)[21]? = some (aM G 21, .inl (gC G 0, 3, .inl (σ.1 21))) := rfl
theorem at_21 (j : Nat) (v : Int32) : (wM G σ).set 21 (aM G 21, .inl (gC G 0, 3, .inl (upd (σ.1 21) j v))) = wM G (sI σ 21 j v) := rfl
theorem am_22 : (wM G σ)[22]? = some (aM G 22, .inl (gC G 0, 3, .inl (σ.1 22))) := rfl
theorem at_22 (j : Nat) (v : Int32) : (wM G σ).set 22 (aM G 22, .inl (gC G 0, 3, .inl (upd (σ.1 22) j v))) = wM G (sI σ 22 j v) := rfl
theorem am_23 : (wM G σ)[23]? = some (aM G 23, .inl (gC G 3, 2, .inl (σ.1 23))) := rfl
theorem at_23 (j : Nat) (v : Int32) : (wM G σ).set 23 (aM G 23, .inl (gC G 3, 2, .inl (upd (σ.1 23) j (vp_nar .boolean v)))) = wM G (sI σ 23 j (vp_nar .boolean v)) := rfl
theorem ax_bB (b : Bool) : (wX G σ)[(bB b)]? = some (aX G (bB b), .inl (gC G 1, 13, .inr (.inl (σ.2.1 (bB b))))) := by cases b <;> rfl
theorem as_bB (b : Bool) (j : Nat) (v : Int64) : (wX G σ).set (bB b) (aX G (bB b), .inl (gC G 1, 13, .inr (.inl (vp_updL (σ.2.1 (bB b)) j v)))) = wX G (sL σ (bB b) j v) := by cases b <;> rfl
theorem ax_dn (b : Bool) : (wX G σ)[(wB b + 12)]? = some (aX G (wB b + 12), .inl (gC G 0, 12, .inl (σ.1 (wB b + 12)))) := by cases b <;> rfl
theorem as_dn (b : Bool) (j : Nat) (v : Int32) : (wX G σ).set (wB b + 12) (aX G (wB b + 12), .inl (gC G 0, 12, .inl (upd (σ.1 (wB b + 12)) j v))) = wX G (sI σ (wB b + 12) j v) := by cases b <;> rfl
theorem ax_un (b : Bool) : (wX G σ)[(wB b + 13)]? = some (aX G (wB b + 13), .inl (gC G 0, 12, .inl (σ.1 (wB b + 13)))) := by cases b <;> rfl
theorem as_un (b : Bool) (j : Nat) (v : Int32) : (wX G σ).set (wB b + 13) (aX G (wB b + 13), .inl (gC G 0, 12, .inl (upd (σ.1 (wB b + 13)) j v))) = wX G (sI σ (wB b + 13) j v) := by cases b <;> rfl
theorem ax_fr (b : Bool) (i : Nat) (hi : i < 6) : (wX G σ)[(wB b + 2 + i)]? = some (aX G (wB b + 2 + i), .inl (gC G 0, 12, .inl (σ.1 (wB b + 2 + i)))) := by
  cases b <;> match i, hi with
  | 0, _ => rfl
  | 1, _ => rfl
  | 2, _ => rfl
  | 3, _ => rfl
  | 4, _ => rfl
  | 5, _ => rfl
theorem as_fr (b : Bool) (i : Nat) (hi : i < 6) (j : Nat) (v : Int32) : (wX G σ).set (wB b + 2 + i) (aX G (wB b + 2 + i), .inl (gC G 0, 12, .inl (upd (σ.1 (wB b + 2 + i)) j v))) = wX G (sI σ (wB b + 2 + i) j v) := by
  cases b <;> match i, hi with
  | 0, _ => rfl
  | 1, _ => rfl
  | 2, _ => rfl
  | 3, _ => rfl
  | 4, _ => rfl
  | 5, _ => rfl
theorem ax_pr (b : Bool) (i : Nat) (hi : i < 3) : (wX G σ)[(wB b + 9 + i)]? = some (aX G (wB b + 9 + i), .inl (gC G 0, 3, .inl (σ.1 (wB b + 9 + i)))) := by
  cases b <;> match i, hi with
  | 0, _ => rfl
  | 1, _ => rfl
  | 2, _ => rfl
theorem as_pr (b : Bool) (i : Nat) (hi : i < 3) (j : Nat) (v : Int32) : (wX G σ).set (wB b + 9 + i) (aX G (wB b + 9 + i), .inl (gC G 0, 3, .inl (upd (σ.1 (wB b + 9 + i)) j v))) = wX G (sI σ (wB b + 9 + i) j v) := by
  cases b <;> match i, hi with
  | 0, _ => rfl
  | 1, _ => rfl
  | 2, _ => rfl
theorem ax_im : (wX G σ)[16]? = some (aX G 16, .inl (gC G 4, 2, .inr (.inr (.inr (.inr (fun i => if i < 2 then some (aX G (17 + (1 + i))) else none)))))) := rfl
theorem ax_f2 (b : Bool) : (wX G σ)[wB b + 1]? = some (aX G (wB b + 1), .inl (gC G 5, 6, .inr (.inr (.inr (.inr (fun i => if i < 6 then some (aX G (wB b + 2 + i)) else none)))))) := by cases b <;> rfl
theorem ax_p2 (b : Bool) : (wX G σ)[wB b + 8]? = some (aX G (wB b + 8), .inl (gC G 5, 3, .inr (.inr (.inr (.inr (fun i => if i < 3 then some (aX G (wB b + 9 + i)) else none)))))) := by cases b <;> rfl
end WROWS
theorem r_lti {G : GT} {K : KT} {w : va_W} {pc : Nat} {lv : List (Nat × Value)} {rest : List Value} {α : Type} {a : Int32} {f : Int32 → Option α} {Φ : α → Prop} (k : ∀ x, tp (f x) Φ → V G K w pc lv (.int x :: rest)) : tp (lt a f) Φ → V G K w pc lv (.int a :: rest) := fun h => k a h
theorem r_ltl {G : GT} {K : KT} {w : va_W} {pc : Nat} {lv : List (Nat × Value)} {rest : List Value} {α : Type} {a : Int64} {f : Int64 → Option α} {Φ : α → Prop} (k : ∀ x, tp (f x) Φ → V G K w pc lv (.long x :: rest)) : tp (lt a f) Φ → V G K w pc lv (.long a :: rest) := fun h => k a h
theorem r_ltx {G : GT} {K : KT} {pc : Nat} {lv : List (Nat × Value)} {st : List Value} {α : Type} {a : SS} {f : SS → Option α} {Φ : α → Prop} (k : ∀ x, tp (f x) Φ → V G K (wX G x) pc lv st) : tp (lt a f) Φ → V G K (wX G a) pc lv st := fun h => k a h
theorem r_ltm {G : GT} {K : KT} {pc : Nat} {lv : List (Nat × Value)} {st : List Value} {α : Type} {a : SS} {f : SS → Option α} {Φ : α → Prop} (k : ∀ x, tp (f x) Φ → V G K (wM G x) pc lv st) : tp (lt a f) Φ → V G K (wM G a) pc lv st := fun h => k a h
theorem r_lJ {α γ : Type} {a : α} {f : α → Option γ} {Φ : γ → Prop} {X : Prop} (J : (γ → Prop) → α → Prop) (hj : J Φ a) (k : ∀ x, J Φ x → tp (f x) Φ → X) : tp (lt a f) Φ → X := fun h => k a hj h
theorem v_iincL {G : GT} {K : KT} {cc : ByteArray} {own : String} {nl fr lo : Nat} {w : va_W} {pc : Nat} {lv lv0 : List (Nat × Value)} {st : List Value} (C : Ctx G K cc own nl fr lo) {i : Nat} {n : Int} {x : Int32} (v : Int32) (q : Nat) {α : Type} {f : Int32 → Option α} {Φ : α → Prop} (hd : decode cc pc = .ok (.iinc i n, 3)) (hq : lv[q]? = some (i, .int x)) (hv : Int32.ofInt n = v) (hn : i < nl) (hl2 : lv.filter (fun q => !(q.1 == i) && !(q.1 + 1 == i && q.2.category == 2)) = lv0) (k : ∀ y, tp (f y) Φ → V G K w (pc + 3) ((i, .int y) :: lv0) st) : tp (lt (x + v) f) Φ → V G K w pc lv st := v_iinc C v q hd hq hv hn (by rw [hl2]) (fun h => k _ h)
def bk1 {α1 β : Type} (x : Option (α1)) (f : α1 → Option β) : Option β := match x with | some a => f a | none => none
def k1 {α1 : Type} (Ψ : α1 → Prop) : (α1) → Prop := fun a => Ψ a
theorem r_bk1 {α1 β : Type} {x : Option (α1)} {f : α1 → Option β} {Φ : β → Prop} {X : Prop} (k : tp x (k1 fun x1 => tp (f x1) Φ) → X) : tp (bk1 x f) Φ → X := by
  intro ⟨b, h, q⟩
  cases x with
  | none => cases h
  | some a => exact k ⟨a, rfl, b, h, q⟩
def bs1 {α1 ρ β : Type} (x : Option ((α1) ⊕ ρ)) (f : α1 → Option β) (g : ρ → Option β) : Option β := match x with | some (.inl a) => f a | some (.inr r) => g r | none => none
theorem r_bs1 {α1 ρ β : Type} {x : Option ((α1) ⊕ ρ)} {f : α1 → Option β} {g : ρ → Option β} {Φ : β → Prop} {X : Prop} (k : tp x (uS (k1 fun x1 => tp (f x1) Φ) (fun r => tp (g r) Φ)) → X) : tp (bs1 x f g) Φ → X := by
  intro ⟨b, h, q⟩
  cases x with
  | none => cases h
  | some a =>
    cases a with
    | inl a => exact k ⟨.inl a, rfl, b, h, q⟩
    | inr r => exact k ⟨.inr r, rfl, b, h, q⟩
def bk2 {α1 α2 β : Type} (x : Option (α1 × α2)) (f : α1 → α2 → Option β) : Option β := match x with | some a => f a.1 a.2 | none => none
def k2 {α1 α2 : Type} (Ψ : α1 → α2 → Prop) : (α1 × α2) → Prop := fun a => Ψ a.1 a.2
theorem r_bk2 {α1 α2 β : Type} {x : Option (α1 × α2)} {f : α1 → α2 → Option β} {Φ : β → Prop} {X : Prop} (k : tp x (k2 fun x1 x2 => tp (f x1 x2) Φ) → X) : tp (bk2 x f) Φ → X := by
  intro ⟨b, h, q⟩
  cases x with
  | none => cases h
  | some a => exact k ⟨a, rfl, b, h, q⟩
def bs2 {α1 α2 ρ β : Type} (x : Option ((α1 × α2) ⊕ ρ)) (f : α1 → α2 → Option β) (g : ρ → Option β) : Option β := match x with | some (.inl a) => f a.1 a.2 | some (.inr r) => g r | none => none
theorem r_bs2 {α1 α2 ρ β : Type} {x : Option ((α1 × α2) ⊕ ρ)} {f : α1 → α2 → Option β} {g : ρ → Option β} {Φ : β → Prop} {X : Prop} (k : tp x (uS (k2 fun x1 x2 => tp (f x1 x2) Φ) (fun r => tp (g r) Φ)) → X) : tp (bs2 x f g) Φ → X := by
  intro ⟨b, h, q⟩
  cases x with
  | none => cases h
  | some a =>
    cases a with
    | inl a => exact k ⟨.inl a, rfl, b, h, q⟩
    | inr r => exact k ⟨.inr r, rfl, b, h, q⟩
def bk3 {α1 α2 α3 β : Type} (x : Option (α1 × α2 × α3)) (f : α1 → α2 → α3 → Option β) : Option β := match x with | some a => f a.1 a.2.1 a.2.2 | none => none
def k3 {α1 α2 α3 : Type} (Ψ : α1 → α2 → α3 → Prop) : (α1 × α2 × α3) → Prop := fun a => Ψ a.1 a.2.1 a.2.2
theorem r_bk3 {α1 α2 α3 β : Type} {x : Option (α1 × α2 × α3)} {f : α1 → α2 → α3 → Option β} {Φ : β → Prop} {X : Prop} (k : tp x (k3 fun x1 x2 x3 => tp (f x1 x2 x3) Φ) → X) : tp (bk3 x f) Φ → X := by
  intro ⟨b, h, q⟩
  cases x with
  | none => cases h
  | some a => exact k ⟨a, rfl, b, h, q⟩
def bs3 {α1 α2 α3 ρ β : Type} (x : Option ((α1 × α2 × α3) ⊕ ρ)) (f : α1 → α2 → α3 → Option β) (g : ρ → Option β) : Option β := match x with | some (.inl a) => f a.1 a.2.1 a.2.2 | some (.inr r) => g r | none => none
theorem r_bs3 {α1 α2 α3 ρ β : Type} {x : Option ((α1 × α2 × α3) ⊕ ρ)} {f : α1 → α2 → α3 → Option β} {g : ρ → Option β} {Φ : β → Prop} {X : Prop} (k : tp x (uS (k3 fun x1 x2 x3 => tp (f x1 x2 x3) Φ) (fun r => tp (g r) Φ)) → X) : tp (bs3 x f g) Φ → X := by
  intro ⟨b, h, q⟩
  cases x with
  | none => cases h
  | some a =>
    cases a with
    | inl a => exact k ⟨.inl a, rfl, b, h, q⟩
    | inr r => exact k ⟨.inr r, rfl, b, h, q⟩
def bk4 {α1 α2 α3 α4 β : Type} (x : Option (α1 × α2 × α3 × α4)) (f : α1 → α2 → α3 → α4 → Option β) : Option β := match x with | some a => f a.1 a.2.1 a.2.2.1 a.2.2.2 | none => none
def k4 {α1 α2 α3 α4 : Type} (Ψ : α1 → α2 → α3 → α4 → Prop) : (α1 × α2 × α3 × α4) → Prop := fun a => Ψ a.1 a.2.1 a.2.2.1 a.2.2.2
theorem r_bk4 {α1 α2 α3 α4 β : Type} {x : Option (α1 × α2 × α3 × α4)} {f : α1 → α2 → α3 → α4 → Option β} {Φ : β → Prop} {X : Prop} (k : tp x (k4 fun x1 x2 x3 x4 => tp (f x1 x2 x3 x4) Φ) → X) : tp (bk4 x f) Φ → X := by
  intro ⟨b, h, q⟩
  cases x with
  | none => cases h
  | some a => exact k ⟨a, rfl, b, h, q⟩
def bs4 {α1 α2 α3 α4 ρ β : Type} (x : Option ((α1 × α2 × α3 × α4) ⊕ ρ)) (f : α1 → α2 → α3 → α4 → Option β) (g : ρ → Option β) : Option β := match x with | some (.inl a) => f a.1 a.2.1 a.2.2.1 a.2.2.2 | some (.inr r) => g r | none => none
theorem r_bs4 {α1 α2 α3 α4 ρ β : Type} {x : Option ((α1 × α2 × α3 × α4) ⊕ ρ)} {f : α1 → α2 → α3 → α4 → Option β} {g : ρ → Option β} {Φ : β → Prop} {X : Prop} (k : tp x (uS (k4 fun x1 x2 x3 x4 => tp (f x1 x2 x3 x4) Φ) (fun r => tp (g r) Φ)) → X) : tp (bs4 x f g) Φ → X := by
  intro ⟨b, h, q⟩
  cases x with
  | none => cases h
  | some a =>
    cases a with
    | inl a => exact k ⟨.inl a, rfl, b, h, q⟩
    | inr r => exact k ⟨.inr r, rfl, b, h, q⟩
def bk5 {α1 α2 α3 α4 α5 β : Type} (x : Option (α1 × α2 × α3 × α4 × α5)) (f : α1 → α2 → α3 → α4 → α5 → Option β) : Option β := match x with | some a => f a.1 a.2.1 a.2.2.1 a.2.2.2.1 a.2.2.2.2 | none => none
def k5 {α1 α2 α3 α4 α5 : Type} (Ψ : α1 → α2 → α3 → α4 → α5 → Prop) : (α1 × α2 × α3 × α4 × α5) → Prop := fun a => Ψ a.1 a.2.1 a.2.2.1 a.2.2.2.1 a.2.2.2.2
theorem r_bk5 {α1 α2 α3 α4 α5 β : Type} {x : Option (α1 × α2 × α3 × α4 × α5)} {f : α1 → α2 → α3 → α4 → α5 → Option β} {Φ : β → Prop} {X : Prop} (k : tp x (k5 fun x1 x2 x3 x4 x5 => tp (f x1 x2 x3 x4 x5) Φ) → X) : tp (bk5 x f) Φ → X := by
  intro ⟨b, h, q⟩
  cases x with
  | none => cases h
  | some a => exact k ⟨a, rfl, b, h, q⟩
def bs5 {α1 α2 α3 α4 α5 ρ β : Type} (x : Option ((α1 × α2 × α3 × α4 × α5) ⊕ ρ)) (f : α1 → α2 → α3 → α4 → α5 → Option β) (g : ρ → Option β) : Option β := match x with | some (.inl a) => f a.1 a.2.1 a.2.2.1 a.2.2.2.1 a.2.2.2.2 | some (.inr r) => g r | none => none
theorem r_bs5 {α1 α2 α3 α4 α5 ρ β : Type} {x : Option ((α1 × α2 × α3 × α4 × α5) ⊕ ρ)} {f : α1 → α2 → α3 → α4 → α5 → Option β} {g : ρ → Option β} {Φ : β → Prop} {X : Prop} (k : tp x (uS (k5 fun x1 x2 x3 x4 x5 => tp (f x1 x2 x3 x4 x5) Φ) (fun r => tp (g r) Φ)) → X) : tp (bs5 x f g) Φ → X := by
  intro ⟨b, h, q⟩
  cases x with
  | none => cases h
  | some a =>
    cases a with
    | inl a => exact k ⟨.inl a, rfl, b, h, q⟩
    | inr r => exact k ⟨.inr r, rfl, b, h, q⟩
def bk6 {α1 α2 α3 α4 α5 α6 β : Type} (x : Option (α1 × α2 × α3 × α4 × α5 × α6)) (f : α1 → α2 → α3 → α4 → α5 → α6 → Option β) : Option β := match x with | some a => f a.1 a.2.1 a.2.2.1 a.2.2.2.1 a.2.2.2.2.1 a.2.2.2.2.2 | none => none
def k6 {α1 α2 α3 α4 α5 α6 : Type} (Ψ : α1 → α2 → α3 → α4 → α5 → α6 → Prop) : (α1 × α2 × α3 × α4 × α5 × α6) → Prop := fun a => Ψ a.1 a.2.1 a.2.2.1 a.2.2.2.1 a.2.2.2.2.1 a.2.2.2.2.2
theorem r_bk6 {α1 α2 α3 α4 α5 α6 β : Type} {x : Option (α1 × α2 × α3 × α4 × α5 × α6)} {f : α1 → α2 → α3 → α4 → α5 → α6 → Option β} {Φ : β → Prop} {X : Prop} (k : tp x (k6 fun x1 x2 x3 x4 x5 x6 => tp (f x1 x2 x3 x4 x5 x6) Φ) → X) : tp (bk6 x f) Φ → X := by
  intro ⟨b, h, q⟩
  cases x with
  | none => cases h
  | some a => exact k ⟨a, rfl, b, h, q⟩
def bs6 {α1 α2 α3 α4 α5 α6 ρ β : Type} (x : Option ((α1 × α2 × α3 × α4 × α5 × α6) ⊕ ρ)) (f : α1 → α2 → α3 → α4 → α5 → α6 → Option β) (g : ρ → Option β) : Option β := match x with | some (.inl a) => f a.1 a.2.1 a.2.2.1 a.2.2.2.1 a.2.2.2.2.1 a.2.2.2.2.2 | some (.inr r) => g r | none => none
theorem r_bs6 {α1 α2 α3 α4 α5 α6 ρ β : Type} {x : Option ((α1 × α2 × α3 × α4 × α5 × α6) ⊕ ρ)} {f : α1 → α2 → α3 → α4 → α5 → α6 → Option β} {g : ρ → Option β} {Φ : β → Prop} {X : Prop} (k : tp x (uS (k6 fun x1 x2 x3 x4 x5 x6 => tp (f x1 x2 x3 x4 x5 x6) Φ) (fun r => tp (g r) Φ)) → X) : tp (bs6 x f g) Φ → X := by
  intro ⟨b, h, q⟩
  cases x with
  | none => cases h
  | some a =>
    cases a with
    | inl a => exact k ⟨.inl a, rfl, b, h, q⟩
    | inr r => exact k ⟨.inr r, rfl, b, h, q⟩
/-- the words that a call wants of the called one -/
def CFv (y : MethodName) (bytes : ByteArray) (n : Nat) (ret : Option FieldType) (na : Nat) : Prop := Cond.instanceMethod y ∈ wsL_law ∧ Cond.selects y.cls y y ∈ wsL_law ∧ Cond.initialized y.cls ∈ wsL_law ∧ Cond.code y bytes n ret ∈ wsL_law ∧ y.cls ≠ "java/lang/invoke/MethodHandle" ∧ y.cls ≠ "java/lang/invoke/VarHandle" ∧ (parseMethodDescriptor y.desc).map (fun d => d.parameters.length) = some na
def CFs (y : MethodName) (bytes : ByteArray) (n : Nat) (ret : Option FieldType) (na : Nat) : Prop := Cond.static y ∈ wsL_law ∧ Cond.initialized y.cls ∈ wsL_law ∧ Cond.code y bytes n ret ∈ wsL_law ∧ y.cls ≠ "java/lang/invoke/MethodHandle" ∧ y.cls ≠ "java/lang/invoke/VarHandle" ∧ (parseMethodDescriptor y.desc).map (fun d => d.parameters.length) = some na
section TCALLS
variable {G : GT} {K : KT} {cc : ByteArray} {own : String} {nl fr lo : Nat} {w : va_W} {pc : Nat} {lv : List (Nat × Value)} {rest : List Value} {α : Type} {Φ : α → Prop} {y : MethodName} {bytes : ByteArray} {n fc lc index b : Nat} {ret : Option FieldType}
theorem cIv0r (C : Ctx G K cc own nl fr lo) {x : Option Int32} {f : Int32 → Option α} (hM : ∀ r, x = some r → MI G K.2.1 y bytes n ret fc lc [.ref b] w r w) (q : CFv y bytes n ret 0) (h0 : Cond.methodLink own index y ∈ wsL_law) (hrecv : ∃ (q0 ci : Nat) (fs : List Value) (T : u_T) (N : Nat), vwCl[ci]? = some (y.cls, T, N) ∧ w[q0]? = some (b, .inr (ci, fs))) (hR : fc + 1 ≤ fr ∧ 8 + (n + 11) + lc ≤ lo) (hcat : (rest.map fun v => v.category).sum ≤ 8) (hdg : decode cc pc = .ok (.invokevirtual index, 3)) (k : ∀ r, tp (f r) Φ → V G K w (pc + 3) lv (.int r :: rest)) : tp (bd x f) Φ → V G K w pc lv (.ref b :: rest) := by
  intro ⟨z, h, q2⟩
  cases x with
  | none => cases h
  | some r => exact v_callIv C (As := []) (hM r rfl) h0 q.1 q.2.1 q.2.2.1 q.2.2.2.1 hrecv q.2.2.2.2 hR rfl hcat hdg (k r) ⟨z, h, q2⟩
theorem cIv0w (C : Ctx G K cc own nl fr lo) {W2 : SS → va_W} {x : Option (Int32 × SS)} {f : Int32 → SS → Option α} (hM : ∀ r σ, x = some (r, σ) → MI G K.2.1 y bytes n ret fc lc [.ref b] w r (W2 σ)) (q : CFv y bytes n ret 0) (h0 : Cond.methodLink own index y ∈ wsL_law) (hrecv : ∃ (q0 ci : Nat) (fs : List Value) (T : u_T) (N : Nat), vwCl[ci]? = some (y.cls, T, N) ∧ w[q0]? = some (b, .inr (ci, fs))) (hR : fc + 1 ≤ fr ∧ 8 + (n + 11) + lc ≤ lo) (hcat : (rest.map fun v => v.category).sum ≤ 8) (hdg : decode cc pc = .ok (.invokevirtual index, 3)) (k : ∀ r σ, tp (f r σ) Φ → V G K (W2 σ) (pc + 3) lv (.int r :: rest)) : tp (bk2 x f) Φ → V G K w pc lv (.ref b :: rest) := by
  intro ⟨z, h, q2⟩
  cases x with
  | none => cases h
  | some r => exact v_callIv C (As := []) (hM r.1 r.2 rfl) h0 q.1 q.2.1 q.2.2.1 q.2.2.2.1 hrecv q.2.2.2.2 hR rfl hcat hdg (k r.1 r.2) ⟨z, h, q2⟩
theorem cLv0r (C : Ctx G K cc own nl fr lo) {x : Option Int64} {f : Int64 → Option α} (hM : ∀ r, x = some r → ML G K.2.1 y bytes n ret fc lc [.ref b] w r w) (q : CFv y bytes n ret 0) (h0 : Cond.methodLink own index y ∈ wsL_law) (hrecv : ∃ (q0 ci : Nat) (fs : List Value) (T : u_T) (N : Nat), vwCl[ci]? = some (y.cls, T, N) ∧ w[q0]? = some (b, .inr (ci, fs))) (hR : fc + 1 ≤ fr ∧ 8 + (n + 11) + lc ≤ lo) (hcat : (rest.map fun v => v.category).sum ≤ 8) (hdg : decode cc pc = .ok (.invokevirtual index, 3)) (k : ∀ r, tp (f r) Φ → V G K w (pc + 3) lv (.long r :: rest)) : tp (bd x f) Φ → V G K w pc lv (.ref b :: rest) := by
  intro ⟨z, h, q2⟩
  cases x with
  | none => cases h
  | some r => exact v_callLv C (As := []) (hM r rfl) h0 q.1 q.2.1 q.2.2.1 q.2.2.2.1 hrecv q.2.2.2.2 hR rfl hcat hdg (k r) ⟨z, h, q2⟩
theorem cLv0w (C : Ctx G K cc own nl fr lo) {W2 : SS → va_W} {x : Option (Int64 × SS)} {f : Int64 → SS → Option α} (hM : ∀ r σ, x = some (r, σ) → ML G K.2.1 y bytes n ret fc lc [.ref b] w r (W2 σ)) (q : CFv y bytes n ret 0) (h0 : Cond.methodLink own index y ∈ wsL_law) (hrecv : ∃ (q0 ci : Nat) (fs : List Value) (T : u_T) (N : Nat), vwCl[ci]? = some (y.cls, T, N) ∧ w[q0]? = some (b, .inr (ci, fs))) (hR : fc + 1 ≤ fr ∧ 8 + (n + 11) + lc ≤ lo) (hcat : (rest.map fun v => v.category).sum ≤ 8) (hdg : decode cc pc = .ok (.invokevirtual index, 3)) (k : ∀ r σ, tp (f r σ) Φ → V G K (W2 σ) (pc + 3) lv (.long r :: rest)) : tp (bk2 x f) Φ → V G K w pc lv (.ref b :: rest) := by
  intro ⟨z, h, q2⟩
  cases x with
  | none => cases h
  | some r => exact v_callLv C (As := []) (hM r.1 r.2 rfl) h0 q.1 q.2.1 q.2.2.1 q.2.2.2.1 hrecv q.2.2.2.2 hR rfl hcat hdg (k r.1 r.2) ⟨z, h, q2⟩
theorem cVv0w (C : Ctx G K cc own nl fr lo) {W2 : SS → va_W} {x : Option SS} {f : SS → Option α} (hM : ∀ σ, x = some σ → MV G K.2.1 y bytes n ret fc lc [.ref b] w (W2 σ)) (q : CFv y bytes n ret 0) (h0 : Cond.methodLink own index y ∈ wsL_law) (hrecv : ∃ (q0 ci : Nat) (fs : List Value) (T : u_T) (N : Nat), vwCl[ci]? = some (y.cls, T, N) ∧ w[q0]? = some (b, .inr (ci, fs))) (hR : fc + 1 ≤ fr ∧ 8 + (n + 11) + lc ≤ lo) (hcat : (rest.map fun v => v.category).sum ≤ 8) (hdg : decode cc pc = .ok (.invokevirtual index, 3)) (k : ∀ σ, tp (f σ) Φ → V G K (W2 σ) (pc + 3) lv (rest)) : tp (bd x f) Φ → V G K w pc lv (.ref b :: rest) := by
  intro ⟨z, h, q2⟩
  cases x with
  | none => cases h
  | some r => exact v_callVv C (As := []) (hM r rfl) h0 q.1 q.2.1 q.2.2.1 q.2.2.2.1 hrecv q.2.2.2.2 hR rfl hcat hdg (k r) ⟨z, h, q2⟩
theorem cIs0r (C : Ctx G K cc own nl fr lo) {x : Option Int32} {f : Int32 → Option α} (hM : ∀ r, x = some r → MI G K.2.1 y bytes n ret fc lc [] w r w) (q : CFs y bytes n ret 0) (h0 : Cond.methodLink own index y ∈ wsL_law) (hR : fc + 1 ≤ fr ∧ 8 + (n + 11) + lc ≤ lo) (hcat : (rest.map fun v => v.category).sum ≤ 8) (hdg : decode cc pc = .ok (.invokestatic index, 3)) (k : ∀ r, tp (f r) Φ → V G K w (pc + 3) lv (.int r :: rest)) : tp (bd x f) Φ → V G K w pc lv (rest) := by
  intro ⟨z, h, q2⟩
  cases x with
  | none => cases h
  | some r => exact v_callIs C (As := []) (hM r rfl) h0 q.1 q.2.1 q.2.2.1 q.2.2.2 hR rfl hcat hdg (k r) ⟨z, h, q2⟩
theorem cIs0w (C : Ctx G K cc own nl fr lo) {W2 : SS → va_W} {x : Option (Int32 × SS)} {f : Int32 → SS → Option α} (hM : ∀ r σ, x = some (r, σ) → MI G K.2.1 y bytes n ret fc lc [] w r (W2 σ)) (q : CFs y bytes n ret 0) (h0 : Cond.methodLink own index y ∈ wsL_law) (hR : fc + 1 ≤ fr ∧ 8 + (n + 11) + lc ≤ lo) (hcat : (rest.map fun v => v.category).sum ≤ 8) (hdg : decode cc pc = .ok (.invokestatic index, 3)) (k : ∀ r σ, tp (f r σ) Φ → V G K (W2 σ) (pc + 3) lv (.int r :: rest)) : tp (bk2 x f) Φ → V G K w pc lv (rest) := by
  intro ⟨z, h, q2⟩
  cases x with
  | none => cases h
  | some r => exact v_callIs C (As := []) (hM r.1 r.2 rfl) h0 q.1 q.2.1 q.2.2.1 q.2.2.2 hR rfl hcat hdg (k r.1 r.2) ⟨z, h, q2⟩
theorem cLs0r (C : Ctx G K cc own nl fr lo) {x : Option Int64} {f : Int64 → Option α} (hM : ∀ r, x = some r → ML G K.2.1 y bytes n ret fc lc [] w r w) (q : CFs y bytes n ret 0) (h0 : Cond.methodLink own index y ∈ wsL_law) (hR : fc + 1 ≤ fr ∧ 8 + (n + 11) + lc ≤ lo) (hcat : (rest.map fun v => v.category).sum ≤ 8) (hdg : decode cc pc = .ok (.invokestatic index, 3)) (k : ∀ r, tp (f r) Φ → V G K w (pc + 3) lv (.long r :: rest)) : tp (bd x f) Φ → V G K w pc lv (rest) := by
  intro ⟨z, h, q2⟩
  cases x with
  | none => cases h
  | some r => exact v_callLs C (As := []) (hM r rfl) h0 q.1 q.2.1 q.2.2.1 q.2.2.2 hR rfl hcat hdg (k r) ⟨z, h, q2⟩
theorem cLs0w (C : Ctx G K cc own nl fr lo) {W2 : SS → va_W} {x : Option (Int64 × SS)} {f : Int64 → SS → Option α} (hM : ∀ r σ, x = some (r, σ) → ML G K.2.1 y bytes n ret fc lc [] w r (W2 σ)) (q : CFs y bytes n ret 0) (h0 : Cond.methodLink own index y ∈ wsL_law) (hR : fc + 1 ≤ fr ∧ 8 + (n + 11) + lc ≤ lo) (hcat : (rest.map fun v => v.category).sum ≤ 8) (hdg : decode cc pc = .ok (.invokestatic index, 3)) (k : ∀ r σ, tp (f r σ) Φ → V G K (W2 σ) (pc + 3) lv (.long r :: rest)) : tp (bk2 x f) Φ → V G K w pc lv (rest) := by
  intro ⟨z, h, q2⟩
  cases x with
  | none => cases h
  | some r => exact v_callLs C (As := []) (hM r.1 r.2 rfl) h0 q.1 q.2.1 q.2.2.1 q.2.2.2 hR rfl hcat hdg (k r.1 r.2) ⟨z, h, q2⟩
theorem cVs0w (C : Ctx G K cc own nl fr lo) {W2 : SS → va_W} {x : Option SS} {f : SS → Option α} (hM : ∀ σ, x = some σ → MV G K.2.1 y bytes n ret fc lc [] w (W2 σ)) (q : CFs y bytes n ret 0) (h0 : Cond.methodLink own index y ∈ wsL_law) (hR : fc + 1 ≤ fr ∧ 8 + (n + 11) + lc ≤ lo) (hcat : (rest.map fun v => v.category).sum ≤ 8) (hdg : decode cc pc = .ok (.invokestatic index, 3)) (k : ∀ σ, tp (f σ) Φ → V G K (W2 σ) (pc + 3) lv (rest)) : tp (bd x f) Φ → V G K w pc lv (rest) := by
  intro ⟨z, h, q2⟩
  cases x with
  | none => cases h
  | some r => exact v_callVs C (As := []) (hM r rfl) h0 q.1 q.2.1 q.2.2.1 q.2.2.2 hR rfl hcat hdg (k r) ⟨z, h, q2⟩
theorem cIv1r (C : Ctx G K cc own nl fr lo) {a1 : Value} {x : Option Int32} {f : Int32 → Option α} (hM : ∀ r, x = some r → MI G K.2.1 y bytes n ret fc lc [.ref b, a1] w r w) (q : CFv y bytes n ret 1) (h0 : Cond.methodLink own index y ∈ wsL_law) (hrecv : ∃ (q0 ci : Nat) (fs : List Value) (T : u_T) (N : Nat), vwCl[ci]? = some (y.cls, T, N) ∧ w[q0]? = some (b, .inr (ci, fs))) (hR : fc + 1 ≤ fr ∧ 8 + (n + 11) + lc ≤ lo) (hcat : (rest.map fun v => v.category).sum ≤ 8) (hdg : decode cc pc = .ok (.invokevirtual index, 3)) (k : ∀ r, tp (f r) Φ → V G K w (pc + 3) lv (.int r :: rest)) : tp (bd x f) Φ → V G K w pc lv (a1 :: .ref b :: rest) := by
  intro ⟨z, h, q2⟩
  cases x with
  | none => cases h
  | some r => exact v_callIv C (As := [a1]) (hM r rfl) h0 q.1 q.2.1 q.2.2.1 q.2.2.2.1 hrecv q.2.2.2.2 hR rfl hcat hdg (k r) ⟨z, h, q2⟩
theorem cIv1w (C : Ctx G K cc own nl fr lo) {a1 : Value} {W2 : SS → va_W} {x : Option (Int32 × SS)} {f : Int32 → SS → Option α} (hM : ∀ r σ, x = some (r, σ) → MI G K.2.1 y bytes n ret fc lc [.ref b, a1] w r (W2 σ)) (q : CFv y bytes n ret 1) (h0 : Cond.methodLink own index y ∈ wsL_law) (hrecv : ∃ (q0 ci : Nat) (fs : List Value) (T : u_T) (N : Nat), vwCl[ci]? = some (y.cls, T, N) ∧ w[q0]? = some (b, .inr (ci, fs))) (hR : fc + 1 ≤ fr ∧ 8 + (n + 11) + lc ≤ lo) (hcat : (rest.map fun v => v.category).sum ≤ 8) (hdg : decode cc pc = .ok (.invokevirtual index, 3)) (k : ∀ r σ, tp (f r σ) Φ → V G K (W2 σ) (pc + 3) lv (.int r :: rest)) : tp (bk2 x f) Φ → V G K w pc lv (a1 :: .ref b :: rest) := by
  intro ⟨z, h, q2⟩
  cases x with
  | none => cases h
  | some r => exact v_callIv C (As := [a1]) (hM r.1 r.2 rfl) h0 q.1 q.2.1 q.2.2.1 q.2.2.2.1 hrecv q.2.2.2.2 hR rfl hcat hdg (k r.1 r.2) ⟨z, h, q2⟩
theorem cLv1r (C : Ctx G K cc own nl fr lo) {a1 : Value} {x : Option Int64} {f : Int64 → Option α} (hM : ∀ r, x = some r → ML G K.2.1 y bytes n ret fc lc [.ref b, a1] w r w) (q : CFv y bytes n ret 1) (h0 : Cond.methodLink own index y ∈ wsL_law) (hrecv : ∃ (q0 ci : Nat) (fs : List Value) (T : u_T) (N : Nat), vwCl[ci]? = some (y.cls, T, N) ∧ w[q0]? = some (b, .inr (ci, fs))) (hR : fc + 1 ≤ fr ∧ 8 + (n + 11) + lc ≤ lo) (hcat : (rest.map fun v => v.category).sum ≤ 8) (hdg : decode cc pc = .ok (.invokevirtual index, 3)) (k : ∀ r, tp (f r) Φ → V G K w (pc + 3) lv (.long r :: rest)) : tp (bd x f) Φ → V G K w pc lv (a1 :: .ref b :: rest) := by
  intro ⟨z, h, q2⟩
  cases x with
  | none => cases h
  | some r => exact v_callLv C (As := [a1]) (hM r rfl) h0 q.1 q.2.1 q.2.2.1 q.2.2.2.1 hrecv q.2.2.2.2 hR rfl hcat hdg (k r) ⟨z, h, q2⟩
theorem cLv1w (C : Ctx G K cc own nl fr lo) {a1 : Value} {W2 : SS → va_W} {x : Option (Int64 × SS)} {f : Int64 → SS → Option α} (hM : ∀ r σ, x = some (r, σ) → ML G K.2.1 y bytes n ret fc lc [.ref b, a1] w r (W2 σ)) (q : CFv y bytes n ret 1) (h0 : Cond.methodLink own index y ∈ wsL_law) (hrecv : ∃ (q0 ci : Nat) (fs : List Value) (T : u_T) (N : Nat), vwCl[ci]? = some (y.cls, T, N) ∧ w[q0]? = some (b, .inr (ci, fs))) (hR : fc + 1 ≤ fr ∧ 8 + (n + 11) + lc ≤ lo) (hcat : (rest.map fun v => v.category).sum ≤ 8) (hdg : decode cc pc = .ok (.invokevirtual index, 3)) (k : ∀ r σ, tp (f r σ) Φ → V G K (W2 σ) (pc + 3) lv (.long r :: rest)) : tp (bk2 x f) Φ → V G K w pc lv (a1 :: .ref b :: rest) := by
  intro ⟨z, h, q2⟩
  cases x with
  | none => cases h
  | some r => exact v_callLv C (As := [a1]) (hM r.1 r.2 rfl) h0 q.1 q.2.1 q.2.2.1 q.2.2.2.1 hrecv q.2.2.2.2 hR rfl hcat hdg (k r.1 r.2) ⟨z, h, q2⟩
theorem cVv1w (C : Ctx G K cc own nl fr lo) {a1 : Value} {W2 : SS → va_W} {x : Option SS} {f : SS → Option α} (hM : ∀ σ, x = some σ → MV G K.2.1 y bytes n ret fc lc [.ref b, a1] w (W2 σ)) (q : CFv y bytes n ret 1) (h0 : Cond.methodLink own index y ∈ wsL_law) (hrecv : ∃ (q0 ci : Nat) (fs : List Value) (T : u_T) (N : Nat), vwCl[ci]? = some (y.cls, T, N) ∧ w[q0]? = some (b, .inr (ci, fs))) (hR : fc + 1 ≤ fr ∧ 8 + (n + 11) + lc ≤ lo) (hcat : (rest.map fun v => v.category).sum ≤ 8) (hdg : decode cc pc = .ok (.invokevirtual index, 3)) (k : ∀ σ, tp (f σ) Φ → V G K (W2 σ) (pc + 3) lv (rest)) : tp (bd x f) Φ → V G K w pc lv (a1 :: .ref b :: rest) := by
  intro ⟨z, h, q2⟩
  cases x with
  | none => cases h
  | some r => exact v_callVv C (As := [a1]) (hM r rfl) h0 q.1 q.2.1 q.2.2.1 q.2.2.2.1 hrecv q.2.2.2.2 hR rfl hcat hdg (k r) ⟨z, h, q2⟩
theorem cIs1r (C : Ctx G K cc own nl fr lo) {a1 : Value} {x : Option Int32} {f : Int32 → Option α} (hM : ∀ r, x = some r → MI G K.2.1 y bytes n ret fc lc [a1] w r w) (q : CFs y bytes n ret 1) (h0 : Cond.methodLink own index y ∈ wsL_law) (hR : fc + 1 ≤ fr ∧ 8 + (n + 11) + lc ≤ lo) (hcat : (rest.map fun v => v.category).sum ≤ 8) (hdg : decode cc pc = .ok (.invokestatic index, 3)) (k : ∀ r, tp (f r) Φ → V G K w (pc + 3) lv (.int r :: rest)) : tp (bd x f) Φ → V G K w pc lv (a1 :: rest) := by
  intro ⟨z, h, q2⟩
  cases x with
  | none => cases h
  | some r => exact v_callIs C (As := [a1]) (hM r rfl) h0 q.1 q.2.1 q.2.2.1 q.2.2.2 hR rfl hcat hdg (k r) ⟨z, h, q2⟩
theorem cIs1w (C : Ctx G K cc own nl fr lo) {a1 : Value} {W2 : SS → va_W} {x : Option (Int32 × SS)} {f : Int32 → SS → Option α} (hM : ∀ r σ, x = some (r, σ) → MI G K.2.1 y bytes n ret fc lc [a1] w r (W2 σ)) (q : CFs y bytes n ret 1) (h0 : Cond.methodLink own index y ∈ wsL_law) (hR : fc + 1 ≤ fr ∧ 8 + (n + 11) + lc ≤ lo) (hcat : (rest.map fun v => v.category).sum ≤ 8) (hdg : decode cc pc = .ok (.invokestatic index, 3)) (k : ∀ r σ, tp (f r σ) Φ → V G K (W2 σ) (pc + 3) lv (.int r :: rest)) : tp (bk2 x f) Φ → V G K w pc lv (a1 :: rest) := by
  intro ⟨z, h, q2⟩
  cases x with
  | none => cases h
  | some r => exact v_callIs C (As := [a1]) (hM r.1 r.2 rfl) h0 q.1 q.2.1 q.2.2.1 q.2.2.2 hR rfl hcat hdg (k r.1 r.2) ⟨z, h, q2⟩
theorem cLs1r (C : Ctx G K cc own nl fr lo) {a1 : Value} {x : Option Int64} {f : Int64 → Option α} (hM : ∀ r, x = some r → ML G K.2.1 y bytes n ret fc lc [a1] w r w) (q : CFs y bytes n ret 1) (h0 : Cond.methodLink own index y ∈ wsL_law) (hR : fc + 1 ≤ fr ∧ 8 + (n + 11) + lc ≤ lo) (hcat : (rest.map fun v => v.category).sum ≤ 8) (hdg : decode cc pc = .ok (.invokestatic index, 3)) (k : ∀ r, tp (f r) Φ → V G K w (pc + 3) lv (.long r :: rest)) : tp (bd x f) Φ → V G K w pc lv (a1 :: rest) := by
  intro ⟨z, h, q2⟩
  cases x with
  | none => cases h
  | some r => exact v_callLs C (As := [a1]) (hM r rfl) h0 q.1 q.2.1 q.2.2.1 q.2.2.2 hR rfl hcat hdg (k r) ⟨z, h, q2⟩
theorem cLs1w (C : Ctx G K cc own nl fr lo) {a1 : Value} {W2 : SS → va_W} {x : Option (Int64 × SS)} {f : Int64 → SS → Option α} (hM : ∀ r σ, x = some (r, σ) → ML G K.2.1 y bytes n ret fc lc [a1] w r (W2 σ)) (q : CFs y bytes n ret 1) (h0 : Cond.methodLink own index y ∈ wsL_law) (hR : fc + 1 ≤ fr ∧ 8 + (n + 11) + lc ≤ lo) (hcat : (rest.map fun v => v.category).sum ≤ 8) (hdg : decode cc pc = .ok (.invokestatic index, 3)) (k : ∀ r σ, tp (f r σ) Φ → V G K (W2 σ) (pc + 3) lv (.long r :: rest)) : tp (bk2 x f) Φ → V G K w pc lv (a1 :: rest) := by
  intro ⟨z, h, q2⟩
  cases x with
  | none => cases h
  | some r => exact v_callLs C (As := [a1]) (hM r.1 r.2 rfl) h0 q.1 q.2.1 q.2.2.1 q.2.2.2 hR rfl hcat hdg (k r.1 r.2) ⟨z, h, q2⟩
theorem cVs1w (C : Ctx G K cc own nl fr lo) {a1 : Value} {W2 : SS → va_W} {x : Option SS} {f : SS → Option α} (hM : ∀ σ, x = some σ → MV G K.2.1 y bytes n ret fc lc [a1] w (W2 σ)) (q : CFs y bytes n ret 1) (h0 : Cond.methodLink own index y ∈ wsL_law) (hR : fc + 1 ≤ fr ∧ 8 + (n + 11) + lc ≤ lo) (hcat : (rest.map fun v => v.category).sum ≤ 8) (hdg : decode cc pc = .ok (.invokestatic index, 3)) (k : ∀ σ, tp (f σ) Φ → V G K (W2 σ) (pc + 3) lv (rest)) : tp (bd x f) Φ → V G K w pc lv (a1 :: rest) := by
  intro ⟨z, h, q2⟩
  cases x with
  | none => cases h
  | some r => exact v_callVs C (As := [a1]) (hM r rfl) h0 q.1 q.2.1 q.2.2.1 q.2.2.2 hR rfl hcat hdg (k r) ⟨z, h, q2⟩
theorem cIv2r (C : Ctx G K cc own nl fr lo) {a1 a2 : Value} {x : Option Int32} {f : Int32 → Option α} (hM : ∀ r, x = some r → MI G K.2.1 y bytes n ret fc lc [.ref b, a1, a2] w r w) (q : CFv y bytes n ret 2) (h0 : Cond.methodLink own index y ∈ wsL_law) (hrecv : ∃ (q0 ci : Nat) (fs : List Value) (T : u_T) (N : Nat), vwCl[ci]? = some (y.cls, T, N) ∧ w[q0]? = some (b, .inr (ci, fs))) (hR : fc + 1 ≤ fr ∧ 8 + (n + 11) + lc ≤ lo) (hcat : (rest.map fun v => v.category).sum ≤ 8) (hdg : decode cc pc = .ok (.invokevirtual index, 3)) (k : ∀ r, tp (f r) Φ → V G K w (pc + 3) lv (.int r :: rest)) : tp (bd x f) Φ → V G K w pc lv (a2 :: a1 :: .ref b :: rest) := by
  intro ⟨z, h, q2⟩
  cases x with
  | none => cases h
  | some r => exact v_callIv C (As := [a1, a2]) (hM r rfl) h0 q.1 q.2.1 q.2.2.1 q.2.2.2.1 hrecv q.2.2.2.2 hR rfl hcat hdg (k r) ⟨z, h, q2⟩
theorem cIv2w (C : Ctx G K cc own nl fr lo) {a1 a2 : Value} {W2 : SS → va_W} {x : Option (Int32 × SS)} {f : Int32 → SS → Option α} (hM : ∀ r σ, x = some (r, σ) → MI G K.2.1 y bytes n ret fc lc [.ref b, a1, a2] w r (W2 σ)) (q : CFv y bytes n ret 2) (h0 : Cond.methodLink own index y ∈ wsL_law) (hrecv : ∃ (q0 ci : Nat) (fs : List Value) (T : u_T) (N : Nat), vwCl[ci]? = some (y.cls, T, N) ∧ w[q0]? = some (b, .inr (ci, fs))) (hR : fc + 1 ≤ fr ∧ 8 + (n + 11) + lc ≤ lo) (hcat : (rest.map fun v => v.category).sum ≤ 8) (hdg : decode cc pc = .ok (.invokevirtual index, 3)) (k : ∀ r σ, tp (f r σ) Φ → V G K (W2 σ) (pc + 3) lv (.int r :: rest)) : tp (bk2 x f) Φ → V G K w pc lv (a2 :: a1 :: .ref b :: rest) := by
  intro ⟨z, h, q2⟩
  cases x with
  | none => cases h
  | some r => exact v_callIv C (As := [a1, a2]) (hM r.1 r.2 rfl) h0 q.1 q.2.1 q.2.2.1 q.2.2.2.1 hrecv q.2.2.2.2 hR rfl hcat hdg (k r.1 r.2) ⟨z, h, q2⟩
theorem cLv2r (C : Ctx G K cc own nl fr lo) {a1 a2 : Value} {x : Option Int64} {f : Int64 → Option α} (hM : ∀ r, x = some r → ML G K.2.1 y bytes n ret fc lc [.ref b, a1, a2] w r w) (q : CFv y bytes n ret 2) (h0 : Cond.methodLink own index y ∈ wsL_law) (hrecv : ∃ (q0 ci : Nat) (fs : List Value) (T : u_T) (N : Nat), vwCl[ci]? = some (y.cls, T, N) ∧ w[q0]? = some (b, .inr (ci, fs))) (hR : fc + 1 ≤ fr ∧ 8 + (n + 11) + lc ≤ lo) (hcat : (rest.map fun v => v.category).sum ≤ 8) (hdg : decode cc pc = .ok (.invokevirtual index, 3)) (k : ∀ r, tp (f r) Φ → V G K w (pc + 3) lv (.long r :: rest)) : tp (bd x f) Φ → V G K w pc lv (a2 :: a1 :: .ref b :: rest) := by
  intro ⟨z, h, q2⟩
  cases x with
  | none => cases h
  | some r => exact v_callLv C (As := [a1, a2]) (hM r rfl) h0 q.1 q.2.1 q.2.2.1 q.2.2.2.1 hrecv q.2.2.2.2 hR rfl hcat hdg (k r) ⟨z, h, q2⟩
theorem cLv2w (C : Ctx G K cc own nl fr lo) {a1 a2 : Value} {W2 : SS → va_W} {x : Option (Int64 × SS)} {f : Int64 → SS → Option α} (hM : ∀ r σ, x = some (r, σ) → ML G K.2.1 y bytes n ret fc lc [.ref b, a1, a2] w r (W2 σ)) (q : CFv y bytes n ret 2) (h0 : Cond.methodLink own index y ∈ wsL_law) (hrecv : ∃ (q0 ci : Nat) (fs : List Value) (T : u_T) (N : Nat), vwCl[ci]? = some (y.cls, T, N) ∧ w[q0]? = some (b, .inr (ci, fs))) (hR : fc + 1 ≤ fr ∧ 8 + (n + 11) + lc ≤ lo) (hcat : (rest.map fun v => v.category).sum ≤ 8) (hdg : decode cc pc = .ok (.invokevirtual index, 3)) (k : ∀ r σ, tp (f r σ) Φ → V G K (W2 σ) (pc + 3) lv (.long r :: rest)) : tp (bk2 x f) Φ → V G K w pc lv (a2 :: a1 :: .ref b :: rest) := by
  intro ⟨z, h, q2⟩
  cases x with
  | none => cases h
  | some r => exact v_callLv C (As := [a1, a2]) (hM r.1 r.2 rfl) h0 q.1 q.2.1 q.2.2.1 q.2.2.2.1 hrecv q.2.2.2.2 hR rfl hcat hdg (k r.1 r.2) ⟨z, h, q2⟩
theorem cVv2w (C : Ctx G K cc own nl fr lo) {a1 a2 : Value} {W2 : SS → va_W} {x : Option SS} {f : SS → Option α} (hM : ∀ σ, x = some σ → MV G K.2.1 y bytes n ret fc lc [.ref b, a1, a2] w (W2 σ)) (q : CFv y bytes n ret 2) (h0 : Cond.methodLink own index y ∈ wsL_law) (hrecv : ∃ (q0 ci : Nat) (fs : List Value) (T : u_T) (N : Nat), vwCl[ci]? = some (y.cls, T, N) ∧ w[q0]? = some (b, .inr (ci, fs))) (hR : fc + 1 ≤ fr ∧ 8 + (n + 11) + lc ≤ lo) (hcat : (rest.map fun v => v.category).sum ≤ 8) (hdg : decode cc pc = .ok (.invokevirtual index, 3)) (k : ∀ σ, tp (f σ) Φ → V G K (W2 σ) (pc + 3) lv (rest)) : tp (bd x f) Φ → V G K w pc lv (a2 :: a1 :: .ref b :: rest) := by
  intro ⟨z, h, q2⟩
  cases x with
  | none => cases h
  | some r => exact v_callVv C (As := [a1, a2]) (hM r rfl) h0 q.1 q.2.1 q.2.2.1 q.2.2.2.1 hrecv q.2.2.2.2 hR rfl hcat hdg (k r) ⟨z, h, q2⟩
theorem cIs2r (C : Ctx G K cc own nl fr lo) {a1 a2 : Value} {x : Option Int32} {f : Int32 → Option α} (hM : ∀ r, x = some r → MI G K.2.1 y bytes n ret fc lc [a1, a2] w r w) (q : CFs y bytes n ret 2) (h0 : Cond.methodLink own index y ∈ wsL_law) (hR : fc + 1 ≤ fr ∧ 8 + (n + 11) + lc ≤ lo) (hcat : (rest.map fun v => v.category).sum ≤ 8) (hdg : decode cc pc = .ok (.invokestatic index, 3)) (k : ∀ r, tp (f r) Φ → V G K w (pc + 3) lv (.int r :: rest)) : tp (bd x f) Φ → V G K w pc lv (a2 :: a1 :: rest) := by
  intro ⟨z, h, q2⟩
  cases x with
  | none => cases h
  | some r => exact v_callIs C (As := [a1, a2]) (hM r rfl) h0 q.1 q.2.1 q.2.2.1 q.2.2.2 hR rfl hcat hdg (k r) ⟨z, h, q2⟩
theorem cIs2w (C : Ctx G K cc own nl fr lo) {a1 a2 : Value} {W2 : SS → va_W} {x : Option (Int32 × SS)} {f : Int32 → SS → Option α} (hM : ∀ r σ, x = some (r, σ) → MI G K.2.1 y bytes n ret fc lc [a1, a2] w r (W2 σ)) (q : CFs y bytes n ret 2) (h0 : Cond.methodLink own index y ∈ wsL_law) (hR : fc + 1 ≤ fr ∧ 8 + (n + 11) + lc ≤ lo) (hcat : (rest.map fun v => v.category).sum ≤ 8) (hdg : decode cc pc = .ok (.invokestatic index, 3)) (k : ∀ r σ, tp (f r σ) Φ → V G K (W2 σ) (pc + 3) lv (.int r :: rest)) : tp (bk2 x f) Φ → V G K w pc lv (a2 :: a1 :: rest) := by
  intro ⟨z, h, q2⟩
  cases x with
  | none => cases h
  | some r => exact v_callIs C (As := [a1, a2]) (hM r.1 r.2 rfl) h0 q.1 q.2.1 q.2.2.1 q.2.2.2 hR rfl hcat hdg (k r.1 r.2) ⟨z, h, q2⟩
theorem cLs2r (C : Ctx G K cc own nl fr lo) {a1 a2 : Value} {x : Option Int64} {f : Int64 → Option α} (hM : ∀ r, x = some r → ML G K.2.1 y bytes n ret fc lc [a1, a2] w r w) (q : CFs y bytes n ret 2) (h0 : Cond.methodLink own index y ∈ wsL_law) (hR : fc + 1 ≤ fr ∧ 8 + (n + 11) + lc ≤ lo) (hcat : (rest.map fun v => v.category).sum ≤ 8) (hdg : decode cc pc = .ok (.invokestatic index, 3)) (k : ∀ r, tp (f r) Φ → V G K w (pc + 3) lv (.long r :: rest)) : tp (bd x f) Φ → V G K w pc lv (a2 :: a1 :: rest) := by
  intro ⟨z, h, q2⟩
  cases x with
  | none => cases h
  | some r => exact v_callLs C (As := [a1, a2]) (hM r rfl) h0 q.1 q.2.1 q.2.2.1 q.2.2.2 hR rfl hcat hdg (k r) ⟨z, h, q2⟩
theorem cLs2w (C : Ctx G K cc own nl fr lo) {a1 a2 : Value} {W2 : SS → va_W} {x : Option (Int64 × SS)} {f : Int64 → SS → Option α} (hM : ∀ r σ, x = some (r, σ) → ML G K.2.1 y bytes n ret fc lc [a1, a2] w r (W2 σ)) (q : CFs y bytes n ret 2) (h0 : Cond.methodLink own index y ∈ wsL_law) (hR : fc + 1 ≤ fr ∧ 8 + (n + 11) + lc ≤ lo) (hcat : (rest.map fun v => v.category).sum ≤ 8) (hdg : decode cc pc = .ok (.invokestatic index, 3)) (k : ∀ r σ, tp (f r σ) Φ → V G K (W2 σ) (pc + 3) lv (.long r :: rest)) : tp (bk2 x f) Φ → V G K w pc lv (a2 :: a1 :: rest) := by
  intro ⟨z, h, q2⟩
  cases x with
  | none => cases h
  | some r => exact v_callLs C (As := [a1, a2]) (hM r.1 r.2 rfl) h0 q.1 q.2.1 q.2.2.1 q.2.2.2 hR rfl hcat hdg (k r.1 r.2) ⟨z, h, q2⟩
theorem cVs2w (C : Ctx G K cc own nl fr lo) {a1 a2 : Value} {W2 : SS → va_W} {x : Option SS} {f : SS → Option α} (hM : ∀ σ, x = some σ → MV G K.2.1 y bytes n ret fc lc [a1, a2] w (W2 σ)) (q : CFs y bytes n ret 2) (h0 : Cond.methodLink own index y ∈ wsL_law) (hR : fc + 1 ≤ fr ∧ 8 + (n + 11) + lc ≤ lo) (hcat : (rest.map fun v => v.category).sum ≤ 8) (hdg : decode cc pc = .ok (.invokestatic index, 3)) (k : ∀ σ, tp (f σ) Φ → V G K (W2 σ) (pc + 3) lv (rest)) : tp (bd x f) Φ → V G K w pc lv (a2 :: a1 :: rest) := by
  intro ⟨z, h, q2⟩
  cases x with
  | none => cases h
  | some r => exact v_callVs C (As := [a1, a2]) (hM r rfl) h0 q.1 q.2.1 q.2.2.1 q.2.2.2 hR rfl hcat hdg (k r) ⟨z, h, q2⟩
theorem cIv3r (C : Ctx G K cc own nl fr lo) {a1 a2 a3 : Value} {x : Option Int32} {f : Int32 → Option α} (hM : ∀ r, x = some r → MI G K.2.1 y bytes n ret fc lc [.ref b, a1, a2, a3] w r w) (q : CFv y bytes n ret 3) (h0 : Cond.methodLink own index y ∈ wsL_law) (hrecv : ∃ (q0 ci : Nat) (fs : List Value) (T : u_T) (N : Nat), vwCl[ci]? = some (y.cls, T, N) ∧ w[q0]? = some (b, .inr (ci, fs))) (hR : fc + 1 ≤ fr ∧ 8 + (n + 11) + lc ≤ lo) (hcat : (rest.map fun v => v.category).sum ≤ 8) (hdg : decode cc pc = .ok (.invokevirtual index, 3)) (k : ∀ r, tp (f r) Φ → V G K w (pc + 3) lv (.int r :: rest)) : tp (bd x f) Φ → V G K w pc lv (a3 :: a2 :: a1 :: .ref b :: rest) := by
  intro ⟨z, h, q2⟩
  cases x with
  | none => cases h
  | some r => exact v_callIv C (As := [a1, a2, a3]) (hM r rfl) h0 q.1 q.2.1 q.2.2.1 q.2.2.2.1 hrecv q.2.2.2.2 hR rfl hcat hdg (k r) ⟨z, h, q2⟩
theorem cIv3w (C : Ctx G K cc own nl fr lo) {a1 a2 a3 : Value} {W2 : SS → va_W} {x : Option (Int32 × SS)} {f : Int32 → SS → Option α} (hM : ∀ r σ, x = some (r, σ) → MI G K.2.1 y bytes n ret fc lc [.ref b, a1, a2, a3] w r (W2 σ)) (q : CFv y bytes n ret 3) (h0 : Cond.methodLink own index y ∈ wsL_law) (hrecv : ∃ (q0 ci : Nat) (fs : List Value) (T : u_T) (N : Nat), vwCl[ci]? = some (y.cls, T, N) ∧ w[q0]? = some (b, .inr (ci, fs))) (hR : fc + 1 ≤ fr ∧ 8 + (n + 11) + lc ≤ lo) (hcat : (rest.map fun v => v.category).sum ≤ 8) (hdg : decode cc pc = .ok (.invokevirtual index, 3)) (k : ∀ r σ, tp (f r σ) Φ → V G K (W2 σ) (pc + 3) lv (.int r :: rest)) : tp (bk2 x f) Φ → V G K w pc lv (a3 :: a2 :: a1 :: .ref b :: rest) := by
  intro ⟨z, h, q2⟩
  cases x with
  | none => cases h
  | some r => exact v_callIv C (As := [a1, a2, a3]) (hM r.1 r.2 rfl) h0 q.1 q.2.1 q.2.2.1 q.2.2.2.1 hrecv q.2.2.2.2 hR rfl hcat hdg (k r.1 r.2) ⟨z, h, q2⟩
theorem cLv3r (C : Ctx G K cc own nl fr lo) {a1 a2 a3 : Value} {x : Option Int64} {f : Int64 → Option α} (hM : ∀ r, x = some r → ML G K.2.1 y bytes n ret fc lc [.ref b, a1, a2, a3] w r w) (q : CFv y bytes n ret 3) (h0 : Cond.methodLink own index y ∈ wsL_law) (hrecv : ∃ (q0 ci : Nat) (fs : List Value) (T : u_T) (N : Nat), vwCl[ci]? = some (y.cls, T, N) ∧ w[q0]? = some (b, .inr (ci, fs))) (hR : fc + 1 ≤ fr ∧ 8 + (n + 11) + lc ≤ lo) (hcat : (rest.map fun v => v.category).sum ≤ 8) (hdg : decode cc pc = .ok (.invokevirtual index, 3)) (k : ∀ r, tp (f r) Φ → V G K w (pc + 3) lv (.long r :: rest)) : tp (bd x f) Φ → V G K w pc lv (a3 :: a2 :: a1 :: .ref b :: rest) := by
  intro ⟨z, h, q2⟩
  cases x with
  | none => cases h
  | some r => exact v_callLv C (As := [a1, a2, a3]) (hM r rfl) h0 q.1 q.2.1 q.2.2.1 q.2.2.2.1 hrecv q.2.2.2.2 hR rfl hcat hdg (k r) ⟨z, h, q2⟩
theorem cLv3w (C : Ctx G K cc own nl fr lo) {a1 a2 a3 : Value} {W2 : SS → va_W} {x : Option (Int64 × SS)} {f : Int64 → SS → Option α} (hM : ∀ r σ, x = some (r, σ) → ML G K.2.1 y bytes n ret fc lc [.ref b, a1, a2, a3] w r (W2 σ)) (q : CFv y bytes n ret 3) (h0 : Cond.methodLink own index y ∈ wsL_law) (hrecv : ∃ (q0 ci : Nat) (fs : List Value) (T : u_T) (N : Nat), vwCl[ci]? = some (y.cls, T, N) ∧ w[q0]? = some (b, .inr (ci, fs))) (hR : fc + 1 ≤ fr ∧ 8 + (n + 11) + lc ≤ lo) (hcat : (rest.map fun v => v.category).sum ≤ 8) (hdg : decode cc pc = .ok (.invokevirtual index, 3)) (k : ∀ r σ, tp (f r σ) Φ → V G K (W2 σ) (pc + 3) lv (.long r :: rest)) : tp (bk2 x f) Φ → V G K w pc lv (a3 :: a2 :: a1 :: .ref b :: rest) := by
  intro ⟨z, h, q2⟩
  cases x with
  | none => cases h
  | some r => exact v_callLv C (As := [a1, a2, a3]) (hM r.1 r.2 rfl) h0 q.1 q.2.1 q.2.2.1 q.2.2.2.1 hrecv q.2.2.2.2 hR rfl hcat hdg (k r.1 r.2) ⟨z, h, q2⟩
theorem cVv3w (C : Ctx G K cc own nl fr lo) {a1 a2 a3 : Value} {W2 : SS → va_W} {x : Option SS} {f : SS → Option α} (hM : ∀ σ, x = some σ → MV G K.2.1 y bytes n ret fc lc [.ref b, a1, a2, a3] w (W2 σ)) (q : CFv y bytes n ret 3) (h0 : Cond.methodLink own index y ∈ wsL_law) (hrecv : ∃ (q0 ci : Nat) (fs : List Value) (T : u_T) (N : Nat), vwCl[ci]? = some (y.cls, T, N) ∧ w[q0]? = some (b, .inr (ci, fs))) (hR : fc + 1 ≤ fr ∧ 8 + (n + 11) + lc ≤ lo) (hcat : (rest.map fun v => v.category).sum ≤ 8) (hdg : decode cc pc = .ok (.invokevirtual index, 3)) (k : ∀ σ, tp (f σ) Φ → V G K (W2 σ) (pc + 3) lv (rest)) : tp (bd x f) Φ → V G K w pc lv (a3 :: a2 :: a1 :: .ref b :: rest) := by
  intro ⟨z, h, q2⟩
  cases x with
  | none => cases h
  | some r => exact v_callVv C (As := [a1, a2, a3]) (hM r rfl) h0 q.1 q.2.1 q.2.2.1 q.2.2.2.1 hrecv q.2.2.2.2 hR rfl hcat hdg (k r) ⟨z, h, q2⟩
theorem cIs3r (C : Ctx G K cc own nl fr lo) {a1 a2 a3 : Value} {x : Option Int32} {f : Int32 → Option α} (hM : ∀ r, x = some r → MI G K.2.1 y bytes n ret fc lc [a1, a2, a3] w r w) (q : CFs y bytes n ret 3) (h0 : Cond.methodLink own index y ∈ wsL_law) (hR : fc + 1 ≤ fr ∧ 8 + (n + 11) + lc ≤ lo) (hcat : (rest.map fun v => v.category).sum ≤ 8) (hdg : decode cc pc = .ok (.invokestatic index, 3)) (k : ∀ r, tp (f r) Φ → V G K w (pc + 3) lv (.int r :: rest)) : tp (bd x f) Φ → V G K w pc lv (a3 :: a2 :: a1 :: rest) := by
  intro ⟨z, h, q2⟩
  cases x with
  | none => cases h
  | some r => exact v_callIs C (As := [a1, a2, a3]) (hM r rfl) h0 q.1 q.2.1 q.2.2.1 q.2.2.2 hR rfl hcat hdg (k r) ⟨z, h, q2⟩
theorem cIs3w (C : Ctx G K cc own nl fr lo) {a1 a2 a3 : Value} {W2 : SS → va_W} {x : Option (Int32 × SS)} {f : Int32 → SS → Option α} (hM : ∀ r σ, x = some (r, σ) → MI G K.2.1 y bytes n ret fc lc [a1, a2, a3] w r (W2 σ)) (q : CFs y bytes n ret 3) (h0 : Cond.methodLink own index y ∈ wsL_law) (hR : fc + 1 ≤ fr ∧ 8 + (n + 11) + lc ≤ lo) (hcat : (rest.map fun v => v.category).sum ≤ 8) (hdg : decode cc pc = .ok (.invokestatic index, 3)) (k : ∀ r σ, tp (f r σ) Φ → V G K (W2 σ) (pc + 3) lv (.int r :: rest)) : tp (bk2 x f) Φ → V G K w pc lv (a3 :: a2 :: a1 :: rest) := by
  intro ⟨z, h, q2⟩
  cases x with
  | none => cases h
  | some r => exact v_callIs C (As := [a1, a2, a3]) (hM r.1 r.2 rfl) h0 q.1 q.2.1 q.2.2.1 q.2.2.2 hR rfl hcat hdg (k r.1 r.2) ⟨z, h, q2⟩
theorem cLs3r (C : Ctx G K cc own nl fr lo) {a1 a2 a3 : Value} {x : Option Int64} {f : Int64 → Option α} (hM : ∀ r, x = some r → ML G K.2.1 y bytes n ret fc lc [a1, a2, a3] w r w) (q : CFs y bytes n ret 3) (h0 : Cond.methodLink own index y ∈ wsL_law) (hR : fc + 1 ≤ fr ∧ 8 + (n + 11) + lc ≤ lo) (hcat : (rest.map fun v => v.category).sum ≤ 8) (hdg : decode cc pc = .ok (.invokestatic index, 3)) (k : ∀ r, tp (f r) Φ → V G K w (pc + 3) lv (.long r :: rest)) : tp (bd x f) Φ → V G K w pc lv (a3 :: a2 :: a1 :: rest) := by
  intro ⟨z, h, q2⟩
  cases x with
  | none => cases h
  | some r => exact v_callLs C (As := [a1, a2, a3]) (hM r rfl) h0 q.1 q.2.1 q.2.2.1 q.2.2.2 hR rfl hcat hdg (k r) ⟨z, h, q2⟩
theorem cLs3w (C : Ctx G K cc own nl fr lo) {a1 a2 a3 : Value} {W2 : SS → va_W} {x : Option (Int64 × SS)} {f : Int64 → SS → Option α} (hM : ∀ r σ, x = some (r, σ) → ML G K.2.1 y bytes n ret fc lc [a1, a2, a3] w r (W2 σ)) (q : CFs y bytes n ret 3) (h0 : Cond.methodLink own index y ∈ wsL_law) (hR : fc + 1 ≤ fr ∧ 8 + (n + 11) + lc ≤ lo) (hcat : (rest.map fun v => v.category).sum ≤ 8) (hdg : decode cc pc = .ok (.invokestatic index, 3)) (k : ∀ r σ, tp (f r σ) Φ → V G K (W2 σ) (pc + 3) lv (.long r :: rest)) : tp (bk2 x f) Φ → V G K w pc lv (a3 :: a2 :: a1 :: rest) := by
  intro ⟨z, h, q2⟩
  cases x with
  | none => cases h
  | some r => exact v_callLs C (As := [a1, a2, a3]) (hM r.1 r.2 rfl) h0 q.1 q.2.1 q.2.2.1 q.2.2.2 hR rfl hcat hdg (k r.1 r.2) ⟨z, h, q2⟩
theorem cVs3w (C : Ctx G K cc own nl fr lo) {a1 a2 a3 : Value} {W2 : SS → va_W} {x : Option SS} {f : SS → Option α} (hM : ∀ σ, x = some σ → MV G K.2.1 y bytes n ret fc lc [a1, a2, a3] w (W2 σ)) (q : CFs y bytes n ret 3) (h0 : Cond.methodLink own index y ∈ wsL_law) (hR : fc + 1 ≤ fr ∧ 8 + (n + 11) + lc ≤ lo) (hcat : (rest.map fun v => v.category).sum ≤ 8) (hdg : decode cc pc = .ok (.invokestatic index, 3)) (k : ∀ σ, tp (f σ) Φ → V G K (W2 σ) (pc + 3) lv (rest)) : tp (bd x f) Φ → V G K w pc lv (a3 :: a2 :: a1 :: rest) := by
  intro ⟨z, h, q2⟩
  cases x with
  | none => cases h
  | some r => exact v_callVs C (As := [a1, a2, a3]) (hM r rfl) h0 q.1 q.2.1 q.2.2.1 q.2.2.2 hR rfl hcat hdg (k r) ⟨z, h, q2⟩
theorem cIv4r (C : Ctx G K cc own nl fr lo) {a1 a2 a3 a4 : Value} {x : Option Int32} {f : Int32 → Option α} (hM : ∀ r, x = some r → MI G K.2.1 y bytes n ret fc lc [.ref b, a1, a2, a3, a4] w r w) (q : CFv y bytes n ret 4) (h0 : Cond.methodLink own index y ∈ wsL_law) (hrecv : ∃ (q0 ci : Nat) (fs : List Value) (T : u_T) (N : Nat), vwCl[ci]? = some (y.cls, T, N) ∧ w[q0]? = some (b, .inr (ci, fs))) (hR : fc + 1 ≤ fr ∧ 8 + (n + 11) + lc ≤ lo) (hcat : (rest.map fun v => v.category).sum ≤ 8) (hdg : decode cc pc = .ok (.invokevirtual index, 3)) (k : ∀ r, tp (f r) Φ → V G K w (pc + 3) lv (.int r :: rest)) : tp (bd x f) Φ → V G K w pc lv (a4 :: a3 :: a2 :: a1 :: .ref b :: rest) := by
  intro ⟨z, h, q2⟩
  cases x with
  | none => cases h
  | some r => exact v_callIv C (As := [a1, a2, a3, a4]) (hM r rfl) h0 q.1 q.2.1 q.2.2.1 q.2.2.2.1 hrecv q.2.2.2.2 hR rfl hcat hdg (k r) ⟨z, h, q2⟩
theorem cIv4w (C : Ctx G K cc own nl fr lo) {a1 a2 a3 a4 : Value} {W2 : SS → va_W} {x : Option (Int32 × SS)} {f : Int32 → SS → Option α} (hM : ∀ r σ, x = some (r, σ) → MI G K.2.1 y bytes n ret fc lc [.ref b, a1, a2, a3, a4] w r (W2 σ)) (q : CFv y bytes n ret 4) (h0 : Cond.methodLink own index y ∈ wsL_law) (hrecv : ∃ (q0 ci : Nat) (fs : List Value) (T : u_T) (N : Nat), vwCl[ci]? = some (y.cls, T, N) ∧ w[q0]? = some (b, .inr (ci, fs))) (hR : fc + 1 ≤ fr ∧ 8 + (n + 11) + lc ≤ lo) (hcat : (rest.map fun v => v.category).sum ≤ 8) (hdg : decode cc pc = .ok (.invokevirtual index, 3)) (k : ∀ r σ, tp (f r σ) Φ → V G K (W2 σ) (pc + 3) lv (.int r :: rest)) : tp (bk2 x f) Φ → V G K w pc lv (a4 :: a3 :: a2 :: a1 :: .ref b :: rest) := by
  intro ⟨z, h, q2⟩
  cases x with
  | none => cases h
  | some r => exact v_callIv C (As := [a1, a2, a3, a4]) (hM r.1 r.2 rfl) h0 q.1 q.2.1 q.2.2.1 q.2.2.2.1 hrecv q.2.2.2.2 hR rfl hcat hdg (k r.1 r.2) ⟨z, h, q2⟩
theorem cLv4r (C : Ctx G K cc own nl fr lo) {a1 a2 a3 a4 : Value} {x : Option Int64} {f : Int64 → Option α} (hM : ∀ r, x = some r → ML G K.2.1 y bytes n ret fc lc [.ref b, a1, a2, a3, a4] w r w) (q : CFv y bytes n ret 4) (h0 : Cond.methodLink own index y ∈ wsL_law) (hrecv : ∃ (q0 ci : Nat) (fs : List Value) (T : u_T) (N : Nat), vwCl[ci]? = some (y.cls, T, N) ∧ w[q0]? = some (b, .inr (ci, fs))) (hR : fc + 1 ≤ fr ∧ 8 + (n + 11) + lc ≤ lo) (hcat : (rest.map fun v => v.category).sum ≤ 8) (hdg : decode cc pc = .ok (.invokevirtual index, 3)) (k : ∀ r, tp (f r) Φ → V G K w (pc + 3) lv (.long r :: rest)) : tp (bd x f) Φ → V G K w pc lv (a4 :: a3 :: a2 :: a1 :: .ref b :: rest) := by
  intro ⟨z, h, q2⟩
  cases x with
  | none => cases h
  | some r => exact v_callLv C (As := [a1, a2, a3, a4]) (hM r rfl) h0 q.1 q.2.1 q.2.2.1 q.2.2.2.1 hrecv q.2.2.2.2 hR rfl hcat hdg (k r) ⟨z, h, q2⟩
theorem cLv4w (C : Ctx G K cc own nl fr lo) {a1 a2 a3 a4 : Value} {W2 : SS → va_W} {x : Option (Int64 × SS)} {f : Int64 → SS → Option α} (hM : ∀ r σ, x = some (r, σ) → ML G K.2.1 y bytes n ret fc lc [.ref b, a1, a2, a3, a4] w r (W2 σ)) (q : CFv y bytes n ret 4) (h0 : Cond.methodLink own index y ∈ wsL_law) (hrecv : ∃ (q0 ci : Nat) (fs : List Value) (T : u_T) (N : Nat), vwCl[ci]? = some (y.cls, T, N) ∧ w[q0]? = some (b, .inr (ci, fs))) (hR : fc + 1 ≤ fr ∧ 8 + (n + 11) + lc ≤ lo) (hcat : (rest.map fun v => v.category).sum ≤ 8) (hdg : decode cc pc = .ok (.invokevirtual index, 3)) (k : ∀ r σ, tp (f r σ) Φ → V G K (W2 σ) (pc + 3) lv (.long r :: rest)) : tp (bk2 x f) Φ → V G K w pc lv (a4 :: a3 :: a2 :: a1 :: .ref b :: rest) := by
  intro ⟨z, h, q2⟩
  cases x with
  | none => cases h
  | some r => exact v_callLv C (As := [a1, a2, a3, a4]) (hM r.1 r.2 rfl) h0 q.1 q.2.1 q.2.2.1 q.2.2.2.1 hrecv q.2.2.2.2 hR rfl hcat hdg (k r.1 r.2) ⟨z, h, q2⟩
theorem cVv4w (C : Ctx G K cc own nl fr lo) {a1 a2 a3 a4 : Value} {W2 : SS → va_W} {x : Option SS} {f : SS → Option α} (hM : ∀ σ, x = some σ → MV G K.2.1 y bytes n ret fc lc [.ref b, a1, a2, a3, a4] w (W2 σ)) (q : CFv y bytes n ret 4) (h0 : Cond.methodLink own index y ∈ wsL_law) (hrecv : ∃ (q0 ci : Nat) (fs : List Value) (T : u_T) (N : Nat), vwCl[ci]? = some (y.cls, T, N) ∧ w[q0]? = some (b, .inr (ci, fs))) (hR : fc + 1 ≤ fr ∧ 8 + (n + 11) + lc ≤ lo) (hcat : (rest.map fun v => v.category).sum ≤ 8) (hdg : decode cc pc = .ok (.invokevirtual index, 3)) (k : ∀ σ, tp (f σ) Φ → V G K (W2 σ) (pc + 3) lv (rest)) : tp (bd x f) Φ → V G K w pc lv (a4 :: a3 :: a2 :: a1 :: .ref b :: rest) := by
  intro ⟨z, h, q2⟩
  cases x with
  | none => cases h
  | some r => exact v_callVv C (As := [a1, a2, a3, a4]) (hM r rfl) h0 q.1 q.2.1 q.2.2.1 q.2.2.2.1 hrecv q.2.2.2.2 hR rfl hcat hdg (k r) ⟨z, h, q2⟩
theorem cIs4r (C : Ctx G K cc own nl fr lo) {a1 a2 a3 a4 : Value} {x : Option Int32} {f : Int32 → Option α} (hM : ∀ r, x = some r → MI G K.2.1 y bytes n ret fc lc [a1, a2, a3, a4] w r w) (q : CFs y bytes n ret 4) (h0 : Cond.methodLink own index y ∈ wsL_law) (hR : fc + 1 ≤ fr ∧ 8 + (n + 11) + lc ≤ lo) (hcat : (rest.map fun v => v.category).sum ≤ 8) (hdg : decode cc pc = .ok (.invokestatic index, 3)) (k : ∀ r, tp (f r) Φ → V G K w (pc + 3) lv (.int r :: rest)) : tp (bd x f) Φ → V G K w pc lv (a4 :: a3 :: a2 :: a1 :: rest) := by
  intro ⟨z, h, q2⟩
  cases x with
  | none => cases h
  | some r => exact v_callIs C (As := [a1, a2, a3, a4]) (hM r rfl) h0 q.1 q.2.1 q.2.2.1 q.2.2.2 hR rfl hcat hdg (k r) ⟨z, h, q2⟩
theorem cIs4w (C : Ctx G K cc own nl fr lo) {a1 a2 a3 a4 : Value} {W2 : SS → va_W} {x : Option (Int32 × SS)} {f : Int32 → SS → Option α} (hM : ∀ r σ, x = some (r, σ) → MI G K.2.1 y bytes n ret fc lc [a1, a2, a3, a4] w r (W2 σ)) (q : CFs y bytes n ret 4) (h0 : Cond.methodLink own index y ∈ wsL_law) (hR : fc + 1 ≤ fr ∧ 8 + (n + 11) + lc ≤ lo) (hcat : (rest.map fun v => v.category).sum ≤ 8) (hdg : decode cc pc = .ok (.invokestatic index, 3)) (k : ∀ r σ, tp (f r σ) Φ → V G K (W2 σ) (pc + 3) lv (.int r :: rest)) : tp (bk2 x f) Φ → V G K w pc lv (a4 :: a3 :: a2 :: a1 :: rest) := by
  intro ⟨z, h, q2⟩
  cases x with
  | none => cases h
  | some r => exact v_callIs C (As := [a1, a2, a3, a4]) (hM r.1 r.2 rfl) h0 q.1 q.2.1 q.2.2.1 q.2.2.2 hR rfl hcat hdg (k r.1 r.2) ⟨z, h, q2⟩
theorem cLs4r (C : Ctx G K cc own nl fr lo) {a1 a2 a3 a4 : Value} {x : Option Int64} {f : Int64 → Option α} (hM : ∀ r, x = some r → ML G K.2.1 y bytes n ret fc lc [a1, a2, a3, a4] w r w) (q : CFs y bytes n ret 4) (h0 : Cond.methodLink own index y ∈ wsL_law) (hR : fc + 1 ≤ fr ∧ 8 + (n + 11) + lc ≤ lo) (hcat : (rest.map fun v => v.category).sum ≤ 8) (hdg : decode cc pc = .ok (.invokestatic index, 3)) (k : ∀ r, tp (f r) Φ → V G K w (pc + 3) lv (.long r :: rest)) : tp (bd x f) Φ → V G K w pc lv (a4 :: a3 :: a2 :: a1 :: rest) := by
  intro ⟨z, h, q2⟩
  cases x with
  | none => cases h
  | some r => exact v_callLs C (As := [a1, a2, a3, a4]) (hM r rfl) h0 q.1 q.2.1 q.2.2.1 q.2.2.2 hR rfl hcat hdg (k r) ⟨z, h, q2⟩
theorem cLs4w (C : Ctx G K cc own nl fr lo) {a1 a2 a3 a4 : Value} {W2 : SS → va_W} {x : Option (Int64 × SS)} {f : Int64 → SS → Option α} (hM : ∀ r σ, x = some (r, σ) → ML G K.2.1 y bytes n ret fc lc [a1, a2, a3, a4] w r (W2 σ)) (q : CFs y bytes n ret 4) (h0 : Cond.methodLink own index y ∈ wsL_law) (hR : fc + 1 ≤ fr ∧ 8 + (n + 11) + lc ≤ lo) (hcat : (rest.map fun v => v.category).sum ≤ 8) (hdg : decode cc pc = .ok (.invokestatic index, 3)) (k : ∀ r σ, tp (f r σ) Φ → V G K (W2 σ) (pc + 3) lv (.long r :: rest)) : tp (bk2 x f) Φ → V G K w pc lv (a4 :: a3 :: a2 :: a1 :: rest) := by
  intro ⟨z, h, q2⟩
  cases x with
  | none => cases h
  | some r => exact v_callLs C (As := [a1, a2, a3, a4]) (hM r.1 r.2 rfl) h0 q.1 q.2.1 q.2.2.1 q.2.2.2 hR rfl hcat hdg (k r.1 r.2) ⟨z, h, q2⟩
theorem cVs4w (C : Ctx G K cc own nl fr lo) {a1 a2 a3 a4 : Value} {W2 : SS → va_W} {x : Option SS} {f : SS → Option α} (hM : ∀ σ, x = some σ → MV G K.2.1 y bytes n ret fc lc [a1, a2, a3, a4] w (W2 σ)) (q : CFs y bytes n ret 4) (h0 : Cond.methodLink own index y ∈ wsL_law) (hR : fc + 1 ≤ fr ∧ 8 + (n + 11) + lc ≤ lo) (hcat : (rest.map fun v => v.category).sum ≤ 8) (hdg : decode cc pc = .ok (.invokestatic index, 3)) (k : ∀ σ, tp (f σ) Φ → V G K (W2 σ) (pc + 3) lv (rest)) : tp (bd x f) Φ → V G K w pc lv (a4 :: a3 :: a2 :: a1 :: rest) := by
  intro ⟨z, h, q2⟩
  cases x with
  | none => cases h
  | some r => exact v_callVs C (As := [a1, a2, a3, a4]) (hM r rfl) h0 q.1 q.2.1 q.2.2.1 q.2.2.2 hR rfl hcat hdg (k r) ⟨z, h, q2⟩
theorem cIv5r (C : Ctx G K cc own nl fr lo) {a1 a2 a3 a4 a5 : Value} {x : Option Int32} {f : Int32 → Option α} (hM : ∀ r, x = some r → MI G K.2.1 y bytes n ret fc lc [.ref b, a1, a2, a3, a4, a5] w r w) (q : CFv y bytes n ret 5) (h0 : Cond.methodLink own index y ∈ wsL_law) (hrecv : ∃ (q0 ci : Nat) (fs : List Value) (T : u_T) (N : Nat), vwCl[ci]? = some (y.cls, T, N) ∧ w[q0]? = some (b, .inr (ci, fs))) (hR : fc + 1 ≤ fr ∧ 8 + (n + 11) + lc ≤ lo) (hcat : (rest.map fun v => v.category).sum ≤ 8) (hdg : decode cc pc = .ok (.invokevirtual index, 3)) (k : ∀ r, tp (f r) Φ → V G K w (pc + 3) lv (.int r :: rest)) : tp (bd x f) Φ → V G K w pc lv (a5 :: a4 :: a3 :: a2 :: a1 :: .ref b :: rest) := by
  intro ⟨z, h, q2⟩
  cases x with
  | none => cases h
  | some r => exact v_callIv C (As := [a1, a2, a3, a4, a5]) (hM r rfl) h0 q.1 q.2.1 q.2.2.1 q.2.2.2.1 hrecv q.2.2.2.2 hR rfl hcat hdg (k r) ⟨z, h, q2⟩
theorem cIv5w (C : Ctx G K cc own nl fr lo) {a1 a2 a3 a4 a5 : Value} {W2 : SS → va_W} {x : Option (Int32 × SS)} {f : Int32 → SS → Option α} (hM : ∀ r σ, x = some (r, σ) → MI G K.2.1 y bytes n ret fc lc [.ref b, a1, a2, a3, a4, a5] w r (W2 σ)) (q : CFv y bytes n ret 5) (h0 : Cond.methodLink own index y ∈ wsL_law) (hrecv : ∃ (q0 ci : Nat) (fs : List Value) (T : u_T) (N : Nat), vwCl[ci]? = some (y.cls, T, N) ∧ w[q0]? = some (b, .inr (ci, fs))) (hR : fc + 1 ≤ fr ∧ 8 + (n + 11) + lc ≤ lo) (hcat : (rest.map fun v => v.category).sum ≤ 8) (hdg : decode cc pc = .ok (.invokevirtual index, 3)) (k : ∀ r σ, tp (f r σ) Φ → V G K (W2 σ) (pc + 3) lv (.int r :: rest)) : tp (bk2 x f) Φ → V G K w pc lv (a5 :: a4 :: a3 :: a2 :: a1 :: .ref b :: rest) := by
  intro ⟨z, h, q2⟩
  cases x with
  | none => cases h
  | some r => exact v_callIv C (As := [a1, a2, a3, a4, a5]) (hM r.1 r.2 rfl) h0 q.1 q.2.1 q.2.2.1 q.2.2.2.1 hrecv q.2.2.2.2 hR rfl hcat hdg (k r.1 r.2) ⟨z, h, q2⟩
theorem cLv5r (C : Ctx G K cc own nl fr lo) {a1 a2 a3 a4 a5 : Value} {x : Option Int64} {f : Int64 → Option α} (hM : ∀ r, x = some r → ML G K.2.1 y bytes n ret fc lc [.ref b, a1, a2, a3, a4, a5] w r w) (q : CFv y bytes n ret 5) (h0 : Cond.methodLink own index y ∈ wsL_law) (hrecv : ∃ (q0 ci : Nat) (fs : List Value) (T : u_T) (N : Nat), vwCl[ci]? = some (y.cls, T, N) ∧ w[q0]? = some (b, .inr (ci, fs))) (hR : fc + 1 ≤ fr ∧ 8 + (n + 11) + lc ≤ lo) (hcat : (rest.map fun v => v.category).sum ≤ 8) (hdg : decode cc pc = .ok (.invokevirtual index, 3)) (k : ∀ r, tp (f r) Φ → V G K w (pc + 3) lv (.long r :: rest)) : tp (bd x f) Φ → V G K w pc lv (a5 :: a4 :: a3 :: a2 :: a1 :: .ref b :: rest) := by
  intro ⟨z, h, q2⟩
  cases x with
  | none => cases h
  | some r => exact v_callLv C (As := [a1, a2, a3, a4, a5]) (hM r rfl) h0 q.1 q.2.1 q.2.2.1 q.2.2.2.1 hrecv q.2.2.2.2 hR rfl hcat hdg (k r) ⟨z, h, q2⟩
theorem cLv5w (C : Ctx G K cc own nl fr lo) {a1 a2 a3 a4 a5 : Value} {W2 : SS → va_W} {x : Option (Int64 × SS)} {f : Int64 → SS → Option α} (hM : ∀ r σ, x = some (r, σ) → ML G K.2.1 y bytes n ret fc lc [.ref b, a1, a2, a3, a4, a5] w r (W2 σ)) (q : CFv y bytes n ret 5) (h0 : Cond.methodLink own index y ∈ wsL_law) (hrecv : ∃ (q0 ci : Nat) (fs : List Value) (T : u_T) (N : Nat), vwCl[ci]? = some (y.cls, T, N) ∧ w[q0]? = some (b, .inr (ci, fs))) (hR : fc + 1 ≤ fr ∧ 8 + (n + 11) + lc ≤ lo) (hcat : (rest.map fun v => v.category).sum ≤ 8) (hdg : decode cc pc = .ok (.invokevirtual index, 3)) (k : ∀ r σ, tp (f r σ) Φ → V G K (W2 σ) (pc + 3) lv (.long r :: rest)) : tp (bk2 x f) Φ → V G K w pc lv (a5 :: a4 :: a3 :: a2 :: a1 :: .ref b :: rest) := by
  intro ⟨z, h, q2⟩
  cases x with
  | none => cases h
  | some r => exact v_callLv C (As := [a1, a2, a3, a4, a5]) (hM r.1 r.2 rfl) h0 q.1 q.2.1 q.2.2.1 q.2.2.2.1 hrecv q.2.2.2.2 hR rfl hcat hdg (k r.1 r.2) ⟨z, h, q2⟩
theorem cVv5w (C : Ctx G K cc own nl fr lo) {a1 a2 a3 a4 a5 : Value} {W2 : SS → va_W} {x : Option SS} {f : SS → Option α} (hM : ∀ σ, x = some σ → MV G K.2.1 y bytes n ret fc lc [.ref b, a1, a2, a3, a4, a5] w (W2 σ)) (q : CFv y bytes n ret 5) (h0 : Cond.methodLink own index y ∈ wsL_law) (hrecv : ∃ (q0 ci : Nat) (fs : List Value) (T : u_T) (N : Nat), vwCl[ci]? = some (y.cls, T, N) ∧ w[q0]? = some (b, .inr (ci, fs))) (hR : fc + 1 ≤ fr ∧ 8 + (n + 11) + lc ≤ lo) (hcat : (rest.map fun v => v.category).sum ≤ 8) (hdg : decode cc pc = .ok (.invokevirtual index, 3)) (k : ∀ σ, tp (f σ) Φ → V G K (W2 σ) (pc + 3) lv (rest)) : tp (bd x f) Φ → V G K w pc lv (a5 :: a4 :: a3 :: a2 :: a1 :: .ref b :: rest) := by
  intro ⟨z, h, q2⟩
  cases x with
  | none => cases h
  | some r => exact v_callVv C (As := [a1, a2, a3, a4, a5]) (hM r rfl) h0 q.1 q.2.1 q.2.2.1 q.2.2.2.1 hrecv q.2.2.2.2 hR rfl hcat hdg (k r) ⟨z, h, q2⟩
theorem cIs5r (C : Ctx G K cc own nl fr lo) {a1 a2 a3 a4 a5 : Value} {x : Option Int32} {f : Int32 → Option α} (hM : ∀ r, x = some r → MI G K.2.1 y bytes n ret fc lc [a1, a2, a3, a4, a5] w r w) (q : CFs y bytes n ret 5) (h0 : Cond.methodLink own index y ∈ wsL_law) (hR : fc + 1 ≤ fr ∧ 8 + (n + 11) + lc ≤ lo) (hcat : (rest.map fun v => v.category).sum ≤ 8) (hdg : decode cc pc = .ok (.invokestatic index, 3)) (k : ∀ r, tp (f r) Φ → V G K w (pc + 3) lv (.int r :: rest)) : tp (bd x f) Φ → V G K w pc lv (a5 :: a4 :: a3 :: a2 :: a1 :: rest) := by
  intro ⟨z, h, q2⟩
  cases x with
  | none => cases h
  | some r => exact v_callIs C (As := [a1, a2, a3, a4, a5]) (hM r rfl) h0 q.1 q.2.1 q.2.2.1 q.2.2.2 hR rfl hcat hdg (k r) ⟨z, h, q2⟩
theorem cIs5w (C : Ctx G K cc own nl fr lo) {a1 a2 a3 a4 a5 : Value} {W2 : SS → va_W} {x : Option (Int32 × SS)} {f : Int32 → SS → Option α} (hM : ∀ r σ, x = some (r, σ) → MI G K.2.1 y bytes n ret fc lc [a1, a2, a3, a4, a5] w r (W2 σ)) (q : CFs y bytes n ret 5) (h0 : Cond.methodLink own index y ∈ wsL_law) (hR : fc + 1 ≤ fr ∧ 8 + (n + 11) + lc ≤ lo) (hcat : (rest.map fun v => v.category).sum ≤ 8) (hdg : decode cc pc = .ok (.invokestatic index, 3)) (k : ∀ r σ, tp (f r σ) Φ → V G K (W2 σ) (pc + 3) lv (.int r :: rest)) : tp (bk2 x f) Φ → V G K w pc lv (a5 :: a4 :: a3 :: a2 :: a1 :: rest) := by
  intro ⟨z, h, q2⟩
  cases x with
  | none => cases h
  | some r => exact v_callIs C (As := [a1, a2, a3, a4, a5]) (hM r.1 r.2 rfl) h0 q.1 q.2.1 q.2.2.1 q.2.2.2 hR rfl hcat hdg (k r.1 r.2) ⟨z, h, q2⟩
theorem cLs5r (C : Ctx G K cc own nl fr lo) {a1 a2 a3 a4 a5 : Value} {x : Option Int64} {f : Int64 → Option α} (hM : ∀ r, x = some r → ML G K.2.1 y bytes n ret fc lc [a1, a2, a3, a4, a5] w r w) (q : CFs y bytes n ret 5) (h0 : Cond.methodLink own index y ∈ wsL_law) (hR : fc + 1 ≤ fr ∧ 8 + (n + 11) + lc ≤ lo) (hcat : (rest.map fun v => v.category).sum ≤ 8) (hdg : decode cc pc = .ok (.invokestatic index, 3)) (k : ∀ r, tp (f r) Φ → V G K w (pc + 3) lv (.long r :: rest)) : tp (bd x f) Φ → V G K w pc lv (a5 :: a4 :: a3 :: a2 :: a1 :: rest) := by
  intro ⟨z, h, q2⟩
  cases x with
  | none => cases h
  | some r => exact v_callLs C (As := [a1, a2, a3, a4, a5]) (hM r rfl) h0 q.1 q.2.1 q.2.2.1 q.2.2.2 hR rfl hcat hdg (k r) ⟨z, h, q2⟩
theorem cLs5w (C : Ctx G K cc own nl fr lo) {a1 a2 a3 a4 a5 : Value} {W2 : SS → va_W} {x : Option (Int64 × SS)} {f : Int64 → SS → Option α} (hM : ∀ r σ, x = some (r, σ) → ML G K.2.1 y bytes n ret fc lc [a1, a2, a3, a4, a5] w r (W2 σ)) (q : CFs y bytes n ret 5) (h0 : Cond.methodLink own index y ∈ wsL_law) (hR : fc + 1 ≤ fr ∧ 8 + (n + 11) + lc ≤ lo) (hcat : (rest.map fun v => v.category).sum ≤ 8) (hdg : decode cc pc = .ok (.invokestatic index, 3)) (k : ∀ r σ, tp (f r σ) Φ → V G K (W2 σ) (pc + 3) lv (.long r :: rest)) : tp (bk2 x f) Φ → V G K w pc lv (a5 :: a4 :: a3 :: a2 :: a1 :: rest) := by
  intro ⟨z, h, q2⟩
  cases x with
  | none => cases h
  | some r => exact v_callLs C (As := [a1, a2, a3, a4, a5]) (hM r.1 r.2 rfl) h0 q.1 q.2.1 q.2.2.1 q.2.2.2 hR rfl hcat hdg (k r.1 r.2) ⟨z, h, q2⟩
theorem cVs5w (C : Ctx G K cc own nl fr lo) {a1 a2 a3 a4 a5 : Value} {W2 : SS → va_W} {x : Option SS} {f : SS → Option α} (hM : ∀ σ, x = some σ → MV G K.2.1 y bytes n ret fc lc [a1, a2, a3, a4, a5] w (W2 σ)) (q : CFs y bytes n ret 5) (h0 : Cond.methodLink own index y ∈ wsL_law) (hR : fc + 1 ≤ fr ∧ 8 + (n + 11) + lc ≤ lo) (hcat : (rest.map fun v => v.category).sum ≤ 8) (hdg : decode cc pc = .ok (.invokestatic index, 3)) (k : ∀ σ, tp (f σ) Φ → V G K (W2 σ) (pc + 3) lv (rest)) : tp (bd x f) Φ → V G K w pc lv (a5 :: a4 :: a3 :: a2 :: a1 :: rest) := by
  intro ⟨z, h, q2⟩
  cases x with
  | none => cases h
  | some r => exact v_callVs C (As := [a1, a2, a3, a4, a5]) (hM r rfl) h0 q.1 q.2.1 q.2.2.1 q.2.2.2 hR rfl hcat hdg (k r) ⟨z, h, q2⟩
theorem cIs6r (C : Ctx G K cc own nl fr lo) {a1 a2 a3 a4 a5 a6 : Value} {x : Option Int32} {f : Int32 → Option α} (hM : ∀ r, x = some r → MI G K.2.1 y bytes n ret fc lc [a1, a2, a3, a4, a5, a6] w r w) (q : CFs y bytes n ret 6) (h0 : Cond.methodLink own index y ∈ wsL_law) (hR : fc + 1 ≤ fr ∧ 8 + (n + 11) + lc ≤ lo) (hcat : (rest.map fun v => v.category).sum ≤ 8) (hdg : decode cc pc = .ok (.invokestatic index, 3)) (k : ∀ r, tp (f r) Φ → V G K w (pc + 3) lv (.int r :: rest)) : tp (bd x f) Φ → V G K w pc lv (a6 :: a5 :: a4 :: a3 :: a2 :: a1 :: rest) := by
  intro ⟨z, h, q2⟩
  cases x with
  | none => cases h
  | some r => exact v_callIs C (As := [a1, a2, a3, a4, a5, a6]) (hM r rfl) h0 q.1 q.2.1 q.2.2.1 q.2.2.2 hR rfl hcat hdg (k r) ⟨z, h, q2⟩
theorem cIs6w (C : Ctx G K cc own nl fr lo) {a1 a2 a3 a4 a5 a6 : Value} {W2 : SS → va_W} {x : Option (Int32 × SS)} {f : Int32 → SS → Option α} (hM : ∀ r σ, x = some (r, σ) → MI G K.2.1 y bytes n ret fc lc [a1, a2, a3, a4, a5, a6] w r (W2 σ)) (q : CFs y bytes n ret 6) (h0 : Cond.methodLink own index y ∈ wsL_law) (hR : fc + 1 ≤ fr ∧ 8 + (n + 11) + lc ≤ lo) (hcat : (rest.map fun v => v.category).sum ≤ 8) (hdg : decode cc pc = .ok (.invokestatic index, 3)) (k : ∀ r σ, tp (f r σ) Φ → V G K (W2 σ) (pc + 3) lv (.int r :: rest)) : tp (bk2 x f) Φ → V G K w pc lv (a6 :: a5 :: a4 :: a3 :: a2 :: a1 :: rest) := by
  intro ⟨z, h, q2⟩
  cases x with
  | none => cases h
  | some r => exact v_callIs C (As := [a1, a2, a3, a4, a5, a6]) (hM r.1 r.2 rfl) h0 q.1 q.2.1 q.2.2.1 q.2.2.2 hR rfl hcat hdg (k r.1 r.2) ⟨z, h, q2⟩
theorem cLs6r (C : Ctx G K cc own nl fr lo) {a1 a2 a3 a4 a5 a6 : Value} {x : Option Int64} {f : Int64 → Option α} (hM : ∀ r, x = some r → ML G K.2.1 y bytes n ret fc lc [a1, a2, a3, a4, a5, a6] w r w) (q : CFs y bytes n ret 6) (h0 : Cond.methodLink own index y ∈ wsL_law) (hR : fc + 1 ≤ fr ∧ 8 + (n + 11) + lc ≤ lo) (hcat : (rest.map fun v => v.category).sum ≤ 8) (hdg : decode cc pc = .ok (.invokestatic index, 3)) (k : ∀ r, tp (f r) Φ → V G K w (pc + 3) lv (.long r :: rest)) : tp (bd x f) Φ → V G K w pc lv (a6 :: a5 :: a4 :: a3 :: a2 :: a1 :: rest) := by
  intro ⟨z, h, q2⟩
  cases x with
  | none => cases h
  | some r => exact v_callLs C (As := [a1, a2, a3, a4, a5, a6]) (hM r rfl) h0 q.1 q.2.1 q.2.2.1 q.2.2.2 hR rfl hcat hdg (k r) ⟨z, h, q2⟩
theorem cLs6w (C : Ctx G K cc own nl fr lo) {a1 a2 a3 a4 a5 a6 : Value} {W2 : SS → va_W} {x : Option (Int64 × SS)} {f : Int64 → SS → Option α} (hM : ∀ r σ, x = some (r, σ) → ML G K.2.1 y bytes n ret fc lc [a1, a2, a3, a4, a5, a6] w r (W2 σ)) (q : CFs y bytes n ret 6) (h0 : Cond.methodLink own index y ∈ wsL_law) (hR : fc + 1 ≤ fr ∧ 8 + (n + 11) + lc ≤ lo) (hcat : (rest.map fun v => v.category).sum ≤ 8) (hdg : decode cc pc = .ok (.invokestatic index, 3)) (k : ∀ r σ, tp (f r σ) Φ → V G K (W2 σ) (pc + 3) lv (.long r :: rest)) : tp (bk2 x f) Φ → V G K w pc lv (a6 :: a5 :: a4 :: a3 :: a2 :: a1 :: rest) := by
  intro ⟨z, h, q2⟩
  cases x with
  | none => cases h
  | some r => exact v_callLs C (As := [a1, a2, a3, a4, a5, a6]) (hM r.1 r.2 rfl) h0 q.1 q.2.1 q.2.2.1 q.2.2.2 hR rfl hcat hdg (k r.1 r.2) ⟨z, h, q2⟩
theorem cVs6w (C : Ctx G K cc own nl fr lo) {a1 a2 a3 a4 a5 a6 : Value} {W2 : SS → va_W} {x : Option SS} {f : SS → Option α} (hM : ∀ σ, x = some σ → MV G K.2.1 y bytes n ret fc lc [a1, a2, a3, a4, a5, a6] w (W2 σ)) (q : CFs y bytes n ret 6) (h0 : Cond.methodLink own index y ∈ wsL_law) (hR : fc + 1 ≤ fr ∧ 8 + (n + 11) + lc ≤ lo) (hcat : (rest.map fun v => v.category).sum ≤ 8) (hdg : decode cc pc = .ok (.invokestatic index, 3)) (k : ∀ σ, tp (f σ) Φ → V G K (W2 σ) (pc + 3) lv (rest)) : tp (bd x f) Φ → V G K w pc lv (a6 :: a5 :: a4 :: a3 :: a2 :: a1 :: rest) := by
  intro ⟨z, h, q2⟩
  cases x with
  | none => cases h
  | some r => exact v_callVs C (As := [a1, a2, a3, a4, a5, a6]) (hM r rfl) h0 q.1 q.2.1 q.2.2.1 q.2.2.2 hR rfl hcat hdg (k r) ⟨z, h, q2⟩
end TCALLS
theorem v_to {G : GT} {K : KT} {w : va_W} {pc : Nat} {lv lv' : List (Nat × Value)} {st : List Value} {F : Prop} (ks : List Nat) (k : F → V G K w pc lv' st) (h : lv_pick lv ks = lv') : F → V G K w pc lv st := v_sub ks h k
theorem v_idivG {G : GT} {K : KT} {cc : ByteArray} {own : String} {nl fr lo : Nat} {w : va_W} {pc : Nat} {lv : List (Nat × Value)} {rest : List Value} (C : Ctx G K cc own nl fr lo) {x y : Int32} {α : Type} {A : Option α} {Φ : α → Prop} [Decidable (¬ y = 0)] (hd : decode cc pc = .ok (.idiv, 1)) (k : tp A Φ → V G K w (pc + 1) lv (.int (x / y) :: rest)) : tp (gd (¬ y = 0) A) Φ → V G K w pc lv (.int y :: .int x :: rest) := r_gd (fun h => v_idiv C hd h k)
theorem v_iremG {G : GT} {K : KT} {cc : ByteArray} {own : String} {nl fr lo : Nat} {w : va_W} {pc : Nat} {lv : List (Nat × Value)} {rest : List Value} (C : Ctx G K cc own nl fr lo) {x y : Int32} {α : Type} {A : Option α} {Φ : α → Prop} [Decidable (¬ y = 0)] (hd : decode cc pc = .ok (.irem, 1)) (k : tp A Φ → V G K w (pc + 1) lv (.int (x - x / y * y) :: rest)) : tp (gd (¬ y = 0) A) Φ → V G K w pc lv (.int y :: .int x :: rest) := r_gd (fun h => v_irem C hd h k)
theorem v_ldivG {G : GT} {K : KT} {cc : ByteArray} {own : String} {nl fr lo : Nat} {w : va_W} {pc : Nat} {lv : List (Nat × Value)} {rest : List Value} (C : Ctx G K cc own nl fr lo) {x y : Int64} {α : Type} {A : Option α} {Φ : α → Prop} [Decidable (¬ y = 0)] (hd : decode cc pc = .ok (.ldiv, 1)) (k : tp A Φ → V G K w (pc + 1) lv (.long (x / y) :: rest)) : tp (gd (¬ y = 0) A) Φ → V G K w pc lv (.long y :: .long x :: rest) := r_gd (fun h => v_ldiv C hd h k)
theorem v_lremG {G : GT} {K : KT} {cc : ByteArray} {own : String} {nl fr lo : Nat} {w : va_W} {pc : Nat} {lv : List (Nat × Value)} {rest : List Value} (C : Ctx G K cc own nl fr lo) {x y : Int64} {α : Type} {A : Option α} {Φ : α → Prop} [Decidable (¬ y = 0)] (hd : decode cc pc = .ok (.lrem, 1)) (k : tp A Φ → V G K w (pc + 1) lv (.long (x - x / y * y) :: rest)) : tp (gd (¬ y = 0) A) Φ → V G K w pc lv (.long y :: .long x :: rest) := r_gd (fun h => v_lrem C hd h k)
theorem v_ldcS {G : GT} {K : KT} {cc : ByteArray} {nl fr lo : Nat} {w : va_W} {pc : Nat} {lv : List (Nat × Value)} {st : List Value} {F : Prop} (C : Ctx G K cc "TreeClimb$Text" nl fr lo) (i : Nat) (hi : i < 4) (hd : decode cc pc = .ok (.ldc (sIx i), 2)) (k : F → V G K w (pc + 2) lv (.ref (gK G i) :: st)) : F → V G K w pc lv st := by
  obtain ⟨p, l, e, R, s, m, args, below, meth, c, Q, cells, slots, nL⟩ := K
  obtain ⟨hx, hb, hml, hown, hts, hlk, hK, hst, hN, hfr, hlo, hc, hs, rfl⟩ := C
  intro hF H locs ls hP hD hS hl
  exact va_ldcS hx hb hown (hst.2.2.1 i hi) hd (k hF H locs ls hP hD hS hl)
theorem cIn2r {G : GT} {K : KT} {cc : ByteArray} {own : String} {nl fr lo : Nat} {w : va_W} {pc : Nat} {lv : List (Nat × Value)} {rest : List Value} {α : Type} {Φ : α → Prop} {y : MethodName} {bytes : ByteArray} {n fc lc index : Nat} {ret : Option FieldType} (host : String) (C : Ctx G K cc own nl fr lo) {a1 a2 : Value} {x : Option Int32} {f : Int32 → Option α} (hM : ∀ r, x = some r → MI G K.2.1 y bytes n ret fc lc [a1, a2] w r w) (q : CFs y bytes n ret 2) (h0 : (own, index, y, host) ∈ nestW) (hR : fc + 1 ≤ fr ∧ 8 + (n + 11) + lc ≤ lo) (hcat : (rest.map fun v => v.category).sum ≤ 8) (hdg : decode cc pc = .ok (.invokestatic index, 3)) (k : ∀ r, tp (f r) Φ → V G K w (pc + 3) lv (.int r :: rest)) : tp (bd x f) Φ → V G K w pc lv (a2 :: a1 :: rest) := by
  intro ⟨z, h, q2⟩
  cases x with
  | none => cases h
  | some r => exact v_callIn C (As := [a1, a2]) (hM r rfl) h0 q.1 q.2.1 q.2.2.1 q.2.2.2 hR rfl hcat hdg (k r) ⟨z, h, q2⟩
theorem q_yX0_write : CFv yX0_write cX0_write 4 (some .boolean) 3 := ⟨mw_800, mw_801, mw_31, mw_802, by decide +kernel, by decide +kernel, by decide +kernel⟩
theorem q_yX0_howMany : CFv yX0_howMany cX0_howMany 7 (some .int) 4 := ⟨mw_812, mw_813, mw_31, mw_814, by decide +kernel, by decide +kernel, by decide +kernel⟩
theorem q_yX0_heights : CFv yX0_heights cX0_heights 6 (some .int) 3 := ⟨mw_829, mw_830, mw_31, mw_831, by decide +kernel, by decide +kernel, by decide +kernel⟩
theorem q_yX0_isOf : CFv yX0_isOf cX0_isOf 5 (some .boolean) 4 := ⟨mw_816, mw_817, mw_31, mw_818, by decide +kernel, by decide +kernel, by decide +kernel⟩
theorem q_yX1_begin : CFv yX1_begin cX1_begin 2 none 1 := ⟨mw_304, mw_305, mw_35, mw_306, by decide +kernel, by decide +kernel, by decide +kernel⟩
theorem q_yX1_become : CFv yX1_become cX1_become 2 none 1 := ⟨mw_941, mw_942, mw_35, mw_943, by decide +kernel, by decide +kernel, by decide +kernel⟩
theorem q_yX1_draw : CFv yX1_draw cX1_draw 1 (some .int) 0 := ⟨mw_852, mw_853, mw_35, mw_854, by decide +kernel, by decide +kernel, by decide +kernel⟩
theorem q_yX1_arrive : CFv yX1_arrive cX1_arrive 3 none 2 := ⟨mw_857, mw_858, mw_35, mw_859, by decide +kernel, by decide +kernel, by decide +kernel⟩
theorem q_yX1_drop : CFv yX1_drop cX1_drop 2 none 1 := ⟨mw_862, mw_863, mw_35, mw_864, by decide +kernel, by decide +kernel, by decide +kernel⟩
theorem q_yX2_append : CFv yX2_append cX2_append 5 (some .boolean) 2 := ⟨mw_130, mw_131, mw_23, mw_132, by decide +kernel, by decide +kernel, by decide +kernel⟩
theorem q_yX2_rewind : CFv yX2_rewind cX2_rewind 1 none 0 := ⟨mw_170, mw_171, mw_23, mw_172, by decide +kernel, by decide +kernel, by decide +kernel⟩
theorem q_yX2_byteAt : CFv yX2_byteAt cX2_byteAt 2 (some .int) 1 := ⟨mw_178, mw_179, mw_23, mw_180, by decide +kernel, by decide +kernel, by decide +kernel⟩
theorem q_yX2_advance : CFv yX2_advance cX2_advance 2 none 0 := ⟨mw_174, mw_175, mw_23, mw_176, by decide +kernel, by decide +kernel, by decide +kernel⟩
theorem q_yX2_readNumber : CFv yX2_readNumber cX2_readNumber 3 (some .int) 0 := ⟨mw_185, mw_186, mw_23, mw_187, by decide +kernel, by decide +kernel, by decide +kernel⟩
theorem q_yX2_readWord : CFv yX2_readWord cX2_readWord 1 (some .int) 0 := ⟨mw_196, mw_197, mw_23, mw_198, by decide +kernel, by decide +kernel, by decide +kernel⟩
theorem q_yX2_says : CFv yX2_says cX2_says 3 (some .boolean) 1 := ⟨mw_200, mw_201, mw_23, mw_202, by decide +kernel, by decide +kernel, by decide +kernel⟩
theorem q_yX2_isDigit : CFs yX2_isDigit cX2_isDigit 1 (some .boolean) 1 := ⟨mw_182, mw_23, mw_183, by decide +kernel, by decide +kernel, by decide +kernel⟩
theorem q_yX2_isLetter : CFs yX2_isLetter cX2_isLetter 1 (some .boolean) 1 := ⟨mw_193, mw_23, mw_194, by decide +kernel, by decide +kernel, by decide +kernel⟩
theorem q_yX3_forget : CFv yX3_forget cX3_forget 2 none 0 := ⟨mw_513, mw_514, mw_27, mw_515, by decide +kernel, by decide +kernel, by decide +kernel⟩
theorem q_yX3_setTenths : CFv yX3_setTenths cX3_setTenths 3 none 2 := ⟨mw_517, mw_518, mw_27, mw_519, by decide +kernel, by decide +kernel, by decide +kernel⟩
theorem q_yX3_join : CFv yX3_join cX3_join 3 none 2 := ⟨mw_524, mw_525, mw_27, mw_526, by decide +kernel, by decide +kernel, by decide +kernel⟩
theorem q_yX3_oddsOf : CFv yX3_oddsOf cX3_oddsOf 2 (some .long) 1 := ⟨mw_541, mw_542, mw_27, mw_543, by decide +kernel, by decide +kernel, by decide +kernel⟩
theorem q_yX3_stepsTo : CFv yX3_stepsTo cX3_stepsTo 2 (some .int) 1 := ⟨mw_545, mw_546, mw_27, mw_547, by decide +kernel, by decide +kernel, by decide +kernel⟩
theorem q_yX3_flood : CFv yX3_flood cX3_flood 9 (some .int) 2 := ⟨mw_585, mw_586, mw_27, mw_587, by decide +kernel, by decide +kernel, by decide +kernel⟩
theorem q_yX3_firm : CFv yX3_firm cX3_firm 3 (some .int) 0 := ⟨mw_589, mw_590, mw_27, mw_591, by decide +kernel, by decide +kernel, by decide +kernel⟩
theorem q_yX3_weigh : CFv yX3_weigh cX3_weigh 4 none 1 := ⟨mw_528, mw_529, mw_27, mw_530, by decide +kernel, by decide +kernel, by decide +kernel⟩
theorem q_yX3_bestInto : CFv yX3_bestInto cX3_bestInto 5 (some .long) 1 := ⟨mw_533, mw_534, mw_27, mw_535, by decide +kernel, by decide +kernel, by decide +kernel⟩
theorem q_yX3_ascents : CFv yX3_ascents cX3_ascents 6 (some .long) 3 := ⟨mw_656, mw_657, mw_27, mw_658, by decide +kernel, by decide +kernel, by decide +kernel⟩
theorem q_yX3_ascentsInto : CFv yX3_ascentsInto cX3_ascentsInto 8 (some .long) 3 := ⟨mw_669, mw_670, mw_27, mw_671, by decide +kernel, by decide +kernel, by decide +kernel⟩
theorem q_yX3_skips : CFs yX3_skips cX3_skips 8 (some .boolean) 4 := ⟨mw_661, mw_27, mw_662, by decide +kernel, by decide +kernel, by decide +kernel⟩
theorem q_yX3_isIn : CFs yX3_isIn cX3_isIn 1 (some .boolean) 1 := ⟨mw_521, mw_27, mw_522, by decide +kernel, by decide +kernel, by decide +kernel⟩
theorem q_yX4_empty : CFv yX4_empty cX4_empty 1 none 0 := ⟨mw_166, mw_167, mw_40, mw_168, by decide +kernel, by decide +kernel, by decide +kernel⟩
theorem q_yX4_feature : CFv yX4_feature cX4_feature 3 (some .int) 2 := ⟨mw_288, mw_289, mw_40, mw_290, by decide +kernel, by decide +kernel, by decide +kernel⟩
theorem q_yX4_setFeature : CFv yX4_setFeature cX4_setFeature 4 none 3 := ⟨mw_263, mw_264, mw_40, mw_265, by decide +kernel, by decide +kernel, by decide +kernel⟩
theorem q_yX4_power : CFv yX4_power cX4_power 3 (some .int) 2 := ⟨mw_389, mw_390, mw_40, mw_391, by decide +kernel, by decide +kernel, by decide +kernel⟩
theorem q_yX4_setPower : CFv yX4_setPower cX4_setPower 4 none 3 := ⟨mw_276, mw_277, mw_40, mw_278, by decide +kernel, by decide +kernel, by decide +kernel⟩
theorem q_yX4_all : CFv yX4_all cX4_all 1 (some .int) 0 := ⟨mw_422, mw_423, mw_40, mw_424, by decide +kernel, by decide +kernel, by decide +kernel⟩
theorem q_yX4_sidesApart : CFv yX4_sidesApart cX4_sidesApart 4 (some .int) 2 := ⟨mw_296, mw_297, mw_40, mw_298, by decide +kernel, by decide +kernel, by decide +kernel⟩
theorem q_yX4_downward : CFv yX4_downward cX4_downward 2 (some .int) 1 := ⟨mw_665, mw_666, mw_40, mw_667, by decide +kernel, by decide +kernel, by decide +kernel⟩
theorem q_yX4_below : CFv yX4_below cX4_below 2 (some .int) 1 := ⟨mw_753, mw_754, mw_40, mw_755, by decide +kernel, by decide +kernel, by decide +kernel⟩
theorem q_yX4_order : CFv yX4_order cX4_order 3 none 0 := ⟨mw_284, mw_285, mw_40, mw_286, by decide +kernel, by decide +kernel, by decide +kernel⟩
theorem q_yX4_lowerNear : CFv yX4_lowerNear cX4_lowerNear 4 (some .int) 1 := ⟨mw_292, mw_293, mw_40, mw_294, by decide +kernel, by decide +kernel, by decide +kernel⟩
theorem q_yX5_type : CFv yX5_type cX5_type 4 (some .int) 2 := ⟨mw_125, mw_126, mw_2, mw_127, by decide +kernel, by decide +kernel, by decide +kernel⟩
theorem q_yX5_clear : CFv yX5_clear cX5_clear 2 (some .int) 0 := ⟨mw_143, mw_144, mw_2, mw_145, by decide +kernel, by decide +kernel, by decide +kernel⟩
theorem q_yX5_tree : CFv yX5_tree cX5_tree 3 (some .int) 0 := ⟨mw_151, mw_152, mw_2, mw_153, by decide +kernel, by decide +kernel, by decide +kernel⟩
theorem q_yX5_branch : CFv yX5_branch cX5_branch 3 (some .int) 2 := ⟨mw_349, mw_350, mw_2, mw_351, by decide +kernel, by decide +kernel, by decide +kernel⟩
theorem q_yX5_body : CFv yX5_body cX5_body 3 (some .int) 2 := ⟨mw_381, mw_382, mw_2, mw_383, by decide +kernel, by decide +kernel, by decide +kernel⟩
theorem q_yX5_tune : CFv yX5_tune cX5_tune 4 (some .int) 2 := ⟨mw_405, mw_406, mw_2, mw_407, by decide +kernel, by decide +kernel, by decide +kernel⟩
theorem q_yX5_sawn : CFv yX5_sawn cX5_sawn 3 (some .int) 1 := ⟨mw_418, mw_419, mw_2, mw_420, by decide +kernel, by decide +kernel, by decide +kernel⟩
theorem q_yX5_step : CFv yX5_step cX5_step 4 (some .int) 3 := ⟨mw_430, mw_431, mw_2, mw_432, by decide +kernel, by decide +kernel, by decide +kernel⟩
theorem q_yX5_holds : CFv yX5_holds cX5_holds 3 (some .int) 2 := ⟨mw_483, mw_484, mw_2, mw_485, by decide +kernel, by decide +kernel, by decide +kernel⟩
theorem q_yX5_best : CFv yX5_best cX5_best 7 (some .long) 4 := ⟨mw_502, mw_503, mw_2, mw_504, by decide +kernel, by decide +kernel, by decide +kernel⟩
theorem q_yX5_high : CFv yX5_high cX5_high 3 (some .int) 2 := ⟨mw_577, mw_578, mw_2, mw_579, by decide +kernel, by decide +kernel, by decide +kernel⟩
theorem q_yX5_sure : CFv yX5_sure cX5_sure 7 (some .int) 2 := ⟨mw_627, mw_628, mw_2, mw_629, by decide +kernel, by decide +kernel, by decide +kernel⟩
theorem q_yX5_help : CFv yX5_help cX5_help 4 (some .int) 2 := ⟨mw_636, mw_637, mw_2, mw_638, by decide +kernel, by decide +kernel, by decide +kernel⟩
theorem q_yX5_stuck : CFv yX5_stuck cX5_stuck 4 (some .int) 2 := ⟨mw_644, mw_645, mw_2, mw_646, by decide +kernel, by decide +kernel, by decide +kernel⟩
theorem q_yX5_rubbed : CFv yX5_rubbed cX5_rubbed 4 (some .long) 3 := ⟨mw_652, mw_653, mw_2, mw_654, by decide +kernel, by decide +kernel, by decide +kernel⟩
theorem q_yX5_tried : CFv yX5_tried cX5_tried 7 (some .long) 4 := ⟨mw_681, mw_682, mw_2, mw_683, by decide +kernel, by decide +kernel, by decide +kernel⟩
theorem q_yX5_tries : CFv yX5_tries cX5_tries 7 (some .int) 3 := ⟨mw_712, mw_713, mw_2, mw_714, by decide +kernel, by decide +kernel, by decide +kernel⟩
theorem q_yX5_sway : CFv yX5_sway cX5_sway 4 (some .int) 3 := ⟨mw_720, mw_721, mw_2, mw_722, by decide +kernel, by decide +kernel, by decide +kernel⟩
theorem q_yX5_calm : CFv yX5_calm cX5_calm 5 (some .int) 3 := ⟨mw_737, mw_738, mw_2, mw_739, by decide +kernel, by decide +kernel, by decide +kernel⟩
theorem q_yX5_fall : CFv yX5_fall cX5_fall 3 (some .int) 2 := ⟨mw_745, mw_746, mw_2, mw_747, by decide +kernel, by decide +kernel, by decide +kernel⟩
theorem q_yX5_saw : CFv yX5_saw cX5_saw 7 (some .int) 4 := ⟨mw_767, mw_768, mw_2, mw_769, by decide +kernel, by decide +kernel, by decide +kernel⟩
theorem q_yX5_afternoon : CFv yX5_afternoon cX5_afternoon 4 (some .int) 3 := ⟨mw_796, mw_797, mw_2, mw_798, by decide +kernel, by decide +kernel, by decide +kernel⟩
theorem q_yX5_dares : CFv yX5_dares cX5_dares 7 (some .int) 4 := ⟨mw_808, mw_809, mw_2, mw_810, by decide +kernel, by decide +kernel, by decide +kernel⟩
theorem q_yX5_looked : CFv yX5_looked cX5_looked 4 (some .int) 1 := ⟨mw_824, mw_825, mw_2, mw_826, by decide +kernel, by decide +kernel, by decide +kernel⟩
theorem q_yX5_goes : CFv yX5_goes cX5_goes 3 (some .int) 1 := ⟨mw_838, mw_839, mw_2, mw_840, by decide +kernel, by decide +kernel, by decide +kernel⟩
theorem q_yX5_climb : CFv yX5_climb cX5_climb 4 (some .int) 1 := ⟨mw_847, mw_848, mw_2, mw_849, by decide +kernel, by decide +kernel, by decide +kernel⟩
theorem q_yX5_now : CFv yX5_now cX5_now 2 (some .int) 1 := ⟨mw_875, mw_876, mw_2, mw_877, by decide +kernel, by decide +kernel, by decide +kernel⟩
theorem q_yX5_lot : CFv yX5_lot cX5_lot 3 (some .int) 1 := ⟨mw_887, mw_888, mw_2, mw_889, by decide +kernel, by decide +kernel, by decide +kernel⟩
theorem q_yX5_mark : CFv yX5_mark cX5_mark 3 (some .int) 2 := ⟨mw_895, mw_896, mw_2, mw_897, by decide +kernel, by decide +kernel, by decide +kernel⟩
theorem q_yX5_keep : CFv yX5_keep cX5_keep 2 (some .int) 1 := ⟨mw_937, mw_938, mw_2, mw_939, by decide +kernel, by decide +kernel, by decide +kernel⟩
theorem q_yX5_back : CFv yX5_back cX5_back 2 (some .int) 1 := ⟨mw_953, mw_954, mw_2, mw_955, by decide +kernel, by decide +kernel, by decide +kernel⟩
theorem q_yX5_count : CFv yX5_count cX5_count 2 (some .int) 1 := ⟨mw_961, mw_962, mw_2, mw_963, by decide +kernel, by decide +kernel, by decide +kernel⟩
theorem q_yX5_trace : CFv yX5_trace cX5_trace 1 (some .long) 0 := ⟨mw_969, mw_970, mw_2, mw_971, by decide +kernel, by decide +kernel, by decide +kernel⟩
theorem q_yX5_isBranch : CFv yX5_isBranch cX5_isBranch 2 (some .boolean) 1 := ⟨mw_353, mw_354, mw_2, mw_355, by decide +kernel, by decide +kernel, by decide +kernel⟩
theorem q_yX5_isPlace : CFv yX5_isPlace cX5_isPlace 2 (some .boolean) 1 := ⟨mw_434, mw_435, mw_2, mw_436, by decide +kernel, by decide +kernel, by decide +kernel⟩
theorem q_yX5_isBody : CFv yX5_isBody cX5_isBody 2 (some .boolean) 1 := ⟨mw_385, mw_386, mw_2, mw_387, by decide +kernel, by decide +kernel, by decide +kernel⟩
theorem q_yX5_isSawn : CFv yX5_isSawn cX5_isSawn 2 (some .boolean) 1 := ⟨mw_357, mw_358, mw_2, mw_359, by decide +kernel, by decide +kernel, by decide +kernel⟩
theorem q_yX5_tuned : CFv yX5_tuned cX5_tuned 2 (some .int) 1 := ⟨mw_438, mw_439, mw_2, mw_440, by decide +kernel, by decide +kernel, by decide +kernel⟩
theorem q_yX5_has : CFs yX5_has cX5_has 2 (some .boolean) 2 := ⟨mw_361, mw_2, mw_362, by decide +kernel, by decide +kernel, by decide +kernel⟩
theorem q_yX5_bit : CFs yX5_bit cX5_bit 1 (some .int) 1 := ⟨mw_267, mw_2, mw_268, by decide +kernel, by decide +kernel, by decide +kernel⟩
theorem q_yX5_within : CFs yX5_within cX5_within 4 (some .boolean) 4 := ⟨mw_260, mw_2, mw_261, by decide +kernel, by decide +kernel, by decide +kernel⟩
theorem q_yX5_readText : CFv yX5_readText cX5_readText 3 (some .int) 0 := ⟨mw_160, mw_161, mw_2, mw_162, by decide +kernel, by decide +kernel, by decide +kernel⟩
theorem q_yX5_readBranch : CFv yX5_readBranch cX5_readBranch 4 (some .boolean) 1 := ⟨mw_253, mw_254, mw_2, mw_255, by decide +kernel, by decide +kernel, by decide +kernel⟩
theorem q_yX5_readBody : CFv yX5_readBody cX5_readBody 3 (some .boolean) 1 := ⟨mw_270, mw_271, mw_2, mw_272, by decide +kernel, by decide +kernel, by decide +kernel⟩
theorem q_yX5_standDraft : CFv yX5_standDraft cX5_standDraft 2 none 0 := ⟨mw_280, mw_281, mw_2, mw_282, by decide +kernel, by decide +kernel, by decide +kernel⟩
theorem q_yX5_mayStep : CFv yX5_mayStep cX5_mayStep 6 (some .boolean) 5 := ⟨mw_442, mw_443, mw_2, mw_444, by decide +kernel, by decide +kernel, by decide +kernel⟩
theorem q_yX5_inReach : CFv yX5_inReach cX5_inReach 5 (some .boolean) 4 := ⟨mw_446, mw_447, mw_2, mw_448, by decide +kernel, by decide +kernel, by decide +kernel⟩
theorem q_yX5_bears : CFv yX5_bears cX5_bears 3 (some .boolean) 2 := ⟨mw_450, mw_451, mw_2, mw_452, by decide +kernel, by decide +kernel, by decide +kernel⟩
theorem q_yX5_tenths : CFv yX5_tenths cX5_tenths 4 (some .int) 2 := ⟨mw_487, mw_488, mw_2, mw_489, by decide +kernel, by decide +kernel, by decide +kernel⟩
theorem q_yX5_look : CFv yX5_look cX5_look 7 none 3 := ⟨mw_509, mw_510, mw_2, mw_511, by decide +kernel, by decide +kernel, by decide +kernel⟩
theorem q_yX5_reached : CFv yX5_reached cX5_reached 2 (some .int) 1 := ⟨mw_581, mw_582, mw_2, mw_583, by decide +kernel, by decide +kernel, by decide +kernel⟩
theorem q_yX5_comesDown : CFv yX5_comesDown cX5_comesDown 2 (some .boolean) 1 := ⟨mw_606, mw_607, mw_2, mw_608, by decide +kernel, by decide +kernel, by decide +kernel⟩
theorem q_yX5_returning : CFv yX5_returning cX5_returning 4 (some .int) 1 := ⟨mw_602, mw_603, mw_2, mw_604, by decide +kernel, by decide +kernel, by decide +kernel⟩
theorem q_yX5_highest : CFv yX5_highest cX5_highest 4 (some .int) 1 := ⟨mw_598, mw_599, mw_2, mw_600, by decide +kernel, by decide +kernel, by decide +kernel⟩
theorem q_yX5_soundShare : CFv yX5_soundShare cX5_soundShare 3 (some .long) 2 := ⟨mw_686, mw_687, mw_2, mw_688, by decide +kernel, by decide +kernel, by decide +kernel⟩
theorem q_yX5_unsoundShare : CFv yX5_unsoundShare cX5_unsoundShare 4 (some .long) 3 := ⟨mw_693, mw_694, mw_2, mw_695, by decide +kernel, by decide +kernel, by decide +kernel⟩
theorem q_yX5_power : CFs yX5_power cX5_power 5 (some .long) 2 := ⟨mw_690, mw_2, mw_691, by decide +kernel, by decide +kernel, by decide +kernel⟩
theorem q_yX5_leastTerms : CFs yX5_leastTerms cX5_leastTerms 7 (some .long) 3 := ⟨mw_549, mw_2, mw_550, by decide +kernel, by decide +kernel, by decide +kernel⟩
theorem q_yX5_commonDivisor : CFs yX5_commonDivisor cX5_commonDivisor 7 (some .long) 2 := ⟨mw_552, mw_2, mw_553, by decide +kernel, by decide +kernel, by decide +kernel⟩
theorem q_yX5_swing : CFv yX5_swing cX5_swing 10 (some .int) 3 := ⟨mw_724, mw_725, mw_2, mw_726, by decide +kernel, by decide +kernel, by decide +kernel⟩
theorem q_yX5_harm : CFv yX5_harm cX5_harm 9 (some .int) 2 := ⟨mw_749, mw_750, mw_2, mw_751, by decide +kernel, by decide +kernel, by decide +kernel⟩
theorem q_yX5_leastToSaw : CFv yX5_leastToSaw cX5_leastToSaw 7 (some .int) 2 := ⟨mw_771, mw_772, mw_2, mw_773, by decide +kernel, by decide +kernel, by decide +kernel⟩
theorem q_yX5_isSafe : CFv yX5_isSafe cX5_isSafe 6 (some .boolean) 3 := ⟨mw_781, mw_782, mw_2, mw_783, by decide +kernel, by decide +kernel, by decide +kernel⟩
theorem q_yX5_markBranch : CFv yX5_markBranch cX5_markBranch 2 (some .int) 1 := ⟨mw_899, mw_900, mw_2, mw_901, by decide +kernel, by decide +kernel, by decide +kernel⟩
theorem q_yX5_markSound : CFv yX5_markSound cX5_markSound 2 (some .int) 1 := ⟨mw_903, mw_904, mw_2, mw_905, by decide +kernel, by decide +kernel, by decide +kernel⟩
theorem q_yX5_markDead : CFv yX5_markDead cX5_markDead 2 (some .int) 1 := ⟨mw_908, mw_909, mw_2, mw_910, by decide +kernel, by decide +kernel, by decide +kernel⟩
theorem q_yX5_markSeeming : CFv yX5_markSeeming cX5_markSeeming 2 (some .int) 1 := ⟨mw_912, mw_913, mw_2, mw_914, by decide +kernel, by decide +kernel, by decide +kernel⟩
theorem q_yX5_markBent : CFv yX5_markBent cX5_markBent 2 (some .int) 1 := ⟨mw_917, mw_918, mw_2, mw_919, by decide +kernel, by decide +kernel, by decide +kernel⟩
theorem q_yX5_markWet : CFv yX5_markWet cX5_markWet 2 (some .int) 1 := ⟨mw_922, mw_923, mw_2, mw_924, by decide +kernel, by decide +kernel, by decide +kernel⟩
theorem q_yX6_in : CFs yX6_in cX6_in 3 (some .boolean) 3 := ⟨mw_140, mw_5, mw_141, by decide +kernel, by decide +kernel, by decide +kernel⟩
theorem q_yX6_type : CFv yX6_type cX6_type 5 (some .int) 2 := ⟨mw_134, mw_135, mw_5, mw_136, by decide +kernel, by decide +kernel, by decide +kernel⟩
theorem q_yX6_clear : CFv yX6_clear cX6_clear 2 (some .int) 0 := ⟨mw_147, mw_148, mw_5, mw_149, by decide +kernel, by decide +kernel, by decide +kernel⟩
theorem q_yX6_here : CFv yX6_here cX6_here 1 (some .int) 0 := ⟨mw_325, mw_326, mw_5, mw_327, by decide +kernel, by decide +kernel, by decide +kernel⟩
theorem q_yX6_next : CFv yX6_next cX6_next 3 none 0 := ⟨mw_316, mw_317, mw_5, mw_318, by decide +kernel, by decide +kernel, by decide +kernel⟩
theorem q_yX6_due : CFv yX6_due cX6_due 3 (some .int) 1 := ⟨mw_333, mw_334, mw_5, mw_335, by decide +kernel, by decide +kernel, by decide +kernel⟩
theorem q_yX6_number : CFv yX6_number cX6_number 3 (some .int) 2 := ⟨mw_337, mw_338, mw_5, mw_339, by decide +kernel, by decide +kernel, by decide +kernel⟩
theorem q_yX6_optional : CFv yX6_optional cX6_optional 3 (some .int) 1 := ⟨mw_341, mw_342, mw_5, mw_343, by decide +kernel, by decide +kernel, by decide +kernel⟩
theorem q_yX6_item : CFv yX6_item cX6_item 3 none 1 := ⟨mw_329, mw_330, mw_5, mw_331, by decide +kernel, by decide +kernel, by decide +kernel⟩
theorem q_yX6_tree : CFv yX6_tree cX6_tree 3 (some .int) 0 := ⟨mw_308, mw_309, mw_5, mw_310, by decide +kernel, by decide +kernel, by decide +kernel⟩
theorem q_yX6_isBranch : CFv yX6_isBranch cX6_isBranch 2 (some .boolean) 1 := ⟨mw_369, mw_370, mw_5, mw_371, by decide +kernel, by decide +kernel, by decide +kernel⟩
theorem q_yX6_isBody : CFv yX6_isBody cX6_isBody 2 (some .boolean) 1 := ⟨mw_397, mw_398, mw_5, mw_399, by decide +kernel, by decide +kernel, by decide +kernel⟩
theorem q_yX6_isPlace : CFv yX6_isPlace cX6_isPlace 2 (some .boolean) 1 := ⟨mw_459, mw_460, mw_5, mw_461, by decide +kernel, by decide +kernel, by decide +kernel⟩
theorem q_yX6_of : CFv yX6_of cX6_of 3 (some .int) 2 := ⟨mw_377, mw_378, mw_5, mw_379, by decide +kernel, by decide +kernel, by decide +kernel⟩
theorem q_yX6_bodyOf : CFv yX6_bodyOf cX6_bodyOf 3 (some .int) 2 := ⟨mw_401, mw_402, mw_5, mw_403, by decide +kernel, by decide +kernel, by decide +kernel⟩
theorem q_yX6_isSawn : CFv yX6_isSawn cX6_isSawn 2 (some .boolean) 1 := ⟨mw_373, mw_374, mw_5, mw_375, by decide +kernel, by decide +kernel, by decide +kernel⟩
theorem q_yX6_branch : CFv yX6_branch cX6_branch 3 (some .int) 2 := ⟨mw_365, mw_366, mw_5, mw_367, by decide +kernel, by decide +kernel, by decide +kernel⟩
theorem q_yX6_body : CFv yX6_body cX6_body 3 (some .int) 2 := ⟨mw_393, mw_394, mw_5, mw_395, by decide +kernel, by decide +kernel, by decide +kernel⟩
theorem q_yX6_highOf : CFs yX6_highOf cX6_highOf 1 (some .int) 1 := ⟨mw_415, mw_5, mw_416, by decide +kernel, by decide +kernel, by decide +kernel⟩
theorem q_yX6_tune : CFv yX6_tune cX6_tune 4 (some .int) 2 := ⟨mw_411, mw_412, mw_5, mw_413, by decide +kernel, by decide +kernel, by decide +kernel⟩
theorem q_yX6_sawn : CFv yX6_sawn cX6_sawn 3 (some .int) 1 := ⟨mw_426, mw_427, mw_5, mw_428, by decide +kernel, by decide +kernel, by decide +kernel⟩
theorem q_yX6_heightOf : CFv yX6_heightOf cX6_heightOf 2 (some .int) 1 := ⟨mw_479, mw_480, mw_5, mw_481, by decide +kernel, by decide +kernel, by decide +kernel⟩
theorem q_yX6_apart : CFv yX6_apart cX6_apart 4 (some .int) 2 := ⟨mw_475, mw_476, mw_5, mw_477, by decide +kernel, by decide +kernel, by decide +kernel⟩
theorem q_yX6_look : CFv yX6_look cX6_look 2 none 1 := ⟨mw_463, mw_464, mw_5, mw_465, by decide +kernel, by decide +kernel, by decide +kernel⟩
theorem q_yX6_mayStep : CFv yX6_mayStep cX6_mayStep 4 (some .boolean) 2 := ⟨mw_471, mw_472, mw_5, mw_473, by decide +kernel, by decide +kernel, by decide +kernel⟩
theorem q_yX6_holdsOn : CFv yX6_holdsOn cX6_holdsOn 4 (some .int) 1 := ⟨mw_498, mw_499, mw_5, mw_500, by decide +kernel, by decide +kernel, by decide +kernel⟩
theorem q_yX6_step : CFv yX6_step cX6_step 4 (some .int) 3 := ⟨mw_455, mw_456, mw_5, mw_457, by decide +kernel, by decide +kernel, by decide +kernel⟩
theorem q_yX6_holds : CFv yX6_holds cX6_holds 3 (some .int) 2 := ⟨mw_494, mw_495, mw_5, mw_496, by decide +kernel, by decide +kernel, by decide +kernel⟩
theorem q_yX6_isThere : CFv yX6_isThere cX6_isThere 2 (some .boolean) 1 := ⟨mw_567, mw_568, mw_5, mw_569, by decide +kernel, by decide +kernel, by decide +kernel⟩
theorem q_yX6_goFrom : CFv yX6_goFrom cX6_goFrom 7 none 1 := ⟨mw_562, mw_563, mw_5, mw_564, by decide +kernel, by decide +kernel, by decide +kernel⟩
theorem q_yX6_common : CFs yX6_common cX6_common 10 (some .long) 2 := ⟨mw_574, mw_5, mw_575, by decide +kernel, by decide +kernel, by decide +kernel⟩
theorem q_yX6_inLeast : CFs yX6_inLeast cX6_inLeast 7 (some .long) 3 := ⟨mw_571, mw_5, mw_572, by decide +kernel, by decide +kernel, by decide +kernel⟩
theorem q_yX6_best : CFv yX6_best cX6_best 6 (some .long) 4 := ⟨mw_555, mw_556, mw_5, mw_557, by decide +kernel, by decide +kernel, by decide +kernel⟩
theorem q_yX6_highBy : CFv yX6_highBy cX6_highBy 5 (some .int) 1 := ⟨mw_614, mw_615, mw_5, mw_616, by decide +kernel, by decide +kernel, by decide +kernel⟩
theorem q_yX6_comesDown : CFv yX6_comesDown cX6_comesDown 2 (some .boolean) 1 := ⟨mw_623, mw_624, mw_5, mw_625, by decide +kernel, by decide +kernel, by decide +kernel⟩
theorem q_yX6_reached : CFv yX6_reached cX6_reached 3 (some .int) 0 := ⟨mw_619, mw_620, mw_5, mw_621, by decide +kernel, by decide +kernel, by decide +kernel⟩
theorem q_yX6_high : CFv yX6_high cX6_high 7 (some .int) 2 := ⟨mw_610, mw_611, mw_5, mw_612, by decide +kernel, by decide +kernel, by decide +kernel⟩
theorem q_yX6_sure : CFv yX6_sure cX6_sure 3 (some .int) 2 := ⟨mw_632, mw_633, mw_5, mw_634, by decide +kernel, by decide +kernel, by decide +kernel⟩
theorem q_yX6_help : CFv yX6_help cX6_help 4 (some .int) 2 := ⟨mw_640, mw_641, mw_5, mw_642, by decide +kernel, by decide +kernel, by decide +kernel⟩
theorem q_yX6_stuck : CFv yX6_stuck cX6_stuck 5 (some .int) 2 := ⟨mw_648, mw_649, mw_5, mw_650, by decide +kernel, by decide +kernel, by decide +kernel⟩
theorem q_yX6_countUps : CFv yX6_countUps cX6_countUps 5 none 1 := ⟨mw_677, mw_678, mw_5, mw_679, by decide +kernel, by decide +kernel, by decide +kernel⟩
theorem q_yX6_rubbed : CFv yX6_rubbed cX6_rubbed 11 (some .long) 3 := ⟨mw_673, mw_674, mw_5, mw_675, by decide +kernel, by decide +kernel, by decide +kernel⟩
theorem q_yX6_power : CFs yX6_power cX6_power 5 (some .long) 2 := ⟨mw_705, mw_5, mw_706, by decide +kernel, by decide +kernel, by decide +kernel⟩
theorem q_yX6_soundBy : CFv yX6_soundBy cX6_soundBy 3 (some .long) 2 := ⟨mw_701, mw_702, mw_5, mw_703, by decide +kernel, by decide +kernel, by decide +kernel⟩
theorem q_yX6_allBy : CFv yX6_allBy cX6_allBy 4 (some .long) 3 := ⟨mw_708, mw_709, mw_5, mw_710, by decide +kernel, by decide +kernel, by decide +kernel⟩
theorem q_yX6_tried : CFv yX6_tried cX6_tried 5 (some .long) 4 := ⟨mw_697, mw_698, mw_5, mw_699, by decide +kernel, by decide +kernel, by decide +kernel⟩
theorem q_yX6_tries : CFv yX6_tries cX6_tries 7 (some .int) 3 := ⟨mw_716, mw_717, mw_5, mw_718, by decide +kernel, by decide +kernel, by decide +kernel⟩
theorem q_yX6_swayOn : CFv yX6_swayOn cX6_swayOn 9 (some .int) 2 := ⟨mw_733, mw_734, mw_5, mw_735, by decide +kernel, by decide +kernel, by decide +kernel⟩
theorem q_yX6_sway : CFv yX6_sway cX6_sway 4 (some .int) 3 := ⟨mw_729, mw_730, mw_5, mw_731, by decide +kernel, by decide +kernel, by decide +kernel⟩
theorem q_yX6_calm : CFv yX6_calm cX6_calm 5 (some .int) 3 := ⟨mw_741, mw_742, mw_5, mw_743, by decide +kernel, by decide +kernel, by decide +kernel⟩
theorem q_yX6_harmFrom : CFv yX6_harmFrom cX6_harmFrom 7 (some .int) 1 := ⟨mw_763, mw_764, mw_5, mw_765, by decide +kernel, by decide +kernel, by decide +kernel⟩
theorem q_yX6_fall : CFv yX6_fall cX6_fall 4 (some .int) 2 := ⟨mw_758, mw_759, mw_5, mw_760, by decide +kernel, by decide +kernel, by decide +kernel⟩
theorem q_yX6_bitsIn : CFs yX6_bitsIn cX6_bitsIn 3 (some .int) 1 := ⟨mw_789, mw_5, mw_790, by decide +kernel, by decide +kernel, by decide +kernel⟩
theorem q_yX6_isSafe : CFv yX6_isSafe cX6_isSafe 6 (some .boolean) 2 := ⟨mw_792, mw_793, mw_5, mw_794, by decide +kernel, by decide +kernel, by decide +kernel⟩
theorem q_yX6_saw : CFv yX6_saw cX6_saw 9 (some .int) 4 := ⟨mw_785, mw_786, mw_5, mw_787, by decide +kernel, by decide +kernel, by decide +kernel⟩
theorem q_yX6_afternoon : CFv yX6_afternoon cX6_afternoon 4 (some .int) 3 := ⟨mw_804, mw_805, mw_5, mw_806, by decide +kernel, by decide +kernel, by decide +kernel⟩
theorem q_yX6_dares : CFv yX6_dares cX6_dares 9 (some .int) 4 := ⟨mw_820, mw_821, mw_5, mw_822, by decide +kernel, by decide +kernel, by decide +kernel⟩
theorem q_yX6_looked : CFv yX6_looked cX6_looked 8 (some .int) 1 := ⟨mw_833, mw_834, mw_5, mw_835, by decide +kernel, by decide +kernel, by decide +kernel⟩
theorem q_yX6_begin : CFv yX6_begin cX6_begin 2 none 1 := ⟨mw_345, mw_346, mw_5, mw_347, by decide +kernel, by decide +kernel, by decide +kernel⟩
theorem q_yX6_goes : CFv yX6_goes cX6_goes 3 (some .int) 1 := ⟨mw_843, mw_844, mw_5, mw_845, by decide +kernel, by decide +kernel, by decide +kernel⟩
theorem q_yX6_placeNow : CFv yX6_placeNow cX6_placeNow 1 (some .int) 0 := ⟨mw_871, mw_872, mw_5, mw_873, by decide +kernel, by decide +kernel, by decide +kernel⟩
theorem q_yX6_climb : CFv yX6_climb cX6_climb 4 (some .int) 1 := ⟨mw_866, mw_867, mw_5, mw_868, by decide +kernel, by decide +kernel, by decide +kernel⟩
theorem q_yX6_now : CFv yX6_now cX6_now 2 (some .int) 1 := ⟨mw_883, mw_884, mw_5, mw_885, by decide +kernel, by decide +kernel, by decide +kernel⟩
theorem q_yX6_lot : CFv yX6_lot cX6_lot 3 (some .int) 1 := ⟨mw_891, mw_892, mw_5, mw_893, by decide +kernel, by decide +kernel, by decide +kernel⟩
theorem q_yX6_mark : CFv yX6_mark cX6_mark 5 (some .int) 2 := ⟨mw_927, mw_928, mw_5, mw_929, by decide +kernel, by decide +kernel, by decide +kernel⟩
theorem q_yX6_copy : CFv yX6_copy cX6_copy 3 none 2 := ⟨mw_949, mw_950, mw_5, mw_951, by decide +kernel, by decide +kernel, by decide +kernel⟩
theorem q_yX6_keep : CFv yX6_keep cX6_keep 2 (some .int) 1 := ⟨mw_945, mw_946, mw_5, mw_947, by decide +kernel, by decide +kernel, by decide +kernel⟩
theorem q_yX6_back : CFv yX6_back cX6_back 2 (some .int) 1 := ⟨mw_957, mw_958, mw_5, mw_959, by decide +kernel, by decide +kernel, by decide +kernel⟩
theorem q_yX6_count : CFv yX6_count cX6_count 2 (some .int) 1 := ⟨mw_965, mw_966, mw_5, mw_967, by decide +kernel, by decide +kernel, by decide +kernel⟩
theorem q_yX6_trace : CFv yX6_trace cX6_trace 1 (some .long) 0 := ⟨mw_973, mw_974, mw_5, mw_975, by decide +kernel, by decide +kernel, by decide +kernel⟩
theorem q_yJ6_numberOfTrailingZeros_0f7a4 : CFs yJ6_numberOfTrailingZeros_0f7a4 cJ6_numberOfTrailingZeros_0f7a4 2 (some .int) 1 := ⟨mw_593, mw_594, mw_595, by decide +kernel, by decide +kernel, by decide +kernel⟩
theorem q_yJ6_bitCount_0f7a4 : CFs yJ6_bitCount_0f7a4 cJ6_bitCount_0f7a4 1 (some .int) 1 := ⟨mw_775, mw_594, mw_776, by decide +kernel, by decide +kernel, by decide +kernel⟩
theorem q_yJ0_length_8abf5 : CFv yJ0_length_8abf5 cJ0_length_8abf5 1 (some .int) 0 := ⟨mw_204, mw_205, mw_206, mw_207, by decide +kernel, by decide +kernel, by decide +kernel⟩
theorem q_yJ0_charAt_5068e : CFv yJ0_charAt_5068e cJ0_charAt_5068e 2 (some .char) 1 := ⟨mw_216, mw_217, mw_206, mw_218, by decide +kernel, by decide +kernel, by decide +kernel⟩
theorem q_yJ0_coder_7d493 : CFv yJ0_coder_7d493 cJ0_coder_7d493 1 (some .byte) 0 := ⟨mw_210, mw_211, mw_206, mw_212, by decide +kernel, by decide +kernel, by decide +kernel⟩
theorem q_yJ0_isLatin1_aae02 : CFv yJ0_isLatin1_aae02 cJ0_isLatin1_aae02 1 (some .boolean) 0 := ⟨mw_220, mw_221, mw_206, mw_222, by decide +kernel, by decide +kernel, by decide +kernel⟩
theorem q_yJ0_checkIndex_df160 : CFs yJ0_checkIndex_df160 cJ0_checkIndex_df160 2 none 2 := ⟨mw_228, mw_206, mw_229, by decide +kernel, by decide +kernel, by decide +kernel⟩
theorem q_yJ1_charAt_3b067 : CFs yJ1_charAt_3b067 cJ1_charAt_3b067 2 (some .char) 2 := ⟨mw_224, mw_225, mw_226, by decide +kernel, by decide +kernel, by decide +kernel⟩
theorem q_yJ2_getChar_3b067 : CFs yJ2_getChar_3b067 cJ2_getChar_3b067 2 (some .char) 2 := ⟨mw_247, mw_237, mw_248, by decide +kernel, by decide +kernel, by decide +kernel⟩
theorem q_yJ2_length_9d52b : CFs yJ2_length_9d52b cJ2_length_9d52b 1 (some .int) 1 := ⟨mw_243, mw_237, mw_244, by decide +kernel, by decide +kernel, by decide +kernel⟩
theorem q_yJ2_charAt_3b067 : CFs yJ2_charAt_3b067 cJ2_charAt_3b067 2 (some .char) 2 := ⟨mw_236, mw_237, mw_238, by decide +kernel, by decide +kernel, by decide +kernel⟩
theorem q_yJ2_checkIndex_2214a : CFs yJ2_checkIndex_2214a cJ2_checkIndex_2214a 2 none 2 := ⟨mw_240, mw_237, mw_241, by decide +kernel, by decide +kernel, by decide +kernel⟩
theorem q_yJ3_checkIndex_8e157 : CFs yJ3_checkIndex_8e157 cJ3_checkIndex_8e157 3 (some .int) 3 := ⟨mw_232, mw_233, mw_234, by decide +kernel, by decide +kernel, by decide +kernel⟩
