/-! the heap of the law as two functions of address and place (printed by wip/whole/heap.py) -/
def cu (c : Nat) : Nat := 6 * c + 32
theorem cu_def (c : Nat) : cu c = 6 * c + 32 := rfl
def wa {α : Type} (X : Nat → Nat → α) (a : Nat) (f : Nat → α) : Nat → Nat → α := fun b => if b = a then f else X b
theorem wa_s {α : Type} {X : Nat → Nat → α} {a : Nat} {f : Nat → α} : wa X a f a = f := if_pos rfl
theorem wa_n {α : Type} {X : Nat → Nat → α} {a b : Nat} {f : Nat → α} (h : b ≠ a) : wa X a f b = X b := if_neg h
theorem wa_e {α : Type} {X : Nat → Nat → α} {a b : Nat} {f : Nat → α} : wa X a f b = if b = a then f else X b := rfl
theorem wa_w {α : Type} {X : Nat → Nat → α} {a : Nat} {f g : Nat → α} : wa (wa X a f) a g = wa X a g := by
  funext b
  unfold wa
  split <;> rfl
theorem wa_id {α : Type} {X : Nat → Nat → α} {a : Nat} : wa X a (X a) = X := by
  funext b
  unfold wa
  split
  · rename_i h; rw [h]
  · rfl
theorem wa_c {α : Type} {X : Nat → Nat → α} {a b : Nat} {f g : Nat → α} (h : a ≠ b) : wa (wa X a f) b g = wa (wa X b g) a f := by
  funext q
  unfold wa
  split
  · split
    · rename_i h1 h2; exact absurd (h2.symm.trans h1) h
    · rfl
  · rfl
theorem upd_e {f : Nat → Int32} {k j : Nat} {x : Int32} : upd f k x j = if j = k then x else f j := rfl
theorem upl_e {f : Nat → Int64} {k j : Nat} {x : Int64} : vp_updL f k x j = if j = k then x else f j := rfl
def hh_k (x : Nat → Int32) (y : Nat → Int64) (r : Nat) (a : Nat) : ww_E := match a with
  | 0 => .inr (0, [.ref 1, .ref 3, .ref 6, .int (x 3), .int (x 4)])
  | 1 => .inr (1, [.ref 2, .int (x 1), .int (x 2), .int (x 3), .int (x 4), .int (x 5), .int (x 6)])
  | 2 => .inl (0, 32, .inl x)
  | 3 => .inr (2, [.ref 4, .ref 5, .int (x 2)])
  | 4 => .inl (0, 8, .inl x)
  | 5 => .inl (1, 8, .inr (.inl y))
  | 6 => .inl (3, 10, .inr (.inr (.inr (.inr (fun j => if j < r then some (cu j) else none)))))
  | 7 => .inr (4, [.int (x 0), .int (x 1), .int (x 2), .int (x 3), .ref 8, .ref 9, .ref 10, .ref 11, .ref 12, .ref 13, .ref 14, .ref 15, .ref 16, .ref 17, .ref 18, .int (x 15), .ref 19, .ref 20, .ref 21, .ref 22, .ref 23, .int (x 21), .ref 24, .ref 25, .ref 26, .ref 27, .ref 28, .ref 29, .ref 30])
  | 8 => .inl (2, 12, .inl x)
  | 9 => .inl (0, 32, .inl x)
  | 10 => .inl (2, 32, .inl x)
  | 11 => .inl (2, 32, .inl x)
  | 12 => .inl (2, 32, .inl x)
  | 13 => .inl (0, 10, .inl x)
  | 14 => .inl (2, 28, .inl x)
  | 15 => .inl (2, 32, .inl x)
  | 16 => .inl (2, 28, .inl x)
  | 17 => .inl (2, 32, .inl x)
  | 18 => .inl (2, 10, .inl x)
  | 19 => .inl (0, 10, .inl x)
  | 20 => .inl (0, 240, .inl x)
  | 21 => .inl (0, 240, .inl x)
  | 22 => .inl (0, 240, .inl x)
  | 23 => .inl (2, 240, .inl x)
  | 24 => .inl (0, 8, .inl x)
  | 25 => .inl (1, 8, .inr (.inl y))
  | 26 => .inl (0, 10, .inl x)
  | 27 => .inl (0, 60, .inl x)
  | 28 => .inl (0, 60, .inl x)
  | 29 => .inl (1, 60, .inr (.inl y))
  | 30 => .inl (1, 10, .inr (.inl y))
  | 31 => .inl (1, 1, .inr (.inl y))
  | b + 32 => match b % 6 with
    | 0 => .inr (3, [.int (x 0), .ref (b + 32 + 1), .ref (b + 32 + 2), .ref (b + 32 + 3), .ref (b + 32 + 4), .int (x 5), .ref (b + 32 + 5), .int (x 7), .long (y 8), .long (y 9)])
    | 1 => .inl (0, 24, .inl x)
    | 2 => .inl (0, 24, .inl x)
    | 3 => .inl (0, 24, .inl x)
    | 4 => .inl (2, 24, .inl x)
    | _ => .inl (0, 6, .inl x)
def HH (X : Nat → Nat → Int32) (Y : Nat → Nat → Int64) (n r : Nat) : List ww_E := (List.range (6 * n + 32)).map (fun a => hh_k (X a) (Y a) r a)
theorem HH_len {X : Nat → Nat → Int32} {Y : Nat → Nat → Int64} {n r : Nat} : (HH X Y n r).length = 6 * n + 32 := by simp [HH]
theorem HH_get {X : Nat → Nat → Int32} {Y : Nat → Nat → Int64} {n r : Nat} {a : Nat} (h : a < 6 * n + 32) : (HH X Y n r)[a]? = some (hh_k (X a) (Y a) r a) := by
  simp [HH, List.getElem?_range h]
theorem HH_set {X : Nat → Nat → Int32} {Y : Nat → Nat → Int64} {n r : Nat} {a : Nat} {x : Nat → Int32} (h : a < 6 * n + 32) : (HH X Y n r).set a (hh_k x (Y a) r a) = HH (wa X a x) Y n r := by
  apply List.ext_getElem?
  intro i
  rw [List.getElem?_set]
  by_cases hi : i < 6 * n + 32
  · rw [HH_get hi, HH_get hi, HH_len, wa_e]
    by_cases hai : a = i
    · subst hai; simp [h]
    · simp [hai, Ne.symm hai]
  · have h1 : ¬ a = i := by omega
    rw [if_neg h1, List.getElem?_eq_none (by rw [HH_len]; omega), List.getElem?_eq_none (by rw [HH_len]; omega)]
theorem HH_setY {X : Nat → Nat → Int32} {Y : Nat → Nat → Int64} {n r : Nat} {a : Nat} {y : Nat → Int64} (h : a < 6 * n + 32) : (HH X Y n r).set a (hh_k (X a) y r a) = HH X (wa Y a y) n r := by
  apply List.ext_getElem?
  intro i
  rw [List.getElem?_set]
  by_cases hi : i < 6 * n + 32
  · rw [HH_get hi, HH_get hi, HH_len, wa_e]
    by_cases hai : a = i
    · subst hai; simp [h]
    · simp [hai, Ne.symm hai]
  · have h1 : ¬ a = i := by omega
    rw [if_neg h1, List.getElem?_eq_none (by rw [HH_len]; omega), List.getElem?_eq_none (by rw [HH_len]; omega)]
theorem hh_g {X : Nat → Nat → Int32} {Y : Nat → Nat → Int64} {n r : Nat} {a ci k : Nat} {fs : List Value} {v : Value} (h : a < 6 * n + 32) (h1 : hh_k (X a) (Y a) r a = .inr (ci, fs)) (h2 : fs[k]? = some v) : ww_gf (HH X Y n r) a ci k = some v := by
  unfold ww_gf
  rw [HH_get h, h1]
  simp [h2]
theorem hh_p {X : Nat → Nat → Int32} {Y : Nat → Nat → Int64} {n r : Nat} {a ci k : Nat} {fs : List Value} {v : Value} {x : Nat → Int32} (h : a < 6 * n + 32) (h1 : hh_k (X a) (Y a) r a = .inr (ci, fs)) (h2 : k < fs.length) (h3 : hh_k x (Y a) r a = .inr (ci, fs.set k v)) : ww_pf (HH X Y n r) a ci k v = some (HH (wa X a x) Y n r) := by
  unfold ww_pf
  rw [HH_get h, h1]
  simp only [h2, and_self, if_true]
  rw [← h3, HH_set h]
theorem hh_q {X : Nat → Nat → Int32} {Y : Nat → Nat → Int64} {n r : Nat} {a ci k : Nat} {fs : List Value} {v : Value} {y : Nat → Int64} (h : a < 6 * n + 32) (h1 : hh_k (X a) (Y a) r a = .inr (ci, fs)) (h2 : k < fs.length) (h3 : hh_k (X a) y r a = .inr (ci, fs.set k v)) : ww_pf (HH X Y n r) a ci k v = some (HH X (wa Y a y) n r) := by
  unfold ww_pf
  rw [HH_get h, h1]
  simp only [h2, and_self, if_true]
  rw [← h3, HH_setY h]
theorem rc_0 {X : Nat → Nat → Int32} {Y : Nat → Nat → Int64} {n r : Nat} : ww_rc (HH X Y n r) 0 0 := by
  unfold ww_rc
  rw [HH_get (by omega)]
  rfl
theorem g_0_0 {X : Nat → Nat → Int32} {Y : Nat → Nat → Int64} {n r : Nat} : ww_gf (HH X Y n r) 0 0 0 = some (.ref 1) := hh_g (by omega) rfl rfl
theorem g_0_1 {X : Nat → Nat → Int32} {Y : Nat → Nat → Int64} {n r : Nat} : ww_gf (HH X Y n r) 0 0 1 = some (.ref 3) := hh_g (by omega) rfl rfl
theorem g_0_2 {X : Nat → Nat → Int32} {Y : Nat → Nat → Int64} {n r : Nat} : ww_gf (HH X Y n r) 0 0 2 = some (.ref 6) := hh_g (by omega) rfl rfl
theorem g_0_3 {X : Nat → Nat → Int32} {Y : Nat → Nat → Int64} {n r : Nat} : ww_gf (HH X Y n r) 0 0 3 = some (.int (X 0 3)) := hh_g (by omega) rfl rfl
theorem p_0_3 {X : Nat → Nat → Int32} {Y : Nat → Nat → Int64} {n r : Nat} {v : Int32} : ww_pf (HH X Y n r) 0 0 3 (.int v) = some (HH (wa X 0 (upd (X 0) 3 v)) Y n r) := hh_p (by omega) rfl (Nat.le_of_ble_eq_true rfl) rfl
theorem g_0_4 {X : Nat → Nat → Int32} {Y : Nat → Nat → Int64} {n r : Nat} : ww_gf (HH X Y n r) 0 0 4 = some (.int (X 0 4)) := hh_g (by omega) rfl rfl
theorem p_0_4 {X : Nat → Nat → Int32} {Y : Nat → Nat → Int64} {n r : Nat} {v : Int32} : ww_pf (HH X Y n r) 0 0 4 (.int v) = some (HH (wa X 0 (upd (X 0) 4 v)) Y n r) := hh_p (by omega) rfl (Nat.le_of_ble_eq_true rfl) rfl
theorem rc_1 {X : Nat → Nat → Int32} {Y : Nat → Nat → Int64} {n r : Nat} : ww_rc (HH X Y n r) 1 1 := by
  unfold ww_rc
  rw [HH_get (by omega)]
  rfl
theorem g_1_0 {X : Nat → Nat → Int32} {Y : Nat → Nat → Int64} {n r : Nat} : ww_gf (HH X Y n r) 1 1 0 = some (.ref 2) := hh_g (by omega) rfl rfl
theorem g_1_1 {X : Nat → Nat → Int32} {Y : Nat → Nat → Int64} {n r : Nat} : ww_gf (HH X Y n r) 1 1 1 = some (.int (X 1 1)) := hh_g (by omega) rfl rfl
theorem p_1_1 {X : Nat → Nat → Int32} {Y : Nat → Nat → Int64} {n r : Nat} {v : Int32} : ww_pf (HH X Y n r) 1 1 1 (.int v) = some (HH (wa X 1 (upd (X 1) 1 v)) Y n r) := hh_p (by omega) rfl (Nat.le_of_ble_eq_true rfl) rfl
theorem g_1_2 {X : Nat → Nat → Int32} {Y : Nat → Nat → Int64} {n r : Nat} : ww_gf (HH X Y n r) 1 1 2 = some (.int (X 1 2)) := hh_g (by omega) rfl rfl
theorem p_1_2 {X : Nat → Nat → Int32} {Y : Nat → Nat → Int64} {n r : Nat} {v : Int32} : ww_pf (HH X Y n r) 1 1 2 (.int v) = some (HH (wa X 1 (upd (X 1) 2 v)) Y n r) := hh_p (by omega) rfl (Nat.le_of_ble_eq_true rfl) rfl
theorem g_1_3 {X : Nat → Nat → Int32} {Y : Nat → Nat → Int64} {n r : Nat} : ww_gf (HH X Y n r) 1 1 3 = some (.int (X 1 3)) := hh_g (by omega) rfl rfl
theorem p_1_3 {X : Nat → Nat → Int32} {Y : Nat → Nat → Int64} {n r : Nat} {v : Int32} : ww_pf (HH X Y n r) 1 1 3 (.int v) = some (HH (wa X 1 (upd (X 1) 3 v)) Y n r) := hh_p (by omega) rfl (Nat.le_of_ble_eq_true rfl) rfl
theorem g_1_4 {X : Nat → Nat → Int32} {Y : Nat → Nat → Int64} {n r : Nat} : ww_gf (HH X Y n r) 1 1 4 = some (.int (X 1 4)) := hh_g (by omega) rfl rfl
theorem p_1_4 {X : Nat → Nat → Int32} {Y : Nat → Nat → Int64} {n r : Nat} {v : Int32} : ww_pf (HH X Y n r) 1 1 4 (.int v) = some (HH (wa X 1 (upd (X 1) 4 v)) Y n r) := hh_p (by omega) rfl (Nat.le_of_ble_eq_true rfl) rfl
theorem g_1_5 {X : Nat → Nat → Int32} {Y : Nat → Nat → Int64} {n r : Nat} : ww_gf (HH X Y n r) 1 1 5 = some (.int (X 1 5)) := hh_g (by omega) rfl rfl
theorem p_1_5 {X : Nat → Nat → Int32} {Y : Nat → Nat → Int64} {n r : Nat} {v : Int32} : ww_pf (HH X Y n r) 1 1 5 (.int v) = some (HH (wa X 1 (upd (X 1) 5 v)) Y n r) := hh_p (by omega) rfl (Nat.le_of_ble_eq_true rfl) rfl
theorem g_1_6 {X : Nat → Nat → Int32} {Y : Nat → Nat → Int64} {n r : Nat} : ww_gf (HH X Y n r) 1 1 6 = some (.int (X 1 6)) := hh_g (by omega) rfl rfl
theorem p_1_6 {X : Nat → Nat → Int32} {Y : Nat → Nat → Int64} {n r : Nat} {v : Int32} : ww_pf (HH X Y n r) 1 1 6 (.int v) = some (HH (wa X 1 (upd (X 1) 6 v)) Y n r) := hh_p (by omega) rfl (Nat.le_of_ble_eq_true rfl) rfl
theorem rc_3 {X : Nat → Nat → Int32} {Y : Nat → Nat → Int64} {n r : Nat} : ww_rc (HH X Y n r) 3 2 := by
  unfold ww_rc
  rw [HH_get (by omega)]
  rfl
theorem g_3_0 {X : Nat → Nat → Int32} {Y : Nat → Nat → Int64} {n r : Nat} : ww_gf (HH X Y n r) 3 2 0 = some (.ref 4) := hh_g (by omega) rfl rfl
theorem g_3_1 {X : Nat → Nat → Int32} {Y : Nat → Nat → Int64} {n r : Nat} : ww_gf (HH X Y n r) 3 2 1 = some (.ref 5) := hh_g (by omega) rfl rfl
theorem g_3_2 {X : Nat → Nat → Int32} {Y : Nat → Nat → Int64} {n r : Nat} : ww_gf (HH X Y n r) 3 2 2 = some (.int (X 3 2)) := hh_g (by omega) rfl rfl
theorem p_3_2 {X : Nat → Nat → Int32} {Y : Nat → Nat → Int64} {n r : Nat} {v : Int32} : ww_pf (HH X Y n r) 3 2 2 (.int v) = some (HH (wa X 3 (upd (X 3) 2 v)) Y n r) := hh_p (by omega) rfl (Nat.le_of_ble_eq_true rfl) rfl
theorem rc_7 {X : Nat → Nat → Int32} {Y : Nat → Nat → Int64} {n r : Nat} : ww_rc (HH X Y n r) 7 4 := by
  unfold ww_rc
  rw [HH_get (by omega)]
  rfl
theorem g_7_0 {X : Nat → Nat → Int32} {Y : Nat → Nat → Int64} {n r : Nat} : ww_gf (HH X Y n r) 7 4 0 = some (.int (X 7 0)) := hh_g (by omega) rfl rfl
theorem p_7_0 {X : Nat → Nat → Int32} {Y : Nat → Nat → Int64} {n r : Nat} {v : Int32} : ww_pf (HH X Y n r) 7 4 0 (.int v) = some (HH (wa X 7 (upd (X 7) 0 v)) Y n r) := hh_p (by omega) rfl (Nat.le_of_ble_eq_true rfl) rfl
theorem g_7_1 {X : Nat → Nat → Int32} {Y : Nat → Nat → Int64} {n r : Nat} : ww_gf (HH X Y n r) 7 4 1 = some (.int (X 7 1)) := hh_g (by omega) rfl rfl
theorem p_7_1 {X : Nat → Nat → Int32} {Y : Nat → Nat → Int64} {n r : Nat} {v : Int32} : ww_pf (HH X Y n r) 7 4 1 (.int v) = some (HH (wa X 7 (upd (X 7) 1 v)) Y n r) := hh_p (by omega) rfl (Nat.le_of_ble_eq_true rfl) rfl
theorem g_7_2 {X : Nat → Nat → Int32} {Y : Nat → Nat → Int64} {n r : Nat} : ww_gf (HH X Y n r) 7 4 2 = some (.int (X 7 2)) := hh_g (by omega) rfl rfl
theorem p_7_2 {X : Nat → Nat → Int32} {Y : Nat → Nat → Int64} {n r : Nat} {v : Int32} : ww_pf (HH X Y n r) 7 4 2 (.int v) = some (HH (wa X 7 (upd (X 7) 2 v)) Y n r) := hh_p (by omega) rfl (Nat.le_of_ble_eq_true rfl) rfl
theorem g_7_3 {X : Nat → Nat → Int32} {Y : Nat → Nat → Int64} {n r : Nat} : ww_gf (HH X Y n r) 7 4 3 = some (.int (X 7 3)) := hh_g (by omega) rfl rfl
theorem p_7_3 {X : Nat → Nat → Int32} {Y : Nat → Nat → Int64} {n r : Nat} {v : Int32} : ww_pf (HH X Y n r) 7 4 3 (.int v) = some (HH (wa X 7 (upd (X 7) 3 v)) Y n r) := hh_p (by omega) rfl (Nat.le_of_ble_eq_true rfl) rfl
theorem g_7_4 {X : Nat → Nat → Int32} {Y : Nat → Nat → Int64} {n r : Nat} : ww_gf (HH X Y n r) 7 4 4 = some (.ref 8) := hh_g (by omega) rfl rfl
theorem g_7_5 {X : Nat → Nat → Int32} {Y : Nat → Nat → Int64} {n r : Nat} : ww_gf (HH X Y n r) 7 4 5 = some (.ref 9) := hh_g (by omega) rfl rfl
theorem g_7_6 {X : Nat → Nat → Int32} {Y : Nat → Nat → Int64} {n r : Nat} : ww_gf (HH X Y n r) 7 4 6 = some (.ref 10) := hh_g (by omega) rfl rfl
theorem g_7_7 {X : Nat → Nat → Int32} {Y : Nat → Nat → Int64} {n r : Nat} : ww_gf (HH X Y n r) 7 4 7 = some (.ref 11) := hh_g (by omega) rfl rfl
theorem g_7_8 {X : Nat → Nat → Int32} {Y : Nat → Nat → Int64} {n r : Nat} : ww_gf (HH X Y n r) 7 4 8 = some (.ref 12) := hh_g (by omega) rfl rfl
theorem g_7_9 {X : Nat → Nat → Int32} {Y : Nat → Nat → Int64} {n r : Nat} : ww_gf (HH X Y n r) 7 4 9 = some (.ref 13) := hh_g (by omega) rfl rfl
theorem g_7_10 {X : Nat → Nat → Int32} {Y : Nat → Nat → Int64} {n r : Nat} : ww_gf (HH X Y n r) 7 4 10 = some (.ref 14) := hh_g (by omega) rfl rfl
theorem g_7_11 {X : Nat → Nat → Int32} {Y : Nat → Nat → Int64} {n r : Nat} : ww_gf (HH X Y n r) 7 4 11 = some (.ref 15) := hh_g (by omega) rfl rfl
theorem g_7_12 {X : Nat → Nat → Int32} {Y : Nat → Nat → Int64} {n r : Nat} : ww_gf (HH X Y n r) 7 4 12 = some (.ref 16) := hh_g (by omega) rfl rfl
theorem g_7_13 {X : Nat → Nat → Int32} {Y : Nat → Nat → Int64} {n r : Nat} : ww_gf (HH X Y n r) 7 4 13 = some (.ref 17) := hh_g (by omega) rfl rfl
theorem g_7_14 {X : Nat → Nat → Int32} {Y : Nat → Nat → Int64} {n r : Nat} : ww_gf (HH X Y n r) 7 4 14 = some (.ref 18) := hh_g (by omega) rfl rfl
theorem g_7_15 {X : Nat → Nat → Int32} {Y : Nat → Nat → Int64} {n r : Nat} : ww_gf (HH X Y n r) 7 4 15 = some (.int (X 7 15)) := hh_g (by omega) rfl rfl
theorem p_7_15 {X : Nat → Nat → Int32} {Y : Nat → Nat → Int64} {n r : Nat} {v : Int32} : ww_pf (HH X Y n r) 7 4 15 (.int v) = some (HH (wa X 7 (upd (X 7) 15 v)) Y n r) := hh_p (by omega) rfl (Nat.le_of_ble_eq_true rfl) rfl
theorem g_7_16 {X : Nat → Nat → Int32} {Y : Nat → Nat → Int64} {n r : Nat} : ww_gf (HH X Y n r) 7 4 16 = some (.ref 19) := hh_g (by omega) rfl rfl
theorem g_7_17 {X : Nat → Nat → Int32} {Y : Nat → Nat → Int64} {n r : Nat} : ww_gf (HH X Y n r) 7 4 17 = some (.ref 20) := hh_g (by omega) rfl rfl
theorem g_7_18 {X : Nat → Nat → Int32} {Y : Nat → Nat → Int64} {n r : Nat} : ww_gf (HH X Y n r) 7 4 18 = some (.ref 21) := hh_g (by omega) rfl rfl
theorem g_7_19 {X : Nat → Nat → Int32} {Y : Nat → Nat → Int64} {n r : Nat} : ww_gf (HH X Y n r) 7 4 19 = some (.ref 22) := hh_g (by omega) rfl rfl
theorem g_7_20 {X : Nat → Nat → Int32} {Y : Nat → Nat → Int64} {n r : Nat} : ww_gf (HH X Y n r) 7 4 20 = some (.ref 23) := hh_g (by omega) rfl rfl
theorem g_7_21 {X : Nat → Nat → Int32} {Y : Nat → Nat → Int64} {n r : Nat} : ww_gf (HH X Y n r) 7 4 21 = some (.int (X 7 21)) := hh_g (by omega) rfl rfl
theorem p_7_21 {X : Nat → Nat → Int32} {Y : Nat → Nat → Int64} {n r : Nat} {v : Int32} : ww_pf (HH X Y n r) 7 4 21 (.int v) = some (HH (wa X 7 (upd (X 7) 21 v)) Y n r) := hh_p (by omega) rfl (Nat.le_of_ble_eq_true rfl) rfl
theorem g_7_22 {X : Nat → Nat → Int32} {Y : Nat → Nat → Int64} {n r : Nat} : ww_gf (HH X Y n r) 7 4 22 = some (.ref 24) := hh_g (by omega) rfl rfl
theorem g_7_23 {X : Nat → Nat → Int32} {Y : Nat → Nat → Int64} {n r : Nat} : ww_gf (HH X Y n r) 7 4 23 = some (.ref 25) := hh_g (by omega) rfl rfl
theorem g_7_24 {X : Nat → Nat → Int32} {Y : Nat → Nat → Int64} {n r : Nat} : ww_gf (HH X Y n r) 7 4 24 = some (.ref 26) := hh_g (by omega) rfl rfl
theorem g_7_25 {X : Nat → Nat → Int32} {Y : Nat → Nat → Int64} {n r : Nat} : ww_gf (HH X Y n r) 7 4 25 = some (.ref 27) := hh_g (by omega) rfl rfl
theorem g_7_26 {X : Nat → Nat → Int32} {Y : Nat → Nat → Int64} {n r : Nat} : ww_gf (HH X Y n r) 7 4 26 = some (.ref 28) := hh_g (by omega) rfl rfl
theorem g_7_27 {X : Nat → Nat → Int32} {Y : Nat → Nat → Int64} {n r : Nat} : ww_gf (HH X Y n r) 7 4 27 = some (.ref 29) := hh_g (by omega) rfl rfl
theorem g_7_28 {X : Nat → Nat → Int32} {Y : Nat → Nat → Int64} {n r : Nat} : ww_gf (HH X Y n r) 7 4 28 = some (.ref 30) := hh_g (by omega) rfl rfl
theorem ra_2 {X : Nat → Nat → Int32} {Y : Nat → Nat → Int64} {n r : Nat} : ww_ra0 (HH X Y n r)[2]? = some (32, X 2) := by
  rw [HH_get (by omega)]
  rfl
theorem rs_2 {X : Nat → Nat → Int32} {Y : Nat → Nat → Int64} {n r : Nat} {f : Nat → Int32} : (HH X Y n r).set 2 (.inl (0, 32, .inl f)) = HH (wa X 2 f) Y n r := HH_set (x := f) (by omega)
theorem ra_4 {X : Nat → Nat → Int32} {Y : Nat → Nat → Int64} {n r : Nat} : ww_ra0 (HH X Y n r)[4]? = some (8, X 4) := by
  rw [HH_get (by omega)]
  rfl
theorem rs_4 {X : Nat → Nat → Int32} {Y : Nat → Nat → Int64} {n r : Nat} {f : Nat → Int32} : (HH X Y n r).set 4 (.inl (0, 8, .inl f)) = HH (wa X 4 f) Y n r := HH_set (x := f) (by omega)
theorem ra_5 {X : Nat → Nat → Int32} {Y : Nat → Nat → Int64} {n r : Nat} : ww_ra1 (HH X Y n r)[5]? = some (8, Y 5) := by
  rw [HH_get (by omega)]
  rfl
theorem rs_5 {X : Nat → Nat → Int32} {Y : Nat → Nat → Int64} {n r : Nat} {f : Nat → Int64} : (HH X Y n r).set 5 (.inl (1, 8, .inr (.inl f))) = HH X (wa Y 5 f) n r := HH_setY (y := f) (by omega)
theorem ra_8 {X : Nat → Nat → Int32} {Y : Nat → Nat → Int64} {n r : Nat} : ww_ra2 (HH X Y n r)[8]? = some (12, X 8) := by
  rw [HH_get (by omega)]
  rfl
theorem rs_8 {X : Nat → Nat → Int32} {Y : Nat → Nat → Int64} {n r : Nat} {f : Nat → Int32} : (HH X Y n r).set 8 (.inl (2, 12, .inl f)) = HH (wa X 8 f) Y n r := HH_set (x := f) (by omega)
theorem ra_9 {X : Nat → Nat → Int32} {Y : Nat → Nat → Int64} {n r : Nat} : ww_ra0 (HH X Y n r)[9]? = some (32, X 9) := by
  rw [HH_get (by omega)]
  rfl
theorem rs_9 {X : Nat → Nat → Int32} {Y : Nat → Nat → Int64} {n r : Nat} {f : Nat → Int32} : (HH X Y n r).set 9 (.inl (0, 32, .inl f)) = HH (wa X 9 f) Y n r := HH_set (x := f) (by omega)
theorem ra_10 {X : Nat → Nat → Int32} {Y : Nat → Nat → Int64} {n r : Nat} : ww_ra2 (HH X Y n r)[10]? = some (32, X 10) := by
  rw [HH_get (by omega)]
  rfl
theorem rs_10 {X : Nat → Nat → Int32} {Y : Nat → Nat → Int64} {n r : Nat} {f : Nat → Int32} : (HH X Y n r).set 10 (.inl (2, 32, .inl f)) = HH (wa X 10 f) Y n r := HH_set (x := f) (by omega)
theorem ra_11 {X : Nat → Nat → Int32} {Y : Nat → Nat → Int64} {n r : Nat} : ww_ra2 (HH X Y n r)[11]? = some (32, X 11) := by
  rw [HH_get (by omega)]
  rfl
theorem rs_11 {X : Nat → Nat → Int32} {Y : Nat → Nat → Int64} {n r : Nat} {f : Nat → Int32} : (HH X Y n r).set 11 (.inl (2, 32, .inl f)) = HH (wa X 11 f) Y n r := HH_set (x := f) (by omega)
theorem ra_12 {X : Nat → Nat → Int32} {Y : Nat → Nat → Int64} {n r : Nat} : ww_ra2 (HH X Y n r)[12]? = some (32, X 12) := by
  rw [HH_get (by omega)]
  rfl
theorem rs_12 {X : Nat → Nat → Int32} {Y : Nat → Nat → Int64} {n r : Nat} {f : Nat → Int32} : (HH X Y n r).set 12 (.inl (2, 32, .inl f)) = HH (wa X 12 f) Y n r := HH_set (x := f) (by omega)
theorem ra_13 {X : Nat → Nat → Int32} {Y : Nat → Nat → Int64} {n r : Nat} : ww_ra0 (HH X Y n r)[13]? = some (10, X 13) := by
  rw [HH_get (by omega)]
  rfl
theorem rs_13 {X : Nat → Nat → Int32} {Y : Nat → Nat → Int64} {n r : Nat} {f : Nat → Int32} : (HH X Y n r).set 13 (.inl (0, 10, .inl f)) = HH (wa X 13 f) Y n r := HH_set (x := f) (by omega)
theorem ra_14 {X : Nat → Nat → Int32} {Y : Nat → Nat → Int64} {n r : Nat} : ww_ra2 (HH X Y n r)[14]? = some (28, X 14) := by
  rw [HH_get (by omega)]
  rfl
theorem rs_14 {X : Nat → Nat → Int32} {Y : Nat → Nat → Int64} {n r : Nat} {f : Nat → Int32} : (HH X Y n r).set 14 (.inl (2, 28, .inl f)) = HH (wa X 14 f) Y n r := HH_set (x := f) (by omega)
theorem ra_15 {X : Nat → Nat → Int32} {Y : Nat → Nat → Int64} {n r : Nat} : ww_ra2 (HH X Y n r)[15]? = some (32, X 15) := by
  rw [HH_get (by omega)]
  rfl
theorem rs_15 {X : Nat → Nat → Int32} {Y : Nat → Nat → Int64} {n r : Nat} {f : Nat → Int32} : (HH X Y n r).set 15 (.inl (2, 32, .inl f)) = HH (wa X 15 f) Y n r := HH_set (x := f) (by omega)
theorem ra_16 {X : Nat → Nat → Int32} {Y : Nat → Nat → Int64} {n r : Nat} : ww_ra2 (HH X Y n r)[16]? = some (28, X 16) := by
  rw [HH_get (by omega)]
  rfl
theorem rs_16 {X : Nat → Nat → Int32} {Y : Nat → Nat → Int64} {n r : Nat} {f : Nat → Int32} : (HH X Y n r).set 16 (.inl (2, 28, .inl f)) = HH (wa X 16 f) Y n r := HH_set (x := f) (by omega)
theorem ra_17 {X : Nat → Nat → Int32} {Y : Nat → Nat → Int64} {n r : Nat} : ww_ra2 (HH X Y n r)[17]? = some (32, X 17) := by
  rw [HH_get (by omega)]
  rfl
theorem rs_17 {X : Nat → Nat → Int32} {Y : Nat → Nat → Int64} {n r : Nat} {f : Nat → Int32} : (HH X Y n r).set 17 (.inl (2, 32, .inl f)) = HH (wa X 17 f) Y n r := HH_set (x := f) (by omega)
theorem ra_18 {X : Nat → Nat → Int32} {Y : Nat → Nat → Int64} {n r : Nat} : ww_ra2 (HH X Y n r)[18]? = some (10, X 18) := by
  rw [HH_get (by omega)]
  rfl
theorem rs_18 {X : Nat → Nat → Int32} {Y : Nat → Nat → Int64} {n r : Nat} {f : Nat → Int32} : (HH X Y n r).set 18 (.inl (2, 10, .inl f)) = HH (wa X 18 f) Y n r := HH_set (x := f) (by omega)
theorem ra_19 {X : Nat → Nat → Int32} {Y : Nat → Nat → Int64} {n r : Nat} : ww_ra0 (HH X Y n r)[19]? = some (10, X 19) := by
  rw [HH_get (by omega)]
  rfl
theorem rs_19 {X : Nat → Nat → Int32} {Y : Nat → Nat → Int64} {n r : Nat} {f : Nat → Int32} : (HH X Y n r).set 19 (.inl (0, 10, .inl f)) = HH (wa X 19 f) Y n r := HH_set (x := f) (by omega)
theorem ra_20 {X : Nat → Nat → Int32} {Y : Nat → Nat → Int64} {n r : Nat} : ww_ra0 (HH X Y n r)[20]? = some (240, X 20) := by
  rw [HH_get (by omega)]
  rfl
theorem rs_20 {X : Nat → Nat → Int32} {Y : Nat → Nat → Int64} {n r : Nat} {f : Nat → Int32} : (HH X Y n r).set 20 (.inl (0, 240, .inl f)) = HH (wa X 20 f) Y n r := HH_set (x := f) (by omega)
theorem ra_21 {X : Nat → Nat → Int32} {Y : Nat → Nat → Int64} {n r : Nat} : ww_ra0 (HH X Y n r)[21]? = some (240, X 21) := by
  rw [HH_get (by omega)]
  rfl
theorem rs_21 {X : Nat → Nat → Int32} {Y : Nat → Nat → Int64} {n r : Nat} {f : Nat → Int32} : (HH X Y n r).set 21 (.inl (0, 240, .inl f)) = HH (wa X 21 f) Y n r := HH_set (x := f) (by omega)
theorem ra_22 {X : Nat → Nat → Int32} {Y : Nat → Nat → Int64} {n r : Nat} : ww_ra0 (HH X Y n r)[22]? = some (240, X 22) := by
  rw [HH_get (by omega)]
  rfl
theorem rs_22 {X : Nat → Nat → Int32} {Y : Nat → Nat → Int64} {n r : Nat} {f : Nat → Int32} : (HH X Y n r).set 22 (.inl (0, 240, .inl f)) = HH (wa X 22 f) Y n r := HH_set (x := f) (by omega)
theorem ra_23 {X : Nat → Nat → Int32} {Y : Nat → Nat → Int64} {n r : Nat} : ww_ra2 (HH X Y n r)[23]? = some (240, X 23) := by
  rw [HH_get (by omega)]
  rfl
theorem rs_23 {X : Nat → Nat → Int32} {Y : Nat → Nat → Int64} {n r : Nat} {f : Nat → Int32} : (HH X Y n r).set 23 (.inl (2, 240, .inl f)) = HH (wa X 23 f) Y n r := HH_set (x := f) (by omega)
theorem ra_24 {X : Nat → Nat → Int32} {Y : Nat → Nat → Int64} {n r : Nat} : ww_ra0 (HH X Y n r)[24]? = some (8, X 24) := by
  rw [HH_get (by omega)]
  rfl
theorem rs_24 {X : Nat → Nat → Int32} {Y : Nat → Nat → Int64} {n r : Nat} {f : Nat → Int32} : (HH X Y n r).set 24 (.inl (0, 8, .inl f)) = HH (wa X 24 f) Y n r := HH_set (x := f) (by omega)
theorem ra_25 {X : Nat → Nat → Int32} {Y : Nat → Nat → Int64} {n r : Nat} : ww_ra1 (HH X Y n r)[25]? = some (8, Y 25) := by
  rw [HH_get (by omega)]
  rfl
theorem rs_25 {X : Nat → Nat → Int32} {Y : Nat → Nat → Int64} {n r : Nat} {f : Nat → Int64} : (HH X Y n r).set 25 (.inl (1, 8, .inr (.inl f))) = HH X (wa Y 25 f) n r := HH_setY (y := f) (by omega)
theorem ra_26 {X : Nat → Nat → Int32} {Y : Nat → Nat → Int64} {n r : Nat} : ww_ra0 (HH X Y n r)[26]? = some (10, X 26) := by
  rw [HH_get (by omega)]
  rfl
theorem rs_26 {X : Nat → Nat → Int32} {Y : Nat → Nat → Int64} {n r : Nat} {f : Nat → Int32} : (HH X Y n r).set 26 (.inl (0, 10, .inl f)) = HH (wa X 26 f) Y n r := HH_set (x := f) (by omega)
theorem ra_27 {X : Nat → Nat → Int32} {Y : Nat → Nat → Int64} {n r : Nat} : ww_ra0 (HH X Y n r)[27]? = some (60, X 27) := by
  rw [HH_get (by omega)]
  rfl
theorem rs_27 {X : Nat → Nat → Int32} {Y : Nat → Nat → Int64} {n r : Nat} {f : Nat → Int32} : (HH X Y n r).set 27 (.inl (0, 60, .inl f)) = HH (wa X 27 f) Y n r := HH_set (x := f) (by omega)
theorem ra_28 {X : Nat → Nat → Int32} {Y : Nat → Nat → Int64} {n r : Nat} : ww_ra0 (HH X Y n r)[28]? = some (60, X 28) := by
  rw [HH_get (by omega)]
  rfl
theorem rs_28 {X : Nat → Nat → Int32} {Y : Nat → Nat → Int64} {n r : Nat} {f : Nat → Int32} : (HH X Y n r).set 28 (.inl (0, 60, .inl f)) = HH (wa X 28 f) Y n r := HH_set (x := f) (by omega)
theorem ra_29 {X : Nat → Nat → Int32} {Y : Nat → Nat → Int64} {n r : Nat} : ww_ra1 (HH X Y n r)[29]? = some (60, Y 29) := by
  rw [HH_get (by omega)]
  rfl
theorem rs_29 {X : Nat → Nat → Int32} {Y : Nat → Nat → Int64} {n r : Nat} {f : Nat → Int64} : (HH X Y n r).set 29 (.inl (1, 60, .inr (.inl f))) = HH X (wa Y 29 f) n r := HH_setY (y := f) (by omega)
theorem ra_30 {X : Nat → Nat → Int32} {Y : Nat → Nat → Int64} {n r : Nat} : ww_ra1 (HH X Y n r)[30]? = some (10, Y 30) := by
  rw [HH_get (by omega)]
  rfl
theorem rs_30 {X : Nat → Nat → Int32} {Y : Nat → Nat → Int64} {n r : Nat} {f : Nat → Int64} : (HH X Y n r).set 30 (.inl (1, 10, .inr (.inl f))) = HH X (wa Y 30 f) n r := HH_setY (y := f) (by omega)
theorem ra_31 {X : Nat → Nat → Int32} {Y : Nat → Nat → Int64} {n r : Nat} : ww_ra1 (HH X Y n r)[31]? = some (1, Y 31) := by
  rw [HH_get (by omega)]
  rfl
theorem rs_31 {X : Nat → Nat → Int32} {Y : Nat → Nat → Int64} {n r : Nat} {f : Nat → Int64} : (HH X Y n r).set 31 (.inl (1, 1, .inr (.inl f))) = HH X (wa Y 31 f) n r := HH_setY (y := f) (by omega)
theorem ra_6 {X : Nat → Nat → Int32} {Y : Nat → Nat → Int64} {n r : Nat} : ww_ra3 (HH X Y n r)[6]? = some (10, fun j => if j < r then some (cu j) else none) := by
  rw [HH_get (by omega)]
  rfl
theorem cu_k0 {x : Nat → Int32} {y : Nat → Int64} {r c : Nat} : hh_k x y r (cu c) = .inr (3, [.int (x 0), .ref (cu c + 1), .ref (cu c + 2), .ref (cu c + 3), .ref (cu c + 4), .int (x 5), .ref (cu c + 5), .int (x 7), .long (y 8), .long (y 9)]) := by
  unfold cu hh_k
  have h : 6 * c % 6 = 0 := by omega
  simp only [h]
theorem cu_k1 {x : Nat → Int32} {y : Nat → Int64} {r c : Nat} : hh_k x y r (cu c + 1) = .inl (0, 24, .inl x) := by
  have e : cu c + 1 = (6 * c + 1) + 32 := by unfold cu; omega
  have h : (6 * c + 1) % 6 = 1 := by omega
  rw [e]
  unfold hh_k
  simp only [h]
theorem cu_k2 {x : Nat → Int32} {y : Nat → Int64} {r c : Nat} : hh_k x y r (cu c + 2) = .inl (0, 24, .inl x) := by
  have e : cu c + 2 = (6 * c + 2) + 32 := by unfold cu; omega
  have h : (6 * c + 2) % 6 = 2 := by omega
  rw [e]
  unfold hh_k
  simp only [h]
theorem cu_k3 {x : Nat → Int32} {y : Nat → Int64} {r c : Nat} : hh_k x y r (cu c + 3) = .inl (0, 24, .inl x) := by
  have e : cu c + 3 = (6 * c + 3) + 32 := by unfold cu; omega
  have h : (6 * c + 3) % 6 = 3 := by omega
  rw [e]
  unfold hh_k
  simp only [h]
theorem cu_k4 {x : Nat → Int32} {y : Nat → Int64} {r c : Nat} : hh_k x y r (cu c + 4) = .inl (2, 24, .inl x) := by
  have e : cu c + 4 = (6 * c + 4) + 32 := by unfold cu; omega
  have h : (6 * c + 4) % 6 = 4 := by omega
  rw [e]
  unfold hh_k
  simp only [h]
theorem cu_k5 {x : Nat → Int32} {y : Nat → Int64} {r c : Nat} : hh_k x y r (cu c + 5) = .inl (0, 6, .inl x) := by
  have e : cu c + 5 = (6 * c + 5) + 32 := by unfold cu; omega
  have h : (6 * c + 5) % 6 = 5 := by omega
  rw [e]
  unfold hh_k
  simp only [h]
theorem cu_lt {c n : Nat} (h : c < n) : cu c < 6 * n + 32 ∧ cu c + 1 < 6 * n + 32 ∧ cu c + 2 < 6 * n + 32 ∧ cu c + 3 < 6 * n + 32 ∧ cu c + 4 < 6 * n + 32 ∧ cu c + 5 < 6 * n + 32 := by unfold cu; omega
theorem rc_c {X : Nat → Nat → Int32} {Y : Nat → Nat → Int64} {n r : Nat} {c : Nat} (h : c < n) : ww_rc (HH X Y n r) (cu c) 3 := by
  unfold ww_rc
  rw [HH_get (cu_lt h).1, cu_k0]
theorem g_c_0 {X : Nat → Nat → Int32} {Y : Nat → Nat → Int64} {n r : Nat} {c : Nat} (h : c < n) : ww_gf (HH X Y n r) (cu c) 3 0 = some (.int (X (cu c) 0)) := hh_g (cu_lt h).1 cu_k0 rfl
theorem p_c_0 {X : Nat → Nat → Int32} {Y : Nat → Nat → Int64} {n r : Nat} {c : Nat} {v : Int32} (h : c < n) : ww_pf (HH X Y n r) (cu c) 3 0 (.int v) = some (HH (wa X (cu c) (upd (X (cu c)) 0 v)) Y n r) := hh_p (cu_lt h).1 cu_k0 (Nat.le_of_ble_eq_true rfl) cu_k0
theorem g_c_1 {X : Nat → Nat → Int32} {Y : Nat → Nat → Int64} {n r : Nat} {c : Nat} (h : c < n) : ww_gf (HH X Y n r) (cu c) 3 1 = some (.ref (cu c + 1)) := hh_g (cu_lt h).1 cu_k0 rfl
theorem g_c_2 {X : Nat → Nat → Int32} {Y : Nat → Nat → Int64} {n r : Nat} {c : Nat} (h : c < n) : ww_gf (HH X Y n r) (cu c) 3 2 = some (.ref (cu c + 2)) := hh_g (cu_lt h).1 cu_k0 rfl
theorem g_c_3 {X : Nat → Nat → Int32} {Y : Nat → Nat → Int64} {n r : Nat} {c : Nat} (h : c < n) : ww_gf (HH X Y n r) (cu c) 3 3 = some (.ref (cu c + 3)) := hh_g (cu_lt h).1 cu_k0 rfl
theorem g_c_4 {X : Nat → Nat → Int32} {Y : Nat → Nat → Int64} {n r : Nat} {c : Nat} (h : c < n) : ww_gf (HH X Y n r) (cu c) 3 4 = some (.ref (cu c + 4)) := hh_g (cu_lt h).1 cu_k0 rfl
theorem g_c_5 {X : Nat → Nat → Int32} {Y : Nat → Nat → Int64} {n r : Nat} {c : Nat} (h : c < n) : ww_gf (HH X Y n r) (cu c) 3 5 = some (.int (X (cu c) 5)) := hh_g (cu_lt h).1 cu_k0 rfl
theorem p_c_5 {X : Nat → Nat → Int32} {Y : Nat → Nat → Int64} {n r : Nat} {c : Nat} {v : Int32} (h : c < n) : ww_pf (HH X Y n r) (cu c) 3 5 (.int v) = some (HH (wa X (cu c) (upd (X (cu c)) 5 v)) Y n r) := hh_p (cu_lt h).1 cu_k0 (Nat.le_of_ble_eq_true rfl) cu_k0
theorem g_c_6 {X : Nat → Nat → Int32} {Y : Nat → Nat → Int64} {n r : Nat} {c : Nat} (h : c < n) : ww_gf (HH X Y n r) (cu c) 3 6 = some (.ref (cu c + 5)) := hh_g (cu_lt h).1 cu_k0 rfl
theorem g_c_7 {X : Nat → Nat → Int32} {Y : Nat → Nat → Int64} {n r : Nat} {c : Nat} (h : c < n) : ww_gf (HH X Y n r) (cu c) 3 7 = some (.int (X (cu c) 7)) := hh_g (cu_lt h).1 cu_k0 rfl
theorem p_c_7 {X : Nat → Nat → Int32} {Y : Nat → Nat → Int64} {n r : Nat} {c : Nat} {v : Int32} (h : c < n) : ww_pf (HH X Y n r) (cu c) 3 7 (.int v) = some (HH (wa X (cu c) (upd (X (cu c)) 7 v)) Y n r) := hh_p (cu_lt h).1 cu_k0 (Nat.le_of_ble_eq_true rfl) cu_k0
theorem g_c_8 {X : Nat → Nat → Int32} {Y : Nat → Nat → Int64} {n r : Nat} {c : Nat} (h : c < n) : ww_gf (HH X Y n r) (cu c) 3 8 = some (.long (Y (cu c) 8)) := hh_g (cu_lt h).1 cu_k0 rfl
theorem p_c_8 {X : Nat → Nat → Int32} {Y : Nat → Nat → Int64} {n r : Nat} {c : Nat} {v : Int64} (h : c < n) : ww_pf (HH X Y n r) (cu c) 3 8 (.long v) = some (HH X (wa Y (cu c) (vp_updL (Y (cu c)) 8 v)) n r) := hh_q (cu_lt h).1 cu_k0 (Nat.le_of_ble_eq_true rfl) cu_k0
theorem g_c_9 {X : Nat → Nat → Int32} {Y : Nat → Nat → Int64} {n r : Nat} {c : Nat} (h : c < n) : ww_gf (HH X Y n r) (cu c) 3 9 = some (.long (Y (cu c) 9)) := hh_g (cu_lt h).1 cu_k0 rfl
theorem p_c_9 {X : Nat → Nat → Int32} {Y : Nat → Nat → Int64} {n r : Nat} {c : Nat} {v : Int64} (h : c < n) : ww_pf (HH X Y n r) (cu c) 3 9 (.long v) = some (HH X (wa Y (cu c) (vp_updL (Y (cu c)) 9 v)) n r) := hh_q (cu_lt h).1 cu_k0 (Nat.le_of_ble_eq_true rfl) cu_k0
theorem ra_c1 {X : Nat → Nat → Int32} {Y : Nat → Nat → Int64} {n r : Nat} {c : Nat} (h : c < n) : ww_ra0 (HH X Y n r)[cu c + 1]? = some (24, X (cu c + 1)) := by
  rw [HH_get (cu_lt h).2.1, cu_k1]
  rfl
theorem rs_c1 {X : Nat → Nat → Int32} {Y : Nat → Nat → Int64} {n r : Nat} {c : Nat} {f : Nat → Int32} (h : c < n) : (HH X Y n r).set (cu c + 1) (.inl (0, 24, .inl f)) = HH (wa X (cu c + 1) f) Y n r := by
  rw [← HH_set (cu_lt h).2.1, cu_k1]
theorem ra_c2 {X : Nat → Nat → Int32} {Y : Nat → Nat → Int64} {n r : Nat} {c : Nat} (h : c < n) : ww_ra0 (HH X Y n r)[cu c + 2]? = some (24, X (cu c + 2)) := by
  rw [HH_get (cu_lt h).2.2.1, cu_k2]
  rfl
theorem rs_c2 {X : Nat → Nat → Int32} {Y : Nat → Nat → Int64} {n r : Nat} {c : Nat} {f : Nat → Int32} (h : c < n) : (HH X Y n r).set (cu c + 2) (.inl (0, 24, .inl f)) = HH (wa X (cu c + 2) f) Y n r := by
  rw [← HH_set (cu_lt h).2.2.1, cu_k2]
theorem ra_c3 {X : Nat → Nat → Int32} {Y : Nat → Nat → Int64} {n r : Nat} {c : Nat} (h : c < n) : ww_ra0 (HH X Y n r)[cu c + 3]? = some (24, X (cu c + 3)) := by
  rw [HH_get (cu_lt h).2.2.2.1, cu_k3]
  rfl
theorem rs_c3 {X : Nat → Nat → Int32} {Y : Nat → Nat → Int64} {n r : Nat} {c : Nat} {f : Nat → Int32} (h : c < n) : (HH X Y n r).set (cu c + 3) (.inl (0, 24, .inl f)) = HH (wa X (cu c + 3) f) Y n r := by
  rw [← HH_set (cu_lt h).2.2.2.1, cu_k3]
theorem ra_c4 {X : Nat → Nat → Int32} {Y : Nat → Nat → Int64} {n r : Nat} {c : Nat} (h : c < n) : ww_ra2 (HH X Y n r)[cu c + 4]? = some (24, X (cu c + 4)) := by
  rw [HH_get (cu_lt h).2.2.2.2.1, cu_k4]
  rfl
theorem rs_c4 {X : Nat → Nat → Int32} {Y : Nat → Nat → Int64} {n r : Nat} {c : Nat} {f : Nat → Int32} (h : c < n) : (HH X Y n r).set (cu c + 4) (.inl (2, 24, .inl f)) = HH (wa X (cu c + 4) f) Y n r := by
  rw [← HH_set (cu_lt h).2.2.2.2.1, cu_k4]
theorem ra_c5 {X : Nat → Nat → Int32} {Y : Nat → Nat → Int64} {n r : Nat} {c : Nat} (h : c < n) : ww_ra0 (HH X Y n r)[cu c + 5]? = some (6, X (cu c + 5)) := by
  rw [HH_get (cu_lt h).2.2.2.2.2, cu_k5]
  rfl
theorem rs_c5 {X : Nat → Nat → Int32} {Y : Nat → Nat → Int64} {n r : Nat} {c : Nat} {f : Nat → Int32} (h : c < n) : (HH X Y n r).set (cu c + 5) (.inl (0, 6, .inl f)) = HH (wa X (cu c + 5) f) Y n r := by
  rw [← HH_set (cu_lt h).2.2.2.2.2, cu_k5]
/-- a run has one end: what holds of it may be asked of any -/
theorem ww_V_ex {M : Nat} {As : List Value} {h : List ww_E} {P : ww_R → Prop} (e : ww_V M As h P) : ∃ v, P v ∧ ∀ Q, ww_V M As h Q = Q v := by
  obtain ⟨f, v, h1, h2⟩ := e
  refine ⟨v, h2, fun Q => propext ⟨?_, fun hq => ⟨f, v, h1, hq⟩⟩⟩
  rintro ⟨f', v', h3, h4⟩
  have e1 := ww_run_le (Nat.le_max_left f f') h1
  have e2 := ww_run_le (Nat.le_max_right f f') h3
  rw [e1] at e2
  cases e2
  exact h4
theorem ww_thr_no {M pc e : Nat} {h : List ww_E} (h1 : (ww_hh M).isEmpty = true) (h2 : M < 127) : ww_thr M pc e h = some (.inr e, h) := if_pos ⟨h1, h2⟩
theorem ww_thr_yes {M pc e : Nat} {h : List ww_E} {v : Int} (h1 : (ww_hh M).isEmpty = false) (h2 : ww_hd M pc e = some v) : ww_thr M pc e h = some (.inl (some (.int (Int32.ofInt v))), h) := by
  unfold ww_thr
  rw [h1, h2]
  rfl
theorem nb_e {x : Int32} : vp_nar .boolean x = x &&& 1 := rfl
