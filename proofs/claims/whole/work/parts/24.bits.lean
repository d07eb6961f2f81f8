/-! small numbers, truths and bits (the first rows: kit/laws/BITS, family 'Int32 by its bits') -/
def bt (x : Int32) (i : Nat) : Bool := x.toBitVec.getLsbD i
theorem b_ext {x y : Int32} (h : ∀ i, i < 32 → bt x i = bt y i) : x = y := Int32.toBitVec_inj.mp (BitVec.eq_of_getLsbD_eq (fun i hi => h i hi))
theorem b_or (x y : Int32) (i : Nat) : bt (x ||| y) i = (bt x i || bt y i) := by unfold bt; rw [Int32.toBitVec_or, BitVec.getLsbD_or]
theorem b_and (x y : Int32) (i : Nat) : bt (x &&& y) i = (bt x i && bt y i) := by unfold bt; rw [Int32.toBitVec_and, BitVec.getLsbD_and]
theorem b_xor (x y : Int32) (i : Nat) : bt (x ^^^ y) i = (bt x i ^^ bt y i) := by unfold bt; rw [Int32.toBitVec_xor, BitVec.getLsbD_xor]
theorem b_big {x : Int32} {i : Nat} (h : 32 ≤ i) : bt x i = false := BitVec.getLsbD_of_ge _ _ h
theorem b_m1 : ∀ i, i < 32 → bt (-1) i = true := by decide +kernel
theorem b_0 (i : Nat) : bt 0 i = false := BitVec.getLsbD_zero
theorem s_l : ∀ n, n < 32 → ((nI n &&& 31).toBitVec.smod 32).toNat = n := by decide +kernel
theorem s_u : ∀ n, n < 32 → (((nI n).toUInt32 &&& Int32.toUInt32 31).toBitVec % 32).toNat = n := by decide +kernel
theorem b_shl (n : Nat) (hn : n < 32) (x : Int32) {i : Nat} (hi : i < 32) : bt (x <<< (nI n &&& 31)) i = (decide (n ≤ i) && bt x (i - n)) := by
  unfold bt
  rw [Int32.toBitVec_shiftLeft]
  show (x.toBitVec <<< ((nI n &&& 31).toBitVec.smod 32).toNat).getLsbD i = _
  rw [s_l n hn, BitVec.getLsbD_shiftLeft]
  rcases Nat.lt_or_ge i n with h | h
  · simp [h, Nat.not_le.mpr h]
  · simp [hi, h, Nat.not_lt.mpr h]
theorem b_ushr (n : Nat) (hn : n < 32) (x : Int32) (i : Nat) : bt ((x.toUInt32 >>> ((nI n).toUInt32 &&& Int32.toUInt32 31)).toInt32) i = bt x (n + i) := by
  show (x.toUInt32 >>> ((nI n).toUInt32 &&& Int32.toUInt32 31)).toBitVec.getLsbD i = x.toUInt32.toBitVec.getLsbD (n + i)
  rw [UInt32.toBitVec_shiftRight]
  show (x.toUInt32.toBitVec >>> (((nI n).toUInt32 &&& Int32.toUInt32 31).toBitVec % 32).toNat).getLsbD i = _
  rw [s_u n hn, BitVec.getLsbD_ushiftRight]
theorem b_sshr (n : Nat) (hn : n < 32) (x : Int32) {i : Nat} (hi : i < 32) : bt (x >>> (nI n &&& 31)) i = if n + i < 32 then bt x (n + i) else bt x 31 := by
  unfold bt
  rw [Int32.toBitVec_shiftRight]
  show (x.toBitVec.sshiftRight ((nI n &&& 31).toBitVec.smod 32).toNat).getLsbD i = _
  rw [s_l n hn, BitVec.getLsbD_sshiftRight, BitVec.msb_eq_getLsbD_last]
  simp [hi]
def b2 (p : Bool) : Int32 := if p = true then nI 1 else nI 0
theorem b2_t : b2 true = nI 1 := rfl
theorem b2_f : b2 false = nI 0 := rfl
theorem n_z {a : Nat} (h : a < 2 ^ 31) : (nI a = 0) = (a = 0) := by
  rw [← nI_0]; exact propext (nI_eq h (by decide))
theorem n_lt0 {a : Nat} (h : a < 2 ^ 31) : (nI a < 0) = False := eq_false (nI_pos h)
theorem n_0le {a : Nat} (h : a < 2 ^ 31) : (0 ≤ nI a) = True := eq_true (nI_pos' h)
theorem n_0lt {a : Nat} (h : a < 2 ^ 31) : (0 < nI a) = (0 < a) := by
  rw [← nI_0]; exact propext (nI_ltI (by decide) h)
theorem n_le0 {a : Nat} (h : a < 2 ^ 31) : (nI a ≤ 0) = (a = 0) := by
  rw [← nI_0]; refine propext ((nI_leI h (by decide)).trans ?_); omega
theorem n_m1 {a : Nat} (h : a < 2 ^ 31) : (nI a = -1) = False := by
  refine eq_false (fun e => ?_)
  have h1 := nI_toInt h
  rw [e] at h1
  have h2 : (-1 : Int32).toInt = -1 := by decide
  omega
theorem n_m1' {a : Nat} (h : a < 2 ^ 31) : (-1 = nI a) = False := by
  exact eq_false (fun e => (n_m1 h).mp e.symm)
theorem n_m1m1 : ((-1 : Int32) = -1) = True := eq_self _
theorem n_lm1 {a : Nat} (h : a < 2 ^ 31) : (nI a < -1) = False := by
  refine eq_false (fun e => ?_)
  rw [Int32.lt_iff_toInt_lt, nI_toInt h] at e
  have h2 : (-1 : Int32).toInt = -1 := by decide
  omega
theorem n_eq {a b : Nat} (ha : a < 2 ^ 31) (hb : b < 2 ^ 31) : (nI a = nI b) = (a = b) := propext (nI_eq ha hb)
theorem n_le {a b : Nat} (ha : a < 2 ^ 31) (hb : b < 2 ^ 31) : (nI a ≤ nI b) = (a ≤ b) := propext (nI_leI ha hb)
theorem n_lt {a b : Nat} (ha : a < 2 ^ 31) (hb : b < 2 ^ 31) : (nI a < nI b) = (a < b) := propext (nI_ltI ha hb)
theorem n_11 : (nI 1 = 1) = True := eq_true rfl
theorem n_01 : (nI 0 = 1) = False := by decide
theorem n_a1 : nI 1 &&& 1 = nI 1 := by decide
theorem n_a0 : nI 0 &&& 1 = nI 0 := by decide
theorem n_sub1 {a : Nat} : nI (a + 1) - nI 1 = nI a := by rw [pk_sub (by omega)]; rfl
theorem n_cl {n : Nat} (h : n < 2 ^ 31) : (nI n).toNatClampNeg = n := nI_clamp h
theorem le_F {a b : Nat} (h : b < a) : (a ≤ b) = False := eq_false (by omega)
theorem le_T {a b : Nat} (h : a ≤ b) : (a ≤ b) = True := eq_true h
theorem lt_F {a b : Nat} (h : b ≤ a) : (a < b) = False := eq_false (by omega)
theorem lt_T {a b : Nat} (h : a < b) : (a < b) = True := eq_true h
theorem eq_F {a b : Nat} (h : a ≠ b) : (a = b) = False := eq_false h
theorem eq_T {a b : Nat} (h : a = b) : (a = b) = True := eq_true h
theorem b2_z {p : Bool} : (b2 p = 0) = (p = false) := by cases p <;> simp [b2, nI_0] <;> decide
theorem b2_1 {p : Bool} : (b2 p = nI 1) = (p = true) := by cases p <;> simp [b2] <;> decide
theorem b2_v {p : Bool} : (b2 p = 0 ∨ b2 p = 1) = True := by cases p <;> simp [b2] <;> decide
theorem b2_a {p : Bool} : b2 p &&& 1 = b2 p := by cases p <;> decide
theorem b2_e {p q : Bool} : (b2 p = b2 q) = (p = q) := by cases p <;> cases q <;> simp [b2] <;> decide
theorem b2_d {c : Prop} [Decidable c] {Q : Value → Prop} : (if c then Q (.int (nI 1)) else Q (.int (nI 0))) = Q (.int (b2 (decide c))) := by
  by_cases h : c <;> simp [h, b2]
/-- one bit, as the class asks for it -/
theorem hs_e {s : Int32} {j : Nat} (hj : j < 32) : (((s.toUInt32 >>> ((nI j).toUInt32 &&& Int32.toUInt32 31)).toInt32 &&& nI 1) = nI 1) = (bt s j = true) := by
  have key : ∀ i, i < 32 → bt ((s.toUInt32 >>> ((nI j).toUInt32 &&& Int32.toUInt32 31)).toInt32 &&& nI 1) i = (decide (i = 0) && bt s j) := by
    intro i hi
    rw [b_and, b_ushr j hj, (by decide +kernel : ∀ i, i < 32 → bt (nI 1) i = decide (i = 0)) i hi]
    by_cases h0 : i = 0
    · subst h0; simp
    · simp [h0]
  apply propext
  constructor
  · intro h
    have h2 := key 0 (by decide)
    rw [h] at h2
    simpa using h2.symm.trans (by decide : bt (nI 1) 0 = true)
  · intro h
    apply b_ext
    intro i hi
    rw [key i hi, h, (by decide +kernel : ∀ i, i < 32 → bt (nI 1) i = decide (i = 0)) i hi]
    simp
/-- the one bit of place j -/
def ob (j : Nat) : Int32 := nI 1 <<< (nI j &&& 31)
theorem ob_e {j : Nat} : nI 1 <<< (nI j &&& 31) = ob j := rfl
theorem b_ob {j : Nat} (hj : j < 32) (i : Nat) : bt (ob j) i = decide (i = j) := by
  rcases Nat.lt_or_ge i 32 with hi | hi
  · unfold ob
    rw [b_shl j hj _ hi]
    by_cases h1 : j ≤ i
    · rw [(by decide +kernel : ∀ i, i < 32 → bt (nI 1) i = decide (i = 0)) (i - j) (by omega)]
      by_cases h2 : i = j
      · subst h2; simp
      · have h3 : ¬ i - j = 0 := by omega
        simp [h2, h3]
    · have h2 : ¬ i = j := by omega
      simp [h1, h2]
  · rw [b_big hi]
    have h2 : ¬ i = j := by omega
    simp [h2]
theorem b_not {s : Int32} {i : Nat} (hi : i < 32) : bt (s ^^^ (-1)) i = !bt s i := by
  rw [b_xor, b_m1 i hi]; simp
/-- a set with one place in or out -/
def wt (s : Int32) (j : Nat) (p : Bool) : Int32 := if p = true then s ||| ob j else s &&& (ob j ^^^ (-1))
theorem b_wt {s : Int32} {j : Nat} {p : Bool} (hj : j < 32) (i : Nat) : bt (wt s j p) i = if i = j then p else bt s i := by
  rcases Nat.lt_or_ge i 32 with hi | hi
  · unfold wt
    cases p
    · simp only [Bool.false_eq_true, if_false, b_and, b_not hi, b_ob hj]
      by_cases h : i = j <;> simp [h]
    · simp only [if_true, b_or, b_ob hj]
      by_cases h : i = j <;> simp [h]
  · have h2 : ¬ i = j := by omega
    rw [b_big hi, if_neg h2, b_big hi]
theorem b_inj {x y : Int32} (h : ∀ i, i < 32 → bt x i = bt y i) : x = y := b_ext h
theorem b_z {x : Int32} : (x = 0) = (∀ i, i < 32 → bt x i = false) := by
  apply propext
  constructor
  · intro h i _; rw [h, b_0]
  · intro h; apply b_ext; intro i hi; rw [h i hi, b_0]
theorem ts_nf {x : Bool} (h : ¬ x = false) : x = true := by cases x <;> first | rfl | exact absurd rfl h
theorem ts_nt {x : Bool} (h : ¬ x = true) : x = false := by cases x <;> first | rfl | exact absurd rfl h
theorem b_0n (i : Nat) : bt (nI 0) i = false := by rw [nI_0]; exact b_0 i
theorem b2_o {p : Bool} : (b2 p = 1) = (p = true) := by cases p <;> simp [b2] <;> decide
theorem b2_t0 : b2 true = nI 1 := rfl
theorem b2_f0 : b2 false = nI 0 := rfl
