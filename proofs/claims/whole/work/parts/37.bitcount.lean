/-! Integer.bitCount: the number of bits that are set -/
theorem bn_and (a b : Nat) : nI a &&& nI b = nI (a &&& b) := by
  apply Int32.toBitVec_inj.1
  show BitVec.ofNat 32 a &&& BitVec.ofNat 32 b = BitVec.ofNat 32 (a &&& b)
  apply BitVec.eq_of_getLsbD_eq
  intro i hi
  simp [hi]
theorem bn_cnt : ∀ j : Nat, j < 32 → ((nI j).toUInt32 &&& Int32.toUInt32 31).toNat % 32 = j := by decide +kernel
theorem bn_ush {m j : Nat} (hm : m < 2 ^ 32) (hj : j < 32) : ((nI m).toUInt32 >>> ((nI j).toUInt32 &&& Int32.toUInt32 31)).toInt32 = nI (m / 2 ^ j) := by
  apply Int32.toBitVec_inj.1
  show ((nI m).toUInt32 >>> ((nI j).toUInt32 &&& Int32.toUInt32 31)).toBitVec = BitVec.ofNat 32 (m / 2 ^ j)
  apply BitVec.eq_of_toNat_eq
  show ((nI m).toUInt32 >>> ((nI j).toUInt32 &&& Int32.toUInt32 31)).toNat = _
  rw [UInt32.toNat_shiftRight, bn_cnt j hj, Nat.shiftRight_eq_div_pow, BitVec.toNat_ofNat]
  have h1 : (nI m).toUInt32.toNat = m := by
    show (BitVec.ofNat 32 m).toNat = m
    rw [BitVec.toNat_ofNat, Nat.mod_eq_of_lt hm]
  rw [h1, Nat.mod_eq_of_lt (Nat.lt_of_le_of_lt (Nat.div_le_self _ _) hm)]
theorem bn_sub {a b : Nat} (h : b ≤ a) : nI a - nI b = nI (a - b) := pk_sub h
theorem and_256 {a b c d : Nat} (ha : a < 256) (hc : c < 256) : (a + 256 * b) &&& (c + 256 * d) = (a &&& c) + 256 * (b &&& d) := by
  have h1 := Nat.and_mod_two_pow (a := a + 256 * b) (b := c + 256 * d) (n := 8)
  have h2 := Nat.and_div_two_pow (a := a + 256 * b) (b := c + 256 * d) (n := 8)
  have e1 : (a + 256 * b) % 2 ^ 8 = a := by omega
  have e2 : (c + 256 * d) % 2 ^ 8 = c := by omega
  have e3 : (a + 256 * b) / 2 ^ 8 = b := by omega
  have e4 : (c + 256 * d) / 2 ^ 8 = d := by omega
  rw [e1, e2] at h1
  rw [e3, e4] at h2
  have h3 := Nat.div_add_mod ((a + 256 * b) &&& (c + 256 * d)) (2 ^ 8)
  rw [h1, h2] at h3
  omega
theorem and_4 {a0 a1 a2 a3 c0 c1 c2 c3 : Nat} (h0 : a0 < 256) (h1 : a1 < 256) (h2 : a2 < 256) (k0 : c0 < 256) (k1 : c1 < 256) (k2 : c2 < 256) : (a0 + 256 * (a1 + 256 * (a2 + 256 * a3))) &&& (c0 + 256 * (c1 + 256 * (c2 + 256 * c3))) = (a0 &&& c0) + 256 * ((a1 &&& c1) + 256 * ((a2 &&& c2) + 256 * (a3 &&& c3))) := by
  rw [and_256 h0 k0, and_256 h1 k1, and_256 h2 k2]
theorem and_hi {u v c : Nat} (hu : u < 128) (hc : c < 128) : (u + 128 * v) &&& c = u &&& c := by
  have h1 : ((u + 128 * v) &&& c) < 2 ^ 7 := Nat.lt_of_le_of_lt Nat.and_le_right hc
  have h2 := Nat.and_mod_two_pow (a := u + 128 * v) (b := c) (n := 7)
  rw [Nat.mod_eq_of_lt h1, Nat.mod_eq_of_lt (show c < 2 ^ 7 from hc), show (u + 128 * v) % 2 ^ 7 = u from by omega] at h2
  exact h2
theorem and_hi6 {u v c : Nat} (hu : u < 64) (hc : c < 64) : (u + 64 * v) &&& c = u &&& c := by
  have h1 : ((u + 64 * v) &&& c) < 2 ^ 6 := Nat.lt_of_le_of_lt Nat.and_le_right hc
  have h2 := Nat.and_mod_two_pow (a := u + 64 * v) (b := c) (n := 6)
  rw [Nat.mod_eq_of_lt h1, Nat.mod_eq_of_lt (show c < 2 ^ 6 from hc), show (u + 64 * v) % 2 ^ 6 = u from by omega] at h2
  exact h2
theorem and_15 (u : Nat) : u &&& 15 = u % 16 := Nat.and_two_pow_sub_one_eq_mod u 4
def y1 (a : Nat) : Nat := a - (a / 2 &&& 85)
def y2 (a : Nat) : Nat := (y1 a &&& 51) + (y1 a / 4 &&& 51)
def y3 (a : Nat) : Nat := (y2 a + y2 a / 16) % 16
def pc8 (a : Nat) : Nat := fb_ct (fun k => a.testBit k) 8
theorem y_ok : ∀ a, a < 256 → (a / 2 &&& 85) ≤ a ∧ y2 a ≤ 68 ∧ y2 a / 16 ≤ 4 ∧ y2 a % 16 ≤ 4 ∧ y3 a = pc8 a ∧ pc8 a ≤ 8 := by decide +kernel
theorem y1_lt {a : Nat} (h : a < 256) : y1 a < 256 := by unfold y1; omega
theorem four_lt {a b c d : Nat} (ha : a < 256) (hb : b < 256) (hc : c < 256) (hd : d < 256) : a + 256 * (b + 256 * (c + 256 * d)) < 2 ^ 32 := by omega
theorem four_lt31 {a b c d : Nat} (ha : a ≤ 68) (hb : b ≤ 68) (hc : c ≤ 68) (hd : d ≤ 68) : a + 256 * (b + 256 * (c + 256 * d)) < 2 ^ 31 := by omega
theorem four_le {a b c d e f g h : Nat} (ha : e ≤ a) (hb : f ≤ b) (hc : g ≤ c) (hd : h ≤ d) : e + 256 * (f + 256 * (g + 256 * h)) ≤ a + 256 * (b + 256 * (c + 256 * d)) := by omega
theorem fin_sum {a b c d x3 x4 x5 : Nat} (ha : a ≤ 8) (hb : b ≤ 8) (hc : c ≤ 8) (hd : d ≤ 8) (h3 : x3 = a + 256 * (b + 256 * (c + 256 * d))) (h4 : x4 = x3 + x3 / 256) (h5 : x5 = x4 + x4 / 65536) : x3 < 2 ^ 31 ∧ x4 < 2 ^ 31 ∧ x5 % 64 = a + b + c + d := by
  have e1 : x3 / 256 = b + 256 * (c + 256 * d) := by omega
  have e2 : x4 = (a + b) + 256 * ((b + c) + 256 * ((c + d) + 256 * d)) := by omega
  have e3 : x4 / 65536 = (c + d) + 256 * d := by omega
  have e4 : x5 = (a + b + c + d) + 256 * ((b + c) + 256 * ((c + d) + 256 * d) + d) := by omega
  refine ⟨by omega, by omega, by omega⟩
theorem pc_32 {a b c d : Nat} (ha : a < 256) (hb : b < 256) (hc : c < 256) (hd : d < 256) {Q : Nat → Prop} {x1 x2 x3 x4 x5 m : Nat} (hm : m = a + 256 * (b + 256 * (c + 256 * d)))
    (e1 : x1 = m - (m / 2 &&& 1431655765)) (e2 : x2 = (x1 &&& 858993459) + (x1 / 4 &&& 858993459)) (e3 : x3 = ((x2 + x2 / 16) &&& 252645135)) (e4 : x4 = x3 + x3 / 256) (e5 : x5 = x4 + x4 / 65536) : x5 % 64 = pc8 a + pc8 b + pc8 c + pc8 d ∧ (m / 2 &&& 1431655765) ≤ m ∧ x1 < 2 ^ 32 ∧ x2 < 2 ^ 31 ∧ x3 < 2 ^ 31 ∧ x4 < 2 ^ 31 := by
  obtain ⟨a1, a2, a3, a4, a5, a6⟩ := y_ok a ha
  obtain ⟨b1, b2, b3, b4, b5, b6⟩ := y_ok b hb
  obtain ⟨c1, c2, c3, c4, c5, c6⟩ := y_ok c hc
  obtain ⟨d1, d2, d3, d4, d5, d6⟩ := y_ok d hd
  have s1 : m / 2 = (a / 2 + 128 * (b % 2)) + 256 * ((b / 2 + 128 * (c % 2)) + 256 * ((c / 2 + 128 * (d % 2)) + 256 * (d / 2))) := by omega
  have s2 : (m / 2 &&& 1431655765) = (a / 2 &&& 85) + 256 * ((b / 2 &&& 85) + 256 * ((c / 2 &&& 85) + 256 * (d / 2 &&& 85))) := by
    rw [s1, show 1431655765 = 85 + 256 * (85 + 256 * (85 + 256 * 85)) from rfl, and_4 (by omega) (by omega) (by omega) (by decide) (by decide) (by decide), and_hi (by omega) (by decide), and_hi (by omega) (by decide), and_hi (by omega) (by decide)]
  have t1 : x1 = y1 a + 256 * (y1 b + 256 * (y1 c + 256 * y1 d)) := by
    rw [e1, s2, hm]; unfold y1; omega
  have ya := y1_lt ha
  have yb := y1_lt hb
  have yc := y1_lt hc
  have yd := y1_lt hd
  have s3 : x1 / 4 = (y1 a / 4 + 64 * (y1 b % 4)) + 256 * ((y1 b / 4 + 64 * (y1 c % 4)) + 256 * ((y1 c / 4 + 64 * (y1 d % 4)) + 256 * (y1 d / 4))) := by omega
  have t2 : x2 = y2 a + 256 * (y2 b + 256 * (y2 c + 256 * y2 d)) := by
    rw [e2, s3, t1, show 858993459 = 51 + 256 * (51 + 256 * (51 + 256 * 51)) from rfl, and_4 (by omega) (by omega) (by omega) (by decide) (by decide) (by decide), and_4 (by omega) (by omega) (by omega) (by decide) (by decide) (by decide), and_hi6 (by omega) (by decide), and_hi6 (by omega) (by decide), and_hi6 (by omega) (by decide)]
    unfold y2; omega
  have s4 : x2 + x2 / 16 = (y2 a + y2 a / 16 + 16 * (y2 b % 16)) + 256 * ((y2 b + y2 b / 16 + 16 * (y2 c % 16)) + 256 * ((y2 c + y2 c / 16 + 16 * (y2 d % 16)) + 256 * (y2 d + y2 d / 16))) := by omega
  have t3 : x3 = y3 a + 256 * (y3 b + 256 * (y3 c + 256 * y3 d)) := by
    rw [e3, s4, show 252645135 = 15 + 256 * (15 + 256 * (15 + 256 * 15)) from rfl, and_4 (by omega) (by omega) (by omega) (by decide) (by decide) (by decide), and_15, and_15, and_15, and_15, Nat.add_mul_mod_self_left, Nat.add_mul_mod_self_left, Nat.add_mul_mod_self_left]
    rfl
  rw [a5, b5, c5, d5] at t3
  have w1 := four_lt ya yb yc yd
  have w2 := four_lt31 a2 b2 c2 d2
  obtain ⟨w3, w4, w5⟩ := fin_sum a6 b6 c6 d6 t3 e4 e5
  refine ⟨w5, ?_, by rw [t1]; exact w1, by rw [t2]; exact w2, w3, w4⟩
  rw [s2, hm]; exact four_le a1 b1 c1 d1
theorem bt_nI (m i : Nat) (h : i < 32) : bt (nI m) i = m.testBit i := by
  show (BitVec.ofNat 32 m).getLsbD i = m.testBit i
  rw [BitVec.getLsbD_ofNat]
  simp [h]
theorem ct_bytes {a b c d m : Nat} (ha : a < 256) (hb : b < 256) (hc : c < 256) (hd : d < 256) (hm : m = a + 256 * (b + 256 * (c + 256 * d))) : fb_ct (bt (nI m)) 32 = pc8 a + pc8 b + pc8 c + pc8 d := by
  have e0 : fb_ct (bt (nI m)) 32 = fb_ct (bt (nI m)) 8 + fb_ct (fun k => bt (nI m) (8 + k)) 24 := fb_ct_split _ 8 24
  have e1 : fb_ct (fun k => bt (nI m) (8 + k)) 24 = fb_ct (fun k => bt (nI m) (8 + k)) 8 + fb_ct (fun k => bt (nI m) (8 + (8 + k))) 16 := fb_ct_split _ 8 16
  have e2 : fb_ct (fun k => bt (nI m) (8 + (8 + k))) 16 = fb_ct (fun k => bt (nI m) (8 + (8 + k))) 8 + fb_ct (fun k => bt (nI m) (8 + (8 + (8 + k)))) 8 := fb_ct_split _ 8 8
  have key : ∀ (s v : Nat), s ≤ 24 → v = m / 2 ^ s % 256 → ∀ k, k < 8 → bt (nI m) (s + k) = v.testBit k := by
    intro s v hs hv k hk
    rw [bt_nI _ _ (by omega), hv, show (256 : Nat) = 2 ^ 8 from rfl, Nat.testBit_mod_two_pow, Nat.testBit_div_two_pow]
    simp [hk, Nat.add_comm]
  have f0 : fb_ct (bt (nI m)) 8 = pc8 a := fb_ct_cong (fun k hk => by have h := key 0 a (by decide) (by omega) k hk; rwa [Nat.zero_add] at h)
  have f1 : fb_ct (fun k => bt (nI m) (8 + k)) 8 = pc8 b := fb_ct_cong (fun k hk => key 8 b (by decide) (by omega) k hk)
  have f2 : fb_ct (fun k => bt (nI m) (8 + (8 + k))) 8 = pc8 c := fb_ct_cong (fun k hk => by have h := key 16 c (by decide) (by omega) k hk; rw [← h]; congr 1; omega)
  have f3 : fb_ct (fun k => bt (nI m) (8 + (8 + (8 + k)))) 8 = pc8 d := fb_ct_cong (fun k hk => by have h := key 24 d (by decide) (by omega) k hk; rw [← h]; congr 1; omega)
  omega
theorem v_104 {x : Int32} {h : List ww_E} {Q : ww_R → Prop} : ww_V 104 [.int x] h Q = Q (.inl (some (.int (nI (fb_ct (bt x) 32)))), h) := by
  obtain ⟨m, hm, rfl⟩ : ∃ m, m < 2 ^ 32 ∧ x = nI m := ⟨x.toBitVec.toNat, x.toBitVec.isLt, Int32.toBitVec_inj.mp (by show _ = BitVec.ofNat 32 _; simp)⟩
  have hm4 : m = m % 256 + 256 * (m / 256 % 256 + 256 * (m / 65536 % 256 + 256 * (m / 16777216 % 256))) := by omega
  obtain ⟨k1, k2, k3, k4, k5, k6⟩ := pc_32 (a := m % 256) (b := m / 256 % 256) (c := m / 65536 % 256) (d := m / 16777216 % 256) (Q := fun _ => True) (by omega) (by omega) (by omega) (by omega) hm4 rfl rfl rfl rfl rfl
  rw [ct_bytes (by omega) (by omega) (by omega) (by omega) hm4, ← k1]
  rw [e_104]
  simp (disch := first | omega | assumption) only [w_104_0, w_104_1, w_104_2, w_104_3, w_104_4, w_104_7, w_104_8, w_104_9, w_104_10, w_104_11, w_104_14, w_104_15, w_104_16, w_104_17, w_104_18, w_104_21, w_104_22, w_104_23, w_104_24, w_104_25, w_104_26, w_104_27, w_104_28, w_104_29, w_104_32, w_104_33, w_104_34, w_104_35, w_104_36, w_104_38, w_104_39, w_104_40, w_104_41, w_104_42, w_104_43, w_104_45, w_104_46, w_104_47, w_104_48, w_104_49, w_104_51, w_104_52, ww_ob_some, ww_ob_none, ww_kc_some, ww_kc_none, ww_kc_thr, wx_iadd, wx_isub, wx_imul, wx_iand, wx_ior, wx_ixor, wx_ishl, wx_ishr, wx_iushr, wx_ladd, wx_lsub, wx_lmul, wx_land, wx_lor, wx_lshl, wx_lshr, wx_lushr, wx_i2l, wx_lcmp, wx_dupi, wx_dupr, wx_dup2, wx_iconst, wx_lconst, wx_goto, wx_idiv, wx_ldiv, wx_istore, wx_astore, wx_lstore, wx_if_eq, wx_icmp_eq, wx_if_ne, wx_icmp_ne, wx_if_lt, wx_icmp_lt, wx_if_ge, wx_icmp_ge, wx_if_gt, wx_icmp_gt, wx_if_le, wx_icmp_le, wx_ireturn, wx_lreturn, wx_areturn, wx_return, wx_freturn, wx_throw, ww_s1_0, ww_s1_1, ww_s2_0, ww_s2_1, ww_k1_i, ww_k1_r, ww_k1_l, ww_k1_u, s1_2, s1_3, s1_4, s1_5, s1_6, s1_7, s1_8, s1_9, s1_10, s1_11, s2_2, s2_3, s2_4, s2_5, s2_6, s2_7, s2_8, s2_9, s2_10, cat_i, cat_l, cat_r, cat_u, beq_self_eq_true, Nat.reduceBEq, dT, dF, List.length_cons, List.length_nil, List.map_cons, List.map_nil, List.sum_cons, List.sum_nil, Nat.reduceAdd, Nat.reduceMul, Nat.reduceDiv, Nat.reduceMod, Nat.reduceLT, Nat.reduceLeDiff, Nat.reduceEqDiff, Int.reduceToNat, Nat.zero_add, Nat.add_zero, if_true, if_false, true_and, and_true, not_true_eq_false, not_false_eq_true, or_false, false_or, eq_self, and_self, ne_eq, le_refl_T, zero_le_T, zero_lt_T, true_or, or_true, false_and, and_false, implies_true, ↓reduceIte, oi_m1, oi_0, oi_1, oi_2, oi_3, oi_4, oi_6, oi_8, oi_10, oi_12, oi_16, oi_24, oi_28, oi_31, oi_32, oi_40, oi_50, oi_60, oi_63, oi_100, oi_240, oi_400, oi_1000, oi_10000, oi_252645135, oi_858993459, oi_1431655765, ol_m1, ol_0, ol_1, ol_2, ol_30, ol_500, ol_1000, ol_1023, ol_2000, ol_4294967295, rc_0, rc_1, rc_3, rc_7, rc_c, xi_0, xl_0, xr_0, xc_0, xi_1, xl_1, xr_1, xc_1, xi_2, xl_2, xr_2, xc_2, xi_3, xl_3, xr_3, xc_3, xi_4, xl_4, xr_4, xc_4, xi_5, xl_5, xr_5, xc_5, xi_6, xl_6, xr_6, xc_6, xi_7, xl_7, xr_7, xc_7, xi_8, xl_8, xr_8, xc_8, xi_9, xl_9, xr_9, xc_9, xi_10, xl_10, xr_10, xc_10, xi_11, xl_11, xr_11, xc_11, xr_s, xg_0_0, xg_0_1, xg_0_2, xg_0_3, xp_0_3, xg_0_4, xp_0_4, xg_1_0, xg_1_1, xp_1_1, xg_1_2, xp_1_2, xg_1_3, xp_1_3, xg_1_4, xp_1_4, xg_1_5, xp_1_5, xg_1_6, xp_1_6, xg_3_0, xg_3_1, xg_3_2, xp_3_2, xg_7_0, xp_7_0, xg_7_1, xp_7_1, xg_7_2, xp_7_2, xg_7_3, xp_7_3, xg_7_4, xg_7_5, xg_7_6, xg_7_7, xg_7_8, xg_7_9, xg_7_10, xg_7_11, xg_7_12, xg_7_13, xg_7_14, xg_7_15, xp_7_15, xg_7_16, xg_7_17, xg_7_18, xg_7_19, xg_7_20, xg_7_21, xp_7_21, xg_7_22, xg_7_23, xg_7_24, xg_7_25, xg_7_26, xg_7_27, xg_7_28, xg_c_0, xp_c_0, xg_c_1, xg_c_2, xg_c_3, xg_c_4, xg_c_5, xp_c_5, xg_c_6, xg_c_7, xp_c_7, xg_c_8, xp_c_8, xg_c_9, xp_c_9, xa_2, xs_2, xa_4, xs_4, xa_5, xs_5, xa_8, xs_8, xa_9, xs_9, xa_10, xs_10, xa_11, xs_11, xa_12, xs_12, xa_13, xs_13, xa_14, xs_14, xa_15, xs_15, xa_16, xs_16, xa_17, xs_17, xa_18, xs_18, xa_19, xs_19, xa_20, xs_20, xa_21, xs_21, xa_22, xs_22, xa_23, xs_23, xa_24, xs_24, xa_25, xs_25, xa_26, xs_26, xa_27, xs_27, xa_28, xs_28, xa_29, xs_29, xa_30, xs_30, xa_31, xs_31, xa_c1, xs_c1, xa_c2, xs_c2, xa_c3, xs_c3, xa_c4, xs_c4, xa_c5, xs_c5, xa_6]
  rw [bn_ush hm (by decide), bn_and, bn_sub k2]
  rw [bn_ush k3 (by decide), bn_and, bn_and, nI_add]
  rw [bn_ush (Nat.lt_trans k4 (by decide)) (by decide), nI_add, bn_and]
  rw [bn_ush (Nat.lt_trans k5 (by decide)) (by decide), nI_add]
  rw [bn_ush (Nat.lt_trans k6 (by decide)) (by decide), nI_add, bn_and, Nat.and_two_pow_sub_one_eq_mod _ 6]
