/-! bill -/
def PrO (D S Z : Nat → Nat) (F : Nat → Bool) (m t q : Nat) (B U : Nat → Nat) (α β : Nat) (o : Option Nat) : Prop :=
  (∀ v, o = some v → v < 2 ^ 40 ∧ β ≤ t) ∧
  (∀ (X : Nat → Nat → Int32) (Y : Nat → Nat → Int64) (n c : Nat) (Q : ww_R → Prop), c < n → RRD X c t m D S Z F → RTA X Y q B U → Q (.inl (some (.long (encL o))), HH X Y n n) → ww_V 10 [.ref (cu c), .int (nI α), .int (nI β), .ref 3] (HH X Y n n) Q) ∧
  (∀ (X : Nat → Nat → Int32) (Y : Nat → Nat → Int64) (n r c : Nat) (Q : ww_R → Prop), c < 10 → RRD X c t m D S Z F → RTA X Y q B U → Q (.inl (some (.long (encL o))), HH X Y n r) → ww_V 100 [.ref 7, .int (nI c), .int (nI α), .int (nI β)] (HH X Y n r) Q)
theorem price_ex {D S Z : Nat → Nat} {F : Nat → Bool} {m t q : Nat} {B U : Nat → Nat} {α β : Nat} (ht : t ≤ 400) (hα : α ≤ 400) (hβ : β < 2 ^ 31) (hαβ : α < β) (hr : RD m t D S Z F) (hm : m ≤ 24) (hp : PF q B U) : ∃ o, PrO D S Z F m t q B U α β o := by
  by_cases hb : (0 < q → α < B 0) ∨ cv D S Z F α m = none ∨ cv D S Z F β m = none
  · exact ⟨none, fun v hv => (by cases hv), fun X Y n c Q hc h1 h2 k => v_10b hc ht h1 h2 hα hβ hb k, fun X Y n r c Q hc h1 h2 k => v_100b hc ht h1 h2 hα hβ hb k⟩
  · have hb0 : ¬ (0 < q → α < B 0) := fun h => hb (Or.inl h)
    have h0q : 0 < q := by
      rcases Nat.eq_zero_or_pos q with h1 | h1
      · exact absurd (fun h => absurd h (by omega)) hb0
      · exact h1
    have h0b : B 0 ≤ α := by
      rcases Nat.lt_or_ge α (B 0) with h1 | h1
      · exact absurd (fun _ => h1) hb0
      · exact h1
    have hca : ∃ v, cv D S Z F α m = some v := by
      cases h1 : cv D S Z F α m with
      | none => exact absurd (Or.inr (Or.inl h1)) hb
      | some v => exact ⟨v, rfl⟩
    have hcb : ∃ v, cv D S Z F β m = some v := by
      cases h1 : cv D S Z F β m with
      | none => exact absurd (Or.inr (Or.inr h1)) hb
      | some v => exact ⟨v, rfl⟩
    obtain ⟨va, hva⟩ := hca
    obtain ⟨vb, hvb⟩ := hcb
    obtain ⟨m0, a1, a2⟩ := cv_conv hr hva
    obtain ⟨-, b1, b2⟩ := cv_conv hr hvb
    have hβt : β ≤ t := Nat.le_trans b2 (hr (m - 1) (by omega)).1
    obtain ⟨C, hC⟩ : ∃ C : Nat → Nat, ∀ x, C x = (cv D S Z F x m).getD 0 := ⟨_, fun _ => rfl⟩
    have hk : known D S Z F m α β C := by
      intro x hx1 hx2
      obtain ⟨e, e1, e2, e3⟩ := cv_known hr m0 (δ := x) (by omega) (by omega)
      rcases e3 with ⟨-, -, h3⟩ | ⟨-, h3⟩
      · rw [hC, h3]; rfl
      · rw [hC, h3]; rfl
    obtain ⟨K, k1, k2, k3⟩ := K_ex (δ := α + 1) (B := B) q
    have hK : 0 < K := by
      rcases Nat.eq_zero_or_pos K with h2 | h2
      · have := k3 (by omega)
        rw [h2] at this
        omega
      · exact h2
    obtain ⟨h, rfl⟩ : ∃ h, K = h + 1 := ⟨K - 1, by omega⟩
    obtain ⟨G, g1, g2, g3⟩ := K_ex (δ := β) (B := B) q
    have hGK : h + 1 ≤ G := by
      rcases Nat.lt_or_ge G (h + 1) with h2 | h2
      · have h4 := g3 (by omega)
        have h5 := k2 G h2
        omega
      · exact h2
    have hg : gparts q B α β h (G - (h + 1)) := by
      refine ⟨by omega, by have := k2 h (by omega); omega, fun h2 => by have := k3 h2; omega, fun e he => g2 _ (by omega), fun h2 => ?_⟩
      rw [Nat.add_sub_cancel' hGK] at h2 ⊢
      exact g3 h2
    refine ⟨some (tot B U C α β h (G - (h + 1))), fun v hv => ?_, fun X Y n c Q hc h1 h2 k => v_10g hc ht h1 h2 hk hg hαβ (by omega) k, fun X Y n r c Q hc h1 h2 k => v_100g hc ht h1 h2 hk hg hαβ (by omega) k⟩
    cases hv
    refine ⟨?_, hβt⟩
    have s1 := smp_bd hr hm hp hk hg hαβ (by omega) (G - (h + 1)) (Nat.le_refl _)
    obtain ⟨x1, x2, -⟩ := cutp_bd hp.2.2 hg hαβ (G - (h + 1)) (Nat.le_refl _)
    obtain ⟨c1, c2⟩ := C_bd hr hm hk x1 (by omega : cutp B α h (G - (h + 1)) ≤ β) (Nat.le_refl β)
    have h2 := (pp_bd (U (h + (G - (h + 1)))) (d := β - cutp B α h (G - (h + 1))) (v := C β - C (cutp B α h (G - (h + 1)))) (by omega) (by omega)).2.2.2.2.2.2
    have hq := hp.1
    unfold tot
    have h3 : (G - (h + 1)) * 2 ^ 33 ≤ 8 * 2 ^ 33 := Nat.mul_le_mul_right _ (by omega)
    omega
theorem frm_s {D E : Nat → Nat} {k : Nat} : frm D E (k + 1) = E k := rfl
theorem frm_0 {D E : Nat → Nat} : frm D E 0 = D 0 := rfl
theorem v_8 {X : Nat → Nat → Int32} {Y : Nat → Nat → Int64} {n c t m b i : Nat} {D S Z E : Nat → Nat} {F : Nat → Bool} {Q : ww_R → Prop} (hc : c < n) (hr : RRD X c t m D S Z F) (hb : RBL X Y c t m D b E) (hm : 0 < m) (hi : i ≤ b) : ww_V 8 [.ref (cu c), .int (nI i)] (HH X Y n n) Q = Q (.inl (some (.int (nI (frm D E i)))), HH X Y n n) := by
  have b1 := hb.1
  rw [e_8]
  cases i with
  | zero =>
    obtain ⟨x1, -⟩ := hr.2.2.2.2 0 hm
    rw [frm_0]
    simp (disch := omega) only [w_8_0, w_8_1, w_8_4, w_8_5, w_8_8, w_8_9, w_8_10, w_8_13, w_8_14, w_8_17, w_8_18, w_8_19, w_8_20, w_8_21, ww_ob_some, ww_ob_none, ww_kc_some, ww_kc_none, ww_kc_thr, wx_iadd, wx_isub, wx_imul, wx_iand, wx_ior, wx_ixor, wx_ishl, wx_ishr, wx_iushr, wx_ladd, wx_lsub, wx_lmul, wx_land, wx_lor, wx_lshl, wx_lshr, wx_lushr, wx_i2l, wx_lcmp, wx_dupi, wx_dupr, wx_dup2, wx_iconst, wx_lconst, wx_goto, wx_idiv, wx_ldiv, wx_istore, wx_astore, wx_lstore, wx_if_eq, wx_icmp_eq, wx_if_ne, wx_icmp_ne, wx_if_lt, wx_icmp_lt, wx_if_ge, wx_icmp_ge, wx_if_gt, wx_icmp_gt, wx_if_le, wx_icmp_le, wx_ireturn, wx_lreturn, wx_areturn, wx_return, wx_freturn, wx_throw, ww_s1_0, ww_s1_1, ww_s2_0, ww_s2_1, ww_k1_i, ww_k1_r, ww_k1_l, ww_k1_u, s1_2, s1_3, s1_4, s1_5, s1_6, s1_7, s1_8, s1_9, s1_10, s1_11, s2_2, s2_3, s2_4, s2_5, s2_6, s2_7, s2_8, s2_9, s2_10, cat_i, cat_l, cat_r, cat_u, beq_self_eq_true, Nat.reduceBEq, dT, dF, List.length_cons, List.length_nil, List.map_cons, List.map_nil, List.sum_cons, List.sum_nil, Nat.reduceAdd, Nat.reduceMul, Nat.reduceDiv, Nat.reduceMod, Nat.reduceLT, Nat.reduceLeDiff, Nat.reduceEqDiff, Int.reduceToNat, Nat.zero_add, Nat.add_zero, if_true, if_false, true_and, and_true, not_true_eq_false, not_false_eq_true, or_false, false_or, eq_self, and_self, ne_eq, le_refl_T, zero_le_T, zero_lt_T, true_or, or_true, false_and, and_false, implies_true, ↓reduceIte, oi_m1, oi_0, oi_1, oi_2, oi_3, oi_4, oi_6, oi_8, oi_10, oi_12, oi_16, oi_24, oi_28, oi_31, oi_32, oi_40, oi_50, oi_60, oi_63, oi_100, oi_240, oi_400, oi_1000, oi_10000, oi_252645135, oi_858993459, oi_1431655765, ol_m1, ol_0, ol_1, ol_2, ol_30, ol_500, ol_1000, ol_1023, ol_2000, ol_4294967295, rc_0, rc_1, rc_3, rc_7, rc_c, xi_0, xl_0, xr_0, xc_0, xi_1, xl_1, xr_1, xc_1, xi_2, xl_2, xr_2, xc_2, xi_3, xl_3, xr_3, xc_3, xi_4, xl_4, xr_4, xc_4, xi_5, xl_5, xr_5, xc_5, xi_6, xl_6, xr_6, xc_6, xi_7, xl_7, xr_7, xc_7, xi_8, xl_8, xr_8, xc_8, xi_9, xl_9, xr_9, xc_9, xi_10, xl_10, xr_10, xc_10, xi_11, xl_11, xr_11, xc_11, xr_s, xg_0_0, xg_0_1, xg_0_2, xg_0_3, xp_0_3, xg_0_4, xp_0_4, xg_1_0, xg_1_1, xp_1_1, xg_1_2, xp_1_2, xg_1_3, xp_1_3, xg_1_4, xp_1_4, xg_1_5, xp_1_5, xg_1_6, xp_1_6, xg_3_0, xg_3_1, xg_3_2, xp_3_2, xg_7_0, xp_7_0, xg_7_1, xp_7_1, xg_7_2, xp_7_2, xg_7_3, xp_7_3, xg_7_4, xg_7_5, xg_7_6, xg_7_7, xg_7_8, xg_7_9, xg_7_10, xg_7_11, xg_7_12, xg_7_13, xg_7_14, xg_7_15, xp_7_15, xg_7_16, xg_7_17, xg_7_18, xg_7_19, xg_7_20, xg_7_21, xp_7_21, xg_7_22, xg_7_23, xg_7_24, xg_7_25, xg_7_26, xg_7_27, xg_7_28, xg_c_0, xp_c_0, xg_c_1, xg_c_2, xg_c_3, xg_c_4, xg_c_5, xp_c_5, xg_c_6, xg_c_7, xp_c_7, xg_c_8, xp_c_8, xg_c_9, xp_c_9, xa_2, xs_2, xa_4, xs_4, xa_5, xs_5, xa_8, xs_8, xa_9, xs_9, xa_10, xs_10, xa_11, xs_11, xa_12, xs_12, xa_13, xs_13, xa_14, xs_14, xa_15, xs_15, xa_16, xs_16, xa_17, xs_17, xa_18, xs_18, xa_19, xs_19, xa_20, xs_20, xa_21, xs_21, xa_22, xs_22, xa_23, xs_23, xa_24, xs_24, xa_25, xs_25, xa_26, xs_26, xa_27, xs_27, xa_28, xs_28, xa_29, xs_29, xa_30, xs_30, xa_31, xs_31, xa_c1, xs_c1, xa_c2, xs_c2, xa_c3, xs_c3, xa_c4, xs_c4, xa_c5, xs_c5, xa_6, n_eq, n_z, n_lt0, n_0le, n_0lt, n_le0, n_le, n_lt, n_cl, le_F, le_T, lt_F, lt_T, eq_F, eq_T, nI_add, n_sub1, pk_mul, pk_div, wa_s, wa_n, wa_w, upd_e, upl_e, b2_z, b2_a, b2_e, nb_e, n_a1, n_a0, n_11, n_01, n_m1, n_m1', Nat.succ_ne_zero, Nat.add_sub_cancel, b2_1, b2_o, b2_t0, b2_f0, Bool.true_eq_false, Bool.false_eq_true, x1]
  | succ i =>
    obtain ⟨x1, -⟩ := hb.2.2.2.2.1 i (by omega)
    rw [frm_s]
    simp (disch := omega) only [w_8_0, w_8_1, w_8_4, w_8_5, w_8_8, w_8_9, w_8_10, w_8_13, w_8_14, w_8_17, w_8_18, w_8_19, w_8_20, w_8_21, ww_ob_some, ww_ob_none, ww_kc_some, ww_kc_none, ww_kc_thr, wx_iadd, wx_isub, wx_imul, wx_iand, wx_ior, wx_ixor, wx_ishl, wx_ishr, wx_iushr, wx_ladd, wx_lsub, wx_lmul, wx_land, wx_lor, wx_lshl, wx_lshr, wx_lushr, wx_i2l, wx_lcmp, wx_dupi, wx_dupr, wx_dup2, wx_iconst, wx_lconst, wx_goto, wx_idiv, wx_ldiv, wx_istore, wx_astore, wx_lstore, wx_if_eq, wx_icmp_eq, wx_if_ne, wx_icmp_ne, wx_if_lt, wx_icmp_lt, wx_if_ge, wx_icmp_ge, wx_if_gt, wx_icmp_gt, wx_if_le, wx_icmp_le, wx_ireturn, wx_lreturn, wx_areturn, wx_return, wx_freturn, wx_throw, ww_s1_0, ww_s1_1, ww_s2_0, ww_s2_1, ww_k1_i, ww_k1_r, ww_k1_l, ww_k1_u, s1_2, s1_3, s1_4, s1_5, s1_6, s1_7, s1_8, s1_9, s1_10, s1_11, s2_2, s2_3, s2_4, s2_5, s2_6, s2_7, s2_8, s2_9, s2_10, cat_i, cat_l, cat_r, cat_u, beq_self_eq_true, Nat.reduceBEq, dT, dF, List.length_cons, List.length_nil, List.map_cons, List.map_nil, List.sum_cons, List.sum_nil, Nat.reduceAdd, Nat.reduceMul, Nat.reduceDiv, Nat.reduceMod, Nat.reduceLT, Nat.reduceLeDiff, Nat.reduceEqDiff, Int.reduceToNat, Nat.zero_add, Nat.add_zero, if_true, if_false, true_and, and_true, not_true_eq_false, not_false_eq_true, or_false, false_or, eq_self, and_self, ne_eq, le_refl_T, zero_le_T, zero_lt_T, true_or, or_true, false_and, and_false, implies_true, ↓reduceIte, oi_m1, oi_0, oi_1, oi_2, oi_3, oi_4, oi_6, oi_8, oi_10, oi_12, oi_16, oi_24, oi_28, oi_31, oi_32, oi_40, oi_50, oi_60, oi_63, oi_100, oi_240, oi_400, oi_1000, oi_10000, oi_252645135, oi_858993459, oi_1431655765, ol_m1, ol_0, ol_1, ol_2, ol_30, ol_500, ol_1000, ol_1023, ol_2000, ol_4294967295, rc_0, rc_1, rc_3, rc_7, rc_c, xi_0, xl_0, xr_0, xc_0, xi_1, xl_1, xr_1, xc_1, xi_2, xl_2, xr_2, xc_2, xi_3, xl_3, xr_3, xc_3, xi_4, xl_4, xr_4, xc_4, xi_5, xl_5, xr_5, xc_5, xi_6, xl_6, xr_6, xc_6, xi_7, xl_7, xr_7, xc_7, xi_8, xl_8, xr_8, xc_8, xi_9, xl_9, xr_9, xc_9, xi_10, xl_10, xr_10, xc_10, xi_11, xl_11, xr_11, xc_11, xr_s, xg_0_0, xg_0_1, xg_0_2, xg_0_3, xp_0_3, xg_0_4, xp_0_4, xg_1_0, xg_1_1, xp_1_1, xg_1_2, xp_1_2, xg_1_3, xp_1_3, xg_1_4, xp_1_4, xg_1_5, xp_1_5, xg_1_6, xp_1_6, xg_3_0, xg_3_1, xg_3_2, xp_3_2, xg_7_0, xp_7_0, xg_7_1, xp_7_1, xg_7_2, xp_7_2, xg_7_3, xp_7_3, xg_7_4, xg_7_5, xg_7_6, xg_7_7, xg_7_8, xg_7_9, xg_7_10, xg_7_11, xg_7_12, xg_7_13, xg_7_14, xg_7_15, xp_7_15, xg_7_16, xg_7_17, xg_7_18, xg_7_19, xg_7_20, xg_7_21, xp_7_21, xg_7_22, xg_7_23, xg_7_24, xg_7_25, xg_7_26, xg_7_27, xg_7_28, xg_c_0, xp_c_0, xg_c_1, xg_c_2, xg_c_3, xg_c_4, xg_c_5, xp_c_5, xg_c_6, xg_c_7, xp_c_7, xg_c_8, xp_c_8, xg_c_9, xp_c_9, xa_2, xs_2, xa_4, xs_4, xa_5, xs_5, xa_8, xs_8, xa_9, xs_9, xa_10, xs_10, xa_11, xs_11, xa_12, xs_12, xa_13, xs_13, xa_14, xs_14, xa_15, xs_15, xa_16, xs_16, xa_17, xs_17, xa_18, xs_18, xa_19, xs_19, xa_20, xs_20, xa_21, xs_21, xa_22, xs_22, xa_23, xs_23, xa_24, xs_24, xa_25, xs_25, xa_26, xs_26, xa_27, xs_27, xa_28, xs_28, xa_29, xs_29, xa_30, xs_30, xa_31, xs_31, xa_c1, xs_c1, xa_c2, xs_c2, xa_c3, xs_c3, xa_c4, xs_c4, xa_c5, xs_c5, xa_6, n_eq, n_z, n_lt0, n_0le, n_0lt, n_le0, n_le, n_lt, n_cl, le_F, le_T, lt_F, lt_T, eq_F, eq_T, nI_add, n_sub1, pk_mul, pk_div, wa_s, wa_n, wa_w, upd_e, upl_e, b2_z, b2_a, b2_e, nb_e, n_a1, n_a0, n_11, n_01, n_m1, n_m1', Nat.succ_ne_zero, Nat.add_sub_cancel, b2_1, b2_o, b2_t0, b2_f0, Bool.true_eq_false, Bool.false_eq_true, x1]
theorem frm_le {t m b i : Nat} {D S Z E : Nat → Nat} {F : Nat → Bool} (hr : RD m t D S Z F) (hm : 0 < m) (hE : ∀ j, j < b → E j ≤ t) (hi : i ≤ b) : frm D E i ≤ t := by
  cases i with
  | zero => exact (hr 0 hm).1
  | succ i => exact hE i (by omega)
theorem RR_bill {X X' : Nat → Nat → Int32} {Y Y' : Nat → Nat → Int64} {n N P t c p m b β v : Nat} {D S Z E : Nat → Nat} {F : Nat → Bool} (h : RR X Y n N P t) (hc : c < n) (hp : X (cu c) 0 = nI p ∧ X 13 c = nI p ∧ p < N) (hr : RRD X c t m D S Z F) (hb : RBL X Y c t m D b E) (hm : 0 < m) (hb6 : b < 6) (hβ : frm D E b < β) (hβt : β ≤ t)
    (hX : ∀ a, ¬ (a = 7 ∨ (14 ≤ a ∧ a ≤ 18) ∨ (26 ≤ a ∧ a ≤ 28) ∨ a = cu c ∨ a = cu c + 5) → X' a = X a) (h7 : ∀ k, 0 < k → X' 7 k = X 7 k) (hY : ∀ a, ¬ (a = 29 ∨ a = 31 ∨ a = cu c) → Y' a = Y a)
    (e0 : X' (cu c) = upd (X (cu c)) 7 (nI (b + 1))) (e5 : X' (cu c + 5) = upd (X (cu c + 5)) b (nI β)) (e26 : X' 26 = upd (X 26) c (nI (b + 1))) (e27 : X' 27 = upd (X 27) (6 * c + b) (nI (frm D E b))) (e28 : X' 28 = upd (X 28) (6 * c + b) (nI β)) (y0 : Y' (cu c) = vp_updL (Y (cu c)) 8 (Y (cu c) 8 + lN v)) (y29 : Y' 29 = vp_updL (Y 29) (6 * c + b) (lN v)) : RR X' Y' n N P t := by
  have g := cu_ge c
  refine RR_cust h hc (fun a ha => hX a (by omega)) h7 (fun a ha => hY a (by omega)) (fun a i ha hi => ?_) (fun a i h1 h2 h3 => by rw [hX a (by omega)]) (fun a i h1 h2 h3 => ?_) (fun i hi => ?_) (fun i _ => by rw [hY 30 (by omega)]) ?_
  · rcases ha with rfl | rfl
    · rw [hX 19 (by omega)]
    · rw [e26, upd_e, if_neg hi]
  · have h4 : a = 27 ∨ a = 28 := by omega
    rcases h4 with rfl | rfl
    · rw [e27, upd_e, if_neg (by omega)]
    · rw [e28, upd_e, if_neg (by omega)]
  · rw [y29, upl_e, if_neg (by omega)]
  · obtain ⟨q1, q2, q3, q4, q5, q6, q7⟩ := hb
    refine ⟨p, m, b + 1, D, S, Z, fun i => if i = b then β else E i, F, ⟨?_, ?_, hp.2.2⟩, RRD_fr hr ?_ (fun k h1 h2 => hX _ (by omega)) (by rw [hX 19 (by omega)]) (fun a i h1 h2 _ => by rw [hX a (by omega)]), hb6, ?_, ?_, fun _ => hm, fun i hi => ?_, ?_, ?_⟩
    · rw [e0]; exact hp.1
    · rw [hX 13 (by omega)]; exact hp.2.1
    · rw [e0]; rfl
    · rw [e0, upd_e, if_pos rfl]
    · rw [e26, upd_e, if_pos rfl]
    · have hfr : frm D (fun i => if i = b then β else E i) i = frm D E i := by
        cases i with
        | zero => rfl
        | succ i =>
          show (if i = b then β else E i) = E i
          rw [if_neg (by omega)]
      rw [hfr, e5, e27, e28]
      simp only [upd_e]
      by_cases h1 : i = b
      · subst h1
        simp only [if_true]
        exact ⟨trivial, trivial, trivial, hβ, hβt⟩
      · have h2 : ¬ 6 * c + i = 6 * c + b := by omega
        simp only [if_neg h1, if_neg h2]
        exact q5 i (by omega)
    · rw [y0, y29, upl_e, if_pos rfl, q6]
      show _ = smL (fun i => vp_updL (Y 29) (6 * c + b) (lN v) (6 * c + i)) b + vp_updL (Y 29) (6 * c + b) (lN v) (6 * c + b)
      rw [upl_e, if_pos rfl]
      congr 1
      exact smL_cong (fun i hi => by rw [upl_e, if_neg (by omega)])
    · rw [y0, upl_e, if_neg (by decide), hY 30 (by omega)]
      exact q7
