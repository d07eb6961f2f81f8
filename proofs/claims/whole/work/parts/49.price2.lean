/-! counts grow; sums of parts -/
theorem cv_known {m t : Nat} {D S Z : Nat → Nat} {F : Nat → Bool} {δ : Nat} (h : RD m t D S Z F) (hm : 0 < m) (h0 : D 0 ≤ δ) (h1 : δ ≤ D (m - 1)) : ∃ e, e < m ∧ D e ≤ δ ∧ ((e + 1 < m ∧ δ < D (e + 1) ∧ cv D S Z F δ m = some (itp D S Z F δ (e + 1))) ∨ (e + 1 = m ∧ cv D S Z F δ m = some (ct S Z F e))) := by
  obtain ⟨K, k1, k2, k3⟩ := K_ex (δ := δ + 1) (B := D) m
  have hK : 0 < K := by
    rcases Nat.eq_zero_or_pos K with h2 | h2
    · have := k3 (by omega)
      rw [h2] at this
      omega
    · exact h2
  have k4 := k2 (K - 1) (by omega)
  refine ⟨K - 1, by omega, by omega, ?_⟩
  by_cases h2 : K < m
  · refine Or.inl ⟨by omega, ?_, ?_⟩
    · have := k3 h2
      rw [Nat.sub_add_cancel (by omega)]; omega
    · have h3 := cv_mid h (e := K - 1) (δ := δ) (by omega) (by rw [Nat.sub_add_cancel (by omega)]; have := k3 h2; omega) (m - 1 - K) (by omega)
      rwa [show K - 1 + 2 + (m - 1 - K) = m from by omega] at h3
  · refine Or.inr ⟨by omega, ?_⟩
    have e1 : K = m := by omega
    subst e1
    obtain ⟨m', rfl⟩ : ∃ m', K = m' + 1 := ⟨K - 1, by omega⟩
    rw [Nat.add_sub_cancel] at *
    rw [cv_s, if_pos (by omega)]
theorem cv_conv {m t : Nat} {D S Z : Nat → Nat} {F : Nat → Bool} {δ v : Nat} (h : RD m t D S Z F) (hv : cv D S Z F δ m = some v) : 0 < m ∧ D 0 ≤ δ ∧ δ ≤ D (m - 1) := by
  have hm : 0 < m := by
    rcases Nat.eq_zero_or_pos m with h1 | h1
    · subst h1; cases hv
    · exact h1
  refine ⟨hm, ?_, ?_⟩
  · rcases Nat.lt_or_ge δ (D 0) with h1 | h1
    · rw [cv_above (fun i hi => Nat.lt_of_lt_of_le h1 (D_le h (Nat.zero_le i) hi))] at hv
      cases hv
    · exact h1
  · rcases Nat.lt_or_ge (D (m - 1)) δ with h1 | h1
    · rw [cv_below (fun i hi => Nat.lt_of_le_of_lt (D_le h (by omega) (by omega)) h1)] at hv
      cases hv
    · exact h1
theorem ct_mono {S Z : Nat → Nat} {F : Nat → Bool} {i : Nat} : ∀ d, ct S Z F i ≤ ct S Z F (i + d)
  | 0 => Nat.le_refl _
  | d + 1 => Nat.le_trans (ct_mono d) (Nat.le_add_right _ _)
theorem ct_le' {S Z : Nat → Nat} {F : Nat → Bool} {i j : Nat} (h : i ≤ j) : ct S Z F i ≤ ct S Z F j := by
  have := ct_mono (S := S) (Z := Z) (F := F) (i := i) (j - i)
  rwa [Nat.add_sub_cancel' h] at this
theorem itp_hi {D S Z : Nat → Nat} {F : Nat → Bool} {δ e : Nat} (h1 : D e ≤ δ) (h2 : δ < D (e + 1)) : itp D S Z F δ (e + 1) ≤ ct S Z F (e + 1) := by
  unfold itp
  rw [Nat.add_sub_cancel, ct_s]
  apply Nat.add_le_add_left
  apply Nat.div_le_of_le_mul
  rw [Nat.mul_comm]
  exact Nat.mul_le_mul_right _ (by omega)
theorem itp_lo {D S Z : Nat → Nat} {F : Nat → Bool} {δ e : Nat} : ct S Z F e ≤ itp D S Z F δ (e + 1) := by
  unfold itp
  rw [Nat.add_sub_cancel]
  exact Nat.le_add_right _ _
theorem cv_mono {m t : Nat} {D S Z : Nat → Nat} {F : Nat → Bool} {x y v w : Nat} (h : RD m t D S Z F) (hx : cv D S Z F x m = some v) (hy : cv D S Z F y m = some w) (hxy : x ≤ y) : v ≤ w := by
  obtain ⟨hm, x1, x2⟩ := cv_conv h hx
  obtain ⟨-, y1, y2⟩ := cv_conv h hy
  obtain ⟨e, e1, e2, e3⟩ := cv_known h hm x1 x2
  obtain ⟨f, f1, f2, f3⟩ := cv_known h hm y1 y2
  rcases e3 with ⟨a1, a2, a3⟩ | ⟨a1, a3⟩
  · rw [hx] at a3
    cases a3
    have hef : e ≤ f := by
      rcases Nat.lt_or_ge f e with h1 | h1
      · rcases f3 with ⟨b1, b2, -⟩ | ⟨b1, -⟩
        · have := D_le h (i := f + 1) (j := e) (by omega) e1
          omega
        · omega
      · exact h1
    by_cases he : e = f
    · subst he
      rcases f3 with ⟨b1, b2, b3⟩ | ⟨b1, b3⟩
      · rw [hy] at b3
        cases b3
        unfold itp
        apply Nat.add_le_add_left
        apply Nat.div_le_div_right
        exact Nat.mul_le_mul_left _ (by omega)
      · omega
    · have h3 := itp_hi (S := S) (Z := Z) (F := F) e2 a2
      have h4 := ct_le' (S := S) (Z := Z) (F := F) (i := e + 1) (j := f) (by omega)
      rcases f3 with ⟨b1, b2, b3⟩ | ⟨b1, b3⟩
      · rw [hy] at b3
        cases b3
        exact Nat.le_trans h3 (Nat.le_trans h4 itp_lo)
      · rw [hy] at b3
        cases b3
        exact Nat.le_trans h3 h4
  · rw [hx] at a3
    cases a3
    have hef : f = e := by
      rcases f3 with ⟨b1, b2, -⟩ | ⟨b1, -⟩
      · have := D_le h (i := f + 1) (j := e) (by omega) e1
        omega
      · omega
    subst hef
    rcases f3 with ⟨b1, b2, b3⟩ | ⟨b1, b3⟩
    · omega
    · rw [hy] at b3
      cases b3
      exact Nat.le_refl _
def cutp (B : Nat → Nat) (α h : Nat) : Nat → Nat
  | 0 => α
  | e + 1 => B (h + 1 + e)
def smp (B U C : Nat → Nat) (α h : Nat) : Nat → Nat
  | 0 => 0
  | e + 1 => smp B U C α h e + pp (U (h + e)) (cutp B α h (e + 1) - cutp B α h e) (C (cutp B α h (e + 1)) - C (cutp B α h e))
def tot (B U C : Nat → Nat) (α β h g : Nat) : Nat := smp B U C α h g + pp (U (h + g)) (β - cutp B α h g) (C β - C (cutp B α h g))
theorem hd_le {q h δ : Nat} {B : Nat → Nat} (hB : ∀ k, k + 1 < q → B k < B (k + 1)) (h1 : B h ≤ δ) (h2 : h + 1 < q → δ < B (h + 1)) : ∀ d, h + 1 + d ≤ q → hd B δ (h + 1 + d) = nI h
  | 0, _ => by
    show hd B δ (h + 1) = _
    rw [hd_s, if_pos h1]
  | d + 1, hq => by
    show hd B δ (h + 1 + d + 1) = _
    have h3 : δ < B (h + 1 + d) := by
      cases d with
      | zero => exact h2 (by omega)
      | succ d => exact Nat.lt_trans (h2 (by omega)) (B_lt hB (by omega) (by omega))
    rw [hd_s, if_neg (by omega), hd_le hB h1 h2 d (by omega)]
theorem v_39 {X : Nat → Nat → Int32} {Y : Nat → Nat → Int64} {n r q i β : Nat} {B : Nat → Nat} {Q : ww_R → Prop} (hq : q ≤ 8) (h3 : X 3 2 = nI q) (h4 : ∀ k, k < q → X 4 k = nI (B k) ∧ B k ≤ 400) (hi : i < q) (hβ : β < 2 ^ 31) : ww_V 39 [.ref 3, .int (nI i), .int (nI β)] (HH X Y n r) Q = Q (.inl (some (.int (nI (if i + 1 < q then min (B (i + 1)) β else β)))), HH X Y n r) := by
  rw [e_39]
  by_cases h1 : i + 1 < q
  · obtain ⟨x1, x2⟩ := h4 (i + 1) h1
    rw [if_pos h1]
    simp (disch := omega) only [w_39_0, w_39_1, w_39_2, w_39_3, w_39_4, w_39_7, w_39_10, w_39_11, w_39_14, w_39_15, w_39_16, w_39_17, w_39_18, w_39_19, w_39_22, w_39_25, w_39_26, c_105, ww_ob_some, ww_ob_none, ww_kc_some, ww_kc_none, ww_kc_thr, wx_iadd, wx_isub, wx_imul, wx_iand, wx_ior, wx_ixor, wx_ishl, wx_ishr, wx_iushr, wx_ladd, wx_lsub, wx_lmul, wx_land, wx_lor, wx_lshl, wx_lshr, wx_lushr, wx_i2l, wx_lcmp, wx_dupi, wx_dupr, wx_dup2, wx_iconst, wx_lconst, wx_goto, wx_idiv, wx_ldiv, wx_istore, wx_astore, wx_lstore, wx_if_eq, wx_icmp_eq, wx_if_ne, wx_icmp_ne, wx_if_lt, wx_icmp_lt, wx_if_ge, wx_icmp_ge, wx_if_gt, wx_icmp_gt, wx_if_le, wx_icmp_le, wx_ireturn, wx_lreturn, wx_areturn, wx_return, wx_freturn, wx_throw, ww_s1_0, ww_s1_1, ww_s2_0, ww_s2_1, ww_k1_i, ww_k1_r, ww_k1_l, ww_k1_u, s1_2, s1_3, s1_4, s1_5, s1_6, s1_7, s1_8, s1_9, s1_10, s1_11, s2_2, s2_3, s2_4, s2_5, s2_6, s2_7, s2_8, s2_9, s2_10, cat_i, cat_l, cat_r, cat_u, beq_self_eq_true, Nat.reduceBEq, dT, dF, List.length_cons, List.length_nil, List.map_cons, List.map_nil, List.sum_cons, List.sum_nil, Nat.reduceAdd, Nat.reduceMul, Nat.reduceDiv, Nat.reduceMod, Nat.reduceLT, Nat.reduceLeDiff, Nat.reduceEqDiff, Int.reduceToNat, Nat.zero_add, Nat.add_zero, if_true, if_false, true_and, and_true, not_true_eq_false, not_false_eq_true, or_false, false_or, eq_self, and_self, ne_eq, le_refl_T, zero_le_T, zero_lt_T, true_or, or_true, false_and, and_false, implies_true, ↓reduceIte, oi_m1, oi_0, oi_1, oi_2, oi_3, oi_4, oi_6, oi_8, oi_10, oi_12, oi_16, oi_24, oi_28, oi_31, oi_32, oi_40, oi_50, oi_60, oi_63, oi_100, oi_240, oi_400, oi_1000, oi_10000, oi_252645135, oi_858993459, oi_1431655765, ol_m1, ol_0, ol_1, ol_2, ol_30, ol_500, ol_1000, ol_1023, ol_2000, ol_4294967295, rc_0, rc_1, rc_3, rc_7, rc_c, xi_0, xl_0, xr_0, xc_0, xi_1, xl_1, xr_1, xc_1, xi_2, xl_2, xr_2, xc_2, xi_3, xl_3, xr_3, xc_3, xi_4, xl_4, xr_4, xc_4, xi_5, xl_5, xr_5, xc_5, xi_6, xl_6, xr_6, xc_6, xi_7, xl_7, xr_7, xc_7, xi_8, xl_8, xr_8, xc_8, xi_9, xl_9, xr_9, xc_9, xi_10, xl_10, xr_10, xc_10, xi_11, xl_11, xr_11, xc_11, xr_s, xg_0_0, xg_0_1, xg_0_2, xg_0_3, xp_0_3, xg_0_4, xp_0_4, xg_1_0, xg_1_1, xp_1_1, xg_1_2, xp_1_2, xg_1_3, xp_1_3, xg_1_4, xp_1_4, xg_1_5, xp_1_5, xg_1_6, xp_1_6, xg_3_0, xg_3_1, xg_3_2, xp_3_2, xg_7_0, xp_7_0, xg_7_1, xp_7_1, xg_7_2, xp_7_2, xg_7_3, xp_7_3, xg_7_4, xg_7_5, xg_7_6, xg_7_7, xg_7_8, xg_7_9, xg_7_10, xg_7_11, xg_7_12, xg_7_13, xg_7_14, xg_7_15, xp_7_15, xg_7_16, xg_7_17, xg_7_18, xg_7_19, xg_7_20, xg_7_21, xp_7_21, xg_7_22, xg_7_23, xg_7_24, xg_7_25, xg_7_26, xg_7_27, xg_7_28, xg_c_0, xp_c_0, xg_c_1, xg_c_2, xg_c_3, xg_c_4, xg_c_5, xp_c_5, xg_c_6, xg_c_7, xp_c_7, xg_c_8, xp_c_8, xg_c_9, xp_c_9, xa_2, xs_2, xa_4, xs_4, xa_5, xs_5, xa_8, xs_8, xa_9, xs_9, xa_10, xs_10, xa_11, xs_11, xa_12, xs_12, xa_13, xs_13, xa_14, xs_14, xa_15, xs_15, xa_16, xs_16, xa_17, xs_17, xa_18, xs_18, xa_19, xs_19, xa_20, xs_20, xa_21, xs_21, xa_22, xs_22, xa_23, xs_23, xa_24, xs_24, xa_25, xs_25, xa_26, xs_26, xa_27, xs_27, xa_28, xs_28, xa_29, xs_29, xa_30, xs_30, xa_31, xs_31, xa_c1, xs_c1, xa_c2, xs_c2, xa_c3, xs_c3, xa_c4, xs_c4, xa_c5, xs_c5, xa_6, n_eq, n_z, n_lt0, n_0le, n_0lt, n_le0, n_le, n_lt, n_cl, le_F, le_T, lt_F, lt_T, eq_F, eq_T, nI_add, n_sub1, pk_mul, pk_div, wa_s, wa_n, wa_w, upd_e, upl_e, b2_z, b2_a, b2_e, nb_e, n_a1, n_a0, n_11, n_01, n_m1, n_m1', Nat.succ_ne_zero, Nat.add_sub_cancel, b2_1, b2_o, b2_t0, b2_f0, Bool.true_eq_false, Bool.false_eq_true, h3, x1, v_105]
  · rw [if_neg h1]
    simp (disch := omega) only [w_39_0, w_39_1, w_39_2, w_39_3, w_39_4, w_39_7, w_39_10, w_39_11, w_39_14, w_39_15, w_39_16, w_39_17, w_39_18, w_39_19, w_39_22, w_39_25, w_39_26, c_105, ww_ob_some, ww_ob_none, ww_kc_some, ww_kc_none, ww_kc_thr, wx_iadd, wx_isub, wx_imul, wx_iand, wx_ior, wx_ixor, wx_ishl, wx_ishr, wx_iushr, wx_ladd, wx_lsub, wx_lmul, wx_land, wx_lor, wx_lshl, wx_lshr, wx_lushr, wx_i2l, wx_lcmp, wx_dupi, wx_dupr, wx_dup2, wx_iconst, wx_lconst, wx_goto, wx_idiv, wx_ldiv, wx_istore, wx_astore, wx_lstore, wx_if_eq, wx_icmp_eq, wx_if_ne, wx_icmp_ne, wx_if_lt, wx_icmp_lt, wx_if_ge, wx_icmp_ge, wx_if_gt, wx_icmp_gt, wx_if_le, wx_icmp_le, wx_ireturn, wx_lreturn, wx_areturn, wx_return, wx_freturn, wx_throw, ww_s1_0, ww_s1_1, ww_s2_0, ww_s2_1, ww_k1_i, ww_k1_r, ww_k1_l, ww_k1_u, s1_2, s1_3, s1_4, s1_5, s1_6, s1_7, s1_8, s1_9, s1_10, s1_11, s2_2, s2_3, s2_4, s2_5, s2_6, s2_7, s2_8, s2_9, s2_10, cat_i, cat_l, cat_r, cat_u, beq_self_eq_true, Nat.reduceBEq, dT, dF, List.length_cons, List.length_nil, List.map_cons, List.map_nil, List.sum_cons, List.sum_nil, Nat.reduceAdd, Nat.reduceMul, Nat.reduceDiv, Nat.reduceMod, Nat.reduceLT, Nat.reduceLeDiff, Nat.reduceEqDiff, Int.reduceToNat, Nat.zero_add, Nat.add_zero, if_true, if_false, true_and, and_true, not_true_eq_false, not_false_eq_true, or_false, false_or, eq_self, and_self, ne_eq, le_refl_T, zero_le_T, zero_lt_T, true_or, or_true, false_and, and_false, implies_true, ↓reduceIte, oi_m1, oi_0, oi_1, oi_2, oi_3, oi_4, oi_6, oi_8, oi_10, oi_12, oi_16, oi_24, oi_28, oi_31, oi_32, oi_40, oi_50, oi_60, oi_63, oi_100, oi_240, oi_400, oi_1000, oi_10000, oi_252645135, oi_858993459, oi_1431655765, ol_m1, ol_0, ol_1, ol_2, ol_30, ol_500, ol_1000, ol_1023, ol_2000, ol_4294967295, rc_0, rc_1, rc_3, rc_7, rc_c, xi_0, xl_0, xr_0, xc_0, xi_1, xl_1, xr_1, xc_1, xi_2, xl_2, xr_2, xc_2, xi_3, xl_3, xr_3, xc_3, xi_4, xl_4, xr_4, xc_4, xi_5, xl_5, xr_5, xc_5, xi_6, xl_6, xr_6, xc_6, xi_7, xl_7, xr_7, xc_7, xi_8, xl_8, xr_8, xc_8, xi_9, xl_9, xr_9, xc_9, xi_10, xl_10, xr_10, xc_10, xi_11, xl_11, xr_11, xc_11, xr_s, xg_0_0, xg_0_1, xg_0_2, xg_0_3, xp_0_3, xg_0_4, xp_0_4, xg_1_0, xg_1_1, xp_1_1, xg_1_2, xp_1_2, xg_1_3, xp_1_3, xg_1_4, xp_1_4, xg_1_5, xp_1_5, xg_1_6, xp_1_6, xg_3_0, xg_3_1, xg_3_2, xp_3_2, xg_7_0, xp_7_0, xg_7_1, xp_7_1, xg_7_2, xp_7_2, xg_7_3, xp_7_3, xg_7_4, xg_7_5, xg_7_6, xg_7_7, xg_7_8, xg_7_9, xg_7_10, xg_7_11, xg_7_12, xg_7_13, xg_7_14, xg_7_15, xp_7_15, xg_7_16, xg_7_17, xg_7_18, xg_7_19, xg_7_20, xg_7_21, xp_7_21, xg_7_22, xg_7_23, xg_7_24, xg_7_25, xg_7_26, xg_7_27, xg_7_28, xg_c_0, xp_c_0, xg_c_1, xg_c_2, xg_c_3, xg_c_4, xg_c_5, xp_c_5, xg_c_6, xg_c_7, xp_c_7, xg_c_8, xp_c_8, xg_c_9, xp_c_9, xa_2, xs_2, xa_4, xs_4, xa_5, xs_5, xa_8, xs_8, xa_9, xs_9, xa_10, xs_10, xa_11, xs_11, xa_12, xs_12, xa_13, xs_13, xa_14, xs_14, xa_15, xs_15, xa_16, xs_16, xa_17, xs_17, xa_18, xs_18, xa_19, xs_19, xa_20, xs_20, xa_21, xs_21, xa_22, xs_22, xa_23, xs_23, xa_24, xs_24, xa_25, xs_25, xa_26, xs_26, xa_27, xs_27, xa_28, xs_28, xa_29, xs_29, xa_30, xs_30, xa_31, xs_31, xa_c1, xs_c1, xa_c2, xs_c2, xa_c3, xs_c3, xa_c4, xs_c4, xa_c5, xs_c5, xa_6, n_eq, n_z, n_lt0, n_0le, n_0lt, n_le0, n_le, n_lt, n_cl, le_F, le_T, lt_F, lt_T, eq_F, eq_T, nI_add, n_sub1, pk_mul, pk_div, wa_s, wa_n, wa_w, upd_e, upl_e, b2_z, b2_a, b2_e, nb_e, n_a1, n_a0, n_11, n_01, n_m1, n_m1', Nat.succ_ne_zero, Nat.add_sub_cancel, b2_1, b2_o, b2_t0, b2_f0, Bool.true_eq_false, Bool.false_eq_true, h3]
/-- what price needs of a customer's readings and of the tariffs -/
def PF (q : Nat) (B U : Nat → Nat) : Prop := q ≤ 8 ∧ (∀ k, k < q → B k ≤ 400 ∧ U k < 2 ^ 50) ∧ ∀ k, k + 1 < q → B k < B (k + 1)
def known (D S Z : Nat → Nat) (F : Nat → Bool) (m α β : Nat) (C : Nat → Nat) : Prop := ∀ x, α ≤ x → x ≤ β → cv D S Z F x m = some (C x)
def gparts (q : Nat) (B : Nat → Nat) (α β h g : Nat) : Prop := h + g < q ∧ B h ≤ α ∧ (h + 1 < q → α < B (h + 1)) ∧ (∀ e, e < g → B (h + 1 + e) < β) ∧ (h + 1 + g < q → β ≤ B (h + 1 + g))
theorem cutp_bd {q : Nat} {B : Nat → Nat} {α β h g : Nat} (hB : ∀ k, k + 1 < q → B k < B (k + 1)) (hg : gparts q B α β h g) (hαβ : α < β) : ∀ e, e ≤ g → α ≤ cutp B α h e ∧ cutp B α h e < β ∧ (e < g → cutp B α h e ≤ cutp B α h (e + 1)) := by
  obtain ⟨g1, g2, g3, g4, g5⟩ := hg
  intro e he
  cases e with
  | zero =>
    refine ⟨Nat.le_refl _, hαβ, fun h1 => ?_⟩
    have := g3 (by omega)
    show α ≤ B (h + 1 + 0)
    rw [Nat.add_zero]; omega
  | succ e =>
    have h1 : α < B (h + 1 + e) := by
      cases e with
      | zero => exact g3 (by omega)
      | succ e => exact Nat.lt_trans (g3 (by omega)) (B_lt hB (by omega) (by omega))
    refine ⟨Nat.le_of_lt h1, g4 e (by omega), fun h2 => ?_⟩
    exact Nat.le_of_lt (hB (h + 1 + e) (by omega))
theorem C_bd {m t : Nat} {D S Z : Nat → Nat} {F : Nat → Bool} {α β x y : Nat} {C : Nat → Nat} (h : RD m t D S Z F) (hm : m ≤ 24) (hk : known D S Z F m α β C) (hx : α ≤ x) (hxy : x ≤ y) (hy : y ≤ β) : C x ≤ C y ∧ C y ≤ 240000 := by
  have h1 := hk x hx (by omega)
  have h2 := hk y (by omega) hy
  refine ⟨cv_mono h h1 h2 hxy, ?_⟩
  have := cv_lt h m _ (Nat.le_refl m) h2
  omega
theorem smp_bd {m t q : Nat} {D S Z B U C : Nat → Nat} {F : Nat → Bool} {α β h g : Nat} (hr : RD m t D S Z F) (hm : m ≤ 24) (hp : PF q B U) (hk : known D S Z F m α β C) (hg : gparts q B α β h g) (hαβ : α < β) (hβ : β ≤ 400) : ∀ e, e ≤ g → smp B U C α h e ≤ e * 2 ^ 33
  | 0, _ => Nat.zero_le _
  | e + 1, he => by
    have h1 := smp_bd hr hm hp hk hg hαβ hβ e (by omega)
    obtain ⟨c1, c2, c3⟩ := cutp_bd hp.2.2 hg hαβ e (by omega)
    obtain ⟨d1, d2, d3⟩ := cutp_bd hp.2.2 hg hαβ (e + 1) he
    obtain ⟨k1, k2⟩ := C_bd hr hm hk c1 (c3 (by omega)) (by omega)
    have h2 := (pp_bd (U (h + e)) (d := cutp B α h (e + 1) - cutp B α h e) (v := C (cutp B α h (e + 1)) - C (cutp B α h e)) (by omega) (by omega)).2.2.2.2.2.2
    show smp B U C α h e + pp _ _ _ ≤ _
    omega
