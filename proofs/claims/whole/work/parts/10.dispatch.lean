set_option maxHeartbeats 8000000 in
theorem ww_step {l : Launch} {p : Program} {e : Env} {R : Room} {s : State} {m : MethodId} {args : Array Value} {below : List Frame} {meth : Method} {c : Code} {H : Heap} {locs : List Loc} {Q : State → Prop} {D : va_G} {tA : Nat → ClassId} {b : Nat} {A : Nat → Prop} {S : ww_S} {M len pc k n : Nat} {L st : List Value} {h : List ww_E} {ad : Nat → Nat} {ls : Array Slot} {o : Nat × List Value × List Value × List ww_E × Nat × Nat} {j : Instr} (C : ww_C l p R s m args meth c D tA b A S M) (I : ww_I s D tA b A (ww_mL M) ad h L H locs ls) (g : ww_g L st h) (hkm : k ≤ ww_mc M ∧ n ≤ ww_ms M) (ha : ww_acd M pc = some (j, len)) (hs : ww_st S M len pc L st h k n j = some o)
    (kk : ∀ ad' H' locs' ls', (∀ i, i < h.length → ad' i = ad i) → ww_I s D tA b A (ww_mL M) ad' o.2.2.2.1 o.2.1 H' locs' ls' → W p l e R s m args below meth c H' locs' o.2.2.2.2.1 o.2.2.2.2.2 Q (F0 m o.1 ls' (o.2.2.1.map (ww_tr b ad')))) :
    W p l e R s m args below meth c H locs k n Q (F0 m pc ls (st.map (ww_tr b ad))) := by
  unfold ww_acd at ha
  split at ha
  case h_2 => cases ha
  rename_i i n0 hd
  split at ha
  case isFalse => cases ha
  rename_i hlen
  cases i with
  | iadd =>
    have hn : n0 = 1 := by simpa [ww_ln, ww_isT] using hlen
    subst hn
    simp only [ww_rs, ww_keep, if_true] at ha
    cases ha
    exact ww_sd_iadd C I g hkm hd hs kk
  | isub =>
    have hn : n0 = 1 := by simpa [ww_ln, ww_isT] using hlen
    subst hn
    simp only [ww_rs, ww_keep, if_true] at ha
    cases ha
    exact ww_sd_isub C I g hkm hd hs kk
  | imul =>
    have hn : n0 = 1 := by simpa [ww_ln, ww_isT] using hlen
    subst hn
    simp only [ww_rs, ww_keep, if_true] at ha
    cases ha
    exact ww_sd_imul C I g hkm hd hs kk
  | idiv =>
    have hn : n0 = 1 := by simpa [ww_ln, ww_isT] using hlen
    subst hn
    simp only [ww_rs, ww_keep, if_true] at ha
    cases ha
    exact ww_sd_idiv C I g hkm hd hs kk
  | iand =>
    have hn : n0 = 1 := by simpa [ww_ln, ww_isT] using hlen
    subst hn
    simp only [ww_rs, ww_keep, if_true] at ha
    cases ha
    exact ww_sd_iand C I g hkm hd hs kk
  | ior =>
    have hn : n0 = 1 := by simpa [ww_ln, ww_isT] using hlen
    subst hn
    simp only [ww_rs, ww_keep, if_true] at ha
    cases ha
    exact ww_sd_ior C I g hkm hd hs kk
  | ixor =>
    have hn : n0 = 1 := by simpa [ww_ln, ww_isT] using hlen
    subst hn
    simp only [ww_rs, ww_keep, if_true] at ha
    cases ha
    exact ww_sd_ixor C I g hkm hd hs kk
  | ishl =>
    have hn : n0 = 1 := by simpa [ww_ln, ww_isT] using hlen
    subst hn
    simp only [ww_rs, ww_keep, if_true] at ha
    cases ha
    exact ww_sd_ishl C I g hkm hd hs kk
  | ishr =>
    have hn : n0 = 1 := by simpa [ww_ln, ww_isT] using hlen
    subst hn
    simp only [ww_rs, ww_keep, if_true] at ha
    cases ha
    exact ww_sd_ishr C I g hkm hd hs kk
  | iushr =>
    have hn : n0 = 1 := by simpa [ww_ln, ww_isT] using hlen
    subst hn
    simp only [ww_rs, ww_keep, if_true] at ha
    cases ha
    exact ww_sd_iushr C I g hkm hd hs kk
  | ladd =>
    have hn : n0 = 1 := by simpa [ww_ln, ww_isT] using hlen
    subst hn
    simp only [ww_rs, ww_keep, if_true] at ha
    cases ha
    exact ww_sd_ladd C I g hkm hd hs kk
  | lsub =>
    have hn : n0 = 1 := by simpa [ww_ln, ww_isT] using hlen
    subst hn
    simp only [ww_rs, ww_keep, if_true] at ha
    cases ha
    exact ww_sd_lsub C I g hkm hd hs kk
  | lmul =>
    have hn : n0 = 1 := by simpa [ww_ln, ww_isT] using hlen
    subst hn
    simp only [ww_rs, ww_keep, if_true] at ha
    cases ha
    exact ww_sd_lmul C I g hkm hd hs kk
  | ldiv =>
    have hn : n0 = 1 := by simpa [ww_ln, ww_isT] using hlen
    subst hn
    simp only [ww_rs, ww_keep, if_true] at ha
    cases ha
    exact ww_sd_ldiv C I g hkm hd hs kk
  | land =>
    have hn : n0 = 1 := by simpa [ww_ln, ww_isT] using hlen
    subst hn
    simp only [ww_rs, ww_keep, if_true] at ha
    cases ha
    exact ww_sd_land C I g hkm hd hs kk
  | lor =>
    have hn : n0 = 1 := by simpa [ww_ln, ww_isT] using hlen
    subst hn
    simp only [ww_rs, ww_keep, if_true] at ha
    cases ha
    exact ww_sd_lor C I g hkm hd hs kk
  | lshl =>
    have hn : n0 = 1 := by simpa [ww_ln, ww_isT] using hlen
    subst hn
    simp only [ww_rs, ww_keep, if_true] at ha
    cases ha
    exact ww_sd_lshl C I g hkm hd hs kk
  | lshr =>
    have hn : n0 = 1 := by simpa [ww_ln, ww_isT] using hlen
    subst hn
    simp only [ww_rs, ww_keep, if_true] at ha
    cases ha
    exact ww_sd_lshr C I g hkm hd hs kk
  | lushr =>
    have hn : n0 = 1 := by simpa [ww_ln, ww_isT] using hlen
    subst hn
    simp only [ww_rs, ww_keep, if_true] at ha
    cases ha
    exact ww_sd_lushr C I g hkm hd hs kk
  | i2l =>
    have hn : n0 = 1 := by simpa [ww_ln, ww_isT] using hlen
    subst hn
    simp only [ww_rs, ww_keep, if_true] at ha
    cases ha
    exact ww_sd_i2l C I g hkm hd hs kk
  | lcmp =>
    have hn : n0 = 1 := by simpa [ww_ln, ww_isT] using hlen
    subst hn
    simp only [ww_rs, ww_keep, if_true] at ha
    cases ha
    exact ww_sd_lcmp C I g hkm hd hs kk
  | dup =>
    have hn : n0 = 1 := by simpa [ww_ln, ww_isT] using hlen
    subst hn
    simp only [ww_rs, ww_keep, if_true] at ha
    cases ha
    exact ww_sd_dup C I g hkm hd hs kk
  | dup2 =>
    have hn : n0 = 1 := by simpa [ww_ln, ww_isT] using hlen
    subst hn
    simp only [ww_rs, ww_keep, if_true] at ha
    cases ha
    exact ww_sd_dup2 C I g hkm hd hs kk
  | iaload =>
    have hn : n0 = 1 := by simpa [ww_ln, ww_isT] using hlen
    subst hn
    simp only [ww_rs, ww_keep, if_true] at ha
    cases ha
    exact ww_sd_iaload C I g hkm hd hs kk
  | laload =>
    have hn : n0 = 1 := by simpa [ww_ln, ww_isT] using hlen
    subst hn
    simp only [ww_rs, ww_keep, if_true] at ha
    cases ha
    exact ww_sd_laload C I g hkm hd hs kk
  | baload =>
    have hn : n0 = 1 := by simpa [ww_ln, ww_isT] using hlen
    subst hn
    simp only [ww_rs, ww_keep, if_true] at ha
    cases ha
    exact ww_sd_baload C I g hkm hd hs kk
  | aaload =>
    have hn : n0 = 1 := by simpa [ww_ln, ww_isT] using hlen
    subst hn
    simp only [ww_rs, ww_keep, if_true] at ha
    cases ha
    exact ww_sd_aaload C I g hkm hd hs kk
  | iastore =>
    have hn : n0 = 1 := by simpa [ww_ln, ww_isT] using hlen
    subst hn
    simp only [ww_rs, ww_keep, if_true] at ha
    cases ha
    exact ww_sd_iastore C I g hkm hd hs kk
  | lastore =>
    have hn : n0 = 1 := by simpa [ww_ln, ww_isT] using hlen
    subst hn
    simp only [ww_rs, ww_keep, if_true] at ha
    cases ha
    exact ww_sd_lastore C I g hkm hd hs kk
  | bastore =>
    have hn : n0 = 1 := by simpa [ww_ln, ww_isT] using hlen
    subst hn
    simp only [ww_rs, ww_keep, if_true] at ha
    cases ha
    exact ww_sd_bastore C I g hkm hd hs kk
  | aastore =>
    have hn : n0 = 1 := by simpa [ww_ln, ww_isT] using hlen
    subst hn
    simp only [ww_rs, ww_keep, if_true] at ha
    cases ha
    exact ww_sd_aastore C I g hkm hd hs kk
  | arraylength =>
    have hn : n0 = 1 := by simpa [ww_ln, ww_isT] using hlen
    subst hn
    simp only [ww_rs, ww_keep, if_true] at ha
    cases ha
    exact ww_sd_arraylength C I g hkm hd hs kk
  | aload q =>
    have hn : n0 = 2 := by simpa [ww_ln, ww_isT] using hlen
    subst hn
    simp only [ww_rs] at ha
    cases ha
    exact ww_sd_aload C I g hkm hd hs kk
  | aload_n q =>
    have hn : n0 = 1 := by simpa [ww_ln, ww_isT] using hlen
    subst hn
    simp only [ww_rs] at ha
    cases ha
    exact ww_sd_aload_n C I g hkm hd hs kk
  | iload q =>
    have hn : n0 = 2 := by simpa [ww_ln, ww_isT] using hlen
    subst hn
    simp only [ww_rs] at ha
    cases ha
    exact ww_sd_iload C I g hkm hd hs kk
  | iload_n q =>
    have hn : n0 = 1 := by simpa [ww_ln, ww_isT] using hlen
    subst hn
    simp only [ww_rs] at ha
    cases ha
    exact ww_sd_iload_n C I g hkm hd hs kk
  | lload q =>
    have hn : n0 = 2 := by simpa [ww_ln, ww_isT] using hlen
    subst hn
    simp only [ww_rs] at ha
    cases ha
    exact ww_sd_lload C I g hkm hd hs kk
  | lload_n q =>
    have hn : n0 = 1 := by simpa [ww_ln, ww_isT] using hlen
    subst hn
    simp only [ww_rs] at ha
    cases ha
    exact ww_sd_lload_n C I g hkm hd hs kk
  | astore q =>
    have hn : n0 = 2 := by simpa [ww_ln, ww_isT] using hlen
    subst hn
    simp only [ww_rs] at ha
    cases ha
    exact ww_sd_astore C I g hkm hd hs kk
  | astore_n q =>
    have hn : n0 = 1 := by simpa [ww_ln, ww_isT] using hlen
    subst hn
    simp only [ww_rs] at ha
    cases ha
    exact ww_sd_astore_n C I g hkm hd hs kk
  | istore q =>
    have hn : n0 = 2 := by simpa [ww_ln, ww_isT] using hlen
    subst hn
    simp only [ww_rs] at ha
    cases ha
    exact ww_sd_istore C I g hkm hd hs kk
  | istore_n q =>
    have hn : n0 = 1 := by simpa [ww_ln, ww_isT] using hlen
    subst hn
    simp only [ww_rs] at ha
    cases ha
    exact ww_sd_istore_n C I g hkm hd hs kk
  | lstore q =>
    have hn : n0 = 2 := by simpa [ww_ln, ww_isT] using hlen
    subst hn
    simp only [ww_rs] at ha
    cases ha
    exact ww_sd_lstore C I g hkm hd hs kk
  | lstore_n q =>
    have hn : n0 = 1 := by simpa [ww_ln, ww_isT] using hlen
    subst hn
    simp only [ww_rs] at ha
    cases ha
    exact ww_sd_lstore_n C I g hkm hd hs kk
  | iinc q v =>
    have hn : n0 = 3 := by simpa [ww_ln, ww_isT] using hlen
    subst hn
    simp only [ww_rs] at ha
    cases ha
    exact ww_sd_iinc C I g hkm hd hs kk
  | iconst v =>
    have hn : n0 = 1 := by simpa [ww_ln, ww_isT] using hlen
    subst hn
    simp only [ww_rs] at ha
    cases ha
    exact ww_sd_iconst C I g hkm hd hs kk
  | bipush v =>
    have hn : n0 = 2 := by simpa [ww_ln, ww_isT] using hlen
    subst hn
    simp only [ww_rs] at ha
    split at ha
    · rename_i hv
      cases ha
      exact ww_sd_bipush C I g hkm hv hd hs kk
    · cases ha
  | sipush v =>
    have hn : n0 = 3 := by simpa [ww_ln, ww_isT] using hlen
    subst hn
    simp only [ww_rs] at ha
    split at ha
    · rename_i hv
      cases ha
      exact ww_sd_sipush C I g hkm hv hd hs kk
    · cases ha
  | ldc q =>
    have hn : n0 = 2 := by simpa [ww_ln, ww_isT] using hlen
    subst hn
    simp only [ww_rs] at ha
    cases hv : ww_l3 ww_iT (ww_ow M) q with
    | none => rw [hv] at ha; cases ha
    | some v =>
      rw [hv] at ha
      cases ha
      exact ww_sd_ldc C I g hkm hv hd hs kk
  | ldc_w q =>
    have hn : n0 = 3 := by simpa [ww_ln, ww_isT] using hlen
    subst hn
    simp only [ww_rs] at ha
    cases hv : ww_l3 ww_iT (ww_ow M) q with
    | none => rw [hv] at ha; cases ha
    | some v =>
      rw [hv] at ha
      cases ha
      exact ww_sd_ldcw C I g hkm hv hd hs kk
  | ldc2_w q =>
    have hn : n0 = 3 := by simpa [ww_ln, ww_isT] using hlen
    subst hn
    simp only [ww_rs] at ha
    cases hv : ww_l3 ww_lT (ww_ow M) q with
    | none => rw [hv] at ha; cases ha
    | some v =>
      rw [hv] at ha
      cases ha
      exact ww_sd_ldc2w C I g hkm hv hd hs kk
  | lconst v =>
    have hn : n0 = 1 := by simpa [ww_ln, ww_isT] using hlen
    subst hn
    simp only [ww_rs] at ha
    cases ha
    exact ww_sd_lconst C I g hkm hd hs kk
  | getfield q =>
    have hn : n0 = 3 := by simpa [ww_ln, ww_isT] using hlen
    subst hn
    simp only [ww_rs] at ha
    cases hv : ww_l3 ww_fT (ww_ow M) q with
    | none => rw [hv] at ha; cases ha
    | some v =>
      obtain ⟨ci, x⟩ := v
      rw [hv] at ha
      cases ha
      exact ww_sd_getfield C I g hkm hv hd hs kk
  | putfield q =>
    have hn : n0 = 3 := by simpa [ww_ln, ww_isT] using hlen
    subst hn
    simp only [ww_rs] at ha
    cases hv : ww_l3 ww_fT (ww_ow M) q with
    | none => rw [hv] at ha; cases ha
    | some v =>
      obtain ⟨ci, x⟩ := v
      rw [hv] at ha
      simp only [Option.bind_some] at ha
      split at ha
      · rename_i hfn
        cases ha
        exact ww_sd_putfield C I g hkm hv hfn hd hs kk
      · cases ha
  | invokestatic q =>
    simp only [ww_rs] at ha
    cases hv : ww_l3 ww_cT (ww_ow M) q with
    | none => rw [hv] at ha; cases ha
    | some v =>
      rw [hv] at ha
      simp only [Option.bind_some] at ha
      split at ha
      · cases ha
        simp only [ww_st] at hs
        cases hs
      · cases ha
  | invokevirtual q =>
    simp only [ww_rs] at ha
    cases hv : ww_l3 ww_cT (ww_ow M) q with
    | none => rw [hv] at ha; cases ha
    | some v =>
      rw [hv] at ha
      simp only [Option.bind_some] at ha
      split at ha
      · cases ha
        simp only [ww_st] at hs
        cases hs
      · cases ha
  | invokespecial q =>
    have hn : n0 = 3 := by simpa [ww_ln, ww_isT] using hlen
    subst hn
    simp only [ww_rs] at ha
    split at ha
    · rename_i ho
      cases ha
      exact ww_sd_objinit C I g hkm ho hd hs kk
    · cases hv : ww_l3 ww_cT (ww_ow M) q with
      | none => rw [hv] at ha; cases ha
      | some v =>
        rw [hv] at ha
        simp only [Option.bind_some] at ha
        split at ha
        · cases ha
          simp only [ww_st] at hs
          cases hs
        · cases ha
  | new q =>
    have hn : n0 = 3 := by simpa [ww_ln, ww_isT] using hlen
    subst hn
    simp only [ww_rs] at ha
    cases hv : ww_l3 ww_nT (ww_ow M) q with
    | some v =>
      rw [hv] at ha
      cases ha
      exact ww_sd_new C I g hkm hv hd hs kk
    | none =>
      rw [hv] at ha
      cases he : ww_l3 ww_eT (ww_ow M) q with
      | none => rw [he] at ha; cases ha
      | some v =>
        rw [he] at ha
        simp only [Option.bind_some] at ha
        split at ha
        · split at ha
          · cases ha
            simp only [ww_st] at hs
            cases hs
          · cases ha
        · cases ha
  | newarray t =>
    have hn : n0 = 2 := by simpa [ww_ln, ww_isT] using hlen
    subst hn
    simp only [ww_rs] at ha
    cases ha
    cases t with
    | int => exact ww_sd_newarray_int C I g hkm hd hs kk
    | long => exact ww_sd_newarray_long C I g hkm hd hs kk
    | boolean => exact ww_sd_newarray_boolean C I g hkm hd hs kk
    | _ =>
      simp only [ww_st] at hs
      split at hs
      · split at hs <;> cases hs
      · cases hs
  | anewarray q =>
    have hn : n0 = 3 := by simpa [ww_ln, ww_isT] using hlen
    subst hn
    simp only [ww_rs] at ha
    split at ha
    · rename_i hv
      cases ha
      exact ww_sd_anewarray C I g hkm hv hd hs kk
    · cases ha
  | goto q =>
    have hn : n0 = 3 := by simpa [ww_ln, ww_isT] using hlen
    subst hn
    simp only [ww_rs] at ha
    split at ha
    · rename_i hq
      cases ha
      exact ww_sd_goto C I g hkm hq hd hs kk
    · cases ha
  | ifCond cc q =>
    have hn : n0 = 3 := by simpa [ww_ln, ww_isT] using hlen
    subst hn
    simp only [ww_rs] at ha
    split at ha
    · rename_i hq
      cases ha
      cases cc with
      | eq => exact ww_sd_if_eq C I g hkm hq hd hs kk
      | ne => exact ww_sd_if_ne C I g hkm hq hd hs kk
      | lt => exact ww_sd_if_lt C I g hkm hq hd hs kk
      | ge => exact ww_sd_if_ge C I g hkm hq hd hs kk
      | gt => exact ww_sd_if_gt C I g hkm hq hd hs kk
      | le => exact ww_sd_if_le C I g hkm hq hd hs kk
    · cases ha
  | if_icmp cc q =>
    have hn : n0 = 3 := by simpa [ww_ln, ww_isT] using hlen
    subst hn
    simp only [ww_rs] at ha
    split at ha
    · rename_i hq
      cases ha
      cases cc with
      | eq => exact ww_sd_icmp_eq C I g hkm hq hd hs kk
      | ne => exact ww_sd_icmp_ne C I g hkm hq hd hs kk
      | lt => exact ww_sd_icmp_lt C I g hkm hq hd hs kk
      | ge => exact ww_sd_icmp_ge C I g hkm hq hd hs kk
      | gt => exact ww_sd_icmp_gt C I g hkm hq hd hs kk
      | le => exact ww_sd_icmp_le C I g hkm hq hd hs kk
    · cases ha
  | tableswitch d lo hi os =>
    simp only [ww_rs] at ha
    split at ha
    · rename_i hq
      cases ha
      exact ww_sd_tableswitch C I g hkm ⟨hq.1, hq.2.1⟩ hq.2.2 hd hs kk
    · cases ha
  | ireturn =>
    simp only [ww_rs] at ha
    split at ha
    · cases ha
      simp only [ww_st] at hs
      cases hs
    · split at ha
      · cases ha
        simp only [ww_st] at hs
        cases hs
      · cases ha
  | lreturn =>
    simp only [ww_rs] at ha
    split at ha
    · cases ha
      simp only [ww_st] at hs
      cases hs
    · cases ha
  | areturn =>
    simp only [ww_rs] at ha
    split at ha
    · cases ha
      simp only [ww_st] at hs
      cases hs
    · cases ha
  | return_ =>
    simp only [ww_rs] at ha
    split at ha
    · cases ha
      simp only [ww_st] at hs
      cases hs
    · cases ha
  | _ =>
    simp only [ww_rs, ww_keep] at ha
    cases ha
