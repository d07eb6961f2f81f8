theorem ww_mL_ok : (List.range 127).all (fun t => decide (ww_mL t ≤ 12)) = true := by decide +kernel
theorem ww_freeA {s : State} {tA : Nat → ClassId} {b : Nat} {A : Nat → Prop} {ad : Nat → Nat} {h : List ww_E} {H : Heap} {locs : List Loc} (hD : va_D A (ww_w tA b ad h)) (hS : va_S A s.heap H locs) (hA : ∀ q, s.heap.size ≤ q → A q) : ∀ q, va_A (ww_w tA b ad h) H.size q → A q := by
  intro q hq
  rcases hq with ⟨k, e, hk⟩ | hq
  · exact hD.2 k (q, e) hk
  · exact hA q (Nat.le_trans hS.1 hq)
set_option maxHeartbeats 4000000 in
theorem ww_callrun {l : Launch} {f : Nat} (ih : ww_snd l f) {p : Program} {e : Env} {R : Room} {s : State} {m : MethodId} {args : Array Value} {below : List Frame} {meth : Method} {c : Code} {H : Heap} {locs : List Loc} {D : va_G} {tA : Nat → ClassId} {b : Nat} {A : Nat → Prop} {S : ww_S} {M t q pc k n : Nat} {L st : List Value} {h : List ww_E} {ad : Nat → Nat} {ls : Array Slot} {r1 : ww_R}
    (C : ww_C l p R s m args meth c D tA b A S M) (I : ww_I s D tA b A (ww_mL M) ad h L H locs ls) (g : ww_g L st h) (hkm : k ≤ ww_mc M ∧ n ≤ ww_ms M) (hq : ww_l3 ww_cT (ww_ow M) q = some t) (hlv : ww_lv t < ww_lv M)
    (hna : ww_na t ≤ st.length) (hlen : (ww_en (ww_mL t) (st.take (ww_na t)).reverse).length = ww_mL t) (hcat : ((st.drop (ww_na t)).map (fun v => v.category)).sum ≤ 8) (hbud : (ww_mc t = 0 ∧ ww_ms t = 0) ∨ (k + ww_mc t ≤ ww_mc M ∧ n + ww_ms t ≤ ww_ms M)) (hrun : ww_run f none t 0 (ww_en (ww_mL t) (st.take (ww_na t)).reverse) [] h 0 0 = some r1)
    (hkd : (ww_kd t = 0 ∧ decode (ww_b M) pc = .ok (.invokestatic q, 3)) ∨ (ww_kd t = 1 ∧ decode (ww_b M) pc = .ok (.invokevirtual q, 3) ∧ ww_rcv h t (st.take (ww_na t)).reverse = true) ∨ (ww_kd t = 2 ∧ decode (ww_b M) pc = .ok (.invokespecial q, 3) ∧ ww_rcv h t (st.take (ww_na t)).reverse = true)) :
    vx_Run p l e R s m args below meth c H locs k n (ww_mc t) (ww_ms t) (F0 m pc ls (st.map (ww_tr b ad))) ((st.drop (ww_na t)).map (ww_tr b ad)) (ww_Qc D tA b ad h H.size r1 (((st.take (ww_na t)).reverse).map (ww_tr b ad)).toArray) (ww_XC D tA b ad h H.size r1) (va_A (ww_w tA b ad h) H.size) := by
  obtain ⟨⟨hx, hb, hml, hown, hts⟩, hK, hA, hR, hin, hsc, hZ, ⟨hU, hN⟩, hl, htab, hlocks⟩ := C
  obtain ⟨hP, hD, hS, hL⟩ := I
  obtain ⟨gL, gs, gh⟩ := g
  have hct := List.all_eq_true.mp ww_cT_ok _ (ww_l3_mem hq)
  simp only [Bool.and_eq_true, decide_eq_true_eq] at hct
  obtain ⟨ht, hlink⟩ := hct
  obtain ⟨g1, g2, g3, g4, g5, g6, g7⟩ := ww_M_at ht
  have hfree := ww_freeA hD hS hA
  have hM := ww_met hl ih (D := D) (tA := tA) (b := b) (ad := ad) (sz := H.size) ht hrun hlen (ww_ol_take gs) gh
  have hpre : ∀ U : State, U.heap = H → s.WarmedH U.vm → ww_B D tA b ad h H.size U := fun U hUh hW => ⟨by rw [hUh], by rw [hUh]; exact hP, va_K.moved hW.alike hK, hD.weaken (fun _ _ _ _ => trivial), hZ.warm hW, vx_Zq.moved hW.alike (by rw [hUh]; exact (hU.kept hS.2.1).narrow hfree), vx_Zq.moved hW.alike (by rw [hUh]; exact (hN.kept hS.2.1).narrow hfree)⟩
  have hf : k + ww_mc t ≤ R.cells ∧ n + ww_ms t ≤ R.slots := by
    obtain ⟨r1, r2, -, -⟩ := hR
    rcases hbud with ⟨b1, b2⟩ | ⟨b1, b2⟩ <;> omega
  have hRm : (ww_rm t).frames + 1 ≤ R.frames ∧ 8 + (ww_mL t + 11) + (ww_rm t).locals ≤ R.locals := by
    have h12 := List.all_eq_true.mp ww_mL_ok t (List.mem_range.mpr ht)
    simp only [decide_eq_true_eq] at h12
    obtain ⟨-, -, r3, r4⟩ := hR
    refine ⟨?_, ?_⟩
    · show ww_lv t + 5 + 1 ≤ _
      omega
    · show 8 + (ww_mL t + 11) + (200 + 31 * ww_lv t) ≤ _
      omega
  have hWs : ∀ w ∈ ww_cw t :: ww_aw, w ∈ ww_aw := fun w hw => (List.mem_cons.mp hw).elim (fun e9 => by rw [e9]; exact ww_cwaw ht) id
  have hlen2 : (((st.take (ww_na t)).reverse).map (ww_tr b ad)).length = ww_na t := by rw [List.length_map, List.length_reverse, List.length_take]; omega
  have hcat2 : (((st.drop (ww_na t)).map (ww_tr b ad)).map (fun v => v.category)).sum ≤ 8 := by rw [ww_trl_cat]; exact hcat
  have hstk : st.map (ww_tr b ad) = (((st.take (ww_na t)).reverse).map (ww_tr b ad)).reverse ++ (st.drop (ww_na t)).map (ww_tr b ad) := by
    rw [List.map_reverse, List.reverse_reverse, ← List.map_append, List.take_append_drop]
  have hcf : CallFix p m c (ww_b M) (ww_mL M) s args ww_aw (ww_nm (ww_ow M)) := ⟨hx, hb, hml, hown, hts⟩
  rcases hkd with ⟨hk0, hd⟩ | ⟨hk1, hd, hrcv⟩ | ⟨hk2, hd, hrcv⟩
  · have hst := ww_M_0 ht hk0
    have hgood : GoodIn ww_aw (va_wsS (ww_nm (ww_ow M)) q (ww_y t) (ww_cw t :: ww_aw)) := ww_aw_good (fun w hw => by
      rcases List.mem_append.mp hw with hw | hw
      · simp only [List.mem_cons, List.not_mem_nil, or_false] at hw
        rcases hw with rfl | rfl | rfl
        · exact ww_in_aw hlink
        · exact ww_in_aw hst
        · exact ww_in_aw g2
      · exact hWs w hw)
    have hpar : (ww_y t).cls ≠ "java/lang/invoke/MethodHandle" ∧ (ww_y t).cls ≠ "java/lang/invoke/VarHandle" ∧ (parseMethodDescriptor (ww_y t).desc).map (fun d => d.parameters.length) = some (ww_na t) := ⟨g5, g6, by rw [g7, if_pos hk0]⟩
    cases hhh : ww_hh t with
    | nil =>
      have hcw : ww_cw t = .code (ww_y t) (ww_b t) (ww_mL t) (ww_rt t) := by unfold ww_cw; rw [hhh]
      exact vx_runS hcf hM (va_cwS (ws' := ww_aw) (ww_na t) hts hgood (by rw [hcw]) rfl rfl hpar hRm) ⟨ww_B_blind, fun U h1 h2 => ⟨rfl, hpre U h1 h2⟩⟩ rfl hlen2 hL.1 hstk (lv_room hcat2) hd hf
    | cons z zs =>
      have hcw : ww_cw t = .codeWith (ww_y t) (ww_b t) (ww_mL t) (ww_rt t) (z :: zs) := by unfold ww_cw; rw [hhh]
      exact vx_runSX hcf hM (vx_cwSW (ws' := ww_aw) (ww_na t) hts hgood (by rw [hcw]) rfl rfl hpar hRm) ⟨ww_B_blind, fun U h1 h2 => ⟨rfl, hpre U h1 h2⟩⟩ rfl hlen2 hL.1 hstk (lv_room hcat2) hd hf
  · obtain ⟨w1, w2, w3, w4, w5, w6⟩ := ww_M_1 ht hk1
    have hcw : ww_cw t = .code (ww_y t) (ww_b t) (ww_mL t) (ww_rt t) := by unfold ww_cw; rw [w6]
    have hgood : GoodIn ww_aw (wsV (ww_nm (ww_ow M)) q (ww_y t).cls (ww_y t) (ww_cw t :: ww_aw)) := ww_aw_good (fun w hw => by
      rcases List.mem_append.mp hw with hw | hw
      · simp only [List.mem_cons, List.not_mem_nil, or_false] at hw
        rcases hw with rfl | rfl | rfl | rfl
        · exact ww_in_aw hlink
        · exact ww_in_aw w1
        · exact ww_in_aw w2
        · exact ww_in_aw g2
      · exact hWs w hw)
    generalize hAs : (st.take (ww_na t)).reverse = As at *
    cases As with
    | nil => cases hrcv
    | cons a0 As =>
      cases a0 with
      | ref a =>
        simp only [ww_rcv] at hrcv
        split at hrcv
        · rename_i c9 fs9 hc9
          have hc9' : c9 = ww_ow t := by simpa using hrcv
          subst hc9'
          have hrc := va_recv hK hP (ww_cl_at w4) (ww_w_get hc9)
          rw [show ((ww_c5 (ww_ow t)).1, (ww_c5 (ww_ow t)).2.1, (ww_c5 (ww_ow t)).2.2).1 = (ww_y t).cls from w5.symm] at hrc
          refine vx_runV (As := As.map (ww_tr b ad)) hcf hM (cwV (ws' := ww_aw) (ww_na t - 1) hts hgood (by rw [hcw]) rfl rfl ⟨rfl, g5, g6, by rw [g7, if_neg (by rw [hk1]; decide)]⟩ hRm) ⟨ww_B_blind, hrc, fun U h1 h2 => ⟨rfl, hpre U h1 h2⟩⟩ rfl ?_ hL.1 ?_ (lv_room hcat2) hd hf
          · rw [List.map_cons, List.length_cons] at hlen2
            omega
          · show st.map (ww_tr b ad) = _
            rw [hstk, List.map_cons, List.reverse_cons, List.append_assoc]
            rfl
        · cases hrcv
      | _ => cases hrcv
  · obtain ⟨w1, w2, w3, w4, w5⟩ := ww_M_2 ht hk2
    have hcw : ww_cw t = .code (ww_y t) (ww_b t) (ww_mL t) none := by unfold ww_cw; rw [w5, w3]
    generalize hAs : (st.take (ww_na t)).reverse = As at *
    cases As with
    | nil => cases hrcv
    | cons a0 As =>
      cases a0 with
      | ref a =>
        refine vx_runI (As := As.map (ww_tr b ad)) hcf hM (cwI (ws' := ww_aw) (ww_na t - 1) hts (ww_aw_good hWs) (by rw [hcw]) rfl rfl (ww_word hts g2) (ww_word hts hlink) (ww_word hts w1) w2 ⟨g5, g6, by rw [g7, if_neg (by rw [hk2]; decide)]⟩ hRm) ⟨ww_B_blind, fun U h1 h2 => ⟨rfl, hpre U h1 h2⟩⟩ rfl ?_ hL.1 ?_ (lv_room hcat2) hd hf
        · rw [List.map_cons, List.length_cons] at hlen2
          omega
        · show st.map (ww_tr b ad) = _
          rw [hstk, List.map_cons, List.reverse_cons, List.append_assoc]
          rfl
      | _ => cases hrcv
