set_option maxHeartbeats 4000000 in
theorem ww_kn {S : ww_S} {M len pc k n : Nat} {L st : List Value} {h : List ww_E} {i : Instr} {o : Nat × List Value × List Value × List ww_E × Nat × Nat} (e : ww_st S M len pc L st h k n i = some o) (g : k ≤ ww_mc M ∧ n ≤ ww_ms M) : o.2.2.2.2.1 ≤ ww_mc M ∧ o.2.2.2.2.2 ≤ ww_ms M := by
  unfold ww_st at e
  split at e
  all_goals (try (cases e; done))
  all_goals (try (cases e; exact g))
  all_goals (try (split at e))
  all_goals (try (cases e; done))
  all_goals (try (cases e; exact g))
  all_goals (try (split at e))
  all_goals (try (cases e; done))
  all_goals (try (cases e; exact g))
  all_goals (try (split at e))
  all_goals (try (cases e; done))
  all_goals (try (cases e; exact g))
  all_goals (try (split at e))
  all_goals (try (cases e; done))
  all_goals (try (cases e; exact g))
  all_goals (cases e; first | (rename_i h9; exact ⟨h9.1, h9.2.1⟩) | (rename_i h9; simp only [not_or, Nat.not_lt] at h9; exact ⟨h9.2.2.1, h9.2.2.2⟩) | (rename_i h9 _; simp only [not_or, Nat.not_lt] at h9; exact ⟨h9.2.2.1, h9.2.2.2⟩))
set_option maxHeartbeats 4000000 in
theorem ww_sound (l : Launch) (hl : l.stackTraces = false) : ∀ f, ww_snd l f := by
  intro f
  induction f with
  | zero => intro S M pc L st h k n r e; cases e
  | succ f ih =>
    intro S M pc L st h k n r hrun hM p e R s m args below meth c H locs Q D tA b A ad ls C I g hkm KR KT
    have hag : ∀ i, i < h.length → ad i = ad i := fun _ _ => rfl
    obtain ⟨hP, hD, hS, hL⟩ := id I
    have hsize := hL.1
    unfold ww_run ww_x at hrun
    split at hrun
    · cases hrun
    · rename_i i len hacd
      have hinv := ww_inv hacd
      have hcall : ∀ (t : Nat) (vr : Bool) (q : Nat), len = 3 → ww_l3 ww_cT (ww_ow M) q = some t → ww_lv t < ww_lv M → ww_call (ww_run f) S t vr M len pc L st h k n = some r →
          ((ww_kd t = 0 ∧ decode (ww_b M) pc = .ok (.invokestatic q, 3)) ∨ (ww_kd t = 1 ∧ decode (ww_b M) pc = .ok (.invokevirtual q, 3) ∧ vr = true) ∨ (ww_kd t = 2 ∧ decode (ww_b M) pc = .ok (.invokespecial q, 3) ∧ vr = true)) →
          W p l e R s m args below meth c H locs k n Q (F0 m pc ls (st.map (ww_tr b ad))) := by
        intro t vr q hl3 hq hlv hc hkd
        subst hl3
        obtain ⟨gL, gs, gh⟩ := id g
        unfold ww_call at hc
        split at hc
        · rename_i hcond
          obtain ⟨c1, c2, c3, c4, c5⟩ := hcond
          have hfree := ww_freeA hD hS C.2.2.1
          have hkd' : (ww_kd t = 0 ∧ decode (ww_b M) pc = .ok (.invokestatic q, 3)) ∨ (ww_kd t = 1 ∧ decode (ww_b M) pc = .ok (.invokevirtual q, 3) ∧ ww_rcv h t (st.take (ww_na t)).reverse = true) ∨ (ww_kd t = 2 ∧ decode (ww_b M) pc = .ok (.invokespecial q, 3) ∧ ww_rcv h t (st.take (ww_na t)).reverse = true) := by
            rcases hkd with h1 | ⟨h1, h2, h3⟩ | ⟨h1, h2, h3⟩
            · exact Or.inl h1
            · exact Or.inr (Or.inl ⟨h1, h2, c5 h3⟩)
            · exact Or.inr (Or.inr ⟨h1, h2, c5 h3⟩)
          have hbud : k + ww_mc t ≤ ww_mc M ∧ n + ww_ms t ≤ ww_ms M := by
            obtain ⟨k1, k2⟩ := hkm
            rcases c4 with ⟨b1, b2⟩ | ⟨b1, b2⟩ <;> omega
          have hwe : ww_g (ww_en (ww_mL t) (st.take (ww_na t)).reverse) [] h := ⟨ww_en_ov (ww_ol_take gs), (fun v hv => nomatch hv), gh⟩
          split at hc
          · rename_i v h1 hc1
            obtain ⟨w1, w2, w3⟩ := ww_wf _ _ _ _ _ _ _ _ _ _ hc1 hwe
            refine ww_axcall (ww_callrun ih C I g hkm hq hlv c1 c2 c3 c4 hc1 hkd') ?_ ?_
            · rintro v2 st₀ t2 Lx h0 hal ⟨⟨v3, ad', e1, e2, e3, e4, e5⟩, hF⟩ hLx
              cases e1
              cases e2
              obtain ⟨s1, s2, s3⟩ := vx_keep (T' := t2) h0 rfl hS (fun q _ hq => hfree q hq) hfree hLx hF
              have hD1 : va_D A (ww_w tA b ad' h1) := e5.weaken (fun _ _ _ hq => hfree _ hq)
              have hst : (v.map (ww_tr b ad')).toList ++ (st.drop (ww_na t)).map (ww_tr b ad) = (v.toList ++ st.drop (ww_na t)).map (ww_tr b ad') := by
                rw [List.map_append, ww_trl_ext e3 (ww_ol_drop gs)]
                cases v <;> rfl
              rw [hst]
              have hgs : ww_g L (v.toList ++ st.drop (ww_na t)) h1 := ⟨ww_ol_mono w2 gL, (fun w hw => by
                rcases List.mem_append.mp hw with hw | hw
                · cases v with
                  | none => cases hw
                  | some v => rw [show w = v from List.mem_singleton.mp hw]; exact w3 v rfl
                · exact ww_ov_mono w2 (ww_ol_drop gs w hw)), w1⟩
              exact ih S M (pc + 3) L _ h1 _ _ r hc hM p e R s m args below meth c t2.heap (locs ++ Lx) Q D tA b A ad' ls C ⟨e4, hD1, s3, ww_lR_ext e3 gL hL⟩ hgs hbud (KR.mono w2 e3) (KT.mono w2 e3)
            · rintro q9 st₀ t2 Lx E ce h0 hal ⟨⟨e9, ad', e1, -⟩, -⟩
              cases e1
          · rename_i e9 h1 hc1
            obtain ⟨w1, w2, w3⟩ := ww_wf _ _ _ _ _ _ _ _ _ _ hc1 hwe
            refine ww_axcall (ww_callrun ih C I g hkm hq hlv c1 c2 c3 c4 hc1 hkd') ?_ ?_
            · rintro v2 st₀ t2 Lx h0 hal ⟨⟨v3, ad', e1, -⟩, -⟩
              cases e1
            · rintro q9 st₀ t2 Lx E ce h0 hal ⟨⟨e8, ad', e1, e2, e3, e4, e5⟩, hF⟩ hLx hce hcv hcl
              cases e1
              subst e2
              obtain ⟨s1, s2, s3⟩ := vx_keep (T' := t2) h0 rfl hS (fun q _ hq => hfree q hq) hfree hLx hF
              have hD1 : va_D A (ww_w tA b ad' h1) := e5.weaken (fun _ _ _ hq => hfree _ hq)
              have hM7 : M < 127 ∨ M = 127 := by omega
              rcases hM7 with hM7 | hM7
              · exact ww_caught hM7 C hc e4 hD1 s3 ⟨ad, hL⟩ e3 hbud (ww_noexc _ _ _ _ _ _ _ _ _ _ hc1 e9 rfl) KR KT hce hcv hcl
              · subst hM7
                unfold ww_thr at hc
                rw [if_neg (by decide)] at hc
                split at hc
                · rename_i v hv
                  exact absurd hv (by rw [show ww_hd 127 pc e9 = none from rfl]; exact fun h => by cases h)
                · cases hc
          · cases hc
        · cases hc
      split at hrun
      · split at hrun
        · rename_i v
          cases hrun
          exact KR pc (some (.int v)) ad H locs ls k n rfl ⟨hinv.1, Or.inl hinv.2⟩ hag hP hD hS hsize hkm.1 hkm.2
        · cases hrun
      · split at hrun
        · rename_i v
          split at hrun
          · rename_i h01
            cases hrun
            exact KR pc (some (.int v)) ad H locs ls k n rfl ⟨hinv.1, Or.inr ⟨hinv.2, h01⟩⟩ hag hP hD hS hsize hkm.1 hkm.2
          · cases hrun
        · cases hrun
      · split at hrun
        · rename_i v
          cases hrun
          exact KR pc (some (.long v)) ad H locs ls k n rfl hinv hag hP hD hS hsize hkm.1 hkm.2
        · cases hrun
      · split at hrun
        · rename_i v
          cases hrun
          exact KR pc (some (.ref v)) ad H locs ls k n rfl hinv hag hP hD hS hsize hkm.1 hkm.2
        · cases hrun
      · split at hrun
        · cases hrun
          exact KR pc none ad H locs ls k n rfl hinv hag hP hD hS hsize hkm.1 hkm.2
        · cases hrun
      · split at hrun
        · rename_i e9 hcond
          obtain ⟨b1, b2, rfl, b3, b4⟩ := hcond
          cases hrun
          obtain ⟨Qc, XC, hQ, hX⟩ := KT e9 rfl
          subst hQ
          obtain ⟨⟨hx, hb, hml, hown, hts⟩, hK, hA, hR, hin, hsc, hZ, ⟨hU, hN⟩, hl2, htab, hlocks⟩ := C
          obtain ⟨q, ic, d0, h2, d3, d4, d7, h5, h6⟩ := hinv
          have h1 := List.all_eq_true.mp ww_eT_ok _ (ww_l3_mem h2)
          simp only [Bool.and_eq_true, decide_eq_true_eq] at h1
          obtain ⟨⟨⟨⟨⟨z0, z1⟩, z2⟩, z3⟩, z4⟩, z5⟩ := h1
          have hxT := List.all_eq_true.mp (List.all_eq_true.mp ww_xT_ok _ (ww_l3_mem h5))
          have hnil : ww_hh M = [] := List.isEmpty_iff.mp b3
          refine vx_throw0 (names := ww_nms) (ic := ic) (ik := q) (cls := ww_e4 e9) hx hb hl hown z5 ww_nms_ok (ww_word hts z1) (ww_word hts z2) (fun w hw => ?_) (fun w hw => ?_) hU hN hS (by rw [hml]; exact hsize) d0 d3 d4 d7 (by rw [htab b4, hnil]; intro x hx; cases hx) ?_ ?_ (Nat.le_trans b1 hR.1) (Nat.le_trans b2 hR.2.1) hlocks (fun t hal hsz hkp => hX ad H locs t hag hP hD hS hal hsz hkp) hS.2.2 b1 b2
          · have h7 := hxT w hw
            simp only [Bool.and_eq_true, Bool.or_eq_true, decide_eq_true_eq] at h7
            rcases h7.1 with h8 | h8
            · exact ww_word hts h8
            · have hb9 := List.all_eq_true.mp ww_bad_ok w h8
              simp only [Bool.and_eq_true] at hb9
              exact va_Nw.use hb9.2 (hZ.1 w h8)
          · rcases List.mem_cons.mp hw with rfl | hw
            · exact z3
            · rcases List.mem_cons.mp hw with rfl | hw
              · exact z4
              · have h7 := hxT w hw
                simp only [Bool.and_eq_true] at h7
                exact h7.2
          · have := hR.2.2.1
            show 2 + 3 < R.frames
            omega
          · have := hR.2.2.2
            show 0 + (13 * (2 + 1) + 42) ≤ R.locals
            omega
        · cases hrun
      · obtain ⟨hl3, q, h1, h2, h3, h4⟩ := hinv
        exact hcall _ _ q hl3 h2 h4 hrun (Or.inl ⟨h3, h1⟩)
      · obtain ⟨hl3, q, h1, h2, h3, h4⟩ := hinv
        exact hcall _ _ q hl3 h2 h4 hrun (Or.inr (Or.inl ⟨h3, h1, rfl⟩))
      · obtain ⟨hl3, q, h1, h2, h3, h4⟩ := hinv
        exact hcall _ _ q hl3 h2 h4 hrun (Or.inr (Or.inr ⟨h3, h1, rfl⟩))
      · split at hrun
        · rename_i pc' L' st' h' k' n' hs
          have hw := ww_wf_st hs g
          refine ww_step C I g hkm hacd hs (fun ad' H' locs' ls' hag' I' => ?_)
          exact ih S M pc' L' st' h' k' n' r hrun hM p e R s m args below meth c H' locs' Q D tA b A ad' ls' C I' hw.1 (ww_kn hs hkm) (KR.mono hw.2.1 hag') (KT.mono hw.2.1 hag')
        · cases hrun
