set_option maxHeartbeats 8000000 in
theorem ww_inv {M pc len : Nat} {j : Instr} (ha : ww_acd M pc = some (j, len)) : match j with
    | .ireturn => decode (ww_b M) pc = .ok (.ireturn, 1) ∧ ww_rt M = some .int
    | .freturn => decode (ww_b M) pc = .ok (.ireturn, 1) ∧ ww_rt M = some .boolean
    | .lreturn => decode (ww_b M) pc = .ok (.lreturn, 1) ∧ ww_rt M = some .long
    | .areturn => decode (ww_b M) pc = .ok (.areturn, 1) ∧ ww_rt M = some (.object "WaterWorks$Customer")
    | .return_ => decode (ww_b M) pc = .ok (.return_, 1) ∧ ww_rt M = none
    | .invokestatic t => len = 3 ∧ ∃ q, decode (ww_b M) pc = .ok (.invokestatic q, 3) ∧ ww_l3 ww_cT (ww_ow M) q = some t ∧ ww_kd t = 0 ∧ ww_lv t < ww_lv M
    | .invokevirtual t => len = 3 ∧ ∃ q, decode (ww_b M) pc = .ok (.invokevirtual q, 3) ∧ ww_l3 ww_cT (ww_ow M) q = some t ∧ ww_kd t = 1 ∧ ww_lv t < ww_lv M
    | .invokespecial t => len = 3 ∧ ∃ q, decode (ww_b M) pc = .ok (.invokespecial q, 3) ∧ ww_l3 ww_cT (ww_ow M) q = some t ∧ ww_kd t = 2 ∧ ww_lv t < ww_lv M
    | .checkcast e => ∃ q ic, decode (ww_b M) pc = .ok (.new q, 3) ∧ ww_l3 ww_eT (ww_ow M) q = some e ∧ decode (ww_b M) (pc + 3) = .ok (.dup, 1) ∧ decode (ww_b M) (pc + 4) = .ok (.invokespecial ic, 3) ∧ decode (ww_b M) (pc + 7) = .ok (.athrow, 1) ∧ ww_l3 ww_xT (ww_ow M) ic = some e ∧ 1 ≤ ww_lv M
    | _ => True := by
  unfold ww_acd at ha
  split at ha
  case h_2 => cases ha
  rename_i i n0 hd
  split at ha
  case isFalse => cases ha
  rename_i hlen
  cases i with
  | ireturn =>
    have hn : n0 = 1 := by simpa [ww_ln, ww_isT] using hlen
    subst hn
    simp only [ww_rs] at ha
    split at ha
    · rename_i hr
      cases ha
      exact ⟨hd, hr⟩
    · split at ha
      · rename_i hr
        cases ha
        exact ⟨hd, hr⟩
      · cases ha
  | lreturn =>
    have hn : n0 = 1 := by simpa [ww_ln, ww_isT] using hlen
    subst hn
    simp only [ww_rs] at ha
    split at ha
    · rename_i hr
      cases ha
      exact ⟨hd, hr⟩
    · cases ha
  | areturn =>
    have hn : n0 = 1 := by simpa [ww_ln, ww_isT] using hlen
    subst hn
    simp only [ww_rs] at ha
    split at ha
    · rename_i hr
      cases ha
      exact ⟨hd, hr⟩
    · cases ha
  | return_ =>
    have hn : n0 = 1 := by simpa [ww_ln, ww_isT] using hlen
    subst hn
    simp only [ww_rs] at ha
    split at ha
    · rename_i hr
      cases ha
      exact ⟨hd, hr⟩
    · cases ha
  | invokestatic q =>
    have hn : n0 = 3 := by simpa [ww_ln, ww_isT] using hlen
    subst hn
    simp only [ww_rs] at ha
    cases hv : ww_l3 ww_cT (ww_ow M) q with
    | none => rw [hv] at ha; cases ha
    | some v =>
      rw [hv] at ha
      simp only [Option.bind_some] at ha
      split at ha
      · rename_i hk
        cases ha
        exact ⟨rfl, q, hd, hv, hk⟩
      · cases ha
  | invokevirtual q =>
    have hn : n0 = 3 := by simpa [ww_ln, ww_isT] using hlen
    subst hn
    simp only [ww_rs] at ha
    cases hv : ww_l3 ww_cT (ww_ow M) q with
    | none => rw [hv] at ha; cases ha
    | some v =>
      rw [hv] at ha
      simp only [Option.bind_some] at ha
      split at ha
      · rename_i hk
        cases ha
        exact ⟨rfl, q, hd, hv, hk⟩
      · cases ha
  | invokespecial q =>
    have hn : n0 = 3 := by simpa [ww_ln, ww_isT] using hlen
    subst hn
    simp only [ww_rs] at ha
    split at ha
    · cases ha
      trivial
    · cases hv : ww_l3 ww_cT (ww_ow M) q with
      | none => rw [hv] at ha; cases ha
      | some v =>
        rw [hv] at ha
        simp only [Option.bind_some] at ha
        split at ha
        · rename_i hk
          cases ha
          exact ⟨rfl, q, hd, hv, hk⟩
        · cases ha
  | new q =>
    have hn : n0 = 3 := by simpa [ww_ln, ww_isT] using hlen
    subst hn
    simp only [ww_rs] at ha
    cases hv : ww_l3 ww_nT (ww_ow M) q with
    | some v =>
      rw [hv] at ha
      cases ha
      trivial
    | none =>
      rw [hv] at ha
      cases he : ww_l3 ww_eT (ww_ow M) q with
      | none => rw [he] at ha; cases ha
      | some v =>
        rw [he] at ha
        simp only [Option.bind_some] at ha
        split at ha
        · rename_i h3 h4 h7
          split at ha
          · rename_i hx
            cases ha
            exact ⟨q, _, hd, he, h3, h4, h7, hx.1, hx.2⟩
          · cases ha
        · cases ha
  | putfield q =>
    simp only [ww_rs] at ha
    cases hv : ww_l3 ww_fT (ww_ow M) q with
    | none => rw [hv] at ha; cases ha
    | some v =>
      rw [hv] at ha
      simp only [Option.bind_some] at ha
      split at ha
      · cases ha; trivial
      · cases ha
  | ldc q =>
    simp only [ww_rs] at ha
    cases hv : ww_l3 ww_iT (ww_ow M) q with
    | none => rw [hv] at ha; cases ha
    | some v => rw [hv] at ha; cases ha; trivial
  | ldc_w q =>
    simp only [ww_rs] at ha
    cases hv : ww_l3 ww_iT (ww_ow M) q with
    | none => rw [hv] at ha; cases ha
    | some v => rw [hv] at ha; cases ha; trivial
  | ldc2_w q =>
    simp only [ww_rs] at ha
    cases hv : ww_l3 ww_lT (ww_ow M) q with
    | none => rw [hv] at ha; cases ha
    | some v => rw [hv] at ha; cases ha; trivial
  | getfield q =>
    simp only [ww_rs] at ha
    cases hv : ww_l3 ww_fT (ww_ow M) q with
    | none => rw [hv] at ha; cases ha
    | some v => rw [hv] at ha; cases ha; trivial
  | _ =>
    simp only [ww_rs, ww_keep] at ha
    first | (cases ha; trivial) | (split at ha <;> cases ha <;> trivial) | (exact absurd ha (by simp))
