theorem ww_hh_ok : (List.range 127).all (fun M => (ww_hh M).all (fun z => decide (z.2.2.2 ≠ 0) && (ww_l3 ww_eT (ww_ow M) z.2.2.2).isSome)) = true := by decide +kernel
theorem ww_e4_ok : (List.range 4).all (fun a => (List.range 4).all (fun b => decide (a = b) || decide (ww_e4 a ≠ ww_e4 b))) = true ∧ (List.range 4).all (fun a => decide (ww_e4 a ∈ ww_ex)) = true ∧ (List.range 4).all (fun a => decide (.castable (ww_e4 a) (ww_e4 a) ∈ ww_bad)) = true := by decide +kernel
theorem ww_e4_ne {a b : Nat} (ha : a < 4) (hb : b < 4) (h : a ≠ b) : ww_e4 a ≠ ww_e4 b ∧ ww_e4 a ∈ ww_ex ∧ ww_e4 b ∈ ww_ex := by
  obtain ⟨h1, h2, -⟩ := ww_e4_ok
  have h3 := List.all_eq_true.mp (List.all_eq_true.mp h1 a (List.mem_range.mpr ha)) b (List.mem_range.mpr hb)
  have h4 := List.all_eq_true.mp h2 a (List.mem_range.mpr ha)
  have h5 := List.all_eq_true.mp h2 b (List.mem_range.mpr hb)
  simp only [Bool.or_eq_true, decide_eq_true_eq] at h3 h4 h5
  exact ⟨h3.resolve_left h, h4, h5⟩
theorem ww_cast_ok (a : Nat) (ha : a < 4) : (.castable (ww_e4 a) (ww_e4 a)) ∈ ww_bad := by
  have h4 := List.all_eq_true.mp ww_e4_ok.2.2 a (List.mem_range.mpr ha)
  simpa using h4
set_option maxHeartbeats 4000000 in
/-- an exception that a callee has thrown: it goes on, or is caught -/
theorem ww_caught {l : Launch} {p : Program} {e : Env} {R : Room} {s : State} {m : MethodId} {args : Array Value} {below : List Frame} {meth : Method} {c : Code} {H : Heap} {locs : List Loc} {Q : State → Prop} {D : va_G} {tA : Nat → ClassId} {b : Nat} {A : Nat → Prop} {S : ww_S} {M pc k n : Nat} {L : List Value} {h : List ww_E} {ad ad0 : Nat → Nat} {n0 : Nat} {ls : Array Slot} {r : ww_R} {e9 : Nat} {rest : List Value} {q : Addr} {ce : Cell}
    (hM : M < 127) (C : ww_C l p R s m args meth c D tA b A S M) (hr : ww_thr M pc e9 h = some r) (hP : va_P D ww_cl (ww_w tA b ad h) H) (hD : va_D A (ww_w tA b ad h)) (hS : va_S A s.heap H locs) (hL : ∃ adL, ww_lR (ww_tr b adL) (ww_mL M) L ls) (hag : ∀ i, i < n0 → ad i = ad0 i) (hk : k ≤ ww_mc M ∧ n ≤ ww_ms M) (h9 : e9 < 4)
    (KR : ww_KR l p e R s m args below meth c Q D tA b A M ad0 n0 r) (KT : ww_KT s args below Q D tA b A M ad0 n0 r)
    (hce : H[q]? = some ce) (hcv : ce.vm = .none) (hcl : s.vm.findClass (ww_e4 e9) = some ce.cls) : vx_W p l e R s m args below meth c H locs k n Q (F0 m pc ls rest) q := by
  obtain ⟨⟨hx, hb, hml, hown, hts⟩, hK, hA, hR, hin, hsc, hZ, ⟨hU, hN⟩, hl, htab, hlocks⟩ := C
  unfold ww_thr at hr
  split at hr
  · rename_i hem
    cases hr
    obtain ⟨Qc, XC, hQ, hX⟩ := KT e9 rfl
    subst hQ
    have hnil : ww_hh M = [] := List.isEmpty_iff.mp hem.1
    exact vx_out (by rw [htab hM, hnil]; intro x hx; cases hx) hlocks hce hcv hcl (fun t ht hal => hX ad H locs t hag hP hD hS hal (by rw [ht]; exact Nat.le_refl _) (fun q _ => by rw [ht])) hS.2.2 hk.1 hk.2
  · split at hr
    · rename_i v hv
      cases hr
      unfold ww_hd at hv
      split at hv
      · rename_i a t hp ct hf
        split at hv
        · rename_i hcond
          obtain ⟨c1, c2, c3⟩ := hcond
          obtain ⟨hz, as, bs, hsplit, hpass⟩ := List.find?_eq_some_iff_append.mp hf
          have hct : ww_l3 ww_eT (ww_ow M) ct = some e9 := by simpa using hz
          have hall := List.all_eq_true.mp ww_hh_ok M (List.mem_range.mpr hM)
          have hent : ∀ z ∈ ww_hh M, z.2.2.2 ≠ 0 ∧ ∃ e8, ww_l3 ww_eT (ww_ow M) z.2.2.2 = some e8 := fun z hz => by
            have h1 := List.all_eq_true.mp hall z hz
            simp only [Bool.and_eq_true, decide_eq_true_eq] at h1
            exact ⟨h1.1, Option.isSome_iff_exists.mp h1.2⟩
          have hlink : ∀ ct e8, ww_l3 ww_eT (ww_ow M) ct = some e8 → e8 < 4 ∧ (Cond.classLink (ww_nm (ww_ow M)) ct (ww_e4 e8)).before args s = true := fun ct e8 h8 => by
            have h1 := List.all_eq_true.mp ww_eT_ok _ (ww_l3_mem h8)
            simp only [Bool.and_eq_true, decide_eq_true_eq] at h1
            exact ⟨h1.1.1.1.1.1, ww_word hts h1.1.1.1.1.2⟩
          have hbad := hZ.1 _ (ww_cast_ok e9 h9)
          have hcast : (Cond.castable (ww_e4 e9) (ww_e4 e9)).before args s = true := va_Nw.use rfl hbad
          obtain ⟨adL, hL⟩ := hL
          refine vx_catch (E := ww_e4 e9) (name := ww_e4 e9) (ce := ce) hown (tableOf as) ⟨a, t, hp, ct⟩ (tableOf bs) ?_ ?_ ?_ ?_ (hlink ct e9 hct).2 hcast hce hcv hcl ?_
          · rw [htab hM, hsplit]
            simp [tableOf]
          · intro z hz
            obtain ⟨w, hw, rfl⟩ := List.mem_map.mp hz
            have hwm : w ∈ ww_hh M := by rw [hsplit]; exact List.mem_append_left _ hw
            obtain ⟨z0, e8, z1⟩ := hent w hwm
            obtain ⟨z2, z3⟩ := hlink _ _ z1
            have hne : e9 ≠ e8 := by
              intro he
              have h1 := hpass w hw
              rw [z1, ← he] at h1
              simp at h1
            obtain ⟨q1, q2, q3⟩ := ww_e4_ne h9 z2 hne
            exact Or.inr ⟨z0, _, z3, hZ.2.1 _ q2 _ q3 q1⟩
          · show (decide (a ≤ pc) && decide (pc < t)) = true
            simp [c1, c2]
          · have h1 := (hent (a, t, hp, ct) (by rw [hsplit]; simp)).1
            exact h1
          · split at hv
            · rename_i i hd0
              split at hv
              · rename_i hi
                split at hv
                · rename_i v1 hd1 hd2
                  cases hv
                  refine lv_astore_n (i := i.val) hx hb hd0 rfl (ww_lR_has hL) hi rfl (fun ls2 h2 => ?_)
                  refine lv_iconst hx hb hd1 rfl ?_
                  exact KR (hp + 1 + 1) (some (.int (Int32.ofInt v))) ad H locs ls2 k n rfl ⟨hd2, Or.inl c3⟩ hag hP hD hS h2.1 hk.1 hk.2
                · cases hv
              · cases hv
            · rename_i i hd0
              split at hv
              · rename_i hi
                split at hv
                · rename_i v1 hd1 hd2
                  cases hv
                  refine lv_astore (i := i) hx hb hd0 (ww_lR_has hL) hi rfl (fun ls2 h2 => ?_)
                  refine lv_iconst hx hb hd1 rfl ?_
                  exact KR (hp + 2 + 1) (some (.int (Int32.ofInt v))) ad H locs ls2 k n rfl ⟨hd2, Or.inl c3⟩ hag hP hD hS h2.1 hk.1 hk.2
                · cases hv
              · cases hv
            · cases hv
        · cases hv
      · cases hv
    · cases hr
theorem ww_noexc : ∀ f S M pc L st h k n r, ww_run f S M pc L st h k n = some r → ∀ e9, r.1 = .inr e9 → e9 < 4 := by
  intro f
  induction f with
  | zero => intro S M pc L st h k n r e; cases e
  | succ f ih =>
    intro S M pc L st h k n r e e9 he
    have hcall : ∀ (t : Nat) (vr : Bool) (len : Nat), ww_call (ww_run f) S t vr M len pc L st h k n = some r → e9 < 4 := by
      intro t vr len hc
      unfold ww_call at hc
      split at hc
      · split at hc
        · exact ih _ _ _ _ _ _ _ _ _ hc e9 he
        · rename_i e8 h1 hc1
          unfold ww_thr at hc
          split at hc
          · cases hc
            cases he
            exact ih _ _ _ _ _ _ _ _ _ hc1 e9 rfl
          · split at hc
            · cases hc; cases he
            · cases hc
        · cases hc
      · cases hc
    unfold ww_run ww_x at e
    split at e
    · cases e
    · rename_i i len hacd
      have hinv := ww_inv hacd
      split at e
      · split at e
        · cases e; cases he
        · cases e
      · split at e
        · split at e
          · cases e; cases he
          · cases e
        · cases e
      · split at e
        · cases e; cases he
        · cases e
      · split at e
        · cases e; cases he
        · cases e
      · split at e
        · cases e; cases he
        · cases e
      · split at e
        · cases e
          cases he
          obtain ⟨q, ic, -, h2, -⟩ := hinv
          have h1 := List.all_eq_true.mp ww_eT_ok _ (ww_l3_mem h2)
          simp only [Bool.and_eq_true, decide_eq_true_eq] at h1
          exact h1.1.1.1.1.1
        · cases e
      · exact hcall _ _ _ e
      · exact hcall _ _ _ e
      · exact hcall _ _ _ e
      · split at e
        · exact ih _ _ _ _ _ _ _ _ _ e e9 he
        · cases e
