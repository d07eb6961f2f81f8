theorem ww_en_ov {n nL : Nat} {vs : List Value} (h : ww_ol n vs) : ww_ol n (ww_en nL vs) := by
  intro v hv
  unfold ww_en at hv
  rcases List.mem_append.mp hv with h1 | h1
  · obtain ⟨w, hw, h2⟩ := List.mem_flatMap.mp h1
    split at h2
    · rcases List.mem_cons.mp h2 with h3 | h3
      · rw [h3]; exact h w hw
      · rw [List.mem_singleton.mp h3]; trivial
    · rw [List.mem_singleton.mp h2]; exact h w hw
  · rw [(List.mem_replicate.mp h1).2]; trivial
/-- what a result holds is in range -/
def ww_gr (n : Nat) (r : ww_R) : Prop := ww_oh r.2.length r.2 ∧ n ≤ r.2.length ∧ ∀ v, r.1 = .inl (some v) → ww_ov r.2.length v
theorem ww_gr_thr {M pc e n : Nat} {h : List ww_E} {r : ww_R} (hr : ww_thr M pc e h = some r) (g : ww_oh h.length h) (hn : n ≤ h.length) : ww_gr n r := by
  unfold ww_thr at hr
  split at hr
  · cases hr; exact ⟨g, hn, fun v hv => by cases hv⟩
  · split at hr
    · cases hr; exact ⟨g, hn, fun v hv => by cases hv; trivial⟩
    · cases hr
theorem ww_ol_take {n k : Nat} {l : List Value} (h : ww_ol n l) : ww_ol n (l.take k).reverse := fun v hv => h v (List.mem_of_mem_take (List.mem_reverse.mp hv))
theorem ww_ol_drop {n k : Nat} {l : List Value} (h : ww_ol n l) : ww_ol n (l.drop k) := fun v hv => h v (List.mem_of_mem_drop hv)
theorem ww_wf_call {f : Nat} (ih : ∀ (S : ww_S) (M pc : Nat) (L st : List Value) (h : List ww_E) (k n : Nat) (r : ww_R), ww_run f S M pc L st h k n = some r → ww_g L st h → ww_gr h.length r)
    {S : ww_S} {t M len pc k n : Nat} {vr : Bool} {L st : List Value} {h : List ww_E} {r : ww_R} (e : ww_call (ww_run f) S t vr M len pc L st h k n = some r) (g : ww_g L st h) : ww_gr h.length r := by
  obtain ⟨gL, gs, gh⟩ := g
  unfold ww_call at e
  split at e
  · split at e
    · rename_i v h1 hc
      obtain ⟨g1, g2, g3⟩ := ih _ _ _ _ _ _ _ _ _ hc ⟨ww_en_ov (ww_ol_take gs), (fun v hv => nomatch hv), gh⟩
      obtain ⟨q1, q2, q3⟩ := ih _ _ _ _ _ _ _ _ _ e ⟨ww_ol_mono g2 gL, (fun w hw => by
        rcases List.mem_append.mp hw with hw | hw
        · cases v with
          | none => cases hw
          | some v => rw [show w = v from List.mem_singleton.mp hw]; exact g3 v rfl
        · exact ww_ov_mono g2 (ww_ol_drop gs w hw)), g1⟩
      exact ⟨q1, Nat.le_trans g2 q2, q3⟩
    · rename_i e9 h1 hc
      obtain ⟨g1, g2, g3⟩ := ih _ _ _ _ _ _ _ _ _ hc ⟨ww_en_ov (ww_ol_take gs), (fun v hv => nomatch hv), gh⟩
      exact ww_gr_thr e g1 g2
    · cases e
  · cases e
theorem ww_wf : ∀ (f : Nat) (S : ww_S) (M pc : Nat) (L st : List Value) (h : List ww_E) (k n : Nat) (r : ww_R), ww_run f S M pc L st h k n = some r → ww_g L st h → ww_gr h.length r := by
  intro f
  induction f with
  | zero => intro S M pc L st h k n r e; cases e
  | succ f ih =>
    intro S M pc L st h k n r e g
    obtain ⟨gL, gs, gh⟩ := id g
    unfold ww_run ww_x at e
    split at e
    · cases e
    · split at e
      · split at e
        · cases e; exact ⟨gh, Nat.le_refl _, fun v hv => by cases hv; trivial⟩
        · cases e
      · split at e
        · split at e
          · cases e; exact ⟨gh, Nat.le_refl _, fun v hv => by cases hv; trivial⟩
          · cases e
        · cases e
      · split at e
        · cases e; exact ⟨gh, Nat.le_refl _, fun v hv => by cases hv; trivial⟩
        · cases e
      · split at e
        · cases e; exact ⟨gh, Nat.le_refl _, fun v hv => by cases hv; exact (ww_ol_cons.mp gs).1⟩
        · cases e
      · split at e
        · cases e; exact ⟨gh, Nat.le_refl _, fun v hv => by cases hv⟩
        · cases e
      · split at e
        · cases e; exact ⟨gh, Nat.le_refl _, fun v hv => by cases hv⟩
        · cases e
      · exact ww_wf_call ih e g
      · exact ww_wf_call ih e g
      · exact ww_wf_call ih e g
      · split at e
        · rename_i hs
          obtain ⟨g1, g2, g3⟩ := ww_wf_st hs g
          obtain ⟨q1, q2, q3⟩ := ih _ _ _ _ _ _ _ _ _ e g1
          exact ⟨q1, Nat.le_trans g2 q2, q3⟩
        · cases e
/-! the world that an abstract heap stands for -/
def ww_tr (b : Nat) (ad : Nat → Nat) : Value → Value
  | .ref i => .ref (ad i)
  | .retAddr 1 => .ref b
  | v => v
def ww_cv (tA : Nat → ClassId) (b : Nat) (ad : Nat → Nat) : ww_E → va_E
  | .inl (t, N, .inr (.inr (.inr (.inr f)))) => .inl (tA t, N, .inr (.inr (.inr (.inr (fun j => (f j).map ad)))))
  | .inl (t, x) => .inl (tA t, x)
  | .inr (c, fs) => .inr (c, fs.map (ww_tr b ad))
def ww_w (tA : Nat → ClassId) (b : Nat) (ad : Nat → Nat) (h : List ww_E) : va_W := h.mapIdx (fun i c => (ad i, ww_cv tA b ad c))
theorem ww_w_get {tA : Nat → ClassId} {b : Nat} {ad : Nat → Nat} {h : List ww_E} {i : Nat} {c : ww_E} (hi : h[i]? = some c) : (ww_w tA b ad h)[i]? = some (ad i, ww_cv tA b ad c) := by
  unfold ww_w
  rw [List.getElem?_mapIdx, hi]; rfl
theorem ww_w_set {tA : Nat → ClassId} {b : Nat} {ad : Nat → Nat} {h : List ww_E} {i : Nat} {c : ww_E} : ww_w tA b ad (h.set i c) = (ww_w tA b ad h).set i (ad i, ww_cv tA b ad c) := by
  apply List.ext_getElem?
  intro j
  unfold ww_w
  rw [List.getElem?_mapIdx, List.getElem?_set, List.getElem?_set, List.getElem?_mapIdx, List.length_mapIdx]
  split
  · rename_i hij
    subst hij
    split <;> rfl
  · rfl
theorem ww_w_app {tA : Nat → ClassId} {b : Nat} {ad : Nat → Nat} {h : List ww_E} {c : ww_E} : ww_w tA b ad (h ++ [c]) = ww_w tA b ad h ++ [(ad h.length, ww_cv tA b ad c)] := by
  unfold ww_w
  rw [List.mapIdx_append]
  simp
theorem ww_tr_ext {b n : Nat} {ad ad' : Nat → Nat} (e : ∀ i, i < n → ad' i = ad i) {v : Value} (h : ww_ov n v) : ww_tr b ad' v = ww_tr b ad v := by
  unfold ww_tr
  split
  · rw [e _ h]
  · rfl
  · rfl
theorem ww_trl_ext {b n : Nat} {ad ad' : Nat → Nat} (e : ∀ i, i < n → ad' i = ad i) {l : List Value} (h : ww_ol n l) : l.map (ww_tr b ad') = l.map (ww_tr b ad) := List.map_congr_left (fun v hv => ww_tr_ext e (h v hv))
theorem ww_cv_ext {tA : Nat → ClassId} {b n : Nat} {ad ad' : Nat → Nat} (e : ∀ i, i < n → ad' i = ad i) {c : ww_E} (h : ww_oc n c) : ww_cv tA b ad' c = ww_cv tA b ad c := by
  rcases c with ⟨t, N, f | f | f | f | f⟩ | ⟨ci, fs⟩
  · rfl
  · rfl
  · rfl
  · rfl
  · have hf : (fun j => (f j).map ad') = (fun j => (f j).map ad) := by
      funext j
      cases hj : f j with
      | none => rfl
      | some a => show some (ad' a) = some (ad a); rw [e a (h j a hj)]
    show (Sum.inl (tA t, N, .inr (.inr (.inr (.inr (fun j => (f j).map ad'))))) : va_E) = Sum.inl (tA t, N, .inr (.inr (.inr (.inr (fun j => (f j).map ad)))))
    rw [hf]
  · show (Sum.inr (ci, fs.map (ww_tr b ad')) : va_E) = Sum.inr (ci, fs.map (ww_tr b ad))
    rw [ww_trl_ext e h]
theorem ww_w_ext {tA : Nat → ClassId} {b : Nat} {ad ad' : Nat → Nat} {h : List ww_E} (e : ∀ i, i < h.length → ad' i = ad i) (hh : ww_oh h.length h) : ww_w tA b ad' h = ww_w tA b ad h := by
  apply List.ext_getElem?
  intro j
  unfold ww_w
  rw [List.getElem?_mapIdx, List.getElem?_mapIdx]
  cases hj : h[j]? with
  | none => rfl
  | some c =>
    have hl := (List.getElem?_eq_some_iff.mp hj).1
    show some (ad' j, ww_cv tA b ad' c) = some (ad j, ww_cv tA b ad c)
    rw [e j hl, ww_cv_ext e (ww_oh_get hh hj)]
theorem ww_tr_cat (b : Nat) (ad : Nat → Nat) (v : Value) : (ww_tr b ad v).category = v.category := by
  unfold ww_tr
  split <;> rfl
theorem ww_trl_cat (b : Nat) (ad : Nat → Nat) (l : List Value) : ((l.map (ww_tr b ad)).map (fun v => v.category)).sum = (l.map (fun v => v.category)).sum := by
  rw [List.map_map]
  congr 1
  exact List.map_congr_left (fun v _ => ww_tr_cat b ad v)
/-- the locals: what the list tells of the frame's own -/
def ww_lR (tv : Value → Value) (nL : Nat) (L : List Value) (ls : Array Slot) : Prop := ls.size = nL ∧ lv_wf ls ∧ L.length = nL ∧ ∀ (i : Nat) (v : Value), L[i]? = some v → v ≠ ww_U → ls[i]? = some (.val (tv v))
def ww_ll (tv : Value → Value) (L : List Value) : List (Nat × Value) := (L.zipIdx.filter (fun q => decide (q.1 ≠ ww_U))).map (fun q => (q.2, tv q.1))
theorem ww_ll_mem {tv : Value → Value} {L : List Value} {q : Nat × Value} : q ∈ ww_ll tv L ↔ ∃ v, L[q.1]? = some v ∧ v ≠ ww_U ∧ q.2 = tv v := by
  unfold ww_ll
  simp only [List.mem_map, List.mem_filter, decide_eq_true_eq]
  constructor
  · rintro ⟨⟨v, i⟩, ⟨h1, h2⟩, rfl⟩
    exact ⟨v, List.mem_zipIdx_iff_getElem?.mp h1, h2, rfl⟩
  · rintro ⟨v, h1, h2, h3⟩
    obtain ⟨i, w⟩ := q
    exact ⟨(v, i), ⟨List.mem_zipIdx_iff_getElem?.mpr h1, h2⟩, Prod.ext rfl h3.symm⟩
theorem ww_lR_has {tv : Value → Value} {nL : Nat} {L : List Value} {ls : Array Slot} (h : ww_lR tv nL L ls) : lv_has ls nL (ww_ll tv L) := by
  refine ⟨h.1, h.2.1, fun q hq => ?_⟩
  obtain ⟨v, h1, h2, h3⟩ := ww_ll_mem.mp hq
  rw [h3]
  exact h.2.2.2 _ v h1 h2
theorem ww_s1_at {L : List Value} {i : Nat} {v : Value} (hi : i < L.length) : (ww_s1 L i v)[i]? = some v := by
  unfold ww_s1
  refine List.getElem?_set_self ?_
  split
  · omega
  · rw [List.length_modify]; omega
theorem ww_s1_key {L : List Value} {i j : Nat} {v w : Value} (hij : j ≠ i) (hw : w ≠ ww_U) (hj : (ww_s1 L i v)[j]? = some w) : L[j]? = some w ∧ ¬ (j + 1 = i ∧ w.category = 2) := by
  unfold ww_s1 at hj
  rw [List.getElem?_set_ne (fun e => hij e.symm)] at hj
  split at hj
  · exact ⟨hj, fun e => by omega⟩
  · rw [List.getElem?_modify] at hj
    cases hq : L[j]? with
    | none => rw [hq] at hj; simp at hj
    | some q =>
      rw [hq] at hj
      simp only [Option.map_eq_map, Option.map_some, Option.some.injEq] at hj
      split at hj
      · have : q = w ∧ w.category ≠ 2 := by
          cases q <;> first | (exact absurd hj.symm hw) | (subst hj; exact ⟨rfl, fun e => by simp [ww_k1, Value.category] at e⟩)
        exact ⟨by rw [this.1], fun e => this.2 e.2⟩
      · subst hj
        exact ⟨rfl, fun e => by omega⟩
theorem ww_lR_s1 {b : Nat} {ad : Nat → Nat} {nL i : Nat} {v : Value} {L : List Value} {ls ls' : Array Slot} (h : ww_lR (ww_tr b ad) nL L ls) (hi : i < nL) (hs : lv_has ls' nL ((i, ww_tr b ad v) :: (ww_ll (ww_tr b ad) L).filter (fun q => !(q.1 == i) && !(q.1 + 1 == i && q.2.category == 2)))) : ww_lR (ww_tr b ad) nL (ww_s1 L i v) ls' := by
  refine ⟨hs.1, hs.2.1, by rw [ww_s1_len]; exact h.2.2.1, fun j w hj hw => ?_⟩
  by_cases hij : j = i
  · subst hij
    rw [ww_s1_at (by rw [h.2.2.1]; exact hi)] at hj
    cases hj
    exact hs.2.2 (j, ww_tr b ad v) List.mem_cons_self
  · have key := ww_s1_key hij hw hj
    refine hs.2.2 (j, ww_tr b ad w) (List.mem_cons_of_mem _ (List.mem_filter.mpr ⟨ww_ll_mem.mpr ⟨w, key.1, hw, rfl⟩, ?_⟩))
    have h2 := key.2
    simp only [ww_tr_cat, Bool.and_eq_true, Bool.not_eq_true', beq_eq_false_iff_ne, ne_eq, Bool.and_eq_false_iff, hij, not_false_eq_true, true_and]
    by_cases hq : j + 1 = i
    · exact Or.inr (fun e => h2 ⟨hq, e⟩)
    · exact Or.inl hq
theorem ww_lR_s2 {b : Nat} {ad : Nat → Nat} {nL i : Nat} {v : Value} {L : List Value} {ls ls' : Array Slot} (h : ww_lR (ww_tr b ad) nL L ls) (hi : i + 1 < nL) (hs : lv_has ls' nL ((i, ww_tr b ad v) :: (ww_ll (ww_tr b ad) L).filter (fun q => !(q.1 == i) && (!(q.1 == i + 1) && !(q.1 + 1 == i && q.2.category == 2))))) : ww_lR (ww_tr b ad) nL (ww_s2 L i v) ls' := by
  refine ⟨hs.1, hs.2.1, by rw [ww_s2_len]; exact h.2.2.1, fun j w hj hw => ?_⟩
  unfold ww_s2 at hj
  by_cases hi1 : j = i + 1
  · subst hi1
    rw [List.getElem?_set_self (by rw [ww_s1_len, h.2.2.1]; exact hi)] at hj
    exact absurd (Option.some.inj hj).symm hw
  · rw [List.getElem?_set_ne (fun e => hi1 e.symm)] at hj
    by_cases hij : j = i
    · subst hij
      rw [ww_s1_at (by rw [h.2.2.1]; omega)] at hj
      cases hj
      exact hs.2.2 (j, ww_tr b ad v) List.mem_cons_self
    · have key := ww_s1_key hij hw hj
      refine hs.2.2 (j, ww_tr b ad w) (List.mem_cons_of_mem _ (List.mem_filter.mpr ⟨ww_ll_mem.mpr ⟨w, key.1, hw, rfl⟩, ?_⟩))
      have h2 := key.2
      simp only [ww_tr_cat, Bool.and_eq_true, Bool.not_eq_true', beq_eq_false_iff_ne, ne_eq, Bool.and_eq_false_iff, hij, hi1, not_false_eq_true, true_and]
      by_cases hq : j + 1 = i
      · exact Or.inr (fun e => h2 ⟨hq, e⟩)
      · exact Or.inl hq
def ww_fl (vs : List Value) : List Value := vs.flatMap (fun v => if v.category = 2 then [v, ww_U] else [v])
theorem ww_fl_cons (v : Value) (vs : List Value) : ww_fl (v :: vs) = (if v.category = 2 then [v, ww_U] else [v]) ++ ww_fl vs := rfl
theorem ww_fl_len (b : Nat) (ad : Nat → Nat) (vs : List Value) : (lg_sl (vs.map (ww_tr b ad))).length = (ww_fl vs).length := by
  induction vs with
  | nil => rfl
  | cons v t ih =>
    have e : lg_sl ((v :: t).map (ww_tr b ad)) = (if (ww_tr b ad v).category = 2 then [.val (ww_tr b ad v), .second] else [.val (ww_tr b ad v)]) ++ lg_sl (t.map (ww_tr b ad)) := rfl
    rw [e, ww_fl_cons, List.length_append, List.length_append, ih, ww_tr_cat]
    split <;> rfl
theorem ww_fl_args (b : Nat) (ad : Nat → Nat) : ∀ (vs : List Value) (k i : Nat) (v : Value), (ww_fl vs)[i]? = some v → v ≠ ww_U → (k + i, ww_tr b ad v) ∈ lv_args k (vs.map (ww_tr b ad))
  | [], k, i, v, h, _ => by cases h
  | w :: t, k, i, v, h, hv => by
    rw [ww_fl_cons] at h
    show _ ∈ (k, ww_tr b ad w) :: lv_args (if (ww_tr b ad w).category = 2 then k + 2 else k + 1) (t.map (ww_tr b ad))
    rw [ww_tr_cat]
    split at h
    · rename_i hc
      rw [if_pos hc]
      match i, h with
      | 0, h =>
        cases h
        exact List.mem_cons_self
      | 1, h =>
        cases h
        exact absurd rfl hv
      | i + 2, h =>
        have h9 := ww_fl_args b ad t (k + 2) i v h hv
        rw [show k + 2 + i = k + (i + 2) by omega] at h9
        exact List.mem_cons_of_mem _ h9
    · rename_i hc
      rw [if_neg hc]
      match i, h with
      | 0, h =>
        cases h
        exact List.mem_cons_self
      | i + 1, h =>
        have h9 := ww_fl_args b ad t (k + 1) i v h hv
        rw [show k + 1 + i = k + (i + 1) by omega] at h9
        exact List.mem_cons_of_mem _ h9
theorem ww_lR_en {b : Nat} {ad : Nat → Nat} {nL : Nat} {vs : List Value} (h : (ww_en nL vs).length = nL) : (lg_sl (vs.map (ww_tr b ad))).length ≤ nL ∧ ww_lR (ww_tr b ad) nL (ww_en nL vs) ((lg_sl (vs.map (ww_tr b ad)) ++ List.replicate (nL - (lg_sl (vs.map (ww_tr b ad))).length) Slot.unset).toArray) := by
  have e : ww_en nL vs = ww_fl vs ++ List.replicate (nL - (ww_fl vs).length) ww_U := rfl
  have hle : (ww_fl vs).length ≤ nL := by
    rw [e, List.length_append, List.length_replicate] at h
    omega
  have hle2 : (lg_sl (vs.map (ww_tr b ad))).length ≤ nL := by rw [ww_fl_len]; exact hle
  have hh := lv_entry (vs.map (ww_tr b ad)) hle2
  refine ⟨hle2, hh.1, hh.2.1, h, fun i v hi hv => ?_⟩
  rw [e] at hi
  by_cases hl : i < (ww_fl vs).length
  · rw [List.getElem?_append_left hl] at hi
    have h9 := ww_fl_args b ad vs 0 i v hi hv
    rw [Nat.zero_add] at h9
    exact hh.2.2 _ h9
  · rw [List.getElem?_append_right (by omega)] at hi
    exact absurd (List.mem_replicate.mp (List.mem_of_getElem? hi)).2 hv
