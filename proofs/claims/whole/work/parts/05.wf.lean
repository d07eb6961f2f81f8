/-! references stay in range -/
def ww_ov (n : Nat) : Value → Prop
  | .ref i => i < n
  | _ => True
def ww_oc (n : Nat) : ww_E → Prop
  | .inl (_, _, .inr (.inr (.inr (.inr f)))) => ∀ j a, f j = some a → a < n
  | .inl _ => True
  | .inr (_, fs) => ∀ v ∈ fs, ww_ov n v
def ww_ol (n : Nat) (l : List Value) : Prop := ∀ v ∈ l, ww_ov n v
def ww_oh (n : Nat) (h : List ww_E) : Prop := ∀ c ∈ h, ww_oc n c
theorem ww_ov_mono {a b : Nat} (h : a ≤ b) {v : Value} (hv : ww_ov a v) : ww_ov b v := by
  cases v with
  | ref i => exact Nat.lt_of_lt_of_le (show i < a from hv) h
  | _ => trivial
theorem ww_ol_mono {a b : Nat} (h : a ≤ b) {l : List Value} (hv : ww_ol a l) : ww_ol b l := fun v hm => ww_ov_mono h (hv v hm)
theorem ww_oc_mono {a b : Nat} (h : a ≤ b) {c : ww_E} (hv : ww_oc a c) : ww_oc b c := by
  rcases c with ⟨t, N, f | f | f | f | f⟩ | ⟨ci, fs⟩ <;> simp only [ww_oc] at hv ⊢
  · exact fun j x hx => Nat.lt_of_lt_of_le (hv j x hx) h
  · exact fun v hm => ww_ov_mono h (hv v hm)
theorem ww_oh_mono {a b : Nat} (h : a ≤ b) {l : List ww_E} (hv : ww_oh a l) : ww_oh b l := fun v hm => ww_oc_mono h (hv v hm)
theorem ww_ol_cons {n : Nat} {v : Value} {l : List Value} : ww_ol n (v :: l) ↔ ww_ov n v ∧ ww_ol n l := by simp [ww_ol]
theorem ww_ol_get {n i : Nat} {v : Value} {l : List Value} (h : ww_ol n l) (hi : l[i]? = some v) : ww_ov n v := h v (List.mem_of_getElem? hi)
theorem ww_oh_get {n i : Nat} {v : ww_E} {l : List ww_E} (h : ww_oh n l) (hi : l[i]? = some v) : ww_oc n v := h v (List.mem_of_getElem? hi)
theorem ww_ol_set {n i : Nat} {v : Value} {l : List Value} (h : ww_ol n l) (hv : ww_ov n v) : ww_ol n (l.set i v) := by
  intro w hw
  rcases List.mem_or_eq_of_mem_set hw with h1 | h1
  · exact h w h1
  · rw [h1]; exact hv
theorem ww_oh_set {n i : Nat} {v : ww_E} {l : List ww_E} (h : ww_oh n l) (hv : ww_oc n v) : ww_oh n (l.set i v) := by
  intro w hw
  rcases List.mem_or_eq_of_mem_set hw with h1 | h1
  · exact h w h1
  · rw [h1]; exact hv
theorem ww_ov_k1 {n : Nat} {v : Value} (h : ww_ov n v) : ww_ov n (ww_k1 v) := by
  cases v <;> simp only [ww_k1] <;> first | exact h | trivial
theorem ww_ol_s1 {n i : Nat} {v : Value} {l : List Value} (h : ww_ol n l) (hv : ww_ov n v) : ww_ol n (ww_s1 l i v) := by
  refine ww_ol_set ?_ hv
  split
  · exact h
  · intro w hw
    obtain ⟨j, hj⟩ := List.getElem?_of_mem hw
    rw [List.getElem?_modify] at hj
    cases hq : l[j]? with
    | none => rw [hq] at hj; simp at hj
    | some q =>
      rw [hq] at hj
      simp only [Option.map_eq_map, Option.map_some, Option.some.injEq] at hj
      subst hj
      have hq' := ww_ol_get h hq
      split
      · exact ww_ov_k1 hq'
      · exact hq'
theorem ww_ol_s2 {n i : Nat} {v : Value} {l : List Value} (h : ww_ol n l) (hv : ww_ov n v) : ww_ol n (ww_s2 l i v) := ww_ol_set (ww_ol_s1 h hv) trivial
theorem ww_s1_len {i : Nat} {v : Value} {l : List Value} : (ww_s1 l i v).length = l.length := by
  unfold ww_s1
  split <;> simp
theorem ww_s2_len {i : Nat} {v : Value} {l : List Value} : (ww_s2 l i v).length = l.length := by
  unfold ww_s2
  rw [List.length_set, ww_s1_len]
/-- all that a frame and the heap hold is in range -/
def ww_g (L st : List Value) (h : List ww_E) : Prop := ww_ol h.length L ∧ ww_ol h.length st ∧ ww_oh h.length h
theorem ww_gf_ov {h : List ww_E} {a ci k : Nat} {v : Value} (hh : ww_oh h.length h) (e : ww_gf h a ci k = some v) : ww_ov h.length v := by
  unfold ww_gf at e
  split at e
  · rename_i c fs hq
    split at e
    · have := ww_oh_get hh hq
      exact this v (List.mem_of_getElem? e)
    · cases e
  · cases e
theorem ww_pf_ok {h h' : List ww_E} {a ci k : Nat} {v : Value} (hh : ww_oh h.length h) (hv : ww_ov h.length v) (e : ww_pf h a ci k v = some h') : h'.length = h.length ∧ ww_oh h.length h' := by
  unfold ww_pf at e
  split at e
  · rename_i c fs hq
    split at e
    · cases e
      exact ⟨by simp, ww_oh_set hh (ww_ol_set (ww_oh_get hh hq) hv)⟩
    · cases e
  · cases e
theorem ww_z_ov (n ci : Nat) : ww_ol n (ww_z ci) := by
  intro v hv
  unfold ww_z at hv
  obtain ⟨k, -, rfl⟩ := List.mem_map.mp hv
  unfold ww_df
  split <;> trivial
theorem ww_g_set {L r : List Value} {h : List ww_E} {a : Nat} {c : ww_E} (gL : ww_ol h.length L) (gr : ww_ol h.length r) (gh : ww_oh h.length h) (gc : ww_oc h.length c) : ww_g L r (h.set a c) ∧ h.length ≤ (h.set a c).length ∧ L.length = L.length := by
  refine ⟨⟨?_, ?_, ?_⟩, ?_, rfl⟩ <;> simp only [List.length_set]
  · exact gL
  · exact gr
  · exact ww_oh_set gh gc
  · exact Nat.le_refl _
theorem ww_g_push {L r : List Value} {h : List ww_E} {c : ww_E} (gL : ww_ol h.length L) (gr : ww_ol h.length r) (gh : ww_oh h.length h) (gc : ww_oc h.length c) : ww_g L (.ref h.length :: r) (h ++ [c]) ∧ h.length ≤ (h ++ [c]).length ∧ L.length = L.length := by
  have hl : (h ++ [c]).length = h.length + 1 := by simp
  have hle : h.length ≤ h.length + 1 := Nat.le_succ _
  refine ⟨⟨?_, ?_, ?_⟩, ?_, rfl⟩ <;> rw [hl]
  · exact ww_ol_mono hle gL
  · exact ww_ol_cons.mpr ⟨Nat.lt_succ_self _, ww_ol_mono hle gr⟩
  · intro q hq
    rcases List.mem_append.mp hq with h1 | h1
    · exact ww_oc_mono hle (gh q h1)
    · rw [List.mem_singleton.mp h1]; exact ww_oc_mono hle gc
  · exact hle
set_option maxHeartbeats 4000000 in
theorem ww_wf_st {S : ww_S} {M len pc k n : Nat} {L st : List Value} {h : List ww_E} {i : Instr} {o : Nat × List Value × List Value × List ww_E × Nat × Nat} (e : ww_st S M len pc L st h k n i = some o) (g : ww_g L st h) :
    ww_g o.2.1 o.2.2.1 o.2.2.2.1 ∧ h.length ≤ o.2.2.2.1.length ∧ o.2.1.length = L.length := by
  obtain ⟨gL, gs, gh⟩ := g
  unfold ww_st at e
  split at e
  all_goals (try (split at e))
  all_goals (try (cases e; done))
  all_goals (try (simp only [ww_ol_cons, ww_ov] at gs))
  all_goals (try (cases e; refine ⟨⟨?_, ?_, gh⟩, Nat.le_refl _, ?_⟩ <;> first | exact gL | exact gs | exact gs.2 | exact gs.2.2 | exact ww_s1_len | exact ww_s2_len | rfl | exact ww_ol_s1 gL trivial | exact ww_ol_s2 gL trivial | (simp only [ww_ol_cons, ww_ov]; simp only [gs, and_self]; done) | (rename_i heq; exact ww_ol_cons.mpr ⟨ww_ol_get gL heq, gs⟩)))
  all_goals (try (cases e; exact ww_g_push gL gs gh (ww_z_ov _ _)))
  all_goals (try (split at e))
  all_goals (try (cases e; done))
  all_goals (try (split at e))
  all_goals (try (cases e; done))
  all_goals (try (split at e))
  all_goals (try (cases e; done))
  all_goals (try (cases e; refine ⟨⟨?_, ?_, gh⟩, Nat.le_refl _, ?_⟩ <;> first | exact gL | exact gs | exact gs.2 | exact gs.2.2 | exact ww_s1_len | exact ww_s2_len | rfl | exact ww_ol_s1 gL gs.1 | exact ww_ol_s1 gL trivial | exact ww_ol_s2 gL trivial | (simp only [ww_ol_cons, ww_ov]; simp only [gs, and_self]; done)))
  all_goals (try (cases e; exact ww_g_push gL gs.2 gh trivial))
  all_goals (try (cases e; exact ww_g_push gL gs.2 gh (fun j a h9 => by cases h9)))
  all_goals (try (cases e; exact ww_g_set gL gs.2.2.2 gh trivial))
  · rename_i heq
    cases e
    exact ⟨⟨gL, ww_ol_cons.mpr ⟨ww_gf_ov gh heq, gs.2⟩, gh⟩, Nat.le_refl _, rfl⟩
  · rename_i heq
    obtain ⟨h1, h2⟩ := ww_pf_ok gh gs.1 heq
    cases e
    refine ⟨⟨?_, ?_, ?_⟩, ?_, rfl⟩ <;> dsimp only <;> rw [h1]
    · exact gL
    · exact gs.2.2
    · exact h2
    · exact Nat.le_refl _
  · rename_i h9 _ _ _ heq
    cases e
    exact ⟨⟨gL, ww_ol_cons.mpr ⟨(ww_oh_get gh h9 : ∀ j a, _ = some a → a < h.length) _ _ heq, gs.2.2⟩, gh⟩, Nat.le_refl _, rfl⟩
  · rename_i heq h9 _
    cases e
    refine ww_g_set gL gs.2.2.2 gh ?_
    intro j x hj
    unfold va_up at hj
    split at hj
    · cases hj; exact gs.1
    · exact (ww_oh_get gh heq : ∀ j a, _ = some a → a < h.length) _ _ hj
