/-! one instruction of the abstract machine is one of the real one (printed by wip/whole/step.py) -/
def ww_Z (s : State) : Prop := (∀ w ∈ ww_bad, va_Nw w s) ∧ (∀ E ∈ ww_ex, ∀ F ∈ ww_ex, E ≠ F → va_Nc E F s) ∧ va_AO RX0 s
theorem ww_Z.warm {s U : State} (hW : s.WarmedH U.vm) (h : ww_Z s) : ww_Z U := by
  refine ⟨fun w hw => ?_, fun E hE F hF hne => (h.2.1 E hE F hF hne).moved hW.alike, h.2.2.moved hW.alike⟩
  have h1 := List.all_eq_true.mp ww_bad_ok w hw
  simp only [Bool.and_eq_true] at h1
  have hz := h.1 w hw
  obtain ⟨⟨h2, -⟩, -⟩ := h1
  cases w with
  | castable x y => exact va_tabs rfl (rfl : (s.setVm U.vm).vm = U.vm) (by rw [Cond.castable_setVm hW.alike]; exact hz)
  | declares x => exact va_Nw.warmD hW hz
  | _ => cases h2
def ww_ty (tA : Nat → ClassId) : List (ClassId × FieldType) := [(tA 0, .int), (tA 1, .long), (tA 2, .boolean), (tA 3, .object RX0)]
def ww_sc (S : ww_S) (b : Nat) (A : Nat → Prop) (s : State) : Prop := match S with
  | none => True
  | some (N, f) => va_X b N f s s.heap ∧ b < s.heap.size ∧ ¬ A b
/-- what stands over a whole body: the machine, the code, the tables' words, the room -/
def ww_C (l : Launch) (p : Program) (R : Room) (s : State) (m : MethodId) (args : Array Value) (meth : Method) (c : Code) (D : va_G) (tA : Nat → ClassId) (b : Nat) (A : Nat → Prop) (S : ww_S) (M : Nat) : Prop :=
  (p.tables.exec = Jvm.exec ∧ c.code = ww_b M ∧ c.maxLocals = ww_mL M ∧ s.vm.findClass (ww_nm (ww_ow M)) = some m.cls ∧ (∀ w ∈ ww_aw, w.before args s = true)) ∧
  va_K D ww_cl (ww_ty tA) s ∧ (∀ q, s.heap.size ≤ q → A q) ∧ (ww_mc M ≤ R.cells ∧ ww_ms M ≤ R.slots ∧ ww_lv M + 5 ≤ R.frames ∧ 200 + 31 * ww_lv M ≤ R.locals) ∧ (ww_kd M = 2 → meth.name = "<init>") ∧ ww_sc S b A s ∧
  ww_Z s ∧ (vx_Zq Bundle.tN "UNASSIGNED_STACK" Bundle.steD A s s.heap ∧ vx_Zq Bundle.tN "SUPPRESSED_SENTINEL" Bundle.listD A s s.heap) ∧ l.stackTraces = false ∧ (M < 127 → c.exceptionTable.toList = tableOf (ww_hh M)) ∧ meth.locks = false
/-- what moves: the world, the locals -/
def ww_I (s : State) (D : va_G) (tA : Nat → ClassId) (b : Nat) (A : Nat → Prop) (nL : Nat) (ad : Nat → Nat) (h : List ww_E) (L : List Value) (H : Heap) (locs : List Loc) (ls : Array Slot) : Prop :=
  va_P D ww_cl (ww_w tA b ad h) H ∧ va_D A (ww_w tA b ad h) ∧ va_S A s.heap H locs ∧ ww_lR (ww_tr b ad) nL L ls
theorem ww_word {w : Cond} {args : Array Value} {s : State} (hts : ∀ w ∈ ww_aw, w.before args s = true) (h : ww_inw w = true) : w.before args s = true := hts w (ww_in_aw h)
theorem ww_l3_mem {α : Type} {t : List (Nat × Nat × α)} {o i : Nat} {v : α} (h : ww_l3 t o i = some v) : (o, i, v) ∈ t := by
  unfold ww_l3 at h
  cases hf : t.find? (fun e => e.1 == o && e.2.1 == i) with
  | none => rw [hf] at h; cases h
  | some e =>
    rw [hf] at h
    cases h
    have h1 := List.find?_some hf
    have h2 := List.mem_of_find?_eq_some hf
    simp only [Bool.and_eq_true, beq_iff_eq] at h1
    obtain ⟨a, b, c⟩ := e
    obtain ⟨rfl, rfl⟩ := h1
    exact h2
theorem ww_cl_at {ci : Nat} (h : ci < 5) : ww_cl[ci]? = some ((ww_c5 ci).1, (ww_c5 ci).2.1, (ww_c5 ci).2.2) := by
  match ci, h with
  | 0, _ => rfl
  | 1, _ => rfl
  | 2, _ => rfl
  | 3, _ => rfl
  | 4, _ => rfl
theorem ww_cls_at {ci : Nat} (h : ci < 5) : (∀ w ∈ u_ws (ww_c5 ci).1 (ww_c5 ci).2.1 (ww_c5 ci).2.2, w ∈ ww_aw) ∧ ww_inw (.instantiable (ww_c5 ci).1 (ww_c5 ci).2.2) = true ∧ ww_inw (.initialized (ww_c5 ci).1) = true ∧ (ww_z ci).length = (ww_c5 ci).2.2 := by
  have h1 := List.all_eq_true.mp ww_cls_ok ci (List.mem_range.mpr h)
  simp only [Bool.and_eq_true, decide_eq_true_eq] at h1
  exact ⟨fun w hw => ww_in_aw (List.all_eq_true.mp h1.1.1.1 w hw), h1.1.1.2, h1.1.2, h1.2⟩
theorem ww_fty_at {ci k : Nat} (h : ci < 5) (hk : k < (ww_c5 ci).2.2) : (ww_t5 ci k = .int ∨ ww_t5 ci k = .long ∨ (∃ C, ww_t5 ci k = .object C) ∨ ∃ t, ww_t5 ci k = .array t) ∧ parseFieldDescriptor ((ww_c5 ci).2.1 k).2.2.1 = some (ww_t5 ci k) ∧ defaultValue (ww_t5 ci k) = vp_V (ww_z ci) k ∧ (∀ q, q < (ww_c5 ci).2.2 → k ≠ q → ((ww_c5 ci).2.1 k).2.1 ≠ ((ww_c5 ci).2.1 q).2.1) ∧ ((ww_c5 ci).2.1 k).1 = ww_nm ci := by
  have h1 := List.all_eq_true.mp (List.all_eq_true.mp ww_fty_ok ci (List.mem_range.mpr h)) k (List.mem_range.mpr hk)
  simp only [Bool.and_eq_true, decide_eq_true_eq] at h1
  obtain ⟨⟨⟨⟨⟨a1, a2⟩, a3⟩, a4⟩, a5⟩, a6⟩ := h1
  refine ⟨?_, a2, a3, fun q hq hne => ?_, a5.trans a6⟩
  · revert a1
    cases ww_t5 ci k <;> simp
  · have h2 := List.all_eq_true.mp a4 q (List.mem_range.mpr hq)
    simp only [decide_eq_true_eq] at h2
    exact h2.resolve_left hne
theorem ww_fld_at {o i ci k : Nat} (h : ww_l3 ww_fT o i = some (ci, k)) : ci < 5 ∧ k < (ww_c5 ci).2.2 ∧ k < 100 ∧ ww_inw (.fieldLink (ww_nm o) i ((ww_c5 ci).2.1 k).1 ((ww_c5 ci).2.1 k).2.1 ((ww_c5 ci).2.1 k).2.2.1) = true := by
  have h1 := List.all_eq_true.mp ww_fT_ok _ (ww_l3_mem h)
  simp only [Bool.and_eq_true, decide_eq_true_eq] at h1
  exact ⟨h1.1.1.1, h1.1.1.2, h1.1.2, h1.2⟩
theorem ww_fit {ci k b : Nat} {ad : Nat → Nat} {v : Value} (hv : ww_tv (ww_ft ci k) v = true) (ht : ww_t5 ci k = .int ∨ ww_t5 ci k = .long ∨ (∃ C, ww_t5 ci k = .object C) ∨ ∃ t, ww_t5 ci k = .array t) : narrow (ww_t5 ci k) (ww_tr b ad v) = ww_tr b ad v ∧ fits (ww_t5 ci k) (ww_tr b ad v) = true := by
  have hf : ww_ft ci k = match ww_t5 ci k with
    | .int => 0
    | .long => 1
    | _ => 2 := rfl
  rcases ht with e | e | ⟨C, e⟩ | ⟨t, e⟩ <;> rw [e] at hf ⊢ <;> rw [hf] at hv <;> cases v <;> first | (cases hv; done) | exact ⟨rfl, rfl⟩

set_option maxHeartbeats 2000000 in
theorem ww_sd_iadd {l : Launch} {p : Program} {e : Env} {R : Room} {s : State} {m : MethodId} {args : Array Value} {below : List Frame} {meth : Method} {c : Code} {H : Heap} {locs : List Loc} {Q : State → Prop} {D : va_G} {tA : Nat → ClassId} {b : Nat} {A : Nat → Prop} {S : ww_S} {M pc k n : Nat} {L st : List Value} {h : List ww_E} {ad : Nat → Nat} {ls : Array Slot} {o : Nat × List Value × List Value × List ww_E × Nat × Nat}  (C : ww_C l p R s m args meth c D tA b A S M) (I : ww_I s D tA b A (ww_mL M) ad h L H locs ls) (g : ww_g L st h) (hkm : k ≤ ww_mc M ∧ n ≤ ww_ms M) (hd : decode (ww_b M) pc = .ok (.iadd, 1)) (hs : ww_st S M 1 pc L st h k n (.iadd) = some o) (kk : ∀ ad' H' locs' ls', (∀ i, i < h.length → ad' i = ad i) → ww_I s D tA b A (ww_mL M) ad' o.2.2.2.1 o.2.1 H' locs' ls' → W p l e R s m args below meth c H' locs' o.2.2.2.2.1 o.2.2.2.2.2 Q (F0 m o.1 ls' (o.2.2.1.map (ww_tr b ad')))) : W p l e R s m args below meth c H locs k n Q (F0 m pc ls (st.map (ww_tr b ad))) := by
  obtain ⟨⟨hx, hb, hml, hown, hts⟩, hK, hA, hR, hin, hsc, hZ, hU, hl, htab, hlocks⟩ := C
  obtain ⟨hP, hD, hS, hL⟩ := I
  have hag : ∀ i, i < h.length → ad i = ad i := fun _ _ => rfl
  simp only [ww_st] at hs
  split at hs
  · cases hs
    exact lv_iadd hx hb hd (kk ad H locs ls hag ⟨hP, hD, hS, hL⟩)
  · cases hs
set_option maxHeartbeats 2000000 in
theorem ww_sd_isub {l : Launch} {p : Program} {e : Env} {R : Room} {s : State} {m : MethodId} {args : Array Value} {below : List Frame} {meth : Method} {c : Code} {H : Heap} {locs : List Loc} {Q : State → Prop} {D : va_G} {tA : Nat → ClassId} {b : Nat} {A : Nat → Prop} {S : ww_S} {M pc k n : Nat} {L st : List Value} {h : List ww_E} {ad : Nat → Nat} {ls : Array Slot} {o : Nat × List Value × List Value × List ww_E × Nat × Nat}  (C : ww_C l p R s m args meth c D tA b A S M) (I : ww_I s D tA b A (ww_mL M) ad h L H locs ls) (g : ww_g L st h) (hkm : k ≤ ww_mc M ∧ n ≤ ww_ms M) (hd : decode (ww_b M) pc = .ok (.isub, 1)) (hs : ww_st S M 1 pc L st h k n (.isub) = some o) (kk : ∀ ad' H' locs' ls', (∀ i, i < h.length → ad' i = ad i) → ww_I s D tA b A (ww_mL M) ad' o.2.2.2.1 o.2.1 H' locs' ls' → W p l e R s m args below meth c H' locs' o.2.2.2.2.1 o.2.2.2.2.2 Q (F0 m o.1 ls' (o.2.2.1.map (ww_tr b ad')))) : W p l e R s m args below meth c H locs k n Q (F0 m pc ls (st.map (ww_tr b ad))) := by
  obtain ⟨⟨hx, hb, hml, hown, hts⟩, hK, hA, hR, hin, hsc, hZ, hU, hl, htab, hlocks⟩ := C
  obtain ⟨hP, hD, hS, hL⟩ := I
  have hag : ∀ i, i < h.length → ad i = ad i := fun _ _ => rfl
  simp only [ww_st] at hs
  split at hs
  · cases hs
    exact lv_isub hx hb hd (kk ad H locs ls hag ⟨hP, hD, hS, hL⟩)
  · cases hs
set_option maxHeartbeats 2000000 in
theorem ww_sd_imul {l : Launch} {p : Program} {e : Env} {R : Room} {s : State} {m : MethodId} {args : Array Value} {below : List Frame} {meth : Method} {c : Code} {H : Heap} {locs : List Loc} {Q : State → Prop} {D : va_G} {tA : Nat → ClassId} {b : Nat} {A : Nat → Prop} {S : ww_S} {M pc k n : Nat} {L st : List Value} {h : List ww_E} {ad : Nat → Nat} {ls : Array Slot} {o : Nat × List Value × List Value × List ww_E × Nat × Nat}  (C : ww_C l p R s m args meth c D tA b A S M) (I : ww_I s D tA b A (ww_mL M) ad h L H locs ls) (g : ww_g L st h) (hkm : k ≤ ww_mc M ∧ n ≤ ww_ms M) (hd : decode (ww_b M) pc = .ok (.imul, 1)) (hs : ww_st S M 1 pc L st h k n (.imul) = some o) (kk : ∀ ad' H' locs' ls', (∀ i, i < h.length → ad' i = ad i) → ww_I s D tA b A (ww_mL M) ad' o.2.2.2.1 o.2.1 H' locs' ls' → W p l e R s m args below meth c H' locs' o.2.2.2.2.1 o.2.2.2.2.2 Q (F0 m o.1 ls' (o.2.2.1.map (ww_tr b ad')))) : W p l e R s m args below meth c H locs k n Q (F0 m pc ls (st.map (ww_tr b ad))) := by
  obtain ⟨⟨hx, hb, hml, hown, hts⟩, hK, hA, hR, hin, hsc, hZ, hU, hl, htab, hlocks⟩ := C
  obtain ⟨hP, hD, hS, hL⟩ := I
  have hag : ∀ i, i < h.length → ad i = ad i := fun _ _ => rfl
  simp only [ww_st] at hs
  split at hs
  · cases hs
    exact lv_imul hx hb hd (kk ad H locs ls hag ⟨hP, hD, hS, hL⟩)
  · cases hs
set_option maxHeartbeats 2000000 in
theorem ww_sd_iand {l : Launch} {p : Program} {e : Env} {R : Room} {s : State} {m : MethodId} {args : Array Value} {below : List Frame} {meth : Method} {c : Code} {H : Heap} {locs : List Loc} {Q : State → Prop} {D : va_G} {tA : Nat → ClassId} {b : Nat} {A : Nat → Prop} {S : ww_S} {M pc k n : Nat} {L st : List Value} {h : List ww_E} {ad : Nat → Nat} {ls : Array Slot} {o : Nat × List Value × List Value × List ww_E × Nat × Nat}  (C : ww_C l p R s m args meth c D tA b A S M) (I : ww_I s D tA b A (ww_mL M) ad h L H locs ls) (g : ww_g L st h) (hkm : k ≤ ww_mc M ∧ n ≤ ww_ms M) (hd : decode (ww_b M) pc = .ok (.iand, 1)) (hs : ww_st S M 1 pc L st h k n (.iand) = some o) (kk : ∀ ad' H' locs' ls', (∀ i, i < h.length → ad' i = ad i) → ww_I s D tA b A (ww_mL M) ad' o.2.2.2.1 o.2.1 H' locs' ls' → W p l e R s m args below meth c H' locs' o.2.2.2.2.1 o.2.2.2.2.2 Q (F0 m o.1 ls' (o.2.2.1.map (ww_tr b ad')))) : W p l e R s m args below meth c H locs k n Q (F0 m pc ls (st.map (ww_tr b ad))) := by
  obtain ⟨⟨hx, hb, hml, hown, hts⟩, hK, hA, hR, hin, hsc, hZ, hU, hl, htab, hlocks⟩ := C
  obtain ⟨hP, hD, hS, hL⟩ := I
  have hag : ∀ i, i < h.length → ad i = ad i := fun _ _ => rfl
  simp only [ww_st] at hs
  split at hs
  · cases hs
    exact lv_iand hx hb hd (kk ad H locs ls hag ⟨hP, hD, hS, hL⟩)
  · cases hs
set_option maxHeartbeats 2000000 in
theorem ww_sd_ior {l : Launch} {p : Program} {e : Env} {R : Room} {s : State} {m : MethodId} {args : Array Value} {below : List Frame} {meth : Method} {c : Code} {H : Heap} {locs : List Loc} {Q : State → Prop} {D : va_G} {tA : Nat → ClassId} {b : Nat} {A : Nat → Prop} {S : ww_S} {M pc k n : Nat} {L st : List Value} {h : List ww_E} {ad : Nat → Nat} {ls : Array Slot} {o : Nat × List Value × List Value × List ww_E × Nat × Nat}  (C : ww_C l p R s m args meth c D tA b A S M) (I : ww_I s D tA b A (ww_mL M) ad h L H locs ls) (g : ww_g L st h) (hkm : k ≤ ww_mc M ∧ n ≤ ww_ms M) (hd : decode (ww_b M) pc = .ok (.ior, 1)) (hs : ww_st S M 1 pc L st h k n (.ior) = some o) (kk : ∀ ad' H' locs' ls', (∀ i, i < h.length → ad' i = ad i) → ww_I s D tA b A (ww_mL M) ad' o.2.2.2.1 o.2.1 H' locs' ls' → W p l e R s m args below meth c H' locs' o.2.2.2.2.1 o.2.2.2.2.2 Q (F0 m o.1 ls' (o.2.2.1.map (ww_tr b ad')))) : W p l e R s m args below meth c H locs k n Q (F0 m pc ls (st.map (ww_tr b ad))) := by
  obtain ⟨⟨hx, hb, hml, hown, hts⟩, hK, hA, hR, hin, hsc, hZ, hU, hl, htab, hlocks⟩ := C
  obtain ⟨hP, hD, hS, hL⟩ := I
  have hag : ∀ i, i < h.length → ad i = ad i := fun _ _ => rfl
  simp only [ww_st] at hs
  split at hs
  · cases hs
    exact lv_ior hx hb hd (kk ad H locs ls hag ⟨hP, hD, hS, hL⟩)
  · cases hs
set_option maxHeartbeats 2000000 in
theorem ww_sd_ixor {l : Launch} {p : Program} {e : Env} {R : Room} {s : State} {m : MethodId} {args : Array Value} {below : List Frame} {meth : Method} {c : Code} {H : Heap} {locs : List Loc} {Q : State → Prop} {D : va_G} {tA : Nat → ClassId} {b : Nat} {A : Nat → Prop} {S : ww_S} {M pc k n : Nat} {L st : List Value} {h : List ww_E} {ad : Nat → Nat} {ls : Array Slot} {o : Nat × List Value × List Value × List ww_E × Nat × Nat}  (C : ww_C l p R s m args meth c D tA b A S M) (I : ww_I s D tA b A (ww_mL M) ad h L H locs ls) (g : ww_g L st h) (hkm : k ≤ ww_mc M ∧ n ≤ ww_ms M) (hd : decode (ww_b M) pc = .ok (.ixor, 1)) (hs : ww_st S M 1 pc L st h k n (.ixor) = some o) (kk : ∀ ad' H' locs' ls', (∀ i, i < h.length → ad' i = ad i) → ww_I s D tA b A (ww_mL M) ad' o.2.2.2.1 o.2.1 H' locs' ls' → W p l e R s m args below meth c H' locs' o.2.2.2.2.1 o.2.2.2.2.2 Q (F0 m o.1 ls' (o.2.2.1.map (ww_tr b ad')))) : W p l e R s m args below meth c H locs k n Q (F0 m pc ls (st.map (ww_tr b ad))) := by
  obtain ⟨⟨hx, hb, hml, hown, hts⟩, hK, hA, hR, hin, hsc, hZ, hU, hl, htab, hlocks⟩ := C
  obtain ⟨hP, hD, hS, hL⟩ := I
  have hag : ∀ i, i < h.length → ad i = ad i := fun _ _ => rfl
  simp only [ww_st] at hs
  split at hs
  · cases hs
    exact lv_ixor hx hb hd (kk ad H locs ls hag ⟨hP, hD, hS, hL⟩)
  · cases hs
set_option maxHeartbeats 2000000 in
theorem ww_sd_ishl {l : Launch} {p : Program} {e : Env} {R : Room} {s : State} {m : MethodId} {args : Array Value} {below : List Frame} {meth : Method} {c : Code} {H : Heap} {locs : List Loc} {Q : State → Prop} {D : va_G} {tA : Nat → ClassId} {b : Nat} {A : Nat → Prop} {S : ww_S} {M pc k n : Nat} {L st : List Value} {h : List ww_E} {ad : Nat → Nat} {ls : Array Slot} {o : Nat × List Value × List Value × List ww_E × Nat × Nat}  (C : ww_C l p R s m args meth c D tA b A S M) (I : ww_I s D tA b A (ww_mL M) ad h L H locs ls) (g : ww_g L st h) (hkm : k ≤ ww_mc M ∧ n ≤ ww_ms M) (hd : decode (ww_b M) pc = .ok (.ishl, 1)) (hs : ww_st S M 1 pc L st h k n (.ishl) = some o) (kk : ∀ ad' H' locs' ls', (∀ i, i < h.length → ad' i = ad i) → ww_I s D tA b A (ww_mL M) ad' o.2.2.2.1 o.2.1 H' locs' ls' → W p l e R s m args below meth c H' locs' o.2.2.2.2.1 o.2.2.2.2.2 Q (F0 m o.1 ls' (o.2.2.1.map (ww_tr b ad')))) : W p l e R s m args below meth c H locs k n Q (F0 m pc ls (st.map (ww_tr b ad))) := by
  obtain ⟨⟨hx, hb, hml, hown, hts⟩, hK, hA, hR, hin, hsc, hZ, hU, hl, htab, hlocks⟩ := C
  obtain ⟨hP, hD, hS, hL⟩ := I
  have hag : ∀ i, i < h.length → ad i = ad i := fun _ _ => rfl
  simp only [ww_st] at hs
  split at hs
  · cases hs
    exact lv_ishl hx hb hd (kk ad H locs ls hag ⟨hP, hD, hS, hL⟩)
  · cases hs
set_option maxHeartbeats 2000000 in
theorem ww_sd_ishr {l : Launch} {p : Program} {e : Env} {R : Room} {s : State} {m : MethodId} {args : Array Value} {below : List Frame} {meth : Method} {c : Code} {H : Heap} {locs : List Loc} {Q : State → Prop} {D : va_G} {tA : Nat → ClassId} {b : Nat} {A : Nat → Prop} {S : ww_S} {M pc k n : Nat} {L st : List Value} {h : List ww_E} {ad : Nat → Nat} {ls : Array Slot} {o : Nat × List Value × List Value × List ww_E × Nat × Nat}  (C : ww_C l p R s m args meth c D tA b A S M) (I : ww_I s D tA b A (ww_mL M) ad h L H locs ls) (g : ww_g L st h) (hkm : k ≤ ww_mc M ∧ n ≤ ww_ms M) (hd : decode (ww_b M) pc = .ok (.ishr, 1)) (hs : ww_st S M 1 pc L st h k n (.ishr) = some o) (kk : ∀ ad' H' locs' ls', (∀ i, i < h.length → ad' i = ad i) → ww_I s D tA b A (ww_mL M) ad' o.2.2.2.1 o.2.1 H' locs' ls' → W p l e R s m args below meth c H' locs' o.2.2.2.2.1 o.2.2.2.2.2 Q (F0 m o.1 ls' (o.2.2.1.map (ww_tr b ad')))) : W p l e R s m args below meth c H locs k n Q (F0 m pc ls (st.map (ww_tr b ad))) := by
  obtain ⟨⟨hx, hb, hml, hown, hts⟩, hK, hA, hR, hin, hsc, hZ, hU, hl, htab, hlocks⟩ := C
  obtain ⟨hP, hD, hS, hL⟩ := I
  have hag : ∀ i, i < h.length → ad i = ad i := fun _ _ => rfl
  simp only [ww_st] at hs
  split at hs
  · cases hs
    exact lv_ishr hx hb hd (kk ad H locs ls hag ⟨hP, hD, hS, hL⟩)
  · cases hs
set_option maxHeartbeats 2000000 in
theorem ww_sd_ladd {l : Launch} {p : Program} {e : Env} {R : Room} {s : State} {m : MethodId} {args : Array Value} {below : List Frame} {meth : Method} {c : Code} {H : Heap} {locs : List Loc} {Q : State → Prop} {D : va_G} {tA : Nat → ClassId} {b : Nat} {A : Nat → Prop} {S : ww_S} {M pc k n : Nat} {L st : List Value} {h : List ww_E} {ad : Nat → Nat} {ls : Array Slot} {o : Nat × List Value × List Value × List ww_E × Nat × Nat}  (C : ww_C l p R s m args meth c D tA b A S M) (I : ww_I s D tA b A (ww_mL M) ad h L H locs ls) (g : ww_g L st h) (hkm : k ≤ ww_mc M ∧ n ≤ ww_ms M) (hd : decode (ww_b M) pc = .ok (.ladd, 1)) (hs : ww_st S M 1 pc L st h k n (.ladd) = some o) (kk : ∀ ad' H' locs' ls', (∀ i, i < h.length → ad' i = ad i) → ww_I s D tA b A (ww_mL M) ad' o.2.2.2.1 o.2.1 H' locs' ls' → W p l e R s m args below meth c H' locs' o.2.2.2.2.1 o.2.2.2.2.2 Q (F0 m o.1 ls' (o.2.2.1.map (ww_tr b ad')))) : W p l e R s m args below meth c H locs k n Q (F0 m pc ls (st.map (ww_tr b ad))) := by
  obtain ⟨⟨hx, hb, hml, hown, hts⟩, hK, hA, hR, hin, hsc, hZ, hU, hl, htab, hlocks⟩ := C
  obtain ⟨hP, hD, hS, hL⟩ := I
  have hag : ∀ i, i < h.length → ad i = ad i := fun _ _ => rfl
  simp only [ww_st] at hs
  split at hs
  · cases hs
    exact lv_ladd hx hb hd (kk ad H locs ls hag ⟨hP, hD, hS, hL⟩)
  · cases hs
set_option maxHeartbeats 2000000 in
theorem ww_sd_lsub {l : Launch} {p : Program} {e : Env} {R : Room} {s : State} {m : MethodId} {args : Array Value} {below : List Frame} {meth : Method} {c : Code} {H : Heap} {locs : List Loc} {Q : State → Prop} {D : va_G} {tA : Nat → ClassId} {b : Nat} {A : Nat → Prop} {S : ww_S} {M pc k n : Nat} {L st : List Value} {h : List ww_E} {ad : Nat → Nat} {ls : Array Slot} {o : Nat × List Value × List Value × List ww_E × Nat × Nat}  (C : ww_C l p R s m args meth c D tA b A S M) (I : ww_I s D tA b A (ww_mL M) ad h L H locs ls) (g : ww_g L st h) (hkm : k ≤ ww_mc M ∧ n ≤ ww_ms M) (hd : decode (ww_b M) pc = .ok (.lsub, 1)) (hs : ww_st S M 1 pc L st h k n (.lsub) = some o) (kk : ∀ ad' H' locs' ls', (∀ i, i < h.length → ad' i = ad i) → ww_I s D tA b A (ww_mL M) ad' o.2.2.2.1 o.2.1 H' locs' ls' → W p l e R s m args below meth c H' locs' o.2.2.2.2.1 o.2.2.2.2.2 Q (F0 m o.1 ls' (o.2.2.1.map (ww_tr b ad')))) : W p l e R s m args below meth c H locs k n Q (F0 m pc ls (st.map (ww_tr b ad))) := by
  obtain ⟨⟨hx, hb, hml, hown, hts⟩, hK, hA, hR, hin, hsc, hZ, hU, hl, htab, hlocks⟩ := C
  obtain ⟨hP, hD, hS, hL⟩ := I
  have hag : ∀ i, i < h.length → ad i = ad i := fun _ _ => rfl
  simp only [ww_st] at hs
  split at hs
  · cases hs
    exact lv_lsub hx hb hd (kk ad H locs ls hag ⟨hP, hD, hS, hL⟩)
  · cases hs
set_option maxHeartbeats 2000000 in
theorem ww_sd_lmul {l : Launch} {p : Program} {e : Env} {R : Room} {s : State} {m : MethodId} {args : Array Value} {below : List Frame} {meth : Method} {c : Code} {H : Heap} {locs : List Loc} {Q : State → Prop} {D : va_G} {tA : Nat → ClassId} {b : Nat} {A : Nat → Prop} {S : ww_S} {M pc k n : Nat} {L st : List Value} {h : List ww_E} {ad : Nat → Nat} {ls : Array Slot} {o : Nat × List Value × List Value × List ww_E × Nat × Nat}  (C : ww_C l p R s m args meth c D tA b A S M) (I : ww_I s D tA b A (ww_mL M) ad h L H locs ls) (g : ww_g L st h) (hkm : k ≤ ww_mc M ∧ n ≤ ww_ms M) (hd : decode (ww_b M) pc = .ok (.lmul, 1)) (hs : ww_st S M 1 pc L st h k n (.lmul) = some o) (kk : ∀ ad' H' locs' ls', (∀ i, i < h.length → ad' i = ad i) → ww_I s D tA b A (ww_mL M) ad' o.2.2.2.1 o.2.1 H' locs' ls' → W p l e R s m args below meth c H' locs' o.2.2.2.2.1 o.2.2.2.2.2 Q (F0 m o.1 ls' (o.2.2.1.map (ww_tr b ad')))) : W p l e R s m args below meth c H locs k n Q (F0 m pc ls (st.map (ww_tr b ad))) := by
  obtain ⟨⟨hx, hb, hml, hown, hts⟩, hK, hA, hR, hin, hsc, hZ, hU, hl, htab, hlocks⟩ := C
  obtain ⟨hP, hD, hS, hL⟩ := I
  have hag : ∀ i, i < h.length → ad i = ad i := fun _ _ => rfl
  simp only [ww_st] at hs
  split at hs
  · cases hs
    exact lv_lmul hx hb hd (kk ad H locs ls hag ⟨hP, hD, hS, hL⟩)
  · cases hs
set_option maxHeartbeats 2000000 in
theorem ww_sd_land {l : Launch} {p : Program} {e : Env} {R : Room} {s : State} {m : MethodId} {args : Array Value} {below : List Frame} {meth : Method} {c : Code} {H : Heap} {locs : List Loc} {Q : State → Prop} {D : va_G} {tA : Nat → ClassId} {b : Nat} {A : Nat → Prop} {S : ww_S} {M pc k n : Nat} {L st : List Value} {h : List ww_E} {ad : Nat → Nat} {ls : Array Slot} {o : Nat × List Value × List Value × List ww_E × Nat × Nat}  (C : ww_C l p R s m args meth c D tA b A S M) (I : ww_I s D tA b A (ww_mL M) ad h L H locs ls) (g : ww_g L st h) (hkm : k ≤ ww_mc M ∧ n ≤ ww_ms M) (hd : decode (ww_b M) pc = .ok (.land, 1)) (hs : ww_st S M 1 pc L st h k n (.land) = some o) (kk : ∀ ad' H' locs' ls', (∀ i, i < h.length → ad' i = ad i) → ww_I s D tA b A (ww_mL M) ad' o.2.2.2.1 o.2.1 H' locs' ls' → W p l e R s m args below meth c H' locs' o.2.2.2.2.1 o.2.2.2.2.2 Q (F0 m o.1 ls' (o.2.2.1.map (ww_tr b ad')))) : W p l e R s m args below meth c H locs k n Q (F0 m pc ls (st.map (ww_tr b ad))) := by
  obtain ⟨⟨hx, hb, hml, hown, hts⟩, hK, hA, hR, hin, hsc, hZ, hU, hl, htab, hlocks⟩ := C
  obtain ⟨hP, hD, hS, hL⟩ := I
  have hag : ∀ i, i < h.length → ad i = ad i := fun _ _ => rfl
  simp only [ww_st] at hs
  split at hs
  · cases hs
    exact lv_land hx hb hd (kk ad H locs ls hag ⟨hP, hD, hS, hL⟩)
  · cases hs
set_option maxHeartbeats 2000000 in
theorem ww_sd_lor {l : Launch} {p : Program} {e : Env} {R : Room} {s : State} {m : MethodId} {args : Array Value} {below : List Frame} {meth : Method} {c : Code} {H : Heap} {locs : List Loc} {Q : State → Prop} {D : va_G} {tA : Nat → ClassId} {b : Nat} {A : Nat → Prop} {S : ww_S} {M pc k n : Nat} {L st : List Value} {h : List ww_E} {ad : Nat → Nat} {ls : Array Slot} {o : Nat × List Value × List Value × List ww_E × Nat × Nat}  (C : ww_C l p R s m args meth c D tA b A S M) (I : ww_I s D tA b A (ww_mL M) ad h L H locs ls) (g : ww_g L st h) (hkm : k ≤ ww_mc M ∧ n ≤ ww_ms M) (hd : decode (ww_b M) pc = .ok (.lor, 1)) (hs : ww_st S M 1 pc L st h k n (.lor) = some o) (kk : ∀ ad' H' locs' ls', (∀ i, i < h.length → ad' i = ad i) → ww_I s D tA b A (ww_mL M) ad' o.2.2.2.1 o.2.1 H' locs' ls' → W p l e R s m args below meth c H' locs' o.2.2.2.2.1 o.2.2.2.2.2 Q (F0 m o.1 ls' (o.2.2.1.map (ww_tr b ad')))) : W p l e R s m args below meth c H locs k n Q (F0 m pc ls (st.map (ww_tr b ad))) := by
  obtain ⟨⟨hx, hb, hml, hown, hts⟩, hK, hA, hR, hin, hsc, hZ, hU, hl, htab, hlocks⟩ := C
  obtain ⟨hP, hD, hS, hL⟩ := I
  have hag : ∀ i, i < h.length → ad i = ad i := fun _ _ => rfl
  simp only [ww_st] at hs
  split at hs
  · cases hs
    exact lv_lor hx hb hd (kk ad H locs ls hag ⟨hP, hD, hS, hL⟩)
  · cases hs
set_option maxHeartbeats 2000000 in
theorem ww_sd_iushr {l : Launch} {p : Program} {e : Env} {R : Room} {s : State} {m : MethodId} {args : Array Value} {below : List Frame} {meth : Method} {c : Code} {H : Heap} {locs : List Loc} {Q : State → Prop} {D : va_G} {tA : Nat → ClassId} {b : Nat} {A : Nat → Prop} {S : ww_S} {M pc k n : Nat} {L st : List Value} {h : List ww_E} {ad : Nat → Nat} {ls : Array Slot} {o : Nat × List Value × List Value × List ww_E × Nat × Nat}  (C : ww_C l p R s m args meth c D tA b A S M) (I : ww_I s D tA b A (ww_mL M) ad h L H locs ls) (g : ww_g L st h) (hkm : k ≤ ww_mc M ∧ n ≤ ww_ms M) (hd : decode (ww_b M) pc = .ok (.iushr, 1)) (hs : ww_st S M 1 pc L st h k n (.iushr) = some o) (kk : ∀ ad' H' locs' ls', (∀ i, i < h.length → ad' i = ad i) → ww_I s D tA b A (ww_mL M) ad' o.2.2.2.1 o.2.1 H' locs' ls' → W p l e R s m args below meth c H' locs' o.2.2.2.2.1 o.2.2.2.2.2 Q (F0 m o.1 ls' (o.2.2.1.map (ww_tr b ad')))) : W p l e R s m args below meth c H locs k n Q (F0 m pc ls (st.map (ww_tr b ad))) := by
  obtain ⟨⟨hx, hb, hml, hown, hts⟩, hK, hA, hR, hin, hsc, hZ, hU, hl, htab, hlocks⟩ := C
  obtain ⟨hP, hD, hS, hL⟩ := I
  have hag : ∀ i, i < h.length → ad i = ad i := fun _ _ => rfl
  simp only [ww_st] at hs
  split at hs
  · cases hs
    exact lv_iushr hx hb hd rfl (kk ad H locs ls hag ⟨hP, hD, hS, hL⟩)
  · cases hs
set_option maxHeartbeats 2000000 in
theorem ww_sd_lshl {l : Launch} {p : Program} {e : Env} {R : Room} {s : State} {m : MethodId} {args : Array Value} {below : List Frame} {meth : Method} {c : Code} {H : Heap} {locs : List Loc} {Q : State → Prop} {D : va_G} {tA : Nat → ClassId} {b : Nat} {A : Nat → Prop} {S : ww_S} {M pc k n : Nat} {L st : List Value} {h : List ww_E} {ad : Nat → Nat} {ls : Array Slot} {o : Nat × List Value × List Value × List ww_E × Nat × Nat}  (C : ww_C l p R s m args meth c D tA b A S M) (I : ww_I s D tA b A (ww_mL M) ad h L H locs ls) (g : ww_g L st h) (hkm : k ≤ ww_mc M ∧ n ≤ ww_ms M) (hd : decode (ww_b M) pc = .ok (.lshl, 1)) (hs : ww_st S M 1 pc L st h k n (.lshl) = some o) (kk : ∀ ad' H' locs' ls', (∀ i, i < h.length → ad' i = ad i) → ww_I s D tA b A (ww_mL M) ad' o.2.2.2.1 o.2.1 H' locs' ls' → W p l e R s m args below meth c H' locs' o.2.2.2.2.1 o.2.2.2.2.2 Q (F0 m o.1 ls' (o.2.2.1.map (ww_tr b ad')))) : W p l e R s m args below meth c H locs k n Q (F0 m pc ls (st.map (ww_tr b ad))) := by
  obtain ⟨⟨hx, hb, hml, hown, hts⟩, hK, hA, hR, hin, hsc, hZ, hU, hl, htab, hlocks⟩ := C
  obtain ⟨hP, hD, hS, hL⟩ := I
  have hag : ∀ i, i < h.length → ad i = ad i := fun _ _ => rfl
  simp only [ww_st] at hs
  split at hs
  · cases hs
    exact lv_lshl hx hb hd rfl (kk ad H locs ls hag ⟨hP, hD, hS, hL⟩)
  · cases hs
set_option maxHeartbeats 2000000 in
theorem ww_sd_lshr {l : Launch} {p : Program} {e : Env} {R : Room} {s : State} {m : MethodId} {args : Array Value} {below : List Frame} {meth : Method} {c : Code} {H : Heap} {locs : List Loc} {Q : State → Prop} {D : va_G} {tA : Nat → ClassId} {b : Nat} {A : Nat → Prop} {S : ww_S} {M pc k n : Nat} {L st : List Value} {h : List ww_E} {ad : Nat → Nat} {ls : Array Slot} {o : Nat × List Value × List Value × List ww_E × Nat × Nat}  (C : ww_C l p R s m args meth c D tA b A S M) (I : ww_I s D tA b A (ww_mL M) ad h L H locs ls) (g : ww_g L st h) (hkm : k ≤ ww_mc M ∧ n ≤ ww_ms M) (hd : decode (ww_b M) pc = .ok (.lshr, 1)) (hs : ww_st S M 1 pc L st h k n (.lshr) = some o) (kk : ∀ ad' H' locs' ls', (∀ i, i < h.length → ad' i = ad i) → ww_I s D tA b A (ww_mL M) ad' o.2.2.2.1 o.2.1 H' locs' ls' → W p l e R s m args below meth c H' locs' o.2.2.2.2.1 o.2.2.2.2.2 Q (F0 m o.1 ls' (o.2.2.1.map (ww_tr b ad')))) : W p l e R s m args below meth c H locs k n Q (F0 m pc ls (st.map (ww_tr b ad))) := by
  obtain ⟨⟨hx, hb, hml, hown, hts⟩, hK, hA, hR, hin, hsc, hZ, hU, hl, htab, hlocks⟩ := C
  obtain ⟨hP, hD, hS, hL⟩ := I
  have hag : ∀ i, i < h.length → ad i = ad i := fun _ _ => rfl
  simp only [ww_st] at hs
  split at hs
  · cases hs
    exact lv_lshr hx hb hd rfl (kk ad H locs ls hag ⟨hP, hD, hS, hL⟩)
  · cases hs
set_option maxHeartbeats 2000000 in
theorem ww_sd_lushr {l : Launch} {p : Program} {e : Env} {R : Room} {s : State} {m : MethodId} {args : Array Value} {below : List Frame} {meth : Method} {c : Code} {H : Heap} {locs : List Loc} {Q : State → Prop} {D : va_G} {tA : Nat → ClassId} {b : Nat} {A : Nat → Prop} {S : ww_S} {M pc k n : Nat} {L st : List Value} {h : List ww_E} {ad : Nat → Nat} {ls : Array Slot} {o : Nat × List Value × List Value × List ww_E × Nat × Nat}  (C : ww_C l p R s m args meth c D tA b A S M) (I : ww_I s D tA b A (ww_mL M) ad h L H locs ls) (g : ww_g L st h) (hkm : k ≤ ww_mc M ∧ n ≤ ww_ms M) (hd : decode (ww_b M) pc = .ok (.lushr, 1)) (hs : ww_st S M 1 pc L st h k n (.lushr) = some o) (kk : ∀ ad' H' locs' ls', (∀ i, i < h.length → ad' i = ad i) → ww_I s D tA b A (ww_mL M) ad' o.2.2.2.1 o.2.1 H' locs' ls' → W p l e R s m args below meth c H' locs' o.2.2.2.2.1 o.2.2.2.2.2 Q (F0 m o.1 ls' (o.2.2.1.map (ww_tr b ad')))) : W p l e R s m args below meth c H locs k n Q (F0 m pc ls (st.map (ww_tr b ad))) := by
  obtain ⟨⟨hx, hb, hml, hown, hts⟩, hK, hA, hR, hin, hsc, hZ, hU, hl, htab, hlocks⟩ := C
  obtain ⟨hP, hD, hS, hL⟩ := I
  have hag : ∀ i, i < h.length → ad i = ad i := fun _ _ => rfl
  simp only [ww_st] at hs
  split at hs
  · cases hs
    exact lv_lushr hx hb hd rfl (kk ad H locs ls hag ⟨hP, hD, hS, hL⟩)
  · cases hs
set_option maxHeartbeats 2000000 in
theorem ww_sd_i2l {l : Launch} {p : Program} {e : Env} {R : Room} {s : State} {m : MethodId} {args : Array Value} {below : List Frame} {meth : Method} {c : Code} {H : Heap} {locs : List Loc} {Q : State → Prop} {D : va_G} {tA : Nat → ClassId} {b : Nat} {A : Nat → Prop} {S : ww_S} {M pc k n : Nat} {L st : List Value} {h : List ww_E} {ad : Nat → Nat} {ls : Array Slot} {o : Nat × List Value × List Value × List ww_E × Nat × Nat}  (C : ww_C l p R s m args meth c D tA b A S M) (I : ww_I s D tA b A (ww_mL M) ad h L H locs ls) (g : ww_g L st h) (hkm : k ≤ ww_mc M ∧ n ≤ ww_ms M) (hd : decode (ww_b M) pc = .ok (.i2l, 1)) (hs : ww_st S M 1 pc L st h k n (.i2l) = some o) (kk : ∀ ad' H' locs' ls', (∀ i, i < h.length → ad' i = ad i) → ww_I s D tA b A (ww_mL M) ad' o.2.2.2.1 o.2.1 H' locs' ls' → W p l e R s m args below meth c H' locs' o.2.2.2.2.1 o.2.2.2.2.2 Q (F0 m o.1 ls' (o.2.2.1.map (ww_tr b ad')))) : W p l e R s m args below meth c H locs k n Q (F0 m pc ls (st.map (ww_tr b ad))) := by
  obtain ⟨⟨hx, hb, hml, hown, hts⟩, hK, hA, hR, hin, hsc, hZ, hU, hl, htab, hlocks⟩ := C
  obtain ⟨hP, hD, hS, hL⟩ := I
  have hag : ∀ i, i < h.length → ad i = ad i := fun _ _ => rfl
  simp only [ww_st] at hs
  split at hs
  · cases hs
    exact lv_i2l hx hb hd rfl (kk ad H locs ls hag ⟨hP, hD, hS, hL⟩)
  · cases hs
set_option maxHeartbeats 2000000 in
theorem ww_sd_lcmp {l : Launch} {p : Program} {e : Env} {R : Room} {s : State} {m : MethodId} {args : Array Value} {below : List Frame} {meth : Method} {c : Code} {H : Heap} {locs : List Loc} {Q : State → Prop} {D : va_G} {tA : Nat → ClassId} {b : Nat} {A : Nat → Prop} {S : ww_S} {M pc k n : Nat} {L st : List Value} {h : List ww_E} {ad : Nat → Nat} {ls : Array Slot} {o : Nat × List Value × List Value × List ww_E × Nat × Nat}  (C : ww_C l p R s m args meth c D tA b A S M) (I : ww_I s D tA b A (ww_mL M) ad h L H locs ls) (g : ww_g L st h) (hkm : k ≤ ww_mc M ∧ n ≤ ww_ms M) (hd : decode (ww_b M) pc = .ok (.lcmp, 1)) (hs : ww_st S M 1 pc L st h k n (.lcmp) = some o) (kk : ∀ ad' H' locs' ls', (∀ i, i < h.length → ad' i = ad i) → ww_I s D tA b A (ww_mL M) ad' o.2.2.2.1 o.2.1 H' locs' ls' → W p l e R s m args below meth c H' locs' o.2.2.2.2.1 o.2.2.2.2.2 Q (F0 m o.1 ls' (o.2.2.1.map (ww_tr b ad')))) : W p l e R s m args below meth c H locs k n Q (F0 m pc ls (st.map (ww_tr b ad))) := by
  obtain ⟨⟨hx, hb, hml, hown, hts⟩, hK, hA, hR, hin, hsc, hZ, hU, hl, htab, hlocks⟩ := C
  obtain ⟨hP, hD, hS, hL⟩ := I
  have hag : ∀ i, i < h.length → ad i = ad i := fun _ _ => rfl
  simp only [ww_st] at hs
  split at hs
  · cases hs
    exact W.lcmp hx hb hd (kk ad H locs ls hag ⟨hP, hD, hS, hL⟩)
  · cases hs
set_option maxHeartbeats 2000000 in
theorem ww_sd_idiv {l : Launch} {p : Program} {e : Env} {R : Room} {s : State} {m : MethodId} {args : Array Value} {below : List Frame} {meth : Method} {c : Code} {H : Heap} {locs : List Loc} {Q : State → Prop} {D : va_G} {tA : Nat → ClassId} {b : Nat} {A : Nat → Prop} {S : ww_S} {M pc k n : Nat} {L st : List Value} {h : List ww_E} {ad : Nat → Nat} {ls : Array Slot} {o : Nat × List Value × List Value × List ww_E × Nat × Nat}  (C : ww_C l p R s m args meth c D tA b A S M) (I : ww_I s D tA b A (ww_mL M) ad h L H locs ls) (g : ww_g L st h) (hkm : k ≤ ww_mc M ∧ n ≤ ww_ms M) (hd : decode (ww_b M) pc = .ok (.idiv, 1)) (hs : ww_st S M 1 pc L st h k n (.idiv) = some o) (kk : ∀ ad' H' locs' ls', (∀ i, i < h.length → ad' i = ad i) → ww_I s D tA b A (ww_mL M) ad' o.2.2.2.1 o.2.1 H' locs' ls' → W p l e R s m args below meth c H' locs' o.2.2.2.2.1 o.2.2.2.2.2 Q (F0 m o.1 ls' (o.2.2.1.map (ww_tr b ad')))) : W p l e R s m args below meth c H locs k n Q (F0 m pc ls (st.map (ww_tr b ad))) := by
  obtain ⟨⟨hx, hb, hml, hown, hts⟩, hK, hA, hR, hin, hsc, hZ, hU, hl, htab, hlocks⟩ := C
  obtain ⟨hP, hD, hS, hL⟩ := I
  have hag : ∀ i, i < h.length → ad i = ad i := fun _ _ => rfl
  simp only [ww_st] at hs
  split at hs
  · split at hs
    · cases hs
    · rename_i hne
      cases hs
      exact lv_idiv hx hb hd hne (kk ad H locs ls hag ⟨hP, hD, hS, hL⟩)
  · cases hs
set_option maxHeartbeats 2000000 in
theorem ww_sd_ldiv {l : Launch} {p : Program} {e : Env} {R : Room} {s : State} {m : MethodId} {args : Array Value} {below : List Frame} {meth : Method} {c : Code} {H : Heap} {locs : List Loc} {Q : State → Prop} {D : va_G} {tA : Nat → ClassId} {b : Nat} {A : Nat → Prop} {S : ww_S} {M pc k n : Nat} {L st : List Value} {h : List ww_E} {ad : Nat → Nat} {ls : Array Slot} {o : Nat × List Value × List Value × List ww_E × Nat × Nat}  (C : ww_C l p R s m args meth c D tA b A S M) (I : ww_I s D tA b A (ww_mL M) ad h L H locs ls) (g : ww_g L st h) (hkm : k ≤ ww_mc M ∧ n ≤ ww_ms M) (hd : decode (ww_b M) pc = .ok (.ldiv, 1)) (hs : ww_st S M 1 pc L st h k n (.ldiv) = some o) (kk : ∀ ad' H' locs' ls', (∀ i, i < h.length → ad' i = ad i) → ww_I s D tA b A (ww_mL M) ad' o.2.2.2.1 o.2.1 H' locs' ls' → W p l e R s m args below meth c H' locs' o.2.2.2.2.1 o.2.2.2.2.2 Q (F0 m o.1 ls' (o.2.2.1.map (ww_tr b ad')))) : W p l e R s m args below meth c H locs k n Q (F0 m pc ls (st.map (ww_tr b ad))) := by
  obtain ⟨⟨hx, hb, hml, hown, hts⟩, hK, hA, hR, hin, hsc, hZ, hU, hl, htab, hlocks⟩ := C
  obtain ⟨hP, hD, hS, hL⟩ := I
  have hag : ∀ i, i < h.length → ad i = ad i := fun _ _ => rfl
  simp only [ww_st] at hs
  split at hs
  · split at hs
    · cases hs
    · rename_i hne
      cases hs
      exact lv_ldiv hx hb hd hne (kk ad H locs ls hag ⟨hP, hD, hS, hL⟩)
  · cases hs
set_option maxHeartbeats 2000000 in
theorem ww_sd_dup {l : Launch} {p : Program} {e : Env} {R : Room} {s : State} {m : MethodId} {args : Array Value} {below : List Frame} {meth : Method} {c : Code} {H : Heap} {locs : List Loc} {Q : State → Prop} {D : va_G} {tA : Nat → ClassId} {b : Nat} {A : Nat → Prop} {S : ww_S} {M pc k n : Nat} {L st : List Value} {h : List ww_E} {ad : Nat → Nat} {ls : Array Slot} {o : Nat × List Value × List Value × List ww_E × Nat × Nat}  (C : ww_C l p R s m args meth c D tA b A S M) (I : ww_I s D tA b A (ww_mL M) ad h L H locs ls) (g : ww_g L st h) (hkm : k ≤ ww_mc M ∧ n ≤ ww_ms M) (hd : decode (ww_b M) pc = .ok (.dup, 1)) (hs : ww_st S M 1 pc L st h k n (.dup) = some o) (kk : ∀ ad' H' locs' ls', (∀ i, i < h.length → ad' i = ad i) → ww_I s D tA b A (ww_mL M) ad' o.2.2.2.1 o.2.1 H' locs' ls' → W p l e R s m args below meth c H' locs' o.2.2.2.2.1 o.2.2.2.2.2 Q (F0 m o.1 ls' (o.2.2.1.map (ww_tr b ad')))) : W p l e R s m args below meth c H locs k n Q (F0 m pc ls (st.map (ww_tr b ad))) := by
  obtain ⟨⟨hx, hb, hml, hown, hts⟩, hK, hA, hR, hin, hsc, hZ, hU, hl, htab, hlocks⟩ := C
  obtain ⟨hP, hD, hS, hL⟩ := I
  have hag : ∀ i, i < h.length → ad i = ad i := fun _ _ => rfl
  simp only [ww_st] at hs
  split at hs
  · cases hs
    exact lv_dup hx hb hd rfl (kk ad H locs ls hag ⟨hP, hD, hS, hL⟩)
  · cases hs
    exact lv_dup hx hb hd rfl (kk ad H locs ls hag ⟨hP, hD, hS, hL⟩)
  · cases hs
set_option maxHeartbeats 2000000 in
theorem ww_sd_dup2 {l : Launch} {p : Program} {e : Env} {R : Room} {s : State} {m : MethodId} {args : Array Value} {below : List Frame} {meth : Method} {c : Code} {H : Heap} {locs : List Loc} {Q : State → Prop} {D : va_G} {tA : Nat → ClassId} {b : Nat} {A : Nat → Prop} {S : ww_S} {M pc k n : Nat} {L st : List Value} {h : List ww_E} {ad : Nat → Nat} {ls : Array Slot} {o : Nat × List Value × List Value × List ww_E × Nat × Nat}  (C : ww_C l p R s m args meth c D tA b A S M) (I : ww_I s D tA b A (ww_mL M) ad h L H locs ls) (g : ww_g L st h) (hkm : k ≤ ww_mc M ∧ n ≤ ww_ms M) (hd : decode (ww_b M) pc = .ok (.dup2, 1)) (hs : ww_st S M 1 pc L st h k n (.dup2) = some o) (kk : ∀ ad' H' locs' ls', (∀ i, i < h.length → ad' i = ad i) → ww_I s D tA b A (ww_mL M) ad' o.2.2.2.1 o.2.1 H' locs' ls' → W p l e R s m args below meth c H' locs' o.2.2.2.2.1 o.2.2.2.2.2 Q (F0 m o.1 ls' (o.2.2.1.map (ww_tr b ad')))) : W p l e R s m args below meth c H locs k n Q (F0 m pc ls (st.map (ww_tr b ad))) := by
  obtain ⟨⟨hx, hb, hml, hown, hts⟩, hK, hA, hR, hin, hsc, hZ, hU, hl, htab, hlocks⟩ := C
  obtain ⟨hP, hD, hS, hL⟩ := I
  have hag : ∀ i, i < h.length → ad i = ad i := fun _ _ => rfl
  simp only [ww_st] at hs
  split at hs
  · cases hs
    exact lv_dup2_11 hx hb hd rfl rfl (kk ad H locs ls hag ⟨hP, hD, hS, hL⟩)
  · cases hs
set_option maxHeartbeats 2000000 in
theorem ww_sd_iconst {l : Launch} {p : Program} {e : Env} {R : Room} {s : State} {m : MethodId} {args : Array Value} {below : List Frame} {meth : Method} {c : Code} {H : Heap} {locs : List Loc} {Q : State → Prop} {D : va_G} {tA : Nat → ClassId} {b : Nat} {A : Nat → Prop} {S : ww_S} {M pc k n : Nat} {L st : List Value} {h : List ww_E} {ad : Nat → Nat} {ls : Array Slot} {o : Nat × List Value × List Value × List ww_E × Nat × Nat} {v : Int} (C : ww_C l p R s m args meth c D tA b A S M) (I : ww_I s D tA b A (ww_mL M) ad h L H locs ls) (g : ww_g L st h) (hkm : k ≤ ww_mc M ∧ n ≤ ww_ms M)  (hd : decode (ww_b M) pc = .ok (.iconst v, 1)) (hs : ww_st S M 1 pc L st h k n (.iconst v) = some o) (kk : ∀ ad' H' locs' ls', (∀ i, i < h.length → ad' i = ad i) → ww_I s D tA b A (ww_mL M) ad' o.2.2.2.1 o.2.1 H' locs' ls' → W p l e R s m args below meth c H' locs' o.2.2.2.2.1 o.2.2.2.2.2 Q (F0 m o.1 ls' (o.2.2.1.map (ww_tr b ad')))) : W p l e R s m args below meth c H locs k n Q (F0 m pc ls (st.map (ww_tr b ad))) := by
  obtain ⟨⟨hx, hb, hml, hown, hts⟩, hK, hA, hR, hin, hsc, hZ, hU, hl, htab, hlocks⟩ := C
  obtain ⟨hP, hD, hS, hL⟩ := I
  have hag : ∀ i, i < h.length → ad i = ad i := fun _ _ => rfl
  simp only [ww_st] at hs
  cases hs
  exact lv_iconst hx hb hd rfl (kk ad H locs ls hag ⟨hP, hD, hS, hL⟩)
set_option maxHeartbeats 2000000 in
theorem ww_sd_bipush {l : Launch} {p : Program} {e : Env} {R : Room} {s : State} {m : MethodId} {args : Array Value} {below : List Frame} {meth : Method} {c : Code} {H : Heap} {locs : List Loc} {Q : State → Prop} {D : va_G} {tA : Nat → ClassId} {b : Nat} {A : Nat → Prop} {S : ww_S} {M pc k n : Nat} {L st : List Value} {h : List ww_E} {ad : Nat → Nat} {ls : Array Slot} {o : Nat × List Value × List Value × List ww_E × Nat × Nat} {v : Int} (C : ww_C l p R s m args meth c D tA b A S M) (I : ww_I s D tA b A (ww_mL M) ad h L H locs ls) (g : ww_g L st h) (hkm : k ≤ ww_mc M ∧ n ≤ ww_ms M) (hv : (Int8.ofInt v).toInt32 = Int32.ofInt v) (hd : decode (ww_b M) pc = .ok (.bipush v, 2)) (hs : ww_st S M 2 pc L st h k n (.iconst v) = some o) (kk : ∀ ad' H' locs' ls', (∀ i, i < h.length → ad' i = ad i) → ww_I s D tA b A (ww_mL M) ad' o.2.2.2.1 o.2.1 H' locs' ls' → W p l e R s m args below meth c H' locs' o.2.2.2.2.1 o.2.2.2.2.2 Q (F0 m o.1 ls' (o.2.2.1.map (ww_tr b ad')))) : W p l e R s m args below meth c H locs k n Q (F0 m pc ls (st.map (ww_tr b ad))) := by
  obtain ⟨⟨hx, hb, hml, hown, hts⟩, hK, hA, hR, hin, hsc, hZ, hU, hl, htab, hlocks⟩ := C
  obtain ⟨hP, hD, hS, hL⟩ := I
  have hag : ∀ i, i < h.length → ad i = ad i := fun _ _ => rfl
  simp only [ww_st] at hs
  cases hs
  exact lv_bipush hx hb hd hv (kk ad H locs ls hag ⟨hP, hD, hS, hL⟩)
set_option maxHeartbeats 2000000 in
theorem ww_sd_sipush {l : Launch} {p : Program} {e : Env} {R : Room} {s : State} {m : MethodId} {args : Array Value} {below : List Frame} {meth : Method} {c : Code} {H : Heap} {locs : List Loc} {Q : State → Prop} {D : va_G} {tA : Nat → ClassId} {b : Nat} {A : Nat → Prop} {S : ww_S} {M pc k n : Nat} {L st : List Value} {h : List ww_E} {ad : Nat → Nat} {ls : Array Slot} {o : Nat × List Value × List Value × List ww_E × Nat × Nat} {v : Int} (C : ww_C l p R s m args meth c D tA b A S M) (I : ww_I s D tA b A (ww_mL M) ad h L H locs ls) (g : ww_g L st h) (hkm : k ≤ ww_mc M ∧ n ≤ ww_ms M) (hv : (Int16.ofInt v).toInt32 = Int32.ofInt v) (hd : decode (ww_b M) pc = .ok (.sipush v, 3)) (hs : ww_st S M 3 pc L st h k n (.iconst v) = some o) (kk : ∀ ad' H' locs' ls', (∀ i, i < h.length → ad' i = ad i) → ww_I s D tA b A (ww_mL M) ad' o.2.2.2.1 o.2.1 H' locs' ls' → W p l e R s m args below meth c H' locs' o.2.2.2.2.1 o.2.2.2.2.2 Q (F0 m o.1 ls' (o.2.2.1.map (ww_tr b ad')))) : W p l e R s m args below meth c H locs k n Q (F0 m pc ls (st.map (ww_tr b ad))) := by
  obtain ⟨⟨hx, hb, hml, hown, hts⟩, hK, hA, hR, hin, hsc, hZ, hU, hl, htab, hlocks⟩ := C
  obtain ⟨hP, hD, hS, hL⟩ := I
  have hag : ∀ i, i < h.length → ad i = ad i := fun _ _ => rfl
  simp only [ww_st] at hs
  cases hs
  exact lv_sipush hx hb hd hv (kk ad H locs ls hag ⟨hP, hD, hS, hL⟩)
set_option maxHeartbeats 2000000 in
theorem ww_sd_ldc {l : Launch} {p : Program} {e : Env} {R : Room} {s : State} {m : MethodId} {args : Array Value} {below : List Frame} {meth : Method} {c : Code} {H : Heap} {locs : List Loc} {Q : State → Prop} {D : va_G} {tA : Nat → ClassId} {b : Nat} {A : Nat → Prop} {S : ww_S} {M pc k n : Nat} {L st : List Value} {h : List ww_E} {ad : Nat → Nat} {ls : Array Slot} {o : Nat × List Value × List Value × List ww_E × Nat × Nat} {v : Int} {q : Nat} (C : ww_C l p R s m args meth c D tA b A S M) (I : ww_I s D tA b A (ww_mL M) ad h L H locs ls) (g : ww_g L st h) (hkm : k ≤ ww_mc M ∧ n ≤ ww_ms M) (hv : ww_l3 ww_iT (ww_ow M) q = some v) (hd : decode (ww_b M) pc = .ok (.ldc q, 2)) (hs : ww_st S M 2 pc L st h k n (.iconst v) = some o) (kk : ∀ ad' H' locs' ls', (∀ i, i < h.length → ad' i = ad i) → ww_I s D tA b A (ww_mL M) ad' o.2.2.2.1 o.2.1 H' locs' ls' → W p l e R s m args below meth c H' locs' o.2.2.2.2.1 o.2.2.2.2.2 Q (F0 m o.1 ls' (o.2.2.1.map (ww_tr b ad')))) : W p l e R s m args below meth c H locs k n Q (F0 m pc ls (st.map (ww_tr b ad))) := by
  obtain ⟨⟨hx, hb, hml, hown, hts⟩, hK, hA, hR, hin, hsc, hZ, hU, hl, htab, hlocks⟩ := C
  obtain ⟨hP, hD, hS, hL⟩ := I
  have hag : ∀ i, i < h.length → ad i = ad i := fun _ _ => rfl
  simp only [ww_st] at hs
  have hw := List.all_eq_true.mp ww_iT_ok _ (ww_l3_mem hv)
  cases hs
  exact lv_ldc hx hb hown (ww_word hts hw) hd (kk ad H locs ls hag ⟨hP, hD, hS, hL⟩)
set_option maxHeartbeats 2000000 in
theorem ww_sd_ldcw {l : Launch} {p : Program} {e : Env} {R : Room} {s : State} {m : MethodId} {args : Array Value} {below : List Frame} {meth : Method} {c : Code} {H : Heap} {locs : List Loc} {Q : State → Prop} {D : va_G} {tA : Nat → ClassId} {b : Nat} {A : Nat → Prop} {S : ww_S} {M pc k n : Nat} {L st : List Value} {h : List ww_E} {ad : Nat → Nat} {ls : Array Slot} {o : Nat × List Value × List Value × List ww_E × Nat × Nat} {v : Int} {q : Nat} (C : ww_C l p R s m args meth c D tA b A S M) (I : ww_I s D tA b A (ww_mL M) ad h L H locs ls) (g : ww_g L st h) (hkm : k ≤ ww_mc M ∧ n ≤ ww_ms M) (hv : ww_l3 ww_iT (ww_ow M) q = some v) (hd : decode (ww_b M) pc = .ok (.ldc_w q, 3)) (hs : ww_st S M 3 pc L st h k n (.iconst v) = some o) (kk : ∀ ad' H' locs' ls', (∀ i, i < h.length → ad' i = ad i) → ww_I s D tA b A (ww_mL M) ad' o.2.2.2.1 o.2.1 H' locs' ls' → W p l e R s m args below meth c H' locs' o.2.2.2.2.1 o.2.2.2.2.2 Q (F0 m o.1 ls' (o.2.2.1.map (ww_tr b ad')))) : W p l e R s m args below meth c H locs k n Q (F0 m pc ls (st.map (ww_tr b ad))) := by
  obtain ⟨⟨hx, hb, hml, hown, hts⟩, hK, hA, hR, hin, hsc, hZ, hU, hl, htab, hlocks⟩ := C
  obtain ⟨hP, hD, hS, hL⟩ := I
  have hag : ∀ i, i < h.length → ad i = ad i := fun _ _ => rfl
  simp only [ww_st] at hs
  have hw := List.all_eq_true.mp ww_iT_ok _ (ww_l3_mem hv)
  cases hs
  exact lv_ldcw hx hb hown (ww_word hts hw) hd (kk ad H locs ls hag ⟨hP, hD, hS, hL⟩)
set_option maxHeartbeats 2000000 in
theorem ww_sd_ldc2w {l : Launch} {p : Program} {e : Env} {R : Room} {s : State} {m : MethodId} {args : Array Value} {below : List Frame} {meth : Method} {c : Code} {H : Heap} {locs : List Loc} {Q : State → Prop} {D : va_G} {tA : Nat → ClassId} {b : Nat} {A : Nat → Prop} {S : ww_S} {M pc k n : Nat} {L st : List Value} {h : List ww_E} {ad : Nat → Nat} {ls : Array Slot} {o : Nat × List Value × List Value × List ww_E × Nat × Nat} {v : Int} {q : Nat} (C : ww_C l p R s m args meth c D tA b A S M) (I : ww_I s D tA b A (ww_mL M) ad h L H locs ls) (g : ww_g L st h) (hkm : k ≤ ww_mc M ∧ n ≤ ww_ms M) (hv : ww_l3 ww_lT (ww_ow M) q = some v) (hd : decode (ww_b M) pc = .ok (.ldc2_w q, 3)) (hs : ww_st S M 3 pc L st h k n (.jsr_w v) = some o) (kk : ∀ ad' H' locs' ls', (∀ i, i < h.length → ad' i = ad i) → ww_I s D tA b A (ww_mL M) ad' o.2.2.2.1 o.2.1 H' locs' ls' → W p l e R s m args below meth c H' locs' o.2.2.2.2.1 o.2.2.2.2.2 Q (F0 m o.1 ls' (o.2.2.1.map (ww_tr b ad')))) : W p l e R s m args below meth c H locs k n Q (F0 m pc ls (st.map (ww_tr b ad))) := by
  obtain ⟨⟨hx, hb, hml, hown, hts⟩, hK, hA, hR, hin, hsc, hZ, hU, hl, htab, hlocks⟩ := C
  obtain ⟨hP, hD, hS, hL⟩ := I
  have hag : ∀ i, i < h.length → ad i = ad i := fun _ _ => rfl
  simp only [ww_st] at hs
  have hw := List.all_eq_true.mp ww_lT_ok _ (ww_l3_mem hv)
  cases hs
  exact lv_ldc2 hx hb hown (ww_word hts hw) hd (kk ad H locs ls hag ⟨hP, hD, hS, hL⟩)
set_option maxHeartbeats 2000000 in
theorem ww_sd_lconst {l : Launch} {p : Program} {e : Env} {R : Room} {s : State} {m : MethodId} {args : Array Value} {below : List Frame} {meth : Method} {c : Code} {H : Heap} {locs : List Loc} {Q : State → Prop} {D : va_G} {tA : Nat → ClassId} {b : Nat} {A : Nat → Prop} {S : ww_S} {M pc k n : Nat} {L st : List Value} {h : List ww_E} {ad : Nat → Nat} {ls : Array Slot} {o : Nat × List Value × List Value × List ww_E × Nat × Nat} {v : Fin 2} (C : ww_C l p R s m args meth c D tA b A S M) (I : ww_I s D tA b A (ww_mL M) ad h L H locs ls) (g : ww_g L st h) (hkm : k ≤ ww_mc M ∧ n ≤ ww_ms M)  (hd : decode (ww_b M) pc = .ok (.lconst v, 1)) (hs : ww_st S M 1 pc L st h k n (.jsr_w v) = some o) (kk : ∀ ad' H' locs' ls', (∀ i, i < h.length → ad' i = ad i) → ww_I s D tA b A (ww_mL M) ad' o.2.2.2.1 o.2.1 H' locs' ls' → W p l e R s m args below meth c H' locs' o.2.2.2.2.1 o.2.2.2.2.2 Q (F0 m o.1 ls' (o.2.2.1.map (ww_tr b ad')))) : W p l e R s m args below meth c H locs k n Q (F0 m pc ls (st.map (ww_tr b ad))) := by
  obtain ⟨⟨hx, hb, hml, hown, hts⟩, hK, hA, hR, hin, hsc, hZ, hU, hl, htab, hlocks⟩ := C
  obtain ⟨hP, hD, hS, hL⟩ := I
  have hag : ∀ i, i < h.length → ad i = ad i := fun _ _ => rfl
  simp only [ww_st] at hs
  cases hs
  exact lv_lconst hx hb hd (by rcases v with ⟨v, hv⟩; rcases (show v = 0 ∨ v = 1 by omega) with rfl | rfl <;> rfl) (kk ad H locs ls hag ⟨hP, hD, hS, hL⟩)
set_option maxHeartbeats 2000000 in
theorem ww_sd_iload {l : Launch} {p : Program} {e : Env} {R : Room} {s : State} {m : MethodId} {args : Array Value} {below : List Frame} {meth : Method} {c : Code} {H : Heap} {locs : List Loc} {Q : State → Prop} {D : va_G} {tA : Nat → ClassId} {b : Nat} {A : Nat → Prop} {S : ww_S} {M pc k n : Nat} {L st : List Value} {h : List ww_E} {ad : Nat → Nat} {ls : Array Slot} {o : Nat × List Value × List Value × List ww_E × Nat × Nat} {q : Nat} (C : ww_C l p R s m args meth c D tA b A S M) (I : ww_I s D tA b A (ww_mL M) ad h L H locs ls) (g : ww_g L st h) (hkm : k ≤ ww_mc M ∧ n ≤ ww_ms M)  (hd : decode (ww_b M) pc = .ok (.iload q, 2)) (hs : ww_st S M 2 pc L st h k n (.iload q) = some o) (kk : ∀ ad' H' locs' ls', (∀ i, i < h.length → ad' i = ad i) → ww_I s D tA b A (ww_mL M) ad' o.2.2.2.1 o.2.1 H' locs' ls' → W p l e R s m args below meth c H' locs' o.2.2.2.2.1 o.2.2.2.2.2 Q (F0 m o.1 ls' (o.2.2.1.map (ww_tr b ad')))) : W p l e R s m args below meth c H locs k n Q (F0 m pc ls (st.map (ww_tr b ad))) := by
  obtain ⟨⟨hx, hb, hml, hown, hts⟩, hK, hA, hR, hin, hsc, hZ, hU, hl, htab, hlocks⟩ := C
  obtain ⟨hP, hD, hS, hL⟩ := I
  have hag : ∀ i, i < h.length → ad i = ad i := fun _ _ => rfl
  simp only [ww_st] at hs
  split at hs
  · rename_i x hx9
    cases hs
    exact lv_iload hx hb hd (hL.2.2.2 _ _ hx9 (fun h9 => by cases h9)) (kk ad H locs ls hag ⟨hP, hD, hS, hL⟩)
  · cases hs
set_option maxHeartbeats 2000000 in
theorem ww_sd_iload_n {l : Launch} {p : Program} {e : Env} {R : Room} {s : State} {m : MethodId} {args : Array Value} {below : List Frame} {meth : Method} {c : Code} {H : Heap} {locs : List Loc} {Q : State → Prop} {D : va_G} {tA : Nat → ClassId} {b : Nat} {A : Nat → Prop} {S : ww_S} {M pc k n : Nat} {L st : List Value} {h : List ww_E} {ad : Nat → Nat} {ls : Array Slot} {o : Nat × List Value × List Value × List ww_E × Nat × Nat} {q : Fin 4} (C : ww_C l p R s m args meth c D tA b A S M) (I : ww_I s D tA b A (ww_mL M) ad h L H locs ls) (g : ww_g L st h) (hkm : k ≤ ww_mc M ∧ n ≤ ww_ms M)  (hd : decode (ww_b M) pc = .ok (.iload_n q, 1)) (hs : ww_st S M 1 pc L st h k n (.iload q) = some o) (kk : ∀ ad' H' locs' ls', (∀ i, i < h.length → ad' i = ad i) → ww_I s D tA b A (ww_mL M) ad' o.2.2.2.1 o.2.1 H' locs' ls' → W p l e R s m args below meth c H' locs' o.2.2.2.2.1 o.2.2.2.2.2 Q (F0 m o.1 ls' (o.2.2.1.map (ww_tr b ad')))) : W p l e R s m args below meth c H locs k n Q (F0 m pc ls (st.map (ww_tr b ad))) := by
  obtain ⟨⟨hx, hb, hml, hown, hts⟩, hK, hA, hR, hin, hsc, hZ, hU, hl, htab, hlocks⟩ := C
  obtain ⟨hP, hD, hS, hL⟩ := I
  have hag : ∀ i, i < h.length → ad i = ad i := fun _ _ => rfl
  simp only [ww_st] at hs
  split at hs
  · rename_i x hx9
    cases hs
    exact lv_iload_n hx hb hd rfl (hL.2.2.2 _ _ hx9 (fun h9 => by cases h9)) (kk ad H locs ls hag ⟨hP, hD, hS, hL⟩)
  · cases hs
set_option maxHeartbeats 2000000 in
theorem ww_sd_lload {l : Launch} {p : Program} {e : Env} {R : Room} {s : State} {m : MethodId} {args : Array Value} {below : List Frame} {meth : Method} {c : Code} {H : Heap} {locs : List Loc} {Q : State → Prop} {D : va_G} {tA : Nat → ClassId} {b : Nat} {A : Nat → Prop} {S : ww_S} {M pc k n : Nat} {L st : List Value} {h : List ww_E} {ad : Nat → Nat} {ls : Array Slot} {o : Nat × List Value × List Value × List ww_E × Nat × Nat} {q : Nat} (C : ww_C l p R s m args meth c D tA b A S M) (I : ww_I s D tA b A (ww_mL M) ad h L H locs ls) (g : ww_g L st h) (hkm : k ≤ ww_mc M ∧ n ≤ ww_ms M)  (hd : decode (ww_b M) pc = .ok (.lload q, 2)) (hs : ww_st S M 2 pc L st h k n (.lload q) = some o) (kk : ∀ ad' H' locs' ls', (∀ i, i < h.length → ad' i = ad i) → ww_I s D tA b A (ww_mL M) ad' o.2.2.2.1 o.2.1 H' locs' ls' → W p l e R s m args below meth c H' locs' o.2.2.2.2.1 o.2.2.2.2.2 Q (F0 m o.1 ls' (o.2.2.1.map (ww_tr b ad')))) : W p l e R s m args below meth c H locs k n Q (F0 m pc ls (st.map (ww_tr b ad))) := by
  obtain ⟨⟨hx, hb, hml, hown, hts⟩, hK, hA, hR, hin, hsc, hZ, hU, hl, htab, hlocks⟩ := C
  obtain ⟨hP, hD, hS, hL⟩ := I
  have hag : ∀ i, i < h.length → ad i = ad i := fun _ _ => rfl
  simp only [ww_st] at hs
  split at hs
  · rename_i x hx9
    cases hs
    exact lv_lload hx hb hd (hL.2.2.2 _ _ hx9 (fun h9 => by cases h9)) (kk ad H locs ls hag ⟨hP, hD, hS, hL⟩)
  · cases hs
set_option maxHeartbeats 2000000 in
theorem ww_sd_lload_n {l : Launch} {p : Program} {e : Env} {R : Room} {s : State} {m : MethodId} {args : Array Value} {below : List Frame} {meth : Method} {c : Code} {H : Heap} {locs : List Loc} {Q : State → Prop} {D : va_G} {tA : Nat → ClassId} {b : Nat} {A : Nat → Prop} {S : ww_S} {M pc k n : Nat} {L st : List Value} {h : List ww_E} {ad : Nat → Nat} {ls : Array Slot} {o : Nat × List Value × List Value × List ww_E × Nat × Nat} {q : Fin 4} (C : ww_C l p R s m args meth c D tA b A S M) (I : ww_I s D tA b A (ww_mL M) ad h L H locs ls) (g : ww_g L st h) (hkm : k ≤ ww_mc M ∧ n ≤ ww_ms M)  (hd : decode (ww_b M) pc = .ok (.lload_n q, 1)) (hs : ww_st S M 1 pc L st h k n (.lload q) = some o) (kk : ∀ ad' H' locs' ls', (∀ i, i < h.length → ad' i = ad i) → ww_I s D tA b A (ww_mL M) ad' o.2.2.2.1 o.2.1 H' locs' ls' → W p l e R s m args below meth c H' locs' o.2.2.2.2.1 o.2.2.2.2.2 Q (F0 m o.1 ls' (o.2.2.1.map (ww_tr b ad')))) : W p l e R s m args below meth c H locs k n Q (F0 m pc ls (st.map (ww_tr b ad))) := by
  obtain ⟨⟨hx, hb, hml, hown, hts⟩, hK, hA, hR, hin, hsc, hZ, hU, hl, htab, hlocks⟩ := C
  obtain ⟨hP, hD, hS, hL⟩ := I
  have hag : ∀ i, i < h.length → ad i = ad i := fun _ _ => rfl
  simp only [ww_st] at hs
  split at hs
  · rename_i x hx9
    cases hs
    exact lv_lload_n hx hb hd rfl (hL.2.2.2 _ _ hx9 (fun h9 => by cases h9)) (kk ad H locs ls hag ⟨hP, hD, hS, hL⟩)
  · cases hs
set_option maxHeartbeats 2000000 in
theorem ww_sd_aload {l : Launch} {p : Program} {e : Env} {R : Room} {s : State} {m : MethodId} {args : Array Value} {below : List Frame} {meth : Method} {c : Code} {H : Heap} {locs : List Loc} {Q : State → Prop} {D : va_G} {tA : Nat → ClassId} {b : Nat} {A : Nat → Prop} {S : ww_S} {M pc k n : Nat} {L st : List Value} {h : List ww_E} {ad : Nat → Nat} {ls : Array Slot} {o : Nat × List Value × List Value × List ww_E × Nat × Nat} {q : Nat} (C : ww_C l p R s m args meth c D tA b A S M) (I : ww_I s D tA b A (ww_mL M) ad h L H locs ls) (g : ww_g L st h) (hkm : k ≤ ww_mc M ∧ n ≤ ww_ms M)  (hd : decode (ww_b M) pc = .ok (.aload q, 2)) (hs : ww_st S M 2 pc L st h k n (.aload q) = some o) (kk : ∀ ad' H' locs' ls', (∀ i, i < h.length → ad' i = ad i) → ww_I s D tA b A (ww_mL M) ad' o.2.2.2.1 o.2.1 H' locs' ls' → W p l e R s m args below meth c H' locs' o.2.2.2.2.1 o.2.2.2.2.2 Q (F0 m o.1 ls' (o.2.2.1.map (ww_tr b ad')))) : W p l e R s m args below meth c H locs k n Q (F0 m pc ls (st.map (ww_tr b ad))) := by
  obtain ⟨⟨hx, hb, hml, hown, hts⟩, hK, hA, hR, hin, hsc, hZ, hU, hl, htab, hlocks⟩ := C
  obtain ⟨hP, hD, hS, hL⟩ := I
  have hag : ∀ i, i < h.length → ad i = ad i := fun _ _ => rfl
  simp only [ww_st] at hs
  split at hs
  · rename_i x hx9
    cases hs
    exact lv_aload hx hb hd (hL.2.2.2 _ _ hx9 (fun h9 => by cases h9)) (kk ad H locs ls hag ⟨hP, hD, hS, hL⟩)
  · rename_i hx9
    split at hs
    · cases hs
      exact lv_aload hx hb hd (hL.2.2.2 _ _ hx9 (fun h9 => by cases h9)) (kk ad H locs ls hag ⟨hP, hD, hS, hL⟩)
    · cases hs
  · cases hs
set_option maxHeartbeats 2000000 in
theorem ww_sd_aload_n {l : Launch} {p : Program} {e : Env} {R : Room} {s : State} {m : MethodId} {args : Array Value} {below : List Frame} {meth : Method} {c : Code} {H : Heap} {locs : List Loc} {Q : State → Prop} {D : va_G} {tA : Nat → ClassId} {b : Nat} {A : Nat → Prop} {S : ww_S} {M pc k n : Nat} {L st : List Value} {h : List ww_E} {ad : Nat → Nat} {ls : Array Slot} {o : Nat × List Value × List Value × List ww_E × Nat × Nat} {q : Fin 4} (C : ww_C l p R s m args meth c D tA b A S M) (I : ww_I s D tA b A (ww_mL M) ad h L H locs ls) (g : ww_g L st h) (hkm : k ≤ ww_mc M ∧ n ≤ ww_ms M)  (hd : decode (ww_b M) pc = .ok (.aload_n q, 1)) (hs : ww_st S M 1 pc L st h k n (.aload q) = some o) (kk : ∀ ad' H' locs' ls', (∀ i, i < h.length → ad' i = ad i) → ww_I s D tA b A (ww_mL M) ad' o.2.2.2.1 o.2.1 H' locs' ls' → W p l e R s m args below meth c H' locs' o.2.2.2.2.1 o.2.2.2.2.2 Q (F0 m o.1 ls' (o.2.2.1.map (ww_tr b ad')))) : W p l e R s m args below meth c H locs k n Q (F0 m pc ls (st.map (ww_tr b ad))) := by
  obtain ⟨⟨hx, hb, hml, hown, hts⟩, hK, hA, hR, hin, hsc, hZ, hU, hl, htab, hlocks⟩ := C
  obtain ⟨hP, hD, hS, hL⟩ := I
  have hag : ∀ i, i < h.length → ad i = ad i := fun _ _ => rfl
  simp only [ww_st] at hs
  split at hs
  · rename_i x hx9
    cases hs
    exact lv_aload_n hx hb hd rfl (hL.2.2.2 _ _ hx9 (fun h9 => by cases h9)) (kk ad H locs ls hag ⟨hP, hD, hS, hL⟩)
  · rename_i hx9
    split at hs
    · cases hs
      exact lv_aload_n hx hb hd rfl (hL.2.2.2 _ _ hx9 (fun h9 => by cases h9)) (kk ad H locs ls hag ⟨hP, hD, hS, hL⟩)
    · cases hs
  · cases hs
set_option maxHeartbeats 2000000 in
theorem ww_sd_istore {l : Launch} {p : Program} {e : Env} {R : Room} {s : State} {m : MethodId} {args : Array Value} {below : List Frame} {meth : Method} {c : Code} {H : Heap} {locs : List Loc} {Q : State → Prop} {D : va_G} {tA : Nat → ClassId} {b : Nat} {A : Nat → Prop} {S : ww_S} {M pc k n : Nat} {L st : List Value} {h : List ww_E} {ad : Nat → Nat} {ls : Array Slot} {o : Nat × List Value × List Value × List ww_E × Nat × Nat} {q : Nat} (C : ww_C l p R s m args meth c D tA b A S M) (I : ww_I s D tA b A (ww_mL M) ad h L H locs ls) (g : ww_g L st h) (hkm : k ≤ ww_mc M ∧ n ≤ ww_ms M)  (hd : decode (ww_b M) pc = .ok (.istore q, 2)) (hs : ww_st S M 2 pc L st h k n (.istore q) = some o) (kk : ∀ ad' H' locs' ls', (∀ i, i < h.length → ad' i = ad i) → ww_I s D tA b A (ww_mL M) ad' o.2.2.2.1 o.2.1 H' locs' ls' → W p l e R s m args below meth c H' locs' o.2.2.2.2.1 o.2.2.2.2.2 Q (F0 m o.1 ls' (o.2.2.1.map (ww_tr b ad')))) : W p l e R s m args below meth c H locs k n Q (F0 m pc ls (st.map (ww_tr b ad))) := by
  obtain ⟨⟨hx, hb, hml, hown, hts⟩, hK, hA, hR, hin, hsc, hZ, hU, hl, htab, hlocks⟩ := C
  obtain ⟨hP, hD, hS, hL⟩ := I
  have hag : ∀ i, i < h.length → ad i = ad i := fun _ _ => rfl
  simp only [ww_st] at hs
  have hLl := hL.2.2.1
  split at hs
  · split at hs
    · rename_i x9 r9 hi9
      rw [hLl] at hi9
      cases hs
      exact lv_istore hx hb hd (ww_lR_has hL) hi9 rfl (fun ls9 h9 => kk ad H locs ls9 hag ⟨hP, hD, hS, ww_lR_s1 (v := .int x9) hL hi9 h9⟩)
    · cases hs
  · cases hs
set_option maxHeartbeats 2000000 in
theorem ww_sd_istore_n {l : Launch} {p : Program} {e : Env} {R : Room} {s : State} {m : MethodId} {args : Array Value} {below : List Frame} {meth : Method} {c : Code} {H : Heap} {locs : List Loc} {Q : State → Prop} {D : va_G} {tA : Nat → ClassId} {b : Nat} {A : Nat → Prop} {S : ww_S} {M pc k n : Nat} {L st : List Value} {h : List ww_E} {ad : Nat → Nat} {ls : Array Slot} {o : Nat × List Value × List Value × List ww_E × Nat × Nat} {q : Fin 4} (C : ww_C l p R s m args meth c D tA b A S M) (I : ww_I s D tA b A (ww_mL M) ad h L H locs ls) (g : ww_g L st h) (hkm : k ≤ ww_mc M ∧ n ≤ ww_ms M)  (hd : decode (ww_b M) pc = .ok (.istore_n q, 1)) (hs : ww_st S M 1 pc L st h k n (.istore q) = some o) (kk : ∀ ad' H' locs' ls', (∀ i, i < h.length → ad' i = ad i) → ww_I s D tA b A (ww_mL M) ad' o.2.2.2.1 o.2.1 H' locs' ls' → W p l e R s m args below meth c H' locs' o.2.2.2.2.1 o.2.2.2.2.2 Q (F0 m o.1 ls' (o.2.2.1.map (ww_tr b ad')))) : W p l e R s m args below meth c H locs k n Q (F0 m pc ls (st.map (ww_tr b ad))) := by
  obtain ⟨⟨hx, hb, hml, hown, hts⟩, hK, hA, hR, hin, hsc, hZ, hU, hl, htab, hlocks⟩ := C
  obtain ⟨hP, hD, hS, hL⟩ := I
  have hag : ∀ i, i < h.length → ad i = ad i := fun _ _ => rfl
  simp only [ww_st] at hs
  have hLl := hL.2.2.1
  split at hs
  · split at hs
    · rename_i x9 r9 hi9
      rw [hLl] at hi9
      cases hs
      exact lv_istore_n hx hb hd rfl (ww_lR_has hL) hi9 rfl (fun ls9 h9 => kk ad H locs ls9 hag ⟨hP, hD, hS, ww_lR_s1 (v := .int x9) hL hi9 h9⟩)
    · cases hs
  · cases hs
set_option maxHeartbeats 2000000 in
theorem ww_sd_astore {l : Launch} {p : Program} {e : Env} {R : Room} {s : State} {m : MethodId} {args : Array Value} {below : List Frame} {meth : Method} {c : Code} {H : Heap} {locs : List Loc} {Q : State → Prop} {D : va_G} {tA : Nat → ClassId} {b : Nat} {A : Nat → Prop} {S : ww_S} {M pc k n : Nat} {L st : List Value} {h : List ww_E} {ad : Nat → Nat} {ls : Array Slot} {o : Nat × List Value × List Value × List ww_E × Nat × Nat} {q : Nat} (C : ww_C l p R s m args meth c D tA b A S M) (I : ww_I s D tA b A (ww_mL M) ad h L H locs ls) (g : ww_g L st h) (hkm : k ≤ ww_mc M ∧ n ≤ ww_ms M)  (hd : decode (ww_b M) pc = .ok (.astore q, 2)) (hs : ww_st S M 2 pc L st h k n (.astore q) = some o) (kk : ∀ ad' H' locs' ls', (∀ i, i < h.length → ad' i = ad i) → ww_I s D tA b A (ww_mL M) ad' o.2.2.2.1 o.2.1 H' locs' ls' → W p l e R s m args below meth c H' locs' o.2.2.2.2.1 o.2.2.2.2.2 Q (F0 m o.1 ls' (o.2.2.1.map (ww_tr b ad')))) : W p l e R s m args below meth c H locs k n Q (F0 m pc ls (st.map (ww_tr b ad))) := by
  obtain ⟨⟨hx, hb, hml, hown, hts⟩, hK, hA, hR, hin, hsc, hZ, hU, hl, htab, hlocks⟩ := C
  obtain ⟨hP, hD, hS, hL⟩ := I
  have hag : ∀ i, i < h.length → ad i = ad i := fun _ _ => rfl
  simp only [ww_st] at hs
  have hLl := hL.2.2.1
  split at hs
  · split at hs
    · rename_i x9 r9 hi9
      rw [hLl] at hi9
      cases hs
      exact lv_astore hx hb hd (ww_lR_has hL) hi9 rfl (fun ls9 h9 => kk ad H locs ls9 hag ⟨hP, hD, hS, ww_lR_s1 (v := .ref x9) hL hi9 h9⟩)
    · cases hs
  · cases hs
set_option maxHeartbeats 2000000 in
theorem ww_sd_astore_n {l : Launch} {p : Program} {e : Env} {R : Room} {s : State} {m : MethodId} {args : Array Value} {below : List Frame} {meth : Method} {c : Code} {H : Heap} {locs : List Loc} {Q : State → Prop} {D : va_G} {tA : Nat → ClassId} {b : Nat} {A : Nat → Prop} {S : ww_S} {M pc k n : Nat} {L st : List Value} {h : List ww_E} {ad : Nat → Nat} {ls : Array Slot} {o : Nat × List Value × List Value × List ww_E × Nat × Nat} {q : Fin 4} (C : ww_C l p R s m args meth c D tA b A S M) (I : ww_I s D tA b A (ww_mL M) ad h L H locs ls) (g : ww_g L st h) (hkm : k ≤ ww_mc M ∧ n ≤ ww_ms M)  (hd : decode (ww_b M) pc = .ok (.astore_n q, 1)) (hs : ww_st S M 1 pc L st h k n (.astore q) = some o) (kk : ∀ ad' H' locs' ls', (∀ i, i < h.length → ad' i = ad i) → ww_I s D tA b A (ww_mL M) ad' o.2.2.2.1 o.2.1 H' locs' ls' → W p l e R s m args below meth c H' locs' o.2.2.2.2.1 o.2.2.2.2.2 Q (F0 m o.1 ls' (o.2.2.1.map (ww_tr b ad')))) : W p l e R s m args below meth c H locs k n Q (F0 m pc ls (st.map (ww_tr b ad))) := by
  obtain ⟨⟨hx, hb, hml, hown, hts⟩, hK, hA, hR, hin, hsc, hZ, hU, hl, htab, hlocks⟩ := C
  obtain ⟨hP, hD, hS, hL⟩ := I
  have hag : ∀ i, i < h.length → ad i = ad i := fun _ _ => rfl
  simp only [ww_st] at hs
  have hLl := hL.2.2.1
  split at hs
  · split at hs
    · rename_i x9 r9 hi9
      rw [hLl] at hi9
      cases hs
      exact lv_astore_n hx hb hd rfl (ww_lR_has hL) hi9 rfl (fun ls9 h9 => kk ad H locs ls9 hag ⟨hP, hD, hS, ww_lR_s1 (v := .ref x9) hL hi9 h9⟩)
    · cases hs
  · cases hs
set_option maxHeartbeats 2000000 in
theorem ww_sd_lstore {l : Launch} {p : Program} {e : Env} {R : Room} {s : State} {m : MethodId} {args : Array Value} {below : List Frame} {meth : Method} {c : Code} {H : Heap} {locs : List Loc} {Q : State → Prop} {D : va_G} {tA : Nat → ClassId} {b : Nat} {A : Nat → Prop} {S : ww_S} {M pc k n : Nat} {L st : List Value} {h : List ww_E} {ad : Nat → Nat} {ls : Array Slot} {o : Nat × List Value × List Value × List ww_E × Nat × Nat} {q : Nat} (C : ww_C l p R s m args meth c D tA b A S M) (I : ww_I s D tA b A (ww_mL M) ad h L H locs ls) (g : ww_g L st h) (hkm : k ≤ ww_mc M ∧ n ≤ ww_ms M)  (hd : decode (ww_b M) pc = .ok (.lstore q, 2)) (hs : ww_st S M 2 pc L st h k n (.lstore q) = some o) (kk : ∀ ad' H' locs' ls', (∀ i, i < h.length → ad' i = ad i) → ww_I s D tA b A (ww_mL M) ad' o.2.2.2.1 o.2.1 H' locs' ls' → W p l e R s m args below meth c H' locs' o.2.2.2.2.1 o.2.2.2.2.2 Q (F0 m o.1 ls' (o.2.2.1.map (ww_tr b ad')))) : W p l e R s m args below meth c H locs k n Q (F0 m pc ls (st.map (ww_tr b ad))) := by
  obtain ⟨⟨hx, hb, hml, hown, hts⟩, hK, hA, hR, hin, hsc, hZ, hU, hl, htab, hlocks⟩ := C
  obtain ⟨hP, hD, hS, hL⟩ := I
  have hag : ∀ i, i < h.length → ad i = ad i := fun _ _ => rfl
  simp only [ww_st] at hs
  have hLl := hL.2.2.1
  split at hs
  · split at hs
    · rename_i x9 r9 hi9
      rw [hLl] at hi9
      cases hs
      exact lv_lstore hx hb hd (ww_lR_has hL) hi9 rfl (fun ls9 h9 => kk ad H locs ls9 hag ⟨hP, hD, hS, ww_lR_s2 (v := .long x9) hL hi9 h9⟩)
    · cases hs
  · cases hs
set_option maxHeartbeats 2000000 in
theorem ww_sd_lstore_n {l : Launch} {p : Program} {e : Env} {R : Room} {s : State} {m : MethodId} {args : Array Value} {below : List Frame} {meth : Method} {c : Code} {H : Heap} {locs : List Loc} {Q : State → Prop} {D : va_G} {tA : Nat → ClassId} {b : Nat} {A : Nat → Prop} {S : ww_S} {M pc k n : Nat} {L st : List Value} {h : List ww_E} {ad : Nat → Nat} {ls : Array Slot} {o : Nat × List Value × List Value × List ww_E × Nat × Nat} {q : Fin 4} (C : ww_C l p R s m args meth c D tA b A S M) (I : ww_I s D tA b A (ww_mL M) ad h L H locs ls) (g : ww_g L st h) (hkm : k ≤ ww_mc M ∧ n ≤ ww_ms M)  (hd : decode (ww_b M) pc = .ok (.lstore_n q, 1)) (hs : ww_st S M 1 pc L st h k n (.lstore q) = some o) (kk : ∀ ad' H' locs' ls', (∀ i, i < h.length → ad' i = ad i) → ww_I s D tA b A (ww_mL M) ad' o.2.2.2.1 o.2.1 H' locs' ls' → W p l e R s m args below meth c H' locs' o.2.2.2.2.1 o.2.2.2.2.2 Q (F0 m o.1 ls' (o.2.2.1.map (ww_tr b ad')))) : W p l e R s m args below meth c H locs k n Q (F0 m pc ls (st.map (ww_tr b ad))) := by
  obtain ⟨⟨hx, hb, hml, hown, hts⟩, hK, hA, hR, hin, hsc, hZ, hU, hl, htab, hlocks⟩ := C
  obtain ⟨hP, hD, hS, hL⟩ := I
  have hag : ∀ i, i < h.length → ad i = ad i := fun _ _ => rfl
  simp only [ww_st] at hs
  have hLl := hL.2.2.1
  split at hs
  · split at hs
    · rename_i x9 r9 hi9
      rw [hLl] at hi9
      cases hs
      exact lv_lstore_n hx hb hd rfl (ww_lR_has hL) hi9 rfl (fun ls9 h9 => kk ad H locs ls9 hag ⟨hP, hD, hS, ww_lR_s2 (v := .long x9) hL hi9 h9⟩)
    · cases hs
  · cases hs
set_option maxHeartbeats 2000000 in
theorem ww_sd_iinc {l : Launch} {p : Program} {e : Env} {R : Room} {s : State} {m : MethodId} {args : Array Value} {below : List Frame} {meth : Method} {c : Code} {H : Heap} {locs : List Loc} {Q : State → Prop} {D : va_G} {tA : Nat → ClassId} {b : Nat} {A : Nat → Prop} {S : ww_S} {M pc k n : Nat} {L st : List Value} {h : List ww_E} {ad : Nat → Nat} {ls : Array Slot} {o : Nat × List Value × List Value × List ww_E × Nat × Nat} {q : Nat} {v : Int} (C : ww_C l p R s m args meth c D tA b A S M) (I : ww_I s D tA b A (ww_mL M) ad h L H locs ls) (g : ww_g L st h) (hkm : k ≤ ww_mc M ∧ n ≤ ww_ms M)  (hd : decode (ww_b M) pc = .ok (.iinc q v, 3)) (hs : ww_st S M 3 pc L st h k n (.iinc q v) = some o) (kk : ∀ ad' H' locs' ls', (∀ i, i < h.length → ad' i = ad i) → ww_I s D tA b A (ww_mL M) ad' o.2.2.2.1 o.2.1 H' locs' ls' → W p l e R s m args below meth c H' locs' o.2.2.2.2.1 o.2.2.2.2.2 Q (F0 m o.1 ls' (o.2.2.1.map (ww_tr b ad')))) : W p l e R s m args below meth c H locs k n Q (F0 m pc ls (st.map (ww_tr b ad))) := by
  obtain ⟨⟨hx, hb, hml, hown, hts⟩, hK, hA, hR, hin, hsc, hZ, hU, hl, htab, hlocks⟩ := C
  obtain ⟨hP, hD, hS, hL⟩ := I
  have hag : ∀ i, i < h.length → ad i = ad i := fun _ _ => rfl
  simp only [ww_st] at hs
  have hLl := hL.2.2.1
  split at hs
  · rename_i x9 hx9
    obtain ⟨k9, hk9⟩ := List.getElem?_of_mem (ww_ll_mem (tv := ww_tr b ad) (q := (q, .int x9)).mpr ⟨.int x9, hx9, (fun h9 => by cases h9), rfl⟩)
    have hq9 : q < ww_mL M := by rw [← hLl]; exact (List.getElem?_eq_some_iff.mp hx9).1
    cases hs
    exact lv_iinc hx hb hd (ww_lR_has hL) hk9 rfl hq9 rfl (fun ls9 h9 => kk ad H locs ls9 hag ⟨hP, hD, hS, ww_lR_s1 (v := .int (x9 + Int32.ofInt v)) hL hq9 h9⟩)
  · cases hs
set_option maxHeartbeats 2000000 in
theorem ww_sd_getfield {l : Launch} {p : Program} {e : Env} {R : Room} {s : State} {m : MethodId} {args : Array Value} {below : List Frame} {meth : Method} {c : Code} {H : Heap} {locs : List Loc} {Q : State → Prop} {D : va_G} {tA : Nat → ClassId} {b : Nat} {A : Nat → Prop} {S : ww_S} {M pc k n : Nat} {L st : List Value} {h : List ww_E} {ad : Nat → Nat} {ls : Array Slot} {o : Nat × List Value × List Value × List ww_E × Nat × Nat} {i ci q : Nat} (C : ww_C l p R s m args meth c D tA b A S M) (I : ww_I s D tA b A (ww_mL M) ad h L H locs ls) (g : ww_g L st h) (hkm : k ≤ ww_mc M ∧ n ≤ ww_ms M) (hf : ww_l3 ww_fT (ww_ow M) i = some (ci, q)) (hd : decode (ww_b M) pc = .ok (.getfield i, 3)) (hs : ww_st S M 3 pc L st h k n (.invokeinterface ci q) = some o) (kk : ∀ ad' H' locs' ls', (∀ i, i < h.length → ad' i = ad i) → ww_I s D tA b A (ww_mL M) ad' o.2.2.2.1 o.2.1 H' locs' ls' → W p l e R s m args below meth c H' locs' o.2.2.2.2.1 o.2.2.2.2.2 Q (F0 m o.1 ls' (o.2.2.1.map (ww_tr b ad')))) : W p l e R s m args below meth c H locs k n Q (F0 m pc ls (st.map (ww_tr b ad))) := by
  obtain ⟨⟨hx, hb, hml, hown, hts⟩, hK, hA, hR, hin, hsc, hZ, hU, hl, htab, hlocks⟩ := C
  obtain ⟨hP, hD, hS, hL⟩ := I
  have hag : ∀ i, i < h.length → ad i = ad i := fun _ _ => rfl
  simp only [ww_st] at hs
  obtain ⟨f1, f2, f3, f4⟩ := ww_fld_at hf
  obtain ⟨c1, c2, c3, c4⟩ := ww_cls_at f1
  split at hs
  · rename_i a9 r9
    split at hs
    · rename_i v9 hv9
      cases hs
      unfold ww_gf at hv9
      split at hv9
      · rename_i c9 fs9 hc9
        split at hv9
        · rename_i e9
          subst e9
          exact va_get hx hb hts c1 hown hK hP a9 (ww_w_get hc9) (ww_cl_at f1) q f2 (ww_word hts f4) (fun _ h9 => h9) (by rw [List.getElem?_map, hv9]; rfl) hd (kk ad H locs ls hag ⟨hP, hD, hS, hL⟩)
        · cases hv9
      · cases hv9
    · cases hs
  · cases hs
set_option maxHeartbeats 2000000 in
theorem ww_sd_putfield {l : Launch} {p : Program} {e : Env} {R : Room} {s : State} {m : MethodId} {args : Array Value} {below : List Frame} {meth : Method} {c : Code} {H : Heap} {locs : List Loc} {Q : State → Prop} {D : va_G} {tA : Nat → ClassId} {b : Nat} {A : Nat → Prop} {S : ww_S} {M pc k n : Nat} {L st : List Value} {h : List ww_E} {ad : Nat → Nat} {ls : Array Slot} {o : Nat × List Value × List Value × List ww_E × Nat × Nat} {i ci q : Nat} (C : ww_C l p R s m args meth c D tA b A S M) (I : ww_I s D tA b A (ww_mL M) ad h L H locs ls) (g : ww_g L st h) (hkm : k ≤ ww_mc M ∧ n ≤ ww_ms M) (hf : ww_l3 ww_fT (ww_ow M) i = some (ci, q)) (hfn : ww_fn ci q = false ∨ (ww_kd M = 2 ∧ ci = ww_ow M)) (hd : decode (ww_b M) pc = .ok (.putfield i, 3)) (hs : ww_st S M 3 pc L st h k n (.multianewarray ci (q + 100 * ww_ft ci q)) = some o) (kk : ∀ ad' H' locs' ls', (∀ i, i < h.length → ad' i = ad i) → ww_I s D tA b A (ww_mL M) ad' o.2.2.2.1 o.2.1 H' locs' ls' → W p l e R s m args below meth c H' locs' o.2.2.2.2.1 o.2.2.2.2.2 Q (F0 m o.1 ls' (o.2.2.1.map (ww_tr b ad')))) : W p l e R s m args below meth c H locs k n Q (F0 m pc ls (st.map (ww_tr b ad))) := by
  obtain ⟨⟨hx, hb, hml, hown, hts⟩, hK, hA, hR, hin, hsc, hZ, hU, hl, htab, hlocks⟩ := C
  obtain ⟨hP, hD, hS, hL⟩ := I
  have hag : ∀ i, i < h.length → ad i = ad i := fun _ _ => rfl
  simp only [ww_st] at hs
  obtain ⟨f1, f2, f3, f4⟩ := ww_fld_at hf
  obtain ⟨c1, c2, c3, c4⟩ := ww_cls_at f1
  have hq1 : (q + 100 * ww_ft ci q) % 100 = q := by omega
  have hq2 : (q + 100 * ww_ft ci q) / 100 = ww_ft ci q := by omega
  rw [hq1, hq2] at hs
  split at hs
  · rename_i v9 a9 r9
    split at hs
    · rename_i ht9
      split at hs
      · rename_i h9 hv9
        cases hs
        unfold ww_pf at hv9
        split at hv9
        · rename_i c9 fs9 hc9
          split at hv9
          · rename_i e9
            obtain ⟨rfl, hl9⟩ := e9
            cases hv9
            obtain ⟨t1, t2, t3, t4, t5⟩ := ww_fty_at f1 f2
            obtain ⟨n1, n2⟩ := ww_fit (b := b) (ad := ad) ht9 t1
            have key : ∀ (H1 : Heap) (locs1 : List Loc), va_P D ww_cl ((ww_w tA b ad h).set a9 (ad a9, .inr (c9, (fs9.map (ww_tr b ad)).set q (ww_tr b ad v9)))) H1 → va_D A ((ww_w tA b ad h).set a9 (ad a9, .inr (c9, (fs9.map (ww_tr b ad)).set q (ww_tr b ad v9)))) → va_S A s.heap H1 locs1 → W p l e R s m args below meth c H1 locs1 k n Q (F0 m (pc + 3) ls (r9.map (ww_tr b ad))) := by
              intro H1 locs1 hP1 hD1 hS1
              rw [← List.map_set] at hP1 hD1
              refine kk ad H1 locs1 ls hag ⟨?_, ?_, hS1, hL⟩
              · show va_P D ww_cl (ww_w tA b ad (h.set a9 _)) H1
                rw [ww_w_set]; exact hP1
              · show va_D A (ww_w tA b ad (h.set a9 _))
                rw [ww_w_set]; exact hD1
            have htys : ∀ k, k < (ww_c5 c9).2.2 → parseFieldDescriptor ((ww_c5 c9).2.1 k).2.2.1 = some (ww_t5 c9 k) := fun k9 hk9 => (ww_fty_at f1 hk9).2.1
            have hnms : ∀ a, a < (ww_c5 c9).2.2 → ∀ b, b < (ww_c5 c9).2.2 → a ≠ b → ((ww_c5 c9).2.1 a).2.1 ≠ ((ww_c5 c9).2.1 b).2.1 := fun a ha b hb hne => (ww_fty_at f1 ha).2.2.2.1 b hb hne
            cases hfin : ((ww_c5 c9).2.1 q).2.2.2 with
            | false => exact va_put hx hb hts c1 (ww_t5 c9) htys hnms hown hK hP hD hS a9 (ww_w_get hc9) (ww_cl_at f1) q f2 (ww_word hts f4) (fun _ h9 => h9) hfin t2 n1 n2 (by rw [List.length_map]; exact hl9) hd key
            | true =>
              rcases hfn with hfn | ⟨hfn1, hfn2⟩
              · exact absurd (hfin.symm.trans hfn) (by decide)
              · exact va_putF hx hb hts c1 (ww_t5 c9) htys hnms hown hK hP hD hS a9 (ww_w_get hc9) (ww_cl_at f1) q f2 (ww_word hts f4) (fun _ h9 => h9) hfin (hin hfn1) (by rw [← hfn2]; exact t5) t2 n1 n2 (by rw [List.length_map]; exact hl9) hd key
          · cases hv9
        · cases hv9
      · cases hs
    · cases hs
  · cases hs
set_option maxHeartbeats 2000000 in
theorem ww_sd_iaload {l : Launch} {p : Program} {e : Env} {R : Room} {s : State} {m : MethodId} {args : Array Value} {below : List Frame} {meth : Method} {c : Code} {H : Heap} {locs : List Loc} {Q : State → Prop} {D : va_G} {tA : Nat → ClassId} {b : Nat} {A : Nat → Prop} {S : ww_S} {M pc k n : Nat} {L st : List Value} {h : List ww_E} {ad : Nat → Nat} {ls : Array Slot} {o : Nat × List Value × List Value × List ww_E × Nat × Nat}  (C : ww_C l p R s m args meth c D tA b A S M) (I : ww_I s D tA b A (ww_mL M) ad h L H locs ls) (g : ww_g L st h) (hkm : k ≤ ww_mc M ∧ n ≤ ww_ms M) (hd : decode (ww_b M) pc = .ok (.iaload, 1)) (hs : ww_st S M 1 pc L st h k n (.iaload) = some o) (kk : ∀ ad' H' locs' ls', (∀ i, i < h.length → ad' i = ad i) → ww_I s D tA b A (ww_mL M) ad' o.2.2.2.1 o.2.1 H' locs' ls' → W p l e R s m args below meth c H' locs' o.2.2.2.2.1 o.2.2.2.2.2 Q (F0 m o.1 ls' (o.2.2.1.map (ww_tr b ad')))) : W p l e R s m args below meth c H locs k n Q (F0 m pc ls (st.map (ww_tr b ad))) := by
  obtain ⟨⟨hx, hb, hml, hown, hts⟩, hK, hA, hR, hin, hsc, hZ, hU, hl, htab, hlocks⟩ := C
  obtain ⟨hP, hD, hS, hL⟩ := I
  have hag : ∀ i, i < h.length → ad i = ad i := fun _ _ => rfl
  simp only [ww_st] at hs
  split at hs
  · rename_i i9 a9 r9
    split at hs
    · rename_i N9 f9 hc9
      split at hs
      · cases hs
      · rename_i hi9
        cases hs
        exact va_iald hx hb hK hP a9 0 (ww_w_get hc9) rfl hi9 hd (kk ad H locs ls hag ⟨hP, hD, hS, hL⟩)
    · cases hs
  · rename_i i9 r9
    split at hs
    · rename_i N9 f9
      split at hs
      · cases hs
      · rename_i hi9
        cases hs
        obtain ⟨s1, s2, s3⟩ := hsc
        exact va_sld hx hb s1 s2 s3 hS hi9 hd (kk ad H locs ls hag ⟨hP, hD, hS, hL⟩)
    · cases hs
  · cases hs
set_option maxHeartbeats 2000000 in
theorem ww_sd_laload {l : Launch} {p : Program} {e : Env} {R : Room} {s : State} {m : MethodId} {args : Array Value} {below : List Frame} {meth : Method} {c : Code} {H : Heap} {locs : List Loc} {Q : State → Prop} {D : va_G} {tA : Nat → ClassId} {b : Nat} {A : Nat → Prop} {S : ww_S} {M pc k n : Nat} {L st : List Value} {h : List ww_E} {ad : Nat → Nat} {ls : Array Slot} {o : Nat × List Value × List Value × List ww_E × Nat × Nat}  (C : ww_C l p R s m args meth c D tA b A S M) (I : ww_I s D tA b A (ww_mL M) ad h L H locs ls) (g : ww_g L st h) (hkm : k ≤ ww_mc M ∧ n ≤ ww_ms M) (hd : decode (ww_b M) pc = .ok (.laload, 1)) (hs : ww_st S M 1 pc L st h k n (.laload) = some o) (kk : ∀ ad' H' locs' ls', (∀ i, i < h.length → ad' i = ad i) → ww_I s D tA b A (ww_mL M) ad' o.2.2.2.1 o.2.1 H' locs' ls' → W p l e R s m args below meth c H' locs' o.2.2.2.2.1 o.2.2.2.2.2 Q (F0 m o.1 ls' (o.2.2.1.map (ww_tr b ad')))) : W p l e R s m args below meth c H locs k n Q (F0 m pc ls (st.map (ww_tr b ad))) := by
  obtain ⟨⟨hx, hb, hml, hown, hts⟩, hK, hA, hR, hin, hsc, hZ, hU, hl, htab, hlocks⟩ := C
  obtain ⟨hP, hD, hS, hL⟩ := I
  have hag : ∀ i, i < h.length → ad i = ad i := fun _ _ => rfl
  simp only [ww_st] at hs
  split at hs
  · rename_i i9 a9 r9
    split at hs
    · rename_i N9 f9 hc9
      split at hs
      · cases hs
      · rename_i hi9
        cases hs
        exact va_lald hx hb hK hP a9 1 (ww_w_get hc9) rfl hi9 hd (kk ad H locs ls hag ⟨hP, hD, hS, hL⟩)
    · cases hs
  · cases hs
set_option maxHeartbeats 2000000 in
theorem ww_sd_baload {l : Launch} {p : Program} {e : Env} {R : Room} {s : State} {m : MethodId} {args : Array Value} {below : List Frame} {meth : Method} {c : Code} {H : Heap} {locs : List Loc} {Q : State → Prop} {D : va_G} {tA : Nat → ClassId} {b : Nat} {A : Nat → Prop} {S : ww_S} {M pc k n : Nat} {L st : List Value} {h : List ww_E} {ad : Nat → Nat} {ls : Array Slot} {o : Nat × List Value × List Value × List ww_E × Nat × Nat}  (C : ww_C l p R s m args meth c D tA b A S M) (I : ww_I s D tA b A (ww_mL M) ad h L H locs ls) (g : ww_g L st h) (hkm : k ≤ ww_mc M ∧ n ≤ ww_ms M) (hd : decode (ww_b M) pc = .ok (.baload, 1)) (hs : ww_st S M 1 pc L st h k n (.baload) = some o) (kk : ∀ ad' H' locs' ls', (∀ i, i < h.length → ad' i = ad i) → ww_I s D tA b A (ww_mL M) ad' o.2.2.2.1 o.2.1 H' locs' ls' → W p l e R s m args below meth c H' locs' o.2.2.2.2.1 o.2.2.2.2.2 Q (F0 m o.1 ls' (o.2.2.1.map (ww_tr b ad')))) : W p l e R s m args below meth c H locs k n Q (F0 m pc ls (st.map (ww_tr b ad))) := by
  obtain ⟨⟨hx, hb, hml, hown, hts⟩, hK, hA, hR, hin, hsc, hZ, hU, hl, htab, hlocks⟩ := C
  obtain ⟨hP, hD, hS, hL⟩ := I
  have hag : ∀ i, i < h.length → ad i = ad i := fun _ _ => rfl
  simp only [ww_st] at hs
  split at hs
  · rename_i i9 a9 r9
    split at hs
    · rename_i N9 f9 hc9
      split at hs
      · cases hs
      · rename_i hi9
        cases hs
        exact va_zald hx hb hK hP a9 2 (ww_w_get hc9) rfl hi9 hd (kk ad H locs ls hag ⟨hP, hD, hS, hL⟩)
    · cases hs
  · cases hs
set_option maxHeartbeats 2000000 in
theorem ww_sd_aaload {l : Launch} {p : Program} {e : Env} {R : Room} {s : State} {m : MethodId} {args : Array Value} {below : List Frame} {meth : Method} {c : Code} {H : Heap} {locs : List Loc} {Q : State → Prop} {D : va_G} {tA : Nat → ClassId} {b : Nat} {A : Nat → Prop} {S : ww_S} {M pc k n : Nat} {L st : List Value} {h : List ww_E} {ad : Nat → Nat} {ls : Array Slot} {o : Nat × List Value × List Value × List ww_E × Nat × Nat}  (C : ww_C l p R s m args meth c D tA b A S M) (I : ww_I s D tA b A (ww_mL M) ad h L H locs ls) (g : ww_g L st h) (hkm : k ≤ ww_mc M ∧ n ≤ ww_ms M) (hd : decode (ww_b M) pc = .ok (.aaload, 1)) (hs : ww_st S M 1 pc L st h k n (.aaload) = some o) (kk : ∀ ad' H' locs' ls', (∀ i, i < h.length → ad' i = ad i) → ww_I s D tA b A (ww_mL M) ad' o.2.2.2.1 o.2.1 H' locs' ls' → W p l e R s m args below meth c H' locs' o.2.2.2.2.1 o.2.2.2.2.2 Q (F0 m o.1 ls' (o.2.2.1.map (ww_tr b ad')))) : W p l e R s m args below meth c H locs k n Q (F0 m pc ls (st.map (ww_tr b ad))) := by
  obtain ⟨⟨hx, hb, hml, hown, hts⟩, hK, hA, hR, hin, hsc, hZ, hU, hl, htab, hlocks⟩ := C
  obtain ⟨hP, hD, hS, hL⟩ := I
  have hag : ∀ i, i < h.length → ad i = ad i := fun _ _ => rfl
  simp only [ww_st] at hs
  split at hs
  · rename_i i9 a9 r9
    split at hs
    · rename_i N9 f9 hc9
      split at hs
      · cases hs
      · rename_i hi9
        split at hs
        · rename_i c9 hf9
          cases hs
          refine va_aldq hx hb hK hP a9 3 (ww_w_get hc9) rfl hi9 hd ?_
          rw [hf9]
          exact kk ad H locs ls hag ⟨hP, hD, hS, hL⟩
        · cases hs
    · cases hs
  · cases hs
set_option maxHeartbeats 2000000 in
theorem ww_sd_iastore {l : Launch} {p : Program} {e : Env} {R : Room} {s : State} {m : MethodId} {args : Array Value} {below : List Frame} {meth : Method} {c : Code} {H : Heap} {locs : List Loc} {Q : State → Prop} {D : va_G} {tA : Nat → ClassId} {b : Nat} {A : Nat → Prop} {S : ww_S} {M pc k n : Nat} {L st : List Value} {h : List ww_E} {ad : Nat → Nat} {ls : Array Slot} {o : Nat × List Value × List Value × List ww_E × Nat × Nat}  (C : ww_C l p R s m args meth c D tA b A S M) (I : ww_I s D tA b A (ww_mL M) ad h L H locs ls) (g : ww_g L st h) (hkm : k ≤ ww_mc M ∧ n ≤ ww_ms M) (hd : decode (ww_b M) pc = .ok (.iastore, 1)) (hs : ww_st S M 1 pc L st h k n (.iastore) = some o) (kk : ∀ ad' H' locs' ls', (∀ i, i < h.length → ad' i = ad i) → ww_I s D tA b A (ww_mL M) ad' o.2.2.2.1 o.2.1 H' locs' ls' → W p l e R s m args below meth c H' locs' o.2.2.2.2.1 o.2.2.2.2.2 Q (F0 m o.1 ls' (o.2.2.1.map (ww_tr b ad')))) : W p l e R s m args below meth c H locs k n Q (F0 m pc ls (st.map (ww_tr b ad))) := by
  obtain ⟨⟨hx, hb, hml, hown, hts⟩, hK, hA, hR, hin, hsc, hZ, hU, hl, htab, hlocks⟩ := C
  obtain ⟨hP, hD, hS, hL⟩ := I
  have hag : ∀ i, i < h.length → ad i = ad i := fun _ _ => rfl
  simp only [ww_st] at hs
  split at hs
  · rename_i x9 i9 a9 r9
    split at hs
    · rename_i N9 f9 hc9
      split at hs
      · cases hs
      · rename_i hi9
        cases hs
        refine va_iast hx hb hK hP hD hS a9 0 (ww_w_get hc9) rfl hi9 hd (fun H1 locs1 hP1 hD1 hS1 => kk ad H1 locs1 ls hag ⟨?_, ?_, hS1, hL⟩)
        · show va_P D ww_cl (ww_w tA b ad (h.set a9 _)) H1
          rw [ww_w_set]; exact hP1
        · show va_D A (ww_w tA b ad (h.set a9 _))
          rw [ww_w_set]; exact hD1
    · cases hs
  · cases hs
set_option maxHeartbeats 2000000 in
theorem ww_sd_lastore {l : Launch} {p : Program} {e : Env} {R : Room} {s : State} {m : MethodId} {args : Array Value} {below : List Frame} {meth : Method} {c : Code} {H : Heap} {locs : List Loc} {Q : State → Prop} {D : va_G} {tA : Nat → ClassId} {b : Nat} {A : Nat → Prop} {S : ww_S} {M pc k n : Nat} {L st : List Value} {h : List ww_E} {ad : Nat → Nat} {ls : Array Slot} {o : Nat × List Value × List Value × List ww_E × Nat × Nat}  (C : ww_C l p R s m args meth c D tA b A S M) (I : ww_I s D tA b A (ww_mL M) ad h L H locs ls) (g : ww_g L st h) (hkm : k ≤ ww_mc M ∧ n ≤ ww_ms M) (hd : decode (ww_b M) pc = .ok (.lastore, 1)) (hs : ww_st S M 1 pc L st h k n (.lastore) = some o) (kk : ∀ ad' H' locs' ls', (∀ i, i < h.length → ad' i = ad i) → ww_I s D tA b A (ww_mL M) ad' o.2.2.2.1 o.2.1 H' locs' ls' → W p l e R s m args below meth c H' locs' o.2.2.2.2.1 o.2.2.2.2.2 Q (F0 m o.1 ls' (o.2.2.1.map (ww_tr b ad')))) : W p l e R s m args below meth c H locs k n Q (F0 m pc ls (st.map (ww_tr b ad))) := by
  obtain ⟨⟨hx, hb, hml, hown, hts⟩, hK, hA, hR, hin, hsc, hZ, hU, hl, htab, hlocks⟩ := C
  obtain ⟨hP, hD, hS, hL⟩ := I
  have hag : ∀ i, i < h.length → ad i = ad i := fun _ _ => rfl
  simp only [ww_st] at hs
  split at hs
  · rename_i x9 i9 a9 r9
    split at hs
    · rename_i N9 f9 hc9
      split at hs
      · cases hs
      · rename_i hi9
        cases hs
        refine va_last hx hb hK hP hD hS a9 1 (ww_w_get hc9) rfl hi9 hd (fun H1 locs1 hP1 hD1 hS1 => kk ad H1 locs1 ls hag ⟨?_, ?_, hS1, hL⟩)
        · show va_P D ww_cl (ww_w tA b ad (h.set a9 _)) H1
          rw [ww_w_set]; exact hP1
        · show va_D A (ww_w tA b ad (h.set a9 _))
          rw [ww_w_set]; exact hD1
    · cases hs
  · cases hs
set_option maxHeartbeats 2000000 in
theorem ww_sd_bastore {l : Launch} {p : Program} {e : Env} {R : Room} {s : State} {m : MethodId} {args : Array Value} {below : List Frame} {meth : Method} {c : Code} {H : Heap} {locs : List Loc} {Q : State → Prop} {D : va_G} {tA : Nat → ClassId} {b : Nat} {A : Nat → Prop} {S : ww_S} {M pc k n : Nat} {L st : List Value} {h : List ww_E} {ad : Nat → Nat} {ls : Array Slot} {o : Nat × List Value × List Value × List ww_E × Nat × Nat}  (C : ww_C l p R s m args meth c D tA b A S M) (I : ww_I s D tA b A (ww_mL M) ad h L H locs ls) (g : ww_g L st h) (hkm : k ≤ ww_mc M ∧ n ≤ ww_ms M) (hd : decode (ww_b M) pc = .ok (.bastore, 1)) (hs : ww_st S M 1 pc L st h k n (.bastore) = some o) (kk : ∀ ad' H' locs' ls', (∀ i, i < h.length → ad' i = ad i) → ww_I s D tA b A (ww_mL M) ad' o.2.2.2.1 o.2.1 H' locs' ls' → W p l e R s m args below meth c H' locs' o.2.2.2.2.1 o.2.2.2.2.2 Q (F0 m o.1 ls' (o.2.2.1.map (ww_tr b ad')))) : W p l e R s m args below meth c H locs k n Q (F0 m pc ls (st.map (ww_tr b ad))) := by
  obtain ⟨⟨hx, hb, hml, hown, hts⟩, hK, hA, hR, hin, hsc, hZ, hU, hl, htab, hlocks⟩ := C
  obtain ⟨hP, hD, hS, hL⟩ := I
  have hag : ∀ i, i < h.length → ad i = ad i := fun _ _ => rfl
  simp only [ww_st] at hs
  split at hs
  · rename_i x9 i9 a9 r9
    split at hs
    · rename_i N9 f9 hc9
      split at hs
      · cases hs
      · rename_i hi9
        cases hs
        refine va_zast hx hb hK hP hD hS a9 2 (ww_w_get hc9) rfl hi9 hd (fun H1 locs1 hP1 hD1 hS1 => kk ad H1 locs1 ls hag ⟨?_, ?_, hS1, hL⟩)
        · show va_P D ww_cl (ww_w tA b ad (h.set a9 _)) H1
          rw [ww_w_set]; exact hP1
        · show va_D A (ww_w tA b ad (h.set a9 _))
          rw [ww_w_set]; exact hD1
    · cases hs
  · cases hs
set_option maxHeartbeats 2000000 in
theorem ww_sd_aastore {l : Launch} {p : Program} {e : Env} {R : Room} {s : State} {m : MethodId} {args : Array Value} {below : List Frame} {meth : Method} {c : Code} {H : Heap} {locs : List Loc} {Q : State → Prop} {D : va_G} {tA : Nat → ClassId} {b : Nat} {A : Nat → Prop} {S : ww_S} {M pc k n : Nat} {L st : List Value} {h : List ww_E} {ad : Nat → Nat} {ls : Array Slot} {o : Nat × List Value × List Value × List ww_E × Nat × Nat}  (C : ww_C l p R s m args meth c D tA b A S M) (I : ww_I s D tA b A (ww_mL M) ad h L H locs ls) (g : ww_g L st h) (hkm : k ≤ ww_mc M ∧ n ≤ ww_ms M) (hd : decode (ww_b M) pc = .ok (.aastore, 1)) (hs : ww_st S M 1 pc L st h k n (.aastore) = some o) (kk : ∀ ad' H' locs' ls', (∀ i, i < h.length → ad' i = ad i) → ww_I s D tA b A (ww_mL M) ad' o.2.2.2.1 o.2.1 H' locs' ls' → W p l e R s m args below meth c H' locs' o.2.2.2.2.1 o.2.2.2.2.2 Q (F0 m o.1 ls' (o.2.2.1.map (ww_tr b ad')))) : W p l e R s m args below meth c H locs k n Q (F0 m pc ls (st.map (ww_tr b ad))) := by
  obtain ⟨⟨hx, hb, hml, hown, hts⟩, hK, hA, hR, hin, hsc, hZ, hU, hl, htab, hlocks⟩ := C
  obtain ⟨hP, hD, hS, hL⟩ := I
  have hag : ∀ i, i < h.length → ad i = ad i := fun _ _ => rfl
  simp only [ww_st] at hs
  split at hs
  · rename_i x9 i9 a9 r9
    split at hs
    · rename_i N9 f9 fs9 hc9 hv9
      split at hs
      · cases hs
      · rename_i hi9
        cases hs
        have hup : ∀ (q v : Nat), (fun j => ((va_up f9 q (some v)) j).map ad) = va_up (fun j => (f9 j).map ad) q (some (ad v)) := by
          intro q v; funext j; unfold va_up; split <;> rfl
        refine va_astq (r := (RX0, TX0, 10)) hx hb hK hP hD hS a9 3 x9 3 (ww_w_get hc9) rfl (ww_w_get hv9) rfl hi9 hd (fun H1 locs1 hP1 hD1 hS1 => kk ad H1 locs1 ls hag ⟨?_, ?_, hS1, hL⟩)
        · show va_P D ww_cl (ww_w tA b ad (h.set a9 _)) H1
          rw [ww_w_set]
          rw [← hup] at hP1
          exact hP1
        · show va_D A (ww_w tA b ad (h.set a9 _))
          rw [ww_w_set]
          rw [← hup] at hD1
          exact hD1
    · cases hs
  · cases hs
set_option maxHeartbeats 2000000 in
theorem ww_sd_arraylength {l : Launch} {p : Program} {e : Env} {R : Room} {s : State} {m : MethodId} {args : Array Value} {below : List Frame} {meth : Method} {c : Code} {H : Heap} {locs : List Loc} {Q : State → Prop} {D : va_G} {tA : Nat → ClassId} {b : Nat} {A : Nat → Prop} {S : ww_S} {M pc k n : Nat} {L st : List Value} {h : List ww_E} {ad : Nat → Nat} {ls : Array Slot} {o : Nat × List Value × List Value × List ww_E × Nat × Nat}  (C : ww_C l p R s m args meth c D tA b A S M) (I : ww_I s D tA b A (ww_mL M) ad h L H locs ls) (g : ww_g L st h) (hkm : k ≤ ww_mc M ∧ n ≤ ww_ms M) (hd : decode (ww_b M) pc = .ok (.arraylength, 1)) (hs : ww_st S M 1 pc L st h k n (.arraylength) = some o) (kk : ∀ ad' H' locs' ls', (∀ i, i < h.length → ad' i = ad i) → ww_I s D tA b A (ww_mL M) ad' o.2.2.2.1 o.2.1 H' locs' ls' → W p l e R s m args below meth c H' locs' o.2.2.2.2.1 o.2.2.2.2.2 Q (F0 m o.1 ls' (o.2.2.1.map (ww_tr b ad')))) : W p l e R s m args below meth c H locs k n Q (F0 m pc ls (st.map (ww_tr b ad))) := by
  obtain ⟨⟨hx, hb, hml, hown, hts⟩, hK, hA, hR, hin, hsc, hZ, hU, hl, htab, hlocks⟩ := C
  obtain ⟨hP, hD, hS, hL⟩ := I
  have hag : ∀ i, i < h.length → ad i = ad i := fun _ _ => rfl
  simp only [ww_st] at hs
  split at hs
  · split at hs
    · cases hs
      obtain ⟨s1, s2, s3⟩ := hsc
      exact va_slen hx hb s1 s2 s3 hS hd (kk ad H locs ls hag ⟨hP, hD, hS, hL⟩)
    · cases hs
  · cases hs
theorem ww_lR_ext {b n nL : Nat} {ad ad' : Nat → Nat} {L : List Value} {ls : Array Slot} (e : ∀ i, i < n → ad' i = ad i) (h : ww_ol n L) (hL : ww_lR (ww_tr b ad) nL L ls) : ww_lR (ww_tr b ad') nL L ls := ⟨hL.1, hL.2.1, hL.2.2.1, fun i v hi hv => by rw [ww_tr_ext e (ww_ol_get h hi)]; exact hL.2.2.2 i v hi hv⟩
theorem ww_push {tA : Nat → ClassId} {b q : Nat} {ad : Nat → Nat} {h : List ww_E} {c : ww_E} (hh : ww_oh h.length h) (hc : ww_oc h.length c) : ww_w tA b (va_up ad h.length q) (h ++ [c]) = ww_w tA b ad h ++ [(q, ww_cv tA b ad c)] := by
  have e : ∀ i, i < h.length → va_up ad h.length q i = ad i := fun i hi => va_up_ne _ _ (by omega)
  rw [ww_w_app, ww_w_ext e hh, ww_cv_ext e hc, va_up_self]
theorem ww_z_tr (b : Nat) (ad : Nat → Nat) (ci : Nat) : (ww_z ci).map (ww_tr b ad) = ww_z ci := by
  unfold ww_z
  rw [List.map_map]
  refine List.map_congr_left (fun k _ => ?_)
  show ww_tr b ad (ww_df k _) = _
  unfold ww_df
  split <;> rfl
set_option maxHeartbeats 2000000 in
theorem ww_sd_new {l : Launch} {p : Program} {e : Env} {R : Room} {s : State} {m : MethodId} {args : Array Value} {below : List Frame} {meth : Method} {c : Code} {H : Heap} {locs : List Loc} {Q : State → Prop} {D : va_G} {tA : Nat → ClassId} {b : Nat} {A : Nat → Prop} {S : ww_S} {M pc k n : Nat} {L st : List Value} {h : List ww_E} {ad : Nat → Nat} {ls : Array Slot} {o : Nat × List Value × List Value × List ww_E × Nat × Nat} {i ci : Nat} (C : ww_C l p R s m args meth c D tA b A S M) (I : ww_I s D tA b A (ww_mL M) ad h L H locs ls) (g : ww_g L st h) (hkm : k ≤ ww_mc M ∧ n ≤ ww_ms M) (hf : ww_l3 ww_nT (ww_ow M) i = some ci) (hd : decode (ww_b M) pc = .ok (.new i, 3)) (hs : ww_st S M 3 pc L st h k n (.new ci) = some o) (kk : ∀ ad' H' locs' ls', (∀ i, i < h.length → ad' i = ad i) → ww_I s D tA b A (ww_mL M) ad' o.2.2.2.1 o.2.1 H' locs' ls' → W p l e R s m args below meth c H' locs' o.2.2.2.2.1 o.2.2.2.2.2 Q (F0 m o.1 ls' (o.2.2.1.map (ww_tr b ad')))) : W p l e R s m args below meth c H locs k n Q (F0 m pc ls (st.map (ww_tr b ad))) := by
  obtain ⟨⟨hx, hb, hml, hown, hts⟩, hK, hA, hR, hin, hsc, hZ, hU, hl, htab, hlocks⟩ := C
  obtain ⟨hP, hD, hS, hL⟩ := I
  have hag : ∀ i, i < h.length → ad i = ad i := fun _ _ => rfl
  simp only [ww_st] at hs
  have hc9 := List.all_eq_true.mp ww_nT_ok _ (ww_l3_mem hf)
  simp only [Bool.and_eq_true, decide_eq_true_eq] at hc9
  obtain ⟨f1, f2⟩ := hc9
  obtain ⟨c1, c2, c3, c4⟩ := ww_cls_at f1
  obtain ⟨gL, gs, gh⟩ := g
  split at hs
  · rename_i hb9
    obtain ⟨b1, b2, -⟩ := hb9
    cases hs
    have hzo : ww_oc h.length (.inr (ci, ww_z ci) : ww_E) := ww_z_ov _ _
    refine va_new (fs := ww_z ci) hx hb hts c1 (ww_t5 ci) (fun k9 hk9 => (ww_fty_at f1 hk9).2.1) hown (ww_word hts f2) (ww_word hts c2) (ww_word hts c3) hK hP hD hS hA (ww_cl_at f1) (fun j hj => (ww_fty_at f1 hj).2.2.1) (Nat.le_trans b1 hR.1) (by rw [← c4]; exact Nat.le_trans b2 hR.2.1) hd (fun q9 H1 hP1 hD1 hS1 => ?_)
    have e9 : ∀ i, i < h.length → va_up ad h.length q9 i = ad i := fun i hi => va_up_ne _ _ (by omega)
    have hw := ww_push (tA := tA) (b := b) (q := q9) (ad := ad) gh hzo
    have hcv : ww_cv tA b ad (.inr (ci, ww_z ci)) = .inr (ci, ww_z ci) := by show (Sum.inr (ci, (ww_z ci).map (ww_tr b ad)) : va_E) = _; rw [ww_z_tr]
    have h9 := kk (va_up ad h.length q9) H1 locs ls e9 ⟨by rw [hw, hcv]; exact hP1, by rw [hw, hcv]; exact hD1, hS1, ww_lR_ext e9 gL hL⟩
    have hst : (Value.ref h.length :: st).map (ww_tr b (va_up ad h.length q9)) = .ref q9 :: st.map (ww_tr b ad) := by rw [List.map_cons, ww_trl_ext e9 gs]; show Value.ref (va_up ad h.length q9 h.length) :: _ = _; rw [va_up_self]
    rw [hst] at h9
    rw [← c4]
    exact h9
  · cases hs
theorem ww_tA_eq {D : va_G} {tA : Nat → ClassId} {s : State} {tys : List (ClassId × FieldType)} {cA : ClassId} {ty : FieldType} (hK : va_K D ww_cl (ww_ty tA) s) (hK1 : va_K D ww_cl (tys ++ [(cA, ty)]) s) (t : Nat) (ht : (ww_ty tA)[t]? = some (tA t, ty)) (hr : ∀ c c' : ClassId, va_RA s c ty → va_RA s c' ty → c = c') : cA = tA t := by
  have h1 := (hK.2 t _ ht).2
  have h2 := (hK1.2 tys.length (cA, ty) (by simp)).2
  exact hr _ _ h2 h1
set_option maxHeartbeats 2000000 in
theorem ww_sd_newarray_int {l : Launch} {p : Program} {e : Env} {R : Room} {s : State} {m : MethodId} {args : Array Value} {below : List Frame} {meth : Method} {c : Code} {H : Heap} {locs : List Loc} {Q : State → Prop} {D : va_G} {tA : Nat → ClassId} {b : Nat} {A : Nat → Prop} {S : ww_S} {M pc k n : Nat} {L st : List Value} {h : List ww_E} {ad : Nat → Nat} {ls : Array Slot} {o : Nat × List Value × List Value × List ww_E × Nat × Nat}  (C : ww_C l p R s m args meth c D tA b A S M) (I : ww_I s D tA b A (ww_mL M) ad h L H locs ls) (g : ww_g L st h) (hkm : k ≤ ww_mc M ∧ n ≤ ww_ms M) (hd : decode (ww_b M) pc = .ok (.newarray .int, 2)) (hs : ww_st S M 2 pc L st h k n (.newarray .int) = some o) (kk : ∀ ad' H' locs' ls', (∀ i, i < h.length → ad' i = ad i) → ww_I s D tA b A (ww_mL M) ad' o.2.2.2.1 o.2.1 H' locs' ls' → W p l e R s m args below meth c H' locs' o.2.2.2.2.1 o.2.2.2.2.2 Q (F0 m o.1 ls' (o.2.2.1.map (ww_tr b ad')))) : W p l e R s m args below meth c H locs k n Q (F0 m pc ls (st.map (ww_tr b ad))) := by
  obtain ⟨⟨hx, hb, hml, hown, hts⟩, hK, hA, hR, hin, hsc, hZ, hU, hl, htab, hlocks⟩ := C
  obtain ⟨hP, hD, hS, hL⟩ := I
  have hag : ∀ i, i < h.length → ad i = ad i := fun _ _ => rfl
  simp only [ww_st] at hs
  split at hs
  · rename_i x9 r9
    split at hs
    · cases hs
    · rename_i hb9
      obtain ⟨b0, b9⟩ := not_or.mp hb9
      obtain ⟨b1, b9⟩ := not_or.mp b9
      obtain ⟨b2, b3⟩ := not_or.mp b9
      cases hs
      obtain ⟨gL, gs, gh⟩ := g
      have gs2 := (ww_ol_cons.mp gs).2
      have hzo : ww_oc h.length (.inl (0, x9.toNatClampNeg, .inl (fun _ => 0)) : ww_E) := trivial
      refine va_newa (atype := .int) (ty := .int) (a0 := (x9.toNatClampNeg, .inl (fun _ => 0))) hx hb (ww_word hts ww_arr_ok.1) rfl hK hP hD hS hA (fun _ => rfl) b0 rfl (by have : x9.toNatClampNeg ≤ 1000 := Nat.not_lt.mp b1; simp only [componentBytes]; omega) (Nat.le_trans (Nat.not_lt.mp b2) hR.1) (Nat.le_trans (Nat.not_lt.mp b3) hR.2.1) hd (fun q9 cA H1 hK1 hP1 hD1 hS1 => ?_)
      have hcA : cA = tA 0 := ww_tA_eq hK hK1 0 rfl (fun c c9 h1 h2 => Option.some.inj ((show s.vm.findClass _ = some c from h1).symm.trans (show s.vm.findClass _ = some c9 from h2)))
      subst hcA
      have e9 : ∀ i, i < h.length → va_up ad h.length q9 i = ad i := fun i hi => va_up_ne _ _ (by omega)
      have hw := ww_push (tA := tA) (b := b) (q := q9) (ad := ad) gh hzo
      have h9 := kk (va_up ad h.length q9) H1 locs ls e9 ⟨by rw [hw]; exact hP1, by rw [hw]; exact hD1, hS1, ww_lR_ext e9 gL hL⟩
      have hst : (Value.ref h.length :: r9).map (ww_tr b (va_up ad h.length q9)) = .ref q9 :: r9.map (ww_tr b ad) := by rw [List.map_cons, ww_trl_ext e9 gs2]; show Value.ref (va_up ad h.length q9 h.length) :: _ = _; rw [va_up_self]
      rw [hst] at h9
      exact h9
  · cases hs
set_option maxHeartbeats 2000000 in
theorem ww_sd_newarray_long {l : Launch} {p : Program} {e : Env} {R : Room} {s : State} {m : MethodId} {args : Array Value} {below : List Frame} {meth : Method} {c : Code} {H : Heap} {locs : List Loc} {Q : State → Prop} {D : va_G} {tA : Nat → ClassId} {b : Nat} {A : Nat → Prop} {S : ww_S} {M pc k n : Nat} {L st : List Value} {h : List ww_E} {ad : Nat → Nat} {ls : Array Slot} {o : Nat × List Value × List Value × List ww_E × Nat × Nat}  (C : ww_C l p R s m args meth c D tA b A S M) (I : ww_I s D tA b A (ww_mL M) ad h L H locs ls) (g : ww_g L st h) (hkm : k ≤ ww_mc M ∧ n ≤ ww_ms M) (hd : decode (ww_b M) pc = .ok (.newarray .long, 2)) (hs : ww_st S M 2 pc L st h k n (.newarray .long) = some o) (kk : ∀ ad' H' locs' ls', (∀ i, i < h.length → ad' i = ad i) → ww_I s D tA b A (ww_mL M) ad' o.2.2.2.1 o.2.1 H' locs' ls' → W p l e R s m args below meth c H' locs' o.2.2.2.2.1 o.2.2.2.2.2 Q (F0 m o.1 ls' (o.2.2.1.map (ww_tr b ad')))) : W p l e R s m args below meth c H locs k n Q (F0 m pc ls (st.map (ww_tr b ad))) := by
  obtain ⟨⟨hx, hb, hml, hown, hts⟩, hK, hA, hR, hin, hsc, hZ, hU, hl, htab, hlocks⟩ := C
  obtain ⟨hP, hD, hS, hL⟩ := I
  have hag : ∀ i, i < h.length → ad i = ad i := fun _ _ => rfl
  simp only [ww_st] at hs
  split at hs
  · rename_i x9 r9
    split at hs
    · cases hs
    · rename_i hb9
      obtain ⟨b0, b9⟩ := not_or.mp hb9
      obtain ⟨b1, b9⟩ := not_or.mp b9
      obtain ⟨b2, b3⟩ := not_or.mp b9
      cases hs
      obtain ⟨gL, gs, gh⟩ := g
      have gs2 := (ww_ol_cons.mp gs).2
      have hzo : ww_oc h.length (.inl (1, x9.toNatClampNeg, .inr (.inl (fun _ => 0))) : ww_E) := trivial
      refine va_newa (atype := .long) (ty := .long) (a0 := (x9.toNatClampNeg, .inr (.inl (fun _ => 0)))) hx hb (ww_word hts ww_arr_ok.2.1) rfl hK hP hD hS hA (fun _ => rfl) b0 rfl (by have : x9.toNatClampNeg ≤ 1000 := Nat.not_lt.mp b1; simp only [componentBytes]; omega) (Nat.le_trans (Nat.not_lt.mp b2) hR.1) (Nat.le_trans (Nat.not_lt.mp b3) hR.2.1) hd (fun q9 cA H1 hK1 hP1 hD1 hS1 => ?_)
      have hcA : cA = tA 1 := ww_tA_eq hK hK1 1 rfl (fun c c9 h1 h2 => Option.some.inj ((show s.vm.findClass _ = some c from h1).symm.trans (show s.vm.findClass _ = some c9 from h2)))
      subst hcA
      have e9 : ∀ i, i < h.length → va_up ad h.length q9 i = ad i := fun i hi => va_up_ne _ _ (by omega)
      have hw := ww_push (tA := tA) (b := b) (q := q9) (ad := ad) gh hzo
      have h9 := kk (va_up ad h.length q9) H1 locs ls e9 ⟨by rw [hw]; exact hP1, by rw [hw]; exact hD1, hS1, ww_lR_ext e9 gL hL⟩
      have hst : (Value.ref h.length :: r9).map (ww_tr b (va_up ad h.length q9)) = .ref q9 :: r9.map (ww_tr b ad) := by rw [List.map_cons, ww_trl_ext e9 gs2]; show Value.ref (va_up ad h.length q9 h.length) :: _ = _; rw [va_up_self]
      rw [hst] at h9
      exact h9
  · cases hs
set_option maxHeartbeats 2000000 in
theorem ww_sd_newarray_boolean {l : Launch} {p : Program} {e : Env} {R : Room} {s : State} {m : MethodId} {args : Array Value} {below : List Frame} {meth : Method} {c : Code} {H : Heap} {locs : List Loc} {Q : State → Prop} {D : va_G} {tA : Nat → ClassId} {b : Nat} {A : Nat → Prop} {S : ww_S} {M pc k n : Nat} {L st : List Value} {h : List ww_E} {ad : Nat → Nat} {ls : Array Slot} {o : Nat × List Value × List Value × List ww_E × Nat × Nat}  (C : ww_C l p R s m args meth c D tA b A S M) (I : ww_I s D tA b A (ww_mL M) ad h L H locs ls) (g : ww_g L st h) (hkm : k ≤ ww_mc M ∧ n ≤ ww_ms M) (hd : decode (ww_b M) pc = .ok (.newarray .boolean, 2)) (hs : ww_st S M 2 pc L st h k n (.newarray .boolean) = some o) (kk : ∀ ad' H' locs' ls', (∀ i, i < h.length → ad' i = ad i) → ww_I s D tA b A (ww_mL M) ad' o.2.2.2.1 o.2.1 H' locs' ls' → W p l e R s m args below meth c H' locs' o.2.2.2.2.1 o.2.2.2.2.2 Q (F0 m o.1 ls' (o.2.2.1.map (ww_tr b ad')))) : W p l e R s m args below meth c H locs k n Q (F0 m pc ls (st.map (ww_tr b ad))) := by
  obtain ⟨⟨hx, hb, hml, hown, hts⟩, hK, hA, hR, hin, hsc, hZ, hU, hl, htab, hlocks⟩ := C
  obtain ⟨hP, hD, hS, hL⟩ := I
  have hag : ∀ i, i < h.length → ad i = ad i := fun _ _ => rfl
  simp only [ww_st] at hs
  split at hs
  · rename_i x9 r9
    split at hs
    · cases hs
    · rename_i hb9
      obtain ⟨b0, b9⟩ := not_or.mp hb9
      obtain ⟨b1, b9⟩ := not_or.mp b9
      obtain ⟨b2, b3⟩ := not_or.mp b9
      cases hs
      obtain ⟨gL, gs, gh⟩ := g
      have gs2 := (ww_ol_cons.mp gs).2
      have hzo : ww_oc h.length (.inl (2, x9.toNatClampNeg, .inl (fun _ => 0)) : ww_E) := trivial
      refine va_newa (atype := .boolean) (ty := .boolean) (a0 := (x9.toNatClampNeg, .inl (fun _ => 0))) hx hb (ww_word hts ww_arr_ok.2.2) rfl hK hP hD hS hA (fun _ => rfl) b0 rfl (by have : x9.toNatClampNeg ≤ 1000 := Nat.not_lt.mp b1; simp only [componentBytes]; omega) (Nat.le_trans (Nat.not_lt.mp b2) hR.1) (Nat.le_trans (Nat.not_lt.mp b3) hR.2.1) hd (fun q9 cA H1 hK1 hP1 hD1 hS1 => ?_)
      have hcA : cA = tA 2 := ww_tA_eq hK hK1 2 rfl (fun c c9 h1 h2 => Option.some.inj ((show s.vm.findClass _ = some c from h1).symm.trans (show s.vm.findClass _ = some c9 from h2)))
      subst hcA
      have e9 : ∀ i, i < h.length → va_up ad h.length q9 i = ad i := fun i hi => va_up_ne _ _ (by omega)
      have hw := ww_push (tA := tA) (b := b) (q := q9) (ad := ad) gh hzo
      have h9 := kk (va_up ad h.length q9) H1 locs ls e9 ⟨by rw [hw]; exact hP1, by rw [hw]; exact hD1, hS1, ww_lR_ext e9 gL hL⟩
      have hst : (Value.ref h.length :: r9).map (ww_tr b (va_up ad h.length q9)) = .ref q9 :: r9.map (ww_tr b ad) := by rw [List.map_cons, ww_trl_ext e9 gs2]; show Value.ref (va_up ad h.length q9 h.length) :: _ = _; rw [va_up_self]
      rw [hst] at h9
      exact h9
  · cases hs
set_option maxHeartbeats 2000000 in
theorem ww_sd_anewarray {l : Launch} {p : Program} {e : Env} {R : Room} {s : State} {m : MethodId} {args : Array Value} {below : List Frame} {meth : Method} {c : Code} {H : Heap} {locs : List Loc} {Q : State → Prop} {D : va_G} {tA : Nat → ClassId} {b : Nat} {A : Nat → Prop} {S : ww_S} {M pc k n : Nat} {L st : List Value} {h : List ww_E} {ad : Nat → Nat} {ls : Array Slot} {o : Nat × List Value × List Value × List ww_E × Nat × Nat} {i : Nat} (C : ww_C l p R s m args meth c D tA b A S M) (I : ww_I s D tA b A (ww_mL M) ad h L H locs ls) (g : ww_g L st h) (hkm : k ≤ ww_mc M ∧ n ≤ ww_ms M) (hf : ww_l3 ww_nT (ww_ow M) i = some 3) (hd : decode (ww_b M) pc = .ok (.anewarray i, 3)) (hs : ww_st S M 3 pc L st h k n (.anewarray 3) = some o) (kk : ∀ ad' H' locs' ls', (∀ i, i < h.length → ad' i = ad i) → ww_I s D tA b A (ww_mL M) ad' o.2.2.2.1 o.2.1 H' locs' ls' → W p l e R s m args below meth c H' locs' o.2.2.2.2.1 o.2.2.2.2.2 Q (F0 m o.1 ls' (o.2.2.1.map (ww_tr b ad')))) : W p l e R s m args below meth c H locs k n Q (F0 m pc ls (st.map (ww_tr b ad))) := by
  obtain ⟨⟨hx, hb, hml, hown, hts⟩, hK, hA, hR, hin, hsc, hZ, hU, hl, htab, hlocks⟩ := C
  obtain ⟨hP, hD, hS, hL⟩ := I
  have hag : ∀ i, i < h.length → ad i = ad i := fun _ _ => rfl
  simp only [ww_st] at hs
  have hc9 := List.all_eq_true.mp ww_nT_ok _ (ww_l3_mem hf)
  simp only [Bool.and_eq_true, decide_eq_true_eq] at hc9
  split at hs
  · rename_i x9 r9
    split at hs
    · cases hs
    · rename_i hb9
      obtain ⟨b0, b9⟩ := not_or.mp hb9
      obtain ⟨b1, b9⟩ := not_or.mp b9
      obtain ⟨b2, b3⟩ := not_or.mp b9
      cases hs
      obtain ⟨gL, gs, gh⟩ := g
      have gs2 := (ww_ol_cons.mp gs).2
      have hzo : ww_oc h.length (.inl (3, x9.toNatClampNeg, .inr (.inr (.inr (.inr (fun _ => none))))) : ww_E) := (fun j a h9 => by cases h9)
      refine va_newq (C := RX0) hx hb hown (ww_word hts hc9.2) hZ.2.2 hK hP hD hS hA b0 rfl (by have : x9.toNatClampNeg ≤ 1000 := Nat.not_lt.mp b1; omega) (Nat.le_trans (Nat.not_lt.mp b2) hR.1) (Nat.le_trans (Nat.not_lt.mp b3) hR.2.1) hd (fun q9 cA H1 hK1 hP1 hD1 hS1 => ?_)
      have hcA : cA = tA 3 := ww_tA_eq hK hK1 3 rfl (fun c c9 h1 h2 => by
        obtain ⟨_, _, -, -, -, z1⟩ := h1
        obtain ⟨_, _, -, -, -, z2⟩ := h2
        exact Option.some.inj (z1.symm.trans z2))
      subst hcA
      have e9 : ∀ i, i < h.length → va_up ad h.length q9 i = ad i := fun i hi => va_up_ne _ _ (by omega)
      have hw := ww_push (tA := tA) (b := b) (q := q9) (ad := ad) gh hzo
      have h9 := kk (va_up ad h.length q9) H1 locs ls e9 ⟨by rw [hw]; exact hP1, by rw [hw]; exact hD1, hS1, ww_lR_ext e9 gL hL⟩
      have hst : (Value.ref h.length :: r9).map (ww_tr b (va_up ad h.length q9)) = .ref q9 :: r9.map (ww_tr b ad) := by rw [List.map_cons, ww_trl_ext e9 gs2]; show Value.ref (va_up ad h.length q9 h.length) :: _ = _; rw [va_up_self]
      rw [hst] at h9
      exact h9
  · cases hs
set_option maxHeartbeats 2000000 in
theorem ww_sd_goto {l : Launch} {p : Program} {e : Env} {R : Room} {s : State} {m : MethodId} {args : Array Value} {below : List Frame} {meth : Method} {c : Code} {H : Heap} {locs : List Loc} {Q : State → Prop} {D : va_G} {tA : Nat → ClassId} {b : Nat} {A : Nat → Prop} {S : ww_S} {M pc k n : Nat} {L st : List Value} {h : List ww_E} {ad : Nat → Nat} {ls : Array Slot} {o : Nat × List Value × List Value × List ww_E × Nat × Nat} {q : Int} (C : ww_C l p R s m args meth c D tA b A S M) (I : ww_I s D tA b A (ww_mL M) ad h L H locs ls) (g : ww_g L st h) (hkm : k ≤ ww_mc M ∧ n ≤ ww_ms M) (hq : 0 ≤ (pc : Int) + q) (hd : decode (ww_b M) pc = .ok (.goto q, 3)) (hs : ww_st S M 3 pc L st h k n (.goto ((pc : Int) + q)) = some o) (kk : ∀ ad' H' locs' ls', (∀ i, i < h.length → ad' i = ad i) → ww_I s D tA b A (ww_mL M) ad' o.2.2.2.1 o.2.1 H' locs' ls' → W p l e R s m args below meth c H' locs' o.2.2.2.2.1 o.2.2.2.2.2 Q (F0 m o.1 ls' (o.2.2.1.map (ww_tr b ad')))) : W p l e R s m args below meth c H locs k n Q (F0 m pc ls (st.map (ww_tr b ad))) := by
  obtain ⟨⟨hx, hb, hml, hown, hts⟩, hK, hA, hR, hin, hsc, hZ, hU, hl, htab, hlocks⟩ := C
  obtain ⟨hP, hD, hS, hL⟩ := I
  have hag : ∀ i, i < h.length → ad i = ad i := fun _ _ => rfl
  simp only [ww_st] at hs
  cases hs
  exact lv_goto hx hb hd (by omega) (kk ad H locs ls hag ⟨hP, hD, hS, hL⟩)
set_option maxHeartbeats 2000000 in
theorem ww_sd_if_eq {l : Launch} {p : Program} {e : Env} {R : Room} {s : State} {m : MethodId} {args : Array Value} {below : List Frame} {meth : Method} {c : Code} {H : Heap} {locs : List Loc} {Q : State → Prop} {D : va_G} {tA : Nat → ClassId} {b : Nat} {A : Nat → Prop} {S : ww_S} {M pc k n : Nat} {L st : List Value} {h : List ww_E} {ad : Nat → Nat} {ls : Array Slot} {o : Nat × List Value × List Value × List ww_E × Nat × Nat} {q : Int} (C : ww_C l p R s m args meth c D tA b A S M) (I : ww_I s D tA b A (ww_mL M) ad h L H locs ls) (g : ww_g L st h) (hkm : k ≤ ww_mc M ∧ n ≤ ww_ms M) (hq : 0 ≤ (pc : Int) + q) (hd : decode (ww_b M) pc = .ok (.ifCond .eq q, 3)) (hs : ww_st S M 3 pc L st h k n (.ifCond .eq ((pc : Int) + q)) = some o) (kk : ∀ ad' H' locs' ls', (∀ i, i < h.length → ad' i = ad i) → ww_I s D tA b A (ww_mL M) ad' o.2.2.2.1 o.2.1 H' locs' ls' → W p l e R s m args below meth c H' locs' o.2.2.2.2.1 o.2.2.2.2.2 Q (F0 m o.1 ls' (o.2.2.1.map (ww_tr b ad')))) : W p l e R s m args below meth c H locs k n Q (F0 m pc ls (st.map (ww_tr b ad))) := by
  obtain ⟨⟨hx, hb, hml, hown, hts⟩, hK, hA, hR, hin, hsc, hZ, hU, hl, htab, hlocks⟩ := C
  obtain ⟨hP, hD, hS, hL⟩ := I
  have hag : ∀ i, i < h.length → ad i = ad i := fun _ _ => rfl
  simp only [ww_st] at hs
  split at hs
  · cases hs
    exact lv_if_eq hx hb (tgt := ((pc : Int) + q).toNat) hd (by omega) (fun h9 => by have z := kk ad H locs ls hag ⟨hP, hD, hS, hL⟩; rw [if_pos h9] at z; exact z) (fun h9 => by have z := kk ad H locs ls hag ⟨hP, hD, hS, hL⟩; rw [if_neg h9] at z; exact z)
  · cases hs
set_option maxHeartbeats 2000000 in
theorem ww_sd_icmp_eq {l : Launch} {p : Program} {e : Env} {R : Room} {s : State} {m : MethodId} {args : Array Value} {below : List Frame} {meth : Method} {c : Code} {H : Heap} {locs : List Loc} {Q : State → Prop} {D : va_G} {tA : Nat → ClassId} {b : Nat} {A : Nat → Prop} {S : ww_S} {M pc k n : Nat} {L st : List Value} {h : List ww_E} {ad : Nat → Nat} {ls : Array Slot} {o : Nat × List Value × List Value × List ww_E × Nat × Nat} {q : Int} (C : ww_C l p R s m args meth c D tA b A S M) (I : ww_I s D tA b A (ww_mL M) ad h L H locs ls) (g : ww_g L st h) (hkm : k ≤ ww_mc M ∧ n ≤ ww_ms M) (hq : 0 ≤ (pc : Int) + q) (hd : decode (ww_b M) pc = .ok (.if_icmp .eq q, 3)) (hs : ww_st S M 3 pc L st h k n (.if_icmp .eq ((pc : Int) + q)) = some o) (kk : ∀ ad' H' locs' ls', (∀ i, i < h.length → ad' i = ad i) → ww_I s D tA b A (ww_mL M) ad' o.2.2.2.1 o.2.1 H' locs' ls' → W p l e R s m args below meth c H' locs' o.2.2.2.2.1 o.2.2.2.2.2 Q (F0 m o.1 ls' (o.2.2.1.map (ww_tr b ad')))) : W p l e R s m args below meth c H locs k n Q (F0 m pc ls (st.map (ww_tr b ad))) := by
  obtain ⟨⟨hx, hb, hml, hown, hts⟩, hK, hA, hR, hin, hsc, hZ, hU, hl, htab, hlocks⟩ := C
  obtain ⟨hP, hD, hS, hL⟩ := I
  have hag : ∀ i, i < h.length → ad i = ad i := fun _ _ => rfl
  simp only [ww_st] at hs
  split at hs
  · cases hs
    exact lv_icmp_eq hx hb (tgt := ((pc : Int) + q).toNat) hd (by omega) (fun h9 => by have z := kk ad H locs ls hag ⟨hP, hD, hS, hL⟩; rw [if_pos h9] at z; exact z) (fun h9 => by have z := kk ad H locs ls hag ⟨hP, hD, hS, hL⟩; rw [if_neg h9] at z; exact z)
  · cases hs
set_option maxHeartbeats 2000000 in
theorem ww_sd_if_ne {l : Launch} {p : Program} {e : Env} {R : Room} {s : State} {m : MethodId} {args : Array Value} {below : List Frame} {meth : Method} {c : Code} {H : Heap} {locs : List Loc} {Q : State → Prop} {D : va_G} {tA : Nat → ClassId} {b : Nat} {A : Nat → Prop} {S : ww_S} {M pc k n : Nat} {L st : List Value} {h : List ww_E} {ad : Nat → Nat} {ls : Array Slot} {o : Nat × List Value × List Value × List ww_E × Nat × Nat} {q : Int} (C : ww_C l p R s m args meth c D tA b A S M) (I : ww_I s D tA b A (ww_mL M) ad h L H locs ls) (g : ww_g L st h) (hkm : k ≤ ww_mc M ∧ n ≤ ww_ms M) (hq : 0 ≤ (pc : Int) + q) (hd : decode (ww_b M) pc = .ok (.ifCond .ne q, 3)) (hs : ww_st S M 3 pc L st h k n (.ifCond .ne ((pc : Int) + q)) = some o) (kk : ∀ ad' H' locs' ls', (∀ i, i < h.length → ad' i = ad i) → ww_I s D tA b A (ww_mL M) ad' o.2.2.2.1 o.2.1 H' locs' ls' → W p l e R s m args below meth c H' locs' o.2.2.2.2.1 o.2.2.2.2.2 Q (F0 m o.1 ls' (o.2.2.1.map (ww_tr b ad')))) : W p l e R s m args below meth c H locs k n Q (F0 m pc ls (st.map (ww_tr b ad))) := by
  obtain ⟨⟨hx, hb, hml, hown, hts⟩, hK, hA, hR, hin, hsc, hZ, hU, hl, htab, hlocks⟩ := C
  obtain ⟨hP, hD, hS, hL⟩ := I
  have hag : ∀ i, i < h.length → ad i = ad i := fun _ _ => rfl
  simp only [ww_st] at hs
  split at hs
  · cases hs
    exact lv_if_ne hx hb (tgt := ((pc : Int) + q).toNat) hd (by omega) (fun h9 => by have z := kk ad H locs ls hag ⟨hP, hD, hS, hL⟩; rw [if_pos h9] at z; exact z) (fun h9 => by have z := kk ad H locs ls hag ⟨hP, hD, hS, hL⟩; rw [if_neg (fun h8 => h8 h9)] at z; exact z)
  · cases hs
set_option maxHeartbeats 2000000 in
theorem ww_sd_icmp_ne {l : Launch} {p : Program} {e : Env} {R : Room} {s : State} {m : MethodId} {args : Array Value} {below : List Frame} {meth : Method} {c : Code} {H : Heap} {locs : List Loc} {Q : State → Prop} {D : va_G} {tA : Nat → ClassId} {b : Nat} {A : Nat → Prop} {S : ww_S} {M pc k n : Nat} {L st : List Value} {h : List ww_E} {ad : Nat → Nat} {ls : Array Slot} {o : Nat × List Value × List Value × List ww_E × Nat × Nat} {q : Int} (C : ww_C l p R s m args meth c D tA b A S M) (I : ww_I s D tA b A (ww_mL M) ad h L H locs ls) (g : ww_g L st h) (hkm : k ≤ ww_mc M ∧ n ≤ ww_ms M) (hq : 0 ≤ (pc : Int) + q) (hd : decode (ww_b M) pc = .ok (.if_icmp .ne q, 3)) (hs : ww_st S M 3 pc L st h k n (.if_icmp .ne ((pc : Int) + q)) = some o) (kk : ∀ ad' H' locs' ls', (∀ i, i < h.length → ad' i = ad i) → ww_I s D tA b A (ww_mL M) ad' o.2.2.2.1 o.2.1 H' locs' ls' → W p l e R s m args below meth c H' locs' o.2.2.2.2.1 o.2.2.2.2.2 Q (F0 m o.1 ls' (o.2.2.1.map (ww_tr b ad')))) : W p l e R s m args below meth c H locs k n Q (F0 m pc ls (st.map (ww_tr b ad))) := by
  obtain ⟨⟨hx, hb, hml, hown, hts⟩, hK, hA, hR, hin, hsc, hZ, hU, hl, htab, hlocks⟩ := C
  obtain ⟨hP, hD, hS, hL⟩ := I
  have hag : ∀ i, i < h.length → ad i = ad i := fun _ _ => rfl
  simp only [ww_st] at hs
  split at hs
  · cases hs
    exact lv_icmp_ne hx hb (tgt := ((pc : Int) + q).toNat) hd (by omega) (fun h9 => by have z := kk ad H locs ls hag ⟨hP, hD, hS, hL⟩; rw [if_pos h9] at z; exact z) (fun h9 => by have z := kk ad H locs ls hag ⟨hP, hD, hS, hL⟩; rw [if_neg (fun h8 => h8 h9)] at z; exact z)
  · cases hs
set_option maxHeartbeats 2000000 in
theorem ww_sd_if_lt {l : Launch} {p : Program} {e : Env} {R : Room} {s : State} {m : MethodId} {args : Array Value} {below : List Frame} {meth : Method} {c : Code} {H : Heap} {locs : List Loc} {Q : State → Prop} {D : va_G} {tA : Nat → ClassId} {b : Nat} {A : Nat → Prop} {S : ww_S} {M pc k n : Nat} {L st : List Value} {h : List ww_E} {ad : Nat → Nat} {ls : Array Slot} {o : Nat × List Value × List Value × List ww_E × Nat × Nat} {q : Int} (C : ww_C l p R s m args meth c D tA b A S M) (I : ww_I s D tA b A (ww_mL M) ad h L H locs ls) (g : ww_g L st h) (hkm : k ≤ ww_mc M ∧ n ≤ ww_ms M) (hq : 0 ≤ (pc : Int) + q) (hd : decode (ww_b M) pc = .ok (.ifCond .lt q, 3)) (hs : ww_st S M 3 pc L st h k n (.ifCond .lt ((pc : Int) + q)) = some o) (kk : ∀ ad' H' locs' ls', (∀ i, i < h.length → ad' i = ad i) → ww_I s D tA b A (ww_mL M) ad' o.2.2.2.1 o.2.1 H' locs' ls' → W p l e R s m args below meth c H' locs' o.2.2.2.2.1 o.2.2.2.2.2 Q (F0 m o.1 ls' (o.2.2.1.map (ww_tr b ad')))) : W p l e R s m args below meth c H locs k n Q (F0 m pc ls (st.map (ww_tr b ad))) := by
  obtain ⟨⟨hx, hb, hml, hown, hts⟩, hK, hA, hR, hin, hsc, hZ, hU, hl, htab, hlocks⟩ := C
  obtain ⟨hP, hD, hS, hL⟩ := I
  have hag : ∀ i, i < h.length → ad i = ad i := fun _ _ => rfl
  simp only [ww_st] at hs
  split at hs
  · cases hs
    exact lv_if_lt hx hb (tgt := ((pc : Int) + q).toNat) hd (by omega) (fun h9 => by have z := kk ad H locs ls hag ⟨hP, hD, hS, hL⟩; rw [if_pos h9] at z; exact z) (fun h9 => by have z := kk ad H locs ls hag ⟨hP, hD, hS, hL⟩; rw [if_neg h9] at z; exact z)
  · cases hs
set_option maxHeartbeats 2000000 in
theorem ww_sd_icmp_lt {l : Launch} {p : Program} {e : Env} {R : Room} {s : State} {m : MethodId} {args : Array Value} {below : List Frame} {meth : Method} {c : Code} {H : Heap} {locs : List Loc} {Q : State → Prop} {D : va_G} {tA : Nat → ClassId} {b : Nat} {A : Nat → Prop} {S : ww_S} {M pc k n : Nat} {L st : List Value} {h : List ww_E} {ad : Nat → Nat} {ls : Array Slot} {o : Nat × List Value × List Value × List ww_E × Nat × Nat} {q : Int} (C : ww_C l p R s m args meth c D tA b A S M) (I : ww_I s D tA b A (ww_mL M) ad h L H locs ls) (g : ww_g L st h) (hkm : k ≤ ww_mc M ∧ n ≤ ww_ms M) (hq : 0 ≤ (pc : Int) + q) (hd : decode (ww_b M) pc = .ok (.if_icmp .lt q, 3)) (hs : ww_st S M 3 pc L st h k n (.if_icmp .lt ((pc : Int) + q)) = some o) (kk : ∀ ad' H' locs' ls', (∀ i, i < h.length → ad' i = ad i) → ww_I s D tA b A (ww_mL M) ad' o.2.2.2.1 o.2.1 H' locs' ls' → W p l e R s m args below meth c H' locs' o.2.2.2.2.1 o.2.2.2.2.2 Q (F0 m o.1 ls' (o.2.2.1.map (ww_tr b ad')))) : W p l e R s m args below meth c H locs k n Q (F0 m pc ls (st.map (ww_tr b ad))) := by
  obtain ⟨⟨hx, hb, hml, hown, hts⟩, hK, hA, hR, hin, hsc, hZ, hU, hl, htab, hlocks⟩ := C
  obtain ⟨hP, hD, hS, hL⟩ := I
  have hag : ∀ i, i < h.length → ad i = ad i := fun _ _ => rfl
  simp only [ww_st] at hs
  split at hs
  · cases hs
    exact lv_icmp_lt hx hb (tgt := ((pc : Int) + q).toNat) hd (by omega) (fun h9 => by have z := kk ad H locs ls hag ⟨hP, hD, hS, hL⟩; rw [if_pos h9] at z; exact z) (fun h9 => by have z := kk ad H locs ls hag ⟨hP, hD, hS, hL⟩; rw [if_neg h9] at z; exact z)
  · cases hs
set_option maxHeartbeats 2000000 in
theorem ww_sd_if_ge {l : Launch} {p : Program} {e : Env} {R : Room} {s : State} {m : MethodId} {args : Array Value} {below : List Frame} {meth : Method} {c : Code} {H : Heap} {locs : List Loc} {Q : State → Prop} {D : va_G} {tA : Nat → ClassId} {b : Nat} {A : Nat → Prop} {S : ww_S} {M pc k n : Nat} {L st : List Value} {h : List ww_E} {ad : Nat → Nat} {ls : Array Slot} {o : Nat × List Value × List Value × List ww_E × Nat × Nat} {q : Int} (C : ww_C l p R s m args meth c D tA b A S M) (I : ww_I s D tA b A (ww_mL M) ad h L H locs ls) (g : ww_g L st h) (hkm : k ≤ ww_mc M ∧ n ≤ ww_ms M) (hq : 0 ≤ (pc : Int) + q) (hd : decode (ww_b M) pc = .ok (.ifCond .ge q, 3)) (hs : ww_st S M 3 pc L st h k n (.ifCond .ge ((pc : Int) + q)) = some o) (kk : ∀ ad' H' locs' ls', (∀ i, i < h.length → ad' i = ad i) → ww_I s D tA b A (ww_mL M) ad' o.2.2.2.1 o.2.1 H' locs' ls' → W p l e R s m args below meth c H' locs' o.2.2.2.2.1 o.2.2.2.2.2 Q (F0 m o.1 ls' (o.2.2.1.map (ww_tr b ad')))) : W p l e R s m args below meth c H locs k n Q (F0 m pc ls (st.map (ww_tr b ad))) := by
  obtain ⟨⟨hx, hb, hml, hown, hts⟩, hK, hA, hR, hin, hsc, hZ, hU, hl, htab, hlocks⟩ := C
  obtain ⟨hP, hD, hS, hL⟩ := I
  have hag : ∀ i, i < h.length → ad i = ad i := fun _ _ => rfl
  simp only [ww_st] at hs
  split at hs
  · cases hs
    exact lv_if_ge hx hb (tgt := ((pc : Int) + q).toNat) hd (by omega) (fun h9 => by have z := kk ad H locs ls hag ⟨hP, hD, hS, hL⟩; rw [if_pos h9] at z; exact z) (fun h9 => by have z := kk ad H locs ls hag ⟨hP, hD, hS, hL⟩; rw [if_neg h9] at z; exact z)
  · cases hs
set_option maxHeartbeats 2000000 in
theorem ww_sd_icmp_ge {l : Launch} {p : Program} {e : Env} {R : Room} {s : State} {m : MethodId} {args : Array Value} {below : List Frame} {meth : Method} {c : Code} {H : Heap} {locs : List Loc} {Q : State → Prop} {D : va_G} {tA : Nat → ClassId} {b : Nat} {A : Nat → Prop} {S : ww_S} {M pc k n : Nat} {L st : List Value} {h : List ww_E} {ad : Nat → Nat} {ls : Array Slot} {o : Nat × List Value × List Value × List ww_E × Nat × Nat} {q : Int} (C : ww_C l p R s m args meth c D tA b A S M) (I : ww_I s D tA b A (ww_mL M) ad h L H locs ls) (g : ww_g L st h) (hkm : k ≤ ww_mc M ∧ n ≤ ww_ms M) (hq : 0 ≤ (pc : Int) + q) (hd : decode (ww_b M) pc = .ok (.if_icmp .ge q, 3)) (hs : ww_st S M 3 pc L st h k n (.if_icmp .ge ((pc : Int) + q)) = some o) (kk : ∀ ad' H' locs' ls', (∀ i, i < h.length → ad' i = ad i) → ww_I s D tA b A (ww_mL M) ad' o.2.2.2.1 o.2.1 H' locs' ls' → W p l e R s m args below meth c H' locs' o.2.2.2.2.1 o.2.2.2.2.2 Q (F0 m o.1 ls' (o.2.2.1.map (ww_tr b ad')))) : W p l e R s m args below meth c H locs k n Q (F0 m pc ls (st.map (ww_tr b ad))) := by
  obtain ⟨⟨hx, hb, hml, hown, hts⟩, hK, hA, hR, hin, hsc, hZ, hU, hl, htab, hlocks⟩ := C
  obtain ⟨hP, hD, hS, hL⟩ := I
  have hag : ∀ i, i < h.length → ad i = ad i := fun _ _ => rfl
  simp only [ww_st] at hs
  split at hs
  · cases hs
    exact lv_icmp_ge hx hb (tgt := ((pc : Int) + q).toNat) hd (by omega) (fun h9 => by have z := kk ad H locs ls hag ⟨hP, hD, hS, hL⟩; rw [if_pos h9] at z; exact z) (fun h9 => by have z := kk ad H locs ls hag ⟨hP, hD, hS, hL⟩; rw [if_neg h9] at z; exact z)
  · cases hs
set_option maxHeartbeats 2000000 in
theorem ww_sd_if_gt {l : Launch} {p : Program} {e : Env} {R : Room} {s : State} {m : MethodId} {args : Array Value} {below : List Frame} {meth : Method} {c : Code} {H : Heap} {locs : List Loc} {Q : State → Prop} {D : va_G} {tA : Nat → ClassId} {b : Nat} {A : Nat → Prop} {S : ww_S} {M pc k n : Nat} {L st : List Value} {h : List ww_E} {ad : Nat → Nat} {ls : Array Slot} {o : Nat × List Value × List Value × List ww_E × Nat × Nat} {q : Int} (C : ww_C l p R s m args meth c D tA b A S M) (I : ww_I s D tA b A (ww_mL M) ad h L H locs ls) (g : ww_g L st h) (hkm : k ≤ ww_mc M ∧ n ≤ ww_ms M) (hq : 0 ≤ (pc : Int) + q) (hd : decode (ww_b M) pc = .ok (.ifCond .gt q, 3)) (hs : ww_st S M 3 pc L st h k n (.ifCond .gt ((pc : Int) + q)) = some o) (kk : ∀ ad' H' locs' ls', (∀ i, i < h.length → ad' i = ad i) → ww_I s D tA b A (ww_mL M) ad' o.2.2.2.1 o.2.1 H' locs' ls' → W p l e R s m args below meth c H' locs' o.2.2.2.2.1 o.2.2.2.2.2 Q (F0 m o.1 ls' (o.2.2.1.map (ww_tr b ad')))) : W p l e R s m args below meth c H locs k n Q (F0 m pc ls (st.map (ww_tr b ad))) := by
  obtain ⟨⟨hx, hb, hml, hown, hts⟩, hK, hA, hR, hin, hsc, hZ, hU, hl, htab, hlocks⟩ := C
  obtain ⟨hP, hD, hS, hL⟩ := I
  have hag : ∀ i, i < h.length → ad i = ad i := fun _ _ => rfl
  simp only [ww_st] at hs
  split at hs
  · cases hs
    exact lv_if_gt hx hb (tgt := ((pc : Int) + q).toNat) hd (by omega) (fun h9 => by have z := kk ad H locs ls hag ⟨hP, hD, hS, hL⟩; rw [if_pos h9] at z; exact z) (fun h9 => by have z := kk ad H locs ls hag ⟨hP, hD, hS, hL⟩; rw [if_neg h9] at z; exact z)
  · cases hs
set_option maxHeartbeats 2000000 in
theorem ww_sd_icmp_gt {l : Launch} {p : Program} {e : Env} {R : Room} {s : State} {m : MethodId} {args : Array Value} {below : List Frame} {meth : Method} {c : Code} {H : Heap} {locs : List Loc} {Q : State → Prop} {D : va_G} {tA : Nat → ClassId} {b : Nat} {A : Nat → Prop} {S : ww_S} {M pc k n : Nat} {L st : List Value} {h : List ww_E} {ad : Nat → Nat} {ls : Array Slot} {o : Nat × List Value × List Value × List ww_E × Nat × Nat} {q : Int} (C : ww_C l p R s m args meth c D tA b A S M) (I : ww_I s D tA b A (ww_mL M) ad h L H locs ls) (g : ww_g L st h) (hkm : k ≤ ww_mc M ∧ n ≤ ww_ms M) (hq : 0 ≤ (pc : Int) + q) (hd : decode (ww_b M) pc = .ok (.if_icmp .gt q, 3)) (hs : ww_st S M 3 pc L st h k n (.if_icmp .gt ((pc : Int) + q)) = some o) (kk : ∀ ad' H' locs' ls', (∀ i, i < h.length → ad' i = ad i) → ww_I s D tA b A (ww_mL M) ad' o.2.2.2.1 o.2.1 H' locs' ls' → W p l e R s m args below meth c H' locs' o.2.2.2.2.1 o.2.2.2.2.2 Q (F0 m o.1 ls' (o.2.2.1.map (ww_tr b ad')))) : W p l e R s m args below meth c H locs k n Q (F0 m pc ls (st.map (ww_tr b ad))) := by
  obtain ⟨⟨hx, hb, hml, hown, hts⟩, hK, hA, hR, hin, hsc, hZ, hU, hl, htab, hlocks⟩ := C
  obtain ⟨hP, hD, hS, hL⟩ := I
  have hag : ∀ i, i < h.length → ad i = ad i := fun _ _ => rfl
  simp only [ww_st] at hs
  split at hs
  · cases hs
    exact lv_icmp_gt hx hb (tgt := ((pc : Int) + q).toNat) hd (by omega) (fun h9 => by have z := kk ad H locs ls hag ⟨hP, hD, hS, hL⟩; rw [if_pos h9] at z; exact z) (fun h9 => by have z := kk ad H locs ls hag ⟨hP, hD, hS, hL⟩; rw [if_neg h9] at z; exact z)
  · cases hs
set_option maxHeartbeats 2000000 in
theorem ww_sd_if_le {l : Launch} {p : Program} {e : Env} {R : Room} {s : State} {m : MethodId} {args : Array Value} {below : List Frame} {meth : Method} {c : Code} {H : Heap} {locs : List Loc} {Q : State → Prop} {D : va_G} {tA : Nat → ClassId} {b : Nat} {A : Nat → Prop} {S : ww_S} {M pc k n : Nat} {L st : List Value} {h : List ww_E} {ad : Nat → Nat} {ls : Array Slot} {o : Nat × List Value × List Value × List ww_E × Nat × Nat} {q : Int} (C : ww_C l p R s m args meth c D tA b A S M) (I : ww_I s D tA b A (ww_mL M) ad h L H locs ls) (g : ww_g L st h) (hkm : k ≤ ww_mc M ∧ n ≤ ww_ms M) (hq : 0 ≤ (pc : Int) + q) (hd : decode (ww_b M) pc = .ok (.ifCond .le q, 3)) (hs : ww_st S M 3 pc L st h k n (.ifCond .le ((pc : Int) + q)) = some o) (kk : ∀ ad' H' locs' ls', (∀ i, i < h.length → ad' i = ad i) → ww_I s D tA b A (ww_mL M) ad' o.2.2.2.1 o.2.1 H' locs' ls' → W p l e R s m args below meth c H' locs' o.2.2.2.2.1 o.2.2.2.2.2 Q (F0 m o.1 ls' (o.2.2.1.map (ww_tr b ad')))) : W p l e R s m args below meth c H locs k n Q (F0 m pc ls (st.map (ww_tr b ad))) := by
  obtain ⟨⟨hx, hb, hml, hown, hts⟩, hK, hA, hR, hin, hsc, hZ, hU, hl, htab, hlocks⟩ := C
  obtain ⟨hP, hD, hS, hL⟩ := I
  have hag : ∀ i, i < h.length → ad i = ad i := fun _ _ => rfl
  simp only [ww_st] at hs
  split at hs
  · cases hs
    exact lv_if_le hx hb (tgt := ((pc : Int) + q).toNat) hd (by omega) (fun h9 => by have z := kk ad H locs ls hag ⟨hP, hD, hS, hL⟩; rw [if_pos h9] at z; exact z) (fun h9 => by have z := kk ad H locs ls hag ⟨hP, hD, hS, hL⟩; rw [if_neg h9] at z; exact z)
  · cases hs
set_option maxHeartbeats 2000000 in
theorem ww_sd_icmp_le {l : Launch} {p : Program} {e : Env} {R : Room} {s : State} {m : MethodId} {args : Array Value} {below : List Frame} {meth : Method} {c : Code} {H : Heap} {locs : List Loc} {Q : State → Prop} {D : va_G} {tA : Nat → ClassId} {b : Nat} {A : Nat → Prop} {S : ww_S} {M pc k n : Nat} {L st : List Value} {h : List ww_E} {ad : Nat → Nat} {ls : Array Slot} {o : Nat × List Value × List Value × List ww_E × Nat × Nat} {q : Int} (C : ww_C l p R s m args meth c D tA b A S M) (I : ww_I s D tA b A (ww_mL M) ad h L H locs ls) (g : ww_g L st h) (hkm : k ≤ ww_mc M ∧ n ≤ ww_ms M) (hq : 0 ≤ (pc : Int) + q) (hd : decode (ww_b M) pc = .ok (.if_icmp .le q, 3)) (hs : ww_st S M 3 pc L st h k n (.if_icmp .le ((pc : Int) + q)) = some o) (kk : ∀ ad' H' locs' ls', (∀ i, i < h.length → ad' i = ad i) → ww_I s D tA b A (ww_mL M) ad' o.2.2.2.1 o.2.1 H' locs' ls' → W p l e R s m args below meth c H' locs' o.2.2.2.2.1 o.2.2.2.2.2 Q (F0 m o.1 ls' (o.2.2.1.map (ww_tr b ad')))) : W p l e R s m args below meth c H locs k n Q (F0 m pc ls (st.map (ww_tr b ad))) := by
  obtain ⟨⟨hx, hb, hml, hown, hts⟩, hK, hA, hR, hin, hsc, hZ, hU, hl, htab, hlocks⟩ := C
  obtain ⟨hP, hD, hS, hL⟩ := I
  have hag : ∀ i, i < h.length → ad i = ad i := fun _ _ => rfl
  simp only [ww_st] at hs
  split at hs
  · cases hs
    exact lv_icmp_le hx hb (tgt := ((pc : Int) + q).toNat) hd (by omega) (fun h9 => by have z := kk ad H locs ls hag ⟨hP, hD, hS, hL⟩; rw [if_pos h9] at z; exact z) (fun h9 => by have z := kk ad H locs ls hag ⟨hP, hD, hS, hL⟩; rw [if_neg h9] at z; exact z)
  · cases hs
set_option maxHeartbeats 2000000 in
theorem ww_sd_tableswitch {l : Launch} {p : Program} {e : Env} {R : Room} {s : State} {m : MethodId} {args : Array Value} {below : List Frame} {meth : Method} {c : Code} {H : Heap} {locs : List Loc} {Q : State → Prop} {D : va_G} {tA : Nat → ClassId} {b : Nat} {A : Nat → Prop} {S : ww_S} {M pc k n : Nat} {L st : List Value} {h : List ww_E} {ad : Nat → Nat} {ls : Array Slot} {o : Nat × List Value × List Value × List ww_E × Nat × Nat} {d lo hi : Int} {os : Array Int} {n9 : Nat} (C : ww_C l p R s m args meth c D tA b A S M) (I : ww_I s D tA b A (ww_mL M) ad h L H locs ls) (g : ww_g L st h) (hkm : k ≤ ww_mc M ∧ n ≤ ww_ms M) (hq : 0 ≤ (pc : Int) + d ∧ (os.toList.all (fun o => decide (0 ≤ (pc : Int) + o))) = true) (hsz : os.size = (hi - lo + 1).toNat) (hd : decode (ww_b M) pc = .ok (.tableswitch d lo hi os, n9)) (hs : ww_st S M n9 pc L st h k n (.tableswitch ((pc : Int) + d) lo hi (os.map (fun o => (pc : Int) + o))) = some o) (kk : ∀ ad' H' locs' ls', (∀ i, i < h.length → ad' i = ad i) → ww_I s D tA b A (ww_mL M) ad' o.2.2.2.1 o.2.1 H' locs' ls' → W p l e R s m args below meth c H' locs' o.2.2.2.2.1 o.2.2.2.2.2 Q (F0 m o.1 ls' (o.2.2.1.map (ww_tr b ad')))) : W p l e R s m args below meth c H locs k n Q (F0 m pc ls (st.map (ww_tr b ad))) := by
  obtain ⟨⟨hx, hb, hml, hown, hts⟩, hK, hA, hR, hin, hsc, hZ, hU, hl, htab, hlocks⟩ := C
  obtain ⟨hP, hD, hS, hL⟩ := I
  have hag : ∀ i, i < h.length → ad i = ad i := fun _ _ => rfl
  simp only [ww_st] at hs
  split at hs
  · rename_i x9 r9
    cases hs
    have z := kk ad H locs ls hag ⟨hP, hD, hS, hL⟩
    by_cases h9 : x9.toInt < lo ∨ hi < x9.toInt
    · rw [if_pos h9] at z
      exact lv_tableOut hx hb (tgt := ((pc : Int) + d).toNat) hd h9 (by omega) z
    · rw [if_neg h9] at z
      obtain ⟨h1, h2⟩ := not_or.mp h9
      have hlt : (x9.toInt - lo).toNat < os.size := by rw [hsz]; omega
      have hoff := Array.getElem?_eq_getElem hlt
      have hnn : 0 ≤ (pc : Int) + os[(x9.toInt - lo).toNat] := by
        have := List.all_eq_true.mp hq.2 os[(x9.toInt - lo).toNat] (by simp)
        simpa using this
      have hgd : (os.map (fun o => (pc : Int) + o)).getD (x9.toInt - lo).toNat 0 = (pc : Int) + os[(x9.toInt - lo).toNat] := by simp [Array.getD, hlt]
      rw [hgd] at z
      exact lv_tableIn hx hb (tgt := ((pc : Int) + os[(x9.toInt - lo).toNat]).toNat) hd h1 h2 hoff (by omega) z
  · cases hs
set_option maxHeartbeats 2000000 in
theorem ww_sd_objinit {l : Launch} {p : Program} {e : Env} {R : Room} {s : State} {m : MethodId} {args : Array Value} {below : List Frame} {meth : Method} {c : Code} {H : Heap} {locs : List Loc} {Q : State → Prop} {D : va_G} {tA : Nat → ClassId} {b : Nat} {A : Nat → Prop} {S : ww_S} {M pc k n : Nat} {L st : List Value} {h : List ww_E} {ad : Nat → Nat} {ls : Array Slot} {o : Nat × List Value × List Value × List ww_E × Nat × Nat} {i : Nat} (C : ww_C l p R s m args meth c D tA b A S M) (I : ww_I s D tA b A (ww_mL M) ad h L H locs ls) (g : ww_g L st h) (hkm : k ≤ ww_mc M ∧ n ≤ ww_ms M) (hf : (ww_ow M, i) ∈ ww_oT) (hd : decode (ww_b M) pc = .ok (.invokespecial i, 3)) (hs : ww_st S M 3 pc L st h k n (.pop) = some o) (kk : ∀ ad' H' locs' ls', (∀ i, i < h.length → ad' i = ad i) → ww_I s D tA b A (ww_mL M) ad' o.2.2.2.1 o.2.1 H' locs' ls' → W p l e R s m args below meth c H' locs' o.2.2.2.2.1 o.2.2.2.2.2 Q (F0 m o.1 ls' (o.2.2.1.map (ww_tr b ad')))) : W p l e R s m args below meth c H locs k n Q (F0 m pc ls (st.map (ww_tr b ad))) := by
  obtain ⟨⟨hx, hb, hml, hown, hts⟩, hK, hA, hR, hin, hsc, hZ, hU, hl, htab, hlocks⟩ := C
  obtain ⟨hP, hD, hS, hL⟩ := I
  have hag : ∀ i, i < h.length → ad i = ad i := fun _ _ => rfl
  simp only [ww_st] at hs
  have hw := List.all_eq_true.mp ww_oT_ok.1 _ hf
  split at hs
  · rename_i a9 r9
    split at hs
    · rename_i hb9
      cases hs
      refine W.objInit hx hb hown (ww_word hts hw) (ww_word hts ww_oT_ok.2.1) (ww_word hts ww_oT_ok.2.2) rfl (by rw [hml]; exact hL.1) rfl hd (by have := hR.2.2.1; omega) ?_ (kk ad H locs ls hag ⟨hP, hD, hS, hL⟩)
      have h8 := hR.2.2.2
      have h7 := ww_trl_cat b ad r9
      show 2 * 0 + _ + 12 ≤ _
      omega
    · cases hs
  · cases hs
