/-! a run of the abstract machine is a run of the real one -/
def ww_rm (t : Nat) : Room := { frames := ww_lv t + 5, cells := ww_mc t, slots := ww_ms t, locals := 200 + 31 * ww_lv t }
theorem ww_ofW {l : Launch} {y : MethodName} {ws ws' : List Cond} {rm : Room} {Pc : Array Value → State → Prop} {Qc : Array Value → State → Outcome → State → Prop} {XC : String → State → State → Prop} {mc ms : Nat} {free : Addr → Prop} {cc : ByteArray} {maxL : Nat} {ret : Option FieldType}
    (hy : plainFor y = true) (hw : ws = Cond.code y cc maxL ret :: ws')
    (body : ∀ p e s m args below meth c s₁, BodyLoose p l y (headSpec ws rm) cc maxL ret e s m args below meth c s₁ → c.maxLocals = maxL → c.exceptionTable.toList = tableOf [] → Pc args s →
      W p l e (headSpec ws rm).room s m args below meth c s.heap [] 0 0 (vx_MQ below Qc XC args s mc ms free) (entryFrame m args maxL)) : vx_Met l y ws rm Pc Qc XC mc ms free := by
  refine MetFree.of_bodySF (code := cc) (maxLocals := maxL) (ret := ret) hy ?_ ?_
  · intro args s m h hn
    obtain ⟨meth, c, h1, h2, h3, h4, h5, h6, -, -⟩ := Cond.code_spec hn (atoms_spec (ws := ws) h _ (by rw [hw]; exact List.mem_cons_self))
    exact ⟨meth, c, h1, h2, h3, h4, h5, h6⟩
  · intro p e s m args below meth c s₁ B hml hP _
    have hh0 : s₁.heap = s.heap := by rw [B.state]; rfl
    have ht : c.exceptionTable.toList = tableOf [] := by
      obtain ⟨meth9, c9, h1, h2, -, -, -, -, h7, -⟩ := Cond.code_spec B.named (atoms_spec (ws := ws) B.pre _ (by rw [hw]; exact List.mem_cons_self))
      cases Option.some.inj (h1.symm.trans B.method)
      cases Option.some.inj (h2.symm.trans (Stand.of_body B).code)
      rw [Array.isEmpty_iff.mp h7]
      rfl
    obtain ⟨t, a1, o, b1, b2, b3⟩ := body p e s m args below meth c s₁ B hml ht hP s₁ hh0 (Stand.of_body B)
    exact ⟨t, o, a1, b1, b2, b3⟩
theorem ww_ofWH {l : Launch} {y : MethodName} {ws ws' : List Cond} {rm : Room} {Pc : Array Value → State → Prop} {Qc : Array Value → State → Outcome → State → Prop} {XC : String → State → State → Prop} {mc ms : Nat} {free : Addr → Prop} {cc : ByteArray} {maxL : Nat} {ret : Option FieldType} {hh : List (Nat × Nat × Nat × Nat)}
    (hy : plainFor y = true) (hw : ws = Cond.codeWith y cc maxL ret hh :: ws')
    (body : ∀ p e s m args below meth c s₁, BodyLoose p l y (headSpec ws rm) cc maxL ret e s m args below meth c s₁ → c.maxLocals = maxL → c.exceptionTable.toList = tableOf hh → Pc args s →
      W p l e (headSpec ws rm).room s m args below meth c s.heap [] 0 0 (vx_MQ below Qc XC args s mc ms free) (entryFrame m args maxL)) : vx_Met l y ws rm Pc Qc XC mc ms free := by
  refine MetFree.of_bodySF (code := cc) (maxLocals := maxL) (ret := ret) hy ?_ ?_
  · intro args s m h hn
    obtain ⟨m9, meth, c, hn9, h1, h2, h3, h4, -, h5, h6, -⟩ := Cond.codeWith_spec (atoms_spec (ws := ws) h _ (by rw [hw]; exact List.mem_cons_self))
    cases hn.symm.trans hn9
    exact ⟨meth, c, h1, h2, h3, h4, h5, h6⟩
  · intro p e s m args below meth c s₁ B hml hP _
    have hh0 : s₁.heap = s.heap := by rw [B.state]; rfl
    obtain ⟨t, a1, o, b1, b2, b3⟩ := body p e s m args below meth c s₁ B hml (vx_table (x := y) B (atoms_spec (ws := ws) B.pre _ (by rw [hw]; exact List.mem_cons_self))) hP s₁ hh0 (Stand.of_body B)
    exact ⟨t, o, a1, b1, b2, b3⟩
theorem ww_M_at {t : Nat} (h : t < 127) : goodWord (ww_cw t) = true ∧ ww_inw (.initialized (ww_y t).cls) = true ∧ (ww_y t).cls = ww_nm (ww_ow t) ∧ plainFor (ww_y t) = true ∧ (ww_y t).cls ≠ "java/lang/invoke/MethodHandle" ∧ (ww_y t).cls ≠ "java/lang/invoke/VarHandle" ∧ (parseMethodDescriptor (ww_y t).desc).map (fun d => d.parameters.length) = some (if ww_kd t = 0 then ww_na t else ww_na t - 1) := by
  have h1 := List.all_eq_true.mp ww_M_ok1 t (List.mem_range.mpr h)
  simp only [Bool.and_eq_true, decide_eq_true_eq] at h1
  obtain ⟨⟨⟨⟨⟨⟨a1, a2⟩, a3⟩, a4⟩, a5⟩, a6⟩, a7⟩ := h1
  exact ⟨a1, a2, a3, a4, a5, a6, a7⟩
theorem ww_M_0 {t : Nat} (h : t < 127) (hk : ww_kd t = 0) : ww_inw (.static (ww_y t)) = true := by
  have h1 := List.all_eq_true.mp ww_M_ok2 t (List.mem_range.mpr h)
  rw [hk] at h1
  exact h1
theorem ww_M_1 {t : Nat} (h : t < 127) (hk : ww_kd t = 1) : ww_inw (.instanceMethod (ww_y t)) = true ∧ ww_inw (.selects (ww_y t).cls (ww_y t) (ww_y t)) = true ∧ 1 ≤ ww_na t ∧ ww_ow t < 5 ∧ (ww_y t).cls = (ww_c5 (ww_ow t)).1 ∧ ww_hh t = [] := by
  have h1 := List.all_eq_true.mp ww_M_ok2 t (List.mem_range.mpr h)
  rw [hk] at h1
  simp only [Bool.and_eq_true, decide_eq_true_eq] at h1
  obtain ⟨⟨⟨⟨⟨a1, a2⟩, a3⟩, a4⟩, a5⟩, a6⟩ := h1
  exact ⟨a1, a2, a3, a4, a5, List.isEmpty_iff.mp a6⟩
theorem ww_M_2 {t : Nat} (h : t < 127) (hk : ww_kd t = 2) : ww_inw (.instanceMethod (ww_y t)) = true ∧ (ww_y t).name = "<init>" ∧ ww_rt t = none ∧ 1 ≤ ww_na t ∧ ww_hh t = [] := by
  have h1 := List.all_eq_true.mp ww_M_ok2 t (List.mem_range.mpr h)
  rw [hk] at h1
  simp only [Bool.and_eq_true, decide_eq_true_eq] at h1
  obtain ⟨⟨⟨⟨⟨a1, a2⟩, a3⟩, a4⟩, a5⟩, a6⟩ := h1
  exact ⟨a1, a2, a3, a4, List.isEmpty_iff.mp a6⟩
theorem ww_cwaw {t : Nat} (h : t < 127) : ww_cw t ∈ ww_aw := List.mem_filter.mpr ⟨ww_cwm t h, (ww_M_at h).1⟩
/-- which return instruction, with which answer -/
def ww_ri (M pc : Nat) : Option Value → Prop
  | some (.int x) => decode (ww_b M) pc = .ok (.ireturn, 1) ∧ (ww_rt M = some .int ∨ (ww_rt M = some .boolean ∧ (x = 0 ∨ x = 1)))
  | some (.long _) => decode (ww_b M) pc = .ok (.lreturn, 1) ∧ ww_rt M = some .long
  | some (.ref _) => decode (ww_b M) pc = .ok (.areturn, 1) ∧ ww_rt M = some (.object "WaterWorks$Customer")
  | none => decode (ww_b M) pc = .ok (.return_, 1) ∧ ww_rt M = none
  | _ => False
def ww_KR (l : Launch) (p : Program) (e : Env) (R : Room) (s : State) (m : MethodId) (args : Array Value) (below : List Frame) (meth : Method) (c : Code) (Q : State → Prop) (D : va_G) (tA : Nat → ClassId) (b : Nat) (A : Nat → Prop) (M : Nat) (ad : Nat → Nat) (n0 : Nat) (r : ww_R) : Prop :=
  ∀ pc' v ad' H' locs' ls' k' n', r.1 = .inl v → ww_ri M pc' v → (∀ i, i < n0 → ad' i = ad i) → va_P D ww_cl (ww_w tA b ad' r.2) H' → va_D A (ww_w tA b ad' r.2) → va_S A s.heap H' locs' → ls'.size = ww_mL M → k' ≤ ww_mc M → n' ≤ ww_ms M →
    W p l e R s m args below meth c H' locs' k' n' Q (F0 m pc' ls' (v.map (ww_tr b ad')).toList)
def ww_KT (s : State) (args : Array Value) (below : List Frame) (Q : State → Prop) (D : va_G) (tA : Nat → ClassId) (b : Nat) (A : Nat → Prop) (M : Nat) (ad : Nat → Nat) (n0 : Nat) (r : ww_R) : Prop :=
  ∀ e9, r.1 = .inr e9 → ∃ (Qc : Array Value → State → Outcome → State → Prop) (XC : String → State → State → Prop), Q = vx_MQ below Qc XC args s (ww_mc M) (ww_ms M) A ∧
    ∀ ad' H' locs' t, (∀ i, i < n0 → ad' i = ad i) → va_P D ww_cl (ww_w tA b ad' r.2) H' → va_D A (ww_w tA b ad' r.2) → va_S A s.heap H' locs' → s.vm.Alike t.vm → H'.size ≤ t.heap.size → (∀ q, q < H'.size → t.heap[q]? = H'[q]?) → XC (ww_e4 e9) s t
theorem ww_KR.mono {l : Launch} {p : Program} {e : Env} {R : Room} {s : State} {m : MethodId} {args : Array Value} {below : List Frame} {meth : Method} {c : Code} {Q : State → Prop} {D : va_G} {tA : Nat → ClassId} {b : Nat} {A : Nat → Prop} {M : Nat} {ad ad1 : Nat → Nat} {n0 n1 : Nat} {r : ww_R} (h : ww_KR l p e R s m args below meth c Q D tA b A M ad n0 r) (hn : n0 ≤ n1) (e1 : ∀ i, i < n0 → ad1 i = ad i) : ww_KR l p e R s m args below meth c Q D tA b A M ad1 n1 r :=
  fun pc' v ad' H' locs' ls' k' n' a1 a2 a3 => h pc' v ad' H' locs' ls' k' n' a1 a2 (fun i hi => (a3 i (Nat.lt_of_lt_of_le hi hn)).trans (e1 i hi))
theorem ww_KT.mono {s : State} {args : Array Value} {below : List Frame} {Q : State → Prop} {D : va_G} {tA : Nat → ClassId} {b : Nat} {A : Nat → Prop} {M : Nat} {ad ad1 : Nat → Nat} {n0 n1 : Nat} {r : ww_R} (h : ww_KT s args below Q D tA b A M ad n0 r) (hn : n0 ≤ n1) (e1 : ∀ i, i < n0 → ad1 i = ad i) : ww_KT s args below Q D tA b A M ad1 n1 r := by
  intro e9 h9
  obtain ⟨Qc, XC, h1, h2⟩ := h e9 h9
  exact ⟨Qc, XC, h1, fun ad' H' locs' t a3 => h2 ad' H' locs' t (fun i hi => (a3 i (Nat.lt_of_lt_of_le hi hn)).trans (e1 i hi))⟩
def ww_snd (l : Launch) (f : Nat) : Prop := ∀ (S : ww_S) (M pc : Nat) (L st : List Value) (h : List ww_E) (k n : Nat) (r : ww_R), ww_run f S M pc L st h k n = some r → M < 128 →
  ∀ (p : Program) (e : Env) (R : Room) (s : State) (m : MethodId) (args : Array Value) (below : List Frame) (meth : Method) (c : Code) (H : Heap) (locs : List Loc) (Q : State → Prop) (D : va_G) (tA : Nat → ClassId) (b : Nat) (A : Nat → Prop) (ad : Nat → Nat) (ls : Array Slot),
    ww_C l p R s m args meth c D tA b A S M → ww_I s D tA b A (ww_mL M) ad h L H locs ls → ww_g L st h → k ≤ ww_mc M ∧ n ≤ ww_ms M → ww_KR l p e R s m args below meth c Q D tA b A M ad h.length r → ww_KT s args below Q D tA b A M ad h.length r →
    W p l e R s m args below meth c H locs k n Q (F0 m pc ls (st.map (ww_tr b ad)))
/-- a callee's start and ends -/
def ww_B (D : va_G) (tA : Nat → ClassId) (b : Nat) (ad : Nat → Nat) (h : List ww_E) (sz : Nat) (U : State) : Prop :=
  U.heap.size = sz ∧ va_P D ww_cl (ww_w tA b ad h) U.heap ∧ va_K D ww_cl (ww_ty tA) U ∧ va_D (fun _ => True) (ww_w tA b ad h) ∧ ww_Z U ∧ vx_Zq Bundle.tN "UNASSIGNED_STACK" Bundle.steD (va_A (ww_w tA b ad h) sz) U U.heap ∧ vx_Zq Bundle.tN "SUPPRESSED_SENTINEL" Bundle.listD (va_A (ww_w tA b ad h) sz) U U.heap
def ww_Wd (D : va_G) (tA : Nat → ClassId) (b : Nat) (ad : Nat → Nat) (h : List ww_E) (sz : Nat) (r : ww_R) (ad' : Nat → Nat) (t : State) : Prop :=
  (∀ i, i < h.length → ad' i = ad i) ∧ va_P D ww_cl (ww_w tA b ad' r.2) t.heap ∧ va_D (va_A (ww_w tA b ad h) sz) (ww_w tA b ad' r.2)
def ww_Qc (D : va_G) (tA : Nat → ClassId) (b : Nat) (ad : Nat → Nat) (h : List ww_E) (sz : Nat) (r : ww_R) : Array Value → State → Outcome → State → Prop := fun _ st oc t =>
  (∃ (v : Option Value) (ad' : Nat → Nat), r.1 = .inl v ∧ oc = .returned (v.map (ww_tr b ad')) ∧ ww_Wd D tA b ad h sz r ad' t) ∧ va_F (va_A (ww_w tA b ad h) sz) st t
def ww_XC (D : va_G) (tA : Nat → ClassId) (b : Nat) (ad : Nat → Nat) (h : List ww_E) (sz : Nat) (r : ww_R) : String → State → State → Prop := fun E st t =>
  (∃ (e9 : Nat) (ad' : Nat → Nat), r.1 = .inr e9 ∧ E = ww_e4 e9 ∧ ww_Wd D tA b ad h sz r ad' t) ∧ va_F (va_A (ww_w tA b ad h) sz) st t
theorem ww_B_blind {D : va_G} {tA : Nat → ClassId} {b : Nat} {ad : Nat → Nat} {h : List ww_E} {sz : Nat} {av : List Value} : FrameBlind (va_Pc av (ww_B D tA b ad h sz)) := by
  intro a U g mk hq
  obtain ⟨h0, h1, h2, h3, h4, h5, h6, h7⟩ := hq
  have hW : U.WarmedH (U.calling g mk a).vm := State.WarmedH.refl U
  exact ⟨h0, h1, h2, va_K.moved hW.alike h3, h4, h5.warm hW, vx_Zq.moved hW.alike h6, vx_Zq.moved hW.alike h7⟩
set_option maxHeartbeats 2000000 in
/-- the end of a method that returns: by its return instruction -/
theorem ww_end {l : Launch} {p : Program} {e : Env} {R : Room} {s : State} {m : MethodId} {args : Array Value} {below : List Frame} {meth : Method} {c : Code} {D : va_G} {tA : Nat → ClassId} {b : Nat} {ad : Nat → Nat} {h : List ww_E} {r : ww_R} {M : Nat} (hx : p.tables.exec = Jvm.exec) (hb : c.code = ww_b M) (hr : meth.sig.returnType = ww_rt M) (hlocks : meth.locks = false) :
    ww_KR l p e R s m args below meth c (vx_MQ below (ww_Qc D tA b ad h s.heap.size r) (ww_XC D tA b ad h s.heap.size r) args s (ww_mc M) (ww_ms M) (va_A (ww_w tA b ad h) s.heap.size)) D tA b (va_A (ww_w tA b ad h) s.heap.size) M ad h.length r := by
  intro pc' v ad' H' locs' ls' k' n' hv hri hag hP hD hS hsz hk hn
  refine W.widen hk hn (vx_ret ?_)
  have hq : ∀ t : State, t.heap = H' → s.WarmedH t.vm → ww_Qc D tA b ad h s.heap.size r args s (.returned (v.map (ww_tr b ad'))) t := fun t ht _ => ⟨⟨v, ad', hv, rfl, hag, by rw [ht]; exact hP, hD⟩, hS.F ht⟩
  cases v with
  | none =>
    obtain ⟨h1, h2⟩ := hri
    exact W.vret hx hb (hr.trans h2) hq hS.2.2 h1 hlocks
  | some v =>
    cases v with
    | int x =>
      obtain ⟨h1, h2 | ⟨h2, h3⟩⟩ := hri
      · exact W.iret hx hb (hr.trans h2) hq hS.2.2 h1 hlocks
      · exact W.zret (ty := .boolean) hx hb (hr.trans h2) (by rcases h3 with rfl | rfl <;> rfl) hq hS.2.2 h1 hlocks
    | long x =>
      obtain ⟨h1, h2⟩ := hri
      exact W.lret hx hb (hr.trans h2) hq hS.2.2 h1 hlocks
    | ref x =>
      obtain ⟨h1, h2⟩ := hri
      exact W.aret hx hb (hr.trans h2) (Or.inl ⟨_, rfl⟩) (Or.inr ⟨_, rfl⟩) hq hS.2.2 h1 hlocks
    | _ => exact hri.elim
set_option maxHeartbeats 2000000 in
/-- a method's contract, out of the soundness of its body's run -/
theorem ww_met {l : Launch} (hl : l.stackTraces = false) {f : Nat} (ih : ww_snd l f) {D : va_G} {tA : Nat → ClassId} {b : Nat} {ad : Nat → Nat} {h : List ww_E} {sz t : Nat} {As : List Value} {r : ww_R} (ht : t < 127) (hr : ww_run f none t 0 (ww_en (ww_mL t) As) [] h 0 0 = some r) (hlen : (ww_en (ww_mL t) As).length = ww_mL t) (hAs : ww_ol h.length As) (hh : ww_oh h.length h) :
    vx_Met l (ww_y t) (ww_cw t :: ww_aw) (ww_rm t) (va_Pc (As.map (ww_tr b ad)) (ww_B D tA b ad h sz)) (ww_Qc D tA b ad h sz r) (ww_XC D tA b ad h sz r) (ww_mc t) (ww_ms t) (va_A (ww_w tA b ad h) sz) := by
  obtain ⟨g1, g2, g3, g4, g5, g6, g7⟩ := ww_M_at ht
  have body : ∀ (p : Program) (e : Env) (s : State) (m : MethodId) (args : Array Value) (below : List Frame) (meth : Method) (c : Code) (s₁ : State), BodyLoose p l (ww_y t) (headSpec (ww_cw t :: ww_aw) (ww_rm t)) (ww_b t) (ww_mL t) (ww_rt t) e s m args below meth c s₁ → c.maxLocals = ww_mL t → c.exceptionTable.toList = tableOf (ww_hh t) → va_Pc (As.map (ww_tr b ad)) (ww_B D tA b ad h sz) args s →
      W p l e (ww_rm t) s m args below meth c s.heap [] 0 0 (vx_MQ below (ww_Qc D tA b ad h sz r) (ww_XC D tA b ad h sz r) args s (ww_mc t) (ww_ms t) (va_A (ww_w tA b ad h) sz)) (entryFrame m args (ww_mL t)) := by
    intro p e s m args below meth c s₁ B hml htab hPc
    obtain ⟨rfl, h1, h2, h3, h4, h5, h6, h7⟩ := hPc
    subst h1
    rw [lg_entry_eq]
    obtain ⟨-, hL⟩ := ww_lR_en (b := b) (ad := ad) hlen
    have hts : ∀ w ∈ ww_cw t :: ww_aw, w.before (As.map (ww_tr b ad)).toArray s = true := atoms_spec (ws := ww_cw t :: ww_aw) B.pre
    have hown : s.vm.findClass (ww_y t).cls = some m.cls := findClass_of_methodNamed B.named
    rw [g3] at hown
    refine ih none t 0 _ [] h 0 0 r hr (by omega) p e (ww_rm t) s m _ below meth c s.heap [] _ D tA b (va_A (ww_w tA b ad h) s.heap.size) ad _ ?_ ⟨h2, h4.self, va_S.rf, hL⟩ ⟨ww_en_ov hAs, (fun v hv => nomatch hv), hh⟩ ⟨Nat.zero_le _, Nat.zero_le _⟩ (ww_end B.exec B.bytes B.returns B.notSynchronized) ?_
    · refine ⟨⟨B.exec, B.bytes, hml, hown, fun w hw => hts w (List.mem_cons_of_mem _ hw)⟩, h3, fun q hq => Or.inr hq, ⟨Nat.le_refl _, Nat.le_refl _, Nat.le_refl _, Nat.le_refl _⟩, fun hk => ?_, trivial, h5, ⟨h6, h7⟩, hl, fun _ => htab, B.notSynchronized⟩
      rw [(name_of_methodNamed B.named B.method).1]
      exact (ww_M_2 ht hk).2.1
    · intro e9 he9
      refine ⟨_, _, rfl, fun ad' H' locs' t' hag hP hD hS hal hsz hkp => ⟨⟨e9, ad', he9, rfl, hag, ?_, hD⟩, ?_⟩⟩
      · exact hP.kept (fun k q hk => hkp q.1 (hP k q hk).lt)
      · exact ⟨Nat.le_trans hS.1 hsz, fun q hq hA => (hkp q (Nat.lt_of_lt_of_le hq hS.1)).trans (hS.2.1 q hq hA)⟩
  cases hhh : ww_hh t with
  | nil =>
    have hcw : ww_cw t = .code (ww_y t) (ww_b t) (ww_mL t) (ww_rt t) := by unfold ww_cw; rw [hhh]
    refine ww_ofW (cc := ww_b t) (maxL := ww_mL t) (ret := ww_rt t) (ws' := ww_aw) g4 (by rw [hcw]) (fun p e s m args below meth c s₁ B hml htab hPc => ?_)
    exact body p e s m args below meth c s₁ B hml (by rw [hhh]; exact htab) hPc
  | cons z zs =>
    have hcw : ww_cw t = .codeWith (ww_y t) (ww_b t) (ww_mL t) (ww_rt t) (z :: zs) := by unfold ww_cw; rw [hhh]
    refine ww_ofWH (hh := z :: zs) (cc := ww_b t) (maxL := ww_mL t) (ret := ww_rt t) (ws' := ww_aw) g4 (by rw [hcw]) (fun p e s m args below meth c s₁ B hml htab hPc => ?_)
    exact body p e s m args below meth c s₁ B hml (by rw [hhh]; exact htab) hPc
theorem ww_axcall {p : Program} {l : Launch} {e : Env} {R : Room} {s : State} {m : MethodId} {args : Array Value} {below : List Frame} {meth : Method} {c : Code} {H : Heap} {locs : List Loc} {cells slots mc ms : Nat} {Q : State → Prop} {pc : Nat} {ls : Array Slot} {st0 rest : List Value} {Qa : State → Outcome → State → Prop} {XC : String → State → State → Prop} {free : Addr → Prop}
    (hr : vx_Run p l e R s m args below meth c H locs cells slots mc ms (F0 m pc ls st0) rest Qa XC free)
    (k1 : ∀ (v : Option Value) (st₀ t : State) (Lx : List Loc), st₀.heap = H → s.vm.Alike t.vm → Qa st₀ (.returned v) t → (∀ q ∈ Lx, free q.base) → W p l e R s m args below meth c t.heap (locs ++ Lx) (cells + mc) (slots + ms) Q (F0 m (pc + 3) ls (v.toList ++ rest)))
    (k2 : ∀ (q : Addr) (st₀ t : State) (Lx : List Loc) (E : String) (ce : Cell), st₀.heap = H → s.vm.Alike t.vm → XC E st₀ t → (∀ z ∈ Lx, free z.base) → t.heap[q]? = some ce → ce.vm = .none → s.vm.findClass E = some ce.cls → vx_W p l e R s m args below meth c t.heap (locs ++ Lx) (cells + mc) (slots + ms) Q (F0 m pc ls rest) q) :
    W p l e R s m args below meth c H locs cells slots Q (F0 m pc ls st0) := by
  intro T hT X
  rcases hr T hT X with ⟨v, st₀, t, T', L, h0, X', hL, e1, e2, hq, st⟩ | ⟨q, st₀, t, T', L, E, ce, h0, X', hL, e1, e2, hx, hce, hcv, hcl, st⟩
  · obtain ⟨t2, a1, b1⟩ := k1 v st₀ t L h0 (by rw [← e2]; exact X'.warmed.alike) hq hL T' e1 X'
    exact ⟨t2, st t2 a1, b1⟩
  · obtain ⟨t2, a1, b1⟩ := k2 q st₀ t L E ce h0 (by rw [← e2]; exact X'.warmed.alike) hx hL hce hcv hcl T' e1 X'
    exact ⟨t2, st.trans a1, b1⟩
