def R_law : String := "WaterWorksLaw"
def lw_P (b : Addr) (xs : List Int32) (args : Array Value) (s : State) : Prop := args = #[.ref b] ∧ s.IntsAt b xs ∧ xs.length ≤ 2048 ∧ (Jvm.Cond.and given_1 narrow_1).before args s = true
def lw_Q (_ : Array Value) (s : State) (o : Outcome) (t : State) : Prop := o = .returned (some (.int 1)) ∧ Framed s o t [] 601024 7293034
def lw_Z (below : List Frame) (a : Array Value) (s : State) : State → Prop := fun t => ∃ o, t.status = .running ∧ Ended t below o ∧ lw_Q a s o t
/-- the law's own end, with 1 on the stack, nothing written that was there before, its room as the claim has it -/
theorem lw_ret {p : Program} {l : Launch} {e : Env} {s : State} {m : MethodId} {below : List Frame} {meth : Method} {c : Code} {b : Nat} (hx : p.tables.exec = Jvm.exec) (hb : c.code = code) (hr : meth.sig.returnType = ret) (hlocks : meth.locks = false) {pc : Nat} {H : Heap} {ls : Array Slot} (hdg : decode code pc = .ok (.ireturn, 1)) : W p l e room_1 s m #[Value.ref b] below meth c H [] 601024 7293034 (lw_Z below #[Value.ref b] s) (F0 m pc ls [.int 1]) := by
  intro T hT X
  obtain ⟨fs, hret, hrun, hended, hW, hframe⟩ := X.leave (v := some (.int 1)) (hlocks := hlocks) (fun h => by rw [hr] at h; cases h)
  have hmeth' : T.vm.method? m = some meth := X.method'
  refine ⟨T.setFrames fs, ?_, .returned (some (.int 1)), hrun, hended, rfl, ⟨_, rfl⟩, hW, hframe⟩
  jvm_step X.here [X.here.top, hx, hb, hdg, hmeth', hr, ret, narrow_b1]
  (try refine ⟨rfl, ?_⟩); (try refine ⟨rfl, ?_⟩)
  first | (intro acts; rw [hret _ acts rfl rfl rfl]) | rw [hret _ _ rfl rfl rfl]
  exact Steps.refl _
/-- what holds at the law's entry: the machine, the code, the tables' words (any of lw_tbl by 'hts w (by decide +kernel)'), the script of L ints xs at the cell b, what the Statement gives of the start (any of its parts by flat_of_before) -/
def lw_At (p : Program) (s : State) (m : MethodId) (meth : Method) (c : Code) (b L : Nat) (xs : Nat → Int32) : Prop :=
  p.tables.exec = Jvm.exec ∧ c.code = code ∧ meth.sig.returnType = ret ∧ c.maxLocals = 8 ∧ s.vm.findClass R_law = some m.cls ∧ (∀ w ∈ lw_tbl, w.before #[Value.ref b] s = true) ∧ va_X b L xs s s.heap ∧ b < s.heap.size ∧ meth.locks = false ∧ (Jvm.Cond.and given_1 narrow_1).before #[Value.ref b] s = true
set_option maxHeartbeats 4000000 in
/-- the law's run by the abstract machine gives its walk -/
theorem ww_top {p : Program} {e : Env} {s : State} {m : MethodId} {below : List Frame} {meth : Method} {c : Code} (l : Launch) (hflags : l.flags = flags0) {b L : Nat} {xs : Nat → Int32} (C0 : lw_At p s m meth c b L xs) {f : Nat} {h' : List ww_E} (hrun : ww_run f (some (L, xs)) 127 0 (ww_en 8 [.retAddr 1]) [] [] 0 0 = some (.inl (some (.int 1)), h')) :
    W p l e room_1 s m #[Value.ref b] below meth c s.heap [] 0 0 (lw_Z below #[Value.ref b] s) (entryFrame m ([Value.ref b] : List Value).toArray 8) := by
  obtain ⟨hx, hb, hr, hml, hown, hts, hX, hbl, hlocks, hgv⟩ := id C0
  have hl : l.stackTraces = false := by unfold Launch.stackTraces; rw [hflags]; decide +kernel
  have hflat := flat_of_before _ hgv
  have haw : ∀ w ∈ ww_aw, w.before #[Value.ref b] s = true := fun w hw => hts w (List.mem_filter.mp hw).1
  have hA : ∀ q : Nat, s.heap.size ≤ q → (fun q : Nat => s.heap.size ≤ q) q := fun _ h => h
  have hno : ∀ a : Nat, a < s.heap.size → ¬ (fun q : Nat => s.heap.size ≤ q) a := fun a h1 h2 => absurd h2 (Nat.not_le.mpr h1)
  have kn : ∀ ci, ci < 5 → ∃ (cC : ClassId) (iS : Nat → Nat), u_Kn s (ww_c5 ci).1 (ww_c5 ci).2.1 (ww_c5 ci).2.2 cC iS := fun ci hci => by
    obtain ⟨c1, c2, c3, c4⟩ := ww_cls_at hci
    exact u_known haw c1 (ww_word haw c2)
  obtain ⟨x0, y0, k0⟩ := kn 0 (by decide)
  obtain ⟨x1, y1, k1⟩ := kn 1 (by decide)
  obtain ⟨x2, y2, k2⟩ := kn 2 (by decide)
  obtain ⟨x3, y3, k3⟩ := kn 3 (by decide)
  obtain ⟨x4, y4, k4⟩ := kn 4 (by decide)
  obtain ⟨aI, kI, cI, i1, i2, i3⟩ := Cond.arrayClass_spec (ww_word haw ww_arr_ok.1)
  obtain ⟨aJ, kJ, cJ, j1, j2, j3⟩ := Cond.arrayClass_spec (ww_word haw ww_arr_ok.2.1)
  obtain ⟨aZ, kZ, cZ, z1, z2, z3⟩ := Cond.arrayClass_spec (ww_word haw ww_arr_ok.2.2)
  have hao := hts _ ww_ao_ok
  obtain ⟨cQ, aQ, kQ, o1, o2, o3, o4, o5⟩ := Cond.arrayOver_spec hao
  obtain ⟨D, tA, hK⟩ : ∃ (D : va_G) (tA : Nat → ClassId), va_K D ww_cl (ww_ty tA) s := by
    refine ⟨(fun k => match k with
      | 0 => x0
      | 1 => x1
      | 2 => x2
      | 3 => x3
      | _ => x4, fun k => match k with
      | 0 => y0
      | 1 => y1
      | 2 => y2
      | 3 => y3
      | _ => y4), fun k => match k with
      | 0 => aI
      | 1 => aJ
      | 2 => aZ
      | _ => aQ, ?_, ?_⟩
    · intro k q hq
      match k, hq with
      | 0, hq => cases hq; exact k0
      | 1, hq => cases hq; exact k1
      | 2, hq => cases hq; exact k2
      | 3, hq => cases hq; exact k3
      | 4, hq => cases hq; exact k4
      | k + 5, hq => simp [ww_cl] at hq
    · intro k q hq
      match k, hq with
      | 0, hq => cases hq; exact ⟨fun n z => ⟨fun k h => (by cases h), kI, i2, cI, i3⟩, i1⟩
      | 1, hq => cases hq; exact ⟨fun n z => ⟨fun k h => (by cases h), kJ, j2, cJ, j3⟩, j1⟩
      | 2, hq => cases hq; exact ⟨fun n z => ⟨fun k h => (by cases h), kZ, z2, cZ, z3⟩, z1⟩
      | 3, hq => cases hq; exact ⟨fun n z => ⟨fun k h => (by cases h), kQ, o3, cQ, o4⟩, kQ, cQ, o3, o4, o1, o5⟩
      | k + 4, hq => simp [ww_ty] at hq
  have hZ : ww_Z s := by
    refine ⟨fun w hw => ?_, ?_, va_AO.of hao⟩
    · have h1 := List.all_eq_true.mp ww_bad_ok w hw
      simp only [Bool.and_eq_true, decide_eq_true_eq] at h1
      exact va_Nw.of h1.2 (hts w h1.1.2)
    · have key : ∀ E F : String, E ∈ ww_ex → F ∈ ww_ex → E ≠ F → va_Nc E F s := by
        intro E F hE hF hne
        simp only [ww_ex, List.mem_cons, List.not_mem_nil, or_false] at hE hF
        rcases hE with rfl | rfl | rfl | rfl <;> rcases hF with rfl | rfl | rfl | rfl <;> first | exact absurd rfl hne | exact va_Nc.of (hflat _ (by decide +kernel))
      exact fun E hE F hF hne => key E F hE hF hne
  have hU : vx_Zq Bundle.tN "UNASSIGNED_STACK" Bundle.steD (fun q : Nat => s.heap.size ≤ q) s s.heap := vx_Zqof (hts _ (by decide +kernel)) (hts _ (by decide +kernel)) (hflat _ (by decide +kernel)) hno
  have hN : vx_Zq Bundle.tN "SUPPRESSED_SENTINEL" Bundle.listD (fun q : Nat => s.heap.size ≤ q) s s.heap := vx_Zqof (hts _ (by decide +kernel)) (hts _ (by decide +kernel)) (hflat _ (by decide +kernel)) hno
  have hP0 : va_P D ww_cl (ww_w tA b (fun _ => 0) []) s.heap := fun k q h => by cases h
  have hD0 : va_D (fun q : Nat => s.heap.size ≤ q) (ww_w tA b (fun _ => 0) []) := ⟨(fun i j p q h => nomatch h), (fun k q h => nomatch h)⟩
  have hlen : (ww_en 8 [.retAddr 1]).length = 8 := rfl
  obtain ⟨-, hL⟩ := ww_lR_en (b := b) (ad := fun _ => 0) hlen
  have C : ww_C l p room_1 s m #[Value.ref b] meth c D tA b (fun q : Nat => s.heap.size ≤ q) (some (L, xs)) 127 := by
    refine ⟨⟨hx, hb, hml, hown, haw⟩, hK, hA, ⟨?_, ?_, ?_, ?_⟩, fun h => ?_, ⟨hX, hbl, Nat.not_le.mpr hbl⟩, hZ, ⟨hU, hN⟩, hl, fun h => absurd h (by decide), hlocks⟩
    · exact Nat.le_of_ble_eq_true rfl
    · exact Nat.le_of_ble_eq_true rfl
    · exact Nat.le_of_ble_eq_true rfl
    · exact Nat.le_of_ble_eq_true rfl
    · exact absurd h (by decide +kernel)
  rw [lg_entry_eq]
  refine ww_sound l hl f (some (L, xs)) 127 0 _ [] [] 0 0 _ hrun (by decide) p e room_1 s m #[Value.ref b] below meth c s.heap [] (lw_Z below #[Value.ref b] s) D tA b (fun q : Nat => s.heap.size ≤ q) (fun _ => 0) _ C ⟨hP0, hD0, va_S.rf, hL⟩ ⟨?_, (fun v hv => nomatch hv), (fun v hv => nomatch hv)⟩ ⟨Nat.zero_le _, Nat.zero_le _⟩ ?_ ?_
  · refine ww_en_ov (fun v hv => ?_)
    rw [List.mem_singleton.mp hv]
    trivial
  · intro pc' v ad' H' locs' ls' k' n' hv hri hag hP hD hS hsz hk hn
    cases hv
    refine W.widen (k := 601024) (n := 7293034) hk hn ?_
    refine va_forget hS.2.2 ?_
    exact lw_ret hx hb hr hlocks hri.1
  · intro e9 he
    cases he
