/-! what the tables say of the machine's tables: decided by program -/
def ww_aw : List Cond := lw_tbl.filter goodWord
def ww_inw (w : Cond) : Bool := goodWord w && decide (w ∈ lw_tbl)
theorem ww_in_aw {w : Cond} (h : ww_inw w = true) : w ∈ ww_aw := by
  simp only [ww_inw, Bool.and_eq_true, decide_eq_true_eq] at h
  exact List.mem_filter.mpr ⟨h.2, h.1⟩
theorem ww_aw_good {ws : List Cond} (h : ∀ w ∈ ws, w ∈ ww_aw) : GoodIn ww_aw ws := fun w hw => ⟨h w hw, good_of_word (List.mem_filter.mp (h w hw)).2⟩
def ww_c5 (ci : Nat) : vw_C := ww_cl.getD ci ("", fun _ => ("", "", "", false), 0)
def ww_t5 (ci : Nat) : Nat → FieldType := ww_ct.getD ci (fun _ => .int)
def ww_nm (o : Nat) : String := ww_on.getD o ""
def ww_cw (M : Nat) : Cond := match ww_hh M with
  | [] => .code (ww_y M) (ww_b M) (ww_mL M) (ww_rt M)
  | hh => .codeWith (ww_y M) (ww_b M) (ww_mL M) (ww_rt M) hh
def ww_nms : List String := ["java/lang/RuntimeException", "java/lang/Exception"]
def ww_e4 (e : Nat) : String := ww_ex.getD e ""
def ww_bad : List Cond := ww_xT.flatMap (fun q => (vx_at0 (ww_nm q.1) q.2.1 (ww_e4 q.2.2) ww_nms).filter (fun w => !goodWord w))
def ww_isCD : Cond → Bool
  | .castable _ _ => true
  | .declares _ => true
  | _ => false
set_option maxRecDepth 100000 in
theorem ww_fT_ok : ww_fT.all (fun e => decide (e.2.2.1 < 5) && decide (e.2.2.2 < (ww_c5 e.2.2.1).2.2) && decide (e.2.2.2 < 100) && ww_inw (.fieldLink (ww_nm e.1) e.2.1 ((ww_c5 e.2.2.1).2.1 e.2.2.2).1 ((ww_c5 e.2.2.1).2.1 e.2.2.2).2.1 ((ww_c5 e.2.2.1).2.1 e.2.2.2).2.2.1)) = true := by decide +kernel
set_option maxRecDepth 100000 in
theorem ww_cls_ok : (List.range 5).all (fun ci => (u_ws (ww_c5 ci).1 (ww_c5 ci).2.1 (ww_c5 ci).2.2).all ww_inw && ww_inw (.instantiable (ww_c5 ci).1 (ww_c5 ci).2.2) && ww_inw (.initialized (ww_c5 ci).1) && decide ((ww_z ci).length = (ww_c5 ci).2.2)) = true := by decide +kernel
set_option maxRecDepth 100000 in
theorem ww_cT_ok : ww_cT.all (fun e => decide (e.2.2 < 127) && ww_inw (.methodLink (ww_nm e.1) e.2.1 (ww_y e.2.2))) = true := by decide +kernel
set_option maxRecDepth 100000 in
theorem ww_nT_ok : ww_nT.all (fun e => decide (e.2.2 < 5) && ww_inw (.classLink (ww_nm e.1) e.2.1 (ww_c5 e.2.2).1)) = true := by decide +kernel
theorem ww_iT_ok : ww_iT.all (fun e => ww_inw (.constant (ww_nm e.1) e.2.1 (Int32.ofInt e.2.2))) = true := by decide +kernel
theorem ww_lT_ok : ww_lT.all (fun e => ww_inw (.constantLong (ww_nm e.1) e.2.1 (Int64.ofInt e.2.2))) = true := by decide +kernel
theorem ww_oT_ok : ww_oT.all (fun e => ww_inw (.methodLink (ww_nm e.1) e.2 objectInit)) = true ∧ ww_inw (.instanceMethod objectInit) = true ∧ ww_inw (.code objectInit ⟨#[0xb1]⟩ 1 none) = true := by decide +kernel
theorem ww_eT_ok : ww_eT.all (fun e => decide (e.2.2 < 4) && ww_inw (.classLink (ww_nm e.1) e.2.1 (ww_e4 e.2.2)) && ww_inw (.initialized (ww_e4 e.2.2)) && vx_ot (.classLink (ww_nm e.1) e.2.1 (ww_e4 e.2.2)) && vx_ot (.initialized (ww_e4 e.2.2)) && Bundle.fit (ww_e4 e.2.2)) = true := by decide +kernel
set_option maxRecDepth 100000 in
theorem ww_xT_ok : ww_xT.all (fun e => (vx_at0 (ww_nm e.1) e.2.1 (ww_e4 e.2.2) ww_nms).all (fun w => (ww_inw w || decide (w ∈ ww_bad)) && vx_ot w)) = true := by decide +kernel
theorem ww_nms_ok : ∀ n ∈ ww_nms, Bundle.fit n = true := by decide +kernel
theorem ww_bad_ok : ww_bad.all (fun w => ww_isCD w && decide (w ∈ lw_tbl) && w.onTables) = true := by decide +kernel
theorem ww_arr_ok : ww_inw (.arrayClass .int) = true ∧ ww_inw (.arrayClass .long) = true ∧ ww_inw (.arrayClass .boolean) = true := by decide +kernel
theorem ww_ao_ok : (Cond.arrayOver (.object RX0)) ∈ lw_tbl := by decide +kernel
set_option maxRecDepth 100000 in
theorem ww_M_ok1 : (List.range 127).all (fun t => goodWord (ww_cw t) && ww_inw (.initialized (ww_y t).cls) && decide ((ww_y t).cls = ww_nm (ww_ow t)) && plainFor (ww_y t) && decide ((ww_y t).cls ≠ "java/lang/invoke/MethodHandle") && decide ((ww_y t).cls ≠ "java/lang/invoke/VarHandle") && decide ((parseMethodDescriptor (ww_y t).desc).map (fun d => d.parameters.length) = some (if ww_kd t = 0 then ww_na t else ww_na t - 1))) = true := by decide +kernel
set_option maxRecDepth 100000 in
theorem ww_M_ok2 : (List.range 127).all (fun t => match ww_kd t with
    | 0 => ww_inw (.static (ww_y t))
    | 1 => ww_inw (.instanceMethod (ww_y t)) && ww_inw (.selects (ww_y t).cls (ww_y t) (ww_y t)) && decide (1 ≤ ww_na t) && decide (ww_ow t < 5) && decide ((ww_y t).cls = (ww_c5 (ww_ow t)).1) && (ww_hh t).isEmpty
    | _ => ww_inw (.instanceMethod (ww_y t)) && decide ((ww_y t).name = "<init>") && decide (ww_rt t = none) && decide (1 ≤ ww_na t) && decide (ww_kd t = 2) && (ww_hh t).isEmpty) = true := by decide +kernel
set_option maxRecDepth 100000 in
theorem ww_fty_ok : (List.range 5).all (fun ci => (List.range (ww_c5 ci).2.2).all (fun k => (match ww_t5 ci k with
    | .int | .long | .object _ | .array _ => true
    | _ => false) && decide (parseFieldDescriptor ((ww_c5 ci).2.1 k).2.2.1 = some (ww_t5 ci k)) && decide (defaultValue (ww_t5 ci k) = vp_V (ww_z ci) k) && (List.range (ww_c5 ci).2.2).all (fun q => decide (k = q ∨ ((ww_c5 ci).2.1 k).2.1 ≠ ((ww_c5 ci).2.1 q).2.1)) && decide (((ww_c5 ci).2.1 k).1 = (ww_c5 ci).1) && decide ((ww_c5 ci).1 = ww_nm ci))) = true := by decide +kernel
