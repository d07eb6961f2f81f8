/-! The abstract machine: frames with lists of values, a heap that is a list of cells, references that are places in that list. -/
abbrev ww_E : Type := (Nat × vp_A) ⊕ (Nat × List Value)
abbrev ww_S : Type := Option (Nat × (Nat → Int32))
abbrev ww_R : Type := (Option Value ⊕ Nat) × List ww_E
abbrev ww_U : Value := .retAddr 0
def ww_d0 : ww_Row := (⟨"", "", ""⟩, ⟨#[]⟩, 0, none, 0, 0, 0, 0, 0, 0, [])
def ww_m (M : Nat) : ww_Row := ww_M.getD M ww_d0
def ww_y (M : Nat) : MethodName := (ww_m M).1
def ww_b (M : Nat) : ByteArray := (ww_m M).2.1
def ww_mL (M : Nat) : Nat := (ww_m M).2.2.1
def ww_rt (M : Nat) : Option FieldType := (ww_m M).2.2.2.1
def ww_ow (M : Nat) : Nat := (ww_m M).2.2.2.2.1
def ww_kd (M : Nat) : Nat := (ww_m M).2.2.2.2.2.1
def ww_na (M : Nat) : Nat := (ww_m M).2.2.2.2.2.2.1
def ww_lv (M : Nat) : Nat := (ww_m M).2.2.2.2.2.2.2.1
def ww_mc (M : Nat) : Nat := (ww_m M).2.2.2.2.2.2.2.2.1
def ww_ms (M : Nat) : Nat := (ww_m M).2.2.2.2.2.2.2.2.2.1
def ww_hh (M : Nat) : List (Nat × Nat × Nat × Nat) := (ww_m M).2.2.2.2.2.2.2.2.2.2
def ww_l3 {α : Type} (t : List (Nat × Nat × α)) (o i : Nat) : Option α := (t.find? (fun e => e.1 == o && e.2.1 == i)).map (fun e => e.2.2)
def ww_cl : List vw_C := [(RX3, TX3, 5), (RX1, TX1, 7), (RX2, TX2, 3), (RX0, TX0, 10), (RX4, TX4, 29)]
def ww_ct : List (Nat → FieldType) := [tyX3, tyX1, tyX2, tyX0, tyX4]
/-- field k of class ci: its type as a number (0 int, 1 long, 2 a reference) -/
def ww_ft (ci k : Nat) : Nat := match (ww_ct.getD ci (fun _ => .int)) k with
  | .int => 0
  | .long => 1
  | _ => 2
def ww_fn (ci k : Nat) : Bool := ((ww_cl.getD ci ("", fun _ => ("", "", "", false), 0)).2.1 k).2.2.2
def ww_keep : Instr → Bool
  | .iadd | .isub | .imul | .idiv | .iand | .ior | .ixor | .ishl | .ishr | .iushr => true
  | .ladd | .lsub | .lmul | .ldiv | .land | .lor | .lshl | .lshr | .lushr | .i2l | .lcmp | .dup | .dup2 => true
  | .iaload | .laload | .baload | .aaload | .iastore | .lastore | .bastore | .aastore | .arraylength => true
  | _ => false
/-- an instruction with its constant pool's places resolved; what it is spelt by: getfield .invokeinterface class field, putfield .multianewarray class (field + 100 * type), a jump's target instead of its offset, throw new E .checkcast E, super() of Object .pop, a long constant .jsr_w, a boolean's ireturn .freturn -/
def ww_rs (M pc : Nat) (b : ByteArray) : Instr → Nat → Option (Instr × Nat)
  | .aload i, n => some (.aload i, n)
  | .aload_n i, n => some (.aload i, n)
  | .iload i, n => some (.iload i, n)
  | .iload_n i, n => some (.iload i, n)
  | .lload i, n => some (.lload i, n)
  | .lload_n i, n => some (.lload i, n)
  | .astore i, n => some (.astore i, n)
  | .astore_n i, n => some (.astore i, n)
  | .istore i, n => some (.istore i, n)
  | .istore_n i, n => some (.istore i, n)
  | .lstore i, n => some (.lstore i, n)
  | .lstore_n i, n => some (.lstore i, n)
  | .iinc i v, n => some (.iinc i v, n)
  | .iconst v, n => some (.iconst v, n)
  | .bipush v, n => if (Int8.ofInt v).toInt32 = Int32.ofInt v then some (.iconst v, n) else none
  | .sipush v, n => if (Int16.ofInt v).toInt32 = Int32.ofInt v then some (.iconst v, n) else none
  | .ldc i, n => (ww_l3 ww_iT (ww_ow M) i).map (fun v => (.iconst v, n))
  | .ldc_w i, n => (ww_l3 ww_iT (ww_ow M) i).map (fun v => (.iconst v, n))
  | .lconst i, n => some (.jsr_w i, n)
  | .ldc2_w i, n => (ww_l3 ww_lT (ww_ow M) i).map (fun v => (.jsr_w v, n))
  | .getfield i, n => (ww_l3 ww_fT (ww_ow M) i).map (fun e => (.invokeinterface e.1 e.2, n))
  | .putfield i, n => (ww_l3 ww_fT (ww_ow M) i).bind (fun e => if ww_fn e.1 e.2 = false ∨ (ww_kd M = 2 ∧ e.1 = ww_ow M) then some (.multianewarray e.1 (e.2 + 100 * ww_ft e.1 e.2), n) else none)
  | .invokestatic i, n => (ww_l3 ww_cT (ww_ow M) i).bind (fun t => if ww_kd t = 0 ∧ ww_lv t < ww_lv M then some (.invokestatic t, n) else none)
  | .invokevirtual i, n => (ww_l3 ww_cT (ww_ow M) i).bind (fun t => if ww_kd t = 1 ∧ ww_lv t < ww_lv M then some (.invokevirtual t, n) else none)
  | .invokespecial i, n => if (ww_ow M, i) ∈ ww_oT then some (.pop, n) else (ww_l3 ww_cT (ww_ow M) i).bind (fun t => if ww_kd t = 2 ∧ ww_lv t < ww_lv M then some (.invokespecial t, n) else none)
  | .new i, n => match ww_l3 ww_nT (ww_ow M) i with
    | some c => some (.new c, n)
    | none => (ww_l3 ww_eT (ww_ow M) i).bind (fun e => match decode b (pc + 3), decode b (pc + 4), decode b (pc + 7) with
      | .ok (.dup, 1), .ok (.invokespecial ic, 3), .ok (.athrow, 1) => if ww_l3 ww_xT (ww_ow M) ic = some e ∧ 1 ≤ ww_lv M then some (.checkcast e, n) else none
      | _, _, _ => none)
  | .newarray t, n => some (.newarray t, n)
  | .anewarray i, n => if ww_l3 ww_nT (ww_ow M) i = some 3 then some (.anewarray 3, n) else none
  | .goto o, n => if 0 ≤ (pc : Int) + o then some (.goto ((pc : Int) + o), n) else none
  | .ifCond c o, n => if 0 ≤ (pc : Int) + o then some (.ifCond c ((pc : Int) + o), n) else none
  | .if_icmp c o, n => if 0 ≤ (pc : Int) + o then some (.if_icmp c ((pc : Int) + o), n) else none
  | .tableswitch d lo hi os, n => if 0 ≤ (pc : Int) + d ∧ (os.toList.all (fun o => decide (0 ≤ (pc : Int) + o))) = true ∧ os.size = (hi - lo + 1).toNat then some (.tableswitch ((pc : Int) + d) lo hi (os.map (fun o => (pc : Int) + o)), n) else none
  | .ireturn, n => if ww_rt M = some .int then some (.ireturn, n) else if ww_rt M = some .boolean then some (.freturn, n) else none
  | .lreturn, n => if ww_rt M = some .long then some (.lreturn, n) else none
  | .areturn, n => if ww_rt M = some (.object "WaterWorks$Customer") then some (.areturn, n) else none
  | .return_, n => if ww_rt M = none then some (.return_, n) else none
  | i, n => if ww_keep i = true then some (i, n) else none
def ww_ln : Instr → Nat
  | .aload _ | .iload _ | .lload _ | .astore _ | .istore _ | .lstore _ | .bipush _ | .ldc _ | .newarray _ => 2
  | .iinc _ _ | .sipush _ | .ldc_w _ | .ldc2_w _ | .getfield _ | .putfield _ | .invokestatic _ | .invokevirtual _ | .invokespecial _ | .new _ | .anewarray _ | .goto _ | .ifCond _ _ | .if_icmp _ _ => 3
  | _ => 1
def ww_isT : Instr → Bool
  | .tableswitch _ _ _ _ => true
  | _ => false
def ww_acd (M pc : Nat) : Option (Instr × Nat) := match decode (ww_b M) pc with
  | .ok (i, n) => if n = ww_ln i ∨ ww_isT i = true then ww_rs M pc (ww_b M) i n else none
  | _ => none
def ww_k1 : Value → Value
  | .long _ => ww_U
  | .double _ => ww_U
  | v => v
def ww_s1 (L : List Value) (i : Nat) (v : Value) : List Value := (if i = 0 then L else L.modify (i - 1) ww_k1).set i v
def ww_s2 (L : List Value) (i : Nat) (v : Value) : List Value := (ww_s1 L i v).set (i + 1) ww_U
def ww_gf (h : List ww_E) (a ci k : Nat) : Option Value := match h[a]? with
  | some (.inr (c, fs)) => if c = ci then fs[k]? else none
  | _ => none
def ww_pf (h : List ww_E) (a ci k : Nat) (v : Value) : Option (List ww_E) := match h[a]? with
  | some (.inr (c, fs)) => if c = ci ∧ k < fs.length then some (h.set a (.inr (c, fs.set k v))) else none
  | _ => none
def ww_tv (t : Nat) : Value → Bool
  | .int _ => t == 0
  | .long _ => t == 1
  | .ref _ => t == 2
  | _ => false
abbrev ww_O : Type := Option (Nat × List Value × List Value × List ww_E × Nat × Nat)
def ww_df : Nat → FieldType → Value
  | _, .int => .int 0
  | _, .long => .long 0
  | _, _ => .null
def ww_z (ci : Nat) : List Value := ((List.range ((ww_cl.getD ci ("", fun _ => ("", "", "", false), 0)).2.2)).map (fun k => ww_df k ((ww_ct.getD ci (fun _ => .int)) k)))
/-- one instruction, but calls, returns and throws -/
def ww_st (S : ww_S) (M len pc : Nat) (L st : List Value) (h : List ww_E) (k n : Nat) : Instr → ww_O
  | .aload i => match L[i]? with
    | some (.ref a) => some (pc + len, L, .ref a :: st, h, k, n)
    | some (.retAddr 1) => if S.isSome = true then some (pc + len, L, .retAddr 1 :: st, h, k, n) else none
    | _ => none
  | .iload i => match L[i]? with
    | some (.int x) => some (pc + len, L, .int x :: st, h, k, n)
    | _ => none
  | .lload i => match L[i]? with
    | some (.long x) => some (pc + len, L, .long x :: st, h, k, n)
    | _ => none
  | .astore i => match st with
    | .ref a :: r => if i < L.length then some (pc + len, ww_s1 L i (.ref a), r, h, k, n) else none
    | _ => none
  | .istore i => match st with
    | .int x :: r => if i < L.length then some (pc + len, ww_s1 L i (.int x), r, h, k, n) else none
    | _ => none
  | .lstore i => match st with
    | .long x :: r => if i + 1 < L.length then some (pc + len, ww_s2 L i (.long x), r, h, k, n) else none
    | _ => none
  | .iinc i v => match L[i]? with
    | some (.int x) => some (pc + len, ww_s1 L i (.int (x + Int32.ofInt v)), st, h, k, n)
    | _ => none
  | .iconst v => some (pc + len, L, .int (Int32.ofInt v) :: st, h, k, n)
  | .jsr_w v => some (pc + len, L, .long (Int64.ofInt v) :: st, h, k, n)
  | .iadd => match st with
    | .int y :: .int x :: r => some (pc + len, L, .int (x + y) :: r, h, k, n)
    | _ => none
  | .isub => match st with
    | .int y :: .int x :: r => some (pc + len, L, .int (x - y) :: r, h, k, n)
    | _ => none
  | .imul => match st with
    | .int y :: .int x :: r => some (pc + len, L, .int (x * y) :: r, h, k, n)
    | _ => none
  | .idiv => match st with
    | .int y :: .int x :: r => if y = 0 then none else some (pc + len, L, .int (x / y) :: r, h, k, n)
    | _ => none
  | .iand => match st with
    | .int y :: .int x :: r => some (pc + len, L, .int (x &&& y) :: r, h, k, n)
    | _ => none
  | .ior => match st with
    | .int y :: .int x :: r => some (pc + len, L, .int (x ||| y) :: r, h, k, n)
    | _ => none
  | .ixor => match st with
    | .int y :: .int x :: r => some (pc + len, L, .int (x ^^^ y) :: r, h, k, n)
    | _ => none
  | .ishl => match st with
    | .int y :: .int x :: r => some (pc + len, L, .int (x <<< (y &&& 31)) :: r, h, k, n)
    | _ => none
  | .ishr => match st with
    | .int y :: .int x :: r => some (pc + len, L, .int (x >>> (y &&& 31)) :: r, h, k, n)
    | _ => none
  | .iushr => match st with
    | .int y :: .int x :: r => some (pc + len, L, .int (x.toUInt32 >>> (y.toUInt32 &&& Int32.toUInt32 31)).toInt32 :: r, h, k, n)
    | _ => none
  | .ladd => match st with
    | .long y :: .long x :: r => some (pc + len, L, .long (x + y) :: r, h, k, n)
    | _ => none
  | .lsub => match st with
    | .long y :: .long x :: r => some (pc + len, L, .long (x - y) :: r, h, k, n)
    | _ => none
  | .lmul => match st with
    | .long y :: .long x :: r => some (pc + len, L, .long (x * y) :: r, h, k, n)
    | _ => none
  | .ldiv => match st with
    | .long y :: .long x :: r => if y = 0 then none else some (pc + len, L, .long (x / y) :: r, h, k, n)
    | _ => none
  | .land => match st with
    | .long y :: .long x :: r => some (pc + len, L, .long (x &&& y) :: r, h, k, n)
    | _ => none
  | .lor => match st with
    | .long y :: .long x :: r => some (pc + len, L, .long (x ||| y) :: r, h, k, n)
    | _ => none
  | .lshl => match st with
    | .int y :: .long x :: r => some (pc + len, L, .long (x <<< (y.toInt64 &&& 63)) :: r, h, k, n)
    | _ => none
  | .lshr => match st with
    | .int y :: .long x :: r => some (pc + len, L, .long (x >>> (y.toInt64 &&& 63)) :: r, h, k, n)
    | _ => none
  | .lushr => match st with
    | .int y :: .long x :: r => some (pc + len, L, .long (x.toUInt64 >>> (y.toInt64.toUInt64 &&& Int64.toUInt64 63)).toInt64 :: r, h, k, n)
    | _ => none
  | .i2l => match st with
    | .int x :: r => some (pc + len, L, .long x.toInt64 :: r, h, k, n)
    | _ => none
  | .lcmp => match st with
    | .long y :: .long x :: r => some (pc + len, L, .int (lg_cmp x y) :: r, h, k, n)
    | _ => none
  | .dup => match st with
    | .int x :: r => some (pc + len, L, .int x :: .int x :: r, h, k, n)
    | .ref x :: r => some (pc + len, L, .ref x :: .ref x :: r, h, k, n)
    | _ => none
  | .dup2 => match st with
    | .int x :: .ref y :: r => some (pc + len, L, .int x :: .ref y :: .int x :: .ref y :: r, h, k, n)
    | _ => none
  | .pop => match st with
    | .ref _ :: r => if (r.map (fun v => v.category)).sum ≤ 8 then some (pc + len, L, r, h, k, n) else none
    | _ => none
  | .invokeinterface ci q => match st with
    | .ref a :: r => match ww_gf h a ci q with
      | some v => some (pc + len, L, v :: r, h, k, n)
      | none => none
    | _ => none
  | .multianewarray ci x => match st with
    | v :: .ref a :: r => if ww_tv (x / 100) v = true then (match ww_pf h a ci (x % 100) v with
      | some h' => some (pc + len, L, r, h', k, n)
      | none => none) else none
    | _ => none
  | .iaload => match st with
    | .int i :: .ref a :: r => match h[a]? with
      | some (.inl (0, N, .inl f)) => if i < 0 ∨ N ≤ i.toNatClampNeg then none else some (pc + len, L, .int (f i.toNatClampNeg) :: r, h, k, n)
      | _ => none
    | .int i :: .retAddr 1 :: r => match S with
      | some (N, f) => if i < 0 ∨ N ≤ i.toNatClampNeg then none else some (pc + len, L, .int (f i.toNatClampNeg) :: r, h, k, n)
      | none => none
    | _ => none
  | .laload => match st with
    | .int i :: .ref a :: r => match h[a]? with
      | some (.inl (1, N, .inr (.inl f))) => if i < 0 ∨ N ≤ i.toNatClampNeg then none else some (pc + len, L, .long (f i.toNatClampNeg) :: r, h, k, n)
      | _ => none
    | _ => none
  | .baload => match st with
    | .int i :: .ref a :: r => match h[a]? with
      | some (.inl (2, N, .inl f)) => if i < 0 ∨ N ≤ i.toNatClampNeg then none else some (pc + len, L, .int (f i.toNatClampNeg) :: r, h, k, n)
      | _ => none
    | _ => none
  | .aaload => match st with
    | .int i :: .ref a :: r => match h[a]? with
      | some (.inl (3, N, .inr (.inr (.inr (.inr f))))) => if i < 0 ∨ N ≤ i.toNatClampNeg then none else (match f i.toNatClampNeg with
        | some c => some (pc + len, L, .ref c :: r, h, k, n)
        | none => none)
      | _ => none
    | _ => none
  | .iastore => match st with
    | .int x :: .int i :: .ref a :: r => match h[a]? with
      | some (.inl (0, N, .inl f)) => if i < 0 ∨ N ≤ i.toNatClampNeg then none else some (pc + len, L, r, h.set a (.inl (0, N, .inl (upd f i.toNatClampNeg x))), k, n)
      | _ => none
    | _ => none
  | .lastore => match st with
    | .long x :: .int i :: .ref a :: r => match h[a]? with
      | some (.inl (1, N, .inr (.inl f))) => if i < 0 ∨ N ≤ i.toNatClampNeg then none else some (pc + len, L, r, h.set a (.inl (1, N, .inr (.inl (vp_updL f i.toNatClampNeg x)))), k, n)
      | _ => none
    | _ => none
  | .bastore => match st with
    | .int x :: .int i :: .ref a :: r => match h[a]? with
      | some (.inl (2, N, .inl f)) => if i < 0 ∨ N ≤ i.toNatClampNeg then none else some (pc + len, L, r, h.set a (.inl (2, N, .inl (upd f i.toNatClampNeg (vp_nar .boolean x)))), k, n)
      | _ => none
    | _ => none
  | .aastore => match st with
    | .ref c :: .int i :: .ref a :: r => match h[a]?, h[c]? with
      | some (.inl (3, N, .inr (.inr (.inr (.inr f))))), some (.inr (3, _)) => if i < 0 ∨ N ≤ i.toNatClampNeg then none else some (pc + len, L, r, h.set a (.inl (3, N, .inr (.inr (.inr (.inr (va_up f i.toNatClampNeg (some c))))))), k, n)
      | _, _ => none
    | _ => none
  | .arraylength => match st with
    | .retAddr 1 :: r => match S with
      | some (N, _) => some (pc + len, L, .int (Int32.ofNat N) :: r, h, k, n)
      | none => none
    | _ => none
  | .new ci => if k + 1 ≤ ww_mc M ∧ n + (ww_z ci).length ≤ ww_ms M ∧ ci < 5 then some (pc + len, L, .ref h.length :: st, h ++ [.inr (ci, ww_z ci)], k + 1, n + (ww_z ci).length) else none
  | .newarray t => match st with
    | .int x :: r => if x < 0 ∨ 1000 < x.toNatClampNeg ∨ ww_mc M < k + 1 ∨ ww_ms M < n + x.toNatClampNeg then none else (match t with
      | .int => some (pc + len, L, .ref h.length :: r, h ++ [.inl (0, x.toNatClampNeg, .inl (fun _ => 0))], k + 1, n + x.toNatClampNeg)
      | .long => some (pc + len, L, .ref h.length :: r, h ++ [.inl (1, x.toNatClampNeg, .inr (.inl (fun _ => 0)))], k + 1, n + x.toNatClampNeg)
      | .boolean => some (pc + len, L, .ref h.length :: r, h ++ [.inl (2, x.toNatClampNeg, .inl (fun _ => 0))], k + 1, n + x.toNatClampNeg)
      | _ => none)
    | _ => none
  | .anewarray 3 => match st with
    | .int x :: r => if x < 0 ∨ 1000 < x.toNatClampNeg ∨ ww_mc M < k + 1 ∨ ww_ms M < n + x.toNatClampNeg then none else some (pc + len, L, .ref h.length :: r, h ++ [.inl (3, x.toNatClampNeg, .inr (.inr (.inr (.inr (fun _ => none)))))], k + 1, n + x.toNatClampNeg)
    | _ => none
  | .goto t => some (t.toNat, L, st, h, k, n)
  | .ifCond .eq t => match st with
    | .int x :: r => some (if x = 0 then t.toNat else pc + len, L, r, h, k, n)
    | _ => none
  | .ifCond .ne t => match st with
    | .int x :: r => some (if ¬ x = 0 then t.toNat else pc + len, L, r, h, k, n)
    | _ => none
  | .ifCond .lt t => match st with
    | .int x :: r => some (if x < 0 then t.toNat else pc + len, L, r, h, k, n)
    | _ => none
  | .ifCond .ge t => match st with
    | .int x :: r => some (if 0 ≤ x then t.toNat else pc + len, L, r, h, k, n)
    | _ => none
  | .ifCond .gt t => match st with
    | .int x :: r => some (if 0 < x then t.toNat else pc + len, L, r, h, k, n)
    | _ => none
  | .ifCond .le t => match st with
    | .int x :: r => some (if x ≤ 0 then t.toNat else pc + len, L, r, h, k, n)
    | _ => none
  | .if_icmp .eq t => match st with
    | .int y :: .int x :: r => some (if x = y then t.toNat else pc + len, L, r, h, k, n)
    | _ => none
  | .if_icmp .ne t => match st with
    | .int y :: .int x :: r => some (if ¬ x = y then t.toNat else pc + len, L, r, h, k, n)
    | _ => none
  | .if_icmp .lt t => match st with
    | .int y :: .int x :: r => some (if x < y then t.toNat else pc + len, L, r, h, k, n)
    | _ => none
  | .if_icmp .ge t => match st with
    | .int y :: .int x :: r => some (if y ≤ x then t.toNat else pc + len, L, r, h, k, n)
    | _ => none
  | .if_icmp .gt t => match st with
    | .int y :: .int x :: r => some (if y < x then t.toNat else pc + len, L, r, h, k, n)
    | _ => none
  | .if_icmp .le t => match st with
    | .int y :: .int x :: r => some (if x ≤ y then t.toNat else pc + len, L, r, h, k, n)
    | _ => none
  | .tableswitch d lo hi os => match st with
    | .int x :: r => some (if x.toInt < lo ∨ hi < x.toInt then d.toNat else (os.getD (x.toInt - lo).toNat 0).toNat, L, r, h, k, n)
    | _ => none
  | _ => none
/-- what a handler answers: its code is 'astore; iconst; ireturn' -/
def ww_hd (M pc e : Nat) : Option Int := match (ww_hh M).find? (fun z => ww_l3 ww_eT (ww_ow M) z.2.2.2 == some e) with
  | some (a, t, hp, _) => if a ≤ pc ∧ pc < t ∧ ww_rt M = some .int then (match decode (ww_b M) hp with
    | .ok (.astore_n i, 1) => if i.val < ww_mL M then (match decode (ww_b M) (hp + 1), decode (ww_b M) (hp + 2) with
      | .ok (.iconst v, 1), .ok (.ireturn, 1) => some v
      | _, _ => none) else none
    | .ok (.astore i, 2) => if i < ww_mL M then (match decode (ww_b M) (hp + 2), decode (ww_b M) (hp + 3) with
      | .ok (.iconst v, 1), .ok (.ireturn, 1) => some v
      | _, _ => none) else none
    | _ => none) else none
  | none => none
def ww_thr (M pc e : Nat) (h : List ww_E) : Option ww_R := if (ww_hh M).isEmpty = true ∧ M < 127 then some (.inr e, h) else match ww_hd M pc e with
  | some v => some (.inl (some (.int (Int32.ofInt v))), h)
  | none => none
def ww_en (nL : Nat) (vs : List Value) : List Value := (vs.flatMap (fun v => if v.category = 2 then [v, ww_U] else [v])) ++ List.replicate (nL - (vs.flatMap (fun v => if v.category = 2 then [v, ww_U] else [v])).length) ww_U
def ww_rcv (h : List ww_E) (t : Nat) : List Value → Bool
  | .ref a :: _ => match h[a]? with
    | some (.inr (c, _)) => c == ww_ow t
    | _ => false
  | _ => false
abbrev ww_Rc : Type := ww_S → Nat → Nat → List Value → List Value → List ww_E → Nat → Nat → Option ww_R
/-- a call of method t -/
def ww_call (rec : ww_Rc) (S : ww_S) (t : Nat) (vr : Bool) (M len pc : Nat) (L st : List Value) (h : List ww_E) (k n : Nat) : Option ww_R :=
  if (ww_na t ≤ st.length ∧ (ww_en (ww_mL t) (st.take (ww_na t)).reverse).length = ww_mL t ∧ (((st.drop (ww_na t)).map (fun v => v.category)).sum ≤ 8) ∧ ((ww_mc t = 0 ∧ ww_ms t = 0) ∨ (k + ww_mc t ≤ ww_mc M ∧ n + ww_ms t ≤ ww_ms M)) ∧ (vr = true → ww_rcv h t (st.take (ww_na t)).reverse = true)) then
    match rec none t 0 (ww_en (ww_mL t) (st.take (ww_na t)).reverse) [] h 0 0 with
    | some (.inl v, h1) => rec S M (pc + len) L (v.toList ++ st.drop (ww_na t)) h1 (k + ww_mc t) (n + ww_ms t)
    | some (.inr e, h1) => ww_thr M pc e h1
    | none => none
  else none
def ww_x (rec : ww_Rc) (S : ww_S) (oi : Option (Instr × Nat)) (M pc : Nat) (L st : List Value) (h : List ww_E) (k n : Nat) : Option ww_R := match oi with
  | none => none
  | some (i, len) => match i with
    | .ireturn => match st with
      | [.int v] => some (.inl (some (.int v)), h)
      | _ => none
    | .freturn => match st with
      | [.int v] => if v = 0 ∨ v = 1 then some (.inl (some (.int v)), h) else none
      | _ => none
    | .lreturn => match st with
      | [.long v] => some (.inl (some (.long v)), h)
      | _ => none
    | .areturn => match st with
      | [.ref v] => some (.inl (some (.ref v)), h)
      | _ => none
    | .return_ => match st with
      | [] => some (.inl none, h)
      | _ => none
    | .checkcast e => if k + 1 ≤ ww_mc M ∧ n + 6 ≤ ww_ms M ∧ st = [] ∧ (ww_hh M).isEmpty = true ∧ M < 127 then some (.inr e, h) else none
    | .invokestatic t => ww_call rec S t false M len pc L st h k n
    | .invokevirtual t => ww_call rec S t true M len pc L st h k n
    | .invokespecial t => ww_call rec S t true M len pc L st h k n
    | j => match ww_st S M len pc L st h k n j with
      | some (pc', L', st', h', k', n') => rec S M pc' L' st' h' k' n'
      | none => none
def ww_run : Nat → ww_Rc
  | 0 => fun _ _ _ _ _ _ _ _ => none
  | f + 1 => fun S M pc L st h k n => ww_x (ww_run f) S (ww_acd M pc) M pc L st h k n
