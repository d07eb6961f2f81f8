/-! the abstract machine by equations (printed by wip/whole/wp.py) -/
theorem ww_x_mono {rec rec' : ww_Rc} (hm : ∀ S M pc L st h k n r, rec S M pc L st h k n = some r → rec' S M pc L st h k n = some r) {S : ww_S} {oi : Option (Instr × Nat)} {M pc k n : Nat} {L st : List Value} {h : List ww_E} {r : ww_R} (e : ww_x rec S oi M pc L st h k n = some r) : ww_x rec' S oi M pc L st h k n = some r := by
  have hcall : ∀ (t : Nat) (vr : Bool) (len : Nat), ww_call rec S t vr M len pc L st h k n = some r → ww_call rec' S t vr M len pc L st h k n = some r := by
    intro t vr len hc
    unfold ww_call at hc ⊢
    split at hc
    · rename_i hcond
      rw [if_pos hcond]
      split at hc
      · rename_i v h1 hc1
        rw [hm _ _ _ _ _ _ _ _ _ hc1]
        exact hm _ _ _ _ _ _ _ _ _ hc
      · rename_i e9 h1 hc1
        rw [hm _ _ _ _ _ _ _ _ _ hc1]
        exact hc
      · cases hc
    · cases hc
  unfold ww_x at e ⊢
  split at e
  · cases e
  · split at e
    · exact e
    · exact e
    · exact e
    · exact e
    · exact e
    · exact e
    · exact hcall _ _ _ e
    · exact hcall _ _ _ e
    · exact hcall _ _ _ e
    · split at e
      · exact hm _ _ _ _ _ _ _ _ _ e
      · cases e
theorem ww_run_mono : ∀ f S M pc L st h k n r, ww_run f S M pc L st h k n = some r → ww_run (f + 1) S M pc L st h k n = some r := by
  intro f
  induction f with
  | zero => intro S M pc L st h k n r e; cases e
  | succ f ih => intro S M pc L st h k n r e; exact ww_x_mono ih e
theorem ww_run_le {f f' : Nat} (hf : f ≤ f') {S : ww_S} {M pc k n : Nat} {L st : List Value} {h : List ww_E} {r : ww_R} (e : ww_run f S M pc L st h k n = some r) : ww_run f' S M pc L st h k n = some r := by
  induction hf with
  | refl => exact e
  | step _ ih => exact ww_run_mono _ _ _ _ _ _ _ _ _ _ ih
/-- from here the run ends, with a result of Q -/
def ww_W (S : ww_S) (M pc : Nat) (L st : List Value) (h : List ww_E) (k n : Nat) (Q : ww_R → Prop) : Prop := ∃ f r, ww_run f S M pc L st h k n = some r ∧ Q r
def ww_X (oi : Option (Instr × Nat)) (S : ww_S) (M pc : Nat) (L st : List Value) (h : List ww_E) (k n : Nat) (Q : ww_R → Prop) : Prop := ∃ f r, ww_x (ww_run f) S oi M pc L st h k n = some r ∧ Q r
def ww_V (t : Nat) (As : List Value) (h : List ww_E) (Q : ww_R → Prop) : Prop := ww_W none t 0 (ww_en (ww_mL t) As) [] h 0 0 Q
theorem ww_W_eq {S : ww_S} {M pc k n : Nat} {L st : List Value} {h : List ww_E} {Q : ww_R → Prop} : ww_W S M pc L st h k n Q = ww_X (ww_acd M pc) S M pc L st h k n Q := by
  apply propext
  constructor
  · rintro ⟨f, r, hr, hq⟩
    cases f with
    | zero => cases hr
    | succ f => exact ⟨f, r, hr, hq⟩
  · rintro ⟨f, r, hr, hq⟩
    exact ⟨f + 1, r, hr, hq⟩
theorem ww_at {M pc : Nat} {oi : Instr × Nat} (ha : ww_acd M pc = some oi) {S : ww_S} {k n : Nat} {L st : List Value} {h : List ww_E} {Q : ww_R → Prop} : ww_W S M pc L st h k n Q = ww_X (some oi) S M pc L st h k n Q := by
  rw [ww_W_eq, ha]
/-- something, or nothing holds -/
def ww_ob {α : Type} (o : Option α) (K : α → Prop) : Prop := match o with
  | some v => K v
  | none => False
theorem ww_ob_some {α : Type} (v : α) (K : α → Prop) : ww_ob (some v) K = K v := rfl
theorem ww_ob_none {α : Type} (K : α → Prop) : ww_ob none K = False := rfl
theorem ww_ob_ite {α : Type} {c : Prop} [Decidable c] (a b : Option α) (K : α → Prop) : ww_ob (if c then a else b) K = if c then ww_ob a K else ww_ob b K := by split <;> rfl
def ww_kc (S : ww_S) (M pc len : Nat) (L r : List Value) (k n : Nat) (Q : ww_R → Prop) : ww_R → Prop := fun r1 => match r1 with
  | (.inl v, h1) => ww_W S M (pc + len) L (v.toList ++ r) h1 k n Q
  | (.inr e, h1) => ww_ob (ww_thr M pc e h1) Q
theorem ww_kc_some {S : ww_S} {M pc len k n : Nat} {L r : List Value} {Q : ww_R → Prop} (v : Value) (h1 : List ww_E) : ww_kc S M pc len L r k n Q (.inl (some v), h1) = ww_W S M (pc + len) L (v :: r) h1 k n Q := rfl
theorem ww_kc_none {S : ww_S} {M pc len k n : Nat} {L r : List Value} {Q : ww_R → Prop} (h1 : List ww_E) : ww_kc S M pc len L r k n Q (.inl none, h1) = ww_W S M (pc + len) L r h1 k n Q := rfl
theorem ww_kc_thr {S : ww_S} {M pc len k n : Nat} {L r : List Value} {Q : ww_R → Prop} (e : Nat) (h1 : List ww_E) : ww_kc S M pc len L r k n Q (.inr e, h1) = ww_ob (ww_thr M pc e h1) Q := rfl
def ww_rc (h : List ww_E) (a c : Nat) : Prop := match h[a]? with
  | some (.inr (c', _)) => c' = c
  | _ => False
theorem wx_iadd {S : ww_S} {M len pc k n : Nat} {L r : List Value} {h : List ww_E} {Q : ww_R → Prop} {x y : Int32} : (ww_X (some (.iadd, len)) S M pc L (.int y :: .int x :: r) h k n Q) = (ww_W S M (pc + len) (L) (.int (x + y) :: r) (h) (k) (n) Q) := rfl
theorem wx_isub {S : ww_S} {M len pc k n : Nat} {L r : List Value} {h : List ww_E} {Q : ww_R → Prop} {x y : Int32} : (ww_X (some (.isub, len)) S M pc L (.int y :: .int x :: r) h k n Q) = (ww_W S M (pc + len) (L) (.int (x - y) :: r) (h) (k) (n) Q) := rfl
theorem wx_imul {S : ww_S} {M len pc k n : Nat} {L r : List Value} {h : List ww_E} {Q : ww_R → Prop} {x y : Int32} : (ww_X (some (.imul, len)) S M pc L (.int y :: .int x :: r) h k n Q) = (ww_W S M (pc + len) (L) (.int (x * y) :: r) (h) (k) (n) Q) := rfl
theorem wx_iand {S : ww_S} {M len pc k n : Nat} {L r : List Value} {h : List ww_E} {Q : ww_R → Prop} {x y : Int32} : (ww_X (some (.iand, len)) S M pc L (.int y :: .int x :: r) h k n Q) = (ww_W S M (pc + len) (L) (.int (x &&& y) :: r) (h) (k) (n) Q) := rfl
theorem wx_ior {S : ww_S} {M len pc k n : Nat} {L r : List Value} {h : List ww_E} {Q : ww_R → Prop} {x y : Int32} : (ww_X (some (.ior, len)) S M pc L (.int y :: .int x :: r) h k n Q) = (ww_W S M (pc + len) (L) (.int (x ||| y) :: r) (h) (k) (n) Q) := rfl
theorem wx_ixor {S : ww_S} {M len pc k n : Nat} {L r : List Value} {h : List ww_E} {Q : ww_R → Prop} {x y : Int32} : (ww_X (some (.ixor, len)) S M pc L (.int y :: .int x :: r) h k n Q) = (ww_W S M (pc + len) (L) (.int (x ^^^ y) :: r) (h) (k) (n) Q) := rfl
theorem wx_ishl {S : ww_S} {M len pc k n : Nat} {L r : List Value} {h : List ww_E} {Q : ww_R → Prop} {x y : Int32} : (ww_X (some (.ishl, len)) S M pc L (.int y :: .int x :: r) h k n Q) = (ww_W S M (pc + len) (L) (.int (x <<< (y &&& 31)) :: r) (h) (k) (n) Q) := rfl
theorem wx_ishr {S : ww_S} {M len pc k n : Nat} {L r : List Value} {h : List ww_E} {Q : ww_R → Prop} {x y : Int32} : (ww_X (some (.ishr, len)) S M pc L (.int y :: .int x :: r) h k n Q) = (ww_W S M (pc + len) (L) (.int (x >>> (y &&& 31)) :: r) (h) (k) (n) Q) := rfl
theorem wx_iushr {S : ww_S} {M len pc k n : Nat} {L r : List Value} {h : List ww_E} {Q : ww_R → Prop} {x y : Int32} : (ww_X (some (.iushr, len)) S M pc L (.int y :: .int x :: r) h k n Q) = (ww_W S M (pc + len) (L) (.int ((x.toUInt32 >>> (y.toUInt32 &&& Int32.toUInt32 31)).toInt32) :: r) (h) (k) (n) Q) := rfl
theorem wx_ladd {S : ww_S} {M len pc k n : Nat} {L r : List Value} {h : List ww_E} {Q : ww_R → Prop} {x y : Int64} : (ww_X (some (.ladd, len)) S M pc L (.long y :: .long x :: r) h k n Q) = (ww_W S M (pc + len) (L) (.long (x + y) :: r) (h) (k) (n) Q) := rfl
theorem wx_lsub {S : ww_S} {M len pc k n : Nat} {L r : List Value} {h : List ww_E} {Q : ww_R → Prop} {x y : Int64} : (ww_X (some (.lsub, len)) S M pc L (.long y :: .long x :: r) h k n Q) = (ww_W S M (pc + len) (L) (.long (x - y) :: r) (h) (k) (n) Q) := rfl
theorem wx_lmul {S : ww_S} {M len pc k n : Nat} {L r : List Value} {h : List ww_E} {Q : ww_R → Prop} {x y : Int64} : (ww_X (some (.lmul, len)) S M pc L (.long y :: .long x :: r) h k n Q) = (ww_W S M (pc + len) (L) (.long (x * y) :: r) (h) (k) (n) Q) := rfl
theorem wx_land {S : ww_S} {M len pc k n : Nat} {L r : List Value} {h : List ww_E} {Q : ww_R → Prop} {x y : Int64} : (ww_X (some (.land, len)) S M pc L (.long y :: .long x :: r) h k n Q) = (ww_W S M (pc + len) (L) (.long (x &&& y) :: r) (h) (k) (n) Q) := rfl
theorem wx_lor {S : ww_S} {M len pc k n : Nat} {L r : List Value} {h : List ww_E} {Q : ww_R → Prop} {x y : Int64} : (ww_X (some (.lor, len)) S M pc L (.long y :: .long x :: r) h k n Q) = (ww_W S M (pc + len) (L) (.long (x ||| y) :: r) (h) (k) (n) Q) := rfl
theorem wx_lshl {S : ww_S} {M len pc k n : Nat} {L r : List Value} {h : List ww_E} {Q : ww_R → Prop} {x : Int64} {y : Int32} : (ww_X (some (.lshl, len)) S M pc L (.int y :: .long x :: r) h k n Q) = (ww_W S M (pc + len) (L) (.long (x <<< (y.toInt64 &&& 63)) :: r) (h) (k) (n) Q) := rfl
theorem wx_lshr {S : ww_S} {M len pc k n : Nat} {L r : List Value} {h : List ww_E} {Q : ww_R → Prop} {x : Int64} {y : Int32} : (ww_X (some (.lshr, len)) S M pc L (.int y :: .long x :: r) h k n Q) = (ww_W S M (pc + len) (L) (.long (x >>> (y.toInt64 &&& 63)) :: r) (h) (k) (n) Q) := rfl
theorem wx_lushr {S : ww_S} {M len pc k n : Nat} {L r : List Value} {h : List ww_E} {Q : ww_R → Prop} {x : Int64} {y : Int32} : (ww_X (some (.lushr, len)) S M pc L (.int y :: .long x :: r) h k n Q) = (ww_W S M (pc + len) (L) (.long ((x.toUInt64 >>> (y.toInt64.toUInt64 &&& Int64.toUInt64 63)).toInt64) :: r) (h) (k) (n) Q) := rfl
theorem wx_i2l {S : ww_S} {M len pc k n : Nat} {L r : List Value} {h : List ww_E} {Q : ww_R → Prop} {x : Int32} : (ww_X (some (.i2l, len)) S M pc L (.int x :: r) h k n Q) = (ww_W S M (pc + len) (L) (.long x.toInt64 :: r) (h) (k) (n) Q) := rfl
theorem wx_lcmp {S : ww_S} {M len pc k n : Nat} {L r : List Value} {h : List ww_E} {Q : ww_R → Prop} {x y : Int64} : (ww_X (some (.lcmp, len)) S M pc L (.long y :: .long x :: r) h k n Q) = (ww_W S M (pc + len) (L) (.int (lg_cmp x y) :: r) (h) (k) (n) Q) := rfl
theorem wx_dupi {S : ww_S} {M len pc k n : Nat} {L r : List Value} {h : List ww_E} {Q : ww_R → Prop} {x : Int32} : (ww_X (some (.dup, len)) S M pc L (.int x :: r) h k n Q) = (ww_W S M (pc + len) (L) (.int x :: .int x :: r) (h) (k) (n) Q) := rfl
theorem wx_dupr {S : ww_S} {M len pc k n : Nat} {L r : List Value} {h : List ww_E} {Q : ww_R → Prop} {x : Nat} : (ww_X (some (.dup, len)) S M pc L (.ref x :: r) h k n Q) = (ww_W S M (pc + len) (L) (.ref x :: .ref x :: r) (h) (k) (n) Q) := rfl
theorem wx_dup2 {S : ww_S} {M len pc k n : Nat} {L r : List Value} {h : List ww_E} {Q : ww_R → Prop} {x : Int32} {y : Nat} : (ww_X (some (.dup2, len)) S M pc L (.int x :: .ref y :: r) h k n Q) = (ww_W S M (pc + len) (L) (.int x :: .ref y :: .int x :: .ref y :: r) (h) (k) (n) Q) := rfl
theorem wx_iconst {S : ww_S} {M len pc k n : Nat} {L st : List Value} {h : List ww_E} {Q : ww_R → Prop} {v : Int} : (ww_X (some (.iconst v, len)) S M pc L (st) h k n Q) = (ww_W S M (pc + len) (L) (.int (Int32.ofInt v) :: st) (h) (k) (n) Q) := rfl
theorem wx_lconst {S : ww_S} {M len pc k n : Nat} {L st : List Value} {h : List ww_E} {Q : ww_R → Prop} {v : Int} : (ww_X (some (.jsr_w v, len)) S M pc L (st) h k n Q) = (ww_W S M (pc + len) (L) (.long (Int64.ofInt v) :: st) (h) (k) (n) Q) := rfl
theorem wx_goto {S : ww_S} {M len pc k n : Nat} {L st : List Value} {h : List ww_E} {Q : ww_R → Prop} {t : Int} : (ww_X (some (.goto t, len)) S M pc L (st) h k n Q) = (ww_W S M (t.toNat) (L) (st) (h) (k) (n) Q) := rfl
theorem ww_X_st {S : ww_S} {M len pc k n : Nat} {L st : List Value} {h : List ww_E} {Q : ww_R → Prop} {i : Instr} (hi : ∀ f, ww_x (ww_run f) S (some (i, len)) M pc L st h k n = (match ww_st S M len pc L st h k n i with
    | some (pc', L', st', h', k', n') => ww_run f S M pc' L' st' h' k' n'
    | none => none)) : ww_X (some (i, len)) S M pc L st h k n Q = ww_ob (ww_st S M len pc L st h k n i) (fun o => ww_W S M o.1 o.2.1 o.2.2.1 o.2.2.2.1 o.2.2.2.2.1 o.2.2.2.2.2 Q) := by
  unfold ww_X
  simp only [hi]
  cases ww_st S M len pc L st h k n i with
  | none => exact propext ⟨(fun ⟨f, r, h, _⟩ => nomatch h), (fun h => h.elim)⟩
  | some o => rfl
theorem wx_idiv {S : ww_S} {M len pc k n : Nat} {L r : List Value} {h : List ww_E} {Q : ww_R → Prop} {x y : Int32} : (ww_X (some (.idiv, len)) S M pc L (.int y :: .int x :: r) h k n Q) = (if y = 0 then False else ww_W S M (pc + len) (L) (.int (x / y) :: r) (h) (k) (n) Q) := by
  rw [ww_X_st (fun _ => rfl)]
  dsimp only [ww_st]
  rw [ww_ob_ite]
  rfl
theorem wx_ldiv {S : ww_S} {M len pc k n : Nat} {L r : List Value} {h : List ww_E} {Q : ww_R → Prop} {x y : Int64} : (ww_X (some (.ldiv, len)) S M pc L (.long y :: .long x :: r) h k n Q) = (if y = 0 then False else ww_W S M (pc + len) (L) (.long (x / y) :: r) (h) (k) (n) Q) := by
  rw [ww_X_st (fun _ => rfl)]
  dsimp only [ww_st]
  rw [ww_ob_ite]
  rfl
def ww_lr (S : ww_S) : Option Value → Option Value
  | some (.ref a) => some (.ref a)
  | some (.retAddr 1) => if S.isSome = true then some (.retAddr 1) else none
  | _ => none
def ww_li : Option Value → Option Int32
  | some (.int x) => some x
  | _ => none
def ww_lj : Option Value → Option Int64
  | some (.long x) => some x
  | _ => none
theorem wx_aload {S : ww_S} {M len pc k n : Nat} {L st : List Value} {h : List ww_E} {Q : ww_R → Prop} {i : Nat} : (ww_X (some (.aload i, len)) S M pc L (st) h k n Q) = (ww_ob (ww_lr S L[i]?) (fun v => ww_W S M (pc + len) (L) (v :: st) (h) (k) (n) Q)) := by
  rw [ww_X_st (fun _ => rfl)]
  dsimp only [ww_st]
  cases hq : L[i]? with
  | none => rfl
  | some v9 =>
    cases v9 <;> first | rfl | skip
    rename_i x9
    match x9 with
    | 0 => rfl
    | 1 => cases S <;> rfl
    | x + 2 => rfl
theorem wx_iload {S : ww_S} {M len pc k n : Nat} {L st : List Value} {h : List ww_E} {Q : ww_R → Prop} {i : Nat} : (ww_X (some (.iload i, len)) S M pc L (st) h k n Q) = (ww_ob (ww_li L[i]?) (fun v => ww_W S M (pc + len) (L) (.int v :: st) (h) (k) (n) Q)) := by
  rw [ww_X_st (fun _ => rfl)]
  dsimp only [ww_st]
  cases hq : L[i]? with
  | none => rfl
  | some v9 =>
    cases v9 <;> first | rfl | skip

theorem wx_lload {S : ww_S} {M len pc k n : Nat} {L st : List Value} {h : List ww_E} {Q : ww_R → Prop} {i : Nat} : (ww_X (some (.lload i, len)) S M pc L (st) h k n Q) = (ww_ob (ww_lj L[i]?) (fun v => ww_W S M (pc + len) (L) (.long v :: st) (h) (k) (n) Q)) := by
  rw [ww_X_st (fun _ => rfl)]
  dsimp only [ww_st]
  cases hq : L[i]? with
  | none => rfl
  | some v9 =>
    cases v9 <;> first | rfl | skip

theorem wx_iinc {S : ww_S} {M len pc k n : Nat} {L st : List Value} {h : List ww_E} {Q : ww_R → Prop} {i : Nat} {v : Int} : (ww_X (some (.iinc i v, len)) S M pc L (st) h k n Q) = (ww_ob (ww_li L[i]?) (fun x => ww_W S M (pc + len) (ww_s1 L i (.int (x + Int32.ofInt v))) (st) (h) (k) (n) Q)) := by
  rw [ww_X_st (fun _ => rfl)]
  dsimp only [ww_st]
  cases hq : L[i]? with
  | none => rfl
  | some v9 =>
    cases v9 <;> first | rfl | skip

theorem wx_istore {S : ww_S} {M len pc k n : Nat} {L r : List Value} {h : List ww_E} {Q : ww_R → Prop} {i : Nat} {x : Int32} : (ww_X (some (.istore i, len)) S M pc L (.int x :: r) h k n Q) = (if i < L.length then ww_W S M (pc + len) (ww_s1 L i (.int x)) (r) (h) (k) (n) Q else False) := by
  rw [ww_X_st (fun _ => rfl)]
  dsimp only [ww_st]
  rw [ww_ob_ite]
  rfl
theorem wx_astore {S : ww_S} {M len pc k n : Nat} {L r : List Value} {h : List ww_E} {Q : ww_R → Prop} {i : Nat} {x : Nat} : (ww_X (some (.astore i, len)) S M pc L (.ref x :: r) h k n Q) = (if i < L.length then ww_W S M (pc + len) (ww_s1 L i (.ref x)) (r) (h) (k) (n) Q else False) := by
  rw [ww_X_st (fun _ => rfl)]
  dsimp only [ww_st]
  rw [ww_ob_ite]
  rfl
theorem wx_lstore {S : ww_S} {M len pc k n : Nat} {L r : List Value} {h : List ww_E} {Q : ww_R → Prop} {i : Nat} {x : Int64} : (ww_X (some (.lstore i, len)) S M pc L (.long x :: r) h k n Q) = (if i + 1 < L.length then ww_W S M (pc + len) (ww_s2 L i (.long x)) (r) (h) (k) (n) Q else False) := by
  rw [ww_X_st (fun _ => rfl)]
  dsimp only [ww_st]
  rw [ww_ob_ite]
  rfl
theorem wx_pop {S : ww_S} {M len pc k n : Nat} {L r : List Value} {h : List ww_E} {Q : ww_R → Prop} {x : Nat} : (ww_X (some (.pop, len)) S M pc L (.ref x :: r) h k n Q) = (if (r.map (fun v => v.category)).sum ≤ 8 then ww_W S M (pc + len) (L) (r) (h) (k) (n) Q else False) := by
  rw [ww_X_st (fun _ => rfl)]
  dsimp only [ww_st]
  rw [ww_ob_ite]
  rfl
theorem wx_getfield {S : ww_S} {M len pc k n : Nat} {L r : List Value} {h : List ww_E} {Q : ww_R → Prop} {ci q a : Nat} : (ww_X (some (.invokeinterface ci q, len)) S M pc L (.ref a :: r) h k n Q) = (ww_ob (ww_gf h a ci q) (fun v => ww_W S M (pc + len) (L) (v :: r) (h) (k) (n) Q)) := by
  rw [ww_X_st (fun _ => rfl)]
  dsimp only [ww_st]
  split <;> rename_i e9 <;> rw [e9] <;> rfl
theorem wx_putfield {S : ww_S} {M len pc k n : Nat} {L r : List Value} {h : List ww_E} {Q : ww_R → Prop} {ci x a : Nat} {v : Value} : (ww_X (some (.multianewarray ci x, len)) S M pc L (v :: .ref a :: r) h k n Q) = (if ww_tv (x / 100) v = true then ww_ob (ww_pf h a ci (x % 100) v) (fun h1 => ww_W S M (pc + len) (L) (r) (h1) (k) (n) Q) else False) := by
  rw [ww_X_st (fun _ => rfl)]
  dsimp only [ww_st]
  rw [ww_ob_ite]
  congr 1
  cases ww_pf h a ci (x % 100) v <;> rfl
def ww_ra0 : Option ww_E → Option (Nat × (Nat → Int32))
  | some (.inl (0, N, .inl f)) => some (N, f)
  | _ => none
def ww_ra1 : Option ww_E → Option (Nat × (Nat → Int64))
  | some (.inl (1, N, .inr (.inl f))) => some (N, f)
  | _ => none
def ww_ra2 : Option ww_E → Option (Nat × (Nat → Int32))
  | some (.inl (2, N, .inl f)) => some (N, f)
  | _ => none
def ww_ra3 : Option ww_E → Option (Nat × (Nat → Option Nat))
  | some (.inl (3, N, .inr (.inr (.inr (.inr f))))) => some (N, f)
  | _ => none
theorem wx_iaload {S : ww_S} {M len pc k n : Nat} {L r : List Value} {h : List ww_E} {Q : ww_R → Prop} {i : Int32} {a : Nat} : (ww_X (some (.iaload, len)) S M pc L (.int i :: .ref a :: r) h k n Q) = (ww_ob (ww_ra0 h[a]?) (fun q => if i < 0 ∨ q.1 ≤ i.toNatClampNeg then False else ww_W S M (pc + len) (L) (.int (q.2 i.toNatClampNeg) :: r) (h) (k) (n) Q)) := by
  rw [ww_X_st (fun _ => rfl)]
  dsimp only [ww_st]
  generalize h[a]? = o9
  unfold ww_ra0
  split
  · rw [ww_ob_ite]
    first | rfl | (split <;> first | rfl | (show ww_ob _ _ = ww_ob _ _; split <;> simp_all [ww_ob]) | (split <;> simp_all [ww_ob]) | simp_all [ww_ob])
  · rename_i h9
    split
    · exact (h9 _ _ rfl).elim
    · rfl
theorem wx_baload {S : ww_S} {M len pc k n : Nat} {L r : List Value} {h : List ww_E} {Q : ww_R → Prop} {i : Int32} {a : Nat} : (ww_X (some (.baload, len)) S M pc L (.int i :: .ref a :: r) h k n Q) = (ww_ob (ww_ra2 h[a]?) (fun q => if i < 0 ∨ q.1 ≤ i.toNatClampNeg then False else ww_W S M (pc + len) (L) (.int (q.2 i.toNatClampNeg) :: r) (h) (k) (n) Q)) := by
  rw [ww_X_st (fun _ => rfl)]
  dsimp only [ww_st]
  generalize h[a]? = o9
  unfold ww_ra2
  split
  · rw [ww_ob_ite]
    first | rfl | (split <;> first | rfl | (show ww_ob _ _ = ww_ob _ _; split <;> simp_all [ww_ob]) | (split <;> simp_all [ww_ob]) | simp_all [ww_ob])
  · rename_i h9
    split
    · exact (h9 _ _ rfl).elim
    · rfl
theorem wx_laload {S : ww_S} {M len pc k n : Nat} {L r : List Value} {h : List ww_E} {Q : ww_R → Prop} {i : Int32} {a : Nat} : (ww_X (some (.laload, len)) S M pc L (.int i :: .ref a :: r) h k n Q) = (ww_ob (ww_ra1 h[a]?) (fun q => if i < 0 ∨ q.1 ≤ i.toNatClampNeg then False else ww_W S M (pc + len) (L) (.long (q.2 i.toNatClampNeg) :: r) (h) (k) (n) Q)) := by
  rw [ww_X_st (fun _ => rfl)]
  dsimp only [ww_st]
  generalize h[a]? = o9
  unfold ww_ra1
  split
  · rw [ww_ob_ite]
    first | rfl | (split <;> first | rfl | (show ww_ob _ _ = ww_ob _ _; split <;> simp_all [ww_ob]) | (split <;> simp_all [ww_ob]) | simp_all [ww_ob])
  · rename_i h9
    split
    · exact (h9 _ _ rfl).elim
    · rfl
theorem wx_iastore {S : ww_S} {M len pc k n : Nat} {L r : List Value} {h : List ww_E} {Q : ww_R → Prop} {i x : Int32} {a : Nat} : (ww_X (some (.iastore, len)) S M pc L (.int x :: .int i :: .ref a :: r) h k n Q) = (ww_ob (ww_ra0 h[a]?) (fun q => if i < 0 ∨ q.1 ≤ i.toNatClampNeg then False else ww_W S M (pc + len) (L) (r) (h.set a (.inl (0, q.1, .inl (upd q.2 i.toNatClampNeg x)))) (k) (n) Q)) := by
  rw [ww_X_st (fun _ => rfl)]
  dsimp only [ww_st]
  generalize h[a]? = o9
  unfold ww_ra0
  split
  · rw [ww_ob_ite]
    first | rfl | (split <;> first | rfl | (show ww_ob _ _ = ww_ob _ _; split <;> simp_all [ww_ob]) | (split <;> simp_all [ww_ob]) | simp_all [ww_ob])
  · rename_i h9
    split
    · exact (h9 _ _ rfl).elim
    · rfl
theorem wx_bastore {S : ww_S} {M len pc k n : Nat} {L r : List Value} {h : List ww_E} {Q : ww_R → Prop} {i x : Int32} {a : Nat} : (ww_X (some (.bastore, len)) S M pc L (.int x :: .int i :: .ref a :: r) h k n Q) = (ww_ob (ww_ra2 h[a]?) (fun q => if i < 0 ∨ q.1 ≤ i.toNatClampNeg then False else ww_W S M (pc + len) (L) (r) (h.set a (.inl (2, q.1, .inl (upd q.2 i.toNatClampNeg (vp_nar .boolean x))))) (k) (n) Q)) := by
  rw [ww_X_st (fun _ => rfl)]
  dsimp only [ww_st]
  generalize h[a]? = o9
  unfold ww_ra2
  split
  · rw [ww_ob_ite]
    first | rfl | (split <;> first | rfl | (show ww_ob _ _ = ww_ob _ _; split <;> simp_all [ww_ob]) | (split <;> simp_all [ww_ob]) | simp_all [ww_ob])
  · rename_i h9
    split
    · exact (h9 _ _ rfl).elim
    · rfl
theorem wx_lastore {S : ww_S} {M len pc k n : Nat} {L r : List Value} {h : List ww_E} {Q : ww_R → Prop} {i : Int32} {x : Int64} {a : Nat} : (ww_X (some (.lastore, len)) S M pc L (.long x :: .int i :: .ref a :: r) h k n Q) = (ww_ob (ww_ra1 h[a]?) (fun q => if i < 0 ∨ q.1 ≤ i.toNatClampNeg then False else ww_W S M (pc + len) (L) (r) (h.set a (.inl (1, q.1, .inr (.inl (vp_updL q.2 i.toNatClampNeg x))))) (k) (n) Q)) := by
  rw [ww_X_st (fun _ => rfl)]
  dsimp only [ww_st]
  generalize h[a]? = o9
  unfold ww_ra1
  split
  · rw [ww_ob_ite]
    first | rfl | (split <;> first | rfl | (show ww_ob _ _ = ww_ob _ _; split <;> simp_all [ww_ob]) | (split <;> simp_all [ww_ob]) | simp_all [ww_ob])
  · rename_i h9
    split
    · exact (h9 _ _ rfl).elim
    · rfl
theorem wx_aaload {S : ww_S} {M len pc k n : Nat} {L r : List Value} {h : List ww_E} {Q : ww_R → Prop} {i : Int32} {a : Nat} : (ww_X (some (.aaload, len)) S M pc L (.int i :: .ref a :: r) h k n Q) = (ww_ob (ww_ra3 h[a]?) (fun q => if i < 0 ∨ q.1 ≤ i.toNatClampNeg then False else ww_ob (q.2 i.toNatClampNeg) (fun c => ww_W S M (pc + len) (L) (.ref c :: r) (h) (k) (n) Q))) := by
  rw [ww_X_st (fun _ => rfl)]
  dsimp only [ww_st]
  generalize h[a]? = o9
  unfold ww_ra3
  split
  · rename_i N9 f9
    rw [ww_ob_ite]
    show (if i < 0 ∨ N9 ≤ i.toNatClampNeg then False else ww_ob _ _) = (if i < 0 ∨ N9 ≤ i.toNatClampNeg then False else ww_ob (f9 i.toNatClampNeg) _)
    cases f9 i.toNatClampNeg <;> rfl
  · rename_i h9
    split
    · exact (h9 _ _ rfl).elim
    · rfl
theorem wx_scr {S : ww_S} {M len pc k n : Nat} {L r : List Value} {h : List ww_E} {Q : ww_R → Prop} {i : Int32} {N : Nat} {f : Nat → Int32} : ww_X (some (.iaload, len)) (some (N, f)) M pc L (.int i :: .retAddr 1 :: r) h k n Q = (if i < 0 ∨ N ≤ i.toNatClampNeg then False else ww_W (some (N, f)) M (pc + len) L (.int (f i.toNatClampNeg) :: r) h k n Q) := by
  rw [ww_X_st (fun _ => rfl)]
  refine Eq.trans (b := ww_ob (if i < 0 ∨ N ≤ i.toNatClampNeg then none else some (pc + len, L, .int (f i.toNatClampNeg) :: r, h, k, n)) _) rfl ?_
  rw [ww_ob_ite]
  rfl
theorem wx_scrlen {S : ww_S} {M len pc k n : Nat} {L r : List Value} {h : List ww_E} {Q : ww_R → Prop} {N : Nat} {f : Nat → Int32} : ww_X (some (.arraylength, len)) (some (N, f)) M pc L (.retAddr 1 :: r) h k n Q = ww_W (some (N, f)) M (pc + len) L (.int (Int32.ofNat N) :: r) h k n Q := rfl
theorem wx_aastore {S : ww_S} {M len pc k n : Nat} {L r : List Value} {h : List ww_E} {Q : ww_R → Prop} {i : Int32} {a x N c : Nat} {f : Nat → Option Nat} {fs : List Value} (h1 : h[a]? = some (.inl (3, N, .inr (.inr (.inr (.inr f)))))) (h2 : h[x]? = some (.inr (3, fs))) : ww_X (some (.aastore, len)) S M pc L (.ref x :: .int i :: .ref a :: r) h k n Q = (if i < 0 ∨ N ≤ i.toNatClampNeg then False else ww_W S M (pc + len) L r (h.set a (.inl (3, N, .inr (.inr (.inr (.inr (va_up f i.toNatClampNeg (some x)))))))) k n Q) := by
  rw [ww_X_st (fun _ => rfl)]
  dsimp only [ww_st]
  rw [h1, h2]
  refine Eq.trans (b := ww_ob (if i < 0 ∨ N ≤ i.toNatClampNeg then none else some (pc + len, L, r, h.set a (.inl (3, N, .inr (.inr (.inr (.inr (va_up f i.toNatClampNeg (some x))))))), k, n)) _) rfl ?_
  rw [ww_ob_ite]
  rfl
theorem wx_new {S : ww_S} {M len pc k n : Nat} {L st : List Value} {h : List ww_E} {Q : ww_R → Prop} {ci : Nat} : (ww_X (some (.new ci, len)) S M pc L (st) h k n Q) = (if k + 1 ≤ ww_mc M ∧ n + (ww_z ci).length ≤ ww_ms M ∧ ci < 5 then ww_W S M (pc + len) (L) (.ref h.length :: st) (h ++ [.inr (ci, ww_z ci)]) (k + 1) (n + (ww_z ci).length) Q else False) := by
  rw [ww_X_st (fun _ => rfl)]
  dsimp only [ww_st]
  rw [ww_ob_ite]
  rfl
theorem wx_newarray_int {S : ww_S} {M len pc k n : Nat} {L r : List Value} {h : List ww_E} {Q : ww_R → Prop} {x : Int32} : (ww_X (some (.newarray .int, len)) S M pc L (.int x :: r) h k n Q) = (if x < 0 ∨ 1000 < x.toNatClampNeg ∨ ww_mc M < k + 1 ∨ ww_ms M < n + x.toNatClampNeg then False else ww_W S M (pc + len) (L) (.ref h.length :: r) (h ++ [.inl (0, x.toNatClampNeg, .inl (fun _ => 0))]) (k + 1) (n + x.toNatClampNeg) Q) := by
  rw [ww_X_st (fun _ => rfl)]
  dsimp only [ww_st]
  rw [ww_ob_ite]
  rfl
theorem wx_newarray_long {S : ww_S} {M len pc k n : Nat} {L r : List Value} {h : List ww_E} {Q : ww_R → Prop} {x : Int32} : (ww_X (some (.newarray .long, len)) S M pc L (.int x :: r) h k n Q) = (if x < 0 ∨ 1000 < x.toNatClampNeg ∨ ww_mc M < k + 1 ∨ ww_ms M < n + x.toNatClampNeg then False else ww_W S M (pc + len) (L) (.ref h.length :: r) (h ++ [.inl (1, x.toNatClampNeg, .inr (.inl (fun _ => 0)))]) (k + 1) (n + x.toNatClampNeg) Q) := by
  rw [ww_X_st (fun _ => rfl)]
  dsimp only [ww_st]
  rw [ww_ob_ite]
  rfl
theorem wx_newarray_boolean {S : ww_S} {M len pc k n : Nat} {L r : List Value} {h : List ww_E} {Q : ww_R → Prop} {x : Int32} : (ww_X (some (.newarray .boolean, len)) S M pc L (.int x :: r) h k n Q) = (if x < 0 ∨ 1000 < x.toNatClampNeg ∨ ww_mc M < k + 1 ∨ ww_ms M < n + x.toNatClampNeg then False else ww_W S M (pc + len) (L) (.ref h.length :: r) (h ++ [.inl (2, x.toNatClampNeg, .inl (fun _ => 0))]) (k + 1) (n + x.toNatClampNeg) Q) := by
  rw [ww_X_st (fun _ => rfl)]
  dsimp only [ww_st]
  rw [ww_ob_ite]
  rfl
theorem wx_anewarray {S : ww_S} {M len pc k n : Nat} {L r : List Value} {h : List ww_E} {Q : ww_R → Prop} {x : Int32} : (ww_X (some (.anewarray 3, len)) S M pc L (.int x :: r) h k n Q) = (if x < 0 ∨ 1000 < x.toNatClampNeg ∨ ww_mc M < k + 1 ∨ ww_ms M < n + x.toNatClampNeg then False else ww_W S M (pc + len) (L) (.ref h.length :: r) (h ++ [.inl (3, x.toNatClampNeg, .inr (.inr (.inr (.inr (fun _ => none)))))]) (k + 1) (n + x.toNatClampNeg) Q) := by
  rw [ww_X_st (fun _ => rfl)]
  refine Eq.trans (b := ww_ob (if x < 0 ∨ 1000 < x.toNatClampNeg ∨ ww_mc M < k + 1 ∨ ww_ms M < n + x.toNatClampNeg then none else some (pc + len, L, .ref h.length :: r, h ++ [.inl (3, x.toNatClampNeg, .inr (.inr (.inr (.inr (fun _ => none)))))], k + 1, n + x.toNatClampNeg)) _) rfl ?_
  rw [ww_ob_ite]
  rfl
theorem wx_if_eq {S : ww_S} {M len pc k n : Nat} {L r : List Value} {h : List ww_E} {Q : ww_R → Prop} {x : Int32} {t : Int} : (ww_X (some (.ifCond .eq t, len)) S M pc L (.int x :: r) h k n Q) = (if x = 0 then ww_W S M (t.toNat) (L) (r) (h) (k) (n) Q else ww_W S M (pc + len) (L) (r) (h) (k) (n) Q) := by
  rw [ww_X_st (fun _ => rfl)]
  dsimp only [ww_st, ww_ob]
  split <;> rfl
theorem wx_icmp_eq {S : ww_S} {M len pc k n : Nat} {L r : List Value} {h : List ww_E} {Q : ww_R → Prop} {x y : Int32} {t : Int} : (ww_X (some (.if_icmp .eq t, len)) S M pc L (.int y :: .int x :: r) h k n Q) = (if x = y then ww_W S M (t.toNat) (L) (r) (h) (k) (n) Q else ww_W S M (pc + len) (L) (r) (h) (k) (n) Q) := by
  rw [ww_X_st (fun _ => rfl)]
  dsimp only [ww_st, ww_ob]
  split <;> rfl
theorem wx_if_ne {S : ww_S} {M len pc k n : Nat} {L r : List Value} {h : List ww_E} {Q : ww_R → Prop} {x : Int32} {t : Int} : (ww_X (some (.ifCond .ne t, len)) S M pc L (.int x :: r) h k n Q) = (if ¬ x = 0 then ww_W S M (t.toNat) (L) (r) (h) (k) (n) Q else ww_W S M (pc + len) (L) (r) (h) (k) (n) Q) := by
  rw [ww_X_st (fun _ => rfl)]
  dsimp only [ww_st, ww_ob]
  split <;> rfl
theorem wx_icmp_ne {S : ww_S} {M len pc k n : Nat} {L r : List Value} {h : List ww_E} {Q : ww_R → Prop} {x y : Int32} {t : Int} : (ww_X (some (.if_icmp .ne t, len)) S M pc L (.int y :: .int x :: r) h k n Q) = (if ¬ x = y then ww_W S M (t.toNat) (L) (r) (h) (k) (n) Q else ww_W S M (pc + len) (L) (r) (h) (k) (n) Q) := by
  rw [ww_X_st (fun _ => rfl)]
  dsimp only [ww_st, ww_ob]
  split <;> rfl
theorem wx_if_lt {S : ww_S} {M len pc k n : Nat} {L r : List Value} {h : List ww_E} {Q : ww_R → Prop} {x : Int32} {t : Int} : (ww_X (some (.ifCond .lt t, len)) S M pc L (.int x :: r) h k n Q) = (if x < 0 then ww_W S M (t.toNat) (L) (r) (h) (k) (n) Q else ww_W S M (pc + len) (L) (r) (h) (k) (n) Q) := by
  rw [ww_X_st (fun _ => rfl)]
  dsimp only [ww_st, ww_ob]
  split <;> rfl
theorem wx_icmp_lt {S : ww_S} {M len pc k n : Nat} {L r : List Value} {h : List ww_E} {Q : ww_R → Prop} {x y : Int32} {t : Int} : (ww_X (some (.if_icmp .lt t, len)) S M pc L (.int y :: .int x :: r) h k n Q) = (if x < y then ww_W S M (t.toNat) (L) (r) (h) (k) (n) Q else ww_W S M (pc + len) (L) (r) (h) (k) (n) Q) := by
  rw [ww_X_st (fun _ => rfl)]
  dsimp only [ww_st, ww_ob]
  split <;> rfl
theorem wx_if_ge {S : ww_S} {M len pc k n : Nat} {L r : List Value} {h : List ww_E} {Q : ww_R → Prop} {x : Int32} {t : Int} : (ww_X (some (.ifCond .ge t, len)) S M pc L (.int x :: r) h k n Q) = (if 0 ≤ x then ww_W S M (t.toNat) (L) (r) (h) (k) (n) Q else ww_W S M (pc + len) (L) (r) (h) (k) (n) Q) := by
  rw [ww_X_st (fun _ => rfl)]
  dsimp only [ww_st, ww_ob]
  split <;> rfl
theorem wx_icmp_ge {S : ww_S} {M len pc k n : Nat} {L r : List Value} {h : List ww_E} {Q : ww_R → Prop} {x y : Int32} {t : Int} : (ww_X (some (.if_icmp .ge t, len)) S M pc L (.int y :: .int x :: r) h k n Q) = (if y ≤ x then ww_W S M (t.toNat) (L) (r) (h) (k) (n) Q else ww_W S M (pc + len) (L) (r) (h) (k) (n) Q) := by
  rw [ww_X_st (fun _ => rfl)]
  dsimp only [ww_st, ww_ob]
  split <;> rfl
theorem wx_if_gt {S : ww_S} {M len pc k n : Nat} {L r : List Value} {h : List ww_E} {Q : ww_R → Prop} {x : Int32} {t : Int} : (ww_X (some (.ifCond .gt t, len)) S M pc L (.int x :: r) h k n Q) = (if 0 < x then ww_W S M (t.toNat) (L) (r) (h) (k) (n) Q else ww_W S M (pc + len) (L) (r) (h) (k) (n) Q) := by
  rw [ww_X_st (fun _ => rfl)]
  dsimp only [ww_st, ww_ob]
  split <;> rfl
theorem wx_icmp_gt {S : ww_S} {M len pc k n : Nat} {L r : List Value} {h : List ww_E} {Q : ww_R → Prop} {x y : Int32} {t : Int} : (ww_X (some (.if_icmp .gt t, len)) S M pc L (.int y :: .int x :: r) h k n Q) = (if y < x then ww_W S M (t.toNat) (L) (r) (h) (k) (n) Q else ww_W S M (pc + len) (L) (r) (h) (k) (n) Q) := by
  rw [ww_X_st (fun _ => rfl)]
  dsimp only [ww_st, ww_ob]
  split <;> rfl
theorem wx_if_le {S : ww_S} {M len pc k n : Nat} {L r : List Value} {h : List ww_E} {Q : ww_R → Prop} {x : Int32} {t : Int} : (ww_X (some (.ifCond .le t, len)) S M pc L (.int x :: r) h k n Q) = (if x ≤ 0 then ww_W S M (t.toNat) (L) (r) (h) (k) (n) Q else ww_W S M (pc + len) (L) (r) (h) (k) (n) Q) := by
  rw [ww_X_st (fun _ => rfl)]
  dsimp only [ww_st, ww_ob]
  split <;> rfl
theorem wx_icmp_le {S : ww_S} {M len pc k n : Nat} {L r : List Value} {h : List ww_E} {Q : ww_R → Prop} {x y : Int32} {t : Int} : (ww_X (some (.if_icmp .le t, len)) S M pc L (.int y :: .int x :: r) h k n Q) = (if x ≤ y then ww_W S M (t.toNat) (L) (r) (h) (k) (n) Q else ww_W S M (pc + len) (L) (r) (h) (k) (n) Q) := by
  rw [ww_X_st (fun _ => rfl)]
  dsimp only [ww_st, ww_ob]
  split <;> rfl
theorem wx_tswitch {S : ww_S} {M len pc k n : Nat} {L r : List Value} {h : List ww_E} {Q : ww_R → Prop} {x : Int32} {d lo hi : Int} {os : Array Int} : (ww_X (some (.tableswitch d lo hi os, len)) S M pc L (.int x :: r) h k n Q) = (ww_W S M (if x.toInt < lo ∨ hi < x.toInt then d.toNat else (os.getD (x.toInt - lo).toNat 0).toNat) (L) (r) (h) (k) (n) Q) := by
  rw [ww_X_st (fun _ => rfl)]
  rfl
theorem wx_ireturn {S : ww_S} {M len pc k n : Nat} {L : List Value} {h : List ww_E} {Q : ww_R → Prop} {v : Int32} : (ww_X (some (.ireturn, len)) S M pc L ([.int v]) h k n Q) = (Q (.inl (some (.int v)), h)) := by
  unfold ww_X ww_x
  dsimp only
  exact propext ⟨fun ⟨f, r, h1, h2⟩ => by cases h1; exact h2, fun h2 => ⟨0, _, rfl, h2⟩⟩
theorem wx_lreturn {S : ww_S} {M len pc k n : Nat} {L : List Value} {h : List ww_E} {Q : ww_R → Prop} {v : Int64} : (ww_X (some (.lreturn, len)) S M pc L ([.long v]) h k n Q) = (Q (.inl (some (.long v)), h)) := by
  unfold ww_X ww_x
  dsimp only
  exact propext ⟨fun ⟨f, r, h1, h2⟩ => by cases h1; exact h2, fun h2 => ⟨0, _, rfl, h2⟩⟩
theorem wx_areturn {S : ww_S} {M len pc k n : Nat} {L : List Value} {h : List ww_E} {Q : ww_R → Prop} {v : Nat} : (ww_X (some (.areturn, len)) S M pc L ([.ref v]) h k n Q) = (Q (.inl (some (.ref v)), h)) := by
  unfold ww_X ww_x
  dsimp only
  exact propext ⟨fun ⟨f, r, h1, h2⟩ => by cases h1; exact h2, fun h2 => ⟨0, _, rfl, h2⟩⟩
theorem wx_return {S : ww_S} {M len pc k n : Nat} {L : List Value} {h : List ww_E} {Q : ww_R → Prop}  : (ww_X (some (.return_, len)) S M pc L ([]) h k n Q) = (Q (.inl none, h)) := by
  unfold ww_X ww_x
  dsimp only
  exact propext ⟨fun ⟨f, r, h1, h2⟩ => by cases h1; exact h2, fun h2 => ⟨0, _, rfl, h2⟩⟩
theorem wx_freturn {S : ww_S} {M len pc k n : Nat} {L : List Value} {h : List ww_E} {Q : ww_R → Prop} {v : Int32} : (ww_X (some (.freturn, len)) S M pc L ([.int v]) h k n Q) = ((v = 0 ∨ v = 1) ∧ Q (.inl (some (.int v)), h)) := by
  unfold ww_X ww_x
  dsimp only
  exact propext ⟨fun ⟨f, r, h1, h2⟩ => by split at h1 <;> cases h1; exact ⟨by assumption, h2⟩, fun h2 => ⟨0, _, if_pos h2.1, h2.2⟩⟩
theorem wx_throw {S : ww_S} {M len pc k n : Nat} {L : List Value} {h : List ww_E} {Q : ww_R → Prop} {e : Nat} : (ww_X (some (.checkcast e, len)) S M pc L ([]) h k n Q) = ((k + 1 ≤ ww_mc M ∧ n + 6 ≤ ww_ms M ∧ (ww_hh M).isEmpty = true ∧ M < 127) ∧ Q (.inr e, h)) := by
  unfold ww_X ww_x
  dsimp only
  exact propext ⟨fun ⟨f, r, h1, h2⟩ => by split at h1 <;> cases h1; rename_i h9; exact ⟨⟨h9.1, h9.2.1, h9.2.2.2.1, h9.2.2.2.2⟩, h2⟩, fun h2 => ⟨0, _, if_pos ⟨h2.1.1, h2.1.2.1, rfl, h2.1.2.2.1, h2.1.2.2.2⟩, h2.2⟩⟩
theorem ww_X_call {S : ww_S} {M len pc k n : Nat} {L st : List Value} {h : List ww_E} {Q : ww_R → Prop} {t : Nat} {vr : Bool} {i : Instr} (hi : ∀ f, ww_x (ww_run f) S (some (i, len)) M pc L st h k n = ww_call (ww_run f) S t vr M len pc L st h k n) (hna : ww_na t ≤ st.length) (hen : (ww_en (ww_mL t) (st.take (ww_na t)).reverse).length = ww_mL t) (hb : (ww_mc t = 0 ∧ ww_ms t = 0) ∨ (k + ww_mc t ≤ ww_mc M ∧ n + ww_ms t ≤ ww_ms M)) :
    ww_X (some (i, len)) S M pc L st h k n Q = ((((st.drop (ww_na t)).map (fun v => v.category)).sum ≤ 8 ∧ (vr = true → ww_rcv h t (st.take (ww_na t)).reverse = true)) ∧ ww_V t (st.take (ww_na t)).reverse h (ww_kc S M pc len L (st.drop (ww_na t)) (k + ww_mc t) (n + ww_ms t) Q)) := by
  unfold ww_X ww_V ww_W
  simp only [hi]
  unfold ww_call
  apply propext
  constructor
  · rintro ⟨f, r1, h1, h2⟩
    split at h1
    · rename_i hc
      refine ⟨⟨hc.2.2.1, hc.2.2.2.2⟩, ?_⟩
      split at h1
      · rename_i v h3 h4
        exact ⟨f, _, h4, f, r1, h1, h2⟩
      · rename_i e9 h3 h4
        refine ⟨f, _, h4, ?_⟩
        show ww_ob (ww_thr M pc e9 h3) Q
        rw [h1]
        exact h2
      · cases h1
    · cases h1
  · rintro ⟨⟨h1, h2⟩, f, r1, h3, h4⟩
    obtain ⟨o1, h5⟩ := r1
    cases o1 with
    | inl v =>
      obtain ⟨f2, r2, h6, h7⟩ := h4
      refine ⟨max f f2, r2, ?_, h7⟩
      rw [if_pos ⟨hna, hen, h1, hb, h2⟩, ww_run_le (Nat.le_max_left f f2) h3]
      exact ww_run_le (Nat.le_max_right f f2) h6
    | inr e9 =>
      have h4' : ww_ob (ww_thr M pc e9 h5) Q := h4
      cases ht : ww_thr M pc e9 h5 with
      | none => rw [ht] at h4'; exact h4'.elim
      | some r2 =>
        rw [ht] at h4'
        refine ⟨f, r2, ?_, h4'⟩
        rw [if_pos ⟨hna, hen, h1, hb, h2⟩, h3]
        exact ht
theorem ww_rcv_eq {h : List ww_E} {t a : Nat} {As : List Value} : (ww_rcv h t (.ref a :: As) = true) = ww_rc h a (ww_ow t) := by
  apply propext
  cases hc : h[a]? with
  | none => simp [ww_rcv, ww_rc, hc]
  | some c => rcases c with ⟨t9, x9⟩ | ⟨c9, fs9⟩ <;> simp [ww_rcv, ww_rc, hc]
theorem ww_X_callV {S : ww_S} {M len pc k n : Nat} {L st As : List Value} {h : List ww_E} {Q : ww_R → Prop} {t a : Nat} {i : Instr} (hi : ∀ f, ww_x (ww_run f) S (some (i, len)) M pc L st h k n = ww_call (ww_run f) S t true M len pc L st h k n) (hna : ww_na t ≤ st.length) (hst : (st.take (ww_na t)).reverse = .ref a :: As) (hen : (ww_en (ww_mL t) (.ref a :: As)).length = ww_mL t) (hb : (ww_mc t = 0 ∧ ww_ms t = 0) ∨ (k + ww_mc t ≤ ww_mc M ∧ n + ww_ms t ≤ ww_ms M)) :
    ww_X (some (i, len)) S M pc L st h k n Q = (((st.drop (ww_na t)).map (fun v => v.category)).sum ≤ 8 ∧ ww_rc h a (ww_ow t) ∧ ww_V t (.ref a :: As) h (ww_kc S M pc len L (st.drop (ww_na t)) (k + ww_mc t) (n + ww_ms t) Q)) := by
  rw [ww_X_call hi hna (by rw [hst]; exact hen) hb, hst, ww_rcv_eq]
  apply propext
  constructor
  · rintro ⟨⟨h1, h2⟩, h3⟩
    exact ⟨h1, h2 rfl, h3⟩
  · rintro ⟨h1, h2, h3⟩
    exact ⟨⟨h1, fun _ => h2⟩, h3⟩
theorem ww_X_callS {S : ww_S} {M len pc k n : Nat} {L st As : List Value} {h : List ww_E} {Q : ww_R → Prop} {t : Nat} {i : Instr} (hi : ∀ f, ww_x (ww_run f) S (some (i, len)) M pc L st h k n = ww_call (ww_run f) S t false M len pc L st h k n) (hna : ww_na t ≤ st.length) (hst : (st.take (ww_na t)).reverse = As) (hen : (ww_en (ww_mL t) As).length = ww_mL t) (hb : (ww_mc t = 0 ∧ ww_ms t = 0) ∨ (k + ww_mc t ≤ ww_mc M ∧ n + ww_ms t ≤ ww_ms M)) :
    ww_X (some (i, len)) S M pc L st h k n Q = (((st.drop (ww_na t)).map (fun v => v.category)).sum ≤ 8 ∧ ww_V t As h (ww_kc S M pc len L (st.drop (ww_na t)) (k + ww_mc t) (n + ww_ms t) Q)) := by
  rw [ww_X_call hi hna (by rw [hst]; exact hen) hb, hst]
  apply propext
  constructor
  · rintro ⟨⟨h1, h2⟩, h3⟩
    exact ⟨h1, h3⟩
  · rintro ⟨h1, h3⟩
    exact ⟨⟨h1, fun h2 => by cases h2⟩, h3⟩
theorem ww_s1_0 {a v : Value} {l : List Value} : ww_s1 (a :: l) 0 v = v :: l := rfl
theorem ww_s1_1 {a b v : Value} {l : List Value} : ww_s1 (a :: b :: l) 1 v = ww_k1 a :: v :: l := rfl
theorem ww_s1_2 {a b v : Value} {l : List Value} {i : Nat} : ww_s1 (a :: b :: l) (i + 2) v = a :: ww_s1 (b :: l) (i + 1) v := rfl
theorem ww_s2_0 {a b v : Value} {l : List Value} : ww_s2 (a :: b :: l) 0 v = v :: ww_U :: l := rfl
theorem ww_s2_1 {a b c v : Value} {l : List Value} : ww_s2 (a :: b :: c :: l) 1 v = ww_k1 a :: v :: ww_U :: l := rfl
theorem ww_s2_2 {a b v : Value} {l : List Value} {i : Nat} : ww_s2 (a :: b :: l) (i + 2) v = a :: ww_s2 (b :: l) (i + 1) v := rfl
theorem ww_k1_i {x : Int32} : ww_k1 (.int x) = .int x := rfl
theorem ww_k1_r {x : Nat} : ww_k1 (.ref x) = .ref x := rfl
theorem ww_k1_l {x : Int64} : ww_k1 (.long x) = ww_U := rfl
theorem ww_k1_u {x : Nat} : ww_k1 (.retAddr x) = .retAddr x := rfl
