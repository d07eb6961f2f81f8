/-! the relation of the class's state and the reference's, and what an op owes -/
def RNET (X : Nat → Nat → Int32) (N P : Nat) : Prop := ∃ nd, NC X P nd ∧ X 1 1 = nI N ∧ NM X N P nd (bt (X 1 4)) (bt (X 1 5)) (bt (X 1 6)) (bt (X 1 3))
def RTA (X : Nat → Nat → Int32) (Y : Nat → Nat → Int64) (q : Nat) (B U : Nat → Nat) : Prop := q ≤ 8 ∧ X 3 2 = nI q ∧ X 7 21 = nI q ∧ ∀ k, k < q → X 4 k = nI (B k) ∧ X 24 k = nI (B k) ∧ Y 5 k = lN (U k) ∧ Y 25 k = lN (U k) ∧ B k ≤ 400 ∧ U k < 2 ^ 50 ∧ U k / 2 ^ 40 ≤ 1000 ∧ (k + 1 < q → B k < B (k + 1))
def RTAR (X : Nat → Nat → Int32) (Y : Nat → Nat → Int64) : Prop := ∃ (q : Nat) (B U : Nat → Nat), RTA X Y q B U
def RD (m t : Nat) (D S Z : Nat → Nat) (F : Nat → Bool) : Prop := ∀ i, i < m → D i ≤ t ∧ S i < Z i ∧ Z i ≤ 10000 ∧ (i + 1 < m → D i ≤ D (i + 1) ∧ (F (i + 1) = false → Z (i + 1) = Z i))
def RRD (X : Nat → Nat → Int32) (c t m : Nat) (D S Z : Nat → Nat) (F : Nat → Bool) : Prop := m ≤ 24 ∧ X (cu c) 5 = nI m ∧ X 19 c = nI m ∧ RD m t D S Z F ∧ ∀ i, i < m → X (cu c + 1) i = nI (D i) ∧ X 20 (24 * c + i) = nI (D i) ∧ X (cu c + 2) i = nI (S i) ∧ X 21 (24 * c + i) = nI (S i) ∧ X (cu c + 3) i = nI (Z i) ∧ X 22 (24 * c + i) = nI (Z i) ∧ X (cu c + 4) i = b2 (F i) ∧ X 23 (24 * c + i) = b2 (F i)
def frm (D E : Nat → Nat) (i : Nat) : Nat := if i = 0 then D 0 else E (i - 1)
def smL (f : Nat → Int64) : Nat → Int64
  | 0 => 0
  | k + 1 => smL f k + f k
def RBL (X : Nat → Nat → Int32) (Y : Nat → Nat → Int64) (c t m : Nat) (D : Nat → Nat) (b : Nat) (E : Nat → Nat) : Prop := b ≤ 6 ∧ X (cu c) 7 = nI b ∧ X 26 c = nI b ∧ (0 < b → 0 < m) ∧ (∀ i, i < b → X (cu c + 5) i = nI (E i) ∧ X 28 (6 * c + i) = nI (E i) ∧ X 27 (6 * c + i) = nI (frm D E i) ∧ frm D E i < E i ∧ E i ≤ t) ∧ Y (cu c) 8 = smL (fun i => Y 29 (6 * c + i)) b ∧ Y (cu c) 9 = Y 30 c
def RCU (X : Nat → Nat → Int32) (Y : Nat → Nat → Int64) (N t c : Nat) : Prop := ∃ (p m b : Nat) (D S Z E : Nat → Nat) (F : Nat → Bool), (X (cu c) 0 = nI p ∧ X 13 c = nI p ∧ p < N) ∧ RRD X c t m D S Z F ∧ RBL X Y c t m D b E
def RFR (X : Nat → Nat → Int32) (Y : Nat → Nat → Int64) (c : Nat) : Prop := X 19 c = nI 0 ∧ X 26 c = nI 0 ∧ Y 30 c = lN 0
def RR (X : Nat → Nat → Int32) (Y : Nat → Nat → Int64) (n N P t : Nat) : Prop := n ≤ 10 ∧ t ≤ 400 ∧ X 0 3 = nI n ∧ X 7 3 = nI n ∧ X 0 4 = nI t ∧ X 7 15 = nI t ∧ RNET X N P ∧ RTAR X Y ∧ (∀ c, c < n → RCU X Y N t c) ∧ (∀ c, n ≤ c → c < 10 → RFR X Y c)
def Re (X : Nat → Nat → Int32) (Y : Nat → Nat → Int64) (n : Nat) : Prop := ∃ N P t, RR X Y n N P t
theorem RNET_fr {X X' : Nat → Nat → Int32} {N P : Nat} (h : RNET X N P) (hF : ∀ a, (1 ≤ a ∧ a ≤ 2) ∨ (8 ≤ a ∧ a ≤ 12) → X' a = X a) (h1 : X' 7 1 = X 7 1) (h2 : X' 7 2 = X 7 2) : RNET X' N P := by
  obtain ⟨nd, h3, h4, h5⟩ := h
  refine ⟨nd, ?_, ?_, ?_⟩
  · unfold NC; rw [hF 1 (by decide), hF 2 (by decide)]; exact h3
  · rw [hF 1 (by decide)]; exact h4
  · unfold NM
    rw [hF 1 (by decide), hF 8 (by decide), hF 9 (by decide), hF 10 (by decide), hF 11 (by decide), hF 12 (by decide), h1, h2]
    exact h5
theorem RTA_fr {X X' : Nat → Nat → Int32} {Y Y' : Nat → Nat → Int64} {q : Nat} {B U : Nat → Nat} (h : RTA X Y q B U) (h1 : X' 3 2 = X 3 2) (h2 : X' 7 21 = X 7 21) (h3 : X' 4 = X 4) (h4 : X' 24 = X 24) (h5 : Y' 5 = Y 5) (h6 : Y' 25 = Y 25) : RTA X' Y' q B U := by
  unfold RTA
  rw [h1, h2, h3, h4, h5, h6]
  exact h
theorem RTAR_fr {X X' : Nat → Nat → Int32} {Y Y' : Nat → Nat → Int64} (h : RTAR X Y) (h1 : X' 3 2 = X 3 2) (h2 : X' 7 21 = X 7 21) (h3 : X' 4 = X 4) (h4 : X' 24 = X 24) (h5 : Y' 5 = Y 5) (h6 : Y' 25 = Y 25) : RTAR X' Y' := by
  obtain ⟨q, B, U, h⟩ := h
  exact ⟨q, B, U, RTA_fr h h1 h2 h3 h4 h5 h6⟩
theorem RRD_fr {X X' : Nat → Nat → Int32} {c t m : Nat} {D S Z : Nat → Nat} {F : Nat → Bool} (h : RRD X c t m D S Z F) (h0 : X' (cu c) 5 = X (cu c) 5) (hF : ∀ k, 1 ≤ k → k ≤ 4 → X' (cu c + k) = X (cu c + k)) (h1 : X' 19 c = X 19 c) (h2 : ∀ a i, 20 ≤ a → a ≤ 23 → i < 24 → X' a (24 * c + i) = X a (24 * c + i)) : RRD X' c t m D S Z F := by
  obtain ⟨a1, a2, a3, a4, a5⟩ := h
  refine ⟨a1, by rw [h0, a2], by rw [h1, a3], a4, fun i hi => ?_⟩
  rw [hF 1 (by decide) (by decide), hF 2 (by decide) (by decide), hF 3 (by decide) (by decide), hF 4 (by decide) (by decide), h2 20 i (by decide) (by decide) (by omega), h2 21 i (by decide) (by decide) (by omega), h2 22 i (by decide) (by decide) (by omega), h2 23 i (by decide) (by decide) (by omega)]
  exact a5 i hi
theorem smL_cong {f g : Nat → Int64} : ∀ {b : Nat}, (∀ i, i < b → f i = g i) → smL f b = smL g b
  | 0, _ => rfl
  | b + 1, h => by
    show smL f b + f b = smL g b + g b
    rw [smL_cong (fun i hi => h i (by omega)), h b (by omega)]
theorem RBL_fr {X X' : Nat → Nat → Int32} {Y Y' : Nat → Nat → Int64} {c t m b : Nat} {D E : Nat → Nat} (h : RBL X Y c t m D b E) (h0 : X' (cu c) 7 = X (cu c) 7) (h5 : X' (cu c + 5) = X (cu c + 5)) (h1 : X' 26 c = X 26 c) (h2 : ∀ a i, 27 ≤ a → a ≤ 28 → i < 6 → X' a (6 * c + i) = X a (6 * c + i)) (h3 : Y' (cu c) = Y (cu c)) (h4 : Y' 30 c = Y 30 c) (h6 : ∀ i, i < 6 → Y' 29 (6 * c + i) = Y 29 (6 * c + i)) : RBL X' Y' c t m D b E := by
  obtain ⟨a1, a2, a3, a4, a5, a6, a7⟩ := h
  refine ⟨a1, by rw [h0, a2], by rw [h1, a3], a4, fun i hi => ?_, ?_, ?_⟩
  · rw [h5, h2 27 i (by decide) (by decide) (by omega), h2 28 i (by decide) (by decide) (by omega)]
    exact a5 i hi
  · rw [h3, a6]
    exact smL_cong (fun i hi => (h6 i (by omega)).symm)
  · rw [h3, h4]; exact a7
/-- a customer whose cells are as they were -/
theorem RCU_fr {X X' : Nat → Nat → Int32} {Y Y' : Nat → Nat → Int64} {N t c : Nat} (h : RCU X Y N t c) (hc : ∀ k, k ≤ 5 → X' (cu c + k) = X (cu c + k)) (hY : Y' (cu c) = Y (cu c)) (hX : ∀ a, (a = 13 ∨ a = 19 ∨ a = 26) → X' a c = X a c) (h20 : ∀ a i, 20 ≤ a → a ≤ 23 → i < 24 → X' a (24 * c + i) = X a (24 * c + i)) (h27 : ∀ a i, 27 ≤ a → a ≤ 28 → i < 6 → X' a (6 * c + i) = X a (6 * c + i)) (h29 : ∀ i, i < 6 → Y' 29 (6 * c + i) = Y 29 (6 * c + i)) (h30 : Y' 30 c = Y 30 c) : RCU X' Y' N t c := by
  obtain ⟨p, m, b, D, S, Z, E, F, ⟨h1, h2, h3⟩, h4, h5⟩ := h
  have hc0 : X' (cu c) = X (cu c) := hc 0 (by decide)
  refine ⟨p, m, b, D, S, Z, E, F, ⟨by rw [hc0, h1], by rw [hX 13 (by decide), h2], h3⟩, ?_, ?_⟩
  · exact RRD_fr h4 (by rw [hc0]) (fun k _ hk => hc k (by omega)) (hX 19 (by decide)) h20
  · exact RBL_fr h5 (by rw [hc0]) (hc 5 (by decide)) (hX 26 (by decide)) h27 hY h30 h29
/-- nothing but the reference's notes and the answer's place has changed -/
theorem RR_scr {X X' : Nat → Nat → Int32} {Y Y' : Nat → Nat → Int64} {n N P t : Nat} (h : RR X Y n N P t) (hX : ∀ a, ¬ (a = 7 ∨ (14 ≤ a ∧ a ≤ 18)) → X' a = X a) (h7 : ∀ k, 0 < k → X' 7 k = X 7 k) (hY : ∀ a, a ≠ 31 → Y' a = Y a) : RR X' Y' n N P t := by
  obtain ⟨a1, a2, a3, a4, a5, a6, a7, a8, a9, a10⟩ := h
  refine ⟨a1, a2, by rw [hX 0 (by decide), a3], by rw [h7 3 (by decide), a4], by rw [hX 0 (by decide), a5], by rw [h7 15 (by decide), a6], ?_, ?_, fun c hc => ?_, fun c h1 h2 => ?_⟩
  · exact RNET_fr a7 (fun a ha => hX a (by omega)) (h7 1 (by decide)) (h7 2 (by decide))
  · exact RTAR_fr a8 (by rw [hX 3 (by decide)]) (h7 21 (by decide)) (hX 4 (by decide)) (hX 24 (by decide)) (hY 5 (by decide)) (hY 25 (by decide))
  · exact RCU_fr (a9 c hc) (fun k _ => hX _ (by unfold cu; omega)) (hY _ (by unfold cu; omega)) (fun a ha => by rw [hX a (by omega)]) (fun a i _ _ _ => by rw [hX a (by omega)]) (fun a i _ _ _ => by rw [hX a (by omega)]) (fun i _ => by rw [hY 29 (by decide)]) (by rw [hY 30 (by decide)])
  · have h3 := a10 c h1 h2
    unfold RFR
    rw [hX 19 (by decide), hX 26 (by decide), hY 30 (by decide)]
    exact h3
theorem Re_scr {X X' : Nat → Nat → Int32} {Y Y' : Nat → Nat → Int64} {n : Nat} (h : Re X Y n) (hX : ∀ a, ¬ (a = 7 ∨ (14 ≤ a ∧ a ≤ 18)) → X' a = X a) (h7 : ∀ k, 0 < k → X' 7 k = X 7 k) (hY : ∀ a, a ≠ 31 → Y' a = Y a) : Re X' Y' n := by
  obtain ⟨N, P, t, h⟩ := h
  exact ⟨N, P, t, RR_scr h hX h7 hY⟩
/-! what an op owes: the class's wrapper, then the reference -/
def KI2 (e n : Nat) : ww_R → Prop := fun r2 => ∃ b X2 Y2, r2 = (.inl (some (.int b)), HH X2 Y2 n n) ∧ X2 7 0 = nI e ∧ (e = 0 → Y2 31 0 = b.toInt64) ∧ Re X2 Y2 n
def KI (u : Nat) (Bs : List Value) : ww_R → Prop := fun r1 => ∃ e X1 Y1 n1, e < 100 ∧ r1 = (.inl (some (.int (nI e))), HH X1 Y1 n1 n1) ∧ ww_V u Bs (HH X1 Y1 n1 n1) (KI2 e n1)
def KB2 (e n : Nat) : ww_R → Prop := fun r2 => ∃ b X2 Y2, r2 = (.inl (some (.int (b2 b))), HH X2 Y2 n n) ∧ X2 7 0 = nI e ∧ (e = 0 → Y2 31 0 = if b = true then lN 1 else lN 0) ∧ Re X2 Y2 n
def KB (u : Nat) (Bs : List Value) : ww_R → Prop := fun r1 => ∃ e X1 Y1 n1, e < 100 ∧ r1 = (.inl (some (.int (nI e))), HH X1 Y1 n1 n1) ∧ ww_V u Bs (HH X1 Y1 n1 n1) (KB2 e n1)
def KL2 (e n : Nat) : ww_R → Prop := fun r2 => ∃ b X2 Y2, r2 = (.inl (some (.long b)), HH X2 Y2 n n) ∧ X2 7 0 = nI e ∧ (e = 0 → Y2 31 0 = b) ∧ Re X2 Y2 n
def KL (u : Nat) (Bs : List Value) : ww_R → Prop := fun r1 => ∃ e X1 Y1 n1, e < 100 ∧ r1 = (.inl (some (.int (nI e))), HH X1 Y1 n1 n1) ∧ ww_V u Bs (HH X1 Y1 n1 n1) (KL2 e n1)
theorem KI_in {u : Nat} {Bs : List Value} {e : Nat} {X1 : Nat → Nat → Int32} {Y1 : Nat → Nat → Int64} {n1 : Nat} (he : e < 100) (h : ww_V u Bs (HH X1 Y1 n1 n1) (KI2 e n1)) : KI u Bs (.inl (some (.int (nI e))), HH X1 Y1 n1 n1) := ⟨e, X1, Y1, n1, he, rfl, h⟩
theorem KB_in {u : Nat} {Bs : List Value} {e : Nat} {X1 : Nat → Nat → Int32} {Y1 : Nat → Nat → Int64} {n1 : Nat} (he : e < 100) (h : ww_V u Bs (HH X1 Y1 n1 n1) (KB2 e n1)) : KB u Bs (.inl (some (.int (nI e))), HH X1 Y1 n1 n1) := ⟨e, X1, Y1, n1, he, rfl, h⟩
theorem KL_in {u : Nat} {Bs : List Value} {e : Nat} {X1 : Nat → Nat → Int32} {Y1 : Nat → Nat → Int64} {n1 : Nat} (he : e < 100) (h : ww_V u Bs (HH X1 Y1 n1 n1) (KL2 e n1)) : KL u Bs (.inl (some (.int (nI e))), HH X1 Y1 n1 n1) := ⟨e, X1, Y1, n1, he, rfl, h⟩
theorem KI2_in {e n : Nat} {b : Int32} {X2 : Nat → Nat → Int32} {Y2 : Nat → Nat → Int64} (h1 : X2 7 0 = nI e) (h2 : e = 0 → Y2 31 0 = b.toInt64) (h3 : Re X2 Y2 n) : KI2 e n (.inl (some (.int b)), HH X2 Y2 n n) := ⟨b, X2, Y2, rfl, h1, h2, h3⟩
theorem KB2_in {e n : Nat} {b : Bool} {X2 : Nat → Nat → Int32} {Y2 : Nat → Nat → Int64} (h1 : X2 7 0 = nI e) (h2 : e = 0 → Y2 31 0 = if b = true then lN 1 else lN 0) (h3 : Re X2 Y2 n) : KB2 e n (.inl (some (.int (b2 b))), HH X2 Y2 n n) := ⟨b, X2, Y2, rfl, h1, h2, h3⟩
theorem KL2_in {e n : Nat} {b : Int64} {X2 : Nat → Nat → Int32} {Y2 : Nat → Nat → Int64} (h1 : X2 7 0 = nI e) (h2 : e = 0 → Y2 31 0 = b) (h3 : Re X2 Y2 n) : KL2 e n (.inl (some (.long b)), HH X2 Y2 n n) := ⟨b, X2, Y2, rfl, h1, h2, h3⟩
theorem ww_V_mono {t : Nat} {As : List Value} {h : List ww_E} {Q Q' : ww_R → Prop} (k : ∀ r, Q r → Q' r) (e : ww_V t As h Q) : ww_V t As h Q' := by
  obtain ⟨f, r, h1, h2⟩ := e
  exact ⟨f, r, h1, k r h2⟩
/-- what stands behind an op, at the loop's increment -/
def LK (L : Nat) (xs : Nat → Int32) (i : Int32) (k s : Nat) (Q : ww_R → Prop) : Prop := ∀ X' Y' n' k' s' j5 j6 j7, Re X' Y' n' → k' ≤ k + 8 → s' ≤ s + 124 → ww_W (some (L, xs)) 127 1561 [.retAddr 1, .ref 0, .ref 7, .ref 31, .int i, j5, j6, j7] [] (HH X' Y' n' n') k' s' Q
