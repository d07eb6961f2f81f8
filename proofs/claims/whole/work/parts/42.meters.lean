/-! readings: how the relation moves -/
theorem cu_inj {a b : Nat} (h : a ≠ b) : cu a ≠ cu b := by unfold cu; omega
theorem cu_far {a b j k : Nat} (h : a ≠ b) (hj : j ≤ 5) (hk : k ≤ 5) : cu a + j ≠ cu b + k := by unfold cu; omega
/-- one customer's cells have changed, and the reference's of its number -/
theorem RR_cust {X X' : Nat → Nat → Int32} {Y Y' : Nat → Nat → Int64} {n N P t c : Nat} (h : RR X Y n N P t) (hc : c < n) (hX : ∀ a, ¬ (a = 7 ∨ (14 ≤ a ∧ a ≤ 23) ∨ (26 ≤ a ∧ a ≤ 28) ∨ (cu c ≤ a ∧ a ≤ cu c + 5)) → X' a = X a) (h7 : ∀ k, 0 < k → X' 7 k = X 7 k) (hY : ∀ a, ¬ (a = 29 ∨ a = 30 ∨ a = 31 ∨ a = cu c) → Y' a = Y a)
    (h19 : ∀ a i, (a = 19 ∨ a = 26) → i ≠ c → X' a i = X a i) (h20 : ∀ a i, 20 ≤ a → a ≤ 23 → ¬ (24 * c ≤ i ∧ i < 24 * c + 24) → X' a i = X a i) (h27 : ∀ a i, 27 ≤ a → a ≤ 28 → ¬ (6 * c ≤ i ∧ i < 6 * c + 6) → X' a i = X a i) (h29 : ∀ i, ¬ (6 * c ≤ i ∧ i < 6 * c + 6) → Y' 29 i = Y 29 i) (h30 : ∀ i, i ≠ c → Y' 30 i = Y 30 i)
    (hcu : RCU X' Y' N t c) : RR X' Y' n N P t := by
  obtain ⟨a1, a2, a3, a4, a5, a6, a7, a8, a9, a10⟩ := h
  have g := cu_ge c
  refine ⟨a1, a2, by rw [hX 0 (by omega), a3], by rw [h7 3 (by decide), a4], by rw [hX 0 (by omega), a5], by rw [h7 15 (by decide), a6], ?_, ?_, fun d hd => ?_, fun d h1 h2 => ?_⟩
  · exact RNET_fr a7 (fun a ha => hX a (by omega)) (h7 1 (by decide)) (h7 2 (by decide))
  · exact RTAR_fr a8 (by rw [hX 3 (by omega)]) (h7 21 (by decide)) (hX 4 (by omega)) (hX 24 (by omega)) (hY 5 (by omega)) (hY 25 (by omega))
  · by_cases hdc : d = c
    · rw [hdc]; exact hcu
    · have g2 := cu_ge d
      refine RCU_fr (a9 d hd) (fun k hk => hX _ ?_) (hY _ ?_) (fun a ha => ?_) (fun a i h1 h2 h3 => ?_) (fun a i h1 h2 h3 => ?_) (fun i h3 => ?_) ?_
      · unfold cu at *; omega
      · unfold cu at *; omega
      · rcases ha with rfl | rfl | rfl
        · rw [hX 13 (by omega)]
        · exact h19 19 d (Or.inl rfl) hdc
        · exact h19 26 d (Or.inr rfl) hdc
      · exact h20 a _ h1 h2 (by omega)
      · exact h27 a _ h1 h2 (by omega)
      · exact h29 _ (by omega)
      · exact h30 d hdc
  · have h3 := a10 d h1 h2
    unfold RFR
    rw [h19 19 d (Or.inl rfl) (by omega), h19 26 d (Or.inr rfl) (by omega), h30 d (by omega)]
    exact h3
theorem RD_add {m t s Z0 : Nat} {f : Bool} {D S Z : Nat → Nat} {F : Nat → Bool} (h : RD m t D S Z F) (hs : s < Z0) (hZ : Z0 ≤ 10000) (hf : f = false → 0 < m → Z0 = Z (m - 1)) : RD (m + 1) t (fun i => if i = m then t else D i) (fun i => if i = m then s else S i) (fun i => if i = m then Z0 else Z i) (fun i => if i = m then f else F i) := by
  intro i hi
  by_cases h1 : i = m
  · subst h1
    simp only [if_true]
    exact ⟨Nat.le_refl t, hs, hZ, fun h => by omega⟩
  · obtain ⟨a1, a2, a3, a4⟩ := h i (by omega)
    simp only [if_neg h1]
    refine ⟨a1, a2, a3, fun h2 => ?_⟩
    by_cases h3 : i + 1 = m
    · simp only [if_pos h3]
      refine ⟨a1, fun hff => ?_⟩
      rw [hf hff (by omega)]
      congr 1; omega
    · simp only [if_neg h3]
      exact a4 (by omega)
theorem RR_read {X X' : Nat → Nat → Int32} {Y Y' : Nat → Nat → Int64} {n N P t c p m b s Z0 : Nat} {f : Bool} {D S Z E : Nat → Nat} {F : Nat → Bool} (h : RR X Y n N P t) (hc : c < n) (hp : X (cu c) 0 = nI p ∧ X 13 c = nI p ∧ p < N) (hr : RRD X c t m D S Z F) (hb : RBL X Y c t m D b E) (hm : m < 24) (hs : s < Z0) (hZ : Z0 ≤ 10000) (hf : f = false → 0 < m → Z0 = Z (m - 1))
    (hX : ∀ a, ¬ (a = 7 ∨ (14 ≤ a ∧ a ≤ 23) ∨ (cu c ≤ a ∧ a ≤ cu c + 4)) → X' a = X a) (h7 : ∀ k, 0 < k → X' 7 k = X 7 k) (hY : ∀ a, a ≠ 31 → Y' a = Y a)
    (e0 : X' (cu c) = upd (X (cu c)) 5 (nI (m + 1))) (e1 : X' (cu c + 1) = upd (X (cu c + 1)) m (nI t)) (e2 : X' (cu c + 2) = upd (X (cu c + 2)) m (nI s)) (e3 : X' (cu c + 3) = upd (X (cu c + 3)) m (nI Z0)) (e4 : X' (cu c + 4) = upd (X (cu c + 4)) m (b2 f))
    (e19 : X' 19 = upd (X 19) c (nI (m + 1))) (e20 : X' 20 = upd (X 20) (24 * c + m) (nI t)) (e21 : X' 21 = upd (X 21) (24 * c + m) (nI s)) (e22 : X' 22 = upd (X 22) (24 * c + m) (nI Z0)) (e23 : X' 23 = upd (X 23) (24 * c + m) (b2 f)) : RR X' Y' n N P t := by
  have g := cu_ge c
  refine RR_cust h hc (fun a ha => hX a (by omega)) h7 (fun a ha => hY a (by omega)) (fun a i ha hi => ?_) (fun a i h1 h2 h3 => ?_) (fun a i h1 h2 _ => by rw [hX a (by omega)]) (fun i _ => by rw [hY 29 (by decide)]) (fun i _ => by rw [hY 30 (by decide)]) ?_
  · rcases ha with rfl | rfl
    · rw [e19, upd_e, if_neg hi]
    · rw [hX 26 (by omega)]
  · have h4 : a = 20 ∨ a = 21 ∨ a = 22 ∨ a = 23 := by omega
    rcases h4 with rfl | rfl | rfl | rfl
    · rw [e20, upd_e, if_neg (by omega)]
    · rw [e21, upd_e, if_neg (by omega)]
    · rw [e22, upd_e, if_neg (by omega)]
    · rw [e23, upd_e, if_neg (by omega)]
  · obtain ⟨r1, r2, r3, r4, r5⟩ := hr
    obtain ⟨q1, q2, q3, q4, q5, q6, q7⟩ := hb
    refine ⟨p, m + 1, b, fun i => if i = m then t else D i, fun i => if i = m then s else S i, fun i => if i = m then Z0 else Z i, E, fun i => if i = m then f else F i, ⟨?_, ?_, hp.2.2⟩, ⟨hm, ?_, ?_, RD_add r4 hs hZ hf, fun i hi => ?_⟩, q1, ?_, ?_, fun _ => Nat.succ_pos m, fun i hi => ?_, ?_, ?_⟩
    · rw [e0]; exact hp.1
    · rw [hX 13 (by omega)]; exact hp.2.1
    · rw [e0, upd_e, if_pos rfl]
    · rw [e19, upd_e, if_pos rfl]
    · rw [e1, e2, e3, e4, e20, e21, e22, e23]
      simp only [upd_e]
      by_cases h1 : i = m
      · subst h1
        simp only [if_true]
        exact ⟨trivial, trivial, trivial, trivial, trivial, trivial, trivial, trivial⟩
      · have h2 : ¬ 24 * c + i = 24 * c + m := by omega
        simp only [if_neg h1, if_neg h2]
        exact r5 i (by omega)
    · rw [e0]; exact q2
    · rw [hX 26 (by omega)]; exact q3
    · obtain ⟨w1, w2, w3, w4, w5⟩ := q5 i hi
      have hm0 : ¬ 0 = m := by have := q4 (by omega); omega
      have hfr : frm (fun i => if i = m then t else D i) E i = frm D E i := by
        unfold frm
        simp only [if_neg hm0]
      rw [hfr, hX (cu c + 5) (by omega), hX 27 (by omega), hX 28 (by omega)]
      exact ⟨w1, w2, w3, w4, w5⟩
    · rw [hY (cu c) (by omega), hY 29 (by decide)]; exact q6
    · rw [hY (cu c) (by omega), hY 30 (by decide)]; exact q7
theorem RR_amend {X X' : Nat → Nat → Int32} {Y Y' : Nat → Nat → Int64} {n N P t c p m b s i0 : Nat} {D S Z E : Nat → Nat} {F : Nat → Bool} (h : RR X Y n N P t) (hc : c < n) (hp : X (cu c) 0 = nI p ∧ X 13 c = nI p ∧ p < N) (hr : RRD X c t m D S Z F) (hb : RBL X Y c t m D b E) (hi0 : i0 < m) (hs : s < Z i0)
    (hX : ∀ a, ¬ (a = 7 ∨ (14 ≤ a ∧ a ≤ 18) ∨ a = 21 ∨ a = cu c + 2) → X' a = X a) (h7 : ∀ k, 0 < k → X' 7 k = X 7 k) (hY : ∀ a, a ≠ 31 → Y' a = Y a)
    (e2 : X' (cu c + 2) = upd (X (cu c + 2)) i0 (nI s)) (e21 : X' 21 = upd (X 21) (24 * c + i0) (nI s)) : RR X' Y' n N P t := by
  have g := cu_ge c
  obtain ⟨r1, r2, r3, r4, r5⟩ := hr
  refine RR_cust h hc (fun a ha => hX a (by omega)) h7 (fun a ha => hY a (by omega)) (fun a i ha hi => ?_) (fun a i h1 h2 h3 => ?_) (fun a i h1 h2 _ => by rw [hX a (by omega)]) (fun i _ => by rw [hY 29 (by decide)]) (fun i _ => by rw [hY 30 (by decide)]) ?_
  · rw [hX a (by omega)]
  · by_cases h4 : a = 21
    · subst h4; rw [e21, upd_e, if_neg (by omega)]
    · rw [hX a (by omega)]
  · refine ⟨p, m, b, D, fun i => if i = i0 then s else S i, Z, E, F, ⟨?_, ?_, hp.2.2⟩, ⟨r1, ?_, ?_, fun i hi => ?_, fun i hi => ?_⟩, ?_⟩
    · rw [hX (cu c) (by omega)]; exact hp.1
    · rw [hX 13 (by omega)]; exact hp.2.1
    · rw [hX (cu c) (by omega)]; exact r2
    · rw [hX 19 (by omega)]; exact r3
    · obtain ⟨a1, a2, a3, a4⟩ := r4 i hi
      refine ⟨a1, ?_, a3, a4⟩
      by_cases h1 : i = i0
      · subst h1; simp only [if_true]; exact hs
      · simp only [if_neg h1]; exact a2
    · obtain ⟨w1, w2, w3, w4, w5⟩ := r5 i hi
      rw [hX (cu c + 1) (by omega), hX 20 (by omega), e2, e21, hX (cu c + 3) (by omega), hX 22 (by omega), hX (cu c + 4) (by omega), hX 23 (by omega)]
      simp only [upd_e]
      by_cases h1 : i = i0
      · subst h1
        simp only [if_true]
        exact ⟨w1, w2, trivial, trivial, w5⟩
      · have h2 : ¬ 24 * c + i = 24 * c + i0 := by omega
        simp only [if_neg h1, if_neg h2]
        exact ⟨w1, w2, w3, w4, w5⟩
    · exact RBL_fr hb (by rw [hX (cu c) (by omega)]) (hX _ (by omega)) (by rw [hX 26 (by omega)]) (fun a i h1 h2 _ => by rw [hX a (by omega)]) (hY _ (by omega)) (by rw [hY 30 (by decide)]) (fun i _ => by rw [hY 29 (by decide)])
