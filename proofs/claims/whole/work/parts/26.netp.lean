/-! sets of places, spread over ends: the pure picture (fb_ct: kit/laws/COUNTS) -/
def fb_ct (p : Nat → Bool) : Nat → Nat
  | 0 => 0
  | n + 1 => fb_ct p n + (if p n then 1 else 0)
theorem fb_ct_succ (p : Nat → Bool) (n : Nat) : fb_ct p (n + 1) = fb_ct p n + (if p n then 1 else 0) := rfl
theorem fb_ct_le (p : Nat → Bool) : ∀ n, fb_ct p n ≤ n
  | 0 => Nat.le_refl _
  | n + 1 => by
    have h := fb_ct_le p n
    rw [fb_ct_succ]
    split <;> omega
theorem fb_ct_step (p : Nat → Bool) (m : Nat) : ∀ n, fb_ct p m ≤ fb_ct p (m + n)
  | 0 => Nat.le_refl _
  | n + 1 => by
    have h := fb_ct_step p m n
    show fb_ct p m ≤ fb_ct p (m + n + 1)
    rw [fb_ct_succ]
    omega
theorem fb_ct_mono (p : Nat → Bool) {m n : Nat} (h : m ≤ n) : fb_ct p m ≤ fb_ct p n := by
  have := fb_ct_step p m (n - m)
  rwa [Nat.add_sub_cancel' h] at this
theorem fb_ct_cong {p q : Nat → Bool} : ∀ {n : Nat}, (∀ k, k < n → p k = q k) → fb_ct p n = fb_ct q n
  | 0, _ => rfl
  | n + 1, h => by
    rw [fb_ct_succ, fb_ct_succ, fb_ct_cong (fun k hk => h k (by omega)), h n (by omega)]
/-- one place changed -/
theorem fb_ct_out (p : Nat → Bool) (b : Bool) {i n : Nat} (h : n ≤ i) : fb_ct (fun k => if k = i then b else p k) n = fb_ct p n :=
  fb_ct_cong fun k hk => if_neg (by omega)
theorem fb_ct_upd (p : Nat → Bool) (b : Bool) {i : Nat} : ∀ {n : Nat}, i < n → fb_ct (fun k => if k = i then b else p k) n + (if p i then 1 else 0) = fb_ct p n + (if b then 1 else 0)
  | 0, h => absurd h (Nat.not_lt_zero i)
  | n + 1, h => by
    rw [fb_ct_succ, fb_ct_succ]
    rcases Nat.lt_or_ge i n with q | q
    · have := fb_ct_upd p b q
      have e : (if n = i then b else p n) = p n := if_neg (by omega)
      rw [e]
      omega
    · have e : i = n := by omega
      subst e
      rw [fb_ct_out p b (Nat.le_refl _)]
      simp only [if_true]
      omega
theorem fb_ct_sub {p q : Nat → Bool} : ∀ {n : Nat}, (∀ k, k < n → p k = true → q k = true) → fb_ct p n ≤ fb_ct q n
  | 0, _ => Nat.le_refl _
  | n + 1, h => by
    have h1 := fb_ct_sub (n := n) (p := p) (q := q) (fun k hk => h k (by omega))
    have h2 := h n (by omega)
    rw [fb_ct_succ, fb_ct_succ]
    cases hp : p n <;> cases hq : q n <;> simp_all <;> omega
theorem fb_ct_or {p q : Nat → Bool} : ∀ {n : Nat}, (∀ k, k < n → ¬ (p k = true ∧ q k = true)) → fb_ct (fun k => p k || q k) n = fb_ct p n + fb_ct q n
  | 0, _ => rfl
  | n + 1, h => by
    have h1 := fb_ct_or (n := n) (p := p) (q := q) (fun k hk => h k (by omega))
    have h2 := h n (by omega)
    rw [fb_ct_succ, fb_ct_succ, fb_ct_succ, h1]
    cases hp : p n <;> cases hq : q n <;> simp_all <;> omega
theorem fb_ct_not (p : Nat → Bool) : ∀ n, fb_ct p n + fb_ct (fun k => !p k) n = n
  | 0 => rfl
  | n + 1 => by
    have h := fb_ct_not p n
    rw [fb_ct_succ, fb_ct_succ]
    cases p n <;> simp <;> omega
theorem fb_ct_split (p : Nat → Bool) (m : Nat) : ∀ n, fb_ct p (m + n) = fb_ct p m + fb_ct (fun k => p (m + k)) n
  | 0 => rfl
  | n + 1 => by
    have h := fb_ct_split p m n
    show fb_ct p (m + n + 1) = _
    rw [fb_ct_succ, fb_ct_succ, h, Nat.add_assoc]
theorem fb_ct_zero {p : Nat → Bool} : ∀ {n : Nat}, fb_ct p n = 0 ↔ ∀ k, k < n → p k = false
  | 0 => ⟨fun _ k hk => absurd hk (Nat.not_lt_zero k), fun _ => rfl⟩
  | n + 1 => by
    have h := fb_ct_zero (p := p) (n := n)
    rw [fb_ct_succ]
    constructor
    · intro e k hk
      have e1 : fb_ct p n = 0 := by omega
      rcases Nat.lt_or_ge k n with q | q
      · exact h.mp e1 k q
      · have ek : k = n := by omega
        subst ek
        cases hp : p k
        · rfl
        · simp [hp] at e
    · intro a
      rw [h.mpr (fun k hk => a k (by omega)), a n (by omega)]
      rfl
theorem fb_ct_pos {p : Nat → Bool} {n : Nat} : 0 < fb_ct p n ↔ ∃ k, k < n ∧ p k = true := by
  constructor
  · intro h
    refine Classical.byContradiction fun hx => ?_
    have := fb_ct_zero.mpr (fun k hk => by
      cases hp : p k
      · rfl
      · exact absurd ⟨k, hk, hp⟩ hx : ∀ k, k < n → p k = false)
    omega
  · rintro ⟨k, hk, hp⟩
    rcases Nat.eq_zero_or_pos (fb_ct p n) with e | e
    · have := fb_ct_zero.mp e k hk
      rw [this] at hp
      cases hp
    · exact e
theorem fb_ct_all {p : Nat → Bool} {n : Nat} : fb_ct p n = n ↔ ∀ k, k < n → p k = true := by
  have h := fb_ct_not p n
  constructor
  · intro e k hk
    have z : fb_ct (fun k => !p k) n = 0 := by omega
    have := fb_ct_zero.mp z k hk
    cases hp : p k
    · simp [hp] at this
    · rfl
  · intro a
    have z : fb_ct (fun k => !p k) n = 0 := fb_ct_zero.mpr (fun k hk => by simp [a k hk])
    omega
theorem bk {P : Nat → Prop} {m : Nat} (hm : P m) (hs : ∀ e, e < m → P (e + 1) → P e) : ∀ {e : Nat}, e ≤ m → P e := by
  have key : ∀ d e, e + d = m → P e := by
    intro d
    induction d with
    | zero => intro e he; have h : e = m := by omega
              rw [h]; exact hm
    | succ d ih => intro e he; exact hs e (by omega) (ih (e + 1) (by omega))
  intro e he
  exact key (m - e) e (by omega)
def stp (T : Nat → Bool) (nd : Nat → Nat) (G : Nat → Bool) (e : Nat) : Nat → Bool := if (T e && (G (nd e) || G (12 + e / 2))) = true then fun j => G j || (j == nd e || j == 12 + e / 2) else G
def ps (T : Nat → Bool) (nd : Nat → Nat) (G : Nat → Bool) : Nat → Nat → Bool
  | 0 => G
  | k + 1 => stp T nd (ps T nd G k) k
def itr (T : Nat → Bool) (nd : Nat → Nat) (m : Nat) (G : Nat → Bool) : Nat → Nat → Bool
  | 0 => G
  | i + 1 => ps T nd (itr T nd m G i) m
def Sp (T : Nat → Bool) (nd : Nat → Nat) (m : Nat) (G : Nat → Bool) : Nat → Bool := itr T nd m G 28
theorem ps_0 {T : Nat → Bool} {nd : Nat → Nat} {G : Nat → Bool} : ps T nd G 0 = G := rfl
theorem ps_s {T : Nat → Bool} {nd : Nat → Nat} {G : Nat → Bool} {k : Nat} : ps T nd G (k + 1) = stp T nd (ps T nd G k) k := rfl
theorem stp_no {T : Nat → Bool} {nd : Nat → Nat} {G : Nat → Bool} {e : Nat} (h : T e = false) : stp T nd G e = G := by
  unfold stp; simp [h]
theorem stp_none {T : Nat → Bool} {nd : Nat → Nat} {G : Nat → Bool} {e : Nat} (h1 : G (nd e) = false) (h2 : G (12 + e / 2) = false) : stp T nd G e = G := by
  unfold stp; simp [h1, h2]
theorem stp_yes {T : Nat → Bool} {nd : Nat → Nat} {G : Nat → Bool} {e : Nat} (h : T e = true) (h1 : ¬ (G (nd e) = false ∧ G (12 + e / 2) = false)) : stp T nd G e = fun j => G j || (j == nd e || j == 12 + e / 2) := by
  unfold stp
  rw [if_pos]
  rw [h]
  cases ha : G (nd e) <;> cases hb : G (12 + e / 2) <;> simp_all
theorem stp_same {T : Nat → Bool} {nd : Nat → Nat} {G : Nat → Bool} {e : Nat} (h : G (12 + e / 2) = G (nd e)) : stp T nd G e = G := by
  cases hT : T e
  · exact stp_no hT
  · cases ha : G (nd e)
    · exact stp_none ha (h.trans ha)
    · rw [stp_yes hT (by simp [ha])]
      funext j
      by_cases h1 : j = nd e
      · subst h1; simp [ha]
      · by_cases h2 : j = 12 + e / 2
        · subst h2; simp [h.trans ha]
        · simp [h1, h2]
theorem stp_le {T : Nat → Bool} {nd : Nat → Nat} {G : Nat → Bool} {e j : Nat} (h : G j = true) : stp T nd G e j = true := by
  unfold stp
  split
  · simp [h]
  · exact h
theorem stp_diff {T : Nat → Bool} {nd : Nat → Nat} {G : Nat → Bool} {e : Nat} (h : T e = true) (h1 : G (12 + e / 2) ≠ G (nd e)) : ∃ j, G j = false ∧ stp T nd G e j = true := by
  rw [stp_yes h (by intro h2; exact h1 (h2.2.trans h2.1.symm))]
  cases ha : G (nd e)
  · exact ⟨nd e, ha, by simp⟩
  · cases hb : G (12 + e / 2)
    · exact ⟨12 + e / 2, hb, by simp⟩
    · exact absurd (hb.trans ha.symm) h1
theorem ps_le {T : Nat → Bool} {nd : Nat → Nat} {G : Nat → Bool} {j : Nat} (h : G j = true) : ∀ k, ps T nd G k j = true
  | 0 => h
  | k + 1 => stp_le (ps_le h k)
theorem ne_ex {G H : Nat → Bool} (hm : ∀ j, G j = true → H j = true) (hne : H ≠ G) : ∃ j, G j = false ∧ H j = true := by
  refine Classical.byContradiction fun hx => hne (funext fun j => ?_)
  cases hg : G j
  · cases hh : H j
    · rfl
    · exact absurd ⟨j, hg, hh⟩ hx
  · exact hm j hg
theorem ps_ne {T : Nat → Bool} {nd : Nat → Nat} {G : Nat → Bool} {k : Nat} (h : ps T nd G k ≠ G) : ps T nd G (k + 1) ≠ G := by
  obtain ⟨j, h1, h2⟩ := ne_ex (fun j hj => ps_le hj k) h
  intro e
  have h3 : ps T nd G (k + 1) j = true := stp_le h2
  rw [e, h1] at h3
  cases h3
theorem ps_ne1 {T : Nat → Bool} {nd : Nat → Nat} {G : Nat → Bool} {k : Nat} (h : T k = true) (h1 : ps T nd G k (12 + k / 2) ≠ ps T nd G k (nd k)) : ps T nd G (k + 1) ≠ G := by
  obtain ⟨j, h2, h3⟩ := stp_diff (G := ps T nd G k) h h1
  intro e
  have h4 : ps T nd G (k + 1) j = true := h3
  rw [e] at h4
  rw [ps_le h4 k] at h2
  cases h2
def sup (G : Nat → Bool) : Prop := ∀ j, 28 ≤ j → G j = false
theorem stp_sup {T : Nat → Bool} {nd : Nat → Nat} {G : Nat → Bool} {e : Nat} (h : sup G) (hn : nd e < 12) (he : e < 32) : sup (stp T nd G e) := by
  intro j hj
  unfold stp
  split
  · have h1 : ¬ j = nd e := by omega
    have h2 : ¬ j = 12 + e / 2 := by omega
    simp [h j hj, h1, h2]
  · exact h j hj
theorem ps_sup {T : Nat → Bool} {nd : Nat → Nat} {G : Nat → Bool} (h : sup G) : ∀ k, k ≤ 32 → (∀ e, e < k → nd e < 12) → sup (ps T nd G k)
  | 0, _, _ => h
  | k + 1, hk, hn => stp_sup (ps_sup h k (by omega) (fun e he => hn e (by omega))) (hn k (by omega)) (by omega)
theorem itr_sup {T : Nat → Bool} {nd : Nat → Nat} {m : Nat} {G : Nat → Bool} (h : sup G) (hm : m ≤ 32) (hn : ∀ e, e < m → nd e < 12) : ∀ i, sup (itr T nd m G i)
  | 0 => h
  | i + 1 => ps_sup (itr_sup h hm hn i) m hm hn
theorem itr_le {T : Nat → Bool} {nd : Nat → Nat} {m : Nat} {G : Nat → Bool} {j : Nat} (h : G j = true) : ∀ i, itr T nd m G i j = true
  | 0 => h
  | i + 1 => ps_le (itr_le h i) m
theorem itr_st {T : Nat → Bool} {nd : Nat → Nat} {m : Nat} {G : Nat → Bool} {i : Nat} (h : ps T nd (itr T nd m G i) m = itr T nd m G i) : ∀ d, itr T nd m G (i + d) = itr T nd m G i
  | 0 => rfl
  | d + 1 => by
    show ps T nd (itr T nd m G (i + d)) m = _
    rw [itr_st h d, h]
theorem ct_lt {p q : Nat → Bool} : ∀ {n : Nat}, (∀ k, k < n → p k = true → q k = true) → (∃ k, k < n ∧ p k = false ∧ q k = true) → fb_ct p n < fb_ct q n
  | 0, _, ⟨k, hk, _⟩ => absurd hk (Nat.not_lt_zero k)
  | n + 1, h, ⟨k, hk, h1, h2⟩ => by
    rw [fb_ct_succ, fb_ct_succ]
    rcases Nat.lt_or_ge k n with hkn | hkn
    · have h3 := ct_lt (n := n) (fun k hk => h k (by omega)) ⟨k, hkn, h1, h2⟩
      have h4 := h n (by omega)
      cases hp : p n <;> cases hq : q n <;> simp_all <;> omega
    · have e : k = n := by omega
      subst e
      have h3 := fb_ct_sub (n := k) (p := p) (q := q) (fun k hk => h k (by omega))
      rw [h1, h2]
      simp
      omega
theorem itr_28 {T : Nat → Bool} {nd : Nat → Nat} {m : Nat} {G : Nat → Bool} (h : sup G) (hm : m ≤ 32) (hn : ∀ e, e < m → nd e < 12) : ps T nd (itr T nd m G 28) m = itr T nd m G 28 := by
  refine Classical.byContradiction fun hne => ?_
  have key : ∀ i, i ≤ 28 → i ≤ fb_ct (itr T nd m G i) 28 := by
    intro i
    induction i with
    | zero => intro _; exact Nat.zero_le _
    | succ i ih =>
      intro hi
      have h1 := ih (by omega)
      have h2 : itr T nd m G (i + 1) ≠ itr T nd m G i := by
        intro e
        have h3 := itr_st (i := i) e (28 - i)
        rw [Nat.add_sub_cancel' (by omega)] at h3
        exact hne (by rw [h3]; exact e)
      obtain ⟨j, h4, h5⟩ := ne_ex (G := itr T nd m G i) (fun j hj => ps_le hj m) h2
      have h6 : j < 28 := by
        rcases Nat.lt_or_ge j 28 with h7 | h7
        · exact h7
        · have h8 := itr_sup (T := T) h hm hn (i + 1) j h7
          exact absurd ((show itr T nd m G (i + 1) j = true from h5).symm.trans h8) (by decide)
      have h9 := ct_lt (n := 28) (p := itr T nd m G i) (q := itr T nd m G (i + 1)) (fun j _ hj => ps_le hj m) ⟨j, h6, h4, h5⟩
      omega
  have h1 := key 28 (Nat.le_refl _)
  have h2 := fb_ct_le (itr T nd m G 28) 28
  have h3 := fb_ct_all.mp (Nat.le_antisymm h2 h1)
  obtain ⟨j, h4, h5⟩ := ne_ex (G := itr T nd m G 28) (fun j hj => ps_le hj m) hne
  rcases Nat.lt_or_ge j 28 with h6 | h6
  · rw [h3 j h6] at h4; cases h4
  · have h7 := ps_sup (T := T) (itr_sup (T := T) h hm hn 28) m hm hn j h6
    rw [h5] at h7; cases h7
theorem Sp_of {T : Nat → Bool} {nd : Nat → Nat} {m : Nat} {G : Nat → Bool} {i : Nat} (hi : i ≤ 28) (h : ps T nd (itr T nd m G i) m = itr T nd m G i) : itr T nd m G i = Sp T nd m G := by
  have h1 := itr_st h (28 - i)
  rw [Nat.add_sub_cancel' hi] at h1
  exact h1.symm
theorem Sp_sup {T : Nat → Bool} {nd : Nat → Nat} {m : Nat} {G : Nat → Bool} (h : sup G) (hm : m ≤ 32) (hn : ∀ e, e < m → nd e < 12) : sup (Sp T nd m G) := itr_sup h hm hn 28
theorem or2_z {s : Int32} {a b : Nat} (ha : a < 32) (hb : b < 32) : (s &&& (ob a ||| ob b) = 0) = (bt s a = false ∧ bt s b = false) := by
  rw [b_z]
  apply propext
  constructor
  · intro h
    have h1 := h a ha
    have h2 := h b hb
    rw [b_and, b_or, b_ob ha, b_ob hb] at h1 h2
    simp at h1 h2
    exact ⟨h1, h2⟩
  · rintro ⟨h1, h2⟩ i hi
    rw [b_and, b_or, b_ob ha, b_ob hb]
    by_cases e1 : i = a
    · subst e1; simp [h1]
    · by_cases e2 : i = b
      · subst e2; simp [h2]
      · simp [e1, e2]
theorem b_or2 {s : Int32} {a b : Nat} (ha : a < 32) (hb : b < 32) (i : Nat) : bt (s ||| (ob a ||| ob b)) i = (bt s i || (i == a || i == b)) := by
  rw [b_or, b_or, b_ob ha, b_ob hb]
  by_cases e1 : i = a <;> by_cases e2 : i = b <;> simp [e1, e2]
