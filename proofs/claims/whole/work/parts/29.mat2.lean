/-! ===== minors, unions, new numbers, told bases: all of them are ranks ===== -/
/-- a set of those that are left, in the old numbers -/
def sprd (left s : Nat) : Nat := wc_fd 7 (fun e a => if left.testBit e && s.testBit (pc (left % 2 ^ e)) then a ||| 2 ^ e else a) 0
theorem fd_or (k : Nat) (P : Nat → Bool) (i : Nat) : (wc_fd k (fun e a => if P e then a ||| 2 ^ e else a) 0).testBit i = (decide (i < k) && P i) := by
  induction k with
  | zero => rw [wc_fd_0, Nat.zero_testBit, decide_eq_false (Nat.not_lt_zero i), Bool.false_and]
  | succ k ih =>
    rw [wc_fd_s]
    by_cases hi : i = k
    · subst hi
      rw [decide_eq_true (show i < i + 1 by omega), Bool.true_and]
      cases hp : P i with
      | true => rw [if_pos rfl, Nat.testBit_or, Nat.testBit_two_pow, decide_eq_true rfl, Bool.or_true]
      | false => rw [if_neg (by decide), ih, hp, Bool.and_false]
    · rw [show decide (i < k + 1) = decide (i < k) from by rw [decide_eq_decide]; omega, ← ih]
      split
      · rw [Nat.testBit_or, Nat.testBit_two_pow, decide_eq_false (fun c => hi c.symm), Bool.or_false]
      · rfl
theorem t_sprd (left s i : Nat) : (sprd left s).testBit i = (decide (i < 7) && (left.testBit i && s.testBit (pc (left % 2 ^ i)))) := fd_or 7 _ i
theorem nth_ok : ∀ left, left < 128 → ∀ k, k < pc left → ∃ e, e < 7 ∧ left.testBit e = true ∧ pc (left % 2 ^ e) = k ∧ wc_al 7 (fun j => !left.testBit j || !(pc (left % 2 ^ j) == k) || j == e) = true := by
  have h : ∀ left, left < 128 → ∀ k, k < 7 → k < pc left → wc_al 7 (fun e => !(left.testBit e && (pc (left % 2 ^ e) == k) && wc_al 7 (fun j => !left.testBit j || !(pc (left % 2 ^ j) == k) || j == e))) = false := by decide +kernel
  intro left hl k hk
  have hk7 : k < 7 := Nat.lt_of_lt_of_le hk (pc_le left)
  obtain ⟨e, he, h1⟩ := (wc_al_false _ _).mp (h left hl k hk7 hk)
  rw [Bool.not_eq_false', Bool.and_eq_true, Bool.and_eq_true] at h1
  exact ⟨e, he, h1.1.1, by simpa using h1.1.2, h1.2⟩
theorem lt_of_bits {n s : Nat} (h : ∀ i, n ≤ i → s.testBit i = false) : s < 2 ^ n := by
  apply Nat.lt_pow_two_of_testBit
  intro i hi
  exact h i hi
theorem sprd_sub {left s i : Nat} (h : (sprd left s).testBit i = true) : left.testBit i = true := by
  rw [t_sprd] at h
  cases hl : left.testBit i with
  | true => rfl
  | false => rw [hl] at h; simp at h
theorem sprd_lt {n left s : Nat} (hl : left < 2 ^ n) : sprd left s < 2 ^ n := by
  apply lt_of_bits
  intro i hi
  cases h : (sprd left s).testBit i with
  | false => rfl
  | true =>
    have := sprd_sub h
    rw [Nat.testBit_lt_two_pow (Nat.lt_of_lt_of_le hl (p2_mono hi))] at this
    cases this
theorem sprd_or {left s k : Nat} (hl : left < 128) (hk : k < pc left) : ∃ e, e < 7 ∧ left.testBit e = true ∧ sprd left (s ||| 2 ^ k) = sprd left s ||| 2 ^ e := by
  obtain ⟨e, he, h1, h2, h3⟩ := nth_ok left hl k hk
  refine ⟨e, he, h1, ?_⟩
  apply Nat.eq_of_testBit_eq
  intro i
  rw [Nat.testBit_or, t_sprd, t_sprd, Nat.testBit_or, Nat.testBit_two_pow, Nat.testBit_two_pow]
  by_cases hi : i < 7
  · rw [decide_eq_true hi, Bool.true_and, Bool.true_and]
    have h4 := (wc_al_iff _ _).mp h3 i hi
    by_cases hie : e = i
    · subst hie
      rw [h1, h2, decide_eq_true rfl, decide_eq_true rfl, Bool.or_true, Bool.or_true]; rfl
    · rw [decide_eq_false hie, Bool.or_false]
      cases hb : left.testBit i with
      | false => rfl
      | true =>
        rw [hb] at h4
        by_cases hk2 : k = pc (left % 2 ^ i)
        · exfalso
          rw [← hk2] at h4
          simp at h4
          exact hie h4.symm
        · rw [decide_eq_false hk2, Bool.or_false]
  · rw [decide_eq_false hi, decide_eq_false (show ¬ e = i by omega)]; rfl
theorem sprd_0 (left : Nat) : sprd left 0 = 0 := by
  apply Nat.eq_of_testBit_eq
  intro i
  rw [t_sprd, Nat.zero_testBit, Nat.zero_testBit, Bool.and_false, Bool.and_false]
def mnr (left x : Nat) (ρ : Nat → Nat) (s : Nat) : Nat := ρ (sprd left s ||| x) - ρ x
theorem bit_lt {n s e : Nat} (hs : s < 2 ^ n) (hb : s.testBit e = true) : e < n := by
  apply Nat.lt_of_not_le
  intro h
  rw [Nat.testBit_lt_two_pow (Nat.lt_of_lt_of_le hs (p2_mono h))] at hb
  cases hb
theorem mnr_ge {n left x : Nat} {ρ : Nat → Nat} (h : mat n ρ) (hl : left < 2 ^ n) (hx : x < 2 ^ n) (s : Nat) : ρ x ≤ ρ (sprd left s ||| x) := by
  have := mat_mono h hx (sprd left s) (sprd_lt hl)
  rwa [Nat.or_comm] at this
theorem mat_mnr {n left x : Nat} {ρ : Nat → Nat} (h : mat n ρ) (hn : n ≤ 7) (hl : left < 2 ^ n) (hx : x < 2 ^ n) : mat (pc left) (mnr left x ρ) := by
  have h128 := p2_128 hn hl
  refine ⟨?_, ?_, ?_⟩
  · unfold mnr; rw [sprd_0, Nat.zero_or, Nat.sub_self]
  · intro s k _ hk
    obtain ⟨e, _, h1, h2⟩ := sprd_or (s := s) h128 hk
    have he := bit_lt hl h1
    have g1 := mnr_ge h hl hx s
    have g2 := mnr_ge h hl hx (s ||| 2 ^ k)
    have g3 := h.2.1 (sprd left s ||| x) e (or_lt (sprd_lt hl) hx) he
    unfold mnr
    rw [h2, or_rc] at g2 ⊢
    omega
  · intro s k l _ hk hl' e1 e2
    obtain ⟨e, _, h1, h2⟩ := sprd_or (s := s) h128 hk
    obtain ⟨f, _, h3, h4⟩ := sprd_or (s := s) h128 hl'
    obtain ⟨f', _, h5, h6⟩ := sprd_or (s := s ||| 2 ^ k) h128 hl'
    have he := bit_lt hl h1
    have hf := bit_lt hl h3
    have hf' := bit_lt hl h5
    have g1 := mnr_ge h hl hx s
    have g2 := mnr_ge h hl hx (s ||| 2 ^ k)
    have g4 := mnr_ge h hl hx (s ||| 2 ^ l)
    have g5 := mnr_ge h hl hx (s ||| 2 ^ k ||| 2 ^ l)
    have hA := or_lt (n := n) (sprd_lt (s := s) hl) hx
    unfold mnr at e1 e2 ⊢
    -- the second's place is the same in both
    have hff : sprd left (s ||| 2 ^ k ||| 2 ^ l) = sprd left s ||| 2 ^ e ||| 2 ^ f := by
      apply Nat.eq_of_testBit_eq
      intro i
      have i1 := congrArg (fun z => z.testBit i) h2
      have i2 := congrArg (fun z => z.testBit i) h4
      simp only [t_sprd, Nat.testBit_or] at i1 i2
      rw [Nat.testBit_or, Nat.testBit_or, t_sprd, t_sprd, Nat.testBit_or, Nat.testBit_or]
      revert i1 i2
      cases decide (i < 7) <;> cases left.testBit i <;> cases s.testBit (pc (left % 2 ^ i)) <;> cases (2 ^ k).testBit (pc (left % 2 ^ i)) <;> cases (2 ^ l).testBit (pc (left % 2 ^ i)) <;> cases (2 ^ e).testBit i <;> cases (2 ^ f).testBit i <;> simp
    rw [h2, or_rc] at e1 g2
    rw [h4, or_rc] at e2 g4
    rw [hff, or_rc, or_rc _ (2 ^ e) x] at g5 ⊢
    have := h.2.2 (sprd left s ||| x) e f hA he hf (by omega) (by omega)
    omega
/-! unions -/
def unb (ρ σ : Nat → Nat) (s p : Nat) : Nat := ρ p + σ p + pc (wc_an s p)
def unn (ρ σ : Nat → Nat) (s : Nat) : Nat := wc_fd (s + 1) (fun p m => if wc_an p s = 0 then (if unb ρ σ s p < m then unb ρ σ s p else m) else m) (pc s)
theorem fd_min (k : Nat) (P : Nat → Prop) [DecidablePred P] (f : Nat → Nat) (m0 : Nat) : (wc_fd k (fun p m => if P p then (if f p < m then f p else m) else m) m0 ≤ m0 ∧ ∀ p, p < k → P p → wc_fd k (fun p m => if P p then (if f p < m then f p else m) else m) m0 ≤ f p) ∧ (wc_fd k (fun p m => if P p then (if f p < m then f p else m) else m) m0 = m0 ∨ ∃ p, p < k ∧ P p ∧ wc_fd k (fun p m => if P p then (if f p < m then f p else m) else m) m0 = f p) := by
  induction k with
  | zero => exact ⟨⟨Nat.le_refl _, fun p hp => absurd hp (Nat.not_lt_zero p)⟩, Or.inl rfl⟩
  | succ k ih =>
    rw [wc_fd_s]
    generalize wc_fd k (fun p m => if P p then (if f p < m then f p else m) else m) m0 = m at ih
    obtain ⟨⟨h1, h2⟩, h3⟩ := ih
    by_cases hp : P k
    · rw [if_pos hp]
      by_cases hf : f k < m
      · rw [if_pos hf]
        refine ⟨⟨by omega, fun p hp' hP => ?_⟩, Or.inr ⟨k, by omega, hp, rfl⟩⟩
        rcases Nat.lt_or_ge p k with q | q
        · have := h2 p q hP; omega
        · have : p = k := by omega
          subst this; exact Nat.le_refl _
      · rw [if_neg hf]
        refine ⟨⟨h1, fun p hp' hP => ?_⟩, ?_⟩
        · rcases Nat.lt_or_ge p k with q | q
          · exact h2 p q hP
          · have : p = k := by omega
            subst this; omega
        · rcases h3 with h3 | ⟨p, q, r⟩
          · exact Or.inl h3
          · exact Or.inr ⟨p, by omega, r⟩
    · rw [if_neg hp]
      refine ⟨⟨h1, fun p hp' hP => ?_⟩, ?_⟩
      · rcases Nat.lt_or_ge p k with q | q
        · exact h2 p q hP
        · have : p = k := by omega
          subst this; exact absurd hP hp
      · rcases h3 with h3 | ⟨p, q, r⟩
        · exact Or.inl h3
        · exact Or.inr ⟨p, by omega, r⟩
theorem an_sub {p s : Nat} (hp : p < 2 ^ 32) : wc_an p s = 0 ↔ p ||| s = s := by
  constructor
  · intro h
    apply Nat.eq_of_testBit_eq
    intro i
    have := congrArg (fun z => z.testBit i) h
    simp only [wc_tan hp, Nat.zero_testBit] at this
    rw [Nat.testBit_or]
    revert this
    cases p.testBit i <;> cases s.testBit i <;> simp
  · intro h
    apply Nat.eq_of_testBit_eq
    intro i
    have := congrArg (fun z => z.testBit i) h
    simp only [Nat.testBit_or] at this
    rw [wc_tan hp, Nat.zero_testBit]
    revert this
    cases p.testBit i <;> cases s.testBit i <;> simp
theorem le_of_or {p s : Nat} (h : p ||| s = s) : p ≤ s := by rw [← h]; exact Nat.left_le_or
theorem pc_an : ∀ s, s < 128 → ∀ p, p < 128 → p ||| s = s → pc (wc_an s p) + pc p = pc s := by decide +kernel
theorem pc_or_and : ∀ s, s < 128 → ∀ p, p < 128 → pc (s ||| p) + pc (s &&& p) = pc s + pc p := by decide +kernel
theorem unn_le {n : Nat} {ρ σ : Nat → Nat} (h1 : mat n ρ) (h2 : mat n σ) (hn : n ≤ 7) {s p : Nat} (hs : s < 2 ^ n) (hp : p ||| s = s) : unn ρ σ s ≤ unb ρ σ s p := by
  have hps := le_of_or hp
  have hs7 := p2_128 hn hs
  have := (fd_min (s + 1) (fun p => wc_an p s = 0) (unb ρ σ s) (pc s)).1.2 p (by omega) ((an_sub (by omega)).mpr hp)
  exact this
theorem unb_0 {n : Nat} {ρ σ : Nat → Nat} (h1 : mat n ρ) (h2 : mat n σ) {s : Nat} (hs : s < 128) : unb ρ σ s 0 = pc s := by
  have h3 := pc_an s hs 0 (by decide) (Nat.zero_or s)
  rw [show pc 0 = 0 from by decide] at h3
  unfold unb
  rw [h1.1, h2.1]
  omega
theorem unn_at {n : Nat} {ρ σ : Nat → Nat} (h1 : mat n ρ) (h2 : mat n σ) (hn : n ≤ 7) {s : Nat} (hs : s < 2 ^ n) : ∃ p, p ||| s = s ∧ p < 2 ^ n ∧ unn ρ σ s = unb ρ σ s p := by
  have hs7 := p2_128 hn hs
  rcases (fd_min (s + 1) (fun p => wc_an p s = 0) (unb ρ σ s) (pc s)).2 with h | ⟨p, hp, hP, h⟩
  · exact ⟨0, Nat.zero_or s, Nat.two_pow_pos n, by rw [unb_0 h1 h2 hs7]; exact h⟩
  · exact ⟨p, (an_sub (by omega)).mp hP, by omega, h⟩
theorem or_mono {p s e : Nat} (h : p ||| s = s) : p ||| (s ||| e) = s ||| e := by rw [← Nat.or_assoc, h]
theorem mat_unn {n : Nat} {ρ σ : Nat → Nat} (h1 : mat n ρ) (h2 : mat n σ) (hn : n ≤ 7) : mat n (unn ρ σ) := by
  have e0 : pc 0 = 0 := by decide
  have eb : ∀ s p, s < 2 ^ n → p < 2 ^ n → p ||| s = s → unb ρ σ s p + pc p = ρ p + σ p + pc s := by
    intro s p hs hp hps
    have := pc_an s (p2_128 hn hs) p (p2_128 hn hp) hps
    unfold unb
    omega
  have up : ∀ s e, s < 2 ^ n → e < n → unn ρ σ s ≤ unn ρ σ (s ||| 2 ^ e) ∧ unn ρ σ (s ||| 2 ^ e) ≤ unn ρ σ s + 1 := by
    intro s e hs he
    cases hb : s.testBit e with
    | true => rw [or_in hb]; omega
    | false =>
      have hpc := pc_add1 s (p2_128 hn hs) e (by omega) hb
      have hse := p2_or hs he
      constructor
      · obtain ⟨p, q1, q2, q3⟩ := unn_at h1 h2 hn hse
        have hp' : wc_an p (2 ^ e) < 2 ^ n := wc_an_lt q2
        have q4 : wc_an p (2 ^ e) ||| s = s := by
          apply Nat.eq_of_testBit_eq
          intro i
          have := congrArg (fun z => z.testBit i) q1
          simp only [Nat.testBit_or] at this
          rw [Nat.testBit_or, wc_tan (Nat.lt_of_lt_of_le q2 (Nat.le_trans (p2_le hn) (by decide)))]
          revert this
          cases p.testBit i <;> cases s.testBit i <;> cases (2 ^ e).testBit i <;> simp
        have q5 := unn_le h1 h2 hn hs q4
        have q6 := eb s _ hs hp' q4
        have q7 := eb _ p hse q2 q1
        have m1 : wc_an p (2 ^ e) ||| p = p := by
          apply Nat.eq_of_testBit_eq
          intro i
          rw [Nat.testBit_or, wc_tan (Nat.lt_of_lt_of_le q2 (Nat.le_trans (p2_le hn) (by decide)))]
          cases p.testBit i <;> cases (2 ^ e).testBit i <;> rfl
        have m2 := mat_sub h1 hp' q2 m1
        have m3 := mat_sub h2 hp' q2 m1
        have m4 : pc p ≤ pc (wc_an p (2 ^ e)) + 1 := by
          have := pc_or1 (p2_128 hn hp') (show e < 7 by omega)
          have m5 : p ||| (wc_an p (2 ^ e) ||| 2 ^ e) = wc_an p (2 ^ e) ||| 2 ^ e := by
            apply Nat.eq_of_testBit_eq
            intro i
            rw [Nat.testBit_or, Nat.testBit_or, wc_tan (Nat.lt_of_lt_of_le q2 (Nat.le_trans (p2_le hn) (by decide)))]
            cases p.testBit i <;> cases (2 ^ e).testBit i <;> rfl
          have m6 := pc_an _ (p2_128 hn (p2_or hp' he)) p (p2_128 hn q2) m5
          split at this <;> omega
        omega
      · obtain ⟨p, q1, q2, q3⟩ := unn_at h1 h2 hn hs
        have q4 := or_mono (e := 2 ^ e) q1
        have q5 := unn_le h1 h2 hn hse q4
        have q6 := eb s p hs q2 q1
        have q7 := eb _ p hse q2 q4
        omega
  refine ⟨?_, up, ?_⟩
  · have := unn_le h1 h2 hn (Nat.two_pow_pos n) (Nat.or_self 0)
    rw [unb_0 h1 h2 (by decide), e0] at this
    omega
  · intro s e f hs he hf g1 g2
    cases hb : s.testBit e with
    | true => rw [or_in hb]; exact g2
    | false =>
      cases hc : s.testBit f with
      | true => rw [or_rc, or_in hc]; exact g1
      | false =>
        by_cases hef : e = f
        · subst hef; rw [Nat.or_assoc, Nat.or_self]; exact g1
        · have b1 : (s ||| 2 ^ e).testBit f = false := by rw [Nat.testBit_or, hc, Nat.testBit_two_pow, decide_eq_false hef]; rfl
          have hse := p2_or hs he
          have hsf := p2_or hs hf
          have hef2 := p2_or hse hf
          obtain ⟨p, p1, p2, p3⟩ := unn_at h1 h2 hn hse
          obtain ⟨q, q1, q2, q3⟩ := unn_at h1 h2 hn hsf
          have k1 : (p ||| q) ||| (s ||| 2 ^ e ||| 2 ^ f) = s ||| 2 ^ e ||| 2 ^ f := by
            rw [Nat.or_assoc, or_rc s (2 ^ e) (2 ^ f), or_mono q1, or_rc s (2 ^ f) (2 ^ e), or_mono p1]
          have k2 : (p &&& q) ||| s = s := by
            apply Nat.eq_of_testBit_eq
            intro i
            have i1 := congrArg (fun z => z.testBit i) p1
            have i2 := congrArg (fun z => z.testBit i) q1
            simp only [Nat.testBit_or, Nat.testBit_two_pow] at i1 i2
            rw [Nat.testBit_or, Nat.testBit_and]
            by_cases hi : e = i
            · subst hi
              rw [decide_eq_false (fun c => hef c.symm)] at i2
              revert i1 i2
              cases p.testBit e <;> cases q.testBit e <;> cases s.testBit e <;> simp
            · rw [decide_eq_false hi] at i1
              revert i1 i2
              cases p.testBit i <;> cases q.testBit i <;> cases s.testBit i <;> simp
          have r1 := unn_le h1 h2 hn hef2 k1
          have r2 := unn_le h1 h2 hn hs k2
          have hpq := or_lt p2 q2
          have hpq2 := Nat.and_lt_two_pow p q2
          have t1 := eb _ _ hef2 hpq k1
          have t2 := eb _ _ hs hpq2 k2
          have t3 := eb _ _ hse p2 p1
          have t4 := eb _ _ hsf q2 q1
          have u1 := mat_submod h1 p2 q2
          have u2 := mat_submod h2 p2 q2
          have u3 := pc_or_and p (p2_128 hn p2) q (p2_128 hn q2)
          have w1 := pc_add1 s (p2_128 hn hs) e (by omega) hb
          have w2 := pc_add1 s (p2_128 hn hs) f (by omega) hc
          have w3 := pc_add1 _ (p2_128 hn hse) f (by omega) b1
          have w4 := up (s ||| 2 ^ e) f hse hf
          omega
