/-! ===== ranks: what follows from the three rows of mat ===== -/
theorem tk (t k : Nat) : t % 2 ^ (k + 1) = if t.testBit k then t % 2 ^ k ||| 2 ^ k else t % 2 ^ k := by
  apply Nat.eq_of_testBit_eq
  intro i
  cases h : t.testBit k with
  | false =>
    rw [if_neg (by decide), Nat.testBit_mod_two_pow, Nat.testBit_mod_two_pow]
    by_cases hi : i = k
    · subst hi; rw [h, Bool.and_false, Bool.and_false]
    · rw [show decide (i < k + 1) = decide (i < k) from by rw [decide_eq_decide]; omega]
  | true =>
    rw [if_pos rfl, Nat.testBit_or, Nat.testBit_mod_two_pow, Nat.testBit_mod_two_pow, Nat.testBit_two_pow]
    by_cases hi : i = k
    · subst hi; rw [h, decide_eq_true (show i < i + 1 by omega), decide_eq_true (show i = i from rfl), Bool.or_true]; rfl
    · rw [show decide (i < k + 1) = decide (i < k) from by rw [decide_eq_decide]; omega, decide_eq_false (show ¬ k = i from fun c => hi c.symm), Bool.or_false]
theorem p2_mono {a b : Nat} (h : a ≤ b) : 2 ^ a ≤ 2 ^ b := Nat.pow_le_pow_right (by decide) h
theorem p2_lt {a b : Nat} (h : a < b) : 2 ^ a < 2 ^ b := Nat.pow_lt_pow_right (by decide) h
theorem set_ind {n : Nat} {P : Nat → Prop} (h0 : P 0) (hs : ∀ s e, s < 2 ^ n → e < n → s.testBit e = false → P s → P (s ||| 2 ^ e)) : ∀ s, s < 2 ^ n → P s := by
  intro s h
  have key : ∀ k, k ≤ n → P (s % 2 ^ k) := by
    intro k
    induction k with
    | zero => intro _; rw [Nat.pow_zero, Nat.mod_one]; exact h0
    | succ k ih =>
      intro hk
      rw [tk]
      split
      · exact hs _ k (Nat.lt_of_lt_of_le (Nat.mod_lt _ (Nat.two_pow_pos k)) (p2_mono (by omega))) (by omega) (by rw [Nat.testBit_mod_two_pow, decide_eq_false (by omega), Bool.false_and]) (ih (by omega))
      · exact ih (by omega)
  have := key n (Nat.le_refl n)
  rwa [Nat.mod_eq_of_lt h] at this
theorem or_lt {n s t : Nat} (hs : s < 2 ^ n) (ht : t < 2 ^ n) : s ||| t < 2 ^ n := Nat.or_lt_two_pow hs ht
theorem or_rc (a b c : Nat) : a ||| b ||| c = a ||| c ||| b := by rw [Nat.or_assoc, Nat.or_comm b c, Nat.or_assoc]
theorem or_in {s e : Nat} (h : s.testBit e = true) : s ||| 2 ^ e = s := by
  apply Nat.eq_of_testBit_eq
  intro i
  rw [Nat.testBit_or, Nat.testBit_two_pow]
  by_cases hi : e = i
  · subst hi; rw [h]; rfl
  · rw [decide_eq_false hi, Bool.or_false]
theorem pc_add1 : ∀ s, s < 128 → ∀ e, e < 7 → s.testBit e = false → pc (s ||| 2 ^ e) = pc s + 1 := by decide +kernel
theorem pc_or1 {s e : Nat} (hs : s < 128) (he : e < 7) : pc (s ||| 2 ^ e) = if s.testBit e then pc s else pc s + 1 := by
  cases h : s.testBit e with
  | true => rw [or_in h]; rfl
  | false => rw [pc_add1 s hs e he h]; rfl
theorem mat_mono {n : Nat} {ρ : Nat → Nat} (h : mat n ρ) {s : Nat} (hs : s < 2 ^ n) : ∀ t, t < 2 ^ n → ρ s ≤ ρ (s ||| t) := by
  refine set_ind (P := fun t => ρ s ≤ ρ (s ||| t)) (by rw [Nat.or_zero]; exact Nat.le_refl _) ?_
  intro t e ht he _ ih
  have := (h.2.1 (s ||| t) e (or_lt hs ht) he).1
  rw [← Nat.or_assoc]
  omega
theorem mat_sub {n : Nat} {ρ : Nat → Nat} (h : mat n ρ) {s t : Nat} (hs : s < 2 ^ n) (ht : t < 2 ^ n) (hst : s ||| t = t) : ρ s ≤ ρ t := by
  have := mat_mono h hs t ht
  rwa [hst] at this
theorem mat_cl {n : Nat} {ρ : Nat → Nat} (h : mat n ρ) {s e : Nat} (hs : s < 2 ^ n) (he : e < n) (hc : ρ (s ||| 2 ^ e) = ρ s) : ∀ t, t < 2 ^ n → ρ (s ||| t ||| 2 ^ e) = ρ (s ||| t) := by
  refine set_ind (P := fun t => ρ (s ||| t ||| 2 ^ e) = ρ (s ||| t)) (by rw [Nat.or_zero]; exact hc) ?_
  intro t f ht hf _ ih
  have hx := or_lt hs ht
  have h1 := h.2.1 (s ||| t) f hx hf
  have h2 := h.2.1 (s ||| t ||| 2 ^ e) f (p2_or hx he) hf
  have h3 := h.2.1 (s ||| t ||| 2 ^ f) e (p2_or hx hf) he
  rw [← Nat.or_assoc]
  by_cases hq : ρ (s ||| t ||| 2 ^ f) = ρ (s ||| t)
  · have := h.2.2 (s ||| t) e f hx he hf ih hq
    rw [or_rc (s ||| t) (2 ^ f) (2 ^ e), this, hq]
  · rw [or_rc (s ||| t) (2 ^ e) (2 ^ f)] at h2
    omega
theorem mat_le {n : Nat} {ρ : Nat → Nat} (h : mat n ρ) (hn : n ≤ 7) {s : Nat} (hs : s < 2 ^ n) : ∀ t, t < 2 ^ n → ρ (s ||| t) ≤ ρ s + pc t := by
  refine set_ind (P := fun t => ρ (s ||| t) ≤ ρ s + pc t) (by rw [Nat.or_zero]; exact Nat.le_add_right _ _) ?_
  intro t e ht he hb ih
  have := (h.2.1 (s ||| t) e (or_lt hs ht) he).2
  rw [← Nat.or_assoc, pc_add1 t (p2_128 hn ht) e (by omega) hb]
  omega
theorem mat_pc {n : Nat} {ρ : Nat → Nat} (h : mat n ρ) (hn : n ≤ 7) {s : Nat} (hs : s < 2 ^ n) : ρ s ≤ pc s := by
  have := mat_le h hn (Nat.two_pow_pos n) s hs
  rw [Nat.zero_or, h.1] at this
  omega
theorem mat_7 {n : Nat} {ρ : Nat → Nat} (h : mat n ρ) (hn : n ≤ 7) {s : Nat} (hs : s < 2 ^ n) : ρ s ≤ 7 := Nat.le_trans (mat_pc h hn hs) (pc_le s)
/-- what comes to more brings less -/
theorem mat_dim {n : Nat} {ρ : Nat → Nat} (h : mat n ρ) {a c : Nat} (ha : a < 2 ^ n) (hc : c < 2 ^ n) (hca : c ||| a = a) : ∀ t, t < 2 ^ n → ρ (a ||| t) + ρ c ≤ ρ a + ρ (c ||| t) := by
  refine set_ind (P := fun t => ρ (a ||| t) + ρ c ≤ ρ a + ρ (c ||| t)) (by rw [Nat.or_zero, Nat.or_zero]; exact Nat.le_refl _) ?_
  intro t e ht he _ ih
  have h1 := h.2.1 (a ||| t) e (or_lt ha ht) he
  have h2 := h.2.1 (c ||| t) e (or_lt hc ht) he
  rw [← Nat.or_assoc, ← Nat.or_assoc]
  by_cases hq : ρ (c ||| t ||| 2 ^ e) = ρ (c ||| t)
  · have := mat_cl h (or_lt hc ht) he hq a ha
    rw [show c ||| t ||| a = a ||| t from by rw [or_rc, hca]] at this
    omega
  · omega
theorem and_or_r (a b : Nat) : a &&& b ||| b = b := by
  apply Nat.eq_of_testBit_eq; intro i; rw [Nat.testBit_or, Nat.testBit_and]; cases a.testBit i <;> cases b.testBit i <;> rfl
theorem and_or_l (a b : Nat) : a &&& b ||| a = a := by
  apply Nat.eq_of_testBit_eq; intro i; rw [Nat.testBit_or, Nat.testBit_and]; cases a.testBit i <;> cases b.testBit i <;> rfl
theorem mat_submod {n : Nat} {ρ : Nat → Nat} (h : mat n ρ) {a b : Nat} (ha : a < 2 ^ n) (hb : b < 2 ^ n) : ρ (a ||| b) + ρ (a &&& b) ≤ ρ a + ρ b := by
  have := mat_dim h ha (Nat.and_lt_two_pow a hb) (and_or_l a b) b hb
  rwa [and_or_r] at this
/-- a free set grows to one that spans -/
theorem mat_ext {n : Nat} {ρ : Nat → Nat} (h : mat n ρ) (hn : n ≤ 7) {s : Nat} (hs : s < 2 ^ n) (hf : ρ s = pc s) : ∀ x, x < 2 ^ n → ∃ j, j < 2 ^ n ∧ s ||| j = j ∧ j ||| (s ||| x) = s ||| x ∧ ρ j = pc j ∧ ρ j = ρ (s ||| x) := by
  refine set_ind (P := fun x => ∃ j, j < 2 ^ n ∧ s ||| j = j ∧ j ||| (s ||| x) = s ||| x ∧ ρ j = pc j ∧ ρ j = ρ (s ||| x)) ?_ ?_
  · exact ⟨s, hs, Nat.or_self s, by rw [Nat.or_zero, Nat.or_self], hf, by rw [Nat.or_zero]⟩
  · intro x e hx he _ ⟨j, hj, h1, h2, h3, h4⟩
    rw [← Nat.or_assoc]
    have hsx := or_lt hs hx
    have u1 := h.2.1 j e hj he
    have u2 := h.2.1 (s ||| x) e hsx he
    by_cases hq : ρ (j ||| 2 ^ e) = ρ j
    · have := mat_cl h hj he hq (s ||| x) hsx
      rw [h2] at this
      exact ⟨j, hj, h1, by rw [← Nat.or_assoc, h2], h3, by rw [this, h4]⟩
    · have hne : j.testBit e = false := by
        cases hb : j.testBit e with
        | false => rfl
        | true => exact absurd (by rw [or_in hb]) hq
      have hp := pc_add1 j (p2_128 hn hj) e (by omega) hne
      have hsub : j ||| 2 ^ e ||| (s ||| x ||| 2 ^ e) = s ||| x ||| 2 ^ e := by
        rw [or_rc, ← Nat.or_assoc, h2, Nat.or_assoc, Nat.or_self]
      have hm := mat_sub h (p2_or hj he) (p2_or hsx he) hsub
      exact ⟨j ||| 2 ^ e, p2_or hj he, by rw [← Nat.or_assoc, h1], hsub, by omega, by omega⟩
theorem or_all {n s : Nat} (hs : s < 2 ^ n) : s ||| (2 ^ n - 1) = 2 ^ n - 1 := by
  apply Nat.eq_of_testBit_eq
  intro i
  rw [Nat.testBit_or, Nat.testBit_two_pow_sub_one]
  by_cases hi : i < n
  · rw [decide_eq_true hi, Bool.or_true]
  · rw [decide_eq_false hi, Nat.testBit_lt_two_pow (Nat.lt_of_lt_of_le hs (p2_mono (by omega)))]; rfl
theorem mat_all {n : Nat} {ρ : Nat → Nat} (h : mat n ρ) {s : Nat} (hs : s < 2 ^ n) : ρ s ≤ ρ (2 ^ n - 1) := mat_sub h hs (p2_m1 n) (or_all hs)
theorem bas_iff {n : Nat} {ρ : Nat → Nat} {s : Nat} : bas n ρ s = true ↔ ρ s = pc s ∧ ρ s = ρ (2 ^ n - 1) := by
  unfold bas fre
  rw [Bool.and_eq_true, decide_eq_true_iff, decide_eq_true_iff]
/-- there is a base -/
theorem mat_base {n : Nat} {ρ : Nat → Nat} (h : mat n ρ) (hn : n ≤ 7) : ∃ s, s < 2 ^ n ∧ bas n ρ s = true := by
  obtain ⟨j, hj, _, _, h3, h4⟩ := mat_ext h hn (Nat.two_pow_pos n) (s := 0) (by rw [h.1]; decide) (2 ^ n - 1) (p2_m1 n)
  rw [Nat.zero_or] at h4
  exact ⟨j, hj, bas_iff.mpr ⟨h3, h4⟩⟩
/-! what becomes one -/
def uni (r s : Nat) : Nat := if pc s < r then pc s else r
theorem mat_uni {n r : Nat} (hn : n ≤ 7) : mat n (uni r) := by
  have e0 : pc 0 = 0 := by decide
  refine ⟨?_, ?_, ?_⟩
  · unfold uni; rw [e0]; split <;> omega
  · intro s e hs he
    have := pc_or1 (p2_128 hn hs) (show e < 7 by omega)
    unfold uni
    rw [this]
    cases s.testBit e <;> simp only [if_true, Bool.false_eq_true, if_false] <;> (repeat' split) <;> omega
  · intro s e f hs he hf h1 h2
    have a1 := pc_or1 (p2_128 hn hs) (show e < 7 by omega)
    have a2 := pc_or1 (p2_128 hn hs) (show f < 7 by omega)
    have a3 := pc_or1 (p2_128 hn (p2_or hs he)) (show f < 7 by omega)
    rw [Nat.testBit_or, Nat.testBit_two_pow] at a3
    by_cases hfe : e = f
    · subst hfe; rw [Nat.or_assoc, Nat.or_self]; exact h1
    · rw [decide_eq_false hfe, Bool.or_false] at a3
      revert h1 h2
      unfold uni
      rw [a3, a2, a1]
      cases s.testBit e <;> cases s.testBit f <;> simp only [if_true, Bool.false_eq_true, if_false] <;> (repeat' split) <;> intros <;> omega
def dl (n : Nat) (ρ : Nat → Nat) (s : Nat) : Nat := pc s + ρ (wc_an (2 ^ n - 1) s) - ρ (2 ^ n - 1)
theorem t_comp {n s i : Nat} (hn : n ≤ 7) : (wc_an (2 ^ n - 1) s).testBit i = (decide (i < n) && !s.testBit i) := by
  rw [wc_tan (Nat.lt_of_lt_of_le (p2_m1 n) (Nat.le_trans (p2_le hn) (by decide))), Nat.testBit_two_pow_sub_one]
theorem comp_lt {n : Nat} (s : Nat) : wc_an (2 ^ n - 1) s < 2 ^ n := wc_an_lt (p2_m1 n)
theorem comp_or {n s e : Nat} (hn : n ≤ 7) (he : e < n) (hb : s.testBit e = false) : wc_an (2 ^ n - 1) (s ||| 2 ^ e) ||| 2 ^ e = wc_an (2 ^ n - 1) s := by
  apply Nat.eq_of_testBit_eq
  intro i
  rw [Nat.testBit_or, t_comp hn, t_comp hn, Nat.testBit_or, Nat.testBit_two_pow]
  by_cases hi : e = i
  · subst hi; rw [hb, decide_eq_true he, decide_eq_true rfl]; rfl
  · rw [decide_eq_false hi, Bool.or_false, Bool.or_false]
theorem or_comp {n s : Nat} (hn : n ≤ 7) (hs : s < 2 ^ n) : wc_an (2 ^ n - 1) s ||| s = 2 ^ n - 1 := by
  apply Nat.eq_of_testBit_eq
  intro i
  rw [Nat.testBit_or, t_comp hn, Nat.testBit_two_pow_sub_one]
  by_cases hi : i < n
  · rw [decide_eq_true hi]; cases s.testBit i <;> rfl
  · rw [decide_eq_false hi, Nat.testBit_lt_two_pow (Nat.lt_of_lt_of_le hs (p2_mono (by omega)))]; rfl
theorem dl_ge {n : Nat} {ρ : Nat → Nat} (h : mat n ρ) (hn : n ≤ 7) {s : Nat} (hs : s < 2 ^ n) : ρ (2 ^ n - 1) ≤ pc s + ρ (wc_an (2 ^ n - 1) s) := by
  have := mat_le h hn (comp_lt s) s hs
  rw [or_comp hn hs] at this
  omega
theorem mat_dl {n : Nat} {ρ : Nat → Nat} (h : mat n ρ) (hn : n ≤ 7) : mat n (dl n ρ) := by
  have e0 : pc 0 = 0 := by decide
  have st : ∀ s e, s < 2 ^ n → e < n → s.testBit e = false → dl n ρ (s ||| 2 ^ e) + ρ (wc_an (2 ^ n - 1) s) = dl n ρ s + 1 + ρ (wc_an (2 ^ n - 1) (s ||| 2 ^ e)) ∧ ρ (wc_an (2 ^ n - 1) (s ||| 2 ^ e)) ≤ ρ (wc_an (2 ^ n - 1) s) ∧ ρ (wc_an (2 ^ n - 1) s) ≤ ρ (wc_an (2 ^ n - 1) (s ||| 2 ^ e)) + 1 := by
    intro s e hs he hb
    have h1 := dl_ge h hn hs
    have h2 := dl_ge h hn (p2_or hs he)
    have h3 := pc_add1 s (p2_128 hn hs) e (by omega) hb
    have h4 := h.2.1 (wc_an (2 ^ n - 1) (s ||| 2 ^ e)) e (comp_lt _) he
    rw [comp_or hn he hb] at h4
    unfold dl
    omega
  refine ⟨?_, ?_, ?_⟩
  · unfold dl
    rw [e0, show wc_an (2 ^ n - 1) 0 = 2 ^ n - 1 from by have := or_comp hn (Nat.two_pow_pos n); rwa [Nat.or_zero] at this]
    omega
  · intro s e hs he
    cases hb : s.testBit e with
    | true => rw [or_in hb]; omega
    | false => have := st s e hs he hb; omega
  · intro s e f hs he hf h1 h2
    cases hb : s.testBit e with
    | true => rw [or_in hb]; exact h2
    | false =>
      cases hc : s.testBit f with
      | true => rw [or_rc, or_in hc]; exact h1
      | false =>
        by_cases hef : e = f
        · subst hef; rw [Nat.or_assoc, Nat.or_self]; exact h1
        · have b1 : (s ||| 2 ^ e).testBit f = false := by rw [Nat.testBit_or, hc, Nat.testBit_two_pow, decide_eq_false hef]; rfl
          have b2 : (s ||| 2 ^ f).testBit e = false := by rw [Nat.testBit_or, hb, Nat.testBit_two_pow, decide_eq_false (fun c => hef c.symm)]; rfl
          have s1 := st s e hs he hb
          have s2 := st s f hs hf hc
          have s3 := st (s ||| 2 ^ e) f (p2_or hs he) hf b1
          have s4 := st (s ||| 2 ^ f) e (p2_or hs hf) he b2
          rw [or_rc s (2 ^ f) (2 ^ e)] at s4
          have c1 := comp_or hn hf b1
          have c2 := comp_or hn he b2
          rw [or_rc s (2 ^ f) (2 ^ e)] at c2
          have hT := comp_lt (n := n) (s ||| 2 ^ e ||| 2 ^ f)
          have h3 := h.2.2 (wc_an (2 ^ n - 1) (s ||| 2 ^ e ||| 2 ^ f)) e f hT he hf
          have c3 := comp_or hn he hb
          rw [or_rc (wc_an (2 ^ n - 1) (s ||| 2 ^ e ||| 2 ^ f)) (2 ^ e) (2 ^ f), c1, c3, c2] at h3
          by_cases hq : ρ (wc_an (2 ^ n - 1) (s ||| 2 ^ e)) = ρ (wc_an (2 ^ n - 1) (s ||| 2 ^ e ||| 2 ^ f))
          · have := h3 (by omega) hq
            omega
          · omega
