/-! ===== seven points: counted ===== -/
def uf (n : Nat) (ρ : Nat → Nat) (k r : Nat) : Bool := decide (n = k ∧ ρ (2 ^ n - 1) = r) && wc_al (2 ^ n) (fun s => !(pc s == r) || fre ρ s)
def lns (n : Nat) (ρ : Nat → Nat) (s : Nat) : Nat := wc_cn n (fun e => !s.testBit e && !fre ρ (s ||| 2 ^ e))
def sv (n : Nat) (ρ : Nat → Nat) : Bool := decide (n = 7 ∧ ρ (2 ^ n - 1) = 3) && wc_al (2 ^ n) (fun s => !(pc s == 2) || (fre ρ s && (lns n ρ s == 1)))
def svm (n : Nat) (ρ : Nat → Nat) : Bool := ((decide (n = 7 ∧ ρ (2 ^ n - 1) = 3) && wc_al (2 ^ n) (fun s => !(pc s == 2) || fre ρ s)) && decide (wc_cn (2 ^ n) (fun s => (pc s == 3) && cir n ρ s) = 7)) && wc_al (2 ^ n) (fun s => !(pc s == 2) || (pc (spn n ρ s) == 3))
def sm (n : Nat) (f : Nat → Nat) : Nat := wc_fd n (fun i a => a + f i) 0
theorem sm_s (n : Nat) (f : Nat → Nat) : sm (n + 1) f = sm n f + f n := wc_fd_s _ _ _
theorem sm_cn (n : Nat) (f : Nat → Bool) : wc_cn n f = sm n (fun i => (f i).toNat) := by
  induction n with
  | zero => rfl
  | succ n ih =>
    rw [wc_cn_s, sm_s, ih]
    cases f n with
    | true => rfl
    | false => rfl
theorem sm_cg {n : Nat} {f g : Nat → Nat} (h : ∀ i, i < n → f i = g i) : sm n f = sm n g := by
  induction n with
  | zero => rfl
  | succ n ih => rw [sm_s, sm_s, ih (fun i hi => h i (by omega)), h n (by omega)]
theorem sm_add (n : Nat) (f g : Nat → Nat) : sm n (fun i => f i + g i) = sm n f + sm n g := by
  induction n with
  | zero => rfl
  | succ n ih => rw [sm_s, sm_s, sm_s, ih]; omega
theorem sm_mul (n c : Nat) (f : Nat → Nat) : sm n (fun i => c * f i) = c * sm n f := by
  induction n with
  | zero => rfl
  | succ n ih => rw [sm_s, sm_s, ih, Nat.mul_add]
theorem sm_mulr (n c : Nat) (f : Nat → Nat) : sm n (fun i => f i * c) = sm n f * c := by
  induction n with
  | zero => exact (Nat.zero_mul c).symm
  | succ n ih => rw [sm_s, sm_s, ih, Nat.add_mul]
theorem sm_0 (n : Nat) : sm n (fun _ => 0) = 0 := by
  induction n with
  | zero => rfl
  | succ n ih => rw [sm_s, ih]
theorem sm_ex (n m : Nat) (f : Nat → Nat → Nat) : sm n (fun i => sm m (fun j => f i j)) = sm m (fun j => sm n (fun i => f i j)) := by
  induction n with
  | zero => exact (sm_0 m).symm
  | succ n ih =>
    rw [sm_s, ih, ← sm_add]
    exact sm_cg (fun j _ => (sm_s n (fun i => f i j)).symm)
theorem sm_pick (G : Nat → Nat) (t : Nat) : ∀ n, t < n → sm n (fun j => (t == j).toNat * G j) = G t := by
  intro n
  induction n with
  | zero => intro h; exact absurd h (Nat.not_lt_zero t)
  | succ n ih =>
    intro h
    rw [sm_s]
    by_cases htn : t = n
    · have h0 : sm n (fun j => (t == j).toNat * G j) = 0 := by
        rw [← sm_0 n]
        refine sm_cg (fun j hj => ?_)
        rw [show (t == j) = false from beq_eq_false_iff_ne.mpr (by omega)]
        exact Nat.zero_mul _
      rw [h0, htn, beq_self_eq_true, Nat.zero_add]
      exact Nat.one_mul _
    · rw [ih (by omega), show (t == n) = false from beq_eq_false_iff_ne.mpr htn]
      show G t + 0 * G n = G t
      rw [Nat.zero_mul, Nat.add_zero]
theorem co_ok : ∀ t, t < 128 → sm 128 (fun s => sm 7 (fun e => ((pc s == 2) && !s.testBit e).toNat * (s ||| 2 ^ e == t).toNat)) = 3 * (pc t == 3).toNat := by decide +kernel
theorem two_21 : sm 128 (fun s => (pc s == 2).toNat) = 21 := by decide +kernel
/-- lines of three through each two just once: seven -/
theorem seven_lines (g : Nat → Bool) (h : ∀ s, s < 128 → pc s = 2 → wc_cn 7 (fun e => !s.testBit e && g (s ||| 2 ^ e)) = 1) : wc_cn 128 (fun s => (pc s == 3) && g s) = 7 := by
  obtain ⟨G, hG⟩ : ∃ G : Nat → Nat, G = fun t => (g t).toNat := ⟨_, rfl⟩
  have e1 : sm 128 (fun s => sm 7 (fun e => ((pc s == 2) && !s.testBit e).toNat * G (s ||| 2 ^ e))) = 21 := by
    rw [← two_21]
    refine sm_cg (fun s hs => ?_)
    cases hp : (pc s == 2) with
    | false =>
      rw [show (false : Bool).toNat = 0 from rfl, ← sm_0 7]
      exact sm_cg (fun e _ => Nat.zero_mul _)
    | true =>
      rw [show (true : Bool).toNat = 1 from rfl, ← h s hs (eq_of_beq hp), sm_cn]
      refine sm_cg (fun e _ => ?_)
      rw [hG, Bool.true_and]
      dsimp only
      cases s.testBit e <;> cases g (s ||| 2 ^ e) <;> rfl
  have e2 : sm 128 (fun s => sm 7 (fun e => ((pc s == 2) && !s.testBit e).toNat * G (s ||| 2 ^ e))) = sm 128 (fun t => 3 * (pc t == 3).toNat * G t) := by
    have a1 : sm 128 (fun s => sm 7 (fun e => ((pc s == 2) && !s.testBit e).toNat * G (s ||| 2 ^ e))) = sm 128 (fun s => sm 7 (fun e => sm 128 (fun t => ((pc s == 2) && !s.testBit e).toNat * (s ||| 2 ^ e == t).toNat * G t))) := by
      refine sm_cg (fun s hs => sm_cg (fun e he => ?_))
      have hlt : s ||| 2 ^ e < 128 := or_lt (n := 7) hs (p2_lt he)
      rw [← sm_pick G (s ||| 2 ^ e) 128 hlt, ← sm_mul]
      exact sm_cg (fun t _ => (Nat.mul_assoc _ _ _).symm)
    have a2 : sm 128 (fun s => sm 7 (fun e => sm 128 (fun t => ((pc s == 2) && !s.testBit e).toNat * (s ||| 2 ^ e == t).toNat * G t))) = sm 128 (fun s => sm 128 (fun t => sm 7 (fun e => ((pc s == 2) && !s.testBit e).toNat * (s ||| 2 ^ e == t).toNat * G t))) := sm_cg (fun s _ => sm_ex 7 128 _)
    rw [a1, a2, sm_ex]
    refine sm_cg (fun t ht => ?_)
    rw [← co_ok t ht, ← sm_mulr]
    exact sm_cg (fun s _ => sm_mulr 7 (G t) _)
  have e3 : sm 128 (fun t => 3 * (pc t == 3).toNat * G t) = 3 * wc_cn 128 (fun s => (pc s == 3) && g s) := by
    rw [sm_cn, ← sm_mul]
    refine sm_cg (fun t _ => ?_)
    rw [hG]
    dsimp only
    cases (pc t == 3) <;> cases g t <;> rfl
  omega
theorem spn_bit {n : Nat} (ρ : Nat → Nat) (s x : Nat) : ∀ m, (wc_fd m (fun e a => if ρ (s ||| 2 ^ e) = ρ s then a ||| 2 ^ e else a) s).testBit x = (s.testBit x || (decide (x < m) && decide (ρ (s ||| 2 ^ x) = ρ s))) := by
  intro m
  induction m with
  | zero => rw [wc_fd_0, decide_eq_false (Nat.not_lt_zero x), Bool.false_and, Bool.or_false]
  | succ m ih =>
    rw [wc_fd_s]
    by_cases hxm : x = m
    · subst hxm
      rw [decide_eq_true (Nat.lt_succ_self x), Bool.true_and]
      by_cases hc : ρ (s ||| 2 ^ x) = ρ s
      · rw [if_pos hc, Nat.testBit_or, Nat.testBit_two_pow, decide_eq_true (rfl : x = x), Bool.or_true, decide_eq_true hc, Bool.or_true]
      · rw [if_neg hc, ih, decide_eq_false (Nat.lt_irrefl x), Bool.false_and, decide_eq_false hc]
    · have e1 : decide (x < m + 1) = decide (x < m) := by rw [decide_eq_decide]; omega
      rw [e1, ← ih]
      by_cases hc : ρ (s ||| 2 ^ m) = ρ s
      · rw [if_pos hc, Nat.testBit_or, Nat.testBit_two_pow, decide_eq_false (fun y => hxm y.symm), Bool.or_false]
      · rw [if_neg hc]
theorem cn_or {P Q : Nat → Bool} : ∀ n, (∀ i, i < n → (P i && Q i) = false) → wc_cn n (fun i => P i || Q i) = wc_cn n P + wc_cn n Q := by
  intro n
  induction n with
  | zero => intro _; rfl
  | succ n ih =>
    intro h
    have h1 := h n (by omega)
    rw [wc_cn_s, wc_cn_s, wc_cn_s, ih (fun i hi => h i (by omega))]
    cases hp : P n <;> cases hq : Q n
    · simp
    · simp [Nat.add_assoc]
    · simp; omega
    · rw [hp, hq] at h1; cases h1
/-- elements on a line with a two -/
theorem spn_two {ρ : Nat → Nat} (hm : mat 7 ρ) {s : Nat} (hs : s < 128) (h2 : pc s = 2) (hf : fre ρ s = true) : pc (spn 7 ρ s) = 2 + lns 7 ρ s := by
  have hr : ρ s = 2 := by have : ρ s = pc s := of_decide_eq_true hf; omega
  have e1 : pc (spn 7 ρ s) = wc_cn 7 (fun x => s.testBit x || (!s.testBit x && !fre ρ (s ||| 2 ^ x))) := by
    unfold pc
    refine cn_ext (fun x hx => ?_)
    unfold spn
    rw [spn_bit (n := 7), decide_eq_true hx, Bool.true_and]
    cases hb : s.testBit x with
    | true => rfl
    | false =>
      rw [Bool.false_or, Bool.false_or, Bool.not_false, Bool.true_and]
      have h3 := hm.2.1 s x hs hx
      have h4 := pc_add1 s hs x hx hb
      unfold fre
      rw [h4, h2, hr]
      by_cases hc : ρ (s ||| 2 ^ x) = 2
      · rw [decide_eq_true hc, decide_eq_false (by omega)]; rfl
      · rw [decide_eq_false hc, decide_eq_true (by omega)]; rfl
  rw [e1, cn_or 7 (fun i _ => by cases s.testBit i <;> rfl)]
  have e2 : wc_cn 7 (fun x => s.testBit x) = 2 := h2
  unfold lns
  rw [e2]
theorem sub_two : ∀ s, s < 128 → ∀ e, e < 7 → pc s = 3 → s.testBit e = true → pc (wc_an s (2 ^ e)) = 2 := by decide +kernel
theorem sv_eq {n : Nat} {ρ : Nat → Nat} (hm : mat n ρ) : sv n ρ = svm n ρ := by
  unfold sv svm
  by_cases hn : n = 7 ∧ ρ (2 ^ n - 1) = 3
  · rw [decide_eq_true hn, Bool.true_and, Bool.true_and]
    obtain ⟨rfl, hr⟩ := hn
    have h27 : (2 : Nat) ^ 7 = 128 := rfl
    rw [h27]
    cases hfr : wc_al 128 (fun s => !(pc s == 2) || fre ρ s) with
    | false =>
      rw [Bool.false_and, Bool.false_and, wc_al_false]
      obtain ⟨s, hs, h1⟩ := (wc_al_false _ _).mp hfr
      rw [Bool.or_eq_false_iff] at h1
      exact ⟨s, hs, by rw [h1.1, h1.2]; rfl⟩
    | true =>
      rw [Bool.true_and]
      have hfree : ∀ s, s < 128 → pc s = 2 → fre ρ s = true := fun s hs h2 => by
        have := (wc_al_iff _ _).mp hfr s hs
        rw [h2] at this
        exact this
      have hsame : wc_al 128 (fun s => !(pc s == 2) || (fre ρ s && (lns 7 ρ s == 1))) = wc_al 128 (fun s => !(pc s == 2) || (pc (spn 7 ρ s) == 3)) := al_cg (fun s hs => by
        cases hp : (pc s == 2) with
        | false => rfl
        | true =>
          have h2 := eq_of_beq hp
          have h3 := hfree s hs h2
          rw [h3, spn_two hm hs h2 h3, Bool.true_and]
          by_cases hl : lns 7 ρ s = 1
          · rw [hl]; rfl
          · rw [show (lns 7 ρ s == 1) = false from beq_eq_false_iff_ne.mpr hl, show (2 + lns 7 ρ s == 3) = false from beq_eq_false_iff_ne.mpr (by omega)])
      rw [hsame]
      cases hsp : wc_al 128 (fun s => !(pc s == 2) || (pc (spn 7 ρ s) == 3)) with
      | false => rw [Bool.and_false]
      | true =>
        rw [Bool.and_true]
        rw [hsp, wc_al_iff] at hsame
        have hcn : wc_cn 128 (fun s => (pc s == 3) && cir 7 ρ s) = 7 := by
          refine Eq.trans (cn_ext (fun s hs => ?_)) (seven_lines (fun s => !fre ρ s) (fun s hs h2 => by
            have h3 := hsame s hs
            rw [h2, hfree s hs h2] at h3
            have h4 : (lns 7 ρ s == 1) = true := h3
            exact eq_of_beq h4))
          cases hp : (pc s == 3) with
          | false => rfl
          | true =>
            have h3 := eq_of_beq hp
            rw [Bool.true_and, Bool.true_and]
            unfold cir
            have : wc_al 7 (fun e => !s.testBit e || fre ρ (wc_an s (2 ^ e))) = true := (wc_al_iff _ _).mpr (fun e he => by
              cases hb : s.testBit e with
              | false => rfl
              | true =>
                rw [hfree (wc_an s (2 ^ e)) (wc_an_lt hs) (sub_two s hs e he h3 hb)]
                rfl)
            rw [this, Bool.and_true]
        rw [decide_eq_true hcn]
  · rw [decide_eq_false hn]
    rfl
