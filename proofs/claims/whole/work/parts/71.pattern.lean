/-! ===== the places that aren't 0, and what they join ===== -/
theorem cn_add (P : Nat → Bool) (a : Nat) : ∀ m, wc_cn (a + m) P = wc_cn a P + wc_cn m (fun i => P (a + i)) := by
  intro m
  induction m with
  | zero => rfl
  | succ m ih =>
    rw [show a + (m + 1) = a + m + 1 from rfl, wc_cn_s, wc_cn_s, ih]
    cases P (a + m) with
    | true => rw [if_pos rfl, if_pos rfl, Nat.add_assoc]
    | false => rw [if_neg Bool.false_ne_true, if_neg Bool.false_ne_true]
theorem cn_T {P : Nat → Bool} {c : Nat} (h : P c = true) : wc_cn (c + 1) P = wc_cn c P + 1 := by rw [wc_cn_s, h, if_pos rfl]
theorem cn_F {P : Nat → Bool} {c : Nat} (h : P c = false) : wc_cn (c + 1) P = wc_cn c P := by rw [wc_cn_s, h, if_neg Bool.false_ne_true]
theorem cn_0 {P : Nat → Bool} {n : Nat} (h : ∀ i, i < n → P i = false) : wc_cn n P = 0 := by
  induction n with
  | zero => rfl
  | succ n ih => rw [cn_F (h n (by omega)), ih (fun i hi => h i (by omega))]
/-- a number below the count has its place -/
theorem cn_at (P : Nat → Bool) (k : Nat) : ∀ n, k < wc_cn n P → ∃ c, c < n ∧ P c = true ∧ wc_cn c P = k := by
  intro n
  induction n with
  | zero => intro h; exact absurd h (Nat.not_lt_zero k)
  | succ n ih =>
    intro h
    by_cases h1 : k < wc_cn n P
    · obtain ⟨c, a1, a2, a3⟩ := ih h1
      exact ⟨c, by omega, a2, a3⟩
    · cases hp : P n with
      | false => rw [cn_F hp] at h; omega
      | true => rw [cn_T hp] at h; exact ⟨n, by omega, hp, by omega⟩
theorem cn_no {P : Nat → Bool} {a b : Nat} (hab : a ≤ b) (h : wc_cn b P = wc_cn a P) : ∀ x, a ≤ x → x < b → P x = false := by
  intro x h1 h2
  cases hp : P x with
  | false => rfl
  | true =>
    have := cn_lt (a := x) (b := b) h2 hp
    have := cn_mono (P := P) h1
    omega
theorem cn_same {P : Nat → Bool} {a b : Nat} (hab : a ≤ b) (h : ∀ x, a ≤ x → x < b → P x = false) : wc_cn b P = wc_cn a P := by
  obtain ⟨m, rfl⟩ : ∃ m, b = a + m := ⟨b - a, by omega⟩
  rw [cn_add, cn_0 (fun i hi => h (a + i) (by omega) (by omega)), Nat.add_zero]
/-- ELEMENT i of a base -/
def elm (B i : Nat) : Nat := wc_fd 7 (fun e a => if B.testBit e && (pc (B % 2 ^ e) == i) then e else a) 7
theorem elm_at : ∀ B, B < 128 → ∀ e, e < 7 → B.testBit e = true → elm B (pc (B % 2 ^ e)) = e := by decide +kernel
theorem elm_ok : ∀ B, B < 128 → ∀ i, i < 7 → i < pc B → elm B i < 7 ∧ B.testBit (elm B i) = true ∧ pc (B % 2 ^ elm B i) = i := by decide +kernel
/-- whether a number of a column isn't 0 -/
def pt (n : Nat) (ρ : Nat → Nat) (B e i : Nat) : Bool := decide (i < pc B) && (if B.testBit e then elm B i == e else bas n ρ (wc_an B (2 ^ elm B i) ||| 2 ^ e))
/-- places by their codes: of columns that aren't of the base -/
def plc (n : Nat) (ρ : Nat → Nat) (B c : Nat) : Bool := decide (c / 7 < n) && (!B.testBit (c / 7) && pt n ρ B (c / 7) (c % 7))
def jn (L : Nat → Nat) (a b : Nat) : Nat → Nat := fun x => if L x = L b then L a else L x
/-- what is joined, before a place -/
def lbl (n : Nat) (ρ : Nat → Nat) (B : Nat) : Nat → Nat → Nat
  | 0 => id
  | c + 1 => if plc n ρ B c && !(lbl n ρ B c (c % 7) == lbl n ρ B c (7 + c / 7)) then jn (lbl n ρ B c) (c % 7) (7 + c / 7) else lbl n ρ B c
def jf (n : Nat) (ρ : Nat → Nat) (B c : Nat) : Bool := !(lbl n ρ B c (c % 7) == lbl n ρ B c (7 + c / 7))
def frp (n : Nat) (ρ : Nat → Nat) (B c : Nat) : Bool := plc n ρ B c && !jf n ρ B c
def pix (n : Nat) (ρ : Nat → Nat) (B c : Nat) : Nat := wc_cn c (plc n ρ B)
def fx (n : Nat) (ρ : Nat → Nat) (B c : Nat) : Nat := wc_cn c (frp n ρ B)
theorem lbl_s (n : Nat) (ρ : Nat → Nat) (B c : Nat) : lbl n ρ B (c + 1) = if plc n ρ B c && jf n ρ B c then jn (lbl n ρ B c) (c % 7) (7 + c / 7) else lbl n ρ B c := rfl
theorem plc_7n {n B c : Nat} {ρ : Nat → Nat} (h : 7 * n ≤ c) : plc n ρ B c = false := by
  unfold plc
  rw [decide_eq_false (by omega), Bool.false_and]
theorem plc_row {n B c : Nat} {ρ : Nat → Nat} (h : pc B ≤ c % 7) : plc n ρ B c = false := by
  unfold plc pt
  rw [decide_eq_false (show ¬ c % 7 < pc B by omega), Bool.false_and, Bool.and_false, Bool.and_false]
theorem plc_B {n B c : Nat} {ρ : Nat → Nat} (h : B.testBit (c / 7) = true) : plc n ρ B c = false := by
  unfold plc
  rw [h, Bool.not_true, Bool.false_and, Bool.and_false]
theorem plc_iff {n B c : Nat} {ρ : Nat → Nat} : plc n ρ B c = true ↔ c / 7 < n ∧ B.testBit (c / 7) = false ∧ pt n ρ B (c / 7) (c % 7) = true := by
  unfold plc
  rw [Bool.and_eq_true, Bool.and_eq_true, decide_eq_true_iff, Bool.not_eq_true']
theorem code_d {e i : Nat} (hi : i < 7) : (7 * e + i) / 7 = e ∧ (7 * e + i) % 7 = i := by omega
theorem nb_ok : ∀ n, n < 8 → ∀ B, B < 128 → B < 2 ^ n → wc_cn 7 (fun e => decide (e < n) && !B.testBit e) + pc B = n := by decide +kernel
theorem pix_col (n : Nat) (ρ : Nat → Nat) (B : Nat) : ∀ e, pix n ρ B (7 * e) ≤ pc B * wc_cn e (fun e => decide (e < n) && !B.testBit e) := by
  intro e
  induction e with
  | zero => exact Nat.zero_le _
  | succ e ih =>
    unfold pix at ih ⊢
    rw [show 7 * (e + 1) = 7 * e + 7 by omega, cn_add, wc_cn_s e]
    cases hq : (decide (e < n) && !B.testBit e) with
    | false =>
      have h0 : wc_cn 7 (fun i => plc n ρ B (7 * e + i)) = 0 := cn_0 (fun i hi => by
        have hd := code_d (e := e) hi
        unfold plc
        rw [hd.1, hd.2, ← Bool.and_assoc, hq, Bool.false_and])
      rw [if_neg Bool.false_ne_true, h0]
      exact ih
    | true =>
      rw [if_pos rfl, Nat.mul_succ]
      have h1 : wc_cn 7 (fun i => plc n ρ B (7 * e + i)) ≤ wc_cn 7 (fun i => decide (i < pc B)) := cn_imp (fun i hi hp => by
        apply decide_eq_true
        apply Classical.byContradiction
        intro h
        rw [plc_row (by have hd := code_d (e := e) hi; omega)] at hp
        cases hp)
      rw [cn_below (pc B) (by have := pc_le B; omega)] at h1
      omega
theorem pix_12 {n B : Nat} (ρ : Nat → Nat) (hn : n ≤ 7) (hB : B < 2 ^ n) : pix n ρ B 49 ≤ 12 := by
  have h1 := pix_col n ρ B 7
  have h2 := nb_ok n (by omega) B (p2_128 hn hB) hB
  have h3 : ∀ n, n < 8 → ∀ r, r < 8 → ∀ x, x < 8 → x + r = n → r * x ≤ 12 := by decide
  exact Nat.le_trans h1 (h3 n (by omega) (pc B) (by have := pc_le B; omega) _ (by omega) h2)
/-- the first two places join -/
theorem two_join (n : Nat) (ρ : Nat → Nat) (B : Nat) : ∀ c, (pix n ρ B c = 0 → lbl n ρ B c = id) ∧ (pix n ρ B c = 1 → ∃ c0, c0 < c ∧ lbl n ρ B c = jn id (c0 % 7) (7 + c0 / 7)) ∧ fx n ρ B c + min 2 (pix n ρ B c) ≤ pix n ρ B c := by
  intro c
  induction c with
  | zero => exact ⟨fun _ => rfl, fun h => (by cases h), Nat.le_refl _⟩
  | succ c ih =>
    obtain ⟨i1, i2, i3⟩ := ih
    cases hp : plc n ρ B c with
    | false =>
      have e1 : pix n ρ B (c + 1) = pix n ρ B c := cn_F hp
      have e2 : fx n ρ B (c + 1) = fx n ρ B c := cn_F (by unfold frp; rw [hp, Bool.false_and])
      have e3 : lbl n ρ B (c + 1) = lbl n ρ B c := by rw [lbl_s, hp, Bool.false_and, if_neg Bool.false_ne_true]
      rw [e1, e2, e3]
      exact ⟨i1, fun h => by obtain ⟨c0, q1, q2⟩ := i2 h; exact ⟨c0, by omega, q2⟩, i3⟩
    | true =>
      have e1 : pix n ρ B (c + 1) = pix n ρ B c + 1 := cn_T hp
      have e2 : fx n ρ B (c + 1) ≤ fx n ρ B c + 1 := by unfold fx; rw [wc_cn_s]; split <;> omega
      rw [e1]
      by_cases h0 : pix n ρ B c = 0
      · have hj : jf n ρ B c = true := by
          unfold jf
          rw [i1 h0, Bool.not_eq_true', beq_eq_false_iff_ne]
          show c % 7 ≠ 7 + c / 7
          omega
        have e3 : fx n ρ B (c + 1) = fx n ρ B c := cn_F (by unfold frp; rw [hj, Bool.not_true, Bool.and_false])
        rw [e3]
        refine ⟨fun h => by omega, fun _ => ⟨c, by omega, ?_⟩, by omega⟩
        rw [lbl_s, hp, hj, Bool.true_and, if_pos rfl, i1 h0]
      · by_cases h1 : pix n ρ B c = 1
        · obtain ⟨c0, q1, q2⟩ := i2 h1
          have hj : jf n ρ B c = true := by
            unfold jf
            rw [q2, Bool.not_eq_true', beq_eq_false_iff_ne]
            unfold jn
            show (if c % 7 = 7 + c0 / 7 then c0 % 7 else c % 7) ≠ (if 7 + c / 7 = 7 + c0 / 7 then c0 % 7 else 7 + c / 7)
            rw [if_neg (by omega)]
            split <;> omega
          have e3 : fx n ρ B (c + 1) = fx n ρ B c := cn_F (by unfold frp; rw [hj, Bool.not_true, Bool.and_false])
          rw [e3]
          exact ⟨fun h => by omega, fun h => by omega, by omega⟩
        · exact ⟨fun h => by omega, fun h => by omega, by omega⟩
theorem fx_10 {n B : Nat} (ρ : Nat → Nat) (hn : n ≤ 7) (hB : B < 2 ^ n) : fx n ρ B 49 ≤ 10 := by
  have h1 := pix_12 ρ hn hB
  have h2 := (two_join n ρ B 49).2.2
  omega
theorem fx_le {n B c : Nat} (ρ : Nat → Nat) (hc : c ≤ 49) : fx n ρ B c ≤ fx n ρ B 49 := cn_mono hc
theorem pix_le {n B c : Nat} (ρ : Nat → Nat) (hc : c ≤ 49) : pix n ρ B c ≤ pix n ρ B 49 := cn_mono hc
theorem fil_20 : ∀ f, f < 4 → ∀ t, t < 11 → 0 < (fsz f - 1) ^ t ∧ (fsz f - 1) ^ t ≤ 2 ^ 20 := by decide +kernel
