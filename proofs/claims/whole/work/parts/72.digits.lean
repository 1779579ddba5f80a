/-! ===== fillings by their numbers ===== -/
def num (f n : Nat) (ρ : Nat → Nat) (B k c : Nat) : Nat := if jf n ρ B c then 1 else 1 + k / (fsz f - 1) ^ (fx n ρ B 49 - 1 - fx n ρ B c) % (fsz f - 1)
def ent (f n : Nat) (ρ : Nat → Nat) (B k c : Nat) : Nat := if decide (c / 7 < n) && pt n ρ B (c / 7) (c % 7) then (if B.testBit (c / 7) then 1 else num f n ρ B k c) else 0
def wcol (f n : Nat) (ρ : Nat → Nat) (B k : Nat) : Nat → vec := fun e i => ent f n ρ B k (7 * e + i)
theorem num_lt (f n : Nat) (ρ : Nat → Nat) (B k c : Nat) : 1 ≤ num f n ρ B k c ∧ num f n ρ B k c < fsz f := by
  have hz := fsz_pos f
  have := Nat.mod_lt (k / (fsz f - 1) ^ (fx n ρ B 49 - 1 - fx n ρ B c)) (show 0 < fsz f - 1 by omega)
  unfold num
  split <;> omega
theorem ent_lt (f n : Nat) (ρ : Nat → Nat) (B k c : Nat) : ent f n ρ B k c < fsz f := by
  have hz := fsz_pos f
  have := num_lt f n ρ B k c
  unfold ent
  split
  · split <;> omega
  · omega
theorem vdc_wcol (f n : Nat) (ρ : Nat → Nat) (B k : Nat) : vdc f (wcol f n ρ B k) := fun g _ i _ => ent_lt f n ρ B k (7 * g + i)
theorem num_pre {f n B k k' c c' : Nat} {ρ : Nat → Nat} (h : k / (fsz f - 1) ^ (fx n ρ B 49 - fx n ρ B c) = k' / (fsz f - 1) ^ (fx n ρ B 49 - fx n ρ B c)) (hp : plc n ρ B c' = true) (hc : c' < c) (hc49 : c ≤ 49) : num f n ρ B k c' = num f n ρ B k' c' := by
  unfold num
  cases hj : jf n ρ B c' with
  | true => rfl
  | false =>
    have hfr : frp n ρ B c' = true := by unfold frp; rw [hp, hj]; rfl
    have h1 : fx n ρ B c' < fx n ρ B c := cn_lt hc hfr
    have h2 := fx_le (n := n) (B := B) ρ hc49
    rw [if_neg Bool.false_ne_true, if_neg Bool.false_ne_true, show fx n ρ B 49 - 1 - fx n ρ B c' = (fx n ρ B 49 - fx n ρ B c) + (fx n ρ B c - 1 - fx n ρ B c') by omega, Nat.pow_add, ← Nat.div_div_eq_div_mul, ← Nat.div_div_eq_div_mul, h]
theorem ent_pre {f n B k k' c c' : Nat} {ρ : Nat → Nat} (h : k / (fsz f - 1) ^ (fx n ρ B 49 - fx n ρ B c) = k' / (fsz f - 1) ^ (fx n ρ B 49 - fx n ρ B c)) (hc : c' < c ∨ plc n ρ B c' = false) (hc49 : c ≤ 49) : ent f n ρ B k c' = ent f n ρ B k' c' := by
  unfold ent
  cases hq : (decide (c' / 7 < n) && pt n ρ B (c' / 7) (c' % 7)) with
  | false => rfl
  | true =>
    cases hB : B.testBit (c' / 7) with
    | true => rfl
    | false =>
      rw [if_pos rfl, if_pos rfl, if_neg Bool.false_ne_true, if_neg Bool.false_ne_true]
      rw [Bool.and_eq_true, decide_eq_true_iff] at hq
      have hp : plc n ρ B c' = true := plc_iff.mpr ⟨hq.1, hB, hq.2⟩
      rcases hc with hc | hc
      · exact num_pre h hp hc hc49
      · rw [hp] at hc; cases hc
theorem ent_np {f n B k k' c' : Nat} {ρ : Nat → Nat} (hc : plc n ρ B c' = false) : ent f n ρ B k c' = ent f n ρ B k' c' := by
  unfold ent
  cases hq : (decide (c' / 7 < n) && pt n ρ B (c' / 7) (c' % 7)) with
  | false => rfl
  | true =>
    cases hB : B.testBit (c' / 7) with
    | true => rfl
    | false =>
      rw [Bool.and_eq_true, decide_eq_true_iff] at hq
      have hp : plc n ρ B c' = true := plc_iff.mpr ⟨hq.1, hB, hq.2⟩
      rw [hp] at hc; cases hc
theorem wcol_B {f n B k g i : Nat} {ρ : Nat → Nat} (hn : n ≤ 7) (hB : B < 2 ^ n) (hi : i < 7) (hb : B.testBit g = true) : wcol f n ρ B k g i = if i = pc (B % 2 ^ g) then 1 else 0 := by
  have hB7 := p2_128 hn hB
  have hg : g < n := bit_lt hB hb
  obtain ⟨d1, d2⟩ := code_d (e := g) hi
  unfold wcol ent pt
  rw [d1, d2, decide_eq_true hg, hb, Bool.true_and, if_pos rfl, if_pos rfl]
  by_cases h : i = pc (B % 2 ^ g)
  · have h1 := row_lt B hB7 g (by omega) hb
    have h2 := elm_at B hB7 g (by omega) hb
    rw [if_pos h, h, decide_eq_true h1, h2, Bool.true_and, if_pos (by exact beq_self_eq_true g)]
  · rw [if_neg h]
    by_cases h1 : i < pc B
    · have h2 := (elm_ok B hB7 i hi h1).2.2
      have h3 : (elm B i == g) = false := by
        rw [beq_eq_false_iff_ne]
        intro h4
        rw [h4] at h2
        exact h h2.symm
      rw [h3, Bool.and_false, if_neg Bool.false_ne_true]
    · rw [decide_eq_false h1, Bool.false_and, if_neg Bool.false_ne_true]
theorem wcol_0 {f n B k g i : Nat} {ρ : Nat → Nat} (hi : i < 7) (hb : B.testBit g = false) (hp : plc n ρ B (7 * g + i) = false) : wcol f n ρ B k g i = 0 := by
  obtain ⟨d1, d2⟩ := code_d (e := g) hi
  unfold wcol ent
  rw [d1, d2]
  unfold plc at hp
  rw [d1, d2, hb, Bool.not_false, Bool.true_and] at hp
  rw [hp, if_neg Bool.false_ne_true]
/-- whether a filling is a WRITING -/
noncomputable def acc (f n : Nat) (ρ : Nat → Nat) (B k : Nat) : Bool := wc_al (2 ^ n) (fun s => !(pc s == pc B) || ((rkf f (wcol f n ρ B k) s == pc B) == (ρ s == pc B)))
/-- what the class asks of a column -/
noncomputable def fit (f n : Nat) (ρ : Nat → Nat) (B k e : Nat) : Bool := wc_al (2 ^ n) (fun s => !(s.testBit e && (wc_an s (B ||| (2 ^ (e + 1) - 1)) == 0) && (pc s == pc B)) || ((rkf f (wcol f n ρ B k) s == pc B) == (ρ s == pc B)))
theorem in_fill {n s B e : Nat} (hn : n ≤ 7) (hs : s < 2 ^ n) (h : ∀ x, s.testBit x = true → B.testBit x = true ∨ x ≤ e) : wc_an s (B ||| (2 ^ (e + 1) - 1)) = 0 := by
  have hs7 := p2_128 hn hs
  apply Nat.eq_of_testBit_eq
  intro x
  rw [wc_tan (by omega), Nat.zero_testBit, Nat.testBit_or, Nat.testBit_two_pow_sub_one]
  cases hb : s.testBit x with
  | false => rfl
  | true =>
    rcases h x hb with h1 | h1
    · rw [h1]; rfl
    · rw [decide_eq_true (show x < e + 1 by omega), Bool.or_true]; rfl
theorem out_fill {s B e x : Nat} (hs : s < 128) (h : wc_an s (B ||| (2 ^ (e + 1) - 1)) = 0) (hx : s.testBit x = true) : B.testBit x = true ∨ x ≤ e := by
  have := congrArg (fun z => z.testBit x) h
  rw [wc_tan (by omega), Nat.zero_testBit, Nat.testBit_or, Nat.testBit_two_pow_sub_one, hx, Bool.true_and, Bool.not_eq_false', Bool.or_eq_true, decide_eq_true_iff] at this
  rcases this with h | h
  · exact Or.inl h
  · exact Or.inr (by omega)
theorem acc_fit {f n B k : Nat} {ρ : Nat → Nat} (hf : f < 4) (hm : mat n ρ) (hn : n ≤ 7) (hB : B < 2 ^ n) (hb : bas n ρ B = true) : acc f n ρ B k = true ↔ ∀ e, e < n → (∃ i, i < 7 ∧ plc n ρ B (7 * e + i) = true) → fit f n ρ B k e = true := by
  have hB7 := p2_128 hn hB
  unfold acc fit
  constructor
  · intro h e _ _
    rw [wc_al_iff] at h ⊢
    intro s hs
    have h1 := h s hs
    cases hp : (pc s == pc B) with
    | false => rw [Bool.and_false]; rfl
    | true =>
      rw [hp, Bool.not_true, Bool.false_or] at h1
      rw [h1, Bool.or_true]
  · intro h
    rw [wc_al_iff]
    intro s hs
    cases hp : (pc s == pc B) with
    | false => rfl
    | true =>
      rw [Bool.not_true, Bool.false_or]
      have hps := eq_of_beq hp
      have hs7 := p2_128 hn hs
      by_cases hx : ∃ e, e < n ∧ (s.testBit e = true ∧ B.testBit e = false)
      · obtain ⟨e, he, ⟨h1, h2⟩, h3⟩ := most_of n hx
        by_cases hpl : ∃ i, i < 7 ∧ plc n ρ B (7 * e + i) = true
        · have h4 := h e he hpl
          rw [wc_al_iff] at h4
          have h5 := h4 s hs
          rw [h1, hp, in_fill hn hs (fun x hxs => ?_)] at h5
          · simpa using h5
          · cases hbx : B.testBit x with
            | true => exact Or.inl rfl
            | false =>
              right
              apply Classical.byContradiction
              intro hc
              exact h3 x (by omega) (bit_lt hs hxs) ⟨hxs, hbx⟩
        · have hz : ∀ i, i < 7 → plc n ρ B (7 * e + i) = false := fun i hi => by
            cases hq : plc n ρ B (7 * e + i) with
            | false => rfl
            | true => exact absurd ⟨i, hi, hq⟩ hpl
          have r1 := rkf_lt hf (vdc_wcol f n ρ B k) hn hs h1 (fun i hi => wcol_0 hi h2 (hz i hi))
          have r2 := lop_lt hm hn he (lop_0 hm hn hB hb he h2 (fun x hx hxb => by
            have hr := row_lt B hB7 x (by omega) hxb
            have hr7 := pc_le B
            have h6 := hz (pc (B % 2 ^ x)) (by omega)
            obtain ⟨d1, d2⟩ := code_d (e := e) (i := pc (B % 2 ^ x)) (by omega)
            unfold plc pt at h6
            rw [d1, d2, decide_eq_true he, h2, decide_eq_true hr, elm_at B hB7 x (by omega) hxb] at h6
            simpa using h6)) hs h1
          have e1 : (rkf f (wcol f n ρ B k) s == pc B) = false := by rw [beq_eq_false_iff_ne]; omega
          have e2 : (ρ s == pc B) = false := by rw [beq_eq_false_iff_ne]; omega
          rw [e1, e2]; rfl
      · have hsub : s ||| B = B := by
          apply Nat.eq_of_testBit_eq
          intro x
          rw [Nat.testBit_or]
          cases hxs : s.testBit x with
          | false => rfl
          | true =>
            cases hxb : B.testBit x with
            | true => rfl
            | false => exact absurd ⟨x, bit_lt hs hxs, hxs, hxb⟩ hx
        have hsB := sub_eq s hs7 B hB7 hsub hps
        rw [hsB, rkf_base hf (vdc_wcol f n ρ B k) hB7 (fun g hg hgb i hi => wcol_B hn hB hi hgb), (bas_iff.mp hb).1, beq_self_eq_true]
/-! the fold over all fillings -/
noncomputable def stp (f n : Nat) (ρ : Nat → Nat) (B E k : Nat) (st : Nat × Nat) : Nat × Nat := if decide (st.1 < E) && acc f n ρ B k then (st.1 + 1, if st.1 = 0 then k else st.2) else st
theorem lp_add {α : Type} (F : Nat → α → α) : ∀ a b e x, wc_lp F (a + b) e x = wc_lp F b (e + a) (wc_lp F a e x) := by
  intro a
  induction a with
  | zero => intro b e x; rw [Nat.zero_add]; rfl
  | succ a ih =>
    intro b e x
    rw [show a + 1 + b = (a + b) + 1 by omega]
    show wc_lp F (a + b) (e + 1) (F e x) = wc_lp F b (e + (a + 1)) (wc_lp F a (e + 1) (F e x))
    rw [ih, show e + 1 + a = e + (a + 1) by omega]
theorem lp_id {α : Type} (F : Nat → α → α) (x : α) : ∀ k e, (∀ i, e ≤ i → i < e + k → F i x = x) → wc_lp F k e x = x := by
  intro k
  induction k with
  | zero => intro e _; rfl
  | succ k ih =>
    intro e h
    show wc_lp F k (e + 1) (F e x) = x
    rw [h e (Nat.le_refl e) (by omega)]
    exact ih (e + 1) (fun i h1 h2 => h i (by omega) (by omega))
theorem stp_full {f n B E k : Nat} {ρ : Nat → Nat} {st : Nat × Nat} (h : E ≤ st.1) : stp f n ρ B E k st = st := by
  unfold stp
  rw [decide_eq_false (by omega), Bool.false_and, if_neg Bool.false_ne_true]
theorem stp_no {f n B E k : Nat} {ρ : Nat → Nat} {st : Nat × Nat} (h : acc f n ρ B k = false) : stp f n ρ B E k st = st := by
  unfold stp
  rw [h, Bool.and_false, if_neg Bool.false_ne_true]
theorem stp_le (f n B E k : Nat) (ρ : Nat → Nat) (st : Nat × Nat) : (stp f n ρ B E k st).1 ≤ st.1 + 1 ∧ st.1 ≤ (stp f n ρ B E k st).1 ∧ (st.1 ≤ E → (stp f n ρ B E k st).1 ≤ E) := by
  unfold stp
  split
  · rename_i h
    rw [Bool.and_eq_true, decide_eq_true_iff] at h
    exact ⟨Nat.le_refl _, Nat.le_succ _, fun _ => h.1⟩
  · exact ⟨Nat.le_succ _, Nat.le_refl _, fun h => h⟩
theorem lp_le (f n B E : Nat) (ρ : Nat → Nat) : ∀ m e st, (wc_lp (stp f n ρ B E) m e st).1 ≤ st.1 + m ∧ st.1 ≤ (wc_lp (stp f n ρ B E) m e st).1 ∧ (st.1 ≤ E → (wc_lp (stp f n ρ B E) m e st).1 ≤ E) := by
  intro m
  induction m with
  | zero => intro e st; exact ⟨Nat.le_refl _, Nat.le_refl _, fun h => h⟩
  | succ m ih =>
    intro e st
    obtain ⟨h1, h2, h3⟩ := ih (e + 1) (stp f n ρ B E e st)
    obtain ⟨g1, g2, g3⟩ := stp_le f n B E e ρ st
    show (wc_lp (stp f n ρ B E) m (e + 1) (stp f n ρ B E e st)).1 ≤ _ ∧ _ ≤ (wc_lp (stp f n ρ B E) m (e + 1) (stp f n ρ B E e st)).1 ∧ (_ → (wc_lp (stp f n ρ B E) m (e + 1) (stp f n ρ B E e st)).1 ≤ E)
    exact ⟨by omega, by omega, fun h => h3 (g3 h)⟩
/-- enough that is more than all there are doesn't matter -/
theorem lp_E (f n B E E' : Nat) (ρ : Nat → Nat) : ∀ m e st, st.1 + m ≤ E → st.1 + m ≤ E' → wc_lp (stp f n ρ B E) m e st = wc_lp (stp f n ρ B E') m e st := by
  intro m
  induction m with
  | zero => intro e st _ _; rfl
  | succ m ih =>
    intro e st h1 h2
    have hs : stp f n ρ B E e st = stp f n ρ B E' e st := by
      unfold stp
      rw [decide_eq_true (show st.1 < E by omega), decide_eq_true (show st.1 < E' by omega)]
    obtain ⟨g1, g2, g3⟩ := stp_le f n B E' e ρ st
    show wc_lp (stp f n ρ B E) m (e + 1) (stp f n ρ B E e st) = wc_lp (stp f n ρ B E') m (e + 1) (stp f n ρ B E' e st)
    rw [hs]
    exact ih (e + 1) _ (by omega) (by omega)
