/-! ===== the reference's fields; views, their getters ===== -/
def four (i : Nat) : Nat := [0, 0, 0, 0, 0, 1, 2, 3, 0, 2, 3, 1, 0, 3, 1, 2].getD i 0
/-- what never changes of the reference -/
def MC (S : am_S) : Prop := (∀ f, f < 4 → S 89 f = nI (fsz f)) ∧ ∀ i, i < 16 → S 90 i = nI (four i)
theorem MC.sz {S : am_S} (h : MC S) {f : Nat} (hf : f < 4) : am_aI (ws S) 89 0 (nI f) = some (nI (fsz f)) := by rw [kA89 S hf, h.1 f hf]
theorem MC.fo {S : am_S} (h : MC S) {i : Nat} (hi : i < 16) : am_aI (ws S) 90 0 (nI i) = some (nI (four i)) := by rw [kA90 S hi, h.2 i hi]
theorem f3I {f : Nat} (hf : f < 4) : (nI f = (3 : Int32)) ↔ f = 3 := by
  rcases (show f = 0 ∨ f = 1 ∨ f = 2 ∨ f = 3 by omega) with rfl | rfl | rfl | rfl <;> decide
theorem m_plus (d : Nat) {S : am_S} (h : MC S) {f a b : Nat} (hf : f < 4) (ha : a < fsz f) (hb : b < fsz f) : am_cal am_mt (d + 1) jX11_plus [.ref 88, .int (nI f), .int (nI a), .int (nI b)] (ws S) = some (some (.int (nI (fad f a b))), ws S) := by
  have hz := fsz_pos f
  rw [eX11_plus_0, kO88, if_T, kR88_0, wc_bind, h.sz hf, wc_bind, wc_xor, nI_add, if_neg (nI_ne0 (by omega) (by omega)), pk_rem (by omega) (by omega) (by omega)]
  unfold fad
  by_cases h3 : f = 3
  · rw [if_pos h3, if_pos ((f3I hf).mpr h3)]
  · rw [if_neg h3, if_neg (fun c => h3 ((f3I hf).mp c))]
theorem m_minus (d : Nat) {S : am_S} (h : MC S) {f a b : Nat} (hf : f < 4) (ha : a < fsz f) (hb : b < fsz f) : am_cal am_mt (d + 1) jX11_minus [.ref 88, .int (nI f), .int (nI a), .int (nI b)] (ws S) = some (some (.int (nI (fsu f a b))), ws S) := by
  have hz := fsz_pos f
  rw [eX11_minus_0, kO88, if_T, kR88_0, wc_bind, h.sz hf, wc_bind, wc_bind, h.sz hf, wc_bind, wc_xor, show nI a - nI b + nI (fsz f) = nI a + nI (fsz f) - nI b from by rw [Int32.sub_eq_add_neg, Int32.add_assoc, Int32.add_comm (-nI b), ← Int32.add_assoc, ← Int32.sub_eq_add_neg], nI_add, pk_sub (by omega), if_neg (nI_ne0 (by omega) (by omega)), pk_rem (by omega) (by omega) (by omega)]
  unfold fsu
  by_cases h3 : f = 3
  · rw [if_pos h3, if_pos ((f3I hf).mpr h3)]
  · rw [if_neg h3, if_neg (fun c => h3 ((f3I hf).mp c))]
theorem four_ok : ∀ a, a < 4 → ∀ b, b < 4 → four (4 * a + b) = fmul4 a b := by decide +kernel
theorem m_times (d : Nat) {S : am_S} (h : MC S) {f a b : Nat} (hf : f < 4) (ha : a < fsz f) (hb : b < fsz f) : am_cal am_mt (d + 1) jX11_times [.ref 88, .int (nI f), .int (nI a), .int (nI b)] (ws S) = some (some (.int (nI (fmu f a b))), ws S) := by
  have hz := fsz_pos f
  rw [eX11_times_0, kO88, if_T, kR88_0, kR88_1, wc_bind, wc_bind, h.sz hf, wc_bind, show (4 : Int32) = nI 4 from rfl, pk_mul, pk_mul, nI_add, if_neg (nI_ne0 (by omega) (by omega))]
  unfold fmu
  by_cases h3 : f = 3
  · subst h3
    have ha : a < 4 := ha
    have hb : b < 4 := hb
    rw [if_pos rfl, if_pos ((f3I (by decide)).mpr rfl), h.fo (show 4 * a + b < 16 by omega), wc_bind, four_ok a ha b hb]
  · rw [if_neg h3, if_neg (fun c => h3 ((f3I hf).mp c)), pk_rem (Nat.lt_of_lt_of_le (Nat.mul_lt_mul'' ha hb) (Nat.le_trans (Nat.mul_le_mul hz.2 hz.2) (by decide))) (by omega) (by omega)]
theorem fdv_ok1 : ∀ f, f < 4 → ∀ a, a < fsz f → ∀ b, b < fsz f → 0 < b → fmu f (fmu f a (fin f b)) b = a := by decide +kernel
theorem fdv_ok2 : ∀ f, f < 4 → ∀ x, x < fsz f → ∀ b, b < fsz f → 0 < b → x = fmu f (fmu f x b) (fin f b) := by decide +kernel
theorem m_by (d : Nat) {S : am_S} (h : MC S) {f a b : Nat} (hf : f < 4) (ha : a < fsz f) (hb : b < fsz f) (h0 : 0 < b) : am_cal am_mt (d + 2) jX11_by [.ref 88, .int (nI f), .int (nI a), .int (nI b)] (ws S) = some (some (.int (nI (fmu f a (fin f b)))), ws S) := by
  have h1 := fdv_ok1 f hf a ha b hb h0
  have h2 : ∀ x, x < fsz f → fmu f x b = a → x = fmu f a (fin f b) := fun x hx he => by rw [← he]; exact fdv_ok2 f hf x hx b hb h0
  have hl := (f_lt f hf a ha (fin f b) (f_lt f hf b hb b hb).2.2.2).2.2.1
  have hz := fsz_pos f
  rw [eX11_by_0, kO88, if_T]
  apply wp_pure
  refine loop_wp (fun e (_ : Unit) => am_run false (am_cal am_mt (d + 1)) (am_lk tbX11_by) 3 [some (.ref 88), some (.int (nI f)), some (.int (nI a)), some (.int (nI b)), some (.int (nI e))] [] (ws S)) (fun _ _ => True) _ (fmu f a (fin f b)) ?_ ?_ 0 () (Nat.zero_le _) trivial
  · intro e _ he _ K
    show wp (am_run _ _ _ _ _ _ _) _
    have hlt := (f_lt f hf e (by omega) b hb).2.2.1
    rw [eX11_by_3, m_times d h hf (show e < fsz f by omega) hb, cI_some, wc_bind, if_neg (fun c => absurd (h2 e (by omega) ((nI_eq (by omega) (by omega)).mp c)) (by omega)), nI_1]
    dsimp only
    exact K () trivial
  · intro _ _
    show wp (am_run _ _ _ _ _ _ _) _
    rw [eX11_by_3, m_times d h hf hl hb, cI_some, wc_bind, h1, if_pos rfl]
    dsimp only
    exact wp_ret ⟨rfl, rfl⟩
/-! views -/
def fre (ρ : Nat → Nat) (s : Nat) : Bool := decide (ρ s = pc s)
def bas (n : Nat) (ρ : Nat → Nat) (s : Nat) : Bool := fre ρ s && decide (ρ s = ρ (2 ^ n - 1))
def spn (n : Nat) (ρ : Nat → Nat) (s : Nat) : Nat := wc_fd n (fun e a => if ρ (s ||| 2 ^ e) = ρ s then a ||| 2 ^ e else a) s
def cir (n : Nat) (ρ : Nat → Nat) (s : Nat) : Bool := !fre ρ s && wc_al n (fun e => !s.testBit e || fre ρ (wc_an s (2 ^ e)))
def flt (n : Nat) (ρ : Nat → Nat) (s : Nat) : Bool := decide (spn n ρ s = s)
def hyp (n : Nat) (ρ : Nat → Nat) (s : Nat) : Bool := decide (ρ s + 1 = ρ (2 ^ n - 1)) && flt n ρ s
def srt (n : Nat) (ρ : Nat → Nat) (w s : Nat) : Bool := if w = 1 then fre ρ s else if w = 2 then bas n ρ s else if w = 3 then cir n ρ s else if w = 4 then flt n ρ s else hyp n ρ s
/-- a view of the class, at cell q -/
def VC (S : am_S) (q n : Nat) (ρ : Nat → Nat) : Prop := kdl[q]? = some (0, 8, 0, [(0, 0), (1, q + 1)]) ∧ kdl[q + 1]? = some (1, 0, 128, []) ∧ n ≤ 7 ∧ S q 0 = nI n ∧ ∀ s, s < 2 ^ n → S (q + 1) s = nI (ρ s) ∧ ρ s ≤ 7
/-- a view of the reference -/
def VM (S : am_S) (v n : Nat) (ρ : Nat → Nat) : Prop := v < 14 ∧ n ≤ 7 ∧ S 91 v = nI n ∧ ∀ s, s < 2 ^ n → S 92 (128 * v + s) = nI (ρ s) ∧ ρ s ≤ 7
theorem p2_128 {n s : Nat} (hn : n ≤ 7) (hs : s < 2 ^ n) : s < 128 := Nat.lt_of_lt_of_le hs (Nat.pow_le_pow_right (by decide) hn : 2 ^ n ≤ 2 ^ 7)
theorem p2_le {n : Nat} (hn : n ≤ 7) : 2 ^ n ≤ 128 := (Nat.pow_le_pow_right (by decide) hn : 2 ^ n ≤ 2 ^ 7)
theorem p2_m1 (n : Nat) : 2 ^ n - 1 < 2 ^ n := Nat.sub_lt (Nat.two_pow_pos n) (by decide)
theorem p2_or {n s e : Nat} (hs : s < 2 ^ n) (he : e < n) : s ||| 2 ^ e < 2 ^ n := Nat.or_lt_two_pow hs (Nat.pow_lt_pow_right (by decide) he)
theorem and127 {s : Nat} (hs : s < 128) : nI s &&& (127 : Int32) = nI s := by
  rw [show (127 : Int32) = nI 127 from rfl, wc_and, show 127 = 2 ^ 7 - 1 from rfl, Nat.and_two_pow_sub_one_eq_mod, Nat.mod_eq_of_lt hs]
theorem VC.n7 {S : am_S} {q n : Nat} {ρ : Nat → Nat} (h : VC S q n ρ) : n ≤ 7 := h.2.2.1
theorem VC.O {S : am_S} {q n : Nat} {ρ : Nat → Nat} (h : VC S q n ρ) : am_isO (ws S) q 8 = true := ws_isO h.1
theorem VC.fI {S : am_S} {q n : Nat} {ρ : Nat → Nat} (h : VC S q n ρ) : am_fI (ws S) q 8 0 = some (nI n) := by rw [ws_fI h.1 rfl, h.2.2.2.1]
theorem VC.fR {S : am_S} {q n : Nat} {ρ : Nat → Nat} (h : VC S q n ρ) : am_fR (ws S) q 8 1 = some (q + 1) := ws_fR h.1 rfl
theorem VC.le {S : am_S} {q n s : Nat} {ρ : Nat → Nat} (h : VC S q n ρ) (hs : s < 2 ^ n) : ρ s ≤ 7 := (h.2.2.2.2 s hs).2
theorem VM.n7 {S : am_S} {v n : Nat} {ρ : Nat → Nat} (h : VM S v n ρ) : n ≤ 7 := h.2.1
theorem VM.le {S : am_S} {q n s : Nat} {ρ : Nat → Nat} (h : VM S q n ρ) (hs : s < 2 ^ n) : ρ s ≤ 7 := (h.2.2.2 s hs).2
theorem VM.aI {S : am_S} {v n : Nat} {ρ : Nat → Nat} (h : VM S v n ρ) : am_aI (ws S) 91 0 (nI v) = some (nI n) := by rw [kA91 S h.1, h.2.2.1]
theorem c8_all (d : Nat) {S : am_S} {q n : Nat} {ρ : Nat → Nat} (h : VC S q n ρ) : am_cal am_mt (d + 1) jX8_all [.ref q] (ws S) = some (some (.int (nI (2 ^ n - 1))), ws S) := by
  have := h.n7
  rw [eX8_all_0, h.O, if_T, h.fI, wc_bind, wc_all (by omega)]
theorem c8_rankOf (d : Nat) {S : am_S} {q n s : Nat} {ρ : Nat → Nat} (h : VC S q n ρ) (hs : s < 2 ^ n) : am_cal am_mt (d + 1) jX8_rankOf [.ref q, .int (nI s)] (ws S) = some (some (.int (nI (ρ s))), ws S) := by
  have := p2_128 h.n7 hs
  rw [eX8_rankOf_0, h.O, if_T, h.fR, wc_bind, and127 this, ws_aIn h.2.1 this (by decide), wc_bind, (h.2.2.2.2 s hs).1]
theorem c8_fullRank (d : Nat) {S : am_S} {q n : Nat} {ρ : Nat → Nat} (h : VC S q n ρ) : am_cal am_mt (d + 2) jX8_fullRank [.ref q] (ws S) = some (some (.int (nI (ρ (2 ^ n - 1)))), ws S) := by
  rw [eX8_fullRank_0, h.O, if_T, c8_all d h, cI_some, wc_bind, c8_rankOf d h (p2_m1 n), cI_some, wc_bind]
theorem m_all (d : Nat) {S : am_S} {v n : Nat} {ρ : Nat → Nat} (h : VM S v n ρ) : am_cal am_mt (d + 1) jX11_all [.ref 88, .int (nI v)] (ws S) = some (some (.int (nI (2 ^ n - 1))), ws S) := by
  have := h.n7
  rw [eX11_all_0, kO88, if_T, kR88_2, wc_bind, h.aI, wc_bind, wc_all (by omega)]
theorem wc_row (v s : Nat) : (128 : Int32) * nI v + nI s = nI (128 * v + s) := by rw [show (128 : Int32) = nI 128 from rfl, pk_mul, nI_add]
theorem m_r (d : Nat) {S : am_S} {v n s : Nat} {ρ : Nat → Nat} (h : VM S v n ρ) (hs : s < 2 ^ n) : am_cal am_mt (d + 1) jX11_r [.ref 88, .int (nI v), .int (nI s)] (ws S) = some (some (.int (nI (ρ s))), ws S) := by
  have h1 := p2_128 h.n7 hs
  have h2 := h.1
  rw [eX11_r_0, kO88, if_T, kR88_3, wc_bind, wc_row, kA92 S (by omega), wc_bind, (h.2.2.2 s hs).1]
theorem m_total (d : Nat) {S : am_S} {v n : Nat} {ρ : Nat → Nat} (h : VM S v n ρ) : am_cal am_mt (d + 2) jX11_total [.ref 88, .int (nI v)] (ws S) = some (some (.int (nI (ρ (2 ^ n - 1)))), ws S) := by
  rw [eX11_total_0, kO88, if_T, m_all d h, cI_some, wc_bind, m_r d h (p2_m1 n), cI_some, wc_bind]
theorem bI_if {β : Type} (p : Prop) [Decidable p] (g : β) : (if p then some (some (Value.int (1 : Int32)), g) else some (some (Value.int (0 : Int32)), g)) = some (some (Value.int (bI (decide p))), g) := by
  by_cases h : p
  · rw [if_pos h, decide_eq_true h]; rfl
  · rw [if_neg h, decide_eq_false h]; rfl
theorem c8_isFree (d : Nat) {S : am_S} {q n s : Nat} {ρ : Nat → Nat} (h : VC S q n ρ) (hs : s < 2 ^ n) : am_cal am_mt (d + 2) jX8_isFree [.ref q, .int (nI s)] (ws S) = some (some (.int (bI (fre ρ s))), ws S) := by
  have h1 := p2_128 h.n7 hs
  have h2 := h.le hs
  have h3 := pc_le s
  rw [eX8_isFree_0, h.O, if_T, c8_rankOf d h hs, cI_some, wc_bind, J_bits d h1, cI_some, wc_bind, bI_if]
  simp only [nI_eq (show ρ s < 2 ^ 31 by omega) (show pc s < 2 ^ 31 by omega)]
  rfl
theorem m_isFree (d : Nat) {S : am_S} {v n s : Nat} {ρ : Nat → Nat} (h : VM S v n ρ) (hs : s < 2 ^ n) : am_cal am_mt (d + 2) jX11_isFree [.ref 88, .int (nI v), .int (nI s)] (ws S) = some (some (.int (bI (fre ρ s))), ws S) := by
  have h1 := p2_128 h.n7 hs
  have h2 := h.le hs
  have h3 := pc_le s
  rw [eX11_isFree_0, kO88, if_T, m_r d h hs, cI_some, wc_bind, m_bits d h1, cI_some, wc_bind, bI_if]
  simp only [nI_eq (show ρ s < 2 ^ 31 by omega) (show pc s < 2 ^ 31 by omega)]
  rfl
theorem c8_isBase (d : Nat) {S : am_S} {q n s : Nat} {ρ : Nat → Nat} (h : VC S q n ρ) (hs : s < 2 ^ n) : am_cal am_mt (d + 3) jX8_isBase [.ref q, .int (nI s)] (ws S) = some (some (.int (bI (bas n ρ s))), ws S) := by
  have h2 := h.le hs
  have h3 := h.le (p2_m1 n)
  rw [eX8_isBase_0, h.O, if_T, c8_isFree d h hs, cI_some, wc_bind]
  unfold bas
  cases fre ρ s with
  | false => rw [if_pos bI_F, Bool.false_and, bI_F]
  | true =>
    rw [if_neg bI_T, c8_rankOf _ h hs, cI_some, wc_bind, c8_fullRank _ h, cI_some, wc_bind, bI_if]
    simp only [nI_eq (show ρ s < 2 ^ 31 by omega) (show ρ (2 ^ n - 1) < 2 ^ 31 by omega), Bool.true_and]
/-- SPAN -/
theorem c8_spanOf (d : Nat) {S : am_S} {q n s : Nat} {ρ : Nat → Nat} (h : VC S q n ρ) (hs : s < 2 ^ n) : am_cal am_mt (d + 2) jX8_spanOf [.ref q, .int (nI s)] (ws S) = some (some (.int (nI (spn n ρ s))), ws S) := by
  have h7 := h.n7
  rw [eX8_spanOf_0, h.O, if_T]
  refine loop_fd (fun e a => am_run false (am_cal am_mt (d + 1)) (am_lk tbX8_spanOf) 4 [some (.ref q), some (.int (nI s)), some (.int (nI a)), some (.int (nI e))] [] (ws S)) (fun e a => if ρ (s ||| 2 ^ e) = ρ s then a ||| 2 ^ e else a) n s ?_ ?_
  · intro e a he
    show am_run _ _ _ _ _ _ _ = am_run _ _ _ _ _ _ _
    have h1 := p2_or hs he
    have h2 := h.le hs
    have h3 := h.le h1
    rw [eX8_spanOf_4, h.fI, wc_bind, if_neg (nI_ge he (by omega)), wc_1shl (by omega), wc_or, c8_rankOf d h h1, cI_some, wc_bind, c8_rankOf d h hs, cI_some, wc_bind, wc_or, nI_1]
    by_cases hc : ρ (s ||| 2 ^ e) = ρ s
    · rw [if_pos hc, if_pos (congrArg nI hc)]
    · rw [if_neg hc, if_neg (fun c => hc ((nI_eq (by omega) (by omega)).mp c))]
  · show am_run _ _ _ _ _ _ _ = _
    rw [eX8_spanOf_4, h.fI, wc_bind, if_pos (nI_le (Nat.le_refl _) (by omega))]
    rfl
theorem m_spanOf (d : Nat) {S : am_S} {v n s : Nat} {ρ : Nat → Nat} (h : VM S v n ρ) (hs : s < 2 ^ n) : am_cal am_mt (d + 2) jX11_spanOf [.ref 88, .int (nI v), .int (nI s)] (ws S) = some (some (.int (nI (spn n ρ s))), ws S) := by
  have h7 := h.n7
  rw [eX11_spanOf_0, kO88, if_T]
  refine loop_fd (fun e a => am_run false (am_cal am_mt (d + 1)) (am_lk tbX11_spanOf) 5 [some (.ref 88), some (.int (nI v)), some (.int (nI s)), some (.int (nI a)), some (.int (nI e))] [] (ws S)) (fun e a => if ρ (s ||| 2 ^ e) = ρ s then a ||| 2 ^ e else a) n s ?_ ?_
  · intro e a he
    show am_run _ _ _ _ _ _ _ = am_run _ _ _ _ _ _ _
    have h1 := p2_or hs he
    have h2 := h.le hs
    have h3 := h.le h1
    rw [eX11_spanOf_5, kR88_2, wc_bind, h.aI, wc_bind, if_neg (nI_ge he (by omega)), wc_1shl (by omega), wc_or, m_r d h h1, cI_some, wc_bind, m_r d h hs, cI_some, wc_bind, wc_or, nI_1]
    by_cases hc : ρ (s ||| 2 ^ e) = ρ s
    · rw [if_pos hc, if_pos (congrArg nI hc)]
    · rw [if_neg hc, if_neg (fun c => hc ((nI_eq (by omega) (by omega)).mp c)), show nI a ||| 0 = nI a from by rw [← nI_0, wc_or, Nat.or_zero]]
  · show am_run _ _ _ _ _ _ _ = _
    rw [eX11_spanOf_5, kR88_2, wc_bind, h.aI, wc_bind, if_pos (nI_le (Nat.le_refl _) (by omega))]
    rfl
