/-! ===== bits counted, places looked at, fields ===== -/
def bc1 (x0 : Int32) : Int32 := x0 - (((x0.toUInt32 >>> (Int32.toUInt32 (1 : Int32) &&& Int32.toUInt32 31)).toInt32) &&& (1431655765 : Int32))
def bc2 (x0 : Int32) : Int32 := (x0 &&& (858993459 : Int32)) + (((x0.toUInt32 >>> (Int32.toUInt32 (2 : Int32) &&& Int32.toUInt32 31)).toInt32) &&& (858993459 : Int32))
def bc3 (x0 : Int32) : Int32 := (x0 + ((x0.toUInt32 >>> (Int32.toUInt32 (4 : Int32) &&& Int32.toUInt32 31)).toInt32)) &&& (252645135 : Int32)
def bc4 (x0 : Int32) : Int32 := x0 + ((x0.toUInt32 >>> (Int32.toUInt32 (8 : Int32) &&& Int32.toUInt32 31)).toInt32)
def bc5 (x0 : Int32) : Int32 := x0 + ((x0.toUInt32 >>> (Int32.toUInt32 (16 : Int32) &&& Int32.toUInt32 31)).toInt32)
theorem bc_ok : ∀ s, s < 128 → bc5 (bc4 (bc3 (bc2 (bc1 (nI s))))) &&& (63 : Int32) = nI (pc s) := by decide +kernel
theorem J_bits (d : Nat) {s : Nat} (hs : s < 128) (g : am_W) : am_cal am_mt (d + 1) jJ_bitCount [.int (nI s)] g = some (some (.int (nI (pc s))), g) := by
  rw [eJ_bitCount_0, eJ_bitCount_10, eJ_bitCount_24, eJ_bitCount_34, eJ_bitCount_41, eJ_bitCount_48, ← bc_ok s hs]
  rfl
/-- the least bit -/
def lz (s : Nat) : Nat := if s % 2 = 1 then 0 else if s % 4 = 2 then 1 else if s % 8 = 4 then 2 else if s % 16 = 8 then 3 else if s % 32 = 16 then 4 else if s % 64 = 32 then 5 else 6
theorem nz_ok : ∀ s, s < 128 → 0 < s → ((nI s ^^^ (-1 : Int32)) &&& (nI s - (1 : Int32))) = nI (2 ^ lz s - 1) ∧ lz s < 7 := by decide +kernel
theorem J_ntz (d : Nat) {s : Nat} (hs : s < 128) (h0 : 0 < s) (g : am_W) : am_cal am_mt (d + 1) jJ_ntz [.int (nI s)] g = some (some (.int (nI (lz s))), g) := by
  obtain ⟨h1, h2⟩ := nz_ok s hs h0
  rw [eJ_ntz_0, h1]
  generalize lz s = k at h2
  rcases (show k = 0 ∨ k = 1 ∨ k = 2 ∨ k = 3 ∨ k = 4 ∨ k = 5 ∨ k = 6 by omega) with rfl | rfl | rfl | rfl | rfl | rfl | rfl
  · rw [eJ_ntz_8, if_neg (by decide)]; rfl
  · rw [eJ_ntz_8, if_pos (by decide), if_pos (by decide), eJ_ntz_34, if_pos (by decide), eJ_ntz_49, if_pos (by decide), eJ_ntz_62, if_pos (by decide), eJ_ntz_74]; rfl
  · rw [eJ_ntz_8, if_pos (by decide), if_pos (by decide), eJ_ntz_34, if_pos (by decide), eJ_ntz_49, if_pos (by decide), eJ_ntz_62, if_pos (by decide), eJ_ntz_74]; rfl
  · rw [eJ_ntz_8, if_pos (by decide), if_pos (by decide), eJ_ntz_34, if_pos (by decide), eJ_ntz_49, if_pos (by decide), eJ_ntz_62, if_neg (by decide), eJ_ntz_74]; rfl
  · rw [eJ_ntz_8, if_pos (by decide), if_pos (by decide), eJ_ntz_34, if_pos (by decide), eJ_ntz_49, if_pos (by decide), eJ_ntz_62, if_neg (by decide), eJ_ntz_74]; rfl
  · rw [eJ_ntz_8, if_pos (by decide), if_pos (by decide), eJ_ntz_34, if_pos (by decide), eJ_ntz_49, if_neg (by decide), eJ_ntz_62, if_pos (by decide), eJ_ntz_74]; rfl
  · rw [eJ_ntz_8, if_pos (by decide), if_pos (by decide), eJ_ntz_34, if_pos (by decide), eJ_ntz_49, if_neg (by decide), eJ_ntz_62, if_pos (by decide), eJ_ntz_74]; rfl
theorem pc_step : ∀ s, s < 128 → 0 < s → s &&& (s - 1) < s ∧ pc (s &&& (s - 1)) + 1 = pc s := by decide +kernel
theorem m_bits (d : Nat) {s : Nat} (hs : s < 128) (g : am_W) : am_cal am_mt (d + 1) jX11_bits [.int (nI s)] g = some (some (.int (nI (pc s))), g) := by
  rw [eX11_bits_0]
  have key : ∀ l c, l < 128 → am_run false (am_cal am_mt d) (am_lk tbX11_bits) 4 [some (.int (nI s)), some (.int (nI c)), some (.int (nI l))] [] g = some (some (.int (nI (c + pc l))), g) := by
    intro l
    induction l using Nat.strongRecOn with
    | ind l ih =>
      intro c hl
      rw [eX11_bits_4]
      rcases Nat.eq_zero_or_pos l with h0 | h0
      · subst h0
        rw [if_pos nI_0, show pc 0 = 0 from by decide, Nat.add_zero]
      · obtain ⟨h1, h2⟩ := pc_step l hl h0
        rw [if_neg (nI_ne0 h0 (by omega)), show (1 : Int32) = nI 1 from rfl, pk_sub h0, wc_and, nI_add, ih _ h1 _ (by omega), ← h2]
        simp only [Nat.add_assoc, Nat.add_comm]
  have := key s 0 hs
  rw [Nat.zero_add] at this
  exact this
theorem bI_T : ¬ bI true = 0 := by decide
theorem bI_F : bI false = 0 := rfl
theorem bI_T1 : bI true = 1 := rfl
theorem bI_F1 : ¬ bI false = 1 := by decide
/-- whether a number is one from 0 on, below k -/
def inR (x k : Int32) : Bool := decide (¬ x < 0 ∧ ¬ k ≤ x)
theorem inR_nI {j n : Nat} (hj : j < 2 ^ 31) (hn : n < 2 ^ 31) : inR (nI j) (nI n) = decide (j < n) := by
  unfold inR
  rw [decide_eq_decide]
  constructor
  · intro ⟨_, h2⟩
    apply Nat.lt_of_not_le
    intro h
    exact h2 (nI_le h hj)
  · intro h
    exact ⟨nI_pos hj, nI_ge h hn⟩
theorem inR_T {j n : Nat} (h : j < n) (hn : n < 2 ^ 31) : inR (nI j) (nI n) = true := by rw [inR_nI (by omega) hn]; exact decide_eq_true h
theorem inR_of {x : Int32} {n : Nat} (hn : n < 2 ^ 31) : inR x (nI n) = false ∨ ∃ j, j < n ∧ x = nI j := by
  rcases pk_ix x hn with h | h | h
  · refine Or.inl ?_
    unfold inR
    exact decide_eq_false (fun c => c.1 h)
  · refine Or.inl ?_
    unfold inR
    exact decide_eq_false (fun c => c.2 h)
  · exact Or.inr h
theorem c_below (d : Nat) (x k : Int32) (g : am_W) : am_cal am_mt (d + 1) jX10_isBelow [.int x, .int k] g = some (some (.int (bI (inR x k))), g) := by
  rw [eX10_isBelow_0]
  unfold inR
  by_cases h1 : x < 0
  · rw [if_pos h1, decide_eq_false (fun c => c.1 h1)]; rfl
  · rw [if_neg h1]
    by_cases h2 : k ≤ x
    · rw [if_pos h2, decide_eq_false (fun c => c.2 h2)]; rfl
    · rw [if_neg h2, decide_eq_true ⟨h1, h2⟩]; rfl
theorem lt_succI (x : Int32) {n : Nat} (hn : n + 1 < 2 ^ 31) : (nI n < x) ↔ (nI (n + 1) ≤ x) := by
  rw [Int32.lt_iff_toInt_lt, Int32.le_iff_toInt_le, nI_toInt (by omega), nI_toInt hn]
  omega
theorem c_count (d : Nat) (x : Int32) (g : am_W) : am_cal am_mt (d + 1) jX10_isElementCount [.int x] g = some (some (.int (bI (inR x (nI 8)))), g) := by
  rw [eX10_isElementCount_0, show (7 : Int32) = nI 7 from rfl]
  have h7 := lt_succI x (n := 7) (by decide)
  unfold inR
  by_cases h1 : x < 0
  · rw [if_pos h1, decide_eq_false (fun c => c.1 h1)]; rfl
  · rw [if_neg h1]
    by_cases h2 : nI 7 < x
    · rw [if_pos h2, decide_eq_false (fun c => c.2 (h7.mp h2))]; rfl
    · rw [if_neg h2, decide_eq_true ⟨h1, fun c => h2 (h7.mpr c)⟩]; rfl
theorem m_in (d : Nat) (x : Int32) {n : Nat} (hn : n + 1 < 2 ^ 31) (g : am_W) : am_cal am_mt (d + 1) jX11_in [.int x, .int (0 : Int32), .int (nI n)] g = some (some (.int (bI (inR x (nI (n + 1))))), g) := by
  rw [eX11_in_0]
  have h7 := lt_succI x hn
  unfold inR
  by_cases h1 : x < 0
  · rw [if_pos h1, decide_eq_false (fun c => c.1 h1)]; rfl
  · rw [if_neg h1]
    by_cases h2 : nI n < x
    · rw [if_pos h2, decide_eq_false (fun c => c.2 (h7.mp h2))]; rfl
    · rw [if_neg h2, decide_eq_true ⟨h1, fun c => h2 (h7.mpr c)⟩]; rfl
theorem m_in3 (d : Nat) (x : Int32) (g : am_W) : am_cal am_mt (d + 1) jX11_in [.int x, .int (0 : Int32), .int (3 : Int32)] g = some (some (.int (bI (inR x (nI 4)))), g) := m_in d x (n := 3) (by decide) g
theorem m_in7 (d : Nat) (x : Int32) (g : am_W) : am_cal am_mt (d + 1) jX11_in [.int x, .int (0 : Int32), .int (7 : Int32)] g = some (some (.int (bI (inR x (nI 8)))), g) := m_in d x (n := 7) (by decide) g
theorem m_in4 (d : Nat) (x : Int32) (g : am_W) : am_cal am_mt (d + 1) jX11_in [.int x, .int (0 : Int32), .int (4 : Int32)] g = some (some (.int (bI (inR x (nI 5)))), g) := m_in d x (n := 4) (by decide) g
theorem m_in5 (d : Nat) (x : Int32) (g : am_W) : am_cal am_mt (d + 1) jX11_in [.int x, .int (0 : Int32), .int (5 : Int32)] g = some (some (.int (bI (inR x (nI 6)))), g) := m_in d x (n := 5) (by decide) g
theorem m_in1 (d : Nat) (x : Int32) (g : am_W) : am_cal am_mt (d + 1) jX11_in [.int x, .int (0 : Int32), .int (1 : Int32)] g = some (some (.int (bI (inR x (nI 2)))), g) := m_in d x (n := 1) (by decide) g
theorem m_in2 (d : Nat) (x : Int32) (g : am_W) : am_cal am_mt (d + 1) jX11_in [.int x, .int (0 : Int32), .int (2 : Int32)] g = some (some (.int (bI (inR x (nI 3)))), g) := m_in d x (n := 2) (by decide) g
theorem m_isView (d : Nat) (x : Int32) (g : am_W) : am_cal am_mt (d + 2) jX11_isView [.int x] g = some (some (.int (bI (inR x (nI 4)))), g) := by
  rw [eX11_isView_0, m_in3, cI_some, wc_bind, if_pos (bI_01 _)]
theorem m_isField (d : Nat) (x : Int32) (g : am_W) : am_cal am_mt (d + 2) jX11_isField [.int x] g = some (some (.int (bI (inR x (nI 4)))), g) := by
  rw [eX11_isField_0, m_in3, cI_some, wc_bind, if_pos (bI_01 _)]
theorem m_isSheet (d : Nat) (x : Int32) (g : am_W) : am_cal am_mt (d + 2) jX11_isSheet [.int x] g = some (some (.int (bI (inR x (nI 4)))), g) := by
  rw [eX11_isSheet_0, m_in3, cI_some, wc_bind, if_pos (bI_01 _)]
theorem m_isHold (d : Nat) (x : Int32) (g : am_W) : am_cal am_mt (d + 2) jX11_isHold [.int x] g = some (some (.int (bI (inR x (nI 4)))), g) := by
  rw [eX11_isHold_0, m_in3, cI_some, wc_bind, if_pos (bI_01 _)]
theorem m_has (d : Nat) {s e : Nat} (hs : s < 2 ^ 31) (he : e < 32) (g : am_W) : am_cal am_mt (d + 1) jX11_has [.int (nI s), .int (nI e)] g = some (some (.int (bI (s.testBit e))), g) := by
  rw [eX11_has_0, wc_bit hs he]
  cases s.testBit e
  · rw [if_neg (by decide)]; rfl
  · rw [if_pos (show bI true = 1 from rfl)]; rfl
/-! fields -/
def fsz : Nat → Nat
  | 0 => 2
  | 1 => 3
  | 2 => 5
  | _ => 4
def fmul4 : Nat → Nat → Nat
  | 0, _ => 0
  | _, 0 => 0
  | a + 1, b + 1 => (a + b) % 3 + 1
def fad (f a b : Nat) : Nat := if f = 3 then a ^^^ b else (a + b) % fsz f
def fsu (f a b : Nat) : Nat := if f = 3 then a ^^^ b else (a + fsz f - b) % fsz f
def fmu (f a b : Nat) : Nat := if f = 3 then fmul4 a b else a * b % fsz f
/-- what times b is 1 (0 for 0) -/
def fin (f b : Nat) : Nat := if f = 3 then (if b < 2 then b else 5 - b) else if f = 2 then (if b < 2 then b else if b = 4 then 4 else 5 - b) else b
theorem fsz_pos (f : Nat) : 2 ≤ fsz f ∧ fsz f ≤ 5 := by
  unfold fsz; split <;> decide
theorem f_lt : ∀ f, f < 4 → ∀ a, a < fsz f → ∀ b, b < fsz f → fad f a b < fsz f ∧ fsu f a b < fsz f ∧ fmu f a b < fsz f ∧ fin f a < fsz f := by decide +kernel
/-- a field of the class, at cell q -/
def FC (S : am_S) (q f : Nat) : Prop := kdl[q]? = some (0, 2, 0, [(0, 0), (1, q + 1)]) ∧ kdl[q + 1]? = some (1, 0, 5, []) ∧ f < 4 ∧ S q 0 = nI (fsz f) ∧ ∀ b, b < fsz f → S (q + 1) b = nI (fin f b)
theorem FC.O {S : am_S} {q f : Nat} (h : FC S q f) : am_isO (ws S) q 2 = true := ws_isO h.1
theorem FC.fI {S : am_S} {q f : Nat} (h : FC S q f) : am_fI (ws S) q 2 0 = some (nI (fsz f)) := by rw [ws_fI h.1 rfl, h.2.2.2.1]
theorem FC.fR {S : am_S} {q f : Nat} (h : FC S q f) : am_fR (ws S) q 2 1 = some (q + 1) := ws_fR h.1 rfl
theorem FC.lt {S : am_S} {q f : Nat} (h : FC S q f) : f < 4 := h.2.2.1
theorem FC.aI {S : am_S} {q f b : Nat} (h : FC S q f) (hb : b < fsz f) : am_aI (ws S) (q + 1) 0 (nI b) = some (nI (fin f b)) := by rw [ws_aIn h.2.1 (show b < 5 by have := fsz_pos f; omega) (by decide), h.2.2.2.2 b hb]
theorem f4I (f : Nat) (hf : f < 4) : (nI (fsz f) = (4 : Int32)) ↔ f = 3 := by
  rcases (show f = 0 ∨ f = 1 ∨ f = 2 ∨ f = 3 by omega) with rfl | rfl | rfl | rfl <;> decide
theorem c2_rest (d : Nat) {S : am_S} {q f a : Nat} (h : FC S q f) (ha : a < 2 ^ 31) : am_cal am_mt (d + 1) jX2_rest [.ref q, .int (nI a)] (ws S) = some (some (.int (nI (a % fsz f))), ws S) := by
  have hz := fsz_pos f
  rw [eX2_rest_0, h.O, if_T, h.fI, wc_bind, if_neg (nI_nle (by omega) (by omega)), wc_bind, if_neg (nI_ne0 (by omega) (by omega)), pk_rem ha (by omega) (by omega)]
theorem c2_sum (d : Nat) {S : am_S} {q f a b : Nat} (h : FC S q f) (ha : a < fsz f) (hb : b < fsz f) : am_cal am_mt (d + 2) jX2_sum [.ref q, .int (nI a), .int (nI b)] (ws S) = some (some (.int (nI (fad f a b))), ws S) := by
  have hz := fsz_pos f
  rw [eX2_sum_0, h.O, if_T, h.fI, wc_bind, wc_xor, nI_add, c2_rest d h (by omega), cI_some, wc_bind]
  unfold fad
  by_cases h3 : f = 3
  · rw [if_pos h3, if_pos ((f4I f h.lt).mpr h3)]
  · rw [if_neg h3, if_neg (fun c => h3 ((f4I f h.lt).mp c))]
theorem c2_difference (d : Nat) {S : am_S} {q f a b : Nat} (h : FC S q f) (ha : a < fsz f) (hb : b < fsz f) : am_cal am_mt (d + 1) jX2_difference [.ref q, .int (nI a), .int (nI b)] (ws S) = some (some (.int (nI (fsu f a b))), ws S) := by
  have hz := fsz_pos f
  rw [eX2_difference_0, h.O, if_T, h.fI, wc_bind, wc_xor]
  unfold fsu
  by_cases h3 : f = 3
  · rw [if_pos h3, if_pos ((f4I f h.lt).mpr h3)]
  · rw [if_neg h3, if_neg (fun c => h3 ((f4I f h.lt).mp c))]
    by_cases hab : b ≤ a
    · rw [if_pos (nI_le hab (by omega)), pk_sub hab, show (a + fsz f - b) % fsz f = a - b from by rw [show a + fsz f - b = (a - b) + fsz f by omega, Nat.add_mod_right, Nat.mod_eq_of_lt (by omega)]]
    · rw [if_neg (nI_ge (by omega) (by omega)), wc_bind, show nI a - nI b + nI (fsz f) = nI a + nI (fsz f) - nI b from by rw [Int32.sub_eq_add_neg, Int32.add_assoc, Int32.add_comm (-nI b), ← Int32.add_assoc, ← Int32.sub_eq_add_neg], nI_add, pk_sub (by omega), Nat.mod_eq_of_lt (by omega)]
theorem fmul4_ok : ∀ a, a < 4 → ∀ b, b < 4 → 0 < a → 0 < b → ((((((nI a - (1 : Int32)) + nI b) - (1 : Int32)) - (((nI a - (1 : Int32)) + nI b) - (1 : Int32)) / (3 : Int32) * (3 : Int32)) + (1 : Int32))) = nI (fmul4 a b) := by decide +kernel
theorem c2_product (d : Nat) {S : am_S} {q f a b : Nat} (h : FC S q f) (ha : a < fsz f) (hb : b < fsz f) : am_cal am_mt (d + 1) jX2_product [.ref q, .int (nI a), .int (nI b)] (ws S) = some (some (.int (nI (fmu f a b))), ws S) := by
  have hz := fsz_pos f
  rw [eX2_product_0, h.O, if_T]
  rcases Nat.eq_zero_or_pos a with h0 | h0
  · subst h0
    rw [if_pos nI_0]
    have : fmu f 0 b = 0 := by
      unfold fmu
      by_cases h3 : f = 3
      · rw [if_pos h3]; rfl
      · rw [if_neg h3, Nat.zero_mul, Nat.zero_mod]
    rw [this]; rfl
  · rw [if_neg (nI_ne0 h0 (by omega))]
    rcases Nat.eq_zero_or_pos b with h1 | h1
    · subst h1
      rw [if_pos nI_0]
      have : fmu f a 0 = 0 := by
        unfold fmu
        by_cases h3 : f = 3
        · rw [if_pos h3]; cases a <;> rfl
        · rw [if_neg h3, Nat.mul_zero, Nat.zero_mod]
      rw [this]; rfl
    · rw [if_neg (nI_ne0 h1 (by omega)), h.fI, wc_bind, if_pos (by rw [← nI_0]; exact nI_lt (by omega) (by omega)), wc_bind, wc_bind]
      unfold fmu
      by_cases h3 : f = 3
      · subst h3
        rw [if_pos rfl, if_pos ((f4I 3 h.lt).mpr rfl), fmul4_ok a ha b hb h0 h1]
      · rw [if_neg h3, if_neg (fun c => h3 ((f4I f h.lt).mp c)), if_neg (nI_ne0 (by omega) (by omega)), pk_mul, pk_rem (Nat.lt_of_lt_of_le (Nat.mul_lt_mul'' ha hb) (Nat.le_trans (Nat.mul_le_mul hz.2 hz.2) (by decide))) (by omega) (by omega)]
theorem c2_inverse (d : Nat) {S : am_S} {q f b : Nat} (h : FC S q f) (hb : b < fsz f) : am_cal am_mt (d + 2) jX2_inverse [.ref q, .int (nI b)] (ws S) = some (some (.int (nI (fin f b))), ws S) := by
  have hz := fsz_pos f
  rw [eX2_inverse_0, h.O, if_T, c_below, cI_some, wc_bind, show (5 : Int32) = nI 5 from rfl, inR_T (show b < 5 by omega) (by decide), if_neg bI_T, h.fR, wc_bind, h.aI (by omega), wc_bind]
def fsz7 (f : Nat) : Nat := fsz f ^ 7
theorem fsz7_lt : ∀ f, f < 4 → fsz7 f < 2 ^ 31 ∧ 0 < fsz7 f := by decide +kernel
theorem c2_columnCount (d : Nat) {S : am_S} {q f : Nat} (h : FC S q f) : am_cal am_mt (d + 1) jX2_columnCount [.ref q] (ws S) = some (some (.int (nI (fsz7 f))), ws S) := by
  rw [eX2_columnCount_0, h.O, if_T]
  refine loop_fd (fun e a => am_run false (am_cal am_mt d) (am_lk tbX2_columnCount) 4 [some (.ref q), some (.int (nI a)), some (.int (nI e))] [] (ws S)) (fun _ a => a * fsz f) 7 1 ?_ ?_
  · intro e a he
    show am_run _ _ _ _ _ _ _ = am_run _ _ _ _ _ _ _
    rw [eX2_columnCount_4, show (7 : Int32) = nI 7 from rfl, if_neg (nI_ge he (by decide)), h.fI, wc_bind, pk_mul, nI_1]
  · show am_run _ _ _ _ _ _ _ = _
    rw [eX2_columnCount_4, if_pos (by decide)]
    congr 4
