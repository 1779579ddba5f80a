/-! ===== numbers under the operations, runs with what they answer, loops ===== -/
theorem wc_or (a b : Nat) : nI a ||| nI b = nI (a ||| b) := by
  apply Int32.toBitVec_inj.1
  show BitVec.ofNat 32 a ||| BitVec.ofNat 32 b = BitVec.ofNat 32 (a ||| b)
  apply BitVec.eq_of_getLsbD_eq
  intro i hi
  simp [hi]
theorem wc_and (a b : Nat) : nI a &&& nI b = nI (a &&& b) := by
  apply Int32.toBitVec_inj.1
  show BitVec.ofNat 32 a &&& BitVec.ofNat 32 b = BitVec.ofNat 32 (a &&& b)
  apply BitVec.eq_of_getLsbD_eq
  intro i hi
  simp [hi]
theorem wc_xor (a b : Nat) : nI a ^^^ nI b = nI (a ^^^ b) := by
  apply Int32.toBitVec_inj.1
  show BitVec.ofNat 32 a ^^^ BitVec.ofNat 32 b = BitVec.ofNat 32 (a ^^^ b)
  apply BitVec.eq_of_getLsbD_eq
  intro i hi
  simp [hi]
theorem wc_sl : ∀ n, n < 32 → ((nI n &&& 31).toBitVec.smod 32).toNat = n := by decide +kernel
theorem wc_su : ∀ n, n < 32 → (((nI n).toUInt32 &&& Int32.toUInt32 31).toBitVec % 32).toNat = n := by decide +kernel
theorem wc_of32 (x : Int32) : ∃ n, n < 2 ^ 32 ∧ x = nI n := ⟨x.toBitVec.toNat, x.toBitVec.isLt, Int32.toBitVec_inj.mp (by show _ = BitVec.ofNat 32 _; simp)⟩
theorem wc_shl {a e : Nat} (he : e < 32) (h : a * 2 ^ e < 2 ^ 32) : nI a <<< (nI e &&& (31 : Int32)) = nI (a * 2 ^ e) := pk_shlN _ e (wc_sl e he) h
theorem wc_1shl {e : Nat} (he : e < 32) : (1 : Int32) <<< (nI e &&& (31 : Int32)) = nI (2 ^ e) := by
  have h : 1 * 2 ^ e < 2 ^ 32 := by rw [Nat.one_mul]; exact Nat.pow_lt_pow_right (by decide) he
  have := wc_shl he h
  rw [Nat.one_mul] at this
  exact this
theorem wc_shr {a e : Nat} (ha : a < 2 ^ 31) (he : e < 32) : nI a >>> (nI e &&& (31 : Int32)) = nI (a / 2 ^ e) := pk_shrN ha _ e (wc_sl e he)
def bI : Bool → Int32
  | true => 1
  | false => 0
theorem bI_0 (b : Bool) : (bI b = 0) ↔ (b = false) := by cases b <;> decide
theorem bI_1 (b : Bool) : (bI b = 1) ↔ (b = true) := by cases b <;> decide
theorem bI_01 (b : Bool) : bI b = 0 ∨ bI b = 1 := by cases b <;> decide
theorem bI_inj (a b : Bool) : (bI a = bI b) ↔ (a = b) := by cases a <;> cases b <;> decide
theorem wc_bit {s e : Nat} (hs : s < 2 ^ 31) (he : e < 32) : (nI s >>> (nI e &&& (31 : Int32))) &&& (1 : Int32) = bI (s.testBit e) := by
  rw [wc_shr hs he, show (1 : Int32) = nI 1 from rfl, wc_and, Nat.and_one_is_mod, Nat.testBit_eq_decide_div_mod_eq]
  rcases Nat.mod_two_eq_zero_or_one (s / 2 ^ e) with h | h <;> rw [h] <;> rfl
/-- and not -/
def wc_an (s t : Nat) : Nat := s &&& (t ^^^ 4294967295)
theorem wc_anI (s t : Nat) : nI s &&& (nI t ^^^ (-1 : Int32)) = nI (wc_an s t) := by
  rw [show (-1 : Int32) = nI 4294967295 from rfl, wc_xor, wc_and]
  rfl
theorem wc_all {n : Nat} (hn : n < 32) : ((1 : Int32) <<< (nI n &&& (31 : Int32))) - (1 : Int32) = nI (2 ^ n - 1) := by
  rw [wc_1shl hn, show (1 : Int32) = nI 1 from rfl, pk_sub (Nat.one_le_two_pow)]
theorem wc_allp {n : Nat} : nI (2 ^ n) - (1 : Int32) = nI (2 ^ n - 1) := by
  rw [show (1 : Int32) = nI 1 from rfl, pk_sub (Nat.one_le_two_pow)]
theorem wc_testall {i : Nat} : Nat.testBit 4294967295 i = decide (i < 32) := by
  rw [show 4294967295 = 2 ^ 32 - 1 from rfl, Nat.testBit_two_pow_sub_one]
theorem wc_tan {s t i : Nat} (hs : s < 2 ^ 32) : (wc_an s t).testBit i = (s.testBit i && !t.testBit i) := by
  unfold wc_an
  rw [Nat.testBit_and, Nat.testBit_xor, wc_testall]
  by_cases h : i < 32
  · rw [decide_eq_true h]
    cases t.testBit i <;> simp
  · have : s.testBit i = false := Nat.testBit_lt_two_pow (Nat.lt_of_lt_of_le hs (Nat.pow_le_pow_right (by decide) (by omega)))
    rw [this]; simp
theorem wc_an_le (s t : Nat) : wc_an s t ≤ s := Nat.and_le_left
theorem wc_an_lt {s t m : Nat} (h : s < m) : wc_an s t < m := Nat.lt_of_le_of_lt (wc_an_le s t) h
/-- 0 as a world, a run that ends well -/
def wp (o : Option am_R) (Q : Option Value → am_S → Prop) : Prop := ∃ (v : Option Value) (S : am_S), o = some (v, ws S) ∧ Q v S
theorem wp_ret {v : Option Value} {S : am_S} {Q : Option Value → am_S → Prop} (h : Q v S) : wp (some (v, ws S)) Q := ⟨v, S, rfl, h⟩
theorem wp_eq {o : Option am_R} {v : Option Value} {S : am_S} {Q : Option Value → am_S → Prop} (h : o = some (v, ws S)) (hq : Q v S) : wp o Q := ⟨v, S, h, hq⟩
theorem wp_imp {o : Option am_R} {Q Q' : Option Value → am_S → Prop} (h : wp o Q) (hq : ∀ v S, Q v S → Q' v S) : wp o Q' := by
  obtain ⟨v, S, h1, h2⟩ := h
  exact ⟨v, S, h1, hq v S h2⟩
theorem wp_cI {o : Option am_R} {f : Int32 × am_W → Option am_R} {Q : Option Value → am_S → Prop} (h : wp o (fun v S => ∃ x, v = some (.int x) ∧ wp (f (x, ws S)) Q)) : wp ((am_cI o).bind f) Q := by
  obtain ⟨v, S, rfl, x, rfl, h⟩ := h
  exact h
theorem wp_cV {o : Option am_R} {f : am_W → Option am_R} {Q : Option Value → am_S → Prop} (h : wp o (fun v S => v = none ∧ wp (f (ws S)) Q)) : wp ((am_cV o).bind f) Q := by
  obtain ⟨v, S, rfl, rfl, h⟩ := h
  exact h
theorem wp_pure {o : Option am_R} {v : Option Value} {S : am_S} (h : wp o (fun v' S' => v' = v ∧ S' = S)) : o = some (v, ws S) := by
  obtain ⟨v', S', rfl, rfl, rfl⟩ := h
  rfl
theorem cI_some (x : Int32) (g : am_W) : am_cI (some (some (.int x), g)) = some (x, g) := rfl
theorem cV_some (g : am_W) : am_cV (some (none, g)) = some g := rfl
theorem if_T {β : Type} (x y : β) : am_if true x y = x := rfl
theorem wc_bind {α β : Type} (a : α) (f : α → Option β) : (some a).bind f = f a := rfl
/-- a loop upwards to n -/
theorem loop_wp {α : Type} (H : Nat → α → Option am_R) (Inv : Nat → α → Prop) (Q : Option Value → am_S → Prop) (n : Nat)
    (step : ∀ e a, e < n → Inv e a → (∀ a', Inv (e + 1) a' → wp (H (e + 1) a') Q) → wp (H e a) Q)
    (done : ∀ a, Inv n a → wp (H n a) Q) : ∀ (e : Nat) (a : α), e ≤ n → Inv e a → wp (H e a) Q := by
  have key : ∀ k e a, e + k = n → Inv e a → wp (H e a) Q := by
    intro k
    induction k with
    | zero => intro e a he hI; have : e = n := by omega
              subst this; exact done a hI
    | succ k ih =>
      intro e a he hI
      exact step e a (by omega) hI (fun a' hI' => ih (e + 1) a' (by omega) hI')
  intro e a he hI
  exact key (n - e) e a (by omega) hI
/-- a fold over e, e + 1, .. k times -/
def wc_lp {α : Type} (f : Nat → α → α) : Nat → Nat → α → α
  | 0, _, a => a
  | k + 1, e, a => wc_lp f k (e + 1) (f e a)
theorem wc_lp_last {α : Type} (f : Nat → α → α) : ∀ (k e : Nat) (a : α), wc_lp f (k + 1) e a = f (e + k) (wc_lp f k e a)
  | 0, _, _ => rfl
  | k + 1, e, a => by
    show wc_lp f (k + 1) (e + 1) (f e a) = _
    rw [wc_lp_last f k (e + 1) (f e a)]
    show f (e + 1 + k) _ = f (e + (k + 1)) _
    rw [show e + 1 + k = e + (k + 1) by omega]
    rfl
/-- from 0 to n -/
def wc_fd {α : Type} (n : Nat) (f : Nat → α → α) (a : α) : α := wc_lp f n 0 a
theorem wc_fd_0 {α : Type} (f : Nat → α → α) (a : α) : wc_fd 0 f a = a := rfl
theorem wc_fd_s {α : Type} (n : Nat) (f : Nat → α → α) (a : α) : wc_fd (n + 1) f a = f n (wc_fd n f a) := by
  unfold wc_fd
  rw [wc_lp_last, Nat.zero_add]
/-- a loop upwards to n that folds -/
theorem loop_fd {α : Type} (H : Nat → α → Option am_R) (f : Nat → α → α) (n : Nat) (a0 : α) {r : Option am_R}
    (step : ∀ e a, e < n → H e a = H (e + 1) (f e a)) (done : H n (wc_fd n f a0) = r) : H 0 a0 = r := by
  have key : ∀ k, k ≤ n → H 0 a0 = H k (wc_fd k f a0) := by
    intro k
    induction k with
    | zero => intro _; rfl
    | succ k ih => intro hk; rw [ih (by omega), step k _ (by omega), wc_fd_s]
  rw [key n (Nat.le_refl n), done]
/-- how many below n -/
def wc_cn (n : Nat) (f : Nat → Bool) : Nat := wc_fd n (fun e a => if f e then a + 1 else a) 0
theorem wc_cn_s (n : Nat) (f : Nat → Bool) : wc_cn (n + 1) f = if f n then wc_cn n f + 1 else wc_cn n f := wc_fd_s _ _ _
theorem wc_cn_le (n : Nat) (f : Nat → Bool) : wc_cn n f ≤ n := by
  induction n with
  | zero => exact Nat.le_refl _
  | succ n ih => rw [wc_cn_s]; split <;> omega
/-- of all below n -/
def wc_al (n : Nat) (f : Nat → Bool) : Bool := wc_fd n (fun e b => b && f e) true
theorem wc_al_s (n : Nat) (f : Nat → Bool) : wc_al (n + 1) f = (wc_al n f && f n) := wc_fd_s _ _ _
theorem wc_al_iff (n : Nat) (f : Nat → Bool) : wc_al n f = true ↔ ∀ e, e < n → f e = true := by
  induction n with
  | zero => exact ⟨fun _ e he => absurd he (Nat.not_lt_zero e), fun _ => rfl⟩
  | succ n ih =>
    rw [wc_al_s, Bool.and_eq_true, ih]
    constructor
    · intro h e he
      rcases Nat.lt_or_ge e n with h1 | h1
      · exact h.1 e h1
      · have : e = n := by omega
        subst this; exact h.2
    · intro h
      exact ⟨fun e he => h e (by omega), h n (by omega)⟩
theorem wc_al_false (n : Nat) (f : Nat → Bool) : wc_al n f = false ↔ ∃ e, e < n ∧ f e = false := by
  constructor
  · intro h
    apply Classical.byContradiction
    intro hc
    have : wc_al n f = true := (wc_al_iff n f).mpr (fun e he => by
      cases hf : f e with
      | true => rfl
      | false => exact absurd ⟨e, he, hf⟩ hc)
    rw [this] at h; cases h
  · intro ⟨e, he, hf⟩
    cases h : wc_al n f with
    | false => rfl
    | true => rw [(wc_al_iff n f).mp h e he] at hf; cases hf
/-- how many of seven -/
def pc (s : Nat) : Nat := wc_cn 7 (fun e => s.testBit e)
theorem pc_le (s : Nat) : pc s ≤ 7 := wc_cn_le _ _
