/-! ===== renumber ===== -/
def rdn (n : Nat) (b : Nat → Int32) : Nat → Nat → Nat → Bool
  | 0, _, _ => true
  | k + 1, e, u => inR (b e) (nI n) && !u.testBit (tn b e) && rdn n b k (e + 1) (u ||| 2 ^ tn b e)
/-- bits by a numbering -/
def orF (k : Nat) (P : Nat → Bool) (f : Nat → Nat) : Nat := wc_fd k (fun e a => if P e then a ||| 2 ^ f e else a) 0
theorem t_orF (k : Nat) (P : Nat → Bool) (f : Nat → Nat) (i : Nat) : (orF k P f).testBit i = true ↔ ∃ e, e < k ∧ P e = true ∧ f e = i := by
  unfold orF
  induction k with
  | zero => rw [wc_fd_0, Nat.zero_testBit]; exact ⟨fun h => (by cases h), fun ⟨e, he, _⟩ => absurd he (Nat.not_lt_zero e)⟩
  | succ k ih =>
    rw [wc_fd_s]
    cases hp : P k with
    | false =>
      rw [if_neg Bool.false_ne_true, ih]
      constructor
      · intro ⟨e, h1, h2⟩; exact ⟨e, by omega, h2⟩
      · intro ⟨e, h1, h2, h3⟩
        have : e ≠ k := fun c => by rw [c, hp] at h2; cases h2
        exact ⟨e, by omega, h2, h3⟩
    | true =>
      rw [if_pos rfl, Nat.testBit_or, Nat.testBit_two_pow, Bool.or_eq_true, ih, decide_eq_true_iff]
      constructor
      · intro h
        rcases h with ⟨e, h1, h2⟩ | h
        · exact ⟨e, by omega, h2⟩
        · exact ⟨k, by omega, hp, h⟩
      · intro ⟨e, h1, h2, h3⟩
        by_cases hek : e = k
        · rw [hek] at h3; exact Or.inr h3
        · exact Or.inl ⟨e, by omega, h2, h3⟩
/-- a numbering of n -/
def isP (n : Nat) (f : Nat → Nat) : Prop := (∀ e, e < n → f e < n) ∧ (∀ e e', e < n → e' < n → f e = f e' → e = e') ∧ ∀ k, k < n → ∃ e, e < n ∧ f e = k
theorem full_ok : ∀ n, n ≤ 7 → ∀ u, u < 128 → u < 2 ^ n → pc u = n → u = 2 ^ n - 1 := by
  have h : ∀ n, n < 8 → ∀ u, u < 128 → u < 2 ^ n → pc u = n → u = 2 ^ n - 1 := by decide +kernel
  intro n hn
  exact h n (by omega)
theorem rdn_ok {n : Nat} {b : Nat → Int32} (hn : n ≤ 7) (h : rdn n b n 0 0 = true) : (∀ e, e < n → b e = nI (tn b e)) ∧ isP n (tn b) := by
  have key : ∀ k e u, e + k = n → u < 2 ^ n → pc u = e → (∀ i, u.testBit i = true ↔ ∃ e', e' < e ∧ tn b e' = i) → (∀ e1 e2, e1 < e → e2 < e → tn b e1 = tn b e2 → e1 = e2) → (∀ e', e' < e → b e' = nI (tn b e') ∧ tn b e' < n) → rdn n b k e u = true → (∀ e, e < n → b e = nI (tn b e)) ∧ isP n (tn b) := by
    intro k
    induction k with
    | zero =>
      intro e u he hu hp hb hinj hin _
      have : e = n := by omega
      subst this
      have hfull := full_ok e hn u (p2_128 hn hu) hu hp
      refine ⟨fun i hi => (hin i hi).1, fun i hi => (hin i hi).2, hinj, fun k hk => ?_⟩
      have := (hb k).mp (by rw [hfull, Nat.testBit_two_pow_sub_one]; exact decide_eq_true hk)
      exact this
    | succ k ih =>
      intro e u he hu hp hb hinj hin hr
      unfold rdn at hr
      rw [Bool.and_eq_true, Bool.and_eq_true, Bool.not_eq_true'] at hr
      obtain ⟨⟨h1, h2⟩, h3⟩ := hr
      have hbe : ∃ j, j < n ∧ b e = nI j := by
        rcases inR_of (x := b e) (n := n) (by omega) with q | q
        · rw [q] at h1; cases h1
        · exact q
      obtain ⟨j, hj, hbj⟩ := hbe
      have htj : tn b e = j := tn_of hbj (by omega)
      rw [htj] at h2 h3
      refine ih (e + 1) _ (by omega) (p2_or hu hj) (by rw [pc_add1 u (p2_128 hn hu) j (by omega) h2, hp]) (fun i => ?_) (fun e1 e2 a1 a2 a3 => ?_) (fun e' a => ?_) h3
      · rw [Nat.testBit_or, Nat.testBit_two_pow, Bool.or_eq_true, hb, decide_eq_true_iff]
        constructor
        · intro q
          rcases q with ⟨e', q1, q2⟩ | q
          · exact ⟨e', by omega, q2⟩
          · exact ⟨e, by omega, by rw [htj]; exact q⟩
        · intro ⟨e', q1, q2⟩
          by_cases hee : e' = e
          · rw [hee, htj] at q2; exact Or.inr q2
          · exact Or.inl ⟨e', by omega, q2⟩
      · have no : ∀ x, x < e → tn b x ≠ j := fun x hx c => by
          have := (hb j).mpr ⟨x, hx, c⟩
          rw [h2] at this; cases this
        by_cases c1 : e1 = e
        · by_cases c2 : e2 = e
          · rw [c1, c2]
          · rw [c1, htj] at a3; exact absurd a3.symm (no e2 (by omega))
        · by_cases c2 : e2 = e
          · rw [c2, htj] at a3; exact absurd a3 (no e1 (by omega))
          · exact hinj e1 e2 (by omega) (by omega) a3
      · by_cases c1 : e' = e
        · rw [c1, htj]; exact ⟨hbj, hj⟩
        · exact hin e' (by omega)
  exact key n 0 0 (by omega) (Nat.two_pow_pos n) (by decide) (fun i => by rw [Nat.zero_testBit]; exact ⟨fun h => (by cases h), fun ⟨e, he, _⟩ => absurd he (Nat.not_lt_zero e)⟩) (fun e1 e2 a => absurd a (Nat.not_lt_zero e1)) (fun e' a => absurd a (Nat.not_lt_zero e')) h
def nst (n : Nat) (f : Nat → Nat) (s : Nat) : Nat := orF n (fun e => s.testBit e) f
def ist (n : Nat) (f : Nat → Nat) (t : Nat) : Nat := orF n (fun e => t.testBit (f e)) (fun e => e)
theorem t_ist {n : Nat} {f : Nat → Nat} {t i : Nat} : (ist n f t).testBit i = true ↔ i < n ∧ t.testBit (f i) = true := by
  unfold ist
  rw [t_orF]
  constructor
  · intro ⟨e, h1, h2, h3⟩; rw [← h3]; exact ⟨h1, h2⟩
  · intro ⟨h1, h2⟩; exact ⟨i, h1, h2, rfl⟩
theorem ist_lt {n : Nat} {f : Nat → Nat} (t : Nat) : ist n f t < 2 ^ n := lt_of_bits (fun i hi => by
  cases h : (ist n f t).testBit i with
  | false => rfl
  | true => have := (t_ist.mp h).1; omega)
theorem nst_lt {n : Nat} {f : Nat → Nat} (hf : isP n f) (s : Nat) : nst n f s < 2 ^ n := lt_of_bits (fun i hi => by
  cases h : (nst n f s).testBit i with
  | false => rfl
  | true =>
    obtain ⟨e, h1, _, h3⟩ := (t_orF _ _ _ _).mp h
    have := hf.1 e h1
    omega)
theorem bit_ext {a c : Nat} (h : ∀ i, a.testBit i = true ↔ c.testBit i = true) : a = c := Nat.eq_of_testBit_eq (fun i => Bool.eq_iff_iff.mpr (h i))
theorem nst_ist {n : Nat} {f : Nat → Nat} (hf : isP n f) {t : Nat} (ht : t < 2 ^ n) : nst n f (ist n f t) = t := by
  apply bit_ext
  intro i
  unfold nst
  rw [t_orF]
  constructor
  · intro ⟨e, h1, h2, h3⟩; rw [← h3]; exact (t_ist.mp h2).2
  · intro h
    obtain ⟨e, h1, h2⟩ := hf.2.2 i (bit_lt ht h)
    exact ⟨e, h1, t_ist.mpr ⟨h1, by rw [h2]; exact h⟩, h2⟩
theorem ist_nst {n : Nat} {f : Nat → Nat} (hf : isP n f) {s : Nat} (hs : s < 2 ^ n) : ist n f (nst n f s) = s := by
  apply bit_ext
  intro i
  rw [t_ist]
  unfold nst
  rw [t_orF]
  constructor
  · intro ⟨h0, e, h1, h2, h3⟩; rw [← hf.2.1 e i h1 h0 h3]; exact h2
  · intro h
    have hi := bit_lt hs h
    exact ⟨hi, i, hi, h, rfl⟩
def ren (n : Nat) (f : Nat → Nat) (ρ : Nat → Nat) (t : Nat) : Nat := ρ (ist n f t)
theorem ist_or {n : Nat} {f : Nat → Nat} (hf : isP n f) {t k : Nat} (hk : k < n) : ∃ e, e < n ∧ ist n f (t ||| 2 ^ k) = ist n f t ||| 2 ^ e := by
  obtain ⟨e, he, hfe⟩ := hf.2.2 k hk
  refine ⟨e, he, bit_ext (fun i => ?_)⟩
  rw [t_ist, Nat.testBit_or, Nat.testBit_or, Bool.or_eq_true, Bool.or_eq_true, t_ist, Nat.testBit_two_pow, Nat.testBit_two_pow, decide_eq_true_iff, decide_eq_true_iff]
  constructor
  · intro ⟨h1, h2⟩
    rcases h2 with h2 | h2
    · exact Or.inl ⟨h1, h2⟩
    · exact Or.inr (hf.2.1 e i he h1 (by rw [hfe]; exact h2))
  · intro h
    rcases h with h | h
    · exact ⟨h.1, Or.inl h.2⟩
    · subst h; exact ⟨he, Or.inr hfe.symm⟩
theorem ist_bit {n : Nat} {f : Nat → Nat} (hf : isP n f) {t e : Nat} (he : e < n) : ist n f (t ||| 2 ^ f e) = ist n f t ||| 2 ^ e := by
  refine bit_ext (fun i => ?_)
  rw [t_ist, Nat.testBit_or, Nat.testBit_or, Bool.or_eq_true, Bool.or_eq_true, t_ist, Nat.testBit_two_pow, Nat.testBit_two_pow, decide_eq_true_iff, decide_eq_true_iff]
  constructor
  · intro ⟨h1, h2⟩
    rcases h2 with h2 | h2
    · exact Or.inl ⟨h1, h2⟩
    · exact Or.inr (hf.2.1 e i he h1 h2)
  · intro h
    rcases h with h | h
    · exact ⟨h.1, Or.inl h.2⟩
    · subst h; exact ⟨he, Or.inr rfl⟩
theorem mat_ren {n : Nat} {f : Nat → Nat} {ρ : Nat → Nat} (hf : isP n f) (hm : mat n ρ) : mat n (ren n f ρ) := by
  refine ⟨?_, ?_, ?_⟩
  · unfold ren
    rw [show ist n f 0 = 0 from bit_ext (fun i => by rw [t_ist, Nat.zero_testBit, Nat.zero_testBit]; exact ⟨fun h => (by cases h.2), fun h => (by cases h)⟩)]
    exact hm.1
  · intro s e _ he
    obtain ⟨x, hx, h⟩ := ist_or (t := s) hf he
    unfold ren
    rw [h]
    exact hm.2.1 _ x (ist_lt s) hx
  · intro s e g _ he hg h1 h2
    obtain ⟨x, hx, hfx⟩ := hf.2.2 e he
    obtain ⟨y, hy, hfy⟩ := hf.2.2 g hg
    unfold ren at h1 h2 ⊢
    rw [← hfx, ist_bit hf hx] at h1
    rw [← hfy, ist_bit hf hy] at h2
    rw [← hfx, ← hfy, ist_bit hf hy, ist_bit hf hx]
    exact hm.2.2 _ x y (ist_lt s) hx hy h1 h2
/-! the class -/
theorem c6_read (d : Nat) {S : am_S} {s l n : Nat} {b : Nat → Int32} (hn : n ≤ 7) (hnl : n ≤ l) (hS : shC S s l b) : ∃ S', am_cal am_mt (d + 3) jX6_readFrom [.ref 48, .ref (80 + 2 * s), .int (nI n)] (ws S) = some (some (.int (bI (rdn n b n 0 0))), ws S') ∧ Cr 49 49 S S' ∧ (rdn n b n 0 0 = true → ∀ e, e < n → S' 49 e = nI (2 ^ tn b e)) := by
  rw [eX6_readFrom_0, kO48, if_T, show (0 : Int32) = nI 0 from rfl]
  have key : ∀ k e u S1 x5, e + k = n → u < 2 ^ n → Cr 49 49 S S1 → (∀ j, j < e → S1 49 j = nI (2 ^ tn b j)) → ∃ S', am_run true (am_cal am_mt (d + 2)) (am_lk tbX6_readFrom) 5 [some (.ref 48), some (.ref (80 + 2 * s)), some (.int (nI n)), some (.int (nI u)), some (.int (nI e)), x5] [] (ws S1) = some (some (.int (bI (rdn n b k e u))), ws S') ∧ Cr 49 49 S S' ∧ (rdn n b k e u = true → ∀ j, j < n → S' 49 j = nI (2 ^ tn b j)) := by
    intro k
    induction k with
    | zero =>
      intro e u S1 x5 he hu hc hw
      have : e = n := by omega
      subst this
      rw [eX6_readFrom_5, if_pos (nI_le (Nat.le_refl _) (by omega))]
      exact ⟨S1, rfl, hc, fun _ => hw⟩
    | succ k ih =>
      intro e u S1 x5 he hu hc hw
      have hen : e < n := by omega
      have hS1 : shC S1 s l b := ⟨hS.1, by have := hS.1; rw [hc _ (by omega)]; exact hS.2.1, hS.2.2.1, fun i hi => by have := hS.1; rw [hc _ (by omega)]; exact hS.2.2.2 i hi⟩
      have hu7 := p2_128 hn hu
      rw [eX6_readFrom_5, if_neg (nI_ge hen (by omega)), if_neg (show ¬ (7 : Int32) ≤ nI e from nI_ge (b := 7) (by omega) (by decide)), hS1.nm _ (by omega), cI_some, wc_bind, c_below, cI_some, wc_bind]
      dsimp only
      unfold rdn
      rcases inR_of (x := b e) (n := n) (by omega) with h2 | ⟨j, hj, hbj⟩
      · rw [h2, if_pos bI_F, Bool.false_and, Bool.false_and]
        exact ⟨S1, rfl, hc, fun h => (by cases h)⟩
      · have hin2 : inR (b e) (nI n) = true := by rw [hbj]; exact inR_T hj (by omega)
        have htj : tn b e = j := tn_of hbj (by omega)
        rw [hin2, if_neg bI_T, hbj, wc_bit (by omega) (by omega), htj, kR48_0, wc_bind, wc_1shl (by omega), kW49 S1 (by omega), wc_bind, wc_or, nI_1, Bool.true_and]
        cases hb2 : u.testBit j with
        | true =>
          rw [if_neg bI_T, Bool.not_true, Bool.false_and]
          exact ⟨S1, rfl, hc, fun h => (by cases h)⟩
        | false =>
          rw [if_pos bI_F, Bool.not_false, Bool.true_and]
          refine ih (e + 1) _ (up S1 49 e (nI (2 ^ j))) _ (by omega) (p2_or hu hj) (Cr_up hc (by decide) (by decide)) (fun i hi => ?_)
          rw [up_upd]
          unfold upd
          by_cases hie : i = e
          · rw [if_pos hie, hie, htj]
          · rw [if_neg hie]; exact hw i (by omega)
  exact key n 0 0 S none (by omega) (Nat.two_pow_pos n) Cr.rf (fun j hj => absurd hj (Nat.not_lt_zero j))
theorem orF_ext {P : Nat → Bool} {f : Nat → Nat} {n m : Nat} (hnm : n ≤ m) (h : ∀ e, n ≤ e → e < m → P e = false) : orF m P f = orF n P f := by
  apply bit_ext
  intro i
  rw [t_orF, t_orF]
  constructor
  · intro ⟨e, h1, h2, h3⟩
    have : e < n := by
      apply Nat.lt_of_not_le
      intro c
      rw [h e c h1] at h2; cases h2
    exact ⟨e, this, h2, h3⟩
  · intro ⟨e, h1, h2⟩; exact ⟨e, by omega, h2⟩
theorem c6_newSet (d : Nat) {S : am_S} {n s : Nat} {f : Nat → Nat} (hn : n ≤ 7) (hw : ∀ e, e < n → S 49 e = nI (2 ^ f e)) (hs : s < 2 ^ n) : am_cal am_mt (d + 1) jX6_newSet [.ref 48, .int (nI s)] (ws S) = some (some (.int (nI (nst n f s))), ws S) := by
  have hs7 := p2_128 hn hs
  have hbit : ∀ e, n ≤ e → s.testBit e = false := fun e he => Nat.testBit_lt_two_pow (Nat.lt_of_lt_of_le hs (p2_mono he))
  rw [eX6_newSet_0, kO48, if_T]
  refine loop_fd (fun e (a : Nat) => am_run false (am_cal am_mt d) (am_lk tbX6_newSet) 4 [some (.ref 48), some (.int (nI s)), some (.int (nI a)), some (.int (nI e))] [] (ws S)) (fun e a => if s.testBit e then a ||| 2 ^ f e else a) 7 0 ?_ ?_
  · intro e a he
    show am_run _ _ _ _ _ _ _ = am_run _ _ _ _ _ _ _
    rw [eX6_newSet_4, if_neg (show ¬ (7 : Int32) ≤ nI e from nI_ge (b := 7) he (by decide)), wc_bit (by omega) (by omega), nI_1, kR48_0, wc_bind, kA49 S he, wc_bind]
    cases hb : s.testBit e with
    | false => rw [if_pos bI_F, if_neg Bool.false_ne_true]
    | true =>
      have hen : e < n := bit_lt hs hb
      rw [if_neg bI_T, if_pos rfl, hw e hen, wc_or]
  · show am_run _ _ _ _ _ _ _ = _
    rw [eX6_newSet_4, if_pos (by decide)]
    have : wc_fd 7 (fun e a => if s.testBit e then a ||| 2 ^ f e else a) 0 = nst n f s := orF_ext (P := fun e => s.testBit e) (f := f) hn (fun e h1 _ => hbit e h1)
    rw [this]
