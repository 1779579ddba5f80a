/-! ===== the first base, best, list ===== -/
def wc_ff (P : Nat → Bool) : Nat → Nat → Nat
  | 0, e => e
  | k + 1, e => if P e then e else wc_ff P k (e + 1)
theorem wc_ff_ok (P : Nat → Bool) : ∀ k e, (∃ j, e ≤ j ∧ j ≤ e + k ∧ P j = true) → P (wc_ff P k e) = true ∧ e ≤ wc_ff P k e ∧ wc_ff P k e ≤ e + k ∧ ∀ j, e ≤ j → j < wc_ff P k e → P j = false := by
  intro k
  induction k with
  | zero =>
    intro e ⟨j, h1, h2, h3⟩
    have : j = e := by omega
    subst this
    exact ⟨h3, Nat.le_refl _, Nat.le_refl _, fun i h4 h5 => absurd h5 (Nat.not_lt.mpr h4)⟩
  | succ k ih =>
    intro e ⟨j, h1, h2, h3⟩
    unfold wc_ff
    cases hp : P e with
    | true =>
      rw [if_pos rfl]
      exact ⟨hp, Nat.le_refl _, by omega, fun i h4 h5 => absurd h5 (Nat.not_lt.mpr h4)⟩
    | false =>
      rw [if_neg (by decide)]
      have hj : j ≠ e := fun c => by rw [c, hp] at h3; cases h3
      obtain ⟨g1, g2, g3, g4⟩ := ih (e + 1) ⟨j, by omega, by omega, h3⟩
      refine ⟨g1, by omega, by omega, fun i h4 h5 => ?_⟩
      by_cases hi : i = e
      · rw [hi]; exact hp
      · exact g4 i (by omega) h5
/-- the first base -/
def lb (n : Nat) (ρ : Nat → Nat) : Nat := wc_ff (bas n ρ) (2 ^ n - 1) 0
theorem lb_ok {n : Nat} {ρ : Nat → Nat} (hm : mat n ρ) (hn : n ≤ 7) : bas n ρ (lb n ρ) = true ∧ lb n ρ < 2 ^ n ∧ ∀ j, j < lb n ρ → bas n ρ j = false := by
  obtain ⟨s, hs, hb⟩ := mat_base hm hn
  obtain ⟨h1, h2, h3, h4⟩ := wc_ff_ok (bas n ρ) (2 ^ n - 1) 0 ⟨s, Nat.zero_le _, by omega, hb⟩
  have := Nat.two_pow_pos n
  exact ⟨h1, by unfold lb; omega, fun j hj => h4 j (Nat.zero_le _) hj⟩
theorem c8_firstBase (d : Nat) {S : am_S} {q n : Nat} {ρ : Nat → Nat} (h : VC S q n ρ) : am_cal am_mt (d + 4) jX8_firstBase [.ref q] (ws S) = some (some (.int (nI (lb n ρ))), ws S) := by
  have hn := h.n7
  have h27 := p2_le hn
  rw [eX8_firstBase_0, h.O, if_T]
  have key : ∀ k e, e + k = 2 ^ n - 1 → am_run false (am_cal am_mt (d + 3)) (am_lk tbX8_firstBase) 2 [some (.ref q), some (.int (nI e))] [] (ws S) = some (some (.int (nI (wc_ff (bas n ρ) k e))), ws S) := by
    intro k
    induction k with
    | zero =>
      intro e he
      rw [eX8_firstBase_2, c8_all _ h, cI_some, wc_bind, if_pos (nI_le (by omega) (by omega))]
      ((try dsimp only); try rfl)
    | succ k ih =>
      intro e he
      rw [eX8_firstBase_2, c8_all _ h, cI_some, wc_bind, if_neg (nI_ge (by omega) (by omega)), c8_isBase _ h (by omega), cI_some, wc_bind, nI_1]
      unfold wc_ff
      cases bas n ρ e with
      | true => rw [if_neg bI_T, if_pos rfl]
      | false => rw [if_pos bI_F, if_neg (by decide)]; dsimp only; exact ih (e + 1) (by omega)
  exact key (2 ^ n - 1) 0 (by omega)
/-- weights -/
def wgt (S : am_S) (s l set : Nat) : Int32 := wc_fd 7 (fun e a => if set.testBit e then a + (if e < l then S 106 (64 * s + e) else 0) else a) 0
theorem c7_weightOf (d : Nat) {S : am_S} {s l set : Nat} (hs : s < 4) (hl : S (80 + 2 * s) 1 = nI l) (hl64 : l ≤ 64) (he : ∀ i, i < 64 → S (81 + 2 * s) i = S 106 (64 * s + i)) (hset : set < 2 ^ 31) : am_cal am_mt (d + 3) jX7_weightOf [.ref (80 + 2 * s), .int (nI set)] (ws S) = some (some (.int (wgt S s l set)), ws S) := by
  rw [eX7_weightOf_0, sO S hs, if_T]
  refine loop_fd (fun e (a : Int32) => am_run false (am_cal am_mt (d + 2)) (am_lk tbX7_weightOf) 4 [some (.ref (80 + 2 * s)), some (.int (nI set)), some (.int a), some (.int (nI e))] [] (ws S)) (fun e a => if set.testBit e then a + (if e < l then S 106 (64 * s + e) else 0) else a) 7 0 ?_ ?_
  · intro e a hlt
    show am_run _ _ _ _ _ _ _ = am_run _ _ _ _ _ _ _
    rw [eX7_weightOf_4, if_neg (show ¬ (7 : Int32) ≤ nI e from nI_ge (b := 7) hlt (by decide)), wc_bit hset (by omega), c7_numberAt _ S hs hl hl64 (by omega), cI_some, wc_bind, nI_1, he e (by omega)]
    cases set.testBit e with
    | true => rw [if_neg bI_T, if_pos rfl]
    | false => rw [if_pos bI_F, if_neg (by decide)]
  · show am_run _ _ _ _ _ _ _ = _
    rw [eX7_weightOf_4, if_pos (by decide)]
    rfl
theorem m_weightOf (d : Nat) {S : am_S} {s l set : Nat} (hs : s < 4) (hl : S 105 s = nI l) (hl64 : l ≤ 64) (hset : set < 2 ^ 31) : am_cal am_mt (d + 2) jX11_weightOf [.ref 88, .int (nI s), .int (nI set)] (ws S) = some (some (.int (wgt S s l set)), ws S) := by
  rw [eX11_weightOf_0, kO88, if_T]
  refine loop_fd (fun e (a : Int32) => am_run false (am_cal am_mt (d + 1)) (am_lk tbX11_weightOf) 5 [some (.ref 88), some (.int (nI s)), some (.int (nI set)), some (.int a), some (.int (nI e))] [] (ws S)) (fun e a => if set.testBit e then a + (if e < l then S 106 (64 * s + e) else 0) else a) 7 0 ?_ ?_
  · intro e a hlt
    show am_run _ _ _ _ _ _ _ = am_run _ _ _ _ _ _ _
    rw [eX11_weightOf_5, if_neg (show ¬ (7 : Int32) ≤ nI e from nI_ge (b := 7) hlt (by decide)), m_has _ hset (by omega), cI_some, wc_bind, kR88_19, wc_bind, kA105 S hs, wc_bind, hl, kR88_20, wc_bind, wc_row64, kA106 S (show 64 * s + e < 256 by omega), wc_bind, nI_1, Int32.add_zero]
    cases set.testBit e with
    | false => rw [if_pos bI_F, if_neg (by decide)]
    | true =>
      rw [if_neg bI_T, if_pos rfl]
      by_cases hc : e < l
      · rw [if_neg (nI_ge hc (by omega)), if_pos hc]
      · rw [if_pos (nI_le (by omega) (by omega)), if_neg hc, Int32.add_zero]
  · show am_run _ _ _ _ _ _ _ = _
    rw [eX11_weightOf_5, if_pos (by decide)]
    rfl
def hvy (P : Nat → Bool) (w : Nat → Int32) (e h : Nat) : Nat := if P e then (if w e ≤ w h then h else e) else h
theorem hvy_f {P : Nat → Bool} {w : Nat → Int32} {e h : Nat} (hp : P e = false) : hvy P w e h = h := by unfold hvy; rw [hp]; rfl
theorem hvy_k {P : Nat → Bool} {w : Nat → Int32} {e h : Nat} (hp : P e = true) (hc : w e ≤ w h) : hvy P w e h = h := by unfold hvy; rw [hp, if_pos rfl, if_pos hc]
theorem hvy_n {P : Nat → Bool} {w : Nat → Int32} {e h : Nat} (hp : P e = true) (hc : ¬ w e ≤ w h) : hvy P w e h = e := by unfold hvy; rw [hp, if_pos rfl, if_neg hc]
def hbs (n : Nat) (ρ : Nat → Nat) (w : Nat → Int32) : Nat := wc_lp (hvy (bas n ρ) w) (2 ^ n - (lb n ρ + 1)) (lb n ρ + 1) (lb n ρ)
theorem hvy_lt {P : Nat → Bool} {w : Nat → Int32} {m : Nat} : ∀ k e h, e + k = m → h < m → (k = 0 ∨ e < m) → wc_lp (hvy P w) k e h < m := by
  intro k
  induction k with
  | zero => intro e h _ hh _; exact hh
  | succ k ih =>
    intro e h hk hh _
    show wc_lp (hvy P w) k (e + 1) (hvy P w e h) < m
    refine ih (e + 1) _ (by omega) ?_ (by omega)
    unfold hvy
    split
    · split <;> omega
    · exact hh
theorem hbs_lt {n : Nat} {ρ : Nat → Nat} (w : Nat → Int32) (hm : mat n ρ) (hn : n ≤ 7) : hbs n ρ w < 2 ^ n := by
  have := (lb_ok hm hn).2.1
  exact hvy_lt _ _ _ (by omega) this (by omega)
theorem c8_heaviest (d : Nat) {S : am_S} {q n p : Nat} {ρ : Nat → Nat} (w : Nat → Int32) (hm : mat n ρ) (h : VC S q n ρ) (hw : ∀ set, set < 2 ^ n → am_cal am_mt (d + 4) jX7_weightOf [.ref p, .int (nI set)] (ws S) = some (some (.int (w set)), ws S)) : am_cal am_mt (d + 5) jX8_heaviestBase [.ref q, .ref p] (ws S) = some (some (.int (nI (hbs n ρ w))), ws S) := by
  have hn := h.n7
  have h27 := p2_le hn
  obtain ⟨_, hlb, _⟩ := lb_ok hm hn
  rw [eX8_heaviestBase_0, h.O, if_T, c8_firstBase _ h, cI_some, wc_bind]
  dsimp only
  rw [nI_1]
  have key : ∀ k e b, e + k = 2 ^ n → b < 2 ^ n → am_run false (am_cal am_mt (d + 4)) (am_lk tbX8_heaviestBase) 9 [some (.ref q), some (.ref p), some (.int (nI b)), some (.int (nI e))] [] (ws S) = some (some (.int (nI (wc_lp (hvy (bas n ρ) w) k e b))), ws S) := by
    intro k
    induction k with
    | zero =>
      intro e b he' hb
      have : e = 2 ^ n := by omega
      subst this
      rw [eX8_heaviestBase_9, c8_all _ h, cI_some, wc_bind, if_pos (p2_end hn)]
      ((try dsimp only); try rfl)
    | succ k ih =>
      intro e b he' hb
      have hlt : e < 2 ^ n := by omega
      rw [eX8_heaviestBase_9, c8_all _ h, cI_some, wc_bind, if_neg (p2_all hlt hn), c8_isBase _ h hlt, cI_some, wc_bind, hw e hlt, cI_some, wc_bind, hw b hb, cI_some, wc_bind, nI_1]
      dsimp only
      have e3 : wc_lp (hvy (bas n ρ) w) (k + 1) e b = wc_lp (hvy (bas n ρ) w) k (e + 1) (hvy (bas n ρ) w e b) := rfl
      rw [e3]
      cases hp : bas n ρ e with
      | false => rw [if_pos bI_F, hvy_f hp]; exact ih (e + 1) b (by omega) hb
      | true =>
        rw [if_neg bI_T]
        by_cases hc : w e ≤ w b
        · rw [if_pos hc, hvy_k hp hc]; exact ih (e + 1) b (by omega) hb
        · rw [if_neg hc, hvy_n hp hc]; exact ih (e + 1) e (by omega) hlt
  exact key _ (lb n ρ + 1) (lb n ρ) (by omega) hlb
theorem m_bestloop (d : Nat) {S : am_S} {v n s : Nat} {ρ : Nat → Nat} (w : Nat → Int32) (hm : mat n ρ) (h : VM S v n ρ) (hw : ∀ set, set < 2 ^ n → am_cal am_mt (d + 4) jX11_weightOf [.ref 88, .int (nI s), .int (nI set)] (ws S) = some (some (.int (w set)), ws S)) (y : Int32) : am_run false (am_cal am_mt (d + 4)) (am_lk tbX11_best) 45 [some (.ref 88), some (.int (nI v)), some (.int (nI s)), some (.int y), some (.int (-1 : Int32)), some (.int (0 : Int32))] [] (ws S) = some (some (.int (if y = 0 then nI (hbs n ρ w) else w (hbs n ρ w))), ws S) := by
  have hn := h.n7
  have h27 := p2_le hn
  obtain ⟨hb1, hlb, hb2⟩ := lb_ok hm hn
  have low : ∀ k, k ≤ lb n ρ → am_run false (am_cal am_mt (d + 4)) (am_lk tbX11_best) 45 [some (.ref 88), some (.int (nI v)), some (.int (nI s)), some (.int y), some (.int (-1 : Int32)), some (.int (0 : Int32))] [] (ws S) = am_run false (am_cal am_mt (d + 4)) (am_lk tbX11_best) 45 [some (.ref 88), some (.int (nI v)), some (.int (nI s)), some (.int y), some (.int (-1 : Int32)), some (.int (nI k))] [] (ws S) := by
    intro k
    induction k with
    | zero => intro _; rfl
    | succ k ih =>
      intro hk
      have hlt : k < 2 ^ n := by omega
      rw [ih (by omega), eX11_best_45, m_all _ h, cI_some, wc_bind, if_neg (p2_all hlt hn), show (2 : Int32) = nI 2 from rfl, m_isOf _ h hlt (by decide) (by decide), cI_some, wc_bind, show srt n ρ 2 k = false from hb2 k (by omega), if_pos bI_F, nI_1]
  have key : ∀ k e b, e + k = 2 ^ n → b < 2 ^ n → am_run false (am_cal am_mt (d + 4)) (am_lk tbX11_best) 45 [some (.ref 88), some (.int (nI v)), some (.int (nI s)), some (.int y), some (.int (nI b)), some (.int (nI e))] [] (ws S) = some (some (.int (if y = 0 then nI (wc_lp (hvy (bas n ρ) w) k e b) else w (wc_lp (hvy (bas n ρ) w) k e b))), ws S) := by
    intro k
    induction k with
    | zero =>
      intro e b he' hb
      have : e = 2 ^ n := by omega
      subst this
      rw [eX11_best_45, m_all _ h, cI_some, wc_bind, if_pos (p2_end hn), hw b hb, cI_some, wc_bind]
      show _ = some (some (Value.int (if y = 0 then nI b else w b)), ws S)
      by_cases hy : y = 0
      · rw [if_pos hy, if_pos hy]
      · rw [if_neg hy, if_neg hy]
    | succ k ih =>
      intro e b he' hb
      have hlt : e < 2 ^ n := by omega
      rw [eX11_best_45, m_all _ h, cI_some, wc_bind, if_neg (p2_all hlt hn), show (2 : Int32) = nI 2 from rfl, m_isOf _ h hlt (by decide) (by decide), cI_some, wc_bind, hw e hlt, cI_some, wc_bind, hw b hb, cI_some, wc_bind, nI_1]
      dsimp only
      have e3 : wc_lp (hvy (bas n ρ) w) (k + 1) e b = wc_lp (hvy (bas n ρ) w) k (e + 1) (hvy (bas n ρ) w e b) := rfl
      rw [e3, show srt n ρ 2 e = bas n ρ e from rfl]
      cases hp : bas n ρ e with
      | false => rw [if_pos bI_F, hvy_f hp]; exact ih (e + 1) b (by omega) hb
      | true =>
        rw [if_neg bI_T, if_neg (show ¬ nI b = -1 from fun c => nI_pos (show b < 2 ^ 31 by omega) (by rw [c]; decide))]
        by_cases hc : w e ≤ w b
        · rw [if_pos hc, hvy_k hp hc]; exact ih (e + 1) b (by omega) hb
        · rw [if_neg hc, hvy_n hp hc]; exact ih (e + 1) e (by omega) hlt
  rw [low (lb n ρ) (Nat.le_refl _), eX11_best_45, m_all _ h, cI_some, wc_bind, if_neg (p2_all hlb hn), show (2 : Int32) = nI 2 from rfl, m_isOf _ h hlb (by decide) (by decide), cI_some, wc_bind, show srt n ρ 2 (lb n ρ) = true from hb1, if_neg bI_T, if_pos (show (-1 : Int32) = -1 from rfl), nI_1]
  dsimp only
  exact key _ (lb n ρ + 1) (lb n ρ) (by omega) hlb
theorem pu_best : am_ag Inv jX10_best jX11_best 3 := ah_3 (fun d S x1 x2 x3 hR => by
  rcases inR_of (x := x1) (n := 4) (by decide) with h1 | ⟨v, hv, rfl⟩
  · refine ag3_p hR (-2) ?_ ?_
    · rw [eX10_best_0, kO0, if_T, c_below, cI_some, wc_bind, show (inR x1 (4 : Int32)) = false from h1, if_pos bI_F]
    · rw [eX11_best_0, kO88, if_T, m_isView, cI_some, wc_bind, h1, if_pos bI_F]
  have hv4 : inR (nI v) (nI 4) = true := inR_T hv (by decide)
  rcases inR_of (x := x2) (n := 4) (by decide) with h1 | ⟨s, hs, rfl⟩
  · refine ag3_p hR (-2) ?_ ?_
    · rw [eX10_best_0, kO0, if_T, c_below, cI_some, wc_bind, show (inR (nI v) (4 : Int32)) = true from hv4, if_neg bI_T, c_below, cI_some, wc_bind, show (inR x2 (4 : Int32)) = false from h1, if_pos bI_F]
    · rw [eX11_best_0, kO88, if_T, m_isView, cI_some, wc_bind, hv4, if_neg bI_T, m_isSheet, cI_some, wc_bind, h1, if_pos bI_F]
  have hs4 : inR (nI s) (nI 4) = true := inR_T hs (by decide)
  rcases inR_of (x := x3) (n := 2) (by decide) with h1 | ⟨w, hw, rfl⟩
  · refine ag3_p hR (-2) ?_ ?_
    · rw [eX10_best_0, kO0, if_T, c_below, cI_some, wc_bind, show (inR (nI v) (4 : Int32)) = true from hv4, if_neg bI_T, c_below, cI_some, wc_bind, show (inR (nI s) (4 : Int32)) = true from hs4, if_neg bI_T, c_below, cI_some, wc_bind, show (inR x3 (2 : Int32)) = false from h1, if_pos bI_F]
    · rw [eX11_best_0, kO88, if_T, m_isView, cI_some, wc_bind, hv4, if_neg bI_T, m_isSheet, cI_some, wc_bind, hs4, if_neg bI_T, m_in1, cI_some, wc_bind, h1, if_pos bI_F]
  have hw2 : inR (nI w) (nI 2) = true := inR_T hw (by decide)
  obtain ⟨n, ρ, hm, hC, hM⟩ := hR.2.1 v hv
  obtain ⟨e1, e2, e3, ⟨l, hl64, hl⟩, e5⟩ := hR.2.2.2.2.1 s hs
  have e2' := e2.trans hl
  by_cases hc : S 104 s = -1
  · refine ag3_p hR (-11) ?_ ?_
    · rw [eX10_best_0, kO0, if_T, c_below, cI_some, wc_bind, show (inR (nI v) (4 : Int32)) = true from hv4, if_neg bI_T, c_below, cI_some, wc_bind, show (inR (nI s) (4 : Int32)) = true from hs4, if_neg bI_T, c_below, cI_some, wc_bind, show (inR (nI w) (2 : Int32)) = true from hw2, if_neg bI_T, kR0_3, wc_bind, kQs S hs, wc_bind, c7_isMissing _ S hs, cI_some, wc_bind, e1, decide_eq_true hc, if_neg bI_T]
    · rw [eX11_best_0, kO88, if_T, m_isView, cI_some, wc_bind, hv4, if_neg bI_T, m_isSheet, cI_some, wc_bind, hs4, if_neg bI_T, m_in1, cI_some, wc_bind, hw2, if_neg bI_T, kR88_18, wc_bind, kA104 S hs, wc_bind, if_pos hc]
  · have hlt := hbs_lt (wgt S s l) hm hC.n7
    have h27 := p2_le hC.n7
    refine ag3_p hR (if nI w = 0 then nI (hbs n ρ (wgt S s l)) else wgt S s l (hbs n ρ (wgt S s l))) ?_ ?_
    · rw [eX10_best_0, kO0, if_T, c_below, cI_some, wc_bind, show (inR (nI v) (4 : Int32)) = true from hv4, if_neg bI_T, c_below, cI_some, wc_bind, show (inR (nI s) (4 : Int32)) = true from hs4, if_neg bI_T, c_below, cI_some, wc_bind, show (inR (nI w) (2 : Int32)) = true from hw2, if_neg bI_T, kR0_3, wc_bind, kQs S hs, wc_bind, c7_isMissing _ S hs, cI_some, wc_bind, e1, decide_eq_false hc, if_pos bI_F, kR0_1, wc_bind, kQv S hv, wc_bind, kR0_3, wc_bind, kQs S hs, wc_bind, c8_heaviest _ (wgt S s l) hm hC (fun set hset => c7_weightOf _ hs e2' hl64 e5 (by omega)), cI_some, wc_bind]
      by_cases hw0 : nI w = 0
      · rw [if_pos hw0, if_pos hw0]
      · rw [if_neg hw0, if_neg hw0, kR0_3, wc_bind, kQs S hs, wc_bind, c7_weightOf _ hs e2' hl64 e5 (by omega), cI_some, wc_bind]
    · rw [eX11_best_0, kO88, if_T, m_isView, cI_some, wc_bind, hv4, if_neg bI_T, m_isSheet, cI_some, wc_bind, hs4, if_neg bI_T, m_in1, cI_some, wc_bind, hw2, if_neg bI_T, kR88_18, wc_bind, kA104 S hs, wc_bind, if_neg hc]
      dsimp only
      exact m_bestloop (d + 15) (wgt S s l) hm hM (fun set hset => m_weightOf _ hs hl hl64 (by omega)) _)
