/-! ===== sorts of sets ===== -/
theorem c8_isCircuit (d : Nat) {S : am_S} {q n s : Nat} {ρ : Nat → Nat} (h : VC S q n ρ) (hs : s < 2 ^ n) : am_cal am_mt (d + 3) jX8_isCircuit [.ref q, .int (nI s)] (ws S) = some (some (.int (bI (cir n ρ s))), ws S) := by
  have h7 := h.n7
  have h128 := p2_128 h7 hs
  rw [eX8_isCircuit_0, h.O, if_T, c8_isFree d h hs, cI_some, wc_bind]
  unfold cir
  cases fre ρ s with
  | true => rw [if_neg bI_T]; ((try dsimp only); try rfl)
  | false =>
    rw [if_pos bI_F, Bool.not_false, Bool.true_and]
    dsimp only
    apply wp_pure
    refine loop_wp (fun e (_ : Unit) => am_run true (am_cal am_mt (d + 2)) (am_lk tbX8_isCircuit) 12 [some (.ref q), some (.int (nI s)), some (.int (nI e))] [] (ws S)) (fun e _ => ∀ j, j < e → (!s.testBit j || fre ρ (wc_an s (2 ^ j))) = true) _ n ?_ ?_ 0 () (Nat.zero_le _) (fun j hj => absurd hj (Nat.not_lt_zero j))
    · intro e _ he hI K
      show wp (am_run _ _ _ _ _ _ _) _
      have K2 : (!s.testBit e || fre ρ (wc_an s (2 ^ e))) = true → wp (am_run true (am_cal am_mt (d + 2)) (am_lk tbX8_isCircuit) 12 [some (.ref q), some (.int (nI s)), some (.int (nI (e + 1)))] [] (ws S)) _ := fun hc => K () (fun j hj => by
        rcases Nat.lt_or_ge j e with h1 | h1
        · exact hI j h1
        · have : j = e := by omega
          subst this; exact hc)
      rw [eX8_isCircuit_12, h.fI, wc_bind, if_neg (nI_ge he (by omega)), wc_bit (by omega) (by omega), wc_1shl (by omega), wc_anI, c8_isFree d h (wc_an_lt hs), cI_some, wc_bind, nI_1]
      cases hb : s.testBit e with
      | false => rw [if_pos bI_F]; exact K2 (by rw [hb]; rfl)
      | true =>
        rw [if_neg bI_T]
        cases hf : fre ρ (wc_an s (2 ^ e)) with
        | true => rw [if_neg bI_T]; dsimp only; exact K2 (by rw [hf, Bool.or_true])
        | false =>
          rw [if_pos bI_F]
          dsimp only
          rw [(wc_al_false n _).mpr ⟨e, he, by rw [hb, hf]; rfl⟩]
          exact wp_ret ⟨rfl, rfl⟩
    · intro _ hI
      show wp (am_run _ _ _ _ _ _ _) _
      rw [eX8_isCircuit_12, h.fI, wc_bind, if_pos (nI_le (Nat.le_refl _) (by omega)), (wc_al_iff n _).mpr hI]
      exact wp_ret ⟨rfl, rfl⟩
theorem sub1I {a b : Nat} (ha : a ≤ 7) (hb : b ≤ 7) : (nI a = nI b - (1 : Int32)) ↔ a + 1 = b := by
  constructor
  · intro h
    have h1 : (nI a + 1 : Int32) = nI b := by rw [h, Int32.sub_eq_add_neg, Int32.add_assoc, Int32.add_left_neg, Int32.add_zero]
    rw [nI_1] at h1
    exact (nI_eq (by omega) (by omega)).mp h1
  · intro h
    subst h
    exact (nI_pred a).symm
theorem spn_le7 {n : Nat} (ρ : Nat → Nat) {s : Nat} (hn : n ≤ 7) (hs : s < 2 ^ n) : spn n ρ s < 2 ^ n := by
  unfold spn
  have key : ∀ k, k ≤ n → wc_fd k (fun e a => if ρ (s ||| 2 ^ e) = ρ s then a ||| 2 ^ e else a) s < 2 ^ n := by
    intro k
    induction k with
    | zero => intro _; exact hs
    | succ k ih =>
      intro hk
      rw [wc_fd_s]
      split
      · exact p2_or (ih (by omega)) (by omega)
      · exact ih (by omega)
  exact key n (Nat.le_refl n)
theorem c8_isOfSort (d : Nat) {S : am_S} {q n s : Nat} {ρ : Nat → Nat} (h : VC S q n ρ) (hs : s < 2 ^ n) {w : Nat} (h1 : 1 ≤ w) (h5 : w ≤ 5) : am_cal am_mt (d + 4) jX8_isOfSort [.ref q, .int (nI w), .int (nI s)] (ws S) = some (some (.int (bI (srt n ρ w s))), ws S) := by
  have h7 := h.n7
  have h128 := p2_128 h7 hs
  have hsp := p2_128 h7 (spn_le7 ρ h7 hs)
  have hl1 := h.le hs
  have hl2 := h.le (p2_m1 n)
  have hfl : (nI (spn n ρ s) = nI s) ↔ spn n ρ s = s := nI_eq (by omega) (by omega)
  rw [eX8_isOfSort_0, h.O, if_T]
  rcases (show w = 1 ∨ w = 2 ∨ w = 3 ∨ w = 4 ∨ w = 5 by omega) with rfl | rfl | rfl | rfl | rfl
  · rw [if_pos (by decide), c8_isFree _ h hs, cI_some, wc_bind, if_pos (bI_01 _)]
    ((try dsimp only); try rfl)
  · rw [if_neg (by decide), if_pos (by decide), c8_isBase _ h hs, cI_some, wc_bind, if_pos (bI_01 _)]
    ((try dsimp only); try rfl)
  · rw [if_neg (by decide), if_neg (by decide), if_pos (by decide), c8_isCircuit _ h hs, cI_some, wc_bind, if_pos (bI_01 _)]
    ((try dsimp only); try rfl)
  · rw [if_neg (by decide), if_neg (by decide), if_neg (by decide), if_pos (by decide), c8_spanOf _ h hs, cI_some, wc_bind, bI_if]
    simp only [hfl]
    ((try dsimp only); try rfl)
  · rw [if_neg (by decide), if_neg (by decide), if_neg (by decide), if_neg (by decide), if_pos (by decide), c8_rankOf _ h hs, cI_some, wc_bind, c8_fullRank _ h, cI_some, wc_bind]
    show _ = some (some (Value.int (bI (decide (ρ s + 1 = ρ (2 ^ n - 1)) && flt n ρ s))), ws S)
    by_cases hc : ρ s + 1 = ρ (2 ^ n - 1)
    · rw [if_pos ((sub1I hl1 hl2).mpr hc), c8_spanOf _ h hs, cI_some, wc_bind, bI_if, decide_eq_true hc, Bool.true_and]
      simp only [hfl]
      ((try dsimp only); try rfl)
    · rw [if_neg (fun c => hc ((sub1I hl1 hl2).mp c)), decide_eq_false hc, Bool.false_and]
      ((try dsimp only); try rfl)
theorem al_step (n : Nat) (f : Nat → Bool) (b : Bool) : wc_fd n (fun e a => a && f e) b = (b && wc_al n f) := by
  induction n with
  | zero => rw [wc_fd_0]; show b = (b && true); rw [Bool.and_true]
  | succ n ih => rw [wc_fd_s, ih, wc_al_s, Bool.and_assoc]
theorem m_isOf (d : Nat) {S : am_S} {v n s : Nat} {ρ : Nat → Nat} (h : VM S v n ρ) (hs : s < 2 ^ n) {w : Nat} (h1 : 1 ≤ w) (h5 : w ≤ 5) : am_cal am_mt (d + 3) jX11_isOf [.ref 88, .int (nI v), .int (nI s), .int (nI w)] (ws S) = some (some (.int (bI (srt n ρ w s))), ws S) := by
  have h7 := h.n7
  have h128 := p2_128 h7 hs
  have hsp := p2_128 h7 (spn_le7 ρ h7 hs)
  have hl1 := h.le hs
  have hl2 := h.le (p2_m1 n)
  have hfl : (nI (spn n ρ s) = nI s) ↔ spn n ρ s = s := nI_eq (by omega) (by omega)
  have hgo : ∀ b : Bool, b = (!fre ρ s) → am_run true (am_cal am_mt (d + 2)) (am_lk tbX11_isOf) 19 [some (.ref 88), some (.int (nI v)), some (.int (nI s)), some (.int (nI w)), some (.int (bI b)), some (.int (0 : Int32))] [] (ws S) = some (some (.int (bI (srt n ρ w s))), ws S) := by
    intro b hb
    refine loop_fd (fun e (a : Bool) => am_run true (am_cal am_mt (d + 2)) (am_lk tbX11_isOf) 19 [some (.ref 88), some (.int (nI v)), some (.int (nI s)), some (.int (nI w)), some (.int (bI a)), some (.int (nI e))] [] (ws S)) (fun e a => a && (!s.testBit e || fre ρ (wc_an s (2 ^ e)))) n b ?_ ?_
    · intro e a he
      show am_run _ _ _ _ _ _ _ = am_run _ _ _ _ _ _ _
      rw [eX11_isOf_19, kR88_2, wc_bind, h.aI, wc_bind, if_neg (nI_ge he (by omega)), nI_1, m_has _ (by omega) (by omega), cI_some, wc_bind, wc_1shl (by omega), wc_anI, m_isFree _ h (wc_an_lt hs), cI_some, wc_bind]
      cases a with
      | false => rw [if_pos bI_F, Bool.false_and]; ((try dsimp only); try rfl)
      | true =>
        rw [if_neg bI_T, Bool.true_and]
        cases hb : s.testBit e with
        | false => rw [if_pos bI_F]; ((try dsimp only); try rfl)
        | true =>
          rw [if_neg bI_T]
          cases hf : fre ρ (wc_an s (2 ^ e)) with
          | true => rw [if_neg bI_T]; ((try dsimp only); try rfl)
          | false => rw [if_pos bI_F]; ((try dsimp only); try rfl)
    · show am_run _ _ _ _ _ _ _ = _
      rw [al_step, hb]
      rw [eX11_isOf_19, kR88_2, wc_bind, h.aI, wc_bind, if_pos (nI_le (Nat.le_refl _) (by omega))]
      rcases (show w = 1 ∨ w = 2 ∨ w = 3 ∨ w = 4 ∨ w = 5 by omega) with rfl | rfl | rfl | rfl | rfl
      · rw [if_pos (by decide), m_isFree _ h hs, cI_some, wc_bind, if_pos (bI_01 _)]
        ((try dsimp only); try rfl)
      · rw [if_neg (by decide), if_pos (by decide), m_isFree _ h hs, cI_some, wc_bind]
        show _ = some (some (Value.int (bI (fre ρ s && decide (ρ s = ρ (2 ^ n - 1))))), ws S)
        cases fre ρ s with
        | false => rw [if_pos bI_F, Bool.false_and]; ((try dsimp only); try rfl)
        | true =>
          rw [if_neg bI_T, m_r _ h hs, cI_some, wc_bind, m_total _ h, cI_some, wc_bind, bI_if, Bool.true_and]
          simp only [nI_eq (show ρ s < 2 ^ 31 by omega) (show ρ (2 ^ n - 1) < 2 ^ 31 by omega)]
      · rw [if_neg (by decide), if_neg (by decide), if_pos (by decide), if_pos (bI_01 _)]
        ((try dsimp only); try rfl)
      · rw [if_neg (by decide), if_neg (by decide), if_neg (by decide), if_pos (by decide), m_spanOf _ h hs, cI_some, wc_bind, bI_if]
        simp only [hfl]
        ((try dsimp only); try rfl)
      · rw [if_neg (by decide), if_neg (by decide), if_neg (by decide), if_neg (by decide), m_spanOf _ h hs, cI_some, wc_bind]
        show _ = some (some (Value.int (bI (decide (ρ s + 1 = ρ (2 ^ n - 1)) && flt n ρ s))), ws S)
        unfold flt
        by_cases hc : spn n ρ s = s
        · rw [if_pos (hfl.mpr hc), m_r _ h hs, cI_some, wc_bind, m_total _ h, cI_some, wc_bind, bI_if, decide_eq_true hc, Bool.and_true]
          simp only [sub1I hl1 hl2]
        · rw [if_neg (fun c => hc (hfl.mp c)), decide_eq_false hc, Bool.and_false]
          ((try dsimp only); try rfl)
  rw [eX11_isOf_0, kO88, if_T, m_isFree _ h hs, cI_some, wc_bind]
  cases hf : fre ρ s with
  | true => rw [if_neg bI_T]; dsimp only; exact hgo false (by rw [hf]; rfl)
  | false => rw [if_pos bI_F]; dsimp only; exact hgo true (by rw [hf]; rfl)
/-- how many sets are so -/
def cnt (n : Nat) (P : Nat → Bool) : Nat := wc_cn (2 ^ n) P
theorem cnt_le {n : Nat} (P : Nat → Bool) (hn : n ≤ 7) : cnt n P ≤ 128 := Nat.le_trans (wc_cn_le _ _) (p2_le hn)
theorem p2_all {n e : Nat} (he : e < 2 ^ n) (hn : n ≤ 7) : ¬ nI (2 ^ n - 1) < nI e := nI_nlt (by omega) (by have := p2_le hn; omega)
theorem p2_end {n : Nat} (hn : n ≤ 7) : nI (2 ^ n - 1) < nI (2 ^ n) := nI_lt (p2_m1 n) (by have := p2_le hn; omega)
theorem c8_countOf (d : Nat) {S : am_S} {q n : Nat} {ρ : Nat → Nat} (h : VC S q n ρ) {w : Nat} (h1 : 1 ≤ w) (h5 : w ≤ 5) : am_cal am_mt (d + 5) jX8_countOf [.ref q, .int (nI w)] (ws S) = some (some (.int (nI (cnt n (srt n ρ w)))), ws S) := by
  have h7 := h.n7
  rw [eX8_countOf_0, h.O, if_T]
  refine loop_fd (fun e (a : Nat) => am_run false (am_cal am_mt (d + 4)) (am_lk tbX8_countOf) 4 [some (.ref q), some (.int (nI w)), some (.int (nI a)), some (.int (nI e))] [] (ws S)) (fun e a => if srt n ρ w e then a + 1 else a) (2 ^ n) 0 ?_ ?_
  · intro e a he
    show am_run _ _ _ _ _ _ _ = am_run _ _ _ _ _ _ _
    rw [eX8_countOf_4, c8_all _ h, cI_some, wc_bind, if_neg (p2_all he h7), c8_isOfSort _ h he h1 h5, cI_some, wc_bind, nI_1, nI_1]
    cases srt n ρ w e with
    | true => rw [if_neg bI_T]; ((try dsimp only); try rfl)
    | false => rw [if_pos bI_F]; ((try dsimp only); try rfl)
  · show am_run _ _ _ _ _ _ _ = _
    rw [eX8_countOf_4, c8_all _ h, cI_some, wc_bind, if_pos (p2_end h7)]
    ((try dsimp only); try rfl)
theorem m_countOf (d : Nat) {S : am_S} {v n : Nat} {ρ : Nat → Nat} (h : VM S v n ρ) {w : Nat} (h1 : 1 ≤ w) (h5 : w ≤ 5) : am_cal am_mt (d + 4) jX11_countOf [.ref 88, .int (nI v), .int (nI w)] (ws S) = some (some (.int (nI (cnt n (srt n ρ w)))), ws S) := by
  have h7 := h.n7
  rw [eX11_countOf_0, kO88, if_T]
  refine loop_fd (fun e (a : Nat) => am_run false (am_cal am_mt (d + 3)) (am_lk tbX11_countOf) 5 [some (.ref 88), some (.int (nI v)), some (.int (nI w)), some (.int (nI a)), some (.int (nI e))] [] (ws S)) (fun e a => if srt n ρ w e then a + 1 else a) (2 ^ n) 0 ?_ ?_
  · intro e a he
    show am_run _ _ _ _ _ _ _ = am_run _ _ _ _ _ _ _
    rw [eX11_countOf_5, m_all _ h, cI_some, wc_bind, if_neg (p2_all he h7), m_isOf _ h he h1 h5, cI_some, wc_bind, nI_1, nI_1, Int32.add_zero]
    cases srt n ρ w e with
    | true => rw [if_neg bI_T]; ((try dsimp only); try rfl)
    | false => rw [if_pos bI_F]; ((try dsimp only); try rfl)
  · show am_run _ _ _ _ _ _ _ = _
    rw [eX11_countOf_5, m_all _ h, cI_some, wc_bind, if_pos (p2_end h7)]
    ((try dsimp only); try rfl)
/-- number k of those that are so -/
def fndR (P : Nat → Bool) (k : Int32) : Nat → Nat → Nat → Int32
  | 0, _, _ => -1
  | m + 1, s, b => if P s then (if nI b = k then nI s else fndR P k m (s + 1) (b + 1)) else fndR P k m (s + 1) b
theorem c8_findNumber (d : Nat) {S : am_S} {q n : Nat} {ρ : Nat → Nat} (h : VC S q n ρ) {w : Nat} (h1 : 1 ≤ w) (h5 : w ≤ 5) (k : Int32) : am_cal am_mt (d + 5) jX8_findNumber [.ref q, .int (nI w), .int k] (ws S) = some (some (.int (fndR (srt n ρ w) k (2 ^ n) 0 0)), ws S) := by
  have h7 := h.n7
  rw [eX8_findNumber_0, h.O, if_T]
  have key : ∀ m s b, s + m = 2 ^ n → am_run false (am_cal am_mt (d + 4)) (am_lk tbX8_findNumber) 5 [some (.ref q), some (.int (nI w)), some (.int k), some (.int (nI b)), some (.int (nI s))] [] (ws S) = some (some (.int (fndR (srt n ρ w) k m s b)), ws S) := by
    intro m
    induction m with
    | zero =>
      intro s b hm
      have : s = 2 ^ n := by omega
      subst this
      rw [eX8_findNumber_5, c8_all _ h, cI_some, wc_bind, if_pos (p2_end h7)]
      ((try dsimp only); try rfl)
    | succ m ih =>
      intro s b hm
      have he : s < 2 ^ n := by omega
      rw [eX8_findNumber_5, c8_all _ h, cI_some, wc_bind, if_neg (p2_all he h7), c8_isOfSort _ h he h1 h5, cI_some, wc_bind, nI_1, nI_1]
      unfold fndR
      dsimp only
      rw [ih (s + 1) b (by omega), ih (s + 1) (b + 1) (by omega)]
      cases srt n ρ w s with
      | false => rw [if_pos bI_F, if_neg (by decide)]
      | true =>
        rw [if_neg bI_T, if_pos rfl]
        by_cases hk : nI b = k
        · rw [if_pos hk, if_pos hk]
        · rw [if_neg hk, if_neg hk]
  exact key (2 ^ n) 0 0 (by omega)
