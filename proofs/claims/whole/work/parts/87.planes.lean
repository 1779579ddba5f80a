/-! ===== the excluded ones: asked ===== -/
theorem c8_isUniform (d : Nat) {S : am_S} {q n k r : Nat} {ρ : Nat → Nat} (h : VC S q n ρ) (hk : k ≤ 7) (hr : r ≤ 7) : am_cal am_mt (d + 3) jX8_isUniform [.ref q, .int (nI k), .int (nI r)] (ws S) = some (some (.int (bI (uf n ρ k r))), ws S) := by
  have hn := h.n7
  have l0 := h.le (p2_m1 n)
  have h27 := p2_le hn
  rw [eX8_isUniform_0, h.O, if_T, h.fI, wc_bind]
  unfold uf
  by_cases hnk : n = k
  · rw [if_pos (congrArg nI hnk), c8_fullRank _ h, cI_some, wc_bind]
    by_cases hrr : ρ (2 ^ n - 1) = r
    · rw [if_pos (congrArg nI hrr), decide_eq_true ⟨hnk, hrr⟩, Bool.true_and]
      dsimp only
      apply wp_pure
      refine loop_wp (fun s (_ : Unit) => am_run true (am_cal am_mt (d + 2)) (am_lk tbX8_isUniform) 20 [some (.ref q), some (.int (nI k)), some (.int (nI r)), some (.int (nI s))] [] (ws S)) (fun s _ => ∀ j, j < s → (!(pc j == r) || fre ρ j) = true) _ (2 ^ n) ?_ ?_ 0 () (Nat.zero_le _) (fun j hj => absurd hj (Nat.not_lt_zero j))
      · intro s _ hs hI K
        show wp (am_run _ _ _ _ _ _ _) _
        have hs7 := p2_128 hn hs
        have hps := pc_le s
        have K2 : (!(pc s == r) || fre ρ s) = true → wp (am_run true (am_cal am_mt (d + 2)) (am_lk tbX8_isUniform) 20 [some (.ref q), some (.int (nI k)), some (.int (nI r)), some (.int (nI (s + 1)))] [] (ws S)) _ := fun g => K () (fun j hj => by
          by_cases hjs : j = s
          · rw [hjs]; exact g
          · exact hI j (by omega))
        rw [eX8_isUniform_20, c8_all _ h, cI_some, wc_bind, if_neg (p2_all hs hn), J_bits _ hs7, cI_some, wc_bind, nI_1]
        dsimp only
        by_cases hp : pc s = r
        · rw [if_pos (congrArg nI hp), c8_isFree _ h hs, cI_some, wc_bind]
          cases hf : fre ρ s with
          | true => rw [if_neg bI_T]; dsimp only; exact K2 (by rw [hf, Bool.or_true])
          | false =>
            have : wc_al (2 ^ n) (fun s => !(pc s == r) || fre ρ s) = false := (wc_al_false _ _).mpr ⟨s, hs, by rw [hf, hp, beq_self_eq_true]; rfl⟩
            rw [if_pos bI_F, this]
            dsimp only
            exact wp_ret ⟨rfl, rfl⟩
        · rw [if_neg (fun z => hp ((nI_eq (by omega) (by omega)).mp z))]
          exact K2 (by rw [show (pc s == r) = false from beq_eq_false_iff_ne.mpr hp]; rfl)
      · intro _ hI
        show wp (am_run _ _ _ _ _ _ _) _
        rw [eX8_isUniform_20, c8_all _ h, cI_some, wc_bind, if_pos (p2_end hn), (wc_al_iff _ _).mpr hI]
        dsimp only
        exact wp_ret ⟨rfl, rfl⟩
    · rw [if_neg (fun z => hrr ((nI_eq (by omega) (by omega)).mp z)), decide_eq_false (fun z => hrr z.2), Bool.false_and]
      dsimp only
      rfl
  · rw [if_neg (fun z => hnk ((nI_eq (by omega) (by omega)).mp z)), decide_eq_false (fun z => hnk z.1), Bool.false_and]
    rfl
theorem c8_lines (d : Nat) {S : am_S} {q n s : Nat} {ρ : Nat → Nat} (h : VC S q n ρ) (hs : s < 2 ^ n) : am_cal am_mt (d + 3) jX8_linesThrough [.ref q, .int (nI s)] (ws S) = some (some (.int (nI (lns n ρ s))), ws S) := by
  have hn := h.n7
  have hs7 := p2_128 hn hs
  rw [eX8_linesThrough_0, h.O, if_T]
  refine loop_fd (fun e a => am_run false (am_cal am_mt (d + 2)) (am_lk tbX8_linesThrough) 4 [some (.ref q), some (.int (nI s)), some (.int (nI a)), some (.int (nI e))] [] (ws S)) (fun e a => if (!s.testBit e && !fre ρ (s ||| 2 ^ e)) then a + 1 else a) n 0 ?_ ?_
  · intro e a he
    show am_run _ _ _ _ _ _ _ = am_run _ _ _ _ _ _ _
    rw [eX8_linesThrough_4, h.fI, wc_bind, if_neg (nI_ge he (by omega)), wc_bit (show s < 2 ^ 31 by omega) (show e < 32 by omega), nI_1, nI_1]
    cases s.testBit e with
    | true => rw [if_neg bI_T, Bool.not_true, Bool.false_and, if_neg Bool.false_ne_true]
    | false =>
      rw [if_pos bI_F, wc_1shl (show e < 32 by omega), wc_or, c8_isFree _ h (p2_or hs he), cI_some, wc_bind, Bool.not_false, Bool.true_and]
      cases fre ρ (s ||| 2 ^ e) with
      | true => rw [if_neg bI_T, Bool.not_true, if_neg Bool.false_ne_true]
      | false => rw [if_pos bI_F, Bool.not_false, if_pos rfl]
  · show am_run _ _ _ _ _ _ _ = _
    rw [eX8_linesThrough_4, h.fI, wc_bind, if_pos (nI_le (Nat.le_refl _) (by omega))]
    rfl
theorem c8_seven (d : Nat) {S : am_S} {q n : Nat} {ρ : Nat → Nat} (h : VC S q n ρ) : am_cal am_mt (d + 4) jX8_isSevenPointPlane [.ref q] (ws S) = some (some (.int (bI (sv n ρ))), ws S) := by
  have hn := h.n7
  have l0 := h.le (p2_m1 n)
  have h27 := p2_le hn
  rw [eX8_isSevenPointPlane_0, h.O, if_T, h.fI, wc_bind, show (7 : Int32) = nI 7 from rfl]
  unfold sv
  by_cases hnk : n = 7
  · rw [if_pos (congrArg nI hnk), c8_fullRank _ h, cI_some, wc_bind, show (3 : Int32) = nI 3 from rfl]
    by_cases hrr : ρ (2 ^ n - 1) = 3
    · rw [if_pos (congrArg nI hrr), decide_eq_true ⟨hnk, hrr⟩, Bool.true_and]
      dsimp only
      apply wp_pure
      refine loop_wp (fun s (_ : Unit) => am_run true (am_cal am_mt (d + 3)) (am_lk tbX8_isSevenPointPlane) 21 [some (.ref q), some (.int (nI s))] [] (ws S)) (fun s _ => ∀ j, j < s → (!(pc j == 2) || (fre ρ j && (lns n ρ j == 1))) = true) _ (2 ^ n) ?_ ?_ 0 () (Nat.zero_le _) (fun j hj => absurd hj (Nat.not_lt_zero j))
      · intro s _ hs hI K
        show wp (am_run _ _ _ _ _ _ _) _
        have hs7 := p2_128 hn hs
        have hps := pc_le s
        have hl : lns n ρ s ≤ n := wc_cn_le _ _
        have K2 : (!(pc s == 2) || (fre ρ s && (lns n ρ s == 1))) = true → wp (am_run true (am_cal am_mt (d + 3)) (am_lk tbX8_isSevenPointPlane) 21 [some (.ref q), some (.int (nI (s + 1)))] [] (ws S)) _ := fun g => K () (fun j hj => by
          by_cases hjs : j = s
          · rw [hjs]; exact g
          · exact hI j (by omega))
        have hbad : (!(pc s == 2) || (fre ρ s && (lns n ρ s == 1))) = false → wc_al (2 ^ n) (fun s => !(pc s == 2) || (fre ρ s && (lns n ρ s == 1))) = false := fun g => (wc_al_false _ _).mpr ⟨s, hs, g⟩
        rw [eX8_isSevenPointPlane_21, c8_all _ h, cI_some, wc_bind, if_neg (p2_all hs hn), J_bits _ hs7, cI_some, wc_bind, nI_1, show (2 : Int32) = nI 2 from rfl]
        dsimp only
        by_cases hp : pc s = 2
        · rw [if_pos (congrArg nI hp), c8_isFree _ h hs, cI_some, wc_bind]
          cases hf : fre ρ s with
          | true =>
            rw [if_neg bI_T]
            dsimp only
            rw [c8_lines _ h hs, cI_some, wc_bind]
            dsimp only
            by_cases hl1 : lns n ρ s = 1
            · rw [if_pos (by rw [hl1]; rfl)]
              exact K2 (by rw [hf, hl1, hp]; rfl)
            · rw [if_neg (show ¬ nI (lns n ρ s) = (1 : Int32) from fun z => hl1 ((nI_eq (b := 1) (by omega) (by decide)).mp z)), hbad (by rw [hf, hp, show (lns n ρ s == 1) = false from beq_eq_false_iff_ne.mpr hl1]; rfl)]
              exact wp_ret ⟨rfl, rfl⟩
          | false =>
            rw [if_pos bI_F, hbad (by rw [hf, hp]; rfl)]
            dsimp only
            exact wp_ret ⟨rfl, rfl⟩
        · rw [if_neg (fun z => hp ((nI_eq (by omega) (by omega)).mp z))]
          exact K2 (by rw [show (pc s == 2) = false from beq_eq_false_iff_ne.mpr hp]; rfl)
      · intro _ hI
        show wp (am_run _ _ _ _ _ _ _) _
        rw [eX8_isSevenPointPlane_21, c8_all _ h, cI_some, wc_bind, if_pos (p2_end hn), (wc_al_iff _ _).mpr hI]
        dsimp only
        exact wp_ret ⟨rfl, rfl⟩
    · rw [if_neg (fun z => hrr ((nI_eq (by omega) (by omega)).mp z)), decide_eq_false (fun z => hrr z.2), Bool.false_and]
      dsimp only
      rfl
  · rw [if_neg (fun z => hnk ((nI_eq (by omega) (by omega)).mp z)), decide_eq_false (fun z => hnk z.1), Bool.false_and]
    rfl
theorem bI_ite (b : Bool) {β : Type} (x y : β) : (if bI b = 0 then x else y) = if b = true then y else x := by
  cases b with
  | true => rw [if_neg bI_T, if_pos rfl]
  | false => rw [if_pos bI_F, if_neg Bool.false_ne_true]
/-! the reference -/
theorem m_isAll (d : Nat) {S : am_S} {n k r : Nat} {ρ : Nat → Nat} (h : VM S 12 n ρ) (hk : k ≤ 7) (hr : r ≤ 7) : am_cal am_mt (d + 3) jX11_isAll [.ref 88, .int (nI k), .int (nI r)] (ws S) = some (some (.int (bI (uf n ρ k r))), ws S) := by
  have hn := h.n7
  have l0 := h.le (p2_m1 n)
  have h27 := p2_le hn
  have loop : ∀ b : Bool, am_run true (am_cal am_mt (d + 2)) (am_lk tbX11_isAll) 30 [some (.ref 88), some (.int (nI k)), some (.int (nI r)), some (.int (bI b)), some (.int (nI 0))] [] (ws S) = some (some (.int (bI (b && wc_al (2 ^ n) (fun s => !(pc s == r) || fre ρ s)))), ws S) := by
    intro b
    refine loop_fd (fun s (b : Bool) => am_run true (am_cal am_mt (d + 2)) (am_lk tbX11_isAll) 30 [some (.ref 88), some (.int (nI k)), some (.int (nI r)), some (.int (bI b)), some (.int (nI s))] [] (ws S)) (fun s b => b && (!(pc s == r) || fre ρ s)) (2 ^ n) b ?_ ?_
    · intro s b hs
      show am_run _ _ _ _ _ _ _ = am_run _ _ _ _ _ _ _
      have hs7 := p2_128 hn hs
      have hps := pc_le s
      rw [eX11_isAll_30, show (12 : Int32) = nI 12 from rfl, m_all _ h, cI_some, wc_bind, if_neg (p2_all hs hn), nI_1]
      dsimp only
      cases b with
      | false => rw [if_pos bI_F, Bool.false_and]; rfl
      | true =>
        rw [if_neg bI_T, m_bits _ hs7, cI_some, wc_bind, Bool.true_and]
        dsimp only
        by_cases hp : pc s = r
        · rw [if_pos (congrArg nI hp), m_isFree _ h hs, cI_some, wc_bind, hp, beq_self_eq_true, Bool.not_true, Bool.false_or]
          cases fre ρ s with
          | true => rw [if_neg bI_T]; dsimp only; rfl
          | false => rw [if_pos bI_F]; dsimp only; rfl
        · rw [if_neg (fun z => hp ((nI_eq (by omega) (by omega)).mp z)), show (pc s == r) = false from beq_eq_false_iff_ne.mpr hp]
          rfl
    · show am_run _ _ _ _ _ _ _ = _
      rw [eX11_isAll_30, show (12 : Int32) = nI 12 from rfl, m_all _ h, cI_some, wc_bind, if_pos (p2_end hn), if_pos (bI_01 _), al_step]
  rw [eX11_isAll_0, kO88, if_T, kR88_2, wc_bind, show (12 : Int32) = nI 12 from rfl, h.aI, wc_bind, show (0 : Int32) = nI 0 from rfl]
  unfold uf
  by_cases hnk : n = k
  · rw [if_pos (congrArg nI hnk), m_total _ h, cI_some, wc_bind]
    dsimp only
    by_cases hrr : ρ (2 ^ n - 1) = r
    · rw [if_pos (congrArg nI hrr), decide_eq_true ⟨hnk, hrr⟩]
      exact loop true
    · rw [if_neg (fun z => hrr ((nI_eq (by omega) (by omega)).mp z)), decide_eq_false (fun z => hrr z.2)]
      exact loop false
  · rw [if_neg (fun z => hnk ((nI_eq (by omega) (by omega)).mp z)), decide_eq_false (fun z => hnk z.1)]
    exact loop false
