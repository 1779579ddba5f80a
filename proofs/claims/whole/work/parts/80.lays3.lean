/-! ===== the reference lays the pattern: whole ===== -/
theorem m_pattern (d : Nat) {S : am_S} {v n : Nat} {ρ : Nat → Nat} (hm : mat n ρ) (h : VM S v n ρ) : ∃ S', am_cal am_mt (d + 5) jX11_laysPattern [.ref 88, .int (nI v)] (ws S) = some (none, ws S') ∧ FPt S S' ∧ S' 88 13 = nI (pc (lb n ρ)) ∧ S' 88 14 = nI (fx n ρ (lb n ρ) 49) ∧ (∀ c, c < 49 → frp n ρ (lb n ρ) c = true → S' 100 (fx n ρ (lb n ρ) c) = nI c) ∧ ∀ x, x < 7 * n → S' 93 x = nI (pat1 n ρ (lb n ρ) x) := by
  have hn := h.n7
  obtain ⟨hb, hB, _⟩ := lb_ok hm hn
  obtain ⟨B, hBd⟩ : ∃ B, B = lb n ρ := ⟨_, rfl⟩
  have hfb := m_firstBase d hm h
  rw [← hBd] at hb hB hfb ⊢
  have hB7 := p2_128 hn hB
  have hpB := pc_le B
  rw [eX11_laysPattern_0, kO88, if_T, hfb, cI_some, wc_bind, kS88_13, wc_bind, show (0 : Int32) = nI 0 from rfl]
  -- the rows
  have rows : ∀ k, k ≤ n → ∃ S', am_run false (am_cal am_mt (d + 4)) (am_lk tbX11_laysPattern) 13 [some (.ref 88), some (.int (nI v)), some (.int (nI B)), some (.int (nI 0)), none, none] [] (ws (up S 88 13 (nI 0))) = am_run false (am_cal am_mt (d + 4)) (am_lk tbX11_laysPattern) 13 [some (.ref 88), some (.int (nI v)), some (.int (nI B)), some (.int (nI k)), none, none] [] (ws S') ∧ FPt S S' ∧ S' 88 13 = nI (pc (B % 2 ^ k)) ∧ ∀ j, j < pc (B % 2 ^ k) → S' 97 j = nI (elm B j) := by
    intro k
    induction k with
    | zero =>
      intro _
      have e0 : pc (B % 2 ^ 0) = 0 := by rw [Nat.pow_zero, Nat.mod_one]; decide
      exact ⟨_, rfl, FPt_up (by omega), by rw [up_self, e0], fun j hj => by rw [e0] at hj; exact absurd hj (Nat.not_lt_zero j)⟩
    | succ k ih =>
      intro hk
      obtain ⟨S1, a1, a2, a3, a4⟩ := ih (by omega)
      have hV1 := VM_FPt h a2
      have htk := pc_tk B k hB7 (by omega)
      cases hbk : B.testBit k with
      | false =>
        rw [hbk, if_neg Bool.false_ne_true] at htk
        refine ⟨S1, a1.trans ?_, a2, by rw [htk]; exact a3, fun j hj => a4 j (by rw [← htk]; exact hj)⟩
        rw [eX11_laysPattern_13, kR88_2, wc_bind, hV1.aI, wc_bind, if_neg (nI_ge (by omega) (by omega)), m_has _ (show B < 2 ^ 31 by omega) (show k < 32 by omega), cI_some, wc_bind, hbk, if_pos bI_F, nI_1]
      | true =>
        rw [hbk, if_pos rfl] at htk
        have hr := row_lt B hB7 k (by omega) hbk
        have hel := elm_at B hB7 k (by omega) hbk
        refine ⟨up (up S1 97 (pc (B % 2 ^ k)) (nI k)) 88 13 (nI (pc (B % 2 ^ k) + 1)), a1.trans ?_, (a2.tr (FPt_up (by omega))).tr (FPt_up (by omega)), by rw [up_self, htk], fun j hj => ?_⟩
        · rw [eX11_laysPattern_13, kR88_2, wc_bind, hV1.aI, wc_bind, if_neg (nI_ge (by omega) (by omega)), m_has _ (show B < 2 ^ 31 by omega) (show k < 32 by omega), cI_some, wc_bind, hbk, if_neg bI_T, kR88_8, wc_bind, kI88_13, wc_bind, a3]
          dsimp only
          rw [kW97 S1 (show pc (B % 2 ^ k) < 7 by omega), wc_bind, kI88_13, wc_bind, kS88_13, wc_bind, up_ne 88 (by decide), a3, nI_1, nI_1]
        · rw [up_ne 97 (by decide), up_upd]; unfold upd
          by_cases hjk : j = pc (B % 2 ^ k)
          · rw [if_pos hjk, hjk, hel]
          · rw [if_neg hjk]; exact a4 j (by omega)
  obtain ⟨S1, a1, a2, a3, a4⟩ := rows n (Nat.le_refl n)
  rw [Nat.mod_eq_of_lt hB] at a3 a4
  have hV1 := VM_FPt h a2
  rw [a1, eX11_laysPattern_13, kR88_2, wc_bind, hV1.aI, wc_bind, if_pos (Int32.le_refl _), show (0 : Int32) = nI 0 from rfl]
  -- the marks
  have marks : ∀ k, k ≤ 14 → ∃ S', am_run false (am_cal am_mt (d + 4)) (am_lk tbX11_laysPattern) 62 [some (.ref 88), some (.int (nI v)), some (.int (nI B)), some (.int (nI 0)), none, none] [] (ws S1) = am_run false (am_cal am_mt (d + 4)) (am_lk tbX11_laysPattern) 62 [some (.ref 88), some (.int (nI v)), some (.int (nI B)), some (.int (nI k)), none, none] [] (ws S') ∧ (∀ c, c ≠ 99 → S' c = S1 c) ∧ ∀ x, x < k → S' 99 x = nI x := by
    intro k
    induction k with
    | zero => intro _; exact ⟨S1, rfl, fun _ _ => rfl, fun x hx => absurd hx (Nat.not_lt_zero x)⟩
    | succ k ih =>
      intro hk
      obtain ⟨S2, b1, b2, b3⟩ := ih (by omega)
      refine ⟨up S2 99 k (nI k), b1.trans ?_, fun c hc => by rw [up_ne c hc]; exact b2 c hc, fun x hx => ?_⟩
      · rw [eX11_laysPattern_62, if_neg (show ¬ (14 : Int32) ≤ nI k from nI_ge (b := 14) (by omega) (by decide)), kR88_10, wc_bind, kW99 S2 (by omega), wc_bind, nI_1]
      · rw [up_upd]; unfold upd
        by_cases hxk : x = k
        · rw [if_pos hxk, hxk]
        · rw [if_neg hxk]; exact b3 x (by omega)
  obtain ⟨S2, b1, b2, b3⟩ := marks 14 (Nat.le_refl 14)
  rw [b1, eX11_laysPattern_62, if_pos (by decide), kS88_14, wc_bind, show (0 : Int32) = nI 0 from rfl]
  obtain ⟨S3, hS3⟩ : ∃ S3, S3 = up S2 88 14 (nI 0) := ⟨_, rfl⟩
  rw [← hS3]
  have f3 : FPt S S3 := by
    rw [hS3]
    exact (a2.tr ⟨fun c _ _ _ h4 _ => b2 c h4, fun i _ _ => by rw [b2 88 (by decide)]⟩).tr (FPt_up (by omega))
  have l0 : LM S3 n ρ B (7 * 0) := by
    refine ⟨⟨fun x => x, fun x hx => ?_, QM_0 n ρ B⟩, ?_, ?_, fun c' hc => absurd hc (Nat.not_lt_zero c'), fun j hj => ?_, fun x hx => absurd hx (Nat.not_lt_zero x)⟩
    · rw [hS3, up_ne 99 (by decide)]; exact b3 x hx
    · rw [hS3, up_upd]; unfold upd; rw [if_neg (by decide), b2 88 (by decide)]; exact a3
    · rw [hS3, up_self]; rfl
    · rw [hS3, up_ne 97 (by decide), b2 97 (by decide)]; exact a4 j hj
  -- the columns
  have cols : ∀ k, k ≤ n → ∃ S' y4 y5, am_run false (am_cal am_mt (d + 4)) (am_lk tbX11_laysPattern) 88 [some (.ref 88), some (.int (nI v)), some (.int (nI B)), some (.int (nI 0)), none, none] [] (ws S3) = am_run false (am_cal am_mt (d + 4)) (am_lk tbX11_laysPattern) 88 [some (.ref 88), some (.int (nI v)), some (.int (nI B)), some (.int (nI k)), y4, y5] [] (ws S') ∧ FPt S S' ∧ LM S' n ρ B (7 * k) := by
    intro k
    induction k with
    | zero => intro _; exact ⟨S3, none, none, rfl, f3, l0⟩
    | succ k ih =>
      intro hk
      obtain ⟨S4, y4, y5, c1, c2, c3⟩ := ih (by omega)
      have hV4 := VM_FPt h c2
      obtain ⟨S5, z4, z5, e1, e2, e3⟩ := lay_row (d + 1) (v := v) hn hB (show k < n by omega) 7 0 S4 y5 rfl hV4 c3
      refine ⟨S5, z4, z5, c1.trans ?_, c2.tr e2, by rw [Nat.mul_succ]; exact e3⟩
      rw [eX11_laysPattern_88, kR88_2, wc_bind, hV4.aI, wc_bind, if_neg (nI_ge (by omega) (by omega)), show (0 : Int32) = nI 0 from rfl]
      exact e1
  obtain ⟨S4, y4, y5, c1, c2, c3⟩ := cols n (Nat.le_refl n)
  have hV4 := VM_FPt h c2
  obtain ⟨_, h13, h14, h100, h97, h93⟩ := c3
  have hfr : ∀ x, 7 * n ≤ x → frp n ρ B x = false := fun x hx => by unfold frp; rw [plc_7n hx, Bool.false_and]
  have hfx : fx n ρ B 49 = fx n ρ B (7 * n) := cn_same (by omega) (fun x h1 _ => hfr x h1)
  refine ⟨S4, ?_, c2, h13, by rw [hfx]; exact h14, fun c' hc hf => ?_, h93⟩
  · rw [c1, eX11_laysPattern_88, kR88_2, wc_bind, hV4.aI, wc_bind, if_pos (Int32.le_refl _)]
  · by_cases hcn : c' < 7 * n
    · exact h100 c' hcn hf
    · rw [hfr c' (by omega)] at hf; cases hf
