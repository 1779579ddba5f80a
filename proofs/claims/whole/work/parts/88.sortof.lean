/-! ===== the excluded ones: their sort ===== -/
theorem sv_fold (n : Nat) (ρ : Nat → Nat) (b : Bool) : ∀ k, wc_fd k (fun s (z : Bool × Nat) => (z.1 && (!(pc s == 2) || fre ρ s), if ((pc s == 3) && cir n ρ s) then z.2 + 1 else z.2)) (b, 0) = (b && wc_al k (fun s => !(pc s == 2) || fre ρ s), wc_cn k (fun s => (pc s == 3) && cir n ρ s)) := by
  intro k
  induction k with
  | zero => rw [wc_fd_0]; cases b <;> rfl
  | succ k ih => rw [wc_fd_s, ih, wc_al_s, wc_cn_s, Bool.and_assoc]
theorem m_isSevens (d : Nat) {S : am_S} {n : Nat} {ρ : Nat → Nat} (h : VM S 12 n ρ) : am_cal am_mt (d + 4) jX11_isSevens [.ref 88] (ws S) = some (some (.int (bI (svm n ρ))), ws S) := by
  have hn := h.n7
  have l0 := h.le (p2_m1 n)
  have h27 := p2_le hn
  have last : ∀ (b : Bool) (x2 : Int32), am_run true (am_cal am_mt (d + 3)) (am_lk tbX11_isSevens) 121 [some (.ref 88), some (.int (bI b)), some (.int x2), some (.int (nI 0))] [] (ws S) = some (some (.int (bI (b && wc_al (2 ^ n) (fun s => !(pc s == 2) || (pc (spn n ρ s) == 3))))), ws S) := by
    intro b x2
    refine loop_fd (fun s (b : Bool) => am_run true (am_cal am_mt (d + 3)) (am_lk tbX11_isSevens) 121 [some (.ref 88), some (.int (bI b)), some (.int x2), some (.int (nI s))] [] (ws S)) (fun s b => b && (!(pc s == 2) || (pc (spn n ρ s) == 3))) (2 ^ n) b ?_ ?_
    · intro s b hs
      show am_run _ _ _ _ _ _ _ = am_run _ _ _ _ _ _ _
      have hs7 := p2_128 hn hs
      have hps := pc_le s
      have hsp7 := p2_128 hn (spn_le7 ρ hn hs)
      have hpp := pc_le (spn n ρ s)
      rw [eX11_isSevens_121, show (12 : Int32) = nI 12 from rfl, m_all _ h, cI_some, wc_bind, if_neg (p2_all hs hn), nI_1]
      dsimp only
      cases b with
      | false => rw [if_pos bI_F, Bool.false_and]; rfl
      | true =>
        rw [if_neg bI_T, m_bits _ hs7, cI_some, wc_bind, Bool.true_and, show (2 : Int32) = nI 2 from rfl]
        dsimp only
        by_cases hp : pc s = 2
        · rw [if_pos (congrArg nI hp), m_spanOf _ h hs, cI_some, wc_bind]
          dsimp only
          rw [m_bits _ hsp7, cI_some, wc_bind, show (3 : Int32) = nI 3 from rfl]
          dsimp only
          by_cases hq : pc (spn n ρ s) = 3
          · rw [if_pos (congrArg nI hq), hp, hq]; rfl
          · rw [if_neg (fun z => hq ((nI_eq (by omega) (by omega)).mp z)), hp, show (pc (spn n ρ s) == 3) = false from beq_eq_false_iff_ne.mpr hq]; rfl
        · rw [if_neg (fun z => hp ((nI_eq (by omega) (by omega)).mp z)), show (pc s == 2) = false from beq_eq_false_iff_ne.mpr hp]
          rfl
    · show am_run _ _ _ _ _ _ _ = _
      rw [eX11_isSevens_121, show (12 : Int32) = nI 12 from rfl, m_all _ h, cI_some, wc_bind, if_pos (p2_end hn), if_pos (bI_01 _), al_step]
  have loop : ∀ b : Bool, am_run true (am_cal am_mt (d + 3)) (am_lk tbX11_isSevens) 32 [some (.ref 88), some (.int (bI b)), some (.int (nI 0)), some (.int (nI 0))] [] (ws S) = some (some (.int (bI (((b && wc_al (2 ^ n) (fun s => !(pc s == 2) || fre ρ s)) && decide (wc_cn (2 ^ n) (fun s => (pc s == 3) && cir n ρ s) = 7)) && wc_al (2 ^ n) (fun s => !(pc s == 2) || (pc (spn n ρ s) == 3))))), ws S) := by
    intro b
    refine loop_fd (fun s (z : Bool × Nat) => am_run true (am_cal am_mt (d + 3)) (am_lk tbX11_isSevens) 32 [some (.ref 88), some (.int (bI z.1)), some (.int (nI z.2)), some (.int (nI s))] [] (ws S)) (fun s z => (z.1 && (!(pc s == 2) || fre ρ s), if ((pc s == 3) && cir n ρ s) then z.2 + 1 else z.2)) (2 ^ n) (b, 0) ?_ ?_
    · intro s ⟨b, t⟩ hs
      show am_run _ _ _ _ _ _ _ = am_run _ _ _ _ _ _ _
      have hs7 := p2_128 hn hs
      have hps := pc_le s
      dsimp only
      have h69 : ∀ c : Bool, am_run true (am_cal am_mt (d + 3)) (am_lk tbX11_isSevens) 69 [some (.ref 88), some (.int (bI b)), some (.int (nI t)), some (.int (nI s))] [.int (bI c)] (ws S) = am_run true (am_cal am_mt (d + 3)) (am_lk tbX11_isSevens) 32 [some (.ref 88), some (.int (bI c)), some (.int (nI (if ((pc s == 3) && cir n ρ s) then t + 1 else t))), some (.int (nI (s + 1)))] [] (ws S) := by
        intro c
        rw [eX11_isSevens_69, m_bits _ hs7, cI_some, wc_bind, nI_1, show (3 : Int32) = nI 3 from rfl]
        dsimp only
        by_cases hp : pc s = 3
        · rw [if_pos (congrArg nI hp), show (12 : Int32) = nI 12 from rfl, m_isOf _ h hs (by decide) (by decide), cI_some, wc_bind, hp, beq_self_eq_true, Bool.true_and, show srt n ρ 3 s = cir n ρ s from rfl]
          dsimp only
          cases cir n ρ s with
          | true => rw [if_neg bI_T, if_pos rfl, nI_1]
          | false => rw [if_pos bI_F, if_neg Bool.false_ne_true, show (0 : Int32) = nI 0 from rfl, show nI t + nI 0 = nI t from nI_add t 0]
        · rw [if_neg (fun z => hp ((nI_eq (by omega) (by omega)).mp z)), show (pc s == 3) = false from beq_eq_false_iff_ne.mpr hp, Bool.false_and, if_neg Bool.false_ne_true, show (0 : Int32) = nI 0 from rfl, show nI t + nI 0 = nI t from nI_add t 0]
      rw [eX11_isSevens_32, show (12 : Int32) = nI 12 from rfl, m_all _ h, cI_some, wc_bind, if_neg (p2_all hs hn)]
      dsimp only
      cases b with
      | false => rw [if_pos bI_F, eX11_isSevens_68, Bool.false_and]; exact h69 false
      | true =>
        rw [if_neg bI_T, m_bits _ hs7, cI_some, wc_bind, Bool.true_and, show (2 : Int32) = nI 2 from rfl]
        dsimp only
        by_cases hp : pc s = 2
        · rw [if_pos (congrArg nI hp), m_isFree _ h hs, cI_some, wc_bind, show (pc s == 2) = true from beq_iff_eq.mpr hp, Bool.not_true, Bool.false_or]
          dsimp only
          cases fre ρ s with
          | true => rw [if_neg bI_T, eX11_isSevens_64]; exact h69 true
          | false => rw [if_pos bI_F, eX11_isSevens_68]; exact h69 false
        · rw [if_neg (fun z => hp ((nI_eq (by omega) (by omega)).mp z)), show (pc s == 2) = false from beq_eq_false_iff_ne.mpr hp, eX11_isSevens_64]
          exact h69 true
    · show am_run _ _ _ _ _ _ _ = _
      rw [sv_fold]
      dsimp only
      have hcn : wc_cn (2 ^ n) (fun s => (pc s == 3) && cir n ρ s) ≤ 2 ^ n := wc_cn_le _ _
      rw [eX11_isSevens_32, show (12 : Int32) = nI 12 from rfl, m_all _ h, cI_some, wc_bind, if_pos (p2_end hn)]
      dsimp only
      cases hb : (b && wc_al (2 ^ n) (fun s => !(pc s == 2) || fre ρ s)) with
      | false =>
        rw [if_pos bI_F, Bool.false_and, show (0 : Int32) = nI 0 from rfl]
        exact last false _
      | true =>
        rw [if_neg bI_T, Bool.true_and, show (7 : Int32) = nI 7 from rfl]
        by_cases h7 : wc_cn (2 ^ n) (fun s => (pc s == 3) && cir n ρ s) = 7
        · rw [if_pos (congrArg nI h7), decide_eq_true h7, show (0 : Int32) = nI 0 from rfl]
          exact last true _
        · rw [if_neg (fun z => h7 ((nI_eq (by omega) (by omega)).mp z)), decide_eq_false h7, show (0 : Int32) = nI 0 from rfl]
          exact last false _
  rw [eX11_isSevens_0, kO88, if_T, kR88_2, wc_bind, show (12 : Int32) = nI 12 from rfl, h.aI, wc_bind, show (0 : Int32) = nI 0 from rfl, show (7 : Int32) = nI 7 from rfl, show (3 : Int32) = nI 3 from rfl]
  unfold svm
  by_cases hnk : n = 7
  · rw [if_pos (congrArg nI hnk), m_total _ h, cI_some, wc_bind]
    dsimp only
    by_cases hrr : ρ (2 ^ n - 1) = 3
    · rw [if_pos (congrArg nI hrr), decide_eq_true ⟨hnk, hrr⟩]
      exact loop true
    · rw [if_neg (fun z => hrr ((nI_eq (by omega) (by omega)).mp z)), decide_eq_false (fun z => hrr z.2)]
      exact loop false
  · rw [if_neg (fun z => hnk ((nI_eq (by omega) (by omega)).mp z)), decide_eq_false (fun z => hnk z.1)]
    exact loop false
/-! sorts -/
def st2 (n : Nat) (ρ : Nat → Nat) : Int32 := if uf n ρ 4 2 = true then 0 else -1
def st3 (n : Nat) (ρ : Nat → Nat) : Int32 := if uf n ρ 5 2 = true then 1 else if uf n ρ 5 3 = true then 2 else if sv n ρ = true then 3 else if sv n (dl n ρ) = true then 4 else -1
theorem c1_two (d : Nat) {S : am_S} {n : Nat} {ρ : Nat → Nat} (h : VC S 44 n ρ) : am_cal am_mt (d + 4) jX1_sortForTwo [.ref 43] (ws S) = some (some (.int (st2 n ρ)), ws S) := by
  rw [eX1_sortForTwo_0, kO43, if_T, kR43_0, wc_bind, show (4 : Int32) = nI 4 from rfl, show (2 : Int32) = nI 2 from rfl, c8_isUniform _ h (by decide) (by decide), cI_some, wc_bind]
  unfold st2
  cases uf n ρ 4 2 with
  | true => rw [if_neg bI_T, if_pos rfl]
  | false => rw [if_pos bI_F, if_neg Bool.false_ne_true]
theorem c1_three (d : Nat) {S : am_S} {n : Nat} {ρ : Nat → Nat} (hm : mat n ρ) (h : VC S 44 n ρ) : ∃ S', am_cal am_mt (d + 5) jX1_sortForThree [.ref 43] (ws S) = some (some (.int (st3 n ρ)), ws S') ∧ Cr 46 47 S S' := by
  obtain ⟨S1, a1, a2, a3⟩ := c8_dual (d + 1) vq_46 hm h (by omega)
  rw [eX1_sortForThree_0, kO43, if_T, kR43_0, wc_bind, show (5 : Int32) = nI 5 from rfl, show (.int (2 : Int32) : Value) = .int (nI 2) from rfl, show (.int (3 : Int32) : Value) = .int (nI 3) from rfl, c8_isUniform _ h (by decide) (by decide), cI_some, wc_bind]
  dsimp only
  unfold st3
  cases uf n ρ 5 2 with
  | true => rw [if_neg bI_T, if_pos rfl]; exact ⟨S, rfl, Cr.rf⟩
  | false =>
    rw [if_pos bI_F, if_neg Bool.false_ne_true, kR43_0, wc_bind, c8_isUniform _ h (by decide) (by decide), cI_some, wc_bind]
    dsimp only
    cases uf n ρ 5 3 with
    | true => rw [if_neg bI_T, if_pos rfl]; exact ⟨S, rfl, Cr.rf⟩
    | false =>
      rw [if_pos bI_F, if_neg Bool.false_ne_true, kR43_0, wc_bind, c8_seven _ h, cI_some, wc_bind]
      dsimp only
      cases sv n ρ with
      | true => rw [if_neg bI_T, if_pos rfl]; exact ⟨S, rfl, Cr.rf⟩
      | false =>
        rw [if_pos bI_F, if_neg Bool.false_ne_true, kR43_1, wc_bind, kR43_0, wc_bind, a1, cV_some, wc_bind, kR43_1, wc_bind, c8_seven _ a3, cI_some, wc_bind]
        dsimp only
        cases sv n (dl n ρ) with
        | true => rw [if_neg bI_T, if_pos rfl]; exact ⟨S1, rfl, a2⟩
        | false => rw [if_pos bI_F, if_neg Bool.false_ne_true]; exact ⟨S1, rfl, a2⟩
theorem m_sort2 (d : Nat) {S : am_S} {n : Nat} {ρ : Nat → Nat} (h : VM S 12 n ρ) : am_cal am_mt (d + 4) jX11_sortOf [.ref 88, .int (nI 0)] (ws S) = some (some (.int (st2 n ρ)), ws S) := by
  rw [eX11_sortOf_0, kO88, if_T, if_pos nI_0, show (4 : Int32) = nI 4 from rfl, show (2 : Int32) = nI 2 from rfl, m_isAll _ h (by decide) (by decide), cI_some, wc_bind]
  unfold st2
  cases uf n ρ 4 2 with
  | true => rw [if_neg bI_T, if_pos rfl]
  | false => rw [if_pos bI_F, if_neg Bool.false_ne_true]
theorem sv_n7 {n : Nat} (ρ : Nat → Nat) (h : n ≠ 7) : sv n ρ = false := by
  unfold sv
  rw [decide_eq_false (fun z => h z.1), Bool.false_and]
theorem m_sort3 (d : Nat) {S : am_S} {n : Nat} {ρ : Nat → Nat} (hm : mat n ρ) (h : VM S 12 n ρ) : ∃ S', am_cal am_mt (d + 5) jX11_sortOf [.ref 88, .int (nI 1)] (ws S) = some (some (.int (st3 n ρ)), ws S') ∧ Mw 12 S S' := by
  have hn := h.n7
  obtain ⟨S1, a1, a2, a3⟩ := m_duals (d + 1) hm h (by decide) (show 12 < 13 by decide)
  rw [eX11_sortOf_0, kO88, if_T, if_neg (show ¬ nI 1 = 0 by decide), show (5 : Int32) = nI 5 from rfl, show (.int (2 : Int32) : Value) = .int (nI 2) from rfl, show (.int (3 : Int32) : Value) = .int (nI 3) from rfl, m_isAll _ h (by decide) (by decide), cI_some, wc_bind]
  dsimp only
  unfold st3
  cases uf n ρ 5 2 with
  | true => rw [if_neg bI_T, if_pos rfl]; exact ⟨S, rfl, Mw.rf⟩
  | false =>
    rw [if_pos bI_F, if_neg Bool.false_ne_true, m_isAll _ h (by decide) (by decide), cI_some, wc_bind]
    dsimp only
    cases uf n ρ 5 3 with
    | true => rw [if_neg bI_T, if_pos rfl]; exact ⟨S, rfl, Mw.rf⟩
    | false =>
      rw [if_pos bI_F, if_neg Bool.false_ne_true, kR88_2, wc_bind, show (12 : Int32) = nI 12 from rfl, h.aI, wc_bind, show (7 : Int32) = nI 7 from rfl]
      by_cases h7 : n = 7
      · rw [if_pos (nI_le (by omega) (by omega)), m_isSevens _ h, cI_some, wc_bind, ← sv_eq hm]
        dsimp only
        cases sv n ρ with
        | true => rw [if_neg bI_T, if_pos rfl]; exact ⟨S, rfl, Mw.rf⟩
        | false =>
          rw [if_pos bI_F, if_neg Bool.false_ne_true, a1, cV_some, wc_bind, m_isSevens _ a3, cI_some, wc_bind, ← sv_eq (mat_dl hm hn)]
          dsimp only
          cases sv n (dl n ρ) with
          | true => rw [if_neg bI_T, if_pos rfl]; exact ⟨S1, rfl, a2⟩
          | false => rw [if_pos bI_F, if_neg Bool.false_ne_true]; exact ⟨S1, rfl, a2⟩
      · rw [if_neg (nI_ge (by omega) (by omega)), sv_n7 ρ h7, sv_n7 _ h7, if_neg Bool.false_ne_true, if_neg Bool.false_ne_true]
        exact ⟨S, rfl, Mw.rf⟩
