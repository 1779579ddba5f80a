/-! ===== back, count ===== -/
def Kb (k : Nat) : Bool := (decide (1 ≤ k) && decide (k ≤ 4)) || k == 14 || k == 16
theorem Kb_v {v : Nat} (hv : v < 4) : Kb (1 + v) = true := by unfold Kb; rw [decide_eq_true (show 1 ≤ 1 + v by omega), decide_eq_true (show 1 + v ≤ 4 by omega)]; rfl
theorem VC_un {S S' : am_S} {q n n' : Nat} {ρ ρ' : Nat → Nat} {q' : Nat} (h1 : VC S q n ρ) (h2 : VC S q n' ρ') (h3 : VC S' q' n ρ) : VC S' q' n' ρ' := by
  have en : n = n' := (nI_eq (by have := h1.n7; omega) (by have := h2.n7; omega)).mp (h1.2.2.2.1.symm.trans h2.2.2.2.1)
  subst en
  exact ⟨h3.1, h3.2.1, h3.2.2.1, h3.2.2.2.1, fun s hs => ⟨by rw [(h3.2.2.2.2 s hs).1, ← (h1.2.2.2.2 s hs).1, (h2.2.2.2.2 s hs).1], h2.le hs⟩⟩
theorem VM_un {S S' : am_S} {q n n' : Nat} {ρ ρ' : Nat → Nat} {q' : Nat} (h1 : VM S q n ρ) (h2 : VM S q n' ρ') (h3 : VM S' q' n ρ) : VM S' q' n' ρ' := by
  have en : n = n' := (nI_eq (by have := h1.n7; omega) (by have := h2.n7; omega)).mp (h1.2.2.1.symm.trans h2.2.2.1)
  subst en
  exact ⟨h3.1, h3.2.1, h3.2.2.1, fun s hs => ⟨by rw [(h3.2.2.2 s hs).1, ← (h1.2.2.2 s hs).1, (h2.2.2.2 s hs).1], h2.le hs⟩⟩
theorem c_back (d : Nat) {S : am_S} (h0 : ¬ S 5 0 = 0) (hV : ∀ v, v < 4 → ∃ n ρ, VC S (7 + 2 * v) n ρ) : ∃ S1, am_cal am_mt (d + 3) jX10_back [.ref 0] (ws S) = some (some (.int (els S1)), ws S1) ∧ Fk Kb S S1 ∧ (∀ c, 67 < c → S1 c = S c) ∧ S1 0 11 = S 5 1 ∧ ∀ v, v < 4 → ∀ n ρ, VC S (7 + 2 * v) n ρ → VC S1 (60 + 2 * v) n ρ := by
  have key : wp (am_cal am_mt (d + 3) jX10_back [.ref 0] (ws S)) (fun o S1 => o = some (.int (els S1)) ∧ Fk Kb S S1 ∧ (∀ c, 67 < c → S1 c = S c) ∧ S1 0 11 = S 5 1 ∧ ∀ v, v < 4 → ∀ n ρ, VC S (7 + 2 * v) n ρ → VC S1 (60 + 2 * v) n ρ) := by
    rw [eX10_back_0, kO0, if_T, kR0_4, wc_bind, kI5_0, wc_bind, if_neg h0]
    refine loop_wp (fun e S' => am_run false (am_cal am_mt (d + 2)) (am_lk tbX10_back) 15 [some (.ref 0), some (.int (nI e))] [] (ws S')) (fun e S' => Cr 60 67 S S' ∧ Fk Kb S S' ∧ ∀ v, v < e → ∀ n ρ, VC S (7 + 2 * v) n ρ → VC S' (60 + 2 * v) n ρ) _ 4 ?_ ?_ 0 S (Nat.zero_le _) ⟨Cr.rf, Fk.rf, fun v hv => absurd hv (Nat.not_lt_zero v)⟩
    · intro e S' he hI K
      show wp (am_run _ _ _ _ _ _ _) _
      obtain ⟨n, ρ, hC⟩ := hV e he
      obtain ⟨Sa, a1, a2, a3⟩ := c8_become (d + 1) (vq_v he) (VC_Cr hC hI.1 (by omega)) (by omega) (by omega) (by omega)
      rw [eX10_back_15, if_neg (show ¬ (4 : Int32) ≤ nI e from nI_ge (b := 4) he (by decide)), kR0_1, wc_bind, kQv S' he, wc_bind, kR0_4, wc_bind, kR5_2, wc_bind, kQk S' he, wc_bind, a1, cV_some, wc_bind, nI_1]
      refine K _ ⟨hI.1.tr (a2.wk (by omega) (by omega)), hI.2.1.tr (Fk_Cr a2 (fun c i p q => by rw [comp_v he (by omega)]; exact Kb_v he)), fun v hv n' ρ' h' => ?_⟩
      by_cases hve : v = e
      · subst hve
        exact VC_un hC h' a3
      · exact VC_Cr (hI.2.2 v (by omega) n' ρ' h') a2 (by omega)
    · intro S' hI
      show wp (am_run _ _ _ _ _ _ _) _
      rw [eX10_back_15, if_pos (by decide), kR0_4, wc_bind, kI5_1, wc_bind, kS0_11, wc_bind, c_els, cI_some, wc_bind]
      dsimp only
      refine wp_ret ⟨rfl, Fk_up hI.2.1 (k := 14) _ rfl rfl, fun c hc => by rw [up_ne c (by omega), hI.1 c (by omega)], by rw [up_self, hI.1 5 (by decide)], fun v hv n ρ h => VC_Cr (hI.2.2 v hv n ρ h) (Cr_up Cr.rf (by decide) (by decide) : Cr 0 0 S' _) (by omega)⟩
  obtain ⟨o, S1, h1, rfl, h2⟩ := key
  exact ⟨S1, h1, h2⟩
/-- what back leaves of the reference -/
def Mb (S S' : am_S) : Prop := (∀ c, c ≠ 91 → c ≠ 92 → S' c = S c) ∧ (∀ i, 4 ≤ i → S' 91 i = S 91 i) ∧ ∀ i, 512 ≤ i → i < 1664 → S' 92 i = S 92 i
theorem VM_Mb {S S' : am_S} {v n : Nat} {ρ : Nat → Nat} (h : VM S v n ρ) (hi : Mb S S') (hv : 4 ≤ v) (hv2 : v < 13) : VM S' v n ρ :=
  ⟨h.1, h.2.1, by rw [hi.2.1 v hv]; exact h.2.2.1, fun s hs => by have := p2_128 h.2.1 hs; rw [hi.2.2 _ (by omega) (by omega)]; exact h.2.2.2 s hs⟩
theorem m_back (d : Nat) {S : am_S} {r : Int32} (h0 : ¬ S 88 21 = 0) (hV : ∀ v, v < 4 → ∃ n ρ, VM S (8 + v) n ρ ∧ VC S (60 + 2 * v) n ρ) (hr : r = els S) : ∃ S2, am_cal am_mt (d + 3) jX11_back [.ref 88] (ws S) = some (some (.int r), ws S2) ∧ (∀ c, c < 88 → S2 c = S c) ∧ Fk Kb S S2 ∧ S2 88 15 = S 88 22 ∧ ∀ v, v < 4 → ∀ n ρ, VM S (8 + v) n ρ → VM S2 v n ρ := by
  have key : wp (am_cal am_mt (d + 3) jX11_back [.ref 88] (ws S)) (fun o S2 => o = some (.int r) ∧ (∀ c, c < 88 → S2 c = S c) ∧ Fk Kb S S2 ∧ S2 88 15 = S 88 22 ∧ ∀ v, v < 4 → ∀ n ρ, VM S (8 + v) n ρ → VM S2 v n ρ) := by
    rw [eX11_back_0, kO88, if_T, kI88_21, wc_bind, if_neg h0]
    refine loop_wp (fun e S' => am_run false (am_cal am_mt (d + 2)) (am_lk tbX11_back) 12 [some (.ref 88), some (.int (nI e))] [] (ws S')) (fun e S' => Mb S S' ∧ Fk Kb S S' ∧ ∀ v, v < e → ∀ n ρ, VM S (8 + v) n ρ → VM S' v n ρ) _ 4 ?_ ?_ 0 S (Nat.zero_le _) ⟨⟨fun _ _ _ => rfl, fun _ _ => rfl, fun _ _ _ => rfl⟩, Fk.rf, fun v hv => absurd hv (Nat.not_lt_zero v)⟩
    · intro e S' he hI K
      show wp (am_run _ _ _ _ _ _ _) _
      obtain ⟨n, ρ, hM, _⟩ := hV e he
      obtain ⟨Sa, a1, a2, a3⟩ := m_copies (d + 1) (w := e) (VM_Mb hM hI.1 (by omega) (by omega)) (by omega) (by omega)
      rw [eX11_back_12, if_neg (show ¬ (4 : Int32) ≤ nI e from nI_ge (b := 4) he (by decide)), wc_8, a1, cV_some, wc_bind, nI_1]
      have h3 := Fk_Mw a2
      unfold rowc at h3
      rw [if_pos he] at h3
      refine K _ ⟨⟨fun c p q => (a2.1 c p q).trans (hI.1.1 c p q), fun i hi => (a2.2.1 i (by omega)).trans (hI.1.2.1 i hi), fun i hi hi2 => (a2.2.2 i (by omega) hi2).trans (hI.1.2.2 i hi hi2)⟩, hI.2.1.tr (h3.wk (fun k hk => K1_ne (fun c => by rw [c, Kb_v he] at hk; cases hk) (fun c => by rw [c] at hk; cases hk))), fun v hv n' ρ' h' => ?_⟩
      by_cases hve : v = e
      · subst hve
        exact VM_un hM h' a3
      · exact VM_Mw (hI.2.2 v (by omega) n' ρ' h') a2 (by omega) (by omega)
    · intro S' hI
      show wp (am_run _ _ _ _ _ _ _) _
      have hlo (c : Nat) (hc : c < 88) : up S' 88 15 (S' 88 22) c = S c := by rw [up_ne c (by omega), hI.1.1 c (by omega) (by omega)]
      rw [eX11_back_12, if_pos (by decide), kI88_22, wc_bind, kS88_15, wc_bind, m_els _ _ (fun v hv => by
        obtain ⟨n, ρ, hM, hC⟩ := hV v hv
        rw [hlo _ (by omega), up_ne 91 (by decide), (hI.2.2 v hv n ρ hM).2.2.1]; exact hC.2.2.2.1), cI_some, wc_bind]
      have hel : els (up S' 88 15 (S' 88 22)) = els S := by
        unfold els wc_fd
        simp only [wc_lp]
        rw [hlo (60 + 2 * 0) (by omega), hlo (60 + 2 * (0 + 1)) (by omega), hlo (60 + 2 * (0 + 1 + 1)) (by omega), hlo (60 + 2 * (0 + 1 + 1 + 1)) (by omega)]
      dsimp only
      refine wp_ret ⟨by rw [hel, hr], hlo, Fk_up hI.2.1 (k := 14) _ rfl rfl, ?_, fun v hv n ρ h => VM_Cr (hI.2.2 v hv n ρ h) (Cr_up Cr.rf (by decide) (by decide) : Cr 88 88 S' _) (by omega)⟩
      rw [up_self, hI.1.1 88 (by decide) (by decide)]
  obtain ⟨o, S1, h1, rfl, h2⟩ := key
  exact ⟨S1, h1, h2⟩
theorem pu_back : am_ag Inv jX10_back jX11_back 0 := ah_0 (fun d S hR => by
  rcases hR.2.2.1 with ⟨i1, i2⟩ | ⟨i1, i2, i3, i4⟩
  · refine ag3_p hR (-3) ?_ ?_
    · rw [eX10_back_0, kO0, if_T, kR0_4, wc_bind, kI5_0, wc_bind, if_pos i1]
    · rw [eX11_back_0, kO88, if_T, kI88_21, wc_bind, if_pos i2]
  · obtain ⟨S1, a1, a2, a3, a4, a5⟩ := c_back (d + 17) (S := S) (by rw [i1]; decide) (fun v hv => by obtain ⟨n, ρ, _, hC, _⟩ := i4 v hv; exact ⟨n, ρ, hC⟩)
    have hM1 : ∀ v, v < 14 → ∀ n ρ, VM S v n ρ → VM S1 v n ρ := fun v hv n ρ h => ⟨h.1, h.2.1, by rw [a3 91 (by decide)]; exact h.2.2.1, fun s hs => by rw [a3 92 (by decide)]; exact h.2.2.2 s hs⟩
    obtain ⟨S2, b1, b2, b3, b4, b5⟩ := m_back (d + 17) (S := S1) (r := els S1) (by rw [a3 88 (by decide), i2]; decide) (fun v hv => by
      obtain ⟨n, ρ, _, hC, hM⟩ := i4 v hv
      exact ⟨n, ρ, hM1 _ (by omega) n ρ hM, a5 v hv n ρ hC⟩) rfl
    refine ⟨els S1, S1, S2, a1, b1, R_of hR (a2.tr b3) (fun k hk hkb => ?_)⟩
    by_cases hk4 : 1 ≤ k ∧ k ≤ 4
    · obtain ⟨v, hv, rfl⟩ : ∃ v, v < 4 ∧ k = 1 + v := ⟨k - 1, by omega, by omega⟩
      rw [RC_v hv]
      obtain ⟨n, ρ, hm, hC, hM⟩ := i4 v hv
      have c1 := a5 v hv n ρ hC
      exact ⟨n, ρ, hm, ⟨c1.1, c1.2.1, c1.2.2.1, by rw [b2 _ (by omega)]; exact c1.2.2.2.1, fun s hs => by rw [b2 _ (by omega)]; exact c1.2.2.2.2 s hs⟩, b5 v hv n ρ (hM1 _ (by omega) n ρ hM)⟩
    · have hk14 : k = 14 := by
        unfold Kb at hkb
        rw [show (decide (1 ≤ k) && decide (k ≤ 4)) = false from by rw [Bool.and_eq_false_iff, decide_eq_false_iff_not, decide_eq_false_iff_not]; omega] at hkb
        simp at hkb
        omega
      subst hk14
      show S2 0 11 = S2 88 15
      rw [b2 0 (by decide), a4, b4, a3 88 (by decide)]
      exact i3)
/-! count -/
theorem hold_em (d : Nat) {S : am_S} {h : Nat} (hh : h < 4) (H : RH S h) : am_cal am_mt (d + 1) jX3_isEmpty [.ref (68 + 3 * h)] (ws S) = some (some (.int (bI (decide (S 102 h = 0)))), ws S) ∧ ((S 102 h ≤ 0) ↔ S 102 h = 0) := by
  rcases H with ⟨a1, a2, a3⟩ | ⟨k, hk, a1, a2, a3, a4⟩ | ⟨a1, a2, a3, n, ρ, hm, hC, hM⟩
  · rw [c3_emptyA d S hh a1 a2, a3]; exact ⟨rfl, by decide⟩
  · rw [c3_emptyB d S hh a1 (by omega), a3]; exact ⟨rfl, by decide⟩
  · rw [c3_emptyC d S hh a1 a2, a3]; exact ⟨rfl, by decide⟩
def fhl (S : am_S) (k : Nat) : Nat := wc_fd k (fun e a => if S 102 e = 0 then a else a + 1) 0
def sth (S : am_S) (k : Nat) : Nat := wc_fd k (fun e a => if S 104 e = -1 then a else a + 1) 0
theorem c_full (d : Nat) {S : am_S} (hR : R S) : am_cal am_mt (d + 2) jX10_fullHolds [.ref 0] (ws S) = some (some (.int (nI (fhl S 4))), ws S) := by
  rw [eX10_fullHolds_0, kO0, if_T]
  refine loop_fd (fun e (a : Nat) => am_run false (am_cal am_mt (d + 1)) (am_lk tbX10_fullHolds) 4 [some (.ref 0), some (.int (nI a)), some (.int (nI e))] [] (ws S)) (fun e a => if S 102 e = 0 then a else a + 1) 4 0 ?_ ?_
  · intro e a he
    show am_run _ _ _ _ _ _ _ = am_run _ _ _ _ _ _ _
    rw [eX10_fullHolds_4, if_neg (show ¬ (4 : Int32) ≤ nI e from nI_ge (b := 4) he (by decide)), kR0_2, wc_bind, kQh S he, wc_bind, (hold_em _ he (hR.2.2.2.1 e he)).1, cI_some, wc_bind, nI_1, nI_1, Int32.add_zero]
    by_cases hc : S 102 e = 0
    · rw [decide_eq_true hc, if_neg bI_T, if_pos hc]
    · rw [decide_eq_false hc, if_pos bI_F, if_neg hc]
  · show am_run _ _ _ _ _ _ _ = _
    rw [eX10_fullHolds_4, if_pos (by decide)]
    rfl
theorem c_there (d : Nat) {S : am_S} (hR : R S) : am_cal am_mt (d + 2) jX10_sheetsThere [.ref 0] (ws S) = some (some (.int (nI (sth S 4))), ws S) := by
  rw [eX10_sheetsThere_0, kO0, if_T]
  refine loop_fd (fun e (a : Nat) => am_run false (am_cal am_mt (d + 1)) (am_lk tbX10_sheetsThere) 4 [some (.ref 0), some (.int (nI a)), some (.int (nI e))] [] (ws S)) (fun e a => if S 104 e = -1 then a else a + 1) 4 0 ?_ ?_
  · intro e a he
    show am_run _ _ _ _ _ _ _ = am_run _ _ _ _ _ _ _
    rw [eX10_sheetsThere_4, if_neg (show ¬ (4 : Int32) ≤ nI e from nI_ge (b := 4) he (by decide)), kR0_3, wc_bind, kQs S he, wc_bind, c7_isMissing _ S he, cI_some, wc_bind, nI_1, nI_1, Int32.add_zero, (hR.2.2.2.2.1 e he).1]
    by_cases hc : S 104 e = -1
    · rw [decide_eq_true hc, if_neg bI_T, if_pos hc]
    · rw [decide_eq_false hc, if_pos bI_F, if_neg hc]
  · show am_run _ _ _ _ _ _ _ = _
    rw [eX10_sheetsThere_4, if_pos (by decide)]
    rfl
theorem m_count (d : Nat) {S : am_S} (hR : R S) (x : Int32) : am_cal am_mt (d + 2) jX11_count [.ref 88, .int x] (ws S) = some (some (.int (if x = 0 then els S else if x = 1 then S 88 15 else if x = 2 then nI (fhl S 4) else if x = 3 then nI (sth S 4) else -2)), ws S) := by
  rw [eX11_count_0, kO88, if_T]
  have key : ∀ k, k ≤ 4 → am_run false (am_cal am_mt (d + 1)) (am_lk tbX11_count) 7 [some (.ref 88), some (.int x), some (.int (0 : Int32)), some (.int (0 : Int32)), some (.int (0 : Int32))] [] (ws S) = am_run false (am_cal am_mt (d + 1)) (am_lk tbX11_count) 7 [some (.ref 88), some (.int x), some (.int (nI (fhl S k))), some (.int (nI (sth S k))), some (.int (nI k))] [] (ws S) := by
    intro k
    induction k with
    | zero => intro _; rfl
    | succ k ih =>
      intro hk
      have hk4 : k < 4 := by omega
      have e1 : fhl S (k + 1) = if S 102 k = 0 then fhl S k else fhl S k + 1 := wc_fd_s _ _ _
      have e2 : sth S (k + 1) = if S 104 k = -1 then sth S k else sth S k + 1 := wc_fd_s _ _ _
      rw [ih (by omega), eX11_count_7, if_neg (show ¬ (4 : Int32) ≤ nI k from nI_ge (b := 4) hk4 (by decide)), kR88_16, wc_bind, kA102 S hk4, wc_bind, eX11_count_29, eX11_count_29, kR88_18, wc_bind, kA104 S hk4, wc_bind, wc_bind, kA104 S hk4, wc_bind, nI_1, nI_1, nI_1, Int32.add_zero, Int32.add_zero, e1, e2]
      by_cases hc : S 102 k = 0
      · rw [if_pos ((hold_em d hk4 (hR.2.2.2.1 k hk4)).2.mpr hc), if_pos hc]
        by_cases hc2 : S 104 k = -1
        · rw [if_pos hc2, if_pos hc2]
        · rw [if_neg hc2, if_neg hc2]
      · rw [if_neg (fun c => hc ((hold_em d hk4 (hR.2.2.2.1 k hk4)).2.mp c)), if_neg hc]
        by_cases hc2 : S 104 k = -1
        · rw [if_pos hc2, if_pos hc2]
        · rw [if_neg hc2, if_neg hc2]
  rw [key 4 (Nat.le_refl 4), eX11_count_7, if_pos (by decide)]
  by_cases c0 : x = 0
  · rw [if_pos c0, if_pos c0, m_els _ _ (fun v hv => RV_n (hR.2.1 v hv)), cI_some, wc_bind]
  · rw [if_neg c0, if_neg c0]
    by_cases c1 : x = 1
    · rw [if_pos c1, if_pos c1, kI88_15, wc_bind]
    · rw [if_neg c1, if_neg c1]
      by_cases c2 : x = 2
      · rw [if_pos c2, if_pos c2]
      · rw [if_neg c2, if_neg c2]
        by_cases c3 : x = 3
        · rw [if_pos c3, if_pos c3]
        · rw [if_neg c3, if_neg c3]
theorem pu_count : am_ag Inv jX10_count jX11_count 1 := ah_1 (fun d S x hR => by
  refine ag3_p hR (if x = 0 then els S else if x = 1 then S 88 15 else if x = 2 then nI (fhl S 4) else if x = 3 then nI (sth S 4) else -2) ?_ (m_count _ hR x)
  rw [eX10_count_0, kO0, if_T]
  by_cases c0 : x = 0
  · rw [if_pos c0, if_pos c0, c_els, cI_some, wc_bind]
  · rw [if_neg c0, if_neg c0]
    by_cases c1 : x = 1
    · rw [if_pos c1, if_pos c1, kI0_11, wc_bind, hR.2.2.2.2.2.2]
    · rw [if_neg c1, if_neg c1]
      by_cases c2 : x = 2
      · rw [if_pos c2, if_pos c2, c_full _ hR, cI_some, wc_bind]
      · rw [if_neg c2, if_neg c2]
        by_cases c3 : x = 3
        · rw [if_pos c3, if_pos c3, c_there _ hR, cI_some, wc_bind]
        · rw [if_neg c3, if_neg c3])
