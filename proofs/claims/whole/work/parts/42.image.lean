/-! ===== image, back, count ===== -/
theorem vq_v {v : Nat} (hv : v < 4) : vq (60 + 2 * v) := by
  rcases (show v = 0 ∨ v = 1 ∨ v = 2 ∨ v = 3 by omega) with rfl | rfl | rfl | rfl <;> exact ⟨rfl, rfl⟩
def els (S : am_S) : Int32 := wc_fd 4 (fun e a => a + S (60 + 2 * e) 0) 0
theorem c_els (d : Nat) (S : am_S) : am_cal am_mt (d + 1) jX10_elementsOfAll [.ref 0] (ws S) = some (some (.int (els S)), ws S) := by
  rw [eX10_elementsOfAll_0, kO0, if_T]
  refine loop_fd (fun e (a : Int32) => am_run false (am_cal am_mt d) (am_lk tbX10_elementsOfAll) 4 [some (.ref 0), some (.int a), some (.int (nI e))] [] (ws S)) (fun e a => a + S (60 + 2 * e) 0) 4 0 ?_ ?_
  · intro e a he
    show am_run _ _ _ _ _ _ _ = am_run _ _ _ _ _ _ _
    rw [eX10_elementsOfAll_4, if_neg (show ¬ (4 : Int32) ≤ nI e from nI_ge (b := 4) he (by decide)), kR0_1, wc_bind, kQv S he, wc_bind, (vq_v he).fI, wc_bind, nI_1]
  · show am_run _ _ _ _ _ _ _ = _
    rw [eX10_elementsOfAll_4, if_pos (by decide)]
    rfl
theorem m_els (d : Nat) (S : am_S) (h : ∀ v, v < 4 → S (60 + 2 * v) 0 = S 91 v) : am_cal am_mt (d + 1) jX11_elements [.ref 88] (ws S) = some (some (.int (els S)), ws S) := by
  rw [eX11_elements_0, kO88, if_T, kR88_2, wc_bind, show (0 : Int32) = nI 0 from rfl, kA91 S (by decide), wc_bind, wc_bind, show (1 : Int32) = nI 1 from rfl, kA91 S (by decide), wc_bind, wc_bind, show (2 : Int32) = nI 2 from rfl, kA91 S (by decide), wc_bind, wc_bind, show (3 : Int32) = nI 3 from rfl, kA91 S (by decide), wc_bind]
  have e : els S = 0 + S 60 0 + S 62 0 + S 64 0 + S 66 0 := rfl
  rw [e, Int32.zero_add, show S 60 0 = S 91 0 from h 0 (by decide), show S 62 0 = S 91 1 from h 1 (by decide), show S 64 0 = S 91 2 from h 2 (by decide), show S 66 0 = S 91 3 from h 3 (by decide)]
theorem RV_n {S : am_S} {q w : Nat} (h : RV S q w) : S q 0 = S 91 w := by
  obtain ⟨n, ρ, _, hC, hM⟩ := h
  rw [hC.2.2.2.1, hM.2.2.1]
theorem c_image (d : Nat) {S : am_S} (hR : R S) : ∃ S1, am_cal am_mt (d + 3) jX10_image [.ref 0] (ws S) = some (some (.int (els S)), ws S1) ∧ Cr 5 14 S S1 ∧ S1 5 0 = 1 ∧ S1 5 1 = S 0 11 ∧ ∀ v, v < 4 → ∀ n ρ, VC S (60 + 2 * v) n ρ → VC S1 (7 + 2 * v) n ρ := by
  have key : wp (am_cal am_mt (d + 3) jX10_image [.ref 0] (ws S)) (fun o S1 => o = some (.int (els S)) ∧ Cr 5 14 S S1 ∧ S1 5 0 = 1 ∧ S1 5 1 = S 0 11 ∧ ∀ v, v < 4 → ∀ n ρ, VC S (60 + 2 * v) n ρ → VC S1 (7 + 2 * v) n ρ) := by
    rw [eX10_image_0, kO0, if_T]
    refine loop_wp (fun e S' => am_run false (am_cal am_mt (d + 2)) (am_lk tbX10_image) 2 [some (.ref 0), some (.int (nI e))] [] (ws S')) (fun e S' => Cr 7 14 S S' ∧ ∀ v, v < e → ∀ n ρ, VC S (60 + 2 * v) n ρ → VC S' (7 + 2 * v) n ρ) _ 4 ?_ ?_ 0 S (Nat.zero_le _) ⟨Cr.rf, fun v hv => absurd hv (Nat.not_lt_zero v)⟩
    · intro e S' he hI K
      show wp (am_run _ _ _ _ _ _ _) _
      obtain ⟨n, ρ, hm, hC, hM⟩ := hR.2.1 e he
      obtain ⟨Sa, a1, a2, a3⟩ := c8_become (d + 1) (vq_k he) (VC_Cr hC hI.1 (by omega)) (by omega) (by omega) (by omega)
      rw [eX10_image_2, if_neg (show ¬ (4 : Int32) ≤ nI e from nI_ge (b := 4) he (by decide)), kR0_4, wc_bind, kR5_2, wc_bind, kQk S' he, wc_bind, kR0_1, wc_bind, kQv S' he, wc_bind, a1, cV_some, wc_bind, nI_1]
      refine K _ ⟨hI.1.tr (a2.wk (by omega) (by omega)), fun v hv n' ρ' h' => ?_⟩
      by_cases hve : v = e
      · subst hve
        refine ⟨(vq_k he).1, (vq_k he).2, h'.n7, ?_, fun s hs => ?_⟩
        · have e1 := a3.2.2.2.1
          have e2 := hC.2.2.2.1
          have e3 := h'.2.2.2.1
          rw [e1, ← e2, e3]
        · have e2 := hC.2.2.2.1
          have e3 := h'.2.2.2.1
          have en : n = n' := (nI_eq (by have := hC.n7; omega) (by have := h'.n7; omega)).mp (e2.symm.trans e3)
          subst en
          have e4 := (a3.2.2.2.2 s hs).1
          have e5 := (hC.2.2.2.2 s hs).1
          have e6 := (h'.2.2.2.2 s hs).1
          exact ⟨by rw [e4, ← e5, e6], h'.le hs⟩
      · exact VC_Cr (hI.2 v (by omega) n' ρ' h') a2 (by omega)
    · intro S' hI
      show wp (am_run _ _ _ _ _ _ _) _
      rw [eX10_image_2, if_pos (by decide), kR0_4, wc_bind, kI0_11, wc_bind, kS5_1, wc_bind, kR0_4, wc_bind, kS5_0, wc_bind, c_els, cI_some, wc_bind]
      have hcr : Cr 5 14 S (up (up S' 5 1 (S' 0 11)) 5 0 1) := Cr_up (Cr_up (hI.1.wk (by decide) (by decide)) (by decide) (by decide)) (by decide) (by decide)
      have hel : els (up (up S' 5 1 (S' 0 11)) 5 0 1) = els S := by
        unfold els wc_fd
        simp only [wc_lp]
        rw [hcr (60 + 2 * 0) (by omega), hcr (60 + 2 * (0 + 1)) (by omega), hcr (60 + 2 * (0 + 1 + 1)) (by omega), hcr (60 + 2 * (0 + 1 + 1 + 1)) (by omega)]
      dsimp only
      refine wp_ret ⟨by rw [hel], hcr, up_self _ _ _ _, ?_, fun v hv n ρ h => VC_Cr (hI.2 v hv n ρ h) (Cr_up (Cr_up Cr.rf (by decide) (by decide)) (by decide) (by decide) : Cr 5 5 S' _) (by omega)⟩
      rw [up_upd]; unfold upd; rw [if_neg (by decide), up_self, hI.1 0 (by decide)]
  obtain ⟨o, S1, h1, rfl, h2⟩ := key
  exact ⟨S1, h1, h2⟩
/-- what image leaves of the reference -/
def Mi (S S' : am_S) : Prop := (∀ c, c ≠ 91 → c ≠ 92 → S' c = S c) ∧ (∀ i, i < 8 → S' 91 i = S 91 i) ∧ ∀ i, i < 1024 → S' 92 i = S 92 i
theorem VM_Mi {S S' : am_S} {v n : Nat} {ρ : Nat → Nat} (h : VM S v n ρ) (hi : Mi S S') (hv : v < 8) : VM S' v n ρ :=
  ⟨h.1, h.2.1, by rw [hi.2.1 v hv]; exact h.2.2.1, fun s hs => by rw [hi.2.2 _ (by have := p2_128 h.2.1 hs; omega)]; exact h.2.2.2 s hs⟩
theorem m_image (d : Nat) {S S0 : am_S} (hV : ∀ v, v < 4 → ∃ n ρ, VM S v n ρ) (hE : ∀ v, v < 4 → S (60 + 2 * v) 0 = S 91 v) : ∃ S2, am_cal am_mt (d + 3) jX11_image [.ref 88] (ws S) = some (some (.int (els S)), ws S2) ∧ (∀ c, c < 88 → S2 c = S c) ∧ Fk (K1 15) S S2 ∧ S2 88 21 = 1 ∧ S2 88 22 = S 88 15 ∧ ∀ v, v < 4 → ∀ n ρ, VM S v n ρ → VM S2 (8 + v) n ρ := by
  have key : wp (am_cal am_mt (d + 3) jX11_image [.ref 88] (ws S)) (fun o S2 => o = some (.int (els S)) ∧ (∀ c, c < 88 → S2 c = S c) ∧ Fk (K1 15) S S2 ∧ S2 88 21 = 1 ∧ S2 88 22 = S 88 15 ∧ ∀ v, v < 4 → ∀ n ρ, VM S v n ρ → VM S2 (8 + v) n ρ) := by
    rw [eX11_image_0, kO88, if_T]
    refine loop_wp (fun e S' => am_run false (am_cal am_mt (d + 2)) (am_lk tbX11_image) 2 [some (.ref 88), some (.int (nI e))] [] (ws S')) (fun e S' => Mi S S' ∧ Fk (K1 15) S S' ∧ ∀ v, v < e → ∀ n ρ, VM S v n ρ → VM S' (8 + v) n ρ) _ 4 ?_ ?_ 0 S (Nat.zero_le _) ⟨⟨fun _ _ _ => rfl, fun _ _ => rfl, fun _ _ => rfl⟩, Fk.rf, fun v hv => absurd hv (Nat.not_lt_zero v)⟩
    · intro e S' he hI K
      show wp (am_run _ _ _ _ _ _ _) _
      obtain ⟨n, ρ, hM⟩ := hV e he
      obtain ⟨Sa, a1, a2, a3⟩ := m_copies (d + 1) (w := 8 + e) (VM_Mi hM hI.1 (by omega)) (by omega) (by omega)
      rw [eX11_image_2, if_neg (show ¬ (4 : Int32) ≤ nI e from nI_ge (b := 4) he (by decide)), wc_8, a1, cV_some, wc_bind, nI_1]
      have h3 := Fk_Mw a2
      unfold rowc at h3
      rw [if_neg (by omega), if_neg (by omega), if_pos (by omega)] at h3
      refine K _ ⟨⟨fun c p q => (a2.1 c p q).trans (hI.1.1 c p q), fun i hi => (a2.2.1 i (by omega)).trans (hI.1.2.1 i hi), fun i hi => (a2.2.2 i (by omega) (by omega)).trans (hI.1.2.2 i hi)⟩, hI.2.1.tr h3, fun v hv n' ρ' h' => ?_⟩
      by_cases hve : v = e
      · subst hve
        have e2 := hM.2.2.1
        have e3 := h'.2.2.1
        have en : n = n' := (nI_eq (by have := hM.n7; omega) (by have := h'.n7; omega)).mp (e2.symm.trans e3)
        subst en
        refine ⟨a3.1, a3.2.1, a3.2.2.1, fun s hs => ?_⟩
        have e4 := (a3.2.2.2 s hs).1
        have e5 := (hM.2.2.2 s hs).1
        have e6 := (h'.2.2.2 s hs).1
        exact ⟨by rw [e4, ← e5, e6], h'.le hs⟩
      · exact VM_Mw (hI.2.2 v (by omega) n' ρ' h') a2 (by omega) (by omega)
    · intro S' hI
      show wp (am_run _ _ _ _ _ _ _) _
      have hlo (c : Nat) (hc : c < 88) : up (up S' 88 22 (S' 88 15)) 88 21 1 c = S c := by rw [up_ne c (by omega), up_ne c (by omega), hI.1.1 c (by omega) (by omega)]
      have h91 (v : Nat) (hv : v < 8) : up (up S' 88 22 (S' 88 15)) 88 21 1 91 v = S 91 v := by rw [up_ne 91 (by decide), up_ne 91 (by decide), hI.1.2.1 v hv]
      rw [eX11_image_2, if_pos (by decide), kI88_15, wc_bind, kS88_22, wc_bind, kS88_21, wc_bind, m_els _ _ (fun v hv => by rw [hlo _ (by omega), h91 v (by omega)]; exact hE v hv), cI_some, wc_bind]
      have hel : els (up (up S' 88 22 (S' 88 15)) 88 21 1) = els S := by
        unfold els wc_fd
        simp only [wc_lp]
        rw [hlo (60 + 2 * 0) (by omega), hlo (60 + 2 * (0 + 1)) (by omega), hlo (60 + 2 * (0 + 1 + 1)) (by omega), hlo (60 + 2 * (0 + 1 + 1 + 1)) (by omega)]
      dsimp only
      refine wp_ret ⟨by rw [hel], hlo, Fk_up (Fk_up hI.2.1 (k := 15) _ rfl (K1_j _)) (k := 15) _ rfl (K1_j _), up_self _ _ _ _, ?_, fun v hv n ρ h => VM_Cr (hI.2.2 v hv n ρ h) (Cr_up (Cr_up Cr.rf (by decide) (by decide)) (by decide) (by decide) : Cr 88 88 S' _) (by omega)⟩
      rw [up_upd]; unfold upd; rw [if_neg (by decide), up_self, hI.1.1 88 (by decide) (by decide)]
  obtain ⟨o, S1, h1, rfl, h2⟩ := key
  exact ⟨S1, h1, h2⟩
theorem els_Cr {a b : Nat} {S S' : am_S} (h : Cr a b S S') (hb : b < 60 ∨ 66 < a) : els S' = els S := by
  unfold els wc_fd
  simp only [wc_lp]
  rw [h (60 + 2 * 0) (by omega), h (60 + 2 * (0 + 1)) (by omega), h (60 + 2 * (0 + 1 + 1)) (by omega), h (60 + 2 * (0 + 1 + 1 + 1)) (by omega)]
theorem pu_image : am_ag Inv jX10_image jX11_image 0 := ah_0 (fun d S hR => by
  obtain ⟨S1, a1, a2, a3, a4, a5⟩ := c_image (d + 17) hR
  have hV : ∀ v, v < 4 → ∃ n ρ, VM S1 v n ρ := fun v hv => by
    obtain ⟨n, ρ, hm, hC, hM⟩ := hR.2.1 v hv
    exact ⟨n, ρ, VM_Cr hM a2 (by omega)⟩
  obtain ⟨S2, b1, b2, b3, b4, b5, b6⟩ := m_image (d + 17) (S0 := S) hV (fun v hv => by rw [a2 (60 + 2 * v) (by omega), a2 91 (by omega)]; exact RV_n (hR.2.1 v hv))
  rw [els_Cr a2 (by decide)] at b1
  refine ⟨els S, S1, S2, a1, b1, R_1 (j := 15) hR ((Fk_Cr a2 (fun c i p q => by rw [comp_im (by omega)]; exact K1_j _)).tr b3) (Or.inr ⟨?_, b4, ?_, fun v hv => ?_⟩)⟩
  · rw [b2 5 (by decide)]; exact a3
  · rw [b2 5 (by decide), a4, b5, a2 88 (by decide)]; exact hR.2.2.2.2.2.2
  · obtain ⟨n, ρ, hm, hC, hM⟩ := hR.2.1 v hv
    have c1 := a5 v hv n ρ hC
    exact ⟨n, ρ, hm, ⟨c1.1, c1.2.1, c1.2.2.1, by rw [b2 _ (by omega)]; exact c1.2.2.2.1, fun s hs => by rw [b2 _ (by omega)]; exact c1.2.2.2.2 s hs⟩, b6 v hv n ρ (VM_Cr hM a2 (by omega))⟩)
