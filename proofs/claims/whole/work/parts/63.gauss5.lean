/-! ===== the reference's ranks of columns: the elimination ===== -/
theorem rk_80 (d : Nat) {f s N : Nat} {col : Nat → vec} (hf : f < 4) (hc : vdc f col) (hN : N ≤ 7) : ∀ u c k S1 r P e z6 z7 z8 z9, c + u = 7 → GI f col s N r k c P e → RW S1 N r → MC S1 → ∃ S', am_run false (am_cal am_mt (d + 2)) (am_lk tbX11_rankOf) 80 [some (.ref 88), some (.int (nI f)), some (.int (nI s)), some (.int (nI N)), some (.int (nI k)), some (.int (nI c)), z6, z7, z8, z9] [] (ws S1) = some (some (.int (nI (rkf f col s))), ws S') ∧ F94 S1 S' := by
  intro u
  induction u with
  | zero =>
    intro c k S1 r P e z6 z7 z8 z9 hcu h hr hM
    have : c = 7 := by omega
    subst this
    rw [eX11_rankOf_80, if_pos (by decide), GI_end hf hc h]
    exact ⟨S1, rfl, fun _ _ => rfl⟩
  | succ u ih =>
    intro c k S1 r P e z6 z7 z8 z9 hcu h hr hM
    have hc7 : c < 7 := by omega
    rw [eX11_rankOf_80, if_neg (show ¬ (7 : Int32) ≤ nI c from nI_ge (b := 7) hc7 (by decide))]
    have search : ∀ v b, b + v = N → k ≤ b → (∀ i, k ≤ i → i < b → r i c = 0) → ∃ S', am_run false (am_cal am_mt (d + 2)) (am_lk tbX11_rankOf) 91 [some (.ref 88), some (.int (nI f)), some (.int (nI s)), some (.int (nI N)), some (.int (nI k)), some (.int (nI c)), some (.int (nI b)), z7, z8, z9] [] (ws S1) = some (some (.int (nI (rkf f col s))), ws S') ∧ F94 S1 S' := by
      intro v
      induction v with
      | zero =>
        intro b hb hkb hz
        have : b = N := by omega
        subst this
        rw [eX11_rankOf_91, if_pos (Int32.le_refl _), if_pos rfl, nI_1]
        exact ih (c + 1) k S1 r P e _ _ _ _ (by omega) (GI_none h (fun i h1 h2 => hz i h1 h2)) hr hM
      | succ v ihv =>
        intro b hb hkb hz
        have hbN : b < N := by omega
        have hkN : k < N := by omega
        have hvb := h.2.2.2.2.2.1 b hbN c hc7
        have hq5 := (fsz_pos f).2
        rw [eX11_rankOf_91, if_neg (show ¬ nI N ≤ nI b from nI_ge hbN (by omega)), kR88_5, wc_bind, wc_row7, kA94 S1 (by omega), wc_bind, hr b hbN c hc7]
        by_cases h0 : r b c = 0
        · rw [if_pos (show nI (r b c) = 0 by rw [h0, nI_0]), nI_1]
          exact ihv (b + 1) (by omega) (by omega) (fun i h1 h2 => by
            by_cases hib : i = b
            · rw [hib]; exact h0
            · exact hz i h1 (by omega))
        · rw [if_neg (nI_ne0 (by omega) (by omega)), if_neg (show ¬ nI b = nI N from fun x => by have y := nI_ge (a := b) (b := N) hbN (by omega); exact y (by rw [x]; exact Int32.le_refl _)), show (0 : Int32) = nI 0 from rfl]
          obtain ⟨S2, z, a1, a2⟩ := rk_swap (d + 2) (S := S1) (f := f) (s := s) (N := N) (c := c) (y8 := z8) (y9 := z9) (show b < 7 by omega) (show k < 7 by omega)
          rw [a1]
          have h' := GI_swap h hkb hbN
          have hM2 : MC S2 := MC_F94 hM a2.1
          have hp : 0 < swv r b k k c := by rw [swv_b]; omega
          obtain ⟨S3, w7, w8, w9, b1, b2, b3⟩ := rk_el d (s := s) (b := b) (y8 := z) (y9 := z9) hM2 hf hN hkN hc7 h'.2.2.2.2.2.1 (RW_SW hr a2 hbN hkN hN) hp
          rw [b1]
          obtain ⟨S4, c1, c2⟩ := ih (c + 1) (k + 1) S3 _ _ _ (some (.int (nI b))) w7 w8 w9 (by omega) (GI_step hf h' hkN hc7 hp) b3 (MC_F94 hM2 b2)
          exact ⟨S4, c1, fun x hx => (c2 x hx).trans ((b2 x hx).trans (a2.1 x hx))⟩
    have hkN := h.2.2.2.1
    exact search (N - k) k (by omega) (Nat.le_refl k) (fun i h1 h2 => absurd h2 (by omega))
