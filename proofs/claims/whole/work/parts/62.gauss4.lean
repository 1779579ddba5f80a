/-! ===== the reference's ranks of columns: a pivot is taken off ===== -/
def F94 (S S' : am_S) : Prop := ∀ c, c ≠ 94 → S' c = S c
theorem MC_F94 {S S' : am_S} (h : MC S) (hf : F94 S S') : MC S' := ⟨fun x hx => by rw [hf 89 (by decide)]; exact h.1 x hx, fun x hx => by rw [hf 90 (by decide)]; exact h.2 x hx⟩
theorem rk_el (d : Nat) {S : am_S} {f s N k c b : Nat} {r : Nat → vec} {y8 y9 : Option Value} (hM : MC S) (hf : f < 4) (hN : N ≤ 7) (hk : k < N) (hc : c < 7) (hv : ∀ i, i < N → vd f (r i)) (hr : RW S N r) (hn : 0 < r k c) : ∃ S' z7 z8 z9, am_run false (am_cal am_mt (d + 2)) (am_lk tbX11_rankOf) 206 [some (.ref 88), some (.int (nI f)), some (.int (nI s)), some (.int (nI N)), some (.int (nI k)), some (.int (nI c)), some (.int (nI b)), some (.int (nI (k + 1))), y8, y9] [] (ws S) = am_run false (am_cal am_mt (d + 2)) (am_lk tbX11_rankOf) 80 [some (.ref 88), some (.int (nI f)), some (.int (nI s)), some (.int (nI N)), some (.int (nI (k + 1))), some (.int (nI (c + 1))), some (.int (nI b)), z7, z8, z9] [] (ws S') ∧ F94 S S' ∧ RW S' N (elv f k c N r) := by
  have key : ∀ u t S1 z8 z9, t + u = N → k < t → F94 S S1 → RW S1 N (elv f k c t r) → ∃ S' w7 w8 w9, am_run false (am_cal am_mt (d + 2)) (am_lk tbX11_rankOf) 206 [some (.ref 88), some (.int (nI f)), some (.int (nI s)), some (.int (nI N)), some (.int (nI k)), some (.int (nI c)), some (.int (nI b)), some (.int (nI t)), z8, z9] [] (ws S1) = am_run false (am_cal am_mt (d + 2)) (am_lk tbX11_rankOf) 80 [some (.ref 88), some (.int (nI f)), some (.int (nI s)), some (.int (nI N)), some (.int (nI (k + 1))), some (.int (nI (c + 1))), some (.int (nI b)), w7, w8, w9] [] (ws S') ∧ F94 S S' ∧ RW S' N (elv f k c N r) := by
    intro u
    induction u with
    | zero =>
      intro t S1 z8 z9 ht hkt h1 h2
      have : t = N := by omega
      subst this
      rw [eX11_rankOf_206, if_pos (Int32.le_refl _), nI_1, nI_1]
      exact ⟨S1, _, _, _, rfl, h1, h2⟩
    | succ u ih =>
      intro t S1 z8 z9 ht hkt h1 h2
      have htN : t < N := by omega
      have e1 : elv f k c t r t = r t := if_neg (by omega)
      have e2 : elv f k c t r k = r k := if_neg (by omega)
      have v1 : ∀ j, j < 7 → S1 94 (7 * t + j) = nI (r t j) := fun j hj => by rw [h2 t htN j hj, e1]
      have v2 : ∀ j, j < 7 → S1 94 (7 * k + j) = nI (r k j) := fun j hj => by rw [h2 k hk j hj, e2]
      have hM1 := MC_F94 hM h1
      have hm : fmu f (r t c) (fin f (r k c)) < fsz f := (flt2 hf (hv t htN c hc) (flt2 hf (hv k hk c hc) (f0 f)).2.2).2.1
      rw [eX11_rankOf_206, if_neg (show ¬ nI N ≤ nI t from nI_ge htN (by omega)), kR88_5, wc_bind, wc_row7, kA94 S1 (by omega), wc_bind, wc_bind, wc_row7, kA94 S1 (by omega), wc_bind, v1 c hc, v2 c hc, m_by _ hM1 hf (hv t htN c hc) (hv k hk c hc) hn, cI_some, wc_bind, show (0 : Int32) = nI 0 from rfl]
      dsimp only
      obtain ⟨S2, a1, a2⟩ := rk_off (d + 1) (s := s) (c := c) (b := b) (t := N) hM1 hf (show t < 7 by omega) (show k < 7 by omega) (by omega) hm (hv t htN) (hv k hk) v1 v2
      rw [a1]
      refine ih (t + 1) S2 _ _ (by omega) (by omega) (fun x hx => (a2.1 x hx).trans (h1 x hx)) (fun i hi j hj => ?_)
      rw [RW_W94 h2 a2 i hi j hj]
      unfold updE elv
      by_cases hit : i = t
      · rw [if_pos hit, hit, if_pos ⟨hkt, by omega⟩]
      · rw [if_neg hit]
        by_cases hki : k < i ∧ i < t
        · rw [if_pos hki, if_pos ⟨hki.1, by omega⟩]
        · rw [if_neg hki, if_neg (by omega)]
  exact key (N - (k + 1)) (k + 1) S y8 y9 (by omega) (by omega) (fun _ _ => rfl) (fun i hi j hj => by
    have : elv f k c (k + 1) r i = r i := if_neg (by omega)
    rw [this]; exact hr i hi j hj)
