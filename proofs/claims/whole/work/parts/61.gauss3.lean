/-! ===== the reference's ranks of columns: rows change places ===== -/
def SW (S : am_S) (b k j : Nat) (S' : am_S) : Prop := (∀ c, c ≠ 94 → S' c = S c) ∧ (∀ i, i < 7 → i ≠ b → i ≠ k → ∀ x, x < 7 → S' 94 (7 * i + x) = S 94 (7 * i + x)) ∧ ∀ x, x < 7 → S' 94 (7 * b + x) = (if x < j then S 94 (7 * k + x) else S 94 (7 * b + x)) ∧ S' 94 (7 * k + x) = (if x < j then S 94 (7 * b + x) else S 94 (7 * k + x))
theorem SW_up {S S' : am_S} {b k j : Nat} (h : SW S b k j S') (hb : b < 7) (hk : k < 7) (hj : j < 7) : SW S b k (j + 1) (up (up S' 94 (7 * b + j) (S' 94 (7 * k + j))) 94 (7 * k + j) (S' 94 (7 * b + j))) := by
  have hjb := (h.2.2 j hj).1
  have hjk := (h.2.2 j hj).2
  rw [if_neg (Nat.lt_irrefl j)] at hjb hjk
  refine ⟨fun c hc => by rw [up_ne c hc, up_ne c hc]; exact h.1 c hc, fun i hi h1 h2 x hx => ?_, fun x hx => ⟨?_, ?_⟩⟩
  · rw [up_upd]; unfold upd; rw [if_neg (by omega), up_upd]; unfold upd; rw [if_neg (by omega)]; exact h.2.1 i hi h1 h2 x hx
  · rw [up_upd]; unfold upd
    by_cases hxj : x = j
    · subst hxj
      rw [if_pos (show x < x + 1 by omega)]
      by_cases hbk : b = k
      · subst hbk; rw [if_pos rfl]; exact hjb
      · rw [if_neg (show ¬ 7 * b + x = 7 * k + x by omega), up_upd]; unfold upd; rw [if_pos rfl]; exact hjk
    · rw [if_neg (by omega), up_upd]; unfold upd; rw [if_neg (by omega), (h.2.2 x hx).1]
      by_cases hlt : x < j
      · rw [if_pos hlt, if_pos (by omega)]
      · rw [if_neg hlt, if_neg (by omega)]
  · rw [up_upd]; unfold upd
    by_cases hxj : x = j
    · subst hxj
      rw [if_pos rfl, if_pos (show x < x + 1 by omega)]; exact hjb
    · rw [if_neg (by omega), up_upd]; unfold upd; rw [if_neg (by omega), (h.2.2 x hx).2]
      by_cases hlt : x < j
      · rw [if_pos hlt, if_pos (by omega)]
      · rw [if_neg hlt, if_neg (by omega)]
theorem rk_swap (d : Nat) {S : am_S} {f s N k c b : Nat} {y8 y9 : Option Value} (hb : b < 7) (hk : k < 7) : ∃ S' z8, am_run false (am_cal am_mt d) (am_lk tbX11_rankOf) 131 [some (.ref 88), some (.int (nI f)), some (.int (nI s)), some (.int (nI N)), some (.int (nI k)), some (.int (nI c)), some (.int (nI b)), some (.int (nI 0)), y8, y9] [] (ws S) = am_run false (am_cal am_mt d) (am_lk tbX11_rankOf) 206 [some (.ref 88), some (.int (nI f)), some (.int (nI s)), some (.int (nI N)), some (.int (nI k)), some (.int (nI c)), some (.int (nI b)), some (.int (nI (k + 1))), z8, y9] [] (ws S') ∧ SW S b k 7 S' := by
  have key : ∀ t j S1 z, j + t = 7 → SW S b k j S1 → ∃ S' z8, am_run false (am_cal am_mt d) (am_lk tbX11_rankOf) 131 [some (.ref 88), some (.int (nI f)), some (.int (nI s)), some (.int (nI N)), some (.int (nI k)), some (.int (nI c)), some (.int (nI b)), some (.int (nI j)), z, y9] [] (ws S1) = am_run false (am_cal am_mt d) (am_lk tbX11_rankOf) 206 [some (.ref 88), some (.int (nI f)), some (.int (nI s)), some (.int (nI N)), some (.int (nI k)), some (.int (nI c)), some (.int (nI b)), some (.int (nI (k + 1))), z8, y9] [] (ws S') ∧ SW S b k 7 S' := by
    intro t
    induction t with
    | zero =>
      intro j S1 z hj h
      have : j = 7 := by omega
      subst this
      rw [eX11_rankOf_131, if_pos (by decide), nI_1]
      exact ⟨S1, z, rfl, h⟩
    | succ t ih =>
      intro j S1 z hj h
      have hj7 : j < 7 := by omega
      rw [eX11_rankOf_131, if_neg (show ¬ (7 : Int32) ≤ nI j from nI_ge (b := 7) hj7 (by decide)), kR88_5, wc_bind, wc_row7, kA94 S1 (by omega), wc_bind, wc_bind, wc_bind, wc_row7, kA94 S1 (by omega), wc_bind, kW94 S1 (by omega), wc_bind, kR88_5, wc_bind, kW94 _ (by omega), wc_bind, nI_1]
      exact ih (j + 1) _ _ (by omega) (SW_up h hb hk hj7)
  exact key 7 0 S y8 (by omega) ⟨fun _ _ => rfl, fun _ _ _ _ _ _ => rfl, fun x _ => ⟨(if_neg (Nat.not_lt_zero x)).symm, (if_neg (Nat.not_lt_zero x)).symm⟩⟩
theorem RW_SW {S S' : am_S} {N b k : Nat} {r : Nat → vec} (h : RW S N r) (hs : SW S b k 7 S') (hb : b < N) (hk : k < N) (hN : N ≤ 7) : RW S' N (swv r b k) := by
  intro i hi j hj
  unfold swv
  by_cases h1 : i = b
  · rw [if_pos h1, h1, (hs.2.2 j hj).1, if_pos hj]; exact h k hk j hj
  · rw [if_neg h1]
    by_cases h2 : i = k
    · rw [if_pos h2, h2, (hs.2.2 j hj).2, if_pos hj]; exact h b hb j hj
    · rw [if_neg h2, hs.2.1 i (by omega) h1 h2 j hj]; exact h i hi j hj
