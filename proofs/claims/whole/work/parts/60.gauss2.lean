/-! ===== the reference's ranks of columns: rows of the work ===== -/
/-- row N of the work is at val up to j, all else as it was -/
def W94 (S : am_S) (N : Nat) (val : Nat → Int32) (j : Nat) (S' : am_S) : Prop := (∀ c, c ≠ 94 → S' c = S c) ∧ (∀ i, i < 7 * N ∨ 7 * N + j ≤ i → S' 94 i = S 94 i) ∧ ∀ x, x < j → S' 94 (7 * N + x) = val x
theorem W94_up {S S' : am_S} {N j : Nat} {val : Nat → Int32} (h : W94 S N val j S') : W94 S N val (j + 1) (up S' 94 (7 * N + j) (val j)) := by
  refine ⟨fun c hc => by rw [up_ne c hc]; exact h.1 c hc, fun i hi => ?_, fun x hx => ?_⟩
  · rw [up_upd]; unfold upd; rw [if_neg (by omega)]; exact h.2.1 i (by omega)
  · rw [up_upd]; unfold upd
    by_cases hxj : x = j
    · rw [if_pos (by omega), hxj]
    · rw [if_neg (by omega)]; exact h.2.2 x (by omega)
theorem row_fill {N : Nat} (val : Nat → Int32) (H : Nat → am_S → Option am_R) (S : am_S) (step : ∀ j S', j < 7 → W94 S N val j S' → H j S' = H (j + 1) (up S' 94 (7 * N + j) (val j))) : ∃ S', H 0 S = H 7 S' ∧ W94 S N val 7 S' := by
  have key : ∀ j, j ≤ 7 → ∃ S', H 0 S = H j S' ∧ W94 S N val j S' := by
    intro j
    induction j with
    | zero => intro _; exact ⟨S, rfl, fun _ _ => rfl, fun _ _ => rfl, fun x hx => absurd hx (Nat.not_lt_zero x)⟩
    | succ j ih =>
      intro hj
      obtain ⟨S', h1, h2⟩ := ih (by omega)
      exact ⟨_, h1.trans (step j S' (by omega) h2), W94_up h2⟩
  exact key 7 (Nat.le_refl 7)
theorem wc_row7 (v s : Nat) : (7 : Int32) * nI v + nI s = nI (7 * v + s) := by rw [show (7 : Int32) = nI 7 from rfl, pk_mul, nI_add]
/-- rows of the work -/
def RW (S : am_S) (N : Nat) (r : Nat → vec) : Prop := ∀ i, i < N → ∀ j, j < 7 → S 94 (7 * i + j) = nI (r i j)
theorem RW_W94 {S S' : am_S} {N k : Nat} {r : Nat → vec} {u : vec} (h : RW S N r) (hw : W94 S k (fun j => nI (u j)) 7 S') : RW S' N (updE r k u) := by
  intro i hi j hj
  unfold updE
  by_cases hik : i = k
  · rw [if_pos hik, hik]; exact hw.2.2 j hj
  · rw [if_neg hik, hw.2.1 _ (by omega)]; exact h i hi j hj
/-- a column is copied -/
theorem rk_copy (d : Nat) {S : am_S} {f s N g : Nat} {u : vec} (hN : N < 7) (hg : g < 7) (hu : ∀ j, j < 7 → S 93 (7 * g + j) = nI (u j)) : ∃ S', am_run false (am_cal am_mt d) (am_lk tbX11_rankOf) 27 [some (.ref 88), some (.int (nI f)), some (.int (nI s)), some (.int (nI N)), some (.int (nI g)), some (.int (nI 0)), none, none, none, none] [] (ws S) = am_run false (am_cal am_mt d) (am_lk tbX11_rankOf) 5 [some (.ref 88), some (.int (nI f)), some (.int (nI s)), some (.int (nI (N + 1))), some (.int (nI (g + 1))), some (.int (nI 7)), none, none, none, none] [] (ws S') ∧ W94 S N (fun j => nI (u j)) 7 S' := by
  obtain ⟨S', h1, h2⟩ := row_fill (N := N) (fun j => nI (u j)) (fun j S' => am_run false (am_cal am_mt d) (am_lk tbX11_rankOf) 27 [some (.ref 88), some (.int (nI f)), some (.int (nI s)), some (.int (nI N)), some (.int (nI g)), some (.int (nI j)), none, none, none, none] [] (ws S')) S (by
    intro j S' hj hw
    rw [eX11_rankOf_27, if_neg (show ¬ (7 : Int32) ≤ nI j from nI_ge (b := 7) hj (by decide)), kR88_5, wc_bind, kR88_4, wc_bind, wc_row7, kA93 S' (by omega), wc_bind, wc_row7, kW94 S' (by omega), wc_bind, nI_1, hw.1 93 (by decide), hu j hj])
  refine ⟨S', h1.trans ?_, h2⟩
  rw [eX11_rankOf_27, if_pos (by decide), nI_1, nI_1]
/-- the pivot's row is taken off a row -/
theorem rk_off (d : Nat) {S : am_S} {f s N k c b t a : Nat} {v u : vec} (hM : MC S) (hf : f < 4) (hN : N < 7) (hk : k < 7) (hkN : k ≠ N) (ha : a < fsz f) (dv : vd f v) (du : vd f u) (hv : ∀ j, j < 7 → S 94 (7 * N + j) = nI (v j)) (hu : ∀ j, j < 7 → S 94 (7 * k + j) = nI (u j)) : ∃ S', am_run false (am_cal am_mt (d + 1)) (am_lk tbX11_rankOf) 248 [some (.ref 88), some (.int (nI f)), some (.int (nI s)), some (.int (nI t)), some (.int (nI k)), some (.int (nI c)), some (.int (nI b)), some (.int (nI N)), some (.int (nI a)), some (.int (nI 0))] [] (ws S) = am_run false (am_cal am_mt (d + 1)) (am_lk tbX11_rankOf) 206 [some (.ref 88), some (.int (nI f)), some (.int (nI s)), some (.int (nI t)), some (.int (nI k)), some (.int (nI c)), some (.int (nI b)), some (.int (nI (N + 1))), some (.int (nI a)), some (.int (nI 7))] [] (ws S') ∧ W94 S N (fun j => nI (sbm f v a u j)) 7 S' := by
  obtain ⟨S', h1, h2⟩ := row_fill (N := N) (fun j => nI (sbm f v a u j)) (fun j S' => am_run false (am_cal am_mt (d + 1)) (am_lk tbX11_rankOf) 248 [some (.ref 88), some (.int (nI f)), some (.int (nI s)), some (.int (nI t)), some (.int (nI k)), some (.int (nI c)), some (.int (nI b)), some (.int (nI N)), some (.int (nI a)), some (.int (nI j))] [] (ws S')) S (by
    intro j S' hj hw
    have hM' : MC S' := ⟨fun x hx => by rw [hw.1 89 (by decide)]; exact hM.1 x hx, fun x hx => by rw [hw.1 90 (by decide)]; exact hM.2 x hx⟩
    rw [eX11_rankOf_248, if_neg (show ¬ (7 : Int32) ≤ nI j from nI_ge (b := 7) hj (by decide)), kR88_5, wc_bind, wc_bind, wc_row7, kA94 S' (by omega), wc_bind, wc_bind, wc_row7, kA94 S' (by omega), wc_bind, hw.2.1 (7 * N + j) (by omega), hv j hj, hw.2.1 (7 * k + j) (by omega), hu j hj, m_times _ hM' hf ha (du j hj), cI_some, wc_bind]
    dsimp only
    rw [m_minus _ hM' hf (dv j hj) (flt2 hf ha (du j hj)).2.1, cI_some, wc_bind]
    dsimp only
    rw [kW94 S' (by omega), wc_bind, nI_1]
    rfl)
  refine ⟨S', h1.trans ?_, h2⟩
  rw [eX11_rankOf_248, if_pos (by decide), nI_1]
