/-! ===== columns told by numbers ===== -/
def cdv (f c : Nat) : Nat → Nat
  | 0 => c
  | k + 1 => cdv f c k / fsz f
theorem cdv_le (f c : Nat) : ∀ k, cdv f c k ≤ c := by
  intro k
  induction k with
  | zero => exact Nat.le_refl _
  | succ k ih => exact Nat.le_trans (Nat.div_le_self _ _) ih
def dig (f c i : Nat) : Nat := cdv f c i % fsz f
theorem dig_lt (f c i : Nat) : dig f c i < fsz f := Nat.mod_lt _ (f0 f)
theorem c5_putCode (d : Nat) {S : am_S} {m f g c q : Nat} (hm : mq m) (hq : q < 2 ^ 31) (hS : S m 0 = nI q) (hF : FC S q f) (hg : g < 7) (hc : c < 2 ^ 31) : ∃ S', am_cal am_mt (d + 3) jX5_putCode [.ref m, .int (nI g), .int (nI c)] (ws S) = some (none, ws S') ∧ (∀ x, x ≠ m + 3 → S' x = S x) ∧ (∀ i, i < 7 * g ∨ 7 * g + 7 ≤ i → S' (m + 3) i = S (m + 3) i) ∧ ∀ i, i < 7 → S' (m + 3) (7 * g + i) = nI (dig f c i) := by
  have hz := fsz_pos f
  have key : wp (am_cal am_mt (d + 3) jX5_putCode [.ref m, .int (nI g), .int (nI c)] (ws S)) (fun o S' => o = none ∧ (∀ x, x ≠ m + 3 → S' x = S x) ∧ (∀ i, i < 7 * g ∨ 7 * g + 7 ≤ i → S' (m + 3) i = S (m + 3) i) ∧ ∀ i, i < 7 → S' (m + 3) (7 * g + i) = nI (dig f c i)) := by
    rw [eX5_putCode_0, hm.O, if_T, hm.f0, wc_bind, hS, nI_clamp hq, hF.fI, wc_bind, if_neg (show ¬ nI (fsz f) < (1 : Int32) from nI_nlt (b := 1) (by omega) (by omega)), show (0 : Int32) = nI 0 from rfl]
    refine loop_wp (fun k S' => am_run false (am_cal am_mt (d + 2)) (am_lk tbX5_putCode) 18 [some (.ref m), some (.int (nI g)), some (.int (nI c)), some (.int (nI (fsz f))), some (.int (nI (cdv f c k))), some (.int (nI k))] [] (ws S')) (fun k S' => (∀ x, x ≠ m + 3 → S' x = S x) ∧ (∀ i, i < 7 * g ∨ 7 * g + 7 ≤ i → S' (m + 3) i = S (m + 3) i) ∧ ∀ i, i < k → S' (m + 3) (7 * g + i) = nI (dig f c i)) _ 7 ?_ ?_ 0 S (Nat.zero_le _) ⟨fun _ _ => rfl, fun _ _ => rfl, fun i hi => absurd hi (Nat.not_lt_zero i)⟩
    · intro k S' hk ⟨h1, h2, h3⟩ K
      show wp (am_run _ _ _ _ _ _ _) _
      have hck : cdv f c k < 2 ^ 31 := Nat.lt_of_le_of_lt (cdv_le f c k) hc
      rw [eX5_putCode_18, if_neg (show ¬ (7 : Int32) ≤ nI k from nI_ge (b := 7) hk (by decide)), if_neg (nI_ne0 (by omega) (by omega)), pk_rem hck (by omega) (by omega), c5_put d S' hm hg hk, cV_some, wc_bind, if_neg (nI_ne0 (by omega) (by omega)), pk_div hck (by omega) (by omega), nI_1]
      refine K _ ⟨fun x hx => by rw [up_ne x hx]; exact h1 x hx, fun i hi => ?_, fun i hi => ?_⟩
      · rw [up_upd]; unfold upd; rw [if_neg (by omega)]; exact h2 i hi
      · rw [up_upd]; unfold upd
        by_cases hik : i = k
        · rw [if_pos (by omega), hik]; rfl
        · rw [if_neg (by omega)]; exact h3 i (by omega)
    · intro S' hI
      show wp (am_run _ _ _ _ _ _ _) _
      rw [eX5_putCode_18, if_pos (by decide)]
      exact wp_ret ⟨rfl, hI⟩
  obtain ⟨o, S', h1, rfl, h2⟩ := key
  exact ⟨S', h1, h2⟩
/-- a column as a number -/
def cod (f : Nat) (v : vec) : Nat := wc_fd 7 (fun j a => a * fsz f + v (6 - j)) 0
theorem dn6 : ∀ j, j < 7 → (nI 6 - nI j) + (-1 : Int32) = nI 6 - nI (j + 1) := by decide
theorem c5_codeOf (d : Nat) {S : am_S} {m f g q : Nat} {v : vec} (hm : mq m) (hq : q < 2 ^ 31) (hS : S m 0 = nI q) (hF : FC S q f) (hg : g < 7) (hv : ∀ i, i < 7 → S (m + 3) (7 * g + i) = nI (v i)) : am_cal am_mt (d + 2) jX5_codeOf [.ref m, .int (nI g)] (ws S) = some (some (.int (nI (cod f v))), ws S) := by
  rw [eX5_codeOf_0, hm.O, if_T]
  refine loop_fd (fun j a => am_run false (am_cal am_mt (d + 1)) (am_lk tbX5_codeOf) 5 [some (.ref m), some (.int (nI g)), some (.int (nI a)), some (.int (nI 6 - nI j))] [] (ws S)) (fun j a => a * fsz f + v (6 - j)) 7 0 ?_ ?_
  · intro j a hj
    show am_run _ _ _ _ _ _ _ = am_run _ _ _ _ _ _ _
    rw [← dn6 j hj, pk_sub (show j ≤ 6 by omega), eX5_codeOf_5, if_neg (nI_pos (by omega)), c_below, cI_some, wc_bind, in7T hg, if_neg bI_T, hm.f0, wc_bind, hS, nI_clamp hq, hF.fI, wc_bind, hm.f1, wc_bind, m77, hm.a3 S (by omega), wc_bind, hv _ (by omega), pk_mul, nI_add]
  · show am_run _ _ _ _ _ _ _ = _
    rw [eX5_codeOf_5, if_pos (by decide)]
    rfl
