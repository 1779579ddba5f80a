/-! ===== the class's matrix is written ===== -/
theorem c5_clear (d : Nat) (S : am_S) {m q : Nat} (hm : mq m) (hq : q < 2 ^ 31) : ∃ S', am_cal am_mt (d + 1) jX5_clear [.ref m, .ref q] (ws S) = some (none, ws S') ∧ (∀ c, c ≠ m → c ≠ m + 3 → S' c = S c) ∧ S' m 0 = nI q ∧ ∀ i, i < 49 → S' (m + 3) i = nI 0 := by
  have key : wp (am_cal am_mt (d + 1) jX5_clear [.ref m, .ref q] (ws S)) (fun o S' => o = none ∧ (∀ c, c ≠ m → c ≠ m + 3 → S' c = S c) ∧ S' m 0 = nI q ∧ ∀ i, i < 49 → S' (m + 3) i = nI 0) := by
    rw [eX5_clear_0, hm.O, if_T, hm.s0 S hq, wc_bind, show (0 : Int32) = nI 0 from rfl]
    refine loop_wp (fun k S' => am_run false (am_cal am_mt d) (am_lk tbX5_clear) 7 [some (.ref m), some (.ref q), some (.int (nI k))] [] (ws S')) (fun k S' => (∀ c, c ≠ m → c ≠ m + 3 → S' c = S c) ∧ S' m 0 = nI q ∧ ∀ i, i < k → S' (m + 3) i = nI 0) _ 49 ?_ ?_ 0 _ (Nat.zero_le _) ⟨fun c h1 _ => up_ne c h1, up_self _ _ _ _, fun i hi => absurd hi (Nat.not_lt_zero i)⟩
    · intro k S' hk hI K
      show wp (am_run _ _ _ _ _ _ _) _
      rw [eX5_clear_7, hm.f1, wc_bind, hm.l3, wc_bind, if_neg (show ¬ nI 49 ≤ nI k from nI_ge hk (by decide)), wc_bind, hm.w3 S' hk, wc_bind, nI_1, show (0 : Int32) = nI 0 from rfl]
      refine K _ ⟨fun c h1 h2 => by rw [up_ne c h2]; exact hI.1 c h1 h2, by rw [up_ne m (by omega)]; exact hI.2.1, fun i hi => ?_⟩
      rw [up_upd]; unfold upd
      by_cases hik : i = k
      · rw [if_pos hik]
      · rw [if_neg hik]; exact hI.2.2 i (by omega)
    · intro S' hI
      show wp (am_run _ _ _ _ _ _ _) _
      rw [eX5_clear_7, hm.f1, wc_bind, hm.l3, wc_bind, if_pos (Int32.le_refl _)]
      exact wp_ret ⟨rfl, hI⟩
  obtain ⟨o, S', h1, rfl, h2⟩ := key
  exact ⟨S', h1, h2⟩
theorem c5_put (d : Nat) (S : am_S) {m g i : Nat} (hm : mq m) (hg : g < 7) (hi : i < 7) (x : Int32) : am_cal am_mt (d + 2) jX5_put [.ref m, .int (nI g), .int (nI i), .int x] (ws S) = some (none, ws (up S (m + 3) (7 * g + i) x)) := by
  rw [eX5_put_0, hm.O, if_T, c_below, cI_some, wc_bind, in7T hg, if_neg bI_T]
  dsimp only
  rw [c_below, cI_some, wc_bind, in7T hi, if_neg bI_T]
  dsimp only
  rw [hm.f1, wc_bind, m77, hm.w3 S (by omega), wc_bind]
