/-! ===== the reference's view by columns ===== -/
def Zv (v : Nat) (S S' : am_S) : Prop := (∀ c, c ≠ 91 → c ≠ 92 → c ≠ 94 → S' c = S c) ∧ (∀ i, i ≠ v → S' 91 i = S 91 i) ∧ ∀ i, i < 128 * v ∨ 128 * v + 128 ≤ i → S' 92 i = S 92 i
theorem m_byColumns (d : Nat) {S : am_S} {f n v : Nat} {col : Nat → vec} (hf : f < 4) (hc : vdc f col) (hM : MC S) (hn : n ≤ 7) (hv : v < 14) (hcol : ∀ g, g < n → ∀ j, j < 7 → S 93 (7 * g + j) = nI (col g j)) : ∃ S', am_cal am_mt (d + 4) jX11_byColumns [.ref 88, .int (nI v), .int (nI f), .int (nI n)] (ws S) = some (some (.int (nI (rkf f col (2 ^ n - 1)))), ws S') ∧ Zv v S S' ∧ VM S' v n (rkf f col) := by
  have hp := p2_le hn
  have h128 : ∀ s, s < 2 ^ n → s < 128 := fun s hs => p2_128 hn hs
  rw [eX11_byColumns_0, kO88, if_T, kR88_2, wc_bind, kW91 S hv, wc_bind, show (0 : Int32) = nI 0 from rfl]
  have key : ∀ u s S1, s + u = 2 ^ n → Zv v S S1 → S1 91 v = nI n → (∀ t, t < s → S1 92 (128 * v + t) = nI (rkf f col t)) → ∃ S', am_run false (am_cal am_mt (d + 3)) (am_lk tbX11_byColumns) 10 [some (.ref 88), some (.int (nI v)), some (.int (nI f)), some (.int (nI n)), some (.int (nI s))] [] (ws S1) = some (some (.int (nI (rkf f col (2 ^ n - 1)))), ws S') ∧ Zv v S S' ∧ VM S' v n (rkf f col) := by
    intro u
    induction u with
    | zero =>
      intro s S1 hs hz hq ht
      have : s = 2 ^ n := by omega
      subst this
      have hV : VM S1 v n (rkf f col) := ⟨hv, hn, hq, fun t htn => ⟨ht t htn, rkf_le⟩⟩
      rw [eX11_byColumns_10, m_all _ hV, cI_some, wc_bind, if_pos (p2_end hn)]
      dsimp only
      rw [m_total _ hV, cI_some, wc_bind]
      dsimp only
      exact ⟨S1, rfl, hz, hV⟩
    | succ u ih =>
      intro s S1 hs hz hq ht
      have hsn : s < 2 ^ n := by omega
      have hs7 := h128 s hsn
      have hall : am_cal am_mt (d + 3) jX11_all [.ref 88, .int (nI v)] (ws S1) = some (some (.int (nI (2 ^ n - 1))), ws S1) := by
        rw [eX11_all_0, kO88, if_T, kR88_2, wc_bind, kA91 S1 hv, hq, wc_bind, wc_all (by omega)]
      have hM1 : MC S1 := ⟨fun x hx => by rw [hz.1 89 (by decide) (by decide) (by decide)]; exact hM.1 x hx, fun x hx => by rw [hz.1 90 (by decide) (by decide) (by decide)]; exact hM.2 x hx⟩
      rw [eX11_byColumns_10, hall, cI_some, wc_bind, if_neg (show ¬ nI (2 ^ n - 1) < nI s from nI_nlt (by omega) (by omega))]
      dsimp only
      obtain ⟨S2, a1, a2⟩ := m_rankOf d (s := s) hf hc hM1 hn hsn (fun g hg j hj => by rw [hz.1 93 (by decide) (by decide) (by decide)]; exact hcol g hg j hj)
      rw [kR88_3, wc_bind, a1, cI_some, wc_bind]
      dsimp only
      rw [wc_row, kW92 S2 (by omega), wc_bind, nI_1]
      refine ih (s + 1) _ (by omega) ⟨fun c h1 h2 h3 => ?_, fun i hi => ?_, fun i hi => ?_⟩ ?_ (fun t htt => ?_)
      · rw [up_ne c h2, a2 c h3]; exact hz.1 c h1 h2 h3
      · rw [up_ne 91 (by decide), a2 91 (by decide)]; exact hz.2.1 i hi
      · rw [up_upd]; unfold upd; rw [if_neg (by omega), a2 92 (by decide)]; exact hz.2.2 i hi
      · rw [up_ne 91 (by decide), a2 91 (by decide)]; exact hq
      · rw [up_upd]; unfold upd
        by_cases hts : t = s
        · rw [if_pos (by omega), hts]
        · rw [if_neg (by omega), a2 92 (by decide)]; exact ht t (by omega)
  refine key (2 ^ n) 0 _ (by omega) ⟨fun c h1 _ _ => up_ne c h1, fun i hi => ?_, fun i _ => by rw [up_ne 92 (by decide)]⟩ (up_self _ _ _ _) (fun t ht => absurd ht (Nat.not_lt_zero t))
  rw [up_upd]; unfold upd; rw [if_neg hi]
