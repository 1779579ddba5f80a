/-! ===== the reference's ranks of columns: what it answers ===== -/
theorem m_rankOf (d : Nat) {S : am_S} {f n s : Nat} {col : Nat → vec} (hf : f < 4) (hc : vdc f col) (hM : MC S) (hn : n ≤ 7) (hs : s < 2 ^ n) (hcol : ∀ g, g < n → ∀ j, j < 7 → S 93 (7 * g + j) = nI (col g j)) : ∃ S', am_cal am_mt (d + 3) jX11_rankOf [.ref 88, .int (nI f), .int (nI s)] (ws S) = some (some (.int (nI (rkf f col s))), ws S') ∧ F94 S S' := by
  have hs7 := p2_128 hn hs
  have key : ∀ u g N S1 r z5, g + u = 7 → N ≤ g → F94 S S1 → RW S1 N r → (∀ i, i < N → vd f (r i)) → (∀ Q : vec → Prop, (∀ i, i < N → Q (r i)) ↔ ∀ x, x < 7 → s.testBit x = true → x < g → Q (col x)) → ∃ S', am_run false (am_cal am_mt (d + 2)) (am_lk tbX11_rankOf) 5 [some (.ref 88), some (.int (nI f)), some (.int (nI s)), some (.int (nI N)), some (.int (nI g)), z5, none, none, none, none] [] (ws S1) = some (some (.int (nI (rkf f col s))), ws S') ∧ F94 S S' := by
    intro u
    induction u with
    | zero =>
      intro g N S1 r z5 hg hN h1 hr hv hQ
      have : g = 7 := by omega
      subst this
      rw [eX11_rankOf_5, if_pos (by decide), show (0 : Int32) = nI 0 from rfl]
      obtain ⟨S2, a1, a2⟩ := rk_80 d (s := s) hf hc hN 7 0 0 S1 r (fun _ => false) (fun _ _ => 0) none none none none rfl (GI_0 hN hv (fun W _ => (hQ W).trans ⟨fun h x hx hb => h x hx hb hx, fun h x hx hb _ => h x hx hb⟩)) hr (MC_F94 hM h1)
      exact ⟨S2, a1, fun x hx => (a2 x hx).trans (h1 x hx)⟩
    | succ u ih =>
      intro g N S1 r z5 hg hN h1 hr hv hQ
      have hg7 : g < 7 := by omega
      rw [eX11_rankOf_5, if_neg (show ¬ (7 : Int32) ≤ nI g from nI_ge (b := 7) hg7 (by decide)), m_has _ (show s < 2 ^ 31 by omega) (show g < 32 by omega), cI_some, wc_bind]
      cases hb : s.testBit g with
      | false =>
        rw [if_pos bI_F, nI_1]
        dsimp only
        refine ih (g + 1) N S1 r _ (by omega) (by omega) h1 hr hv (fun Q => (hQ Q).trans ⟨fun h x hx hbx hxg => ?_, fun h x hx hbx hxg => h x hx hbx (by omega)⟩)
        have hxg' : x ≠ g := fun y => by rw [y, hb] at hbx; cases hbx
        exact h x hx hbx (by omega)
      | true =>
        rw [if_neg bI_T, show (0 : Int32) = nI 0 from rfl]
        dsimp only
        have hgn : g < n := by
          apply Classical.byContradiction
          intro y
          rw [Nat.testBit_lt_two_pow (Nat.lt_of_lt_of_le hs (Nat.pow_le_pow_right (by omega) (by omega)))] at hb
          cases hb
        obtain ⟨S2, a1, a2⟩ := rk_copy (d + 2) (f := f) (s := s) (N := N) (u := col g) (S := S1) (by omega) hg7 (fun j hj => by rw [h1 93 (by decide)]; exact hcol g hgn j hj)
        rw [a1]
        have e0 : updE r N (col g) N = col g := if_pos rfl
        have e1 : ∀ i, i < N → updE r N (col g) i = r i := fun i hi => if_neg (by omega)
        refine ih (g + 1) (N + 1) S2 (updE r N (col g)) _ (by omega) (by omega) (fun x hx => (a2.1 x hx).trans (h1 x hx)) (fun i hi j hj => ?_) (fun i hi => ?_) (fun Q => ⟨fun h x hx hbx hxg => ?_, fun h i hi => ?_⟩)
        · by_cases hiN : i = N
          · rw [hiN, e0]; exact a2.2.2 j hj
          · rw [e1 i (by omega), a2.2.1 _ (by omega)]; exact hr i (by omega) j hj
        · by_cases hiN : i = N
          · rw [hiN, e0]; exact hc g hg7
          · rw [e1 i (by omega)]; exact hv i (by omega)
        · by_cases hxe : x = g
          · rw [hxe, ← e0]; exact h N (by omega)
          · exact (hQ Q).1 (fun i hi => by rw [← e1 i hi]; exact h i (by omega)) x hx hbx (by omega)
        · by_cases hiN : i = N
          · rw [hiN, e0]; exact h g hg7 hb (by omega)
          · rw [e1 i (by omega)]; exact (hQ Q).2 (fun x hx hbx hxg => h x hx hbx (by omega)) i (by omega)
  rw [eX11_rankOf_0, kO88, if_T, show (0 : Int32) = nI 0 from rfl]
  exact key 7 0 0 S (fun _ _ => 0) none (by omega) (Nat.le_refl 0) (fun _ _ => rfl) (fun i hi => absurd hi (Nat.not_lt_zero i)) (fun i hi => absurd hi (Nat.not_lt_zero i)) (fun Q => ⟨fun _ x _ _ hx => absurd hx (Nat.not_lt_zero x), fun _ i hi => absurd hi (Nat.not_lt_zero i)⟩)
