/-! ===== hold, count ===== -/
theorem Fk_hold {h : Nat} {S S' : am_S} (hh : h < 4) (hc : Cr (68 + 3 * h) (70 + 3 * h) S S') : Fk (K1 (5 + h)) S S' := Fk_Cr hc (fun c i a b => by rw [comp_h hh (by omega)]; exact K1_j _)
theorem hold_mA (F : am_F) (S : am_S) {h : Nat} (hh : h < 4) (x2 x3 y : Int32) (hx : ¬ x2 = 1) : am_run false F (am_lk tbX11_hold) 59 [some (.ref 88), some (.int (nI h)), some (.int x2), some (.int x3)] [.int y, .int (nI h), .ref 102] (ws S) = some (some (.int 1), ws (up (up S 102 h y) 103 h x3)) := by
  rw [eX11_hold_59, kW102 S hh, wc_bind, kR88_17, wc_bind, kW103 _ hh, wc_bind, if_neg hx]
theorem pu_hold : am_ag Inv jX10_hold jX11_hold 3 := ah_3 (fun d S x1 x2 x3 hR => by
  rcases inR_of (x := x1) (n := 4) (by decide) with h1 | ⟨h, hh, rfl⟩
  · refine ag3_p hR (-2) ?_ ?_
    · rw [eX10_hold_0, kO0, if_T, c_below, cI_some, wc_bind, show (4 : Int32) = nI 4 from rfl, h1, if_pos bI_F]
    · rw [eX11_hold_0, kO88, if_T, m_isHold, cI_some, wc_bind, h1, if_pos bI_F]
  have hh4 : inR (nI h) (nI 4) = true := inR_T hh (by decide)
  rcases inR_of (x := x2) (n := 3) (by decide) with h1 | ⟨w, hw, rfl⟩
  · have ne : ∀ k, k < 3 → ¬ x2 = nI k := fun k hk c => by rw [c, inR_T hk (by decide)] at h1; cases h1
    refine ag3_p hR (-2) ?_ ?_
    · rw [eX10_hold_0, kO0, if_T, c_below, cI_some, wc_bind, show (4 : Int32) = nI 4 from rfl, hh4, if_neg bI_T, if_neg (show ¬ x2 = 0 from ne 0 (by decide))]
      dsimp only
      rw [eX10_hold_41, if_neg (show ¬ x2 = 1 from ne 1 (by decide)), if_neg (show ¬ x2 = 2 from ne 2 (by decide))]
    · rw [eX11_hold_0, kO88, if_T, m_isHold, cI_some, wc_bind, hh4, if_neg bI_T, m_in2, cI_some, wc_bind, h1, if_pos bI_F]
  have hw3 : inR (nI w) (nI 3) = true := inR_T hw (by decide)
  have hgo : am_cal am_mt (d + 20) jX10_hold [.ref 0, .int (nI h), .int (nI w), .int x3] (ws S) = if nI w = (0 : Int32) then (am_cI (am_cal am_mt (d + 19) jX10_isBelow [.int x3, .int (nI 4)] (ws S))).bind fun q2 => if q2.1 = (0 : Int32) then am_run false (am_cal am_mt (d + 19)) (am_lk tbX10_hold) 41 [some (.ref 0), some (.int (nI h)), some (.int (nI w)), some (.int x3)] [] q2.2 else (am_fR q2.2 0 10 2).bind fun p3 => (am_aR q2.2 p3 (nI h)).bind fun p4 => (am_fR q2.2 0 10 0).bind fun p5 => (am_aR q2.2 p5 x3).bind fun p6 => (am_cV (am_cal am_mt (d + 19) jX3_keepField [.ref p4, .ref p6] q2.2)).bind fun q7 => some (some (.int (1 : Int32)), q7) else am_run false (am_cal am_mt (d + 19)) (am_lk tbX10_hold) 41 [some (.ref 0), some (.int (nI h)), some (.int (nI w)), some (.int x3)] [] (ws S) := by
    rw [eX10_hold_0, kO0, if_T, c_below, cI_some, wc_bind, show (4 : Int32) = nI 4 from rfl, hh4, if_neg bI_T]
  have hM1 : am_cal am_mt (d + 20) jX11_hold [.ref 88, .int (nI h), .int (nI w), .int x3] (ws S) = if nI w = (0 : Int32) then (am_cI (am_cal am_mt (d + 19) jX11_isField [.int x3] (ws S))).bind fun q3 => if q3.1 = (0 : Int32) then some (some (.int (-2 : Int32)), q3.2) else am_run false (am_cal am_mt (d + 19)) (am_lk tbX11_hold) 27 [some (.ref 88), some (.int (nI h)), some (.int (nI w)), some (.int x3)] [] q3.2 else am_run false (am_cal am_mt (d + 19)) (am_lk tbX11_hold) 27 [some (.ref 88), some (.int (nI h)), some (.int (nI w)), some (.int x3)] [] (ws S) := by
    rw [eX11_hold_0, kO88, if_T, m_isHold, cI_some, wc_bind, hh4, if_neg bI_T, m_in2, cI_some, wc_bind, hw3, if_neg bI_T]
  have hMg : ∀ S' : am_S, am_cal am_mt (d + 20) jX11_hold [.ref 88, .int (nI h), .int (nI w), .int x3] (ws S') = if nI w = (0 : Int32) then (am_cI (am_cal am_mt (d + 19) jX11_isField [.int x3] (ws S'))).bind fun q3 => if q3.1 = (0 : Int32) then some (some (.int (-2 : Int32)), q3.2) else am_run false (am_cal am_mt (d + 19)) (am_lk tbX11_hold) 27 [some (.ref 88), some (.int (nI h)), some (.int (nI w)), some (.int x3)] [] q3.2 else am_run false (am_cal am_mt (d + 19)) (am_lk tbX11_hold) 27 [some (.ref 88), some (.int (nI h)), some (.int (nI w)), some (.int x3)] [] (ws S') := by
    intro S'
    rw [eX11_hold_0, kO88, if_T, m_isHold, cI_some, wc_bind, hh4, if_neg bI_T, m_in2, cI_some, wc_bind, hw3, if_neg bI_T]
  rcases (show w = 0 ∨ w = 1 ∨ w = 2 by omega) with rfl | rfl | rfl
  · rcases inR_of (x := x3) (n := 4) (by decide) with h3 | ⟨k, hk, rfl⟩
    · refine ag3_p hR (-2) ?_ ?_
      · rw [hgo, if_pos nI_0, c_below, cI_some, wc_bind, h3, if_pos bI_F]
        dsimp only
        rw [eX10_hold_41, if_neg (show ¬ nI 0 = 1 by decide), if_neg (show ¬ nI 0 = 2 by decide)]
      · rw [hM1, if_pos nI_0, m_isField, cI_some, wc_bind, h3, if_pos bI_F]
    · have hk4 : inR (nI k) (nI 4) = true := inR_T hk (by decide)
      refine ⟨1, up (up S (68 + 3 * h) 0 (nI (52 + 2 * k))) (68 + 3 * h) 1 0, up (up (up (up S (68 + 3 * h) 0 (nI (52 + 2 * k))) (68 + 3 * h) 1 0) 102 h 1) 103 h (nI k), ?_, ?_, ?_⟩
      · rw [hgo, if_pos nI_0, c_below, cI_some, wc_bind, hk4, if_neg bI_T, kR0_2, wc_bind, kQh S hh, wc_bind, kR0_0, wc_bind, kQf S hk, wc_bind, eX3_keepField_0, hO S hh, if_T, hSr S hh (by omega), wc_bind, hS1 _ hh, wc_bind, cV_some, wc_bind]
      · rw [hMg, if_pos nI_0, m_isField, cI_some, wc_bind, hk4, if_neg bI_T]
        dsimp only
        rw [eX11_hold_27, if_neg (show ¬ nI 0 = 1 by decide), eX11_hold_42, kR88_16, wc_bind, if_neg (show ¬ nI 0 = 2 by decide), show (1 : Int32) + nI 0 = 1 from rfl, hold_mA _ _ hh _ _ _ (by decide)]
      · refine R_1 (j := 5 + h) hR (Fk_up (Fk_up (Fk_up (Fk_up Fk.rf _ (comp_h hh (Or.inl rfl) 0) (K1_j _)) _ (comp_h hh (Or.inl rfl) 1) (K1_j _)) _ (comp_102 h) (K1_j _)) _ (comp_103 h) (K1_j _)) ?_
        rw [RC_h hh]
        refine Or.inr (Or.inl ⟨k, hk, ?_, ?_, ?_, ?_⟩)
        · rw [up_ne _ (by omega), up_ne _ (by omega), up_upd]; unfold upd; rw [if_neg (by decide)]; exact up_self _ _ _ _
        · rw [up_ne _ (by omega), up_ne _ (by omega)]; exact up_self _ _ _ _
        · rw [up_ne _ (by omega)]; exact up_self _ _ _ _
        · exact up_self _ _ _ _
  · rcases inR_of (x := x3) (n := 4) (by decide) with h3 | ⟨k, hk, rfl⟩
    · refine ag3_p hR (-2) ?_ ?_
      · rw [hgo, if_neg (show ¬ nI 1 = 0 by decide), eX10_hold_41, if_pos (show nI 1 = 1 by decide), c_below, cI_some, wc_bind, show inR x3 (4 : Int32) = false from h3, if_pos bI_F, if_neg (show ¬ nI 1 = 2 by decide)]
      · rw [hM1, if_neg (show ¬ nI 1 = 0 by decide), eX11_hold_27, if_pos (show nI 1 = 1 by decide), m_isView, cI_some, wc_bind, h3, if_pos bI_F]
    · have hk4 : inR (nI k) (nI 4) = true := inR_T hk (by decide)
      obtain ⟨n, ρ, hm, hC, hM⟩ := hR.2.1 k hk
      have hCr : Cr (68 + 3 * h) (70 + 3 * h) S (up (up S (68 + 3 * h) 0 (-1)) (68 + 3 * h) 1 1) := Cr_up (Cr_up Cr.rf (by omega) (by omega)) (by omega) (by omega)
      have hC' : VC (up (up S (68 + 3 * h) 0 (-1)) (68 + 3 * h) 1 1) (60 + 2 * k) n ρ := VC_Cr hC hCr (by omega)
      obtain ⟨Sa, a1, a2, a3⟩ := c8_become (d + 17) (vq_h hh) hC' (by omega) (by omega) (by omega)
      have hCa : Cr (68 + 3 * h) (70 + 3 * h) S Sa := hCr.tr (a2.wk (by omega) (by omega))
      have hMa : VM (up (up Sa 102 h 2) 103 h (nI k)) k n ρ := VM_Cr (VM_Cr hM hCa (by omega)) (Cr_up (Cr_up Cr.rf (by decide) (by decide)) (by decide) (by decide) : Cr 102 103 Sa _) (by omega)
      obtain ⟨Sb, b1, b2, b3⟩ := m_copies (d + 18) hMa (show k ≠ 4 + h by omega) (by omega)
      refine ⟨1, Sa, Sb, ?_, ?_, ?_⟩
      · rw [hgo, if_neg (show ¬ nI 1 = 0 by decide), eX10_hold_41, if_pos (show nI 1 = 1 by decide), c_below, cI_some, wc_bind, show inR (nI k) (4 : Int32) = true from hk4, if_neg bI_T, kR0_2, wc_bind, kQh S hh, wc_bind, kR0_1, wc_bind, kQv S hk, wc_bind, eX3_keepView_0, hO S hh, if_T, hSn S hh, wc_bind, hS1 _ hh, wc_bind, hR2 _ hh, wc_bind, a1, cV_some, wc_bind, cV_some, wc_bind]
      · rw [hMg, if_neg (show ¬ nI 1 = 0 by decide), eX11_hold_27, if_pos (show nI 1 = 1 by decide), m_isView, cI_some, wc_bind, hk4, if_neg bI_T]
        dsimp only
        rw [eX11_hold_42, kR88_16, wc_bind, if_neg (show ¬ nI 1 = 2 by decide), show (1 : Int32) + nI 1 = 2 from rfl, eX11_hold_59, kW102 _ hh, wc_bind, kR88_17, wc_bind, kW103 _ hh, wc_bind, if_pos (show nI 1 = 1 by decide), wc_4, b1, cV_some, wc_bind]
      · have h3 := Fk_Mw b2
        unfold rowc at h3
        rw [if_neg (by omega), if_pos (by omega), show 1 + (4 + h) = 5 + h by omega] at h3
        refine R_1 (j := 5 + h) hR (((Fk_up (Fk_up (Fk_hold hh hCa) _ (comp_102 h) (K1_j _)) _ (comp_103 h) (K1_j _))).tr h3) ?_
        rw [RC_h hh]
        have hu (c i : Nat) (hc : 68 ≤ c ∧ c < 80) : Sb c i = Sa c i := by rw [b2.1 c (by omega) (by omega), up_ne c (by omega), up_ne c (by omega)]
        refine Or.inr (Or.inr ⟨?_, ?_, ?_, n, ρ, hm, ?_, b3⟩)
        · rw [hu _ _ (by omega), a2 _ (by omega), up_upd]; unfold upd; rw [if_neg (by decide), up_self]; decide
        · rw [hu _ _ (by omega), a2 _ (by omega)]; exact up_self _ _ _ _
        · rw [b2.1 102 (by decide) (by decide), up_ne 102 (by decide)]; exact up_self _ _ _ _
        · exact VC_Mw (VC_Cr a3 (Cr_up (Cr_up Cr.rf (by decide) (by decide)) (by decide) (by decide) : Cr 102 103 Sa (up (up Sa 102 h 2) 103 h (nI k))) (by omega)) b2 (by omega)
  · refine ⟨1, up (up S (68 + 3 * h) 0 (-1)) (68 + 3 * h) 1 0, up (up (up (up S (68 + 3 * h) 0 (-1)) (68 + 3 * h) 1 0) 102 h 0) 103 h x3, ?_, ?_, ?_⟩
    · rw [hgo, if_neg (show ¬ nI 2 = 0 by decide), eX10_hold_41, if_neg (show ¬ nI 2 = 1 by decide), if_pos (show nI 2 = 2 by decide), kR0_2, wc_bind, kQh S hh, wc_bind, eX3_letGo_0, hO S hh, if_T, hSn S hh, wc_bind, hS1 _ hh, wc_bind, cV_some, wc_bind]
    · rw [hMg, if_neg (show ¬ nI 2 = 0 by decide), eX11_hold_27, if_neg (show ¬ nI 2 = 1 by decide), eX11_hold_42, kR88_16, wc_bind, if_pos (show nI 2 = 2 by decide), hold_mA _ _ hh _ _ _ (by decide)]
    · refine R_1 (j := 5 + h) hR (Fk_up (Fk_up (Fk_up (Fk_up Fk.rf _ (comp_h hh (Or.inl rfl) 0) (K1_j _)) _ (comp_h hh (Or.inl rfl) 1) (K1_j _)) _ (comp_102 h) (K1_j _)) _ (comp_103 h) (K1_j _)) ?_
      rw [RC_h hh]
      refine Or.inl ⟨?_, ?_, ?_⟩
      · rw [up_ne _ (by omega), up_ne _ (by omega), up_upd]; unfold upd; rw [if_neg (by decide), up_self]; decide
      · rw [up_ne _ (by omega), up_ne _ (by omega)]; exact up_self _ _ _ _
      · rw [up_ne _ (by omega)]; exact up_self _ _ _ _)
