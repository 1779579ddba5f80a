/-! ===== holds ===== -/
theorem kd_h {h : Nat} (hh : h < 4) : kdl[68 + 3 * h]? = some (0, 3, 0, [(3, 0), (0, 0), (1, 69 + 3 * h)]) := by
  rcases (show h = 0 ∨ h = 1 ∨ h = 2 ∨ h = 3 by omega) with rfl | rfl | rfl | rfl <;> rfl
theorem hO (S : am_S) {h : Nat} (hh : h < 4) : am_isO (ws S) (68 + 3 * h) 3 = true := ws_isO (kd_h hh)
theorem hN0 (S : am_S) {h : Nat} (hh : h < 4) (hs : S (68 + 3 * h) 0 < 0) : am_fN (ws S) (68 + 3 * h) 3 0 = some none := by rw [ws_fN (kd_h hh) rfl, if_pos hs]
theorem hN1 (S : am_S) {h q : Nat} (hh : h < 4) (hs : S (68 + 3 * h) 0 = nI q) (hq : q < 2 ^ 31) : am_fN (ws S) (68 + 3 * h) 3 0 = some (some q) := by rw [ws_fN (kd_h hh) rfl, hs, if_neg (nI_pos hq), nI_clamp hq]
theorem hI1 (S : am_S) {h : Nat} (hh : h < 4) : am_fI (ws S) (68 + 3 * h) 3 1 = some (S (68 + 3 * h) 1) := ws_fI (kd_h hh) rfl
theorem hR2 (S : am_S) {h : Nat} (hh : h < 4) : am_fR (ws S) (68 + 3 * h) 3 2 = some (69 + 3 * h) := ws_fR (kd_h hh) rfl
theorem hSr (S : am_S) {h q : Nat} (hh : h < 4) (hq : q < 2 ^ 31) : am_sF (ws S) (68 + 3 * h) 3 0 (.ref q) = some (ws (up S (68 + 3 * h) 0 (nI q))) := ws_sFN (kd_h hh) rfl hq
theorem hSn (S : am_S) {h : Nat} (hh : h < 4) : am_sF (ws S) (68 + 3 * h) 3 0 .null = some (ws (up S (68 + 3 * h) 0 (-1))) := ws_sF0 (kd_h hh) rfl
theorem hS1 (S : am_S) {h : Nat} (hh : h < 4) (x : Int32) : am_sF (ws S) (68 + 3 * h) 3 1 (.int x) = some (ws (up S (68 + 3 * h) 1 x)) := ws_sFI (kd_h hh) rfl
theorem on_none {β : Type} (a : β) (f : Nat → β) : am_on none a f = a := rfl
theorem on_some {β : Type} (q : Nat) (a : β) (f : Nat → β) : am_on (some q) a f = f q := rfl
theorem c3_emptyA (d : Nat) (S : am_S) {h : Nat} (hh : h < 4) (h0 : S (68 + 3 * h) 0 < 0) (h1 : S (68 + 3 * h) 1 = 0) : am_cal am_mt (d + 1) jX3_isEmpty [.ref (68 + 3 * h)] (ws S) = some (some (.int 1), ws S) := by
  rw [eX3_isEmpty_0, hO S hh, if_T, hN0 S hh h0, wc_bind, on_none, hI1 S hh, wc_bind, if_pos h1]
theorem c3_emptyB (d : Nat) (S : am_S) {h q : Nat} (hh : h < 4) (h0 : S (68 + 3 * h) 0 = nI q) (hq : q < 2 ^ 31) : am_cal am_mt (d + 1) jX3_isEmpty [.ref (68 + 3 * h)] (ws S) = some (some (.int 0), ws S) := by
  rw [eX3_isEmpty_0, hO S hh, if_T, hN1 S hh h0 hq, wc_bind, on_some]
theorem c3_emptyC (d : Nat) (S : am_S) {h : Nat} (hh : h < 4) (h0 : S (68 + 3 * h) 0 < 0) (h1 : S (68 + 3 * h) 1 = 1) : am_cal am_mt (d + 1) jX3_isEmpty [.ref (68 + 3 * h)] (ws S) = some (some (.int 0), ws S) := by
  rw [eX3_isEmpty_0, hO S hh, if_T, hN0 S hh h0, wc_bind, on_none, hI1 S hh, wc_bind, if_neg (by rw [h1]; decide)]
theorem z00 : (0 : Int32) = 0 := rfl
theorem z10 : ¬ (1 : Int32) = 0 := by decide
theorem wc_4 (h : Nat) : (4 : Int32) + nI h = nI (4 + h) := by rw [show (4 : Int32) = nI 4 from rfl, nI_add]
theorem wc_8 (h : Nat) : (8 : Int32) + nI h = nI (8 + h) := by rw [show (8 : Int32) = nI 8 from rfl, nI_add]
theorem c2_tellOf (d : Nat) {S : am_S} {q f : Nat} (h : FC S q f) {w : Nat} (hw : w < 2) : am_cal am_mt (d + 1) jX2_tellOf [.ref q, .int (nI w)] (ws S) = some (some (.int (if w = 0 then nI (fsz f) else if f < 3 then 1 else 0)), ws S) := by
  have hf := h.lt
  rw [eX2_tellOf_0, h.O, if_T, h.fI, wc_bind, wc_bind]
  rcases (show w = 0 ∨ w = 1 by omega) with rfl | rfl
  · rw [if_pos (by decide), if_pos rfl]
  · rw [if_neg (show ¬ nI 1 = 0 by decide), if_neg (show ¬ 1 = 0 by decide)]
    by_cases h3 : f = 3
    · rw [if_pos ((f4I f hf).mpr h3), if_neg (show ¬ f < 3 by omega)]
    · rw [if_neg (fun c => h3 ((f4I f hf).mp c)), if_pos (show f < 3 by omega)]
theorem pu_held : am_ag Inv jX10_held jX11_held 2 := ah_2 (fun d S x1 x2 hR => by
  rcases inR_of (x := x1) (n := 4) (by decide) with h1 | ⟨h, hh, rfl⟩
  · refine ag3_p hR (-2) ?_ ?_
    · rw [eX10_held_0, kO0, if_T, c_below, cI_some, wc_bind, show (4 : Int32) = nI 4 from rfl, h1, if_pos bI_F]
    · rw [eX11_held_0, kO88, if_T, m_isHold, cI_some, wc_bind, h1, if_pos bI_F]
  have hh4 : inR (nI h) (nI 4) = true := inR_T hh (by decide)
  rcases inR_of (x := x2) (n := 5) (by decide) with h1 | ⟨w, hw, rfl⟩
  · refine ag3_p hR (-2) ?_ ?_
    · rw [eX10_held_0, kO0, if_T, c_below, cI_some, wc_bind, show (inR (nI h) (4 : Int32)) = true from hh4, if_neg bI_T, c_below, cI_some, wc_bind, show (inR x2 (5 : Int32)) = false from h1, if_pos bI_F]
    · rw [eX11_held_0, kO88, if_T, m_isHold, cI_some, wc_bind, hh4, if_neg bI_T, m_in4, cI_some, wc_bind, h1, if_pos bI_F]
  have hw5 : inR (nI w) (nI 5) = true := inR_T hw (by decide)
  rcases hR.2.2.2.1 h hh with ⟨a1, a2, a3⟩ | ⟨k, hk, a1, a2, a3, a4⟩ | ⟨a1, a2, a3, n, ρ, hm, hC, hM⟩
  · refine ag3_p hR (-11) ?_ ?_
    · rw [eX10_held_0, kO0, if_T, c_below, cI_some, wc_bind, show (inR (nI h) (4 : Int32)) = true from hh4, if_neg bI_T, c_below, cI_some, wc_bind, show (inR (nI w) (5 : Int32)) = true from hw5, if_neg bI_T, kR0_2, wc_bind, kQh S hh, wc_bind, c3_emptyA _ S hh a1 a2, cI_some, wc_bind, if_neg z10]
    · rw [eX11_held_0, kO88, if_T, m_isHold, cI_some, wc_bind, hh4, if_neg bI_T, m_in4, cI_some, wc_bind, hw5, if_neg bI_T, kR88_16, wc_bind, kA102 S hh, wc_bind, a3, if_pos z00]
  · have hF := hR.1.1 k hk
    have hfin : am_cal am_mt (d + 20) jX10_held [.ref 0, .int (nI h), .int (nI w)] (ws S) = if (2 : Int32) ≤ nI w then some (some (.int (-13 : Int32)), ws S) else (am_cI (am_cal am_mt (d + 19) jX2_tellOf [.ref (52 + 2 * k), .int (nI w)] (ws S))).bind fun q14 => some (some (.int q14.1), q14.2) := by
      rw [eX10_held_0, kO0, if_T, c_below, cI_some, wc_bind, show (inR (nI h) (4 : Int32)) = true from hh4, if_neg bI_T, c_below, cI_some, wc_bind, show (inR (nI w) (5 : Int32)) = true from hw5, if_neg bI_T, kR0_2, wc_bind, kQh S hh, wc_bind, c3_emptyB _ S hh a1 (by omega), cI_some, wc_bind, if_pos z00, hN1 S hh a1 (by omega), wc_bind, on_some]
    have hM1 : am_cal am_mt (d + 20) jX11_held [.ref 88, .int (nI h), .int (nI w)] (ws S) = if (2 : Int32) ≤ nI w then am_run false (am_cal am_mt (d + 19)) (am_lk tbX11_held) 47 [some (.ref 88), some (.int (nI h)), some (.int (nI w))] [.int (2 : Int32), .int (1 : Int32)] (ws S) else am_run false (am_cal am_mt (d + 19)) (am_lk tbX11_held) 47 [some (.ref 88), some (.int (nI h)), some (.int (nI w))] [.int (1 : Int32), .int (1 : Int32)] (ws S) := by
      rw [eX11_held_0, kO88, if_T, m_isHold, cI_some, wc_bind, hh4, if_neg bI_T, m_in4, cI_some, wc_bind, hw5, if_neg bI_T, kR88_16, wc_bind, kA102 S hh, wc_bind, a3, if_neg z10, wc_bind, kA102 S hh, wc_bind, a3]
    by_cases hw2 : w < 2
    · have hlt : ¬ (2 : Int32) ≤ nI w := nI_ge (b := 2) hw2 (by decide)
      refine ag3_p hR (if w = 0 then nI (fsz k) else if k < 3 then 1 else 0) ?_ ?_
      · rw [hfin, if_neg hlt, c2_tellOf _ hF hw2, cI_some, wc_bind]
      · rw [hM1, if_neg hlt, eX11_held_47, if_pos rfl]
        rcases (show w = 0 ∨ w = 1 by omega) with rfl | rfl
        · rw [if_pos (by decide), kR88_0, wc_bind, kR88_17, wc_bind, kA103 S hh, wc_bind, a4, hR.1.2.sz hk, wc_bind, if_pos rfl]
        · rw [if_neg (by decide), if_pos (by decide), kR88_17, wc_bind, kA103 S hh, wc_bind, a4, if_neg (show ¬ 1 = 0 by decide)]
          by_cases h3 : k < 3
          · rw [if_neg (show ¬ (3 : Int32) ≤ nI k from nI_ge (b := 3) h3 (by decide)), if_pos h3]
          · rw [if_pos (show (3 : Int32) ≤ nI k from nI_le (a := 3) (by omega) (by omega)), if_neg h3]
    · have hlt : (2 : Int32) ≤ nI w := nI_le (a := 2) (by omega) (by omega)
      refine ag3_p hR (-13) ?_ ?_
      · rw [hfin, if_pos hlt]
      · rw [hM1, if_pos hlt, eX11_held_47, if_neg (by decide)]
  · have h7 := hC.n7
    have e11 : ∀ e : Int32, e = 1 → ¬ e = 0 := fun e he => by rw [he]; decide
    have hfin : am_cal am_mt (d + 20) jX10_held [.ref 0, .int (nI h), .int (nI w)] (ws S) = if nI w = (2 : Int32) then ((am_fR (ws S) (68 + 3 * h) 3 2).bind fun p8 => (am_fI (ws S) p8 8 0).bind fun v9 => some (some (.int v9), ws S)) else if nI w = (3 : Int32) then ((am_fR (ws S) (68 + 3 * h) 3 2).bind fun p10 => (am_cI (am_cal am_mt (d + 19) jX8_fullRank [.ref p10] (ws S))).bind fun q11 => some (some (.int q11.1), q11.2)) else if nI w = (4 : Int32) then ((am_fR (ws S) (68 + 3 * h) 3 2).bind fun p12 => (am_cI (am_cal am_mt (d + 19) jX8_countOf [.ref p12, .int (2 : Int32)] (ws S))).bind fun q13 => some (some (.int q13.1), q13.2)) else some (some (.int (-13 : Int32)), ws S) := by
      rw [eX10_held_0, kO0, if_T, c_below, cI_some, wc_bind, show (inR (nI h) (4 : Int32)) = true from hh4, if_neg bI_T, c_below, cI_some, wc_bind, show (inR (nI w) (5 : Int32)) = true from hw5, if_neg bI_T, kR0_2, wc_bind, kQh S hh, wc_bind, c3_emptyC _ S hh a1 a2, cI_some, wc_bind, if_pos z00, hN0 S hh a1, wc_bind, on_none]
    have hM1 : am_cal am_mt (d + 20) jX11_held [.ref 88, .int (nI h), .int (nI w)] (ws S) = if (2 : Int32) ≤ nI w then am_run false (am_cal am_mt (d + 19)) (am_lk tbX11_held) 47 [some (.ref 88), some (.int (nI h)), some (.int (nI w))] [.int (2 : Int32), .int (2 : Int32)] (ws S) else am_run false (am_cal am_mt (d + 19)) (am_lk tbX11_held) 47 [some (.ref 88), some (.int (nI h)), some (.int (nI w))] [.int (1 : Int32), .int (2 : Int32)] (ws S) := by
      rw [eX11_held_0, kO88, if_T, m_isHold, cI_some, wc_bind, hh4, if_neg bI_T, m_in4, cI_some, wc_bind, hw5, if_neg bI_T, kR88_16, wc_bind, kA102 S hh, wc_bind, a3, if_neg (show ¬ (2 : Int32) = 0 by decide), wc_bind, kA102 S hh, wc_bind, a3]
    by_cases hw2 : w < 2
    · have hlt : ¬ (2 : Int32) ≤ nI w := nI_ge (b := 2) hw2 (by decide)
      refine ag3_p hR (-13) ?_ ?_
      · rw [hfin]
        rcases (show w = 0 ∨ w = 1 by omega) with rfl | rfl
        · rw [if_neg (by decide), if_neg (by decide), if_neg (by decide)]
        · rw [if_neg (by decide), if_neg (by decide), if_neg (by decide)]
      · rw [hM1, if_neg hlt, eX11_held_47, if_neg (by decide)]
    · have hlt : (2 : Int32) ≤ nI w := nI_le (a := 2) (by omega) (by omega)
      have hM2 := hM1
      rw [if_pos hlt, eX11_held_47, if_pos rfl, wc_4] at hM2
      rcases (show w = 2 ∨ w = 3 ∨ w = 4 by omega) with rfl | rfl | rfl
      · refine ag3_p hR (nI n) ?_ ?_
        · rw [hfin, if_pos (by decide), hR2 S hh, wc_bind, hC.fI, wc_bind]
        · rw [hM2, if_neg (by decide), if_neg (by decide), if_pos (by decide), kR88_2, wc_bind, hM.aI, wc_bind]
      · refine ag3_p hR (nI (ρ (2 ^ n - 1))) ?_ ?_
        · rw [hfin, if_neg (by decide), if_pos (by decide), hR2 S hh, wc_bind, c8_fullRank _ hC, cI_some, wc_bind]
        · rw [hM2, if_neg (by decide), if_neg (by decide), if_neg (by decide), if_pos (by decide), m_total _ hM, cI_some, wc_bind]
      · refine ag3_p hR (nI (cnt n (srt n ρ 2))) ?_ ?_
        · rw [hfin, if_neg (by decide), if_neg (by decide), if_pos (by decide), hR2 S hh, wc_bind, show (2 : Int32) = nI 2 from rfl, c8_countOf _ hC (by decide) (by decide), cI_some, wc_bind]
        · rw [hM2, if_neg (by decide), if_neg (by decide), if_neg (by decide), if_neg (by decide), show (2 : Int32) = nI 2 from rfl, m_countOf _ hM (by decide) (by decide), cI_some, wc_bind])
theorem pu_take : am_ag Inv jX10_take jX11_take 2 := ah_2 (fun d S x1 x2 hR => by
  rcases inR_of (x := x1) (n := 4) (by decide) with h1 | ⟨v, hv, rfl⟩
  · refine ag3_p hR (-2) ?_ ?_
    · rw [eX10_take_0, kO0, if_T, c_below, cI_some, wc_bind, show (4 : Int32) = nI 4 from rfl, h1, if_pos bI_F]
    · rw [eX11_take_0, kO88, if_T, m_isView, cI_some, wc_bind, h1, if_pos bI_F]
  have hv4 : inR (nI v) (nI 4) = true := inR_T hv (by decide)
  rcases inR_of (x := x2) (n := 4) (by decide) with h1 | ⟨h, hh, rfl⟩
  · refine ag3_p hR (-2) ?_ ?_
    · rw [eX10_take_0, kO0, if_T, c_below, cI_some, wc_bind, show (4 : Int32) = nI 4 from rfl, hv4, if_neg bI_T, c_below, cI_some, wc_bind, h1, if_pos bI_F]
    · rw [eX11_take_0, kO88, if_T, m_isView, cI_some, wc_bind, hv4, if_neg bI_T, m_isHold, cI_some, wc_bind, h1, if_pos bI_F]
  have hh4 : inR (nI h) (nI 4) = true := inR_T hh (by decide)
  rcases hR.2.2.2.1 h hh with ⟨a1, a2, a3⟩ | ⟨k, hk, a1, a2, a3, a4⟩ | ⟨a1, a2, a3, n, ρ, hm, hC, hM⟩
  · refine ag3_p hR (-11) ?_ ?_
    · rw [eX10_take_0, kO0, if_T, c_below, cI_some, wc_bind, show (4 : Int32) = nI 4 from rfl, hv4, if_neg bI_T, c_below, cI_some, wc_bind, hh4, if_neg bI_T, kR0_2, wc_bind, kQh S hh, wc_bind, c3_emptyA _ S hh a1 a2, cI_some, wc_bind, if_neg z10]
    · rw [eX11_take_0, kO88, if_T, m_isView, cI_some, wc_bind, hv4, if_neg bI_T, m_isHold, cI_some, wc_bind, hh4, if_neg bI_T, kR88_16, wc_bind, kA102 S hh, wc_bind, a3, if_neg (show ¬ (0 : Int32) = 2 by decide), wc_bind, kA102 S hh, wc_bind, a3, if_pos z00]
  · refine ag3_p hR (-13) ?_ ?_
    · rw [eX10_take_0, kO0, if_T, c_below, cI_some, wc_bind, show (4 : Int32) = nI 4 from rfl, hv4, if_neg bI_T, c_below, cI_some, wc_bind, hh4, if_neg bI_T, kR0_2, wc_bind, kQh S hh, wc_bind, c3_emptyB _ S hh a1 (by omega), cI_some, wc_bind, if_pos z00, kR0_2, wc_bind, kQh S hh, wc_bind, hN1 S hh a1 (by omega), wc_bind, on_some]
    · rw [eX11_take_0, kO88, if_T, m_isView, cI_some, wc_bind, hv4, if_neg bI_T, m_isHold, cI_some, wc_bind, hh4, if_neg bI_T, kR88_16, wc_bind, kA102 S hh, wc_bind, a3, if_neg (show ¬ (1 : Int32) = 2 by decide), wc_bind, kA102 S hh, wc_bind, a3, if_neg z10]
  · obtain ⟨n0, ρ0, _, hC0, hM0⟩ := hR.2.1 v hv
    obtain ⟨Sa, a1', a2', a3'⟩ := c8_become (d + 18) hC0.q hC (by omega) (by omega) (by omega)
    have hMa : VM Sa (4 + h) n ρ := VM_Cr hM a2' (by omega)
    have hka : Sa 102 h = 2 := by rw [a2' 102 (by omega)]; exact a3
    obtain ⟨Sb, b1, b2, b3⟩ := m_copies (d + 18) hMa (show 4 + h ≠ v by omega) (by omega)
    refine ⟨nI n, Sa, Sb, ?_, ?_, R_mk hR hv (Fk_view hv a2') b2 hm a3' b3⟩
    · rw [eX10_take_0, kO0, if_T, c_below, cI_some, wc_bind, show (4 : Int32) = nI 4 from rfl, hv4, if_neg bI_T, c_below, cI_some, wc_bind, hh4, if_neg bI_T, kR0_2, wc_bind, kQh S hh, wc_bind, c3_emptyC _ S hh a1 a2, cI_some, wc_bind, if_pos z00, kR0_2, wc_bind, kQh S hh, wc_bind, hN0 S hh a1, wc_bind, on_none, kR0_1, wc_bind, kQv S hv, wc_bind, wc_bind, kQh S hh, wc_bind, hR2 S hh, wc_bind]
      dsimp only
      rw [a1', cV_some, wc_bind, kR0_1, wc_bind, kQv Sa hv, wc_bind, a3'.fI, wc_bind]
    · rw [eX11_take_0, kO88, if_T, m_isView, cI_some, wc_bind, hv4, if_neg bI_T, m_isHold, cI_some, wc_bind, hh4, if_neg bI_T, kR88_16, wc_bind, kA102 Sa hh, wc_bind, hka, if_pos (show (2 : Int32) = 2 from rfl), wc_4]
      dsimp only
      rw [b1, cV_some, wc_bind, kR88_2, wc_bind, b3.aI, wc_bind])
