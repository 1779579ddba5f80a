/-! ===== renumber as a call ===== -/
theorem c8_ren (d : Nat) {S : am_S} {q p n : Nat} {ρ : Nat → Nat} {f : Nat → Nat} (kq : vq q) (hf : isP n f) (hm : mat n ρ) (h : VC S p n ρ) (hw : ∀ e, e < n → S 49 e = nI (2 ^ f e)) (hpq : p + 1 < q ∨ q + 1 < p) (hq49 : q + 1 < 49 ∨ 49 < q) : ∃ S', am_cal am_mt (d + 3) jX8_becomeRenumbered [.ref q, .ref p, .ref 48] (ws S) = some (none, ws S') ∧ Cr q (q + 1) S S' ∧ VC S' q n (ren n f ρ) := by
  have hn := h.n7
  rw [eX8_becomeRenumbered_0, kq.O, if_T, h.fI, wc_bind, kq.sF, wc_bind]
  have key : ∀ k u S', u + k = 2 ^ n → Cr q (q + 1) S S' → S' q 0 = nI n → (∀ t, t < u → S' (q + 1) (nst n f t) = nI (ρ t)) → ∃ S'', am_run false (am_cal am_mt (d + 2)) (am_lk tbX8_becomeRenumbered) 10 [some (.ref q), some (.ref p), some (.ref 48), some (.int (nI u))] [] (ws S') = some (none, ws S'') ∧ Cr q (q + 1) S S'' ∧ VC S'' q n (ren n f ρ) := by
    intro k
    induction k with
    | zero =>
      intro u S' he hc hq ht
      have : u = 2 ^ n := by omega
      subst this
      rw [eX8_becomeRenumbered_10, kq.all _ hn hq, cI_some, wc_bind, if_pos (p2_end hn)]
      dsimp only
      refine ⟨S', rfl, hc, kq.1, kq.2, hn, hq, fun t ht2 => ?_⟩
      have := ht (ist n f t) (ist_lt t)
      rw [nst_ist hf ht2] at this
      exact ⟨this, mat_7 (mat_ren hf hm) hn ht2⟩
    | succ k ih =>
      intro u S' he hc hq ht
      have hu : u < 2 ^ n := by omega
      have hu7 := p2_128 hn hu
      have h' := VC_Cr h hc (by omega)
      have hnu := nst_lt hf u
      have hnu7 := p2_128 hn hnu
      rw [eX8_becomeRenumbered_10, kq.all _ hn hq, cI_some, wc_bind, if_neg (p2_all hu hn), kq.fR, wc_bind]
      dsimp only
      rw [c6_newSet _ hn (fun e he' => by rw [hc 49 (by omega)]; exact hw e he') hu, cI_some, wc_bind]
      dsimp only
      rw [c8_rankOf _ h' hu, cI_some, wc_bind]
      dsimp only
      rw [kq.sI _ hnu7, wc_bind, nI_1]
      refine ih (u + 1) _ (by omega) (Cr_up hc (by omega) (by omega)) (by rw [up_ne q (by omega)]; exact hq) (fun t ht' => ?_)
      rw [up_upd]
      unfold upd
      by_cases htu : t = u
      · rw [htu, if_pos rfl]
      · have hne : nst n f t ≠ nst n f u := fun c => htu (by rw [← ist_nst hf (show t < 2 ^ n by omega), c, ist_nst hf hu])
        rw [if_neg hne]
        exact ht t (by omega)
  exact key (2 ^ n) 0 _ (by omega) (Cr_up Cr.rf (by omega) (by omega)) (up_self _ _ _ _) (fun t ht => absurd ht (Nat.not_lt_zero t))
theorem m_rens (d : Nat) {S : am_S} {v w s l n : Nat} {ρ : Nat → Nat} {b : Nat → Int32} (hv : v < 4) (hw : w < 4) (hnl : n ≤ l) (hm : mat n ρ) (h : VM S v n ρ) (hS : shM S s l b) : (rdn n b n 0 0 = false → am_run false (am_cal am_mt (d + 2)) (am_lk tbX11_renumber) 61 [some (.ref 88), some (.int (nI v)), some (.int (nI w)), some (.int (nI s)), some (.int (nI 0)), some (.int (nI 0)), none, none] [] (ws S) = some (some (.int (-3)), ws S)) ∧ (rdn n b n 0 0 = true → ∃ S', am_run false (am_cal am_mt (d + 2)) (am_lk tbX11_renumber) 61 [some (.ref 88), some (.int (nI v)), some (.int (nI w)), some (.int (nI s)), some (.int (nI 0)), some (.int (nI 0)), none, none] [] (ws S) = some (some (.int 1), ws S') ∧ Mw w S S' ∧ VM S' w n (ren n (tn b) ρ)) := by
  have hn := h.n7
  have hl64 := hS.2.2.1
  have h27 := p2_le hn
  -- reading
  have rd : ∀ k e u x6, e + k = n → u < 2 ^ n → (rdn n b k e u = false → am_run false (am_cal am_mt (d + 2)) (am_lk tbX11_renumber) 61 [some (.ref 88), some (.int (nI v)), some (.int (nI w)), some (.int (nI s)), some (.int (nI u)), some (.int (nI e)), x6, none] [] (ws S) = some (some (.int (-3)), ws S)) ∧ (rdn n b k e u = true → ∃ y4 y6, am_run false (am_cal am_mt (d + 2)) (am_lk tbX11_renumber) 61 [some (.ref 88), some (.int (nI v)), some (.int (nI w)), some (.int (nI s)), some (.int (nI u)), some (.int (nI e)), x6, none] [] (ws S) = am_run false (am_cal am_mt (d + 2)) (am_lk tbX11_renumber) 134 [some (.ref 88), some (.int (nI v)), some (.int (nI w)), some (.int (nI s)), some (.int y4), some (.int (nI 0)), y6, none] [] (ws S)) := by
    intro k
    induction k with
    | zero =>
      intro e u x6 he hu
      have : e = n := by omega
      subst this
      refine ⟨fun hq => (by cases hq), fun _ => ⟨nI u, x6, ?_⟩⟩
      rw [eX11_renumber_61, kR88_2, wc_bind, h.aI, wc_bind, if_pos (nI_le (Nat.le_refl _) (by omega))]
      rfl
    | succ k ih =>
      intro e u x6 he hu
      have hen : e < n := by omega
      have hu7 := p2_128 hn hu
      rw [eX11_renumber_61, kR88_2, wc_bind, h.aI, wc_bind, if_neg (nI_ge hen (by omega)), kR88_20, wc_bind, hS.at (by omega), wc_bind, wc_bind, h.aI, wc_bind, show nI n - (1 : Int32) = nI n - 1 from rfl, m_in0 _ _ (by omega), cI_some, wc_bind]
      dsimp only
      unfold rdn
      rcases inR_of (x := b e) (n := n) (by omega) with h2 | ⟨j, hj, hbj⟩
      · rw [h2, if_pos bI_F, Bool.false_and, Bool.false_and]
        exact ⟨fun _ => rfl, fun hq => (by cases hq)⟩
      · have hin2 : inR (b e) (nI n) = true := by rw [hbj]; exact inR_T hj (by omega)
        have htj : tn b e = j := tn_of hbj (by omega)
        rw [hin2, if_neg bI_T, hbj, m_has _ (by omega) (by omega), cI_some, wc_bind, htj, wc_1shl (by omega), wc_or, nI_1, Bool.true_and]
        dsimp only
        cases hb2 : u.testBit j with
        | true =>
          rw [if_neg bI_T, Bool.not_true, Bool.false_and]
          exact ⟨fun _ => rfl, fun hq => (by cases hq)⟩
        | false =>
          rw [if_pos bI_F, Bool.not_false, Bool.true_and]
          exact ih (e + 1) _ _ (by omega) (p2_or hu hj)
  obtain ⟨r1, r2⟩ := rd n 0 0 none (by omega) (Nat.two_pow_pos n)
  refine ⟨r1, fun hr => ?_⟩
  obtain ⟨y4, y6, g0⟩ := r2 hr
  obtain ⟨hbn, hf⟩ := rdn_ok hn hr
  -- one set
  have one : ∀ S' u, u < 2 ^ n → VM S' v n ρ → shM S' s l b → am_run false (am_cal am_mt (d + 2)) (am_lk tbX11_renumber) 150 [some (.ref 88), some (.int (nI v)), some (.int (nI w)), some (.int (nI s)), some (.int y4), some (.int (nI u)), some (.int (nI 0)), some (.int (nI 0))] [] (ws S') = am_run false (am_cal am_mt (d + 2)) (am_lk tbX11_renumber) 134 [some (.ref 88), some (.int (nI v)), some (.int (nI w)), some (.int (nI s)), some (.int y4), some (.int (nI (u + 1))), some (.int (nI (nst n (tn b) u))), some (.int (nI n))] [] (ws (up S' 92 (128 * 13 + nst n (tn b) u) (nI (ρ u)))) := by
    intro S' u hu h' hS'
    have hu7 := p2_128 hn hu
    refine loop_fd (fun e (a : Nat) => am_run false (am_cal am_mt (d + 2)) (am_lk tbX11_renumber) 150 [some (.ref 88), some (.int (nI v)), some (.int (nI w)), some (.int (nI s)), some (.int y4), some (.int (nI u)), some (.int (nI a)), some (.int (nI e))] [] (ws S')) (fun e a => if u.testBit e then a ||| 2 ^ tn b e else a) n 0 ?_ ?_
    · intro e a he
      show am_run _ _ _ _ _ _ _ = am_run _ _ _ _ _ _ _
      rw [eX11_renumber_150, kR88_2, wc_bind, h'.aI, wc_bind, if_neg (nI_ge he (by omega)), m_has _ (by omega) (by omega), cI_some, wc_bind, nI_1, kR88_20, wc_bind]
      dsimp only
      rw [hS'.at (by omega), wc_bind, hbn e he, wc_1shl (by have := hf.1 e he; omega), wc_or, show nI a ||| 0 = nI a from by rw [← nI_0, wc_or, Nat.or_zero]]
      cases u.testBit e with
      | true => rw [if_neg bI_T, if_pos rfl]
      | false => rw [if_pos bI_F, if_neg Bool.false_ne_true]
    · show am_run _ _ _ _ _ _ _ = _
      have hnu := p2_128 hn (nst_lt hf u)
      have hnst : wc_fd n (fun e a => if u.testBit e then a ||| 2 ^ tn b e else a) 0 = nst n (tn b) u := rfl
      rw [hnst, eX11_renumber_150, kR88_2, wc_bind, h'.aI, wc_bind, if_pos (nI_le (Nat.le_refl _) (by omega)), kR88_3, wc_bind, m_r _ h' hu, cI_some, wc_bind, wc_again]
      dsimp only
      rw [kW92 _ (show 1664 + nst n (tn b) u < 1792 by omega), wc_bind, nI_1]
  -- all sets
  have outer : ∀ k, k ≤ 2 ^ n → ∃ S' z6 z7, am_run false (am_cal am_mt (d + 2)) (am_lk tbX11_renumber) 134 [some (.ref 88), some (.int (nI v)), some (.int (nI w)), some (.int (nI s)), some (.int y4), some (.int (nI 0)), y6, none] [] (ws S) = am_run false (am_cal am_mt (d + 2)) (am_lk tbX11_renumber) 134 [some (.ref 88), some (.int (nI v)), some (.int (nI w)), some (.int (nI s)), some (.int y4), some (.int (nI k)), z6, z7] [] (ws S') ∧ Rw 13 S S' ∧ ∀ t, t < k → S' 92 (128 * 13 + nst n (tn b) t) = nI (ρ t) := by
    intro k
    induction k with
    | zero => intro _; exact ⟨S, y6, none, rfl, Rw.rf, fun t ht => absurd ht (Nat.not_lt_zero t)⟩
    | succ k ih =>
      intro hk
      obtain ⟨S', z6, z7, g1, g2, g3⟩ := ih (by omega)
      have hu : k < 2 ^ n := by omega
      have h' := VM_Rw h g2 (by omega)
      have hS' : shM S' s l b := ⟨hS.1, by rw [g2.1 105 (by decide)]; exact hS.2.1, hS.2.2.1, fun i hi => by rw [g2.1 106 (by decide)]; exact hS.2.2.2 i hi⟩
      have hnu := p2_128 hn (nst_lt hf k)
      refine ⟨up S' 92 (128 * 13 + nst n (tn b) k) (nI (ρ k)), some (.int (nI (nst n (tn b) k))), some (.int (nI n)), g1.trans ?_, Rw_up g2 hnu _, fun t ht => ?_⟩
      · rw [eX11_renumber_134, m_all _ h', cI_some, wc_bind, if_neg (p2_all hu hn)]
        dsimp only
        exact one S' k hu h' hS'
      · rw [up_upd]
        unfold upd
        by_cases htu : t = k
        · rw [htu, if_pos rfl]
        · have hne : nst n (tn b) t ≠ nst n (tn b) k := fun c => htu (by rw [← ist_nst hf (show t < 2 ^ n by omega), c, ist_nst hf hu])
          rw [if_neg (by omega)]
          exact g3 t (by omega)
  obtain ⟨S1, z6, z7, g1, g2, g3⟩ := outer (2 ^ n) (Nat.le_refl _)
  have h1 := VM_Rw h g2 (by omega)
  have hw14 : w < 14 := by omega
  have hrow : ∀ t, t < 2 ^ n → S1 92 (1664 + t) = nI (ren n (tn b) ρ t) := fun t ht => by
    have := g3 (ist n (tn b) t) (ist_lt t)
    rw [nst_ist hf ht] at this
    exact this
  obtain ⟨S2, b1, b2, b3⟩ := fill_m (v := w) (m := 2 ^ n) (f := ren n (tn b) ρ) (p2_le hn) (fun e S' => am_run false (am_cal am_mt (d + 2)) (am_lk tbX11_renumber) 239 [some (.ref 88), some (.int (nI v)), some (.int (nI w)), some (.int (nI s)), some (.int y4), some (.int (nI e)), z6, z7] [] (ws S')) (up S1 91 w (nI n)) (by
    intro e S' he hr' _
    show am_run _ _ _ _ _ _ _ = am_run _ _ _ _ _ _ _
    have he7 := p2_128 hn he
    have hall : am_cal am_mt (d + 2) jX11_all [.ref 88, .int (nI w)] (ws S') = some (some (.int (nI (2 ^ n - 1))), ws S') := by
      rw [eX11_all_0, kO88, if_T, kR88_2, wc_bind, kA91 S' hw14, wc_bind, hr'.1 91 (by decide), up_self, wc_all (by omega)]
    rw [eX11_renumber_239, hall, cI_some, wc_bind, if_neg (p2_all he hn), kR88_3, wc_bind, wc_bind, wc_again]
    dsimp only
    rw [kA92 S' (show 1664 + e < 1792 by omega), wc_bind, wc_row, kW92 _ (show 128 * w + e < 1792 by omega), wc_bind, nI_1, hr'.2 _ (by omega), up_ne 92 (by decide), hrow e he])
  have hw2 : S2 91 w = nI n := by rw [b2.1 91 (by decide)]; exact up_self _ _ _ _
  have hM : VM S2 w n (ren n (tn b) ρ) := ⟨hw14, hn, hw2, fun s hs => ⟨b3 s hs, mat_7 (mat_ren hf hm) hn hs⟩⟩
  refine ⟨S2, ?_, ((Mw_R13 g2).tr (Mw_up S1 (nI n))).tr (Mw_Rw b2), hM⟩
  rw [g0]
  refine g1.trans ?_
  rw [eX11_renumber_134, m_all _ h1, cI_some, wc_bind, if_pos (p2_end hn), kR88_2, wc_bind, wc_bind, h1.aI, wc_bind]
  dsimp only
  rw [kW91 S1 hw14, wc_bind, show (0 : Int32) = nI 0 from rfl]
  refine b1.trans ?_
  show am_run _ _ _ _ _ _ _ = _
  rw [eX11_renumber_239, m_all _ hM, cI_some, wc_bind, if_pos (p2_end hn)]
theorem pu_renumber : am_ag Inv jX10_renumber jX11_renumber 3 := ah_3 (fun d S x1 x2 x3 hR => by
  rcases inR_of (x := x1) (n := 4) (by decide) with h1 | ⟨v, hv, rfl⟩
  · refine ag3_p hR (-2) ?_ ?_
    · rw [eX10_renumber_0, kO0, if_T, c_below, cI_some, wc_bind, show (inR x1 (4 : Int32)) = false from h1, if_pos bI_F]
    · rw [eX11_renumber_0, kO88, if_T, m_isView, cI_some, wc_bind, h1, if_pos bI_F]
  have hv4 : inR (nI v) (nI 4) = true := inR_T hv (by decide)
  rcases inR_of (x := x2) (n := 4) (by decide) with h1 | ⟨w, hw, rfl⟩
  · refine ag3_p hR (-2) ?_ ?_
    · rw [eX10_renumber_0, kO0, if_T, c_below, cI_some, wc_bind, show (inR (nI v) (4 : Int32)) = true from hv4, if_neg bI_T, c_below, cI_some, wc_bind, show (inR x2 (4 : Int32)) = false from h1, if_pos bI_F]
    · rw [eX11_renumber_0, kO88, if_T, m_isView, cI_some, wc_bind, hv4, if_neg bI_T, m_isView, cI_some, wc_bind, h1, if_pos bI_F]
  have hw4 : inR (nI w) (nI 4) = true := inR_T hw (by decide)
  rcases inR_of (x := x3) (n := 4) (by decide) with h1 | ⟨s, hs, rfl⟩
  · refine ag3_p hR (-2) ?_ ?_
    · rw [eX10_renumber_0, kO0, if_T, c_below, cI_some, wc_bind, show (inR (nI v) (4 : Int32)) = true from hv4, if_neg bI_T, c_below, cI_some, wc_bind, show (inR (nI w) (4 : Int32)) = true from hw4, if_neg bI_T, c_below, cI_some, wc_bind, show (inR x3 (4 : Int32)) = false from h1, if_pos bI_F]
    · rw [eX11_renumber_0, kO88, if_T, m_isView, cI_some, wc_bind, hv4, if_neg bI_T, m_isView, cI_some, wc_bind, hw4, if_neg bI_T, m_isSheet, cI_some, wc_bind, h1, if_pos bI_F]
  have hs4 : inR (nI s) (nI 4) = true := inR_T hs (by decide)
  obtain ⟨n, ρ, hm, hC, hM⟩ := hR.2.1 v hv
  have hn := hC.n7
  obtain ⟨e1, e2, e3, ⟨l, hl64, hl⟩, e5⟩ := hR.2.2.2.2.1 s hs
  obtain ⟨b, hb⟩ : ∃ b : Nat → Int32, b = fun i => S 106 (64 * s + i) := ⟨_, rfl⟩
  have hSC : shC S s l b := ⟨hs, e2.trans hl, hl64, fun i hi => by rw [hb]; exact e5 i hi⟩
  by_cases hc : S 104 s = -1
  · refine ag3_p hR (-11) ?_ ?_
    · rw [eX10_renumber_0, kO0, if_T, c_below, cI_some, wc_bind, show (inR (nI v) (4 : Int32)) = true from hv4, if_neg bI_T, c_below, cI_some, wc_bind, show (inR (nI w) (4 : Int32)) = true from hw4, if_neg bI_T, c_below, cI_some, wc_bind, show (inR (nI s) (4 : Int32)) = true from hs4, if_neg bI_T, kR0_3, wc_bind, kQs S hs, wc_bind, c7_isMissing _ S hs, cI_some, wc_bind, e1, decide_eq_true hc, if_neg bI_T]
    · rw [eX11_renumber_0, kO88, if_T, m_isView, cI_some, wc_bind, hv4, if_neg bI_T, m_isView, cI_some, wc_bind, hw4, if_neg bI_T, m_isSheet, cI_some, wc_bind, hs4, if_neg bI_T, kR88_18, wc_bind, kA104 S hs, wc_bind, if_pos hc]
  have hcl : am_cal am_mt (d + 20) jX10_renumber [.ref 0, .int (nI v), .int (nI w), .int (nI s)] (ws S) = if nI n ≤ nI l then (am_cI (am_cal am_mt (d + 19) jX6_readFrom [.ref 48, .ref (80 + 2 * s), .int (nI n)] (ws S))).bind (fun q19 => if q19.1 = (0 : Int32) then some (some (Value.int (-3 : Int32)), q19.2) else (am_fR q19.2 0 10 10).bind fun p20 => (am_fR q19.2 0 10 1).bind fun p21 => (am_aR q19.2 p21 (nI v)).bind fun p22 => (am_fR q19.2 0 10 9).bind fun p23 => (am_cV (am_cal am_mt (d + 19) jX8_becomeRenumbered [.ref p20, .ref p22, .ref p23] q19.2)).bind fun q24 => (am_fR q24 0 10 1).bind fun p25 => (am_aR q24 p25 (nI w)).bind fun p26 => (am_fR q24 0 10 10).bind fun p27 => (am_cV (am_cal am_mt (d + 19) jX8_become [.ref p26, .ref p27] q24)).bind fun q28 => some (some (Value.int (1 : Int32)), q28)) else some (some (Value.int (-12 : Int32)), ws S) := by
    rw [eX10_renumber_0, kO0, if_T, c_below, cI_some, wc_bind, show (inR (nI v) (4 : Int32)) = true from hv4, if_neg bI_T, c_below, cI_some, wc_bind, show (inR (nI w) (4 : Int32)) = true from hw4, if_neg bI_T, c_below, cI_some, wc_bind, show (inR (nI s) (4 : Int32)) = true from hs4, if_neg bI_T, kR0_3, wc_bind, kQs S hs, wc_bind, c7_isMissing _ S hs, cI_some, wc_bind, e1, decide_eq_false hc, if_pos bI_F, kR0_3, wc_bind, kQs S hs, wc_bind, sI1 S hs, wc_bind, kR0_1, wc_bind, kQv S hv, wc_bind, hC.fI, wc_bind, e2.trans hl, kR0_9, wc_bind, wc_bind, kQs S hs, wc_bind, wc_bind, kQv S hv, wc_bind, hC.fI, wc_bind]
  have hml : ∀ S', VM S' v n ρ → S' 104 s = S 104 s → S' 105 s = S 105 s → am_cal am_mt (d + 20) jX11_renumber [.ref 88, .int (nI v), .int (nI w), .int (nI s)] (ws S') = if nI n ≤ nI l then am_run false (am_cal am_mt (d + 19)) (am_lk tbX11_renumber) 61 [some (.ref 88), some (.int (nI v)), some (.int (nI w)), some (.int (nI s)), some (.int (nI 0)), some (.int (nI 0)), none, none] [] (ws S') else some (some (.int (-12 : Int32)), ws S') := by
    intro S' hM' h4 h5
    rw [eX11_renumber_0, kO88, if_T, m_isView, cI_some, wc_bind, hv4, if_neg bI_T, m_isView, cI_some, wc_bind, hw4, if_neg bI_T, m_isSheet, cI_some, wc_bind, hs4, if_neg bI_T, kR88_18, wc_bind, kA104 S' hs, wc_bind, h4, if_neg hc, kR88_19, wc_bind, kA105 S' hs, wc_bind, h5, hl, kR88_2, wc_bind, hM'.aI, wc_bind]
    dsimp only
    rw [show (0 : Int32) = nI 0 from rfl]
  by_cases hnl : n ≤ l
  · have hle : nI n ≤ nI l := nI_le hnl (by omega)
    obtain ⟨S1, a1, a2, a3⟩ := c6_read (d + 16) hn hnl hSC
    have hM1 : VM S1 v n ρ := VM_Cr hM a2 (by omega)
    have hSM1 : shM S1 s l b := ⟨hs, by rw [a2 105 (by decide)]; exact hl, hl64, fun i hi => by rw [a2 106 (by decide), hb]⟩
    cases hr : rdn n b n 0 0 with
    | false =>
      have f1 : Fk Kt S S1 := Fk_Cr a2 (fun c i p q => by rw [comp_sc (by omega)]; rfl)
      refine ⟨-3, S1, S1, ?_, ?_, R_t hR f1⟩
      · rw [hcl, if_pos hle, a1, cI_some, wc_bind, hr, if_pos bI_F]
      · rw [hml S1 hM1 (by rw [a2 104 (by decide)]) (by rw [a2 105 (by decide)]), if_pos hle]
        exact (m_rens (d + 17) hv hw hnl hm hM1 hSM1).1 hr
    | true =>
      obtain ⟨n0, ρ0, _, hC0, hM0⟩ := hR.2.1 w hw
      obtain ⟨hbn, hf⟩ := rdn_ok hn hr
      have hC1 : VC S1 (60 + 2 * v) n ρ := VC_Cr hC a2 (by omega)
      obtain ⟨Sa, c1, c2, c3⟩ := c8_ren (d + 16) vq_50 hf hm hC1 (a3 hr) (by omega) (by decide)
      obtain ⟨Sb, f1, f2, f3⟩ := c8_become (d + 18) (S := Sa) hC0.q c3 (by omega) (by omega) (by omega)
      have hMb : VM Sb v n ρ := VM_Cr (VM_Cr hM1 c2 (by omega)) f2 (by omega)
      have hSMb : shM Sb s l b := ⟨hs, by rw [f2 105 (by omega), c2 105 (by omega)]; exact hSM1.2.1, hl64, fun i hi => by rw [f2 106 (by omega), c2 106 (by omega)]; exact hSM1.2.2.2 i hi⟩
      obtain ⟨Sc, g1, g2, g3⟩ := (m_rens (d + 17) hv hw hnl hm hMb hSMb).2 hr
      have k1 : Fk (K1 (1 + w)) S S1 := Fk_Cr a2 (fun c i p q => by rw [comp_sc (by omega)]; exact K1_16 _)
      refine ⟨1, Sb, Sc, ?_, ?_, R_mk hR hw ((k1.tr (Fk_draft (K1_16 _) c2)).tr (Fk_view hw f2)) g2 (mat_ren hf hm) f3 g3⟩
      · rw [hcl, if_pos hle, a1, cI_some, wc_bind, hr, if_neg bI_T, kR0_10, wc_bind, kR0_1, wc_bind, kQv S1 hv, wc_bind, kR0_9, wc_bind]
        dsimp only
        rw [c1, cV_some, wc_bind, kR0_1, wc_bind, kQv Sa hw, wc_bind, kR0_10, wc_bind, f1, cV_some, wc_bind]
      · rw [hml Sb hMb (by rw [f2 104 (by omega), c2 104 (by omega), a2 104 (by decide)]) (by rw [f2 105 (by omega), c2 105 (by omega), a2 105 (by decide)]), if_pos hle]
        exact g1
  · have hle : ¬ nI n ≤ nI l := nI_ge (by omega) (by omega)
    refine ag3_p hR (-12) ?_ ?_
    · rw [hcl, if_neg hle]
    · rw [hml S hM rfl rfl, if_neg hle])
