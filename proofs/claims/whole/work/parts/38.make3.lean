/-! ===== the reference's union; uniform, dual, minor, union as calls ===== -/
theorem sm_ok1 : ∀ s, s < 128 → ∀ p, p < 128 → 0 < p → p ||| s = s → wc_al (p - ((p - 1) &&& s) - 1) (fun i => !((((p - 1) &&& s) + 1 + i) ||| s == s)) = true := by decide +kernel
theorem sm_ok {s p : Nat} (hs : s < 128) (hp : p < 128) (h0 : 0 < p) (h : p ||| s = s) : ((p - 1) &&& s) < p ∧ ((p - 1) &&& s) ||| s = s ∧ ∀ p', p' ||| s = s → p' < p → p' ≤ ((p - 1) &&& s) := by
  refine ⟨Nat.lt_of_le_of_lt Nat.and_le_left (by omega), and_or_r _ _, fun p' h1 h2 => ?_⟩
  apply Nat.le_of_not_lt
  intro h3
  have := (wc_al_iff _ _).mp (sm_ok1 s hs p hp h0 h) (p' - (((p - 1) &&& s) + 1)) (by omega)
  rw [show ((p - 1) &&& s) + 1 + (p' - (((p - 1) &&& s) + 1)) = p' by omega, h1] at this
  simp at this
theorem m_union (d : Nat) {S : am_S} {v w u n : Nat} {ρ σ : Nat → Nat} (hm : mat n ρ) (hm2 : mat n σ) (h : VM S v n ρ) (h2 : VM S w n σ) (hv : v < 13) (hw : w < 13) (hu : u < 13) : ∃ S', am_run false (am_cal am_mt (d + 2)) (am_lk tbX11_union) 45 [some (.ref 88), some (.int (nI v)), some (.int (nI w)), some (.int (nI u)), some (.int (0 : Int32)), none, none, none] [] (ws S) = some (some (.int (nI (unn ρ σ (2 ^ n - 1)))), ws S') ∧ Mw u S S' ∧ VM S' u n (unn ρ σ) := by
  have hn := h.n7
  have hu14 : u < 14 := by omega
  have hmu := mat_unn hm hm2 hn
  -- one set
  have inner : ∀ s S' x7, s < 2 ^ n → VM S' v n ρ → VM S' w n σ → ∀ p m, p < 128 → p ||| s = s → m ≤ pc s → (∀ p', p' ||| s = s → p < p' → m ≤ unb ρ σ s p') → (m = pc s ∨ ∃ p', p' ||| s = s ∧ m = unb ρ σ s p') → ∃ y5 y6 y7, am_run false (am_cal am_mt (d + 2)) (am_lk tbX11_union) 66 [some (.ref 88), some (.int (nI v)), some (.int (nI w)), some (.int (nI u)), some (.int (nI s)), some (.int (nI m)), some (.int (nI p)), x7] [] (ws S') = am_run false (am_cal am_mt (d + 2)) (am_lk tbX11_union) 45 [some (.ref 88), some (.int (nI v)), some (.int (nI w)), some (.int (nI u)), some (.int (nI (s + 1))), y5, y6, y7] [] (ws (up S' 92 (128 * 13 + s) (nI (unn ρ σ s)))) := by
    intro s S' x7 hs h' h2' p
    have hs7 := p2_128 hn hs
    have hps := pc_le s
    induction p using Nat.strongRecOn generalizing x7 with
    | ind p ih =>
      intro m hp hsub hmp hge hat
      rcases Nat.eq_zero_or_pos p with h0 | h0
      · subst h0
        have hval : m = unn ρ σ s := by
          obtain ⟨p0, g1, g2, g3⟩ := unn_at hm hm2 hn hs
          have e1 : m ≤ unn ρ σ s := by
            rw [g3]
            rcases Nat.eq_zero_or_pos p0 with q | q
            · subst q; rw [unb_0 hm hm2 hs7]; exact hmp
            · exact hge p0 g1 q
          have e2 : unn ρ σ s ≤ m := by
            rcases hat with q | ⟨p', q1, q2⟩
            · rw [q, ← unb_0 hm hm2 hs7]; exact unn_le hm hm2 hn hs (Nat.zero_or s)
            · rw [q2]; exact unn_le hm hm2 hn hs q1
          omega
        refine ⟨some (.int (nI m)), some (.int (nI 0)), x7, ?_⟩
        rw [eX11_union_66, if_pos (by decide), kR88_3, wc_bind, wc_again, kW92 _ (show 1664 + s < 1792 by omega), wc_bind, nI_1, hval]
      · obtain ⟨t1, t2, t3⟩ := sm_ok hs7 hp h0 hsub
        have hpn : p < 2 ^ n := Nat.lt_of_le_of_lt (le_of_or hsub) hs
        have l1 := h'.le hpn
        have l2 := h2'.le hpn
        have l3 := pc_le (wc_an s p)
        have hub : unb ρ σ s p = ρ p + σ p + pc (wc_an s p) := rfl
        rw [eX11_union_66, if_neg (nI_nle h0 (by omega)), m_r _ h' hpn, cI_some, wc_bind, m_r _ h2' hpn, cI_some, wc_bind, wc_anI, m_bits _ (wc_an_lt hs7), cI_some, wc_bind]
        dsimp only
        rw [nI_add, nI_add, ← hub, show nI p - (1 : Int32) = nI (p - 1) from by rw [show (1 : Int32) = nI 1 from rfl, pk_sub h0], wc_and]
        by_cases hc : m ≤ unb ρ σ s p
        · rw [if_pos (nI_le hc (by omega))]
          exact ih _ t1 _ m (by omega) t2 hmp (fun p' g1 g2 => by
            rcases Nat.lt_trichotomy p' p with q | q | q
            · have := t3 p' g1 q; omega
            · subst q; exact hc
            · exact hge p' g1 q) hat
        · rw [if_neg (nI_ge (by omega) (by omega))]
          exact ih _ t1 _ (unb ρ σ s p) (by omega) t2 (by omega) (fun p' g1 g2 => by
            rcases Nat.lt_trichotomy p' p with q | q | q
            · have := t3 p' g1 q; omega
            · subst q; exact Nat.le_refl _
            · have := hge p' g1 q; omega) (Or.inr ⟨p, hsub, rfl⟩)
  -- all sets
  have outer : ∀ k, k ≤ 2 ^ n → ∃ S' y5 y6 y7, am_run false (am_cal am_mt (d + 2)) (am_lk tbX11_union) 45 [some (.ref 88), some (.int (nI v)), some (.int (nI w)), some (.int (nI u)), some (.int (0 : Int32)), none, none, none] [] (ws S) = am_run false (am_cal am_mt (d + 2)) (am_lk tbX11_union) 45 [some (.ref 88), some (.int (nI v)), some (.int (nI w)), some (.int (nI u)), some (.int (nI k)), y5, y6, y7] [] (ws S') ∧ Rw 13 S S' ∧ ∀ t, t < k → S' 92 (128 * 13 + t) = nI (unn ρ σ t) := by
    intro k
    induction k with
    | zero => intro _; exact ⟨S, none, none, none, rfl, Rw.rf, fun t ht => absurd ht (Nat.not_lt_zero t)⟩
    | succ k ih =>
      intro hk
      obtain ⟨S', y5, y6, y7, g1, g2, g3⟩ := ih (by omega)
      have hs : k < 2 ^ n := by omega
      have hs7 := p2_128 hn hs
      have h' := VM_Rw h g2 (by omega)
      have h2' := VM_Rw h2 g2 (by omega)
      obtain ⟨z5, z6, z7, g4⟩ := inner k S' y7 hs h' h2' k (pc k) hs7 (Nat.or_self k) (Nat.le_refl _) (fun p' q1 q2 => absurd (le_of_or q1) (by omega)) (Or.inl rfl)
      refine ⟨up S' 92 (128 * 13 + k) (nI (unn ρ σ k)), z5, z6, z7, g1.trans ?_, Rw_up g2 hs7 _, fun t ht => ?_⟩
      · rw [eX11_union_45, m_all _ h', cI_some, wc_bind, if_neg (p2_all hs hn), m_bits _ hs7, cI_some, wc_bind]
        dsimp only
        exact g4
      · by_cases hte : t = k
        · subst hte; exact up_self _ _ _ _
        · rw [up_upd]; unfold upd; rw [if_neg (by omega)]; exact g3 t (by omega)
  obtain ⟨S1, y5, y6, y7, g1, g2, g3⟩ := outer (2 ^ n) (Nat.le_refl _)
  have h1 := VM_Rw h g2 (by omega)
  obtain ⟨S2, b1, b2, b3⟩ := fill_m (v := u) (m := 2 ^ n) (f := unn ρ σ) (p2_le hn) (fun e S' => am_run false (am_cal am_mt (d + 2)) (am_lk tbX11_union) 161 [some (.ref 88), some (.int (nI v)), some (.int (nI w)), some (.int (nI u)), some (.int (nI e)), y5, y6, y7] [] (ws S')) (up S1 91 u (nI n)) (by
    intro e S' he hr _
    show am_run _ _ _ _ _ _ _ = am_run _ _ _ _ _ _ _
    have he7 := p2_128 hn he
    have hall : am_cal am_mt (d + 2) jX11_all [.ref 88, .int (nI u)] (ws S') = some (some (.int (nI (2 ^ n - 1))), ws S') := by
      rw [eX11_all_0, kO88, if_T, kR88_2, wc_bind, kA91 S' hu14, wc_bind, hr.1 91 (by decide), up_self, wc_all (by omega)]
    rw [eX11_union_161, hall, cI_some, wc_bind, if_neg (p2_all he hn), kR88_3, wc_bind, wc_bind, wc_again]
    dsimp only
    rw [kA92 S' (show 1664 + e < 1792 by omega), wc_bind, wc_row, kW92 _ (show 128 * u + e < 1792 by omega), wc_bind, nI_1, hr.2 _ (by omega), up_ne 92 (by decide), show S1 92 (1664 + e) = nI (unn ρ σ e) from g3 e he])
  have hw2 : S2 91 u = nI n := by rw [b2.1 91 (by decide)]; exact up_self _ _ _ _
  have hM : VM S2 u n (unn ρ σ) := ⟨hu14, hn, hw2, fun s hs => ⟨b3 s hs, mat_7 hmu hn hs⟩⟩
  refine ⟨S2, ?_, ((Mw_R13 g2).tr (Mw_up S1 (nI n))).tr (Mw_Rw b2), hM⟩
  refine g1.trans ?_
  rw [eX11_union_45, m_all _ h1, cI_some, wc_bind, if_pos (p2_end hn), kR88_2, wc_bind, wc_bind, h1.aI, wc_bind]
  dsimp only
  rw [kW91 S1 hu14, wc_bind]
  refine b1.trans ?_
  show am_run _ _ _ _ _ _ _ = _
  rw [eX11_union_161, m_all _ hM, cI_some, wc_bind, if_pos (p2_end hn), m_total _ hM, cI_some, wc_bind]
/-! the calls -/
theorem Fk_draft {K : Nat → Bool} {S S' : am_S} (hk : K 16 = true) (h : Cr 50 51 S S') : Fk K S S' := Fk_Cr h (fun c i a b => by rw [comp_sc (by omega)]; exact hk)
theorem Fk_view {w : Nat} {S S' : am_S} (hw : w < 4) (h : Cr (60 + 2 * w) (60 + 2 * w + 1) S S') : Fk (K1 (1 + w)) S S' := Fk_Cr h (fun c i a b => by rw [comp_v hw (by omega)]; exact K1_j _)
theorem R_mk {S S1 S2 : am_S} {w n : Nat} {ρ : Nat → Nat} (hR : R S) (hw : w < 4) (h1 : Fk (K1 (1 + w)) S S1) (h2 : Mw w S1 S2) (hm : mat n ρ) (hc : VC S1 (60 + 2 * w) n ρ) (hM : VM S2 w n ρ) : R S2 := by
  have h3 := Fk_Mw h2
  unfold rowc at h3
  rw [if_pos hw] at h3
  refine R_1 (j := 1 + w) hR (h1.tr h3) ?_
  rw [RC_v hw]
  exact ⟨n, ρ, hm, VC_Mw hc h2 (by omega), hM⟩
theorem pu_uniform : am_ag Inv jX10_uniform jX11_uniform 3 := ah_3 (fun d S x1 x2 x3 hR => by
  rcases inR_of (x := x1) (n := 4) (by decide) with h1 | ⟨v, hv, rfl⟩
  · refine ag3_p hR (-2) ?_ ?_
    · rw [eX10_uniform_0, kO0, if_T, c_below, cI_some, wc_bind, show (4 : Int32) = nI 4 from rfl, h1, if_pos bI_F]
    · rw [eX11_uniform_0, kO88, if_T, m_isView, cI_some, wc_bind, h1, if_pos bI_F]
  · have hv4 : inR (nI v) (nI 4) = true := inR_T hv (by decide)
    rcases inR_of (x := x2) (n := 8) (by decide) with h1 | ⟨n, hn8, rfl⟩
    · refine ag3_p hR (-2) ?_ ?_
      · rw [eX10_uniform_0, kO0, if_T, c_below, cI_some, wc_bind, show (4 : Int32) = nI 4 from rfl, hv4, if_neg bI_T, c_count, cI_some, wc_bind, h1, if_pos bI_F]
      · rw [eX11_uniform_0, kO88, if_T, m_isView, cI_some, wc_bind, hv4, if_neg bI_T, m_in7, cI_some, wc_bind, h1, if_pos bI_F]
    · have hn : n ≤ 7 := by omega
      have hn8' : inR (nI n) (nI 8) = true := inR_T hn8 (by decide)
      rcases inR_of (x := x3) (n := n + 1) (by omega) with h1 | ⟨r, hr, rfl⟩
      · refine ag3_p hR (-2) ?_ ?_
        · rw [eX10_uniform_0, kO0, if_T, c_below, cI_some, wc_bind, show (4 : Int32) = nI 4 from rfl, hv4, if_neg bI_T, c_count, cI_some, wc_bind, hn8', if_neg bI_T, c_below, cI_some, wc_bind, nI_1, h1, if_pos bI_F]
        · rw [eX11_uniform_0, kO88, if_T, m_isView, cI_some, wc_bind, hv4, if_neg bI_T, m_in7, cI_some, wc_bind, hn8', if_neg bI_T, m_in _ _ (by omega), cI_some, wc_bind, h1, if_pos bI_F]
      · have hr' : inR (nI r) (nI (n + 1)) = true := inR_T hr (by omega)
        obtain ⟨n0, ρ0, _, hC0, hM0⟩ := hR.2.1 v hv
        obtain ⟨S1, a1, a2, a3⟩ := c8_uniform (d + 17) hC0.q hn (show r ≤ n by omega) (S := S)
        have hv14 : v < 14 := by omega
        obtain ⟨S2, b1, b2, b3⟩ := fill_m (v := v) (m := 2 ^ n) (f := uni r) (p2_le hn) (fun e S' => am_run false (am_cal am_mt (d + 19)) (am_lk tbX11_uniform) 39 [some (.ref 88), some (.int (nI v)), some (.int (nI n)), some (.int (nI r)), some (.int (nI e))] [] (ws S')) (up S1 91 v (nI n)) (by
          intro e S' he hr' _
          show am_run _ _ _ _ _ _ _ = am_run _ _ _ _ _ _ _
          have he7 := p2_128 hn he
          have hp := pc_le e
          have hall : am_cal am_mt (d + 19) jX11_all [.ref 88, .int (nI v)] (ws S') = some (some (.int (nI (2 ^ n - 1))), ws S') := by
            rw [eX11_all_0, kO88, if_T, kR88_2, wc_bind, kA91 S' hv14, wc_bind, hr'.1 91 (by decide), up_self, wc_all (by omega)]
          rw [eX11_uniform_39, hall, cI_some, wc_bind, if_neg (p2_all he hn), kR88_3, wc_bind, m_bits _ he7, cI_some, wc_bind, m_bits _ he7, cI_some, wc_bind]
          dsimp only
          rw [wc_row, kW92 _ (show 128 * v + e < 1792 by omega), wc_bind, kW92 _ (show 128 * v + e < 1792 by omega), wc_bind, nI_1]
          unfold uni
          by_cases hc : pc e < r
          · rw [if_pos hc, if_neg (nI_ge hc (by omega))]
          · rw [if_neg hc, if_pos (nI_le (by omega) (by omega))])
        have hw2 : S2 91 v = nI n := by rw [b2.1 91 (by decide)]; exact up_self _ _ _ _
        have hM : VM S2 v n (uni r) := ⟨hv14, hn, hw2, fun s hs => ⟨b3 s hs, mat_7 (mat_uni hn) hn hs⟩⟩
        refine ⟨1, S1, S2, ?_, ?_, R_mk hR hv (Fk_view hv a2) ((Mw_up S1 (nI n)).tr (Mw_Rw b2)) (mat_uni hn) a3 hM⟩
        · rw [eX10_uniform_0, kO0, if_T, c_below, cI_some, wc_bind, show (4 : Int32) = nI 4 from rfl, hv4, if_neg bI_T, c_count, cI_some, wc_bind, hn8', if_neg bI_T, c_below, cI_some, wc_bind, nI_1, hr', if_neg bI_T, kR0_1, wc_bind, kQv S hv, wc_bind]
          dsimp only
          rw [a1, cV_some, wc_bind]
        · rw [eX11_uniform_0, kO88, if_T, m_isView, cI_some, wc_bind, hv4, if_neg bI_T, m_in7, cI_some, wc_bind, hn8', if_neg bI_T, m_in _ _ (by omega), cI_some, wc_bind, hr', if_neg bI_T, kR88_2, wc_bind, kW91 _ hv14, wc_bind]
          refine b1.trans ?_
          show am_run _ _ _ _ _ _ _ = _
          rw [eX11_uniform_39, m_all _ hM, cI_some, wc_bind, if_pos (p2_end hn)])
theorem pu_dual : am_ag Inv jX10_dual jX11_dual 2 := ah_2 (fun d S x1 x2 hR => by
  rcases inR_of (x := x1) (n := 4) (by decide) with h1 | ⟨v, hv, rfl⟩
  · refine ag3_p hR (-2) ?_ ?_
    · rw [eX10_dual_0, kO0, if_T, c_below, cI_some, wc_bind, show (4 : Int32) = nI 4 from rfl, h1, if_pos bI_F]
    · rw [eX11_dual_0, kO88, if_T, m_isView, cI_some, wc_bind, h1, if_pos bI_F]
  · have hv4 : inR (nI v) (nI 4) = true := inR_T hv (by decide)
    rcases inR_of (x := x2) (n := 4) (by decide) with h1 | ⟨w, hw, rfl⟩
    · refine ag3_p hR (-2) ?_ ?_
      · rw [eX10_dual_0, kO0, if_T, c_below, cI_some, wc_bind, show (4 : Int32) = nI 4 from rfl, hv4, if_neg bI_T, c_below, cI_some, wc_bind, h1, if_pos bI_F]
      · rw [eX11_dual_0, kO88, if_T, m_isView, cI_some, wc_bind, hv4, if_neg bI_T, m_isView, cI_some, wc_bind, h1, if_pos bI_F]
    · have hw4 : inR (nI w) (nI 4) = true := inR_T hw (by decide)
      obtain ⟨n, ρ, hm, hC, hM⟩ := hR.2.1 v hv
      obtain ⟨n0, ρ0, _, hC0, hM0⟩ := hR.2.1 w hw
      obtain ⟨Sa, a1, a2, a3⟩ := c8_dual (d + 16) vq_50 hm hC (by omega)
      obtain ⟨Sb, b1, b2, b3⟩ := c8_become (d + 18) (S := Sa) hC0.q a3 (by omega) (by omega) (by omega)
      have hd : VC Sb 50 n (dl n ρ) := VC_Cr a3 b2 (by omega)
      have hMb : VM Sb v n ρ := VM_Cr (VM_Cr hM a2 (by omega)) b2 (by omega)
      obtain ⟨Sc, c1, c2, c3⟩ := m_duals (d + 16) hm hMb (by omega) (show w < 13 by omega)
      refine ⟨nI (dl n ρ (2 ^ n - 1)), Sb, Sc, ?_, ?_, R_mk hR hw ((Fk_draft (K1_16 _) a2).tr (Fk_view hw b2)) c2 (mat_dl hm hC.n7) b3 c3⟩
      · rw [eX10_dual_0, kO0, if_T, c_below, cI_some, wc_bind, show (4 : Int32) = nI 4 from rfl, hv4, if_neg bI_T, c_below, cI_some, wc_bind, hw4, if_neg bI_T, kR0_10, wc_bind, kR0_1, wc_bind, kQv S hv, wc_bind]
        dsimp only
        rw [a1, cV_some, wc_bind, kR0_1, wc_bind, kQv Sa hw, wc_bind, kR0_10, wc_bind, b1, cV_some, wc_bind, kR0_10, wc_bind, c8_fullRank _ hd, cI_some, wc_bind]
      · rw [eX11_dual_0, kO88, if_T, m_isView, cI_some, wc_bind, hv4, if_neg bI_T, m_isView, cI_some, wc_bind, hw4, if_neg bI_T]
        dsimp only
        rw [c1, cV_some, wc_bind, m_total _ c3, cI_some, wc_bind])
