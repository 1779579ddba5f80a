/-! ===== minor, union; copies; holds ===== -/
theorem pu_minor : am_ag Inv jX10_minor jX11_minor 4 := ah_4 (fun d S x1 x2 x3 x4 hR => by
  rcases inR_of (x := x2) (n := 4) (by decide) with h1 | ⟨w, hw, rfl⟩
  · refine ag3_p hR (-2) ?_ ?_
    · rw [eX10_minor_0, kO0, if_T, c_below, cI_some, wc_bind, show (4 : Int32) = nI 4 from rfl, h1, if_pos bI_F]
    · rw [eX11_minor_0, kO88, if_T, m_isView, cI_some, wc_bind, h1, if_pos bI_F]
  · have hw4 : inR (nI w) (nI 4) = true := inR_T hw (by decide)
    rcases inR_of (x := x1) (n := 4) (by decide) with h1 | ⟨v, hv, rfl⟩
    · refine ag3_p hR (-2) ?_ ?_
      · rw [eX10_minor_0, kO0, if_T, c_below, cI_some, wc_bind, show (4 : Int32) = nI 4 from rfl, hw4, if_neg bI_T, c10_isSetF _ h1, cI_some, wc_bind, if_pos bI_F]
      · rw [eX11_minor_0, kO88, if_T, m_isView, cI_some, wc_bind, hw4, if_neg bI_T, m_isSetF _ h1, cI_some, wc_bind, if_pos bI_F]
    · obtain ⟨n, ρ, hm, hC, hM⟩ := hR.2.1 v hv
      rcases setB_of hC.n7 x3 with h2 | ⟨x, hx, rfl, h2⟩
      · refine ag3_p hR (-2) ?_ ?_
        · rw [eX10_minor_0, kO0, if_T, c_below, cI_some, wc_bind, show (4 : Int32) = nI 4 from rfl, hw4, if_neg bI_T, c10_isSetOf _ hv hC, cI_some, wc_bind, h2, if_pos bI_F]
        · rw [eX11_minor_0, kO88, if_T, m_isView, cI_some, wc_bind, hw4, if_neg bI_T, m_isSet _ hv hM, cI_some, wc_bind, h2, if_pos bI_F]
      · rcases setB_of hC.n7 x4 with h3 | ⟨y, hy, rfl, h3⟩
        · refine ag3_p hR (-2) ?_ ?_
          · rw [eX10_minor_0, kO0, if_T, c_below, cI_some, wc_bind, show (4 : Int32) = nI 4 from rfl, hw4, if_neg bI_T, c10_isSetOf _ hv hC, cI_some, wc_bind, h2, if_neg bI_T, c10_isSetOf _ hv hC, cI_some, wc_bind, h3, if_pos bI_F]
          · rw [eX11_minor_0, kO88, if_T, m_isView, cI_some, wc_bind, hw4, if_neg bI_T, m_isSet _ hv hM, cI_some, wc_bind, h2, if_neg bI_T, m_isSet _ hv hM, cI_some, wc_bind, h3, if_pos bI_F]
        · by_cases hz : (nI x &&& nI y) = 0
          · obtain ⟨n0, ρ0, _, hC0, hM0⟩ := hR.2.1 w hw
            obtain ⟨Sa, a1, a2, a3⟩ := c8_minor (d + 16) (y := y) vq_50 hm hC (by omega) hx
            obtain ⟨Sb, b1, b2, b3⟩ := c8_become (d + 18) (S := Sa) hC0.q a3 (by omega) (by omega) (by omega)
            have hd := VC_Cr a3 b2 (by omega)
            have hMb : VM Sb v n ρ := VM_Cr (VM_Cr hM a2 (by omega)) b2 (by omega)
            obtain ⟨Sc, c1, c2, c3⟩ := m_minors (d + 16) (y := y) hm hMb (by omega) (show w < 13 by omega) hx
            refine ⟨nI (pc (wc_an (2 ^ n - 1) (x ||| y))), Sb, Sc, ?_, ?_, R_mk hR hw ((Fk_draft (K1_16 _) a2).tr (Fk_view hw b2)) c2 (mat_mnr hm hC.n7 (comp_lt _) hx) b3 c3⟩
            · rw [eX10_minor_0, kO0, if_T, c_below, cI_some, wc_bind, show (4 : Int32) = nI 4 from rfl, hw4, if_neg bI_T, c10_isSetOf _ hv hC, cI_some, wc_bind, h2, if_neg bI_T, c10_isSetOf _ hv hC, cI_some, wc_bind, h3, if_neg bI_T, if_pos hz, kR0_10, wc_bind, kR0_1, wc_bind, kQv S hv, wc_bind]
              dsimp only
              rw [a1, cV_some, wc_bind, kR0_1, wc_bind, kQv Sa hw, wc_bind, kR0_10, wc_bind, b1, cV_some, wc_bind, kR0_10, wc_bind, hd.fI, wc_bind]
            · rw [eX11_minor_0, kO88, if_T, m_isView, cI_some, wc_bind, hw4, if_neg bI_T, m_isSet _ hv (VM_Cr (VM_Cr hM a2 (by omega)) b2 (by omega)), cI_some, wc_bind, h2, if_neg bI_T, m_isSet _ hv (VM_Cr (VM_Cr hM a2 (by omega)) b2 (by omega)), cI_some, wc_bind, h3, if_neg bI_T, if_pos hz]
              dsimp only
              rw [c1, cV_some, wc_bind, kR88_2, wc_bind, c3.aI, wc_bind]
          · refine ag3_p hR (-2) ?_ ?_
            · rw [eX10_minor_0, kO0, if_T, c_below, cI_some, wc_bind, show (4 : Int32) = nI 4 from rfl, hw4, if_neg bI_T, c10_isSetOf _ hv hC, cI_some, wc_bind, h2, if_neg bI_T, c10_isSetOf _ hv hC, cI_some, wc_bind, h3, if_neg bI_T, if_neg hz]
            · rw [eX11_minor_0, kO88, if_T, m_isView, cI_some, wc_bind, hw4, if_neg bI_T, m_isSet _ hv hM, cI_some, wc_bind, h2, if_neg bI_T, m_isSet _ hv hM, cI_some, wc_bind, h3, if_neg bI_T, if_neg hz])
theorem pu_union : am_ag Inv jX10_union jX11_union 3 := ah_3 (fun d S x1 x2 x3 hR => by
  rcases inR_of (x := x1) (n := 4) (by decide) with h1 | ⟨v, hv, rfl⟩
  · refine ag3_p hR (-2) ?_ ?_
    · rw [eX10_union_0, kO0, if_T, c_below, cI_some, wc_bind, show (4 : Int32) = nI 4 from rfl, h1, if_pos bI_F]
    · rw [eX11_union_0, kO88, if_T, m_isView, cI_some, wc_bind, h1, if_pos bI_F]
  have hv4 : inR (nI v) (nI 4) = true := inR_T hv (by decide)
  rcases inR_of (x := x2) (n := 4) (by decide) with h1 | ⟨w, hw, rfl⟩
  · refine ag3_p hR (-2) ?_ ?_
    · rw [eX10_union_0, kO0, if_T, c_below, cI_some, wc_bind, show (4 : Int32) = nI 4 from rfl, hv4, if_neg bI_T, c_below, cI_some, wc_bind, h1, if_pos bI_F]
    · rw [eX11_union_0, kO88, if_T, m_isView, cI_some, wc_bind, hv4, if_neg bI_T, m_isView, cI_some, wc_bind, h1, if_pos bI_F]
  have hw4 : inR (nI w) (nI 4) = true := inR_T hw (by decide)
  rcases inR_of (x := x3) (n := 4) (by decide) with h1 | ⟨u, hu, rfl⟩
  · refine ag3_p hR (-2) ?_ ?_
    · rw [eX10_union_0, kO0, if_T, c_below, cI_some, wc_bind, show (4 : Int32) = nI 4 from rfl, hv4, if_neg bI_T, c_below, cI_some, wc_bind, hw4, if_neg bI_T, c_below, cI_some, wc_bind, h1, if_pos bI_F]
    · rw [eX11_union_0, kO88, if_T, m_isView, cI_some, wc_bind, hv4, if_neg bI_T, m_isView, cI_some, wc_bind, hw4, if_neg bI_T, m_isView, cI_some, wc_bind, h1, if_pos bI_F]
  have hu4 : inR (nI u) (nI 4) = true := inR_T hu (by decide)
  obtain ⟨n, ρ, hm, hC, hM⟩ := hR.2.1 v hv
  obtain ⟨n2, σ, hm2, hC2, hM2⟩ := hR.2.1 w hw
  have hn := hC.n7
  have hn2 := hC2.n7
  by_cases hnn : n = n2
  · subst hnn
    obtain ⟨n0, ρ0, _, hC0, hM0⟩ := hR.2.1 u hu
    obtain ⟨Sa, a1, a2, a3⟩ := c8_union (d + 16) vq_50 hm hm2 hC hC2 (by omega) (by omega)
    obtain ⟨Sb, b1, b2, b3⟩ := c8_become (d + 18) (S := Sa) hC0.q a3 (by omega) (by omega) (by omega)
    have hd := VC_Cr a3 b2 (by omega)
    have hMb : VM Sb v n ρ := VM_Cr (VM_Cr hM a2 (by omega)) b2 (by omega)
    have hMb2 : VM Sb w n σ := VM_Cr (VM_Cr hM2 a2 (by omega)) b2 (by omega)
    obtain ⟨Sc, c1, c2, c3⟩ := m_union (d + 17) hm hm2 hMb hMb2 (by omega) (by omega) (show u < 13 by omega)
    refine ⟨nI (unn ρ σ (2 ^ n - 1)), Sb, Sc, ?_, ?_, R_mk hR hu ((Fk_draft (K1_16 _) a2).tr (Fk_view hu b2)) c2 (mat_unn hm hm2 hn) b3 c3⟩
    · rw [eX10_union_0, kO0, if_T, c_below, cI_some, wc_bind, show (4 : Int32) = nI 4 from rfl, hv4, if_neg bI_T, c_below, cI_some, wc_bind, hw4, if_neg bI_T, c_below, cI_some, wc_bind, hu4, if_neg bI_T, kR0_1, wc_bind, kQv S hv, wc_bind, hC.fI, wc_bind, wc_bind, kQv S hw, wc_bind, hC2.fI, wc_bind, if_pos rfl, kR0_10, wc_bind, wc_bind, kQv S hv, wc_bind, wc_bind, kQv S hw, wc_bind]
      dsimp only
      rw [a1, cV_some, wc_bind, kR0_1, wc_bind, kQv Sa hu, wc_bind, kR0_10, wc_bind, b1, cV_some, wc_bind, kR0_10, wc_bind, c8_fullRank _ hd, cI_some, wc_bind]
    · rw [eX11_union_0, kO88, if_T, m_isView, cI_some, wc_bind, hv4, if_neg bI_T, m_isView, cI_some, wc_bind, hw4, if_neg bI_T, m_isView, cI_some, wc_bind, hu4, if_neg bI_T, kR88_2, wc_bind, hMb.aI, wc_bind, wc_bind, hMb2.aI, wc_bind, if_pos rfl]
      dsimp only
      exact c1
  · have hne : ¬ nI n = nI n2 := fun c => hnn ((nI_eq (by omega) (by omega)).mp c)
    refine ag3_p hR (-3) ?_ ?_
    · rw [eX10_union_0, kO0, if_T, c_below, cI_some, wc_bind, show (4 : Int32) = nI 4 from rfl, hv4, if_neg bI_T, c_below, cI_some, wc_bind, hw4, if_neg bI_T, c_below, cI_some, wc_bind, hu4, if_neg bI_T, kR0_1, wc_bind, kQv S hv, wc_bind, hC.fI, wc_bind, wc_bind, kQv S hw, wc_bind, hC2.fI, wc_bind, if_neg hne]
    · rw [eX11_union_0, kO88, if_T, m_isView, cI_some, wc_bind, hv4, if_neg bI_T, m_isView, cI_some, wc_bind, hw4, if_neg bI_T, m_isView, cI_some, wc_bind, hu4, if_neg bI_T, kR88_2, wc_bind, hM.aI, wc_bind, wc_bind, hM2.aI, wc_bind, if_neg hne])
/-- a row of the reference comes to another -/
theorem m_copies (d : Nat) {S : am_S} {v w n : Nat} {ρ : Nat → Nat} (h : VM S v n ρ) (hvw : v ≠ w) (hw : w < 14) : ∃ S', am_cal am_mt (d + 1) jX11_copies [.ref 88, .int (nI v), .int (nI w)] (ws S) = some (none, ws S') ∧ Mw w S S' ∧ VM S' w n ρ := by
  have key : wp (am_cal am_mt (d + 1) jX11_copies [.ref 88, .int (nI v), .int (nI w)] (ws S)) (fun o S' => o = none ∧ Mw w S S' ∧ VM S' w n ρ) := by
    have hv := h.1
    rw [eX11_copies_0, kO88, if_T, kR88_2, wc_bind, wc_bind, h.aI, wc_bind, kW91 S hw, wc_bind]
    refine loop_wp (fun e S' => am_run false (am_cal am_mt d) (am_lk tbX11_copies) 14 [some (.ref 88), some (.int (nI v)), some (.int (nI w)), some (.int (nI e))] [] (ws S')) (fun e S' => Rw w (up S 91 w (nI n)) S' ∧ ∀ t, t < e → S' 92 (128 * w + t) = S 92 (128 * v + t)) _ 128 ?_ ?_ 0 _ (Nat.zero_le _) ⟨Rw.rf, fun t ht => absurd ht (Nat.not_lt_zero t)⟩
    · intro e S' he hI K
      show wp (am_run _ _ _ _ _ _ _) _
      rw [eX11_copies_14, if_neg (show ¬ (128 : Int32) ≤ nI e from nI_ge (b := 128) he (by decide)), kR88_3, wc_bind, wc_bind, wc_row, wc_row, kA92 S' (show 128 * v + e < 1792 by omega), wc_bind, kW92 _ (show 128 * w + e < 1792 by omega), wc_bind, nI_1]
      refine K _ ⟨Rw_up hI.1 he _, fun t ht => ?_⟩
      by_cases hte : t = e
      · subst hte
        rw [up_self, hI.1.2 _ (by omega), up_ne 92 (by decide)]
      · rw [up_upd]; unfold upd; rw [if_neg (by omega)]; exact hI.2 t (by omega)
    · intro S' hI
      show wp (am_run _ _ _ _ _ _ _) _
      rw [eX11_copies_14, if_pos (by decide)]
      refine wp_ret ⟨rfl, (Mw_up S (nI n)).tr (Mw_Rw hI.1), hw, h.n7, by rw [hI.1.1 91 (by decide)]; exact up_self _ _ _ _, fun s hs => ⟨?_, h.le hs⟩⟩
      rw [hI.2 s (p2_128 h.n7 hs)]
      exact (h.2.2.2 s hs).1
  obtain ⟨o, S', h1, rfl, h2⟩ := key
  exact ⟨S', h1, h2⟩
