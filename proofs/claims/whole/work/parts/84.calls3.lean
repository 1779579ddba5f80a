/-! ===== deal, writes ===== -/
theorem c_isDealt (d : Nat) (x y w : Int32) (g : am_W) : am_cal am_mt (d + 2) jX10_isDealt [.int x, .int y, .int w] g = some (some (.int (bI (inR x (nI 4) && (inR y (nI 8) && inR w (nI 5))))), g) := by
  rw [eX10_isDealt_0, c_below, cI_some, wc_bind]
  rw [show (inR x (4 : Int32)) = inR x (nI 4) from rfl]
  cases inR x (nI 4) with
  | false => rw [if_pos bI_F]; rfl
  | true =>
    rw [if_neg bI_T, c_count, cI_some, wc_bind]
    cases inR y (nI 8) with
    | false => rw [if_pos bI_F]; rfl
    | true =>
      have h7 := lt_succI w (n := 4) (by decide)
      rw [if_neg bI_T, show (4 : Int32) = nI 4 from rfl]
      unfold inR
      by_cases h1 : w < 0
      · rw [if_pos h1, decide_eq_false (fun c => c.1 h1)]; rfl
      · rw [if_neg h1]
        by_cases h2 : nI 4 < w
        · rw [if_pos h2, decide_eq_false (fun c => c.2 (h7.mp h2))]; rfl
        · rw [if_neg h2, decide_eq_true ⟨h1, fun c => h2 (h7.mpr c)⟩]; rfl
theorem m_isDeal (d : Nat) (x y w : Int32) (g : am_W) : am_cal am_mt (d + 3) jX11_isDeal [.int x, .int y, .int w] g = some (some (.int (bI (inR x (nI 4) && (inR y (nI 8) && inR w (nI 5))))), g) := by
  rw [eX11_isDeal_0, m_isField, cI_some, wc_bind]
  cases inR x (nI 4) with
  | false => rw [if_pos bI_F]; rfl
  | true =>
    rw [if_neg bI_T, m_in7, cI_some, wc_bind]
    cases inR y (nI 8) with
    | false => rw [if_pos bI_F]; rfl
    | true =>
      rw [if_neg bI_T, m_in4, cI_some, wc_bind]
      cases inR w (nI 5) with
      | false => rw [if_pos bI_F]; rfl
      | true => rw [if_neg bI_T]; rfl
theorem deal_of (x y w : Int32) : (inR x (nI 4) && (inR y (nI 8) && inR w (nI 5))) = false ∨ ∃ f n r, f < 4 ∧ n ≤ 7 ∧ r ≤ 4 ∧ x = nI f ∧ y = nI n ∧ w = nI r ∧ (inR x (nI 4) && (inR y (nI 8) && inR w (nI 5))) = true := by
  rcases inR_of (x := x) (n := 4) (by decide) with h | ⟨f, hf, rfl⟩
  · rw [h]; exact Or.inl rfl
  · rcases inR_of (x := y) (n := 8) (by decide) with h | ⟨n, hn, rfl⟩
    · rw [h, Bool.false_and, Bool.and_false]; exact Or.inl rfl
    · rcases inR_of (x := w) (n := 5) (by decide) with h | ⟨r, hr, rfl⟩
      · rw [h, Bool.and_false, Bool.and_false]; exact Or.inl rfl
      · exact Or.inr ⟨f, n, r, hf, by omega, by omega, rfl, rfl, rfl, by rw [inR_T hf (by decide), inR_T hn (by decide), inR_T hr (by decide)]; rfl⟩
theorem pu_deal : am_ag Inv jX10_deal jX11_deal 4 := ah_4 (fun d S x1 x2 x3 x4 hR => by
  rcases inR_of (x := x1) (n := 4) (by decide) with h1 | ⟨v, hv, rfl⟩
  · refine ag3_p hR (-2) ?_ ?_
    · rw [eX10_deal_0, kO0, if_T, c_below, cI_some, wc_bind, show (inR x1 (4 : Int32)) = false from h1, if_pos bI_F]
    · rw [eX11_deal_0, kO88, if_T, m_isView, cI_some, wc_bind, h1, if_pos bI_F]
  have hv4 : inR (nI v) (nI 4) = true := inR_T hv (by decide)
  rcases deal_of x2 x3 x4 with h1 | ⟨f, n, r, hf, hn, hr, rfl, rfl, rfl, h1⟩
  · refine ag3_p hR (-2) ?_ ?_
    · rw [eX10_deal_0, kO0, if_T, c_below, cI_some, wc_bind, show (inR (nI v) (4 : Int32)) = true from hv4, if_neg bI_T, c_isDealt, cI_some, wc_bind, h1, if_pos bI_F]
    · rw [eX11_deal_0, kO88, if_T, m_isView, cI_some, wc_bind, hv4, if_neg bI_T, m_isDeal, cI_some, wc_bind, h1, if_pos bI_F]
  obtain ⟨z, hz⟩ : ∃ z, z = S 0 11 := ⟨_, rfl⟩
  have hz88 : S 88 15 = z := by rw [hz]; exact (hR.2.2.2.2.2.2).symm
  have hF := hR.1.1 f hf
  have hMC := hR.1.2
  obtain ⟨S1, a1, a2, a0, a3⟩ := c_draw (d + 15) (S := S) (z := z) hf hF hn hr
  obtain ⟨S1', hS1'⟩ : ∃ S1', S1' = up S1 0 11 (zk z (r * n)) := ⟨_, rfl⟩
  have o1 : ∀ c, c ≠ 0 → S1' c = S1 c := fun c hc => by rw [hS1', up_ne c hc]
  have a3' : MX S1' 17 f (dcol f n r z) := by
    obtain ⟨m1, m2, ⟨q, m3, m4, m5, m6⟩, m7, m8⟩ := a3
    have hq : q = 52 + 2 * f := by
      rw [a0] at m4
      exact ((nI_eq (by omega) m3).mp m4).symm
    refine ⟨m1, m2, ⟨q, m3, by rw [o1 17 (by decide)]; exact m4, ⟨m5.1, m5.2.1, m5.2.2.1, by rw [o1 q (by omega)]; exact m5.2.2.2.1, fun b hb => by rw [o1 (q + 1) (by omega)]; exact m5.2.2.2.2 b hb⟩, m6⟩, m7, fun g hg i hi => by rw [o1 (17 + 3) (by decide)]; exact m8 g hg i hi⟩
  obtain ⟨S2, b1, b2, b3⟩ := c8_byColumns (d + 13) (q := 60 + 2 * v) (vq_v hv) hn a3' (by omega) (fun x hx hx2 => by
    rw [o1 17 (by decide), a0] at hx2
    have := (nI_eq (show 52 + 2 * f < 2 ^ 31 by omega) hx).mp hx2
    omega)
  have out : ∀ c, 52 ≤ c → c ≠ 60 + 2 * v → c ≠ 61 + 2 * v → S2 c = S c := fun c h1 h2 h3 => by rw [b2.1 c (by omega) (by omega), o1 c (by omega)]; exact a2 c (by omega) (by omega)
  have hMC2 : MC S2 := ⟨fun x hx => by rw [out 89 (by omega) (by omega) (by omega)]; exact hMC.1 x hx, fun x hx => by rw [out 90 (by omega) (by omega) (by omega)]; exact hMC.2 x hx⟩
  obtain ⟨S3, c1, c2, c3, c4⟩ := m_dealt (d + 14) (S := S2) (v := v) (z := z) hf hMC2 hn hr (by omega) (by rw [out 88 (by omega) (by omega) (by omega)]; exact hz88)
  refine ⟨nI (rkf f (dcol f n r z) (2 ^ n - 1)), S2, S3, ?_, ?_, ?_⟩
  · rw [eX10_deal_0, kO0, if_T, c_below, cI_some, wc_bind, show (inR (nI v) (4 : Int32)) = true from hv4, if_neg bI_T, c_isDealt, cI_some, wc_bind, h1, if_neg bI_T, kR0_0, wc_bind, kQf S hf, wc_bind, kI0_11, wc_bind, ← hz]
    dsimp only
    rw [a1, cI_some, wc_bind]
    dsimp only
    rw [kS0_11, wc_bind, ← hS1', kR0_1, wc_bind, kQv S1' hv, wc_bind, kR0_6, wc_bind, b1, cV_some, wc_bind, kR0_1, wc_bind, kQv S2 hv, wc_bind, c8_fullRank _ b3, cI_some, wc_bind]
  · rw [eX11_deal_0, kO88, if_T, m_isView, cI_some, wc_bind, hv4, if_neg bI_T, m_isDeal, cI_some, wc_bind, h1, if_neg bI_T]
    dsimp only
    rw [c1, cI_some, wc_bind]
  · have g1 : Fk (K2 (1 + v) 14) S S1 := Fk_Cr (a := 17) (b := 20) (fun c hc => a2 c (by omega) (by omega)) (fun c i p q => by rw [comp_sc (by omega)]; exact K2_16 _ _)
    have g1' : Fk (K2 (1 + v) 14) S S1' := by rw [hS1']; exact Fk_up (k := 14) g1 _ rfl (K2_k _ _)
    have g2 : Fk (K2 (1 + v) 14) S1' S2 := Fk_Yq b2 (by omega) (K2_16 _ _) (fun i => ⟨by rw [comp_v hv (Or.inl rfl)]; exact K2_j _ _, by rw [comp_v hv (by omega)]; exact K2_j _ _⟩)
    have g3 : Fk (K2 (1 + v) 14) S2 S3 := by
      intro c i hc
      dsimp only at hc
      by_cases h1 : c = 88
      · subst h1
        by_cases h2 : i = 15
        · subst h2
          rw [show comp 88 15 = 14 from rfl, K2_k] at hc; cases hc
        · exact c2.2.1 i h2
      · by_cases h2 : c = 91
        · subst h2
          by_cases h3 : i = v
          · rw [comp_91, h3] at hc
            unfold rowc at hc
            rw [if_pos hv, K2_j] at hc; cases hc
          · exact c2.2.2.1 i h3
        · by_cases h3 : c = 92
          · subst h3
            by_cases h4 : i < 128 * v ∨ 128 * v + 128 ≤ i
            · exact c2.2.2.2 i h4
            · exfalso
              have := comp_92 v (i := i - 128 * v) (by omega)
              rw [show 128 * v + (i - 128 * v) = i by omega] at this
              rw [this] at hc
              unfold rowc at hc
              rw [if_pos hv, K2_j] at hc
              cases hc
          · by_cases h4 : c = 93 ∨ c = 94
            · rw [comp_sc (by omega), K2_16] at hc; cases hc
            · rw [c2.1 c h1 h2 h3 (by omega) (by omega)]
    refine R_2 (j := 1 + v) (k' := 14) hR ((g1'.tr g2).tr g3) ?_ ?_
    · rw [RC_v hv]
      refine ⟨n, _, mat_rkf hf (vdc_dcol f n r z) hn, ?_, c4⟩
      exact ⟨b3.1, b3.2.1, b3.2.2.1, by rw [c2.1 _ (by omega) (by omega) (by omega) (by omega) (by omega)]; exact b3.2.2.2.1, fun s hs => by rw [c2.1 _ (by omega) (by omega) (by omega) (by omega) (by omega)]; exact b3.2.2.2.2 s hs⟩
    · show S3 0 11 = S3 88 15
      rw [c3, c2.1 0 (by decide) (by decide) (by decide) (by decide) (by decide), b2.1 0 (by omega) (by omega), hS1', up_self])
/-! a sheet of columns -/
theorem wr_code (F : am_F) {S : am_S} (hM : MC S) {v f s e : Nat} {u : vec} (hf : f < 4) (he : e < 7) (h : ∀ i, i < 7 → S 101 (7 * e + i) = nI (u i)) : am_run false F (am_lk tbX11_writes) 68 [some (.ref 88), some (.int (nI v)), some (.int (nI f)), some (.int (nI s)), some (.int (nI e)), some (.int (nI 0)), some (.int (nI 6 - nI 0))] [] (ws S) = am_run false F (am_lk tbX11_writes) 68 [some (.ref 88), some (.int (nI v)), some (.int (nI f)), some (.int (nI s)), some (.int (nI e)), some (.int (nI (cod f u))), some (.int (nI 6 - nI 7))] [] (ws S) := by
  refine loop_fd (fun j a => am_run false F (am_lk tbX11_writes) 68 [some (.ref 88), some (.int (nI v)), some (.int (nI f)), some (.int (nI s)), some (.int (nI e)), some (.int (nI a)), some (.int (nI 6 - nI j))] [] (ws S)) (fun j a => a * fsz f + u (6 - j)) 7 0 ?_ rfl
  intro j a hj
  show am_run _ _ _ _ _ _ _ = am_run _ _ _ _ _ _ _
  rw [← dn6 j hj, pk_sub (show j ≤ 6 by omega), eX11_writes_68, if_neg (nI_pos (by omega)), kR88_0, wc_bind, hM.sz hf, wc_bind, kR88_12, wc_bind, wc_row7, kA101 S (by omega), wc_bind, h _ (by omega), pk_mul, nI_add]
theorem pu_writes : am_ag Inv jX10_writes jX11_writes 3 := ai_3 (fun d S x1 x2 x3 hR => by
  rcases inR_of (x := x1) (n := 4) (by decide) with h1 | ⟨v, hv, rfl⟩
  · refine ag4_p hR (-2) ?_ ?_
    · rw [eX10_writes_0, kO0, if_T, c_below, cI_some, wc_bind, show (inR x1 (4 : Int32)) = false from h1, if_pos bI_F]
    · rw [eX11_writes_0, kO88, if_T, m_isView, cI_some, wc_bind, h1, if_pos bI_F]
  have hv4 : inR (nI v) (nI 4) = true := inR_T hv (by decide)
  rcases inR_of (x := x2) (n := 4) (by decide) with h1 | ⟨f, hf, rfl⟩
  · refine ag4_p hR (-2) ?_ ?_
    · rw [eX10_writes_0, kO0, if_T, c_below, cI_some, wc_bind, show (inR (nI v) (4 : Int32)) = true from hv4, if_neg bI_T, c_below, cI_some, wc_bind, show (inR x2 (4 : Int32)) = false from h1, if_pos bI_F]
    · rw [eX11_writes_0, kO88, if_T, m_isView, cI_some, wc_bind, hv4, if_neg bI_T, m_isField, cI_some, wc_bind, h1, if_pos bI_F]
  have hf4 : inR (nI f) (nI 4) = true := inR_T hf (by decide)
  rcases inR_of (x := x3) (n := 4) (by decide) with h1 | ⟨s, hs, rfl⟩
  · refine ag4_p hR (-2) ?_ ?_
    · rw [eX10_writes_0, kO0, if_T, c_below, cI_some, wc_bind, show (inR (nI v) (4 : Int32)) = true from hv4, if_neg bI_T, c_below, cI_some, wc_bind, show (inR (nI f) (4 : Int32)) = true from hf4, if_neg bI_T, c_below, cI_some, wc_bind, show (inR x3 (4 : Int32)) = false from h1, if_pos bI_F]
    · rw [eX11_writes_0, kO88, if_T, m_isView, cI_some, wc_bind, hv4, if_neg bI_T, m_isField, cI_some, wc_bind, hf4, if_neg bI_T, m_isSheet, cI_some, wc_bind, h1, if_pos bI_F]
  have hs4 : inR (nI s) (nI 4) = true := inR_T hs (by decide)
  obtain ⟨n, ρ, hm, hC, hM⟩ := hR.2.1 v hv
  have hn := hC.n7
  obtain ⟨S1, a1, a2, a3⟩ := c9_count (d + 17) (E := 1) hm hC (hR.1.1 f hf) (by omega) (by omega) (by omega) (by omega) (by decide) (by decide)
  have hC1 := VC_Cr hC a2 (by omega)
  have hw1 := (lp_le f n (lb n ρ) 1 ρ (Mc f n ρ (lb n ρ) 0) 0 (0, 0)).2.2 (by decide)
  have hw1 : (wrt f n ρ 1).1 ≤ 1 := hw1
  have hcl : am_cal am_mt (d + 40) jX10_writes [.ref 0, .int (nI v), .int (nI f), .int (nI s)] (ws S) = if nI (wrt f n ρ 1).1 = 0 then some (some (.int (-1 : Int32)), ws S1) else (am_cV (am_cal am_mt (d + 39) jX7_become [.ref (80 + 2 * s), .int (1 : Int32), .int (nI n)] (ws S1))).bind fun q15 => am_run false (am_cal am_mt (d + 39)) (am_lk tbX10_writes) 78 [some (.ref 0), some (.int (nI v)), some (.int (nI f)), some (.int (nI s)), some (.int (nI n)), some (.int (0 : Int32))] [] q15 := by
    rw [eX10_writes_0, kO0, if_T, c_below, cI_some, wc_bind, show (inR (nI v) (4 : Int32)) = true from hv4, if_neg bI_T, c_below, cI_some, wc_bind, show (inR (nI f) (4 : Int32)) = true from hf4, if_neg bI_T, c_below, cI_some, wc_bind, show (inR (nI s) (4 : Int32)) = true from hs4, if_neg bI_T, kR0_7, wc_bind, kR0_1, wc_bind, kQv S hv, wc_bind, kR0_0, wc_bind, kQf S hf, wc_bind, show (1 : Int32) = nI 1 from rfl, a1, cI_some, wc_bind]
    dsimp only
    rw [kR0_1, wc_bind, kQv S1 hv, wc_bind, hC1.fI, wc_bind, kR0_3, wc_bind, kQs S1 hs, wc_bind]
  have hml : ∀ T, MC T → VM T v n ρ → ∃ T', am_cal am_mt (d + 40) jX11_writes [.ref 88, .int (nI v), .int (nI f), .int (nI s)] (ws T) = (if nI (wrt f n ρ 1).1 = 0 then some (some (.int (-1 : Int32)), ws T') else (am_cV (am_cal am_mt (d + 39) jX11_laysSheet [.ref 88, .int (nI s), .int (nI n)] (ws T'))).bind fun q7 => am_run false (am_cal am_mt (d + 39)) (am_lk tbX11_writes) 50 [some (.ref 88), some (.int (nI v)), some (.int (nI f)), some (.int (nI s)), some (.int (0 : Int32)), none, none] [] q7) ∧ FQ T T' ∧ (0 < (wrt f n ρ 1).1 → ∀ x, x < 7 * n → T' 101 x = nI (ent f n ρ (lb n ρ) (wrt f n ρ 1).2 x)) := by
    intro T hMT hVT
    obtain ⟨T', b1, b2, b3⟩ := m_writingsOf (d + 33) (E := 1) hm hVT (by omega) hf hMT (by decide)
    refine ⟨T', ?_, b2, b3⟩
    rw [eX11_writes_0, kO88, if_T, m_isView, cI_some, wc_bind, hv4, if_neg bI_T, m_isField, cI_some, wc_bind, hf4, if_neg bI_T, m_isSheet, cI_some, wc_bind, hs4, if_neg bI_T, show (1 : Int32) = nI 1 from rfl, b1, cI_some, wc_bind]
    dsimp only
    rw [kR88_2, wc_bind, (VM_FQ hVT b2).aI, wc_bind]
  by_cases h0 : (wrt f n ρ 1).1 = 0
  · obtain ⟨T', b1, b2, b3⟩ := hml S1 (MC_Cr hR.1.2 a2 (by omega)) (VM_Cr hM a2 (by omega))
    refine ⟨-1, S1, T', ?_, ?_, R_t hR ((Fk_wr a2 (K := Kt) rfl).tr (Fk_FQ b2 rfl))⟩
    · rw [hcl, if_pos (by rw [h0]; rfl)]
    · rw [b1, if_pos (by rw [h0]; rfl)]
  -- there is one
  have hne : ¬ nI (wrt f n ρ 1).1 = 0 := nI_ne0 (by omega) (by omega)
  obtain ⟨k, hk⟩ : ∃ k, k = (wrt f n ρ 1).2 := ⟨_, rfl⟩
  obtain ⟨B, hB⟩ : ∃ B, B = lb n ρ := ⟨_, rfl⟩
  have h38 := a3 (by omega)
  rw [← hk, ← hB] at h38
  obtain ⟨S2, c1, c2, c3, c4, c5⟩ := c7_become (d + 38) S1 hs (show n ≤ 64 by omega) 1
  have cl : ∀ e, e ≤ n → ∃ S', am_run false (am_cal am_mt (d + 39)) (am_lk tbX10_writes) 78 [some (.ref 0), some (.int (nI v)), some (.int (nI f)), some (.int (nI s)), some (.int (nI n)), some (.int (nI 0))] [] (ws S2) = am_run false (am_cal am_mt (d + 39)) (am_lk tbX10_writes) 78 [some (.ref 0), some (.int (nI v)), some (.int (nI f)), some (.int (nI s)), some (.int (nI n)), some (.int (nI e))] [] (ws S') ∧ Cr (80 + 2 * s) (81 + 2 * s) S1 S' ∧ S' (80 + 2 * s) 0 = 1 ∧ S' (80 + 2 * s) 1 = nI n ∧ ∀ i, i < 64 → S' (81 + 2 * s) i = if i < e then nI (cod f (wcol f n ρ B k i)) else 0 := by
    intro e
    induction e with
    | zero => intro _; exact ⟨S2, rfl, c2, c3, c4, fun i hi => by rw [if_neg (Nat.not_lt_zero i)]; exact c5 i hi⟩
    | succ e ih =>
      intro he
      obtain ⟨S3, g1, g2, g3, g4, g5⟩ := ih (by omega)
      refine ⟨up S3 (81 + 2 * s) e (nI (cod f (wcol f n ρ B k e))), g1.trans ?_, Cr_up g2 (by omega) (by omega), by rw [up_ne _ (by omega)]; exact g3, by rw [up_ne _ (by omega)]; exact g4, fun i hi => ?_⟩
      · have hfc : am_cal am_mt (d + 39) jX9_firstCode [.ref 25, .int (nI e)] (ws S3) = some (some (.int (nI (cod f (wcol f n ρ B k e)))), ws S3) := by
          rw [eX9_firstCode_0, kO25, if_T, c_below, cI_some, wc_bind, in7T (by omega), if_neg bI_T, kR25_5, wc_bind, kA38 S3 (by omega), wc_bind, g2 38 (by omega), h38 e (by omega)]
        rw [eX10_writes_78, if_neg (nI_ge (by omega) (by omega)), kR0_3, wc_bind, kQs S3 hs, wc_bind, kR0_7, wc_bind, hfc, cI_some, wc_bind]
        dsimp only
        rw [c7_put _ S3 hs g4 (by omega) (by omega), g3, if_neg z10, cV_some, wc_bind, nI_1]
      · rw [up_upd]; unfold upd
        by_cases hie : i = e
        · rw [if_pos hie, if_pos (by omega), hie]
        · rw [if_neg hie, g5 i hi]
          by_cases hlt : i < e
          · rw [if_pos hlt, if_pos (by omega)]
          · rw [if_neg hlt, if_neg (by omega)]
  obtain ⟨S3, g1, g2, g3, g4, g5⟩ := cl n (Nat.le_refl n)
  have out : ∀ c, 38 < c → (c < 80 + 2 * s ∨ 81 + 2 * s < c) → S3 c = S c := fun c q1 q2 => by rw [g2 c (by omega)]; exact a2 c (by omega)
  have hM3 : VM S3 v n ρ := VM_Cr (VM_Cr hM a2 (by omega)) g2 (by omega)
  have hMC3 : MC S3 := MC_Cr (MC_Cr hR.1.2 a2 (by omega)) g2 (by omega)
  obtain ⟨T0, b1, b2, b3⟩ := hml S3 hMC3 hM3
  have h101 := b3 (by omega)
  rw [← hk, ← hB] at h101
  obtain ⟨T1, e1, e2, e3, e4, e5, e6⟩ := m_lays (d + 38) T0 hs (nI n)
  have ml : ∀ e, e ≤ n → ∃ T' y5 y6, am_run false (am_cal am_mt (d + 39)) (am_lk tbX11_writes) 50 [some (.ref 88), some (.int (nI v)), some (.int (nI f)), some (.int (nI s)), some (.int (nI 0)), none, none] [] (ws T1) = am_run false (am_cal am_mt (d + 39)) (am_lk tbX11_writes) 50 [some (.ref 88), some (.int (nI v)), some (.int (nI f)), some (.int (nI s)), some (.int (nI e)), y5, y6] [] (ws T') ∧ Fk (K1 (9 + s)) T0 T' ∧ Cr 104 106 T0 T' ∧ T' 104 s = 1 ∧ T' 105 s = nI n ∧ ∀ i, i < 64 → T' 106 (64 * s + i) = if i < e then nI (cod f (wcol f n ρ B k i)) else 0 := by
    intro e
    induction e with
    | zero => intro _; exact ⟨T1, none, none, rfl, e2, e3, e4, e5, fun i hi => by rw [if_neg (Nat.not_lt_zero i)]; exact e6 i hi⟩
    | succ e ih =>
      intro he
      obtain ⟨T2, y5, y6, q1, q2, q3, q4, q5, q6⟩ := ih (by omega)
      have hM2 : VM T2 v n ρ := VM_Cr (VM_FQ hM3 b2) q3 (by omega)
      have hMC2 : MC T2 := MC_Cr (MC_FQ hMC3 b2) q3 (by omega)
      refine ⟨up T2 106 (64 * s + e) (nI (cod f (wcol f n ρ B k e))), some (.int (nI (cod f (wcol f n ρ B k e)))), some (.int (nI 6 - nI 7)), q1.trans ?_, Fk_up q2 _ (comp_106 s (by omega)) (K1_j _), Cr_up q3 (by omega) (by omega), by rw [up_ne _ (by omega)]; exact q4, by rw [up_ne _ (by omega)]; exact q5, fun i hi => ?_⟩
      · have hcode := wr_code (am_cal am_mt (d + 39)) (S := T2) hMC2 (v := v) (s := s) (u := wcol f n ρ B k e) hf (show e < 7 by omega) (fun i hi => by rw [q3 101 (by omega)]; exact h101 _ (by omega))
        rw [eX11_writes_50, kR88_2, wc_bind, hM2.aI, wc_bind, if_neg (nI_ge (by omega) (by omega))]
        refine (show _ = am_run false (am_cal am_mt (d + 39)) (am_lk tbX11_writes) 68 [some (.ref 88), some (.int (nI v)), some (.int (nI f)), some (.int (nI s)), some (.int (nI e)), some (.int (nI 0)), some (.int (nI 6 - nI 0))] [] (ws T2) from rfl).trans (hcode.trans ?_)
        rw [eX11_writes_68, if_pos (by decide), kR88_20, wc_bind, wc_row64, kW106 T2 (show 64 * s + e < 256 by omega), wc_bind, nI_1]
      · rw [up_upd]; unfold upd
        by_cases hie : i = e
        · rw [if_pos (by omega), if_pos (by omega), hie]
        · rw [if_neg (by omega), q6 i hi]
          by_cases hlt : i < e
          · rw [if_pos hlt, if_pos (by omega)]
          · rw [if_neg hlt, if_neg (by omega)]
  obtain ⟨T2, y5, y6, q1, q2, q3, q4, q5, q6⟩ := ml n (Nat.le_refl n)
  refine ⟨nI n, S3, T2, ?_, ?_, ?_⟩
  · rw [hcl, if_neg hne, c1, cV_some, wc_bind, show (0 : Int32) = nI 0 from rfl, g1, eX10_writes_78, if_pos (Int32.le_refl _)]
  · have hM2 : VM T2 v n ρ := VM_Cr (VM_FQ hM3 b2) q3 (by omega)
    rw [b1, if_neg hne, e1, cV_some, wc_bind, show (0 : Int32) = nI 0 from rfl, q1, eX11_writes_50, kR88_2, wc_bind, hM2.aI, wc_bind, if_pos (Int32.le_refl _), wc_bind, hM2.aI, wc_bind]
  · refine R_1 (j := 9 + s) hR ((((Fk_wr a2 (K1_16 _)).tr (Fk_Cr g2 (fun c i p q => by rw [comp_s hs (by omega)]; exact K1_j _))).tr (Fk_FQ b2 (K1_16 _))).tr q2) ?_
    rw [RC_s hs]
    unfold RS
    have hT : ∀ c, c = 80 + 2 * s ∨ c = 81 + 2 * s → T2 c = S3 c := fun c hc => by rw [q3 c (by omega), b2.1 c (by omega) (by omega) (by omega) (by omega) (by omega) (by omega) (by omega)]
    rw [hT _ (Or.inl rfl), hT _ (Or.inr rfl)]
    exact ⟨g3.trans q4.symm, g4.trans q5.symm, Or.inr (Or.inr q4), ⟨n, by omega, q5⟩, fun i hi => (g5 i hi).trans (q6 i hi).symm⟩)
