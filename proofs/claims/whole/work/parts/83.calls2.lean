/-! ===== writings, clash, deal ===== -/
theorem Fk_wr {S S' : am_S} (h : Cr 25 38 S S') {K : Nat → Bool} (h16 : K 16 = true) : Fk K S S' := Fk_Cr h (fun c i p q => by rw [comp_sc (by omega)]; exact h16)
theorem Fk_FQ {S S' : am_S} (h : FQ S S') {K : Nat → Bool} (h16 : K 16 = true) : Fk K S S' := by
  intro c i hc
  dsimp only at hc
  by_cases h1 : c = 88
  · subst h1
    by_cases h2 : i = 13 ∨ i = 14
    · have : comp 88 i = 16 := by rcases h2 with rfl | rfl <;> rfl
      rw [this, h16] at hc; cases hc
    · exact h.2 i (by omega) (by omega)
  · by_cases h3 : c = 93 ∨ c = 94 ∨ c = 97 ∨ c = 99 ∨ c = 100 ∨ c = 101
    · rw [comp_sc (by omega), h16] at hc; cases hc
    · rw [h.1 c h1 (by omega) (by omega) (by omega) (by omega) (by omega) (by omega)]
theorem pu_writings : am_ag Inv jX10_writings jX11_writings 2 := ai_2 (fun d S x1 x2 hR => by
  rcases inR_of (x := x1) (n := 4) (by decide) with h1 | ⟨v, hv, rfl⟩
  · refine ag4_p hR (-2) ?_ ?_
    · rw [eX10_writings_0, kO0, if_T, c_below, cI_some, wc_bind, show (inR x1 (4 : Int32)) = false from h1, if_pos bI_F]
    · rw [eX11_writings_0, kO88, if_T, m_isView, cI_some, wc_bind, h1, if_pos bI_F]
  have hv4 : inR (nI v) (nI 4) = true := inR_T hv (by decide)
  rcases inR_of (x := x2) (n := 4) (by decide) with h1 | ⟨f, hf, rfl⟩
  · refine ag4_p hR (-2) ?_ ?_
    · rw [eX10_writings_0, kO0, if_T, c_below, cI_some, wc_bind, show (inR (nI v) (4 : Int32)) = true from hv4, if_neg bI_T, c_below, cI_some, wc_bind, show (inR x2 (4 : Int32)) = false from h1, if_pos bI_F]
    · rw [eX11_writings_0, kO88, if_T, m_isView, cI_some, wc_bind, hv4, if_neg bI_T, m_isField, cI_some, wc_bind, h1, if_pos bI_F]
  have hf4 : inR (nI f) (nI 4) = true := inR_T hf (by decide)
  obtain ⟨n, ρ, hm, hC, hM⟩ := hR.2.1 v hv
  obtain ⟨S1, a1, a2, _⟩ := c9_count (d + 17) (E := 1073741824) hm hC (hR.1.1 f hf) (by omega) (by omega) (by omega) (by omega) (by decide) (by decide)
  have hMC : MC S1 := MC_Cr hR.1.2 a2 (by omega)
  obtain ⟨S2, b1, b2, _⟩ := m_writingsOf (d + 33) (E := 1048576) hm (VM_Cr hM a2 (by omega)) (by omega) hf hMC (by decide)
  have hE := wrt_E (E := 1073741824) (E' := 1048576) hm hC.n7 hf (by decide) (by decide)
  refine ⟨nI (wrt f n ρ 1048576).1, S1, S2, ?_, ?_, R_t hR ((Fk_wr a2 (K := Kt) rfl).tr (Fk_FQ b2 rfl))⟩
  · rw [hE] at a1
    rw [eX10_writings_0, kO0, if_T, c_below, cI_some, wc_bind, show (inR (nI v) (4 : Int32)) = true from hv4, if_neg bI_T, c_below, cI_some, wc_bind, show (inR (nI f) (4 : Int32)) = true from hf4, if_neg bI_T, kR0_7, wc_bind, kR0_1, wc_bind, kQv S hv, wc_bind, kR0_0, wc_bind, kQf S hf, wc_bind, show (1073741824 : Int32) = nI 1073741824 from rfl, a1, cI_some, wc_bind]
  · rw [eX11_writings_0, kO88, if_T, m_isView, cI_some, wc_bind, hv4, if_neg bI_T, m_isField, cI_some, wc_bind, hf4, if_neg bI_T, show (1048576 : Int32) = nI 1048576 from rfl, b1, cI_some, wc_bind])
theorem pu_clash : am_ag Inv jX10_clash jX11_clash 1 := ah_1 (fun d S x1 hR => by
  rcases inR_of (x := x1) (n := 4) (by decide) with h1 | ⟨v, hv, rfl⟩
  · refine ag3_p hR (-2) ?_ ?_
    · rw [eX10_clash_0, kO0, if_T, c_below, cI_some, wc_bind, show (inR x1 (4 : Int32)) = false from h1, if_pos bI_F]
    · rw [eX11_clash_0, kO88, if_T, m_isView, cI_some, wc_bind, h1, if_pos bI_F]
  have hv4 : inR (nI v) (nI 4) = true := inR_T hv (by decide)
  obtain ⟨n, ρ, hm, hC, hM⟩ := hR.2.1 v hv
  have hn := hC.n7
  have h27 := p2_le hn
  obtain ⟨S1, a1, a2, a3, a4, a5, a6, a7, a8, a9⟩ := c9_layOut (d + 14) (qf := 52) hm hC (by omega) (by omega) (by decide)
  obtain ⟨B, hBd⟩ : ∃ B, B = lb n ρ := ⟨_, rfl⟩
  have hvd := vdc_wcol 0 n ρ B 0
  have hF0 : FC S 52 0 := hR.1.1 0 (by decide)
  rw [← hBd] at a9
  have hX : MX S1 26 0 (wcol 0 n ρ B 0) := ⟨mq_26, by decide, ⟨52, by decide, a6, FC_Cr hF0 a2 (by omega), by omega⟩, hvd, fun g hg i hi => by rw [a9 _ (by omega), if_pos (by omega), pat_ent 0]; rfl⟩
  obtain ⟨S2, b1, b2, b3⟩ := c8_byColumns (d + 13) (q := 50) vq_50 hn hX (by omega) (fun x hx hx2 => by
    rw [a6] at hx2
    have := (nI_eq (show 52 < 2 ^ 31 by decide) hx).mp hx2
    omega)
  have hC1 : VC S1 (60 + 2 * v) n ρ := VC_Cr hC a2 (by omega)
  have hC2 : VC S2 (60 + 2 * v) n ρ := ⟨hC1.1, hC1.2.1, hC1.2.2.1, by rw [b2.1 _ (by omega) (by omega)]; exact hC1.2.2.2.1, fun s hs => by rw [b2.1 _ (by omega) (by omega)]; exact hC1.2.2.2.2 s hs⟩
  have out : ∀ c, 52 ≤ c → S2 c = S c := fun c hc => by rw [b2.1 c (by omega) (by omega)]; exact a2 c (by omega)
  have hM2 : VM S2 v n ρ := ⟨hM.1, hM.2.1, by rw [out 91 (by decide)]; exact hM.2.2.1, fun s hs => by rw [out 92 (by decide)]; exact hM.2.2.2 s hs⟩
  have hMC2 : MC S2 := ⟨fun x hx => by rw [out 89 (by decide)]; exact hR.1.2.1 x hx, fun x hx => by rw [out 90 (by decide)]; exact hR.1.2.2 x hx⟩
  obtain ⟨S3, c1, c2, c3, c4, c5, c6⟩ := m_pattern (d + 14) hm hM2
  rw [← hBd] at c6
  have hM3 := VM_FPt hM2 c2
  have hMC3 := MC_FQ hMC2 (FQ_pt c2)
  -- the reference's search
  have key : ∀ m s T, s + m = 2 ^ n → FQ S3 T → T 93 = S3 93 → ∃ T', am_run false (am_cal am_mt (d + 19)) (am_lk tbX11_clash) 17 [some (.ref 88), some (.int (nI v)), some (.int (nI s))] [] (ws T) = some (some (.int (unl n ρ (rkf 0 (wcol 0 n ρ B 0)) m s)), ws T') ∧ FQ S3 T' := by
    intro m
    induction m with
    | zero =>
      intro s T hs f1 f2
      have : s = 2 ^ n := by omega
      subst this
      rw [eX11_clash_17, m_all _ (VM_FQ hM3 f1), cI_some, wc_bind, if_pos (p2_end hn)]
      dsimp only
      exact ⟨T, rfl, f1⟩
    | succ m ih =>
      intro s T hs f1 f2
      have hsn : s < 2 ^ n := by omega
      have hMT := VM_FQ hM3 f1
      obtain ⟨T2, e1, e2⟩ := m_rankOf (d + 16) (S := T) (f := 0) (n := n) (s := s) (col := wcol 0 n ρ B 0) (by decide) hvd (MC_FQ hMC3 f1) hn hsn (fun g hg j hj => by rw [f2, c6 _ (by omega), pat_ent 0]; rfl)
      have f3 : FQ S3 T2 := f1.tr (FQ_c e2 (by omega))
      have hMT2 := VM_FQ hM3 f3
      have l1 : rkf 0 (wcol 0 n ρ B 0) s ≤ 7 := rkf_le
      have l2 := hC.le hsn
      rw [eX11_clash_17, m_all _ hMT, cI_some, wc_bind, if_neg (p2_all hsn hn), show (0 : Int32) = nI 0 from rfl]
      dsimp only
      rw [e1, cI_some, wc_bind]
      dsimp only
      rw [m_r _ hMT2 hsn, cI_some, wc_bind, nI_1]
      dsimp only
      unfold unl
      by_cases hc : ρ s = rkf 0 (wcol 0 n ρ B 0) s
      · rw [if_pos (by rw [hc]), if_pos hc]
        exact ih (s + 1) T2 (by omega) f3 (by rw [e2 93 (by decide)]; exact f2)
      · rw [if_neg (fun z => hc ((nI_eq (by omega) (by omega)).mp z).symm), if_neg hc]
        exact ⟨T2, rfl, f3⟩
  obtain ⟨S4, e1, e2⟩ := key (2 ^ n) 0 S3 (by omega) ⟨fun _ _ _ _ _ _ _ _ => rfl, fun _ _ _ => rfl⟩ rfl
  refine ⟨unl n ρ (rkf 0 (wcol 0 n ρ B 0)) (2 ^ n) 0, S2, S4, ?_, ?_, ?_⟩
  · rw [eX10_clash_0, kO0, if_T, c_below, cI_some, wc_bind, show (inR (nI v) (4 : Int32)) = true from hv4, if_neg bI_T, kR0_7, wc_bind, kR0_1, wc_bind, kQv S hv, wc_bind, kR0_0, wc_bind, show am_aR (ws S) 1 (0 : Int32) = some 52 from kQ1_0 S, wc_bind, a1, cV_some, wc_bind, kR0_10, wc_bind, kR0_7, wc_bind, kR25_0, wc_bind, kR0_1, wc_bind, kQv S1 hv, wc_bind, hC1.fI, wc_bind, b1, cV_some, wc_bind, kR0_1, wc_bind, kQv S2 hv, wc_bind, kR0_10, wc_bind, c8_leastUnlike _ hC2 b3 (Nat.le_refl n), cI_some, wc_bind]
  · rw [eX11_clash_0, kO88, if_T, m_isView, cI_some, wc_bind, hv4, if_neg bI_T]
    dsimp only
    rw [c1, cV_some, wc_bind, show (0 : Int32) = nI 0 from rfl]
    exact e1
  · refine R_t hR ((((Fk_wr a2 (K := Kt) rfl).tr ?_).tr (Fk_FQ (FQ_pt c2) rfl)).tr (Fk_FQ e2 rfl))
    exact Fk_Yq b2 (by omega) rfl (fun i => ⟨by rw [comp_sc (by omega)]; rfl, by rw [comp_sc (by omega)]; rfl⟩))
