/-! ===== chance ===== -/
def zz (z : Int32) (t : Nat) : Nat → Int32
  | 0 => z
  | k + 1 => zk (zz z t k) t
noncomputable def chn (f n r o : Nat) (z : Int32) : Nat → Nat
  | 0 => 0
  | k + 1 => chn f n r o z k + (wrt o n (rkf f (dcol f n r (zz z (r * n) k))) 1).1
def FZ (S S' : am_S) : Prop := (∀ c, c ≠ 88 → c ≠ 91 → c ≠ 92 → c ≠ 93 → c ≠ 94 → c ≠ 97 → c ≠ 99 → c ≠ 100 → c ≠ 101 → S' c = S c) ∧ (∀ i, i ≠ 13 → i ≠ 14 → i ≠ 15 → S' 88 i = S 88 i) ∧ (∀ i, i ≠ 12 → S' 91 i = S 91 i) ∧ ∀ i, i < 128 * 12 ∨ 128 * 12 + 128 ≤ i → S' 92 i = S 92 i
theorem FZ.rf {S : am_S} : FZ S S := ⟨fun _ _ _ _ _ _ _ _ _ _ => rfl, fun _ _ _ _ => rfl, fun _ _ => rfl, fun _ _ => rfl⟩
theorem FZ.tr {S S' S'' : am_S} (h : FZ S S') (h' : FZ S' S'') : FZ S S'' := ⟨fun c a1 a2 a3 a4 a5 a6 a7 a8 a9 => (h'.1 c a1 a2 a3 a4 a5 a6 a7 a8 a9).trans (h.1 c a1 a2 a3 a4 a5 a6 a7 a8 a9), fun i a b e => (h'.2.1 i a b e).trans (h.2.1 i a b e), fun i a => (h'.2.2.1 i a).trans (h.2.2.1 i a), fun i a => (h'.2.2.2 i a).trans (h.2.2.2 i a)⟩
theorem FZ_Dz {S S' : am_S} (h : Dz 12 S S') : FZ S S' := ⟨fun c a1 a2 a3 a4 a5 _ _ _ _ => h.1 c a1 a2 a3 a4 a5, fun i _ _ a => h.2.1 i a, h.2.2.1, h.2.2.2⟩
theorem FZ_FQ {S S' : am_S} (h : FQ S S') : FZ S S' := ⟨fun c a1 _ _ a4 a5 a6 a7 a8 a9 => h.1 c a1 a4 a5 a6 a7 a8 a9, fun i a b _ => h.2 i a b, fun i _ => by rw [h.1 91 (by decide) (by decide) (by decide) (by decide) (by decide) (by decide) (by decide)], fun i _ => by rw [h.1 92 (by decide) (by decide) (by decide) (by decide) (by decide) (by decide) (by decide)]⟩
theorem MC_FZ {S S' : am_S} (h : MC S) (hf : FZ S S') : MC S' :=
  ⟨fun x hx => by rw [hf.1 89 (by decide) (by decide) (by decide) (by decide) (by decide) (by decide) (by decide) (by decide) (by decide)]; exact h.1 x hx, fun x hx => by rw [hf.1 90 (by decide) (by decide) (by decide) (by decide) (by decide) (by decide) (by decide) (by decide) (by decide)]; exact h.2 x hx⟩
theorem c_chance (d : Nat) {S : am_S} {f n r m o : Nat} {z : Int32} (hf : f < 4) (ho : o < 4) (hn : n ≤ 7) (hr : r ≤ 4) (hm : m ≤ 5) (hF : FC S (52 + 2 * f) f) (hO : FC S (52 + 2 * o) o) : ∀ k, k ≤ m → ∃ S', am_run false (am_cal am_mt (d + 39)) (am_lk tbX10_chance) 45 [some (.ref 0), some (.int (nI f)), some (.int (nI n)), some (.int (nI r)), some (.int (nI m)), some (.int (nI o)), some (.int z), some (.int (nI 0)), some (.int (nI 0))] [] (ws S) = am_run false (am_cal am_mt (d + 39)) (am_lk tbX10_chance) 45 [some (.ref 0), some (.int (nI f)), some (.int (nI n)), some (.int (nI r)), some (.int (nI m)), some (.int (nI o)), some (.int (zz z (r * n) k)), some (.int (nI (chn f n r o z k))), some (.int (nI k))] [] (ws S') ∧ Cr 17 51 S S' := by
  intro k
  induction k with
  | zero => intro _; exact ⟨S, rfl, Cr.rf⟩
  | succ k ih =>
    intro hk
    obtain ⟨S1, a1, a2⟩ := ih (by omega)
    have hF1 := FC_Cr hF a2 (by omega)
    have hvd := vdc_dcol f n r (zz z (r * n) k)
    obtain ⟨S2, b1, b2, b0, b3⟩ := c_draw (d + 35) (S := S1) (z := zz z (r * n) k) hf hF1 hn hr
    obtain ⟨S3, c1, c2, c3⟩ := c8_byColumns (d + 33) (q := 50) vq_50 hn b3 (by omega) (fun x hx hx2 => by
      rw [b0] at hx2
      have := (nI_eq (show 52 + 2 * f < 2 ^ 31 by omega) hx).mp hx2
      omega)
    have g2 : Cr 17 51 S S2 := fun c hc => by rw [b2 c (by omega) (by omega)]; exact a2 c hc
    have g3 : Cr 17 51 S S3 := fun c hc => by rw [c2.1 c (by omega) (by omega)]; exact g2 c hc
    have hO3 := FC_Cr hO g3 (by omega)
    obtain ⟨S4, e1, e2, _⟩ := c9_count (d + 17) (S := S3) (q := 50) (qf := 52 + 2 * o) (E := 1) (mat_rkf hf hvd hn) c3 hO3 (by omega) (by omega) (by omega) (by omega) (by decide) (by decide)
    refine ⟨S4, a1.trans ?_, fun c hc => by rw [e2 c (by omega)]; exact g3 c hc⟩
    rw [eX10_chance_45, if_neg (nI_ge (by omega) (by omega)), kR0_0, wc_bind, kQf S1 hf, wc_bind, b1, cI_some, wc_bind]
    dsimp only
    rw [kR0_10, wc_bind, kR0_6, wc_bind, c1, cV_some, wc_bind, kR0_7, wc_bind, kR0_10, wc_bind, kR0_0, wc_bind, kQf S3 ho, wc_bind, show (1 : Int32) = nI 1 from rfl, e1, cI_some, wc_bind]
    dsimp only
    rw [nI_add, nI_add]
    rfl
theorem m_chance (d : Nat) {S : am_S} {f n r m o : Nat} {z x : Int32} (hf : f < 4) (ho : o < 4) (hn : n ≤ 7) (hr : r ≤ 4) (hm : m ≤ 5) (hM : MC S) (hz : S 88 15 = z) : ∀ k, k ≤ m → ∃ S' y, am_run false (am_cal am_mt (d + 39)) (am_lk tbX11_chance) 42 [some (.ref 88), some (.int (nI f)), some (.int (nI n)), some (.int (nI r)), some (.int (nI m)), some (.int (nI o)), some (.int x), some (.int (nI 0)), some (.int (nI 0)), none] [] (ws S) = am_run false (am_cal am_mt (d + 39)) (am_lk tbX11_chance) 42 [some (.ref 88), some (.int (nI f)), some (.int (nI n)), some (.int (nI r)), some (.int (nI m)), some (.int (nI o)), some (.int x), some (.int (nI (chn f n r o z k))), some (.int (nI k)), y] [] (ws S') ∧ FZ S S' ∧ S' 88 15 = zz z (r * n) k := by
  intro k
  induction k with
  | zero => intro _; exact ⟨S, none, rfl, FZ.rf, hz⟩
  | succ k ih =>
    intro hk
    obtain ⟨S1, y, a1, a2, a3⟩ := ih (by omega)
    have hM1 := MC_FZ hM a2
    have hvd := vdc_dcol f n r (zz z (r * n) k)
    obtain ⟨S2, b1, b2, b3, b4⟩ := m_dealt (d + 34) (S := S1) (v := 12) (z := zz z (r * n) k) hf hM1 hn hr (by decide) a3
    have g2 := a2.tr (FZ_Dz b2)
    obtain ⟨S3, c1, c2, _⟩ := m_writingsOf (d + 33) (S := S2) (v := 12) (f := o) (E := 1) (mat_rkf hf hvd hn) b4 (by decide) ho (MC_FZ hM g2) (by decide)
    refine ⟨S3, some (.int (nI (rkf f (dcol f n r (zz z (r * n) k)) (2 ^ n - 1)))), a1.trans ?_, g2.tr (FZ_FQ c2), by rw [c2.2 15 (by decide) (by decide)]; exact b3⟩
    rw [eX11_chance_42, if_neg (nI_ge (by omega) (by omega)), show (12 : Int32) = nI 12 from rfl, b1, cI_some, wc_bind]
    dsimp only
    rw [show (1 : Int32) = nI 1 from rfl, c1, cI_some, wc_bind]
    dsimp only
    rw [nI_add, nI_add]
    rfl
theorem pu_chance : am_ag Inv jX10_chance jX11_chance 5 := ai_5 (fun d S x1 x2 x3 x4 x5 hR => by
  rcases deal_of x1 x2 x3 with h1 | ⟨f, n, r, hf, hn, hr, rfl, rfl, rfl, h1⟩
  · refine ag4_p hR (-2) ?_ ?_
    · rw [eX10_chance_0, kO0, if_T, c_isDealt, cI_some, wc_bind, h1, if_pos bI_F]
    · rw [eX11_chance_0, kO88, if_T, m_isDeal, cI_some, wc_bind, h1, if_pos bI_F]
  rcases Or.symm (in15 x4) with hbad | ⟨m, hm1, hm5, rfl, g1, g2⟩
  · refine ag4_p hR (-2) ?_ ?_
    · rw [eX10_chance_0, kO0, if_T, c_isDealt, cI_some, wc_bind, h1, if_neg bI_T]
      rcases hbad with hb | ⟨hb1, hb2⟩
      · rw [if_pos hb]
      · rw [if_neg hb1, if_pos (by rw [Int32.le_iff_toInt_le] at hb2; rw [Int32.lt_iff_toInt_lt]; omega)]
    · rw [eX11_chance_0, kO88, if_T, m_isDeal, cI_some, wc_bind, h1, if_neg bI_T, m_in15, cI_some, wc_bind]
      rcases hbad with hb | ⟨hb1, hb2⟩
      · rw [decide_eq_false (fun c => c.1 hb), if_pos bI_F]
      · rw [decide_eq_false (fun c => hb2 c.2), if_pos bI_F]
  have g5 : ¬ (5 : Int32) < nI m := fun c => by rw [Int32.le_iff_toInt_le] at g2; rw [Int32.lt_iff_toInt_lt] at c; omega
  rcases inR_of (x := x5) (n := 4) (by decide) with h2 | ⟨o, ho, rfl⟩
  · refine ag4_p hR (-2) ?_ ?_
    · rw [eX10_chance_0, kO0, if_T, c_isDealt, cI_some, wc_bind, h1, if_neg bI_T, if_neg g1, if_neg g5]
      dsimp only
      rw [c_below, cI_some, wc_bind, show (inR x5 (4 : Int32)) = false from h2, if_pos bI_F]
    · rw [eX11_chance_0, kO88, if_T, m_isDeal, cI_some, wc_bind, h1, if_neg bI_T, m_in15, cI_some, wc_bind, decide_eq_true ⟨g1, g2⟩, if_neg bI_T, m_isField, cI_some, wc_bind, h2, if_pos bI_F]
  have ho4 : inR (nI o) (nI 4) = true := inR_T ho (by decide)
  obtain ⟨z, hz⟩ : ∃ z, z = S 0 11 := ⟨_, rfl⟩
  have hz88 : S 88 15 = z := by rw [hz]; exact (hR.2.2.2.2.2.2).symm
  obtain ⟨S1, a1, a2⟩ := c_chance d (m := m) (o := o) (z := z) hf ho hn hr hm5 (hR.1.1 f hf) (hR.1.1 o ho) m (Nat.le_refl m)
  have hz1 : S1 88 15 = z := by rw [a2 88 (by omega)]; exact hz88
  obtain ⟨S2, y, b1, b2, b3⟩ := m_chance d (m := m) (o := o) (z := z) (x := z) hf ho hn hr hm5 (MC_Cr hR.1.2 a2 (by omega)) hz1 m (Nat.le_refl m)
  refine ⟨nI (chn f n r o z m), S1, up S2 88 15 z, ?_, ?_, R_t hR ((Fk_Cr (K := Kt) a2 (fun c i p q => by rw [comp_sc (by omega)]; rfl)).tr ?_)⟩
  · rw [eX10_chance_0, kO0, if_T, c_isDealt, cI_some, wc_bind, h1, if_neg bI_T, if_neg g1, if_neg g5]
    dsimp only
    rw [c_below, cI_some, wc_bind, show (inR (nI o) (4 : Int32)) = true from ho4, if_neg bI_T, kI0_11, wc_bind, ← hz]
    dsimp only
    rw [show (0 : Int32) = nI 0 from rfl, a1, eX10_chance_45, if_pos (Int32.le_refl _)]
  · rw [eX11_chance_0, kO88, if_T, m_isDeal, cI_some, wc_bind, h1, if_neg bI_T, m_in15, cI_some, wc_bind, decide_eq_true ⟨g1, g2⟩, if_neg bI_T, m_isField, cI_some, wc_bind, ho4, if_neg bI_T, kI88_15, wc_bind, hz1]
    dsimp only
    rw [show (0 : Int32) = nI 0 from rfl, b1, eX11_chance_42, if_pos (Int32.le_refl _), kS88_15, wc_bind]
  · intro c i hc
    dsimp only at hc
    by_cases h1 : c = 88
    · subst h1
      rw [up_upd]; unfold upd
      by_cases h2 : i = 15
      · rw [if_pos h2, h2, hz1]
      · rw [if_neg h2]
        by_cases h3 : i = 13 ∨ i = 14
        · have : comp 88 i = 16 := by rcases h3 with rfl | rfl <;> rfl
          rw [this] at hc; cases hc
        · exact b2.2.1 i (by omega) (by omega) h2
    · rw [up_ne c h1]
      by_cases h2 : c = 91
      · subst h2
        by_cases h3 : i = 12
        · rw [h3] at hc; cases hc
        · exact b2.2.2.1 i h3
      · by_cases h3 : c = 92
        · subst h3
          by_cases h4 : i < 128 * 12 ∨ 128 * 12 + 128 ≤ i
          · exact b2.2.2.2 i h4
          · exfalso
            have := comp_92 12 (i := i - 128 * 12) (by omega)
            rw [show 128 * 12 + (i - 128 * 12) = i by omega] at this
            rw [this] at hc
            cases hc
        · by_cases h4 : c = 93 ∨ c = 94 ∨ c = 97 ∨ c = 99 ∨ c = 100 ∨ c = 101
          · rw [comp_sc (by omega)] at hc; cases hc
          · rw [b2.1 c h1 h2 h3 (by omega) (by omega) (by omega) (by omega) (by omega) (by omega)])
