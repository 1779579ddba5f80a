/-! ===== draws ===== -/
def dr (z : Int32) : Nat := z.toBitVec.toNat / 2 ^ 16
theorem dr_ok (z : Int32) : (z.toUInt32 >>> (Int32.toUInt32 (16 : Int32) &&& Int32.toUInt32 31)).toInt32 = nI (dr z) ∧ dr z < 2 ^ 31 := by
  obtain ⟨n, hn, rfl⟩ := wc_of32 z
  unfold dr
  rw [pk_tn hn]
  exact ⟨pk_ushrN hn (16 : Int32) 16 (wc_su 16 (by decide)), by omega⟩
def nz (z : Int32) : Int32 := z * 1103515245 + 12345
def zk (z : Int32) : Nat → Int32
  | 0 => z
  | k + 1 => nz (zk z k)
def dval (f r : Nat) (z : Int32) (g i : Nat) : Nat := dr (zk z (r * g + i + 1)) % fsz f
def dcol (f n r : Nat) (z : Int32) : Nat → vec := fun g i => if g < n ∧ i < r then dval f r z g i else 0
theorem vdc_dcol (f n r : Nat) (z : Int32) : vdc f (dcol f n r z) := fun g _ i _ => by
  unfold dcol
  split
  · exact Nat.mod_lt _ (f0 f)
  · exact f0 f
/-- the class's matrix, k columns and j rows drawn -/
def DV (S : am_S) (f r : Nat) (z : Int32) (k j : Nat) : Prop := ∀ g i, g < 7 → i < 7 → S 20 (7 * g + i) = nI (if (g < k ∧ i < r) ∨ (g = k ∧ i < j) then dval f r z g i else 0)
theorem c_draw (d : Nat) {S : am_S} {f n r : Nat} {z : Int32} (hf : f < 4) (hF : FC S (52 + 2 * f) f) (hn : n ≤ 7) (hr : r ≤ 4) : ∃ S', am_cal am_mt (d + 4) jX10_drawColumns [.ref 0, .ref (52 + 2 * f), .int (nI n), .int (nI r), .int z] (ws S) = some (some (.int (zk z (r * n))), ws S') ∧ (∀ c, c ≠ 17 → c ≠ 20 → S' c = S c) ∧ S' 17 0 = nI (52 + 2 * f) ∧ MX S' 17 f (dcol f n r z) := by
  obtain ⟨S1, a1, a2, a3, a4⟩ := c5_clear (d + 2) S (m := 17) (q := 52 + 2 * f) mq_17 (by omega)
  rw [eX10_drawColumns_0, kO0, if_T, kR0_6, wc_bind, a1, cV_some, wc_bind, show (0 : Int32) = nI 0 from rfl]
  have key : ∀ k, k ≤ n → ∃ S' x7, am_run false (am_cal am_mt (d + 3)) (am_lk tbX10_drawColumns) 15 [some (.ref 0), some (.ref (52 + 2 * f)), some (.int (nI n)), some (.int (nI r)), some (.int z), some (.int z), some (.int (nI 0)), none] [] (ws S1) = am_run false (am_cal am_mt (d + 3)) (am_lk tbX10_drawColumns) 15 [some (.ref 0), some (.ref (52 + 2 * f)), some (.int (nI n)), some (.int (nI r)), some (.int z), some (.int (zk z (r * k))), some (.int (nI k)), x7] [] (ws S') ∧ (∀ c, c ≠ 17 → c ≠ 20 → S' c = S c) ∧ S' 17 0 = nI (52 + 2 * f) ∧ DV S' f r z k 0 := by
    intro k
    induction k with
    | zero =>
      intro _
      refine ⟨S1, none, rfl, a2, a3, fun g i hg hi => ?_⟩
      rw [if_neg (by omega)]
      exact a4 _ (by omega)
    | succ k ih =>
      intro hk
      obtain ⟨S2, x7, b1, b2, b3, b4⟩ := ih (by omega)
      have rows : ∀ j, j ≤ r → ∃ S', am_run false (am_cal am_mt (d + 3)) (am_lk tbX10_drawColumns) 24 [some (.ref 0), some (.ref (52 + 2 * f)), some (.int (nI n)), some (.int (nI r)), some (.int z), some (.int (zk z (r * k))), some (.int (nI k)), some (.int (nI 0))] [] (ws S2) = am_run false (am_cal am_mt (d + 3)) (am_lk tbX10_drawColumns) 24 [some (.ref 0), some (.ref (52 + 2 * f)), some (.int (nI n)), some (.int (nI r)), some (.int z), some (.int (zk z (r * k + j))), some (.int (nI k)), some (.int (nI j))] [] (ws S') ∧ (∀ c, c ≠ 17 → c ≠ 20 → S' c = S c) ∧ S' 17 0 = nI (52 + 2 * f) ∧ DV S' f r z k j := by
        intro j
        induction j with
        | zero => intro _; exact ⟨S2, rfl, b2, b3, b4⟩
        | succ j ihj =>
          intro hj
          obtain ⟨S3, c1, c2, c3, c4⟩ := ihj (by omega)
          have hF3 : FC S3 (52 + 2 * f) f := ⟨hF.1, hF.2.1, hF.2.2.1, by rw [c2 _ (by omega) (by omega)]; exact hF.2.2.2.1, fun x hx => by rw [c2 _ (by omega) (by omega)]; exact hF.2.2.2.2 x hx⟩
          obtain ⟨g1, g2⟩ := dr_ok (zk z (r * k + j) * 1103515245 + 12345)
          refine ⟨up S3 20 (7 * k + j) (nI (dval f r z k j)), c1.trans ?_, fun c h1 h2 => by rw [up_ne c h2]; exact c2 c h1 h2, by rw [up_ne 17 (by decide)]; exact c3, fun g i hg hi => ?_⟩
          · rw [eX10_drawColumns_24, if_neg (nI_ge (by omega) (by omega)), kR0_6, wc_bind, g1, c2_rest _ hF3 g2, cI_some, wc_bind]
            dsimp only
            rw [c5_put _ S3 mq_17 (by omega) (by omega), cV_some, wc_bind, nI_1]
            rfl
          · rw [up_upd]; unfold upd
            by_cases hgi : g = k ∧ i = j
            · rw [if_pos (by omega), if_pos (by omega), hgi.1, hgi.2]
            · rw [if_neg (by omega), c4 g i hg hi]
              by_cases h1 : (g < k ∧ i < r) ∨ (g = k ∧ i < j)
              · rw [if_pos h1, if_pos (by omega)]
              · rw [if_neg h1, if_neg (by omega)]
      obtain ⟨S3, c1, c2, c3, c4⟩ := rows r (Nat.le_refl r)
      refine ⟨S3, some (.int (nI r)), b1.trans ?_, c2, c3, fun g i hg hi => ?_⟩
      · rw [eX10_drawColumns_15, if_neg (nI_ge (by omega) (by omega)), show (0 : Int32) = nI 0 from rfl, c1, eX10_drawColumns_24, if_pos (nI_le (Nat.le_refl _) (by omega)), nI_1, Nat.mul_succ]
      · rw [c4 g i hg hi]
        by_cases h1 : (g < k ∧ i < r) ∨ (g = k ∧ i < r)
        · rw [if_pos h1, if_pos (by omega)]
        · rw [if_neg h1, if_neg (by omega)]
  obtain ⟨S2, x7, b1, b2, b3, b4⟩ := key n (Nat.le_refl n)
  refine ⟨S2, ?_, b2, b3, mq_17, hf, ⟨52 + 2 * f, by omega, b3, ⟨hF.1, hF.2.1, hF.2.2.1, by rw [b2 _ (by omega) (by omega)]; exact hF.2.2.2.1, fun x hx => by rw [b2 _ (by omega) (by omega)]; exact hF.2.2.2.2 x hx⟩, by omega⟩, vdc_dcol f n r z, fun g hg i hi => ?_⟩
  · rw [b1, eX10_drawColumns_15, if_pos (nI_le (Nat.le_refl _) (by omega))]
  · rw [b4 g i hg hi]
    unfold dcol
    by_cases h1 : g < n ∧ i < r
    · rw [if_pos (Or.inl h1), if_pos h1]
    · rw [if_neg (by omega), if_neg h1]
/-- what dealing in the reference leaves -/
def Dz (v : Nat) (S S' : am_S) : Prop := (∀ c, c ≠ 88 → c ≠ 91 → c ≠ 92 → c ≠ 93 → c ≠ 94 → S' c = S c) ∧ (∀ i, i ≠ 15 → S' 88 i = S 88 i) ∧ (∀ i, i ≠ v → S' 91 i = S 91 i) ∧ ∀ i, i < 128 * v ∨ 128 * v + 128 ≤ i → S' 92 i = S 92 i
theorem m_dealt (d : Nat) {S : am_S} {f n r v : Nat} {z : Int32} (hf : f < 4) (hM : MC S) (hn : n ≤ 7) (hr : r ≤ 4) (hv : v < 14) (hz : S 88 15 = z) : ∃ S', am_cal am_mt (d + 5) jX11_dealt [.ref 88, .int (nI v), .int (nI f), .int (nI n), .int (nI r)] (ws S) = some (some (.int (nI (rkf f (dcol f n r z) (2 ^ n - 1)))), ws S') ∧ Dz v S S' ∧ S' 88 15 = zk z (r * n) ∧ VM S' v n (rkf f (dcol f n r z)) := by
  have hq := fsz_pos f
  have hMC : ∀ S', (∀ c, c ≠ 88 → c ≠ 93 → S' c = S c) → MC S' := fun S' h => ⟨fun x hx => by rw [h 89 (by decide) (by decide)]; exact hM.1 x hx, fun x hx => by rw [h 90 (by decide) (by decide)]; exact hM.2 x hx⟩
  rw [eX11_dealt_0, kO88, if_T, show (0 : Int32) = nI 0 from rfl]
  have key : ∀ k, k ≤ n → ∃ S' x6, am_run false (am_cal am_mt (d + 4)) (am_lk tbX11_dealt) 3 [some (.ref 88), some (.int (nI v)), some (.int (nI f)), some (.int (nI n)), some (.int (nI r)), some (.int (nI 0)), none] [] (ws S) = am_run false (am_cal am_mt (d + 4)) (am_lk tbX11_dealt) 3 [some (.ref 88), some (.int (nI v)), some (.int (nI f)), some (.int (nI n)), some (.int (nI r)), some (.int (nI k)), x6] [] (ws S') ∧ (∀ c, c ≠ 88 → c ≠ 93 → S' c = S c) ∧ (∀ i, i ≠ 15 → S' 88 i = S 88 i) ∧ S' 88 15 = zk z (r * k) ∧ ∀ g i, g < k → i < 7 → S' 93 (7 * g + i) = nI (if i < r then dval f r z g i else 0) := by
    intro k
    induction k with
    | zero => intro _; exact ⟨S, none, rfl, fun _ _ _ => rfl, fun _ _ => rfl, hz, fun g i hg => absurd hg (Nat.not_lt_zero g)⟩
    | succ k ih =>
      intro hk
      obtain ⟨S2, x6, b1, b2, b3, b4, b5⟩ := ih (by omega)
      have rows : ∀ j, j ≤ 7 → ∃ S', am_run false (am_cal am_mt (d + 4)) (am_lk tbX11_dealt) 12 [some (.ref 88), some (.int (nI v)), some (.int (nI f)), some (.int (nI n)), some (.int (nI r)), some (.int (nI k)), some (.int (nI 0))] [] (ws S2) = am_run false (am_cal am_mt (d + 4)) (am_lk tbX11_dealt) 12 [some (.ref 88), some (.int (nI v)), some (.int (nI f)), some (.int (nI n)), some (.int (nI r)), some (.int (nI k)), some (.int (nI j))] [] (ws S') ∧ (∀ c, c ≠ 88 → c ≠ 93 → S' c = S c) ∧ (∀ i, i ≠ 15 → S' 88 i = S 88 i) ∧ S' 88 15 = zk z (r * k + (if j < r then j else r)) ∧ (∀ g i, g < k → i < 7 → S' 93 (7 * g + i) = nI (if i < r then dval f r z g i else 0)) ∧ ∀ i, i < j → S' 93 (7 * k + i) = nI (if i < r then dval f r z k i else 0) := by
        intro j
        induction j with
        | zero =>
          intro _
          refine ⟨S2, rfl, b2, b3, ?_, b5, fun i hi => absurd hi (Nat.not_lt_zero i)⟩
          rw [b4, show (if 0 < r then 0 else r) = 0 from by split <;> omega, Nat.add_zero]
        | succ j ihj =>
          intro hj
          obtain ⟨S3, c1, c2, c3, c4, c5, c6⟩ := ihj (by omega)
          by_cases hjr : j < r
          · obtain ⟨S4, hS4⟩ : ∃ S4, S4 = up S3 88 15 (zk z (r * k + j) * 1103515245 + 12345) := ⟨_, rfl⟩
            obtain ⟨g1, g2⟩ := dr_ok (zk z (r * k + j) * 1103515245 + 12345)
            have hM4 : MC S4 := hMC S4 (fun c h1 h2 => by rw [hS4, up_ne c h1]; exact c2 c h1 h2)
            rw [if_pos hjr] at c4
            have h4 : S4 88 15 = zk z (r * k + j) * 1103515245 + 12345 := by rw [hS4]; exact up_self _ _ _ _
            refine ⟨up S4 93 (7 * k + j) (nI (dval f r z k j)), c1.trans ?_, fun c h1 h2 => by rw [up_ne c h2, hS4, up_ne c h1]; exact c2 c h1 h2, fun i hi => ?_, ?_, fun g i hg hi => ?_, fun i hi => ?_⟩
            · rw [eX11_dealt_12, if_neg (show ¬ (7 : Int32) ≤ nI j from nI_ge (b := 7) (by omega) (by decide)), if_neg (nI_ge hjr (by omega)), kI88_15, wc_bind, c4, kS88_15, wc_bind, ← hS4, eX11_dealt_41, kR88_4, wc_bind, if_neg (nI_ge hjr (by omega)), kI88_15, wc_bind, h4, g1, kR88_0, wc_bind, hM4.sz hf, wc_bind, if_neg (nI_ne0 (by omega) (by omega)), pk_rem g2 (by omega) (by omega), wc_row7, kW93 S4 (by omega), wc_bind, nI_1]
              rfl
            · rw [up_ne 88 (by decide), hS4, up_upd]; unfold upd; rw [if_neg hi]; exact c3 i hi
            · rw [up_ne 88 (by decide), h4, show (if j + 1 < r then j + 1 else r) = j + 1 from by split <;> omega]
              rfl
            · rw [up_upd]; unfold upd; rw [if_neg (by omega), hS4, up_ne 93 (by decide)]; exact c5 g i hg hi
            · rw [up_upd]; unfold upd
              by_cases hij : i = j
              · rw [if_pos (by omega), hij, if_pos hjr]
              · rw [if_neg (by omega), hS4, up_ne 93 (by decide)]; exact c6 i (by omega)
          · refine ⟨up S3 93 (7 * k + j) (nI 0), c1.trans ?_, fun c h1 h2 => by rw [up_ne c h2]; exact c2 c h1 h2, fun i hi => by rw [up_ne 88 (by decide)]; exact c3 i hi, ?_, fun g i hg hi => ?_, fun i hi => ?_⟩
            · rw [eX11_dealt_12, if_neg (show ¬ (7 : Int32) ≤ nI j from nI_ge (b := 7) (by omega) (by decide)), if_pos (nI_le (by omega) (by omega)), eX11_dealt_41, kR88_4, wc_bind, if_pos (nI_le (by omega) (by omega)), wc_row7, kW93 S3 (by omega), wc_bind, nI_1]
              rfl
            · rw [up_ne 88 (by decide), c4, if_neg hjr, if_neg (by omega)]
            · rw [up_upd]; unfold upd; rw [if_neg (by omega)]; exact c5 g i hg hi
            · rw [up_upd]; unfold upd
              by_cases hij : i = j
              · rw [if_pos (by omega), hij, if_neg hjr]
              · rw [if_neg (by omega)]; exact c6 i (by omega)
      obtain ⟨S3, c1, c2, c3, c4, c5, c6⟩ := rows 7 (Nat.le_refl 7)
      refine ⟨S3, some (.int (nI 7)), b1.trans ?_, c2, c3, ?_, fun g i hg hi => ?_⟩
      · rw [eX11_dealt_3, if_neg (nI_ge (by omega) (by omega)), show (0 : Int32) = nI 0 from rfl, c1, eX11_dealt_12, if_pos (by decide), nI_1]
      · rw [c4, if_neg (by omega), Nat.mul_succ]
      · by_cases hgk : g = k
        · rw [hgk]; exact c6 i hi
        · exact c5 g i (by omega) hi
  obtain ⟨S2, x6, b1, b2, b3, b4, b5⟩ := key n (Nat.le_refl n)
  obtain ⟨S3, f1, f2, f3⟩ := m_byColumns d (v := v) hf (vdc_dcol f n r z) (hMC S2 b2) hn hv (fun g hg j hj => by
    rw [b5 g j hg hj]
    unfold dcol
    by_cases h1 : j < r
    · rw [if_pos h1, if_pos ⟨hg, h1⟩]
    · rw [if_neg h1, if_neg (by omega)])
  refine ⟨S3, ?_, ⟨fun c h1 h2 h3 h4 h5 => by rw [f2.1 c h2 h3 h5]; exact b2 c h1 h4, fun i hi => by rw [f2.1 88 (by decide) (by decide) (by decide)]; exact b3 i hi, fun i hi => by rw [f2.2.1 i hi, b2 91 (by decide) (by decide)], fun i hi => by rw [f2.2.2 i hi, b2 92 (by decide) (by decide)]⟩, by rw [f2.1 88 (by decide) (by decide) (by decide)]; exact b4, f3⟩
  rw [b1, eX11_dealt_3, if_pos (nI_le (Nat.le_refl _) (by omega)), f1, cI_some, wc_bind]
