/-! ===== columns ===== -/
theorem loop_to (H : Nat → Option am_R) (e : Nat) (step : ∀ k, k < e → H k = H (k + 1)) : H 0 = H e := by
  induction e with
  | zero => rfl
  | succ e ih => rw [ih (fun k hk => step k (by omega)), step e (by omega)]
theorem fd7 (f : Nat) : wc_fd 7 (fun _ a => a * fsz f) 1 = fsz7 f := rfl
theorem Fk_Yq {K : Nat → Bool} {m q : Nat} {S S' : am_S} (h : Yq m q S S') (hm : 16 ≤ m ∧ m + 7 < 52) (h16 : K 16 = true) (hq : ∀ i, K (comp q i) = true ∧ K (comp (q + 1) i) = true) : Fk K S S' := by
  intro c i hc
  dsimp only at hc
  by_cases h1 : c = q
  · rw [h1, (hq i).1] at hc; cases hc
  · by_cases h2 : c = q + 1
    · rw [h2, (hq i).2] at hc; cases hc
    · by_cases h3 : c < m ∨ m + 7 < c
      · rw [h.1 c (by omega) h3]
      · rw [comp_sc (by omega), h16] at hc; cases hc
theorem Fk_Zv {K : Nat → Bool} {v : Nat} {S S' : am_S} (h : Zv v S S') (hv : v < 14) (h16 : K 16 = true) (hk : K (rowc v) = true) : Fk K S S' := by
  intro c i hc
  dsimp only at hc
  by_cases h1 : c = 91
  · subst h1
    by_cases h2 : i = v
    · subst h2; rw [comp_91, hk] at hc; cases hc
    · rw [h.2.1 i h2]
  · by_cases h2 : c = 92
    · subst h2
      by_cases h3 : i < 128 * v ∨ 128 * v + 128 ≤ i
      · exact h.2.2 i h3
      · exfalso
        have := comp_92 v (i := i - 128 * v) (by omega)
        rw [show 128 * v + (i - 128 * v) = i by omega] at this
        rw [this, hk] at hc
        cases hc
    · by_cases h3 : c = 94
      · subst h3; rw [comp_sc (by omega), h16] at hc; cases hc
      · rw [h.1 c h1 h2 h3]
theorem VC_Zv {q v n : Nat} {ρ : Nat → Nat} {S S' : am_S} (h : VC S q n ρ) (hr : Zv v S S') (hq : q < 90) : VC S' q n ρ :=
  ⟨h.1, h.2.1, h.2.2.1, by rw [hr.1 q (by omega) (by omega) (by omega)]; exact h.2.2.2.1, fun s hs => by rw [hr.1 (q + 1) (by omega) (by omega) (by omega)]; exact h.2.2.2.2 s hs⟩
/-- a view becomes by columns in both -/
theorem R_cols {S S1 S2 : am_S} {v n : Nat} {ρ : Nat → Nat} (hR : R S) (hv : v < 4) (h1 : Fk (K1 (1 + v)) S S1) (h2 : Fk (K1 (1 + v)) S1 S2) (hm : mat n ρ) (hc : VC S2 (60 + 2 * v) n ρ) (hM : VM S2 v n ρ) : R S2 := by
  refine R_1 (j := 1 + v) hR (h1.tr h2) ?_
  rw [RC_v hv]
  exact ⟨n, ρ, hm, hc, hM⟩
/-- the columns that numbers tell -/
def tcol (f n : Nat) (t : Nat → Nat) : Nat → vec := fun g i => if g < n then dig f (t g) i else 0
theorem vdc_tcol (f n : Nat) (t : Nat → Nat) : vdc f (tcol f n t) := fun g _ i _ => by
  unfold tcol
  split
  · exact dig_lt _ _ _
  · exact f0 f
/-- the class lays told columns -/
theorem c_lay (d : Nat) {S : am_S} {v f s l n : Nat} {b : Nat → Int32} {t : Nat → Nat} (x6 : Int32) (hf : f < 4) (hF : FC S (52 + 2 * f) f) (hn : n ≤ 7) (hSC : shC S s l b) (hnl : n ≤ l) (ht : ∀ e, e < n → b e = nI (t e) ∧ t e < 2 ^ 31) : ∃ S', am_run false (am_cal am_mt (d + 3)) (am_lk tbX10_columns) 81 [some (.ref 0), some (.int (nI v)), some (.int (nI f)), some (.int (nI s)), some (.int (nI n)), some (.ref (80 + 2 * s)), some (.int x6), some (.int (nI n))] [] (ws S) = am_run false (am_cal am_mt (d + 3)) (am_lk tbX10_columns) 128 [some (.ref 0), some (.int (nI v)), some (.int (nI f)), some (.int (nI s)), some (.int (nI n)), some (.ref (80 + 2 * s)), some (.int x6), some (.int (nI n))] [] (ws S') ∧ (∀ c, c ≠ 17 → c ≠ 20 → S' c = S c) ∧ S' 17 0 = nI (52 + 2 * f) ∧ MX S' 17 f (tcol f n t) := by
  obtain ⟨S1, a1, a2, a3, a4⟩ := c5_clear (d + 2) S (m := 17) (q := 52 + 2 * f) mq_17 (by omega)
  rw [eX10_columns_81, if_pos (nI_le (Nat.le_refl _) (by omega)), kR0_6, wc_bind, kR0_0, wc_bind, kQf S hf, wc_bind, a1, cV_some, wc_bind, show (0 : Int32) = nI 0 from rfl]
  have key : ∀ k, k ≤ n → ∃ S', am_run false (am_cal am_mt (d + 3)) (am_lk tbX10_columns) 128 [some (.ref 0), some (.int (nI v)), some (.int (nI f)), some (.int (nI s)), some (.int (nI n)), some (.ref (80 + 2 * s)), some (.int x6), some (.int (nI 0))] [] (ws S1) = am_run false (am_cal am_mt (d + 3)) (am_lk tbX10_columns) 128 [some (.ref 0), some (.int (nI v)), some (.int (nI f)), some (.int (nI s)), some (.int (nI n)), some (.ref (80 + 2 * s)), some (.int x6), some (.int (nI k))] [] (ws S') ∧ (∀ c, c ≠ 17 → c ≠ 20 → S' c = S c) ∧ S' 17 0 = nI (52 + 2 * f) ∧ (∀ g i, g < k → i < 7 → S' 20 (7 * g + i) = nI (dig f (t g) i)) ∧ ∀ i, 7 * k ≤ i → i < 49 → S' 20 i = nI 0 := by
    intro k
    induction k with
    | zero => intro _; exact ⟨S1, rfl, a2, a3, fun g i hg => absurd hg (Nat.not_lt_zero g), fun i _ hi => a4 i hi⟩
    | succ k ih =>
      intro hk
      obtain ⟨S2, b1, b2, b3, b4, b5⟩ := ih (by omega)
      have hs := hSC.1
      have hSC2 : shC S2 s l b := ⟨hs, by rw [b2 _ (by omega) (by omega)]; exact hSC.2.1, hSC.2.2.1, fun i hi => by rw [b2 _ (by omega) (by omega)]; exact hSC.2.2.2 i hi⟩
      have hF2 : FC S2 (52 + 2 * f) f := ⟨hF.1, hF.2.1, hF.2.2.1, by rw [b2 _ (by omega) (by omega)]; exact hF.2.2.2.1, fun x hx => by rw [b2 _ (by omega) (by omega)]; exact hF.2.2.2.2 x hx⟩
      obtain ⟨S3, c1, c2, c3, c4⟩ := c5_putCode d (S := S2) (m := 17) (f := f) (g := k) (c := t k) (q := 52 + 2 * f) mq_17 (by omega) b3 hF2 (by omega) (ht k (by omega)).2
      refine ⟨S3, b1.trans ?_, fun c h1 h2 => by rw [c2 c h2]; exact b2 c h1 h2, by rw [c2 17 (by decide)]; exact b3, fun g i hg hi => ?_, fun i h1 h2 => ?_⟩
      · rw [eX10_columns_128, if_neg (nI_ge (by omega) (by omega)), kR0_6, wc_bind, hSC2.nm _ (by omega), cI_some, wc_bind, (ht k (by omega)).1]
        dsimp only
        rw [c1, cV_some, wc_bind, nI_1]
      · by_cases hgk : g = k
        · rw [hgk]; exact c4 i hi
        · rw [c3 _ (by omega)]; exact b4 g i (by omega) hi
      · rw [c3 _ (by omega)]; exact b5 i (by omega) h2
  obtain ⟨S2, b1, b2, b3, b4, b5⟩ := key n (Nat.le_refl n)
  refine ⟨S2, b1, b2, b3, mq_17, hf, ⟨52 + 2 * f, by omega, b3, ⟨hF.1, hF.2.1, hF.2.2.1, by rw [b2 _ (by omega) (by omega)]; exact hF.2.2.2.1, fun x hx => by rw [b2 _ (by omega) (by omega)]; exact hF.2.2.2.2 x hx⟩, by omega⟩, vdc_tcol f n t, fun g hg i hi => ?_⟩
  show S2 20 (7 * g + i) = nI (if g < n then dig f (t g) i else 0)
  by_cases hgn : g < n
  · rw [if_pos hgn]; exact b4 g i hgn hi
  · rw [if_neg hgn]; exact b5 _ (by omega) (by omega)
/-- the reference lays told columns -/
theorem m_lay (d : Nat) {S : am_S} {v f s l n : Nat} {b : Nat → Int32} {t : Nat → Nat} (x5 : Int32) (hf : f < 4) (hM : MC S) (hn : n ≤ 7) (hSM : shM S s l b) (ht : ∀ e, e < n → b e = nI (t e) ∧ t e < 2 ^ 31) : ∃ S' y7 y8, am_run false (am_cal am_mt d) (am_lk tbX11_columns) 137 [some (.ref 88), some (.int (nI v)), some (.int (nI f)), some (.int (nI s)), some (.int (nI n)), some (.int x5), some (.int (nI 0)), none, none] [] (ws S) = am_run false (am_cal am_mt d) (am_lk tbX11_columns) 137 [some (.ref 88), some (.int (nI v)), some (.int (nI f)), some (.int (nI s)), some (.int (nI n)), some (.int x5), some (.int (nI n)), y7, y8] [] (ws S') ∧ Cr 93 93 S S' ∧ ∀ g, g < n → ∀ i, i < 7 → S' 93 (7 * g + i) = nI (tcol f n t g i) := by
  have hz := fsz_pos f
  have hs := hSM.1
  have key : ∀ k, k ≤ n → ∃ S' y7 y8, am_run false (am_cal am_mt d) (am_lk tbX11_columns) 137 [some (.ref 88), some (.int (nI v)), some (.int (nI f)), some (.int (nI s)), some (.int (nI n)), some (.int x5), some (.int (nI 0)), none, none] [] (ws S) = am_run false (am_cal am_mt d) (am_lk tbX11_columns) 137 [some (.ref 88), some (.int (nI v)), some (.int (nI f)), some (.int (nI s)), some (.int (nI n)), some (.int x5), some (.int (nI k)), y7, y8] [] (ws S') ∧ Cr 93 93 S S' ∧ ∀ g i, g < k → i < 7 → S' 93 (7 * g + i) = nI (dig f (t g) i) := by
    intro k
    induction k with
    | zero => intro _; exact ⟨S, none, none, rfl, Cr.rf, fun g i hg => absurd hg (Nat.not_lt_zero g)⟩
    | succ k ih =>
      intro hk
      obtain ⟨S1, y7, y8, b1, b2, b3⟩ := ih (by omega)
      have hM1 := MC_Cr hM b2 (by omega)
      have hk7 : k < 7 := by omega
      obtain ⟨q1, q2⟩ := ht k (by omega)
      have hit : S1 106 (64 * s + k) = nI (t k) := by rw [b2 106 (by omega), hSM.2.2.2 k (by omega), q1]
      have rows : ∀ j, j ≤ 7 → ∃ S', am_run false (am_cal am_mt d) (am_lk tbX11_columns) 161 [some (.ref 88), some (.int (nI v)), some (.int (nI f)), some (.int (nI s)), some (.int (nI n)), some (.int x5), some (.int (nI k)), some (.int (nI (cdv f (t k) 0))), some (.int (nI 0))] [] (ws S1) = am_run false (am_cal am_mt d) (am_lk tbX11_columns) 161 [some (.ref 88), some (.int (nI v)), some (.int (nI f)), some (.int (nI s)), some (.int (nI n)), some (.int x5), some (.int (nI k)), some (.int (nI (cdv f (t k) j))), some (.int (nI j))] [] (ws S') ∧ Cr 93 93 S S' ∧ (∀ g i, g < k → i < 7 → S' 93 (7 * g + i) = nI (dig f (t g) i)) ∧ ∀ i, i < j → S' 93 (7 * k + i) = nI (dig f (t k) i) := by
        intro j
        induction j with
        | zero => intro _; exact ⟨S1, rfl, b2, b3, fun i hi => absurd hi (Nat.not_lt_zero i)⟩
        | succ j ihj =>
          intro hj
          obtain ⟨S2, c1, c2, c3, c4⟩ := ihj (by omega)
          have hM2 := MC_Cr hM c2 (by omega)
          have hM3 := MC_Cr (S' := up S2 93 (7 * k + j) (nI (dig f (t k) j))) hM (Cr_up c2 (by omega) (by omega)) (by omega)
          have hck : cdv f (t k) j < 2 ^ 31 := Nat.lt_of_le_of_lt (cdv_le f (t k) j) q2
          refine ⟨up S2 93 (7 * k + j) (nI (dig f (t k) j)), c1.trans ?_, Cr_up c2 (by omega) (by omega), fun g i hg hi => ?_, fun i hi => ?_⟩
          · rw [eX11_columns_161, if_neg (show ¬ (7 : Int32) ≤ nI j from nI_ge (b := 7) (by omega) (by decide)), kR88_4, wc_bind, kR88_0, wc_bind, hM2.sz hf, wc_bind, if_neg (nI_ne0 (by omega) (by omega)), pk_rem hck (by omega) (by omega), wc_row7, kW93 S2 (by omega), wc_bind, show cdv f (t k) j % fsz f = dig f (t k) j from rfl, kR88_0, wc_bind, hM3.sz hf, wc_bind, if_neg (nI_ne0 (by omega) (by omega)), pk_div hck (by omega) (by omega), nI_1]
            rfl
          · rw [up_upd]; unfold upd; rw [if_neg (by omega)]; exact c3 g i hg hi
          · rw [up_upd]; unfold upd
            by_cases hij : i = j
            · rw [if_pos (by omega), hij]
            · rw [if_neg (by omega)]; exact c4 i (by omega)
      obtain ⟨S2, c1, c2, c3, c4⟩ := rows 7 (Nat.le_refl 7)
      refine ⟨S2, some (.int (nI (cdv f (t k) 7))), some (.int (nI 7)), b1.trans ?_, c2, fun g i hg hi => ?_⟩
      · rw [eX11_columns_137, if_neg (nI_ge (by omega) (by omega)), kR88_20, wc_bind, wc_row64, kA106 S1 (by omega), wc_bind, hit, show (0 : Int32) = nI 0 from rfl]
        have c1 : am_run false (am_cal am_mt d) (am_lk tbX11_columns) 161 [some (.ref 88), some (.int (nI v)), some (.int (nI f)), some (.int (nI s)), some (.int (nI n)), some (.int x5), some (.int (nI k)), some (.int (nI (t k))), some (.int (nI 0))] [] (ws S1) = _ := c1
        rw [c1, eX11_columns_161, if_pos (by decide), nI_1]
      · by_cases hgk : g = k
        · rw [hgk]; exact c4 i hi
        · exact c3 g i (by omega) hi
  obtain ⟨S2, y7, y8, b1, b2, b3⟩ := key n (Nat.le_refl n)
  exact ⟨S2, y7, y8, b1, b2, fun g hg i hi => by unfold tcol; rw [if_pos hg]; exact b3 g i hg hi⟩
theorem pu_columns : am_ag Inv jX10_columns jX11_columns 4 := ah_4 (fun d S x1 x2 x3 x4 hR => by
  rcases inR_of (x := x1) (n := 4) (by decide) with h1 | ⟨v, hv, rfl⟩
  · refine ag3_p hR (-2) ?_ ?_
    · rw [eX10_columns_0, kO0, if_T, c_below, cI_some, wc_bind, show (inR x1 (4 : Int32)) = false from h1, if_pos bI_F]
    · rw [eX11_columns_0, kO88, if_T, m_isView, cI_some, wc_bind, h1, if_pos bI_F]
  have hv4 : inR (nI v) (nI 4) = true := inR_T hv (by decide)
  rcases inR_of (x := x2) (n := 4) (by decide) with h1 | ⟨f, hf, rfl⟩
  · refine ag3_p hR (-2) ?_ ?_
    · rw [eX10_columns_0, kO0, if_T, c_below, cI_some, wc_bind, show (inR (nI v) (4 : Int32)) = true from hv4, if_neg bI_T, c_below, cI_some, wc_bind, show (inR x2 (4 : Int32)) = false from h1, if_pos bI_F]
    · rw [eX11_columns_0, kO88, if_T, m_isView, cI_some, wc_bind, hv4, if_neg bI_T, m_isField, cI_some, wc_bind, h1, if_pos bI_F]
  have hf4 : inR (nI f) (nI 4) = true := inR_T hf (by decide)
  rcases inR_of (x := x3) (n := 4) (by decide) with h1 | ⟨s, hs, rfl⟩
  · refine ag3_p hR (-2) ?_ ?_
    · rw [eX10_columns_0, kO0, if_T, c_below, cI_some, wc_bind, show (inR (nI v) (4 : Int32)) = true from hv4, if_neg bI_T, c_below, cI_some, wc_bind, show (inR (nI f) (4 : Int32)) = true from hf4, if_neg bI_T, c_below, cI_some, wc_bind, show (inR x3 (4 : Int32)) = false from h1, if_pos bI_F]
    · rw [eX11_columns_0, kO88, if_T, m_isView, cI_some, wc_bind, hv4, if_neg bI_T, m_isField, cI_some, wc_bind, hf4, if_neg bI_T, m_isSheet, cI_some, wc_bind, h1, if_pos bI_F]
  have hs4 : inR (nI s) (nI 4) = true := inR_T hs (by decide)
  rcases inR_of (x := x4) (n := 8) (by decide) with h1 | ⟨n, hn8, rfl⟩
  · refine ag3_p hR (-2) ?_ ?_
    · rw [eX10_columns_0, kO0, if_T, c_below, cI_some, wc_bind, show (inR (nI v) (4 : Int32)) = true from hv4, if_neg bI_T, c_below, cI_some, wc_bind, show (inR (nI f) (4 : Int32)) = true from hf4, if_neg bI_T, c_below, cI_some, wc_bind, show (inR (nI s) (4 : Int32)) = true from hs4, if_neg bI_T, c_count, cI_some, wc_bind, h1, if_pos bI_F]
    · rw [eX11_columns_0, kO88, if_T, m_isView, cI_some, wc_bind, hv4, if_neg bI_T, m_isField, cI_some, wc_bind, hf4, if_neg bI_T, m_isSheet, cI_some, wc_bind, hs4, if_neg bI_T, m_in7, cI_some, wc_bind, h1, if_pos bI_F]
  have hn8' : inR (nI n) (nI 8) = true := inR_T hn8 (by decide)
  have hn : n ≤ 7 := by omega
  obtain ⟨e1, e2, e3, ⟨l, hl64, hl⟩, e5⟩ := hR.2.2.2.2.1 s hs
  obtain ⟨b, hb⟩ : ∃ b : Nat → Int32, b = fun i => S 106 (64 * s + i) := ⟨_, rfl⟩
  have hSC : shC S s l b := ⟨hs, e2.trans hl, hl64, fun i hi => by rw [hb]; exact e5 i hi⟩
  have hSM0 : shM S s l b := ⟨hs, hl, hl64, fun i hi => by rw [hb]⟩
  have hF := hR.1.1 f hf
  have hMC := hR.1.2
  by_cases hc : S 104 s = -1
  · refine ag3_p hR (-11) ?_ ?_
    · rw [eX10_columns_0, kO0, if_T, c_below, cI_some, wc_bind, show (inR (nI v) (4 : Int32)) = true from hv4, if_neg bI_T, c_below, cI_some, wc_bind, show (inR (nI f) (4 : Int32)) = true from hf4, if_neg bI_T, c_below, cI_some, wc_bind, show (inR (nI s) (4 : Int32)) = true from hs4, if_neg bI_T, c_count, cI_some, wc_bind, hn8', if_neg bI_T, kR0_3, wc_bind, kQs S hs, wc_bind, c7_isMissing _ S hs, cI_some, wc_bind, e1, decide_eq_true hc, if_neg bI_T]
    · rw [eX11_columns_0, kO88, if_T, m_isView, cI_some, wc_bind, hv4, if_neg bI_T, m_isField, cI_some, wc_bind, hf4, if_neg bI_T, m_isSheet, cI_some, wc_bind, hs4, if_neg bI_T, m_in7, cI_some, wc_bind, hn8', if_neg bI_T, kR88_18, wc_bind, kA104 S hs, wc_bind, if_pos hc]
  by_cases hnl : n ≤ l
  · -- long enough
    have hcl : am_cal am_mt (d + 20) jX10_columns [.ref 0, .int (nI v), .int (nI f), .int (nI s), .int (nI n)] (ws S) = am_run false (am_cal am_mt (d + 19)) (am_lk tbX10_columns) 81 [some (.ref 0), some (.int (nI v)), some (.int (nI f)), some (.int (nI s)), some (.int (nI n)), some (.ref (80 + 2 * s)), some (.int (nI (fsz7 f))), some (.int (nI 0))] [] (ws S) := by
      rw [eX10_columns_0, kO0, if_T, c_below, cI_some, wc_bind, show (inR (nI v) (4 : Int32)) = true from hv4, if_neg bI_T, c_below, cI_some, wc_bind, show (inR (nI f) (4 : Int32)) = true from hf4, if_neg bI_T, c_below, cI_some, wc_bind, show (inR (nI s) (4 : Int32)) = true from hs4, if_neg bI_T, c_count, cI_some, wc_bind, hn8', if_neg bI_T, kR0_3, wc_bind, kQs S hs, wc_bind, c7_isMissing _ S hs, cI_some, wc_bind, e1, decide_eq_false hc, if_pos bI_F, sI1 S hs, wc_bind, e2, hl, if_pos (nI_le hnl (by omega)), kR0_0, wc_bind, kQf S hf, wc_bind, c2_columnCount _ hF, cI_some, wc_bind]
      dsimp only
      rw [show (0 : Int32) = nI 0 from rfl]
    have hml : ∀ S', MC S' → S' 104 s = S 104 s → S' 105 s = S 105 s → am_cal am_mt (d + 20) jX11_columns [.ref 88, .int (nI v), .int (nI f), .int (nI s), .int (nI n)] (ws S') = am_run false (am_cal am_mt (d + 19)) (am_lk tbX11_columns) 95 [some (.ref 88), some (.int (nI v)), some (.int (nI f)), some (.int (nI s)), some (.int (nI n)), some (.int (nI (fsz7 f))), some (.int (nI 0)), none, none] [] (ws S') := by
      intro S' hM' h104 h105
      rw [eX11_columns_0, kO88, if_T, m_isView, cI_some, wc_bind, hv4, if_neg bI_T, m_isField, cI_some, wc_bind, hf4, if_neg bI_T, m_isSheet, cI_some, wc_bind, hs4, if_neg bI_T, m_in7, cI_some, wc_bind, hn8', if_neg bI_T, kR88_18, wc_bind, kA104 S' hs, wc_bind, h104, if_neg hc, kR88_19, wc_bind, kA105 S' hs, wc_bind, h105, hl, if_pos (nI_le hnl (by omega))]
      dsimp only
      rw [show (1 : Int32) = nI 1 from rfl, show (0 : Int32) = nI 0 from rfl]
      refine loop_fd (fun e (a : Nat) => am_run false (am_cal am_mt (d + 19)) (am_lk tbX11_columns) 68 [some (.ref 88), some (.int (nI v)), some (.int (nI f)), some (.int (nI s)), some (.int (nI n)), some (.int (nI a)), some (.int (nI e)), none, none] [] (ws S')) (fun _ a => a * fsz f) 7 1 ?_ ?_
      · intro e a he
        show am_run _ _ _ _ _ _ _ = am_run _ _ _ _ _ _ _
        rw [eX11_columns_68, if_neg (show ¬ (7 : Int32) ≤ nI e from nI_ge (b := 7) he (by decide)), kR88_0, wc_bind, hM'.sz hf, wc_bind, pk_mul, nI_1]
      · show am_run _ _ _ _ _ _ _ = _
        rw [eX11_columns_68, if_pos (by decide), fd7, show (0 : Int32) = nI 0 from rfl]
    have hf7 := fsz7_lt f hf
    have hf70 : fsz7 f < 2 ^ 30 := by
      have : ∀ f, f < 4 → fsz7 f < 2 ^ 30 := by decide +kernel
      exact this f hf
    have hcst : ∀ e, e < n → inR (b e) (nI (fsz7 f)) = true → am_run false (am_cal am_mt (d + 19)) (am_lk tbX10_columns) 81 [some (.ref 0), some (.int (nI v)), some (.int (nI f)), some (.int (nI s)), some (.int (nI n)), some (.ref (80 + 2 * s)), some (.int (nI (fsz7 f))), some (.int (nI e))] [] (ws S) = am_run false (am_cal am_mt (d + 19)) (am_lk tbX10_columns) 81 [some (.ref 0), some (.int (nI v)), some (.int (nI f)), some (.int (nI s)), some (.int (nI n)), some (.ref (80 + 2 * s)), some (.int (nI (fsz7 f))), some (.int (nI (e + 1)))] [] (ws S) := by
      intro e he hin
      rw [eX10_columns_81, if_neg (nI_ge he (by omega)), hSC.nm _ (by omega), cI_some, wc_bind]
      dsimp only
      rw [c_below, cI_some, wc_bind, hin, if_neg bI_T, nI_1]
    have hmst : ∀ S', shM S' s l b → ∀ e, e < n → inR (b e) (nI (fsz7 f)) = true → am_run false (am_cal am_mt (d + 19)) (am_lk tbX11_columns) 95 [some (.ref 88), some (.int (nI v)), some (.int (nI f)), some (.int (nI s)), some (.int (nI n)), some (.int (nI (fsz7 f))), some (.int (nI e)), none, none] [] (ws S') = am_run false (am_cal am_mt (d + 19)) (am_lk tbX11_columns) 95 [some (.ref 88), some (.int (nI v)), some (.int (nI f)), some (.int (nI s)), some (.int (nI n)), some (.int (nI (fsz7 f))), some (.int (nI (e + 1))), none, none] [] (ws S') := by
      intro S' hSM e he hin
      rw [eX11_columns_95, if_neg (nI_ge he (by omega)), kR88_20, wc_bind, wc_row64, kA106 S' (by omega), wc_bind, hSM.2.2.2 e (by omega), m_in0 _ _ hf70, cI_some, wc_bind, hin, if_neg bI_T, nI_1]
    by_cases hall : ∃ e, e < n ∧ inR (b e) (nI (fsz7 f)) = false
    · obtain ⟨e, he, hbad, hgood⟩ := least_of n hall
      have hg : ∀ k, k < e → inR (b k) (nI (fsz7 f)) = true := fun k hk => by
        cases hq : inR (b k) (nI (fsz7 f)) with
        | true => rfl
        | false => exact absurd hq (hgood k hk)
      refine ag3_p hR (-3) ?_ ?_
      · rw [hcl, loop_to (fun k => am_run false (am_cal am_mt (d + 19)) (am_lk tbX10_columns) 81 [some (.ref 0), some (.int (nI v)), some (.int (nI f)), some (.int (nI s)), some (.int (nI n)), some (.ref (80 + 2 * s)), some (.int (nI (fsz7 f))), some (.int (nI k))] [] (ws S)) e (fun k hk => hcst k (by omega) (hg k hk)), eX10_columns_81, if_neg (nI_ge he (by omega)), hSC.nm _ (by omega), cI_some, wc_bind]
        dsimp only
        rw [c_below, cI_some, wc_bind, hbad, if_pos bI_F]
      · rw [hml S hMC rfl rfl, loop_to (fun k => am_run false (am_cal am_mt (d + 19)) (am_lk tbX11_columns) 95 [some (.ref 88), some (.int (nI v)), some (.int (nI f)), some (.int (nI s)), some (.int (nI n)), some (.int (nI (fsz7 f))), some (.int (nI k)), none, none] [] (ws S)) e (fun k hk => hmst S hSM0 k (by omega) (hg k hk)), eX11_columns_95, if_neg (nI_ge he (by omega)), kR88_20, wc_bind, wc_row64, kA106 S (by omega), wc_bind, hSM0.2.2.2 e (by omega), m_in0 _ _ hf70, cI_some, wc_bind, hbad, if_pos bI_F]
    · have hg : ∀ k, k < n → inR (b k) (nI (fsz7 f)) = true := fun k hk => by
        cases hq : inR (b k) (nI (fsz7 f)) with
        | true => rfl
        | false => exact absurd ⟨k, hk, hq⟩ hall
      have ht : ∀ e, e < n → b e = nI (tn b e) ∧ tn b e < 2 ^ 31 := fun e he => by
        rcases inR_of (x := b e) (n := fsz7 f) hf7.1 with q | ⟨j, q1, q2⟩
        · rw [hg e he] at q; cases q
        · rw [tn_of q2 (by omega)]; exact ⟨q2, by omega⟩
      obtain ⟨S1, a1, a2, a0, a3⟩ := c_lay (d + 16) (v := v) (nI (fsz7 f)) hf hF hn hSC hnl ht
      obtain ⟨S2, b1, b2, b3⟩ := c8_byColumns (d + 13) (q := 60 + 2 * v) (vq_v hv) hn a3 (by omega) (fun x hx hx2 => by
        rw [a0] at hx2
        have := (nI_eq (show 52 + 2 * f < 2 ^ 31 by omega) hx).mp hx2
        omega)
      have out : ∀ c, 52 ≤ c → c ≠ 60 + 2 * v → c ≠ 61 + 2 * v → S2 c = S c := fun c h1 h2 h3 => by rw [b2.1 c (by omega) (by omega)]; exact a2 c (by omega) (by omega)
      have hMC2 : MC S2 := ⟨fun x hx => by rw [out 89 (by omega) (by omega) (by omega)]; exact hMC.1 x hx, fun x hx => by rw [out 90 (by omega) (by omega) (by omega)]; exact hMC.2 x hx⟩
      have hSM2 : shM S2 s l b := ⟨hs, by rw [out 105 (by omega) (by omega) (by omega)]; exact hl, hl64, fun i hi => by rw [out 106 (by omega) (by omega) (by omega), hb]⟩
      obtain ⟨S3, y7, y8, c1, c2, c3⟩ := m_lay (d + 19) (v := v) (nI (fsz7 f)) hf hMC2 hn hSM2 ht
      obtain ⟨S4, f1, f2, f3⟩ := m_byColumns (d + 15) (v := v) hf (vdc_tcol f n (tn b)) (MC_Cr hMC2 c2 (by omega)) hn (by omega) c3
      refine ⟨nI (rkf f (tcol f n (tn b)) (2 ^ n - 1)), S2, S4, ?_, ?_, ?_⟩
      · rw [hcl, loop_to (fun k => am_run false (am_cal am_mt (d + 19)) (am_lk tbX10_columns) 81 [some (.ref 0), some (.int (nI v)), some (.int (nI f)), some (.int (nI s)), some (.int (nI n)), some (.ref (80 + 2 * s)), some (.int (nI (fsz7 f))), some (.int (nI k))] [] (ws S)) n (fun k hk => hcst k hk (hg k hk)), a1, eX10_columns_128, if_pos (nI_le (Nat.le_refl _) (by omega)), kR0_1, wc_bind, kQv S1 hv, wc_bind, kR0_6, wc_bind, b1, cV_some, wc_bind, kR0_1, wc_bind, kQv S2 hv, wc_bind, c8_fullRank _ b3, cI_some, wc_bind]
      · rw [hml S2 hMC2 (by rw [out 104 (by omega) (by omega) (by omega)]) (by rw [out 105 (by omega) (by omega) (by omega)]), loop_to (fun k => am_run false (am_cal am_mt (d + 19)) (am_lk tbX11_columns) 95 [some (.ref 88), some (.int (nI v)), some (.int (nI f)), some (.int (nI s)), some (.int (nI n)), some (.int (nI (fsz7 f))), some (.int (nI k)), none, none] [] (ws S2)) n (fun k hk => hmst S2 hSM2 k hk (hg k hk)), eX11_columns_95, if_pos (nI_le (Nat.le_refl _) (by omega)), show (0 : Int32) = nI 0 from rfl, c1, eX11_columns_137, if_pos (nI_le (Nat.le_refl _) (by omega)), f1, cI_some, wc_bind]
      · have g1 : Fk (K1 (1 + v)) S S1 := Fk_Cr (a := 17) (b := 20) (fun c hc => a2 c (by omega) (by omega)) (fun c i p q => by rw [comp_sc (by omega)]; exact K1_16 _)
        have g2 : Fk (K1 (1 + v)) S1 S2 := Fk_Yq b2 (by omega) (K1_16 _) (fun i => ⟨by rw [comp_v hv (Or.inl rfl)]; exact K1_j _, by rw [comp_v hv (by omega)]; exact K1_j _⟩)
        have g3 : Fk (K1 (1 + v)) S2 S3 := Fk_Cr c2 (fun c i p q => by rw [comp_sc (by omega)]; exact K1_16 _)
        have g4 : Fk (K1 (1 + v)) S3 S4 := Fk_Zv f2 (by omega) (K1_16 _) (by unfold rowc; rw [if_pos hv]; exact K1_j _)
        exact R_cols hR hv (g1.tr g2) (g3.tr g4) (mat_rkf hf (vdc_tcol f n (tn b)) hn) (VC_Zv (VC_Cr b3 c2 (by omega)) f2 (by omega)) f3
  · refine ag3_p hR (-12) ?_ ?_
    · rw [eX10_columns_0, kO0, if_T, c_below, cI_some, wc_bind, show (inR (nI v) (4 : Int32)) = true from hv4, if_neg bI_T, c_below, cI_some, wc_bind, show (inR (nI f) (4 : Int32)) = true from hf4, if_neg bI_T, c_below, cI_some, wc_bind, show (inR (nI s) (4 : Int32)) = true from hs4, if_neg bI_T, c_count, cI_some, wc_bind, hn8', if_neg bI_T, kR0_3, wc_bind, kQs S hs, wc_bind, c7_isMissing _ S hs, cI_some, wc_bind, e1, decide_eq_false hc, if_pos bI_F, sI1 S hs, wc_bind, e2, hl, if_neg (nI_ge (by omega) (by omega))]
    · rw [eX11_columns_0, kO88, if_T, m_isView, cI_some, wc_bind, hv4, if_neg bI_T, m_isField, cI_some, wc_bind, hf4, if_neg bI_T, m_isSheet, cI_some, wc_bind, hs4, if_neg bI_T, m_in7, cI_some, wc_bind, hn8', if_neg bI_T, kR88_18, wc_bind, kA104 S hs, wc_bind, if_neg hc, kR88_19, wc_bind, kA105 S hs, wc_bind, hl, if_neg (nI_ge (by omega) (by omega))])
