/-! ===== sheet, copy ===== -/
theorem m_lays (d : Nat) (S : am_S) {s : Nat} (h : s < 4) (x : Int32) : ∃ S', am_cal am_mt (d + 1) jX11_laysSheet [.ref 88, .int (nI s), .int x] (ws S) = some (none, ws S') ∧ Fk (K1 (9 + s)) S S' ∧ Cr 104 106 S S' ∧ S' 104 s = 1 ∧ S' 105 s = x ∧ ∀ i, i < 64 → S' 106 (64 * s + i) = 0 := by
  have key : wp (am_cal am_mt (d + 1) jX11_laysSheet [.ref 88, .int (nI s), .int x] (ws S)) (fun v S' => v = none ∧ Fk (K1 (9 + s)) S S' ∧ Cr 104 106 S S' ∧ S' 104 s = 1 ∧ S' 105 s = x ∧ ∀ i, i < 64 → S' 106 (64 * s + i) = 0) := by
    rw [eX11_laysSheet_0, kO88, if_T, kR88_18, wc_bind, kW104 S h, wc_bind, kR88_19, wc_bind, kW105 _ h, wc_bind]
    refine loop_wp (fun e S' => am_run false (am_cal am_mt d) (am_lk tbX11_laysSheet) 16 [some (.ref 88), some (.int (nI s)), some (.int x), some (.int (nI e))] [] (ws S')) (fun e S' => Fk (K1 (9 + s)) S S' ∧ Cr 104 106 S S' ∧ S' 104 s = 1 ∧ S' 105 s = x ∧ ∀ i, i < e → S' 106 (64 * s + i) = 0) _ 64 ?_ ?_ 0 _ (Nat.zero_le _) ?_
    · intro e S' he hI K
      show wp (am_run _ _ _ _ _ _ _) _
      rw [eX11_laysSheet_16, if_neg (show ¬ (64 : Int32) ≤ nI e from nI_ge (b := 64) he (by decide)), kR88_20, wc_bind, wc_row64, kW106 S' (show 64 * s + e < 256 by omega), wc_bind, nI_1]
      refine K _ ⟨Fk_up hI.1 _ (comp_106 s he) (K1_j _), Cr_up hI.2.1 (by omega) (by omega), ?_, ?_, ?_⟩
      · rw [up_ne _ (by omega)]; exact hI.2.2.1
      · rw [up_ne _ (by omega)]; exact hI.2.2.2.1
      · intro i hi
        by_cases hie : i = e
        · subst hie; exact up_self _ _ _ _
        · rw [up_upd]; unfold upd; rw [if_neg (by omega)]; exact hI.2.2.2.2 i (by omega)
    · intro S' hI
      show wp (am_run _ _ _ _ _ _ _) _
      rw [eX11_laysSheet_16, if_pos (by decide)]
      exact wp_ret ⟨rfl, hI⟩
    · refine ⟨Fk_up (Fk_up Fk.rf _ (comp_104 s) (K1_j _)) _ (comp_105 s) (K1_j _), Cr_up (Cr_up Cr.rf (by omega) (by omega)) (by omega) (by omega), ?_, ?_, fun i hi => absurd hi (Nat.not_lt_zero i)⟩
      · rw [up_ne _ (by omega)]; exact up_self _ _ _ _
      · exact up_self _ _ _ _
  obtain ⟨v, S', h1, rfl, h2⟩ := key
  exact ⟨S', h1, h2⟩
theorem m_inm (d : Nat) (x : Int32) (g : am_W) : am_cal am_mt (d + 1) jX11_in [.int x, .int (-1 : Int32), .int (1 : Int32)] g = some (some (.int (bI (decide (¬ x < -1 ∧ x ≤ 1)))), g) := by
  rw [eX11_in_0]
  by_cases h1 : x < -1
  · rw [if_pos h1, decide_eq_false (fun c => c.1 h1)]; ((try dsimp only); try rfl)
  · rw [if_neg h1]
    by_cases h2 : x ≤ 1
    · rw [if_neg (fun c => absurd h2 (by rw [Int32.lt_iff_toInt_lt] at c; rw [Int32.le_iff_toInt_le]; omega)), decide_eq_true ⟨h1, h2⟩]; ((try dsimp only); try rfl)
    · rw [if_pos (by rw [Int32.le_iff_toInt_le] at h2; rw [Int32.lt_iff_toInt_lt]; omega), decide_eq_false (fun c => h2 c.2)]; ((try dsimp only); try rfl)
theorem sort3 {x : Int32} (h1 : ¬ x < -1) (h2 : x ≤ 1) : x = -1 ∨ x = 0 ∨ x = 1 := by
  rw [Int32.lt_iff_toInt_lt] at h1
  rw [Int32.le_iff_toInt_le] at h2
  have e1 : (-1 : Int32).toInt = -1 := rfl
  have e2 : (1 : Int32).toInt = 1 := rfl
  have e3 : (0 : Int32).toInt = 0 := rfl
  rcases (show x.toInt = -1 ∨ x.toInt = 0 ∨ x.toInt = 1 by omega) with h | h | h
  · exact Or.inl (Int32.toInt_inj.mp (by rw [h, e1]))
  · exact Or.inr (Or.inl (Int32.toInt_inj.mp (by rw [h, e3])))
  · exact Or.inr (Or.inr (Int32.toInt_inj.mp (by rw [h, e2])))
/-- a sheet is laid anew in both: the two agree on it -/
theorem RS_new {S1 S2 S3 : am_S} {s l : Nat} {x : Int32} (hs : s < 4) (hx : x = -1 ∨ x = 0 ∨ x = 1) (hl : l ≤ 64) (a1 : S1 (80 + 2 * s) 0 = x) (a2 : S1 (80 + 2 * s) 1 = nI l) (a3 : ∀ i, i < 64 → S1 (81 + 2 * s) i = 0) (hc : Cr 104 106 S1 S2) (b2 : S2 105 s = nI l) (b3 : ∀ i, i < 64 → S2 106 (64 * s + i) = 0) (he : S3 = up S2 104 s x) : RS S3 s := by
  subst he
  unfold RS
  rw [up_ne (80 + 2 * s) (by omega), up_self, up_ne 105 (by omega), hc (80 + 2 * s) (by omega)]
  refine ⟨a1, by rw [a2, b2], hx, ⟨l, hl, b2⟩, fun i hi => ?_⟩
  rw [up_ne (81 + 2 * s) (by omega), up_ne 106 (by omega), hc (81 + 2 * s) (by omega), a3 i hi, b3 i hi]
/-- two calls at a depth -/
def ag3 (d : Nat) (S : am_S) (j1 j2 : Nat) (as : List Value) : Prop := ∃ (r : Int32) (S1 S2 : am_S), am_cal am_mt (d + 20) j1 (.ref 0 :: as) (ws S) = some (some (.int r), ws S1) ∧ am_cal am_mt (d + 20) j2 (.ref 88 :: as) (ws S1) = some (some (.int r), ws S2) ∧ R S2
theorem ag_of3 {S : am_S} {j1 j2 : Nat} {as : List Int32} (h : ag3 40 S j1 j2 (as.map Value.int)) : ag S j1 j2 as := by
  obtain ⟨r, S1, S2, e1, e2, e3⟩ := h
  exact ⟨r, S1, S2, e1, e2, e3⟩
theorem ah_0 {j1 j2 : Nat} (h : ∀ d S, R S → ag3 d S j1 j2 []) : am_ag Inv j1 j2 0 :=
  ag_go (fun S as hl hR => by rw [li_0 as hl]; exact ag_of3 (h 40 S hR))
theorem ah_1 {j1 j2 : Nat} (h : ∀ d S x1, R S → ag3 d S j1 j2 [.int x1]) : am_ag Inv j1 j2 1 :=
  ag_go (fun S as hl hR => by obtain ⟨a, e⟩ := li_1 as hl; rw [e]; exact ag_of3 (h 40 S a hR))
theorem ah_2 {j1 j2 : Nat} (h : ∀ d S x1 x2, R S → ag3 d S j1 j2 [.int x1, .int x2]) : am_ag Inv j1 j2 2 :=
  ag_go (fun S as hl hR => by obtain ⟨a, b, e⟩ := li_2 as hl; rw [e]; exact ag_of3 (h 40 S a b hR))
theorem ah_3 {j1 j2 : Nat} (h : ∀ d S x1 x2 x3, R S → ag3 d S j1 j2 [.int x1, .int x2, .int x3]) : am_ag Inv j1 j2 3 :=
  ag_go (fun S as hl hR => by obtain ⟨a, b, c, e⟩ := li_3 as hl; rw [e]; exact ag_of3 (h 40 S a b c hR))
theorem ah_4 {j1 j2 : Nat} (h : ∀ d S x1 x2 x3 x4, R S → ag3 d S j1 j2 [.int x1, .int x2, .int x3, .int x4]) : am_ag Inv j1 j2 4 :=
  ag_go (fun S as hl hR => by obtain ⟨a, b, c, x, e⟩ := li_4 as hl; rw [e]; exact ag_of3 (h 40 S a b c x hR))
theorem ah_5 {j1 j2 : Nat} (h : ∀ d S x1 x2 x3 x4 x5, R S → ag3 d S j1 j2 [.int x1, .int x2, .int x3, .int x4, .int x5]) : am_ag Inv j1 j2 5 :=
  ag_go (fun S as hl hR => by obtain ⟨a, b, c, x, f, e⟩ := li_5 as hl; rw [e]; exact ag_of3 (h 40 S a b c x f hR))
theorem ag3_p {d : Nat} {S : am_S} (hR : R S) {j1 j2 : Nat} {as : List Value} (r : Int32) (h1 : am_cal am_mt (d + 20) j1 (.ref 0 :: as) (ws S) = some (some (.int r), ws S)) (h2 : am_cal am_mt (d + 20) j2 (.ref 88 :: as) (ws S) = some (some (.int r), ws S)) : ag3 d S j1 j2 as := ⟨r, S, S, h1, h2, hR⟩
theorem sh_go (d : Nat) {S : am_S} (hR : R S) {s l : Nat} {x : Int32} (hs : s < 4) (hx : x = -1 ∨ x = 0 ∨ x = 1) (hl : l ≤ 64) : ∃ S1 S3, am_cal am_mt (d + 1) jX7_become [.ref (80 + 2 * s), .int x, .int (nI l)] (ws S) = some (none, ws S1) ∧ (am_cV (am_cal am_mt (d + 1) jX11_laysSheet [.ref 88, .int (nI s), .int (nI l)] (ws S1))).bind (fun q1 => (am_fR q1 88 11 18).bind fun p2 => (am_sI q1 p2 0 (nI s) x).bind fun g3 => some (some (Value.int (1 : Int32)), g3)) = some (some (Value.int (1 : Int32)), ws S3) ∧ R S3 := by
  obtain ⟨S1, h1, h2, h3, h4, h5⟩ := c7_become d S hs hl x
  obtain ⟨S2, g1, g2, g3, g4, g5, g6⟩ := m_lays d S1 hs (nI l)
  refine ⟨S1, up S2 104 s x, h1, ?_, ?_⟩
  · rw [g1, cV_some, wc_bind, kR88_18, wc_bind, kW104 S2 hs, wc_bind]
  · refine R_1 (j := 9 + s) hR (Fk_up ((Fk_Cr h2 (fun c i q1 q2 => by rw [comp_s hs (by omega)]; exact K1_j _)).tr g2) _ (comp_104 s) (K1_j _)) ?_
    rw [RC_s hs]
    exact RS_new hs hx hl h3 h4 h5 g3 g5 g6 rfl
theorem pu_sheet : am_ag Inv jX10_sheet jX11_sheet 3 := ah_3 (fun d S x1 x2 x3 hR => by
  rcases inR_of (x := x1) (n := 4) (by decide) with h1 | ⟨s, hs, rfl⟩
  · refine ag3_p hR (-2) ?_ ?_
    · rw [eX10_sheet_0, kO0, if_T, c_below, cI_some, wc_bind, show (4 : Int32) = nI 4 from rfl, h1, if_pos bI_F]
    · rw [eX11_sheet_0, kO88, if_T, m_isSheet, cI_some, wc_bind, h1, if_pos bI_F]
  · have hs4 : inR (nI s) (nI 4) = true := inR_T hs (by decide)
    by_cases c1 : x2 < -1
    · refine ag3_p hR (-2) ?_ ?_
      · rw [eX10_sheet_0, kO0, if_T, c_below, cI_some, wc_bind, show (4 : Int32) = nI 4 from rfl, hs4, if_neg bI_T, if_pos c1]
      · rw [eX11_sheet_0, kO88, if_T, m_isSheet, cI_some, wc_bind, hs4, if_neg bI_T, m_inm, cI_some, wc_bind, decide_eq_false (fun c => c.1 c1), if_pos bI_F]
    · by_cases c2 : x2 ≤ 1
      · have c3 := sort3 c1 c2
        have hd : decide (¬ x2 < -1 ∧ x2 ≤ 1) = true := decide_eq_true ⟨c1, c2⟩
        by_cases cm : x2 = -1
        · obtain ⟨S1, S3, q1, q2, q3⟩ := sh_go (d + 18) hR hs c3 (l := 0) (by decide)
          refine ⟨1, S1, S3, ?_, ?_, q3⟩
          · rw [eX10_sheet_0, kO0, if_T, c_below, cI_some, wc_bind, show (4 : Int32) = nI 4 from rfl, hs4, if_neg bI_T, if_neg c1, if_pos c2, if_pos cm, kR0_3, wc_bind, kQs S hs, wc_bind]
            dsimp only
            rw [cm] at q1
            rw [show (.int (0 : Int32) : Value) = .int (nI 0) from rfl, q1, cV_some, wc_bind]
          · rw [eX11_sheet_0, kO88, if_T, m_isSheet, cI_some, wc_bind, hs4, if_neg bI_T, m_inm, cI_some, wc_bind, hd, if_neg bI_T, if_pos cm]
            dsimp only
            rw [eX11_sheet_30, if_pos cm, eX11_sheet_42, if_pos cm]
            exact q2
        · by_cases c4 : x3 ≤ 64
          · by_cases c5 : (0 : Int32) ≤ x3
            · obtain ⟨l, hl, rfl⟩ := nI_of2 (n := 64) (M := 64) rfl (show ¬ x3 < 0 by rw [Int32.lt_iff_toInt_lt]; rw [Int32.le_iff_toInt_le] at c5; omega) c4
              obtain ⟨S1, S3, q1, q2, q3⟩ := sh_go (d + 18) hR hs c3 hl
              refine ⟨1, S1, S3, ?_, ?_, q3⟩
              · rw [eX10_sheet_0, kO0, if_T, c_below, cI_some, wc_bind, show (4 : Int32) = nI 4 from rfl, hs4, if_neg bI_T, if_neg c1, if_pos c2, if_neg cm, if_pos c4, if_pos c5, kR0_3, wc_bind, kQs S hs, wc_bind]
                dsimp only
                rw [q1, cV_some, wc_bind]
              · rw [eX11_sheet_0, kO88, if_T, m_isSheet, cI_some, wc_bind, hs4, if_neg bI_T, m_inm, cI_some, wc_bind, hd, if_neg bI_T, if_neg cm, if_pos c4]
                dsimp only
                rw [eX11_sheet_30, if_neg cm, if_pos c5, eX11_sheet_42, if_neg cm]
                exact q2
            · refine ag3_p hR (-14) ?_ ?_
              · rw [eX10_sheet_0, kO0, if_T, c_below, cI_some, wc_bind, show (4 : Int32) = nI 4 from rfl, hs4, if_neg bI_T, if_neg c1, if_pos c2, if_neg cm, if_pos c4, if_neg c5]
              · rw [eX11_sheet_0, kO88, if_T, m_isSheet, cI_some, wc_bind, hs4, if_neg bI_T, m_inm, cI_some, wc_bind, hd, if_neg bI_T, if_neg cm, if_pos c4]
                dsimp only
                rw [eX11_sheet_30, if_neg cm, if_neg c5]
          · refine ag3_p hR (-2) ?_ ?_
            · rw [eX10_sheet_0, kO0, if_T, c_below, cI_some, wc_bind, show (4 : Int32) = nI 4 from rfl, hs4, if_neg bI_T, if_neg c1, if_pos c2, if_neg cm, if_neg c4]
            · rw [eX11_sheet_0, kO88, if_T, m_isSheet, cI_some, wc_bind, hs4, if_neg bI_T, m_inm, cI_some, wc_bind, hd, if_neg bI_T, if_neg cm, if_neg c4]
      · refine ag3_p hR (-2) ?_ ?_
        · rw [eX10_sheet_0, kO0, if_T, c_below, cI_some, wc_bind, show (4 : Int32) = nI 4 from rfl, hs4, if_neg bI_T, if_neg c1, if_neg c2]
        · rw [eX11_sheet_0, kO88, if_T, m_isSheet, cI_some, wc_bind, hs4, if_neg bI_T, m_inm, cI_some, wc_bind, decide_eq_false (fun c => c2 c.2), if_pos bI_F])
