/-! ===== copy ===== -/
theorem c7_has (d : Nat) (S : am_S) {s : Nat} (hs : s < 4) (x y : Int32) : am_cal am_mt (d + 1) jX7_hasPlaces [.ref (80 + 2 * s), .int x, .int y] (ws S) = some (some (.int (bI (decide (¬ x < 0 ∧ ¬ y < 0 ∧ ¬ (S (80 + 2 * s) 1 - y) < x)))), ws S) := by
  rw [eX7_hasPlaces_0, sO S hs, if_T, sI1 S hs, wc_bind]
  by_cases h1 : x < 0
  · rw [if_pos h1, decide_eq_false (fun c => c.1 h1)]; rfl
  · rw [if_neg h1]
    by_cases h2 : y < 0
    · rw [if_pos h2, decide_eq_false (fun c => c.2.1 h2)]; rfl
    · rw [if_neg h2]
      by_cases h3 : (S (80 + 2 * s) 1 - y) < x
      · rw [if_pos h3, decide_eq_false (fun c => c.2.2 h3)]; rfl
      · rw [if_neg h3, decide_eq_true ⟨h1, h2, h3⟩]; rfl
theorem room_of {x y : Int32} {l : Nat} (hl : l ≤ 64) (hx : ¬ x < 0) (hy : ¬ y < 0) (h : ¬ (nI l - y) < x) : ∃ i n, x = nI i ∧ y = nI n ∧ i + n ≤ l := by
  obtain ⟨i, hi, rfl⟩ := nI_of hx
  obtain ⟨n, hn, rfl⟩ := nI_of hy
  refine ⟨i, n, rfl, rfl, ?_⟩
  apply Classical.byContradiction
  intro hc
  apply h
  rw [Int32.lt_iff_toInt_lt, nI_toInt hi]
  by_cases hnl : n ≤ l
  · rw [pk_sub hnl, nI_toInt (by omega)]
    omega
  · have e : (nI l - nI n).toInt = (l : Int) - n := by
      have h1 : nI l - nI n = -(nI (n - l)) := by
        rw [← pk_sub (show l ≤ n by omega)]
        rw [Int32.neg_sub]
      rw [h1, sb_negT (show n - l < 2 ^ 31 by omega)]
      omega
    rw [e]
    omega
/-- the reference's loop -/
theorem m_cploop (d : Nat) {S : am_S} {s t i j n : Nat} (hs : s < 4) (ht : t < 4) (hi : i + n ≤ 64) (hj : j + n ≤ 64) : ∃ S', (if ((64 : Int32) * nI t + nI j) ≤ ((64 : Int32) * nI s + nI i) then am_run false (am_cal am_mt d) (am_lk tbX11_copy) 128 [some (.ref 88), some (.int (nI s)), some (.int (nI i)), some (.int (nI t)), some (.int (nI j)), some (.int (nI n)), some (.int (0 : Int32)), some (.int (0 : Int32)), none] [] (ws S) else am_run false (am_cal am_mt d) (am_lk tbX11_copy) 128 [some (.ref 88), some (.int (nI s)), some (.int (nI i)), some (.int (nI t)), some (.int (nI j)), some (.int (nI n)), some (.int (1 : Int32)), some (.int (0 : Int32)), none] [] (ws S)) = some (some (.int (nI n)), ws S') ∧ Cr 106 106 S S' ∧ ∀ q, S' 106 q = if 64 * t + j ≤ q ∧ q < 64 * t + j + n then S 106 (64 * s + i + (q - (64 * t + j))) else S 106 q := by
  obtain ⟨a, ha⟩ : ∃ a, a = 64 * s + i := ⟨_, rfl⟩
  obtain ⟨b, hb⟩ : ∃ b, b = 64 * t + j := ⟨_, rfl⟩
  have hrs : (64 : Int32) * nI s + nI i = nI a := by rw [wc_row64, ha]
  have hrt : (64 : Int32) * nI t + nI j = nI b := by rw [wc_row64, hb]
  rw [hrs, hrt, ← ha, ← hb]
  -- one number
  have one : ∀ S' (y : Int32) k x8 at_, at_ < n → am_run false (am_cal am_mt d) (am_lk tbX11_copy) 152 [some (.ref 88), some (.int (nI s)), some (.int (nI i)), some (.int (nI t)), some (.int (nI j)), some (.int (nI n)), some (.int y), some (.int (nI k)), x8] [.int (nI at_)] (ws S') = am_run false (am_cal am_mt d) (am_lk tbX11_copy) 128 [some (.ref 88), some (.int (nI s)), some (.int (nI i)), some (.int (nI t)), some (.int (nI j)), some (.int (nI n)), some (.int y), some (.int (nI (k + 1))), some (.int (nI at_))] [] (ws (up S' 106 (b + at_) (S' 106 (a + at_)))) := by
    intro S' y k x8 at_ hat
    rw [eX11_copy_152, kR88_20, wc_bind, wc_bind, hrs, hrt, nI_add, nI_add, kA106 S' (show a + at_ < 256 by omega), wc_bind, kW106 _ (show b + at_ < 256 by omega), wc_bind, nI_1]
  by_cases hab : b ≤ a
  · rw [if_pos (nI_le hab (by omega))]
    have key : ∀ k, k ≤ n → ∃ S' x8, am_run false (am_cal am_mt d) (am_lk tbX11_copy) 128 [some (.ref 88), some (.int (nI s)), some (.int (nI i)), some (.int (nI t)), some (.int (nI j)), some (.int (nI n)), some (.int (0 : Int32)), some (.int (0 : Int32)), none] [] (ws S) = am_run false (am_cal am_mt d) (am_lk tbX11_copy) 128 [some (.ref 88), some (.int (nI s)), some (.int (nI i)), some (.int (nI t)), some (.int (nI j)), some (.int (nI n)), some (.int (0 : Int32)), some (.int (nI k)), x8] [] (ws S') ∧ Cr 106 106 S S' ∧ ∀ q, S' 106 q = if b ≤ q ∧ q < b + k then S 106 (a + (q - b)) else S 106 q := by
      intro k
      induction k with
      | zero => intro _; exact ⟨S, none, rfl, Cr.rf, fun q => by rw [if_neg (by omega)]⟩
      | succ k ih =>
        intro hk
        obtain ⟨S', x8, g1, g2, g3⟩ := ih (by omega)
        refine ⟨up S' 106 (b + k) (S' 106 (a + k)), some (.int (nI k)), g1.trans ?_, Cr_up g2 (by decide) (by decide), fun q => ?_⟩
        · rw [eX11_copy_128, if_neg (nI_ge (by omega) (by omega)), if_pos z00, one S' 0 k x8 k (by omega)]
        · rw [up_upd]
          unfold upd
          by_cases hq : q = b + k
          · rw [if_pos hq, if_pos (by omega), g3, if_neg (by omega), show a + (q - b) = a + k by omega]
          · rw [if_neg hq, g3]
            by_cases hq2 : b ≤ q ∧ q < b + k
            · rw [if_pos hq2, if_pos (by omega)]
            · rw [if_neg hq2, if_neg (by omega)]
    obtain ⟨S', x8, g1, g2, g3⟩ := key n (Nat.le_refl n)
    refine ⟨S', g1.trans ?_, g2, g3⟩
    rw [eX11_copy_128, if_pos (nI_le (Nat.le_refl _) (by omega))]
  · rw [if_neg (nI_ge (by omega) (by omega))]
    have key : ∀ k, k ≤ n → ∃ S' x8, am_run false (am_cal am_mt d) (am_lk tbX11_copy) 128 [some (.ref 88), some (.int (nI s)), some (.int (nI i)), some (.int (nI t)), some (.int (nI j)), some (.int (nI n)), some (.int (1 : Int32)), some (.int (0 : Int32)), none] [] (ws S) = am_run false (am_cal am_mt d) (am_lk tbX11_copy) 128 [some (.ref 88), some (.int (nI s)), some (.int (nI i)), some (.int (nI t)), some (.int (nI j)), some (.int (nI n)), some (.int (1 : Int32)), some (.int (nI k)), x8] [] (ws S') ∧ Cr 106 106 S S' ∧ ∀ q, S' 106 q = if b + (n - k) ≤ q ∧ q < b + n then S 106 (a + (q - b)) else S 106 q := by
      intro k
      induction k with
      | zero => intro _; exact ⟨S, none, rfl, Cr.rf, fun q => by rw [if_neg (by omega)]⟩
      | succ k ih =>
        intro hk
        obtain ⟨S', x8, g1, g2, g3⟩ := ih (by omega)
        refine ⟨up S' 106 (b + (n - 1 - k)) (S' 106 (a + (n - 1 - k))), some (.int (nI (n - 1 - k))), g1.trans ?_, Cr_up g2 (by decide) (by decide), fun q => ?_⟩
        · rw [eX11_copy_128, if_neg (nI_ge (by omega) (by omega)), if_neg z10, show (1 : Int32) = nI 1 from rfl, pk_sub (show 1 ≤ n by omega), pk_sub (show k ≤ n - 1 by omega), one S' (nI 1) k x8 (n - 1 - k) (by omega)]
        · rw [up_upd]
          unfold upd
          by_cases hq : q = b + (n - 1 - k)
          · rw [if_pos hq, if_pos (by omega), g3, if_neg (by omega), show a + (q - b) = a + (n - 1 - k) by omega]
          · rw [if_neg hq, g3]
            by_cases hq2 : b + (n - k) ≤ q ∧ q < b + n
            · rw [if_pos hq2, if_pos (by omega)]
            · rw [if_neg hq2, if_neg (by omega)]
    obtain ⟨S', x8, g1, g2, g3⟩ := key n (Nat.le_refl n)
    refine ⟨S', g1.trans ?_, g2, fun q => by rw [g3, Nat.sub_self, Nat.add_zero]⟩
    rw [eX11_copy_128, if_pos (nI_le (Nat.le_refl _) (by omega))]
theorem pu_copy : am_ag Inv jX10_copy jX11_copy 5 := ah_5 (fun d S x1 x2 x3 x4 x5 hR => by
  rcases inR_of (x := x1) (n := 4) (by decide) with h1 | ⟨s, hs, rfl⟩
  · refine ag3_p hR (-2) ?_ ?_
    · rw [eX10_copy_0, kO0, if_T, c_below, cI_some, wc_bind, show (inR x1 (4 : Int32)) = false from h1, if_pos bI_F]
    · rw [eX11_copy_0, kO88, if_T, m_isSheet, cI_some, wc_bind, h1, if_pos bI_F]
  have hs4 : inR (nI s) (nI 4) = true := inR_T hs (by decide)
  rcases inR_of (x := x3) (n := 4) (by decide) with h1 | ⟨t, ht, rfl⟩
  · refine ag3_p hR (-2) ?_ ?_
    · rw [eX10_copy_0, kO0, if_T, c_below, cI_some, wc_bind, show (inR (nI s) (4 : Int32)) = true from hs4, if_neg bI_T, c_below, cI_some, wc_bind, show (inR x3 (4 : Int32)) = false from h1, if_pos bI_F]
    · rw [eX11_copy_0, kO88, if_T, m_isSheet, cI_some, wc_bind, hs4, if_neg bI_T, m_isSheet, cI_some, wc_bind, h1, if_pos bI_F]
  have ht4 : inR (nI t) (nI 4) = true := inR_T ht (by decide)
  obtain ⟨a1, a2, a3, ⟨l, hl64, hl⟩, a5⟩ := hR.2.2.2.2.1 s hs
  obtain ⟨b1, b2, b3, ⟨m, hm64, hm⟩, b5⟩ := hR.2.2.2.2.1 t ht
  have hcl : am_cal am_mt (d + 20) jX10_copy [.ref 0, .int (nI s), .int x2, .int (nI t), .int x4, .int x5] (ws S) = if S 104 s = -1 then some (some (.int (-11 : Int32)), ws S) else if S 104 t = -1 then some (some (.int (-11 : Int32)), ws S) else if S 104 s = S 104 t then (if decide (¬ x2 < 0 ∧ ¬ x5 < 0 ∧ ¬ (nI l - x5) < x2) = true then (if decide (¬ x4 < 0 ∧ ¬ x5 < 0 ∧ ¬ (nI m - x5) < x4) = true then (am_cp (ws S) (81 + 2 * s) x2 (81 + 2 * t) x4 x5).bind (fun g27 => some (some (Value.int x5), g27)) else some (some (.int (-12 : Int32)), ws S)) else some (some (.int (-12 : Int32)), ws S)) else some (some (.int (-13 : Int32)), ws S) := by
    rw [eX10_copy_0, kO0, if_T, c_below, cI_some, wc_bind, show (inR (nI s) (4 : Int32)) = true from hs4, if_neg bI_T, c_below, cI_some, wc_bind, show (inR (nI t) (4 : Int32)) = true from ht4, if_neg bI_T, kR0_3, wc_bind, kQs S hs, wc_bind, c7_isMissing _ S hs, cI_some, wc_bind, a1]
    dsimp only
    by_cases c1 : S 104 s = -1
    · rw [decide_eq_true c1, if_neg bI_T, if_pos c1]
    · rw [decide_eq_false c1, if_pos bI_F, if_neg c1, kR0_3, wc_bind, kQs S ht, wc_bind, c7_isMissing _ S ht, cI_some, wc_bind, b1]
      dsimp only
      by_cases c2 : S 104 t = -1
      · rw [decide_eq_true c2, if_neg bI_T, if_pos c2]
      · rw [decide_eq_false c2, if_pos bI_F, if_neg c2, kR0_3, wc_bind, kQs S hs, wc_bind, sI0 S hs, wc_bind, wc_bind, kQs S ht, wc_bind, sI0 S ht, wc_bind, a1, b1]
        by_cases c3 : S 104 s = S 104 t
        · rw [if_pos c3, if_pos c3, wc_bind, kQs S hs, wc_bind, c7_has _ S hs, cI_some, wc_bind, a2, hl]
          dsimp only
          cases hd1 : decide (¬ x2 < 0 ∧ ¬ x5 < 0 ∧ ¬ (nI l - x5) < x2) with
          | false => rw [if_pos bI_F, if_neg Bool.false_ne_true]
          | true =>
            rw [if_neg bI_T, if_pos rfl, kR0_3, wc_bind, kQs S ht, wc_bind, c7_has _ S ht, cI_some, wc_bind, b2, hm]
            dsimp only
            cases hd2 : decide (¬ x4 < 0 ∧ ¬ x5 < 0 ∧ ¬ (nI m - x5) < x4) with
            | false => rw [if_pos bI_F, if_neg Bool.false_ne_true]
            | true => rw [if_neg bI_T, if_pos rfl, kR0_3, wc_bind, kQs S hs, wc_bind, sRn S hs, wc_bind, wc_bind, kQs S ht, wc_bind, sRn S ht, wc_bind]
        · rw [if_neg c3, if_neg c3]
  have hml : ∀ S', (∀ c, 88 ≤ c → S' c = S c) → am_cal am_mt (d + 20) jX11_copy [.ref 88, .int (nI s), .int x2, .int (nI t), .int x4, .int x5] (ws S') = if S 104 s = -1 then some (some (.int (-11 : Int32)), ws S') else if S 104 t = -1 then some (some (.int (-11 : Int32)), ws S') else if S 104 s = S 104 t then (if x5 < 0 then some (some (.int (-12 : Int32)), ws S') else if x2 < 0 then some (some (.int (-12 : Int32)), ws S') else if x4 < 0 then some (some (.int (-12 : Int32)), ws S') else if (nI l - x5) < x2 then some (some (.int (-12 : Int32)), ws S') else if x4 ≤ (nI m - x5) then (if ((64 : Int32) * nI t + x4) ≤ ((64 : Int32) * nI s + x2) then am_run false (am_cal am_mt (d + 19)) (am_lk tbX11_copy) 128 [some (.ref 88), some (.int (nI s)), some (.int x2), some (.int (nI t)), some (.int x4), some (.int x5), some (.int (0 : Int32)), some (.int (0 : Int32)), none] [] (ws S') else am_run false (am_cal am_mt (d + 19)) (am_lk tbX11_copy) 128 [some (.ref 88), some (.int (nI s)), some (.int x2), some (.int (nI t)), some (.int x4), some (.int x5), some (.int (1 : Int32)), some (.int (0 : Int32)), none] [] (ws S')) else some (some (.int (-12 : Int32)), ws S')) else some (some (.int (-13 : Int32)), ws S') := by
    intro S' hSS
    rw [eX11_copy_0, kO88, if_T, m_isSheet, cI_some, wc_bind, hs4, if_neg bI_T, m_isSheet, cI_some, wc_bind, ht4, if_neg bI_T, kR88_18, wc_bind, kA104 S' hs, wc_bind, wc_bind, kA104 S' ht, wc_bind, wc_bind, kA104 S' hs, wc_bind, wc_bind, kA104 S' ht, wc_bind, kR88_19, wc_bind, kA105 S' hs, wc_bind, wc_bind, kA105 S' ht, wc_bind, hSS 104 (by decide), hSS 105 (by decide), hl, hm]
  by_cases c1 : S 104 s = -1
  · exact ag3_p hR (-11) (by rw [hcl, if_pos c1]) (by rw [hml S (fun _ _ => rfl), if_pos c1])
  by_cases c2 : S 104 t = -1
  · exact ag3_p hR (-11) (by rw [hcl, if_neg c1, if_pos c2]) (by rw [hml S (fun _ _ => rfl), if_neg c1, if_pos c2])
  by_cases c3 : S 104 s = S 104 t
  · by_cases c5 : x5 < 0
    · exact ag3_p hR (-12) (by rw [hcl, if_neg c1, if_neg c2, if_pos c3, decide_eq_false (fun c => c.2.1 c5), if_neg Bool.false_ne_true]) (by rw [hml S (fun _ _ => rfl), if_neg c1, if_neg c2, if_pos c3, if_pos c5])
    by_cases c6 : x2 < 0
    · exact ag3_p hR (-12) (by rw [hcl, if_neg c1, if_neg c2, if_pos c3, decide_eq_false (fun c => c.1 c6), if_neg Bool.false_ne_true]) (by rw [hml S (fun _ _ => rfl), if_neg c1, if_neg c2, if_pos c3, if_neg c5, if_pos c6])
    by_cases c7 : x4 < 0
    · exact ag3_p hR (-12) (by rw [hcl, if_neg c1, if_neg c2, if_pos c3, decide_eq_false (p := ¬ x4 < 0 ∧ ¬ x5 < 0 ∧ ¬ (nI m - x5) < x4) (fun c => c.1 c7), if_neg Bool.false_ne_true, ite_self]) (by rw [hml S (fun _ _ => rfl), if_neg c1, if_neg c2, if_pos c3, if_neg c5, if_neg c6, if_pos c7])
    by_cases c8 : (nI l - x5) < x2
    · exact ag3_p hR (-12) (by rw [hcl, if_neg c1, if_neg c2, if_pos c3, decide_eq_false (p := ¬ x2 < 0 ∧ ¬ x5 < 0 ∧ ¬ (nI l - x5) < x2) (fun c => c.2.2 c8), if_neg Bool.false_ne_true]) (by rw [hml S (fun _ _ => rfl), if_neg c1, if_neg c2, if_pos c3, if_neg c5, if_neg c6, if_neg c7, if_pos c8])
    by_cases c9 : (nI m - x5) < x4
    · exact ag3_p hR (-12) (by rw [hcl, if_neg c1, if_neg c2, if_pos c3, decide_eq_false (p := ¬ x4 < 0 ∧ ¬ x5 < 0 ∧ ¬ (nI m - x5) < x4) (fun c => c.2.2 c9), if_neg Bool.false_ne_true, ite_self]) (by rw [hml S (fun _ _ => rfl), if_neg c1, if_neg c2, if_pos c3, if_neg c5, if_neg c6, if_neg c7, if_neg c8, if_neg (fun c => by rw [Int32.le_iff_toInt_le] at c; rw [Int32.lt_iff_toInt_lt] at c9; omega)])
    obtain ⟨i, n, rfl, rfl, hin⟩ := room_of hl64 c6 c5 c8
    obtain ⟨j, n', rfl, hnn, hjn⟩ := room_of hm64 c7 c5 c9
    have hn' : n = n' := (nI_eq (by omega) (by omega)).mp hnn
    subst hn'
    obtain ⟨S1, hS1⟩ : ∃ S1, S1 = upA S (81 + 2 * t) (va_cpy (S (81 + 2 * s)) (S (81 + 2 * t)) i j n) := ⟨_, rfl⟩
    have hc1 : Cr (81 + 2 * t) (81 + 2 * t) S S1 := by rw [hS1]; exact Cr_upA Cr.rf (by omega) (by omega)
    obtain ⟨S2, g1, g2, g3⟩ := m_cploop (d + 19) (S := S1) hs ht (show i + n ≤ 64 by omega) (show j + n ≤ 64 by omega)
    refine ⟨nI n, S1, S2, ?_, ?_, R_1 (j := 9 + t) hR ((Fk_Cr hc1 (fun c i p q => by rw [comp_s ht (by omega)]; exact K1_j _)).tr ?_) ?_⟩
    · rw [hcl, if_neg c1, if_neg c2, if_pos c3, decide_eq_true ⟨c6, c5, c8⟩, if_pos rfl, decide_eq_true ⟨c7, c5, c9⟩, if_pos rfl, ws_cp (kd_s hs).2 (kd_s ht).2 (by omega) (by omega) (by decide) (by decide), wc_bind, hS1]
    · rw [hml S1 (fun c hc => hc1 c (by omega)), if_neg c1, if_neg c2, if_pos c3, if_neg c5, if_neg c6, if_neg c7, if_neg c8, if_pos (by rw [Int32.le_iff_toInt_le]; rw [Int32.lt_iff_toInt_lt] at c9; omega)]
      exact g1
    · intro c q hcq
      by_cases hc106 : c = 106
      · subst hc106
        rw [g3]
        by_cases hq : 64 * t + j ≤ q ∧ q < 64 * t + j + n
        · exfalso
          have := comp_106 t (i := q - 64 * t) (by omega)
          rw [show 64 * t + (q - 64 * t) = q by omega] at this
          dsimp only at hcq
          rw [this, K1_j] at hcq
          cases hcq
        · rw [if_neg hq]
      · rw [g2 c (by omega)]
    · rw [RC_s ht]
      unfold RS
      have u (c : Nat) (hc : c ≠ 106) : S2 c = S1 c := g2 c (by omega)
      rw [u _ (by omega), u 104 (by decide), u 105 (by decide), hc1 (80 + 2 * t) (by omega), hc1 104 (by omega), hc1 105 (by omega)]
      refine ⟨b1, b2, b3, ⟨m, hm64, hm⟩, fun q hq => ?_⟩
      rw [u _ (by omega), g3, hS1, upA_self, upA_ne 106 (by omega)]
      by_cases hq2 : j ≤ q ∧ q < j + n
      · rw [if_pos (by omega), pk_cpy_in hq2.1 hq2.2, a5 _ (by omega), show 64 * s + (i + (q - j)) = 64 * s + i + (64 * t + q - (64 * t + j)) by omega]
      · rw [if_neg (by omega), pk_cpy_out (by omega)]
        exact b5 q hq
  · exact ag3_p hR (-13) (by rw [hcl, if_neg c1, if_neg c2, if_neg c3]) (by rw [hml S (fun _ _ => rfl), if_neg c1, if_neg c2, if_neg c3]))
