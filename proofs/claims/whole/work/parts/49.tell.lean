/-! ===== tell ===== -/
theorem c8_bases (d : Nat) {S : am_S} {q s l n : Nat} {b : Nat → Int32} (kq : vq q) (hn : n ≤ 7) (hS : shC S s l b) (hin : allin n l b) (hm : mat n (bsr l (tn b))) (hq2 : q + 1 < 80) : ∃ S', am_cal am_mt (d + 3) jX8_becomeByBases [.ref q, .ref (80 + 2 * s), .int (nI n)] (ws S) = some (none, ws S') ∧ Cr q (q + 1) S S' ∧ VC S' q n (bsr l (tn b)) := by
  have hl64 := hS.2.2.1
  have h27 := p2_le hn
  have hSq : ∀ S', Cr q (q + 1) S S' → shC S' s l b := fun S' hc => ⟨hS.1, by rw [hc _ (by omega)]; exact hS.2.1, hS.2.2.1, fun i hi => by rw [hc _ (by omega)]; exact hS.2.2.2 i hi⟩
  rw [eX8_becomeByBases_0, kq.O, if_T, kq.sF, wc_bind]
  have key : ∀ k u S' x4 x5, u + k = 2 ^ n → Cr q (q + 1) S S' → S' q 0 = nI n → (∀ t, t < u → S' (q + 1) t = nI (bsr l (tn b) t)) → ∃ S'', am_run false (am_cal am_mt (d + 2)) (am_lk tbX8_becomeByBases) 7 [some (.ref q), some (.ref (80 + 2 * s)), some (.int (nI n)), some (.int (nI u)), x4, x5] [] (ws S') = some (none, ws S'') ∧ Cr q (q + 1) S S'' ∧ VC S'' q n (bsr l (tn b)) := by
    intro k
    induction k with
    | zero =>
      intro u S' x4 x5 he hc hq ht
      have : u = 2 ^ n := by omega
      subst this
      rw [eX8_becomeByBases_7, kq.all _ hn hq, cI_some, wc_bind, if_pos (p2_end hn)]
      dsimp only
      exact ⟨S', rfl, hc, kq.1, kq.2, hn, hq, fun t h => ⟨ht t h, bsr_le _ _ _⟩⟩
    | succ k ih =>
      intro u S' x4 x5 he hc hq ht
      have hu : u < 2 ^ n := by omega
      have hu7 := p2_128 hn hu
      have hS' := hSq S' hc
      rw [eX8_becomeByBases_7, kq.all _ hn hq, cI_some, wc_bind, if_neg (p2_all hu hn)]
      dsimp only
      rw [show (0 : Int32) = nI 0 from rfl]
      have inner : ∀ r j, j + r = l → ∃ S'', am_run false (am_cal am_mt (d + 2)) (am_lk tbX8_becomeByBases) 21 [some (.ref q), some (.ref (80 + 2 * s)), some (.int (nI n)), some (.int (nI u)), some (.int (nI (bsr j (tn b) u))), some (.int (nI j))] [] (ws S') = some (none, ws S'') ∧ Cr q (q + 1) S S'' ∧ VC S'' q n (bsr l (tn b)) := by
        intro r
        induction r with
        | zero =>
          intro j hj
          have : j = l := by omega
          subst this
          rw [eX8_becomeByBases_21, sI1 S' hS'.1, wc_bind, hS'.2.1, if_pos (nI_le (Nat.le_refl _) (by omega)), kq.fR, wc_bind, kq.sI _ hu7, wc_bind, nI_1]
          refine ih (u + 1) _ _ _ (by omega) (Cr_up hc (by omega) (by omega)) (by rw [up_ne q (by omega)]; exact hq) (fun t ht' => ?_)
          by_cases hte : t = u
          · subst hte; exact up_self _ _ _ _
          · rw [up_upd]; unfold upd; rw [if_neg hte]; exact ht t (by omega)
        | succ r ihr =>
          intro j hj
          have hjl : j < l := by omega
          obtain ⟨bj, _, tj, _⟩ := hin.at hn hjl
          have hbu : tn b j &&& u < 128 := Nat.lt_of_le_of_lt Nat.and_le_left tj
          have e : bsr (j + 1) (tn b) u = if bsr j (tn b) u < pc (tn b j &&& u) then pc (tn b j &&& u) else bsr j (tn b) u := wc_fd_s _ _ _
          have l1 := bsr_le (tn b) u j
          have l2 := pc_le (tn b j &&& u)
          rw [eX8_becomeByBases_21, sI1 S' hS'.1, wc_bind, hS'.2.1, if_neg (nI_ge hjl (by omega)), hS'.nm _ hjl, cI_some, wc_bind, bj]
          dsimp only
          rw [wc_and, J_bits _ hbu, cI_some, wc_bind, nI_1]
          dsimp only
          have hif : (if nI (bsr j (tn b) u) < nI (pc (tn b j &&& u)) then nI (pc (tn b j &&& u)) else nI (bsr j (tn b) u)) = nI (bsr (j + 1) (tn b) u) := by
            rw [e]
            by_cases hc : bsr j (tn b) u < pc (tn b j &&& u)
            · rw [if_pos hc, if_pos (nI_lt hc (by omega))]
            · rw [if_neg hc, if_neg (nI_nlt (by omega) (by omega))]
          rw [hif]
          exact ihr (j + 1) (by omega)
      exact inner l 0 (by omega)
  exact key (2 ^ n) 0 _ _ _ (by omega) (Cr_up Cr.rf (by omega) (by omega)) (up_self _ _ _ _) (fun t ht => absurd ht (Nat.not_lt_zero t))
theorem m_tellrun (d : Nat) {S : am_S} {v s l n : Nat} {b : Nat → Int32} (hn : n ≤ 7) (hv : v < 4) (hS : shM S s l b) (hin : allin n l b) (hm : mat n (bsr l (tn b))) : ∃ S', am_run false (am_cal am_mt (d + 2)) (am_lk tbX11_tell) 62 [some (.ref 88), some (.int (nI v)), some (.int (nI s)), some (.int (nI n)), some (.int (nI 0)), none, none] [] (ws (up S 91 v (nI n))) = some (some (.int (nI (bsr l (tn b) (2 ^ n - 1)))), ws S') ∧ Mw v S S' ∧ VM S' v n (bsr l (tn b)) := by
  have hl64 := hS.2.2.1
  have h27 := p2_le hn
  have hv14 : v < 14 := by omega
  have key : ∀ k u S' x4 x5, u + k = 2 ^ n → Rw v (up S 91 v (nI n)) S' → (∀ t, t < u → S' 92 (128 * v + t) = nI (bsr l (tn b) t)) → ∃ S'', am_run false (am_cal am_mt (d + 2)) (am_lk tbX11_tell) 62 [some (.ref 88), some (.int (nI v)), some (.int (nI s)), some (.int (nI n)), some (.int (nI u)), x4, x5] [] (ws S') = some (some (.int (nI (bsr l (tn b) (2 ^ n - 1)))), ws S'') ∧ Mw v S S'' ∧ VM S'' v n (bsr l (tn b)) := by
    intro k
    induction k with
    | zero =>
      intro u S' x4 x5 he hr ht
      have : u = 2 ^ n := by omega
      subst this
      have hM : VM S' v n (bsr l (tn b)) := ⟨hv14, hn, by rw [hr.1 91 (by decide)]; exact up_self _ _ _ _, fun t h => ⟨ht t h, bsr_le _ _ _⟩⟩
      rw [eX11_tell_62, m_all _ hM, cI_some, wc_bind, if_pos (p2_end hn), m_total _ hM, cI_some, wc_bind]
      dsimp only
      exact ⟨S', rfl, (Mw_up S (nI n)).tr (Mw_Rw hr), hM⟩
    | succ k ih =>
      intro u S' x4 x5 he hr ht
      have hu : u < 2 ^ n := by omega
      have hu7 := p2_128 hn hu
      have hS' : shM S' s l b := ⟨hS.1, by rw [hr.1 105 (by decide), up_ne 105 (by decide)]; exact hS.2.1, hS.2.2.1, fun i hi => by rw [hr.1 106 (by decide), up_ne 106 (by decide)]; exact hS.2.2.2 i hi⟩
      have hall : am_cal am_mt (d + 2) jX11_all [.ref 88, .int (nI v)] (ws S') = some (some (.int (nI (2 ^ n - 1))), ws S') := by
        rw [eX11_all_0, kO88, if_T, kR88_2, wc_bind, kA91 S' hv14, wc_bind, hr.1 91 (by decide), up_self, wc_all (by omega)]
      rw [eX11_tell_62, hall, cI_some, wc_bind, if_neg (p2_all hu hn)]
      dsimp only
      rw [show (0 : Int32) = nI 0 from rfl]
      have inner : ∀ r j, j + r = l → ∃ S'', am_run false (am_cal am_mt (d + 2)) (am_lk tbX11_tell) 78 [some (.ref 88), some (.int (nI v)), some (.int (nI s)), some (.int (nI n)), some (.int (nI u)), some (.int (nI (bsr j (tn b) u))), some (.int (nI j))] [] (ws S') = some (some (.int (nI (bsr l (tn b) (2 ^ n - 1)))), ws S'') ∧ Mw v S S'' ∧ VM S'' v n (bsr l (tn b)) := by
        intro r
        induction r with
        | zero =>
          intro j hj
          have : j = l := by omega
          subst this
          rw [eX11_tell_78, kR88_19, wc_bind, hS'.l, wc_bind, if_pos (nI_le (Nat.le_refl _) (by omega)), kR88_3, wc_bind, wc_row, kW92 _ (show 128 * v + u < 1792 by omega), wc_bind, nI_1]
          refine ih (u + 1) _ _ _ (by omega) (Rw_up hr hu7 _) (fun t ht' => ?_)
          by_cases hte : t = u
          · subst hte; exact up_self _ _ _ _
          · rw [up_upd]; unfold upd; rw [if_neg (by omega)]; exact ht t (by omega)
        | succ r ihr =>
          intro j hj
          have hjl : j < l := by omega
          obtain ⟨bj, _, tj, _⟩ := hin.at hn hjl
          have hbu : tn b j &&& u < 128 := Nat.lt_of_le_of_lt Nat.and_le_left tj
          have e : bsr (j + 1) (tn b) u = if bsr j (tn b) u < pc (tn b j &&& u) then pc (tn b j &&& u) else bsr j (tn b) u := wc_fd_s _ _ _
          have l1 := bsr_le (tn b) u j
          have l2 := pc_le (tn b j &&& u)
          rw [eX11_tell_78, kR88_19, wc_bind, hS'.l, wc_bind, if_neg (nI_ge hjl (by omega)), kR88_20, wc_bind, hS'.at (by omega), wc_bind, bj, wc_and, m_bits _ hbu, cI_some, wc_bind, kR88_20, wc_bind]
          dsimp only
          rw [hS'.at (by omega), wc_bind, bj, wc_and, m_bits _ hbu, cI_some, wc_bind, nI_1]
          dsimp only
          by_cases hc : bsr j (tn b) u < pc (tn b j &&& u)
          · rw [if_pos hc] at e
            rw [if_neg (nI_ge hc (by omega)), ← e]
            exact ihr (j + 1) (by omega)
          · rw [if_neg hc] at e
            rw [if_pos (nI_le (by omega) (by omega)), ← e]
            exact ihr (j + 1) (by omega)
      exact inner l 0 (by omega)
  exact key (2 ^ n) 0 _ _ _ (by omega) Rw.rf (fun t ht => absurd ht (Nat.not_lt_zero t))
theorem sr_none {P : Nat → Bool} : ∀ k e, sr P k e = none → ∀ j, e ≤ j → j < e + k → P j = false := by
  intro k
  induction k with
  | zero => intro e _ j h1 h2; omega
  | succ k ih =>
    intro e h j h1 h2
    unfold sr at h
    cases hp : P e with
    | true => rw [hp, if_pos rfl] at h; cases h
    | false =>
      rw [hp, if_neg (by decide)] at h
      by_cases hj : j = e
      · rw [hj]; exact hp
      · exact ih (e + 1) h j (by omega) (by omega)
theorem tw2_none {n : Nat} {L : Nat → Nat → Bool} : ∀ k j, tw2 n L k j = none → ∀ i, j ≤ i → i < j + k → ∀ e, e < n → L i e = false := by
  intro k
  induction k with
  | zero => intro j _ i h1 h2; omega
  | succ k ih =>
    intro j h i h1 h2 e he
    unfold tw2 at h
    cases hp : sr (L j) n 0 with
    | some q => rw [hp] at h; cases h
    | none =>
      rw [hp] at h
      by_cases hj : i = j
      · rw [hj]; exact sr_none n 0 hp e (by omega) (by omega)
      · exact ih (j + 1) h i (by omega) (by omega) e he
theorem tw1_none {n l : Nat} {L : Nat → Nat → Nat → Bool} : ∀ k i, tw1 n l L k i = none → ∀ a, i ≤ a → a < i + k → ∀ j, j < l → ∀ e, e < n → L a j e = false := by
  intro k
  induction k with
  | zero => intro i _ a h1 h2; omega
  | succ k ih =>
    intro i h a h1 h2 j hj e he
    unfold tw1 at h
    cases hp : tw2 n (L i) l 0 with
    | some q => rw [hp] at h; cases h
    | none =>
      rw [hp] at h
      by_cases hj' : a = i
      · rw [hj']; exact tw2_none l 0 hp j (by omega) (by omega) e he
      · exact ih (i + 1) h a (by omega) (by omega) j hj e he
/-- what is told is a rank, if there is no cause -/
theorem mat_told {n l : Nat} {b : Nat → Int32} (hn : n ≤ 7) (h : 0 < l ∧ allin n l b ∧ tw1 n l (lck l b) l 0 = none) : mat n (bsr l (tn b)) := by
  obtain ⟨hl, hin, ht⟩ := h
  refine mat_bsr hn hl (fun i hi => (hin.at hn hi).2.1) (fun i hi => (hin.at hn hi).2.2.2) (fun i j e hi hj he h1 h2 => ?_)
  have hk := tw1_none l 0 ht i (by omega) (by omega) j hj e he
  unfold lck at hk
  rw [lck_n (hin.at hn hj).2.1 hn, h1, h2, Bool.not_false, Bool.and_true, Bool.true_and, wc_al_false] at hk
  obtain ⟨f, hf, hk⟩ := hk
  rw [Bool.not_eq_false', Bool.and_eq_true, Bool.and_eq_true, Bool.not_eq_true'] at hk
  have h3 := hk.2
  unfold told at h3
  rw [Bool.not_eq_true', wc_al_false] at h3
  obtain ⟨k, hkl, h4⟩ := h3
  rw [Bool.not_eq_false', beq_iff_eq] at h4
  exact ⟨f, k, hf, hkl, hk.1.1, hk.1.2, h4⟩
def K2 (j k' k : Nat) : Bool := k == j || k == k' || k == 16
theorem K2_j (j k' : Nat) : K2 j k' j = true := by unfold K2; simp
theorem K2_k (j k' : Nat) : K2 j k' k' = true := by unfold K2; simp
theorem K2_16 (j k' : Nat) : K2 j k' 16 = true := by unfold K2; simp
theorem R_2 {S S' : am_S} {j k' : Nat} (h : R S) (hf : Fk (K2 j k') S S') (hn : RC j S') (hn2 : RC k' S') : R S' := R_of h hf (fun k hk hc => by
  unfold K2 at hc
  simp at hc
  rcases hc with (hc | hc) | hc
  · rw [hc]; exact hn
  · rw [hc]; exact hn2
  · omega)
theorem isC_eq {S : am_S} {q : Int32 × Int32 × Int32 × Int32} (h1 : isC S 15 q) (h2 : isC S 95 q) : RC 13 S := by
  intro i hi
  obtain ⟨a1, a2, a3, a4⟩ := h1
  obtain ⟨b1, b2, b3, b4⟩ := h2
  rcases (show i = 0 ∨ i = 1 ∨ i = 2 ∨ i = 3 by omega) with rfl | rfl | rfl | rfl
  · rw [a1, b1]
  · rw [a2, b2]
  · rw [a3, b3]
  · rw [a4, b4]
theorem Fk_15 {K : Nat → Bool} {S S' : am_S} (hc : Cr 15 16 S S') (h1 : K 13 = true) (h2 : K 16 = true) : Fk K S S' := Fk_Cr hc (fun c i a b => by
  rcases (show c = 15 ∨ c = 16 by omega) with rfl | rfl
  · exact h1
  · exact h2)
theorem Fk_95 {K : Nat → Bool} {S S' : am_S} (hc : Cr 95 95 S S') (h1 : K 13 = true) : Fk K S S' := Fk_Cr hc (fun c i a b => by
  have : c = 95 := by omega
  subst this
  exact h1)
theorem isC_Cr {S S' : am_S} {a b c : Nat} {q : Int32 × Int32 × Int32 × Int32} (h : isC S c q) (hc : Cr a b S S') (hq : c < a ∨ b < c) : isC S' c q := by
  unfold isC at h ⊢; rw [hc c hq]; exact h
theorem isC_Mw {S S' : am_S} {w c : Nat} {q : Int32 × Int32 × Int32 × Int32} (h : isC S c q) (hc : Mw w S S') (hq : c ≠ 91 ∧ c ≠ 92) : isC S' c q := by
  unfold isC at h ⊢; rw [hc.1 c hq.1 hq.2]; exact h
theorem pu_tell : am_ag Inv jX10_tell jX11_tell 3 := ah_3 (fun d S x1 x2 x3 hR => by
  rcases inR_of (x := x1) (n := 4) (by decide) with h1 | ⟨v, hv, rfl⟩
  · refine ag3_p hR (-2) ?_ ?_
    · rw [eX10_tell_0, kO0, if_T, c_below, cI_some, wc_bind, show (inR x1 (4 : Int32)) = false from h1, if_pos bI_F]
    · rw [eX11_tell_0, kO88, if_T, m_isView, cI_some, wc_bind, h1, if_pos bI_F]
  have hv4 : inR (nI v) (nI 4) = true := inR_T hv (by decide)
  rcases inR_of (x := x2) (n := 4) (by decide) with h1 | ⟨s, hs, rfl⟩
  · refine ag3_p hR (-2) ?_ ?_
    · rw [eX10_tell_0, kO0, if_T, c_below, cI_some, wc_bind, show (inR (nI v) (4 : Int32)) = true from hv4, if_neg bI_T, c_below, cI_some, wc_bind, show (inR x2 (4 : Int32)) = false from h1, if_pos bI_F]
    · rw [eX11_tell_0, kO88, if_T, m_isView, cI_some, wc_bind, hv4, if_neg bI_T, m_isSheet, cI_some, wc_bind, h1, if_pos bI_F]
  have hs4 : inR (nI s) (nI 4) = true := inR_T hs (by decide)
  rcases inR_of (x := x3) (n := 8) (by decide) with h1 | ⟨n, hn8, rfl⟩
  · refine ag3_p hR (-2) ?_ ?_
    · rw [eX10_tell_0, kO0, if_T, c_below, cI_some, wc_bind, show (inR (nI v) (4 : Int32)) = true from hv4, if_neg bI_T, c_below, cI_some, wc_bind, show (inR (nI s) (4 : Int32)) = true from hs4, if_neg bI_T, c_count, cI_some, wc_bind, h1, if_pos bI_F]
    · rw [eX11_tell_0, kO88, if_T, m_isView, cI_some, wc_bind, hv4, if_neg bI_T, m_isSheet, cI_some, wc_bind, hs4, if_neg bI_T, m_in7, cI_some, wc_bind, h1, if_pos bI_F]
  have hn8' : inR (nI n) (nI 8) = true := inR_T hn8 (by decide)
  have hn : n ≤ 7 := by omega
  obtain ⟨e1, e2, e3, ⟨l, hl64, hl⟩, e5⟩ := hR.2.2.2.2.1 s hs
  obtain ⟨b, hb⟩ : ∃ b : Nat → Int32, b = fun i => S 106 (64 * s + i) := ⟨_, rfl⟩
  have hSC : shC S s l b := ⟨hs, e2.trans hl, hl64, fun i hi => by rw [hb]; exact e5 i hi⟩
  by_cases hc : S 104 s = -1
  · refine ag3_p hR (-11) ?_ ?_
    · rw [eX10_tell_0, kO0, if_T, c_below, cI_some, wc_bind, show (inR (nI v) (4 : Int32)) = true from hv4, if_neg bI_T, c_below, cI_some, wc_bind, show (inR (nI s) (4 : Int32)) = true from hs4, if_neg bI_T, c_count, cI_some, wc_bind, hn8', if_neg bI_T, kR0_3, wc_bind, kQs S hs, wc_bind, c7_isMissing _ S hs, cI_some, wc_bind, e1, decide_eq_true hc, if_neg bI_T]
    · rw [eX11_tell_0, kO88, if_T, m_isView, cI_some, wc_bind, hv4, if_neg bI_T, m_isSheet, cI_some, wc_bind, hs4, if_neg bI_T, m_in7, cI_some, wc_bind, hn8', if_neg bI_T, kR88_18, wc_bind, kA104 S hs, wc_bind, if_pos hc]
  obtain ⟨S1, a1, a2, a3, a4⟩ := c_findIn (d + 14) hn hSC
  -- the class up to the cause
  have hcl : am_cal am_mt (d + 20) jX10_tell [.ref 0, .int (nI v), .int (nI s), .int (nI n)] (ws S) = if bI (cau n l b).isSome = 0 then (am_cV (am_cal am_mt (d + 19) jX8_becomeByBases [.ref (60 + 2 * v), .ref (80 + 2 * s), .int (nI n)] (ws S1))).bind (fun q15 => (am_fR q15 0 10 1).bind fun p16 => (am_aR q15 p16 (nI v)).bind fun p17 => (am_cI (am_cal am_mt (d + 19) jX8_fullRank [.ref p17] q15)).bind fun q18 => some (some (Value.int q18.1), q18.2)) else some (some (Value.int (-3 : Int32)), ws S1) := by
    rw [eX10_tell_0, kO0, if_T, c_below, cI_some, wc_bind, show (inR (nI v) (4 : Int32)) = true from hv4, if_neg bI_T, c_below, cI_some, wc_bind, show (inR (nI s) (4 : Int32)) = true from hs4, if_neg bI_T, c_count, cI_some, wc_bind, hn8', if_neg bI_T, kR0_3, wc_bind, kQs S hs, wc_bind, c7_isMissing _ S hs, cI_some, wc_bind, e1, decide_eq_false hc, if_pos bI_F, kR0_5, wc_bind, kR0_3, wc_bind, kQs S hs, wc_bind]
    dsimp only
    rw [a1, cI_some, wc_bind, kR0_1, wc_bind, kQv S1 hv, wc_bind, kR0_3, wc_bind, kQs S1 hs, wc_bind]
  cases hq : cau n l b with
  | some q =>
    rw [hq] at a3 hcl
    have hSM : shM S1 s l b := ⟨hs, by rw [a2 105 (by decide)]; exact hl, hl64, fun i hi => by rw [a2 106 (by decide), hb]⟩
    obtain ⟨S2, b1, b2, b3⟩ := m_hasCause (d + 16) hn hSM
    rw [hq] at b1 b3
    refine ⟨-3, S1, S2, ?_, ?_, R_1 (j := 13) hR ((Fk_15 a2 (K1_j _) (K1_16 _)).tr (Fk_95 b2 (K1_j _))) (isC_eq (isC_Cr a3 b2 (by decide)) b3)⟩
    · rw [hcl, Option.isSome_some, if_neg bI_T]
    · rw [eX11_tell_0, kO88, if_T, m_isView, cI_some, wc_bind, hv4, if_neg bI_T, m_isSheet, cI_some, wc_bind, hs4, if_neg bI_T, m_in7, cI_some, wc_bind, hn8', if_neg bI_T, kR88_18, wc_bind, kA104 S1 hs, wc_bind, a2 104 (by decide), if_neg hc]
      dsimp only
      rw [b1, cI_some, wc_bind, Option.isSome_some, if_neg bI_T]
  | none =>
    rw [hq] at a3 hcl
    obtain ⟨k1, k2, k3⟩ := a4 hq
    have hm := mat_told hn ⟨k1, k2, k3⟩
    have hSC1 := shC_Cr hSC a2
    obtain ⟨S1', c1, c2, c3⟩ := c8_bases (d + 16) (vq_v hv) hn hSC1 k2 hm (by omega)
    have hSM : shM S1' s l b := ⟨hs, by rw [c2 105 (by omega), a2 105 (by decide)]; exact hl, hl64, fun i hi => by rw [c2 106 (by omega), a2 106 (by decide), hb]⟩
    obtain ⟨S2, b1, b2, b3⟩ := m_hasCause (d + 16) hn hSM
    rw [hq] at b1 b3
    have hSM2 : shM S2 s l b := ⟨hs, by rw [b2 105 (by decide)]; exact hSM.2.1, hl64, fun i hi => by rw [b2 106 (by decide)]; exact hSM.2.2.2 i hi⟩
    obtain ⟨S3, f1, f2, f3⟩ := m_tellrun (d + 17) hn hv hSM2 k2 hm
    refine ⟨nI (bsr l (tn b) (2 ^ n - 1)), S1', S3, ?_, ?_, ?_⟩
    · rw [hcl, Option.isSome_none, if_pos bI_F, c1, cV_some, wc_bind, kR0_1, wc_bind, kQv S1' hv, wc_bind, c8_fullRank _ c3, cI_some, wc_bind]
    · rw [eX11_tell_0, kO88, if_T, m_isView, cI_some, wc_bind, hv4, if_neg bI_T, m_isSheet, cI_some, wc_bind, hs4, if_neg bI_T, m_in7, cI_some, wc_bind, hn8', if_neg bI_T, kR88_18, wc_bind, kA104 S1' hs, wc_bind, c2 104 (by omega), a2 104 (by decide), if_neg hc]
      dsimp only
      rw [b1, cI_some, wc_bind, Option.isSome_none, if_pos bI_F, kR88_2, wc_bind]
      dsimp only
      rw [kW91 S2 (show v < 14 by omega), wc_bind]
      exact f1
    · have h3 := Fk_Mw f2
      unfold rowc at h3
      rw [if_pos hv] at h3
      have hw : ∀ k, K2 (1 + v) 13 k = false → K1 (1 + v) k = false := fun k hk => by
        unfold K2 at hk; unfold K1; simp at hk ⊢; omega
      refine R_2 (j := 1 + v) (k' := 13) hR ((((Fk_15 a2 (K2_k _ _) (K2_16 _ _)).tr ((Fk_view hv c2).wk hw)).tr (Fk_95 b2 (K2_k _ _))).tr (h3.wk hw)) ?_ ?_
      · rw [RC_v hv]
        exact ⟨n, _, hm, VC_Mw (VC_Cr c3 b2 (by omega)) f2 (by omega), f3⟩
      · exact isC_eq (isC_Mw (isC_Cr (isC_Cr a3 c2 (by omega)) b2 (by decide)) f2 (by decide)) (isC_Mw b3 f2 (by decide)))
