/-! ===== reckon, cause, seed, same ===== -/
theorem pu_seed : am_ag Inv jX10_seed jX11_seed 1 := ag_1 (fun S x1 hR => by
  refine ⟨S 0 11, up S 0 11 x1, up (up S 0 11 x1) 88 15 x1, fun d => ?_, fun d => ?_, ?_⟩
  · rw [eX10_seed_0, kO0, if_T, kI0_11, wc_bind, kS0_11, wc_bind]
  · rw [eX11_seed_0, kO88, if_T, kI88_15, wc_bind, kS88_15, wc_bind]
    have : up S 0 11 x1 88 15 = S 0 11 := hR.2.2.2.2.2.2.symm
    rw [this]
  · have hf : Fr (fun c i => (c == 0 && i == 11) || (c == 88 && i == 15)) S (up (up S 0 11 x1) 88 15 x1) := Fr_up (Fr_up Fr.rf rfl) rfl
    have hrv : ∀ q w, RV S q w → q < 80 → q ≠ 0 → RV (up (up S 0 11 x1) 88 15 x1) q w := by
      intro q w h hq h0
      refine h.fr hf ?_ ?_ ?_ ?_
      · simp [h0] <;> omega
      · intro i; simp <;> omega
      · simp
      · intro i _; simp
    obtain ⟨⟨h1a, h1b⟩, h2, h3, h4, h5, h6, h7⟩ := hR
    refine ⟨⟨fun f hf' => (h1a f hf').fr hf (by simp <;> omega) (fun i => by simp <;> omega), h1b.fr hf (fun i => by simp) (fun i => by simp)⟩, fun v hv => hrv _ _ (h2 v hv) (by omega) (by omega), ?_, ?_, ?_, fun i hi => h6 i hi, ?_⟩
    · rcases h3 with h3 | h3
      · exact Or.inl h3
      · exact Or.inr ⟨h3.1, h3.2.1, h3.2.2.1, fun v hv => hrv _ _ (h3.2.2.2 v hv) (by omega) (by omega)⟩
    · intro h hh
      have e1 (i : Nat) : up (up S 0 11 x1) 88 15 x1 (68 + 3 * h) i = S (68 + 3 * h) i := hf _ _ (by simp <;> omega)
      have e2 (i : Nat) : up (up S 0 11 x1) 88 15 x1 102 i = S 102 i := hf _ _ (by simp)
      have e3 (i : Nat) : up (up S 0 11 x1) 88 15 x1 103 i = S 103 i := hf _ _ (by simp)
      have := h4 h hh
      unfold RH at this ⊢
      rw [e1, e1, e2, e3]
      rcases this with q | q | q
      · exact Or.inl q
      · exact Or.inr (Or.inl q)
      · exact Or.inr (Or.inr ⟨q.1, q.2.1, q.2.2.1, hrv _ _ q.2.2.2 (by omega) (by omega)⟩)
    · intro s hs
      have e1 (c i : Nat) (h : c ≠ 0 ∧ c ≠ 88) : up (up S 0 11 x1) 88 15 x1 c i = S c i := hf _ _ (by simp [h.1, h.2])
      have := h5 s hs
      unfold RS at this ⊢
      rw [e1 (80 + 2 * s) 0 (by omega), e1 (80 + 2 * s) 1 (by omega), e1 104 s (by decide), e1 105 s (by decide)]
      exact ⟨this.1, this.2.1, this.2.2.1, this.2.2.2.1, fun i hi => by rw [e1 (81 + 2 * s) i (by omega), e1 106 _ (by decide)]; exact this.2.2.2.2 i hi⟩
    · show x1 = x1
      rfl)
theorem pu_cause : am_ag Inv jX10_cause jX11_cause 1 := ag_1 (fun S x1 hR => by
  rcases inR_of (x := x1) (n := 4) (by decide) with h1 | ⟨v, hv, rfl⟩
  · refine ag_pure hR (r := -2) (fun d => ?_) (fun d => ?_)
    · have ne : ∀ k, k < 4 → ¬ x1 = nI k := fun k hk c => by rw [c, inR_T hk (by decide)] at h1; cases h1
      rw [eX10_cause_0, kO0, if_T, if_neg (show ¬ x1 = 0 from ne 0 (by decide)), if_neg (show ¬ x1 = 1 from ne 1 (by decide)), if_neg (show ¬ x1 = 2 from ne 2 (by decide)), if_neg (show ¬ x1 = 3 from ne 3 (by decide))]
    · rw [eX11_cause_0, kO88, if_T, m_in3, cI_some, wc_bind, h1, if_pos bI_F]
  · refine ag_pure hR (r := S 15 v) (fun d => ?_) (fun d => ?_)
    · rw [eX10_cause_0, kO0, if_T]
      rcases (show v = 0 ∨ v = 1 ∨ v = 2 ∨ v = 3 by omega) with rfl | rfl | rfl | rfl
      · rw [if_pos (by decide), kR0_5, wc_bind, kI15_0, wc_bind]
      · rw [if_neg (by decide), if_pos (by decide), kR0_5, wc_bind, kI15_1, wc_bind]
      · rw [if_neg (by decide), if_neg (by decide), if_pos (by decide), kR0_5, wc_bind, kI15_2, wc_bind]
      · rw [if_neg (by decide), if_neg (by decide), if_neg (by decide), if_pos (by decide), kR0_5, wc_bind, kI15_3, wc_bind]
    · rw [eX11_cause_0, kO88, if_T, m_in3, cI_some, wc_bind, inR_T hv (by decide), if_neg bI_T, kR88_6, wc_bind, kA95 S hv, wc_bind, hR.2.2.2.2.2.1 v hv])
theorem fdv_lt : ∀ f, f < 4 → ∀ a, a < fsz f → ∀ b, b < fsz f → fin f b < fsz f ∧ fmu f a (fin f b) < fsz f := by decide +kernel
theorem pu_reckon : am_ag Inv jX10_reckon jX11_reckon 4 := ag_4 (fun S x1 x2 x3 x4 hR => by
  rcases inR_of (x := x1) (n := 4) (by decide) with h1 | ⟨f, hf, rfl⟩
  · refine ag_pure hR (r := -2) (fun d => ?_) (fun d => ?_)
    · rw [eX10_reckon_0, kO0, if_T, c_below, cI_some, wc_bind, show (4 : Int32) = nI 4 from rfl, h1, if_pos bI_F]
    · rw [eX11_reckon_0, kO88, if_T, m_isField, cI_some, wc_bind, h1, if_pos bI_F]
  · have hF := hR.1.1 f hf
    have hM := hR.1.2
    have hz := fsz_pos f
    have hf4 : inR (nI f) (nI 4) = true := inR_T hf (by decide)
    rcases inR_of (x := x2) (n := 4) (by decide) with h2 | ⟨w, hw, rfl⟩
    · refine ag_pure hR (r := -2) (fun d => ?_) (fun d => ?_)
      · rw [eX10_reckon_0, kO0, if_T, c_below, cI_some, wc_bind, show (4 : Int32) = nI 4 from rfl, hf4, if_neg bI_T, c_below, cI_some, wc_bind, h2, if_pos bI_F]
      · rw [eX11_reckon_0, kO88, if_T, m_isField, cI_some, wc_bind, hf4, if_neg bI_T, m_in3, cI_some, wc_bind, h2, if_pos bI_F]
    · have hw4 : inR (nI w) (nI 4) = true := inR_T hw (by decide)
      have hzm : nI (fsz f) - (1 : Int32) = nI (fsz f - 1) := by rw [show (1 : Int32) = nI 1 from rfl, pk_sub (by omega)]
      have hin : ∀ d (x : Int32), am_cal am_mt (d + 1) jX11_in [.int x, .int (0 : Int32), .int (nI (fsz f - 1))] (ws S) = some (some (.int (bI (inR x (nI (fsz f))))), ws S) := fun d x => by
        rw [m_in d x (n := fsz f - 1) (by omega), show fsz f - 1 + 1 = fsz f by omega]
      rcases inR_of (x := x3) (n := fsz f) (by omega) with h3 | ⟨a, ha, rfl⟩
      · refine ag_pure hR (r := -2) (fun d => ?_) (fun d => ?_)
        · rw [eX10_reckon_0, kO0, if_T, c_below, cI_some, wc_bind, show (4 : Int32) = nI 4 from rfl, hf4, if_neg bI_T, c_below, cI_some, wc_bind, hw4, if_neg bI_T, kR0_0, wc_bind, kQf S hf, wc_bind, hF.fI, wc_bind, c_below, cI_some, wc_bind, h3, if_pos bI_F]
        · rw [eX11_reckon_0, kO88, if_T, m_isField, cI_some, wc_bind, hf4, if_neg bI_T, m_in3, cI_some, wc_bind, hw4, if_neg bI_T, kR88_0, wc_bind, hM.sz hf, wc_bind, hzm, hin, cI_some, wc_bind, h3, if_pos bI_F]
      · have ha4 : inR (nI a) (nI (fsz f)) = true := inR_T ha (by omega)
        rcases inR_of (x := x4) (n := fsz f) (by omega) with h4 | ⟨b, hb, rfl⟩
        · refine ag_pure hR (r := -2) (fun d => ?_) (fun d => ?_)
          · rw [eX10_reckon_0, kO0, if_T, c_below, cI_some, wc_bind, show (4 : Int32) = nI 4 from rfl, hf4, if_neg bI_T, c_below, cI_some, wc_bind, hw4, if_neg bI_T, kR0_0, wc_bind, kQf S hf, wc_bind, hF.fI, wc_bind, c_below, cI_some, wc_bind, ha4, if_neg bI_T, hF.fI, wc_bind, c_below, cI_some, wc_bind, h4, if_pos bI_F]
          · rw [eX11_reckon_0, kO88, if_T, m_isField, cI_some, wc_bind, hf4, if_neg bI_T, m_in3, cI_some, wc_bind, hw4, if_neg bI_T, kR88_0, wc_bind, hM.sz hf, wc_bind, hzm, hin, cI_some, wc_bind, ha4, if_neg bI_T, kR88_0, wc_bind, hM.sz hf, wc_bind, hzm, hin, cI_some, wc_bind, h4, if_pos bI_F]
        · have hb4 : inR (nI b) (nI (fsz f)) = true := inR_T hb (by omega)
          refine ag_pure hR (r := if w = 0 then nI (fad f a b) else if w = 1 then nI (fsu f a b) else if w = 2 then nI (fmu f a b) else if b = 0 then -15 else nI (fmu f a (fin f b))) (fun d => ?_) (fun d => ?_)
          · rw [eX10_reckon_0, kO0, if_T, c_below, cI_some, wc_bind, show (4 : Int32) = nI 4 from rfl, hf4, if_neg bI_T, c_below, cI_some, wc_bind, hw4, if_neg bI_T, kR0_0, wc_bind, kQf S hf, wc_bind, hF.fI, wc_bind, c_below, cI_some, wc_bind, ha4, if_neg bI_T, hF.fI, wc_bind, c_below, cI_some, wc_bind, hb4, if_neg bI_T]
            rcases (show w = 0 ∨ w = 1 ∨ w = 2 ∨ w = 3 by omega) with rfl | rfl | rfl | rfl
            · rw [if_pos (by decide), if_pos rfl, c2_sum _ hF ha hb, cI_some, wc_bind]
            · rw [if_neg (by decide), if_pos (by decide), if_neg (by decide), if_pos rfl, c2_difference _ hF ha hb, cI_some, wc_bind]
            · rw [if_neg (by decide), if_neg (by decide), if_pos (by decide), if_neg (by decide), if_neg (by decide), if_pos rfl, c2_product _ hF ha hb, cI_some, wc_bind]
            · rw [if_neg (show ¬ nI 3 = 0 by decide), if_neg (show ¬ nI 3 = 1 by decide), if_neg (show ¬ nI 3 = 2 by decide), if_neg (show ¬ 3 = 0 by decide), if_neg (show ¬ 3 = 1 by decide), if_neg (show ¬ 3 = 2 by decide)]
              by_cases hb0 : b = 0
              · subst hb0; rw [if_pos nI_0, if_pos rfl]
              · rw [if_neg (nI_ne0 (by omega) (by omega)), if_neg hb0, c2_inverse _ hF hb, cI_some, wc_bind, c2_product _ hF ha (fdv_lt f hf a ha b hb).1, cI_some, wc_bind]
          · rw [eX11_reckon_0, kO88, if_T, m_isField, cI_some, wc_bind, hf4, if_neg bI_T, m_in3, cI_some, wc_bind, hw4, if_neg bI_T, kR88_0, wc_bind, hM.sz hf, wc_bind, hzm, hin, cI_some, wc_bind, ha4, if_neg bI_T, kR88_0, wc_bind, hM.sz hf, wc_bind, hzm, hin, cI_some, wc_bind, hb4, if_neg bI_T]
            dsimp only
            rw [eX11_reckon_65]
            rcases (show w = 0 ∨ w = 1 ∨ w = 2 ∨ w = 3 by omega) with rfl | rfl | rfl | rfl
            · rw [if_neg (by decide), if_pos (by decide), if_pos rfl, m_plus _ hM hf ha hb, cI_some, wc_bind]
            · rw [if_neg (by decide), if_neg (by decide), if_pos (by decide), if_neg (by decide), if_pos rfl, m_minus _ hM hf ha hb, cI_some, wc_bind]
            · rw [if_neg (by decide), if_neg (by decide), if_neg (by decide), if_pos (by decide), if_neg (by decide), if_neg (by decide), if_pos rfl, m_times _ hM hf ha hb, cI_some, wc_bind]
            · rw [if_pos (by decide), if_neg (show ¬ nI 3 = 0 by decide), if_neg (show ¬ nI 3 = 1 by decide), if_neg (show ¬ nI 3 = 2 by decide), if_neg (show ¬ 3 = 0 by decide), if_neg (show ¬ 3 = 1 by decide), if_neg (show ¬ 3 = 2 by decide)]
              by_cases hb0 : b = 0
              · subst hb0; rw [if_pos nI_0, if_pos rfl]
              · rw [if_neg (nI_ne0 (by omega) (by omega)), if_neg hb0, m_by _ hM hf ha hb (by omega), cI_some, wc_bind])
/-! same -/
def unl (n : Nat) (ρ σ : Nat → Nat) : Nat → Nat → Int32
  | 0, _ => -1
  | m + 1, s => if ρ s = σ s then unl n ρ σ m (s + 1) else nI s
theorem c8_leastUnlike (d : Nat) {S : am_S} {q q2 n n2 : Nat} {ρ σ : Nat → Nat} (h : VC S q n ρ) (h2 : VC S q2 n2 σ) (hn : n ≤ n2) : am_cal am_mt (d + 2) jX8_leastUnlike [.ref q, .ref q2] (ws S) = some (some (.int (unl n ρ σ (2 ^ n) 0)), ws S) := by
  have h7 := h.n7
  rw [eX8_leastUnlike_0, h.O, if_T]
  have key : ∀ m s, s + m = 2 ^ n → am_run false (am_cal am_mt (d + 1)) (am_lk tbX8_leastUnlike) 2 [some (.ref q), some (.ref q2), some (.int (nI s))] [] (ws S) = some (some (.int (unl n ρ σ m s)), ws S) := by
    intro m
    induction m with
    | zero =>
      intro s hm
      have : s = 2 ^ n := by omega
      subst this
      rw [eX8_leastUnlike_2, c8_all _ h, cI_some, wc_bind, if_pos (p2_end h7)]
      ((try dsimp only); try rfl)
    | succ m ih =>
      intro s hm
      have he : s < 2 ^ n := by omega
      have he2 : s < 2 ^ n2 := Nat.lt_of_lt_of_le he (p2_mono hn)
      have l1 := h.le he
      have l2 := h2.le he2
      rw [eX8_leastUnlike_2, c8_all _ h, cI_some, wc_bind, if_neg (p2_all he h7), c8_rankOf _ h he, cI_some, wc_bind, c8_rankOf _ h2 he2, cI_some, wc_bind, nI_1]
      unfold unl
      dsimp only
      rw [ih (s + 1) (by omega)]
      by_cases hc : ρ s = σ s
      · rw [if_pos hc, if_pos (congrArg nI hc)]
      · rw [if_neg hc, if_neg (fun c => hc ((nI_eq (by omega) (by omega)).mp c))]
  exact key (2 ^ n) 0 (by omega)
theorem unl_m1 {n : Nat} {ρ σ : Nat → Nat} : ∀ m s, s + m < 2 ^ 31 → (unl n ρ σ m s = -1 ↔ ∀ j, s ≤ j → j < s + m → ρ j = σ j) := by
  intro m
  induction m with
  | zero => intro s _; exact ⟨fun _ j h1 h2 => absurd h2 (by omega), fun _ => rfl⟩
  | succ m ih =>
    intro s hs
    unfold unl
    by_cases hc : ρ s = σ s
    · rw [if_pos hc, ih (s + 1) (by omega)]
      constructor
      · intro h j h1 h2
        by_cases hj : j = s
        · rw [hj]; exact hc
        · exact h j (by omega) (by omega)
      · intro h j h1 h2
        exact h j (by omega) (by omega)
    · rw [if_neg hc]
      constructor
      · intro h
        exact absurd (show nI s < 0 by rw [h]; decide) (nI_pos (by omega))
      · intro h
        exact absurd (h s (Nat.le_refl s) (by omega)) hc
theorem m_areSame (d : Nat) {S : am_S} {v w n n2 : Nat} {ρ σ : Nat → Nat} (h : VM S v n ρ) (h2 : VM S w n2 σ) : am_cal am_mt (d + 2) jX11_areSame [.ref 88, .int (nI v), .int (nI w)] (ws S) = some (some (.int (bI (decide (n = n2) && wc_al (2 ^ n) (fun s => decide (ρ s = σ s))))), ws S) := by
  have h7 := h.n7
  have h27 := h2.n7
  rw [eX11_areSame_0, kO88, if_T, kR88_2, wc_bind, h.aI, wc_bind, wc_bind, h2.aI, wc_bind]
  by_cases hn : n = n2
  · subst hn
    rw [if_pos rfl, decide_eq_true rfl, Bool.true_and]
    apply wp_pure
    have key : ∀ m s, s + m = 2 ^ n → (∀ j, j < s → decide (ρ j = σ j) = true) → wp (am_run true (am_cal am_mt (d + 1)) (am_lk tbX11_areSame) 24 [some (.ref 88), some (.int (nI v)), some (.int (nI w)), some (.int (bI true)), some (.int (nI s))] [] (ws S)) (fun v' S' => v' = some (.int (bI (wc_al (2 ^ n) (fun s => decide (ρ s = σ s))))) ∧ S' = S) := by
      intro m
      induction m with
      | zero =>
        intro s hm hI
        have : s = 2 ^ n := by omega
        subst this
        rw [eX11_areSame_24, m_all _ h, cI_some, wc_bind, if_pos (p2_end h7), if_pos (bI_01 _), (wc_al_iff _ _).mpr hI]
        dsimp only
        exact wp_ret ⟨rfl, rfl⟩
      | succ m ih =>
        intro s hm hI
        have he : s < 2 ^ n := by omega
        have l1 := h.le he
        have l2 := h2.le he
        rw [eX11_areSame_24, m_all _ h, cI_some, wc_bind, if_neg (p2_all he h7), if_neg bI_T, m_r _ h he, cI_some, wc_bind, m_r _ h2 he, cI_some, wc_bind, nI_1]
        by_cases hc : ρ s = σ s
        · rw [if_pos (congrArg nI hc)]
          dsimp only
          exact ih (s + 1) (by omega) (fun j hj => by
            by_cases hj2 : j = s
            · rw [hj2]; exact decide_eq_true hc
            · exact hI j (by omega))
        · rw [if_neg (fun c => hc ((nI_eq (by omega) (by omega)).mp c))]
          dsimp only
          rw [(wc_al_false _ _).mpr ⟨s, he, decide_eq_false hc⟩, eX11_areSame_24, m_all _ h, cI_some, wc_bind, if_pos (Or.inl rfl)]
          dsimp only
          rw [if_pos rfl, ite_self]
          exact wp_ret ⟨rfl, rfl⟩
    exact key (2 ^ n) 0 (by omega) (fun j hj => absurd hj (Nat.not_lt_zero j))
  · rw [if_neg (fun c => hn ((nI_eq (by omega) (by omega)).mp c)), decide_eq_false hn, Bool.false_and, eX11_areSame_24, m_all _ h, cI_some, wc_bind, if_pos (Or.inl rfl)]
    dsimp only
    rw [if_pos rfl, ite_self]
    ((try dsimp only); try rfl)
theorem pu_same : am_ag Inv jX10_same jX11_same 2 := ag_2 (fun S x1 x2 hR => by
  rcases inR_of (x := x1) (n := 4) (by decide) with h1 | ⟨v, hv, rfl⟩
  · refine ag_pure hR (r := -2) (fun d => ?_) (fun d => ?_)
    · rw [eX10_same_0, kO0, if_T, c_below, cI_some, wc_bind, show (4 : Int32) = nI 4 from rfl, h1, if_pos bI_F]
    · rw [eX11_same_0, kO88, if_T, m_isView, cI_some, wc_bind, h1, if_pos bI_F]
  · obtain ⟨n, ρ, hm, hC, hM⟩ := hR.2.1 v hv
    have hv4 : inR (nI v) (nI 4) = true := inR_T hv (by decide)
    rcases inR_of (x := x2) (n := 4) (by decide) with h1 | ⟨w, hw, rfl⟩
    · refine ag_pure hR (r := -2) (fun d => ?_) (fun d => ?_)
      · rw [eX10_same_0, kO0, if_T, c_below, cI_some, wc_bind, show (4 : Int32) = nI 4 from rfl, hv4, if_neg bI_T, c_below, cI_some, wc_bind, h1, if_pos bI_F]
      · rw [eX11_same_0, kO88, if_T, m_isView, cI_some, wc_bind, hv4, if_neg bI_T, m_isView, cI_some, wc_bind, h1, if_pos bI_F]
    · obtain ⟨n2, σ, hm2, hC2, hM2⟩ := hR.2.1 w hw
      have hw4 : inR (nI w) (nI 4) = true := inR_T hw (by decide)
      have h7 := hC.n7
      have h27 := hC2.n7
      refine ag_pure hR (r := bI (decide (n = n2) && wc_al (2 ^ n) (fun s => decide (ρ s = σ s)))) (fun d => ?_) (fun d => ?_)
      · rw [eX10_same_0, kO0, if_T, c_below, cI_some, wc_bind, show (4 : Int32) = nI 4 from rfl, hv4, if_neg bI_T, c_below, cI_some, wc_bind, hw4, if_neg bI_T, kR0_1, wc_bind, kQv S hv, wc_bind, hC.fI, wc_bind, wc_bind, kQv S hw, wc_bind, hC2.fI, wc_bind]
        by_cases hn : n = n2
        · subst hn
          rw [if_pos rfl, wc_bind, kQv S hv, wc_bind, wc_bind, kQv S hw, wc_bind, c8_leastUnlike _ hC hC2 (Nat.le_refl n), cI_some, wc_bind, bI_if, decide_eq_true (show n = n from rfl), Bool.true_and]
          have := unl_m1 (n := n) (ρ := ρ) (σ := σ) (2 ^ n) 0 (by have := p2_le h7; omega)
          have e : decide (unl n ρ σ (2 ^ n) 0 = -1) = wc_al (2 ^ n) (fun s => decide (ρ s = σ s)) := by
            rw [Bool.eq_iff_iff, decide_eq_true_iff, this, wc_al_iff]
            exact ⟨fun h j hj => decide_eq_true (h j (Nat.zero_le j) (by omega)), fun h j _ hj => of_decide_eq_true (h j (by omega))⟩
          dsimp only
          rw [e]
        · rw [if_neg (fun c => hn ((nI_eq (by omega) (by omega)).mp c)), decide_eq_false hn, Bool.false_and]
          ((try dsimp only); try rfl)
      · rw [eX11_same_0, kO88, if_T, m_isView, cI_some, wc_bind, hv4, if_neg bI_T, m_isView, cI_some, wc_bind, hw4, if_neg bI_T, m_areSame _ hM hM2, cI_some, wc_bind]
        cases decide (n = n2) && wc_al (2 ^ n) (fun s => decide (ρ s = σ s)) with
        | true => rw [if_neg bI_T]; ((try dsimp only); try rfl)
        | false => rw [if_pos bI_F]; ((try dsimp only); try rfl))
