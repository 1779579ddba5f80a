/-! ===== sorts, many, at, reckon, cause, seed, same ===== -/
theorem srt_bits (n : Nat) (ρ : Nat → Nat) (s : Nat) : ∀ e, e < 5 → ∀ a, nI a ||| ((1 : Int32) <<< ((nI (e + 1) - (1 : Int32)) &&& (31 : Int32))) = nI (a ||| 2 ^ e) := by
  intro e he a
  rw [nI_pred, wc_1shl (by omega), wc_or]
def sts (n : Nat) (ρ : Nat → Nat) (s : Nat) : Nat := wc_fd 5 (fun e a => if srt n ρ (e + 1) s then a ||| 2 ^ e else a) 0
theorem pu_sorts : am_ag Inv jX10_sorts jX11_sorts 2 := ag_2 (fun S x1 x2 hR => by
  rcases inR_of (x := x1) (n := 4) (by decide) with h1 | ⟨v, hv, rfl⟩
  · refine ag_pure hR (r := -2) (fun d => ?_) (fun d => ?_)
    · rw [eX10_sorts_0, kO0, if_T, c10_isSetF _ h1, cI_some, wc_bind, if_pos bI_F]
    · rw [eX11_sorts_0, kO88, if_T, m_isSetF _ h1, cI_some, wc_bind, if_pos bI_F]
  · obtain ⟨n, ρ, hm, hC, hM⟩ := hR.2.1 v hv
    rcases setB_of hC.n7 x2 with h2 | ⟨s, hs, rfl, h2⟩
    · refine ag_pure hR (r := -2) (fun d => ?_) (fun d => ?_)
      · rw [eX10_sorts_0, kO0, if_T, c10_isSetOf _ hv hC, cI_some, wc_bind, h2, if_pos bI_F]
      · rw [eX11_sorts_0, kO88, if_T, m_isSet _ hv hM, cI_some, wc_bind, h2, if_pos bI_F]
    · refine ag_pure hR (r := nI (sts n ρ s)) (fun d => ?_) (fun d => ?_)
      · rw [eX10_sorts_0, kO0, if_T, c10_isSetOf _ hv hC, cI_some, wc_bind, h2, if_neg bI_T]
        dsimp only
        refine loop_fd (fun e (a : Nat) => am_run false (am_cal am_mt (d + 19)) (am_lk tbX10_sorts) 17 [some (.ref 0), some (.int (nI v)), some (.int (nI s)), some (.int (nI a)), some (.int (nI (e + 1)))] [] (ws S)) (fun e a => if srt n ρ (e + 1) s then a ||| 2 ^ e else a) 5 0 ?_ ?_
        · intro e a he
          show am_run _ _ _ _ _ _ _ = am_run _ _ _ _ _ _ _
          rw [eX10_sorts_17, show (5 : Int32) = nI 5 from rfl, if_neg (nI_nlt (by omega) (by omega)), kR0_1, wc_bind, kQv S hv, wc_bind, c8_isOfSort _ hC hs (by omega) (by omega), cI_some, wc_bind, srt_bits n ρ s e he, nI_1]
          cases srt n ρ (e + 1) s with
          | true => rw [if_neg bI_T, if_pos rfl]
          | false => rw [if_pos bI_F, if_neg (by decide)]
        · show am_run _ _ _ _ _ _ _ = _
          rw [eX10_sorts_17, if_pos (by decide)]
          ((try dsimp only); try rfl)
      · rw [eX11_sorts_0, kO88, if_T, m_isSet _ hv hM, cI_some, wc_bind, h2, if_neg bI_T]
        dsimp only
        refine loop_fd (fun e (a : Nat) => am_run false (am_cal am_mt (d + 19)) (am_lk tbX11_sorts) 17 [some (.ref 88), some (.int (nI v)), some (.int (nI s)), some (.int (nI a)), some (.int (nI (e + 1)))] [] (ws S)) (fun e a => if srt n ρ (e + 1) s then a ||| 2 ^ e else a) 5 0 ?_ ?_
        · intro e a he
          show am_run _ _ _ _ _ _ _ = am_run _ _ _ _ _ _ _
          rw [eX11_sorts_17, show (6 : Int32) = nI 6 from rfl, if_neg (nI_ge (by omega) (by omega)), m_isOf _ hM hs (by omega) (by omega), cI_some, wc_bind, srt_bits n ρ s e he, nI_1]
          cases srt n ρ (e + 1) s with
          | true => rw [if_neg bI_T, if_pos rfl]
          | false => rw [if_pos bI_F, if_neg (by decide), show nI a ||| 0 = nI a from by rw [← nI_0, wc_or, Nat.or_zero]]
        · show am_run _ _ _ _ _ _ _ = _
          rw [eX11_sorts_17, if_pos (by decide)]
          ((try dsimp only); try rfl))
theorem pu_many : am_ag Inv jX10_many jX11_many 2 := ag_2 (fun S x1 x2 hR => by
  rcases inR_of (x := x1) (n := 4) (by decide) with h1 | ⟨v, hv, rfl⟩
  · refine ag_pure hR (r := -2) (fun d => ?_) (fun d => ?_)
    · rw [eX10_many_0, kO0, if_T, c_below, cI_some, wc_bind, show (4 : Int32) = nI 4 from rfl, h1, if_pos bI_F]
    · rw [eX11_many_0, kO88, if_T, m_isView, cI_some, wc_bind, h1, if_pos bI_F]
  · obtain ⟨n, ρ, hm, hC, hM⟩ := hR.2.1 v hv
    have hv4 : inR (nI v) (nI 4) = true := inR_T hv (by decide)
    rcases inR_of (x := x2) (n := 6) (by decide) with h2 | ⟨w, hw, rfl⟩
    · refine ag_pure hR (r := -2) (fun d => ?_) (fun d => ?_)
      · rw [eX10_many_0, kO0, if_T, c_below, cI_some, wc_bind, show (4 : Int32) = nI 4 from rfl, hv4, if_neg bI_T, c_below, cI_some, wc_bind, show (6 : Int32) = nI 6 from rfl, h2, if_pos bI_F]
      · rw [eX11_many_0, kO88, if_T, m_isView, cI_some, wc_bind, hv4, if_neg bI_T, m_in5, cI_some, wc_bind, h2, if_pos bI_F]
    · have hw6 : inR (nI w) (nI 6) = true := inR_T hw (by decide)
      by_cases h0 : w = 0
      · subst h0
        refine ag_pure hR (r := nI n) (fun d => ?_) (fun d => ?_)
        · rw [eX10_many_0, kO0, if_T, c_below, cI_some, wc_bind, show (4 : Int32) = nI 4 from rfl, hv4, if_neg bI_T, c_below, cI_some, wc_bind, show (6 : Int32) = nI 6 from rfl, hw6, if_neg bI_T, if_pos nI_0, kR0_1, wc_bind, kQv S hv, wc_bind, hC.fI, wc_bind]
        · rw [eX11_many_0, kO88, if_T, m_isView, cI_some, wc_bind, hv4, if_neg bI_T, m_in5, cI_some, wc_bind, hw6, if_neg bI_T, if_pos nI_0, kR88_2, wc_bind, hM.aI, wc_bind]
      · refine ag_pure hR (r := nI (cnt n (srt n ρ w))) (fun d => ?_) (fun d => ?_)
        · rw [eX10_many_0, kO0, if_T, c_below, cI_some, wc_bind, show (4 : Int32) = nI 4 from rfl, hv4, if_neg bI_T, c_below, cI_some, wc_bind, show (6 : Int32) = nI 6 from rfl, hw6, if_neg bI_T, if_neg (nI_ne0 (by omega) (by omega)), kR0_1, wc_bind, kQv S hv, wc_bind, c8_countOf _ hC (by omega) (by omega), cI_some, wc_bind]
        · rw [eX11_many_0, kO88, if_T, m_isView, cI_some, wc_bind, hv4, if_neg bI_T, m_in5, cI_some, wc_bind, hw6, if_neg bI_T, if_neg (nI_ne0 (by omega) (by omega)), m_countOf _ hM (by omega) (by omega), cI_some, wc_bind])
theorem fndR_neg {P : Nat → Bool} {k : Int32} (hk : k < 0) : ∀ m s b, b + m < 2 ^ 31 → fndR P k m s b = -1 := by
  intro m
  induction m with
  | zero => intro s b _; rfl
  | succ m ih =>
    intro s b hb
    unfold fndR
    rw [ih (s + 1) (b + 1) (by omega), ih (s + 1) b (by omega), if_neg (fun c : nI b = k => nI_pos (show b < 2 ^ 31 by omega) (by rw [c]; exact hk))]
    split <;> rfl
theorem m_at (d : Nat) {S : am_S} {v n : Nat} {ρ : Nat → Nat} (h : VM S v n ρ) (hv : v < 4) {w : Nat} (h1 : 1 ≤ w) (h5 : w ≤ 5) (k : Int32) (hw : inR (nI v) (nI 4) = true) : am_run false (am_cal am_mt (d + 3)) (am_lk tbX11_at) 25 [some (.ref 88), some (.int (nI v)), some (.int (nI w)), some (.int k), some (.int (0 : Int32)), some (.int (0 : Int32))] [] (ws S) = some (some (.int (fndR (srt n ρ w) k (2 ^ n) 0 0)), ws S) := by
  have h7 := h.n7
  have key : ∀ m s b, s + m = 2 ^ n → am_run false (am_cal am_mt (d + 3)) (am_lk tbX11_at) 25 [some (.ref 88), some (.int (nI v)), some (.int (nI w)), some (.int k), some (.int (nI b)), some (.int (nI s))] [] (ws S) = some (some (.int (fndR (srt n ρ w) k m s b)), ws S) := by
    intro m
    induction m with
    | zero =>
      intro s b hm
      have : s = 2 ^ n := by omega
      subst this
      rw [eX11_at_25, m_all _ h, cI_some, wc_bind, if_pos (p2_end h7)]
      ((try dsimp only); try rfl)
    | succ m ih =>
      intro s b hm
      have he : s < 2 ^ n := by omega
      rw [eX11_at_25, m_all _ h, cI_some, wc_bind, if_neg (p2_all he h7), m_isOf _ h he h1 h5, cI_some, wc_bind, nI_1, nI_1]
      unfold fndR
      dsimp only
      rw [ih (s + 1) b (by omega), ih (s + 1) (b + 1) (by omega)]
      cases srt n ρ w s with
      | false => rw [if_pos bI_F, if_neg (by decide)]
      | true =>
        rw [if_neg bI_T, if_pos rfl]
        by_cases hk : nI b = k
        · rw [if_pos hk, if_pos hk]
        · rw [if_neg hk, if_neg hk]
  exact key (2 ^ n) 0 0 (by omega)
theorem in15 (x : Int32) : (∃ w, 1 ≤ w ∧ w ≤ 5 ∧ x = nI w ∧ ¬ x < 1 ∧ x ≤ 5) ∨ (x < 1 ∨ (¬ x < 1 ∧ ¬ x ≤ 5)) := by
  by_cases h1 : x < 1
  · exact Or.inr (Or.inl h1)
  · by_cases h5 : x ≤ 5
    · have h0 : ¬ x < 0 := fun c => h1 (by rw [Int32.lt_iff_toInt_lt] at c ⊢; have : (0 : Int32).toInt = 0 := rfl; have : (1 : Int32).toInt = 1 := rfl; omega)
      obtain ⟨w, hw, hx⟩ := nI_of2 (n := 5) (M := 5) rfl h0 h5
      refine Or.inl ⟨w, ?_, hw, hx, h1, h5⟩
      rcases Nat.eq_zero_or_pos w with h | h
      · subst h; subst hx; exact absurd (by decide) h1
      · exact h
    · exact Or.inr (Or.inr ⟨h1, h5⟩)
theorem m_in15 (d : Nat) (x : Int32) (g : am_W) : am_cal am_mt (d + 1) jX11_in [.int x, .int (1 : Int32), .int (5 : Int32)] g = some (some (.int (bI (decide (¬ x < 1 ∧ x ≤ 5)))), g) := by
  rw [eX11_in_0]
  by_cases h1 : x < 1
  · rw [if_pos h1, decide_eq_false (fun c => c.1 h1)]; ((try dsimp only); try rfl)
  · rw [if_neg h1]
    by_cases h2 : x ≤ 5
    · rw [if_neg (fun c => absurd h2 (by rw [Int32.lt_iff_toInt_lt] at c; rw [Int32.le_iff_toInt_le]; omega)), decide_eq_true ⟨h1, h2⟩]; ((try dsimp only); try rfl)
    · rw [if_pos (by rw [Int32.le_iff_toInt_le] at h2; rw [Int32.lt_iff_toInt_lt]; omega), decide_eq_false (fun c => h2 c.2)]; ((try dsimp only); try rfl)
theorem pu_at : am_ag Inv jX10_at jX11_at 3 := ag_3 (fun S x1 x2 x3 hR => by
  rcases inR_of (x := x1) (n := 4) (by decide) with h1 | ⟨v, hv, rfl⟩
  · refine ag_pure hR (r := -2) (fun d => ?_) (fun d => ?_)
    · rw [eX10_at_0, kO0, if_T, c_below, cI_some, wc_bind, show (4 : Int32) = nI 4 from rfl, h1, if_pos bI_F]
    · rw [eX11_at_0, kO88, if_T, m_isView, cI_some, wc_bind, h1, if_pos bI_F]
  · obtain ⟨n, ρ, hm, hC, hM⟩ := hR.2.1 v hv
    have hv4 : inR (nI v) (nI 4) = true := inR_T hv (by decide)
    rcases in15 x2 with ⟨w, w1, w5, hx, l1, l5⟩ | h2
    · have hge : ((0 : Int32) ≤ x3) ↔ ¬ x3 < 0 := by rw [Int32.lt_iff_toInt_lt, Int32.le_iff_toInt_le]; omega
      refine ag_pure hR (r := fndR (srt n ρ w) x3 (2 ^ n) 0 0) (fun d => ?_) (fun d => ?_)
      · rw [eX10_at_0, kO0, if_T, c_below, cI_some, wc_bind, show (4 : Int32) = nI 4 from rfl, hv4, if_neg bI_T, if_neg l1, if_pos l5, hx]
        by_cases h3 : x3 < 0
        · rw [if_neg (fun c => hge.mp c h3), fndR_neg h3 _ _ _ (by have := p2_le hC.n7; omega)]
        · rw [if_pos (hge.mpr h3), kR0_1, wc_bind, kQv S hv, wc_bind, c8_findNumber _ hC w1 w5, cI_some, wc_bind]
      · rw [eX11_at_0, kO88, if_T, m_isView, cI_some, wc_bind, hv4, if_neg bI_T, m_in15, cI_some, wc_bind, decide_eq_true ⟨l1, l5⟩, if_neg bI_T, hx]
        dsimp only
        exact m_at _ hM hv w1 w5 x3 hv4
    · refine ag_pure hR (r := -2) (fun d => ?_) (fun d => ?_)
      · rw [eX10_at_0, kO0, if_T, c_below, cI_some, wc_bind, show (4 : Int32) = nI 4 from rfl, hv4, if_neg bI_T]
        rcases h2 with h2 | ⟨h2, h3⟩
        · rw [if_pos h2]
        · rw [if_neg h2, if_neg h3]
      · rw [eX11_at_0, kO88, if_T, m_isView, cI_some, wc_bind, hv4, if_neg bI_T, m_in15, cI_some, wc_bind, decide_eq_false (show ¬ (¬ x2 < 1 ∧ x2 ≤ 5) from fun c => h2.elim c.1 (fun q => q.2 c.2)), if_pos bI_F])
