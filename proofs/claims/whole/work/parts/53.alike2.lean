/-! ===== alike in the reference; the call ===== -/
theorem m_agrees (D : Nat) (hD : 3 ≤ D) {S : am_S} {v w n e c u : Nat} {ρ σ : Nat → Nat} {f : Nat → Nat} (h : VM S v n ρ) (h2 : VM S w n σ) (he : e < n) (hw : ∀ x, x < e + 1 → S 96 x = nI (f x)) (hf : ∀ x, x < e + 1 → f x < n) : ∀ m i x8 x9, i + m = 2 ^ e → (∀ j, j < i → decide (ρ (2 ^ e + j) = σ (nst (e + 1) f (2 ^ e + j))) = true) → ∃ (y7 : Int32) (y8 y9 : Option Value), am_run true (am_cal am_mt D) (am_lk tbX11_fits) 55 [some (.ref 88), some (.int (nI v)), some (.int (nI w)), some (.int (nI e)), some (.int (nI u)), some (.int (nI c)), some (.int (1 : Int32)), some (.int (nI (2 ^ e + i))), x8, x9] [] (ws S) = am_run true (am_cal am_mt D) (am_lk tbX11_fits) 144 [some (.ref 88), some (.int (nI v)), some (.int (nI w)), some (.int (nI e)), some (.int (nI u)), some (.int (nI c)), some (.int (bI (agr ρ σ e f))), some (.int y7), y8, y9] [] (ws S) := by
  have hn := h.n7
  have h27 := p2_le hn
  have hp2 : 2 ^ (e + 1) ≤ 2 ^ n := p2_mono (by omega)
  have hpe : 2 ^ (e + 1) = 2 * 2 ^ e := by rw [Nat.pow_succ, Nat.mul_comm]
  obtain ⟨D', rfl⟩ : ∃ D', D = D' + 3 := ⟨D - 3, by omega⟩
  intro m
  induction m with
  | zero =>
    intro i x8 x9 hi hI
    have : i = 2 ^ e := by omega
    subst this
    have hag : agr ρ σ e f = true := (wc_al_iff _ _).mpr hI
    refine ⟨nI (2 ^ e + 2 ^ e), x8, x9, ?_⟩
    rw [eX11_fits_55, wc_2shl (by omega), if_pos (nI_le (by omega) (by omega)), hag]
    rfl
  | succ m ih =>
    intro i x8 x9 hi hI
    have hs : 2 ^ e + i < 2 ^ n := by omega
    have hs1 : 2 ^ e + i < 2 ^ (e + 1) := by omega
    have hx := nst_lt2 hf (2 ^ e + i)
    have l1 := h.le hs
    have l2 := h2.le hx
    have inner : am_run true (am_cal am_mt (D' + 3)) (am_lk tbX11_fits) 74 [some (.ref 88), some (.int (nI v)), some (.int (nI w)), some (.int (nI e)), some (.int (nI u)), some (.int (nI c)), some (.int (1 : Int32)), some (.int (nI (2 ^ e + i))), some (.int (nI 0)), some (.int (nI 0))] [] (ws S) = am_run true (am_cal am_mt (D' + 3)) (am_lk tbX11_fits) 74 [some (.ref 88), some (.int (nI v)), some (.int (nI w)), some (.int (nI e)), some (.int (nI u)), some (.int (nI c)), some (.int (1 : Int32)), some (.int (nI (2 ^ e + i))), some (.int (nI (nst (e + 1) f (2 ^ e + i)))), some (.int (nI (e + 1)))] [] (ws S) := by
      refine loop_fd (fun x (a : Nat) => am_run true (am_cal am_mt (D' + 3)) (am_lk tbX11_fits) 74 [some (.ref 88), some (.int (nI v)), some (.int (nI w)), some (.int (nI e)), some (.int (nI u)), some (.int (nI c)), some (.int (1 : Int32)), some (.int (nI (2 ^ e + i))), some (.int (nI a)), some (.int (nI x))] [] (ws S)) (fun x a => if (2 ^ e + i).testBit x then a ||| 2 ^ f x else a) (e + 1) 0 ?_ ?_
      · intro x a hxe
        show am_run _ _ _ _ _ _ _ = am_run _ _ _ _ _ _ _
        have hfx := hf x hxe
        rw [eX11_fits_74, if_neg (nI_nlt (by omega) (by omega)), m_has _ (by omega) (by omega), cI_some, wc_bind, kR88_7, wc_bind]
        dsimp only
        rw [kA96 S (show x < 7 by omega), wc_bind, hw x hxe, wc_1shl (by omega), wc_or, nI_1, show nI a ||| 0 = nI a from by rw [← nI_0, wc_or, Nat.or_zero]]
        cases (2 ^ e + i).testBit x with
        | true => rw [if_neg bI_T, if_pos rfl]
        | false => rw [if_pos bI_F, if_neg Bool.false_ne_true]
      · rfl
    have e0 : am_run true (am_cal am_mt (D' + 3)) (am_lk tbX11_fits) 55 [some (.ref 88), some (.int (nI v)), some (.int (nI w)), some (.int (nI e)), some (.int (nI u)), some (.int (nI c)), some (.int (1 : Int32)), some (.int (nI (2 ^ e + i))), x8, x9] [] (ws S) = if nI (ρ (2 ^ e + i)) = nI (σ (nst (e + 1) f (2 ^ e + i))) then am_run true (am_cal am_mt (D' + 3)) (am_lk tbX11_fits) 55 [some (.ref 88), some (.int (nI v)), some (.int (nI w)), some (.int (nI e)), some (.int (nI u)), some (.int (nI c)), some (.int (1 : Int32)), some (.int (nI (2 ^ e + (i + 1)))), some (.int (nI (nst (e + 1) f (2 ^ e + i)))), some (.int (nI (e + 1)))] [] (ws S) else am_run true (am_cal am_mt (D' + 3)) (am_lk tbX11_fits) 55 [some (.ref 88), some (.int (nI v)), some (.int (nI w)), some (.int (nI e)), some (.int (nI u)), some (.int (nI c)), some (.int (0 : Int32)), some (.int (nI (2 ^ e + (i + 1)))), some (.int (nI (nst (e + 1) f (2 ^ e + i)))), some (.int (nI (e + 1)))] [] (ws S) := by
      rw [eX11_fits_55, wc_2shl (by omega), if_neg (nI_ge (by omega) (by omega)), if_neg z10]
      refine (show _ = am_run true (am_cal am_mt (D' + 3)) (am_lk tbX11_fits) 74 [some (.ref 88), some (.int (nI v)), some (.int (nI w)), some (.int (nI e)), some (.int (nI u)), some (.int (nI c)), some (.int (1 : Int32)), some (.int (nI (2 ^ e + i))), some (.int (nI 0)), some (.int (nI 0))] [] (ws S) from rfl).trans ?_
      rw [inner, eX11_fits_74, if_pos (nI_lt (by omega) (by omega)), m_r _ h hs, cI_some, wc_bind]
      dsimp only
      rw [m_r _ h2 hx, cI_some, wc_bind, nI_1]
      dsimp only
      rw [Nat.add_assoc]
    rw [e0]
    by_cases hc : ρ (2 ^ e + i) = σ (nst (e + 1) f (2 ^ e + i))
    · rw [if_pos (congrArg nI hc)]
      exact ih (i + 1) _ _ (by omega) (fun j hj => by
        by_cases hji : j = i
        · rw [hji]; exact decide_eq_true hc
        · exact hI j (by omega))
    · rw [if_neg (fun c => hc ((nI_eq (by omega) (by omega)).mp c))]
      have hag : agr ρ σ e f = false := (wc_al_false _ _).mpr ⟨i, by omega, decide_eq_false hc⟩
      refine ⟨nI (2 ^ e + (i + 1)), some (.int (nI (nst (e + 1) f (2 ^ e + i)))), some (.int (nI (e + 1))), ?_⟩
      rw [eX11_fits_55, if_pos z00, ite_self, hag]
      rfl
theorem m_fits {v w n : Nat} {ρ σ : Nat → Nat} : ∀ (k e : Nat) (f : Nat → Nat) (u D : Nat) (S : am_S), e + k = n → k + 5 ≤ D → VM S v n ρ → VM S w n σ → u < 2 ^ n → (∀ x, x < e → S 96 x = nI (f x)) → (∀ x, x < e → f x < n) → ∃ S', am_cal am_mt D jX11_fits [.ref 88, .int (nI v), .int (nI w), .int (nI e), .int (nI u)] (ws S) = some (some (.int (bI (cm n ρ σ k e f u))), ws S') ∧ Cr 96 96 S S' ∧ ∀ x, x < e → S' 96 x = S 96 x := by
  intro k
  induction k with
  | zero =>
    intro e f u D S he hD h h2 hu hw hf
    have : e = n := by omega
    subst this
    obtain ⟨D', rfl⟩ : ∃ D', D = D' + 1 := ⟨D - 1, by omega⟩
    rw [eX11_fits_0, kO88, if_T, kR88_2, wc_bind, h.aI, wc_bind, if_pos rfl]
    exact ⟨S, rfl, Cr.rf, fun _ _ => rfl⟩
  | succ k ih =>
    intro e f u D S he hD h h2 hu hw hf
    have hn := h.n7
    have hen : e < n := by omega
    have hu7 := p2_128 hn hu
    obtain ⟨D', rfl⟩ : ∃ D', D = D' + 1 := ⟨D - 1, by omega⟩
    rw [eX11_fits_0, kO88, if_T, kR88_2, wc_bind, h.aI, wc_bind, if_neg (fun c => absurd ((nI_eq (by omega) (by omega)).mp c) (by omega)), show (0 : Int32) = nI 0 from rfl]
    have key : wp (am_run true (am_cal am_mt D') (am_lk tbX11_fits) 15 [some (.ref 88), some (.int (nI v)), some (.int (nI w)), some (.int (nI e)), some (.int (nI u)), some (.int (nI 0)), none, none, none, none] [] (ws S)) (fun o S' => o = some (.int (bI (cm n ρ σ (k + 1) e f u))) ∧ Cr 96 96 S S' ∧ ∀ x, x < e → S' 96 x = S 96 x) := by
      refine loop_wp (fun c (z : am_S × Option Value × Option Value × Option Value × Option Value) => am_run true (am_cal am_mt D') (am_lk tbX11_fits) 15 [some (.ref 88), some (.int (nI v)), some (.int (nI w)), some (.int (nI e)), some (.int (nI u)), some (.int (nI c)), z.2.1, z.2.2.1, z.2.2.2.1, z.2.2.2.2] [] (ws z.1)) (fun c z => Cr 96 96 S z.1 ∧ (∀ x, x < e → z.1 96 x = S 96 x) ∧ ∀ j, j < c → (!(!u.testBit j && (agr ρ σ e (updN f e j) && cm n ρ σ k (e + 1) (updN f e j) (u ||| 2 ^ j)))) = true) _ n ?_ ?_ 0 (S, none, none, none, none) (Nat.zero_le _) ⟨Cr.rf, fun _ _ => rfl, fun j hj => absurd hj (Nat.not_lt_zero j)⟩
      · intro c ⟨S1, z6, z7, z8, z9⟩ hc ⟨i1, i2, i3⟩ K
        show wp (am_run _ _ _ _ _ _ _) _
        have i1 : Cr 96 96 S S1 := i1
        have i2 : ∀ x, x < e → S1 96 x = S 96 x := i2
        have h' : VM S1 v n ρ := VM_Cr h i1 (by omega)
        have K2 : ∀ S2 y6 y7 y8 y9, Cr 96 96 S S2 → (∀ x, x < e → S2 96 x = S 96 x) → (!(!u.testBit c && (agr ρ σ e (updN f e c) && cm n ρ σ k (e + 1) (updN f e c) (u ||| 2 ^ c)))) = true → wp (am_run true (am_cal am_mt D') (am_lk tbX11_fits) 15 [some (.ref 88), some (.int (nI v)), some (.int (nI w)), some (.int (nI e)), some (.int (nI u)), some (.int (nI (c + 1))), y6, y7, y8, y9] [] (ws S2)) _ := fun S2 y6 y7 y8 y9 q1 q2 q3 => K (S2, y6, y7, y8, y9) ⟨q1, q2, fun j hj => by
          by_cases hjc : j = c
          · rw [hjc]; exact q3
          · exact i3 j (by omega)⟩
        obtain ⟨D1, hD1⟩ : ∃ D1, D' = D1 + 1 := ⟨D' - 1, by omega⟩
        dsimp only
        rw [eX11_fits_15, kR88_2, wc_bind, h'.aI, wc_bind, if_neg (nI_ge hc (by omega))]
        rw [show am_cal am_mt D' jX11_has [.int (nI u), .int (nI c)] (ws S1) = some (some (.int (bI (u.testBit c))), ws S1) from by rw [hD1]; exact m_has _ (by omega) (by omega) _, cI_some, wc_bind, nI_1]
        dsimp only
        cases hb : u.testBit c with
        | true => rw [if_neg bI_T]; exact K2 S1 z6 z7 z8 z9 i1 i2 (by rw [hb]; rfl)
        | false =>
          rw [if_pos bI_F, kR88_7, wc_bind, kW96 S1 (show e < 7 by omega), wc_bind, wc_1shl (by omega)]
          have j1 : Cr 96 96 S (up S1 96 e (nI c)) := Cr_up i1 (by decide) (by decide)
          have hw' : ∀ x, x < e + 1 → up S1 96 e (nI c) 96 x = nI (updN f e c x) := by
            intro x hx
            rw [up_upd]
            unfold upd updN
            by_cases hxe : x = e
            · rw [if_pos hxe, if_pos hxe]
            · rw [if_neg hxe, if_neg hxe, i2 x (by omega)]; exact hw x (by omega)
          have j2 : ∀ x, x < e → up S1 96 e (nI c) 96 x = S 96 x := by
            intro x hx
            rw [up_upd]; unfold upd; rw [if_neg (by omega)]; exact i2 x hx
          have hf' := updN_lt hf hc
          have hv' := VM_Cr h j1 (by omega)
          have hv2' := VM_Cr h2 j1 (by omega)
          obtain ⟨y7, y8, y9, g⟩ := m_agrees D' (by omega) (c := c) (u := u) hv' hv2' hen hw' hf' (2 ^ e) 0 z8 z9 (by omega) (fun j hj => absurd hj (Nat.not_lt_zero j))
          rw [Nat.add_zero] at g
          rw [g, eX11_fits_144, nI_1, nI_1, wc_1shl (by omega), wc_or]
          cases ha : agr ρ σ e (updN f e c) with
          | false => rw [if_pos bI_F]; exact K2 _ _ _ _ _ j1 j2 (by rw [ha, Bool.false_and, Bool.and_false]; rfl)
          | true =>
            rw [if_neg bI_T]
            obtain ⟨S2, r1, r2, r3⟩ := ih (e + 1) (updN f e c) (u ||| 2 ^ c) D' (up S1 96 e (nI c)) (by omega) (by omega) hv' hv2' (p2_or hu hc) hw' hf'
            rw [r1, cI_some, wc_bind]
            dsimp only
            have s1 := j1.tr r2
            have s2 : ∀ x, x < e → S2 96 x = S 96 x := fun x hx => (r3 x (by omega)).trans (j2 x hx)
            cases hcm : cm n ρ σ k (e + 1) (updN f e c) (u ||| 2 ^ c) with
            | false => rw [if_pos bI_F]; exact K2 S2 _ _ _ _ s1 s2 (by rw [hcm, Bool.and_false, Bool.and_false]; rfl)
            | true =>
              rw [if_neg bI_T]
              have : cm n ρ σ (k + 1) e f u = true := by
                unfold cm
                rw [Bool.not_eq_true', wc_al_false]
                exact ⟨c, hc, by rw [hb, ha, hcm]; rfl⟩
              rw [this]
              exact wp_ret ⟨rfl, s1, s2⟩
      · intro ⟨S1, z6, z7, z8, z9⟩ ⟨i1, i2, i3⟩
        show wp (am_run _ _ _ _ _ _ _) _
        have i1 : Cr 96 96 S S1 := i1
        have h' : VM S1 v n ρ := VM_Cr h i1 (by omega)
        have : cm n ρ σ (k + 1) e f u = false := by
          unfold cm
          rw [Bool.not_eq_false', wc_al_iff]
          exact i3
        dsimp only
        rw [eX11_fits_15, kR88_2, wc_bind, h'.aI, wc_bind, if_pos (nI_le (Nat.le_refl _) (by omega)), this]
        exact wp_ret ⟨rfl, i1, i2⟩
    obtain ⟨o, S', g1, rfl, g2⟩ := key
    exact ⟨S', g1, g2⟩
theorem le6 {n : Nat} (hn : n ≤ 7) : (nI n ≤ (6 : Int32)) ↔ n ≤ 6 := nI_leI (b := 6) (by omega) (by decide)
theorem pu_alike : am_ag Inv jX10_alike jX11_alike 2 := ah_2 (fun d S x1 x2 hR => by
  rcases inR_of (x := x1) (n := 4) (by decide) with h1 | ⟨v, hv, rfl⟩
  · refine ag3_p hR (-2) ?_ ?_
    · rw [eX10_alike_0, kO0, if_T, c_below, cI_some, wc_bind, show (inR x1 (4 : Int32)) = false from h1, if_pos bI_F]
    · rw [eX11_alike_0, kO88, if_T, m_isView, cI_some, wc_bind, h1, if_pos bI_F]
  have hv4 : inR (nI v) (nI 4) = true := inR_T hv (by decide)
  rcases inR_of (x := x2) (n := 4) (by decide) with h1 | ⟨w, hw, rfl⟩
  · refine ag3_p hR (-2) ?_ ?_
    · rw [eX10_alike_0, kO0, if_T, c_below, cI_some, wc_bind, show (inR (nI v) (4 : Int32)) = true from hv4, if_neg bI_T, c_below, cI_some, wc_bind, show (inR x2 (4 : Int32)) = false from h1, if_pos bI_F]
    · rw [eX11_alike_0, kO88, if_T, m_isView, cI_some, wc_bind, hv4, if_neg bI_T, m_isView, cI_some, wc_bind, h1, if_pos bI_F]
  have hw4 : inR (nI w) (nI 4) = true := inR_T hw (by decide)
  obtain ⟨n, ρ, hm, hC, hM⟩ := hR.2.1 v hv
  obtain ⟨n2, σ, hm2, hC2, hM2⟩ := hR.2.1 w hw
  have hn := hC.n7
  have hn2 := hC2.n7
  have hcl : am_cal am_mt (d + 20) jX10_alike [.ref 0, .int (nI v), .int (nI w)] (ws S) = if nI n ≤ (6 : Int32) then am_run false (am_cal am_mt (d + 19)) (am_lk tbX10_alike) 52 [some (.ref 0), some (.int (nI v)), some (.int (nI w)), some (.int (nI n))] [] (ws S) else if nI n2 ≤ (6 : Int32) then am_run false (am_cal am_mt (d + 19)) (am_lk tbX10_alike) 52 [some (.ref 0), some (.int (nI v)), some (.int (nI w)), some (.int (nI n))] [] (ws S) else some (some (.int (-5 : Int32)), ws S) := by
    rw [eX10_alike_0, kO0, if_T, c_below, cI_some, wc_bind, show (inR (nI v) (4 : Int32)) = true from hv4, if_neg bI_T, c_below, cI_some, wc_bind, show (inR (nI w) (4 : Int32)) = true from hw4, if_neg bI_T, kR0_1, wc_bind, kQv S hv, wc_bind, hC.fI, wc_bind, wc_bind, kQv S hw, wc_bind, hC2.fI, wc_bind]
  have hml : ∀ S', VM S' v n ρ → VM S' w n2 σ → am_cal am_mt (d + 20) jX11_alike [.ref 88, .int (nI v), .int (nI w)] (ws S') = if nI n ≤ (6 : Int32) then am_run false (am_cal am_mt (d + 19)) (am_lk tbX11_alike) 42 [some (.ref 88), some (.int (nI v)), some (.int (nI w))] [] (ws S') else if nI n2 ≤ (6 : Int32) then am_run false (am_cal am_mt (d + 19)) (am_lk tbX11_alike) 42 [some (.ref 88), some (.int (nI v)), some (.int (nI w))] [] (ws S') else some (some (.int (-5 : Int32)), ws S') := by
    intro S' hM' hM2'
    rw [eX11_alike_0, kO88, if_T, m_isView, cI_some, wc_bind, hv4, if_neg bI_T, m_isView, cI_some, wc_bind, hw4, if_neg bI_T, kR88_2, wc_bind, hM'.aI, wc_bind, wc_bind, hM2'.aI, wc_bind]
  by_cases hmu : ¬ n ≤ 6 ∧ ¬ n2 ≤ 6
  · refine ag3_p hR (-5) ?_ ?_
    · rw [hcl, if_neg (fun c => hmu.1 ((le6 hn).mp c)), if_neg (fun c => hmu.2 ((le6 hn2).mp c))]
    · rw [hml S hM hM2, if_neg (fun c => hmu.1 ((le6 hn).mp c)), if_neg (fun c => hmu.2 ((le6 hn2).mp c))]
  · have hgo : ∀ (A : Option am_R) (B : Option am_R), (if nI n ≤ (6 : Int32) then A else if nI n2 ≤ (6 : Int32) then A else B) = A := by
      intro A B
      by_cases c1 : n ≤ 6
      · rw [if_pos ((le6 hn).mpr c1)]
      · rw [if_neg (fun c => c1 ((le6 hn).mp c)), if_pos ((le6 hn2).mpr (Classical.byContradiction (fun c => hmu ⟨c1, c⟩)))]
    by_cases hnn : n = n2
    · subst hnn
      obtain ⟨S1, a1, a2, a3⟩ := c6_match (p := 60 + 2 * v) (p2 := 60 + 2 * w) (n := n) (ρ := ρ) (σ := σ) (by omega) (by omega) n 0 (fun _ => 0) 0 (d + 19) S (by omega) (by omega) hC hC2 (Nat.two_pow_pos n) (fun x hx => absurd hx (Nat.not_lt_zero x)) (fun x hx => absurd hx (Nat.not_lt_zero x))
      have hM' := VM_Cr hM a2 (by omega)
      have hM2' := VM_Cr hM2 a2 (by omega)
      obtain ⟨S2, b1, b2, b3⟩ := m_fits (v := v) (w := w) (n := n) (ρ := ρ) (σ := σ) n 0 (fun _ => 0) 0 (d + 19) S1 (by omega) (by omega) hM' hM2' (Nat.two_pow_pos n) (fun x hx => absurd hx (Nat.not_lt_zero x)) (fun x hx => absurd hx (Nat.not_lt_zero x))
      have f1 : Fk Kt S S1 := Fk_Cr a2 (fun c i p q => by rw [comp_sc (by omega)]; rfl)
      have f2 : Fk Kt S1 S2 := Fk_Cr b2 (fun c i p q => by rw [comp_sc (by omega)]; rfl)
      refine ⟨bI (cm n ρ σ n 0 (fun _ => 0) 0), S1, S2, ?_, ?_, R_t hR (f1.tr f2)⟩
      · rw [hcl, hgo, eX10_alike_52, kR0_1, wc_bind, kQv S hw, wc_bind, hC2.fI, wc_bind, if_pos rfl, kR0_9, wc_bind, wc_bind, kQv S hv, wc_bind, wc_bind, kQv S hw, wc_bind, show (.int (0 : Int32) : Value) = .int (nI 0) from rfl, a1, cI_some, wc_bind]
        dsimp only
        cases cm n ρ σ n 0 (fun _ => 0) 0 with
        | true => rw [if_neg bI_T]; rfl
        | false => rw [if_pos bI_F]; rfl
      · rw [hml S1 hM' hM2', hgo, eX11_alike_42, kR88_2, wc_bind, hM'.aI, wc_bind, wc_bind, hM2'.aI, wc_bind, if_pos rfl, show (.int (0 : Int32) : Value) = .int (nI 0) from rfl, b1, cI_some, wc_bind]
        dsimp only
        cases cm n ρ σ n 0 (fun _ => 0) 0 with
        | true => rw [if_neg bI_T]; rfl
        | false => rw [if_pos bI_F]; rfl
    · have hne : ¬ nI n = nI n2 := fun c => hnn ((nI_eq (by omega) (by omega)).mp c)
      refine ag3_p hR 0 ?_ ?_
      · rw [hcl, hgo, eX10_alike_52, kR0_1, wc_bind, kQv S hw, wc_bind, hC2.fI, wc_bind, if_neg hne]
      · rw [hml S hM hM2, hgo, eX11_alike_42, kR88_2, wc_bind, hM.aI, wc_bind, wc_bind, hM2.aI, wc_bind, if_neg hne])
