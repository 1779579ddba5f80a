/-! ===== alike ===== -/
def agr (ρ σ : Nat → Nat) (e : Nat) (f : Nat → Nat) : Bool := wc_al (2 ^ e) (fun i => decide (ρ (2 ^ e + i) = σ (nst (e + 1) f (2 ^ e + i))))
def updN (f : Nat → Nat) (e c : Nat) : Nat → Nat := fun x => if x = e then c else f x
def cm (n : Nat) (ρ σ : Nat → Nat) : Nat → Nat → (Nat → Nat) → Nat → Bool
  | 0, _, _, _ => true
  | k + 1, e, f, u => !wc_al n (fun c => !(!u.testBit c && (agr ρ σ e (updN f e c) && cm n ρ σ k (e + 1) (updN f e c) (u ||| 2 ^ c))))
theorem nst_lt2 {m n : Nat} {f : Nat → Nat} (hf : ∀ x, x < m → f x < n) (s : Nat) : nst m f s < 2 ^ n := lt_of_bits (fun i hi => by
  cases h : (nst m f s).testBit i with
  | false => rfl
  | true =>
    obtain ⟨e, h1, _, h3⟩ := (t_orF _ _ _ _).mp h
    have := hf e h1
    omega)
theorem wc_2shl {e : Nat} (he : e < 7) : (2 : Int32) <<< (nI e &&& (31 : Int32)) = nI (2 * 2 ^ e) := wc_shl (a := 2) (by omega) (by have := p2_mono (show e ≤ 7 by omega); omega)
theorem c6_agrees (D : Nat) (hD : 3 ≤ D) {S : am_S} {p p2 n e : Nat} {ρ σ : Nat → Nat} {f : Nat → Nat} (h : VC S p n ρ) (h2 : VC S p2 n σ) (he : e < n) (hw : ∀ x, x < e + 1 → S 49 x = nI (2 ^ f x)) (hf : ∀ x, x < e + 1 → f x < n) : am_cal am_mt D jX6_agrees [.ref 48, .ref p, .ref p2, .int (nI e)] (ws S) = some (some (.int (bI (agr ρ σ e f))), ws S) := by
  have hn := h.n7
  have h27 := p2_le hn
  have hp2 : 2 ^ (e + 1) ≤ 2 ^ n := p2_mono (by omega)
  have hpe : 2 ^ (e + 1) = 2 * 2 ^ e := by rw [Nat.pow_succ, Nat.mul_comm]
  obtain ⟨D', rfl⟩ : ∃ D', D = D' + 3 := ⟨D - 3, by omega⟩
  rw [eX6_agrees_0, kO48, if_T, wc_1shl (by omega)]
  apply wp_pure
  refine loop_wp (fun i (_ : Unit) => am_run true (am_cal am_mt (D' + 2)) (am_lk tbX6_agrees) 5 [some (.ref 48), some (.ref p), some (.ref p2), some (.int (nI e)), some (.int (nI (2 ^ e + i)))] [] (ws S)) (fun i _ => ∀ j, j < i → decide (ρ (2 ^ e + j) = σ (nst (e + 1) f (2 ^ e + j))) = true) _ (2 ^ e) ?_ ?_ 0 () (Nat.zero_le _) (fun j hj => absurd hj (Nat.not_lt_zero j))
  · intro i _ hi hI K
    show wp (am_run _ _ _ _ _ _ _) _
    have hs : 2 ^ e + i < 2 ^ n := by omega
    have hs1 : 2 ^ e + i < 2 ^ (e + 1) := by omega
    have hx := nst_lt2 hf (2 ^ e + i)
    have l1 := h.le hs
    have l2 := h2.le hx
    rw [eX6_agrees_5, wc_2shl (by omega), if_neg (nI_ge (by omega) (by omega)), c8_rankOf _ h hs, cI_some, wc_bind]
    dsimp only
    rw [c6_newSet _ (show e + 1 ≤ 7 by omega) hw hs1, cI_some, wc_bind]
    dsimp only
    rw [c8_rankOf _ h2 hx, cI_some, wc_bind, nI_1]
    dsimp only
    by_cases hc : ρ (2 ^ e + i) = σ (nst (e + 1) f (2 ^ e + i))
    · rw [if_pos (congrArg nI hc)]
      exact K () (fun j hj => by
        by_cases hji : j = i
        · rw [hji]; exact decide_eq_true hc
        · exact hI j (by omega))
    · rw [if_neg (fun c => hc ((nI_eq (by omega) (by omega)).mp c))]
      have hag : agr ρ σ e f = false := (wc_al_false _ _).mpr ⟨i, hi, decide_eq_false hc⟩
      rw [hag]
      exact wp_ret ⟨rfl, rfl⟩
  · intro _ hI
    show wp (am_run _ _ _ _ _ _ _) _
    have hag : agr ρ σ e f = true := (wc_al_iff _ _).mpr hI
    rw [eX6_agrees_5, wc_2shl (by omega), if_pos (nI_le (by omega) (by omega)), hag]
    exact wp_ret ⟨rfl, rfl⟩
theorem updN_lt {f : Nat → Nat} {e c n : Nat} (hf : ∀ x, x < e → f x < n) (hc : c < n) : ∀ x, x < e + 1 → updN f e c x < n := by
  intro x hx
  unfold updN
  by_cases hxe : x = e
  · rw [if_pos hxe]; exact hc
  · rw [if_neg hxe]; exact hf x (by omega)
theorem c6_match {p p2 n : Nat} {ρ σ : Nat → Nat} (hp : p + 1 < 49 ∨ 49 < p) (hp2 : p2 + 1 < 49 ∨ 49 < p2) : ∀ (k e : Nat) (f : Nat → Nat) (u D : Nat) (S : am_S), e + k = n → k + 5 ≤ D → VC S p n ρ → VC S p2 n σ → u < 2 ^ n → (∀ x, x < e → S 49 x = nI (2 ^ f x)) → (∀ x, x < e → f x < n) → ∃ S', am_cal am_mt D jX6_canMatch [.ref 48, .ref p, .ref p2, .int (nI e), .int (nI u)] (ws S) = some (some (.int (bI (cm n ρ σ k e f u))), ws S') ∧ Cr 49 49 S S' ∧ ∀ x, x < e → S' 49 x = S 49 x := by
  intro k
  induction k with
  | zero =>
    intro e f u D S he hD h h2 hu hw hf
    have : e = n := by omega
    subst this
    obtain ⟨D', rfl⟩ : ∃ D', D = D' + 1 := ⟨D - 1, by omega⟩
    have := h.n7
    rw [eX6_canMatch_0, h.fI, wc_bind, if_pos (nI_le (Nat.le_refl _) (by omega))]
    exact ⟨S, rfl, Cr.rf, fun _ _ => rfl⟩
  | succ k ih =>
    intro e f u D S he hD h h2 hu hw hf
    have hn := h.n7
    have hen : e < n := by omega
    have hu7 := p2_128 hn hu
    obtain ⟨D', rfl⟩ : ∃ D', D = D' + 1 := ⟨D - 1, by omega⟩
    rw [eX6_canMatch_0, h.fI, wc_bind, if_neg (nI_ge hen (by omega)), if_pos (show nI e < (7 : Int32) from nI_lt (b := 7) (by omega) (by decide)), show (0 : Int32) = nI 0 from rfl]
    have key : wp (am_run true (am_cal am_mt D') (am_lk tbX6_canMatch) 19 [some (.ref 48), some (.ref p), some (.ref p2), some (.int (nI e)), some (.int (nI u)), some (.int (nI 0))] [] (ws S)) (fun v S' => v = some (.int (bI (cm n ρ σ (k + 1) e f u))) ∧ Cr 49 49 S S' ∧ ∀ x, x < e → S' 49 x = S 49 x) := by
      refine loop_wp (fun c (S1 : am_S) => am_run true (am_cal am_mt D') (am_lk tbX6_canMatch) 19 [some (.ref 48), some (.ref p), some (.ref p2), some (.int (nI e)), some (.int (nI u)), some (.int (nI c))] [] (ws S1)) (fun c S1 => Cr 49 49 S S1 ∧ (∀ x, x < e → S1 49 x = S 49 x) ∧ ∀ j, j < c → (!(!u.testBit j && (agr ρ σ e (updN f e j) && cm n ρ σ k (e + 1) (updN f e j) (u ||| 2 ^ j)))) = true) _ n ?_ ?_ 0 S (Nat.zero_le _) ⟨Cr.rf, fun _ _ => rfl, fun j hj => absurd hj (Nat.not_lt_zero j)⟩
      · intro c S1 hc ⟨i1, i2, i3⟩ K
        show wp (am_run _ _ _ _ _ _ _) _
        have h2' : VC S1 p2 n σ := VC_Cr h2 i1 (by omega)
        have K2 : ∀ S2, Cr 49 49 S S2 → (∀ x, x < e → S2 49 x = S 49 x) → (!(!u.testBit c && (agr ρ σ e (updN f e c) && cm n ρ σ k (e + 1) (updN f e c) (u ||| 2 ^ c)))) = true → wp (am_run true (am_cal am_mt D') (am_lk tbX6_canMatch) 19 [some (.ref 48), some (.ref p), some (.ref p2), some (.int (nI e)), some (.int (nI u)), some (.int (nI (c + 1)))] [] (ws S2)) _ := fun S2 q1 q2 q3 => K S2 ⟨q1, q2, fun j hj => by
          by_cases hjc : j = c
          · rw [hjc]; exact q3
          · exact i3 j (by omega)⟩
        rw [eX6_canMatch_19, h2'.fI, wc_bind, if_neg (nI_ge hc (by omega)), wc_bit (by omega) (by omega), nI_1]
        cases hb : u.testBit c with
        | true => rw [if_neg bI_T]; exact K2 S1 i1 i2 (by rw [hb]; rfl)
        | false =>
          rw [if_pos bI_F, kR48_0, wc_bind, wc_1shl (by omega), kW49 S1 (by omega), wc_bind, nI_1, wc_or]
          have j1 : Cr 49 49 S (up S1 49 e (nI (2 ^ c))) := Cr_up i1 (by decide) (by decide)
          have hw' : ∀ x, x < e + 1 → up S1 49 e (nI (2 ^ c)) 49 x = nI (2 ^ updN f e c x) := by
            intro x hx
            rw [up_upd]
            unfold upd updN
            by_cases hxe : x = e
            · rw [if_pos hxe, if_pos hxe]
            · rw [if_neg hxe, if_neg hxe, i2 x (by omega)]; exact hw x (by omega)
          have j2 : ∀ x, x < e → up S1 49 e (nI (2 ^ c)) 49 x = S 49 x := by
            intro x hx
            rw [up_upd]; unfold upd; rw [if_neg (by omega)]; exact i2 x hx
          have hf' := updN_lt hf hc
          rw [c6_agrees D' (by omega) (VC_Cr h j1 (by omega)) (VC_Cr h2 j1 (by omega)) hen hw' hf', cI_some, wc_bind]
          dsimp only
          cases ha : agr ρ σ e (updN f e c) with
          | false => rw [if_pos bI_F]; exact K2 _ j1 j2 (by rw [ha, Bool.false_and, Bool.and_false]; rfl)
          | true =>
            rw [if_neg bI_T]
            obtain ⟨S2, r1, r2, r3⟩ := ih (e + 1) (updN f e c) (u ||| 2 ^ c) D' (up S1 49 e (nI (2 ^ c))) (by omega) (by omega) (VC_Cr h j1 (by omega)) (VC_Cr h2 j1 (by omega)) (p2_or hu hc) hw' hf'
            rw [r1, cI_some, wc_bind]
            dsimp only
            have s1 := j1.tr r2
            have s2 : ∀ x, x < e → S2 49 x = S 49 x := fun x hx => (r3 x (by omega)).trans (j2 x hx)
            cases hcm : cm n ρ σ k (e + 1) (updN f e c) (u ||| 2 ^ c) with
            | false => rw [if_pos bI_F]; exact K2 S2 s1 s2 (by rw [hcm, Bool.and_false, Bool.and_false]; rfl)
            | true =>
              rw [if_neg bI_T]
              have : cm n ρ σ (k + 1) e f u = true := by
                unfold cm
                rw [Bool.not_eq_true', wc_al_false]
                exact ⟨c, hc, by rw [hb, ha, hcm]; rfl⟩
              rw [this]
              exact wp_ret ⟨rfl, s1, s2⟩
      · intro S1 ⟨i1, i2, i3⟩
        show wp (am_run _ _ _ _ _ _ _) _
        have h2' : VC S1 p2 n σ := VC_Cr h2 i1 (by omega)
        have : cm n ρ σ (k + 1) e f u = false := by
          unfold cm
          rw [Bool.not_eq_false', wc_al_iff]
          exact i3
        rw [eX6_canMatch_19, h2'.fI, wc_bind, if_pos (nI_le (Nat.le_refl _) (by omega)), this]
        exact wp_ret ⟨rfl, i1, i2⟩
    obtain ⟨v, S', g1, rfl, g2⟩ := key
    exact ⟨S', g1, g2⟩
