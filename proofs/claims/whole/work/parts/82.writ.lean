/-! ===== the reference counts writings ===== -/
/-- what the search of the reference leaves -/
def FQ (S S' : am_S) : Prop := (∀ c, c ≠ 88 → c ≠ 93 → c ≠ 94 → c ≠ 97 → c ≠ 99 → c ≠ 100 → c ≠ 101 → S' c = S c) ∧ ∀ i, i ≠ 13 → i ≠ 14 → S' 88 i = S 88 i
theorem FQ.tr {S S' S'' : am_S} (h : FQ S S') (h' : FQ S' S'') : FQ S S'' := ⟨fun c a1 a2 a3 a4 a5 a6 a7 => (h'.1 c a1 a2 a3 a4 a5 a6 a7).trans (h.1 c a1 a2 a3 a4 a5 a6 a7), fun i a b => (h'.2 i a b).trans (h.2 i a b)⟩
theorem FQ_pt {S S' : am_S} (h : FPt S S') : FQ S S' := ⟨fun c a1 a2 _ a4 a5 a6 _ => h.1 c a1 a2 a4 a5 a6, h.2⟩
theorem FQ_c {S S' : am_S} {a : Nat} (h : ∀ c, c ≠ a → S' c = S c) (ha : a = 93 ∨ a = 94 ∨ a = 101) : FQ S S' := ⟨fun c a1 a2 a3 a4 a5 a6 a7 => h c (by omega), fun i _ _ => by rw [h 88 (by omega)]⟩
theorem VM_FQ {S S' : am_S} {v n : Nat} {ρ : Nat → Nat} (h : VM S v n ρ) (hf : FQ S S') : VM S' v n ρ :=
  ⟨h.1, h.2.1, by rw [hf.1 91 (by decide) (by decide) (by decide) (by decide) (by decide) (by decide) (by decide)]; exact h.2.2.1, fun s hs => by rw [hf.1 92 (by decide) (by decide) (by decide) (by decide) (by decide) (by decide) (by decide)]; exact h.2.2.2 s hs⟩
theorem MC_FQ {S S' : am_S} (h : MC S) (hf : FQ S S') : MC S' :=
  ⟨fun x hx => by rw [hf.1 89 (by decide) (by decide) (by decide) (by decide) (by decide) (by decide) (by decide)]; exact h.1 x hx, fun x hx => by rw [hf.1 90 (by decide) (by decide) (by decide) (by decide) (by decide) (by decide) (by decide)]; exact h.2 x hx⟩
/-- what stands while it counts -/
def CS (S : am_S) (n : Nat) (ρ : Nat → Nat) (B : Nat) : Prop := S 88 13 = nI (pc B) ∧ S 88 14 = nI (fx n ρ B 49) ∧ ∀ c, c < 49 → frp n ρ B c = true → S 100 (fx n ρ B c) = nI c
theorem CS_c {S S' : am_S} {n B a : Nat} {ρ : Nat → Nat} (h : CS S n ρ B) (hc : ∀ c, c ≠ a → S' c = S c) (ha : a = 93 ∨ a = 94 ∨ a = 101) : CS S' n ρ B := by
  unfold CS at h ⊢
  rw [hc 88 (by omega), hc 100 (by omega)]
  exact h
theorem wr_copy (F : am_F) {v f E x4 x5 : Int32} : ∀ u k S, k + u = 49 → ∃ S', am_run false F (am_lk tbX11_writingsOf) 39 [some (.ref 88), some (.int v), some (.int f), some (.int E), some (.int x4), some (.int x5), some (.int (nI k))] [] (ws S) = am_run false F (am_lk tbX11_writingsOf) 39 [some (.ref 88), some (.int v), some (.int f), some (.int E), some (.int x4), some (.int x5), some (.int (nI 49))] [] (ws S') ∧ (∀ c, c ≠ 101 → S' c = S c) ∧ ∀ x, x < 49 → S' 101 x = if k ≤ x then S 93 x else S 101 x := by
  intro u
  induction u with
  | zero =>
    intro k S hk
    have : k = 49 := by omega
    subst this
    exact ⟨S, rfl, fun _ _ => rfl, fun x hx => by rw [if_neg (by omega)]⟩
  | succ u ih =>
    intro k S hk
    obtain ⟨S', a1, a2, a3⟩ := ih (k + 1) (up S 101 k (S 93 k)) (by omega)
    refine ⟨S', ?_, fun c hc => by rw [a2 c hc, up_ne c hc], fun x hx => ?_⟩
    · rw [eX11_writingsOf_39, if_neg (show ¬ (49 : Int32) ≤ nI k from nI_ge (b := 49) (by omega) (by decide)), kR88_12, wc_bind, kR88_4, wc_bind, kA93 S (by omega), wc_bind, kW101 S (by omega), wc_bind, nI_1]
      exact a1
    · rw [a3 x hx, up_ne 93 (by decide), up_upd]
      unfold upd
      by_cases h1 : k + 1 ≤ x
      · rw [if_pos h1, if_pos (by omega)]
      · rw [if_neg h1]
        by_cases h2 : x = k
        · rw [if_pos h2, if_pos (by omega), h2]
        · rw [if_neg h2, if_neg (by omega)]
theorem pat_ent (f n : Nat) (ρ : Nat → Nat) (B x : Nat) : pat1 n ρ B x = ent f n ρ B 0 x := by
  unfold pat1 ent
  cases (decide (x / 7 < n) && pt n ρ B (x / 7) (x % 7)) with
  | false => rfl
  | true =>
    rw [if_pos rfl, if_pos rfl]
    cases B.testBit (x / 7) with
    | true => rfl
    | false =>
      rw [if_neg Bool.false_ne_true]
      unfold num
      split
      · rfl
      · rw [Nat.zero_div, Nat.zero_mod]
theorem m_writingsOf (d : Nat) {S : am_S} {v n f E : Nat} {ρ : Nat → Nat} (hm : mat n ρ) (h : VM S v n ρ) (hv : v < 14) (hf : f < 4) (hMC : MC S) (hE : E < 2 ^ 31) : ∃ S', am_cal am_mt (d + 6) jX11_writingsOf [.ref 88, .int (nI v), .int (nI f), .int (nI E)] (ws S) = some (some (.int (nI (wrt f n ρ E).1)), ws S') ∧ FQ S S' ∧ (0 < (wrt f n ρ E).1 → ∀ x, x < 7 * n → S' 101 x = nI (ent f n ρ (lb n ρ) (wrt f n ρ E).2 x)) := by
  have hn := h.n7
  have hz := fsz_pos f
  obtain ⟨hb, hB, _⟩ := lb_ok hm hn
  obtain ⟨S1, a1, a2, a3, a4, a5, a6⟩ := m_pattern d hm h
  unfold wrt
  obtain ⟨B, hBd⟩ : ∃ B, B = lb n ρ := ⟨_, rfl⟩
  rw [← hBd] at hb hB a3 a4 a5 a6 ⊢
  have hT := fx_10 ρ hn hB
  obtain ⟨N, hN⟩ : ∃ N, N = (fsz f - 1) ^ fx n ρ B 49 := ⟨_, rfl⟩
  have hN0 : Mc f n ρ B 0 = N := by rw [hN]; rfl
  have hNb := fil_20 f hf (fx n ρ B 49) (by omega)
  rw [← hN] at hNb
  rw [hN0]
  have hCK0 : CK S1 f n ρ B 0 := fun x hx => by rw [a6 x hx, pat_ent f]
  rw [eX11_writingsOf_0, kO88, if_T, a1, cV_some, wc_bind]
  have key : ∀ r k (st : Nat × Nat) S2 x6, k + r = N → k < N → st.1 ≤ k → FQ S S2 → CS S2 n ρ B → CK S2 f n ρ B k → (0 < st.1 → ∀ x, x < 7 * n → S2 101 x = nI (ent f n ρ B st.2 x)) → ∃ S', am_run false (am_cal am_mt (d + 5)) (am_lk tbX11_writingsOf) 11 [some (.ref 88), some (.int (nI v)), some (.int (nI f)), some (.int (nI E)), some (.int (nI st.1)), some (.int (1 : Int32)), x6] [] (ws S2) = some (some (.int (nI (wc_lp (stp f n ρ B E) r k st).1)), ws S') ∧ FQ S S' ∧ (0 < (wc_lp (stp f n ρ B E) r k st).1 → ∀ x, x < 7 * n → S' 101 x = nI (ent f n ρ B (wc_lp (stp f n ρ B E) r k st).2 x)) := by
    intro r
    induction r with
    | zero => intro k st S2 x6 h1 h2; omega
    | succ r ih =>
      intro k st S2 x6 hkr hkN hst f2 hC hK hF
      have hV2 := VM_FQ h f2
      have hM2 := MC_FQ hMC f2
      rw [eX11_writingsOf_11, if_neg (show ¬ (1 : Int32) = 0 by decide)]
      by_cases hfull : E ≤ st.1
      · have hrest : wc_lp (stp f n ρ B E) (r + 1) k st = st := lp_id _ _ _ _ (fun x _ _ => stp_full hfull)
        rw [if_pos (nI_le hfull (by omega)), hrest]
        exact ⟨S2, rfl, f2, hF⟩
      · obtain ⟨S3, b1, b2⟩ := m_isWriting (d + 1) (B := B) (k := k) hf hM2 hV2 hv hC.1 hK
        have f3 : FQ S S3 := f2.tr (FQ_c b2 (by omega))
        have hC3 : CS S3 n ρ B := CS_c hC b2 (by omega)
        have hK3 : CK S3 f n ρ B k := fun x hx => by rw [b2 93 (by decide)]; exact hK x hx
        have hF3 : 0 < st.1 → ∀ x, x < 7 * n → S3 101 x = nI (ent f n ρ B st.2 x) := fun hx y hy => by rw [b2 101 (by decide)]; exact hF hx y hy
        -- how it goes on with a new count
        have hgo : ∀ (st' : Nat × Nat) S4 y6, st' = stp f n ρ B E k st → FQ S S4 → CS S4 n ρ B → CK S4 f n ρ B k → (0 < st'.1 → ∀ x, x < 7 * n → S4 101 x = nI (ent f n ρ B st'.2 x)) → ∃ S', ((am_cI (am_cal am_mt (d + 5) jX11_goesOn [.ref 88, .int (nI f)] (ws S4))).bind fun q2 => am_run false (am_cal am_mt (d + 5)) (am_lk tbX11_writingsOf) 11 [some (.ref 88), some (.int (nI v)), some (.int (nI f)), some (.int (nI E)), some (.int (nI st'.1)), some (.int q2.1), y6] [] q2.2) = some (some (.int (nI (wc_lp (stp f n ρ B E) (r + 1) k st).1)), ws S') ∧ FQ S S' ∧ (0 < (wc_lp (stp f n ρ B E) (r + 1) k st).1 → ∀ x, x < 7 * n → S' 101 x = nI (ent f n ρ B (wc_lp (stp f n ρ B E) (r + 1) k st).2 x)) := by
          intro st' S4 y6 hs' f4 hC4 hK4 hF4
          have hM4 := MC_FQ hMC f4
          obtain ⟨S5, c1, c2, c3⟩ := m_goesOn (d + 4) (S := S4) (n := n) (B := B) (k := k) (ρ := ρ) hf hn hB hM4 hC4.2.1 hC4.2.2 hK4 (by rw [← hN]; exact hkN)
          rw [← hN] at c1 c3
          have c2' : ∀ c, c ≠ 93 → S5 c = S4 c := fun c hc => c2 c (by omega)
          have f5 : FQ S S5 := f4.tr (FQ_c c2' (by omega))
          have hF5 : 0 < st'.1 → ∀ x, x < 7 * n → S5 101 x = nI (ent f n ρ B st'.2 x) := fun hx y hy => by rw [c2' 101 (by decide)]; exact hF4 hx y hy
          have hlp : wc_lp (stp f n ρ B E) (r + 1) k st = wc_lp (stp f n ρ B E) r (k + 1) st' := by rw [hs']; rfl
          have hle := (stp_le f n B E k ρ st).1
          rw [← hs'] at hle
          rw [c1, cI_some, wc_bind, hlp]
          dsimp only
          by_cases hk1 : k + 1 < N
          · rw [decide_eq_true hk1]
            exact ih (k + 1) st' S5 y6 (by omega) hk1 (by omega) f5 (CS_c hC4 c2' (by omega)) (c3 hk1) hF5
          · have hr0 : r = 0 := by omega
            subst hr0
            rw [decide_eq_false hk1, eX11_writingsOf_11, if_pos bI_F]
            exact ⟨S5, rfl, f5, hF5⟩
        rw [if_neg (nI_ge (by omega) (by omega)), b1, cI_some, wc_bind]
        dsimp only
        cases hacc : acc f n ρ B k with
        | false =>
          rw [if_pos bI_F]
          exact hgo st S3 x6 (stp_no hacc).symm f3 hC3 hK3 hF3
        | true =>
          have hst' : stp f n ρ B E k st = (st.1 + 1, if st.1 = 0 then k else st.2) := by
            unfold stp
            rw [decide_eq_true (show st.1 < E by omega), hacc, Bool.true_and, if_pos rfl]
          rw [if_neg bI_T]
          by_cases h0 : st.1 = 0
          · rw [if_pos (by rw [h0]; rfl), show (.int (0 : Int32) : Value) = .int (nI 0) from rfl]
            obtain ⟨S4, g1, g2, g3⟩ := wr_copy (am_cal am_mt (d + 5)) (v := nI v) (f := nI f) (E := nI E) (x4 := nI st.1) (x5 := (1 : Int32)) 49 0 S3 rfl
            rw [g1, eX11_writingsOf_39, if_pos (by decide), nI_1]
            refine hgo (st.1 + 1, k) S4 _ (by rw [hst', if_pos h0]) (f3.tr (FQ_c g2 (by omega))) (CS_c hC3 g2 (by omega)) (fun x hx => by rw [g2 93 (by decide)]; exact hK3 x hx) (fun _ x hx => ?_)
            rw [g3 x (by omega), if_pos (Nat.zero_le x)]
            exact hK3 x hx
          · rw [if_neg (nI_ne0 (by omega) (by omega)), nI_1]
            exact hgo (st.1 + 1, st.2) S3 _ (by rw [hst', if_neg h0]) f3 hC3 hK3 (fun _ => hF3 (by omega))
  exact key N 0 (0, 0) S1 none (by omega) (by omega) (Nat.le_refl 0) (FQ_pt a2) ⟨a3, a4, a5⟩ hCK0 (fun hx => absurd hx (Nat.lt_irrefl 0))
/-- more than enough doesn't matter -/
theorem wrt_E {f n E E' : Nat} {ρ : Nat → Nat} (hm : mat n ρ) (hn : n ≤ 7) (hf : f < 4) (h1 : 2 ^ 20 ≤ E) (h2 : 2 ^ 20 ≤ E') : wrt f n ρ E = wrt f n ρ E' := by
  obtain ⟨hb, hB, _⟩ := lb_ok hm hn
  have hNb := fil_20 f hf (fx n ρ (lb n ρ) 49) (by have := fx_10 ρ hn hB; omega)
  have hN0 : Mc f n ρ (lb n ρ) 0 = (fsz f - 1) ^ fx n ρ (lb n ρ) 49 := rfl
  unfold wrt
  rw [hN0]
  exact lp_E f n (lb n ρ) E E' ρ _ 0 (0, 0) (by show 0 + _ ≤ E; omega) (by show 0 + _ ≤ E'; omega)
