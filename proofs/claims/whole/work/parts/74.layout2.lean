/-! ===== the class lays out a view ===== -/
def pat1 (n : Nat) (ρ : Nat → Nat) (B c : Nat) : Nat := if decide (c / 7 < n) && pt n ρ B (c / 7) (c % 7) then 1 else 0
def MP (S : am_S) (n : Nat) (ρ : Nat → Nat) (B c : Nat) : Prop := ∀ x, x < 49 → S 29 x = nI (if x < c then pat1 n ρ B x else 0)
theorem MP_skip {S : am_S} {n B c : Nat} {ρ : Nat → Nat} (h : MP S n ρ B c) (h0 : pat1 n ρ B c = 0) : MP S n ρ B (c + 1) := fun x hx => by
  rw [h x hx]
  by_cases hxc : x = c
  · rw [if_neg (by omega), if_pos (by omega), hxc, h0]
  · by_cases hl : x < c
    · rw [if_pos hl, if_pos (by omega)]
    · rw [if_neg hl, if_neg (by omega)]
theorem MP_skips {S : am_S} {n B c : Nat} {ρ : Nat → Nat} (h : MP S n ρ B c) : ∀ m, (∀ x, c ≤ x → x < c + m → pat1 n ρ B x = 0) → MP S n ρ B (c + m) := by
  intro m
  induction m with
  | zero => intro _; exact h
  | succ m ih => intro hx; exact MP_skip (ih (fun x h1 h2 => hx x h1 (by omega))) (hx (c + m) (by omega) (by omega))
theorem MP_put {S : am_S} {n B c : Nat} {ρ : Nat → Nat} (h : MP S n ρ B c) (h1 : pat1 n ρ B c = 1) : MP (up S 29 c (1 : Int32)) n ρ B (c + 1) := fun x hx => by
  rw [up_upd]; unfold upd
  by_cases hxc : x = c
  · rw [if_pos hxc, if_pos (by omega), hxc, h1]; rfl
  · rw [if_neg hxc, h x hx]
    by_cases hl : x < c
    · rw [if_pos hl, if_pos (by omega)]
    · rw [if_neg hl, if_neg (by omega)]
theorem MP_eq {S S' : am_S} {n B c : Nat} {ρ : Nat → Nat} (h : MP S n ρ B c) (he : S' 29 = S 29) : MP S' n ρ B c := fun x hx => by rw [he]; exact h x hx
def FL (S S' : am_S) : Prop := (∀ c, c ≠ 25 → c ≠ 29 → (c < 34 ∨ 37 < c) → S' c = S c) ∧ ∀ x, x ≠ 9 → S' 25 x = S 25 x
theorem FL.rf {S : am_S} : FL S S := ⟨fun _ _ _ _ => rfl, fun _ _ => rfl⟩
theorem FL.tr {S S' S'' : am_S} (h : FL S S') (h' : FL S' S'') : FL S S'' := ⟨fun c a b e => (h'.1 c a b e).trans (h.1 c a b e), fun x a => (h'.2 x a).trans (h.2 x a)⟩
theorem FL_put {S S' : am_S} {i : Nat} {x : Int32} (h : FL S S') : FL S (up S' 29 i x) := ⟨fun c a b e => by rw [up_ne c b]; exact h.1 c a b e, fun y a => by rw [up_ne 25 (by decide)]; exact h.2 y a⟩
theorem VC_FL {S S' : am_S} {q n : Nat} {ρ : Nat → Nat} (h : VC S q n ρ) (hf : FL S S') (hq : 38 < q) : VC S' q n ρ :=
  ⟨h.1, h.2.1, h.2.2.1, by rw [hf.1 q (by omega) (by omega) (by omega)]; exact h.2.2.2.1, fun s hs => by rw [hf.1 (q + 1) (by omega) (by omega) (by omega)]; exact h.2.2.2.2 s hs⟩
theorem pat1_row {n B c : Nat} {ρ : Nat → Nat} (h : pc B ≤ c % 7) : pat1 n ρ B c = 0 := by
  unfold pat1 pt
  rw [decide_eq_false (show ¬ c % 7 < pc B by omega), Bool.false_and, Bool.and_false, if_neg Bool.false_ne_true]
theorem c9_column (d : Nat) {S : am_S} {q n B e : Nat} {ρ : Nat → Nat} (hC : VC S q n ρ) (hq : 38 < q) (hB : B < 2 ^ n) (he : e < n) (h6 : S 25 6 = nI q) (hq31 : q < 2 ^ 31) (h8 : S 25 8 = nI B) (hW : WA S n ρ B (7 * e)) (hM : MP S n ρ B (7 * e)) : ∃ S', am_cal am_mt (d + 4) jX9_layOutColumn [.ref 25, .int (nI e)] (ws S) = some (none, ws S') ∧ FL S S' ∧ WA S' n ρ B (7 * e + 7) ∧ MP S' n ρ B (7 * e + 7) := by
  have hn := hC.n7
  have hB7 := p2_128 hn hB
  have hB31 : B < 2 ^ 31 := by omega
  have hpB := pc_le B
  have key : wp (am_cal am_mt (d + 4) jX9_layOutColumn [.ref 25, .int (nI e)] (ws S)) (fun o S' => o = none ∧ FL S S' ∧ WA S' n ρ B (7 * e + 7) ∧ MP S' n ρ B (7 * e + 7)) := by
    rw [eX9_layOutColumn_0, kO25, if_T, show (0 : Int32) = nI 0 from rfl]
    show wp (am_run false (am_cal am_mt (d + 3)) (am_lk tbX9_layOutColumn) 4 [some (.ref 25), some (.int (nI e)), some (.int (nI (pc 0))), some (.int (nI 0))] [] (ws S)) _
    rw [show pc 0 = pc (B % 2 ^ 0) from by rw [Nat.pow_zero, Nat.mod_one]]
    refine loop_wp (fun k S' => am_run false (am_cal am_mt (d + 3)) (am_lk tbX9_layOutColumn) 4 [some (.ref 25), some (.int (nI e)), some (.int (nI (pc (B % 2 ^ k)))), some (.int (nI k))] [] (ws S')) (fun k S' => FL S S' ∧ WA S' n ρ B (7 * e + pc (B % 2 ^ k)) ∧ MP S' n ρ B (7 * e + pc (B % 2 ^ k))) _ n ?_ ?_ 0 S (Nat.zero_le _) ⟨FL.rf, by rw [Nat.pow_zero, Nat.mod_one]; exact hW, by rw [Nat.pow_zero, Nat.mod_one]; exact hM⟩
    · intro k S' hk ⟨f1, w1, m1⟩ K
      show wp (am_run _ _ _ _ _ _ _) _
      have hC' := VC_FL hC f1 hq
      have h6' : S' 25 6 = nI q := by rw [f1.2 6 (by decide)]; exact h6
      have h8' : S' 25 8 = nI B := by rw [f1.2 8 (by decide)]; exact h8
      have htk := pc_tk B k hB7 (by omega)
      rw [eX9_layOutColumn_4, kM25_6, wc_bind, h6', nI_clamp hq31, hC'.fI, wc_bind, if_neg (nI_ge hk (by omega)), kI25_8, wc_bind, h8', wc_bit hB31 (show k < 32 by omega), nI_1]
      cases hb : B.testBit k with
      | false =>
        rw [hb, if_neg Bool.false_ne_true] at htk
        rw [if_pos bI_F]
        have K' := K S' ⟨f1, by rw [htk]; exact w1, by rw [htk]; exact m1⟩
        rw [htk] at K'
        exact K'
      | true =>
        rw [hb, if_pos rfl] at htk
        have hr := row_lt B hB7 k (by omega) hb
        have hel := elm_at B hB7 k (by omega) hb
        have hr7 : pc (B % 2 ^ k) < 7 := by omega
        obtain ⟨d1, d2⟩ := code_d (e := e) hr7
        have K' : ∀ S2, FL S S2 → WA S2 n ρ B (7 * e + pc (B % 2 ^ k) + 1) → MP S2 n ρ B (7 * e + pc (B % 2 ^ k) + 1) → wp (am_run false (am_cal am_mt (d + 3)) (am_lk tbX9_layOutColumn) 4 [some (.ref 25), some (.int (nI e)), some (.int (nI (pc (B % 2 ^ k) + 1))), some (.int (nI (k + 1)))] [] (ws S2)) _ := fun S2 g1 g2 g3 => by
          have := K S2 ⟨g1, by rw [htk]; exact g2, by rw [htk]; exact g3⟩
          rw [htk] at this
          exact this
        rw [if_neg bI_T]
        by_cases hke : k = e
        · have hpat : pat1 n ρ B (7 * e + pc (B % 2 ^ k)) = 1 := by
            unfold pat1 pt
            rw [d1, d2, decide_eq_true he, decide_eq_true hr, hel, ← hke, hb, beq_self_eq_true]
            rfl
          rw [if_pos (congrArg nI hke), kR25_0, wc_bind, c5_put _ S' mq_26 (show e < 7 by omega) hr7, cV_some, wc_bind, nI_1]
          refine K' _ (FL_put f1) (WA_skip (WA_eq w1 (by rw [up_ne 25 (by decide)]) (fun x h1 h2 => up_ne x (by omega))) (plc_B (by rw [d1, ← hke]; exact hb))) (MP_put m1 hpat)
        · rw [if_neg (fun c => hke ((nI_eq (by omega) (by omega)).mp c)), wc_bind, wc_bit hB31 (show e < 32 by omega), nI_1]
          cases hbe : B.testBit e with
          | true =>
            rw [if_neg bI_T]
            refine K' S' f1 (WA_skip w1 (plc_B (by rw [d1]; exact hbe))) (MP_skip m1 ?_)
            unfold pat1 pt
            rw [d1, d2, hbe, if_pos rfl, hel, show (k == e) = false from beq_eq_false_iff_ne.mpr hke, Bool.and_false, Bool.and_false, if_neg Bool.false_ne_true]
          | false =>
            have hset : wc_an B (2 ^ k) ||| 2 ^ e < 2 ^ n := p2_or (wc_an_lt hB) he
            have hpt : pt n ρ B e (pc (B % 2 ^ k)) = bas n ρ (wc_an B (2 ^ k) ||| 2 ^ e) := by
              unfold pt
              rw [decide_eq_true hr, hbe, if_neg Bool.false_ne_true, hel, Bool.true_and]
            rw [if_pos bI_F, wc_bind, wc_bind, wc_1shl (show k < 32 by omega), wc_anI, wc_1shl (show e < 32 by omega), wc_or, c8_isBase _ hC' hset, cI_some, wc_bind]
            cases hbs : bas n ρ (wc_an B (2 ^ k) ||| 2 ^ e) with
            | false =>
              rw [if_pos bI_F]
              dsimp only
              refine K' S' f1 (WA_skip w1 ?_) (MP_skip m1 ?_)
              · unfold plc; rw [d1, d2, hpt, hbs, Bool.and_false, Bool.and_false]
              · unfold pat1; rw [d1, d2, hpt, hbs, Bool.and_false, if_neg Bool.false_ne_true]
            | true =>
              have hpl : plc n ρ B (7 * e + pc (B % 2 ^ k)) = true := plc_iff.mpr ⟨by rw [d1]; exact he, by rw [d1]; exact hbe, by rw [d1, d2, hpt, hbs]⟩
              have hpat : pat1 n ρ B (7 * e + pc (B % 2 ^ k)) = 1 := by
                unfold pat1; rw [d1, d2, hpt, hbs, decide_eq_true he]; rfl
              rw [if_neg bI_T, kR25_0, wc_bind, c5_put _ S' mq_26 (show e < 7 by omega) hr7, cV_some, wc_bind]
              have w2 : WA (up S' 29 (7 * e + pc (B % 2 ^ k)) (1 : Int32)) n ρ B (7 * e + pc (B % 2 ^ k)) := WA_eq w1 (by rw [up_ne 25 (by decide)]) (fun x h1 h2 => up_ne x (by omega))
              obtain ⟨S2, b1, b2, b3, b4⟩ := c9_addPlace d (S := up S' 29 (7 * e + pc (B % 2 ^ k)) (1 : Int32)) hn hB hr7 hpl w2
              rw [b1, cV_some, wc_bind]
              exact K' S2 ((FL_put f1).tr ⟨fun c h1 _ h3 => b2 c h1 h3, b3⟩) b4 (MP_eq (MP_put m1 hpat) (b2 29 (by decide) (by decide)))
    · intro S' ⟨f1, w1, m1⟩
      show wp (am_run _ _ _ _ _ _ _) _
      have hC' := VC_FL hC f1 hq
      have h6' : S' 25 6 = nI q := by rw [f1.2 6 (by decide)]; exact h6
      rw [Nat.mod_eq_of_lt hB] at w1 m1
      rw [eX9_layOutColumn_4, kM25_6, wc_bind, h6', nI_clamp hq31, hC'.fI, wc_bind, if_pos (Int32.le_refl _)]
      refine wp_ret ⟨rfl, f1, ?_, ?_⟩
      · have := WA_skips w1 (7 - pc B) (fun x h1 h2 => plc_row (by omega))
        rwa [show 7 * e + pc B + (7 - pc B) = 7 * e + 7 by omega] at this
      · have := MP_skips m1 (7 - pc B) (fun x h1 h2 => pat1_row (by omega))
        rwa [show 7 * e + pc B + (7 - pc B) = 7 * e + 7 by omega] at this
  obtain ⟨o, S', h1, rfl, h2⟩ := key
  exact ⟨S', h1, h2⟩
theorem c9_layOut (d : Nat) {S : am_S} {q n qf : Nat} {ρ : Nat → Nat} (hm : mat n ρ) (hC : VC S q n ρ) (hq : 38 < q) (hq31 : q < 2 ^ 31) (hqf : qf < 2 ^ 31) : ∃ S', am_cal am_mt (d + 5) jX9_layOut [.ref 25, .ref q, .ref qf] (ws S) = some (none, ws S') ∧ Cr 25 38 S S' ∧ S' 25 6 = nI q ∧ S' 25 7 = nI qf ∧ S' 25 8 = nI (lb n ρ) ∧ S' 26 0 = nI qf ∧ S' 38 = S 38 ∧ WA S' n ρ (lb n ρ) 49 ∧ MP S' n ρ (lb n ρ) 49 := by
  have hn := hC.n7
  obtain ⟨hb, hB, _⟩ := lb_ok hm hn
  obtain ⟨B, hBd⟩ : ∃ B, B = lb n ρ := ⟨_, rfl⟩
  rw [← hBd] at hb hB ⊢
  have c1 : Cr 25 38 S (up (up S 25 6 (nI q)) 25 7 (nI qf)) := Cr_up (Cr_up Cr.rf (by decide) (by decide)) (by decide) (by decide)
  have hC1 := VC_Cr hC c1 (by omega)
  obtain ⟨S1, hS1⟩ : ∃ S1, S1 = up (up (up (up S 25 6 (nI q)) 25 7 (nI qf)) 25 8 (nI B)) 25 9 (nI 0) := ⟨_, rfl⟩
  have c2 : Cr 25 38 S S1 := by rw [hS1]; exact Cr_up (Cr_up c1 (by decide) (by decide)) (by decide) (by decide)
  have g6 : S1 25 6 = nI q := by rw [hS1]; rfl
  have g7 : S1 25 7 = nI qf := by rw [hS1]; rfl
  have g8 : S1 25 8 = nI B := by rw [hS1]; rfl
  have g9 : S1 25 9 = nI 0 := by rw [hS1]; rfl
  have g38 : S1 38 = S 38 := by rw [hS1]; rfl
  obtain ⟨S2, a1, a2, a3, a4⟩ := c5_clear (d + 3) S1 (m := 26) (q := qf) mq_26 hqf
  have key : wp (am_cal am_mt (d + 5) jX9_layOut [.ref 25, .ref q, .ref qf] (ws S)) (fun o S' => o = none ∧ Cr 25 38 S S' ∧ S' 25 6 = nI q ∧ S' 25 7 = nI qf ∧ S' 25 8 = nI B ∧ S' 26 0 = nI qf ∧ S' 38 = S 38 ∧ WA S' n ρ B 49 ∧ MP S' n ρ B 49) := by
    rw [eX9_layOut_0, kO25, if_T, kS25_6 S hq31, wc_bind, kS25_7 _ hqf, wc_bind, c8_firstBase _ hC1, cI_some, wc_bind, kS25_8, wc_bind, kS25_9, wc_bind, ← hBd, show (0 : Int32) = nI 0 from rfl, ← hS1, kR25_0, wc_bind, a1, cV_some, wc_bind]
    refine loop_wp (fun k S' => am_run false (am_cal am_mt (d + 4)) (am_lk tbX9_layOut) 33 [some (.ref 25), some (.ref q), some (.ref qf), some (.int (nI k))] [] (ws S')) (fun k S' => (∀ c, c ≠ 37 → S' c = S2 c) ∧ ∀ x, x < k → S' 37 x = nI x) _ 14 ?_ ?_ 0 S2 (Nat.zero_le _) ⟨fun _ _ => rfl, fun x hx => absurd hx (Nat.not_lt_zero x)⟩
    · intro k S' hk ⟨h1, h2⟩ K
      show wp (am_run _ _ _ _ _ _ _) _
      rw [eX9_layOut_33, kR25_4, wc_bind, kL37, wc_bind, if_neg (nI_ge hk (by decide)), wc_bind, kW37 S' hk, wc_bind, nI_1]
      refine K _ ⟨fun c hc => by rw [up_ne c hc]; exact h1 c hc, fun x hx => ?_⟩
      rw [up_upd]; unfold upd
      by_cases hxk : x = k
      · rw [if_pos hxk, hxk]
      · rw [if_neg hxk]; exact h2 x (by omega)
    · intro S3 ⟨h1, h2⟩
      show wp (am_run _ _ _ _ _ _ _) _
      rw [eX9_layOut_33, kR25_4, wc_bind, kL37, wc_bind, if_pos (Int32.le_refl _), show (0 : Int32) = nI 0 from rfl]
      have e3 : ∀ c, c ≠ 26 → c ≠ 29 → c ≠ 37 → S3 c = S1 c := fun c p1 p2 p3 => by rw [h1 c p3]; exact a2 c p1 p2
      have c3 : Cr 25 38 S S3 := fun c hc => by rw [e3 c (by omega) (by omega) (by omega)]; exact c2 c hc
      have hC3 := VC_Cr hC c3 (by omega)
      have w0 : WA S3 n ρ B (7 * 0) := ⟨by rw [e3 25 (by decide) (by decide) (by decide), g9]; rfl, fun c' hc => absurd hc (Nat.not_lt_zero c'), fun x hx => by rw [h2 x hx]; rfl⟩
      have m0 : MP S3 n ρ B (7 * 0) := fun x hx => by rw [h1 29 (by decide), if_neg (Nat.not_lt_zero x)]; exact a4 x hx
      have f6 : S3 25 6 = nI q := by rw [e3 25 (by decide) (by decide) (by decide)]; exact g6
      have f8 : S3 25 8 = nI B := by rw [e3 25 (by decide) (by decide) (by decide)]; exact g8
      refine loop_wp (fun k S' => am_run false (am_cal am_mt (d + 4)) (am_lk tbX9_layOut) 57 [some (.ref 25), some (.ref q), some (.ref qf), some (.int (nI k))] [] (ws S')) (fun k S' => FL S3 S' ∧ WA S' n ρ B (7 * k) ∧ MP S' n ρ B (7 * k)) _ n ?_ ?_ 0 S3 (Nat.zero_le _) ⟨FL.rf, w0, m0⟩
      · intro k S' hk ⟨f1, w1, m1⟩ K
        show wp (am_run _ _ _ _ _ _ _) _
        have hC' := VC_FL hC3 f1 hq
        obtain ⟨S4, b1, b2, b3, b4⟩ := c9_column d (e := k) hC' hq hB hk (by rw [f1.2 6 (by decide)]; exact f6) hq31 (by rw [f1.2 8 (by decide)]; exact f8) w1 m1
        rw [eX9_layOut_57, hC'.fI, wc_bind, if_neg (nI_ge hk (by omega)), b1, cV_some, wc_bind, nI_1]
        exact K S4 ⟨f1.tr b2, by rw [Nat.mul_succ]; exact b3, by rw [Nat.mul_succ]; exact b4⟩
      · intro S' ⟨f1, w1, m1⟩
        show wp (am_run _ _ _ _ _ _ _) _
        have hC' := VC_FL hC3 f1 hq
        rw [eX9_layOut_57, hC'.fI, wc_bind, if_pos (Int32.le_refl _)]
        refine wp_ret ⟨rfl, fun c hc => by rw [f1.1 c (by omega) (by omega) (by omega)]; exact c3 c hc, by rw [f1.2 6 (by decide)]; exact f6, by rw [f1.2 7 (by decide), e3 25 (by decide) (by decide) (by decide)]; exact g7, by rw [f1.2 8 (by decide)]; exact f8, by rw [f1.1 26 (by decide) (by decide) (by decide), h1 26 (by decide)]; exact a3, by rw [f1.1 38 (by decide) (by decide) (by decide), e3 38 (by decide) (by decide) (by decide)]; exact g38, ?_, ?_⟩
        · have := WA_skips w1 (49 - 7 * n) (fun x h1 h2 => plc_7n h1)
          rwa [show 7 * n + (49 - 7 * n) = 49 by omega] at this
        · have := MP_skips m1 (49 - 7 * n) (fun x h1 h2 => by unfold pat1; rw [decide_eq_false (by omega), Bool.false_and, if_neg Bool.false_ne_true])
          rwa [show 7 * n + (49 - 7 * n) = 49 by omega] at this
  obtain ⟨o, S', h1, rfl, h2⟩ := key
  exact ⟨S', h1, h2⟩
