/-! ===== the class counts writings ===== -/
noncomputable def wrt (f n : Nat) (ρ : Nat → Nat) (E : Nat) : Nat × Nat := wc_lp (stp f n ρ (lb n ρ) E) (Mc f n ρ (lb n ρ) 0) 0 (0, 0)
theorem c9_count (d : Nat) {S : am_S} {f n q qf E : Nat} {ρ : Nat → Nat} (hm : mat n ρ) (hC : VC S q n ρ) (hF : FC S qf f) (hq : 38 < q) (hq31 : q < 2 ^ 31) (hqf : 38 < qf) (hqf31 : qf < 2 ^ 31) (hE0 : 0 < E) (hE : E < 2 ^ 31) : ∃ S', am_cal am_mt (d + 22) jX9_countUpTo [.ref 25, .ref q, .ref qf, .int (nI E)] (ws S) = some (some (.int (nI (wrt f n ρ E).1)), ws S') ∧ Cr 25 38 S S' ∧ (0 < (wrt f n ρ E).1 → ∀ e, e < 7 → S' 38 e = nI (cod f (wcol f n ρ (lb n ρ) (wrt f n ρ E).2 e))) := by
  have hn := hC.n7
  have hf := hF.lt
  have hz := fsz_pos f
  obtain ⟨hb, hB, _⟩ := lb_ok hm hn
  obtain ⟨S1, a1, a2, a3, a4, a5, a6, a7, a8, a9⟩ := c9_layOut (d + 16) hm hC hq hq31 hqf31
  unfold wrt
  obtain ⟨B, hBd⟩ : ∃ B, B = lb n ρ := ⟨_, rfl⟩
  rw [← hBd] at hb hB a5 a8 a9 ⊢
  obtain ⟨S2, hS2⟩ : ∃ S2, S2 = up (up S1 25 10 (nI 0)) 25 11 (nI E) := ⟨_, rfl⟩
  have c2 : Cr 25 38 S S2 := by rw [hS2]; exact Cr_up (Cr_up a2 (by decide) (by decide)) (by decide) (by decide)
  have o2 : ∀ c, c ≠ 25 → S2 c = S1 c := fun c hc => by rw [hS2, up_ne c hc, up_ne c hc]
  have p2 : ∀ x, x ≠ 10 → x ≠ 11 → S2 25 x = S1 25 x := fun x h1 h2 => by rw [hS2, up_upd]; unfold upd; rw [if_neg h2, up_upd]; unfold upd; rw [if_neg h1]
  have hC2 := VC_Cr hC c2 (by omega)
  have hF2 := FC_Cr hF c2 (by omega)
  have hW : WS S2 f n ρ B q qf E := ⟨hC2, hF2, by rw [p2 6 (by decide) (by decide)]; exact a3, by rw [p2 7 (by decide) (by decide)]; exact a4, by rw [p2 8 (by decide) (by decide)]; exact a5, by rw [hS2]; rfl, WA_eq a8 (p2 9 (by decide) (by decide)) (fun x h1 _ => o2 x (by omega))⟩
  have hMK : MK S2 f n ρ B (0 * Mc f n ρ B 0) 0 := by
    refine ⟨fun g i => pat1 n ρ B (7 * g + i), ⟨mq_26, hf, ⟨qf, hqf31, by rw [o2 26 (by decide)]; exact a6, hF2, by omega⟩, fun g hg i hi => ?_, fun g hg i hi => ?_⟩, fun g i hg hi hx => ?_⟩
    · show pat1 n ρ B (7 * g + i) < fsz f
      unfold pat1
      split <;> omega
    · rw [o2 29 (by decide), a9 _ (by omega), if_pos (by omega)]
    · dsimp only
      have hx : plc n ρ B (7 * g + i) = false := by
        rcases hx with h | h
        · exact absurd h (Nat.not_lt_zero _)
        · exact h
      unfold pat1 ent
      cases hq : (decide ((7 * g + i) / 7 < n) && pt n ρ B ((7 * g + i) / 7) ((7 * g + i) % 7)) with
      | false => rfl
      | true =>
        cases hbt : B.testBit ((7 * g + i) / 7) with
        | true => rfl
        | false =>
          rw [Bool.and_eq_true, decide_eq_true_iff] at hq
          have := plc_iff.mpr ⟨hq.1, hbt, hq.2⟩
          rw [this] at hx
          cases hx
  have h12 := pix_12 ρ hn hB
  obtain ⟨S3, b1, b2, b3, b4, b5⟩ := c9_fill hq hq31 hqf hqf31 hE hf hm hn hB hb 49 0 rfl 0 (0, 0) (d + 21) S2 (by omega) hE0 hW (by rw [o2 26 (by decide)]; exact a6) (by rw [hS2]; rfl) (fun h => absurd h (Nat.lt_irrefl 0)) hMK (fun e _ ⟨i, hi, hp⟩ hall => absurd (hall i hi hp) (Nat.not_lt_zero _))
  rw [Nat.zero_mul] at b3 b4
  refine ⟨S3, ?_, fun c hc => by rw [b2.1 c (by omega) (by omega) (by omega)]; exact c2 c hc, b4⟩
  rw [eX9_countUpTo_0, kO25, if_T, a1, cV_some, wc_bind, kS25_10, wc_bind, kS25_11, wc_bind, show (0 : Int32) = nI 0 from rfl, ← hS2]
  rw [show nI 0 = nI (pix n ρ B 0) from rfl, b1, cV_some, wc_bind, kI25_10, wc_bind, b3]
/-! calls that want more depth -/
def ag4 (d : Nat) (S : am_S) (j1 j2 : Nat) (as : List Value) : Prop := ∃ (r : Int32) (S1 S2 : am_S), am_cal am_mt (d + 40) j1 (.ref 0 :: as) (ws S) = some (some (.int r), ws S1) ∧ am_cal am_mt (d + 40) j2 (.ref 88 :: as) (ws S1) = some (some (.int r), ws S2) ∧ R S2
theorem ag_of4 {S : am_S} {j1 j2 : Nat} {as : List Int32} (h : ag4 20 S j1 j2 (as.map Value.int)) : ag S j1 j2 as := by
  obtain ⟨r, S1, S2, e1, e2, e3⟩ := h
  exact ⟨r, S1, S2, e1, e2, e3⟩
theorem ai_1 {j1 j2 : Nat} (h : ∀ d S x1, R S → ag4 d S j1 j2 [.int x1]) : am_ag Inv j1 j2 1 :=
  ag_go (fun S as hl hR => by obtain ⟨a, e⟩ := li_1 as hl; rw [e]; exact ag_of4 (h 20 S a hR))
theorem ai_2 {j1 j2 : Nat} (h : ∀ d S x1 x2, R S → ag4 d S j1 j2 [.int x1, .int x2]) : am_ag Inv j1 j2 2 :=
  ag_go (fun S as hl hR => by obtain ⟨a, b, e⟩ := li_2 as hl; rw [e]; exact ag_of4 (h 20 S a b hR))
theorem ai_3 {j1 j2 : Nat} (h : ∀ d S x1 x2 x3, R S → ag4 d S j1 j2 [.int x1, .int x2, .int x3]) : am_ag Inv j1 j2 3 :=
  ag_go (fun S as hl hR => by obtain ⟨a, b, c, e⟩ := li_3 as hl; rw [e]; exact ag_of4 (h 20 S a b c hR))
theorem ai_5 {j1 j2 : Nat} (h : ∀ d S x1 x2 x3 x4 x5, R S → ag4 d S j1 j2 [.int x1, .int x2, .int x3, .int x4, .int x5]) : am_ag Inv j1 j2 5 :=
  ag_go (fun S as hl hR => by obtain ⟨a, b, c, d, f, e⟩ := li_5 as hl; rw [e]; exact ag_of4 (h 20 S a b c d f hR))
theorem ag4_p {d : Nat} {S : am_S} (hR : R S) {j1 j2 : Nat} {as : List Value} (r : Int32) (h1 : am_cal am_mt (d + 40) j1 (.ref 0 :: as) (ws S) = some (some (.int r), ws S)) (h2 : am_cal am_mt (d + 40) j2 (.ref 88 :: as) (ws S) = some (some (.int r), ws S)) : ag4 d S j1 j2 as := ⟨r, S, S, h1, h2, hR⟩
