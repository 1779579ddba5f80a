/-! ===== the class fills ===== -/
def Mc (f n : Nat) (ρ : Nat → Nat) (B c : Nat) : Nat := (fsz f - 1) ^ (fx n ρ B 49 - fx n ρ B c)
def Rn (f n : Nat) (ρ : Nat → Nat) (B c : Nat) : Nat := if jf n ρ B c then 1 else fsz f - 1
theorem Mc_pos (f n : Nat) (ρ : Nat → Nat) (B c : Nat) : 0 < Mc f n ρ B c := Nat.pow_pos (by have := fsz_pos f; omega)
theorem Rn_pos (f n : Nat) (ρ : Nat → Nat) (B c : Nat) : 0 < Rn f n ρ B c ∧ Rn f n ρ B c < fsz f := by
  have := fsz_pos f
  unfold Rn
  split <;> omega
theorem fx_s {n B c : Nat} {ρ : Nat → Nat} (hp : plc n ρ B c = true) : fx n ρ B (c + 1) = if jf n ρ B c then fx n ρ B c else fx n ρ B c + 1 := by
  unfold fx
  cases hj : jf n ρ B c with
  | true => rw [if_pos rfl, cn_F (by unfold frp; rw [hj, Bool.not_true, Bool.and_false])]
  | false => rw [if_neg Bool.false_ne_true, cn_T (by unfold frp; rw [hp, hj]; rfl)]
theorem fx_np {n B c : Nat} {ρ : Nat → Nat} (hp : plc n ρ B c = false) : fx n ρ B (c + 1) = fx n ρ B c := cn_F (by unfold frp; rw [hp, Bool.false_and])
theorem Mc_s {f n B c : Nat} {ρ : Nat → Nat} (hp : plc n ρ B c = true) (hc : c < 49) : Mc f n ρ B c = Rn f n ρ B c * Mc f n ρ B (c + 1) := by
  have h1 := fx_le (n := n) (B := B) ρ (show c + 1 ≤ 49 by omega)
  unfold Mc Rn
  rw [fx_s hp] at h1 ⊢
  cases hj : jf n ρ B c with
  | true => rw [if_pos rfl, if_pos rfl, Nat.one_mul]
  | false =>
    rw [hj, if_neg Bool.false_ne_true] at h1
    rw [if_neg Bool.false_ne_true, if_neg Bool.false_ne_true, show fx n ρ B 49 - fx n ρ B c = (fx n ρ B 49 - (fx n ρ B c + 1)) + 1 by omega, Nat.pow_succ, Nat.mul_comm]
theorem num_at {f n B c k0 m : Nat} {ρ : Nat → Nat} (hp : plc n ρ B c = true) (h1 : 1 ≤ m) (hm : m ≤ Rn f n ρ B c) : num f n ρ B ((k0 * Rn f n ρ B c + (m - 1)) * Mc f n ρ B (c + 1)) c = m := by
  unfold num Rn Mc at *
  rw [fx_s hp]
  cases hj : jf n ρ B c with
  | true => rw [hj, if_pos rfl] at hm; rw [if_pos rfl]; omega
  | false =>
    rw [hj, if_neg Bool.false_ne_true] at hm
    have hb : 0 < fsz f - 1 := by have := fsz_pos f; omega
    rw [if_neg Bool.false_ne_true, if_neg Bool.false_ne_true, if_neg Bool.false_ne_true, show fx n ρ B 49 - 1 - fx n ρ B c = fx n ρ B 49 - (fx n ρ B c + 1) by omega, Nat.mul_div_cancel _ (Nat.pow_pos hb), Nat.mul_add_mod', Nat.mod_eq_of_lt (by omega)]
    omega
theorem pre_at {f n B c k0 j : Nat} {ρ : Nat → Nat} (hp : plc n ρ B c = true) (hc : c < 49) (hj : j < Rn f n ρ B c) : (k0 * Rn f n ρ B c + j) * Mc f n ρ B (c + 1) / Mc f n ρ B c = k0 := by
  have hR := (Rn_pos f n ρ B c).1
  rw [Mc_s hp hc, Nat.mul_div_mul_right _ _ (Mc_pos f n ρ B (c + 1)), Nat.add_comm, Nat.add_mul_div_right _ _ hR, Nat.div_eq_of_lt hj, Nat.zero_add]
theorem al_cg {n : Nat} {f g : Nat → Bool} (h : ∀ i, i < n → f i = g i) : wc_al n f = wc_al n g := by
  induction n with
  | zero => rfl
  | succ n ih => rw [wc_al_s, wc_al_s, ih (fun i hi => h i (by omega)), h n (by omega)]
theorem fit_pre {f n B e c k k' : Nat} {ρ : Nat → Nat} (hf : f < 4) (hn : n ≤ 7) (hlast : ∀ x, x < 49 → plc n ρ B x = true → x / 7 ≤ e → x < c) (hk : k / Mc f n ρ B c = k' / Mc f n ρ B c) (hc : c ≤ 49) : fit f n ρ B k e = fit f n ρ B k' e := by
  unfold fit
  refine al_cg (fun s hs => ?_)
  have hs7 := p2_128 hn hs
  by_cases h0 : wc_an s (B ||| (2 ^ (e + 1) - 1)) = 0
  · have : rkf f (wcol f n ρ B k) s = rkf f (wcol f n ρ B k') s := rkf_ext hf (vdc_wcol f n ρ B k) (vdc_wcol f n ρ B k') hs7 (fun g hg hgs i hi => by
      obtain ⟨d1, d2⟩ := code_d (e := g) hi
      show ent f n ρ B k (7 * g + i) = ent f n ρ B k' (7 * g + i)
      rcases out_fill hs7 h0 hgs with h | h
      · exact ent_np (plc_B (by rw [d1]; exact h))
      · cases hp : plc n ρ B (7 * g + i) with
        | false => exact ent_np hp
        | true => exact ent_pre hk (Or.inl (hlast _ (by omega) hp (by omega))) hc)
    rw [this]
  · rw [show (wc_an s (B ||| (2 ^ (e + 1) - 1)) == 0) = false from beq_eq_false_iff_ne.mpr h0, Bool.and_false, Bool.false_and]
    rfl
/-- the columns that are done hold -/
def HF (f n : Nat) (ρ : Nat → Nat) (B k c : Nat) : Prop := ∀ e, e < n → (∃ i, i < 7 ∧ plc n ρ B (7 * e + i) = true) → (∀ i, i < 7 → plc n ρ B (7 * e + i) = true → 7 * e + i < c) → fit f n ρ B k e = true
/-- how it stands after a run over fillings -/
def FP (S S' : am_S) (f n : Nat) (ρ : Nat → Nat) (B k c : Nat) (r : Nat × Nat) : Prop := FF S S' ∧ S' 25 10 = nI r.1 ∧ (0 < r.1 → ∀ e, e < 7 → S' 38 e = nI (cod f (wcol f n ρ B r.2 e))) ∧ MK S' f n ρ B k c
theorem c9_fill {f n B q qf E : Nat} {ρ : Nat → Nat} (hq : 38 < q) (hq31 : q < 2 ^ 31) (hqf : 38 < qf) (hqf31 : qf < 2 ^ 31) (hE : E < 2 ^ 31) (hf : f < 4) (hm : mat n ρ) (hn : n ≤ 7) (hB : B < 2 ^ n) (hb : bas n ρ B = true) : ∀ u c, c + u = 49 → ∀ (k0 : Nat) (st : Nat × Nat) (D : Nat) (S : am_S), pix n ρ B 49 - pix n ρ B c + 9 ≤ D → st.1 < E → WS S f n ρ B q qf E → S 26 0 = nI qf → S 25 10 = nI st.1 → (0 < st.1 → ∀ e, e < 7 → S 38 e = nI (cod f (wcol f n ρ B st.2 e))) → MK S f n ρ B (k0 * Mc f n ρ B c) c → HF f n ρ B (k0 * Mc f n ρ B c) c → ∃ S', am_cal am_mt D jX9_fill [.ref 25, .int (nI (pix n ρ B c))] (ws S) = some (none, ws S') ∧ FP S S' f n ρ B (k0 * Mc f n ρ B c) c (wc_lp (stp f n ρ B E) (Mc f n ρ B c) (k0 * Mc f n ρ B c) st) := by
  have h12 := pix_12 ρ hn hB
  intro u
  induction u with
  | zero =>
    intro c hcu k0 st D S hD hst hW h0 h10 h38 hM hH
    have : c = 49 := by omega
    subst this
    have hM1 : Mc f n ρ B 49 = 1 := by unfold Mc; rw [Nat.sub_self, Nat.pow_zero]
    have hk0 : k0 * Mc f n ρ B 49 = k0 := by rw [hM1, Nat.mul_one]
    rw [hk0] at hM hH ⊢
    rw [hM1]
    obtain ⟨D', rfl⟩ : ∃ D', D = D' + 4 := ⟨D - 4, by omega⟩
    have hacc : acc f n ρ B k0 = true := by
      rw [acc_fit hf hm hn hB hb]
      intro e he hpe
      exact hH e he hpe (fun i hi _ => by omega)
    obtain ⟨S', a1, a2, a3, a4, a5⟩ := c9_keep D' hqf31 hqf hW h0 hM h10 (by omega)
    have hres : wc_lp (stp f n ρ B E) 1 k0 st = (st.1 + 1, if st.1 = 0 then k0 else st.2) := by
      show stp f n ρ B E k0 st = _
      unfold stp
      rw [decide_eq_true hst, hacc, Bool.true_and, if_pos rfl]
    rw [hres]
    refine ⟨S', ?_, ⟨fun c e1 e2 e3 => a2 c e1 e3, a3, by rw [a2 26 (by decide) (by decide)]⟩, a4, fun _ e he => ?_, ?_⟩
    · rw [eX9_fill_0, kI25_9, wc_bind, hW.2.2.2.2.2.2.1, if_pos (Int32.le_refl _), a1, cV_some, wc_bind]
    · rw [a5 e he]
      dsimp only
      by_cases hs0 : st.1 = 0
      · rw [if_pos hs0, if_pos hs0]
      · rw [if_neg hs0, if_neg hs0]; exact h38 (by omega) e he
    · obtain ⟨cm, ⟨m1, m2, ⟨q', m3, m4, m5, m6⟩, m7, m8⟩, g2⟩ := hM
      have hq' : q' = qf := by
        rw [h0] at m4
        exact ((nI_eq hqf31 m3).mp m4).symm
      subst hq'
      exact ⟨cm, ⟨m1, m2, ⟨q', m3, by rw [a2 26 (by decide) (by decide)]; exact m4, ⟨m5.1, m5.2.1, m5.2.2.1, by rw [a2 q' (by omega) (by omega)]; exact m5.2.2.2.1, fun b hb' => by rw [a2 (q' + 1) (by omega) (by omega)]; exact m5.2.2.2.2 b hb'⟩, m6⟩, m7, fun g hg i hi => by rw [a2 29 (by decide) (by decide)]; exact m8 g hg i hi⟩, g2⟩
  | succ u ih =>
    intro c hcu k0 st D S hD hst hW h0 h10 h38 hM hH
    cases hp : plc n ρ B c with
    | false =>
      have e1 : pix n ρ B (c + 1) = pix n ρ B c := cn_F hp
      have e2 : Mc f n ρ B (c + 1) = Mc f n ρ B c := by unfold Mc; rw [fx_np hp]
      have hne : ∀ x, x < c + 1 ∨ plc n ρ B x = false → x < c ∨ plc n ρ B x = false := fun x hx => by
        rcases hx with hx | hx
        · by_cases hxc : x = c
          · rw [hxc]; exact Or.inr hp
          · exact Or.inl (by omega)
        · exact Or.inr hx
      have h := ih (c + 1) (by omega) k0 st D S (by rw [e1]; exact hD) hst hW h0 h10 h38 (by rw [e2]; exact MK_sub hM (fun x hx => ⟨hne x hx, rfl⟩)) (by
        rw [e2]
        intro e he hpe hall
        refine hH e he hpe (fun i hi hpi => ?_)
        have := hall i hi hpi
        by_cases hx : 7 * e + i = c
        · rw [hx, hp] at hpi; cases hpi
        · omega)
      rw [e1, e2] at h
      obtain ⟨S', a1, a2, a3, a4, a5⟩ := h
      exact ⟨S', a1, a2, a3, a4, MK_sub a5 (fun x hx => ⟨by rcases hx with hx | hx; exact Or.inl (by omega); exact Or.inr hx, rfl⟩)⟩
    | true =>
      have hc : c < 49 := by omega
      have hpl : pix n ρ B c < pix n ρ B 49 := cn_lt hc hp
      have e1 : pix n ρ B (c + 1) = pix n ρ B c + 1 := cn_T hp
      have hMs := Mc_s (f := f) hp hc
      obtain ⟨e, i, hi, hce⟩ : ∃ e i, i < 7 ∧ c = 7 * e + i := ⟨c / 7, c % 7, by omega, by omega⟩
      have d1 : c / 7 = e := by omega
      have d2 : c % 7 = i := by omega
      have hen : e < n := by have := (plc_iff.mp hp).1; omega
      have he7 : e < 7 := by omega
      obtain ⟨D2, rfl⟩ : ∃ D2, D = D2 + 8 := ⟨D - 8, by omega⟩
      obtain ⟨w1, w2, w3⟩ := hW.2.2.2.2.2.2
      obtain ⟨q34, q35, q36⟩ := w2 c hc hp
      rw [d1] at q34
      obtain ⟨R, hR⟩ : ∃ R, R = Rn f n ρ B c := ⟨_, rfl⟩
      obtain ⟨M', hM'⟩ : ∃ M', M' = Mc f n ρ B (c + 1) := ⟨_, rfl⟩
      have hRp := Rn_pos f n ρ B c
      have hMp := Mc_pos f n ρ B (c + 1)
      rw [← hR] at hRp hMs
      rw [← hM'] at hMp hMs
      have hz := fsz_pos f
      have hFz : FC S qf f := hW.2.1
      have hentry : am_cal am_mt (D2 + 8) jX9_fill [.ref 25, .int (nI (pix n ρ B c))] (ws S) = am_run false (am_cal am_mt (D2 + 7)) (am_lk tbX9_fill) 52 [some (.ref 25), some (.int (nI (pix n ρ B c))), some (.int (nI e)), some (.int (nI R)), some (.int (nI 1))] [] (ws S) := by
        rw [eX9_fill_0, kI25_9, wc_bind, w1, if_neg (nI_ge hpl (by omega)), if_pos (show nI (pix n ρ B c) < (12 : Int32) from nI_lt (b := 12) (by omega) (by decide)), kR25_1, wc_bind, kA34 S (by omega), wc_bind, kR25_3, wc_bind, kA36 S (by omega), wc_bind, q36, q34]
        cases hj : jf n ρ B c with
        | true =>
          rw [if_neg bI_T, hR]
          unfold Rn
          rw [hj]
          rfl
        | false =>
          rw [if_pos bI_F, kM25_7, wc_bind, hW.2.2.2.1, nI_clamp hqf31, hFz.fI, wc_bind, show nI (fsz f) - (1 : Int32) = nI (fsz f - 1) from by rw [show (1 : Int32) = nI 1 from rfl, pk_sub (by omega)], hR]
          unfold Rn
          rw [hj]
          rfl
      rw [hentry]
      have loop : ∀ r m S1, m + r = R + 1 → 1 ≤ m → FP S S1 f n ρ B (k0 * Mc f n ρ B c) c (wc_lp (stp f n ρ B E) ((m - 1) * M') (k0 * Mc f n ρ B c) st) → ∃ S', am_run false (am_cal am_mt (D2 + 7)) (am_lk tbX9_fill) 52 [some (.ref 25), some (.int (nI (pix n ρ B c))), some (.int (nI e)), some (.int (nI R)), some (.int (nI m))] [] (ws S1) = some (none, ws S') ∧ FP S S' f n ρ B (k0 * Mc f n ρ B c) c (wc_lp (stp f n ρ B E) (Mc f n ρ B c) (k0 * Mc f n ρ B c) st) := by
        intro r
        induction r with
        | zero =>
          intro m S1 hmr h1 hFP
          have hmR : m - 1 = R := by omega
          rw [hmR, ← hMs] at hFP
          rw [eX9_fill_52, if_pos (nI_lt (by omega) (by omega))]
          exact ⟨S1, rfl, hFP⟩
        | succ r ihr =>
          intro m S1 hmr h1 hFP
          have hmR : m ≤ R := by omega
          obtain ⟨st1, hst1⟩ : ∃ st1, st1 = wc_lp (stp f n ρ B E) ((m - 1) * M') (k0 * Mc f n ρ B c) st := ⟨_, rfl⟩
          rw [← hst1] at hFP
          obtain ⟨p1, p2, p3, p4⟩ := hFP
          have hle := (lp_le f n B E ρ ((m - 1) * M') (k0 * Mc f n ρ B c) st).2.2 (by omega)
          rw [← hst1] at hle
          have hW1 := WS_FF hq hqf hW p1
          rw [eX9_fill_52, if_neg (nI_nlt hmR (by omega)), kI25_10, wc_bind, p2, kI25_11, wc_bind, hW1.2.2.2.2.2.1]
          by_cases hfull : E ≤ st1.1
          · rw [if_pos (nI_le hfull (by omega))]
            refine ⟨S1, rfl, p1, ?_⟩
            have hrest : wc_lp (stp f n ρ B E) (Mc f n ρ B c) (k0 * Mc f n ρ B c) st = st1 := by
              have hsplit : Mc f n ρ B c = (m - 1) * M' + (R - (m - 1)) * M' := by
                rw [hMs, ← Nat.add_mul, show m - 1 + (R - (m - 1)) = R by omega]
              have h2 : wc_lp (stp f n ρ B E) ((m - 1) * M' + (R - (m - 1)) * M') (k0 * Mc f n ρ B c) st = st1 := by
                rw [lp_add, ← hst1]
                exact lp_id _ _ _ _ (fun x _ _ => stp_full hfull)
              rw [← hsplit] at h2
              exact h2
            rw [hrest]
            exact ⟨p2, p3, p4⟩
          · -- a number is put
            obtain ⟨k', hk'⟩ : ∃ k', k' = (k0 * R + (m - 1)) * M' := ⟨_, rfl⟩
            have hkk : k0 * Mc f n ρ B c + (m - 1) * M' = k' := by rw [hk', hMs, Nat.add_mul, Nat.mul_assoc]
            have hpre : k' / Mc f n ρ B c = k0 * Mc f n ρ B c / Mc f n ρ B c := by
              rw [Nat.mul_div_cancel _ (Mc_pos f n ρ B c), hk', hR, hM']
              exact pre_at hp hc (by omega)
            have hnum : m = ent f n ρ B k' (7 * e + i) := by
              have hx := plc_iff.mp hp
              unfold ent
              rw [← hce, decide_eq_true hx.1, hx.2.1, hx.2.2, Bool.and_true, if_pos rfl, if_neg Bool.false_ne_true, hk', hR, hM']
              exact (num_at hp h1 (by omega)).symm
            have hMK2 : MK (up S1 29 (7 * e + i) (nI m)) f n ρ B k' (c + 1) := by
              rw [hce]
              rw [hce] at p4
              refine MK_put p4 he7 hi hnum (fun x hx => ?_)
              rw [← hce] at hx ⊢
              exact ent_pre hpre.symm hx (by omega)
            obtain ⟨S2, hS2⟩ : ∃ S2, S2 = up S1 29 (7 * e + i) (nI m) := ⟨_, rfl⟩
            rw [← hS2] at hMK2
            have f2 : FF S S2 := by rw [hS2]; exact p1.tr (FF_put _ _)
            have hW2 := WS_FF hq hqf hW f2
            have e25 : S2 25 = S1 25 := by rw [hS2, up_ne 25 (by decide)]
            have e38 : S2 38 = S1 38 := by rw [hS2, up_ne 38 (by decide)]
            have q35' : S1 35 (pix n ρ B c) = nI i := by rw [p1.1 35 (by decide) (by decide) (by decide), q35, d2]
            rw [if_neg (nI_ge (by omega) (by omega)), kR25_0, wc_bind, kR25_2, wc_bind, kA35 S1 (by omega), wc_bind, q35', c5_put (D2 + 5) S1 mq_26 he7 hi, cV_some, wc_bind, ← hS2, c9_isLast (D2 + 6) hn hB hW2.2.2.2.2.2.2 hp hc, cI_some, wc_bind, nI_1, nI_1, ← e1]
            dsimp only
            have hnext : ∀ S3, FF S S3 → S3 25 10 = nI (wc_lp (stp f n ρ B E) M' k' st1).1 → (0 < (wc_lp (stp f n ρ B E) M' k' st1).1 → ∀ e, e < 7 → S3 38 e = nI (cod f (wcol f n ρ B (wc_lp (stp f n ρ B E) M' k' st1).2 e))) → MK S3 f n ρ B k' (c + 1) → ∃ S', am_run false (am_cal am_mt (D2 + 7)) (am_lk tbX9_fill) 52 [some (.ref 25), some (.int (nI (pix n ρ B c))), some (.int (nI e)), some (.int (nI R)), some (.int (nI (m + 1)))] [] (ws S3) = some (none, ws S') ∧ FP S S' f n ρ B (k0 * Mc f n ρ B c) c (wc_lp (stp f n ρ B E) (Mc f n ρ B c) (k0 * Mc f n ρ B c) st) := by
              intro S3 g1 g2 g3 g4
              refine ihr (m + 1) S3 (by omega) (by omega) ?_
              have hs : wc_lp (stp f n ρ B E) ((m + 1 - 1) * M') (k0 * Mc f n ρ B c) st = wc_lp (stp f n ρ B E) M' k' st1 := by
                rw [show (m + 1 - 1) * M' = (m - 1) * M' + M' by rw [show m + 1 - 1 = (m - 1) + 1 by omega, Nat.succ_mul], lp_add, ← hst1, hkk]
              rw [hs]
              refine ⟨g1, g2, g3, MK_sub g4 (fun x hx => ⟨?_, ent_pre hpre hx (by omega)⟩)⟩
              rcases hx with hx | hx
              · exact Or.inl (by omega)
              · exact Or.inr hx
            have hrec : HF f n ρ B k' (c + 1) → ∀ S3, FF S S3 → S3 25 = S2 25 → S3 38 = S2 38 → MK S3 f n ρ B k' (c + 1) → ∃ S', ((am_cV (am_cal am_mt (D2 + 7) jX9_fill [.ref 25, .int (nI (pix n ρ B (c + 1)))] (ws S3))).bind fun q8 => am_run false (am_cal am_mt (D2 + 7)) (am_lk tbX9_fill) 52 [some (.ref 25), some (.int (nI (pix n ρ B c))), some (.int (nI e)), some (.int (nI R)), some (.int (nI (m + 1)))] [] q8) = some (none, ws S') ∧ FP S S' f n ρ B (k0 * Mc f n ρ B c) c (wc_lp (stp f n ρ B E) (Mc f n ρ B c) (k0 * Mc f n ρ B c) st) := by
              intro hHF S3 g1 g2 g3 g4
              have hW3 := WS_FF hq hqf hW g1
              have hkm : (k0 * R + (m - 1)) * Mc f n ρ B (c + 1) = k' := by rw [hk', hM']
              obtain ⟨S4, b1, b2, b3, b4, b5⟩ := ih (c + 1) (by omega) (k0 * R + (m - 1)) st1 (D2 + 7) S3 (by omega) (by omega) hW3 (by rw [g1.2.2]; exact h0) (by rw [g2, e25]; exact p2) (fun hx e he => by rw [g3, e38]; exact p3 hx e he) (by rw [hkm]; exact g4) (by rw [hkm]; exact hHF)
              rw [hkm, ← hM'] at b3 b4
              rw [hkm] at b5
              rw [b1, cV_some, wc_bind]
              exact hnext S4 (g1.tr b2) b3 b4 b5
            -- columns that were done before
            have hold : ∀ e', e' < n → e' ≠ e → (∃ i, i < 7 ∧ plc n ρ B (7 * e' + i) = true) → (∀ i, i < 7 → plc n ρ B (7 * e' + i) = true → 7 * e' + i < c + 1) → fit f n ρ B k' e' = true := by
              intro e' he' hne hpe hall
              have hlt : ∀ i, i < 7 → plc n ρ B (7 * e' + i) = true → 7 * e' + i < c := fun j hj hpj => by
                have := hall j hj hpj
                omega
              obtain ⟨j, hj, hpj⟩ := id hpe
              have hee : e' < e := by have := hlt j hj hpj; omega
              have := hH e' he' hpe hlt
              rw [← this]
              exact fit_pre hf hn (fun x _ _ hx => by omega) hpre (by omega)
            cases hl : lst n ρ B c with
            | false =>
              rw [if_pos bI_F]
              refine hrec (fun e' he' hpe hall => ?_) S2 f2 rfl rfl hMK2
              by_cases hee : e' = e
              · exfalso
                obtain ⟨x, x1, x2, x3, x4⟩ := lst_F hl
                have := hall (x % 7) (by omega) (by rw [hee, ← d1, ← x4, show 7 * (x / 7) + x % 7 = x by omega]; exact x3)
                rw [hee, ← d1, ← x4] at this
                omega
              · exact hold e' he' hee hpe hall
            | true =>
              have hlast : ∀ x, x < 49 → plc n ρ B x = true → x / 7 ≤ e → x < c + 1 := fun x x1 x2 x3 => by
                apply Classical.byContradiction
                intro hx
                exact lst_T hl x (by omega) x1 x2 (by omega)
              obtain ⟨S3, b1, b2⟩ := c9_fits D2 hq hq31 hf hB hW2 hMK2 hen hlast
              have f3 := f2.tr (FF_Xm b2)
              have g25 : S3 25 = S2 25 := b2.1 25 (by decide)
              have g38 : S3 38 = S2 38 := b2.1 38 (by decide)
              rw [if_neg bI_T, b1, cI_some, wc_bind]
              dsimp only
              cases hfit : fit f n ρ B k' e with
              | true =>
                rw [if_neg bI_T]
                refine hrec (fun e' he' hpe hall => ?_) S3 f3 g25 g38 (MK_Xm hMK2 b2)
                by_cases hee : e' = e
                · rw [hee]; exact hfit
                · exact hold e' he' hee hpe hall
              | false =>
                rw [if_pos bI_F]
                have hsame : wc_lp (stp f n ρ B E) M' k' st1 = st1 := lp_id _ _ _ _ (fun x x1 x2 => stp_no (by
                  cases ha : acc f n ρ B x with
                  | false => rfl
                  | true =>
                    exfalso
                    have := (acc_fit hf hm hn hB hb).mp ha e hen ⟨i, hi, by rw [← hce]; exact hp⟩
                    have hx : x / Mc f n ρ B (c + 1) = k' / Mc f n ρ B (c + 1) := by
                      rw [hk', ← hM', Nat.mul_div_cancel _ hMp]
                      have hxx : x = (x - k') + (k0 * R + (m - 1)) * M' := by rw [← hk']; omega
                      rw [hxx, Nat.add_mul_div_right _ _ hMp, Nat.div_eq_of_lt (by omega), Nat.zero_add]
                    rw [fit_pre hf hn hlast hx (by omega), hfit] at this
                    cases this))
                refine hnext S3 f3 ?_ ?_ (MK_Xm hMK2 b2)
                · rw [hsame, g25, e25]; exact p2
                · rw [hsame]
                  intro hx e he
                  rw [g38, e38]
                  exact p3 hx e he
      refine loop R 1 S (by omega) (Nat.le_refl 1) ⟨FF.rf, ?_, ?_, hM⟩
      · rw [Nat.sub_self, Nat.zero_mul]; exact h10
      · rw [Nat.sub_self, Nat.zero_mul]; exact h38
