/-! ===== the class asks columns and keeps writings ===== -/
def FF (S S' : am_S) : Prop := (∀ c, c ≠ 25 → (c < 26 ∨ 33 < c) → c ≠ 38 → S' c = S c) ∧ (∀ x, x ≠ 10 → S' 25 x = S 25 x) ∧ S' 26 0 = S 26 0
theorem FF.rf {S : am_S} : FF S S := ⟨fun _ _ _ _ => rfl, fun _ _ => rfl, rfl⟩
theorem FF.tr {S S' S'' : am_S} (h : FF S S') (h' : FF S' S'') : FF S S'' := ⟨fun c a b e => (h'.1 c a b e).trans (h.1 c a b e), fun x a => (h'.2.1 x a).trans (h.2.1 x a), h'.2.2.trans h.2.2⟩
theorem FF_Xm {S S' : am_S} (h : Xm 26 S S') : FF S S' := ⟨fun c _ b _ => h.1 c (by omega), fun x _ => by rw [h.1 25 (by decide)], h.2.1⟩
theorem FF_put {S : am_S} (i : Nat) (x : Int32) : FF S (up S 29 i x) := ⟨fun c _ b _ => up_ne c (by omega), fun y _ => by rw [up_ne 25 (by decide)], by rw [up_ne 26 (by decide)]⟩
/-- what stands while places are filled -/
def WS (S : am_S) (f n : Nat) (ρ : Nat → Nat) (B q qf E : Nat) : Prop := VC S q n ρ ∧ FC S qf f ∧ S 25 6 = nI q ∧ S 25 7 = nI qf ∧ S 25 8 = nI B ∧ S 25 11 = nI E ∧ WA S n ρ B 49
theorem WS_FF {S S' : am_S} {f n B q qf E : Nat} {ρ : Nat → Nat} (hq : 38 < q) (hqf : 38 < qf) (h : WS S f n ρ B q qf E) (hf : FF S S') : WS S' f n ρ B q qf E := by
  obtain ⟨h1, h2, h3, h4, h5, h6, h7⟩ := h
  refine ⟨⟨h1.1, h1.2.1, h1.2.2.1, ?_, fun s hs => ?_⟩, ⟨h2.1, h2.2.1, h2.2.2.1, ?_, fun b hb => ?_⟩, ?_, ?_, ?_, ?_, WA_eq h7 (hf.2.1 9 (by decide)) (fun x a b => hf.1 x (by omega) (by omega) (by omega))⟩
  · rw [hf.1 q (by omega) (by omega) (by omega)]; exact h1.2.2.2.1
  · rw [hf.1 (q + 1) (by omega) (by omega) (by omega)]; exact h1.2.2.2.2 s hs
  · rw [hf.1 qf (by omega) (by omega) (by omega)]; exact h2.2.2.2.1
  · rw [hf.1 (qf + 1) (by omega) (by omega) (by omega)]; exact h2.2.2.2.2 b hb
  · rw [hf.2.1 6 (by decide)]; exact h3
  · rw [hf.2.1 7 (by decide)]; exact h4
  · rw [hf.2.1 8 (by decide)]; exact h5
  · rw [hf.2.1 11 (by decide)]; exact h6
/-- the matrix holds a filling up to a code -/
def MK (S : am_S) (f n : Nat) (ρ : Nat → Nat) (B k c : Nat) : Prop := ∃ cm : Nat → vec, MX S 26 f cm ∧ ∀ g i, g < 7 → i < 7 → (7 * g + i < c ∨ plc n ρ B (7 * g + i) = false) → cm g i = ent f n ρ B k (7 * g + i)
theorem MK_Xm {S S' : am_S} {f n B k c : Nat} {ρ : Nat → Nat} (h : MK S f n ρ B k c) (hx : Xm 26 S S') : MK S' f n ρ B k c := by
  obtain ⟨cm, h1, h2⟩ := h
  exact ⟨cm, MX_Xm h1 hx, h2⟩
theorem MK_sub {S : am_S} {f n B k k' c c' : Nat} {ρ : Nat → Nat} (h : MK S f n ρ B k c) (he : ∀ x, (x < c' ∨ plc n ρ B x = false) → (x < c ∨ plc n ρ B x = false) ∧ ent f n ρ B k x = ent f n ρ B k' x) : MK S f n ρ B k' c' := by
  obtain ⟨cm, h1, h2⟩ := h
  exact ⟨cm, h1, fun g i hg hi hx => by
    obtain ⟨e1, e2⟩ := he _ hx
    rw [← e2]; exact h2 g i hg hi e1⟩
/-- a number is put at a place -/
theorem MK_put {S : am_S} {f n B k k' e i v : Nat} {ρ : Nat → Nat} (h : MK S f n ρ B k (7 * e + i)) (he : e < 7) (hi : i < 7) (hv : v = ent f n ρ B k' (7 * e + i)) (hk : ∀ x, (x < 7 * e + i ∨ plc n ρ B x = false) → ent f n ρ B k x = ent f n ρ B k' x) : MK (up S 29 (7 * e + i) (nI v)) f n ρ B k' (7 * e + i + 1) := by
  obtain ⟨cm, ⟨m1, m2, ⟨q, m3, m4, m5, m6⟩, m7, m8⟩, h2⟩ := h
  refine ⟨fun g j => if g = e ∧ j = i then v else cm g j, ⟨m1, m2, ⟨q, m3, by rw [up_ne 26 (by decide)]; exact m4, ⟨m5.1, m5.2.1, m5.2.2.1, by rw [up_ne q (by omega)]; exact m5.2.2.2.1, fun b hb => by rw [up_ne (q + 1) (by omega)]; exact m5.2.2.2.2 b hb⟩, m6⟩, fun g hg j hj => ?_, fun g hg j hj => ?_⟩, fun g j hg hj hx => ?_⟩
  · dsimp only
    split
    · rw [hv]; exact ent_lt f n ρ B k' _
    · exact m7 g hg j hj
  · show up S 29 (7 * e + i) (nI v) 29 (7 * g + j) = nI (if g = e ∧ j = i then v else cm g j)
    rw [up_upd]; unfold upd
    by_cases hc : g = e ∧ j = i
    · rw [if_pos (by omega), if_pos hc]
    · rw [if_neg (by omega), if_neg hc]; exact m8 g hg j hj
  · dsimp only
    by_cases hc : g = e ∧ j = i
    · rw [if_pos hc, hv, hc.1, hc.2]
    · rw [if_neg hc]
      have hx' : 7 * g + j < 7 * e + i ∨ plc n ρ B (7 * g + j) = false := by
        rcases hx with hx | hx
        · exact Or.inl (by omega)
        · exact Or.inr hx
      rw [h2 g j hg hj hx']
      exact hk _ hx'
theorem MK_rk {S : am_S} {f n B k e c s : Nat} {ρ : Nat → Nat} {cm : Nat → vec} (hf : f < 4) (hn : n ≤ 7) (hM : MX S 26 f cm) (hcm : ∀ g i, g < 7 → i < 7 → (7 * g + i < c ∨ plc n ρ B (7 * g + i) = false) → cm g i = ent f n ρ B k (7 * g + i)) (hlast : ∀ x, x < 49 → plc n ρ B x = true → x / 7 ≤ e → x < c) (hs : s < 2 ^ n) (hsub : wc_an s (B ||| (2 ^ (e + 1) - 1)) = 0) : rkf f cm s = rkf f (wcol f n ρ B k) s := by
  have hs7 := p2_128 hn hs
  refine rkf_ext hf hM.2.2.2.1 (vdc_wcol f n ρ B k) hs7 (fun g hg hgs i hi => ?_)
  refine hcm g i hg hi ?_
  obtain ⟨d1, d2⟩ := code_d (e := g) hi
  rcases out_fill hs7 hsub hgs with h | h
  · exact Or.inr (plc_B (by rw [d1]; exact h))
  · cases hp : plc n ρ B (7 * g + i) with
    | false => exact Or.inr rfl
    | true => exact Or.inl (hlast _ (by omega) hp (by omega))
theorem c9_fits (d : Nat) {S : am_S} {f n B q qf E k e c : Nat} {ρ : Nat → Nat} (hq : 38 < q) (hq31 : q < 2 ^ 31) (hf : f < 4) (hB : B < 2 ^ n) (hW : WS S f n ρ B q qf E) (hM : MK S f n ρ B k c) (he : e < n) (hlast : ∀ x, x < 49 → plc n ρ B x = true → x / 7 ≤ e → x < c) : ∃ S', am_cal am_mt (d + 7) jX9_fits [.ref 25, .int (nI e)] (ws S) = some (some (.int (bI (fit f n ρ B k e))), ws S') ∧ Xm 26 S S' := by
  obtain ⟨hC, hF, h6, h7, h8, h11, hA⟩ := id hW
  have hn := hC.n7
  have hB7 := p2_128 hn hB
  have h27 := p2_le hn
  have hpB := pc_le B
  obtain ⟨cm, hX, hcm⟩ := hM
  obtain ⟨F, hFd⟩ : ∃ F, F = B ||| (2 ^ (e + 1) - 1) := ⟨_, rfl⟩
  have hFill : nI B ||| (((2 : Int32) <<< (nI e &&& (31 : Int32))) - (1 : Int32)) = nI F := by
    rw [wc_2shl (by omega), show (1 : Int32) = nI 1 from rfl, pk_sub (by have := Nat.two_pow_pos e; omega), wc_or, hFd, Nat.pow_succ, Nat.mul_comm]
  have key : wp (am_cal am_mt (d + 7) jX9_fits [.ref 25, .int (nI e)] (ws S)) (fun o S' => o = some (.int (bI (fit f n ρ B k e))) ∧ Xm 26 S S') := by
    rw [eX9_fits_0, kO25, if_T, kI25_8, wc_bind, wc_bind, h8, J_bits _ hB7, cI_some, wc_bind, hFill]
    dsimp only
    rw [show (0 : Int32) = nI 0 from rfl]
    refine loop_wp (fun s (z : am_S × Option Value) => am_run true (am_cal am_mt (d + 6)) (am_lk tbX9_fits) 22 [some (.ref 25), some (.int (nI e)), some (.int (nI F)), some (.int (nI (pc B))), some (.int (nI s)), z.2] [] (ws z.1)) (fun s z => Xm 26 S z.1 ∧ ∀ j, j < s → (!(j.testBit e && (wc_an j (B ||| (2 ^ (e + 1) - 1)) == 0) && (pc j == pc B)) || ((rkf f (wcol f n ρ B k) j == pc B) == (ρ j == pc B))) = true) _ (2 ^ n) ?_ ?_ 0 (S, none) (Nat.zero_le _) ⟨Xm.rf, fun j hj => absurd hj (Nat.not_lt_zero j)⟩
    · intro s ⟨S1, y⟩ hs ⟨x1, x2⟩ K
      show wp (am_run _ _ _ _ _ _ _) _
      have x1 : Xm 26 S S1 := x1
      have hs7 := p2_128 hn hs
      have hC1 : VC S1 q n ρ := VC_Cr hC x1.1 (by omega)
      have h61 : S1 25 6 = nI q := by rw [x1.1 25 (by decide)]; exact h6
      have K2 : ∀ S2 y2, Xm 26 S S2 → (!(s.testBit e && (wc_an s (B ||| (2 ^ (e + 1) - 1)) == 0) && (pc s == pc B)) || ((rkf f (wcol f n ρ B k) s == pc B) == (ρ s == pc B))) = true → wp (am_run true (am_cal am_mt (d + 6)) (am_lk tbX9_fits) 22 [some (.ref 25), some (.int (nI e)), some (.int (nI F)), some (.int (nI (pc B))), some (.int (nI (s + 1))), y2] [] (ws S2)) _ := fun S2 y2 g1 g2 => K (S2, y2) ⟨g1, fun j hj => by
        by_cases hjs : j = s
        · rw [hjs]; exact g2
        · exact x2 j (by omega)⟩
      dsimp only
      rw [eX9_fits_22, kM25_6, wc_bind, h61, nI_clamp hq31, c8_all _ hC1, cI_some, wc_bind, if_neg (p2_all hs hn), wc_bit (show s < 2 ^ 31 by omega) (show e < 32 by omega)]
      dsimp only
      cases hb : s.testBit e with
      | false =>
        rw [if_pos bI_F, eX9_fits_56, eX9_fits_57, if_pos rfl, nI_1]
        exact K2 S1 _ x1 (by rw [hb]; rfl)
      | true =>
        have han : wc_an s F < 2 ^ 31 := by have := wc_an_lt (t := F) hs7; omega
        rw [if_neg bI_T, wc_anI]
        by_cases h0 : wc_an s F = 0
        · have hps := pc_le s
          rw [if_pos (by rw [h0]; rfl), eX9_fits_57, if_neg (show ¬ (1 : Int32) = 0 by decide), J_bits _ hs7, cI_some, wc_bind, nI_1]
          dsimp only
          by_cases hp : pc s = pc B
          · have hrk := MK_rk (k := k) hf hn hX hcm hlast hs (by rw [← hFd]; exact h0)
            obtain ⟨S2, a1, a2⟩ := c5_rankOf d (MX_Xm hX x1) (show s < 2 ^ 7 from hs7)
            have a3 := x1.tr a2
            have hC2 : VC S2 q n ρ := VC_Cr hC a3.1 (by omega)
            have h62 : S2 25 6 = nI q := by rw [a3.1 25 (by decide)]; exact h6
            have l1 : rkf f cm s ≤ 7 := rkf_le
            have l2 := hC.le hs
            have hprop : ∀ v : Bool, ((rkf f (wcol f n ρ B k) s == pc B) == (ρ s == pc B)) = v → (!(s.testBit e && (wc_an s (B ||| (2 ^ (e + 1) - 1)) == 0) && (pc s == pc B)) || ((rkf f (wcol f n ρ B k) s == pc B) == (ρ s == pc B))) = v := fun v hv => by
              rw [hv, hb, ← hFd, h0, hp, beq_self_eq_true, beq_self_eq_true]
              rfl
            have hbad : ((rkf f (wcol f n ρ B k) s == pc B) == (ρ s == pc B)) = false → fit f n ρ B k e = false := fun hv => (wc_al_false _ _).mpr ⟨s, hs, hprop false hv⟩
            rw [if_pos (congrArg nI hp), kR25_0, wc_bind, a1, cI_some, wc_bind, hrk]
            dsimp only
            rw [hrk] at l1
            by_cases hr : rkf f (wcol f n ρ B k) s = pc B
            · rw [if_pos (congrArg nI hr), kM25_6, wc_bind, h62, nI_clamp hq31, c8_rankOf _ hC2 hs, cI_some, wc_bind]
              dsimp only
              by_cases hρ : ρ s = pc B
              · rw [if_pos (congrArg nI hρ)]
                exact K2 S2 _ a3 (hprop true (by rw [hr, hρ, beq_self_eq_true]))
              · rw [if_neg (fun z => hρ ((nI_eq (by omega) (by omega)).mp z)), hbad (by rw [hr, beq_self_eq_true, show (ρ s == pc B) = false from beq_eq_false_iff_ne.mpr hρ]; rfl)]
                exact wp_ret ⟨rfl, a3⟩
            · rw [if_neg (fun z => hr ((nI_eq (by omega) (by omega)).mp z)), kM25_6, wc_bind, h62, nI_clamp hq31, c8_rankOf _ hC2 hs, cI_some, wc_bind]
              dsimp only
              by_cases hρ : ρ s = pc B
              · rw [if_pos (congrArg nI hρ), hbad (by rw [hρ, beq_self_eq_true, show (rkf f (wcol f n ρ B k) s == pc B) = false from beq_eq_false_iff_ne.mpr hr]; rfl)]
                exact wp_ret ⟨rfl, a3⟩
              · rw [if_neg (fun z => hρ ((nI_eq (by omega) (by omega)).mp z))]
                exact K2 S2 _ a3 (hprop true (by rw [show (rkf f (wcol f n ρ B k) s == pc B) = false from beq_eq_false_iff_ne.mpr hr, show (ρ s == pc B) = false from beq_eq_false_iff_ne.mpr hρ]; rfl))
          · rw [if_neg (fun z => hp ((nI_eq (by omega) (by omega)).mp z))]
            exact K2 S1 _ x1 (by rw [show (pc s == pc B) = false from beq_eq_false_iff_ne.mpr hp, Bool.and_false]; rfl)
        · rw [if_neg (nI_ne0 (by omega) han), eX9_fits_56, eX9_fits_57, if_pos rfl, nI_1]
          exact K2 S1 _ x1 (by rw [← hFd, show (wc_an s F == 0) = false from beq_eq_false_iff_ne.mpr h0, Bool.and_false, Bool.false_and]; rfl)
    · intro ⟨S1, y⟩ ⟨x1, x2⟩
      show wp (am_run _ _ _ _ _ _ _) _
      have x1 : Xm 26 S S1 := x1
      have hC1 : VC S1 q n ρ := VC_Cr hC x1.1 (by omega)
      have h61 : S1 25 6 = nI q := by rw [x1.1 25 (by decide)]; exact h6
      have hfit : fit f n ρ B k e = true := (wc_al_iff _ _).mpr x2
      dsimp only
      rw [eX9_fits_22, kM25_6, wc_bind, h61, nI_clamp hq31, c8_all _ hC1, cI_some, wc_bind, if_pos (p2_end hn), hfit]
      dsimp only
      exact wp_ret ⟨rfl, x1⟩
  obtain ⟨o, S', h1, rfl, h2⟩ := key
  exact ⟨S', h1, h2⟩
/-- no place of its column comes after it -/
def lst (n : Nat) (ρ : Nat → Nat) (B c : Nat) : Bool := wc_al 49 (fun x => !(decide (c < x) && (plc n ρ B x && (x / 7 == c / 7))))
theorem lst_T {n B c : Nat} {ρ : Nat → Nat} (h : lst n ρ B c = true) : ∀ x, c < x → x < 49 → plc n ρ B x = true → x / 7 ≠ c / 7 := by
  intro x h1 h2 h3 h4
  have := (wc_al_iff _ _).mp h x h2
  rw [decide_eq_true h1, h3, h4, beq_self_eq_true] at this
  cases this
theorem lst_F {n B c : Nat} {ρ : Nat → Nat} (h : lst n ρ B c = false) : ∃ x, c < x ∧ x < 49 ∧ plc n ρ B x = true ∧ x / 7 = c / 7 := by
  obtain ⟨x, h1, h2⟩ := (wc_al_false _ _).mp h
  rw [Bool.not_eq_false', Bool.and_eq_true, Bool.and_eq_true, decide_eq_true_iff, beq_iff_eq] at h2
  exact ⟨x, h2.1, h1, h2.2.1, h2.2.2⟩
theorem lst_mk {n B c : Nat} {ρ : Nat → Nat} (h : ∀ x, c < x → x < 49 → plc n ρ B x = true → x / 7 ≠ c / 7) : lst n ρ B c = true := by
  cases hl : lst n ρ B c with
  | true => rfl
  | false =>
    obtain ⟨x, h1, h2, h3, h4⟩ := lst_F hl
    exact absurd h4 (h x h1 h2 h3)
theorem c9_isLast (d : Nat) {S : am_S} {n B c : Nat} {ρ : Nat → Nat} (hn : n ≤ 7) (hB : B < 2 ^ n) (hA : WA S n ρ B 49) (hp : plc n ρ B c = true) (hc : c < 49) : am_cal am_mt (d + 1) jX9_isLastOfColumn [.ref 25, .int (nI (pix n ρ B c))] (ws S) = some (some (.int (bI (lst n ρ B c))), ws S) := by
  have h12 := pix_12 ρ hn hB
  have hlt : pix n ρ B c < pix n ρ B 49 := cn_lt hc hp
  obtain ⟨w1, w2, w3⟩ := hA
  rw [eX9_isLastOfColumn_0, kO25, if_T, kI25_9, wc_bind, w1, nI_1]
  by_cases hK : pix n ρ B 49 ≤ pix n ρ B c + 1
  · have hl : lst n ρ B c = true := lst_mk (fun x h1 h2 h3 => by
      have g1 : pix n ρ B c < pix n ρ B x := cn_lt h1 hp
      have g2 : pix n ρ B x < pix n ρ B 49 := cn_lt h2 h3
      omega)
    rw [if_pos (nI_le hK (by omega)), hl]
    rfl
  · obtain ⟨c', h1, h2, h3⟩ := cn_at (plc n ρ B) (pix n ρ B c + 1) 49 (show pix n ρ B c + 1 < pix n ρ B 49 by omega)
    have h3 : pix n ρ B c' = pix n ρ B c + 1 := h3
    have hcc : c < c' := by
      apply Classical.byContradiction
      intro hx
      have : pix n ρ B c' ≤ pix n ρ B c := cn_mono (by omega)
      omega
    rw [if_neg (nI_ge (by omega) (by omega)), if_neg (show ¬ (12 : Int32) ≤ nI (pix n ρ B c + 1) from nI_ge (b := 12) (by omega) (by decide)), kR25_1, wc_bind, kA34 S (by omega), wc_bind, wc_bind, kA34 S (by omega), wc_bind, (w2 c hc hp).1, ← h3, (w2 c' h1 h2).1]
    by_cases he : c' / 7 = c / 7
    · have hl : lst n ρ B c = false := by
        cases hl : lst n ρ B c with
        | false => rfl
        | true => exact absurd he (lst_T hl c' hcc h1 h2)
      rw [if_pos (congrArg nI he), hl]
      rfl
    · have hl : lst n ρ B c = true := lst_mk (fun x g1 g2 g3 => by
        have q1 : pix n ρ B c < pix n ρ B x := cn_lt g1 hp
        have q2 : c' ≤ x := by
          apply Classical.byContradiction
          intro hx
          have : pix n ρ B x < pix n ρ B c' := cn_lt (by omega) g3
          omega
        omega)
      rw [if_neg (fun z => he ((nI_eq (by omega) (by omega)).mp z)), hl]
      rfl
/-- a writing is kept -/
theorem c9_keep (d : Nat) {S : am_S} {f n B q qf E k x : Nat} {ρ : Nat → Nat} (hqf31 : qf < 2 ^ 31) (hqf : 38 < qf) (hW : WS S f n ρ B q qf E) (h0 : S 26 0 = nI qf) (hM : MK S f n ρ B k 49) (hx : S 25 10 = nI x) (hx31 : x < 2 ^ 31) : ∃ S', am_cal am_mt (d + 3) jX9_keep [.ref 25] (ws S) = some (none, ws S') ∧ (∀ c, c ≠ 25 → c ≠ 38 → S' c = S c) ∧ (∀ y, y ≠ 10 → S' 25 y = S 25 y) ∧ S' 25 10 = nI (x + 1) ∧ ∀ e, e < 7 → S' 38 e = if x = 0 then nI (cod f (wcol f n ρ B k e)) else S 38 e := by
  obtain ⟨hC, hF, h6, h7, h8, h11, hA⟩ := id hW
  obtain ⟨cm, hX, hcm⟩ := hM
  have key : wp (am_cal am_mt (d + 3) jX9_keep [.ref 25] (ws S)) (fun o S' => o = none ∧ (∀ c, c ≠ 25 → c ≠ 38 → S' c = S c) ∧ (∀ y, y ≠ 10 → S' 25 y = S 25 y) ∧ S' 25 10 = nI (x + 1) ∧ ∀ e, e < 7 → S' 38 e = if x = 0 then nI (cod f (wcol f n ρ B k e)) else S 38 e) := by
    rw [eX9_keep_0, kO25, if_T, kI25_10, wc_bind, hx]
    by_cases h : x = 0
    · rw [if_pos (by rw [h]; rfl), show (0 : Int32) = nI 0 from rfl]
      refine loop_wp (fun e S' => am_run false (am_cal am_mt (d + 2)) (am_lk tbX9_keep) 9 [some (.ref 25), some (.int (nI e))] [] (ws S')) (fun e S' => (∀ c, c ≠ 38 → S' c = S c) ∧ ∀ y, y < e → S' 38 y = nI (cod f (wcol f n ρ B k y))) _ 7 ?_ ?_ 0 S (Nat.zero_le _) ⟨fun _ _ => rfl, fun y hy => absurd hy (Nat.not_lt_zero y)⟩
      · intro e S' he ⟨g1, g2⟩ K
        show wp (am_run _ _ _ _ _ _ _) _
        have hF' : FC S' qf f := ⟨hF.1, hF.2.1, hF.2.2.1, by rw [g1 qf (by omega)]; exact hF.2.2.2.1, fun b hb => by rw [g1 (qf + 1) (by omega)]; exact hF.2.2.2.2 b hb⟩
        have hcode := c5_codeOf d (S := S') (m := 26) (f := f) (g := e) (q := qf) (v := wcol f n ρ B k e) mq_26 hqf31 (by rw [g1 26 (by decide)]; exact h0) hF' he (fun i hi => by
          rw [g1 29 (by decide), hX.2.2.2.2 e he i hi, hcm e i he hi (Or.inl (by omega))]
          rfl)
        rw [eX9_keep_9, if_neg (show ¬ (7 : Int32) ≤ nI e from nI_ge (b := 7) he (by decide)), kR25_5, wc_bind, kR25_0, wc_bind, hcode, cI_some, wc_bind]
        dsimp only
        rw [kW38 S' he, wc_bind, nI_1]
        refine K _ ⟨fun c hc => by rw [up_ne c hc]; exact g1 c hc, fun y hy => ?_⟩
        rw [up_upd]; unfold upd
        by_cases hye : y = e
        · rw [if_pos hye, hye]
        · rw [if_neg hye]; exact g2 y (by omega)
      · intro S' ⟨g1, g2⟩
        show wp (am_run _ _ _ _ _ _ _) _
        rw [eX9_keep_9, if_pos (by decide), kI25_10, wc_bind, kS25_10, wc_bind, g1 25 (by decide), hx, nI_1]
        refine wp_ret ⟨rfl, fun c h1 h2 => by rw [up_ne c h1]; exact g1 c h2, fun y hy => ?_, up_self _ _ _ _, fun e he => ?_⟩
        · rw [up_upd]; unfold upd; rw [if_neg hy, g1 25 (by decide)]
        · rw [up_ne 38 (by decide), g2 e he, if_pos h]
    · rw [if_neg (nI_ne0 (by omega) hx31), wc_bind, kS25_10, wc_bind, nI_1]
      refine wp_ret ⟨rfl, fun c h1 h2 => up_ne c h1, fun y hy => ?_, up_self _ _ _ _, fun e he => ?_⟩
      · rw [up_upd]; unfold upd; rw [if_neg hy]
      · rw [up_ne 38 (by decide), if_neg h]
  obtain ⟨o, S', h1, rfl, h2⟩ := key
  exact ⟨S', h1, h2⟩
