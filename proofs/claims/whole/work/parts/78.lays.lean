/-! ===== what the reference joins ===== -/
def jm (L : Nat → Nat) (a b : Nat) : Nat → Nat := fun x => if L x = L a then L b else L x
theorem jn_iff {L : Nat → Nat} {a b : Nat} (h : ¬ L a = L b) (x y : Nat) : jn L a b x = jn L a b y ↔ L x = L y ∨ (L x = L a ∧ L y = L b) ∨ (L x = L b ∧ L y = L a) := by
  unfold jn
  by_cases h1 : L x = L b
  · by_cases h2 : L y = L b
    · rw [if_pos h1, if_pos h2]; exact ⟨fun _ => Or.inl (by omega), fun _ => rfl⟩
    · rw [if_pos h1, if_neg h2]; exact ⟨fun e => Or.inr (Or.inr ⟨h1, e.symm⟩), fun e => by omega⟩
  · by_cases h2 : L y = L b
    · rw [if_neg h1, if_pos h2]; exact ⟨fun e => Or.inr (Or.inl ⟨e, h2⟩), fun e => by omega⟩
    · rw [if_neg h1, if_neg h2]; exact ⟨fun e => Or.inl e, fun e => by omega⟩
theorem jm_iff {L : Nat → Nat} {a b : Nat} (h : ¬ L a = L b) (x y : Nat) : jm L a b x = jm L a b y ↔ L x = L y ∨ (L x = L a ∧ L y = L b) ∨ (L x = L b ∧ L y = L a) := by
  unfold jm
  by_cases h1 : L x = L a
  · by_cases h2 : L y = L a
    · rw [if_pos h1, if_pos h2]; exact ⟨fun _ => Or.inl (by omega), fun _ => rfl⟩
    · rw [if_pos h1, if_neg h2]; exact ⟨fun e => Or.inr (Or.inl ⟨h1, e.symm⟩), fun e => by omega⟩
  · by_cases h2 : L y = L a
    · rw [if_neg h1, if_pos h2]; exact ⟨fun e => Or.inr (Or.inr ⟨e, h2⟩), fun e => by omega⟩
    · rw [if_neg h1, if_neg h2]; exact ⟨fun e => Or.inl e, fun e => by omega⟩
/-- rows, and columns that aren't of the base -/
def dom (B x : Nat) : Prop := x < 14 ∧ (x < 7 ∨ B.testBit (x - 7) = false)
/-- the reference's marks join alike -/
def QM (n : Nat) (ρ : Nat → Nat) (B c : Nat) (M : Nat → Nat) : Prop := (∀ x, x < 14 → M x < 14) ∧ (∀ x y, dom B x → dom B y → (M x = M y ↔ lbl n ρ B c x = lbl n ρ B c y)) ∧ ∀ e, e < 7 → B.testBit e = true → c ≤ 7 * e + pc (B % 2 ^ e) → M (7 + e) = 7 + e ∧ ∀ x, x < 14 → M x = 7 + e → x = 7 + e
theorem QM_0 (n : Nat) (ρ : Nat → Nat) (B : Nat) : QM n ρ B 0 (fun x => x) := ⟨fun x hx => hx, fun x y _ _ => Iff.rfl, fun e _ _ _ => ⟨rfl, fun x _ h => h⟩⟩
theorem jm_lt {L : Nat → Nat} {a b : Nat} (h : ∀ x, x < 14 → L x < 14) (hb : b < 14) : ∀ x, x < 14 → jm L a b x < 14 := fun x hx => by
  unfold jm
  split
  · exact h b hb
  · exact h x hx
theorem QM_np {n B c : Nat} {ρ M : Nat → Nat} (h : QM n ρ B c M) (hp : plc n ρ B c = false) : QM n ρ B (c + 1) M := by
  refine ⟨h.1, fun x y hx hy => ?_, fun e he hb hc => h.2.2 e he hb (by omega)⟩
  rw [lbl_s, hp, Bool.false_and, if_neg Bool.false_ne_true]
  exact h.2.1 x y hx hy
theorem QM_free {n B c : Nat} {ρ M : Nat → Nat} (h : QM n ρ B c M) (hj : jf n ρ B c = false) : QM n ρ B (c + 1) M := by
  refine ⟨h.1, fun x y hx hy => ?_, fun e he hb hc => h.2.2 e he hb (by omega)⟩
  rw [lbl_s, hj, Bool.and_false, if_neg Bool.false_ne_true]
  exact h.2.1 x y hx hy
theorem QM_jf {n B e i : Nat} {ρ M : Nat → Nat} (h : QM n ρ B (7 * e + i) M) (hi : i < 7) (he : e < 7) (hb : B.testBit e = false) : (M i = M (7 + e)) ↔ jf n ρ B (7 * e + i) = false := by
  obtain ⟨d1, d2⟩ := code_d (e := e) hi
  rw [h.2.1 i (7 + e) ⟨by omega, Or.inl hi⟩ ⟨by omega, Or.inr (by rw [show 7 + e - 7 = e by omega]; exact hb)⟩]
  unfold jf
  rw [d1, d2, Bool.not_eq_false', beq_iff_eq]
theorem QM_join {n B e i : Nat} {ρ M : Nat → Nat} (h : QM n ρ B (7 * e + i) M) (hi : i < 7) (he : e < 7) (hp : plc n ρ B (7 * e + i) = true) (hj : jf n ρ B (7 * e + i) = true) : QM n ρ B (7 * e + i + 1) (jm M i (7 + e)) := by
  obtain ⟨d1, d2⟩ := code_d (e := e) hi
  have hb : B.testBit e = false := by have := (plc_iff.mp hp).2.1; rwa [d1] at this
  have hdi : dom B i := ⟨by omega, Or.inl hi⟩
  have hde : dom B (7 + e) := ⟨by omega, Or.inr (by rw [show 7 + e - 7 = e by omega]; exact hb)⟩
  have hM : ¬ M i = M (7 + e) := fun x => by
    have := (QM_jf h hi he hb).mp x
    rw [hj] at this
    cases this
  have hL : ¬ lbl n ρ B (7 * e + i) i = lbl n ρ B (7 * e + i) (7 + e) := fun x => hM ((h.2.1 _ _ hdi hde).mpr x)
  refine ⟨jm_lt h.1 (by omega), fun x y hx hy => ?_, fun e' he' hb' hc => ?_⟩
  · rw [lbl_s, hp, hj, Bool.true_and, if_pos rfl, d1, d2, jm_iff hM, jn_iff hL, h.2.1 x y hx hy, h.2.1 x i hx hdi, h.2.1 y (7 + e) hy hde, h.2.1 x (7 + e) hx hde, h.2.1 y i hy hdi]
  · obtain ⟨g1, g2⟩ := h.2.2 e' he' hb' (by omega)
    have hne : e' ≠ e := fun x => by rw [x, hb] at hb'; cases hb'
    have hMi : ¬ M i = 7 + e' := fun x => by have := g2 i (by omega) x; omega
    have hMe : ¬ M (7 + e) = 7 + e' := fun x => by have := g2 (7 + e) (by omega) x; omega
    refine ⟨?_, fun x hx hxe => ?_⟩
    · unfold jm
      rw [g1, if_neg (fun x => hMi x.symm)]
    · unfold jm at hxe
      by_cases hxi : M x = M i
      · rw [if_pos hxi] at hxe; exact absurd hxe hMe
      · rw [if_neg hxi] at hxe; exact g2 x hx hxe
theorem QM_base {n B e i : Nat} {ρ M : Nat → Nat} (h : QM n ρ B (7 * e + i) M) (hi : i < 7) (he : e < 7) (hb : B.testBit e = true) (hr : i = pc (B % 2 ^ e)) : ¬ M i = M (7 + e) ∧ QM n ρ B (7 * e + i + 1) (jm M i (7 + e)) := by
  obtain ⟨d1, d2⟩ := code_d (e := e) hi
  obtain ⟨g1, g2⟩ := h.2.2 e he hb (by omega)
  have hp : plc n ρ B (7 * e + i) = false := plc_B (by rw [d1]; exact hb)
  have hd : ∀ x, dom B x → ¬ M x = 7 + e := fun x hx hxe => by
    have h1 := g2 x hx.1 hxe
    rcases hx.2 with h2 | h2
    · omega
    · rw [h1, show 7 + e - 7 = e by omega, hb] at h2; cases h2
  refine ⟨fun x => hd i ⟨by omega, Or.inl hi⟩ (by rw [x, g1]), jm_lt h.1 (by omega), fun x y hx hy => ?_, fun e' he' hb' hc => ?_⟩
  · rw [lbl_s, hp, Bool.false_and, if_neg Bool.false_ne_true, ← h.2.1 x y hx hy]
    have k1 := hd x hx
    have k2 := hd y hy
    unfold jm
    rw [g1]
    by_cases h1 : M x = M i
    · by_cases h2 : M y = M i
      · rw [if_pos h1, if_pos h2]; exact ⟨fun _ => by omega, fun _ => rfl⟩
      · rw [if_pos h1, if_neg h2]; exact ⟨fun e => by omega, fun e => by omega⟩
    · by_cases h2 : M y = M i
      · rw [if_neg h1, if_pos h2]; exact ⟨fun e => by omega, fun e => by omega⟩
      · rw [if_neg h1, if_neg h2]
  · have hne : e' ≠ e := fun x => by rw [x] at hc; omega
    obtain ⟨g3, g4⟩ := h.2.2 e' he' hb' (by omega)
    have hMi : ¬ M i = 7 + e' := fun x => by have := g4 i (by omega) x; omega
    refine ⟨?_, fun x hx hxe => ?_⟩
    · unfold jm
      rw [g3, if_neg (fun x => hMi x.symm)]
    · unfold jm at hxe
      by_cases hxi : M x = M i
      · rw [if_pos hxi, g1] at hxe; omega
      · rw [if_neg hxi] at hxe; exact g4 x hx hxe
theorem m_joins (d : Nat) {S : am_S} {L : Nat → Nat} {a b : Nat} (hL : ∀ x, x < 14 → S 99 x = nI (L x)) (hlt : ∀ x, x < 14 → L x < 14) (ha : a < 14) (hb : b < 14) : ∃ S', am_cal am_mt (d + 1) jX11_joins [.ref 88, .int (nI a), .int (nI b)] (ws S) = some (none, ws S') ∧ Cr 99 99 S S' ∧ ∀ x, x < 14 → S' 99 x = nI (jm L a b x) := by
  have la := hlt a ha
  have key : wp (am_cal am_mt (d + 1) jX11_joins [.ref 88, .int (nI a), .int (nI b)] (ws S)) (fun o S' => o = none ∧ Cr 99 99 S S' ∧ ∀ x, x < 14 → S' 99 x = nI (jm L a b x)) := by
    rw [eX11_joins_0, kO88, if_T, kR88_10, wc_bind, kA99 S ha, wc_bind, wc_bind, kA99 S hb, wc_bind, hL a ha, hL b hb, show (0 : Int32) = nI 0 from rfl]
    refine loop_wp (fun k S' => am_run false (am_cal am_mt d) (am_lk tbX11_joins) 18 [some (.ref 88), some (.int (nI a)), some (.int (nI b)), some (.int (nI (L a))), some (.int (nI (L b))), some (.int (nI k))] [] (ws S')) (fun k S' => Cr 99 99 S S' ∧ ∀ x, x < 14 → S' 99 x = nI (if x < k then jm L a b x else L x)) _ 14 ?_ ?_ 0 S (Nat.zero_le _) ⟨Cr.rf, fun x hx => by rw [if_neg (Nat.not_lt_zero x)]; exact hL x hx⟩
    · intro k S' hk ⟨h1, h2⟩ K
      show wp (am_run _ _ _ _ _ _ _) _
      have lk := hlt k hk
      rw [eX11_joins_18, if_neg (show ¬ (14 : Int32) ≤ nI k from nI_ge (b := 14) hk (by decide)), kR88_10, wc_bind, wc_bind, kA99 S' hk, wc_bind, h2 k hk, if_neg (Nat.lt_irrefl k), nI_1]
      have hstep : ∀ v, v = jm L a b k → Cr 99 99 S (up S' 99 k (nI v)) ∧ ∀ x, x < 14 → up S' 99 k (nI v) 99 x = nI (if x < k + 1 then jm L a b x else L x) := fun v hv => ⟨Cr_up h1 (by decide) (by decide), fun x hx => by
        rw [up_upd]; unfold upd
        by_cases hxk : x = k
        · rw [if_pos hxk, if_pos (by omega), hxk, hv]
        · rw [if_neg hxk, h2 x hx]
          by_cases hxl : x < k
          · rw [if_pos hxl, if_pos (by omega)]
          · rw [if_neg hxl, if_neg (by omega)]⟩
      by_cases hka : L k = L a
      · rw [if_pos (congrArg nI hka), kW99 S' hk, wc_bind]
        exact K _ (hstep (L b) (by unfold jm; rw [if_pos hka]))
      · rw [if_neg (fun c => hka ((nI_eq (by omega) (by omega)).mp c)), wc_bind, kA99 S' hk, wc_bind, h2 k hk, if_neg (Nat.lt_irrefl k), kW99 S' hk, wc_bind]
        exact K _ (hstep (L k) (by unfold jm; rw [if_neg hka]))
    · intro S' ⟨h1, h2⟩
      show wp (am_run _ _ _ _ _ _ _) _
      rw [eX11_joins_18, if_pos (by decide)]
      exact wp_ret ⟨rfl, h1, fun x hx => by rw [h2 x hx, if_pos hx]⟩
  obtain ⟨o, S', h1, rfl, h2⟩ := key
  exact ⟨S', h1, h2⟩
theorem m_firstBase (d : Nat) {S : am_S} {v n : Nat} {ρ : Nat → Nat} (hm : mat n ρ) (h : VM S v n ρ) : am_cal am_mt (d + 4) jX11_firstBase [.ref 88, .int (nI v)] (ws S) = some (some (.int (nI (lb n ρ))), ws S) := by
  have hn := h.n7
  obtain ⟨hb, hB, hlo⟩ := lb_ok hm hn
  have hB7 := p2_128 hn hB
  rw [eX11_firstBase_0, kO88, if_T, show (0 : Int32) = nI 0 from rfl]
  have e := loop_to (fun k => am_run false (am_cal am_mt (d + 3)) (am_lk tbX11_firstBase) 2 [some (.ref 88), some (.int (nI v)), some (.int (nI k))] [] (ws S)) (lb n ρ) (fun k hk => by
    show am_run _ _ _ _ _ _ _ = am_run _ _ _ _ _ _ _
    rw [eX11_firstBase_2, show (2 : Int32) = nI 2 from rfl, m_isOf _ h (show k < 2 ^ n by omega) (by decide) (by decide), cI_some, wc_bind, show srt n ρ 2 k = bas n ρ k from rfl, hlo k hk, if_pos bI_F, nI_1])
  refine e.trans ?_
  show am_run _ _ _ _ _ _ _ = _
  rw [eX11_firstBase_2, show (2 : Int32) = nI 2 from rfl, m_isOf _ h hB (by decide) (by decide), cI_some, wc_bind, show srt n ρ 2 (lb n ρ) = bas n ρ (lb n ρ) from rfl, hb, if_neg bI_T]
