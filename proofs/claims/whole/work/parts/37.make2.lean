/-! ===== minors, unions; uniform, dual, minor, union as calls ===== -/
theorem wc_s0 {e : Nat} (he : e < 32) : (0 : Int32) <<< (nI e &&& (31 : Int32)) = nI 0 := by
  have := wc_shl (a := 0) he (by rw [Nat.zero_mul]; decide)
  rwa [Nat.zero_mul] at this
theorem pc_tk (left e : Nat) (hl : left < 128) (he : e < 7) : pc (left % 2 ^ (e + 1)) = if left.testBit e then pc (left % 2 ^ e) + 1 else pc (left % 2 ^ e) := by
  rw [tk]
  split
  · exact pc_add1 _ (Nat.lt_of_le_of_lt (Nat.mod_le _ _) hl) e he (by rw [Nat.testBit_mod_two_pow, decide_eq_false (by omega), Bool.false_and])
  · rfl
def sprF (left s : Nat) (e : Nat) (a : Nat × Nat) : Nat × Nat := if left.testBit e then (if s.testBit a.2 then a.1 ||| 2 ^ e else a.1, a.2 + 1) else a
theorem sprF_ok {left s : Nat} (hl : left < 128) : ∀ k, k ≤ 7 → wc_fd k (sprF left s) (0, 0) = (wc_fd k (fun e a => if left.testBit e && s.testBit (pc (left % 2 ^ e)) then a ||| 2 ^ e else a) 0, pc (left % 2 ^ k)) := by
  intro k
  induction k with
  | zero => intro _; rw [wc_fd_0, wc_fd_0, Nat.pow_zero, Nat.mod_one, show pc 0 = 0 from by decide]
  | succ k ih =>
    intro hk
    rw [wc_fd_s, wc_fd_s, ih (by omega), pc_tk left k hl (by omega)]
    unfold sprF
    dsimp only
    cases left.testBit k with
    | false => simp only [Bool.false_eq_true, if_false, Bool.false_and]
    | true => simp only [if_true, Bool.true_and]
theorem c8_spread (d : Nat) {left s : Nat} (hl : left < 128) (hs : s < 128) (g : am_W) : am_cal am_mt (d + 1) jX8_spreadOver [.int (nI left), .int (nI s)] g = some (some (.int (nI (sprd left s))), g) := by
  rw [eX8_spreadOver_0]
  have key : ∀ k, k ≤ 7 → am_run false (am_cal am_mt d) (am_lk tbX8_spreadOver) 7 [some (.int (nI left)), some (.int (nI s)), some (.int (0 : Int32)), some (.int (0 : Int32)), some (.int (0 : Int32))] [] g = am_run false (am_cal am_mt d) (am_lk tbX8_spreadOver) 7 [some (.int (nI left)), some (.int (nI s)), some (.int (nI (wc_fd k (sprF left s) (0, 0)).1)), some (.int (nI (wc_fd k (sprF left s) (0, 0)).2)), some (.int (nI k))] [] g := by
    intro k
    induction k with
    | zero => intro _; rfl
    | succ k ih =>
      intro hk
      have hn : (wc_fd k (sprF left s) (0, 0)).2 < 32 := by rw [sprF_ok hl k (by omega)]; have := pc_le (left % 2 ^ k); dsimp only; omega
      rw [ih (by omega), wc_fd_s, eX8_spreadOver_7, if_neg (show ¬ (7 : Int32) ≤ nI k from nI_ge (b := 7) (by omega) (by decide)), wc_bit (by omega) (by omega), wc_bit (by omega) hn, nI_1, nI_1]
      generalize wc_fd k (sprF left s) (0, 0) = a at hn
      unfold sprF
      cases left.testBit k with
      | false => rw [if_pos bI_F, if_neg (by decide)]
      | true =>
        rw [if_neg bI_T, if_pos rfl]
        cases s.testBit a.2 with
        | true => rw [show bI true = 1 from rfl, wc_1shl (by omega), wc_or, if_pos rfl]
        | false => rw [show bI false = 0 from rfl, wc_s0 (by omega), wc_or, Nat.or_zero, if_neg (by decide)]
  rw [key 7 (Nat.le_refl 7), eX8_spreadOver_7, if_pos (by decide), sprF_ok hl 7 (Nat.le_refl 7)]
  rfl
theorem m_spread (d : Nat) {left s : Nat} (hl : left < 128) (hs : s < 128) (g : am_W) : am_cal am_mt (d + 2) jX11_spread [.int (nI s), .int (nI left)] g = some (some (.int (nI (sprd left s))), g) := by
  rw [eX11_spread_0]
  have key : ∀ k, k ≤ 7 → am_run false (am_cal am_mt (d + 1)) (am_lk tbX11_spread) 7 [some (.int (nI s)), some (.int (nI left)), some (.int (0 : Int32)), some (.int (0 : Int32)), some (.int (0 : Int32))] [] g = am_run false (am_cal am_mt (d + 1)) (am_lk tbX11_spread) 7 [some (.int (nI s)), some (.int (nI left)), some (.int (nI (wc_fd k (sprF left s) (0, 0)).1)), some (.int (nI (wc_fd k (sprF left s) (0, 0)).2)), some (.int (nI k))] [] g := by
    intro k
    induction k with
    | zero => intro _; rfl
    | succ k ih =>
      intro hk
      have hn : (wc_fd k (sprF left s) (0, 0)).2 < 32 := by rw [sprF_ok hl k (by omega)]; have := pc_le (left % 2 ^ k); dsimp only; omega
      rw [ih (by omega), wc_fd_s, eX11_spread_7, if_neg (show ¬ (7 : Int32) ≤ nI k from nI_ge (b := 7) (by omega) (by decide)), m_has _ (by omega) (by omega), cI_some, wc_bind, m_has _ (by omega) hn, cI_some, wc_bind, nI_1, nI_1]
      generalize wc_fd k (sprF left s) (0, 0) = a at hn
      unfold sprF
      cases left.testBit k with
      | false => rw [if_pos bI_F, if_neg (by decide)]
      | true =>
        rw [if_neg bI_T, if_pos rfl]
        cases s.testBit a.2 with
        | true => rw [if_neg bI_T, wc_1shl (by omega), wc_or, if_pos rfl]
        | false => rw [if_pos bI_F, show nI a.1 ||| 0 = nI a.1 from by rw [← nI_0, wc_or, Nat.or_zero], if_neg (by decide)]
  rw [key 7 (Nat.le_refl 7), eX11_spread_7, if_pos (by decide), sprF_ok hl 7 (Nat.le_refl 7)]
  rfl
theorem c8_minor (d : Nat) {S : am_S} {q p n x y : Nat} {ρ : Nat → Nat} (kq : vq q) (hm : mat n ρ) (h : VC S p n ρ) (hpq : p + 1 < q ∨ q + 1 < p) (hx : x < 2 ^ n) : ∃ S', am_cal am_mt (d + 3) jX8_becomeMinor [.ref q, .ref p, .int (nI x), .int (nI y)] (ws S) = some (none, ws S') ∧ Cr q (q + 1) S S' ∧ VC S' q (pc (wc_an (2 ^ n - 1) (x ||| y))) (mnr (wc_an (2 ^ n - 1) (x ||| y)) x ρ) := by
  have hn := h.n7
  have hl : wc_an (2 ^ n - 1) (x ||| y) < 2 ^ n := comp_lt _
  have hl7 := p2_128 hn hl
  have hp := pc_le (wc_an (2 ^ n - 1) (x ||| y))
  rw [eX8_becomeMinor_0, kq.O, if_T, c8_all _ h, cI_some, wc_bind, wc_or, wc_anI, J_bits _ hl7, cI_some, wc_bind]
  dsimp only
  have h0 := VC_Cr h (Cr_up Cr.rf (Nat.le_refl q) (Nat.le_succ q) : Cr q (q + 1) S (up S q 0 (nI (pc (wc_an (2 ^ n - 1) (x ||| y)))))) (by omega)
  rw [kq.sF, wc_bind, c8_rankOf _ h0 hx, cI_some, wc_bind]
  dsimp only
  refine fill_c kq hp (fun t ht => mat_7 (mat_mnr hm hn hl hx) hp ht) (fun e S' => am_run false (am_cal am_mt (d + 2)) (am_lk tbX8_becomeMinor) 31 [some (.ref q), some (.ref p), some (.int (nI x)), some (.int (nI y)), some (.int (nI (wc_an (2 ^ n - 1) (x ||| y)))), some (.int (nI (ρ x))), some (.int (nI e))] [] (ws S')) S ?_ ?_ _ (Cr_up Cr.rf (by omega) (by omega)) (up_self _ _ _ _)
  · intro e S' he he7 hc hq _
    show am_run _ _ _ _ _ _ _ = am_run _ _ _ _ _ _ _
    have h' := VC_Cr h hc (by omega)
    have hsx := or_lt (sprd_lt (s := e) hl) hx
    rw [eX8_becomeMinor_31, kq.all _ hp hq, cI_some, wc_bind, if_neg (p2_all he hp), kq.fR, wc_bind, c8_spread _ hl7 he7, cI_some, wc_bind, wc_or, c8_rankOf _ h' hsx, cI_some, wc_bind, pk_sub (mnr_ge hm hl hx e)]
    dsimp only
    rw [kq.sI _ he7, wc_bind, nI_1]
    rfl
  · intro S' hc hq
    show am_run _ _ _ _ _ _ _ = _
    rw [eX8_becomeMinor_31, kq.all _ hp hq, cI_some, wc_bind, if_pos (p2_end hp)]
theorem an_an (s x y : Nat) (hs : s < 2 ^ 32) : wc_an (wc_an s x) y = wc_an s (x ||| y) := by
  apply Nat.eq_of_testBit_eq
  intro i
  rw [wc_tan (wc_an_lt hs), wc_tan hs, wc_tan hs, Nat.testBit_or]
  cases s.testBit i <;> cases x.testBit i <;> cases y.testBit i <;> rfl
theorem m_minors (d : Nat) {S : am_S} {v w n x y : Nat} {ρ : Nat → Nat} (hm : mat n ρ) (h : VM S v n ρ) (hv : v < 13) (hw : w < 13) (hx : x < 2 ^ n) : ∃ S', am_cal am_mt (d + 3) jX11_minors [.ref 88, .int (nI v), .int (nI w), .int (nI x), .int (nI y)] (ws S) = some (none, ws S') ∧ Mw w S S' ∧ VM S' w (pc (wc_an (2 ^ n - 1) (x ||| y))) (mnr (wc_an (2 ^ n - 1) (x ||| y)) x ρ) := by
  have hn := h.n7
  have hw14 : w < 14 := by omega
  have hl : wc_an (2 ^ n - 1) (x ||| y) < 2 ^ n := comp_lt _
  have hl7 := p2_128 hn hl
  have hp := pc_le (wc_an (2 ^ n - 1) (x ||| y))
  have h32 : 2 ^ n - 1 < 2 ^ 32 := Nat.lt_of_lt_of_le (p2_m1 n) (Nat.le_trans (p2_le hn) (by decide))
  rw [eX11_minors_0, kO88, if_T, m_all _ h, cI_some, wc_bind, wc_anI, wc_anI, an_an _ _ _ h32, m_bits _ hl7, cI_some, wc_bind]
  dsimp only
  generalize hL : wc_an (2 ^ n - 1) (x ||| y) = left at hl hl7 hp
  have hb : ∀ e, e < 2 ^ pc left → ¬ (1 : Int32) <<< (nI (pc left) &&& (31 : Int32)) ≤ nI e := fun e he => by rw [wc_1shl (by omega)]; exact nI_ge he (by have := p2_le hp; omega)
  have hb2 : (1 : Int32) <<< (nI (pc left) &&& (31 : Int32)) ≤ nI (2 ^ pc left) := by rw [wc_1shl (by omega)]; exact nI_le (Nat.le_refl _) (by have := p2_le hp; omega)
  obtain ⟨S1, a1, a2, a3⟩ := fill_m (v := 13) (m := 2 ^ pc left) (f := mnr left x ρ) (p2_le hp) (fun e S' => am_run false (am_cal am_mt (d + 2)) (am_lk tbX11_minors) 26 [some (.ref 88), some (.int (nI v)), some (.int (nI w)), some (.int (nI x)), some (.int (nI y)), some (.int (nI left)), some (.int (nI (pc left))), some (.int (nI e))] [] (ws S')) S (by
    intro e S' he hr _
    show am_run _ _ _ _ _ _ _ = am_run _ _ _ _ _ _ _
    have h' := VM_Rw h hr (by omega)
    have he7 := p2_128 hp he
    rw [eX11_minors_26, if_neg (hb e he), kR88_3, wc_bind, m_spread _ hl7 he7, cI_some, wc_bind, wc_or, m_r _ h' (or_lt (sprd_lt (s := e) hl) hx), cI_some, wc_bind, m_r _ h' hx, cI_some, wc_bind, pk_sub (mnr_ge hm hl hx e), wc_again]
    dsimp only
    rw [kW92 _ (show 1664 + e < 1792 by omega), wc_bind, nI_1]
    rfl)
  obtain ⟨S2, b1, b2, b3⟩ := fill_m (v := w) (m := 2 ^ pc left) (f := mnr left x ρ) (p2_le hp) (fun e S' => am_run false (am_cal am_mt (d + 2)) (am_lk tbX11_minors) 84 [some (.ref 88), some (.int (nI v)), some (.int (nI w)), some (.int (nI x)), some (.int (nI y)), some (.int (nI left)), some (.int (nI (pc left))), some (.int (nI e))] [] (ws S')) (up S1 91 w (nI (pc left))) (by
    intro e S' he hr _
    show am_run _ _ _ _ _ _ _ = am_run _ _ _ _ _ _ _
    have he7 := p2_128 hp he
    rw [eX11_minors_84, if_neg (hb e he), kR88_3, wc_bind, wc_bind, wc_again, kA92 S' (show 1664 + e < 1792 by omega), wc_bind, wc_row, kW92 _ (show 128 * w + e < 1792 by omega), wc_bind, nI_1, hr.2 _ (by omega), up_ne 92 (by decide), show S1 92 (1664 + e) = nI (mnr left x ρ e) from a3 e he])
  refine ⟨S2, ?_, ((Mw_R13 a2).tr (Mw_up S1 (nI (pc left)))).tr (Mw_Rw b2), hw14, hp, by rw [b2.1 91 (by decide)]; exact up_self _ _ _ _, fun s hs => ⟨b3 s hs, mat_7 (mat_mnr hm hn hl hx) hp hs⟩⟩
  refine a1.trans ?_
  show am_run _ _ _ _ _ _ _ = _
  rw [eX11_minors_26, if_pos hb2, kR88_2, wc_bind, kW91 S1 hw14, wc_bind]
  refine b1.trans ?_
  show am_run _ _ _ _ _ _ _ = _
  rw [eX11_minors_84, if_pos hb2]
theorem c8_union (d : Nat) {S : am_S} {q p p2 n : Nat} {ρ σ : Nat → Nat} (kq : vq q) (hm : mat n ρ) (hm2 : mat n σ) (h : VC S p n ρ) (h2 : VC S p2 n σ) (hpq : p + 1 < q ∨ q + 1 < p) (hpq2 : p2 + 1 < q ∨ q + 1 < p2) : ∃ S', am_cal am_mt (d + 3) jX8_becomeUnion [.ref q, .ref p, .ref p2] (ws S) = some (none, ws S') ∧ Cr q (q + 1) S S' ∧ VC S' q n (unn ρ σ) := by
  have hn := h.n7
  rw [eX8_becomeUnion_0, kq.O, if_T, h.fI, wc_bind, kq.sF, wc_bind]
  have key : ∀ k s S' x4 x5 x6, s + k = 2 ^ n → Cr q (q + 1) S S' → S' q 0 = nI n → (∀ t, t < s → S' (q + 1) t = nI (unn ρ σ t)) → ∃ S'', am_run false (am_cal am_mt (d + 2)) (am_lk tbX8_becomeUnion) 10 [some (.ref q), some (.ref p), some (.ref p2), some (.int (nI s)), x4, x5, x6] [] (ws S') = some (none, ws S'') ∧ Cr q (q + 1) S S'' ∧ VC S'' q n (unn ρ σ) := by
    intro k
    induction k with
    | zero =>
      intro s S' x4 x5 x6 he hc hq ht
      have : s = 2 ^ n := by omega
      subst this
      rw [eX8_becomeUnion_10, kq.all _ hn hq, cI_some, wc_bind, if_pos (p2_end hn)]
      dsimp only
      exact ⟨S', rfl, hc, kq.1, kq.2, hn, hq, fun s hs => ⟨ht s hs, mat_7 (mat_unn hm hm2 hn) hn hs⟩⟩
    | succ k ih =>
      intro s S' x4 x5 x6 he hc hq ht
      have hs : s < 2 ^ n := by omega
      have hs7 := p2_128 hn hs
      have h' := VC_Cr h hc (by omega)
      have h2' := VC_Cr h2 hc (by omega)
      rw [eX8_becomeUnion_10, kq.all _ hn hq, cI_some, wc_bind, if_neg (p2_all hs hn), J_bits _ hs7, cI_some, wc_bind]
      dsimp only
      have inner : ∀ j m y6, j ≤ s + 1 → m = wc_fd j (fun p m => if wc_an p s = 0 then (if unb ρ σ s p < m then unb ρ σ s p else m) else m) (pc s) → m ≤ 7 → ∃ S'', am_run false (am_cal am_mt (d + 2)) (am_lk tbX8_becomeUnion) 27 [some (.ref q), some (.ref p), some (.ref p2), some (.int (nI s)), some (.int (nI m)), some (.int (nI j)), y6] [] (ws S') = some (none, ws S'') ∧ Cr q (q + 1) S S'' ∧ VC S'' q n (unn ρ σ) := by
        intro j
        generalize hr : s + 1 - j = r
        induction r generalizing j with
        | zero =>
          intro m y6 hj hm' hm7
          have : j = s + 1 := by omega
          subst this
          rw [eX8_becomeUnion_27, if_pos (nI_lt (by omega) (by omega)), kq.fR, wc_bind, kq.sI _ hs7, wc_bind, nI_1]
          refine ih (s + 1) _ _ _ _ (by omega) (Cr_up hc (by omega) (by omega)) (by rw [up_ne q (by omega)]; exact hq) (fun t ht' => ?_)
          by_cases hte : t = s
          · subst hte; rw [up_self, hm']; rfl
          · rw [up_upd]; unfold upd; rw [if_neg hte]; exact ht t (by omega)
        | succ r ihr =>
          intro m y6 hj hm' hm7
          have hj2 : j ≤ s := by omega
          have hj3 : j < 2 ^ n := by omega
          have hj7 := p2_128 hn hj3
          have han : wc_an j s < 2 ^ 31 := wc_an_lt (by omega)
          have l1 := h'.le hj3
          have l2 := h2'.le hj3
          have l3 := pc_le (wc_an s j)
          have hnext : wc_fd (j + 1) (fun p m => if wc_an p s = 0 then (if unb ρ σ s p < m then unb ρ σ s p else m) else m) (pc s) = if wc_an j s = 0 then (if unb ρ σ s j < m then unb ρ σ s j else m) else m := by rw [wc_fd_s, ← hm']
          rw [eX8_becomeUnion_27, if_neg (nI_nlt hj2 (by omega)), wc_anI, wc_anI, c8_rankOf _ h' hj3, cI_some, wc_bind, c8_rankOf _ h2' hj3, cI_some, wc_bind, J_bits _ (wc_an_lt hs7), cI_some, wc_bind, nI_1]
          dsimp only
          by_cases hz : wc_an j s = 0
          · rw [if_pos (by rw [hz, nI_0]), nI_add, nI_add]
            have hub : unb ρ σ s j = ρ j + σ j + pc (wc_an s j) := rfl
            have hu : (if nI (unb ρ σ s j) < nI m then nI (unb ρ σ s j) else nI m) = nI (if unb ρ σ s j < m then unb ρ σ s j else m) := by
              by_cases hc : unb ρ σ s j < m
              · rw [if_pos hc, if_pos (nI_lt hc (by omega))]
              · rw [if_neg hc, if_neg (nI_nlt (by omega) (by omega))]
            rw [← hub, hu]
            exact ihr (j + 1) (by omega) _ _ (by omega) (by rw [hnext, if_pos hz]) (by split <;> omega)
          · rw [if_neg (show ¬ nI (wc_an j s) = 0 from fun c => hz ((nI_eq (b := 0) han (by decide)).mp c))]
            exact ihr (j + 1) (by omega) _ _ (by omega) (by rw [hnext, if_neg hz]) hm7
      exact inner 0 (pc s) _ (by omega) rfl (pc_le s)
  exact key (2 ^ n) 0 _ _ _ _ (by omega) (Cr_up Cr.rf (by omega) (by omega)) (up_self _ _ _ _) (fun t ht => absurd ht (Nat.not_lt_zero t))
