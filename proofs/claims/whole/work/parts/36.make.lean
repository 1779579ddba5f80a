/-! ===== views are made ===== -/
def vq (q : Nat) : Prop := kdl[q]? = some (0, 8, 0, [(0, 0), (1, q + 1)]) ∧ kdl[q + 1]? = some (1, 0, 128, [])
theorem VC.q {S : am_S} {q n : Nat} {ρ : Nat → Nat} (h : VC S q n ρ) : vq q := ⟨h.1, h.2.1⟩
theorem vq_50 : vq 50 := ⟨rfl, rfl⟩
theorem vq_44 : vq 44 := ⟨rfl, rfl⟩
theorem vq_46 : vq 46 := ⟨rfl, rfl⟩
theorem vq_h {h : Nat} (hh : h < 4) : vq (69 + 3 * h) := by
  rcases (show h = 0 ∨ h = 1 ∨ h = 2 ∨ h = 3 by omega) with rfl | rfl | rfl | rfl <;> exact ⟨rfl, rfl⟩
theorem vq_k {v : Nat} (hv : v < 4) : vq (7 + 2 * v) := by
  rcases (show v = 0 ∨ v = 1 ∨ v = 2 ∨ v = 3 by omega) with rfl | rfl | rfl | rfl <;> exact ⟨rfl, rfl⟩
theorem vq.O {q : Nat} (h : vq q) (S : am_S) : am_isO (ws S) q 8 = true := ws_isO h.1
theorem vq.fR {q : Nat} (h : vq q) (S : am_S) : am_fR (ws S) q 8 1 = some (q + 1) := ws_fR h.1 rfl
theorem vq.fI {q : Nat} (h : vq q) (S : am_S) : am_fI (ws S) q 8 0 = some (S q 0) := ws_fI h.1 rfl
theorem vq.sF {q : Nat} (h : vq q) (S : am_S) (x : Int32) : am_sF (ws S) q 8 0 (.int x) = some (ws (up S q 0 x)) := ws_sFI h.1 rfl
theorem vq.sI {q e : Nat} (h : vq q) (S : am_S) (he : e < 128) (x : Int32) : am_sI (ws S) (q + 1) 0 (nI e &&& (127 : Int32)) x = some (ws (up S (q + 1) e x)) := by
  rw [and127 he, ws_sIn h.2 he (by decide)]
theorem vq.all {q n : Nat} (h : vq q) (d : Nat) {S : am_S} (hn : n ≤ 7) (hS : S q 0 = nI n) : am_cal am_mt (d + 1) jX8_all [.ref q] (ws S) = some (some (.int (nI (2 ^ n - 1))), ws S) := by
  rw [eX8_all_0, h.O, if_T, h.fI, wc_bind, hS, wc_all (by omega)]
/-- a view of the class filled set by set -/
theorem fill_c {q n : Nat} {f : Nat → Nat} (kq : vq q) (hn : n ≤ 7) (hf : ∀ t, t < 2 ^ n → f t ≤ 7) (H : Nat → am_S → Option am_R) (S : am_S)
    (step : ∀ e S', e < 2 ^ n → e < 128 → Cr q (q + 1) S S' → S' q 0 = nI n → (∀ t, t < e → S' (q + 1) t = nI (f t)) → H e S' = H (e + 1) (up S' (q + 1) e (nI (f e))))
    (done : ∀ S', Cr q (q + 1) S S' → S' q 0 = nI n → H (2 ^ n) S' = some (none, ws S')) (S0 : am_S) (h0 : Cr q (q + 1) S S0) (h1 : S0 q 0 = nI n) : ∃ S', H 0 S0 = some (none, ws S') ∧ Cr q (q + 1) S S' ∧ VC S' q n f := by
  have key : ∀ k e S', e + k = 2 ^ n → Cr q (q + 1) S S' → S' q 0 = nI n → (∀ t, t < e → S' (q + 1) t = nI (f t)) → ∃ S'', H e S' = some (none, ws S'') ∧ Cr q (q + 1) S S'' ∧ VC S'' q n f := by
    intro k
    induction k with
    | zero =>
      intro e S' he hc hq ht
      have : e = 2 ^ n := by omega
      subst this
      exact ⟨S', done S' hc hq, hc, kq.1, kq.2, hn, hq, fun s hs => ⟨ht s hs, hf s hs⟩⟩
    | succ k ih =>
      intro e S' he hc hq ht
      have hlt : e < 2 ^ n := by omega
      rw [step e S' hlt (p2_128 hn hlt) hc hq ht]
      refine ih (e + 1) _ (by omega) (Cr_up hc (by omega) (by omega)) (by rw [up_ne q (by omega)]; exact hq) (fun t ht' => ?_)
      by_cases hte : t = e
      · subst hte; exact up_self _ _ _ _
      · rw [up_upd]; unfold upd; rw [if_neg hte]; exact ht t (by omega)
  exact key (2 ^ n) 0 S0 (by omega) h0 h1 (fun t ht => absurd ht (Nat.not_lt_zero t))
/-- of the reference's numbers only row v is otherwise -/
def Rw (v : Nat) (S S' : am_S) : Prop := (∀ c, c ≠ 92 → S' c = S c) ∧ ∀ i, i < 128 * v ∨ 128 * v + 128 ≤ i → S' 92 i = S 92 i
theorem Rw.rf {v : Nat} {S : am_S} : Rw v S S := ⟨fun _ _ => rfl, fun _ _ => rfl⟩
theorem Rw_up {v e : Nat} {S S' : am_S} (h : Rw v S S') (he : e < 128) (x : Int32) : Rw v S (up S' 92 (128 * v + e) x) :=
  ⟨fun c hc => by rw [up_ne c hc]; exact h.1 c hc, fun i hi => by rw [up_upd]; unfold upd; rw [if_neg (by omega)]; exact h.2 i hi⟩
theorem VM_Rw {v w n : Nat} {ρ : Nat → Nat} {S S' : am_S} (h : VM S v n ρ) (hr : Rw w S S') (hvw : v ≠ w) : VM S' v n ρ :=
  ⟨h.1, h.2.1, by rw [hr.1 91 (by decide)]; exact h.2.2.1, fun s hs => by rw [hr.2 _ (by have := p2_128 h.2.1 hs; omega)]; exact h.2.2.2 s hs⟩
/-- a row of the reference filled set by set -/
theorem fill_m {v m : Nat} {f : Nat → Nat} (hm : m ≤ 128) (H : Nat → am_S → Option am_R) (S : am_S)
    (step : ∀ e S', e < m → Rw v S S' → (∀ t, t < e → S' 92 (128 * v + t) = nI (f t)) → H e S' = H (e + 1) (up S' 92 (128 * v + e) (nI (f e)))) : ∃ S', H 0 S = H m S' ∧ Rw v S S' ∧ ∀ t, t < m → S' 92 (128 * v + t) = nI (f t) := by
  have key : ∀ k, k ≤ m → ∃ S', H 0 S = H k S' ∧ Rw v S S' ∧ ∀ t, t < k → S' 92 (128 * v + t) = nI (f t) := by
    intro k
    induction k with
    | zero => intro _; exact ⟨S, rfl, Rw.rf, fun t ht => absurd ht (Nat.not_lt_zero t)⟩
    | succ k ih =>
      intro hk
      obtain ⟨S', h1, h2, h3⟩ := ih (by omega)
      refine ⟨_, h1.trans (step k S' (by omega) h2 h3), Rw_up h2 (by omega) _, fun t ht => ?_⟩
      by_cases hte : t = k
      · subst hte; exact up_self _ _ _ _
      · rw [up_upd]; unfold upd; rw [if_neg (by omega)]; exact h3 t (by omega)
  exact key m (Nat.le_refl m)
/-- what a maker of views of the reference leaves as it was -/
def Mw (w : Nat) (S S' : am_S) : Prop := (∀ c, c ≠ 91 → c ≠ 92 → S' c = S c) ∧ (∀ i, i ≠ w → S' 91 i = S 91 i) ∧ ∀ i, i < 128 * w ∨ 128 * w + 128 ≤ i → i < 1664 → S' 92 i = S 92 i
theorem Mw.rf {w : Nat} {S : am_S} : Mw w S S := ⟨fun _ _ _ => rfl, fun _ _ => rfl, fun _ _ _ => rfl⟩
theorem Mw.tr {w : Nat} {S S' S'' : am_S} (h : Mw w S S') (h' : Mw w S' S'') : Mw w S S'' :=
  ⟨fun c a b => (h'.1 c a b).trans (h.1 c a b), fun i a => (h'.2.1 i a).trans (h.2.1 i a), fun i a b => (h'.2.2 i a b).trans (h.2.2 i a b)⟩
theorem Mw_Rw {w : Nat} {S S' : am_S} (h : Rw w S S') : Mw w S S' := ⟨fun c _ b => h.1 c b, fun i _ => by rw [h.1 91 (by decide)], fun i a _ => h.2 i a⟩
theorem Mw_R13 {w : Nat} {S S' : am_S} (h : Rw 13 S S') : Mw w S S' := ⟨fun c _ b => h.1 c b, fun i _ => by rw [h.1 91 (by decide)], fun i _ b => h.2 i (by omega)⟩
theorem Mw_up {w : Nat} (S : am_S) (x : Int32) : Mw w S (up S 91 w x) := ⟨fun c a _ => up_ne c a, fun i a => by rw [up_upd]; unfold upd; rw [if_neg a], fun i _ _ => by rw [up_ne 92 (by decide)]⟩
theorem VM_Mw {v w n : Nat} {ρ : Nat → Nat} {S S' : am_S} (h : VM S v n ρ) (hr : Mw w S S') (hvw : v ≠ w) (hv : v < 13) : VM S' v n ρ :=
  ⟨h.1, h.2.1, by rw [hr.2.1 v hvw]; exact h.2.2.1, fun s hs => by have := p2_128 h.2.1 hs; rw [hr.2.2 _ (by omega) (by omega)]; exact h.2.2.2 s hs⟩
theorem VC_Mw {q w n : Nat} {ρ : Nat → Nat} {S S' : am_S} (h : VC S q n ρ) (hr : Mw w S S') (hq : q < 90) : VC S' q n ρ :=
  ⟨h.1, h.2.1, h.2.2.1, by rw [hr.1 q (by omega) (by omega)]; exact h.2.2.2.1, fun s hs => by rw [hr.1 (q + 1) (by omega) (by omega)]; exact h.2.2.2.2 s hs⟩
theorem Fk_Mw {w : Nat} {S S' : am_S} (h : Mw w S S') : Fk (K1 (rowc w)) S S' := by
  intro c i hc
  dsimp only at hc
  by_cases h1 : c = 91
  · subst h1
    by_cases h2 : i = w
    · subst h2; rw [comp_91, K1_j] at hc; cases hc
    · rw [h.2.1 i h2]
  · by_cases h2 : c = 92
    · subst h2
      by_cases h3 : i < 128 * w ∨ 128 * w + 128 ≤ i
      · by_cases h4 : i < 1664
        · exact h.2.2 i h3 h4
        · exfalso
          have := comp_92 (i / 128) (i := i % 128) (Nat.mod_lt _ (by decide))
          rw [Nat.div_add_mod] at this
          rw [this] at hc
          unfold rowc at hc
          rw [if_neg (show ¬ i / 128 < 4 by omega), if_neg (show ¬ i / 128 < 8 by omega), if_neg (show ¬ i / 128 < 12 by omega), K1_16] at hc
          cases hc
      · exfalso
        have := comp_92 w (i := i - 128 * w) (by omega)
        rw [show 128 * w + (i - 128 * w) = i by omega] at this
        rw [this, K1_j] at hc
        cases hc
    · rw [h.1 c h1 h2]
/-- a view becomes as another is -/
theorem c8_become (d : Nat) {S : am_S} {q p n : Nat} {ρ : Nat → Nat} (kq : vq q) (h : VC S p n ρ) (hpq : p ≠ q) (hpq1 : p ≠ q + 1) (hp1q : p + 1 ≠ q) : ∃ S', am_cal am_mt (d + 1) jX8_become [.ref q, .ref p] (ws S) = some (none, ws S') ∧ Cr q (q + 1) S S' ∧ VC S' q n ρ := by
  refine ⟨upA (up S q 0 (nI n)) (q + 1) (va_cpy (up S q 0 (nI n) (p + 1)) (up S q 0 (nI n) (q + 1)) 0 0 128), ?_, Cr_upA (Cr_up Cr.rf (by omega) (by omega)) (by omega) (by omega), kq.1, kq.2, h.n7, ?_, fun s hs => ⟨?_, h.le hs⟩⟩
  · rw [eX8_become_0, kq.O, if_T, h.fI, wc_bind, kq.sF, wc_bind, h.q.fR, wc_bind, kq.fR, wc_bind, show (0 : Int32) = nI 0 from rfl, show (128 : Int32) = nI 128 from rfl, ws_cp h.2.1 kq.2 (by decide) (by decide) (by decide) (by decide), wc_bind]
  · rw [upA_ne q (by omega)]; exact up_self _ _ _ _
  · have := p2_128 h.n7 hs
    rw [upA_self, up_ne (p + 1) (by omega)]
    show va_cpy (S (p + 1)) _ 0 0 128 s = _
    unfold va_cpy
    rw [if_pos ⟨Nat.zero_le _, by omega⟩]
    have := (h.2.2.2.2 s hs).1
    simpa using this
theorem c8_uniform (d : Nat) {S : am_S} {q n r : Nat} (kq : vq q) (hn : n ≤ 7) (hr : r ≤ n) : ∃ S', am_cal am_mt (d + 2) jX8_becomeUniform [.ref q, .int (nI n), .int (nI r)] (ws S) = some (none, ws S') ∧ Cr q (q + 1) S S' ∧ VC S' q n (uni r) := by
  rw [eX8_becomeUniform_0, kq.O, if_T, kq.sF, wc_bind]
  refine fill_c kq hn (fun t ht => by have := pc_le t; unfold uni; split <;> omega) (fun e S' => am_run false (am_cal am_mt (d + 1)) (am_lk tbX8_becomeUniform) 7 [some (.ref q), some (.int (nI n)), some (.int (nI r)), some (.int (nI e))] [] (ws S')) S ?_ ?_ _ (Cr_up Cr.rf (by omega) (by omega)) (up_self _ _ _ _)
  · intro e S' he he7 hc hq _
    show am_run _ _ _ _ _ _ _ = am_run _ _ _ _ _ _ _
    have hp := pc_le e
    rw [eX8_becomeUniform_7, kq.all _ hn hq, cI_some, wc_bind, if_neg (p2_all he hn), kq.fR, wc_bind, J_bits _ he7, cI_some, wc_bind]
    dsimp only
    rw [kq.sI _ he7, wc_bind, nI_1]
    have : (if nI r < nI (pc e) then nI r else nI (pc e)) = nI (uni r e) := by
      unfold uni
      by_cases hc : pc e < r
      · rw [if_pos hc, if_neg (nI_nlt (by omega) (by omega))]
      · rw [if_neg hc]
        by_cases hc2 : r < pc e
        · rw [if_pos (nI_lt hc2 (by omega))]
        · rw [if_neg (nI_nlt (by omega) (by omega)), show pc e = r by omega]
    rw [this]
  · intro S' hc hq
    show am_run _ _ _ _ _ _ _ = _
    rw [eX8_becomeUniform_7, kq.all _ hn hq, cI_some, wc_bind, if_pos (p2_end hn)]
theorem c8_dual (d : Nat) {S : am_S} {q p n : Nat} {ρ : Nat → Nat} (kq : vq q) (hm : mat n ρ) (h : VC S p n ρ) (hpq : p + 1 < q ∨ q + 1 < p) : ∃ S', am_cal am_mt (d + 3) jX8_becomeDual [.ref q, .ref p] (ws S) = some (none, ws S') ∧ Cr q (q + 1) S S' ∧ VC S' q n (dl n ρ) := by
  have hn := h.n7
  rw [eX8_becomeDual_0, kq.O, if_T, h.fI, wc_bind, kq.sF, wc_bind]
  refine fill_c kq hn (fun t ht => mat_7 (mat_dl hm hn) hn ht) (fun e S' => am_run false (am_cal am_mt (d + 2)) (am_lk tbX8_becomeDual) 10 [some (.ref q), some (.ref p), some (.int (nI e))] [] (ws S')) S ?_ ?_ _ (Cr_up Cr.rf (by omega) (by omega)) (up_self _ _ _ _)
  · intro e S' he he7 hc hq _
    show am_run _ _ _ _ _ _ _ = am_run _ _ _ _ _ _ _
    have h' := VC_Cr h hc (by omega)
    rw [eX8_becomeDual_10, kq.all _ hn hq, cI_some, wc_bind, if_neg (p2_all he hn), kq.fR, wc_bind, J_bits _ he7, cI_some, wc_bind, kq.all _ hn hq, cI_some, wc_bind, wc_anI, c8_rankOf _ h' (comp_lt e), cI_some, wc_bind, c8_fullRank _ h', cI_some, wc_bind, nI_add, pk_sub (dl_ge hm hn he)]
    dsimp only
    rw [kq.sI _ he7, wc_bind, nI_1]
    rfl
  · intro S' hc hq
    show am_run _ _ _ _ _ _ _ = _
    rw [eX8_becomeDual_10, kq.all _ hn hq, cI_some, wc_bind, if_pos (p2_end hn)]
theorem wc_again (e : Nat) : (1664 : Int32) + nI e = nI (1664 + e) := by rw [show (1664 : Int32) = nI 1664 from rfl, nI_add]
/-- the second half of each maker of the reference: row 13 comes to row w -/
theorem m_duals (d : Nat) {S : am_S} {v w n : Nat} {ρ : Nat → Nat} (hm : mat n ρ) (h : VM S v n ρ) (hv : v < 13) (hw : w < 13) : ∃ S', am_cal am_mt (d + 3) jX11_duals [.ref 88, .int (nI v), .int (nI w)] (ws S) = some (none, ws S') ∧ Mw w S S' ∧ VM S' w n (dl n ρ) := by
  have hn := h.n7
  have hw14 : w < 14 := by omega
  rw [eX11_duals_0, kO88, if_T, kR88_2, wc_bind, wc_bind, h.aI, wc_bind, kW91 S hw14, wc_bind]
  have hS0 : VM (up S 91 w (nI n)) v n ρ := by
    refine ⟨h.1, hn, ?_, fun s hs => by rw [up_ne 92 (by decide)]; exact h.2.2.2 s hs⟩
    by_cases hvw : v = w
    · subst hvw; exact up_self _ _ _ _
    · rw [up_upd]; unfold upd; rw [if_neg hvw]; exact h.2.2.1
  obtain ⟨S1, a1, a2, a3⟩ := fill_m (v := 13) (m := 2 ^ n) (f := dl n ρ) (p2_le hn) (fun e S' => am_run false (am_cal am_mt (d + 2)) (am_lk tbX11_duals) 14 [some (.ref 88), some (.int (nI v)), some (.int (nI w)), some (.int (nI e))] [] (ws S')) (up S 91 w (nI n)) (by
    intro e S' he hr _
    show am_run _ _ _ _ _ _ _ = am_run _ _ _ _ _ _ _
    have h' := VM_Rw hS0 hr (by omega)
    have he7 := p2_128 hn he
    rw [eX11_duals_14, m_all _ h', cI_some, wc_bind, if_neg (p2_all he hn), kR88_3, wc_bind, m_bits _ he7, cI_some, wc_bind, m_all _ h', cI_some, wc_bind, wc_anI, m_r _ h' (comp_lt e), cI_some, wc_bind, m_total _ h', cI_some, wc_bind, nI_add, pk_sub (dl_ge hm hn he), wc_again]
    dsimp only
    rw [kW92 _ (show 1664 + e < 1792 by omega), wc_bind, nI_1]
    rfl)
  have hS1 : VM S1 v n ρ := VM_Rw hS0 a2 (by omega)
  have hw1 : S1 91 w = nI n := by rw [a2.1 91 (by decide)]; exact up_self _ _ _ _
  obtain ⟨S2, b1, b2, b3⟩ := fill_m (v := w) (m := 2 ^ n) (f := dl n ρ) (p2_le hn) (fun e S' => am_run false (am_cal am_mt (d + 2)) (am_lk tbX11_duals) 66 [some (.ref 88), some (.int (nI v)), some (.int (nI w)), some (.int (nI e))] [] (ws S')) S1 (by
    intro e S' he hr _
    show am_run _ _ _ _ _ _ _ = am_run _ _ _ _ _ _ _
    have he7 := p2_128 hn he
    have hall : am_cal am_mt (d + 2) jX11_all [.ref 88, .int (nI w)] (ws S') = some (some (.int (nI (2 ^ n - 1))), ws S') := by
      rw [eX11_all_0, kO88, if_T, kR88_2, wc_bind, kA91 S' hw14, wc_bind, hr.1 91 (by decide), hw1, wc_all (by omega)]
    rw [eX11_duals_66, hall, cI_some, wc_bind, if_neg (p2_all he hn), kR88_3, wc_bind, wc_bind, wc_again]
    dsimp only
    rw [kA92 S' (show 1664 + e < 1792 by omega), wc_bind, wc_row, kW92 _ (show 128 * w + e < 1792 by omega), wc_bind, nI_1, hr.2 _ (by omega), show S1 92 (1664 + e) = nI (dl n ρ e) from a3 e he])
  have hw2 : S2 91 w = nI n := by rw [b2.1 91 (by decide), hw1]
  refine ⟨S2, ?_, ((Mw_up S (nI n)).tr (Mw_R13 a2)).tr (Mw_Rw b2), hw14, hn, hw2, fun s hs => ⟨b3 s hs, mat_7 (mat_dl hm hn) hn hs⟩⟩
  refine a1.trans ?_
  show am_run _ _ _ _ _ _ _ = _
  rw [eX11_duals_14, m_all _ hS1, cI_some, wc_bind, if_pos (p2_end hn)]
  dsimp only
  refine b1.trans ?_
  show am_run _ _ _ _ _ _ _ = _
  have hall : am_cal am_mt (d + 2) jX11_all [.ref 88, .int (nI w)] (ws S2) = some (some (.int (nI (2 ^ n - 1))), ws S2) := by
    rw [eX11_all_0, kO88, if_T, kR88_2, wc_bind, kA91 S2 hw14, wc_bind, hw2, wc_all (by omega)]
  rw [eX11_duals_66, hall, cI_some, wc_bind, if_pos (p2_end hn)]
