/-! ===== columns enter and leave ===== -/
theorem red_s0 {f : Nat} {P : Nat → Bool} {e : Nat → vec} (h : ec f P e) (hf : f < 4) {v : vec} (hv : vd f v) {k : Nat} (hk : k < 7) (hz : red f P e k v k = 0) : ∀ i, i < 7 → red f P e (k + 1) v i = red f P e k v i := by
  intro i hi
  rw [red_s]
  unfold redS
  cases hp : P k with
  | false => rw [if_neg Bool.false_ne_true]
  | true =>
    rw [if_pos rfl]
    unfold sbm
    have ek := (h k hk hp).2.2
    have dv := vd_red h hf hv k (by omega)
    rw [hz, (fx1 f hf _ (flt2 hf (ek k hk) (f0 f)).2.2).2.1, (fx1 f hf _ (ek i hi)).2.1, (fx1 f hf _ (dv i hi)).1]
theorem c5_keep (d : Nat) {S : am_S} {m g k : Nat} {P : Nat → Bool} {e : Nat → vec} {u : vec} (hm : mq m) (hE : EX S m P e) (hg : g < 7) (hk : k < 7) (hp : P k = false) (hu : ∀ i, i < 7 → S (m + 7) i = nI (u i)) : ∃ S', am_cal am_mt (d + 1) jX5_keepLeft [.ref m, .int (nI g), .int (nI k)] (ws S) = some (none, ws S') ∧ Xm m S S' ∧ (∀ x, x ≠ g → S' (m + 6) x = S (m + 6) x) ∧ EX S' m (updB P k true) (updE e k u) ∧ S' (m + 6) g = nI k := by
  have hcp : am_cp (ws S) (m + 7) (0 : Int32) (m + 4) (nI (7 * k)) (7 : Int32) = some (ws (upA S (m + 4) (va_cpy (S (m + 7)) (S (m + 4)) 0 (7 * k) 7))) := by
    rw [show (0 : Int32) = nI 0 from rfl, show (7 : Int32) = nI 7 from rfl]
    exact ws_cp hm.2.2.2.2.2 hm.2.2.1 (by omega) (by omega) (by decide) (by decide)
  refine ⟨up (up (up (upA S (m + 4) (va_cpy (S (m + 7)) (S (m + 4)) 0 (7 * k) 7)) (m + 5) k 1) (m + 6) g (nI k)) m 6 (nI (wc_cn 7 P + 1)), ?_, Xm_up (Xm_up (Xm_up (Xm_upA Xm.rf (by omega)) (by omega)) (by omega)) (by omega), fun x hx => ?_, ⟨fun p hp7 => ?_, fun p hp7 hpp i hi => ?_, ?_⟩, ?_⟩
  · rw [eX5_keepLeft_0, hm.O, if_T, hm.f5, wc_bind, hm.f2, wc_bind, m7_, hcp, wc_bind, hm.f3, wc_bind, hm.w5 _ hk, wc_bind, hm.f4, wc_bind, hm.w6 _ hg, wc_bind, hm.f6, wc_bind, hm.s6, wc_bind, nar1, up_ne m (by omega), up_ne m (by omega), upA_ne m (by omega), hE.2.2, nI_1]
  · rw [up_ne (m + 6) (by omega), up_upd]; unfold upd; rw [if_neg hx, up_ne (m + 6) (by omega), upA_ne (m + 6) (by omega)]
  · rw [up_ne (m + 5) (by omega), up_ne (m + 5) (by omega), up_upd]
    unfold upd updB
    by_cases hpk : p = k
    · rw [if_pos hpk, if_pos hpk]; rfl
    · rw [if_neg hpk, if_neg hpk, upA_ne (m + 5) (by omega)]; exact hE.1 p hp7
  · rw [up_ne (m + 4) (by omega), up_ne (m + 4) (by omega), up_ne (m + 4) (by omega), upA_self]
    unfold updB at hpp
    unfold updE
    by_cases hpk : p = k
    · subst hpk
      rw [if_pos rfl, pk_cpy_in (by omega) (by omega), show 0 + (7 * p + i - 7 * p) = i by omega, hu i hi]
    · rw [if_neg hpk] at hpp ⊢
      rw [pk_cpy_out (by omega)]
      exact hE.2.1 p hp7 hpp i hi
  · rw [up_self, cn_up hp 7 hk]
  · rw [up_ne (m + 6) (by omega)]; exact up_self _ _ _ _
theorem c5_enter (d : Nat) {S : am_S} {m f g : Nat} {col : Nat → vec} {P : Nat → Bool} {e : Nat → vec} (hM : MX S m f col) (hE : EX S m P e) (hec : ec f P e) (hg : g < 7) : ∃ S', am_cal am_mt (d + 4) jX5_enter [.ref m, .int (nI g)] (ws S) = some (none, ws S') ∧ Xm m S S' ∧ (∀ x, x ≠ g → S' (m + 6) x = S (m + 6) x) ∧ (((∀ k, k < 7 → P k = false → red f P e k (col g) k = 0) ∧ EX S' m P e ∧ S' (m + 6) g = -1) ∨ ∃ p, p < 7 ∧ P p = false ∧ 0 < red f P e p (col g) p ∧ (∀ k, k < p → P k = false → red f P e k (col g) k = 0) ∧ EX S' m (updB P p true) (updE e p (red f P e p (col g))) ∧ S' (m + 6) g = nI p) := by
  obtain ⟨hm, hf, _, hc, hnum⟩ := id hM
  have hq5 := (fsz_pos f).2
  have hcp : am_cp (ws S) (m + 3) (nI (7 * g)) (m + 7) (0 : Int32) (7 : Int32) = some (ws (upA S (m + 7) (va_cpy (S (m + 3)) (S (m + 7)) (7 * g) 0 7))) := by
    rw [show (0 : Int32) = nI 0 from rfl, show (7 : Int32) = nI 7 from rfl]
    exact ws_cp hm.2.1 hm.2.2.2.2.2 (by omega) (by omega) (by decide) (by decide)
  rw [eX5_enter_0, hm.O, if_T, c_below, cI_some, wc_bind, in7T hg, if_neg bI_T, hm.f1, wc_bind, hm.f5, wc_bind, m7_]
  dsimp only
  rw [hcp, wc_bind, hm.f4, wc_bind, hm.w6 _ hg, wc_bind, show (0 : Int32) = nI 0 from rfl]
  have key : ∀ r k S1 x3 x4 x5 x6, k + r = 7 → Xm m S S1 → (∀ x, x ≠ g → S1 (m + 6) x = S (m + 6) x) → S1 (m + 6) g = -1 → EX S1 m P e → (∀ i, i < 7 → S1 (m + 7) i = nI (red f P e k (col g) i)) → (∀ j, j < k → P j = false → red f P e j (col g) j = 0) → ∃ S', am_run false (am_cal am_mt (d + 3)) (am_lk tbX5_enter) 37 [some (.ref m), some (.int (nI g)), some (.int (nI k)), x3, x4, x5, x6] [] (ws S1) = some (none, ws S') ∧ Xm m S S' ∧ (∀ x, x ≠ g → S' (m + 6) x = S (m + 6) x) ∧ (((∀ k, k < 7 → P k = false → red f P e k (col g) k = 0) ∧ EX S' m P e ∧ S' (m + 6) g = -1) ∨ ∃ p, p < 7 ∧ P p = false ∧ 0 < red f P e p (col g) p ∧ (∀ k, k < p → P k = false → red f P e k (col g) k = 0) ∧ EX S' m (updB P p true) (updE e p (red f P e p (col g))) ∧ S' (m + 6) g = nI p) := by
    intro r
    induction r with
    | zero =>
      intro k S1 x3 x4 x5 x6 hk hX ho hgm hE1 hl hz
      have : k = 7 := by omega
      subst this
      rw [eX5_enter_37, if_pos (by decide)]
      exact ⟨S1, rfl, hX, ho, Or.inl ⟨hz, hE1, hgm⟩⟩
    | succ r ih =>
      intro k S1 x3 x4 x5 x6 hk hX ho hgm hE1 hl hz
      have hk7 : k < 7 := by omega
      have dv := vd_red hec hf (hc g hg) k (by omega)
      have dk := dv k hk7
      have hM1 := MX_Xm hM hX
      obtain ⟨q, hq1, hq2⟩ := hM1.fl
      rw [eX5_enter_37, if_neg (show ¬ (7 : Int32) ≤ nI k from nI_ge (b := 7) hk7 (by decide)), hm.f5, wc_bind, hm.a7 S1 hk7, wc_bind, hl k hk7]
      by_cases hy : red f P e k (col g) k = 0
      · -- nothing at this place
        rw [hy, if_pos nI_0, nI_1]
        exact ih (k + 1) S1 _ _ _ _ (by omega) hX ho hgm hE1 (fun i hi => by rw [red_s0 hec hf (hc g hg) hk7 hy i hi]; exact hl i hi) (fun j hj hp => by
          by_cases hjk : j = k
          · rw [hjk]; exact hy
          · exact hz j (by omega) hp)
      · rw [if_neg (nI_ne0 (by omega) (by omega)), hm.f3, wc_bind, hm.a5 S1 hk7, wc_bind, hE1.1 k hk7]
        cases hp : P k with
        | false =>
          obtain ⟨S', a1, a2, a3, a4, a5⟩ := c5_keep (d + 2) (u := red f P e k (col g)) hm hE1 hg hk7 hp hl
          rw [if_pos bI_F, a1, cV_some, wc_bind]
          exact ⟨S', rfl, hX.tr a2, fun x hx => (a3 x hx).trans (ho x hx), Or.inr ⟨k, hk7, hp, by omega, hz, a4, a5⟩⟩
        | true =>
          have ek := hec k hk7 hp
          have ekk := ek.2.2 k hk7
          have hinv := (flt2 hf ekk (f0 f)).2.2
          obtain ⟨c, hcd⟩ : ∃ c, c = fmu f (red f P e k (col g) k) (fin f (e k k)) := ⟨_, rfl⟩
          have hcl : c < fsz f := by rw [hcd]; exact (flt2 hf dk hinv).2.1
          rw [if_neg bI_T, hm.f2, wc_bind, m77, hm.a4 S1 (by omega), wc_bind, hq1, wc_bind, wc_bind, hm.a7 S1 hk7, wc_bind, hl k hk7, wc_bind, hE1.2.1 k hk7 hp k hk7, c2_inverse _ hq2 ekk, cI_some, wc_bind]
          dsimp only
          rw [c2_product _ hq2 dk hinv, cI_some, wc_bind, ← hcd]
          dsimp only
          have rows : ∀ t j S2 y6, j + t = 7 → k ≤ j → Xm m S S2 → (∀ x, x ≠ g → S2 (m + 6) x = S (m + 6) x) → S2 (m + 6) g = -1 → EX S2 m P e → (∀ i, i < 7 → S2 (m + 7) i = nI (if k ≤ i ∧ i < j then fsu f (red f P e k (col g) i) (fmu f c (e k i)) else red f P e k (col g) i)) → ∃ S', am_run false (am_cal am_mt (d + 3)) (am_lk tbX5_enter) 109 [some (.ref m), some (.int (nI g)), some (.int (nI k)), some (.int (nI (e k k))), some (.int (nI c)), some (.int (nI j)), y6] [] (ws S2) = some (none, ws S') ∧ Xm m S S' ∧ (∀ x, x ≠ g → S' (m + 6) x = S (m + 6) x) ∧ (((∀ k, k < 7 → P k = false → red f P e k (col g) k = 0) ∧ EX S' m P e ∧ S' (m + 6) g = -1) ∨ ∃ p, p < 7 ∧ P p = false ∧ 0 < red f P e p (col g) p ∧ (∀ k, k < p → P k = false → red f P e k (col g) k = 0) ∧ EX S' m (updB P p true) (updE e p (red f P e p (col g))) ∧ S' (m + 6) g = nI p) := by
            have hred : ∀ i, i < 7 → red f P e (k + 1) (col g) i = fsu f (red f P e k (col g) i) (fmu f c (e k i)) := by
              intro i hi
              rw [red_s]
              unfold redS
              rw [hp, if_pos rfl, hcd]
              rfl
            have hnext : ∀ j, j < k + 1 → P j = false → red f P e j (col g) j = 0 := fun j hj hpj => by
              by_cases hjk : j = k
              · rw [hjk, hp] at hpj; cases hpj
              · exact hz j (by omega) hpj
            intro t
            induction t with
            | zero =>
              intro j S2 y6 hj hkj hX2 ho2 hg2 hE2 hl2
              have : j = 7 := by omega
              subst this
              rw [eX5_enter_109, if_pos (by decide), nI_1]
              refine ih (k + 1) S2 _ _ _ _ (by omega) hX2 ho2 hg2 hE2 (fun i hi => ?_) hnext
              rw [hl2 i hi, hred i hi]
              by_cases hik : k ≤ i
              · rw [if_pos ⟨hik, hi⟩]
              · rw [if_neg (by omega), ek.1 i (by omega), (fx1 f hf _ hcl).2.2.1, (fx1 f hf _ (dv i hi)).1]
            | succ t iht =>
              intro j S2 y6 hj hkj hX2 ho2 hg2 hE2 hl2
              have hj7 : j < 7 := by omega
              have hM2 := MX_Xm hM hX2
              obtain ⟨q2, hq3, hq4⟩ := hM2.fl
              rw [eX5_enter_109, if_neg (show ¬ (7 : Int32) ≤ nI j from nI_ge (b := 7) hj7 (by decide))]
              have ekj := ek.2.2 j hj7
              have hpart := (flt2 hf hcl ekj).2.1
              have hlj : S2 (m + 7) j = nI (red f P e k (col g) j) := by rw [hl2 j hj7, if_neg (by omega)]
              rw [hq3, wc_bind, hm.f2, wc_bind, m77, hm.a4 S2 (by omega), wc_bind, hE2.2.1 k hk7 hp j hj7, c2_product _ hq4 hcl ekj, cI_some, wc_bind, hm.f5, wc_bind, hq3, wc_bind, wc_bind, hm.a7 S2 hj7, wc_bind, hlj]
              dsimp only
              rw [c2_difference _ hq4 (dv j hj7) hpart, cI_some, wc_bind]
              dsimp only
              rw [hm.w7 S2 hj7, wc_bind, nI_1]
              refine iht (j + 1) _ _ (by omega) (by omega) (Xm_up hX2 (by omega)) (fun x hx => by rw [up_ne (m + 6) (by omega)]; exact ho2 x hx) (by rw [up_ne (m + 6) (by omega)]; exact hg2) ?_ (fun i hi => ?_)
              · exact ⟨fun p hp7 => by rw [up_ne (m + 5) (by omega)]; exact hE2.1 p hp7, fun p hp7 hpp i hi => by rw [up_ne (m + 4) (by omega)]; exact hE2.2.1 p hp7 hpp i hi, by rw [up_ne m (by omega)]; exact hE2.2.2⟩
              · rw [up_upd]
                unfold upd
                by_cases hij : i = j
                · rw [if_pos hij, hij, if_pos (by omega)]
                · rw [if_neg hij, hl2 i hi]
                  by_cases hik : k ≤ i ∧ i < j
                  · rw [if_pos hik, if_pos (by omega)]
                  · rw [if_neg hik, if_neg (by omega)]
          exact rows (7 - k) k S1 _ (by omega) (Nat.le_refl k) hX ho hgm hE1 (fun i hi => by rw [if_neg (by omega)]; exact hl i hi)
  refine key 7 0 _ none none none none (by omega) (Xm_up (Xm_upA Xm.rf (by omega)) (by omega)) (fun x hx => ?_) ?_ ⟨fun p hp7 => ?_, fun p hp7 hpp i hi => ?_, ?_⟩ (fun i hi => ?_) (fun j hj => absurd hj (Nat.not_lt_zero j))
  · rw [up_upd]; unfold upd; rw [if_neg hx, upA_ne (m + 6) (by omega)]
  · exact up_self _ _ _ _
  · rw [up_ne (m + 5) (by omega), upA_ne (m + 5) (by omega)]; exact hE.1 p hp7
  · rw [up_ne (m + 4) (by omega), upA_ne (m + 4) (by omega)]; exact hE.2.1 p hp7 hpp i hi
  · rw [up_ne m (by omega), upA_ne m (by omega)]; exact hE.2.2
  · rw [up_ne (m + 7) (by omega), upA_self, pk_cpy_in (by omega) (by omega), red_0, show 7 * g + (i - 0) = 7 * g + i by omega]
    exact hnum g hg i hi
theorem c5_leave (d : Nat) {S : am_S} {m g : Nat} {P : Nat → Bool} {e : Nat → vec} (hm : mq m) (hg : g < 7) (h : (S (m + 6) g = -1 ∧ EX S m P e) ∨ ∃ p u, p < 7 ∧ P p = false ∧ EX S m (updB P p true) (updE e p u) ∧ S (m + 6) g = nI p) : ∃ S', am_cal am_mt (d + 2) jX5_leave [.ref m, .int (nI g)] (ws S) = some (none, ws S') ∧ Xm m S S' ∧ (∀ x, x ≠ g → S' (m + 6) x = S (m + 6) x) ∧ EX S' m P e := by
  rcases h with ⟨h1, h2⟩ | ⟨p, u, hp7, hp, hE, h1⟩
  · refine ⟨S, ?_, Xm.rf, fun _ _ => rfl, h2⟩
    rw [eX5_leave_0, hm.O, if_T, c_below, cI_some, wc_bind, in7T hg, if_neg bI_T, hm.f4, wc_bind, hm.a6 S hg, wc_bind, h1, if_pos (show (-1 : Int32) = -1 from rfl)]
  · refine ⟨up (up (up S (m + 5) p 0) (m + 6) g (-1)) m 6 (nI (wc_cn 7 P)), ?_, Xm_up (Xm_up (Xm_up Xm.rf (by omega)) (by omega)) (by omega), fun x hx => ?_, fun x hx => ?_, fun x hx hpx i hi => ?_, up_self _ _ _ _⟩
    · rw [eX5_leave_0, hm.O, if_T, c_below, cI_some, wc_bind, in7T hg, if_neg bI_T, hm.f4, wc_bind, hm.a6 S hg, wc_bind, h1, if_neg (show ¬ nI p = -1 from fun c => nI_pos (show p < 2 ^ 31 by omega) (by rw [c]; decide)), hm.f3, wc_bind, wc_bind]
      dsimp only
      rw [hm.a6 S hg, wc_bind, h1, hm.w5 S hp7, wc_bind, hm.f4, wc_bind, hm.w6 _ hg, wc_bind, hm.f6, wc_bind, hm.s6, wc_bind, nar0, up_ne m (by omega), up_ne m (by omega), hE.2.2, cn_up hp 7 hp7, nI_pred]
    · rw [up_ne (m + 6) (by omega), up_upd]; unfold upd; rw [if_neg hx, up_ne (m + 6) (by omega)]
    · rw [up_ne (m + 5) (by omega), up_ne (m + 5) (by omega), up_upd]
      unfold upd
      by_cases hxp : x = p
      · rw [if_pos hxp, hxp, hp, bI_F]
      · rw [if_neg hxp, hE.1 x hx]; unfold updB; rw [if_neg hxp]
    · have hxp : x ≠ p := fun c => by rw [c, hp] at hpx; cases hpx
      rw [up_ne (m + 4) (by omega), up_ne (m + 4) (by omega), up_ne (m + 4) (by omega), hE.2.1 x hx (by unfold updB; rw [if_neg hxp]; exact hpx) i hi]
      unfold updE
      rw [if_neg hxp]
