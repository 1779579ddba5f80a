/-! ===== the class's ranks of columns ===== -/
theorem isE_cg {f s s' : Nat} {col : Nat → vec} {P : Nat → Bool} {e : Nat → vec} (h : isE f col s P e) (he : s' = s) : isE f col s' P e := by rw [he]; exact h
theorem c5_enterE (d : Nat) {S : am_S} {m f g s : Nat} {col : Nat → vec} {P : Nat → Bool} {e : Nat → vec} (hM : MX S m f col) (hE : EX S m P e) (hi : isE f col s P e) (hg : g < 7) : ∃ S' P' e', am_cal am_mt (d + 4) jX5_enter [.ref m, .int (nI g)] (ws S) = some (none, ws S') ∧ Xm m S S' ∧ (∀ x, x ≠ g → S' (m + 6) x = S (m + 6) x) ∧ EX S' m P' e' ∧ isE f col (s ||| 2 ^ g) P' e' ∧ ((P' = P ∧ e' = e ∧ S' (m + 6) g = -1) ∨ ∃ p u, p < 7 ∧ P p = false ∧ P' = updB P p true ∧ e' = updE e p u ∧ S' (m + 6) g = nI p) := by
  obtain ⟨S', a1, a2, a3, a4⟩ := c5_enter d hM hE hi.1 hg
  rcases a4 with ⟨b1, b2, b3⟩ | ⟨p, b1, b2, b3, b4, b5, b6⟩
  · exact ⟨S', P, e, a1, a2, a3, b2, isE_same hi hg (red_none hi.1 hM.2.1 (hM.2.2.2.1 g hg) b1), Or.inl ⟨rfl, rfl, b3⟩⟩
  · exact ⟨S', _, _, a1, a2, a3, b5, isE_new hM.2.1 hM.2.2.2.1 hi hg b1 b2 b3 b4, Or.inr ⟨p, _, b1, b2, rfl, rfl, b6⟩⟩
theorem c5_rankOf (d : Nat) {S : am_S} {m f s : Nat} {col : Nat → vec} (hM : MX S m f col) (hs : s < 2 ^ 7) : ∃ S', am_cal am_mt (d + 6) jX5_rankOf [.ref m, .int (nI s)] (ws S) = some (some (.int (nI (rkf f col s))), ws S') ∧ Xm m S S' := by
  have hm := hM.1
  obtain ⟨S1, a1, a2, a3⟩ := c5_empty (d + 4) S hm
  have key : wp (am_cal am_mt (d + 6) jX5_rankOf [.ref m, .int (nI s)] (ws S)) (fun o S' => o = some (.int (nI (rkf f col s))) ∧ Xm m S S') := by
    rw [eX5_rankOf_0, hm.O, if_T, a1, cV_some, wc_bind, show (0 : Int32) = nI 0 from rfl]
    refine loop_wp (fun k S' => am_run false (am_cal am_mt (d + 5)) (am_lk tbX5_rankOf) 6 [some (.ref m), some (.int (nI s)), some (.int (nI k))] [] (ws S')) (fun k S' => Xm m S S' ∧ ∃ P e, EX S' m P e ∧ isE f col (s % 2 ^ k) P e) _ 7 ?_ ?_ 0 _ (Nat.zero_le _) ⟨a2, _, _, a3, isE_cg (isE_0 f col _) (by rw [Nat.pow_zero, Nat.mod_one])⟩
    · intro k S' hk ⟨h1, P, e, h2, h3⟩ K
      show wp (am_run _ _ _ _ _ _ _) _
      rw [eX5_rankOf_6, if_neg (show ¬ (7 : Int32) ≤ nI k from nI_ge (b := 7) hk (by decide)), wc_bit (show s < 2 ^ 31 by omega) (show k < 32 by omega)]
      cases hb : s.testBit k with
      | false =>
        rw [if_pos bI_F, nI_1]
        exact K _ ⟨h1, P, e, h2, isE_cg h3 (by rw [tk, hb, if_neg Bool.false_ne_true])⟩
      | true =>
        obtain ⟨S2, P', e', b1, b2, _, b3, b4, _⟩ := c5_enterE (d + 1) (MX_Xm hM h1) h2 h3 hk
        rw [if_neg bI_T, b1, cV_some, wc_bind, nI_1]
        exact K _ ⟨h1.tr b2, P', e', b3, isE_cg b4 (by rw [tk, hb, if_pos rfl])⟩
    · intro S' ⟨h1, P, e, h2, h3⟩
      show wp (am_run _ _ _ _ _ _ _) _
      rw [eX5_rankOf_6, if_pos (by decide), hm.f6, wc_bind, h2.2.2]
      refine wp_ret ⟨?_, h1⟩
      rw [← rkf_eq hM.2.1 hM.2.2.2.1 (isE_cg h3 (Nat.mod_eq_of_lt hs).symm)]
  obtain ⟨o, S', h1, rfl, h2⟩ := key
  exact ⟨S', h1, h2⟩
/-! a stack of echelons -/
def hib (s j : Nat) : Nat := s / 2 ^ j * 2 ^ j
theorem hib_1 : ∀ s, s < 128 → 0 < s → lz s < 7 ∧ s.testBit (lz s) = true ∧ (s - 1).testBit (lz s) = false ∧ hib (s - 1) (lz s) ||| 2 ^ lz s = s := by decide +kernel
theorem hib_2 : ∀ s, s < 128 → ∀ k, k < 7 → 0 < s → k < lz s → (s - 1).testBit k = true ∧ s.testBit k = false := by decide +kernel
theorem hib_3 : ∀ s, s < 128 → ∀ j, j < 8 → 0 < s → j ≤ lz s → hib s j = s := by decide +kernel
theorem hib_4 : ∀ s, s < 128 → ∀ j, j < 8 → 0 < s → lz s < j → hib s j = hib (s - 1) j ∧ s.testBit j = (s - 1).testBit j := by decide +kernel
theorem hib_ok (s : Nat) (hs : s < 128) (h0 : 0 < s) : lz s < 7 ∧ s.testBit (lz s) = true ∧ (s - 1).testBit (lz s) = false ∧ hib (s - 1) (lz s) ||| 2 ^ lz s = s ∧ (∀ k, k < 7 → k < lz s → (s - 1).testBit k = true ∧ s.testBit k = false) ∧ (∀ j, j < 8 → j ≤ lz s → hib s j = s) ∧ ∀ j, j < 8 → lz s < j → hib s j = hib (s - 1) j ∧ s.testBit j = (s - 1).testBit j :=
  ⟨(hib_1 s hs h0).1, (hib_1 s hs h0).2.1, (hib_1 s hs h0).2.2.1, (hib_1 s hs h0).2.2.2, fun k h1 h2 => hib_2 s hs k h1 h0 h2, fun j h1 h2 => hib_3 s hs j h1 h0 h2, fun j h1 h2 => hib_4 s hs j h1 h0 h2⟩
def chS (S : am_S) (m T k : Nat) (Pj : Nat → Nat → Bool) (ej : Nat → Nat → vec) : Prop := ∀ j, k ≤ j → j < 7 → (T.testBit j = false → Pj j = Pj (j + 1) ∧ ej j = ej (j + 1)) ∧ (T.testBit j = true → (S (m + 6) j = -1 ∧ Pj j = Pj (j + 1) ∧ ej j = ej (j + 1)) ∨ ∃ p u, p < 7 ∧ Pj (j + 1) p = false ∧ Pj j = updB (Pj (j + 1)) p true ∧ ej j = updE (ej (j + 1)) p u ∧ S (m + 6) j = nI p)
def ST (S : am_S) (m f : Nat) (col : Nat → vec) (T k : Nat) (Pj : Nat → Nat → Bool) (ej : Nat → Nat → vec) : Prop := EX S m (Pj k) (ej k) ∧ (∀ j, j ≤ 7 → isE f col (hib T j) (Pj j) (ej j)) ∧ chS S m T k Pj ej
theorem st_leave (d : Nat) {S : am_S} {m f T k : Nat} {col : Nat → vec} {Pj : Nat → Nat → Bool} {ej : Nat → Nat → vec} (hm : mq m) (h : ST S m f col T k Pj ej) (hk : k < 7) (hb : T.testBit k = true) : ∃ S', am_cal am_mt (d + 2) jX5_leave [.ref m, .int (nI k)] (ws S) = some (none, ws S') ∧ Xm m S S' ∧ ST S' m f col T (k + 1) Pj ej := by
  obtain ⟨h1, h2, h3⟩ := h
  obtain ⟨S', a1, a2, a3, a4⟩ := c5_leave d (P := Pj (k + 1)) (e := ej (k + 1)) hm hk (by
    rcases (h3 k (Nat.le_refl k) hk).2 hb with ⟨b1, b2, b3⟩ | ⟨p, u, b1, b2, b3, b4, b5⟩
    · exact Or.inl ⟨b1, by rw [← b2, ← b3]; exact h1⟩
    · exact Or.inr ⟨p, u, b1, b2, by rw [← b3, ← b4]; exact h1, b5⟩)
  refine ⟨S', a1, a2, a4, h2, fun j hj hj7 => ?_⟩
  rw [a3 j (by omega)]
  exact h3 j (by omega) hj7
theorem st_enter (d : Nat) {S : am_S} {m f s : Nat} {col : Nat → vec} {Pj : Nat → Nat → Bool} {ej : Nat → Nat → vec} (hM : MX S m f col) (hs : s < 128) (h0 : 0 < s) (h : ST S m f col (s - 1) (lz s) Pj ej) : ∃ S' Pj' ej', am_cal am_mt (d + 4) jX5_enter [.ref m, .int (nI (lz s))] (ws S) = some (none, ws S') ∧ Xm m S S' ∧ ST S' m f col s 0 Pj' ej' := by
  obtain ⟨g1, g2, g3, g4, g5, g6, g7⟩ := hib_ok s hs h0
  obtain ⟨h1, h2, h3⟩ := h
  obtain ⟨S', P', e', a1, a2, a3, a4, a5, a6⟩ := c5_enterE d hM h1 (h2 (lz s) (by omega)) g1
  have hP : ∀ j, j ≤ lz s → (fun j => if j ≤ lz s then P' else Pj j) j = P' := fun j hj => if_pos hj
  have hP' : ∀ j, lz s < j → (fun j => if j ≤ lz s then P' else Pj j) j = Pj j := fun j hj => if_neg (by omega)
  have hE : ∀ j, j ≤ lz s → (fun j => if j ≤ lz s then e' else ej j) j = e' := fun j hj => if_pos hj
  have hE' : ∀ j, lz s < j → (fun j => if j ≤ lz s then e' else ej j) j = ej j := fun j hj => if_neg (by omega)
  have hg := (h3 (lz s) (Nat.le_refl _) g1).1 g3
  refine ⟨S', fun j => if j ≤ lz s then P' else Pj j, fun j => if j ≤ lz s then e' else ej j, a1, a2, ?_, fun j hj => ?_, fun j _ hj7 => ?_⟩
  · rw [hP 0 (Nat.zero_le _), hE 0 (Nat.zero_le _)]; exact a4
  · by_cases hjl : j ≤ lz s
    · rw [hP j hjl, hE j hjl]
      exact isE_cg a5 (by rw [g6 j (by omega) hjl, g4])
    · rw [hP' j (by omega), hE' j (by omega)]
      exact isE_cg (h2 j hj) (g7 j (by omega) (by omega)).1
  · by_cases hjl : j < lz s
    · rw [hP j (by omega), hE j (by omega), hP (j + 1) (by omega), hE (j + 1) (by omega)]
      exact ⟨fun _ => ⟨rfl, rfl⟩, fun hb => by rw [(g5 j hj7 hjl).2] at hb; cases hb⟩
    · by_cases hje : j = lz s
      · subst hje
        rw [hP _ (Nat.le_refl _), hE _ (Nat.le_refl _), hP' (lz s + 1) (by omega), hE' (lz s + 1) (by omega), ← hg.1, ← hg.2]
        refine ⟨fun hb => (by rw [g2] at hb; cases hb), fun _ => ?_⟩
        rcases a6 with ⟨b1, b2, b3⟩ | ⟨p, u, b1, b2, b3, b4, b5⟩
        · exact Or.inl ⟨b3, b1, b2⟩
        · exact Or.inr ⟨p, u, b1, b2, b3, b4, b5⟩
      · rw [hP' j (by omega), hE' j (by omega), hP' (j + 1) (by omega), hE' (j + 1) (by omega), (g7 j (by omega) (by omega)).2, a3 j hje]
        exact h3 j (by omega) hj7
/-- what becoming a view by columns leaves -/
def Yq (m q : Nat) (S S' : am_S) : Prop := (∀ c, (c < q ∨ q + 1 < c) → (c < m ∨ m + 7 < c) → S' c = S c) ∧ S' m 0 = S m 0 ∧ S' (m + 3) = S (m + 3)
theorem Yq.rf {m q : Nat} {S : am_S} : Yq m q S S := ⟨fun _ _ _ => rfl, rfl, rfl⟩
theorem Yq.x {m q : Nat} {S S' S'' : am_S} (h : Yq m q S S') (hx : Xm m S' S'') : Yq m q S S'' := ⟨fun c h1 h2 => (hx.1 c h2).trans (h.1 c h1 h2), hx.2.1.trans h.2.1, hx.2.2.trans h.2.2⟩
theorem Yq.u {m q c i : Nat} {S S' : am_S} (h : Yq m q S S') (hqm : q + 1 < m ∨ m + 7 < q) (hc : c = q ∨ c = q + 1) (x : Int32) : Yq m q S (up S' c i x) :=
  ⟨fun c' h1 h2 => by rw [up_ne c' (by omega)]; exact h.1 c' h1 h2, by rw [up_ne m (by omega)]; exact h.2.1, by rw [up_ne (m + 3) (by omega)]; exact h.2.2⟩
theorem MX_Yq {S S' : am_S} {m f q : Nat} {col : Nat → vec} (h : MX S m f col) (hy : Yq m q S S') (hqf : ∀ x, x < 2 ^ 31 → S m 0 = nI x → x + 1 < q ∨ q + 1 < x) : MX S' m f col := by
  obtain ⟨h1, h2, ⟨x, h3, h4, h5, h6⟩, h7, h8⟩ := h
  have hx := hqf x h3 h4
  refine ⟨h1, h2, ⟨x, h3, by rw [hy.2.1]; exact h4, ⟨h5.1, h5.2.1, h5.2.2.1, ?_, ?_⟩, h6⟩, h7, fun g hg i hi => by rw [hy.2.2]; exact h8 g hg i hi⟩
  · rw [hy.1 x (by omega) (by omega)]; exact h5.2.2.2.1
  · intro b hb; rw [hy.1 (x + 1) (by omega) (by omega)]; exact h5.2.2.2.2 b hb
theorem ST_cg {S S' : am_S} {m f T k : Nat} {col : Nat → vec} {Pj : Nat → Nat → Bool} {ej : Nat → Nat → vec} (h : ST S m f col T k Pj ej) (hc : ∀ c, m ≤ c → c ≤ m + 7 → S' c = S c) : ST S' m f col T k Pj ej := by
  obtain ⟨⟨h1, h2, h3⟩, h4, h5⟩ := h
  refine ⟨⟨fun p hp => ?_, fun p hp hpp i hi => ?_, ?_⟩, h4, fun j hj hj7 => ?_⟩
  · rw [hc (m + 5) (by omega) (by omega)]; exact h1 p hp
  · rw [hc (m + 4) (by omega) (by omega)]; exact h2 p hp hpp i hi
  · rw [hc m (by omega) (by omega)]; exact h3
  · rw [hc (m + 6) (by omega) (by omega)]; exact h5 j hj hj7
theorem c8_byColumns (d : Nat) {S : am_S} {m f n q : Nat} {col : Nat → vec} (kq : vq q) (hn : n ≤ 7) (hM : MX S m f col) (hqm : q + 1 < m ∨ m + 7 < q) (hqf : ∀ x, x < 2 ^ 31 → S m 0 = nI x → x + 1 < q ∨ q + 1 < x) : ∃ S', am_cal am_mt (d + 6) jX8_becomeByColumns [.ref q, .ref m, .int (nI n)] (ws S) = some (none, ws S') ∧ Yq m q S S' ∧ VC S' q n (rkf f col) := by
  have hm := hM.1
  have h128 : ∀ s, s < 2 ^ n → s < 128 := fun s hs => p2_128 hn hs
  obtain ⟨S1, a1, a2, a3⟩ := c5_empty (d + 4) (up S q 0 (nI n)) hm
  have y1 : Yq m q S S1 := (Yq.u Yq.rf hqm (Or.inl rfl) _).x a2
  have q1 : S1 q 0 = nI n := by rw [a2.1 q (by omega)]; exact up_self _ _ _ _
  rw [eX8_becomeByColumns_0, kq.O, if_T, kq.sF, wc_bind, a1, cV_some, wc_bind, kq.fR, wc_bind]
  rw [show am_sI (ws S1) (q + 1) 0 (0 : Int32) (0 : Int32) = some (ws (up S1 (q + 1) 0 (nI 0))) from kq.sI S1 (e := 0) (by decide) (0 : Int32), wc_bind, show (1 : Int32) = nI 1 from rfl]
  have outer : ∀ r s S2 y4 y5, s + r = 2 ^ n → 0 < s → Yq m q S S2 → S2 q 0 = nI n → (∀ t, t < s → S2 (q + 1) t = nI (rkf f col t)) → (∃ Pj ej, ST S2 m f col (s - 1) 0 Pj ej) → ∃ S', am_run false (am_cal am_mt (d + 5)) (am_lk tbX8_becomeByColumns) 18 [some (.ref q), some (.ref m), some (.int (nI n)), some (.int (nI s)), y4, y5] [] (ws S2) = some (none, ws S') ∧ Yq m q S S' ∧ VC S' q n (rkf f col) := by
    intro r
    induction r with
    | zero =>
      intro s S2 y4 y5 hs h0 hy hq ht _
      have : s = 2 ^ n := by omega
      subst this
      rw [eX8_becomeByColumns_18, kq.all (d + 4) hn hq, cI_some, wc_bind, if_pos (p2_end hn)]
      dsimp only
      exact ⟨S2, rfl, hy, kq.1, kq.2, hn, hq, fun t htn => ⟨ht t htn, rkf_le⟩⟩
    | succ r ih =>
      intro s S2 y4 y5 hs h0 hy hq ht ⟨Pj, ej, hst⟩
      have hsn : s < 2 ^ n := by omega
      have hs7 := h128 s hsn
      obtain ⟨g1, g2, g3, g4, g5, g6, g7⟩ := hib_ok s hs7 h0
      rw [eX8_becomeByColumns_18, kq.all (d + 4) hn hq, cI_some, wc_bind, if_neg (show ¬ nI (2 ^ n - 1) < nI s from nI_nlt (by omega) (by have := p2_le hn; omega))]
      dsimp only
      rw [J_ntz (d + 4) hs7 h0, cI_some, wc_bind, show (0 : Int32) = nI 0 from rfl]
      dsimp only
      have inner : ∀ u k S3, k + u = lz s → Yq m q S S3 → S3 q 0 = nI n → (∀ t, t < s → S3 (q + 1) t = nI (rkf f col t)) → ST S3 m f col (s - 1) k Pj ej → ∃ S', am_run false (am_cal am_mt (d + 5)) (am_lk tbX8_becomeByColumns) 35 [some (.ref q), some (.ref m), some (.int (nI n)), some (.int (nI s)), some (.int (nI (lz s))), some (.int (nI k))] [] (ws S3) = some (none, ws S') ∧ Yq m q S S' ∧ VC S' q n (rkf f col) := by
        intro u
        induction u with
        | zero =>
          intro k S3 hk hy3 hq3 ht3 hst3
          have : k = lz s := by omega
          subst this
          obtain ⟨S4, Pj', ej', b1, b2, b3⟩ := st_enter (d + 1) (MX_Yq hM hy3 hqf) hs7 h0 hst3
          rw [eX8_becomeByColumns_35, if_pos (Int32.le_refl _), b1, cV_some, wc_bind, kq.fR, wc_bind, hm.f6, wc_bind, kq.sI S4 hs7, wc_bind, nI_1]
          have hrk : S4 m 6 = nI (rkf f col s) := by
            rw [b3.1.2.2, rkf_eq hM.2.1 hM.2.2.2.1 (isE_cg (b3.2.1 0 (by omega)) (by unfold hib; rw [Nat.pow_zero, Nat.div_one, Nat.mul_one]))]
          refine ih (s + 1) _ _ _ (by omega) (by omega) ((hy3.x b2).u hqm (Or.inr rfl) _) ?_ (fun t htt => ?_) ⟨Pj', ej', ?_⟩
          · rw [up_ne q (by omega), b2.1 q (by omega)]; exact hq3
          · rw [up_upd]; unfold upd
            by_cases hts : t = s
            · rw [if_pos hts, hts]; exact hrk
            · rw [if_neg hts, b2.1 (q + 1) (by omega)]; exact ht3 t (by omega)
          · rw [show s + 1 - 1 = s by omega]
            exact ST_cg b3 (fun c h1 h2 => up_ne c (by omega))
        | succ u ihu =>
          intro k S3 hk hy3 hq3 ht3 hst3
          obtain ⟨S4, b1, b2, b3⟩ := st_leave (d + 3) hm hst3 (show k < 7 by omega) (g5 k (by omega) (by omega)).1
          rw [eX8_becomeByColumns_35, if_neg (show ¬ nI (lz s) ≤ nI k from nI_ge (by omega) (by omega)), b1, cV_some, wc_bind, nI_1]
          exact ihu (k + 1) S4 (by omega) (hy3.x b2) (by rw [b2.1 q (by omega)]; exact hq3) (fun t htt => by rw [b2.1 (q + 1) (by omega)]; exact ht3 t htt) b3
      exact inner (lz s) 0 S2 (by omega) hy hq ht hst
  refine outer (2 ^ n - 1) 1 _ none none (by have := Nat.two_pow_pos n; omega) (by omega) (y1.u hqm (Or.inr rfl) _) ?_ (fun t ht => ?_) ⟨fun _ _ => false, fun _ _ _ => 0, ?_⟩
  · rw [up_ne q (by omega)]; exact q1
  · have : t = 0 := by omega
    subst this
    rw [up_self, rkf_eq hM.2.1 hM.2.2.2.1 (isE_0 f col (fun _ _ => 0))]
    rfl
  · refine ST_cg ⟨a3, fun j hj => isE_cg (isE_0 f col _) ?_, fun j _ _ => ⟨fun _ => ⟨rfl, rfl⟩, fun hb => ?_⟩⟩ (fun c h1 h2 => up_ne c (by omega))
    · unfold hib; rw [Nat.sub_self, Nat.zero_div, Nat.zero_mul]
    · rw [Nat.sub_self, Nat.zero_testBit] at hb; cases hb
