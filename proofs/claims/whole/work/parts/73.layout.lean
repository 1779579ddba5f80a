/-! ===== the class lays out the places ===== -/
theorem lbl_lt (n : Nat) (ρ : Nat → Nat) (B : Nat) : ∀ c, c ≤ 49 → ∀ x, x < 14 → lbl n ρ B c x < 14 := by
  intro c
  induction c with
  | zero => intro _ x hx; exact hx
  | succ c ih =>
    intro hc x hx
    have h := ih (by omega)
    rw [lbl_s]
    split
    · unfold jn
      split
      · exact h _ (by omega)
      · exact h x hx
    · exact h x hx
theorem c9_join (d : Nat) {S : am_S} {L : Nat → Nat} {a b : Nat} (hL : ∀ x, x < 14 → S 37 x = nI (L x)) (hlt : ∀ x, x < 14 → L x < 14) (ha : a < 14) (hb : b < 14) : ∃ S', am_cal am_mt (d + 2) jX9_join [.ref 25, .int (nI a), .int (nI b)] (ws S) = some (some (.int (bI (!(L a == L b)))), ws S') ∧ Cr 37 37 S S' ∧ ∀ x, x < 14 → S' 37 x = nI ((if L a = L b then L else jn L a b) x) := by
  have la := hlt a ha
  have lb := hlt b hb
  have key : wp (am_cal am_mt (d + 2) jX9_join [.ref 25, .int (nI a), .int (nI b)] (ws S)) (fun o S' => o = some (.int (bI (!(L a == L b)))) ∧ Cr 37 37 S S' ∧ ∀ x, x < 14 → S' 37 x = nI ((if L a = L b then L else jn L a b) x)) := by
    rw [eX9_join_0, kO25, if_T, kR25_4, wc_bind, kL37, wc_bind, c_below, cI_some, wc_bind, inR_T ha (by decide), if_neg bI_T, kR25_4, wc_bind, kL37, wc_bind]
    dsimp only
    rw [c_below, cI_some, wc_bind, inR_T hb (by decide), if_neg bI_T, kR25_4, wc_bind]
    dsimp only
    rw [kA37 S ha, wc_bind, wc_bind, kA37 S hb, wc_bind, hL a ha, hL b hb]
    by_cases hab : L a = L b
    · rw [if_pos (congrArg nI hab)]
      refine wp_ret ⟨?_, Cr.rf, fun x hx => ?_⟩
      · rw [hab, beq_self_eq_true]; rfl
      · rw [if_pos hab]; exact hL x hx
    · rw [if_neg (fun c => hab ((nI_eq (by omega) (by omega)).mp c)), wc_bind, kA37 S hb, wc_bind, hL b hb, show (0 : Int32) = nI 0 from rfl]
      refine loop_wp (fun k S' => am_run true (am_cal am_mt (d + 1)) (am_lk tbX9_join) 51 [some (.ref 25), some (.int (nI a)), some (.int (nI b)), some (.int (nI (L b))), some (.int (nI k))] [] (ws S')) (fun k S' => Cr 37 37 S S' ∧ ∀ x, x < 14 → S' 37 x = nI (if x < k then jn L a b x else L x)) _ 14 ?_ ?_ 0 S (Nat.zero_le _) ⟨Cr.rf, fun x hx => by rw [if_neg (Nat.not_lt_zero x)]; exact hL x hx⟩
      · intro k S' hk ⟨h1, h2⟩ K
        show wp (am_run _ _ _ _ _ _ _) _
        have lk := hlt k hk
        have hka : S' 37 a = nI (L a) := by
          rw [h2 a ha]
          split
          · unfold jn; rw [if_neg hab]
          · rfl
        rw [eX9_join_51, kR25_4, wc_bind, kL37, wc_bind, if_neg (nI_ge hk (by decide)), wc_bind, kA37 S' hk, wc_bind, h2 k hk, if_neg (Nat.lt_irrefl k), nI_1]
        by_cases hkb : L k = L b
        · rw [if_pos (congrArg nI hkb), wc_bind, wc_bind, kA37 S' ha, wc_bind, hka, kW37 S' hk, wc_bind]
          refine K _ ⟨Cr_up h1 (by decide) (by decide), fun x hx => ?_⟩
          rw [up_upd]; unfold upd
          by_cases hxk : x = k
          · rw [if_pos hxk, if_pos (by omega), hxk]; unfold jn; rw [if_pos hkb]
          · rw [if_neg hxk, h2 x hx]
            by_cases hxl : x < k
            · rw [if_pos hxl, if_pos (by omega)]
            · rw [if_neg hxl, if_neg (by omega)]
        · rw [if_neg (fun c => hkb ((nI_eq (by omega) (by omega)).mp c))]
          refine K _ ⟨h1, fun x hx => ?_⟩
          rw [h2 x hx]
          by_cases hxk : x = k
          · rw [if_neg (by omega), if_pos (by omega), hxk]; unfold jn; rw [if_neg hkb]
          · by_cases hxl : x < k
            · rw [if_pos hxl, if_pos (by omega)]
            · rw [if_neg hxl, if_neg (by omega)]
      · intro S' ⟨h1, h2⟩
        show wp (am_run _ _ _ _ _ _ _) _
        rw [eX9_join_51, kR25_4, wc_bind, kL37, wc_bind, if_pos (Int32.le_refl _)]
        refine wp_ret ⟨?_, h1, fun x hx => ?_⟩
        · rw [show (L a == L b) = false from beq_eq_false_iff_ne.mpr hab]; rfl
        · rw [h2 x hx, if_pos hx, if_neg hab]
  obtain ⟨o, S', h1, rfl, h2⟩ := key
  exact ⟨S', h1, h2⟩
/-- the places before a code are listed -/
def WA (S : am_S) (n : Nat) (ρ : Nat → Nat) (B c : Nat) : Prop := S 25 9 = nI (pix n ρ B c) ∧ (∀ c', c' < c → plc n ρ B c' = true → S 34 (pix n ρ B c') = nI (c' / 7) ∧ S 35 (pix n ρ B c') = nI (c' % 7) ∧ S 36 (pix n ρ B c') = bI (jf n ρ B c')) ∧ ∀ x, x < 14 → S 37 x = nI (lbl n ρ B c x)
theorem WA_skip {S : am_S} {n B c : Nat} {ρ : Nat → Nat} (h : WA S n ρ B c) (hp : plc n ρ B c = false) : WA S n ρ B (c + 1) := by
  have e1 : pix n ρ B (c + 1) = pix n ρ B c := cn_F hp
  have e3 : lbl n ρ B (c + 1) = lbl n ρ B c := by rw [lbl_s, hp, Bool.false_and, if_neg Bool.false_ne_true]
  refine ⟨by rw [e1]; exact h.1, fun c' hc hpc => ?_, by rw [e3]; exact h.2.2⟩
  by_cases hcc : c' = c
  · rw [hcc, hp] at hpc; cases hpc
  · exact h.2.1 c' (by omega) hpc
theorem WA_skips {S : am_S} {n B c : Nat} {ρ : Nat → Nat} (h : WA S n ρ B c) : ∀ m, (∀ x, c ≤ x → x < c + m → plc n ρ B x = false) → WA S n ρ B (c + m) := by
  intro m
  induction m with
  | zero => intro _; exact h
  | succ m ih => intro hx; exact WA_skip (ih (fun x h1 h2 => hx x h1 (by omega))) (hx (c + m) (by omega) (by omega))
theorem WA_eq {S S' : am_S} {n B c : Nat} {ρ : Nat → Nat} (h : WA S n ρ B c) (h1 : S' 25 9 = S 25 9) (h2 : ∀ x, 34 ≤ x → x ≤ 37 → S' x = S x) : WA S' n ρ B c := by
  unfold WA at h ⊢
  rw [h1, h2 34 (by decide) (by decide), h2 35 (by decide) (by decide), h2 36 (by decide) (by decide), h2 37 (by decide) (by decide)]
  exact h
theorem narb (b : Bool) : vp_nar .boolean (bI b) = bI b := by cases b <;> rfl
theorem c9_addPlace (d : Nat) {S : am_S} {n B e i : Nat} {ρ : Nat → Nat} (hn : n ≤ 7) (hB : B < 2 ^ n) (hi : i < 7) (hp : plc n ρ B (7 * e + i) = true) (hW : WA S n ρ B (7 * e + i)) : ∃ S', am_cal am_mt (d + 3) jX9_addPlace [.ref 25, .int (nI e), .int (nI i)] (ws S) = some (none, ws S') ∧ (∀ c, c ≠ 25 → (c < 34 ∨ 37 < c) → S' c = S c) ∧ (∀ x, x ≠ 9 → S' 25 x = S 25 x) ∧ WA S' n ρ B (7 * e + i + 1) := by
  obtain ⟨d1, d2⟩ := code_d (e := e) hi
  obtain ⟨w1, w2, w3⟩ := hW
  have he : e < n := by have := (plc_iff.mp hp).1; omega
  have hlt : pix n ρ B (7 * e + i) < pix n ρ B 49 := cn_lt (show 7 * e + i < 49 by omega) hp
  have h12 := pix_12 ρ hn hB
  obtain ⟨P, hP⟩ : ∃ P, P = pix n ρ B (7 * e + i) := ⟨_, rfl⟩
  rw [← hP] at w1 hlt
  have hP12 : P < 12 := by omega
  obtain ⟨Sa, hSa⟩ : ∃ Sa, Sa = up (up S 34 P (nI e)) 35 P (nI i) := ⟨_, rfl⟩
  have la : ∀ x, x < 14 → Sa 37 x = nI (lbl n ρ B (7 * e + i) x) := fun x hx => by rw [hSa, up_ne 37 (by decide), up_ne 37 (by decide)]; exact w3 x hx
  obtain ⟨Sb, b1, b2, b3⟩ := c9_join d (S := Sa) (L := lbl n ρ B (7 * e + i)) (a := i) (b := 7 + e) la (lbl_lt n ρ B _ (by omega)) (by omega) (by omega)
  have hSa9 : Sa 25 9 = nI P := by rw [hSa, up_ne 25 (by decide), up_ne 25 (by decide)]; exact w1
  have hSb9 : Sb 25 9 = nI P := by rw [b2 25 (by decide)]; exact hSa9
  have hjf : jf n ρ B (7 * e + i) = !(lbl n ρ B (7 * e + i) i == lbl n ρ B (7 * e + i) (7 + e)) := by unfold jf; rw [d1, d2]
  have e1 : pix n ρ B (7 * e + i + 1) = P + 1 := by rw [hP]; exact cn_T hp
  refine ⟨up (up Sb 36 P (bI (jf n ρ B (7 * e + i)))) 25 9 (nI (P + 1)), ?_, fun c h1 h2 => ?_, fun x hx => ?_, ?_, fun c' hc hpc => ?_, fun x hx => ?_⟩
  · rw [eX9_addPlace_0, kO25, if_T, kI25_9, wc_bind, w1, if_pos (show nI P < (12 : Int32) from nI_lt (b := 12) hP12 (by decide)), kR25_1, wc_bind, wc_bind, kW34 S hP12, wc_bind, kR25_2, wc_bind, kI25_9, wc_bind, up_ne 25 (by decide), w1, kW35 _ hP12, wc_bind, ← hSa, kR25_3, wc_bind, kI25_9, wc_bind, hSa9, show (7 : Int32) + nI e = nI (7 + e) from nI_add 7 e, b1, cI_some, wc_bind]
    dsimp only
    rw [narb, kW36 Sb hP12, wc_bind, kI25_9, wc_bind, up_ne 25 (by decide), hSb9, kS25_9, wc_bind, nI_1, hjf]
  · rw [up_ne c h1, up_ne c (by omega), b2 c (by omega), hSa, up_ne c (by omega), up_ne c (by omega)]
  · rw [up_upd]; unfold upd; rw [if_neg hx, up_ne 25 (by decide), b2 25 (by decide), hSa, up_ne 25 (by decide), up_ne 25 (by decide)]
  · rw [e1]; exact up_self _ _ _ _
  · rw [up_ne 34 (by decide), up_ne 34 (by decide), up_ne 35 (by decide), up_ne 35 (by decide), up_ne 36 (by decide), b2 34 (by decide), b2 35 (by decide), hSa, up_ne 34 (by decide)]
    by_cases hcc : c' = 7 * e + i
    · rw [hcc, ← hP, up_self, up_self, up_self, d1, d2]
      exact ⟨rfl, rfl, rfl⟩
    · have hlt' : pix n ρ B c' < P := by rw [hP]; exact cn_lt (show c' < 7 * e + i by omega) hpc
      obtain ⟨g1, g2, g3⟩ := w2 c' (by omega) hpc
      have hb36 : Sb 36 = S 36 := by rw [b2 36 (by decide), hSa, up_ne 36 (by decide), up_ne 36 (by decide)]
      rw [up_upd, up_upd, up_upd]
      unfold upd
      rw [if_neg (by omega), if_neg (by omega), if_neg (by omega), hb36, up_ne 35 (by decide)]
      exact ⟨g1, g2, g3⟩
  · rw [up_ne 37 (by decide), up_ne 37 (by decide), b3 x hx, lbl_s, hp, hjf, d1, d2, Bool.true_and]
    by_cases hab : lbl n ρ B (7 * e + i) i = lbl n ρ B (7 * e + i) (7 + e)
    · rw [if_pos hab, hab, beq_self_eq_true, Bool.not_true, if_neg Bool.false_ne_true]
    · rw [if_neg hab, show (lbl n ρ B (7 * e + i) i == lbl n ρ B (7 * e + i) (7 + e)) = false from beq_eq_false_iff_ne.mpr hab, Bool.not_false, if_pos rfl]
