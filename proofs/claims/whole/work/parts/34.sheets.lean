/-! ===== sheets ===== -/
/-- only cells a to b are otherwise -/
def Cr (a b : Nat) (S S' : am_S) : Prop := ∀ c, c < a ∨ b < c → S' c = S c
theorem Cr.rf {a b : Nat} {S : am_S} : Cr a b S S := fun _ _ => rfl
theorem Cr.tr {a b : Nat} {S S' S'' : am_S} (h1 : Cr a b S S') (h2 : Cr a b S' S'') : Cr a b S S'' := fun c h => (h2 c h).trans (h1 c h)
theorem Cr.wk {a b a' b' : Nat} {S S' : am_S} (h : Cr a b S S') (h1 : a' ≤ a) (h2 : b ≤ b') : Cr a' b' S S' := fun c hc => h c (by omega)
theorem Cr_up {a b c i : Nat} {S S' : am_S} {x : Int32} (h : Cr a b S S') (h1 : a ≤ c) (h2 : c ≤ b) : Cr a b S (up S' c i x) := fun c' hc => by rw [up_ne c' (by omega)]; exact h c' hc
theorem Cr_upA {a b c : Nat} {S S' : am_S} {f : Nat → Int32} (h : Cr a b S S') (h1 : a ≤ c) (h2 : c ≤ b) : Cr a b S (upA S' c f) := fun c' hc => by rw [upA_ne c' (by omega)]; exact h c' hc
theorem Fk_Cr {K : Nat → Bool} {a b : Nat} {S S' : am_S} (h : Cr a b S S') (hk : ∀ c i, a ≤ c → c ≤ b → K (comp c i) = true) : Fk K S S' := by
  intro c i hc
  by_cases h1 : c < a ∨ b < c
  · rw [h c h1]
  · dsimp only at hc
    rw [hk c i (by omega) (by omega)] at hc
    cases hc
theorem VC_Cr {a b q n : Nat} {ρ : Nat → Nat} {S S' : am_S} (h : VC S q n ρ) (hc : Cr a b S S') (hq : q + 1 < a ∨ b < q) : VC S' q n ρ :=
  ⟨h.1, h.2.1, h.2.2.1, by rw [hc q (by omega)]; exact h.2.2.2.1, fun s hs => by rw [hc (q + 1) (by omega)]; exact h.2.2.2.2 s hs⟩
theorem FC_Cr {a b q f : Nat} {S S' : am_S} (h : FC S q f) (hc : Cr a b S S') (hq : q + 1 < a ∨ b < q) : FC S' q f :=
  ⟨h.1, h.2.1, h.2.2.1, by rw [hc q (by omega)]; exact h.2.2.2.1, fun s hs => by rw [hc (q + 1) (by omega)]; exact h.2.2.2.2 s hs⟩
theorem VM_Cr {a b v n : Nat} {ρ : Nat → Nat} {S S' : am_S} (h : VM S v n ρ) (hc : Cr a b S S') (hq : b < 91 ∨ 92 < a) : VM S' v n ρ :=
  ⟨h.1, h.2.1, by rw [hc 91 (by omega)]; exact h.2.2.1, fun s hs => by rw [hc 92 (by omega)]; exact h.2.2.2 s hs⟩
theorem MC_Cr {a b : Nat} {S S' : am_S} (h : MC S) (hc : Cr a b S S') (hq : b < 89 ∨ 90 < a) : MC S' :=
  ⟨fun f hf => by rw [hc 89 (by omega)]; exact h.1 f hf, fun f hf => by rw [hc 90 (by omega)]; exact h.2 f hf⟩
theorem kd_s {s : Nat} (h : s < 4) : kdl[80 + 2 * s]? = some (0, 7, 0, [(0, 0), (0, 0), (1, 81 + 2 * s)]) ∧ kdl[81 + 2 * s]? = some (1, 0, 64, []) := by
  rcases (show s = 0 ∨ s = 1 ∨ s = 2 ∨ s = 3 by omega) with rfl | rfl | rfl | rfl <;> exact ⟨rfl, rfl⟩
theorem sO (S : am_S) {s : Nat} (h : s < 4) : am_isO (ws S) (80 + 2 * s) 7 = true := ws_isO (kd_s h).1
theorem sI0 (S : am_S) {s : Nat} (h : s < 4) : am_fI (ws S) (80 + 2 * s) 7 0 = some (S (80 + 2 * s) 0) := ws_fI (kd_s h).1 rfl
theorem sI1 (S : am_S) {s : Nat} (h : s < 4) : am_fI (ws S) (80 + 2 * s) 7 1 = some (S (80 + 2 * s) 1) := ws_fI (kd_s h).1 rfl
theorem sRn (S : am_S) {s : Nat} (h : s < 4) : am_fR (ws S) (80 + 2 * s) 7 2 = some (81 + 2 * s) := ws_fR (kd_s h).1 rfl
theorem sS0 (S : am_S) {s : Nat} (h : s < 4) (x : Int32) : am_sF (ws S) (80 + 2 * s) 7 0 (.int x) = some (ws (up S (80 + 2 * s) 0 x)) := ws_sFI (kd_s h).1 rfl
theorem sS1 (S : am_S) {s : Nat} (h : s < 4) (x : Int32) : am_sF (ws S) (80 + 2 * s) 7 1 (.int x) = some (ws (up S (80 + 2 * s) 1 x)) := ws_sFI (kd_s h).1 rfl
theorem sA (S : am_S) {s i : Nat} (h : s < 4) (hi : i < 64) : am_aI (ws S) (81 + 2 * s) 0 (nI i) = some (S (81 + 2 * s) i) := ws_aIn (kd_s h).2 hi (by decide)
theorem sW (S : am_S) {s i : Nat} (h : s < 4) (hi : i < 64) (x : Int32) : am_sI (ws S) (81 + 2 * s) 0 (nI i) x = some (ws (up S (81 + 2 * s) i x)) := ws_sIn (kd_s h).2 hi (by decide)
theorem c7_isMissing (d : Nat) (S : am_S) {s : Nat} (h : s < 4) : am_cal am_mt (d + 1) jX7_isMissing [.ref (80 + 2 * s)] (ws S) = some (some (.int (bI (decide (S (80 + 2 * s) 0 = -1)))), ws S) := by
  rw [eX7_isMissing_0, sO S h, if_T, sI0 S h, wc_bind, bI_if]
theorem c7_numberAt (d : Nat) (S : am_S) {s l i : Nat} (h : s < 4) (hl : S (80 + 2 * s) 1 = nI l) (hl64 : l ≤ 64) (hi : i < 2 ^ 31) : am_cal am_mt (d + 2) jX7_numberAt [.ref (80 + 2 * s), .int (nI i)] (ws S) = some (some (.int (if i < l then S (81 + 2 * s) i else 0)), ws S) := by
  rw [eX7_numberAt_0, sO S h, if_T, sI1 S h, wc_bind, hl, c_below, cI_some, wc_bind, inR_nI hi (by omega)]
  by_cases hc : i < l
  · rw [decide_eq_true hc, if_neg bI_T, sRn S h, wc_bind, sA S h (by omega), wc_bind, if_pos hc]
  · rw [decide_eq_false hc, if_pos bI_F, if_neg hc]
theorem c7_become (d : Nat) (S : am_S) {s l : Nat} (h : s < 4) (hl : l ≤ 64) (x : Int32) : ∃ S', am_cal am_mt (d + 1) jX7_become [.ref (80 + 2 * s), .int x, .int (nI l)] (ws S) = some (none, ws S') ∧ Cr (80 + 2 * s) (81 + 2 * s) S S' ∧ S' (80 + 2 * s) 0 = x ∧ S' (80 + 2 * s) 1 = nI l ∧ ∀ i, i < 64 → S' (81 + 2 * s) i = 0 := by
  have key : wp (am_cal am_mt (d + 1) jX7_become [.ref (80 + 2 * s), .int x, .int (nI l)] (ws S)) (fun v S' => v = none ∧ Cr (80 + 2 * s) (81 + 2 * s) S S' ∧ S' (80 + 2 * s) 0 = x ∧ S' (80 + 2 * s) 1 = nI l ∧ ∀ i, i < 64 → S' (81 + 2 * s) i = 0) := by
    rw [eX7_become_0, sO S h, if_T, sS0 S h, wc_bind, sS1 _ h, wc_bind, if_neg (show ¬ (64 : Int32) < nI l from nI_nlt (a := 64) hl (by decide))]
    refine loop_wp (fun e S' => am_run false (am_cal am_mt d) (am_lk tbX7_become) 17 [some (.ref (80 + 2 * s)), some (.int x), some (.int (nI l)), some (.int (nI e))] [] (ws S')) (fun e S' => Cr (80 + 2 * s) (81 + 2 * s) S S' ∧ S' (80 + 2 * s) 0 = x ∧ S' (80 + 2 * s) 1 = nI l ∧ ∀ i, i < e → S' (81 + 2 * s) i = 0) _ 64 ?_ ?_ 0 _ (Nat.zero_le _) ?_
    · intro e S' he hI K
      show wp (am_run _ _ _ _ _ _ _) _
      rw [eX7_become_17, show (64 : Int32) = nI 64 from rfl, if_neg (nI_ge he (by decide)), sRn S' h, wc_bind, sW S' h he, wc_bind, nI_1]
      refine K _ ⟨Cr_up hI.1 (by omega) (by omega), ?_, ?_, ?_⟩
      · rw [up_ne _ (by omega)]; exact hI.2.1
      · rw [up_ne _ (by omega)]; exact hI.2.2.1
      · intro i hi
        by_cases hie : i = e
        · subst hie; exact up_self _ _ _ _
        · rw [up_upd]; unfold upd; rw [if_neg hie]; exact hI.2.2.2 i (by omega)
    · intro S' hI
      show wp (am_run _ _ _ _ _ _ _) _
      rw [eX7_become_17, if_pos (by decide)]
      exact wp_ret ⟨rfl, hI⟩
    · refine ⟨Cr_up (Cr_up Cr.rf (by omega) (by omega)) (by omega) (by omega), ?_, ?_, fun i hi => absurd hi (Nat.not_lt_zero i)⟩
      · rw [up_upd]; unfold upd; rw [if_neg (by decide)]; exact up_self _ _ _ _
      · exact up_self _ _ _ _
  obtain ⟨v, S', h1, rfl, h2⟩ := key
  exact ⟨S', h1, h2⟩
theorem c7_put (d : Nat) (S : am_S) {s l i : Nat} (h : s < 4) (hl : S (80 + 2 * s) 1 = nI l) (hl64 : l ≤ 64) (hi : i < l) (x : Int32) : am_cal am_mt (d + 2) jX7_put [.ref (80 + 2 * s), .int (nI i), .int x] (ws S) = some (none, ws (up S (81 + 2 * s) i (if S (80 + 2 * s) 0 = 0 then x.toInt8.toInt32 else x))) := by
  rw [eX7_put_0, sO S h, if_T, sI1 S h, wc_bind, hl, c_below, cI_some, wc_bind, inR_T hi (by omega), if_neg bI_T, sRn S h, wc_bind, sI0 S h, wc_bind, sW S h (by omega), wc_bind, sW S h (by omega), wc_bind]
  by_cases hc : S (80 + 2 * s) 0 = 0
  · rw [if_pos hc, if_pos hc]
  · rw [if_neg hc, if_neg hc]
theorem c_refusal (d : Nat) (S : am_S) {s l : Nat} (h : s < 4) (hl : S (80 + 2 * s) 1 = nI l) (x : Int32) : am_cal am_mt (d + 2) jX10_refusalOfPlace [.ref 0, .int (nI s), .int x] (ws S) = some (some (.int (if S (80 + 2 * s) 0 = -1 then -11 else if inR x (nI l) = true then 0 else -12)), ws S) := by
  rw [eX10_refusalOfPlace_0, kO0, if_T, c_below, cI_some, wc_bind, show (4 : Int32) = nI 4 from rfl, inR_T h (by decide), if_neg bI_T, kR0_3, wc_bind, kQs S h, wc_bind, c7_isMissing _ S h, cI_some, wc_bind]
  by_cases hc : S (80 + 2 * s) 0 = -1
  · rw [decide_eq_true hc, if_neg bI_T, if_pos hc]
  · rw [decide_eq_false hc, if_pos bI_F, if_neg hc, kR0_3, wc_bind, kQs S h, wc_bind, sI1 S h, wc_bind, hl, c_below, cI_some, wc_bind]
    cases inR x (nI l) with
    | true => rw [if_neg bI_T, if_pos rfl]
    | false => rw [if_pos bI_F, if_neg (by decide)]
theorem m_in0 (d : Nat) (x : Int32) {l : Nat} (hl : l < 2 ^ 30) (g : am_W) : am_cal am_mt (d + 1) jX11_in [.int x, .int (0 : Int32), .int (nI l - 1)] g = some (some (.int (bI (inR x (nI l)))), g) := by
  rcases Nat.eq_zero_or_pos l with h | h
  · subst h
    rw [eX11_in_0]
    unfold inR
    by_cases h1 : x < 0
    · rw [if_pos h1, decide_eq_false (fun c => c.1 h1)]; ((try dsimp only); try rfl)
    · have h2 : nI 0 - 1 < x := by
        rw [Int32.lt_iff_toInt_lt] at h1 ⊢
        have : (nI 0 - 1 : Int32).toInt = -1 := by decide
        have : (0 : Int32).toInt = 0 := rfl
        omega
      have h3 : nI 0 ≤ x := by
        rw [Int32.lt_iff_toInt_lt] at h1
        rw [Int32.le_iff_toInt_le]
        have : (nI 0 : Int32).toInt = 0 := rfl
        have : (0 : Int32).toInt = 0 := rfl
        omega
      rw [if_neg h1, if_pos h2, decide_eq_false (fun c => c.2 h3)]; ((try dsimp only); try rfl)
  · rw [show nI l - (1 : Int32) = nI (l - 1) from by rw [show (1 : Int32) = nI 1 from rfl, pk_sub h], m_in d x (n := l - 1) (by omega), show l - 1 + 1 = l by omega]
theorem m_wrongAt (d : Nat) (S : am_S) {s l : Nat} (h : s < 4) (hl : S 105 s = nI l) (hl64 : l ≤ 64) (x : Int32) : am_cal am_mt (d + 3) jX11_wrongAt [.ref 88, .int (nI s), .int x] (ws S) = some (some (.int (if S 104 s = -1 then -11 else if inR x (nI l) = true then 0 else -12)), ws S) := by
  rw [eX11_wrongAt_0, kO88, if_T, m_isSheet, cI_some, wc_bind, inR_T h (by decide), if_neg bI_T, kR88_18, wc_bind, kA104 S h, wc_bind]
  by_cases hc : S 104 s = -1
  · rw [if_pos hc, if_pos hc]
  · rw [if_neg hc, if_neg hc, kR88_19, wc_bind, kA105 S h, wc_bind, hl, m_in0 _ x (by omega), cI_some, wc_bind]
    cases inR x (nI l) with
    | true => rw [if_neg bI_T, if_pos rfl]
    | false => rw [if_pos bI_F, if_neg (by decide)]
theorem wc_row64 (v s : Nat) : (64 : Int32) * nI v + nI s = nI (64 * v + s) := by rw [show (64 : Int32) = nI 64 from rfl, pk_mul, nI_add]
theorem m2n : ¬ (-2 : Int32) = 0 := by decide
theorem m11 : ¬ (-11 : Int32) = 0 ∧ ¬ (-12 : Int32) = 0 := by decide
theorem c_refusalF (d : Nat) (S : am_S) {x1 : Int32} (h : inR x1 (nI 4) = false) (x : Int32) : am_cal am_mt (d + 2) jX10_refusalOfPlace [.ref 0, .int x1, .int x] (ws S) = some (some (.int (-2)), ws S) := by
  rw [eX10_refusalOfPlace_0, kO0, if_T, c_below, cI_some, wc_bind, show (4 : Int32) = nI 4 from rfl, h, if_pos bI_F]
theorem m_wrongAtF (d : Nat) (S : am_S) {x1 : Int32} (h : inR x1 (nI 4) = false) (x : Int32) : am_cal am_mt (d + 3) jX11_wrongAt [.ref 88, .int x1, .int x] (ws S) = some (some (.int (-2)), ws S) := by
  rw [eX11_wrongAt_0, kO88, if_T, m_isSheet, cI_some, wc_bind, h, if_pos bI_F]
theorem pu_item : am_ag Inv jX10_item jX11_item 2 := ag_2 (fun S x1 x2 hR => by
  rcases inR_of (x := x1) (n := 4) (by decide) with h1 | ⟨s, hs, rfl⟩
  · refine ag_pure hR (r := -2) (fun d => ?_) (fun d => ?_)
    · rw [eX10_item_0, kO0, if_T, c_refusalF _ S h1, cI_some, wc_bind, if_neg m2n]
    · rw [eX11_item_0, kO88, if_T, m_wrongAtF _ S h1, cI_some, wc_bind, if_neg m2n]
  · obtain ⟨e1, e2, e3, ⟨l, hl64, hl⟩, e5⟩ := hR.2.2.2.2.1 s hs
    have e2' := e2.trans hl
    by_cases hc : S 104 s = -1
    · refine ag_pure hR (r := -11) (fun d => ?_) (fun d => ?_)
      · rw [eX10_item_0, kO0, if_T, c_refusal _ S hs e2', cI_some, wc_bind, e1, if_pos hc, if_neg m11.1]
      · rw [eX11_item_0, kO88, if_T, m_wrongAt _ S hs hl hl64, cI_some, wc_bind, if_pos hc, if_neg m11.1]
    · rcases inR_of (x := x2) (n := l) (by omega) with h2 | ⟨i, hi, rfl⟩
      · refine ag_pure hR (r := -12) (fun d => ?_) (fun d => ?_)
        · rw [eX10_item_0, kO0, if_T, c_refusal _ S hs e2', cI_some, wc_bind, e1, if_neg hc, h2, if_neg Bool.false_ne_true, if_neg m11.2]
        · rw [eX11_item_0, kO88, if_T, m_wrongAt _ S hs hl hl64, cI_some, wc_bind, if_neg hc, h2, if_neg Bool.false_ne_true, if_neg m11.2]
      · have hi' : inR (nI i) (nI l) = true := inR_T hi (by omega)
        refine ag_pure hR (r := S 106 (64 * s + i)) (fun d => ?_) (fun d => ?_)
        · rw [eX10_item_0, kO0, if_T, c_refusal _ S hs e2', cI_some, wc_bind, e1, if_neg hc, hi', if_pos (show true = true from rfl), if_pos (show (0 : Int32) = 0 from rfl), kR0_3, wc_bind, kQs S hs, wc_bind, c7_numberAt _ S hs e2' hl64 (by omega), cI_some, wc_bind, if_pos hi, e5 i (by omega)]
        · rw [eX11_item_0, kO88, if_T, m_wrongAt _ S hs hl hl64, cI_some, wc_bind, if_neg hc, hi', if_pos (show true = true from rfl), if_pos (show (0 : Int32) = 0 from rfl), kR88_20, wc_bind, wc_row64, kA106 S (show 64 * s + i < 256 by omega), wc_bind])
theorem pu_write : am_ag Inv jX10_write jX11_write 3 := ag_3 (fun S x1 x2 x3 hR => by
  rcases inR_of (x := x1) (n := 4) (by decide) with h1 | ⟨s, hs, rfl⟩
  · refine ag_pure hR (r := -2) (fun d => ?_) (fun d => ?_)
    · rw [eX10_write_0, kO0, if_T, c_refusalF _ S h1, cI_some, wc_bind, if_neg m2n]
    · rw [eX11_write_0, kO88, if_T, m_wrongAtF _ S h1, cI_some, wc_bind, if_neg m2n]
  · obtain ⟨e1, e2, e3, ⟨l, hl64, hl⟩, e5⟩ := hR.2.2.2.2.1 s hs
    have e2' := e2.trans hl
    by_cases hc : S 104 s = -1
    · refine ag_pure hR (r := -11) (fun d => ?_) (fun d => ?_)
      · rw [eX10_write_0, kO0, if_T, c_refusal _ S hs e2', cI_some, wc_bind, e1, if_pos hc, if_neg m11.1]
      · rw [eX11_write_0, kO88, if_T, m_wrongAt _ S hs hl hl64, cI_some, wc_bind, if_pos hc, if_neg m11.1]
    · rcases inR_of (x := x2) (n := l) (by omega) with h2 | ⟨i, hi, rfl⟩
      · refine ag_pure hR (r := -12) (fun d => ?_) (fun d => ?_)
        · rw [eX10_write_0, kO0, if_T, c_refusal _ S hs e2', cI_some, wc_bind, e1, if_neg hc, h2, if_neg Bool.false_ne_true, if_neg m11.2]
        · rw [eX11_write_0, kO88, if_T, m_wrongAt _ S hs hl hl64, cI_some, wc_bind, if_neg hc, h2, if_neg Bool.false_ne_true, if_neg m11.2]
      · have hi' : inR (nI i) (nI l) = true := inR_T hi (by omega)
        obtain ⟨y, hy⟩ : ∃ y, y = (if S 104 s = 0 then x3.toInt8.toInt32 else x3) := ⟨_, rfl⟩
        refine ⟨1, up S (81 + 2 * s) i y, up (up S (81 + 2 * s) i y) 106 (64 * s + i) y, fun d => ?_, fun d => ?_, ?_⟩
        · rw [eX10_write_0, kO0, if_T, c_refusal _ S hs e2', cI_some, wc_bind, e1, if_neg hc, hi', if_pos (show true = true from rfl), if_pos (show (0 : Int32) = 0 from rfl), kR0_3, wc_bind, kQs S hs, wc_bind, c7_put _ S hs e2' hl64 hi, e1, ← hy, cV_some, wc_bind]
        · have t1 : up S (81 + 2 * s) i y 104 s = S 104 s := by rw [up_ne 104 (by omega)]
          have t2 : up S (81 + 2 * s) i y 105 s = nI l := by rw [up_ne 105 (by omega), hl]
          rw [eX11_write_0, kO88, if_T, m_wrongAt _ _ hs t2 hl64, cI_some, wc_bind, t1, if_neg hc, hi', if_pos (show true = true from rfl), if_pos (show (0 : Int32) = 0 from rfl), kR88_20, wc_bind, kR88_18, wc_bind, kA104 _ hs, wc_bind, t1, wc_row64, kW106 _ (show 64 * s + i < 256 by omega), wc_bind, kW106 _ (show 64 * s + i < 256 by omega), wc_bind, hy]
          split <;> ((try dsimp only); try rfl)
        · refine R_1 (j := 9 + s) hR (Fk_up (Fk_up Fk.rf _ (comp_s hs (Or.inr rfl) i) (K1_j _)) _ (comp_106 s (show i < 64 by omega)) (K1_j _)) ?_
          rw [RC_s hs]
          unfold RS
          have u (c j : Nat) (h : c ≠ 81 + 2 * s ∧ c ≠ 106) : up (up S (81 + 2 * s) i y) 106 (64 * s + i) y c j = S c j := by rw [up_ne c h.2, up_ne c h.1]
          rw [u _ 0 (by omega), u _ 1 (by omega), u 104 s (by omega), u 105 s (by omega)]
          refine ⟨e1, e2, e3, ⟨l, hl64, hl⟩, fun j hj => ?_⟩
          rw [up_ne (81 + 2 * s) (by omega)]
          by_cases hji : j = i
          · subst hji; rw [up_self, up_self]
          · rw [up_upd, up_upd]
            unfold upd
            rw [if_neg hji, if_neg (by omega), up_ne 106 (by omega)]
            exact e5 j hj)
