/-! ===== excluded ===== -/
theorem pc_n : ∀ n, n < 8 → ∀ s, s < 128 → s < 2 ^ n → pc s ≤ n := by decide +kernel
theorem pc_all : ∀ n, n < 8 → pc (2 ^ n - 1) = n := by decide +kernel
def lft (n x y : Nat) : Nat := wc_an (2 ^ n - 1) (x ||| y)
theorem pc_lft {n x y : Nat} (hn : n ≤ 7) (hx : x < 2 ^ n) (hy : y < 2 ^ n) : pc (lft n x y) = n - pc (x ||| y) := by
  have hxy := or_lt hx hy
  have h1 := pc_an (2 ^ n - 1) (p2_128 hn (p2_m1 n)) (x ||| y) (p2_128 hn hxy) (or_all hxy)
  have h2 := pc_all n (by omega)
  unfold lft
  omega
def sx (t : Bool) (n : Nat) (ρ : Nat → Nat) (x y : Nat) : Int32 := if x &&& y = 0 then (if t = true then st2 (pc (lft n x y)) (mnr (lft n x y) x ρ) else st3 (pc (lft n x y)) (mnr (lft n x y) x ρ)) else -1
theorem uf_no {n : Nat} (ρ : Nat → Nat) {k : Nat} (r : Nat) (h : n ≠ k) : uf n ρ k r = false := by
  unfold uf
  rw [decide_eq_false (fun z => h z.1), Bool.false_and]
theorem sx_no2 {n x y : Nat} {ρ : Nat → Nat} (h : pc (lft n x y) ≠ 4) : sx true n ρ x y = -1 := by
  unfold sx st2
  rw [uf_no _ _ h, if_pos rfl, if_neg Bool.false_ne_true, ite_self]
theorem sx_no3 {n x y : Nat} {ρ : Nat → Nat} (h5 : pc (lft n x y) ≠ 5) (h7 : pc (lft n x y) ≠ 7) : sx false n ρ x y = -1 := by
  unfold sx st3
  rw [uf_no _ _ h5, uf_no _ _ h5, sv_n7 _ h7, sv_n7 _ h7, if_neg Bool.false_ne_true, if_neg Bool.false_ne_true, if_neg Bool.false_ne_true, if_neg Bool.false_ne_true, if_neg Bool.false_ne_true, ite_self]
def fy (t : Bool) (n : Nat) (ρ : Nat → Nat) (x : Nat) : Nat → Nat → Option Nat
  | 0, _ => none
  | m + 1, y => if sx t n ρ x y = -1 then fy t n ρ x m (y + 1) else some y
def fxx (t : Bool) (n : Nat) (ρ : Nat → Nat) : Nat → Nat → Option (Nat × Nat)
  | 0, _ => none
  | m + 1, x => match fy t n ρ x (2 ^ n) 0 with
    | some y => some (x, y)
    | none => fxx t n ρ m (x + 1)
theorem and0I {x y : Nat} (hx : x < 128) : (nI x &&& nI y = 0) ↔ x &&& y = 0 := by
  have hlt : x &&& y < 2 ^ 31 := Nat.lt_of_le_of_lt Nat.and_le_left (by omega)
  rw [wc_and]
  constructor
  · intro h
    apply Classical.byContradiction
    intro h0
    exact nI_ne0 (by omega) hlt h
  · intro h
    rw [h]; rfl
theorem c1_inner (d : Nat) {S0 : am_S} {t : Bool} {q n x : Nat} {ρ : Nat → Nat} (hm : mat n ρ) (hC0 : VC S0 q n ρ) (hq : q + 1 < 43 ∨ 47 < q) (hx : x < 2 ^ n) : ∀ m y S (x5 x6 : Option Value), y + m = 2 ^ n → Cr 43 47 S0 S → (fy t n ρ x m y = none → ∃ S' z4 z5 z6, am_run true (am_cal am_mt (d + 5)) (am_lk tbX1_findIn) 13 [some (.ref 43), some (.ref q), some (.int (bI t)), some (.int (nI x)), some (.int (nI y)), x5, x6] [] (ws S) = am_run true (am_cal am_mt (d + 5)) (am_lk tbX1_findIn) 2 [some (.ref 43), some (.ref q), some (.int (bI t)), some (.int (nI (x + 1))), z4, z5, z6] [] (ws S') ∧ Cr 43 47 S0 S') ∧ ∀ y', fy t n ρ x m y = some y' → ∃ S', am_run true (am_cal am_mt (d + 5)) (am_lk tbX1_findIn) 13 [some (.ref 43), some (.ref q), some (.int (bI t)), some (.int (nI x)), some (.int (nI y)), x5, x6] [] (ws S) = some (some (.int 1), ws S') ∧ Cr 43 47 S0 S' ∧ S' 43 2 = sx t n ρ x y' ∧ S' 43 3 = nI x ∧ S' 43 4 = nI y' := by
  have hn := hC0.n7
  have h27 := p2_le hn
  intro m
  induction m with
  | zero =>
    intro y S x5 x6 hy hc
    have : y = 2 ^ n := by omega
    subst this
    have hC := VC_Cr hC0 hc hq
    refine ⟨fun _ => ⟨S, some (.int (nI (2 ^ n))), x5, x6, ?_, hc⟩, fun y' h => (by cases h)⟩
    rw [eX1_findIn_13, c8_all _ hC, cI_some, wc_bind, if_pos (p2_end hn), nI_1]
  | succ m ih =>
    intro y S x5 x6 hy hc
    have hyn : y < 2 ^ n := by omega
    have hx7 := p2_128 hn hx
    have hy7 := p2_128 hn hyn
    have hxy := or_lt hx hyn
    have hxy7 := p2_128 hn hxy
    have hpcn := pc_n n (by omega) _ hxy7 hxy
    have hC := VC_Cr hC0 hc hq
    have hl := pc_lft hn hx hyn
    have hlpc := pc_le (lft n x y)
    have hskip : ∀ (y5 y6 : Option Value), am_run true (am_cal am_mt (d + 5)) (am_lk tbX1_findIn) 13 [some (.ref 43), some (.ref q), some (.int (bI t)), some (.int (nI x)), some (.int (nI y)), x5, x6] [] (ws S) = am_run true (am_cal am_mt (d + 5)) (am_lk tbX1_findIn) 13 [some (.ref 43), some (.ref q), some (.int (bI t)), some (.int (nI x)), some (.int (nI (y + 1))), y5, y6] [] (ws S) → sx t n ρ x y = -1 → (fy t n ρ x (m + 1) y = none → ∃ S' z4 z5 z6, am_run true (am_cal am_mt (d + 5)) (am_lk tbX1_findIn) 13 [some (.ref 43), some (.ref q), some (.int (bI t)), some (.int (nI x)), some (.int (nI y)), x5, x6] [] (ws S) = am_run true (am_cal am_mt (d + 5)) (am_lk tbX1_findIn) 2 [some (.ref 43), some (.ref q), some (.int (bI t)), some (.int (nI (x + 1))), z4, z5, z6] [] (ws S') ∧ Cr 43 47 S0 S') ∧ ∀ y', fy t n ρ x (m + 1) y = some y' → ∃ S', am_run true (am_cal am_mt (d + 5)) (am_lk tbX1_findIn) 13 [some (.ref 43), some (.ref q), some (.int (bI t)), some (.int (nI x)), some (.int (nI y)), x5, x6] [] (ws S) = some (some (.int 1), ws S') ∧ Cr 43 47 S0 S' ∧ S' 43 2 = sx t n ρ x y' ∧ S' 43 3 = nI x ∧ S' 43 4 = nI y' := by
      intro y5 y6 hr hs
      unfold fy
      rw [if_pos hs, hr]
      exact ih (y + 1) S y5 y6 (by omega) hc
    by_cases hd : x &&& y = 0
    · -- the count of those left
      have h13 : am_run true (am_cal am_mt (d + 5)) (am_lk tbX1_findIn) 13 [some (.ref 43), some (.ref q), some (.int (bI t)), some (.int (nI x)), some (.int (nI y)), x5, x6] [] (ws S) = am_run true (am_cal am_mt (d + 5)) (am_lk tbX1_findIn) 82 [some (.ref 43), some (.ref q), some (.int (bI t)), some (.int (nI x)), some (.int (nI y)), some (.int (nI (pc (lft n x y)))), x6] [.int (bI (if t = true then decide (pc (lft n x y) = 4) else decide (pc (lft n x y) = 5 ∨ pc (lft n x y) = 7)))] (ws S) := by
        rw [eX1_findIn_13, c8_all _ hC, cI_some, wc_bind, if_neg (p2_all hyn hn)]
        dsimp only
        rw [if_pos ((and0I hx7).mpr hd), hC.fI, wc_bind, wc_or, J_bits _ hxy7, cI_some, wc_bind]
        dsimp only
        rw [pk_sub hpcn, ← hl]
        cases t with
        | true =>
          rw [if_neg bI_T, if_pos rfl]
          by_cases h4 : pc (lft n x y) = 4
          · rw [if_pos (by rw [h4]; rfl), decide_eq_true h4]; rfl
          · rw [if_neg (show ¬ nI (pc (lft n x y)) = (4 : Int32) from fun z => h4 ((nI_eq (b := 4) (by omega) (by decide)).mp z)), decide_eq_false h4]; rfl
        | false =>
          rw [if_pos bI_F, if_neg Bool.false_ne_true]
          by_cases h5 : pc (lft n x y) = 5
          · rw [if_pos (by rw [h5]; rfl), eX1_findIn_77, decide_eq_true (Or.inl h5)]; rfl
          · rw [if_neg (show ¬ nI (pc (lft n x y)) = (5 : Int32) from fun z => h5 ((nI_eq (b := 5) (by omega) (by decide)).mp z))]
            by_cases h7 : pc (lft n x y) = 7
            · rw [if_pos (by rw [h7]; rfl), eX1_findIn_77, decide_eq_true (Or.inr h7)]; rfl
            · rw [if_neg (show ¬ nI (pc (lft n x y)) = (7 : Int32) from fun z => h7 ((nI_eq (b := 7) (by omega) (by decide)).mp z)), decide_eq_false (fun z => z.elim h5 h7)]; rfl
      cases hcan : (if t = true then decide (pc (lft n x y) = 4) else decide (pc (lft n x y) = 5 ∨ pc (lft n x y) = 7)) with
      | false =>
        refine hskip (some (.int (nI (pc (lft n x y))))) (some (.int (bI false))) ?_ ?_
        · rw [h13, hcan, eX1_findIn_82, if_pos bI_F, nI_1]
        · cases t with
          | true =>
            rw [if_pos rfl] at hcan
            exact sx_no2 (of_decide_eq_false hcan)
          | false =>
            rw [if_neg Bool.false_ne_true] at hcan
            have := of_decide_eq_false hcan
            exact sx_no3 (fun z => this (Or.inl z)) (fun z => this (Or.inr z))
      | true =>
        obtain ⟨S1, hS1⟩ : ∃ S1, S1 = up (up S 43 3 (nI x)) 43 4 (nI y) := ⟨_, rfl⟩
        have c1 : Cr 43 47 S0 S1 := by rw [hS1]; exact Cr_up (Cr_up hc (by decide) (by decide)) (by decide) (by decide)
        have hC1 := VC_Cr hC0 c1 hq
        obtain ⟨S2, a1, a2, a3⟩ := c8_minor (d + 2) (y := y) vq_44 hm hC1 (by omega) hx
        have a3 : VC S2 44 (pc (lft n x y)) (mnr (lft n x y) x ρ) := a3
        have hmm : mat (pc (lft n x y)) (mnr (lft n x y) x ρ) := mat_mnr hm hn (wc_an_lt (p2_m1 n)) hx
        have hsx : sx t n ρ x y = if t = true then st2 (pc (lft n x y)) (mnr (lft n x y) x ρ) else st3 (pc (lft n x y)) (mnr (lft n x y) x ρ) := by unfold sx; rw [if_pos hd]
        have c2 : Cr 43 47 S0 S2 := c1.tr (a2.wk (by decide) (by decide))
        have e3 : S1 43 3 = nI x := by rw [hS1]; rfl
        have e4 : S1 43 4 = nI y := by rw [hS1]; rfl
        -- the sort is told
        have hsort : ∃ S3, Cr 46 47 S2 S3 ∧ am_run true (am_cal am_mt (d + 5)) (am_lk tbX1_findIn) 13 [some (.ref 43), some (.ref q), some (.int (bI t)), some (.int (nI x)), some (.int (nI y)), x5, x6] [] (ws S) = if sx t n ρ x y = -1 then am_run true (am_cal am_mt (d + 5)) (am_lk tbX1_findIn) 13 [some (.ref 43), some (.ref q), some (.int (bI t)), some (.int (nI x)), some (.int (nI (y + 1))), some (.int (nI (pc (lft n x y)))), some (.int (bI true))] [] (ws (up S3 43 2 (sx t n ρ x y))) else some (some (.int 1), ws (up S3 43 2 (sx t n ρ x y))) := by
          have h72 : am_run true (am_cal am_mt (d + 5)) (am_lk tbX1_findIn) 13 [some (.ref 43), some (.ref q), some (.int (bI t)), some (.int (nI x)), some (.int (nI y)), x5, x6] [] (ws S) = if bI t = 0 then ((am_cI (am_cal am_mt (d + 5) jX1_sortForThree [.ref 43] (ws S2))).bind fun q7 => (am_sF q7.2 43 1 2 (.int q7.1)).bind fun g8 => (am_fI g8 43 1 2).bind fun v9 => if v9 = (-1 : Int32) then am_run true (am_cal am_mt (d + 5)) (am_lk tbX1_findIn) 13 [some (.ref 43), some (.ref q), some (.int (bI t)), some (.int (nI x)), some (.int (nI (y + 1))), some (.int (nI (pc (lft n x y)))), some (.int (bI true))] [] g8 else some (some (.int (1 : Int32)), g8)) else (am_cI (am_cal am_mt (d + 5) jX1_sortForTwo [.ref 43] (ws S2))).bind fun q10 => (am_sF q10.2 43 1 2 (.int q10.1)).bind fun g11 => (am_fI g11 43 1 2).bind fun v12 => if v12 = (-1 : Int32) then am_run true (am_cal am_mt (d + 5)) (am_lk tbX1_findIn) 13 [some (.ref 43), some (.ref q), some (.int (bI t)), some (.int (nI x)), some (.int (nI (y + 1))), some (.int (nI (pc (lft n x y)))), some (.int (bI true))] [] g11 else some (some (.int (1 : Int32)), g11) := by
            rw [h13, hcan, eX1_findIn_82, if_neg bI_T, kS43_3, wc_bind, kS43_4, wc_bind, ← hS1, kR43_0, wc_bind, kI43_3, wc_bind, kI43_4, wc_bind, e3, e4, a1, cV_some, wc_bind, nI_1]
          rw [h72]
          cases t with
          | true =>
            rw [if_pos rfl] at hsx
            refine ⟨S2, Cr.rf, ?_⟩
            rw [if_neg bI_T, c1_two (d + 1) a3, cI_some, wc_bind]
            dsimp only
            rw [kS43_2, wc_bind, kI43_2, wc_bind, up_self, hsx]
          | false =>
            rw [if_neg Bool.false_ne_true] at hsx
            obtain ⟨S3, b1, b2⟩ := c1_three d hmm a3
            refine ⟨S3, b2, ?_⟩
            rw [if_pos bI_F, b1, cI_some, wc_bind]
            dsimp only
            rw [kS43_2, wc_bind, kI43_2, wc_bind, up_self, hsx]
        obtain ⟨S3, b2, b1⟩ := hsort
        have c3 : Cr 43 47 S0 (up S3 43 2 (sx t n ρ x y)) := Cr_up (c2.tr (b2.wk (by decide) (by decide))) (by decide) (by decide)
        rw [b1]
        unfold fy
        by_cases hs : sx t n ρ x y = -1
        · rw [if_pos hs, if_pos hs]
          exact ih (y + 1) _ _ _ (by omega) c3
        · rw [if_neg hs, if_neg hs]
          refine ⟨fun h => (by cases h), fun y' h => ?_⟩
          have hyy := Option.some.inj h
          subst hyy
          refine ⟨_, rfl, c3, up_self _ _ _ _, ?_, ?_⟩
          · rw [up_upd]; unfold upd; rw [if_neg (by decide), b2 43 (by decide), a2 43 (by decide)]; exact e3
          · rw [up_upd]; unfold upd; rw [if_neg (by decide), b2 43 (by decide), a2 43 (by decide)]; exact e4
    · refine hskip x5 x6 ?_ ?_
      · rw [eX1_findIn_13, c8_all _ hC, cI_some, wc_bind, if_neg (p2_all hyn hn)]
        dsimp only
        rw [if_neg (fun z => hd ((and0I hx7).mp z)), nI_1]
      · unfold sx; rw [if_neg hd]
theorem c1_find (d : Nat) {S0 : am_S} {t : Bool} {q n : Nat} {ρ : Nat → Nat} (hm : mat n ρ) (hC0 : VC S0 q n ρ) (hq : q + 1 < 43 ∨ 47 < q) : ∃ S', am_cal am_mt (d + 6) jX1_findIn [.ref 43, .ref q, .int (bI t)] (ws S0) = some (some (.int (bI (fxx t n ρ (2 ^ n) 0).isSome)), ws S') ∧ Cr 43 47 S0 S' ∧ ∀ p, fxx t n ρ (2 ^ n) 0 = some p → S' 43 2 = sx t n ρ p.1 p.2 ∧ S' 43 3 = nI p.1 ∧ S' 43 4 = nI p.2 := by
  have hn := hC0.n7
  have h27 := p2_le hn
  rw [eX1_findIn_0, kO43, if_T, show (0 : Int32) = nI 0 from rfl]
  have key : ∀ m x S z4 z5 z6, x + m = 2 ^ n → Cr 43 47 S0 S → ∃ S', am_run true (am_cal am_mt (d + 5)) (am_lk tbX1_findIn) 2 [some (.ref 43), some (.ref q), some (.int (bI t)), some (.int (nI x)), z4, z5, z6] [] (ws S) = some (some (.int (bI (fxx t n ρ m x).isSome)), ws S') ∧ Cr 43 47 S0 S' ∧ ∀ p, fxx t n ρ m x = some p → S' 43 2 = sx t n ρ p.1 p.2 ∧ S' 43 3 = nI p.1 ∧ S' 43 4 = nI p.2 := by
    intro m
    induction m with
    | zero =>
      intro x S z4 z5 z6 hx hc
      have : x = 2 ^ n := by omega
      subst this
      have hC := VC_Cr hC0 hc hq
      rw [eX1_findIn_2, c8_all _ hC, cI_some, wc_bind, if_pos (p2_end hn)]
      dsimp only
      exact ⟨S, rfl, hc, fun p h => (by cases h)⟩
    | succ m ih =>
      intro x S z4 z5 z6 hx hc
      have hxn : x < 2 ^ n := by omega
      have hC := VC_Cr hC0 hc hq
      obtain ⟨g1, g2⟩ := c1_inner d (t := t) hm hC0 hq hxn (2 ^ n) 0 S z5 z6 (by omega) hc
      rw [eX1_findIn_2, c8_all _ hC, cI_some, wc_bind, if_neg (p2_all hxn hn), show (0 : Int32) = nI 0 from rfl]
      dsimp only
      unfold fxx
      cases hf : fy t n ρ x (2 ^ n) 0 with
      | none =>
        obtain ⟨S', y4, y5, y6, e1, e2⟩ := g1 hf
        rw [e1]
        exact ih (x + 1) S' _ _ _ (by omega) e2
      | some y =>
        obtain ⟨S', e1, e2, e3, e4, e5⟩ := g2 y hf
        rw [e1]
        exact ⟨S', rfl, e2, fun p h => by
          have := Option.some.inj h
          subst this
          exact ⟨e3, e4, e5⟩⟩
  exact key (2 ^ n) 0 S0 none none none (by omega) Cr.rf
/-- what is asked of the first -/
def exo (t : Bool) (n : Nat) (ρ : Nat → Nat) (w : Nat) (o : Option (Nat × Nat)) : Int32 := match o with
  | none => -1
  | some p => if w = 0 then sx t n ρ p.1 p.2 else if w = 1 then nI p.1 else nI p.2
theorem m_excl (d : Nat) {S0 : am_S} {t : Bool} {v n fd w : Nat} {ρ : Nat → Nat} (hm : mat n ρ) (hM0 : VM S0 v n ρ) (hv : v < 4) (hw : w < 3) (hfd : fd = if t = true then 0 else 1) : ∃ S', am_run false (am_cal am_mt (d + 5)) (am_lk tbX11_excluded) 31 [some (.ref 88), some (.int (nI v)), some (.int (nI fd)), some (.int (nI w)), some (.int (nI 0)), none, none] [] (ws S0) = some (some (.int (exo t n ρ w (fxx t n ρ (2 ^ n) 0))), ws S') ∧ Mw 12 S0 S' := by
  have hn := hM0.n7
  have h27 := p2_le hn
  have hw0 : nI w = 0 ↔ w = 0 := nI_eq (b := 0) (by omega) (by decide)
  have hw1 : nI w = (1 : Int32) ↔ w = 1 := nI_eq (b := 1) (by omega) (by decide)
  have inner : ∀ x, x < 2 ^ n → ∀ m y S (x6 : Option Value), y + m = 2 ^ n → Mw 12 S0 S → (fy t n ρ x m y = none → ∃ S' z5 z6, am_run false (am_cal am_mt (d + 5)) (am_lk tbX11_excluded) 44 [some (.ref 88), some (.int (nI v)), some (.int (nI fd)), some (.int (nI w)), some (.int (nI x)), some (.int (nI y)), x6] [] (ws S) = am_run false (am_cal am_mt (d + 5)) (am_lk tbX11_excluded) 31 [some (.ref 88), some (.int (nI v)), some (.int (nI fd)), some (.int (nI w)), some (.int (nI (x + 1))), z5, z6] [] (ws S') ∧ Mw 12 S0 S') ∧ ∀ y', fy t n ρ x m y = some y' → ∃ S', am_run false (am_cal am_mt (d + 5)) (am_lk tbX11_excluded) 44 [some (.ref 88), some (.int (nI v)), some (.int (nI fd)), some (.int (nI w)), some (.int (nI x)), some (.int (nI y)), x6] [] (ws S) = some (some (.int (exo t n ρ w (some (x, y')))), ws S') ∧ Mw 12 S0 S' := by
    intro x hx m
    induction m with
    | zero =>
      intro y S x6 hy hc
      have : y = 2 ^ n := by omega
      subst this
      have hM := VM_Mw hM0 hc (by omega) (by omega)
      refine ⟨fun _ => ⟨S, some (.int (nI (2 ^ n))), x6, ?_, hc⟩, fun y' h => (by cases h)⟩
      rw [eX11_excluded_44, m_all _ hM, cI_some, wc_bind, if_pos (p2_end hn), nI_1]
    | succ m ih =>
      intro y S x6 hy hc
      have hyn : y < 2 ^ n := by omega
      have hx7 := p2_128 hn hx
      have hM := VM_Mw hM0 hc (by omega) (by omega)
      rw [eX11_excluded_44, m_all _ hM, cI_some, wc_bind, if_neg (p2_all hyn hn), nI_1]
      dsimp only
      unfold fy
      by_cases hd : x &&& y = 0
      · obtain ⟨S1, a1, a2, a3⟩ := m_minors (d + 2) (y := y) hm hM (by omega) (show 12 < 13 by decide) hx
        have a3 : VM S1 12 (pc (lft n x y)) (mnr (lft n x y) x ρ) := a3
        have hmm : mat (pc (lft n x y)) (mnr (lft n x y) x ρ) := mat_mnr hm hn (wc_an_lt (p2_m1 n)) hx
        have hsx : sx t n ρ x y = if t = true then st2 (pc (lft n x y)) (mnr (lft n x y) x ρ) else st3 (pc (lft n x y)) (mnr (lft n x y) x ρ) := by unfold sx; rw [if_pos hd]
        have hsort : ∃ S2, am_cal am_mt (d + 5) jX11_sortOf [.ref 88, .int (nI fd)] (ws S1) = some (some (.int (sx t n ρ x y)), ws S2) ∧ Mw 12 S1 S2 := by
          cases t with
          | true =>
            rw [if_pos rfl] at hsx hfd
            rw [hsx, hfd]
            exact ⟨S1, m_sort2 (d + 1) a3, Mw.rf⟩
          | false =>
            rw [if_neg Bool.false_ne_true] at hsx hfd
            rw [hsx, hfd]
            exact m_sort3 d hmm a3
        obtain ⟨S2, b1, b2⟩ := hsort
        have c2 := (hc.tr a2).tr b2
        rw [if_pos ((and0I hx7).mpr hd), show (12 : Int32) = nI 12 from rfl, a1, cV_some, wc_bind, b1, cI_some, wc_bind]
        dsimp only
        by_cases hs : sx t n ρ x y = -1
        · rw [if_pos hs, if_pos hs]
          exact ih (y + 1) S2 _ (by omega) c2
        · rw [if_neg hs, if_neg hs]
          refine ⟨fun h => (by cases h), fun y' h => ?_⟩
          have hyy := Option.some.inj h
          subst hyy
          refine ⟨S2, ?_, c2⟩
          unfold exo
          dsimp only
          by_cases h0 : w = 0
          · rw [if_pos (hw0.mpr h0), if_pos h0]
          · rw [if_neg (fun z => h0 (hw0.mp z)), if_neg h0]
            by_cases h1 : w = 1
            · rw [if_pos (hw1.mpr h1), if_pos h1]
            · rw [if_neg (fun z => h1 (hw1.mp z)), if_neg h1]
      · have hs : sx t n ρ x y = -1 := by unfold sx; rw [if_neg hd]
        rw [if_neg (fun z => hd ((and0I hx7).mp z)), if_pos hs]
        exact ih (y + 1) S x6 (by omega) hc
  have key : ∀ m x S z5 z6, x + m = 2 ^ n → Mw 12 S0 S → ∃ S', am_run false (am_cal am_mt (d + 5)) (am_lk tbX11_excluded) 31 [some (.ref 88), some (.int (nI v)), some (.int (nI fd)), some (.int (nI w)), some (.int (nI x)), z5, z6] [] (ws S) = some (some (.int (exo t n ρ w (fxx t n ρ m x))), ws S') ∧ Mw 12 S0 S' := by
    intro m
    induction m with
    | zero =>
      intro x S z5 z6 hx hc
      have : x = 2 ^ n := by omega
      subst this
      have hM := VM_Mw hM0 hc (by omega) (by omega)
      rw [eX11_excluded_31, m_all _ hM, cI_some, wc_bind, if_pos (p2_end hn)]
      dsimp only
      exact ⟨S, rfl, hc⟩
    | succ m ih =>
      intro x S z5 z6 hx hc
      have hxn : x < 2 ^ n := by omega
      have hM := VM_Mw hM0 hc (by omega) (by omega)
      obtain ⟨g1, g2⟩ := inner x hxn (2 ^ n) 0 S z6 (by omega) hc
      rw [eX11_excluded_31, m_all _ hM, cI_some, wc_bind, if_neg (p2_all hxn hn), show (0 : Int32) = nI 0 from rfl]
      dsimp only
      unfold fxx
      cases hf : fy t n ρ x (2 ^ n) 0 with
      | none =>
        obtain ⟨S', y5, y6, e1, e2⟩ := g1 hf
        rw [e1]
        exact ih (x + 1) S' _ _ (by omega) e2
      | some y =>
        obtain ⟨S', e1, e2⟩ := g2 y hf
        rw [e1]
        exact ⟨S', rfl, e2⟩
  exact key (2 ^ n) 0 S0 none none (by omega) Mw.rf
theorem pu_excluded : am_ag Inv jX10_excluded jX11_excluded 3 := ah_3 (fun d S x1 x2 x3 hR => by
  rcases inR_of (x := x1) (n := 4) (by decide) with h1 | ⟨v, hv, rfl⟩
  · refine ag3_p hR (-2) ?_ ?_
    · rw [eX10_excluded_0, kO0, if_T, c_below, cI_some, wc_bind, show (inR x1 (4 : Int32)) = false from h1, if_pos bI_F]
    · rw [eX11_excluded_0, kO88, if_T, m_isView, cI_some, wc_bind, h1, if_pos bI_F]
  have hv4 : inR (nI v) (nI 4) = true := inR_T hv (by decide)
  rcases inR_of (x := x2) (n := 2) (by decide) with h1 | ⟨fd, hf, rfl⟩
  · refine ag3_p hR (-2) ?_ ?_
    · rw [eX10_excluded_0, kO0, if_T, c_below, cI_some, wc_bind, show (inR (nI v) (4 : Int32)) = true from hv4, if_neg bI_T, c_below, cI_some, wc_bind, show (inR x2 (2 : Int32)) = false from h1, if_pos bI_F]
    · rw [eX11_excluded_0, kO88, if_T, m_isView, cI_some, wc_bind, hv4, if_neg bI_T, m_in1, cI_some, wc_bind, h1, if_pos bI_F]
  have hf2 : inR (nI fd) (nI 2) = true := inR_T hf (by decide)
  rcases inR_of (x := x3) (n := 3) (by decide) with h1 | ⟨w, hw, rfl⟩
  · refine ag3_p hR (-2) ?_ ?_
    · rw [eX10_excluded_0, kO0, if_T, c_below, cI_some, wc_bind, show (inR (nI v) (4 : Int32)) = true from hv4, if_neg bI_T, c_below, cI_some, wc_bind, show (inR (nI fd) (2 : Int32)) = true from hf2, if_neg bI_T, c_below, cI_some, wc_bind, show (inR x3 (3 : Int32)) = false from h1, if_pos bI_F]
    · rw [eX11_excluded_0, kO88, if_T, m_isView, cI_some, wc_bind, hv4, if_neg bI_T, m_in1, cI_some, wc_bind, hf2, if_neg bI_T, m_in2, cI_some, wc_bind, h1, if_pos bI_F]
  have hw3 : inR (nI w) (nI 3) = true := inR_T hw (by decide)
  obtain ⟨n, ρ, hm, hC, hM⟩ := hR.2.1 v hv
  obtain ⟨t, ht⟩ : ∃ t, t = decide (fd = 0) := ⟨_, rfl⟩
  have hfd : fd = if t = true then 0 else 1 := by
    rw [ht]
    by_cases h0 : fd = 0
    · rw [decide_eq_true h0, if_pos rfl]; exact h0
    · rw [decide_eq_false h0, if_neg Bool.false_ne_true]; omega
  obtain ⟨S1, a1, a2, a3⟩ := c1_find (d + 13) (t := t) hm hC (by omega)
  obtain ⟨S2, b1, b2⟩ := m_excl (d + 14) (t := t) (w := w) (fd := fd) hm (VM_Cr hM a2 (by omega)) hv hw hfd
  have hw0 : nI w = 0 ↔ w = 0 := nI_eq (b := 0) (by omega) (by decide)
  have hw1 : nI w = (1 : Int32) ↔ w = 1 := nI_eq (b := 1) (by omega) (by decide)
  have hcl : am_cal am_mt (d + 20) jX10_excluded [.ref 0, .int (nI v), .int (nI fd), .int (nI w)] (ws S) = am_run false (am_cal am_mt (d + 19)) (am_lk tbX10_excluded) 46 [some (.ref 0), some (.int (nI v)), some (.int (nI fd)), some (.int (nI w))] [.int (bI t), .ref (60 + 2 * v), .ref 43] (ws S) := by
    rw [eX10_excluded_0, kO0, if_T, c_below, cI_some, wc_bind, show (inR (nI v) (4 : Int32)) = true from hv4, if_neg bI_T, c_below, cI_some, wc_bind, show (inR (nI fd) (2 : Int32)) = true from hf2, if_neg bI_T, c_below, cI_some, wc_bind, show (inR (nI w) (3 : Int32)) = true from hw3, if_neg bI_T, kR0_8, wc_bind, kR0_1, wc_bind, kQv S hv, wc_bind]
    rw [ht]
    dsimp only
    by_cases h0 : fd = 0
    · rw [if_pos (by rw [h0]; rfl), decide_eq_true h0, bI_T1]
    · rw [if_neg (nI_ne0 (by omega) (by omega)), decide_eq_false h0, bI_F]
  refine ⟨exo t n ρ w (fxx t n ρ (2 ^ n) 0), S1, S2, ?_, ?_, ?_⟩
  · rw [hcl, eX10_excluded_46, a1, cI_some, wc_bind]
    dsimp only
    cases hp : fxx t n ρ (2 ^ n) 0 with
    | none => rw [Option.isSome_none, if_pos bI_F]; rfl
    | some p =>
      obtain ⟨e2, e3, e4⟩ := a3 p hp
      unfold exo
      rw [Option.isSome_some, if_neg bI_T]
      dsimp only
      by_cases h0 : w = 0
      · rw [if_pos (hw0.mpr h0), if_pos h0, kR0_8, wc_bind, kI43_2, wc_bind, e2]
      · rw [if_neg (fun z => h0 (hw0.mp z)), if_neg h0]
        by_cases h1 : w = 1
        · rw [if_pos (hw1.mpr h1), if_pos h1, kR0_8, wc_bind, kI43_3, wc_bind, e3]
        · rw [if_neg (fun z => h1 (hw1.mp z)), if_neg h1, kR0_8, wc_bind, kI43_4, wc_bind, e4]
  · rw [eX11_excluded_0, kO88, if_T, m_isView, cI_some, wc_bind, hv4, if_neg bI_T, m_in1, cI_some, wc_bind, hf2, if_neg bI_T, m_in2, cI_some, wc_bind, hw3, if_neg bI_T]
    dsimp only
    rw [show (0 : Int32) = nI 0 from rfl]
    exact b1
  · have h2 := Fk_Mw b2
    refine R_t hR ((Fk_Cr (K := Kt) a2 (fun c i p q => by rw [comp_sc (by omega)]; rfl)).tr (h2.wk (fun k hk => ?_)))
    unfold Kt at hk
    unfold K1 rowc
    simp at hk ⊢
    omega)
