/-! ===== the reference lays the pattern ===== -/
def FPt (S S' : am_S) : Prop := (∀ c, c ≠ 88 → c ≠ 93 → c ≠ 97 → c ≠ 99 → c ≠ 100 → S' c = S c) ∧ ∀ i, i ≠ 13 → i ≠ 14 → S' 88 i = S 88 i
theorem FPt.rf {S : am_S} : FPt S S := ⟨fun _ _ _ _ _ _ => rfl, fun _ _ _ => rfl⟩
theorem FPt.tr {S S' S'' : am_S} (h : FPt S S') (h' : FPt S' S'') : FPt S S'' := ⟨fun c a1 a2 a3 a4 a5 => (h'.1 c a1 a2 a3 a4 a5).trans (h.1 c a1 a2 a3 a4 a5), fun i a b => (h'.2 i a b).trans (h.2 i a b)⟩
theorem FPt_up {S : am_S} {c i : Nat} {x : Int32} (h : c = 93 ∨ c = 97 ∨ c = 99 ∨ c = 100 ∨ (c = 88 ∧ (i = 13 ∨ i = 14))) : FPt S (up S c i x) :=
  ⟨fun c' a1 a2 a3 a4 a5 => up_ne c' (by omega), fun j b1 b2 => by
    by_cases hc : c = 88
    · subst hc; rw [up_upd]; unfold upd; rw [if_neg (by omega)]
    · rw [up_ne 88 (by omega)]⟩
theorem VM_FPt {S S' : am_S} {v n : Nat} {ρ : Nat → Nat} (h : VM S v n ρ) (hf : FPt S S') : VM S' v n ρ :=
  ⟨h.1, h.2.1, by rw [hf.1 91 (by decide) (by decide) (by decide) (by decide) (by decide)]; exact h.2.2.1, fun s hs => by rw [hf.1 92 (by decide) (by decide) (by decide) (by decide) (by decide)]; exact h.2.2.2 s hs⟩
def LM (S : am_S) (n : Nat) (ρ : Nat → Nat) (B c : Nat) : Prop := (∃ M : Nat → Nat, (∀ x, x < 14 → S 99 x = nI (M x)) ∧ QM n ρ B c M) ∧ S 88 13 = nI (pc B) ∧ S 88 14 = nI (fx n ρ B c) ∧ (∀ c', c' < c → frp n ρ B c' = true → S 100 (fx n ρ B c') = nI c') ∧ (∀ j, j < pc B → S 97 j = nI (elm B j)) ∧ ∀ x, x < c → S 93 x = nI (pat1 n ρ B x)
theorem lay_row (d : Nat) {v n B e : Nat} {ρ : Nat → Nat} (hn : n ≤ 7) (hB : B < 2 ^ n) (he : e < n) : ∀ u i S x5, i + u = 7 → VM S v n ρ → LM S n ρ B (7 * e + i) → ∃ S' y4 y5, am_run false (am_cal am_mt (d + 3)) (am_lk tbX11_laysPattern) 101 [some (.ref 88), some (.int (nI v)), some (.int (nI B)), some (.int (nI e)), some (.int (nI i)), x5] [] (ws S) = am_run false (am_cal am_mt (d + 3)) (am_lk tbX11_laysPattern) 88 [some (.ref 88), some (.int (nI v)), some (.int (nI B)), some (.int (nI (e + 1))), y4, y5] [] (ws S') ∧ FPt S S' ∧ LM S' n ρ B (7 * e + 7) := by
  have hB7 := p2_128 hn hB
  have hpB := pc_le B
  intro u
  induction u with
  | zero =>
    intro i S x5 hi hV hL
    have : i = 7 := by omega
    subst this
    refine ⟨S, some (.int (nI 7)), x5, ?_, FPt.rf, hL⟩
    rw [eX11_laysPattern_101, if_pos (by decide), nI_1]
  | succ u ih =>
    intro i S x5 hi hV hL
    have hi7 : i < 7 := by omega
    obtain ⟨d1, d2⟩ := code_d (e := e) hi7
    obtain ⟨⟨M, hM, hQ⟩, h13, h14, h100, h97, h93⟩ := hL
    have hfx : fx n ρ B (7 * e + i) ≤ 7 * e + i := wc_cn_le _ _
    have hgo : am_run false (am_cal am_mt (d + 3)) (am_lk tbX11_laysPattern) 101 [some (.ref 88), some (.int (nI v)), some (.int (nI B)), some (.int (nI e)), some (.int (nI i)), x5] [] (ws S) = if pt n ρ B e i = true then am_run false (am_cal am_mt (d + 3)) (am_lk tbX11_laysPattern) 165 [some (.ref 88), some (.int (nI v)), some (.int (nI B)), some (.int (nI e)), some (.int (nI i)), x5] [] (ws S) else am_run false (am_cal am_mt (d + 3)) (am_lk tbX11_laysPattern) 169 [some (.ref 88), some (.int (nI v)), some (.int (nI B)), some (.int (nI e)), some (.int (nI i)), x5] [] (ws S) := by
      rw [eX11_laysPattern_101, if_neg (show ¬ (7 : Int32) ≤ nI i from nI_ge (b := 7) hi7 (by decide)), kI88_13, wc_bind, h13]
      unfold pt
      by_cases hir : i < pc B
      · have hel := elm_ok B hB7 i hi7 hir
        rw [if_neg (nI_ge hir (by omega)), decide_eq_true hir, Bool.true_and, m_has _ (show B < 2 ^ 31 by omega) (show e < 32 by omega), cI_some, wc_bind]
        dsimp only
        cases hb : B.testBit e with
        | false =>
          have hset : wc_an B (2 ^ elm B i) ||| 2 ^ e < 2 ^ n := p2_or (wc_an_lt hB) he
          rw [if_pos bI_F, if_neg Bool.false_ne_true, kR88_8, wc_bind, kA97 S hi7, wc_bind, h97 i hir, wc_1shl (show elm B i < 32 by omega), wc_anI, wc_1shl (show e < 32 by omega), wc_or, show (2 : Int32) = nI 2 from rfl, m_isOf _ hV hset (by decide) (by decide), cI_some, wc_bind, show srt n ρ 2 (wc_an B (2 ^ elm B i) ||| 2 ^ e) = bas n ρ (wc_an B (2 ^ elm B i) ||| 2 ^ e) from rfl]
          dsimp only
          cases bas n ρ (wc_an B (2 ^ elm B i) ||| 2 ^ e) with
          | false => rw [if_pos bI_F, if_neg Bool.false_ne_true]
          | true => rw [if_neg bI_T, if_pos rfl]
        | true =>
          rw [if_neg bI_T, if_pos rfl, kR88_8, wc_bind, kA97 S hi7, wc_bind, h97 i hir]
          by_cases hee : elm B i = e
          · rw [if_pos (congrArg nI hee), hee, if_pos (beq_self_eq_true e)]
          · rw [if_neg (fun c => hee ((nI_eq (by omega) (by omega)).mp c)), show (elm B i == e) = false from beq_eq_false_iff_ne.mpr hee, if_neg Bool.false_ne_true]
      · rw [if_pos (nI_le (by omega) (by omega)), decide_eq_false hir, Bool.false_and, if_neg Bool.false_ne_true]
    rw [hgo]
    -- what goes on from the next place
    have hnext : ∀ S2 y5 M2, FPt S S2 → (∀ x, x < 14 → S2 99 x = nI (M2 x)) → QM n ρ B (7 * e + i + 1) M2 → S2 88 14 = nI (fx n ρ B (7 * e + i + 1)) → S2 88 13 = nI (pc B) → (∀ c', c' < 7 * e + i + 1 → frp n ρ B c' = true → S2 100 (fx n ρ B c') = nI c') → S2 97 = S 97 → (∀ x, x < 7 * e + i + 1 → S2 93 x = nI (pat1 n ρ B x)) → ∃ S' y4 y5', am_run false (am_cal am_mt (d + 3)) (am_lk tbX11_laysPattern) 101 [some (.ref 88), some (.int (nI v)), some (.int (nI B)), some (.int (nI e)), some (.int (nI (i + 1))), y5] [] (ws S2) = am_run false (am_cal am_mt (d + 3)) (am_lk tbX11_laysPattern) 88 [some (.ref 88), some (.int (nI v)), some (.int (nI B)), some (.int (nI (e + 1))), y4, y5'] [] (ws S') ∧ FPt S S' ∧ LM S' n ρ B (7 * e + 7) := by
      intro S2 y5 M2 f2 g1 g2 g3 g4 g5 g6 g7
      obtain ⟨S', y4, y5', b1, b2, b3⟩ := ih (i + 1) S2 y5 (by omega) (VM_FPt hV f2) ⟨⟨M2, g1, g2⟩, g4, g3, g5, fun j hj => by rw [g6]; exact h97 j hj, g7⟩
      exact ⟨S', y4, y5', b1, f2.tr b2, b3⟩
    have hcol : ∀ x, (x = pat1 n ρ B (7 * e + i)) → ∀ y, y < 7 * e + i + 1 → up S 93 (7 * e + i) (nI x) 93 y = nI (pat1 n ρ B y) := fun x hx y hy => by
      rw [up_upd]; unfold upd
      by_cases hyc : y = 7 * e + i
      · rw [if_pos hyc, hyc, hx]
      · rw [if_neg hyc]; exact h93 y (by omega)
    cases hp : pt n ρ B e i with
    | false =>
      have hplc : plc n ρ B (7 * e + i) = false := by unfold plc; rw [d1, d2, hp, Bool.and_false, Bool.and_false]
      have hpat : 0 = pat1 n ρ B (7 * e + i) := by unfold pat1; rw [d1, d2, hp, Bool.and_false, if_neg Bool.false_ne_true]
      rw [if_neg Bool.false_ne_true, eX11_laysPattern_169, eX11_laysPattern_170, kR88_4, wc_bind, if_pos rfl, wc_row7, eX11_laysPattern_193, kW93 S (by omega), wc_bind, if_pos rfl, nI_1, show (0 : Int32) = nI 0 from rfl]
      refine hnext _ _ M (FPt_up (Or.inl rfl)) (fun x hx => by rw [up_ne 99 (by decide)]; exact hM x hx) (QM_np hQ hplc) ?_ (by rw [up_ne 88 (by decide)]; exact h13) (fun c' hc' hfr => ?_) (up_ne 97 (by decide)) (hcol 0 hpat)
      · rw [up_ne 88 (by decide), fx_np hplc]; exact h14
      · rw [up_ne 100 (by decide)]
        by_cases hcc : c' = 7 * e + i
        · rw [hcc] at hfr; unfold frp at hfr; rw [hplc, Bool.false_and] at hfr; cases hfr
        · exact h100 c' (by omega) hfr
    | true =>
      have hir : i < pc B := by
        apply Classical.byContradiction
        intro hx
        unfold pt at hp
        rw [decide_eq_false hx, Bool.false_and] at hp
        cases hp
      have hpat : 1 = pat1 n ρ B (7 * e + i) := by unfold pat1; rw [d1, d2, hp, decide_eq_true he]; rfl
      obtain ⟨S1, hS1⟩ : ∃ S1, S1 = up S 93 (7 * e + i) (nI 1) := ⟨_, rfl⟩
      have f1 : FPt S S1 := by rw [hS1]; exact FPt_up (Or.inl rfl)
      have o1 : ∀ c, c ≠ 93 → S1 c = S c := fun c hc => by rw [hS1, up_ne c hc]
      have hM1 : ∀ x, x < 14 → S1 99 x = nI (M x) := fun x hx => by rw [o1 99 (by decide)]; exact hM x hx
      have c1 : ∀ y, y < 7 * e + i + 1 → S1 93 y = nI (pat1 n ρ B y) := by rw [hS1]; exact hcol 1 hpat
      have lM := hQ.1
      have l1 := lM i (by omega)
      have l2 := lM (7 + e) (by omega)
      rw [if_pos rfl, eX11_laysPattern_165, eX11_laysPattern_170, kR88_4, wc_bind, if_neg (show ¬ (1 : Int32) = 0 by decide), wc_row7, eX11_laysPattern_193, show (1 : Int32) = nI 1 from rfl, kW93 S (by omega), wc_bind, if_neg (show ¬ nI 1 = 0 by decide), ← hS1, kR88_10, wc_bind, kA99 S1 (by omega), wc_bind, wc_bind, show (7 : Int32) + nI e = nI (7 + e) from nI_add 7 e, kA99 S1 (by omega), wc_bind, hM1 i (by omega), hM1 (7 + e) (by omega)]
      have hjoins : ¬ M i = M (7 + e) → QM n ρ B (7 * e + i + 1) (jm M i (7 + e)) → frp n ρ B (7 * e + i) = false → ∃ S' y4 y5', ((am_cV (am_cal am_mt (d + 3) jX11_joins [.ref 88, .int (nI i), .int (nI (7 + e))] (ws S1))).bind fun q11 => am_run false (am_cal am_mt (d + 3)) (am_lk tbX11_laysPattern) 101 [some (.ref 88), some (.int (nI v)), some (.int (nI B)), some (.int (nI e)), some (.int (nI i + nI 1)), some (.int (nI 1))] [] q11) = am_run false (am_cal am_mt (d + 3)) (am_lk tbX11_laysPattern) 88 [some (.ref 88), some (.int (nI v)), some (.int (nI B)), some (.int (nI (e + 1))), y4, y5'] [] (ws S') ∧ FPt S S' ∧ LM S' n ρ B (7 * e + 7) := by
        intro hne hQ' hfr
        obtain ⟨S2, b1, b2, b3⟩ := m_joins (d + 2) (S := S1) (L := M) (a := i) (b := 7 + e) hM1 lM (by omega) (by omega)
        rw [b1, cV_some, wc_bind, nI_add]
        have f2 : FPt S1 S2 := ⟨fun c a1 a2 a3 a4 a5 => b2 c (by omega), fun j _ _ => by rw [b2 88 (by decide)]⟩
        have hfx' : fx n ρ B (7 * e + i + 1) = fx n ρ B (7 * e + i) := cn_F hfr
        refine hnext S2 _ _ (f1.tr f2) b3 hQ' ?_ (by rw [b2 88 (by decide), o1 88 (by decide)]; exact h13) (fun c' hc' hfr' => ?_) (by rw [b2 97 (by decide), o1 97 (by decide)]) (fun y hy => by rw [b2 93 (by decide)]; exact c1 y hy)
        · rw [b2 88 (by decide), o1 88 (by decide), hfx']; exact h14
        · rw [b2 100 (by decide), o1 100 (by decide)]
          by_cases hcc : c' = 7 * e + i
          · rw [hcc, hfr] at hfr'; cases hfr'
          · exact h100 c' (by omega) hfr'
      cases hb : B.testBit e with
      | true =>
        have hel : elm B i = e := by
          unfold pt at hp
          rw [hb, decide_eq_true hir, if_pos rfl, Bool.true_and, beq_iff_eq] at hp
          exact hp
        have hr : i = pc (B % 2 ^ e) := by
          have := (elm_ok B hB7 i hi7 hir).2.2
          rw [hel] at this
          exact this.symm
        obtain ⟨q1, q2⟩ := QM_base hQ hi7 (by omega) hb hr
        rw [if_neg (fun c => q1 ((nI_eq (by omega) (by omega)).mp c))]
        exact hjoins q1 q2 (by unfold frp; rw [plc_B (by rw [d1]; exact hb), Bool.false_and])
      | false =>
        have hplc : plc n ρ B (7 * e + i) = true := plc_iff.mpr ⟨by rw [d1]; exact he, by rw [d1]; exact hb, by rw [d1, d2]; exact hp⟩
        have hjf := QM_jf hQ hi7 (by omega) hb
        cases hj : jf n ρ B (7 * e + i) with
        | true =>
          have q1 : ¬ M i = M (7 + e) := fun x => by rw [hjf, hj] at x; cases x
          rw [if_neg (fun c => q1 ((nI_eq (by omega) (by omega)).mp c))]
          exact hjoins q1 (QM_join hQ hi7 (by omega) hplc hj) (by unfold frp; rw [hj, Bool.not_true, Bool.and_false])
        | false =>
          have q1 : M i = M (7 + e) := hjf.mpr hj
          have hfr : frp n ρ B (7 * e + i) = true := by unfold frp; rw [hplc, hj]; rfl
          have hfx' : fx n ρ B (7 * e + i + 1) = fx n ρ B (7 * e + i) + 1 := cn_T hfr
          have h14' : S1 88 14 = nI (fx n ρ B (7 * e + i)) := by rw [o1 88 (by decide)]; exact h14
          rw [if_pos (congrArg nI q1), kR88_11, wc_bind, kI88_14, wc_bind, h14', wc_row7, kW100 S1 (by omega), wc_bind, kI88_14, wc_bind, kS88_14, wc_bind, up_ne 88 (by decide), h14', nI_add, nI_add]
          refine hnext _ _ M ((f1.tr (FPt_up (by omega))).tr (FPt_up (by omega))) (fun x hx => by rw [up_ne 99 (by decide), up_ne 99 (by decide)]; exact hM1 x hx) (QM_free hQ hj) ?_ ?_ (fun c' hc' hfr' => ?_) (by rw [up_ne 97 (by decide), up_ne 97 (by decide), o1 97 (by decide)]) (fun y hy => by rw [up_ne 93 (by decide), up_ne 93 (by decide)]; exact c1 y hy)
          · rw [up_self, hfx']
          · rw [up_upd]; unfold upd; rw [if_neg (by decide), up_ne 88 (by decide), o1 88 (by decide)]; exact h13
          · rw [up_ne 100 (by decide), up_upd]; unfold upd
            by_cases hcc : c' = 7 * e + i
            · rw [hcc, if_pos rfl]
            · have hlt : fx n ρ B c' < fx n ρ B (7 * e + i) := cn_lt (show c' < 7 * e + i by omega) hfr'
              rw [if_neg (by omega), o1 100 (by decide)]
              exact h100 c' (by omega) hfr'
