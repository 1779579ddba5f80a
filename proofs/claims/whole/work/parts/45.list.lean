/-! ===== list ===== -/
theorem cn_mono {P : Nat → Bool} : ∀ {a b : Nat}, a ≤ b → wc_cn a P ≤ wc_cn b P := by
  intro a b h
  induction h with
  | refl => exact Nat.le_refl _
  | step _ ih => rw [wc_cn_s]; split <;> omega
theorem cn_lt {P : Nat → Bool} {a b : Nat} (h : a < b) (hp : P a = true) : wc_cn a P < wc_cn b P := by
  have := cn_mono (P := P) (show a + 1 ≤ b by omega)
  rw [wc_cn_s, if_pos hp] at this
  omega
theorem cn_imp {P Q : Nat → Bool} {a : Nat} (h : ∀ i, i < a → P i = true → Q i = true) : wc_cn a P ≤ wc_cn a Q := by
  induction a with
  | zero => exact Nat.le_refl _
  | succ a ih =>
    have := ih (fun i hi => h i (by omega))
    rw [wc_cn_s, wc_cn_s]
    cases hp : P a with
    | false => rw [if_neg Bool.false_ne_true]; split <;> omega
    | true => rw [if_pos rfl, if_pos (h a (by omega) hp)]; omega
theorem size_le : ∀ r, r ≤ 7 → wc_cn 128 (fun s => pc s == r) ≤ 35 := by decide +kernel
theorem bases_le {n : Nat} {ρ : Nat → Nat} (hm : mat n ρ) (hn : n ≤ 7) : cnt n (srt n ρ 2) ≤ 35 := by
  have h1 := cn_imp (P := srt n ρ 2) (Q := fun s => pc s == ρ (2 ^ n - 1)) (a := 2 ^ n) (fun i hi hp => by
    have := bas_iff.mp (show bas n ρ i = true from hp)
    rw [← this.2, this.1]
    exact beq_self_eq_true _)
  have h2 := cn_mono (P := fun s => pc s == ρ (2 ^ n - 1)) (p2_le hn)
  have h3 := size_le _ (mat_7 hm hn (p2_m1 n))
  unfold cnt
  omega
/-- the row that list lays -/
def lrow (P : Nat → Bool) (k : Nat) : Nat → Int32 := wc_fd k (fun e a => if P e then upd a (wc_cn e P) (nI e) else a) (fun _ => 0)
theorem lrow_s (P : Nat → Bool) (k : Nat) : lrow P (k + 1) = if P k then upd (lrow P k) (wc_cn k P) (nI k) else lrow P k := wc_fd_s _ _ _
theorem pu_list : am_ag Inv jX10_list jX11_list 2 := ah_2 (fun d S x1 x2 hR => by
  rcases inR_of (x := x1) (n := 4) (by decide) with h1 | ⟨v, hv, rfl⟩
  · refine ag3_p hR (-2) ?_ ?_
    · rw [eX10_list_0, kO0, if_T, c_below, cI_some, wc_bind, show (inR x1 (4 : Int32)) = false from h1, if_pos bI_F]
    · rw [eX11_list_0, kO88, if_T, m_isView, cI_some, wc_bind, h1, if_pos bI_F]
  have hv4 : inR (nI v) (nI 4) = true := inR_T hv (by decide)
  rcases inR_of (x := x2) (n := 4) (by decide) with h1 | ⟨s, hs, rfl⟩
  · refine ag3_p hR (-2) ?_ ?_
    · rw [eX10_list_0, kO0, if_T, c_below, cI_some, wc_bind, show (inR (nI v) (4 : Int32)) = true from hv4, if_neg bI_T, c_below, cI_some, wc_bind, show (inR x2 (4 : Int32)) = false from h1, if_pos bI_F]
    · rw [eX11_list_0, kO88, if_T, m_isView, cI_some, wc_bind, hv4, if_neg bI_T, m_isSheet, cI_some, wc_bind, h1, if_pos bI_F]
  have hs4 : inR (nI s) (nI 4) = true := inR_T hs (by decide)
  obtain ⟨n, ρ, hm, hC, hM⟩ := hR.2.1 v hv
  have hn := hC.n7
  have hb := bases_le hm hn
  have h27 := p2_le hn
  obtain ⟨c, hc⟩ : ∃ c, c = cnt n (srt n ρ 2) := ⟨_, rfl⟩
  have hc64 : c ≤ 64 := by omega
  obtain ⟨S0, a1, a2, a3, a4, a5⟩ := c7_become (d + 18) S hs hc64 1
  -- the class's loop
  have cl : ∀ k, k ≤ 2 ^ n → ∃ S', am_run false (am_cal am_mt (d + 19)) (am_lk tbX10_list) 47 [some (.ref 0), some (.int (nI v)), some (.int (nI s)), some (.int (nI c)), some (.int (0 : Int32)), some (.int (0 : Int32))] [] (ws S0) = am_run false (am_cal am_mt (d + 19)) (am_lk tbX10_list) 47 [some (.ref 0), some (.int (nI v)), some (.int (nI s)), some (.int (nI c)), some (.int (nI (wc_cn k (srt n ρ 2)))), some (.int (nI k))] [] (ws S') ∧ Cr (80 + 2 * s) (81 + 2 * s) S S' ∧ S' (80 + 2 * s) 0 = 1 ∧ S' (80 + 2 * s) 1 = nI c ∧ ∀ i, i < 64 → S' (81 + 2 * s) i = lrow (srt n ρ 2) k i := by
    intro k
    induction k with
    | zero => intro _; exact ⟨S0, rfl, a2, a3, a4, fun i hi => a5 i hi⟩
    | succ k ih =>
      intro hk
      obtain ⟨S', g1, g2, g3, g4, g5⟩ := ih (by omega)
      have hk2 : k < 2 ^ n := by omega
      have hC' := VC_Cr hC g2 (by omega)
      cases hp : srt n ρ 2 k with
      | false =>
        refine ⟨S', g1.trans ?_, g2, g3, g4, fun i hi => by rw [lrow_s, hp, if_neg (by decide)]; exact g5 i hi⟩
        rw [eX10_list_47, kR0_1, wc_bind, kQv S' hv, wc_bind, c8_all _ hC', cI_some, wc_bind, if_neg (p2_all hk2 hn), kR0_1, wc_bind, kQv S' hv, wc_bind, show (2 : Int32) = nI 2 from rfl, c8_isOfSort _ hC' hk2 (by decide) (by decide), cI_some, wc_bind, hp, if_pos bI_F, nI_1, wc_cn_s, hp, if_neg (by decide)]
      | true =>
        have hlt : wc_cn k (srt n ρ 2) < c := by rw [hc]; exact cn_lt hk2 hp
        refine ⟨up S' (81 + 2 * s) (wc_cn k (srt n ρ 2)) (nI k), g1.trans ?_, Cr_up g2 (by omega) (by omega), by rw [up_ne _ (by omega)]; exact g3, by rw [up_ne _ (by omega)]; exact g4, fun i hi => ?_⟩
        · rw [eX10_list_47, kR0_1, wc_bind, kQv S' hv, wc_bind, c8_all _ hC', cI_some, wc_bind, if_neg (p2_all hk2 hn), kR0_1, wc_bind, kQv S' hv, wc_bind, show (2 : Int32) = nI 2 from rfl, c8_isOfSort _ hC' hk2 (by decide) (by decide), cI_some, wc_bind, hp, if_neg bI_T, kR0_3, wc_bind, kQs S' hs, wc_bind, c7_put _ S' hs g4 hc64 hlt, g3, if_neg z10, cV_some, wc_bind, nI_1, nI_1, wc_cn_s, hp, if_pos rfl]
        · rw [lrow_s, hp, if_pos rfl, up_upd]
          unfold upd
          by_cases hi2 : i = wc_cn k (srt n ρ 2)
          · rw [if_pos hi2, if_pos hi2]
          · rw [if_neg hi2, if_neg hi2]; exact g5 i hi
  obtain ⟨S1, g1, g2, g3, g4, g5⟩ := cl (2 ^ n) (Nat.le_refl _)
  have hM1 : VM S1 v n ρ := VM_Cr hM g2 (by omega)
  obtain ⟨T0, b1, b2, b3, b4, b5, b6⟩ := m_lays (d + 18) S1 hs (nI c)
  have ml : ∀ k, k ≤ 2 ^ n → ∃ S', am_run false (am_cal am_mt (d + 19)) (am_lk tbX11_list) 33 [some (.ref 88), some (.int (nI v)), some (.int (nI s)), some (.int (0 : Int32)), some (.int (0 : Int32))] [] (ws T0) = am_run false (am_cal am_mt (d + 19)) (am_lk tbX11_list) 33 [some (.ref 88), some (.int (nI v)), some (.int (nI s)), some (.int (nI (wc_cn k (srt n ρ 2)))), some (.int (nI k))] [] (ws S') ∧ Fk (K1 (9 + s)) S1 S' ∧ Cr 104 106 S1 S' ∧ S' 104 s = 1 ∧ S' 105 s = nI c ∧ ∀ i, i < 64 → S' 106 (64 * s + i) = lrow (srt n ρ 2) k i := by
    intro k
    induction k with
    | zero => intro _; exact ⟨T0, rfl, b2, b3, b4, b5, fun i hi => b6 i hi⟩
    | succ k ih =>
      intro hk
      obtain ⟨S', q1, q2, q3, q4, q5, q6⟩ := ih (by omega)
      have hk2 : k < 2 ^ n := by omega
      have hM' := VM_Cr hM1 q3 (by omega)
      cases hp : srt n ρ 2 k with
      | false =>
        refine ⟨S', q1.trans ?_, q2, q3, q4, q5, fun i hi => by rw [lrow_s, hp, if_neg (by decide)]; exact q6 i hi⟩
        rw [eX11_list_33, m_all _ hM', cI_some, wc_bind, if_neg (p2_all hk2 hn), show (2 : Int32) = nI 2 from rfl, m_isOf _ hM' hk2 (by decide) (by decide), cI_some, wc_bind, hp, if_pos bI_F, nI_1, wc_cn_s, hp, if_neg (by decide)]
      | true =>
        have hlt : wc_cn k (srt n ρ 2) < c := by rw [hc]; exact cn_lt hk2 hp
        refine ⟨up S' 106 (64 * s + wc_cn k (srt n ρ 2)) (nI k), q1.trans ?_, Fk_up q2 _ (comp_106 s (by omega)) (K1_j _), Cr_up q3 (by omega) (by omega), by rw [up_ne _ (by omega)]; exact q4, by rw [up_ne _ (by omega)]; exact q5, fun i hi => ?_⟩
        · rw [eX11_list_33, m_all _ hM', cI_some, wc_bind, if_neg (p2_all hk2 hn), show (2 : Int32) = nI 2 from rfl, m_isOf _ hM' hk2 (by decide) (by decide), cI_some, wc_bind, hp, if_neg bI_T, kR88_20, wc_bind, wc_row64]
          dsimp only
          rw [kW106 _ (show 64 * s + wc_cn k (srt n ρ 2) < 256 by omega), wc_bind, nI_1, nI_1, wc_cn_s, hp, if_pos rfl]
        · rw [lrow_s, hp, if_pos rfl, up_upd]
          unfold upd
          by_cases hi2 : i = wc_cn k (srt n ρ 2)
          · rw [if_pos (by omega), if_pos hi2]
          · rw [if_neg (by omega), if_neg hi2]; exact q6 i hi
  obtain ⟨S2, q1, q2, q3, q4, q5, q6⟩ := ml (2 ^ n) (Nat.le_refl _)
  refine ⟨nI c, S1, S2, ?_, ?_, R_1 (j := 9 + s) hR ((Fk_Cr g2 (fun c i p q => by rw [comp_s hs (by omega)]; exact K1_j _)).tr q2) ?_⟩
  · rw [eX10_list_0, kO0, if_T, c_below, cI_some, wc_bind, show (inR (nI v) (4 : Int32)) = true from hv4, if_neg bI_T, c_below, cI_some, wc_bind, show (inR (nI s) (4 : Int32)) = true from hs4, if_neg bI_T, kR0_1, wc_bind, kQv S hv, wc_bind, show (2 : Int32) = nI 2 from rfl, c8_countOf _ hC (by decide) (by decide), cI_some, wc_bind, kR0_3, wc_bind, kQs S hs, wc_bind, ← hc]
    dsimp only
    rw [a1, cV_some, wc_bind]
    refine g1.trans ?_
    have hC' := VC_Cr hC g2 (by omega)
    rw [eX10_list_47, kR0_1, wc_bind, kQv S1 hv, wc_bind, c8_all _ hC', cI_some, wc_bind, if_pos (p2_end hn)]
  · rw [eX11_list_0, kO88, if_T, m_isView, cI_some, wc_bind, hv4, if_neg bI_T, m_isSheet, cI_some, wc_bind, hs4, if_neg bI_T, show (2 : Int32) = nI 2 from rfl, m_countOf _ hM1 (by decide) (by decide), cI_some, wc_bind, ← hc]
    dsimp only
    rw [b1, cV_some, wc_bind]
    refine q1.trans ?_
    have hM' := VM_Cr hM1 q3 (by omega)
    rw [eX11_list_33, m_all _ hM', cI_some, wc_bind, if_pos (p2_end hn), show wc_cn (2 ^ n) (srt n ρ 2) = c from hc.symm]
  · rw [RC_s hs]
    unfold RS
    rw [q3 (80 + 2 * s) (by omega), q3 (81 + 2 * s) (by omega)]
    exact ⟨g3.trans q4.symm, g4.trans q5.symm, Or.inr (Or.inr q4), ⟨c, hc64, q5⟩, fun i hi => (g5 i hi).trans (q6 i hi).symm⟩)
