/-! ===== the reference asks and goes on ===== -/
def CK (S : am_S) (f n : Nat) (ρ : Nat → Nat) (B k : Nat) : Prop := ∀ x, x < 7 * n → S 93 x = nI (ent f n ρ B k x)
theorem m_isWriting (d : Nat) {S : am_S} {f n v B k : Nat} {ρ : Nat → Nat} (hf : f < 4) (hM : MC S) (h : VM S v n ρ) (hv : v < 14) (h13 : S 88 13 = nI (pc B)) (hK : CK S f n ρ B k) : ∃ S', am_cal am_mt (d + 4) jX11_isWriting [.ref 88, .int (nI v), .int (nI f)] (ws S) = some (some (.int (bI (acc f n ρ B k))), ws S') ∧ F94 S S' := by
  have hn := h.n7
  have h27 := p2_le hn
  have hpB := pc_le B
  have key : wp (am_cal am_mt (d + 4) jX11_isWriting [.ref 88, .int (nI v), .int (nI f)] (ws S)) (fun o S' => o = some (.int (bI (acc f n ρ B k))) ∧ F94 S S') := by
    rw [eX11_isWriting_0, kO88, if_T, show (.int (0 : Int32) : Value) = .int (nI 0) from rfl]
    refine loop_wp (fun s S1 => am_run true (am_cal am_mt (d + 3)) (am_lk tbX11_isWriting) 5 [some (.ref 88), some (.int (nI v)), some (.int (nI f)), some (.int (1 : Int32)), some (.int (nI s))] [] (ws S1)) (fun s S1 => F94 S S1 ∧ ∀ j, j < s → (!(pc j == pc B) || ((rkf f (wcol f n ρ B k) j == pc B) == (ρ j == pc B))) = true) _ (2 ^ n) ?_ ?_ 0 S (Nat.zero_le _) ⟨fun _ _ => rfl, fun j hj => absurd hj (Nat.not_lt_zero j)⟩
    · intro s S1 hs ⟨x1, x2⟩ K
      show wp (am_run _ _ _ _ _ _ _) _
      have hs7 := p2_128 hn hs
      have hps := pc_le s
      have hV1 : VM S1 v n ρ := ⟨h.1, h.2.1, by rw [x1 91 (by decide)]; exact h.2.2.1, fun t ht => by rw [x1 92 (by decide)]; exact h.2.2.2 t ht⟩
      have hM1 : MC S1 := ⟨fun x hx => by rw [x1 89 (by decide)]; exact hM.1 x hx, fun x hx => by rw [x1 90 (by decide)]; exact hM.2 x hx⟩
      have K2 : ∀ S2, F94 S S2 → (!(pc s == pc B) || ((rkf f (wcol f n ρ B k) s == pc B) == (ρ s == pc B))) = true → wp (am_run true (am_cal am_mt (d + 3)) (am_lk tbX11_isWriting) 5 [some (.ref 88), some (.int (nI v)), some (.int (nI f)), some (.int (1 : Int32)), some (.int (nI (s + 1)))] [] (ws S2)) _ := fun S2 g1 g2 => K S2 ⟨g1, fun j hj => by
        by_cases hjs : j = s
        · rw [hjs]; exact g2
        · exact x2 j (by omega)⟩
      rw [eX11_isWriting_5, m_all _ hV1, cI_some, wc_bind, if_neg (p2_all hs hn), if_neg (show ¬ (1 : Int32) = 0 by decide)]
      dsimp only
      rw [m_bits _ hs7, cI_some, wc_bind]
      dsimp only
      rw [kI88_13, wc_bind, x1 88 (by decide), h13]
      by_cases hp : pc s = pc B
      · obtain ⟨S2, a1, a2⟩ := m_rankOf d (S := S1) (f := f) (n := n) (s := s) (col := wcol f n ρ B k) hf (vdc_wcol f n ρ B k) hM1 hn hs (fun g hg j hj => by rw [x1 93 (by decide)]; exact hK _ (by omega))
        have a3 : F94 S S2 := fun c hc => (a2 c hc).trans (x1 c hc)
        have hV2 : VM S2 v n ρ := ⟨h.1, h.2.1, by rw [a3 91 (by decide)]; exact h.2.2.1, fun t ht => by rw [a3 92 (by decide)]; exact h.2.2.2 t ht⟩
        have l1 : rkf f (wcol f n ρ B k) s ≤ 7 := rkf_le
        have l2 := h.le hs
        have hprop : ∀ w : Bool, ((rkf f (wcol f n ρ B k) s == pc B) == (ρ s == pc B)) = w → (!(pc s == pc B) || ((rkf f (wcol f n ρ B k) s == pc B) == (ρ s == pc B))) = w := fun w hw => by
          rw [hw, hp, beq_self_eq_true]
          rfl
        have hbad : ((rkf f (wcol f n ρ B k) s == pc B) == (ρ s == pc B)) = false → wp (am_run true (am_cal am_mt (d + 3)) (am_lk tbX11_isWriting) 5 [some (.ref 88), some (.int (nI v)), some (.int (nI f)), some (.int (0 : Int32)), some (.int (nI (s + 1)))] [] (ws S2)) (fun o S' => o = some (.int (bI (acc f n ρ B k))) ∧ F94 S S') := fun hw => by
          have hacc : acc f n ρ B k = false := (wc_al_false _ _).mpr ⟨s, hs, hprop false hw⟩
          rw [eX11_isWriting_5, m_all _ hV2, cI_some, wc_bind, if_pos (show (0 : Int32) = 0 ∨ (0 : Int32) = 1 from Or.inl rfl), if_pos (show (0 : Int32) = 0 from rfl), ite_self, hacc]
          dsimp only
          exact wp_ret ⟨rfl, a3⟩
        rw [if_pos (congrArg nI hp), a1, cI_some, wc_bind]
        dsimp only
        rw [kI88_13, wc_bind, a3 88 (by decide), h13]
        by_cases hr : rkf f (wcol f n ρ B k) s = pc B
        · rw [if_pos (congrArg nI hr), eX11_isWriting_50, m_r _ hV2 hs, cI_some, wc_bind]
          dsimp only
          rw [kI88_13, wc_bind, a3 88 (by decide), h13, nI_1]
          by_cases hρ : ρ s = pc B
          · rw [if_pos (congrArg nI hρ), if_pos rfl]
            exact K2 S2 a3 (hprop true (by rw [hr, hρ, beq_self_eq_true]))
          · rw [if_neg (fun z => hρ ((nI_eq (by omega) (by omega)).mp z)), if_neg (show ¬ (1 : Int32) = 0 by decide)]
            exact hbad (by rw [hr, beq_self_eq_true, show (ρ s == pc B) = false from beq_eq_false_iff_ne.mpr hρ]; rfl)
        · rw [if_neg (fun z => hr ((nI_eq (by omega) (by omega)).mp z)), eX11_isWriting_50, m_r _ hV2 hs, cI_some, wc_bind]
          dsimp only
          rw [kI88_13, wc_bind, a3 88 (by decide), h13, nI_1]
          by_cases hρ : ρ s = pc B
          · rw [if_pos (congrArg nI hρ), if_neg (show ¬ (0 : Int32) = 1 by decide)]
            exact hbad (by rw [hρ, beq_self_eq_true, show (rkf f (wcol f n ρ B k) s == pc B) = false from beq_eq_false_iff_ne.mpr hr]; rfl)
          · rw [if_neg (fun z => hρ ((nI_eq (by omega) (by omega)).mp z)), if_pos rfl]
            exact K2 S2 a3 (hprop true (by rw [show (rkf f (wcol f n ρ B k) s == pc B) = false from beq_eq_false_iff_ne.mpr hr, show (ρ s == pc B) = false from beq_eq_false_iff_ne.mpr hρ]; rfl))
      · rw [if_neg (fun z => hp ((nI_eq (by omega) (by omega)).mp z)), nI_1]
        exact K2 S1 x1 (by rw [show (pc s == pc B) = false from beq_eq_false_iff_ne.mpr hp]; rfl)
    · intro S1 ⟨x1, x2⟩
      show wp (am_run _ _ _ _ _ _ _) _
      have hV1 : VM S1 v n ρ := ⟨h.1, h.2.1, by rw [x1 91 (by decide)]; exact h.2.2.1, fun t ht => by rw [x1 92 (by decide)]; exact h.2.2.2 t ht⟩
      have hacc : acc f n ρ B k = true := (wc_al_iff _ _).mpr x2
      rw [eX11_isWriting_5, m_all _ hV1, cI_some, wc_bind, if_pos (p2_end hn), if_pos (show (1 : Int32) = 0 ∨ (1 : Int32) = 1 from Or.inr rfl), hacc]
      dsimp only
      exact wp_ret ⟨rfl, x1⟩
  obtain ⟨o, S', h1, rfl, h2⟩ := key
  exact ⟨S', h1, h2⟩
/-! numbers and their digits -/
theorem dg_reset {b k m : Nat} (hb : 0 < b) (h : k % b ^ m = b ^ m - 1) (hd : k / b ^ m % b = b - 1) : k % b ^ (m + 1) = b ^ (m + 1) - 1 := by
  have hp : 0 < b ^ m := Nat.pow_pos hb
  rw [Nat.mod_pow_succ, h, hd, Nat.pow_succ, Nat.mul_sub, Nat.mul_one]
  have : b ^ m ≤ b ^ m * b := Nat.le_mul_of_pos_right _ hb
  omega
theorem dg_succ {b k m : Nat} (hb : 0 < b) (h : k % b ^ m = b ^ m - 1) : (k + 1) / b ^ m = k / b ^ m + 1 ∧ (k + 1) % b ^ m = 0 := by
  have hp : 0 < b ^ m := Nat.pow_pos hb
  have h1 := Nat.div_add_mod k (b ^ m)
  have h2 : k + 1 = b ^ m * (k / b ^ m + 1) := by rw [Nat.mul_add, Nat.mul_one]; omega
  constructor
  · rw [h2, Nat.mul_div_cancel_left _ hp]
  · rw [h2, Nat.mul_mod_right]
theorem dg_lo {b k m e : Nat} (hb : 0 < b) (h : (k + 1) % b ^ m = 0) (he : e < m) : (k + 1) / b ^ e % b = 0 := by
  have hp : 0 < b ^ e := Nat.pow_pos hb
  have h1 := Nat.div_add_mod (k + 1) (b ^ m)
  rw [h, Nat.add_zero] at h1
  rw [← h1, show m = e + ((m - e - 1) + 1) by omega, Nat.pow_add, Nat.pow_succ, Nat.mul_assoc, Nat.mul_div_cancel_left _ hp, Nat.mul_comm (b ^ (m - e - 1)) b, Nat.mul_assoc, Nat.mul_mod_right]
theorem dg_inc {b y : Nat} (hb : 0 < b) (h : y % b < b - 1) : (y + 1) % b = y % b + 1 ∧ (y + 1) / b = y / b := by
  have h1 := Nat.div_add_mod y b
  have h2 : y + 1 = y % b + 1 + b * (y / b) := by omega
  constructor
  · rw [h2, Nat.add_mul_mod_self_left, Nat.mod_eq_of_lt (by omega)]
  · rw [h2, Nat.add_mul_div_left _ _ hb, Nat.div_eq_of_lt (by omega), Nat.zero_add]
theorem dg_hi {b k m e : Nat} (hb : 0 < b) (h : k % b ^ m = b ^ m - 1) (hd : k / b ^ m % b < b - 1) (he : m < e) : (k + 1) / b ^ e = k / b ^ e := by
  rw [show e = m + (1 + (e - m - 1)) by omega, Nat.pow_add, Nat.pow_add, Nat.pow_one, ← Nat.div_div_eq_div_mul, ← Nat.div_div_eq_div_mul, ← Nat.div_div_eq_div_mul, ← Nat.div_div_eq_div_mul, (dg_succ hb h).1, (dg_inc hb hd).2]
theorem m_goesOn (d : Nat) {S : am_S} {f n B k : Nat} {ρ : Nat → Nat} (hf : f < 4) (hn : n ≤ 7) (hB : B < 2 ^ n) (hM : MC S) (h14 : S 88 14 = nI (fx n ρ B 49)) (h100 : ∀ c, c < 49 → frp n ρ B c = true → S 100 (fx n ρ B c) = nI c) (hK : CK S f n ρ B k) (hk : k < (fsz f - 1) ^ fx n ρ B 49) : ∃ S', am_cal am_mt (d + 1) jX11_goesOn [.ref 88, .int (nI f)] (ws S) = some (some (.int (bI (decide (k + 1 < (fsz f - 1) ^ fx n ρ B 49)))), ws S') ∧ Cr 93 93 S S' ∧ (k + 1 < (fsz f - 1) ^ fx n ρ B 49 → CK S' f n ρ B (k + 1)) := by
  have hz := fsz_pos f
  have hT := fx_10 ρ hn hB
  obtain ⟨T, hTd⟩ : ∃ T, T = fx n ρ B 49 := ⟨_, rfl⟩
  obtain ⟨b, hb⟩ : ∃ b, b = fsz f - 1 := ⟨_, rfl⟩
  have hb0 : 0 < b := by omega
  rw [← hTd] at hT h14 hk ⊢
  rw [← hb] at hk ⊢
  rw [eX11_goesOn_0, kO88, if_T, kI88_14, wc_bind, h14, show (1 : Int32) = nI 1 from rfl]
  have key : ∀ q m S1, q + m = T → Cr 93 93 S S1 → k % b ^ m = b ^ m - 1 → (∀ x, x < 7 * n → S1 93 x = nI (if frp n ρ B x = true ∧ q ≤ fx n ρ B x then 1 else ent f n ρ B k x)) → ∃ S', am_run true (am_cal am_mt d) (am_lk tbX11_goesOn) 7 [some (.ref 88), some (.int (nI f)), some (.int (nI q - nI 1))] [] (ws S1) = some (some (.int (bI (decide (k + 1 < b ^ T)))), ws S') ∧ Cr 93 93 S S' ∧ (k + 1 < b ^ T → CK S' f n ρ B (k + 1)) := by
    intro q
    induction q with
    | zero =>
      intro m S1 hqm c1 hkm hcol
      have : m = T := by omega
      subst this
      have hkT : ¬ k + 1 < b ^ m := by
        rw [Nat.mod_eq_of_lt hk] at hkm
        have := Nat.pow_pos (n := m) hb0
        omega
      rw [eX11_goesOn_7, if_pos (show nI 0 - nI 1 < 0 by decide), eX11_goesOn_51, if_neg (show ¬ (0 : Int32) ≤ nI 0 - nI 1 by decide), decide_eq_false hkT]
      exact ⟨S1, rfl, c1, fun hx => absurd hx hkT⟩
    | succ q ih =>
      intro m S1 hqm c1 hkm hcol
      obtain ⟨c, e1, e2, e3⟩ := cn_at (frp n ρ B) q 49 (show q < fx n ρ B 49 by omega)
      have e3 : fx n ρ B c = q := e3
      have hplc : plc n ρ B c = true := by unfold frp at e2; rw [Bool.and_eq_true] at e2; exact e2.1
      have hjf : jf n ρ B c = false := by unfold frp at e2; rw [Bool.and_eq_true, Bool.not_eq_true'] at e2; exact e2.2
      have hpl := plc_iff.mp hplc
      have hc7 : c < 7 * n := by omega
      have hM1 := MC_Cr hM c1 (by omega)
      have h100' : S1 100 q = nI c := by rw [c1 100 (by decide), ← e3]; exact h100 c e1 e2
      have hent : ∀ k, ent f n ρ B k c = 1 + k / b ^ m % b := fun k => by
        unfold ent num
        rw [decide_eq_true hpl.1, hpl.2.1, hpl.2.2, Bool.and_true, if_pos rfl, if_neg Bool.false_ne_true, hjf, if_neg Bool.false_ne_true, e3, ← hTd, ← hb, show T - 1 - q = m by omega]
      have hdl := Nat.mod_lt (k / b ^ m) hb0
      have hcc : S1 93 c = nI (1 + k / b ^ m % b) := by rw [hcol c hc7, if_neg (by omega), hent]
      have hq1 : nI (q + 1) - nI 1 = nI q := pk_sub (by omega)
      rw [hq1, eX11_goesOn_7, if_neg (nI_pos (by omega)), kR88_4, wc_bind, kR88_11, wc_bind, kA100 S1 (by omega), wc_bind, h100', kA93 S1 (by omega), wc_bind, hcc, kR88_0, wc_bind, hM1.sz hf, wc_bind, show nI (fsz f) - (1 : Int32) = nI b from by rw [show (1 : Int32) = nI 1 from rfl, pk_sub (by omega), hb]]
      by_cases hmax : k / b ^ m % b = b - 1
      · rw [if_pos (by rw [hmax, show 1 + (b - 1) = b by omega]), wc_bind, wc_bind, kA100 S1 (by omega), wc_bind, h100', kW93 S1 (by omega), wc_bind, show nI q + (-1 : Int32) = nI q - nI 1 from by rw [show (-1 : Int32) = -nI 1 from rfl, ← Int32.sub_eq_add_neg]]
        refine ih (m + 1) _ (by omega) (Cr_up c1 (by decide) (by decide)) (dg_reset hb0 hkm hmax) (fun x hx => ?_)
        rw [up_upd]; unfold upd
        by_cases hxc : x = c
        · rw [if_pos hxc, if_pos ⟨by rw [hxc]; exact e2, by rw [hxc, e3]; exact Nat.le_refl q⟩]; rfl
        · rw [if_neg hxc, hcol x hx]
          by_cases hfr : frp n ρ B x = true
          · have hne : fx n ρ B x ≠ q := fun y => by
              rcases Nat.lt_trichotomy x c with g | g | g
              · have : fx n ρ B x < fx n ρ B c := cn_lt g hfr
                omega
              · exact hxc g
              · have : fx n ρ B c < fx n ρ B x := cn_lt g e2
                omega
            by_cases hqx : q + 1 ≤ fx n ρ B x
            · rw [if_pos ⟨hfr, hqx⟩, if_pos ⟨hfr, by omega⟩]
            · rw [if_neg (by omega), if_neg (by omega)]
          · rw [if_neg (fun y => hfr y.1), if_neg (fun y => hfr y.1)]
      · have hlt : k / b ^ m % b < b - 1 := by omega
        have hkT : k + 1 < b ^ T := by
          apply Classical.byContradiction
          intro hx
          have hk1 : k + 1 = b ^ T := by omega
          have g1 := (dg_succ hb0 hkm).1
          rw [hk1, show T = m + (q + 1) by omega, Nat.pow_add, Nat.mul_div_cancel_left _ (Nat.pow_pos hb0), Nat.pow_succ] at g1
          have g2 := (dg_inc hb0 hlt).1
          rw [← g1, Nat.mul_mod_left] at g2
          omega
        rw [if_neg (fun y => hmax (by have := (nI_eq (by omega) (by omega)).mp y; omega)), eX11_goesOn_51, if_pos (show (0 : Int32) ≤ nI q from nI_pos' (by omega)), kR88_4, wc_bind, kR88_11, wc_bind, kA100 S1 (by omega), wc_bind, h100', kA93 S1 (by omega), wc_bind, hcc, kW93 S1 (by omega), wc_bind, decide_eq_true hkT]
        refine ⟨_, rfl, Cr_up c1 (by decide) (by decide), fun _ x hx => ?_⟩
        rw [up_upd]; unfold upd
        by_cases hxc : x = c
        · rw [if_pos hxc, hxc, hent, (dg_succ hb0 hkm).1, (dg_inc hb0 hlt).1, nI_1]
          congr 1
        · rw [if_neg hxc, hcol x hx]
          by_cases hfr : frp n ρ B x = true
          · have hne : fx n ρ B x ≠ q := fun y => by
              rcases Nat.lt_trichotomy x c with g | g | g
              · have : fx n ρ B x < fx n ρ B c := cn_lt g hfr
                omega
              · exact hxc g
              · have : fx n ρ B c < fx n ρ B x := cn_lt g e2
                omega
            have hfxT : fx n ρ B x < T := by rw [hTd]; exact cn_lt (show x < 49 by omega) hfr
            have hplx : plc n ρ B x = true := by unfold frp at hfr; rw [Bool.and_eq_true] at hfr; exact hfr.1
            have hjx : jf n ρ B x = false := by unfold frp at hfr; rw [Bool.and_eq_true, Bool.not_eq_true'] at hfr; exact hfr.2
            have hpx := plc_iff.mp hplx
            have hentx : ∀ k, ent f n ρ B k x = 1 + k / b ^ (T - 1 - fx n ρ B x) % b := fun k => by
              unfold ent num
              rw [decide_eq_true hpx.1, hpx.2.1, hpx.2.2, Bool.and_true, if_pos rfl, if_neg Bool.false_ne_true, hjx, if_neg Bool.false_ne_true, ← hTd, ← hb]
            by_cases hqx : q + 1 ≤ fx n ρ B x
            · rw [if_pos ⟨hfr, hqx⟩, hentx, dg_lo hb0 (dg_succ hb0 hkm).2 (show T - 1 - fx n ρ B x < m by omega)]
            · rw [if_neg (by omega), hentx, hentx, dg_hi hb0 hkm hlt (show m < T - 1 - fx n ρ B x by omega)]
          · rw [if_neg (fun y => hfr y.1)]
            congr 1
            unfold ent
            cases hq : (decide (x / 7 < n) && pt n ρ B (x / 7) (x % 7)) with
            | false => rfl
            | true =>
              cases hBx : B.testBit (x / 7) with
              | true => rfl
              | false =>
                rw [if_pos rfl, if_pos rfl, if_neg Bool.false_ne_true, if_neg Bool.false_ne_true]
                unfold num
                cases hjx : jf n ρ B x with
                | true => rfl
                | false =>
                  rw [Bool.and_eq_true, decide_eq_true_iff] at hq
                  have : frp n ρ B x = true := by unfold frp; rw [plc_iff.mpr ⟨hq.1, hBx, hq.2⟩, hjx]; rfl
                  exact absurd this hfr
  exact key T 0 S (by omega) Cr.rf (by rw [Nat.pow_zero, Nat.mod_one]) (fun x hx => by
    by_cases hfr : frp n ρ B x = true
    · have hfxT : fx n ρ B x < T := by rw [hTd]; exact cn_lt (show x < 49 by omega) hfr
      rw [if_neg (by omega)]; exact hK x hx
    · rw [if_neg (fun y => hfr y.1)]; exact hK x hx)
