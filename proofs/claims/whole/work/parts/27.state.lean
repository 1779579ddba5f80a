/-! ===== the two states, that they agree; what only asks ===== -/
/-- a rank of n elements -/
def mat (n : Nat) (ρ : Nat → Nat) : Prop := ρ 0 = 0 ∧ (∀ s e, s < 2 ^ n → e < n → ρ s ≤ ρ (s ||| 2 ^ e) ∧ ρ (s ||| 2 ^ e) ≤ ρ s + 1) ∧ ∀ s e f, s < 2 ^ n → e < n → f < n → ρ (s ||| 2 ^ e) = ρ s → ρ (s ||| 2 ^ f) = ρ s → ρ (s ||| 2 ^ e ||| 2 ^ f) = ρ s
def RV (S : am_S) (q w : Nat) : Prop := ∃ (n : Nat) (ρ : Nat → Nat), mat n ρ ∧ VC S q n ρ ∧ VM S w n ρ
def RK (S : am_S) : Prop := (∀ f, f < 4 → FC S (52 + 2 * f) f) ∧ MC S
def RI (S : am_S) : Prop := (S 5 0 = 0 ∧ S 88 21 = 0) ∨ (S 5 0 = 1 ∧ S 88 21 = 1 ∧ S 5 1 = S 88 22 ∧ ∀ v, v < 4 → RV S (7 + 2 * v) (8 + v))
def RH (S : am_S) (h : Nat) : Prop := (S (68 + 3 * h) 0 < 0 ∧ S (68 + 3 * h) 1 = 0 ∧ S 102 h = 0) ∨ (∃ k, k < 4 ∧ S (68 + 3 * h) 0 = nI (52 + 2 * k) ∧ S (68 + 3 * h) 1 = 0 ∧ S 102 h = 1 ∧ S 103 h = nI k) ∨ (S (68 + 3 * h) 0 < 0 ∧ S (68 + 3 * h) 1 = 1 ∧ S 102 h = 2 ∧ RV S (69 + 3 * h) (4 + h))
def RS (S : am_S) (s : Nat) : Prop := S (80 + 2 * s) 0 = S 104 s ∧ S (80 + 2 * s) 1 = S 105 s ∧ (S 104 s = -1 ∨ S 104 s = 0 ∨ S 104 s = 1) ∧ (∃ l, l ≤ 64 ∧ S 105 s = nI l) ∧ ∀ i, i < 64 → S (81 + 2 * s) i = S 106 (64 * s + i)
def R (S : am_S) : Prop := RK S ∧ (∀ v, v < 4 → RV S (60 + 2 * v) v) ∧ RI S ∧ (∀ h, h < 4 → RH S h) ∧ (∀ s, s < 4 → RS S s) ∧ (∀ i, i < 4 → S 15 i = S 95 i) ∧ S 0 11 = S 88 15
def Inv (g : am_W) : Prop := ∃ S, g = ws S ∧ R S
/-- nothing is otherwise but where W says so -/
def Fr (W : Nat → Nat → Bool) (S S' : am_S) : Prop := ∀ c i, W c i = false → S' c i = S c i
theorem Fr.rf {W : Nat → Nat → Bool} {S : am_S} : Fr W S S := fun _ _ _ => rfl
theorem Fr.tr {W : Nat → Nat → Bool} {S S' S'' : am_S} (h1 : Fr W S S') (h2 : Fr W S' S'') : Fr W S S'' := fun c i h => (h2 c i h).trans (h1 c i h)
theorem Fr.wk {W W' : Nat → Nat → Bool} {S S' : am_S} (h : Fr W S S') (hw : ∀ c i, W' c i = false → W c i = false) : Fr W' S S' := fun c i h2 => h c i (hw c i h2)
theorem Fr_up {W : Nat → Nat → Bool} {S S' : am_S} (h : Fr W S S') {c i : Nat} {x : Int32} (hc : W c i = true) : Fr W S (up S' c i x) := by
  intro c' i' h'
  unfold up
  by_cases h1 : c' = c
  · by_cases h2 : i' = i
    · rw [h1, h2, hc] at h'; cases h'
    · rw [if_pos h1, if_neg h2]; exact h c' i' h'
  · rw [if_neg h1]; exact h c' i' h'
theorem Fr_upA {W : Nat → Nat → Bool} {S S' : am_S} (h : Fr W S S') {c : Nat} {f : Nat → Int32} (hc : ∀ i, W c i = false → f i = S c i) : Fr W S (upA S' c f) := by
  intro c' i' h'
  unfold upA
  by_cases h1 : c' = c
  · subst h1; rw [if_pos rfl]; exact hc i' h'
  · rw [if_neg h1]; exact h c' i' h'
theorem VC.fr {W : Nat → Nat → Bool} {S S' : am_S} {q n : Nat} {ρ : Nat → Nat} (h : VC S q n ρ) (hf : Fr W S S') (h0 : W q 0 = false) (h1 : ∀ i, W (q + 1) i = false) : VC S' q n ρ :=
  ⟨h.1, h.2.1, h.2.2.1, by rw [hf _ _ h0]; exact h.2.2.2.1, fun s hs => by rw [hf _ _ (h1 s)]; exact h.2.2.2.2 s hs⟩
theorem VM.fr {W : Nat → Nat → Bool} {S S' : am_S} {v n : Nat} {ρ : Nat → Nat} (h : VM S v n ρ) (hf : Fr W S S') (h0 : W 91 v = false) (h1 : ∀ i, i < 128 → W 92 (128 * v + i) = false) : VM S' v n ρ :=
  ⟨h.1, h.2.1, by rw [hf _ _ h0]; exact h.2.2.1, fun s hs => by rw [hf _ _ (h1 s (p2_128 h.2.1 hs))]; exact h.2.2.2 s hs⟩
theorem FC.fr {W : Nat → Nat → Bool} {S S' : am_S} {q f : Nat} (h : FC S q f) (hf : Fr W S S') (h0 : W q 0 = false) (h1 : ∀ i, W (q + 1) i = false) : FC S' q f :=
  ⟨h.1, h.2.1, h.2.2.1, by rw [hf _ _ h0]; exact h.2.2.2.1, fun s hs => by rw [hf _ _ (h1 s)]; exact h.2.2.2.2 s hs⟩
theorem MC.fr {W : Nat → Nat → Bool} {S S' : am_S} (h : MC S) (hf : Fr W S S') (h0 : ∀ i, W 89 i = false) (h1 : ∀ i, W 90 i = false) : MC S' :=
  ⟨fun f hf' => by rw [hf _ _ (h0 f)]; exact h.1 f hf', fun f hf' => by rw [hf _ _ (h1 f)]; exact h.2 f hf'⟩
/-- where thought and drafts are made -/
def scr (c i : Nat) : Bool := (decide (16 ≤ c) && decide (c ≤ 51)) || (c == 91 && decide (12 ≤ i)) || (c == 92 && decide (1536 ≤ i)) || c == 93 || c == 94 || (decide (96 ≤ c) && decide (c ≤ 101)) || (c == 88 && (i == 13 || i == 14))
theorem scr_c {c : Nat} (h : c < 16 ∨ 51 < c) (h1 : c ≠ 91) (h2 : c ≠ 92) (h3 : c ≠ 93) (h4 : c ≠ 94) (h5 : c < 96 ∨ 101 < c) (h6 : c ≠ 88) (i : Nat) : scr c i = false := by
  unfold scr
  have e1 : (decide (16 ≤ c) && decide (c ≤ 51)) = false := by
    rcases h with h | h
    · rw [decide_eq_false (show ¬ 16 ≤ c by omega), Bool.false_and]
    · rw [decide_eq_false (show ¬ c ≤ 51 by omega), Bool.and_false]
  have e2 : (decide (96 ≤ c) && decide (c ≤ 101)) = false := by
    rcases h5 with h | h
    · rw [decide_eq_false (show ¬ 96 ≤ c by omega), Bool.false_and]
    · rw [decide_eq_false (show ¬ c ≤ 101 by omega), Bool.and_false]
  simp [e1, e2, h1, h2, h3, h4, h6]
theorem scr_91 {i : Nat} (h : i < 12) : scr 91 i = false := by
  unfold scr; simp; omega
theorem scr_92 {i : Nat} (h : i < 1536) : scr 92 i = false := by
  unfold scr; simp; omega
theorem scr_88 {i : Nat} (h : i ≠ 13) (h' : i ≠ 14) : scr 88 i = false := by
  unfold scr; simp [h, h']
theorem RV.fr {W : Nat → Nat → Bool} {S S' : am_S} {q w : Nat} (h : RV S q w) (hf : Fr W S S') (h0 : W q 0 = false) (h1 : ∀ i, W (q + 1) i = false) (h2 : W 91 w = false) (h3 : ∀ i, i < 128 → W 92 (128 * w + i) = false) : RV S' q w := by
  obtain ⟨n, ρ, hm, hc, hM⟩ := h
  exact ⟨n, ρ, hm, hc.fr hf h0 h1, hM.fr hf h2 h3⟩
theorem RV_scr {S S' : am_S} {q w : Nat} (h : RV S q w) (hf : Fr scr S S') (hq : q < 15 ∨ (51 < q ∧ q < 80)) (hw : w < 12) : RV S' q w :=
  h.fr hf (scr_c (by omega) (by omega) (by omega) (by omega) (by omega) (by omega) (by omega) 0) (fun i => scr_c (by omega) (by omega) (by omega) (by omega) (by omega) (by omega) (by omega) i) (scr_91 hw) (fun i hi => scr_92 (by omega))
theorem RK_scr {S S' : am_S} (h : RK S) (hf : Fr scr S S') : RK S' :=
  ⟨fun f hf' => (h.1 f hf').fr hf (scr_c (by omega) (by omega) (by omega) (by omega) (by omega) (by omega) (by omega) 0) (fun i => scr_c (by omega) (by omega) (by omega) (by omega) (by omega) (by omega) (by omega) i), h.2.fr hf (fun i => scr_c (by omega) (by omega) (by omega) (by omega) (by omega) (by omega) (by omega) i) (fun i => scr_c (by omega) (by omega) (by omega) (by omega) (by omega) (by omega) (by omega) i)⟩
theorem RI_scr {S S' : am_S} (h : RI S) (hf : Fr scr S S') : RI S' := by
  unfold RI at h ⊢
  rw [hf 5 0 rfl, hf 5 1 rfl, hf 88 21 rfl, hf 88 22 rfl]
  rcases h with h | h
  · exact Or.inl h
  · exact Or.inr ⟨h.1, h.2.1, h.2.2.1, fun v hv => RV_scr (h.2.2.2 v hv) hf (by omega) (by omega)⟩
theorem RH_scr {S S' : am_S} {h : Nat} (hh : h < 4) (H : RH S h) (hf : Fr scr S S') : RH S' h := by
  unfold RH at H ⊢
  have e (i : Nat) : S' (68 + 3 * h) i = S (68 + 3 * h) i := hf _ _ (scr_c (by omega) (by omega) (by omega) (by omega) (by omega) (by omega) (by omega) i)
  rw [e, e, hf 102 h (scr_c (by omega) (by omega) (by omega) (by omega) (by omega) (by omega) (by omega) h), hf 103 h (scr_c (by omega) (by omega) (by omega) (by omega) (by omega) (by omega) (by omega) h)]
  rcases H with H | H | H
  · exact Or.inl H
  · exact Or.inr (Or.inl H)
  · exact Or.inr (Or.inr ⟨H.1, H.2.1, H.2.2.1, RV_scr H.2.2.2 hf (by omega) (by omega)⟩)
theorem RS_scr {S S' : am_S} {s : Nat} (hs : s < 4) (H : RS S s) (hf : Fr scr S S') : RS S' s := by
  unfold RS at H ⊢
  have e (c i : Nat) (h : 79 < c ∧ c < 88 ∨ 103 < c) : S' c i = S c i := hf _ _ (scr_c (by omega) (by omega) (by omega) (by omega) (by omega) (by omega) (by omega) i)
  rw [e _ 0 (by omega), e _ 1 (by omega), e 104 s (by omega), e 105 s (by omega)]
  exact ⟨H.1, H.2.1, H.2.2.1, H.2.2.2.1, fun i hi => by rw [e _ _ (by omega), e _ _ (by omega)]; exact H.2.2.2.2 i hi⟩
/-- where the two agree they go on to, if nothing but thoughts and drafts are otherwise -/
theorem R_scr {S S' : am_S} (h : R S) (hf : Fr scr S S') : R S' :=
  ⟨RK_scr h.1 hf, fun v hv => RV_scr (h.2.1 v hv) hf (by omega) (by omega), RI_scr h.2.2.1 hf, fun k hk => RH_scr hk (h.2.2.2.1 k hk) hf, fun k hk => RS_scr hk (h.2.2.2.2.1 k hk) hf, fun i hi => by rw [hf 15 i (scr_c (by omega) (by omega) (by omega) (by omega) (by omega) (by omega) (by omega) i), hf 95 i (scr_c (by omega) (by omega) (by omega) (by omega) (by omega) (by omega) (by omega) i)]; exact h.2.2.2.2.2.1 i hi, by rw [hf 0 11 rfl, hf 88 15 rfl]; exact h.2.2.2.2.2.2⟩
theorem kQf (S : am_S) {v : Nat} (h : v < 4) : am_aR (ws S) 1 (nI v) = some (52 + 2 * v) := by
  rcases (show v = 0 ∨ v = 1 ∨ v = 2 ∨ v = 3 by omega) with rfl | rfl | rfl | rfl
  · exact kQ1_0 S
  · exact kQ1_1 S
  · exact kQ1_2 S
  · exact kQ1_3 S
theorem kQv (S : am_S) {v : Nat} (h : v < 4) : am_aR (ws S) 2 (nI v) = some (60 + 2 * v) := by
  rcases (show v = 0 ∨ v = 1 ∨ v = 2 ∨ v = 3 by omega) with rfl | rfl | rfl | rfl
  · exact kQ2_0 S
  · exact kQ2_1 S
  · exact kQ2_2 S
  · exact kQ2_3 S
theorem kQh (S : am_S) {v : Nat} (h : v < 4) : am_aR (ws S) 3 (nI v) = some (68 + 3 * v) := by
  rcases (show v = 0 ∨ v = 1 ∨ v = 2 ∨ v = 3 by omega) with rfl | rfl | rfl | rfl
  · exact kQ3_0 S
  · exact kQ3_1 S
  · exact kQ3_2 S
  · exact kQ3_3 S
theorem kQs (S : am_S) {v : Nat} (h : v < 4) : am_aR (ws S) 4 (nI v) = some (80 + 2 * v) := by
  rcases (show v = 0 ∨ v = 1 ∨ v = 2 ∨ v = 3 by omega) with rfl | rfl | rfl | rfl
  · exact kQ4_0 S
  · exact kQ4_1 S
  · exact kQ4_2 S
  · exact kQ4_3 S
theorem kQk (S : am_S) {v : Nat} (h : v < 4) : am_aR (ws S) 6 (nI v) = some (7 + 2 * v) := by
  rcases (show v = 0 ∨ v = 1 ∨ v = 2 ∨ v = 3 by omega) with rfl | rfl | rfl | rfl
  · exact kQ6_0 S
  · exact kQ6_1 S
  · exact kQ6_2 S
  · exact kQ6_3 S
