/-! ===== the rank of columns ===== -/
theorem least_of {Q : Nat → Prop} : ∀ n, (∃ k, k < n ∧ Q k) → ∃ p, p < n ∧ Q p ∧ ∀ k, k < p → ¬ Q k := by
  intro n
  induction n with
  | zero => intro ⟨k, hk, _⟩; omega
  | succ n ih =>
    intro ⟨k, hk, hq⟩
    by_cases h : ∃ k, k < n ∧ Q k
    · obtain ⟨p, h1, h2⟩ := ih h
      exact ⟨p, by omega, h2⟩
    · have : k = n := by
        apply Classical.byContradiction
        intro c
        exact h ⟨k, by omega, hq⟩
      subst this
      exact ⟨k, by omega, hq, fun j hj hqj => h ⟨j, hj, hqj⟩⟩
/-- it stops nowhere, or somewhere first -/
theorem stop_or (f : Nat) (P : Nat → Bool) (e : Nat → vec) (v : vec) : (∀ k, k < 7 → P k = false → red f P e k v k = 0) ∨ ∃ p, p < 7 ∧ P p = false ∧ 0 < red f P e p v p ∧ ∀ k, k < p → P k = false → red f P e k v k = 0 := by
  by_cases h : ∃ k, k < 7 ∧ (P k = false ∧ 0 < red f P e k v k)
  · obtain ⟨p, h1, ⟨h2, h3⟩, h4⟩ := least_of 7 h
    exact Or.inr ⟨p, h1, h2, h3, fun k hk hp => Classical.byContradiction (fun c => h4 k hk ⟨hp, by omega⟩)⟩
  · exact Or.inl (fun k hk hp => Classical.byContradiction (fun c => h ⟨k, hk, hp, by omega⟩))
theorem cn_ext {P Q : Nat → Bool} {n : Nat} (h : ∀ i, i < n → P i = Q i) : wc_cn n P = wc_cn n Q := Nat.le_antisymm (cn_imp (fun i hi hp => by rw [← h i hi]; exact hp)) (cn_imp (fun i hi hp => by rw [h i hi]; exact hp))
theorem cn_up {P : Nat → Bool} {p : Nat} (hp : P p = false) : ∀ n, p < n → wc_cn n (updB P p true) = wc_cn n P + 1 := by
  intro n
  induction n with
  | zero => intro h; omega
  | succ n ih =>
    intro h
    rw [wc_cn_s, wc_cn_s]
    by_cases hpn : p = n
    · subst hpn
      have e1 : wc_cn p (updB P p true) = wc_cn p P := cn_ext (fun i hi => by unfold updB; rw [if_neg (by omega)])
      have e2 : updB P p true p = true := by unfold updB; rw [if_pos rfl]
      rw [e1, e2, hp, if_pos rfl, if_neg Bool.false_ne_true]
    · have e2 : updB P p true n = P n := by unfold updB; rw [if_neg (by omega)]
      rw [ih (by omega), e2]
      cases P n with
      | true => rw [if_pos rfl, if_pos rfl]
      | false => rw [if_neg Bool.false_ne_true, if_neg Bool.false_ne_true]
theorem isE_step {f s g : Nat} {col : Nat → vec} {P : Nat → Bool} {e : Nat → vec} (hf : f < 4) (hc : vdc f col) (h : isE f col s P e) (hg : g < 7) : ((∀ i, i < 7 → red f P e 7 (col g) i = 0) ∧ isE f col (s ||| 2 ^ g) P e) ∨ ∃ P' e', isE f col (s ||| 2 ^ g) P' e' ∧ wc_cn 7 P' = wc_cn 7 P + 1 := by
  rcases stop_or f P e (col g) with h1 | ⟨p, h1, h2, h3, h4⟩
  · have hz := red_none h.1 hf (hc g hg) h1
    exact Or.inl ⟨hz, isE_same h hg hz⟩
  · exact Or.inr ⟨_, _, isE_new hf hc h hg h1 h2 h3 h4, cn_up h2 7 h1⟩
theorem isE_ex {f : Nat} {col : Nat → vec} (hf : f < 4) (hc : vdc f col) : ∀ s, s < 2 ^ 7 → ∃ P e, isE f col s P e := by
  refine set_ind (P := fun s => ∃ P e, isE f col s P e) ⟨_, fun _ _ => 0, isE_0 f col _⟩ ?_
  intro s g _ hg _ ⟨P, e, h⟩
  rcases isE_step hf hc h hg with ⟨_, h1⟩ | ⟨P', e', h1, _⟩
  · exact ⟨P, e, h1⟩
  · exact ⟨P', e', h1⟩
noncomputable def rkf (f : Nat) (col : Nat → vec) (s : Nat) : Nat := @dite Nat (∃ P e, isE f col s P e) (Classical.propDecidable _) (fun h => wc_cn 7 h.choose) (fun _ => 0)
theorem rkf_eq {f s : Nat} {col : Nat → vec} {P : Nat → Bool} {e : Nat → vec} (hf : f < 4) (hc : vdc f col) (h : isE f col s P e) : rkf f col s = wc_cn 7 P := by
  unfold rkf
  have hx : ∃ P e, isE f col s P e := ⟨P, e, h⟩
  rw [dif_pos hx]
  obtain ⟨e', h'⟩ := hx.choose_spec
  exact isE_uniq hf hc h' h
theorem rkf_le {f s : Nat} {col : Nat → vec} : rkf f col s ≤ 7 := by
  unfold rkf
  split
  · exact wc_cn_le _ _
  · omega
theorem mat_rkf {f n : Nat} {col : Nat → vec} (hf : f < 4) (hc : vdc f col) (hn : n ≤ 7) : mat n (rkf f col) := by
  have h7 : ∀ s, s < 2 ^ n → s < 2 ^ 7 := fun s hs => Nat.lt_of_lt_of_le hs (p2_mono hn)
  refine ⟨?_, ?_, ?_⟩
  · rw [rkf_eq hf hc (isE_0 f col (fun _ _ => 0))]
    rfl
  · intro s g hs hg
    obtain ⟨P, e, h⟩ := isE_ex hf hc s (h7 s hs)
    rw [rkf_eq hf hc h]
    rcases isE_step hf hc h (show g < 7 by omega) with ⟨_, h1⟩ | ⟨P', e', h1, h2⟩
    · rw [rkf_eq hf hc h1]; omega
    · rw [rkf_eq hf hc h1]; omega
  · intro s g g' hs hg hg' e1 e2
    obtain ⟨P, e, h⟩ := isE_ex hf hc s (h7 s hs)
    rw [rkf_eq hf hc h] at e1 e2 ⊢
    rcases isE_step hf hc h (show g < 7 by omega) with ⟨z1, h1⟩ | ⟨P', e', h1, h2⟩
    · rcases isE_step hf hc h (show g' < 7 by omega) with ⟨z2, h3⟩ | ⟨P', e', h3, h4⟩
      · exact rkf_eq hf hc (isE_same h1 (show g' < 7 by omega) z2)
      · rw [rkf_eq hf hc h3] at e2; omega
    · rw [rkf_eq hf hc h1] at e1; omega
