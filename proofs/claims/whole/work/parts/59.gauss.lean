/-! ===== the reference's ranks of columns: pure ===== -/
/-- rows of an elimination under way: coordinates before c are done, rows before k are an echelon -/
def GI (f : Nat) (col : Nat → vec) (s N : Nat) (r : Nat → vec) (k c : Nat) (P : Nat → Bool) (e : Nat → vec) : Prop := ec f P e ∧ (∀ p, c ≤ p → P p = false) ∧ wc_cn 7 P = k ∧ k ≤ N ∧ N ≤ 7 ∧ (∀ i, i < N → vd f (r i)) ∧ (∀ i, i < k → ∃ p, p < 7 ∧ P p = true ∧ ∀ j, j < 7 → r i j = e p j) ∧ (∀ p, p < 7 → P p = true → ∃ i, i < k ∧ ∀ j, j < 7 → r i j = e p j) ∧ (∀ i, k ≤ i → i < N → ∀ j, j < c → r i j = 0) ∧ ∀ W, sbs f W → ((∀ i, i < N → W (r i)) ↔ ∀ g, g < 7 → s.testBit g = true → W (col g))
theorem GI_end {f s N k : Nat} {col r : Nat → vec} {P : Nat → Bool} {e : Nat → vec} (hf : f < 4) (hc : vdc f col) (h : GI f col s N r k 7 P e) : rkf f col s = k := by
  obtain ⟨h1, h2, h3, h4, h5, h6, h7, h8, h9, h10⟩ := h
  rw [← h3]
  refine rkf_eq hf hc ⟨h1, fun g hg hb i hi => ?_, fun W hW hcol p hp7 hp => ?_⟩
  · have hk := sbs_ker h1 hf
    refine (((h10 _ hk).1 (fun i hi => ?_)) g hg hb).2 i hi
    by_cases hir : i < k
    · obtain ⟨p, hp7, hp, hpe⟩ := h7 i hir
      exact hk.1 (e p) (r i) (h1 p hp7 hp).2.2 (fun j hj => (hpe j hj).symm) ⟨(h1 p hp7 hp).2.2, red_self h1 hf hp7 hp⟩
    · exact hk.1 (fun _ => 0) (r i) (fun _ _ => f0 f) (fun j hj => (h9 i (by omega) hi j hj).symm) hk.2.1
  · obtain ⟨i, hi, hie⟩ := h8 p hp7 hp
    exact hW.1 (r i) (e p) (h6 i (by omega)) hie ((h10 W hW).2 hcol i (by omega))
theorem GI_none {f s N k c : Nat} {col r : Nat → vec} {P : Nat → Bool} {e : Nat → vec} (h : GI f col s N r k c P e) (hz : ∀ i, k ≤ i → i < N → r i c = 0) : GI f col s N r k (c + 1) P e := by
  obtain ⟨h1, h2, h3, h4, h5, h6, h7, h8, h9, h10⟩ := h
  refine ⟨h1, fun p hp => h2 p (by omega), h3, h4, h5, h6, h7, h8, fun i hi hN j hj => ?_, h10⟩
  by_cases hjc : j = c
  · rw [hjc]; exact hz i hi hN
  · exact h9 i hi hN j (by omega)
def swv (r : Nat → vec) (a b : Nat) : Nat → vec := fun i => if i = a then r b else if i = b then r a else r i
theorem swv_a (r : Nat → vec) (a b : Nat) : swv r a b a = r b := if_pos rfl
theorem swv_b (r : Nat → vec) (a b : Nat) : swv r a b b = r a := by
  unfold swv
  by_cases h : b = a
  · rw [if_pos h, h]
  · rw [if_neg h, if_pos rfl]
theorem swv_n {r : Nat → vec} {a b i : Nat} (h1 : i ≠ a) (h2 : i ≠ b) : swv r a b i = r i := by
  unfold swv
  rw [if_neg h1, if_neg h2]
theorem swv_all {r : Nat → vec} {a b N : Nat} {Q : vec → Prop} (ha : a < N) (hb : b < N) : (∀ i, i < N → Q (swv r a b i)) ↔ ∀ i, i < N → Q (r i) := by
  constructor
  · intro h i hi
    by_cases h1 : i = a
    · rw [h1, ← swv_b r a b]; exact h b hb
    · by_cases h2 : i = b
      · rw [h2, ← swv_a r a b]; exact h a ha
      · rw [← swv_n (r := r) h1 h2]; exact h i hi
  · intro h i hi
    by_cases h1 : i = a
    · rw [h1, swv_a]; exact h b hb
    · by_cases h2 : i = b
      · rw [h2, swv_b]; exact h a ha
      · rw [swv_n h1 h2]; exact h i hi
theorem GI_swap {f s N k c b : Nat} {col r : Nat → vec} {P : Nat → Bool} {e : Nat → vec} (h : GI f col s N r k c P e) (hk : k ≤ b) (hb : b < N) : GI f col s N (swv r b k) k c P e := by
  obtain ⟨h1, h2, h3, h4, h5, h6, h7, h8, h9, h10⟩ := h
  have hkN : k < N := by omega
  refine ⟨h1, h2, h3, h4, h5, (swv_all (Q := vd f) hb hkN).2 h6, fun i hi => ?_, fun p hp7 hp => ?_, fun i hi hN j hj => ?_, fun W hW => (swv_all hb hkN).trans (h10 W hW)⟩
  · rw [swv_n (by omega) (by omega)]; exact h7 i hi
  · obtain ⟨i, hi, hie⟩ := h8 p hp7 hp
    exact ⟨i, hi, by rw [swv_n (by omega) (by omega)]; exact hie⟩
  · by_cases hib : i = b
    · rw [hib, swv_a]; exact h9 k (Nat.le_refl k) hkN j hj
    · by_cases hik : i = k
      · rw [hik, swv_b]; exact h9 b hk hb j hj
      · rw [swv_n hib hik]; exact h9 i hi hN j hj
/-- row k taken off the rows after it, up to row t -/
def elv (f k c t : Nat) (r : Nat → vec) : Nat → vec := fun i => if k < i ∧ i < t then sbm f (r i) (fmu f (r i c) (fin f (r k c))) (r k) else r i
theorem elv_all {f s N k c : Nat} {col r : Nat → vec} {P : Nat → Bool} {e : Nat → vec} (hf : f < 4) (h : GI f col s N r k c P e) (hkN : k < N) (hc7 : c < 7) (hn : 0 < r k c) {W : vec → Prop} (hW : sbs f W) : (∀ i, i < N → W (elv f k c N r i)) ↔ ∀ i, i < N → W (r i) := by
  have h6 := h.2.2.2.2.2.1
  have hm : ∀ i, i < N → fmu f (r i c) (fin f (r k c)) < fsz f := fun i hi => (flt2 hf (h6 i hi c hc7) (flt2 hf (h6 k hkN c hc7) (f0 f)).2.2).2.1
  constructor
  · intro hw i hi
    have wk : W (r k) := by
      have := hw k hkN
      unfold elv at this
      rw [if_neg (by omega)] at this
      exact this
    have wi := hw i hi
    unfold elv at wi
    by_cases hki : k < i
    · rw [if_pos ⟨hki, hi⟩] at wi
      have hm0 := (flt2 hf (f0 f) (hm i hi)).1
      refine hW.1 _ _ (vd_sbm hf (vd_sbm hf (h6 i hi) (h6 k hkN) (hm i hi)) (h6 k hkN) hm0) (fun j hj => ?_) (hW.2.2 _ _ _ (vd_sbm hf (h6 i hi) (h6 k hkN) (hm i hi)) (h6 k hkN) hm0 wi wk)
      exact fx6 f hf _ (h6 i hi j hj) _ (hm i hi) _ (h6 k hkN j hj)
    · rw [if_neg (by omega)] at wi
      exact wi
  · intro hw i hi
    unfold elv
    by_cases hki : k < i
    · rw [if_pos ⟨hki, hi⟩]
      exact hW.2.2 _ _ _ (h6 i hi) (h6 k hkN) (hm i hi) (hw i hi) (hw k hkN)
    · rw [if_neg (by omega)]
      exact hw i hi
theorem GI_step {f s N k c : Nat} {col r : Nat → vec} {P : Nat → Bool} {e : Nat → vec} (hf : f < 4) (h : GI f col s N r k c P e) (hkN : k < N) (hc7 : c < 7) (hn : 0 < r k c) : GI f col s N (elv f k c N r) (k + 1) (c + 1) (updB P c true) (updE e c (r k)) := by
  have hel := fun W hW => elv_all (W := W) hf h hkN hc7 hn hW
  obtain ⟨h1, h2, h3, h4, h5, h6, h7, h8, h9, h10⟩ := h
  have hPc := h2 c (Nat.le_refl c)
  have lo : ∀ i, i < k + 1 → elv f k c N r i = r i := fun i hi => if_neg (by omega)
  have hm : ∀ i, i < N → fmu f (r i c) (fin f (r k c)) < fsz f := fun i hi => (flt2 hf (h6 i hi c hc7) (flt2 hf (h6 k hkN c hc7) (f0 f)).2.2).2.1
  refine ⟨fun p hp7 hp => ?_, fun p hp => ?_, ?_, by omega, h5, fun i hi => ?_, fun i hi => ?_, fun p hp7 hp => ?_, fun i hi hN j hj => ?_, fun W hW => (hel W hW).trans (h10 W hW)⟩
  · unfold updB at hp
    unfold updE
    by_cases hpc : p = c
    · rw [if_pos hpc, hpc]
      exact ⟨h9 k (Nat.le_refl k) hkN, hn, h6 k hkN⟩
    · rw [if_neg hpc] at hp ⊢
      exact h1 p hp7 hp
  · unfold updB; rw [if_neg (by omega)]; exact h2 p (by omega)
  · rw [cn_up hPc 7 hc7, h3]
  · unfold elv
    split
    · exact vd_sbm hf (h6 i hi) (h6 k hkN) (hm i hi)
    · exact h6 i hi
  · rw [lo i hi]
    by_cases hik : i = k
    · refine ⟨c, hc7, ?_, fun j hj => ?_⟩
      · unfold updB; rw [if_pos rfl]
      · unfold updE; rw [if_pos rfl, hik]
    · obtain ⟨p, a1, a2, a3⟩ := h7 i (by omega)
      have hpc : p ≠ c := fun x => by rw [x, hPc] at a2; cases a2
      refine ⟨p, a1, ?_, fun j hj => ?_⟩
      · unfold updB; rw [if_neg hpc]; exact a2
      · unfold updE; rw [if_neg hpc]; exact a3 j hj
  · unfold updB at hp
    unfold updE
    by_cases hpc : p = c
    · exact ⟨k, by omega, fun j hj => by rw [lo k (by omega), if_pos hpc]⟩
    · rw [if_neg hpc] at hp
      obtain ⟨i, a1, a2⟩ := h8 p hp7 hp
      exact ⟨i, by omega, fun j hj => by rw [lo i (by omega), if_neg hpc]; exact a2 j hj⟩
  · have z : ∀ x, k ≤ x → x < N → j ≠ c → r x j = 0 := fun x hx hxN hjc => h9 x hx hxN j (by omega)
    unfold elv
    rw [if_pos ⟨by omega, hN⟩]
    unfold sbm
    by_cases hjc : j = c
    · rw [hjc]; exact fx2 f hf _ (h6 i hN c hc7) _ (h6 k hkN c hc7) hn
    · rw [z i (by omega) hN hjc, z k (Nat.le_refl k) hkN hjc, (fx1 f hf _ (hm i hN)).2.2.1, (fx1 f hf _ (f0 f)).1]
/-- the rows that the columns of a set are at first -/
theorem GI_0 {f s N : Nat} {col r : Nat → vec} {e : Nat → vec} (hN : N ≤ 7) (hv : ∀ i, i < N → vd f (r i)) (hr : ∀ W, sbs f W → ((∀ i, i < N → W (r i)) ↔ ∀ g, g < 7 → s.testBit g = true → W (col g))) : GI f col s N r 0 0 (fun _ => false) e :=
  ⟨fun p _ hp => (by cases hp), fun _ _ => rfl, rfl, Nat.zero_le N, hN, hv, fun i hi => absurd hi (Nat.not_lt_zero i), fun p _ hp => (by cases hp), fun i _ _ j hj => absurd hj (Nat.not_lt_zero j), hr⟩
