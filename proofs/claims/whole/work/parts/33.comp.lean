/-! ===== which piece of the state a number belongs to ===== -/
def comp (c i : Nat) : Nat :=
  if c < 5 then (if c = 0 ∧ i = 11 then 14 else 0)
  else if c < 15 then 15
  else if c = 15 then 13
  else if c < 52 then 16
  else if c < 60 then 0
  else if c < 68 then 1 + (c - 60) / 2
  else if c < 80 then 5 + (c - 68) / 3
  else if c < 88 then 9 + (c - 80) / 2
  else if c = 88 then (if i = 13 ∨ i = 14 then 16 else if i = 15 then 14 else if i = 21 ∨ i = 22 then 15 else 0)
  else if c < 91 then 0
  else if c = 91 then (if i < 4 then 1 + i else if i < 8 then 5 + (i - 4) else if i < 12 then 15 else 16)
  else if c = 92 then (if i < 512 then 1 + i / 128 else if i < 1024 then 5 + (i - 512) / 128 else if i < 1536 then 15 else 16)
  else if c < 95 then 16
  else if c = 95 then 13
  else if c < 102 then 16
  else if c < 104 then 5 + i
  else if c < 106 then 9 + i
  else 9 + i / 64
theorem comp_lo {c : Nat} (h : 52 ≤ c ∧ c < 60 ∨ c = 89 ∨ c = 90) (i : Nat) : comp c i = 0 := by
  rcases h with h | rfl | rfl
  · unfold comp; rw [if_neg (by omega), if_neg (by omega), if_neg (by omega), if_neg (by omega), if_pos (by omega)]
  · rfl
  · rfl
theorem comp_sc {c : Nat} (h : 16 ≤ c ∧ c < 52 ∨ c = 93 ∨ c = 94 ∨ 96 ≤ c ∧ c < 102) (i : Nat) : comp c i = 16 := by
  rcases h with h | rfl | rfl | h
  · unfold comp; rw [if_neg (by omega), if_neg (by omega), if_neg (by omega), if_pos (by omega)]
  · rfl
  · rfl
  · rcases (show c = 96 ∨ c = 97 ∨ c = 98 ∨ c = 99 ∨ c = 100 ∨ c = 101 by omega) with rfl | rfl | rfl | rfl | rfl | rfl <;> rfl
theorem comp_im {c : Nat} (h : 5 ≤ c ∧ c < 15) (i : Nat) : comp c i = 15 := by
  unfold comp; rw [if_neg (by omega), if_pos (by omega)]
theorem comp_v {c v : Nat} (hv : v < 4) (h : c = 60 + 2 * v ∨ c = 61 + 2 * v) (i : Nat) : comp c i = 1 + v := by
  unfold comp; rw [if_neg (by omega), if_neg (by omega), if_neg (by omega), if_neg (by omega), if_neg (by omega), if_pos (by omega)]; omega
theorem comp_h {c v : Nat} (hv : v < 4) (h : c = 68 + 3 * v ∨ c = 69 + 3 * v ∨ c = 70 + 3 * v) (i : Nat) : comp c i = 5 + v := by
  unfold comp; rw [if_neg (by omega), if_neg (by omega), if_neg (by omega), if_neg (by omega), if_neg (by omega), if_neg (by omega), if_pos (by omega)]; omega
theorem comp_s {c v : Nat} (hv : v < 4) (h : c = 80 + 2 * v ∨ c = 81 + 2 * v) (i : Nat) : comp c i = 9 + v := by
  unfold comp; rw [if_neg (by omega), if_neg (by omega), if_neg (by omega), if_neg (by omega), if_neg (by omega), if_neg (by omega), if_neg (by omega), if_pos (by omega)]; omega
/-- the piece of a row of the reference -/
def rowc (v : Nat) : Nat := if v < 4 then 1 + v else if v < 8 then 1 + v else if v < 12 then 15 else 16
theorem comp_91 (v : Nat) : comp 91 v = rowc v := by
  show (if v < 4 then 1 + v else if v < 8 then 5 + (v - 4) else if v < 12 then 15 else 16) = rowc v
  unfold rowc
  repeat' split
  all_goals omega
theorem comp_92 (v : Nat) {i : Nat} (h : i < 128) : comp 92 (128 * v + i) = rowc v := by
  show (if 128 * v + i < 512 then 1 + (128 * v + i) / 128 else if 128 * v + i < 1024 then 5 + (128 * v + i - 512) / 128 else if 128 * v + i < 1536 then 15 else 16) = rowc v
  unfold rowc
  repeat' split
  all_goals omega
theorem comp_102 (i : Nat) : comp 102 i = 5 + i := rfl
theorem comp_103 (i : Nat) : comp 103 i = 5 + i := rfl
theorem comp_104 (i : Nat) : comp 104 i = 9 + i := rfl
theorem comp_105 (i : Nat) : comp 105 i = 9 + i := rfl
theorem comp_106 (s : Nat) {i : Nat} (h : i < 64) : comp 106 (64 * s + i) = 9 + s := by
  show 9 + (64 * s + i) / 64 = 9 + s
  omega
def RC (k : Nat) (S : am_S) : Prop := if k = 0 then RK S else if k < 5 then RV S (60 + 2 * (k - 1)) (k - 1) else if k < 9 then RH S (k - 5) else if k < 13 then RS S (k - 9) else if k = 13 then (∀ i, i < 4 → S 15 i = S 95 i) else if k = 14 then S 0 11 = S 88 15 else RI S
theorem RC_v {v : Nat} (hv : v < 4) (S : am_S) : RC (1 + v) S = RV S (60 + 2 * v) v := by
  unfold RC; rw [if_neg (by omega), if_pos (by omega), show 1 + v - 1 = v by omega]
theorem RC_h {v : Nat} (hv : v < 4) (S : am_S) : RC (5 + v) S = RH S v := by
  unfold RC; rw [if_neg (by omega), if_neg (by omega), if_pos (by omega), show 5 + v - 5 = v by omega]
theorem RC_s {v : Nat} (hv : v < 4) (S : am_S) : RC (9 + v) S = RS S v := by
  unfold RC; rw [if_neg (by omega), if_neg (by omega), if_neg (by omega), if_pos (by omega), show 9 + v - 9 = v by omega]
theorem R_iff (S : am_S) : R S ↔ ∀ k, k < 16 → RC k S := by
  constructor
  · intro ⟨h0, h1, h2, h3, h4, h5, h6⟩ k hk
    by_cases c0 : k = 0
    · rw [c0]; exact h0
    by_cases c1 : k < 5
    · rw [show k = 1 + (k - 1) by omega, RC_v (by omega)]; exact h1 _ (by omega)
    by_cases c2 : k < 9
    · rw [show k = 5 + (k - 5) by omega, RC_h (by omega)]; exact h3 _ (by omega)
    by_cases c3 : k < 13
    · rw [show k = 9 + (k - 9) by omega, RC_s (by omega)]; exact h4 _ (by omega)
    rcases (show k = 13 ∨ k = 14 ∨ k = 15 by omega) with rfl | rfl | rfl
    · exact h5
    · exact h6
    · exact h2
  · intro h
    exact ⟨h 0 (by decide), fun v hv => by have := h (1 + v) (by omega); rwa [RC_v hv] at this, h 15 (by decide), fun v hv => by have := h (5 + v) (by omega); rwa [RC_h hv] at this, fun v hv => by have := h (9 + v) (by omega); rwa [RC_s hv] at this, h 13 (by decide), h 14 (by decide)⟩
/-- only pieces in K are otherwise -/
def Fk (K : Nat → Bool) (S S' : am_S) : Prop := Fr (fun c i => K (comp c i)) S S'
theorem Fk.at {K : Nat → Bool} {S S' : am_S} (h : Fk K S S') {c i k : Nat} (hc : comp c i = k) (hk : K k = false) : S' c i = S c i := h c i (by dsimp only; rw [hc]; exact hk)
theorem Fk.rf {K : Nat → Bool} {S : am_S} : Fk K S S := fun _ _ _ => rfl
theorem Fk.tr {K : Nat → Bool} {S S' S'' : am_S} (h1 : Fk K S S') (h2 : Fk K S' S'') : Fk K S S'' := Fr.tr h1 h2
theorem Fk.wk {K K' : Nat → Bool} {S S' : am_S} (h : Fk K S S') (hw : ∀ k, K' k = false → K k = false) : Fk K' S S' := fun c i h2 => h c i (hw _ h2)
theorem Fk_up {K : Nat → Bool} {S S' : am_S} (h : Fk K S S') {c i k : Nat} (x : Int32) (hc : comp c i = k) (hk : K k = true) : Fk K S (up S' c i x) := Fr_up h (by rw [hc]; exact hk)
theorem Fk_upA {K : Nat → Bool} {S S' : am_S} (h : Fk K S S') {c k : Nat} (f : Nat → Int32) (hc : ∀ i, comp c i = k) (hk : K k = true) : Fk K S (upA S' c f) := Fr_upA h (fun i hi => by rw [hc i, hk] at hi; cases hi)
theorem VC_k {K : Nat → Bool} {S S' : am_S} (hf : Fk K S S') {q n k : Nat} {ρ : Nat → Nat} (h : VC S q n ρ) (h0 : ∀ i, comp q i = k) (h1 : ∀ i, comp (q + 1) i = k) (hk : K k = false) : VC S' q n ρ :=
  h.fr hf (by rw [h0]; exact hk) (fun i => by rw [h1]; exact hk)
theorem VM_k {K : Nat → Bool} {S S' : am_S} (hf : Fk K S S') {v n : Nat} {ρ : Nat → Nat} (h : VM S v n ρ) (hk : K (rowc v) = false) : VM S' v n ρ :=
  h.fr hf (by rw [comp_91]; exact hk) (fun i hi => by rw [comp_92 v hi]; exact hk)
theorem RV_k {K : Nat → Bool} {S S' : am_S} (hf : Fk K S S') {q w k : Nat} (h : RV S q w) (h0 : ∀ i, comp q i = k) (h1 : ∀ i, comp (q + 1) i = k) (hk : K k = false) (hk2 : K (rowc w) = false) : RV S' q w := by
  obtain ⟨n, ρ, hm, hc, hM⟩ := h
  exact ⟨n, ρ, hm, VC_k hf hc h0 h1 hk, VM_k hf hM hk2⟩
theorem RK_k {K : Nat → Bool} {S S' : am_S} (hf : Fk K S S') (h : RK S) (hk : K 0 = false) : RK S' :=
  ⟨fun f hf' => (h.1 f hf').fr hf (by rw [comp_lo (by omega)]; exact hk) (fun i => by rw [comp_lo (by omega)]; exact hk), h.2.fr hf (fun i => by rw [comp_lo (by omega)]; exact hk) (fun i => by rw [comp_lo (by omega)]; exact hk)⟩
theorem RC_k {K : Nat → Bool} {S S' : am_S} (hf : Fk K S S') {k : Nat} (hk16 : k < 16) (h : RC k S) (hk : K k = false) : RC k S' := by
  by_cases c0 : k = 0
  · subst c0; exact RK_k hf h hk
  by_cases c1 : k < 5
  · obtain ⟨v, hv, rfl⟩ : ∃ v, v < 4 ∧ k = 1 + v := ⟨k - 1, by omega, by omega⟩
    rw [RC_v hv] at h ⊢
    exact RV_k hf h (comp_v hv (Or.inl rfl)) (comp_v hv (by omega)) hk (by unfold rowc; rw [if_pos hv]; exact hk)
  by_cases c2 : k < 9
  · obtain ⟨v, hv, rfl⟩ : ∃ v, v < 4 ∧ k = 5 + v := ⟨k - 5, by omega, by omega⟩
    rw [RC_h hv] at h ⊢
    unfold RH at h ⊢
    rw [hf.at (comp_h hv (Or.inl rfl) 0) hk, hf.at (comp_h hv (Or.inl rfl) 1) hk, hf.at (comp_102 v) hk, hf.at (comp_103 v) hk]
    rcases h with h | h | h
    · exact Or.inl h
    · exact Or.inr (Or.inl h)
    · exact Or.inr (Or.inr ⟨h.1, h.2.1, h.2.2.1, RV_k hf h.2.2.2 (comp_h hv (by omega)) (comp_h hv (by omega)) hk (by unfold rowc; rw [if_neg (by omega), if_pos (by omega), show 1 + (4 + v) = 5 + v by omega]; exact hk)⟩)
  by_cases c3 : k < 13
  · obtain ⟨v, hv, rfl⟩ : ∃ v, v < 4 ∧ k = 9 + v := ⟨k - 9, by omega, by omega⟩
    rw [RC_s hv] at h ⊢
    unfold RS at h ⊢
    rw [hf.at (comp_s hv (Or.inl rfl) 0) hk, hf.at (comp_s hv (Or.inl rfl) 1) hk, hf.at (comp_104 v) hk, hf.at (comp_105 v) hk]
    exact ⟨h.1, h.2.1, h.2.2.1, h.2.2.2.1, fun i hi => by rw [hf.at (comp_s hv (Or.inr rfl) i) hk, hf.at (comp_106 v hi) hk]; exact h.2.2.2.2 i hi⟩
  rcases (show k = 13 ∨ k = 14 ∨ k = 15 by omega) with rfl | rfl | rfl
  · intro i hi
    rw [hf.at (c := 15) (i := i) (k := 13) rfl hk, hf.at (c := 95) (i := i) (k := 13) rfl hk]
    exact h i hi
  · show S' 0 11 = S' 88 15
    rw [hf.at (c := 0) (i := 11) (k := 14) rfl hk, hf.at (c := 88) (i := 15) (k := 14) rfl hk]
    exact h
  · show RI S'
    have h : RI S := h
    unfold RI at h ⊢
    rw [hf.at (c := 5) (i := 0) (k := 15) rfl hk, hf.at (c := 5) (i := 1) (k := 15) rfl hk, hf.at (c := 88) (i := 21) (k := 15) rfl hk, hf.at (c := 88) (i := 22) (k := 15) rfl hk]
    rcases h with h | h
    · exact Or.inl h
    · exact Or.inr ⟨h.1, h.2.1, h.2.2.1, fun v hv => RV_k hf (h.2.2.2 v hv) (comp_im (by omega)) (comp_im (by omega)) hk (by unfold rowc; rw [if_neg (by omega), if_neg (by omega), if_pos (by omega)]; exact hk)⟩
theorem R_of {K : Nat → Bool} {S S' : am_S} (h : R S) (hf : Fk K S S') (hn : ∀ k, k < 16 → K k = true → RC k S') : R S' := by
  rw [R_iff] at h ⊢
  intro k hk
  cases hc : K k with
  | true => exact hn k hk hc
  | false => exact RC_k hf hk (h k hk) hc
/-- the thoughts alone -/
def Kt (k : Nat) : Bool := k == 16
/-- one piece, and the thoughts -/
def K1 (j k : Nat) : Bool := k == j || k == 16
theorem K1_j (j : Nat) : K1 j j = true := by unfold K1; simp
theorem K1_16 (j : Nat) : K1 j 16 = true := by unfold K1; simp
theorem K1_ne {j k : Nat} (h : k ≠ j) (h' : k ≠ 16) : K1 j k = false := by unfold K1; simp [h, h']
theorem Kt_ne {k : Nat} (h' : k ≠ 16) : Kt k = false := by unfold Kt; simp [h']
theorem Kt_K1 {j : Nat} {S S' : am_S} (h : Fk Kt S S') : Fk (K1 j) S S' := h.wk (fun k hk => by
  apply Kt_ne
  intro c
  rw [c, K1_16] at hk
  cases hk)
theorem R_t {S S' : am_S} (h : R S) (hf : Fk Kt S S') : R S' := R_of h hf (fun k hk hc => by
  have : k ≠ 16 := by omega
  rw [Kt_ne this] at hc
  cases hc)
theorem R_1 {S S' : am_S} {j : Nat} (h : R S) (hf : Fk (K1 j) S S') (hn : RC j S') : R S' := R_of h hf (fun k hk hc => by
  by_cases hj : k = j
  · rw [hj]; exact hn
  · rw [K1_ne hj (by omega)] at hc; cases hc)
