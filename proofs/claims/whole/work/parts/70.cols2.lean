/-! ===== what the ranks of columns rest on ===== -/
theorem isE_ext {f s : Nat} {col col' : Nat → vec} {P : Nat → Bool} {e : Nat → vec} (hc : vdc f col) (hx : ∀ g, g < 7 → s.testBit g = true → ∀ i, i < 7 → col g i = col' g i) (h : isE f col s P e) : isE f col' s P e := by
  refine ⟨h.1, fun g hg hs i hi => ?_, fun W hW hcw p hp7 hp => h.2.2 W hW (fun g hg hs => ?_) p hp7 hp⟩
  · rw [← red_ext (hx g hg hs) 7 (by omega) i hi]; exact h.2.1 g hg hs i hi
  · exact hW.1 _ _ (fun i hi => by rw [← hx g hg hs i hi]; exact hc g hg i hi) (fun i hi => (hx g hg hs i hi).symm) (hcw g hg hs)
theorem rkf_ext {f s : Nat} {col col' : Nat → vec} (hf : f < 4) (hc : vdc f col) (hc' : vdc f col') (hs : s < 2 ^ 7) (hx : ∀ g, g < 7 → s.testBit g = true → ∀ i, i < 7 → col g i = col' g i) : rkf f col s = rkf f col' s := by
  obtain ⟨P, e, h⟩ := isE_ex hf hc s hs
  rw [rkf_eq hf hc h, rkf_eq hf hc' (isE_ext hc hx h)]
theorem rkf_zero {f s g : Nat} {col : Nat → vec} (hf : f < 4) (hc : vdc f col) (hs : s < 2 ^ 7) (hg : g < 7) (hz : ∀ i, i < 7 → col g i = 0) : rkf f col (s ||| 2 ^ g) = rkf f col s := by
  obtain ⟨P, e, h⟩ := isE_ex hf hc s hs
  have h0 : ∀ i, i < 7 → red f P e 7 (col g) i = 0 := fun i hi => by rw [red_z h.1 hf (hc g hg) 7 (by omega) hz i hi]; exact hz i hi
  rw [rkf_eq hf hc (isE_same h hg h0), rkf_eq hf hc h]
theorem an_or {s e : Nat} (hs : s < 2 ^ 32) (hb : s.testBit e = true) : wc_an s (2 ^ e) ||| 2 ^ e = s := by
  apply Nat.eq_of_testBit_eq
  intro i
  rw [Nat.testBit_or, wc_tan hs, Nat.testBit_two_pow]
  by_cases h : e = i
  · subst h; simp [hb]
  · simp [h]
theorem rkf_lt {f s g n : Nat} {col : Nat → vec} (hf : f < 4) (hc : vdc f col) (hn : n ≤ 7) (hs : s < 2 ^ n) (hb : s.testBit g = true) (hz : ∀ i, i < 7 → col g i = 0) : rkf f col s < pc s := by
  have hs7 := p2_128 hn hs
  have hg : g < n := bit_lt hs hb
  have h1 := rkf_zero hf hc (s := wc_an s (2 ^ g)) (wc_an_lt hs7) (show g < 7 by omega) hz
  rw [an_or (by omega) hb] at h1
  have h2 := pc_an1 s hs7 g (by omega) hb
  have h3 := mat_pc (mat_rkf hf hc hn) hn (s := wc_an s (2 ^ g)) (wc_an_lt hs)
  omega
theorem row_lt : ∀ B, B < 128 → ∀ g, g < 7 → B.testBit g = true → pc (B % 2 ^ g) < pc B := by decide +kernel
theorem cn_below : ∀ k, k < 8 → wc_cn 7 (fun p => decide (p < k)) = k := by decide +kernel
theorem rkf_base {f B : Nat} {col : Nat → vec} (hf : f < 4) (hc : vdc f col) (hB : B < 128) (hcol : ∀ g, g < 7 → B.testBit g = true → ∀ i, i < 7 → col g i = if i = pc (B % 2 ^ g) then 1 else 0) : rkf f col B = pc B := by
  have hz := fsz_pos f
  have hp := pc_le B
  have hec : ec f (fun p => decide (p < pc B)) (fun p i => if i = p then 1 else 0) := by
    intro p _ _
    refine ⟨fun i hi => ?_, ?_, fun i _ => ?_⟩
    · dsimp only; rw [if_neg (by omega)]
    · dsimp only; rw [if_pos rfl]; decide
    · dsimp only; split <;> omega
  have h : isE f col B (fun p => decide (p < pc B)) (fun p i => if i = p then 1 else 0) := by
    refine ⟨hec, fun g hg hs i hi => ?_, fun W hW hcw p hp7 hpp => ?_⟩
    · have hr := row_lt B hB g hg hs
      rw [red_ext (w := (fun i => if i = pc (B % 2 ^ g) then 1 else 0)) (hcol g hg hs) 7 (by omega) i hi]
      exact red_self hec hf (p := pc (B % 2 ^ g)) (by omega) (decide_eq_true hr) i hi
    · obtain ⟨g, h1, h2, h3, _⟩ := nth_ok B hB p (of_decide_eq_true hpp)
      exact hW.1 _ _ (hc g h1) (fun i hi => by rw [hcol g h1 h2 i hi, h3]) (hcw g h1 h2)
  rw [rkf_eq hf hc h, cn_below (pc B) (by omega)]
theorem ex_base1 : ∀ B, B < 128 → ∀ c, c < 7 → (B.testBit c || wc_al 128 (fun j => !(2 ^ c ||| j == j) || (!(j ||| (2 ^ c ||| B) == 2 ^ c ||| B) || (!(pc j == pc B) || !wc_al 7 (fun e => !(B.testBit e && (wc_an B (2 ^ e) ||| 2 ^ c) == j)))))) = true := by decide +kernel
theorem ex_base {B c j : Nat} (hB : B < 128) (hc : c < 7) (hb : B.testBit c = false) (hj : j < 128) (h1 : 2 ^ c ||| j = j) (h2 : j ||| (2 ^ c ||| B) = 2 ^ c ||| B) (h3 : pc j = pc B) : wc_al 7 (fun e => !(B.testBit e && (wc_an B (2 ^ e) ||| 2 ^ c) == j)) = false := by
  have h := ex_base1 B hB c hc
  rw [hb, Bool.false_or, wc_al_iff] at h
  have h4 := h j hj
  rw [h1, h2, h3, beq_self_eq_true, beq_self_eq_true, beq_self_eq_true] at h4
  simpa using h4
/-- an element that can't stand instead of any is alone of rank 0 -/
theorem lop_0 {n B c : Nat} {ρ : Nat → Nat} (hm : mat n ρ) (hn : n ≤ 7) (hB : B < 2 ^ n) (hb : bas n ρ B = true) (hc : c < n) (hcB : B.testBit c = false) (hno : ∀ e, e < n → B.testBit e = true → bas n ρ (wc_an B (2 ^ e) ||| 2 ^ c) = false) : ρ (2 ^ c) = 0 := by
  have h1 := hm.2.1 0 c (Nat.two_pow_pos n) hc
  rw [Nat.zero_or, hm.1] at h1
  apply Classical.byContradiction
  intro h0
  have hc7 : c < 7 := by omega
  have hcn : 2 ^ c < 2 ^ n := p2_lt hc
  have hpc : ∀ c, c < 7 → pc (2 ^ c) = 1 := by decide +kernel
  obtain ⟨j, j1, j2, j3, j4, j5⟩ := mat_ext hm hn hcn (show ρ (2 ^ c) = pc (2 ^ c) by rw [hpc c hc7]; omega) B hB
  obtain ⟨b1, b2⟩ := bas_iff.mp hb
  have h2 := mat_sub hm hB (or_lt hcn hB) (by rw [Nat.or_comm, Nat.or_assoc, Nat.or_self])
  have h3 := mat_all hm (or_lt hcn hB)
  obtain ⟨e, e1, e2⟩ := (wc_al_false _ _).mp (ex_base (p2_128 hn hB) hc7 hcB (p2_128 hn j1) j2 j3 (by omega))
  rw [Bool.not_eq_false', Bool.and_eq_true, beq_iff_eq] at e2
  have h4 := hno e (bit_lt hB e2.1) e2.1
  rw [e2.2] at h4
  have h5 : bas n ρ j = true := bas_iff.mpr ⟨j4, by omega⟩
  rw [h5] at h4
  cases h4
theorem lop_lt {n c : Nat} {ρ : Nat → Nat} (hm : mat n ρ) (hn : n ≤ 7) (hc : c < n) (h0 : ρ (2 ^ c) = 0) {s : Nat} (hs : s < 2 ^ n) (hb : s.testBit c = true) : ρ s < pc s := by
  have hs7 := p2_128 hn hs
  have han : wc_an s (2 ^ c) < 2 ^ n := wc_an_lt hs
  have h1 := mat_cl hm (s := 0) (Nat.two_pow_pos n) hc (by rw [Nat.zero_or, h0, hm.1]) (wc_an s (2 ^ c)) han
  rw [Nat.zero_or, an_or (by omega) hb] at h1
  have h2 := pc_an1 s hs7 c (by omega) hb
  have h3 := mat_pc hm hn han
  omega
theorem most_of {Q : Nat → Prop} : ∀ n, (∃ k, k < n ∧ Q k) → ∃ p, p < n ∧ Q p ∧ ∀ k, p < k → k < n → ¬ Q k := by
  intro n
  induction n with
  | zero => intro ⟨k, hk, _⟩; omega
  | succ n ih =>
    intro ⟨k, hk, hq⟩
    by_cases h : Q n
    · exact ⟨n, by omega, h, fun k h1 h2 => by omega⟩
    · have hkn : k ≠ n := fun c => h (by rw [← c]; exact hq)
      obtain ⟨p, h1, h2, h3⟩ := ih ⟨k, by omega, hq⟩
      refine ⟨p, by omega, h2, fun x hx hx2 => ?_⟩
      by_cases hxn : x = n
      · rw [hxn]; exact h
      · exact h3 x hx (by omega)
theorem sub_eq : ∀ s, s < 128 → ∀ t, t < 128 → s ||| t = t → pc s = pc t → s = t := by decide +kernel
