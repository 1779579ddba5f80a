/-! ===== twos; the cause in both ===== -/
def allin (n l : Nat) (b : Nat → Int32) : Prop := ∀ i, i < l → ∃ t, t < 2 ^ n ∧ b i = nI t ∧ pc t = pc (tn b 0)
theorem allin.at {n l i : Nat} {b : Nat → Int32} (h : allin n l b) (hn : n ≤ 7) (hi : i < l) : b i = nI (tn b i) ∧ tn b i < 2 ^ n ∧ tn b i < 128 ∧ pc (tn b i) = pc (tn b 0) := by
  obtain ⟨t, h1, h2, h3⟩ := h i hi
  have h7 := p2_128 hn h1
  have := tn_of h2 (by omega)
  rw [this]
  exact ⟨h2, h1, h7, h3⟩
theorem c_twos (d : Nat) {S : am_S} {s l n : Nat} {b : Nat → Int32} (hn : n ≤ 7) (hS : shC S s l b) (hin : allin n l b) (hT : ∀ u, u < 128 → S 16 u = bI (told l b u)) : (∀ q, tw1 n l (lck l b) l 0 = some q → am_cal am_mt (d + 4) jX0_findInTwos [.ref 15, .ref (80 + 2 * s), .int (nI n)] (ws S) = some (some (.int 1), ws (sayS S 15 (4, nI q.1, nI q.2.1, nI q.2.2)))) ∧ (tw1 n l (lck l b) l 0 = none → am_cal am_mt (d + 4) jX0_findInTwos [.ref 15, .ref (80 + 2 * s), .int (nI n)] (ws S) = some (some (.int 0), ws S)) := by
  have hl64 := hS.2.2.1
  have hlI : am_fI (ws S) (80 + 2 * s) 7 1 = some (nI l) := by rw [sI1 S hS.1, hS.2.1]
  have eloop : ∀ i j, i < l → j < l → ∀ k e, e + k = n → (∀ q, sr (lck l b i j) k e = some q → am_run true (am_cal am_mt (d + 3)) (am_lk tbX0_findInTwos) 25 [some (.ref 15), some (.ref (80 + 2 * s)), some (.int (nI n)), some (.int (nI i)), some (.int (nI j)), some (.int (nI e))] [] (ws S) = some (some (.int 1), ws (sayS S 15 (4, nI i, nI j, nI q)))) ∧ (sr (lck l b i j) k e = none → am_run true (am_cal am_mt (d + 3)) (am_lk tbX0_findInTwos) 25 [some (.ref 15), some (.ref (80 + 2 * s)), some (.int (nI n)), some (.int (nI i)), some (.int (nI j)), some (.int (nI e))] [] (ws S) = am_run true (am_cal am_mt (d + 3)) (am_lk tbX0_findInTwos) 13 [some (.ref 15), some (.ref (80 + 2 * s)), some (.int (nI n)), some (.int (nI i)), some (.int (nI (j + 1))), some (.int (nI n))] [] (ws S)) := by
    intro i j hi hj k
    obtain ⟨bi, _, ti, _⟩ := hin.at hn hi
    obtain ⟨bj, _, tj, _⟩ := hin.at hn hj
    induction k with
    | zero =>
      intro e he
      have : e = n := by omega
      subst this
      refine ⟨fun q hq => (by cases hq), fun _ => ?_⟩
      rw [eX0_findInTwos_25, if_pos (nI_le (Nat.le_refl _) (by omega)), nI_1]
    | succ k ih =>
      intro e he
      have hen : e < n := by omega
      have e0 : am_run true (am_cal am_mt (d + 3)) (am_lk tbX0_findInTwos) 25 [some (.ref 15), some (.ref (80 + 2 * s)), some (.int (nI n)), some (.int (nI i)), some (.int (nI j)), some (.int (nI e))] [] (ws S) = if bI (lck l b i j e) = 0 then am_run true (am_cal am_mt (d + 3)) (am_lk tbX0_findInTwos) 25 [some (.ref 15), some (.ref (80 + 2 * s)), some (.int (nI n)), some (.int (nI i)), some (.int (nI j)), some (.int (nI (e + 1)))] [] (ws S) else some (some (.int 1), ws (sayS S 15 (4, nI i, nI j, nI e))) := by
        rw [eX0_findInTwos_25, if_neg (nI_ge hen (by omega)), hS.nm _ hi, cI_some, wc_bind]
        dsimp only
        rw [hS.nm _ hj, cI_some, wc_bind, bi, bj]
        dsimp only
        rw [c_lacks _ hT ti tj (by omega), cI_some, wc_bind]
        dsimp only
        rw [c_say, cV_some, wc_bind, nI_1]
        rfl
      rw [e0]
      unfold sr
      cases hc : lck l b i j e with
      | false =>
        rw [if_pos bI_F, if_neg (by decide)]
        exact ih (e + 1) (by omega)
      | true =>
        rw [if_neg bI_T, if_pos rfl]
        exact ⟨fun q hq => (by cases hq; rfl), fun hq => (by cases hq)⟩
  have jloop : ∀ i, i < l → ∀ k j x5, j + k = l → (∀ q, tw2 n (lck l b i) k j = some q → am_run true (am_cal am_mt (d + 3)) (am_lk tbX0_findInTwos) 13 [some (.ref 15), some (.ref (80 + 2 * s)), some (.int (nI n)), some (.int (nI i)), some (.int (nI j)), x5] [] (ws S) = some (some (.int 1), ws (sayS S 15 (4, nI i, nI q.1, nI q.2)))) ∧ (tw2 n (lck l b i) k j = none → ∃ y4 y5, am_run true (am_cal am_mt (d + 3)) (am_lk tbX0_findInTwos) 13 [some (.ref 15), some (.ref (80 + 2 * s)), some (.int (nI n)), some (.int (nI i)), some (.int (nI j)), x5] [] (ws S) = am_run true (am_cal am_mt (d + 3)) (am_lk tbX0_findInTwos) 2 [some (.ref 15), some (.ref (80 + 2 * s)), some (.int (nI n)), some (.int (nI (i + 1))), y4, y5] [] (ws S)) := by
    intro i hi k
    induction k with
    | zero =>
      intro j x5 hj
      have : j = l := by omega
      subst this
      refine ⟨fun q hq => (by cases hq), fun _ => ⟨some (.int (nI j)), x5, ?_⟩⟩
      rw [eX0_findInTwos_13, hlI, wc_bind, if_pos (nI_le (Nat.le_refl _) (by omega)), nI_1]
    | succ k ih =>
      intro j x5 hj
      have hjl : j < l := by omega
      obtain ⟨g1, g2⟩ := eloop i j hi hjl n 0 (by omega)
      rw [eX0_findInTwos_13, hlI, wc_bind, if_neg (nI_ge hjl (by omega)), show (0 : Int32) = nI 0 from rfl]
      unfold tw2
      cases hq : sr (lck l b i j) n 0 with
      | some e =>
        dsimp only
        exact ⟨fun q hq2 => (by cases hq2; exact g1 e hq), fun hq2 => (by cases hq2)⟩
      | none =>
        dsimp only
        rw [g2 hq]
        exact ih (j + 1) _ (by omega)
  have iloop : ∀ k i x4 x5, i + k = l → (∀ q, tw1 n l (lck l b) k i = some q → am_run true (am_cal am_mt (d + 3)) (am_lk tbX0_findInTwos) 2 [some (.ref 15), some (.ref (80 + 2 * s)), some (.int (nI n)), some (.int (nI i)), x4, x5] [] (ws S) = some (some (.int 1), ws (sayS S 15 (4, nI q.1, nI q.2.1, nI q.2.2)))) ∧ (tw1 n l (lck l b) k i = none → am_run true (am_cal am_mt (d + 3)) (am_lk tbX0_findInTwos) 2 [some (.ref 15), some (.ref (80 + 2 * s)), some (.int (nI n)), some (.int (nI i)), x4, x5] [] (ws S) = some (some (.int 0), ws S)) := by
    intro k
    induction k with
    | zero =>
      intro i x4 x5 hi
      have : i = l := by omega
      subst this
      refine ⟨fun q hq => (by cases hq), fun _ => ?_⟩
      rw [eX0_findInTwos_2, hlI, wc_bind, if_pos (nI_le (Nat.le_refl _) (by omega))]
    | succ k ih =>
      intro i x4 x5 hi
      have hil : i < l := by omega
      obtain ⟨g1, g2⟩ := jloop i hil l 0 x5 (by omega)
      rw [eX0_findInTwos_2, hlI, wc_bind, if_neg (nI_ge hil (by omega)), show (0 : Int32) = nI 0 from rfl]
      unfold tw1
      cases hq : tw2 n (lck l b i) l 0 with
      | some e =>
        dsimp only
        exact ⟨fun q hq2 => (by cases hq2; exact g1 e hq), fun hq2 => (by cases hq2)⟩
      | none =>
        dsimp only
        obtain ⟨y4, y5, g3⟩ := g2 hq
        rw [g3]
        exact ih (i + 1) _ _ (by omega)
  obtain ⟨g1, g2⟩ := iloop l 0 none none (by omega)
  rw [eX0_findInTwos_0, kO15, if_T, show (0 : Int32) = nI 0 from rfl]
  exact ⟨g1, g2⟩
theorem cauV_some (q : Int32 × Int32 × Int32 × Int32) : cauV (some q) = q := rfl
theorem c_findIn (d : Nat) {S : am_S} {s l n : Nat} {b : Nat → Int32} (hn : n ≤ 7) (hS : shC S s l b) : ∃ S', am_cal am_mt (d + 5) jX0_findIn [.ref 15, .ref (80 + 2 * s), .int (nI n)] (ws S) = some (some (.int (bI (cau n l b).isSome)), ws S') ∧ Cr 15 16 S S' ∧ isC S' 15 (cauV (cau n l b)) ∧ (cau n l b = none → 0 < l ∧ allin n l b ∧ tw1 n l (lck l b) l 0 = none) := by
  have hc0 : Cr 15 16 S (sayS S 15 (0, -1, -1, -1)) := fun c h => sayS_ne (by omega)
  have hS0 := shC_Cr hS hc0
  rw [eX0_findIn_0, kO15, if_T, c_say, cV_some, wc_bind, sI1 _ hS0.1, wc_bind, hS0.2.1]
  have hl64 := hS.2.2.1
  by_cases h0 : l = 0
  · subst h0
    rw [if_pos nI_0, c_say, cV_some, wc_bind]
    exact ⟨_, rfl, hc0.tr (fun c h => sayS_ne (by omega)), sayS_is _ _ _, fun h => (by cases h)⟩
  · rw [if_neg (nI_ne0 (by omega) (by omega))]
    obtain ⟨S1, g1, g2, g3, g4⟩ := c_nums (d + 1) hn hS0 (show 0 < l by omega)
    rw [g1, cI_some, wc_bind]
    dsimp only
    unfold cau
    rw [if_neg h0]
    cases hq : nph n b l 0 with
    | some q =>
      dsimp only
      rw [Option.isSome_some, if_neg bI_T]
      exact ⟨S1, rfl, hc0.tr g2, g3 q hq, fun h => (by cases h)⟩
    | none =>
      dsimp only
      obtain ⟨k1, k2, k3⟩ := g4 hq
      have hS1 := shC_Cr hS0 g2
      obtain ⟨r1, r2⟩ := c_twos d hn hS1 k3 k2
      rw [Option.isSome_none, if_pos bI_F]
      cases ht : tw1 n l (lck l b) l 0 with
      | some q =>
        dsimp only
        rw [r1 q ht, cI_some, wc_bind, if_neg z10]
        dsimp only
        exact ⟨_, rfl, (hc0.tr g2).tr (fun c h => sayS_ne (by omega)), sayS_is _ _ _, fun h => (by cases h)⟩
      | none =>
        dsimp only
        rw [r2 ht, cI_some, wc_bind, if_pos z00]
        dsimp only
        refine ⟨S1, rfl, hc0.tr g2, ?_, fun _ => ⟨by omega, k3, rfl⟩⟩
        have := sayS_is S 15 (0, -1, -1, -1)
        unfold isC at this ⊢
        rw [k1]
        exact this
/-! the reference -/
def shM (S : am_S) (s l : Nat) (b : Nat → Int32) : Prop := s < 4 ∧ S 105 s = nI l ∧ l ≤ 64 ∧ ∀ i, i < 64 → S 106 (64 * s + i) = b i
theorem shM.l {S : am_S} {s l : Nat} {b : Nat → Int32} (h : shM S s l b) : am_aI (ws S) 105 0 (nI s) = some (nI l) := by rw [kA105 S h.1, h.2.1]
theorem shM.at {S : am_S} {s l i : Nat} {b : Nat → Int32} (h : shM S s l b) (hi : i < 64) : am_aI (ws S) 106 0 ((64 : Int32) * nI s + nI i) = some (b i) := by
  have := h.1
  rw [wc_row64, kA106 S (by omega), h.2.2.2 i hi]
theorem m_isTold (d : Nat) {S : am_S} {s l n u : Nat} {b : Nat → Int32} (hn : n ≤ 7) (hS : shM S s l b) (hin : allin n l b) (hu : u < 128) : am_cal am_mt (d + 1) jX11_isTold [.ref 88, .int (nI s), .int (nI u)] (ws S) = some (some (.int (bI (told l b u))), ws S) := by
  have hl64 := hS.2.2.1
  rw [eX11_isTold_0, kO88, if_T]
  have key : ∀ k, k ≤ l → am_run true (am_cal am_mt d) (am_lk tbX11_isTold) 5 [some (.ref 88), some (.int (nI s)), some (.int (nI u)), some (.int (0 : Int32)), some (.int (0 : Int32))] [] (ws S) = am_run true (am_cal am_mt d) (am_lk tbX11_isTold) 5 [some (.ref 88), some (.int (nI s)), some (.int (nI u)), some (.int (bI (told k b u))), some (.int (nI k))] [] (ws S) := by
    intro k
    induction k with
    | zero => intro _; rfl
    | succ k ih =>
      intro hk
      obtain ⟨bk, _, tk7, _⟩ := hin.at hn (show k < l by omega)
      rw [ih (by omega), told_s, eX11_isTold_5, kR88_19, wc_bind, hS.l, wc_bind, if_neg (nI_ge (by omega) (by omega)), kR88_20, wc_bind, hS.at (by omega), wc_bind, nI_1]
      cases told k b u with
      | true => rw [if_neg bI_T, Bool.true_or]; rfl
      | false =>
        rw [if_pos bI_F, Bool.false_or]
        by_cases hc : tn b k = u
        · rw [if_pos (by rw [bk, hc]), hc, beq_self_eq_true]; rfl
        · rw [if_neg (fun c => hc ((nI_eq (by omega) (by omega)).mp (bk.symm.trans c))), beq_eq_false_iff_ne.mpr hc]; rfl
  rw [key l (Nat.le_refl l), eX11_isTold_5, kR88_19, wc_bind, hS.l, wc_bind, if_pos (nI_le (Nat.le_refl _) (by omega)), if_pos (bI_01 _)]
theorem lck_n {n : Nat} {T : Nat → Bool} {t1 t2 e : Nat} (h2 : t2 < 2 ^ n) (hn : n ≤ 7) : lckT T t1 t2 e = (t1.testBit e && !t2.testBit e && wc_al n (fun f => !(t2.testBit f && !t1.testBit f && T (wc_an t1 (2 ^ e) ||| 2 ^ f)))) := by
  unfold lckT
  have : wc_al 7 (fun f => !(t2.testBit f && !t1.testBit f && T (wc_an t1 (2 ^ e) ||| 2 ^ f))) = wc_al n (fun f => !(t2.testBit f && !t1.testBit f && T (wc_an t1 (2 ^ e) ||| 2 ^ f))) := by
    rw [Bool.eq_iff_iff, wc_al_iff, wc_al_iff]
    constructor
    · intro h f hf; exact h f (by omega)
    · intro h f _
      rcases Nat.lt_or_ge f n with q | q
      · exact h f q
      · rw [Nat.testBit_lt_two_pow (Nat.lt_of_lt_of_le h2 (p2_mono q))]; rfl
  rw [this]
theorem dc0 : bI (decide (¬ (0 : Int32) ≤ 0)) = 0 := by decide
theorem dc1 : bI (decide (¬ (1 : Int32) ≤ 0)) = 1 := by decide
theorem dc2 : bI (decide (¬ (2 : Int32) ≤ 0)) = 1 := by decide
theorem dc3 : bI (decide (¬ (3 : Int32) ≤ 0)) = 1 := by decide
theorem dc4 : bI (decide (¬ (4 : Int32) ≤ 0)) = 1 := by decide
theorem m_hasCause (d : Nat) {S : am_S} {s l n : Nat} {b : Nat → Int32} (hn : n ≤ 7) (hS : shM S s l b) : ∃ S', am_cal am_mt (d + 3) jX11_hasCause [.ref 88, .int (nI s), .int (nI n)] (ws S) = some (some (.int (bI (cau n l b).isSome)), ws S') ∧ Cr 95 95 S S' ∧ isC S' 95 (cauV (cau n l b)) := by
  have hl64 := hS.2.2.1
  have h27 := p2_le hn
  have crS : ∀ q, Cr 95 95 S (sayS S 95 q) := fun q c h => sayS_ne (by omega)
  rw [eX11_hasCause_0, kO88, if_T, kR88_19, wc_bind, hS.l, wc_bind, m_isCause, cI_some, wc_bind]
  by_cases h0 : l = 0
  · subst h0
    rw [if_pos nI_0, if_pos (bI_01 _)]
    dsimp only
    rw [dc1]
    exact ⟨_, rfl, crS _, sayS_is _ _ _⟩
  rw [if_neg (nI_ne0 (by omega) (by omega))]
  unfold cau
  rw [if_neg h0]
  -- numbers
  have nums : ∀ k i x4, i + k = l → (∀ j, j < i → ∃ t, t < 2 ^ n ∧ b j = nI t ∧ pc t = pc (tn b 0)) → (∀ q, nph n b k i = some q → am_run true (am_cal am_mt (d + 2)) (am_lk tbX11_hasCause) 20 [some (.ref 88), some (.int (nI s)), some (.int (nI n)), some (.int (nI i)), x4, none, none, none, none, none] [] (ws S) = some (some (.int 1), ws (sayS S 95 (nI q.1, nI q.2, -1, -1)))) ∧ (nph n b k i = none → allin n l b ∧ ∃ y4, am_run true (am_cal am_mt (d + 2)) (am_lk tbX11_hasCause) 20 [some (.ref 88), some (.int (nI s)), some (.int (nI n)), some (.int (nI i)), x4, none, none, none, none, none] [] (ws S) = am_run true (am_cal am_mt (d + 2)) (am_lk tbX11_hasCause) 103 [some (.ref 88), some (.int (nI s)), some (.int (nI n)), some (.int (nI 0)), y4, none, none, none, none, none] [] (ws S)) := by
    intro k
    induction k with
    | zero =>
      intro i x4 hi hin
      have : i = l := by omega
      subst this
      refine ⟨fun q hq => (by cases hq), fun _ => ⟨hin, x4, ?_⟩⟩
      rw [eX11_hasCause_20, kR88_19, wc_bind, hS.l, wc_bind, if_pos (nI_le (Nat.le_refl _) (by omega))]
      rfl
    | succ k ih =>
      intro i x4 hi hin
      have hil : i < l := by omega
      have h64 : (64 : Int32) * nI s = (64 : Int32) * nI s + nI 0 := by rw [nI_0, Int32.add_zero]
      have hb00 : am_aI (ws S) 106 0 ((64 : Int32) * nI s) = some (b 0) := by rw [h64, hS.at (by decide)]
      unfold nph
      rw [eX11_hasCause_20, kR88_19, wc_bind, hS.l, wc_bind, if_neg (nI_ge hil (by omega)), kR88_20, wc_bind, hS.at (by omega), wc_bind, wc_1shl (by omega), wc_allp, m_in _ _ (by omega), show 2 ^ n - 1 + 1 = 2 ^ n from Nat.sub_add_cancel Nat.one_le_two_pow, cI_some, wc_bind]
      dsimp only
      rcases inR_of (x := b i) (n := 2 ^ n) (by omega) with h2 | ⟨t, ht, hbt⟩
      · rw [h2, if_pos bI_F, if_pos rfl, m_isCause, cI_some, wc_bind, if_pos (bI_01 _)]
        dsimp only
        rw [dc2]
        exact ⟨fun q hq => (by cases hq; rfl), fun hq => (by cases hq)⟩
      · have ht7 := p2_128 hn ht
        have hin2 : inR (b i) (nI (2 ^ n)) = true := by rw [hbt]; exact inR_T ht (by omega)
        have htn : tn b i = t := tn_of hbt (by omega)
        have h0' : ∃ t0, t0 < 2 ^ n ∧ b 0 = nI t0 := by
          rcases Nat.eq_zero_or_pos i with hi0 | hi0
          · subst hi0; exact ⟨t, ht, hbt⟩
          · obtain ⟨t0, a, b', _⟩ := hin 0 hi0; exact ⟨t0, a, b'⟩
        obtain ⟨t0, ht0, hb0⟩ := h0'
        have ht07 := p2_128 hn ht0
        have htn0 : tn b 0 = t0 := tn_of hb0 (by omega)
        have p1 := pc_le t
        have p2 := pc_le t0
        rw [hin2, if_neg bI_T, if_neg (show ¬ true = false by decide), hbt, m_bits _ ht7, cI_some, wc_bind, kR88_20, wc_bind]
        dsimp only
        rw [hb00, wc_bind, hb0, m_bits _ ht07, cI_some, wc_bind, htn, htn0]
        dsimp only
        by_cases hp : pc t = pc t0
        · rw [if_pos (congrArg nI hp), if_pos hp, nI_1]
          refine ih (i + 1) _ (by omega) (fun j hj => ?_)
          by_cases hji : j = i
          · rw [hji]; exact ⟨t, ht, hbt, by rw [htn0]; exact hp⟩
          · exact hin j (by omega)
        · rw [if_neg (fun c => hp ((nI_eq (by omega) (by omega)).mp c)), if_neg hp, m_isCause, cI_some, wc_bind, if_pos (bI_01 _)]
          dsimp only
          rw [dc3]
          exact ⟨fun q hq => (by cases hq; rfl), fun hq => (by cases hq)⟩
  obtain ⟨n1, n2⟩ := nums l 0 none (by omega) (fun j hj => absurd hj (Nat.not_lt_zero j))
  rw [show (0 : Int32) = nI 0 from rfl]
  cases hq : nph n b l 0 with
  | some q =>
    dsimp only
    exact ⟨_, n1 q hq, crS _, sayS_is _ _ _⟩
  | none =>
    dsimp only
    obtain ⟨hin, y4, n3⟩ := n2 hq
    rw [n3]
    -- one element
    have xloop : ∀ i j e, i < l → j < l → e < n → ∀ y8 : Bool, y8 = !((tn b i).testBit e && !(tn b j).testBit e) → am_run true (am_cal am_mt (d + 2)) (am_lk tbX11_hasCause) 188 [some (.ref 88), some (.int (nI s)), some (.int (nI n)), some (.int (nI i)), some (.int (nI j)), some (.int (b i)), some (.int (b j)), some (.int (nI e)), some (.int (bI y8)), some (.int (nI 0))] [] (ws S) = if lck l b i j e = true then some (some (.int 1), ws (sayS S 95 (4, nI i, nI j, nI e))) else am_run true (am_cal am_mt (d + 2)) (am_lk tbX11_hasCause) 157 [some (.ref 88), some (.int (nI s)), some (.int (nI n)), some (.int (nI i)), some (.int (nI j)), some (.int (b i)), some (.int (b j)), some (.int (nI (e + 1))), some (.int (1 : Int32)), some (.int (nI n))] [] (ws S) := by
      intro i j e hi hj he y8 hy8
      obtain ⟨bi, ti2, ti, _⟩ := hin.at hn hi
      obtain ⟨bj, tj2, tj, _⟩ := hin.at hn hj
      refine loop_fd (fun f (a : Bool) => am_run true (am_cal am_mt (d + 2)) (am_lk tbX11_hasCause) 188 [some (.ref 88), some (.int (nI s)), some (.int (nI n)), some (.int (nI i)), some (.int (nI j)), some (.int (b i)), some (.int (b j)), some (.int (nI e)), some (.int (bI a)), some (.int (nI f))] [] (ws S)) (fun f a => a || ((tn b j).testBit f && !(tn b i).testBit f && told l b (wc_an (tn b i) (2 ^ e) ||| 2 ^ f))) n y8 ?_ ?_
      · intro f a hf
        show am_run _ _ _ _ _ _ _ = am_run _ _ _ _ _ _ _
        have hu : wc_an (tn b i) (2 ^ e) ||| 2 ^ f < 128 := p2_or (n := 7) (wc_an_lt ti) (by omega)
        have htf : (wc_an (tn b j) (tn b i)).testBit f = ((tn b j).testBit f && !(tn b i).testBit f) := wc_tan (by omega)
        have hlt : wc_an (tn b j) (tn b i) < 2 ^ 31 := wc_an_lt (by omega)
        rw [eX11_hasCause_188, if_neg (nI_ge hf (by omega)), nI_1, bi, bj, wc_anI, wc_1shl (by omega), wc_1shl (by omega), wc_anI, wc_or, m_has _ hlt (by omega), cI_some, wc_bind]
        dsimp only
        rw [m_isTold _ hn hS hin hu, cI_some, wc_bind, htf]
        dsimp only
        cases a with
        | true => rw [if_neg bI_T, Bool.true_or]; rfl
        | false =>
          rw [if_pos bI_F, Bool.false_or]
          cases hb2 : ((tn b j).testBit f && !(tn b i).testBit f) with
          | false => rw [if_pos bI_F, Bool.false_and]; rfl
          | true =>
            rw [if_neg bI_T, Bool.true_and]
            cases told l b (wc_an (tn b i) (2 ^ e) ||| 2 ^ f) with
            | true => rw [if_neg bI_T]; rfl
            | false => rw [if_pos bI_F]; rfl
      · show am_run _ _ _ _ _ _ _ = _
        have hfd : wc_fd n (fun f a => a || ((tn b j).testBit f && !(tn b i).testBit f && told l b (wc_an (tn b i) (2 ^ e) ||| 2 ^ f))) y8 = !(lck l b i j e) := by
          have gen : ∀ k, wc_fd k (fun f a => a || ((tn b j).testBit f && !(tn b i).testBit f && told l b (wc_an (tn b i) (2 ^ e) ||| 2 ^ f))) y8 = (y8 || !wc_al k (fun f => !((tn b j).testBit f && !(tn b i).testBit f && told l b (wc_an (tn b i) (2 ^ e) ||| 2 ^ f)))) := by
            intro k
            induction k with
            | zero => rw [wc_fd_0]; show y8 = (y8 || !true); cases y8 <;> rfl
            | succ k ih => rw [wc_fd_s, ih, wc_al_s]; cases y8 <;> cases wc_al k (fun f => !((tn b j).testBit f && !(tn b i).testBit f && told l b (wc_an (tn b i) (2 ^ e) ||| 2 ^ f))) <;> simp
          rw [gen, hy8]
          unfold lck
          rw [lck_n tj2 hn]
          cases ((tn b i).testBit e && !(tn b j).testBit e) <;> cases wc_al n (fun f => !((tn b j).testBit f && !(tn b i).testBit f && told l b (wc_an (tn b i) (2 ^ e) ||| 2 ^ f))) <;> rfl
        rw [hfd, eX11_hasCause_188, if_pos (nI_le (Nat.le_refl _) (by omega)), m_isCause, cI_some, wc_bind, if_pos (bI_01 _), nI_1]
        dsimp only
        rw [dc4]
        cases lck l b i j e with
        | true => rw [Bool.not_true, if_pos bI_F, if_pos rfl]
        | false => rw [Bool.not_false, if_neg bI_T, if_neg Bool.false_ne_true]; rfl
    have eloop : ∀ i j, i < l → j < l → ∀ k e x8 x9, e + k = n → (∀ q, sr (lck l b i j) k e = some q → am_run true (am_cal am_mt (d + 2)) (am_lk tbX11_hasCause) 157 [some (.ref 88), some (.int (nI s)), some (.int (nI n)), some (.int (nI i)), some (.int (nI j)), some (.int (b i)), some (.int (b j)), some (.int (nI e)), x8, x9] [] (ws S) = some (some (.int 1), ws (sayS S 95 (4, nI i, nI j, nI q)))) ∧ (sr (lck l b i j) k e = none → ∃ y8 y9, am_run true (am_cal am_mt (d + 2)) (am_lk tbX11_hasCause) 157 [some (.ref 88), some (.int (nI s)), some (.int (nI n)), some (.int (nI i)), some (.int (nI j)), some (.int (b i)), some (.int (b j)), some (.int (nI e)), x8, x9] [] (ws S) = am_run true (am_cal am_mt (d + 2)) (am_lk tbX11_hasCause) 116 [some (.ref 88), some (.int (nI s)), some (.int (nI n)), some (.int (nI i)), some (.int (nI (j + 1))), some (.int (b i)), some (.int (b j)), some (.int (nI n)), y8, y9] [] (ws S)) := by
      intro i j hi hj k
      obtain ⟨bi, ti2, ti, _⟩ := hin.at hn hi
      obtain ⟨bj, tj2, tj, _⟩ := hin.at hn hj
      induction k with
      | zero =>
        intro e x8 x9 he
        have : e = n := by omega
        subst this
        refine ⟨fun q hq => (by cases hq), fun _ => ⟨x8, x9, ?_⟩⟩
        rw [eX11_hasCause_157, if_pos (nI_le (Nat.le_refl _) (by omega)), nI_1]
      | succ k ih =>
        intro e x8 x9 he
        have hen : e < n := by omega
        have hlt : wc_an (tn b i) (tn b j) < 2 ^ 31 := wc_an_lt (by omega)
        have e0 : am_run true (am_cal am_mt (d + 2)) (am_lk tbX11_hasCause) 157 [some (.ref 88), some (.int (nI s)), some (.int (nI n)), some (.int (nI i)), some (.int (nI j)), some (.int (b i)), some (.int (b j)), some (.int (nI e)), x8, x9] [] (ws S) = if lck l b i j e = true then some (some (.int 1), ws (sayS S 95 (4, nI i, nI j, nI e))) else am_run true (am_cal am_mt (d + 2)) (am_lk tbX11_hasCause) 157 [some (.ref 88), some (.int (nI s)), some (.int (nI n)), some (.int (nI i)), some (.int (nI j)), some (.int (b i)), some (.int (b j)), some (.int (nI (e + 1))), some (.int (1 : Int32)), some (.int (nI n))] [] (ws S) := by
          have hbb : b i &&& (b j ^^^ (-1 : Int32)) = nI (wc_an (tn b i) (tn b j)) := by rw [bi, bj, wc_anI]
          have htb : (wc_an (tn b i) (tn b j)).testBit e = ((tn b i).testBit e && !(tn b j).testBit e) := wc_tan (by omega)
          rw [eX11_hasCause_157, if_neg (nI_ge hen (by omega)), hbb, m_has _ hlt (by omega), cI_some, wc_bind, htb]
          dsimp only
          cases hb2 : ((tn b i).testBit e && !(tn b j).testBit e) with
          | false => rw [if_pos bI_F]; exact xloop i j e hi hj hen true (by rw [hb2]; rfl)
          | true => rw [if_neg bI_T]; exact xloop i j e hi hj hen false (by rw [hb2]; rfl)
        rw [e0]
        unfold sr
        cases hc : lck l b i j e with
        | false =>
          rw [if_neg Bool.false_ne_true, if_neg Bool.false_ne_true]
          exact ih (e + 1) _ _ (by omega)
        | true =>
          rw [if_pos rfl, if_pos rfl]
          exact ⟨fun q hq => (by cases hq; rfl), fun hq => (by cases hq)⟩
    have jloop : ∀ i, i < l → ∀ k j x5 x6 x7 x8 x9, j + k = l → (∀ q, tw2 n (lck l b i) k j = some q → am_run true (am_cal am_mt (d + 2)) (am_lk tbX11_hasCause) 116 [some (.ref 88), some (.int (nI s)), some (.int (nI n)), some (.int (nI i)), some (.int (nI j)), x5, x6, x7, x8, x9] [] (ws S) = some (some (.int 1), ws (sayS S 95 (4, nI i, nI q.1, nI q.2)))) ∧ (tw2 n (lck l b i) k j = none → ∃ y4 y5 y6 y7 y8 y9, am_run true (am_cal am_mt (d + 2)) (am_lk tbX11_hasCause) 116 [some (.ref 88), some (.int (nI s)), some (.int (nI n)), some (.int (nI i)), some (.int (nI j)), x5, x6, x7, x8, x9] [] (ws S) = am_run true (am_cal am_mt (d + 2)) (am_lk tbX11_hasCause) 103 [some (.ref 88), some (.int (nI s)), some (.int (nI n)), some (.int (nI (i + 1))), y4, y5, y6, y7, y8, y9] [] (ws S)) := by
      intro i hi k
      induction k with
      | zero =>
        intro j x5 x6 x7 x8 x9 hj
        have : j = l := by omega
        subst this
        refine ⟨fun q hq => (by cases hq), fun _ => ⟨some (.int (nI j)), x5, x6, x7, x8, x9, ?_⟩⟩
        rw [eX11_hasCause_116, kR88_19, wc_bind, hS.l, wc_bind, if_pos (nI_le (Nat.le_refl _) (by omega)), nI_1]
      | succ k ih =>
        intro j x5 x6 x7 x8 x9 hj
        have hjl : j < l := by omega
        obtain ⟨g1, g2⟩ := eloop i j hi hjl n 0 x8 x9 (by omega)
        rw [eX11_hasCause_116, kR88_19, wc_bind, hS.l, wc_bind, if_neg (nI_ge hjl (by omega)), kR88_20, wc_bind, hS.at (by omega), wc_bind, wc_bind, hS.at (by omega), wc_bind, show (0 : Int32) = nI 0 from rfl]
        unfold tw2
        cases hq : sr (lck l b i j) n 0 with
        | some e =>
          dsimp only
          exact ⟨fun q hq2 => (by cases hq2; exact g1 e hq), fun hq2 => (by cases hq2)⟩
        | none =>
          dsimp only
          obtain ⟨y8, y9, g3⟩ := g2 hq
          rw [g3]
          exact ih (j + 1) _ _ _ _ _ (by omega)
    have iloop : ∀ k i x4 x5 x6 x7 x8 x9, i + k = l → (∀ q, tw1 n l (lck l b) k i = some q → am_run true (am_cal am_mt (d + 2)) (am_lk tbX11_hasCause) 103 [some (.ref 88), some (.int (nI s)), some (.int (nI n)), some (.int (nI i)), x4, x5, x6, x7, x8, x9] [] (ws S) = some (some (.int 1), ws (sayS S 95 (4, nI q.1, nI q.2.1, nI q.2.2)))) ∧ (tw1 n l (lck l b) k i = none → am_run true (am_cal am_mt (d + 2)) (am_lk tbX11_hasCause) 103 [some (.ref 88), some (.int (nI s)), some (.int (nI n)), some (.int (nI i)), x4, x5, x6, x7, x8, x9] [] (ws S) = some (some (.int 0), ws (sayS S 95 (0, -1, -1, -1)))) := by
      intro k
      induction k with
      | zero =>
        intro i x4 x5 x6 x7 x8 x9 hi
        have : i = l := by omega
        subst this
        refine ⟨fun q hq => (by cases hq), fun _ => ?_⟩
        rw [eX11_hasCause_103, kR88_19, wc_bind, hS.l, wc_bind, if_pos (nI_le (Nat.le_refl _) (by omega)), m_isCause, cI_some, wc_bind, if_pos (bI_01 _)]
        dsimp only
        rw [dc0]
      | succ k ih =>
        intro i x4 x5 x6 x7 x8 x9 hi
        have hil : i < l := by omega
        obtain ⟨g1, g2⟩ := jloop i hil l 0 x5 x6 x7 x8 x9 (by omega)
        rw [eX11_hasCause_103, kR88_19, wc_bind, hS.l, wc_bind, if_neg (nI_ge hil (by omega)), show (0 : Int32) = nI 0 from rfl]
        unfold tw1
        cases hq : tw2 n (lck l b i) l 0 with
        | some e =>
          dsimp only
          exact ⟨fun q hq2 => (by cases hq2; exact g1 e hq), fun hq2 => (by cases hq2)⟩
        | none =>
          dsimp only
          obtain ⟨y4, y5, y6, y7, y8, y9, g3⟩ := g2 hq
          rw [g3]
          exact ih (i + 1) _ _ _ _ _ _ (by omega)
    obtain ⟨g1, g2⟩ := iloop l 0 y4 none none none none none (by omega)
    cases ht : tw1 n l (lck l b) l 0 with
    | some q =>
      dsimp only
      exact ⟨_, g1 q ht, crS _, sayS_is _ _ _⟩
    | none =>
      dsimp only
      exact ⟨_, g2 ht, crS _, sayS_is _ _ _⟩
