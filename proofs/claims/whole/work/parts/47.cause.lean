/-! ===== the cause, in the class ===== -/
def tn (b : Nat → Int32) (i : Nat) : Nat := (b i).toNatClampNeg
theorem tn_of {b : Nat → Int32} {i t : Nat} (h : b i = nI t) (ht : t < 2 ^ 31) : tn b i = t := by unfold tn; rw [h, nI_clamp ht]
def nph (n : Nat) (b : Nat → Int32) : Nat → Nat → Option (Nat × Nat)
  | 0, _ => none
  | k + 1, i => if inR (b i) (nI (2 ^ n)) = false then some (2, i) else if pc (tn b i) = pc (tn b 0) then nph n b k (i + 1) else some (3, i)
def told (l : Nat) (b : Nat → Int32) (u : Nat) : Bool := !wc_al l (fun i => !(tn b i == u))
theorem told_s (l : Nat) (b : Nat → Int32) (u : Nat) : told (l + 1) b u = (told l b u || (tn b l == u)) := by
  unfold told
  rw [wc_al_s]
  cases wc_al l (fun i => !(tn b i == u)) <;> cases tn b l == u <;> rfl
def lckT (T : Nat → Bool) (t1 t2 e : Nat) : Bool := t1.testBit e && !t2.testBit e && wc_al 7 (fun f => !(t2.testBit f && !t1.testBit f && T (wc_an t1 (2 ^ e) ||| 2 ^ f)))
def sr (P : Nat → Bool) : Nat → Nat → Option Nat
  | 0, _ => none
  | k + 1, e => if P e then some e else sr P k (e + 1)
def tw2 (n : Nat) (L : Nat → Nat → Bool) : Nat → Nat → Option (Nat × Nat)
  | 0, _ => none
  | k + 1, j => match sr (L j) n 0 with
    | some e => some (j, e)
    | none => tw2 n L k (j + 1)
def tw1 (n l : Nat) (L : Nat → Nat → Nat → Bool) : Nat → Nat → Option (Nat × Nat × Nat)
  | 0, _ => none
  | k + 1, i => match tw2 n (L i) l 0 with
    | some q => some (i, q)
    | none => tw1 n l L k (i + 1)
def lck (l : Nat) (b : Nat → Int32) (i j e : Nat) : Bool := lckT (told l b) (tn b i) (tn b j) e
/-- sort, first, second, element -/
def cau (n l : Nat) (b : Nat → Int32) : Option (Int32 × Int32 × Int32 × Int32) :=
  if l = 0 then some (1, -1, -1, -1) else match nph n b l 0 with
    | some q => some (nI q.1, nI q.2, -1, -1)
    | none => match tw1 n l (lck l b) l 0 with
      | some q => some (4, nI q.1, nI q.2.1, nI q.2.2)
      | none => none
def cauV (o : Option (Int32 × Int32 × Int32 × Int32)) : Int32 × Int32 × Int32 × Int32 := o.getD (0, -1, -1, -1)
/-- c holds a cause -/
def isC (S : am_S) (c : Nat) (q : Int32 × Int32 × Int32 × Int32) : Prop := S c 0 = q.1 ∧ S c 1 = q.2.1 ∧ S c 2 = q.2.2.1 ∧ S c 3 = q.2.2.2
def sayS (S : am_S) (c : Nat) (q : Int32 × Int32 × Int32 × Int32) : am_S := up (up (up (up S c 0 q.1) c 1 q.2.1) c 2 q.2.2.1) c 3 q.2.2.2
theorem sayS_is (S : am_S) (c : Nat) (q : Int32 × Int32 × Int32 × Int32) : isC (sayS S c q) c q := by
  unfold sayS isC
  refine ⟨?_, ?_, ?_, up_self _ _ _ _⟩
  · rw [up_upd]; unfold upd; rw [if_neg (by decide), up_upd]; unfold upd; rw [if_neg (by decide), up_upd]; unfold upd; rw [if_neg (by decide)]; exact up_self _ _ _ _
  · rw [up_upd]; unfold upd; rw [if_neg (by decide), up_upd]; unfold upd; rw [if_neg (by decide)]; exact up_self _ _ _ _
  · rw [up_upd]; unfold upd; rw [if_neg (by decide)]; exact up_self _ _ _ _
theorem sayS_ne {S : am_S} {c c' : Nat} {q : Int32 × Int32 × Int32 × Int32} (h : c' ≠ c) : sayS S c q c' = S c' := by
  unfold sayS
  rw [up_ne c' h, up_ne c' h, up_ne c' h, up_ne c' h]
theorem c_say (d : Nat) (S : am_S) (a b c e : Int32) : am_cal am_mt (d + 1) jX0_say [.ref 15, .int a, .int b, .int c, .int e] (ws S) = some (none, ws (sayS S 15 (a, b, c, e))) := by
  rw [eX0_say_0, kO15, if_T, kS15_0, wc_bind, kS15_1, wc_bind, kS15_2, wc_bind, kS15_3, wc_bind]
  rfl
theorem m_isCause (d : Nat) (S : am_S) (a b c e : Int32) : am_cal am_mt (d + 1) jX11_isCause [.ref 88, .int a, .int b, .int c, .int e] (ws S) = some (some (.int (bI (decide (¬ a ≤ 0)))), ws (sayS S 95 (a, b, c, e))) := by
  rw [eX11_isCause_0, kO88, if_T, kR88_6, wc_bind, show (0 : Int32) = nI 0 from rfl, kW95 S (by decide), wc_bind, kR88_6, wc_bind, show (1 : Int32) = nI 1 from rfl, kW95 _ (by decide), wc_bind, kR88_6, wc_bind, show (2 : Int32) = nI 2 from rfl, kW95 _ (by decide), wc_bind, kR88_6, wc_bind, show (3 : Int32) = nI 3 from rfl, kW95 _ (by decide), wc_bind]
  by_cases h : a ≤ nI 0
  · rw [if_pos h, decide_eq_false (fun c => c h)]; rfl
  · rw [if_neg h, decide_eq_true h]; rfl
theorem and2_0 {w e : Nat} (hw : w < 2 ^ 31) (he : e < 31) : (nI w &&& nI (2 ^ e) = 0) ↔ w.testBit e = false := by
  rw [wc_and, show (0 : Int32) = nI 0 from rfl, nI_eq (Nat.lt_of_le_of_lt Nat.and_le_left hw) (by decide)]
  constructor
  · intro h
    have := congrArg (fun z => z.testBit e) h
    simpa [Nat.testBit_and, Nat.testBit_two_pow_self] using this
  · intro h
    apply Nat.eq_of_testBit_eq
    intro i
    rw [Nat.testBit_and, Nat.testBit_two_pow, Nat.zero_testBit]
    by_cases hi : e = i
    · subst hi; rw [h]; rfl
    · rw [decide_eq_false hi, Bool.and_false]
theorem c_lacks (d : Nat) {S : am_S} {T : Nat → Bool} {t1 t2 e : Nat} (hT : ∀ u, u < 128 → S 16 u = bI (T u)) (h1 : t1 < 128) (h2 : t2 < 128) (he : e < 7) : am_cal am_mt (d + 1) jX0_lacksOneFor [.ref 15, .int (nI e), .int (nI t1), .int (nI t2)] (ws S) = some (some (.int (bI (lckT T t1 t2 e))), ws S) := by
  have ha12 : wc_an t1 t2 < 2 ^ 31 := wc_an_lt (by omega)
  have ha21 : wc_an t2 t1 < 2 ^ 31 := wc_an_lt (by omega)
  rw [eX0_lacksOneFor_0, kO15, if_T, wc_anI, wc_1shl (by omega)]
  unfold lckT
  have htb : (wc_an t1 t2).testBit e = (t1.testBit e && !t2.testBit e) := wc_tan (by omega)
  cases hb : (t1.testBit e && !t2.testBit e) with
  | false => rw [if_pos ((and2_0 ha12 (by omega)).mpr (htb.trans hb))]; rfl
  | true =>
    rw [if_neg (fun c => by rw [(and2_0 ha12 (by omega)).mp c] at htb; rw [hb] at htb; cases htb), Bool.true_and]
    apply wp_pure
    refine loop_wp (fun f (_ : Unit) => am_run true (am_cal am_mt d) (am_lk tbX0_lacksOneFor) 17 [some (.ref 15), some (.int (nI e)), some (.int (nI t1)), some (.int (nI t2)), some (.int (nI f))] [] (ws S)) (fun f _ => ∀ j, j < f → (!(t2.testBit j && !t1.testBit j && T (wc_an t1 (2 ^ e) ||| 2 ^ j))) = true) _ 7 ?_ ?_ 0 () (Nat.zero_le _) (fun j hj => absurd hj (Nat.not_lt_zero j))
    · intro f _ hf hI K
      show wp (am_run _ _ _ _ _ _ _) _
      have K2 : (!(t2.testBit f && !t1.testBit f && T (wc_an t1 (2 ^ e) ||| 2 ^ f))) = true → wp (am_run true (am_cal am_mt d) (am_lk tbX0_lacksOneFor) 17 [some (.ref 15), some (.int (nI e)), some (.int (nI t1)), some (.int (nI t2)), some (.int (nI (f + 1)))] [] (ws S)) _ := fun hc => K () (fun j hj => by
        by_cases hjf : j = f
        · rw [hjf]; exact hc
        · exact hI j (by omega))
      have hu : wc_an t1 (2 ^ e) ||| 2 ^ f < 128 := p2_or (n := 7) (wc_an_lt h1) hf
      have htf : (wc_an t2 t1).testBit f = (t2.testBit f && !t1.testBit f) := wc_tan (by omega)
      rw [eX0_lacksOneFor_17, if_neg (show ¬ (7 : Int32) ≤ nI f from nI_ge (b := 7) hf (by decide)), wc_anI, wc_1shl (by omega), wc_1shl (by omega), kR15_4, wc_bind, wc_anI, wc_or, and127 hu, kA16 S hu, wc_bind, hT _ hu, nI_1]
      cases hb2 : (t2.testBit f && !t1.testBit f) with
      | false => rw [if_pos ((and2_0 ha21 (by omega)).mpr (htf.trans hb2))]; exact K2 (by rw [hb2]; rfl)
      | true =>
        rw [if_neg (fun c => by rw [(and2_0 ha21 (by omega)).mp c] at htf; rw [hb2] at htf; cases htf)]
        cases hc : T (wc_an t1 (2 ^ e) ||| 2 ^ f) with
        | false => rw [if_pos bI_F]; exact K2 (by rw [hc, Bool.and_false]; rfl)
        | true =>
          rw [if_neg bI_T, (wc_al_false _ _).mpr ⟨f, hf, by rw [hb2, hc]; rfl⟩]
          exact wp_ret ⟨rfl, rfl⟩
    · intro _ hI
      show wp (am_run _ _ _ _ _ _ _) _
      rw [eX0_lacksOneFor_17, if_pos (by decide), (wc_al_iff _ _).mpr hI]
      exact wp_ret ⟨rfl, rfl⟩
theorem nar0 : vp_nar .boolean (0 : Int32) = 0 := rfl
theorem nar1 : vp_nar .boolean (1 : Int32) = 1 := rfl
/-- what the class's numbers tell -/
def shC (S : am_S) (s l : Nat) (b : Nat → Int32) : Prop := s < 4 ∧ S (80 + 2 * s) 1 = nI l ∧ l ≤ 64 ∧ ∀ i, i < 64 → S (81 + 2 * s) i = b i
theorem shC_Cr {S S' : am_S} {s l : Nat} {b : Nat → Int32} (h : shC S s l b) (hc : Cr 15 16 S S') : shC S' s l b := by
  obtain ⟨h1, h2, h3, h4⟩ := h
  exact ⟨h1, by rw [hc _ (by omega)]; exact h2, h3, fun i hi => by rw [hc _ (by omega)]; exact h4 i hi⟩
theorem shC.nm (d : Nat) {S : am_S} {s l i : Nat} {b : Nat → Int32} (h : shC S s l b) (hi : i < l) : am_cal am_mt (d + 2) jX7_numberAt [.ref (80 + 2 * s), .int (nI i)] (ws S) = some (some (.int (b i)), ws S) := by
  have := h.2.2.1
  rw [c7_numberAt d S h.1 h.2.1 h.2.2.1 (by omega), if_pos hi, h.2.2.2 i (by omega)]
theorem c_nums (d : Nat) {S : am_S} {s l n : Nat} {b : Nat → Int32} (hn : n ≤ 7) (hS : shC S s l b) (hl : 0 < l) : ∃ S', am_cal am_mt (d + 3) jX0_findInNumbers [.ref 15, .ref (80 + 2 * s), .int (nI n)] (ws S) = some (some (.int (bI (nph n b l 0).isSome)), ws S') ∧ Cr 15 16 S S' ∧ (∀ q, nph n b l 0 = some q → isC S' 15 (nI q.1, nI q.2, -1, -1)) ∧ (nph n b l 0 = none → S' 15 = S 15 ∧ (∀ u, u < 128 → S' 16 u = bI (told l b u)) ∧ ∀ i, i < l → ∃ t, t < 2 ^ n ∧ b i = nI t ∧ pc t = pc (tn b 0)) := by
  have h27 := p2_le hn
  -- one by one
  have key : ∀ k i S1 x4, i + k = l → Cr 15 16 S S1 → S1 15 = S 15 → (∀ u, u < 128 → S1 16 u = bI (told i b u)) → (∀ j, j < i → ∃ t, t < 2 ^ n ∧ b j = nI t ∧ pc t = pc (tn b 0)) → ∃ S', am_run true (am_cal am_mt (d + 2)) (am_lk tbX0_findInNumbers) 24 [some (.ref 15), some (.ref (80 + 2 * s)), some (.int (nI n)), some (.int (nI i)), x4] [] (ws S1) = some (some (.int (bI (nph n b k i).isSome)), ws S') ∧ Cr 15 16 S S' ∧ (∀ q, nph n b k i = some q → isC S' 15 (nI q.1, nI q.2, -1, -1)) ∧ (nph n b k i = none → S' 15 = S 15 ∧ (∀ u, u < 128 → S' 16 u = bI (told l b u)) ∧ ∀ i, i < l → ∃ t, t < 2 ^ n ∧ b i = nI t ∧ pc t = pc (tn b 0)) := by
    intro k
    induction k with
    | zero =>
      intro i S1 x4 hi hc h15 h16 hin
      have : i = l := by omega
      subst this
      refine ⟨S1, ?_, hc, fun q hq => (by cases hq), fun _ => ⟨h15, h16, hin⟩⟩
      have hS1 := shC_Cr hS hc
      rw [eX0_findInNumbers_24, sI1 S1 hS1.1, wc_bind, hS1.2.1, if_pos (nI_le (Nat.le_refl _) (by have := hS1.2.2.1; omega))]
      rfl
    | succ k ih =>
      intro i S1 x4 hi hc h15 h16 hin
      have hS1 := shC_Cr hS hc
      have hl64 := hS1.2.2.1
      have hil : i < l := by omega
      have e0 : am_run true (am_cal am_mt (d + 2)) (am_lk tbX0_findInNumbers) 24 [some (.ref 15), some (.ref (80 + 2 * s)), some (.int (nI n)), some (.int (nI i)), x4] [] (ws S1) = if bI (inR (b i) (nI (2 ^ n))) = 0 then some (some (.int (1 : Int32)), ws (sayS S1 15 (2, nI i, -1, -1))) else (am_cI (am_cal am_mt (d + 2) jJ_bitCount [.int (b i)] (ws S1))).bind fun q5 => (am_cI (am_cal am_mt (d + 2) jX7_numberAt [.ref (80 + 2 * s), .int (0 : Int32)] q5.2)).bind fun q6 => (am_cI (am_cal am_mt (d + 2) jJ_bitCount [.int q6.1] q6.2)).bind fun q7 => if q5.1 = q7.1 then (am_fR q7.2 15 0 4).bind fun p8 => (am_sI q7.2 p8 1 (b i &&& (127 : Int32)) (vp_nar .boolean (1 : Int32))).bind fun g9 => am_run true (am_cal am_mt (d + 2)) (am_lk tbX0_findInNumbers) 24 [some (.ref 15), some (.ref (80 + 2 * s)), some (.int (nI n)), some (.int (nI i + (1 : Int32))), some (.int (b i))] [] g9 else (am_cV (am_cal am_mt (d + 2) jX0_say [.ref 15, .int (3 : Int32), .int (nI i), .int (-1 : Int32), .int (-1 : Int32)] q7.2)).bind fun q10 => some (some (.int (1 : Int32)), q10) := by
        rw [eX0_findInNumbers_24, sI1 S1 hS1.1, wc_bind, hS1.2.1, if_neg (nI_ge hil (by omega)), hS1.nm d hil, cI_some, wc_bind, wc_1shl (by omega), c_below, cI_some, wc_bind]
        dsimp only
        rw [c_say, cV_some, wc_bind]
      rw [e0]
      unfold nph
      rcases inR_of (x := b i) (n := 2 ^ n) (by omega) with h2 | ⟨t, ht, hbt⟩
      · rw [h2, if_pos bI_F, if_pos rfl]
        refine ⟨_, rfl, hc.tr (fun c h => sayS_ne (by omega)), fun q hq => ?_, fun hq => (by cases hq)⟩
        cases hq
        exact sayS_is S1 15 (2, nI i, -1, -1)
      · have ht7 := p2_128 hn ht
        have hin2 : inR (b i) (nI (2 ^ n)) = true := by rw [hbt]; exact inR_T ht (by omega)
        have htn : tn b i = t := tn_of hbt (by omega)
        have h0 : ∃ t0, t0 < 2 ^ n ∧ b 0 = nI t0 := by
          rcases Nat.eq_zero_or_pos i with hi0 | hi0
          · subst hi0; exact ⟨t, ht, hbt⟩
          · obtain ⟨t0, a, b', _⟩ := hin 0 hi0; exact ⟨t0, a, b'⟩
        obtain ⟨t0, ht0, hb0⟩ := h0
        have ht07 := p2_128 hn ht0
        have htn0 : tn b 0 = t0 := tn_of hb0 (by omega)
        have p1 := pc_le t
        have p2 := pc_le t0
        rw [hin2, if_neg bI_T, if_neg (show ¬ true = false by decide), hbt, J_bits _ ht7, cI_some, wc_bind, show (.int (0 : Int32) : Value) = .int (nI 0) from rfl, hS1.nm d hl, cI_some, wc_bind, hb0]
        dsimp only
        rw [J_bits _ ht07, cI_some, wc_bind, htn, htn0]
        by_cases hp : pc t = pc t0
        · rw [if_pos (congrArg nI hp), if_pos hp, kR15_4, wc_bind, and127 ht7, kW16 _ ht7, wc_bind, nar1, nI_1, ← htn0]
          refine ih (i + 1) (up S1 16 t 1) _ (by omega) (Cr_up hc (by decide) (by decide)) (by rw [up_ne 15 (by decide)]; exact h15) (fun u hu => ?_) (fun j hj => ?_)
          · rw [told_s, htn, up_upd]
            unfold upd
            by_cases hut : u = t
            · rw [if_pos hut, hut, beq_self_eq_true, Bool.or_true]; rfl
            · rw [if_neg hut, h16 u hu, beq_eq_false_iff_ne.mpr (fun c => hut c.symm), Bool.or_false]
          · by_cases hji : j = i
            · rw [hji]; exact ⟨t, ht, hbt, by rw [htn0]; exact hp⟩
            · exact hin j (by omega)
        · rw [if_neg (fun c => hp ((nI_eq (by omega) (by omega)).mp c)), if_neg hp, c_say, cV_some, wc_bind]
          refine ⟨_, rfl, hc.tr (fun c h => sayS_ne (by omega)), fun q hq => ?_, fun hq => (by cases hq)⟩
          cases hq
          exact sayS_is S1 15 (3, nI i, -1, -1)
  -- the table is cleared
  have clr : ∀ k, k ≤ 128 → ∃ S1, am_run true (am_cal am_mt (d + 2)) (am_lk tbX0_findInNumbers) 2 [some (.ref 15), some (.ref (80 + 2 * s)), some (.int (nI n)), some (.int (0 : Int32)), none] [] (ws S) = am_run true (am_cal am_mt (d + 2)) (am_lk tbX0_findInNumbers) 2 [some (.ref 15), some (.ref (80 + 2 * s)), some (.int (nI n)), some (.int (nI k)), none] [] (ws S1) ∧ Cr 16 16 S S1 ∧ ∀ u, u < k → S1 16 u = 0 := by
    intro k
    induction k with
    | zero => intro _; exact ⟨S, rfl, Cr.rf, fun u hu => absurd hu (Nat.not_lt_zero u)⟩
    | succ k ih =>
      intro hk
      obtain ⟨S1, g1, g2, g3⟩ := ih (by omega)
      refine ⟨up S1 16 k 0, g1.trans ?_, Cr_up g2 (by decide) (by decide), fun u hu => ?_⟩
      · rw [eX0_findInNumbers_2, if_neg (show ¬ (128 : Int32) ≤ nI k from nI_ge (b := 128) (by omega) (by decide)), kR15_4, wc_bind, kW16 S1 (by omega), wc_bind, nar0, nI_1]
      · rw [up_upd]; unfold upd
        by_cases huk : u = k
        · rw [if_pos huk]
        · rw [if_neg huk]; exact g3 u (by omega)
  obtain ⟨S1, g1, g2, g3⟩ := clr 128 (Nat.le_refl _)
  obtain ⟨S', r1, r2, r3, r4⟩ := key l 0 S1 none (by omega) (g2.wk (by decide) (by decide)) (g2 15 (by decide)) (fun u hu => g3 u hu) (fun j hj => absurd hj (Nat.not_lt_zero j))
  refine ⟨S', ?_, r2, r3, r4⟩
  rw [eX0_findInNumbers_0, kO15, if_T, g1, eX0_findInNumbers_2, if_pos (by decide)]
  exact r1
