/-! ===== told bases are a rank ===== -/
theorem pc_sub {a c : Nat} (ha : a < 128) (hc : c < 128) (h : a ||| c = c) : pc a ≤ pc c := by
  have := pc_an c hc a ha h
  omega
theorem pc_split {b s : Nat} (hb : b < 128) : pc (wc_an b s) + pc (b &&& s) = pc b := by
  have e : wc_an b s = wc_an b (b &&& s) := by
    apply Nat.eq_of_testBit_eq; intro i
    rw [wc_tan (by omega), wc_tan (by omega), Nat.testBit_and]
    cases b.testBit i <;> cases s.testBit i <;> rfl
  rw [e]
  exact pc_an b hb _ (Nat.lt_of_le_of_lt Nat.and_le_left hb) (by rw [and_or_l])
theorem pc_an1 : ∀ w, w < 128 → ∀ x, x < 7 → w.testBit x = true → pc (wc_an w (2 ^ x)) + 1 = pc w := by decide +kernel
theorem an_out {w x : Nat} (hw : w < 2 ^ 32) (h : w.testBit x = false) : wc_an w (2 ^ x) = w := by
  apply Nat.eq_of_testBit_eq; intro i
  rw [wc_tan hw, Nat.testBit_two_pow]
  by_cases hi : x = i
  · subst hi; rw [h]; rfl
  · rw [decide_eq_false hi]; simp
theorem pc_anx {w x : Nat} (hw : w < 128) (hx : x < 7) : pc (wc_an w (2 ^ x)) + (if w.testBit x then 1 else 0) = pc w := by
  cases h : w.testBit x with
  | true => rw [if_pos rfl]; exact pc_an1 w hw x hx h
  | false => rw [if_neg (by decide), an_out (by omega) h]; rfl
theorem ex_pc {b x y z : Nat} (hb : b < 128) (hx : x < 7) (hy : y < 7) (hxb : b.testBit x = true) (hyb : b.testBit y = false) : pc ((wc_an b (2 ^ x) ||| 2 ^ y) &&& z) + (if z.testBit x then 1 else 0) = pc (b &&& z) + (if z.testBit y then 1 else 0) := by
  have hxy : x ≠ y := fun c => by rw [c, hyb] at hxb; cases hxb
  have hbz : b &&& z < 128 := Nat.lt_of_le_of_lt Nat.and_le_left hb
  have e1 : wc_an b (2 ^ x) &&& z = wc_an (b &&& z) (2 ^ x) := by
    apply Nat.eq_of_testBit_eq; intro i
    rw [Nat.testBit_and, wc_tan (by omega), wc_tan (by omega), Nat.testBit_and]
    cases b.testBit i <;> cases z.testBit i <;> cases (2 ^ x).testBit i <;> rfl
  have h1 := pc_anx hbz hx
  rw [Nat.testBit_and, hxb, Bool.true_and] at h1
  have hw : wc_an (b &&& z) (2 ^ x) < 128 := wc_an_lt hbz
  cases hz : z.testBit y with
  | true =>
    have e2 : (wc_an b (2 ^ x) ||| 2 ^ y) &&& z = wc_an (b &&& z) (2 ^ x) ||| 2 ^ y := by
      rw [← e1]
      apply Nat.eq_of_testBit_eq; intro i
      rw [Nat.testBit_and, Nat.testBit_or, Nat.testBit_or, Nat.testBit_and, Nat.testBit_two_pow]
      by_cases hi : y = i
      · subst hi; rw [hz, decide_eq_true rfl]; simp
      · rw [decide_eq_false hi]; simp
    have h2 := pc_add1 _ hw y hy (by rw [wc_tan (by omega), Nat.testBit_and, hyb]; rfl)
    rw [e2, h2, if_pos rfl]
    omega
  | false =>
    have e2 : (wc_an b (2 ^ x) ||| 2 ^ y) &&& z = wc_an (b &&& z) (2 ^ x) := by
      rw [← e1]
      apply Nat.eq_of_testBit_eq; intro i
      rw [Nat.testBit_and, Nat.testBit_or, Nat.testBit_and, Nat.testBit_two_pow]
      by_cases hi : y = i
      · subst hi; rw [hz]; simp
      · rw [decide_eq_false hi]; simp
    rw [e2, if_neg Bool.false_ne_true]
    omega
theorem pc_and_or {b s e : Nat} (hb : b < 128) (he : e < 7) : pc (b &&& (s ||| 2 ^ e)) = pc (b &&& s) + (if b.testBit e && !s.testBit e then 1 else 0) := by
  have hbs : b &&& s < 128 := Nat.lt_of_le_of_lt Nat.and_le_left hb
  cases hbe : b.testBit e with
  | false =>
    rw [show b &&& (s ||| 2 ^ e) = b &&& s from by
      apply Nat.eq_of_testBit_eq; intro i
      rw [Nat.testBit_and, Nat.testBit_and, Nat.testBit_or, Nat.testBit_two_pow]
      by_cases hi : e = i
      · subst hi; rw [hbe]; rfl
      · rw [decide_eq_false hi, Bool.or_false]]
    rfl
  | true =>
    rw [show b &&& (s ||| 2 ^ e) = (b &&& s) ||| 2 ^ e from by
      apply Nat.eq_of_testBit_eq; intro i
      rw [Nat.testBit_and, Nat.testBit_or, Nat.testBit_or, Nat.testBit_and, Nat.testBit_two_pow]
      by_cases hi : e = i
      · subst hi; rw [hbe, decide_eq_true rfl]; simp
      · rw [decide_eq_false hi]; simp, pc_or1 hbs he, Nat.testBit_and, hbe]
    cases s.testBit e <;> rfl
def bsr (l : Nat) (t : Nat → Nat) (s : Nat) : Nat := wc_fd l (fun i m => if m < pc (t i &&& s) then pc (t i &&& s) else m) 0
theorem bsr_ok (t : Nat → Nat) (s : Nat) : ∀ l, (∀ i, i < l → pc (t i &&& s) ≤ bsr l t s) ∧ (0 < l → ∃ i, i < l ∧ bsr l t s = pc (t i &&& s)) := by
  intro l
  induction l with
  | zero => exact ⟨fun i hi => absurd hi (Nat.not_lt_zero i), fun h => absurd h (Nat.lt_irrefl 0)⟩
  | succ l ih =>
    have e : bsr (l + 1) t s = if bsr l t s < pc (t l &&& s) then pc (t l &&& s) else bsr l t s := wc_fd_s _ _ _
    rw [e]
    by_cases hc : bsr l t s < pc (t l &&& s)
    · rw [if_pos hc]
      refine ⟨fun i hi => ?_, fun _ => ⟨l, by omega, rfl⟩⟩
      by_cases hil : i = l
      · rw [hil]; exact Nat.le_refl _
      · have := ih.1 i (by omega); omega
    · rw [if_neg hc]
      refine ⟨fun i hi => ?_, fun _ => ?_⟩
      · by_cases hil : i = l
        · rw [hil]; omega
        · exact ih.1 i (by omega)
      · rcases Nat.eq_zero_or_pos l with h0 | h0
        · subst h0
          refine ⟨0, by omega, ?_⟩
          have : bsr 0 t s = 0 := rfl
          omega
        · obtain ⟨i, hi, h⟩ := ih.2 h0
          exact ⟨i, by omega, h⟩
theorem bsr_le (t : Nat → Nat) (s l : Nat) : bsr l t s ≤ 7 := by
  rcases Nat.eq_zero_or_pos l with h | h
  · subst h; exact Nat.zero_le _
  · obtain ⟨i, _, h⟩ := (bsr_ok t s l).2 h
    rw [h]; exact pc_le _
theorem mat_bsr {n l : Nat} {t : Nat → Nat} (hn : n ≤ 7) (hl : 0 < l) (ht : ∀ i, i < l → t i < 2 ^ n) (hk : ∀ i, i < l → pc (t i) = pc (t 0))
    (hx : ∀ i j e, i < l → j < l → e < n → (t i).testBit e = true → (t j).testBit e = false → ∃ f k, f < n ∧ k < l ∧ (t j).testBit f = true ∧ (t i).testBit f = false ∧ t k = wc_an (t i) (2 ^ e) ||| 2 ^ f) : mat n (bsr l t) := by
  have lo := fun s => (bsr_ok t s l).1
  have hi := fun s => (bsr_ok t s l).2 hl
  have t7 : ∀ i, i < l → t i < 128 := fun i h => p2_128 hn (ht i h)
  have po : ∀ i s e, i < l → e < n → pc (t i &&& (s ||| 2 ^ e)) = pc (t i &&& s) + (if (t i).testBit e && !s.testBit e then 1 else 0) := fun i s e h1 h2 => pc_and_or (t7 i h1) (by omega)
  refine ⟨?_, ?_, ?_⟩
  · obtain ⟨i, _, h⟩ := hi 0
    rw [h, Nat.and_zero]; decide
  · intro s e _ he
    constructor
    · obtain ⟨i, h1, h⟩ := hi s
      have := lo (s ||| 2 ^ e) i h1
      rw [po i s e h1 he] at this
      omega
    · obtain ⟨i, h1, h⟩ := hi (s ||| 2 ^ e)
      have := lo s i h1
      rw [h, po i s e h1 he]
      split <;> omega
  · intro s e f hs he hf g1 g2
    have up1 : bsr l t (s ||| 2 ^ e) ≤ bsr l t (s ||| 2 ^ e ||| 2 ^ f) := by
      obtain ⟨i, h1, h⟩ := hi (s ||| 2 ^ e)
      have := lo (s ||| 2 ^ e ||| 2 ^ f) i h1
      rw [po i _ f h1 hf] at this
      omega
    apply Classical.byContradiction
    intro hne
    obtain ⟨i, hil, hbi⟩ := hi (s ||| 2 ^ e ||| 2 ^ f)
    have a1 := lo (s ||| 2 ^ e) i hil
    have a2 := lo (s ||| 2 ^ f) i hil
    have b1 := po i (s ||| 2 ^ e) f hil hf
    have b2 := po i (s ||| 2 ^ f) e hil he
    rw [or_rc s (2 ^ f) (2 ^ e)] at b2
    have b3 := po i s e hil he
    have b4 := po i s f hil hf
    rw [Nat.testBit_or, Nat.testBit_two_pow] at b1 b2
    have hef : e ≠ f := by
      intro c
      rw [c, Nat.or_assoc, Nat.or_self] at hne
      rw [c] at g1
      exact hne g1
    rw [decide_eq_false hef, Bool.or_false] at b1
    rw [decide_eq_false (fun c => hef c.symm), Bool.or_false] at b2
    have cf : (t i).testBit f = true ∧ s.testBit f = false := by
      revert b1
      cases (t i).testBit f <;> cases s.testBit f <;> simp <;> omega
    have ce : (t i).testBit e = true ∧ s.testBit e = false := by
      revert b2
      cases (t i).testBit e <;> cases s.testBit e <;> simp <;> omega
    rw [cf.1, cf.2] at b1 b4
    rw [ce.1, ce.2] at b2 b3
    have b1 : pc (t i &&& (s ||| 2 ^ e ||| 2 ^ f)) = pc (t i &&& (s ||| 2 ^ e)) + 1 := b1
    have b3 : pc (t i &&& (s ||| 2 ^ e)) = pc (t i &&& s) + 1 := b3
    -- no base reaches s
    have key : ∀ m j, j < l → pc (t j &&& s) = bsr l t s → pc (t j &&& t i) + m = 8 → False := by
      intro m
      induction m with
      | zero => intro j _ _ h8; have := pc_le (t j &&& t i); omega
      | succ m ih =>
        intro j hj hjs hm
        have c1 := lo (s ||| 2 ^ e) j hj
        have c2 := lo (s ||| 2 ^ f) j hj
        have d1 := po j s e hj he
        have d2 := po j s f hj hf
        rw [ce.2] at d1
        rw [cf.2] at d2
        have je : (t j).testBit e = false := by
          revert d1; cases (t j).testBit e <;> simp <;> omega
        have jf : (t j).testBit f = false := by
          revert d2; cases (t j).testBit f <;> simp <;> omega
        -- some x of t j, neither in s nor in t i
        have hxx : ∃ x, x < n ∧ (t j).testBit x = true ∧ s.testBit x = false ∧ (t i).testBit x = false := by
          apply Classical.byContradiction
          intro hno
          have hsub : wc_an (t j) s ||| wc_an (t i) (s ||| 2 ^ e ||| 2 ^ f) = wc_an (t i) (s ||| 2 ^ e ||| 2 ^ f) := by
            apply Nat.eq_of_testBit_eq
            intro x
            rw [Nat.testBit_or, wc_tan (by have := t7 j hj; omega), wc_tan (by have := t7 i hil; omega), Nat.testBit_or, Nat.testBit_or, Nat.testBit_two_pow, Nat.testBit_two_pow]
            cases hjx : (t j).testBit x with
            | false => rfl
            | true =>
              have hxn := bit_lt (ht j hj) hjx
              have xe : ¬ e = x := fun c => by rw [← c, je] at hjx; cases hjx
              have xf : ¬ f = x := fun c => by rw [← c, jf] at hjx; cases hjx
              rw [decide_eq_false xe, decide_eq_false xf]
              cases hsx : s.testBit x with
              | true => rfl
              | false =>
                cases hix : (t i).testBit x with
                | true => rfl
                | false => exact absurd ⟨x, hxn, hjx, hsx, hix⟩ hno
          have p1 := pc_sub (wc_an_lt (t7 j hj)) (wc_an_lt (t7 i hil)) hsub
          have p2 := pc_split (s := s) (t7 j hj)
          have p3 := pc_split (s := s ||| 2 ^ e ||| 2 ^ f) (t7 i hil)
          have p4 := hk i hil
          have p5 := hk j hj
          omega
        obtain ⟨x, hxn, x1, x2, x3⟩ := hxx
        obtain ⟨y, k, hyn, hkl, y1, y2, y3⟩ := hx j i x hj hil hxn x1 x3
        have q1 := ex_pc (z := s) (t7 j hj) (show x < 7 by omega) (show y < 7 by omega) x1 y2
        have q2 := ex_pc (z := s ||| 2 ^ e) (t7 j hj) (show x < 7 by omega) (show y < 7 by omega) x1 y2
        have q3 := ex_pc (z := s ||| 2 ^ f) (t7 j hj) (show x < 7 by omega) (show y < 7 by omega) x1 y2
        have q4 := ex_pc (z := t i) (t7 j hj) (show x < 7 by omega) (show y < 7 by omega) x1 y2
        rw [← y3] at q1 q2 q3 q4
        have r1 := lo s k hkl
        have r2 := lo (s ||| 2 ^ e) k hkl
        have r3 := lo (s ||| 2 ^ f) k hkl
        have xe : ¬ e = x := fun c => by rw [← c, je] at x1; cases x1
        have xf : ¬ f = x := fun c => by rw [← c, jf] at x1; cases x1
        rw [x2] at q1
        rw [Nat.testBit_or, Nat.testBit_or, Nat.testBit_two_pow, Nat.testBit_two_pow, x2, decide_eq_false xe] at q2
        rw [Nat.testBit_or, Nat.testBit_or, Nat.testBit_two_pow, Nat.testBit_two_pow, x2, decide_eq_false xf] at q3
        rw [x3, y1] at q4
        rw [je] at d1
        rw [jf] at d2
        cases hsy : s.testBit y with
        | true => rw [hsy] at q1; simp at q1; omega
        | false =>
          rw [hsy] at q1 q2 q3
          by_cases ye : e = y
          · rw [decide_eq_true ye] at q2; simp at q2 d1; omega
          · by_cases yf : f = y
            · rw [decide_eq_true yf] at q3; simp at q3 d2; omega
            · simp at q1 q4
              exact ih k hkl (by omega) (by omega)
    obtain ⟨j, hj, hjs⟩ := hi s
    exact key (8 - pc (t j &&& t i)) j hj hjs.symm (by have := pc_le (t j &&& t i); omega)
