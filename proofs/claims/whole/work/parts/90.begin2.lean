/-! ===== the world at first ===== -/
def S0 : am_S := fun c i => match am_g0[c]? with
  | some (.inl (_, _, .inl f)) => f i
  | some (.inr (_, fs)) => (match fs[i]? with
    | some (.int x) => x
    | some (.ref k) => nI k
    | some .null => -1
    | _ => 0)
  | _ => 0
def ckv : Option Value → Option (Nat × Nat) → Bool
  | some (.int _), some (0, _) => true
  | some (.ref y), some (1, z) => Nat.beq y z
  | some (.ref y), some (2, _) => Nat.blt y 1000
  | some (.ref y), some (3, _) => Nat.blt y 1000
  | some .null, some (3, _) => true
  | _, _ => false
def ckc (q : Nat × Nat × Nat × List (Nat × Nat)) : am_C → Bool
  | .inr (ci, fs) => Nat.beq q.1 0 && (Nat.beq ci q.2.1 && (Nat.beq fs.length q.2.2.2.length && (List.range fs.length).all (fun k => ckv fs[k]? q.2.2.2[k]?)))
  | .inl (t, n, .inl _) => Nat.beq q.1 1 && (Nat.beq t q.2.1 && Nat.beq n q.2.2.1)
  | .inl (t, n, .inr _) => Nat.beq q.1 2 && (Nat.beq t q.2.1 && Nat.beq n q.2.2.1)
set_option maxRecDepth 100000 in
theorem ckc_all : (List.range 107).all (fun c => match am_g0[c]?, kdl[c]? with
  | some e, some q => ckc q e
  | _, _ => false) = true := by decide +kernel
set_option maxRecDepth 100000 in
theorem s0_F : ∀ f, f < 4 → S0 (52 + 2 * f) 0 = nI (fsz f) ∧ ∀ b, b < fsz f → S0 (53 + 2 * f) b = nI (fin f b) := by decide +kernel
set_option maxRecDepth 100000 in
theorem s0_M : (∀ f, f < 4 → S0 89 f = nI (fsz f)) ∧ ∀ i, i < 16 → S0 90 i = nI (four i) := by decide +kernel
set_option maxRecDepth 100000 in
theorem s0_V : ∀ v, v < 4 → S0 (60 + 2 * v) 0 = nI 0 ∧ S0 (61 + 2 * v) 0 = nI 0 ∧ S0 91 v = nI 0 ∧ S0 92 (128 * v) = nI 0 := by decide +kernel
set_option maxRecDepth 100000 in
theorem s0_I : S0 5 0 = 0 ∧ S0 88 21 = 0 := by decide +kernel
set_option maxRecDepth 100000 in
theorem s0_H : ∀ h, h < 4 → S0 (68 + 3 * h) 0 < 0 ∧ S0 (68 + 3 * h) 1 = 0 ∧ S0 102 h = 0 := by decide +kernel
set_option maxRecDepth 100000 in
theorem s0_S : ∀ s, s < 4 → S0 (80 + 2 * s) 0 = S0 104 s ∧ S0 (80 + 2 * s) 1 = S0 105 s ∧ S0 104 s = -1 ∧ S0 105 s = nI 0 ∧ ∀ i, i < 64 → S0 (81 + 2 * s) i = S0 106 (64 * s + i) := by decide +kernel
set_option maxRecDepth 100000 in
theorem s0_C : (∀ i, i < 4 → S0 15 i = S0 95 i) ∧ S0 0 11 = S0 88 15 := by decide +kernel
