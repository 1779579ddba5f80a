/-! ===== the world at first ===== -/
def S0 : am_S := fun c i => match am_g0[c]? with
  | some (.inl (_, _, .inl f)) => f i
  | some (.inr (_, fs)) => (match fs[i]? with
    | some (.int x) => x
    | some (.ref k) => nI k
    | some .null => -1
    | _ => 0)
  | _ => 0
def ckv : Option Value → Option (Nat × Nat) → Bool
  | some (.int _), some (0, _) => true
  | some (.ref y), some (1, z) => Nat.beq y z
  | some (.ref y), some (2, _) => Nat.blt y 1000
  | some (.ref y), some (3, _) => Nat.blt y 1000
  | some .null, some (3, _) => true
  | _, _ => false
def ckc (q : Nat × Nat × Nat × List (Nat × Nat)) : am_C → Bool
  | .inr (ci, fs) => Nat.beq q.1 0 && (Nat.beq ci q.2.1 && (Nat.beq fs.length q.2.2.2.length && (List.range fs.length).all (fun k => ckv fs[k]? q.2.2.2[k]?)))
  | .inl (t, n, .inl _) => Nat.beq q.1 1 && (Nat.beq t q.2.1 && Nat.beq n q.2.2.1)
  | .inl (t, n, .inr _) => Nat.beq q.1 2 && (Nat.beq t q.2.1 && Nat.beq n q.2.2.1)
set_option maxRecDepth 100000 in
theorem ckc_all : (List.range 107).all (fun c => match am_g0[c]?, kdl[c]? with
  | some e, some q => ckc q e
  | _, _ => false) = true := by decide +kernel
set_option maxRecDepth 100000 in
theorem s0_F : ∀ f, f < 4 → S0 (52 + 2 * f) 0 = nI (fsz f) ∧ ∀ b, b < fsz f → S0 (53 + 2 * f) b = nI (fin f b) := by decide +kernel
set_option maxRecDepth 100000 in
theorem s0_M : (∀ f, f < 4 → S0 89 f = nI (fsz f)) ∧ ∀ i, i < 16 → S0 90 i = nI (four i) := by decide +kernel
set_option maxRecDepth 100000 in
theorem s0_V : ∀ v, v < 4 → S0 (60 + 2 * v) 0 = nI 0 ∧ S0 (61 + 2 * v) 0 = nI 0 ∧ S0 91 v = nI 0 ∧ S0 92 (128 * v) = nI 0 := by decide +kernel
set_option maxRecDepth 100000 in
theorem s0_I : S0 5 0 = 0 ∧ S0 88 21 = 0 := by decide +kernel
set_option maxRecDepth 100000 in
theorem s0_H : ∀ h, h < 4 → S0 (68 + 3 * h) 0 < 0 ∧ S0 (68 + 3 * h) 1 = 0 ∧ S0 102 h = 0 := by decide +kernel
set_option maxRecDepth 100000 in
theorem s0_S : ∀ s, s < 4 → S0 (80 + 2 * s) 0 = S0 104 s ∧ S0 (80 + 2 * s) 1 = S0 105 s ∧ S0 104 s = -1 ∧ S0 105 s = nI 0 ∧ ∀ i, i < 64 → S0 (81 + 2 * s) i = S0 106 (64 * s + i) := by decide +kernel
set_option maxRecDepth 100000 in
theorem s0_C : (∀ i, i < 4 → S0 15 i = S0 95 i) ∧ S0 0 11 = S0 88 15 := by decide +kernel
theorem ckc_at {c : Nat} {e : am_C} {q : Nat × Nat × Nat × List (Nat × Nat)} (he : am_g0[c]? = some e) (hq : kdl[c]? = some q) (hc : c < 107) : ckc q e = true := by
  have h1 := List.all_eq_true.mp ckc_all c (List.mem_range.mpr hc)
  rw [he, hq] at h1
  exact h1
theorem ckv_ok {c k : Nat} {fs : List Value} {ci : Nat} (he : am_g0[c]? = some (.inr (ci, fs))) {fl : List (Nat × Nat)} {v : Value} {f : Nat × Nat} (hv : fs[k]? = some v) (hf : fl[k]? = some f) (h : ckv fs[k]? fl[k]? = true) : v = fv S0 c k f := by
  have hS : S0 c k = (match fs[k]? with
    | some (.int x) => x
    | some (.ref k) => nI k
    | some .null => -1
    | _ => 0) := by
    unfold S0
    rw [he]
  rw [hv] at hS
  rw [hv, hf] at h
  obtain ⟨a, y⟩ := f
  unfold fv
  dsimp only
  rw [hS]
  match v, a, h with
  | .int x, 0, _ => rfl
  | .ref z, 1, h => exact congrArg Value.ref (Nat.eq_of_beq_eq_true h)
  | .ref z, 2, h =>
    have hz : z < 1000 := Nat.le_of_ble_eq_true h
    dsimp only
    rw [nI_clamp (by omega)]
  | .ref z, 3, h =>
    have hz : z < 1000 := Nat.le_of_ble_eq_true h
    dsimp only
    rw [if_neg (nI_pos (by omega)), nI_clamp (by omega)]
  | .null, 3, _ => rfl
theorem g0_ws : am_g0 = ws S0 := by
  apply List.ext_getElem?
  intro c
  by_cases hc : c < 107
  · have hcg : c < am_g0.length := by rw [am_g0_len]; exact hc
    have hck : c < kdl.length := by rw [kdl_len]; exact hc
    obtain ⟨e, he⟩ : ∃ e, am_g0[c]? = some e := ⟨_, List.getElem?_eq_getElem hcg⟩
    obtain ⟨q, hq⟩ : ∃ q, kdl[c]? = some q := ⟨_, List.getElem?_eq_getElem hck⟩
    have hk := ckc_at he hq hc
    rw [he, ws_at hq]
    congr 1
    obtain ⟨a, b, z, fl⟩ := q
    rcases e with ⟨t, n, f | f⟩ | ⟨ci, fs⟩
    · unfold ckc at hk
      rw [Bool.and_eq_true, Bool.and_eq_true] at hk
      have h1 : a = 1 := Nat.eq_of_beq_eq_true hk.1
      have h2 : t = b := Nat.eq_of_beq_eq_true hk.2.1
      have h3 : n = z := Nat.eq_of_beq_eq_true hk.2.2
      subst h1 h2 h3
      have hS : S0 c = f := by
        funext i
        unfold S0
        rw [he]
      show (.inl (t, n, .inl f) : am_C) = .inl (t, n, .inl (S0 c))
      rw [hS]
    · unfold ckc at hk
      rw [Bool.and_eq_true, Bool.and_eq_true] at hk
      have h1 : a = 2 := Nat.eq_of_beq_eq_true hk.1
      have h2 : t = b := Nat.eq_of_beq_eq_true hk.2.1
      have h3 : n = z := Nat.eq_of_beq_eq_true hk.2.2
      subst h1 h2 h3
      have hS : gfn c = f := by
        unfold gfn
        rw [he]
      show (.inl (t, n, .inr f) : am_C) = .inl (t, n, .inr (gfn c))
      rw [hS]
    · unfold ckc at hk
      rw [Bool.and_eq_true, Bool.and_eq_true, Bool.and_eq_true] at hk
      have h1 : a = 0 := Nat.eq_of_beq_eq_true hk.1
      have h2 : ci = b := Nat.eq_of_beq_eq_true hk.2.1
      have h3 : fs.length = fl.length := Nat.eq_of_beq_eq_true hk.2.2.1
      subst h1 h2
      have hfs : fs = fl.mapIdx (fv S0 c) := by
        apply List.ext_getElem?
        intro k
        rw [List.getElem?_mapIdx]
        by_cases hkl : k < fs.length
        · obtain ⟨v, hv⟩ : ∃ v, fs[k]? = some v := ⟨_, List.getElem?_eq_getElem hkl⟩
          obtain ⟨f, hf⟩ : ∃ f, fl[k]? = some f := ⟨_, List.getElem?_eq_getElem (by rw [← h3]; exact hkl)⟩
          have h4 := List.all_eq_true.mp hk.2.2.2 k (List.mem_range.mpr hkl)
          rw [ckv_ok he hv hf h4] at hv
          rw [hv, hf]
          rfl
        · rw [List.getElem?_eq_none (by omega), List.getElem?_eq_none (by omega)]
          rfl
      show (.inr (ci, fs) : am_C) = .inr (ci, fl.mapIdx (fv S0 c))
      rw [← hfs]
  · rw [List.getElem?_eq_none (by rw [am_g0_len]; omega), List.getElem?_eq_none (by rw [ws_len]; omega)]
theorem kd_f {f : Nat} (hf : f < 4) : kdl[52 + 2 * f]? = some (0, 2, 0, [(0, 0), (1, 52 + 2 * f + 1)]) ∧ kdl[52 + 2 * f + 1]? = some (1, 0, 5, []) := by
  rcases (show f = 0 ∨ f = 1 ∨ f = 2 ∨ f = 3 by omega) with rfl | rfl | rfl | rfl <;> exact ⟨rfl, rfl⟩
theorem R_S0 : R S0 := by
  refine ⟨⟨fun f hf => ⟨(kd_f hf).1, (kd_f hf).2, hf, (s0_F f hf).1, fun b hb => ?_⟩, s0_M⟩, fun v hv => ?_, Or.inl s0_I, fun h hh => Or.inl (s0_H h hh), fun s hs => ?_, s0_C.1, s0_C.2⟩
  · have := (s0_F f hf).2 b hb
    rwa [show 53 + 2 * f = 52 + 2 * f + 1 by omega] at this
  · obtain ⟨h1, h2, h3, h4⟩ := s0_V v hv
    have hq := vq_v hv
    refine ⟨0, fun _ => 0, ⟨rfl, fun s e _ he => absurd he (Nat.not_lt_zero e), fun s e f _ he => absurd he (Nat.not_lt_zero e)⟩, ⟨hq.1, hq.2, by decide, h1, fun s hs => ?_⟩, ⟨by omega, by decide, h3, fun s hs => ?_⟩⟩
    · have : s = 0 := by omega
      subst this
      rw [show 60 + 2 * v + 1 = 61 + 2 * v by omega]
      exact ⟨h2, by decide⟩
    · have : s = 0 := by omega
      subst this
      exact ⟨h4, by decide⟩
  · obtain ⟨h1, h2, h3, h4, h5⟩ := s0_S s hs
    exact ⟨h1, h2, Or.inl h3, ⟨0, by decide, h4⟩, h5⟩
theorem Inv_g0 : Inv am_g0 := ⟨S0, g0_ws, R_S0⟩
