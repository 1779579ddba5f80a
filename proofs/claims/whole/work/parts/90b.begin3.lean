/-! ===== the world at first is one where both agree ===== -/
theorem ckc_at {c : Nat} {e : am_C} {q : Nat × Nat × Nat × List (Nat × Nat)} (he : am_g0[c]? = some e) (hq : kdl[c]? = some q) (hc : c < 107) : ckc q e = true := by
  have h1 := List.all_eq_true.mp ckc_all c (List.mem_range.mpr hc)
  rw [he, hq] at h1
  exact h1
theorem ckv_ok {c k : Nat} {fs : List Value} {ci : Nat} (he : am_g0[c]? = some (.inr (ci, fs))) {fl : List (Nat × Nat)} {v : Value} {f : Nat × Nat} (hv : fs[k]? = some v) (hf : fl[k]? = some f) (h : ckv fs[k]? fl[k]? = true) : v = fv S0 c k f := by
  have hS : S0 c k = (match fs[k]? with
    | some (.int x) => x
    | some (.ref k) => nI k
    | some .null => -1
    | _ => 0) := by
    unfold S0
    rw [he]
    rfl
  rw [hv] at hS
  rw [hv, hf] at h
  obtain ⟨a, y⟩ := f
  unfold fv
  dsimp only
  rw [hS]
  match v, a, h with
  | .int x, 0, _ => rfl
  | .ref z, 1, h => exact congrArg Value.ref (Nat.eq_of_beq_eq_true h)
  | .ref z, 2, h =>
    have hz : z < 1000 := Nat.le_of_ble_eq_true h
    show Value.ref z = Value.ref (nI z).toNatClampNeg
    rw [nI_clamp (Nat.lt_of_lt_of_le hz (by decide))]
  | .ref z, 3, h =>
    have hz : z < 1000 := Nat.le_of_ble_eq_true h
    have hz' : z < 2 ^ 31 := Nat.lt_of_lt_of_le hz (by decide)
    show Value.ref z = if nI z < 0 then Value.null else Value.ref (nI z).toNatClampNeg
    rw [if_neg (nI_pos hz'), nI_clamp hz']
  | .null, 3, _ => rfl
theorem g0_ws : am_g0 = ws S0 := by
  apply List.ext_getElem?
  intro c
  by_cases hc : c < 107
  · have hcg : c < am_g0.length := by rw [am_g0_len]; exact hc
    have hck : c < kdl.length := by rw [kdl_len]; exact hc
    obtain ⟨e, he⟩ : ∃ e, am_g0[c]? = some e := ⟨_, List.getElem?_eq_getElem hcg⟩
    obtain ⟨q, hq⟩ : ∃ q, kdl[c]? = some q := ⟨_, List.getElem?_eq_getElem hck⟩
    have hk := ckc_at he hq hc
    rw [he, ws_at hq]
    refine congrArg some ?_
    obtain ⟨a, b, z, fl⟩ := q
    rcases e with ⟨t, n, f | f⟩ | ⟨ci, fs⟩
    · unfold ckc at hk
      rw [Bool.and_eq_true, Bool.and_eq_true] at hk
      have h1 : a = 1 := Nat.eq_of_beq_eq_true hk.1
      have h2 : t = b := Nat.eq_of_beq_eq_true hk.2.1
      have h3 : n = z := Nat.eq_of_beq_eq_true hk.2.2
      subst h1 h2 h3
      have hS : S0 c = f := by
        funext i
        unfold S0
        rw [he]
      show (.inl (t, n, .inl f) : am_C) = .inl (t, n, .inl (S0 c))
      rw [hS]
    · unfold ckc at hk
      rw [Bool.and_eq_true, Bool.and_eq_true] at hk
      have h1 : a = 2 := Nat.eq_of_beq_eq_true hk.1
      have h2 : t = b := Nat.eq_of_beq_eq_true hk.2.1
      have h3 : n = z := Nat.eq_of_beq_eq_true hk.2.2
      subst h1 h2 h3
      have hS : gfn c = f := by
        unfold gfn
        rw [he]
      show (.inl (t, n, .inr f) : am_C) = .inl (t, n, .inr (gfn c))
      rw [hS]
    · unfold ckc at hk
      rw [Bool.and_eq_true, Bool.and_eq_true, Bool.and_eq_true] at hk
      have h1 : a = 0 := Nat.eq_of_beq_eq_true hk.1
      have h2 : ci = b := Nat.eq_of_beq_eq_true hk.2.1
      have h3 : fs.length = fl.length := Nat.eq_of_beq_eq_true hk.2.2.1
      subst h1 h2
      have hfs : fs = fl.mapIdx (fv S0 c) := by
        apply List.ext_getElem?
        intro k
        rw [List.getElem?_mapIdx]
        by_cases hkl : k < fs.length
        · obtain ⟨v, hv⟩ : ∃ v, fs[k]? = some v := ⟨_, List.getElem?_eq_getElem hkl⟩
          obtain ⟨f, hf⟩ : ∃ f, fl[k]? = some f := ⟨_, List.getElem?_eq_getElem (by rw [← h3]; exact hkl)⟩
          have h4 := List.all_eq_true.mp hk.2.2.2 k (List.mem_range.mpr hkl)
          rw [ckv_ok he hv hf h4] at hv
          rw [hv, hf]
          rfl
        · rw [List.getElem?_eq_none (by omega), List.getElem?_eq_none (by omega)]
          rfl
      show (.inr (ci, fs) : am_C) = .inr (ci, fl.mapIdx (fv S0 c))
      rw [← hfs]
  · rw [List.getElem?_eq_none (by rw [am_g0_len]; omega), List.getElem?_eq_none (by rw [ws_len]; omega)]
theorem kd_f {f : Nat} (hf : f < 4) : kdl[52 + 2 * f]? = some (0, 2, 0, [(0, 0), (1, 52 + 2 * f + 1)]) ∧ kdl[52 + 2 * f + 1]? = some (1, 0, 5, []) := by
  rcases (show f = 0 ∨ f = 1 ∨ f = 2 ∨ f = 3 by omega) with rfl | rfl | rfl | rfl <;> exact ⟨rfl, rfl⟩
theorem R_S0 : R S0 := by
  refine ⟨⟨fun f hf => ⟨(kd_f hf).1, (kd_f hf).2, hf, (s0_F f hf).1, fun b hb => ?_⟩, s0_M⟩, fun v hv => ?_, Or.inl s0_I, fun h hh => Or.inl (s0_H h hh), fun s hs => ?_, s0_C.1, s0_C.2⟩
  · have := (s0_F f hf).2 b hb
    rwa [show 53 + 2 * f = 52 + 2 * f + 1 by omega] at this
  · obtain ⟨h1, h2, h3, h4⟩ := s0_V v hv
    have hq := vq_v hv
    refine ⟨0, fun _ => 0, ⟨rfl, fun s e _ he => absurd he (Nat.not_lt_zero e), fun s e f _ he => absurd he (Nat.not_lt_zero e)⟩, ⟨hq.1, hq.2, by decide, h1, fun s hs => ?_⟩, ⟨by omega, by decide, h3, fun s hs => ?_⟩⟩
    · have : s = 0 := by omega
      subst this
      rw [show 60 + 2 * v + 1 = 61 + 2 * v by omega]
      exact ⟨h2, by decide⟩
    · have : s = 0 := by omega
      subst this
      exact ⟨h4, by decide⟩
  · obtain ⟨h1, h2, h3, h4, h5⟩ := s0_S s hs
    exact ⟨h1, h2, Or.inl h3, ⟨0, by decide, h4⟩, h5⟩
theorem Inv_g0 : Inv am_g0 := ⟨S0, g0_ws, R_S0⟩
