/-! ===== the machine's world of an abstract one ===== -/
abbrev am_cl : List vw_C := [(RX0, TX0, 5), (RX1, TX1, 5), (RX2, TX2, 2), (RX3, TX3, 3), (RX4, TX4, 3), (RX5, TX5, 7), (RX6, TX6, 1), (RX7, TX7, 3), (RX8, TX8, 2), (RX9, TX9, 12), (RX10, TX10, 12), (RX11, TX11, 23)]
def am_ty (cA : Nat → ClassId) : List (ClassId × FieldType) := [(cA 0, .int), (cA 1, .boolean), (cA 2, .object RX2), (cA 3, .object RX8), (cA 4, .object RX3), (cA 5, .object RX7)]
def am_v (ρ : Nat → Nat) : Value → Value
  | .ref a => .ref (ρ a)
  | .int x => .int x
  | .null => .null
  | .long x => .long x
  | .float x => .float x
  | .double x => .double x
  | .retAddr x => .retAddr x
def am_e (ρ : Nat → Nat) (cA : Nat → ClassId) : am_C → va_E
  | .inl (t, n, .inl f) => .inl (cA t, n, .inl f)
  | .inl (t, n, .inr f) => .inl (cA t, n, .inr (.inr (.inr (.inr (fun j => if j < n then (f j).map ρ else none)))))
  | .inr (ci, fs) => .inr (ci, fs.map (am_v ρ))
def am_lay (ρ : Nat → Nat) (cA : Nat → ClassId) (g : am_W) : va_W := g.mapIdx (fun k e => (ρ k, am_e ρ cA e))
theorem am_lay_get (ρ : Nat → Nat) (cA : Nat → ClassId) (g : am_W) (k : Nat) : (am_lay ρ cA g)[k]? = (g[k]?).map (fun e => (ρ k, am_e ρ cA e)) := by
  unfold am_lay
  rw [List.getElem?_mapIdx]
theorem am_lay_at {ρ : Nat → Nat} {cA : Nat → ClassId} {g : am_W} {k : Nat} {e : am_C} (h : g[k]? = some e) : (am_lay ρ cA g)[k]? = some (ρ k, am_e ρ cA e) := by
  rw [am_lay_get, h]
  rfl
theorem am_lay_set (ρ : Nat → Nat) (cA : Nat → ClassId) (g : am_W) (k : Nat) (e : am_C) : (am_lay ρ cA g).set k (ρ k, am_e ρ cA e) = am_lay ρ cA (g.set k e) := by
  apply List.ext_getElem?
  intro j
  rw [am_lay_get, List.getElem?_set, List.getElem?_set]
  have hlen : (am_lay ρ cA g).length = g.length := by unfold am_lay; exact List.length_mapIdx
  rw [hlen]
  by_cases h : k = j
  · subst h
    by_cases h2 : k < g.length
    · simp [h2]
    · simp [h2]
  · simp [h, am_lay_get]
def am_A (ρ : Nat → Nat) (n : Nat) : Nat → Prop := fun q => ∃ k, k < n ∧ q = ρ k
def am_inj (ρ : Nat → Nat) (n : Nat) : Prop := ∀ i j, i < n → j < n → ρ i = ρ j → i = j
theorem am_lay_D {ρ : Nat → Nat} {cA : Nat → ClassId} {g : am_W} {n : Nat} (hρ : am_inj ρ n) (hn : g.length = n) : va_D (am_A ρ n) (am_lay ρ cA g) := by
  refine ⟨fun i j p q hi hj he => ?_, fun k q hk => ?_⟩
  · rw [am_lay_get] at hi hj
    cases h1 : g[i]? with
    | none => rw [h1] at hi; cases hi
    | some x =>
      cases h2 : g[j]? with
      | none => rw [h2] at hj; cases hj
      | some y =>
        rw [h1] at hi
        rw [h2] at hj
        have e1 := Option.some.inj hi
        have e2 := Option.some.inj hj
        rw [← e1, ← e2] at he
        have l1 := (List.getElem?_eq_some_iff.mp h1).1
        have l2 := (List.getElem?_eq_some_iff.mp h2).1
        exact hρ i j (by omega) (by omega) he
  · rw [am_lay_get] at hk
    cases h1 : g[k]? with
    | none => rw [h1] at hk; cases hk
    | some x =>
      rw [h1] at hk
      have e1 := Option.some.inj hk
      have l1 := (List.getElem?_eq_some_iff.mp h1).1
      exact ⟨k, by omega, by rw [← e1]⟩
/-! locals -/
def am_lh (ρ : Nat → Nat) (ls : Array Slot) (nL : Nat) (L : am_L) : Prop := ls.size = nL ∧ L.length = nL ∧ lv_wf ls ∧ ∀ (i : Nat) (v : Value), L[i]? = some (some v) → ls[i]? = some (.val (am_v ρ v)) ∧ (am_v ρ v).category = 1
def am_lv (ρ : Nat → Nat) (L : am_L) : List (Nat × Value) := (List.range L.length).filterMap (fun i => match L[i]? with
  | some (some v) => some (i, am_v ρ v)
  | _ => none)
theorem am_lv_mem {ρ : Nat → Nat} {L : am_L} {q : Nat × Value} (h : q ∈ am_lv ρ L) : ∃ v, L[q.1]? = some (some v) ∧ q.2 = am_v ρ v := by
  unfold am_lv at h
  obtain ⟨i, -, hi⟩ := List.mem_filterMap.mp h
  split at hi
  · rename_i v hv
    have e := Option.some.inj hi
    subst e
    exact ⟨v, hv, rfl⟩
  · cases hi
theorem am_lv_in {ρ : Nat → Nat} {L : am_L} {i : Nat} {v : Value} (h : L[i]? = some (some v)) : (i, am_v ρ v) ∈ am_lv ρ L := by
  unfold am_lv
  refine List.mem_filterMap.mpr ⟨i, List.mem_range.mpr (List.getElem?_eq_some_iff.mp h).1, ?_⟩
  rw [h]
theorem am_lh.has {ρ : Nat → Nat} {ls : Array Slot} {nL : Nat} {L : am_L} (h : am_lh ρ ls nL L) : lv_has ls nL (am_lv ρ L) := by
  refine ⟨h.1, h.2.2.1, fun q hq => ?_⟩
  obtain ⟨v, h1, h2⟩ := am_lv_mem hq
  rw [h2]
  exact (h.2.2.2 _ _ h1).1
theorem am_lh.set {ρ : Nat → Nat} {ls ls' : Array Slot} {nL : Nat} {L : am_L} {i : Nat} {v : Value} (h : am_lh ρ ls nL L) (hv : (am_v ρ v).category = 1) (h' : lv_has ls' nL ((i, am_v ρ v) :: (am_lv ρ L).filter (fun q => !(q.1 == i) && !(q.1 + 1 == i && q.2.category == 2)))) : am_lh ρ ls' nL (L.set i (some v)) := by
  refine ⟨h'.1, by rw [List.length_set]; exact h.2.1, h'.2.1, fun j w hj => ?_⟩
  rw [List.getElem?_set] at hj
  by_cases hij : i = j
  · subst hij
    rw [if_pos rfl] at hj
    by_cases hl : i < L.length
    · rw [if_pos hl] at hj
      have e := Option.some.inj (Option.some.inj hj)
      subst e
      exact ⟨h'.2.2 (i, am_v ρ v) List.mem_cons_self, hv⟩
    · rw [if_neg hl] at hj
      cases hj
  · rw [if_neg hij] at hj
    obtain ⟨h1, h2⟩ := h.2.2.2 j w hj
    refine ⟨h'.2.2 (j, am_v ρ w) (List.mem_cons_of_mem _ (List.mem_filter.mpr ⟨am_lv_in hj, ?_⟩)), h2⟩
    have hji : ¬ j = i := fun e => hij e.symm
    simp [hji, h2]
theorem am_lh.at {ρ : Nat → Nat} {ls : Array Slot} {nL : Nat} {L : am_L} (h : am_lh ρ ls nL L) {i : Nat} {v : Value} (hv : am_ld L i = some v) : ls[i]? = some (.val (am_v ρ v)) := by
  unfold am_ld at hv
  split at hv
  · rename_i w hw
    cases hv
    exact (h.2.2.2 _ _ hw).1
  · cases hv
theorem am_lv_ld {ρ : Nat → Nat} {L : am_L} {i : Nat} {v : Value} (hv : am_ld L i = some v) : ∃ k : Nat, (am_lv ρ L)[k]? = some (i, am_v ρ v) := by
  unfold am_ld at hv
  split at hv
  · rename_i w hw
    cases hv
    exact List.mem_iff_getElem?.mp (am_lv_in hw)
  · cases hv
theorem am_lh_entry_aux {ρ : Nat → Nat} : ∀ (as : List Value) (i : Nat), (∀ v ∈ as, (am_v ρ v).category = 1) → ∀ (j : Nat) (v : Value), as[j]? = some v → (i + j, am_v ρ v) ∈ lv_args i (as.map (am_v ρ))
  | [], i, _, j, v, h => by simp at h
  | a :: t, i, hc, j, v, h => by
    have hca : ¬ (am_v ρ a).category = 2 := by rw [hc a List.mem_cons_self]; decide
    show (i + j, am_v ρ v) ∈ (i, am_v ρ a) :: lv_args (if (am_v ρ a).category = 2 then i + 2 else i + 1) (t.map (am_v ρ))
    rw [if_neg hca]
    cases j with
    | zero =>
      simp at h
      subst h
      exact List.mem_cons_self
    | succ j =>
      simp at h
      have := am_lh_entry_aux t (i + 1) (fun v hv => hc v (List.mem_cons_of_mem _ hv)) j v h
      rw [show i + (j + 1) = i + 1 + j by omega]
      exact List.mem_cons_of_mem _ this
theorem am_sl_len {ρ : Nat → Nat} : ∀ (as : List Value), (∀ v ∈ as, (am_v ρ v).category = 1) → (lg_sl (as.map (am_v ρ))).length = as.length
  | [], _ => rfl
  | a :: t, hc => by
    have hca : ¬ (am_v ρ a).category = 2 := by rw [hc a List.mem_cons_self]; decide
    have := am_sl_len t (fun v hv => hc v (List.mem_cons_of_mem _ hv))
    unfold lg_sl at this ⊢
    simp only [List.map_cons, List.flatMap_cons, if_neg hca, List.length_append, List.length_cons, List.length_nil]
    omega
theorem am_lh_entry {ρ : Nat → Nat} {as : List Value} {nL : Nat} (hc : ∀ v ∈ as, (am_v ρ v).category = 1) (hn : as.length ≤ nL) : am_lh ρ ((lg_sl (as.map (am_v ρ)) ++ List.replicate (nL - (lg_sl (as.map (am_v ρ))).length) Slot.unset).toArray) nL (as.map some ++ List.replicate (nL - as.length) none) := by
  have hl := am_sl_len as hc
  have h := lv_entry (as.map (am_v ρ)) (n := nL) (by rw [hl]; exact hn)
  refine ⟨h.1, by simp; omega, h.2.1, fun i v hi => ?_⟩
  have hi2 : as[i]? = some v := by
    by_cases hlt : i < as.length
    · rw [List.getElem?_append_left (by simpa using hlt), List.getElem?_map] at hi
      cases hq : as[i]? with
      | none => rw [hq] at hi; cases hi
      | some w => rw [hq] at hi; exact congrArg some (Option.some.inj (Option.some.inj hi))
    · rw [List.getElem?_append_right (by simpa using Nat.le_of_not_lt hlt)] at hi
      rw [List.getElem?_replicate] at hi
      split at hi
      · cases Option.some.inj hi
      · cases hi
  have hm := am_lh_entry_aux as 0 hc i v hi2
  rw [Nat.zero_add] at hm
  exact ⟨h.2.2 _ hm, hc v (List.mem_of_getElem? hi2)⟩
