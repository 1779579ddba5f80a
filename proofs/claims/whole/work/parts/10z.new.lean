/-! ===== the machine does what the makers do ===== -/
theorem am_v_ext {ρ ρ' : Nat → Nat} {n : Nat} (h : ∀ k, k < n → ρ' k = ρ k) {v : Value} (hv : am_wv n v = true) : am_v ρ' v = am_v ρ v := by
  cases v with
  | ref k =>
    have hk : k < n := Nat.le_of_ble_eq_true hv
    show Value.ref (ρ' k) = Value.ref (ρ k)
    rw [h k hk]
  | _ => rfl
theorem am_st_ext {ρ ρ' : Nat → Nat} {n : Nat} (h : ∀ k, k < n → ρ' k = ρ k) {st : List Value} (hv : st.all (am_wv n) = true) : st.map (am_v ρ') = st.map (am_v ρ) :=
  List.map_congr_left (fun v hm => am_v_ext h (List.all_eq_true.mp hv v hm))
theorem am_e_ext {ρ ρ' : Nat → Nat} {cA : Nat → ClassId} {n : Nat} (h : ∀ k, k < n → ρ' k = ρ k) {e : am_C} (he : am_we n e = true) : am_e ρ' cA e = am_e ρ cA e := by
  rcases e with ⟨t, m, f | f⟩ | ⟨ci, fs⟩
  · rfl
  · skip
    have : (fun j => if j < m then (f j).map ρ' else none) = (fun j => if j < m then (f j).map ρ else none) := by
      funext j
      by_cases hj : j < m
      · rw [if_pos hj, if_pos hj]
        have h1 := List.all_eq_true.mp he j (List.mem_range.mpr hj)
        cases hf : f j with
        | none => rfl
        | some k =>
          rw [hf] at h1
          have hk : k < n := Nat.le_of_ble_eq_true h1
          show some (ρ' k) = some (ρ k)
          rw [h k hk]
      · rw [if_neg hj, if_neg hj]
    show (.inl (cA t, m, .inr (.inr (.inr (.inr (fun j => if j < m then (f j).map ρ' else none))))) : va_E) = .inl (cA t, m, .inr (.inr (.inr (.inr (fun j => if j < m then (f j).map ρ else none)))))
    rw [this]
  · show (.inr (ci, fs.map (am_v ρ')) : va_E) = .inr (ci, fs.map (am_v ρ))
    rw [am_st_ext h he]
theorem am_lay_push (ρ : Nat → Nat) (cA : Nat → ClassId) (g : am_W) (e : am_C) : am_lay ρ cA (g ++ [e]) = am_lay ρ cA g ++ [(ρ g.length, am_e ρ cA e)] := by
  unfold am_lay
  rw [List.mapIdx_concat]
theorem am_lay_ext {ρ ρ' : Nat → Nat} {cA : Nat → ClassId} {g : am_W} (h : ∀ k, k < g.length → ρ' k = ρ k) (hg : g.all (am_we g.length) = true) : am_lay ρ' cA g = am_lay ρ cA g := by
  apply List.ext_getElem?
  intro k
  rw [am_lay_get, am_lay_get]
  cases he : g[k]? with
  | none => rfl
  | some e =>
    have hk := (List.getElem?_eq_some_iff.mp he).1
    show some (ρ' k, am_e ρ' cA e) = some (ρ k, am_e ρ cA e)
    rw [h k hk, am_e_ext h (List.all_eq_true.mp hg e (List.mem_of_getElem? he))]
theorem am_lh_ext {ρ ρ' : Nat → Nat} {n : Nat} (h : ∀ k, k < n → ρ' k = ρ k) {ls : Array Slot} {nL : Nat} {L : am_L} (hL : L.all (am_wo n) = true) (hl : am_lh ρ ls nL L) : am_lh ρ' ls nL L := by
  refine ⟨hl.1, hl.2.1, hl.2.2.1, fun i v hi => ?_⟩
  have hw : am_wv n v = true := List.all_eq_true.mp hL _ (List.mem_of_getElem? hi)
  rw [am_v_ext h hw]
  exact hl.2.2.2 i v hi
def am_A0 (ρ : Nat → Nat) (n sz : Nat) : Nat → Prop := fun q => am_A ρ n q ∨ sz ≤ q
def am_ao (U : State) : Prop := va_AO RX2 U ∧ va_AO RX8 U ∧ va_AO RX3 U ∧ va_AO RX7 U
theorem am_ao.moved {u U : State} (hvm : u.vm.Alike U.vm) (h : am_ao u) : am_ao U := ⟨va_AO.moved hvm h.1, va_AO.moved hvm h.2.1, va_AO.moved hvm h.2.2.1, va_AO.moved hvm h.2.2.2⟩
def am_Pc2 (ρ : Nat → Nat) (cA : Nat → ClassId) (D : va_G) (as : List Value) (g : am_W) (sz : Nat) : Array Value → State → Prop := va_Pc (as.map (am_v ρ)) (fun U => U.heap.size = sz ∧ va_P D am_cl (am_lay ρ cA g) U.heap ∧ va_K D am_cl (am_ty cA) U ∧ am_nw U ∧ am_ao U)
def am_ext (ρ ρ' : Nat → Nat) (n n' sz : Nat) : Prop := (∀ k, k < n → ρ' k = ρ k) ∧ am_inj ρ' n' ∧ ∀ k, n ≤ k → k < n' → sz ≤ ρ' k
def am_Q2 (ρ : Nat → Nat) (cA : Nat → ClassId) (D : va_G) (n sz : Nat) (g' : am_W) : Array Value → State → Outcome → State → Prop := fun _ st oc t => oc = .returned none ∧ (∃ ρ', am_ext ρ ρ' n g'.length sz ∧ va_P D am_cl (am_lay ρ' cA g') t.heap) ∧ va_F (am_A0 ρ n sz) st t
def am_rm2 (d k : Nat) : Room := { frames := d + 8, cells := k, slots := 2000 * k, locals := 64 * (d + 8) }
def am_met2 (l : Launch) (mt nt : Nat → Option am_M) (nc : Nat → Nat) (d : Nat) : Prop := ∀ (j : Nat) (as : List Value) (g g' : am_W) (M : am_M), nt j = some M → am_new mt nt nc d j as g = some g' → ∀ (ρ : Nat → Nat) (cA : Nat → ClassId) (D : va_G) (sz : Nat), am_inj ρ g.length → Met l M.1 (am_ws M) (am_rm2 d (nc j)) (am_Pc2 ρ cA D as g sz) (am_Q2 ρ cA D g.length sz g') (nc j) (2000 * nc j) (am_A0 ρ g.length sz)
theorem am_blind2 (ρ : Nat → Nat) (cA : Nat → ClassId) (D : va_G) (as : List Value) (g : am_W) (sz : Nat) : FrameBlind (am_Pc2 ρ cA D as g sz) := by
  intro a U fr mk q
  obtain ⟨q0, q4, q1, q2, q3, q5⟩ := q
  exact ⟨q0, q4, q1, va_K.moved (u := U) (U := U.calling fr mk a) (Vm.Alike.refl U.vm) q2, am_nw.same (s := U) (U := U.calling fr mk a) rfl q3, am_ao.moved (u := U) (U := U.calling fr mk a) (Vm.Alike.refl U.vm) q5⟩
/-! what the tables say of makers -/
def am_pchk2 (own : String) (i : am_I) : Bool := match am_cl[i.2.1]? with
  | some (_, T, _) => (T i.2.2.1).2.2.2 && decide ((T i.2.2.1).1 = own) && (match i.2.2.2.1 with
    | 5 => decide (parseFieldDescriptor (T i.2.2.1).2.2.1 = some .int)
    | _ => (match parseFieldDescriptor (T i.2.2.1).2.2.1 with
      | some (.object _) => true
      | some (.array _) => true
      | _ => false))
  | none => false
def am_fchk2 (own : String) (k : Nat) (i : am_I) : Bool := match am_cl[i.2.1]? with
  | some (_, T, N) => decide (i.2.2.1 < N) && am_in (am_hint i) (.fieldLink own k (T i.2.2.1).1 (T i.2.2.1).2.1 (T i.2.2.1).2.2.1)
  | none => false
def am_chk2 (own : String) (mt nt : Nat → Option am_M) (pc : Nat) (i : am_I) : Bool := match i.1 with
  | .new k => (match am_cl[i.2.1]? with
    | some (C, _, N) => am_in (am_hint i) (.classLink own k C) && am_in i.2.2.1 (.instantiable C N) && am_in i.2.2.2.1 (.initialized C)
    | none => false)
  | .newarray ty => am_in (am_hint i) (.arrayClass (newarray.typeOf ty))
  | .anewarray k => (match am_cl[am_el i.2.1]? with
    | some (C, _, _) => am_in (am_hint i) (.classLink own k C)
    | none => false)
  | .invokespecial k => if i.2.1 = 990 then am_in (am_hint i) (.methodLink own k objectInit) else (match nt i.2.1 with
    | some N => (am_in (am_hint i) (.methodLink own k N.1) || am_in (am_hint i) (.methodLinkNest own k N.1 "WrittenColumns")) && decide ((am_npar N.1).map (· + 1) = some i.2.2.1)
    | none => false)
  | .putfield k => if i.2.2.2.1 = 5 ∨ i.2.2.2.1 = 6 then am_fchk2 own k i && am_pchk2 own i else am_chk own mt pc i
  | .aastore => true
  | .return_ => true
  | _ => am_chk own mt pc i
def am_nth (mt nt : Nat → Option am_M) (M : am_M) (h : Nat × Nat × Nat) (tb : List (Nat × am_I)) : Bool :=
  plainName M.1.cls && am_in h.1 (.code M.1 M.2.1 M.2.2.1 M.2.2.2.1) && am_in h.2.1 (.initialized M.1.cls) && decide (M.1.cls ≠ "java/lang/invoke/MethodHandle") && decide (M.1.cls ≠ "java/lang/invoke/VarHandle") && Nat.ble M.2.2.1 30
  && decide (M.2.2.2.1 = none) && decide (M.1.name = "<init>") && am_in h.2.2 (.instanceMethod M.1)
  && tb.all (fun q => am_chkD M.2.1 q.1 q.2.1 && am_rchk M.2.2.2.1 q.2.1 && am_chk2 M.1.cls mt nt q.1 q.2)
def am_nok (mt nt : Nat → Option am_M) (M : am_M) : Prop := ∃ (h : Nat × Nat × Nat) (tb : List (Nat × am_I)), am_nth mt nt M h tb = true ∧ ∀ (pc : Nat) (i : am_I), M.2.2.2.2.2 pc = some i → (pc, i) ∈ tb
def am_nfacts (M : am_M) : Prop := plainName M.1.cls = true ∧ Jvm.Cond.code M.1 M.2.1 M.2.2.1 M.2.2.2.1 ∈ lw_tbl ∧ Jvm.Cond.initialized M.1.cls ∈ lw_tbl ∧ (M.1.cls ≠ "java/lang/invoke/MethodHandle" ∧ M.1.cls ≠ "java/lang/invoke/VarHandle") ∧ M.2.2.1 ≤ 30 ∧ M.2.2.2.1 = none ∧ M.1.name = "<init>" ∧ Jvm.Cond.instanceMethod M.1 ∈ lw_tbl
theorem am_nok_facts {mt nt : Nat → Option am_M} {M : am_M} (h : am_nok mt nt M) : am_nfacts M ∧ ∀ (pc : Nat) (i : am_I), M.2.2.2.2.2 pc = some i → (am_chkD M.2.1 pc i.1 = true ∧ am_rchk M.2.2.2.1 i.1 = true) ∧ am_chk2 M.1.cls mt nt pc i = true := by
  obtain ⟨hh, tb, h1, h2⟩ := h
  unfold am_nth at h1
  simp only [Bool.and_eq_true] at h1
  obtain ⟨⟨⟨⟨⟨⟨⟨⟨⟨a1, a2⟩, a3⟩, a4⟩, a5⟩, a6⟩, a7⟩, a8⟩, a9⟩, a10⟩ := h1
  refine ⟨⟨a1, am_in_mem a2, am_in_mem a3, ⟨of_decide_eq_true a4, of_decide_eq_true a5⟩, Nat.le_of_ble_eq_true a6, of_decide_eq_true a7, of_decide_eq_true a8, am_in_mem a9⟩, fun pc i hi => ?_⟩
  have q := List.all_eq_true.mp a10 _ (h2 pc i hi)
  simpa only [Bool.and_eq_true] using q
def am_sysP2 : Prop := Jvm.Cond.instanceMethod objectInit ∈ am_T ∧ Jvm.Cond.code objectInit ⟨#[0xb1]⟩ 1 none ∈ am_T
theorem am_sR_to {g g' : am_W} {p v : Nat} {i : Int32} (h : am_sR g p i v = some g') : ∃ t n f c fs, g[p]? = some (.inl (t, n, .inr f)) ∧ g[v]? = some (.inr (c, fs)) ∧ am_el t = c ∧ t < 6 ∧ vp_in i n ∧ g' = g.set p (.inl (t, n, .inr (va_up f i.toNatClampNeg (some v)))) := by
  unfold am_sR at h
  split at h
  · rename_i t n f c fs h1 h2
    obtain ⟨hc, h⟩ := am_if_some h
    simp only [Bool.and_eq_true] at hc
    split at h
    · cases h
    · rename_i hi
      cases h
      exact ⟨t, n, f, c, fs, h1, h2, Nat.eq_of_beq_eq_true hc.1, Nat.le_of_ble_eq_true hc.2, hi, rfl⟩
  · cases h
