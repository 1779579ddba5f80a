/-! ===== the machine does what the abstract machine does ===== -/
theorem am_v_cat (ρ : Nat → Nat) (v : Value) : (am_v ρ v).category = v.category := by cases v <;> rfl
theorem am_v_cats (ρ : Nat → Nat) (st : List Value) : ((st.map (am_v ρ)).map fun v => v.category) = st.map fun v => v.category := by
  rw [List.map_map]
  exact List.map_congr_left (fun v _ => am_v_cat ρ v)
def am_ws (M : am_M) : List Jvm.Cond := .code M.1 M.2.1 M.2.2.1 M.2.2.2.1 :: am_T
def am_rm (d : Nat) : Room := { frames := d + 1, cells := 0, slots := 0, locals := 64 * (d + 1) }
def am_Pc (ρ : Nat → Nat) (cA : Nat → ClassId) (D : va_G) (as : List Value) (g : am_W) : Array Value → State → Prop := va_Pc (as.map (am_v ρ)) (fun U => va_P D am_cl (am_lay ρ cA g) U.heap ∧ va_K D am_cl (am_ty cA) U ∧ am_nw U)
def am_Q (ρ : Nat → Nat) (cA : Nat → ClassId) (D : va_G) (n : Nat) (r : am_R) : Array Value → State → Outcome → State → Prop := fun _ st oc t => oc = .returned (r.1.map (am_v ρ)) ∧ va_P D am_cl (am_lay ρ cA r.2) t.heap ∧ va_F (am_A ρ n) st t
def am_met (l : Launch) (mt : Nat → Option am_M) (d : Nat) : Prop := ∀ (j : Nat) (as : List Value) (g : am_W) (r : am_R) (M : am_M), mt j = some M → am_cal mt d j as g = some r → ∀ (ρ : Nat → Nat) (cA : Nat → ClassId) (D : va_G) (n : Nat), am_inj ρ n → g.length = n → Met l M.1 (am_ws M) (am_rm d) (am_Pc ρ cA D as g) (am_Q ρ cA D n r) 0 0 (am_A ρ n)
theorem am_nw.warm {s U : State} (hW : s.WarmedH U.vm) (h : am_nw s) : am_nw U := by
  intro w hw hn
  have hz := h w hw hn
  cases w <;> first | exact va_Nw.warmF hW hz | exact va_Nw.warmM hW hz | cases hn
theorem am_nw.same {s U : State} (hW : s.vm = U.vm) (h : am_nw s) : am_nw U := by
  intro w hw hn
  have hz := h w hw hn
  cases w <;> first | exact va_Nw.same rfl hW hz | cases hn
theorem am_blind (ρ : Nat → Nat) (cA : Nat → ClassId) (D : va_G) (as : List Value) (g : am_W) : FrameBlind (am_Pc ρ cA D as g) := by
  intro a U fr mk q
  obtain ⟨q0, q1, q2, q3⟩ := q
  exact ⟨q0, q1, va_K.moved (u := U) (U := U.calling fr mk a) (Vm.Alike.refl U.vm) q2, am_nw.same (s := U) (U := U.calling fr mk a) rfl q3⟩
theorem am_good_T (M : am_M) (hM : Jvm.Cond.code M.1 M.2.1 M.2.2.1 M.2.2.2.1 ∈ lw_tbl) (M0 : am_M) : GoodIn (am_ws M0) (am_ws M) := by
  intro w hw
  rcases List.mem_cons.mp hw with rfl | hw
  · exact ⟨List.mem_cons_of_mem _ (List.mem_filter.mpr ⟨hM, rfl⟩), Or.inl rfl⟩
  · exact ⟨List.mem_cons_of_mem _ hw, good_of_word (List.mem_filter.mp hw).2⟩
def am_clOk (q : vw_C) : Prop := (∀ w ∈ u_ws q.1 q.2.1 q.2.2, w ∈ lw_tbl ∧ goodWord w = true) ∧ ∃ ty0 : Nat → FieldType, (∀ k, k < q.2.2 → parseFieldDescriptor (q.2.1 k).2.2.1 = some (ty0 k)) ∧ ∀ a, a < q.2.2 → ∀ b, b < q.2.2 → a ≠ b → (q.2.1 a).2.1 ≠ (q.2.1 b).2.1
set_option maxRecDepth 100000 in
theorem am_clOk0 : am_clOk (RX0, TX0, 5) := ⟨by decide +kernel, tyX0, tyX0_ok, nmX0⟩
set_option maxRecDepth 100000 in
theorem am_clOk1 : am_clOk (RX1, TX1, 5) := ⟨by decide +kernel, tyX1, tyX1_ok, nmX1⟩
set_option maxRecDepth 100000 in
theorem am_clOk2 : am_clOk (RX2, TX2, 2) := ⟨by decide +kernel, tyX2, tyX2_ok, nmX2⟩
set_option maxRecDepth 100000 in
theorem am_clOk3 : am_clOk (RX3, TX3, 3) := ⟨by decide +kernel, tyX3, tyX3_ok, nmX3⟩
set_option maxRecDepth 100000 in
theorem am_clOk4 : am_clOk (RX4, TX4, 3) := ⟨by decide +kernel, tyX4, tyX4_ok, nmX4⟩
set_option maxRecDepth 100000 in
theorem am_clOk5 : am_clOk (RX5, TX5, 7) := ⟨by decide +kernel, tyX5, tyX5_ok, nmX5⟩
set_option maxRecDepth 100000 in
theorem am_clOk6 : am_clOk (RX6, TX6, 1) := ⟨by decide +kernel, tyX6, tyX6_ok, nmX6⟩
set_option maxRecDepth 100000 in
theorem am_clOk7 : am_clOk (RX7, TX7, 3) := ⟨by decide +kernel, tyX7, tyX7_ok, nmX7⟩
set_option maxRecDepth 100000 in
theorem am_clOk8 : am_clOk (RX8, TX8, 2) := ⟨by decide +kernel, tyX8, tyX8_ok, nmX8⟩
set_option maxRecDepth 100000 in
theorem am_clOk9 : am_clOk (RX9, TX9, 12) := ⟨by decide +kernel, tyX9, tyX9_ok, nmX9⟩
set_option maxRecDepth 100000 in
theorem am_clOk10 : am_clOk (RX10, TX10, 12) := ⟨by decide +kernel, tyX10, tyX10_ok, nmX10⟩
set_option maxRecDepth 100000 in
theorem am_clOk11 : am_clOk (RX11, TX11, 23) := ⟨by decide +kernel, tyX11, tyX11_ok, nmX11⟩
theorem am_cl_ok {ci : Nat} {q : vw_C} (h : am_cl[ci]? = some q) : am_clOk q := by
  have hm := List.mem_of_getElem? h
  simp only [am_cl, List.mem_cons, List.not_mem_nil, or_false] at hm
  rcases hm with rfl | rfl | rfl | rfl | rfl | rfl | rfl | rfl | rfl | rfl | rfl | rfl
  · exact am_clOk0
  · exact am_clOk1
  · exact am_clOk2
  · exact am_clOk3
  · exact am_clOk4
  · exact am_clOk5
  · exact am_clOk6
  · exact am_clOk7
  · exact am_clOk8
  · exact am_clOk9
  · exact am_clOk10
  · exact am_clOk11
theorem am_cl_in {ci : Nat} {q : vw_C} (h : am_cl[ci]? = some q) (M : am_M) : ∀ w ∈ u_ws q.1 q.2.1 q.2.2, w ∈ am_ws M := fun w hw => List.mem_cons_of_mem _ (List.mem_filter.mpr ((am_cl_ok h).1 w hw))
/-! what the getters say -/
theorem am_fI_to {g : am_W} {p ci k : Nat} {x : Int32} (h : am_fI g p ci k = some x) : ∃ fs, g[p]? = some (.inr (ci, fs)) ∧ fs[k]? = some (.int x) := by
  unfold am_fI at h
  split at h
  · rename_i c fs hg
    split at h
    · rename_i hc
      subst hc
      refine ⟨fs, hg, ?_⟩
      split at h
      · rename_i y hy
        cases h
        exact hy
      · cases h
    · cases h
  · cases h
theorem am_fR_to {g : am_W} {p ci k : Nat} {x : Nat} (h : am_fR g p ci k = some x) : ∃ fs, g[p]? = some (.inr (ci, fs)) ∧ fs[k]? = some (.ref x) := by
  unfold am_fR at h
  split at h
  · rename_i c fs hg
    split at h
    · rename_i hc
      subst hc
      refine ⟨fs, hg, ?_⟩
      split at h
      · rename_i y hy
        cases h
        exact hy
      · cases h
    · cases h
  · cases h
theorem am_fN_to {g : am_W} {p ci k : Nat} {x : Option Nat} (h : am_fN g p ci k = some x) : ∃ fs, g[p]? = some (.inr (ci, fs)) ∧ fs[k]? = some (va_rf x) := by
  unfold am_fN at h
  split at h
  · rename_i c fs hg
    split at h
    · rename_i hc
      subst hc
      refine ⟨fs, hg, ?_⟩
      split at h
      · rename_i y hy
        cases h
        exact hy
      · rename_i hy
        cases h
        exact hy
      · cases h
    · cases h
  · cases h
theorem am_sF_to {g g' : am_W} {p ci k : Nat} {v : Value} (h : am_sF g p ci k v = some g') : ∃ fs, g[p]? = some (.inr (ci, fs)) ∧ k < fs.length ∧ g' = g.set p (.inr (ci, fs.set k v)) := by
  unfold am_sF at h
  split at h
  · rename_i c fs hg
    split at h
    · rename_i hc
      subst hc
      split at h
      · rename_i hk
        cases h
        exact ⟨fs, hg, hk, rfl⟩
      · cases h
    · cases h
  · cases h
theorem am_aI_to {g : am_W} {p t : Nat} {i x : Int32} (h : am_aI g p t i = some x) : ∃ n f, g[p]? = some (.inl (t, n, .inl f)) ∧ vp_in i n ∧ x = f i.toNatClampNeg := by
  unfold am_aI at h
  split at h
  · rename_i c n f hg
    split at h
    · rename_i hc
      subst hc
      split at h
      · cases h
      · rename_i hi
        cases h
        exact ⟨n, f, hg, hi, rfl⟩
    · cases h
  · cases h
theorem am_aR_to {g : am_W} {p : Nat} {i : Int32} {x : Nat} (h : am_aR g p i = some x) : ∃ t n f, g[p]? = some (.inl (t, n, .inr f)) ∧ (2 ≤ t ∧ t < 6) ∧ vp_in i n ∧ f i.toNatClampNeg = some x := by
  unfold am_aR at h
  split at h
  · rename_i c n f hg
    split at h
    · rename_i hc
      split at h
      · cases h
      · rename_i hi
        exact ⟨c, n, f, hg, hc, hi, h⟩
    · cases h
  · cases h
theorem am_sI_to {g g' : am_W} {p t : Nat} {i x : Int32} (h : am_sI g p t i x = some g') : ∃ n f, g[p]? = some (.inl (t, n, .inl f)) ∧ vp_in i n ∧ g' = g.set p (.inl (t, n, .inl (upd f i.toNatClampNeg x))) := by
  unfold am_sI at h
  split at h
  · rename_i c n f hg
    split at h
    · rename_i hc
      subst hc
      split at h
      · cases h
      · rename_i hi
        cases h
        exact ⟨n, f, hg, hi, rfl⟩
    · cases h
  · cases h
theorem am_ln_to {g : am_W} {p : Nat} {x : Int32} (h : am_ln g p = some x) : ∃ t n f, g[p]? = some (.inl (t, n, .inl f)) ∧ t < 2 ∧ x = Int32.ofNat n := by
  unfold am_ln at h
  split at h
  · rename_i c n f hg
    split at h
    · rename_i hc
      cases h
      exact ⟨c, n, f, hg, hc, rfl⟩
    · cases h
  · cases h
theorem am_cp_to {g g' : am_W} {a0 a : Nat} {sp dp n : Int32} (h : am_cp g a0 sp a dp n = some g') : ∃ n0 n1 f k, g[a0]? = some (.inl (0, n0, .inl f)) ∧ g[a]? = some (.inl (0, n1, .inl k)) ∧ ¬ sp < 0 ∧ ¬ dp < 0 ∧ ¬ n < 0 ∧ sp.toNatClampNeg + n.toNatClampNeg ≤ n0 ∧ dp.toNatClampNeg + n.toNatClampNeg ≤ n1 ∧ g' = g.set a (.inl (0, n1, .inl (va_cpy f k sp.toNatClampNeg dp.toNatClampNeg n.toNatClampNeg))) := by
  unfold am_cp at h
  split at h
  · rename_i u0 n0 f u1 n1 k h0 h1
    split at h
    · rename_i hc
      obtain ⟨⟨e0, e1⟩, c1, c2, c3, c4, c5⟩ := hc
      subst e0
      subst e1
      cases h
      exact ⟨n0, n1, f, k, h0, h1, c1, c2, c3, c4, c5, rfl⟩
    · cases h
  · cases h
