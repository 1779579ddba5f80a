/-! ===== an instruction, a call, a method ===== -/
section AMS
variable {p : Program} {l : Launch} {e : Env} {R : Room} {s : State} {m : MethodId} {args : Array Value} {below : List Frame} {meth : Method} {c : Code} {H : Heap} {locs : List Loc} {cells slots : Nat} {Q : State → Prop}
variable {A : Nat → Prop} {M : am_M} {ρ : Nat → Nat} {cA : Nat → ClassId} {D : va_G} {n pc : Nat} {g : am_W} {ls : Array Slot} {rest : List Value} {mt : Nat → Option am_M}
/-- a place of the walk: the method, its words, the world's sorts -/
def am_cx (p : Program) (s : State) (m : MethodId) (args : Array Value) (meth : Method) (c : Code) (M : am_M) (ρ : Nat → Nat) (cA : Nat → ClassId) (D : va_G) (n : Nat) : Prop :=
  p.tables.exec = Jvm.exec ∧ c.code = M.2.1 ∧ c.maxLocals = M.2.2.1 ∧ s.vm.findClass M.1.cls = some m.cls ∧ (∀ w ∈ am_ws M, w.before args s = true) ∧ va_K D am_cl (am_ty cA) s ∧ am_nw s ∧ meth.locks = false ∧ meth.sig.returnType = M.2.2.2.1 ∧ am_inj ρ n
theorem am_getW (X : am_cx p s m args meth c M ρ cA D n) (hP : va_P D am_cl (am_lay ρ cA g) H) {q ci k idx : Nat} {i : am_I} {fs : List Value} {v : Value} (hi1 : i.2.1 = ci) (hi2 : i.2.2.1 = k) (he : g[q]? = some (.inr (ci, fs))) (hv : fs[k]? = some v) (hc : am_fchk M.1.cls idx i = true) (hd : decode M.2.1 pc = .ok (.getfield idx, 3))
    (kk : W p l e R s m args below meth c H locs cells slots Q (F0 m (pc + 3) ls (am_v ρ v :: rest))) : W p l e R s m args below meth c H locs cells slots Q (F0 m pc ls (.ref (ρ q) :: rest)) := by
  obtain ⟨hx, hb, -, hown, hts, hK, hN, -, -, -⟩ := X
  have he' : (am_lay ρ cA g)[q]? = some (ρ q, .inr (ci, fs.map (am_v ρ))) := am_lay_at he
  have hv' : (fs.map (am_v ρ))[k]? = some (am_v ρ v) := by rw [List.getElem?_map, hv]; rfl
  unfold am_fchk at hc
  rw [hi1, hi2] at hc
  split at hc
  · rename_i C T N hcl
    simp only [Bool.and_eq_true, Bool.or_eq_true, decide_eq_true_eq] at hc
    obtain ⟨hk, hl | hl⟩ := hc
    · exact va_get hx hb hts (am_cl_in hcl M) hown hK hP q he' hcl k hk (hts _ (List.mem_cons_of_mem _ (am_in_T hl rfl))) (fun _ h => h) hv' hd kk
    · exact va_getN hx hb hts (am_cl_in hcl M) hown hK hP q he' hcl k hk (va_Nw.use rfl (hN _ (am_in_mem hl) rfl)) (fun _ h => h) hv' hd kk
  · cases hc
theorem am_putW (X : am_cx p s m args meth c M ρ cA D n) (hP : va_P D am_cl (am_lay ρ cA g) H) (hg : g.length = n) (hA : ∀ q, am_A ρ n q → A q) (hS : va_S A s.heap H locs) {q ci k idx : Nat} {i : am_I} {fs : List Value} {v : Value} {ty : FieldType} (hi1 : i.2.1 = ci) (hi2 : i.2.2.1 = k) (he : g[q]? = some (.inr (ci, fs))) (hl : k < fs.length) (hc : am_fchk M.1.cls idx i = true)
    (hfin : ∀ C T N, am_cl[ci]? = some (C, T, N) → (T k).2.2.2 = false ∧ parseFieldDescriptor (T k).2.2.1 = some ty) (hn : narrow ty (am_v ρ v) = am_v ρ v) (hfit : fits ty (am_v ρ v) = true) (hd : decode M.2.1 pc = .ok (.putfield idx, 3))
    (kk : ∀ (H1 : Heap) (locs1 : List Loc), va_P D am_cl (am_lay ρ cA (g.set q (.inr (ci, fs.set k v)))) H1 → va_S A s.heap H1 locs1 → W p l e R s m args below meth c H1 locs1 cells slots Q (F0 m (pc + 3) ls rest)) : W p l e R s m args below meth c H locs cells slots Q (F0 m pc ls (am_v ρ v :: .ref (ρ q) :: rest)) := by
  obtain ⟨hx, hb, -, hown, hts, hK, hN, -, -, hρ⟩ := X
  have he' : (am_lay ρ cA g)[q]? = some (ρ q, .inr (ci, fs.map (am_v ρ))) := am_lay_at he
  have hD := (am_lay_D (cA := cA) hρ hg).weaken (fun _ _ _ h => hA _ h)
  have hl' : k < (fs.map (am_v ρ)).length := by rw [List.length_map]; exact hl
  have e1 : (am_lay ρ cA g).set q (ρ q, .inr (ci, (fs.map (am_v ρ)).set k (am_v ρ v))) = am_lay ρ cA (g.set q (.inr (ci, fs.set k v))) := by
    rw [← am_lay_set]
    show _ = (am_lay ρ cA g).set q (ρ q, .inr (ci, (fs.set k v).map (am_v ρ)))
    rw [List.map_set]
  unfold am_fchk at hc
  rw [hi1, hi2] at hc
  split at hc
  · rename_i C T N hcl
    obtain ⟨hf, hp⟩ := hfin C T N hcl
    obtain ⟨ty0, hty, hnm⟩ := (am_cl_ok hcl).2
    simp only [Bool.and_eq_true, Bool.or_eq_true, decide_eq_true_eq] at hc
    obtain ⟨hk, hl2 | hl2⟩ := hc
    · exact va_put hx hb hts (am_cl_in hcl M) ty0 hty hnm hown hK hP hD hS q he' hcl k hk (hts _ (List.mem_cons_of_mem _ (am_in_T hl2 rfl))) (fun _ h => h) hf hp hn hfit hl' hd (fun H1 locs1 a1 _ a3 => kk H1 locs1 (e1 ▸ a1) a3)
    · exact va_putN hx hb hts (am_cl_in hcl M) ty0 hty hnm hown hK hP hD hS q he' hcl k hk (va_Nw.use rfl (hN _ (am_in_mem hl2) rfl)) (fun _ h => h) hf hp hn hfit hl' hd (fun H1 locs1 a1 _ a3 => kk H1 locs1 (e1 ▸ a1) a3)
  · cases hc
/-- a call that has run goes on -/
theorem am_goW {frees : Addr → Prop} {st0 : List Value} {r : am_R} {a : Array Value} (hr : va_Run p l e R s m args below meth c H locs cells slots 0 0 (F0 m pc ls st0) rest (am_Q ρ cA D n r a) (am_A ρ n)) (hA : ∀ q, am_A ρ n q → A q) (hS : va_S A s.heap H locs)
    (kk : ∀ (H1 : Heap) (locs1 : List Loc), va_P D am_cl (am_lay ρ cA r.2) H1 → va_S A s.heap H1 locs1 → W p l e R s m args below meth c H1 locs1 cells slots Q (F0 m (pc + 3) ls ((r.1.map (am_v ρ)).toList ++ rest))) : W p l e R s m args below meth c H locs cells slots Q (F0 m pc ls st0) := by
  intro T hT X
  obtain ⟨v, st₀, t, T', L, h0, X', hL, e1, e2, ⟨hv, hp, hz, hk⟩, st⟩ := hr T hT X
  cases hv
  rw [h0] at hz hk
  obtain ⟨t2, a1, b1⟩ := kk T'.heap (locs ++ L) (by rw [e1]; exact hp)
    ⟨Nat.le_trans hS.1 (by rw [e1]; exact hz), fun q h1 h2 => by rw [e1, hk q (Nat.lt_of_lt_of_le h1 hS.1) (fun z => h2 (hA q z))]; exact hS.2.1 q h1 h2, fun q hq => by
      rcases List.mem_append.mp hq with h | h
      · exact hS.2.2 q h
      · exact hA _ (hL q h)⟩ T' rfl X'
  exact ⟨t2, st t2 a1, b1⟩
/-- what a method's check says -/
def am_mfacts (M : am_M) : Prop := plainName M.1.cls = true ∧ Jvm.Cond.code M.1 M.2.1 M.2.2.1 M.2.2.2.1 ∈ lw_tbl ∧ Jvm.Cond.initialized M.1.cls ∈ lw_tbl ∧ (M.1.cls ≠ "java/lang/invoke/MethodHandle" ∧ M.1.cls ≠ "java/lang/invoke/VarHandle") ∧ M.2.2.1 ≤ 30 ∧ (M.2.2.2.1 = none ∨ M.2.2.2.1 = some .int ∨ M.2.2.2.1 = some .boolean) ∧
  (M.2.2.2.2.1 = 12 → Jvm.Cond.static M.1 ∈ lw_tbl) ∧ (M.2.2.2.2.1 ≠ 12 → Jvm.Cond.instanceMethod M.1 ∈ lw_tbl ∧ Jvm.Cond.selects M.1.cls M.1 M.1 ∈ lw_tbl ∧ ∃ T N, am_cl[M.2.2.2.2.1]? = some (M.1.cls, T, N))
theorem am_mok_facts (h : am_mok mt M) : am_mfacts M ∧ ∀ (pc : Nat) (i : am_I), M.2.2.2.2.2 pc = some i → (am_chkD M.2.1 pc i.1 = true ∧ am_rchk M.2.2.2.1 i.1 = true) ∧ am_chk M.1.cls mt pc i = true := by
  obtain ⟨hh, tb, h1, h2⟩ := h
  unfold am_mth at h1
  simp only [Bool.and_eq_true] at h1
  obtain ⟨⟨⟨⟨⟨⟨⟨⟨a1, a2⟩, a3⟩, a4⟩, a5⟩, a6⟩, a7⟩, a8⟩, a9⟩ := h1
  refine ⟨⟨a1, am_in_mem a2, am_in_mem a3, ⟨of_decide_eq_true a4, of_decide_eq_true a5⟩, Nat.le_of_ble_eq_true a6, ?_, fun hs => ?_, fun hs => ?_⟩, fun pc i hi => ?_⟩
  · simp only [Bool.or_eq_true, decide_eq_true_eq] at a7
    rcases a7 with (q | q) | q
    · exact Or.inl q
    · exact Or.inr (Or.inl q)
    · exact Or.inr (Or.inr q)
  · rw [if_pos hs] at a8
    exact am_in_mem a8
  · rw [if_neg hs] at a8
    simp only [Bool.and_eq_true] at a8
    refine ⟨am_in_mem a8.1.1, am_in_mem a8.1.2, ?_⟩
    have q := a8.2
    split at q
    · rename_i C T N hcl
      exact ⟨T, N, by rw [hcl, of_decide_eq_true q]⟩
    · cases q
  · have q := List.all_eq_true.mp a9 _ (h2 pc i hi)
    simpa only [Bool.and_eq_true] using q
theorem am_args_static {as : List Value} {j d : Nat} {r : am_R} {N : am_M} (hN : mt j = some N) (h : am_cal mt (d + 1) j as g = some r) : (∀ v ∈ as, v.category = 1) ∧ as.length ≤ N.2.2.1 ∧ am_rcv g N.2.2.2.2.1 as = true ∧ am_run (decide (N.2.2.2.1 = some .boolean)) (am_cal mt d) N.2.2.2.2.2 0 (as.map some ++ List.replicate (N.2.2.1 - as.length) none) [] g = some r := by
  unfold am_cal at h
  rw [hN] at h
  dsimp only at h
  obtain ⟨h1, h⟩ := am_if_some h
  obtain ⟨h2, h⟩ := am_if_some h
  simp only [Bool.and_eq_true, List.all_eq_true, beq_iff_eq] at h1
  exact ⟨h1.1, Nat.le_of_ble_eq_true h1.2, h2, h⟩
/-- a call of a method that is met -/
theorem am_callW (X : am_cx p s m args meth c M ρ cA D n) {d : Nat} (hR : d + 2 ≤ R.frames ∧ 64 * (d + 2) ≤ R.locals ∧ cells ≤ R.cells ∧ slots ≤ R.slots) (hm : am_met l mt d) (hP : va_P D am_cl (am_lay ρ cA g) H) (hg : g.length = n) (hA : ∀ q, am_A ρ n q → A q) (hS : va_S A s.heap H locs) (hls : ls.size = M.2.2.1) {j : Nat} {N : am_M} (hN : mt j = some N) (hok : am_mfacts N) {as : List Value} {r : am_R} (hr : am_cal mt d j as g = some r)
    {idx : Nat} {i : am_I} (hck : am_mchk M.1.cls idx i N = true) (hst : (rest.map fun v => v.category).sum ≤ 8)
    (hcase : (N.2.2.2.2.1 = 12 ∧ am_npar N.1 = some as.length ∧ decode M.2.1 pc = .ok (.invokestatic idx, 3)) ∨ (N.2.2.2.2.1 ≠ 12 ∧ (am_npar N.1).map (· + 1) = some as.length ∧ decode M.2.1 pc = .ok (.invokevirtual idx, 3)))
    (kk : ∀ (H1 : Heap) (locs1 : List Loc), va_P D am_cl (am_lay ρ cA r.2) H1 → va_S A s.heap H1 locs1 → W p l e R s m args below meth c H1 locs1 cells slots Q (F0 m (pc + 3) ls ((r.1.map (am_v ρ)).toList ++ rest))) : W p l e R s m args below meth c H locs cells slots Q (F0 m pc ls ((as.map (am_v ρ)).reverse ++ rest)) := by
  cases d with
  | zero => cases hr
  | succ d =>
  have hmet := hm j as g r N hN hr ρ cA D n X.2.2.2.2.2.2.2.2.2 hg
  obtain ⟨ha1, ha2, ha3, -⟩ := am_args_static hN hr
  obtain ⟨hx, hb, hml, hown, hts, hK, hNw, -, -, hρ⟩ := X
  obtain ⟨f1, f2, f3, f4, f5, f6, f7, f8⟩ := hok
  have hgT := am_good_T N f2 M
  have hini : (Cond.initialized N.1.cls).before args s = true := hts _ (List.mem_cons_of_mem _ (List.mem_filter.mpr ⟨f3, rfl⟩))
  have hroom : (am_rm (d + 1)).frames + 1 ≤ R.frames ∧ 8 + (N.2.2.1 + 11) + (am_rm (d + 1)).locals ≤ R.locals := by
    obtain ⟨r1, r2, -, -⟩ := hR
    refine ⟨by show d + 1 + 1 + 1 ≤ _; omega, ?_⟩
    show 8 + (N.2.2.1 + 11) + 64 * (d + 1 + 1) ≤ _
    omega
  have hcells : cells + 0 ≤ R.cells ∧ slots + 0 ≤ R.slots := ⟨hR.2.2.1, hR.2.2.2⟩
  have hpre : ∀ U : State, U.heap = H → s.WarmedH U.vm → am_Pc ρ cA D as g (as.map (am_v ρ)).toArray U := fun U hU hW => ⟨rfl, by rw [hU]; exact hP, va_K.moved hW.alike hK, am_nw.warm hW hNw⟩
  unfold am_mchk at hck
  simp only [Bool.and_eq_true, Bool.or_eq_true] at hck
  rcases hcase with ⟨c1, c2, c3⟩ | ⟨c1, c2, c3⟩
  · have hstat : (Cond.static N.1).before args s = true := hts _ (List.mem_cons_of_mem _ (List.mem_filter.mpr ⟨f7 c1, rfl⟩))
    rcases hck.1 with hl | hl
    · have cb := callB_of (R := R) (s := s) (args := args) (Ts := am_ws M) (own := M.1.cls) (index := idx) (y := N.1) (bytes := N.2.1) (maxL := N.2.2.1) (ret := N.2.2.2.1) (ws := am_ws N) (ws' := am_T) (rm := am_rm (d + 1)) (mc := 0) (ms := 0) as.length hts hgT rfl rfl rfl hini (hts _ (List.mem_cons_of_mem _ (am_in_T hl rfl))) ⟨f4.1, f4.2, c2⟩ hroom
      exact am_goW (frees := fun _ => False) (va_runS ⟨hx, hb, hml, hown, hts⟩ hmet ⟨cb, hstat⟩ ⟨am_blind ρ cA D as g, hpre⟩ rfl (by rw [List.length_map]) hls rfl (lv_room hst) c3 hcells) hA hS kk
    · have cb := va_cnB (R := R) (s := s) (args := args) (Ts := am_ws M) (own := M.1.cls) (host := "WrittenColumns") (index := idx) (y := N.1) (bytes := N.2.1) (maxL := N.2.2.1) (ret := N.2.2.2.1) (ws := am_ws N) (ws' := am_T) (rm := am_rm (d + 1)) (mc := 0) (ms := 0) as.length hts hgT rfl rfl rfl (hNw _ (am_in_mem hl) rfl) hini ⟨f4.1, f4.2, c2⟩ hroom
      exact am_goW (frees := fun _ => False) (va_runSN ⟨hx, hb, hml, hown, hts⟩ hmet ⟨cb, hstat, trivial⟩ ⟨am_blind ρ cA D as g, hpre⟩ rfl (by rw [List.length_map]) hls rfl (lv_room hst) c3 hcells) hA hS kk
  · obtain ⟨f81, f82, T, NN, f83⟩ := f8 c1
    have hinst : (Cond.instanceMethod N.1).before args s = true := hts _ (List.mem_cons_of_mem _ (List.mem_filter.mpr ⟨f81, rfl⟩))
    have hsel : (Cond.selects N.1.cls N.1 N.1).before args s = true := hts _ (List.mem_cons_of_mem _ (List.mem_filter.mpr ⟨f82, rfl⟩))
    unfold am_rcv at ha3
    split at ha3
    · exact absurd (by assumption) c1
    · split at ha3
      · rename_i q as'
        unfold am_isO at ha3
        split at ha3
        · rename_i ci fs hq
          have hci : ci = N.2.2.2.2.1 := by simpa using ha3
          subst hci
          have hrecv := va_recv hK hP (q0 := q) f83 (am_lay_at hq)
          have hn' : am_npar N.1 = some (as'.map (am_v ρ)).length := by
            rw [List.length_map]
            cases hz : am_npar N.1 with
            | none => rw [hz] at c2; cases c2
            | some z =>
              rw [hz] at c2
              have := Option.some.inj c2
              simp at this
              rw [this]
          have hstack : (List.map (am_v ρ) (Value.ref q :: as')).reverse ++ rest = (as'.map (am_v ρ)).reverse ++ Value.ref (ρ q) :: rest := by
            simp [am_v]
          rw [hstack]
          rcases hck.1 with hl | hl
          · have cb := callB_of (R := R) (s := s) (args := args) (Ts := am_ws M) (own := M.1.cls) (index := idx) (y := N.1) (bytes := N.2.1) (maxL := N.2.2.1) (ret := N.2.2.2.1) (ws := am_ws N) (ws' := am_T) (rm := am_rm (d + 1)) (mc := 0) (ms := 0) (as'.map (am_v ρ)).length hts hgT rfl rfl rfl hini (hts _ (List.mem_cons_of_mem _ (am_in_T hl rfl))) ⟨f4.1, f4.2, hn'⟩ hroom
            exact am_goW (frees := fun _ => False) (va_runV (C := N.1.cls) ⟨hx, hb, hml, hown, hts⟩ hmet ⟨cb, hinst, hsel⟩ ⟨am_blind ρ cA D _ g, hrecv, hpre⟩ rfl rfl hls rfl (lv_room hst) c3 hcells) hA hS kk
          · have cb := va_cnB (R := R) (s := s) (args := args) (Ts := am_ws M) (own := M.1.cls) (host := "WrittenColumns") (index := idx) (y := N.1) (bytes := N.2.1) (maxL := N.2.2.1) (ret := N.2.2.2.1) (ws := am_ws N) (ws' := am_T) (rm := am_rm (d + 1)) (mc := 0) (ms := 0) (as'.map (am_v ρ)).length hts hgT rfl rfl rfl (hNw _ (am_in_mem hl) rfl) hini ⟨f4.1, f4.2, hn'⟩ hroom
            exact am_goW (frees := fun _ => False) (va_runVN (C := N.1.cls) ⟨hx, hb, hml, hown, hts⟩ hmet ⟨cb, hinst, hsel⟩ ⟨am_blind ρ cA D _ g, hrecv, hpre⟩ rfl rfl hls rfl (lv_room hst) c3 hcells) hA hS kk
        · cases ha3
      · cases ha3
end AMS
