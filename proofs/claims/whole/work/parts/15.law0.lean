/-! ===== the law's walk, over an invariant of worlds (by gen15.py) ===== -/
def lw_cx (p : Program) (s : State) (m : MethodId) (c : Code) (b L : Nat) (xs : Nat → Int32) (ρ : Nat → Nat) (cA : Nat → ClassId) (D : va_G) : Prop :=
  p.tables.exec = Jvm.exec ∧ c.code = code ∧ c.maxLocals = 4 ∧ s.vm.findClass "WrittenColumnsLaw" = some m.cls ∧ (∀ w ∈ am_T, w.before #[Value.ref b] s = true) ∧ va_K D am_cl (am_ty cA) s ∧ am_nw s ∧ va_X b L xs s s.heap ∧ b < s.heap.size ∧ am_inj ρ 107 ∧ ∀ k, k < 107 → s.heap.size ≤ ρ k
def am_ag (Inv : am_W → Prop) (j1 j2 n : Nat) : Prop := ∀ (g : am_W) (as : List Int32), as.length = n → g.length = 107 → Inv g → ∃ (v : Int32) (g1 g2 : am_W), am_cal am_mt 60 j1 (.ref 0 :: as.map Value.int) g = some (some (.int v), g1) ∧ am_cal am_mt 60 j2 (.ref 88 :: as.map Value.int) g1 = some (some (.int v), g2) ∧ Inv g2
section LWC
variable {p : Program} {l : Launch} {e : Env} {R : Room} {s : State} {m : MethodId} {below : List Frame} {meth : Method} {c : Code} {b L i : Nat} {xs : Nat → Int32} {ρ : Nat → Nat} {cA : Nat → ClassId} {D : va_G} {cells slots : Nat} {Q : State → Prop} {Inv : am_W → Prop}
theorem am_callL (X : lw_cx p s m c b L xs ρ cA D) (hR : 62 ≤ R.frames ∧ 64 * 62 ≤ R.locals ∧ cells ≤ R.cells ∧ slots ≤ R.slots) {g : am_W} {H : Heap} {locs : List Loc} {ls : Array Slot} {pc : Nat} {st rest : List Value} (hP : va_P D am_cl (am_lay ρ cA g) H) (hg : g.length = 107) (hS : va_S (fun q => s.heap.size ≤ q) s.heap H locs) (hls : ls.size = 4) {j idx q hh : Nat} {N : am_M} {as' : List Value} (hN : am_mt j = some N) {r : am_R} (hr : am_cal am_mt 60 j (.ref q :: as') g = some r)
    (hlink : am_in hh (.methodLink "WrittenColumnsLaw" idx N.1) = true) (hci : N.2.2.2.2.1 ≠ 12) (hnp : am_npar N.1 = some as'.length) (hroom : (rest.map fun v => v.category).sum ≤ 8) (hst : st = (as'.map (am_v ρ)).reverse ++ .ref (ρ q) :: rest) (hd : decode code pc = .ok (.invokevirtual idx, 3))
    (kk : ∀ (H1 : Heap) (locs1 : List Loc), va_P D am_cl (am_lay ρ cA r.2) H1 → va_S (fun q => s.heap.size ≤ q) s.heap H1 locs1 → W p l e R s m #[Value.ref b] below meth c H1 locs1 cells slots Q (F0 m (pc + 3) ls ((r.1.map (am_v ρ)).toList ++ rest))) : W p l e R s m #[Value.ref b] below meth c H locs cells slots Q (F0 m pc ls st) := by
  obtain ⟨hx, hb, hml, hown, hts, hK, hNw, -, -, hρ, hlo⟩ := X
  have hmet := am_met_all l 60 j _ g r N hN hr ρ cA D 107 hρ hg
  obtain ⟨ha1, ha2, ha3, -⟩ := am_args_static hN hr
  obtain ⟨f1, f2, f3, f4, f5, f6, f7, f8⟩ := (am_mok_facts (am_mt_ok j N hN)).1
  have hgT : GoodIn am_T (am_ws N) := by
    intro w hw
    rcases List.mem_cons.mp hw with rfl | hw
    · exact ⟨List.mem_filter.mpr ⟨f2, rfl⟩, Or.inl rfl⟩
    · exact ⟨hw, good_of_word (List.mem_filter.mp hw).2⟩
  have hini : (Cond.initialized N.1.cls).before #[Value.ref b] s = true := hts _ (List.mem_filter.mpr ⟨f3, rfl⟩)
  have hrm : (am_rm 60).frames + 1 ≤ R.frames ∧ 8 + (N.2.2.1 + 11) + (am_rm 60).locals ≤ R.locals := by
    obtain ⟨r1, r2, -, -⟩ := hR
    refine ⟨by show 60 + 1 + 1 ≤ _; omega, ?_⟩
    show 8 + (N.2.2.1 + 11) + 64 * (60 + 1) ≤ _
    omega
  have hcells : cells + 0 ≤ R.cells ∧ slots + 0 ≤ R.slots := ⟨hR.2.2.1, hR.2.2.2⟩
  have hpre : ∀ U : State, U.heap = H → s.WarmedH U.vm → am_Pc ρ cA D (.ref q :: as') g ((Value.ref q :: as').map (am_v ρ)).toArray U := fun U hU hW => ⟨rfl, by rw [hU]; exact hP, va_K.moved hW.alike hK, am_nw.warm hW hNw⟩
  obtain ⟨f81, f82, T, NN, f83⟩ := f8 hci
  have hinst : (Cond.instanceMethod N.1).before #[Value.ref b] s = true := hts _ (List.mem_filter.mpr ⟨f81, rfl⟩)
  have hsel : (Cond.selects N.1.cls N.1 N.1).before #[Value.ref b] s = true := hts _ (List.mem_filter.mpr ⟨f82, rfl⟩)
  have hA : ∀ q, am_A ρ 107 q → (fun q => s.heap.size ≤ q) q := fun q ⟨k, hk, hq⟩ => by rw [hq]; exact hlo k hk
  unfold am_rcv at ha3
  split at ha3
  · exact absurd (by assumption) hci
  · have ha3 : am_isO g q N.2.2.2.2.1 = true := ha3
    unfold am_isO at ha3
    split at ha3
    · rename_i ci fs hq
      have hcie : ci = N.2.2.2.2.1 := by simpa using ha3
      subst hcie
      have hrecv := va_recv hK hP (q0 := q) f83 (am_lay_at hq)
      rw [hst]
      have cb := callB_of (R := R) (s := s) (args := #[Value.ref b]) (Ts := am_T) (own := "WrittenColumnsLaw") (index := idx) (y := N.1) (bytes := N.2.1) (maxL := N.2.2.1) (ret := N.2.2.2.1) (ws := am_ws N) (ws' := am_T) (rm := am_rm 60) (mc := 0) (ms := 0) (as'.map (am_v ρ)).length hts hgT rfl rfl rfl hini (hts _ (am_in_T hlink rfl)) ⟨f4.1, f4.2, by rw [List.length_map]; exact hnp⟩ hrm
      exact am_goW (frees := fun _ => False) (va_runV (C := N.1.cls) ⟨hx, hb, hml, hown, hts⟩ hmet ⟨cb, hinst, hsel⟩ ⟨am_blind ρ cA D _ g, hrecv, hpre⟩ rfl rfl hls rfl (lv_room hroom) hd hcells) hA hS kk
    · cases ha3
theorem lw_in {k : Nat} {x : Int32} (hx : x = nI k) (hi : i + 6 ≤ L) (hL : L ≤ 3072) (hk : k < 6) : vp_in (nI i + x) L := by
  subst hx
  rw [nI_add]
  exact vp_in_nI (by omega) (by omega)
end LWC
