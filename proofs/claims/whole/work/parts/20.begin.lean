section LWS
variable {p : Program} {l : Launch} {e : Env} {R : Room} {s : State} {m : MethodId} {below : List Frame} {meth : Method} {c : Code} {b : Nat} {args : Array Value} {cA : Nat → ClassId} {D : va_G} {cells slots : Nat} {Q : State → Prop}
/-- a constructor's call in the law -/
theorem am_ctorL (hx : p.tables.exec = Jvm.exec) (hb : c.code = code) (hml : c.maxLocals = 4) (hown : s.vm.findClass "WrittenColumnsLaw" = some m.cls) (hts : ∀ w ∈ am_T, w.before args s = true) (hK : va_K D am_cl (am_ty cA) s) (hNw : am_nw s) (hAo : am_ao s) {ρ : Nat → Nat} {g g' : am_W} (hinj : am_inj ρ g.length) (hlo : ∀ k, k < g.length → s.heap.size ≤ ρ k) {j idx q pc : Nat} {N : am_M} (hN : am_nt j = some N) (hnew : am_new am_mt am_nt am_nc 6 j [.ref q] g = some g') (hlink : Jvm.Cond.methodLink "WrittenColumnsLaw" idx N.1 ∈ am_T) (hnp : am_npar N.1 = some 0)
    {H : Heap} {locs : List Loc} {ls : Array Slot} {rest : List Value} (hroom : (rest.map fun v => v.category).sum ≤ 8) (hd : decode code pc = .ok (.invokespecial idx, 3)) (hP : va_P D am_cl (am_lay ρ cA g) H) (hS : va_S (fun q => s.heap.size ≤ q) s.heap H locs) (hls : ls.size = 4) (hcs : cells + am_nc j ≤ R.cells ∧ slots + 2000 * am_nc j ≤ R.slots) (hR : 16 ≤ R.frames ∧ 64 * 16 ≤ R.locals)
    (kk : ∀ (ρ' : Nat → Nat) (H1 : Heap) (locs1 : List Loc), am_ext ρ ρ' g.length g'.length H.size → va_P D am_cl (am_lay ρ' cA g') H1 → va_S (fun q => s.heap.size ≤ q) s.heap H1 locs1 → W p l e R s m args below meth c H1 locs1 (cells + am_nc j) (slots + 2000 * am_nc j) Q (F0 m (pc + 3) ls rest)) : W p l e R s m args below meth c H locs cells slots Q (F0 m pc ls (.ref (ρ q) :: rest)) := by
  have hmet := am_meets2 l am_mt am_nt am_nc am_mt_ok am_nt_ok am_sys am_sys2 6 j [.ref q] g g' N hN hnew ρ cA D H.size hinj
  obtain ⟨f1, f2, f3, f4, f5, f6, f7, f8⟩ := (am_nok_facts (am_nt_ok j N hN)).1
  obtain ⟨y, bytes, maxL, rt, ci, cdd⟩ := N
  dsimp only at f1 f2 f3 f4 f5 f6 f7 f8 hmet hlink hnp
  subst f6
  have hgT : GoodIn am_T (am_ws (y, bytes, maxL, none, ci, cdd)) := by
    intro w hw
    rcases List.mem_cons.mp hw with rfl | hw
    · exact ⟨List.mem_filter.mpr ⟨f2, rfl⟩, Or.inl rfl⟩
    · exact ⟨hw, good_of_word (List.mem_filter.mp hw).2⟩
  have hini : (Cond.initialized y.cls).before args s = true := hts _ (List.mem_filter.mpr ⟨f3, rfl⟩)
  have hinst : (Cond.instanceMethod y).before args s = true := hts _ (List.mem_filter.mpr ⟨f8, rfl⟩)
  have hrm : (am_rm2 6 (am_nc j)).frames + 1 ≤ R.frames ∧ 8 + (maxL + 11) + (am_rm2 6 (am_nc j)).locals ≤ R.locals := by
    refine ⟨by show 6 + 8 + 1 ≤ _; omega, ?_⟩
    show 8 + (maxL + 11) + 64 * (6 + 8) ≤ _
    omega
  have hpre : ∀ U : State, U.heap = H → s.WarmedH U.vm → am_Pc2 ρ cA D [.ref q] g H.size ([Value.ref q].map (am_v ρ)).toArray U := fun U hU hW => ⟨rfl, by rw [hU], by rw [hU]; exact hP, va_K.moved hW.alike hK, am_nw.warm hW hNw, am_ao.moved hW.alike hAo⟩
  have hA : ∀ q, am_A0 ρ g.length H.size q → (fun q => s.heap.size ≤ q) q := by
    intro q hq
    rcases hq with ⟨k, hk, rfl⟩ | hq
    · exact hlo k hk
    · exact Nat.le_trans hS.1 hq
  have cb := callB_of (R := R) (s := s) (args := args) (Ts := am_T) (own := "WrittenColumnsLaw") (index := idx) (y := y) (bytes := bytes) (maxL := maxL) (ret := none) (ws := am_ws (y, bytes, maxL, none, ci, cdd)) (ws' := am_T) (rm := am_rm2 6 (am_nc j)) (mc := am_nc j) (ms := 2000 * am_nc j) 0 hts hgT rfl rfl rfl hini (hts _ hlink) ⟨f4.1, f4.2, hnp⟩ hrm
  exact am_goW2 (va_runI (As := []) ⟨hx, hb, hml, hown, hts⟩ hmet ⟨cb, f7, hinst⟩ ⟨am_blind2 ρ cA D _ g _, hpre⟩ rfl rfl hls rfl (lv_room hroom) hd hcs) hA hS kk
end LWS
set_option maxHeartbeats 8000000 in
set_option maxRecDepth 100000 in
/-- the law from its entry, if an invariant goes on through all calls -/
theorem whole_start_of {Inv : am_W → Prop} (hLaw : am_law Inv) (hI0 : Inv am_g0) {p : Program} {e : Env} {s : State} {m : MethodId} {below : List Frame} {meth : Method} {c : Code} (l : Launch) {b L : Nat} {xs : Nat → Int32} (hL : L ≤ 3072) (C0 : lw_At p s m meth c b L xs) : W p l e room_1 s m #[Value.ref b] below meth c s.heap [] 0 0 (lw_Z below #[Value.ref b] s) (entryFrame m ([Value.ref b] : List Value).toArray 4) := by
  obtain ⟨hx, hb, hr, hml, hown, hts0, hX, hbl, hlocks, hgv⟩ := id C0
  have hts : ∀ w ∈ am_T, w.before #[Value.ref b] s = true := fun w hw => hts0 w (List.mem_filter.mp hw).1
  have hNw : am_nw s := by
    intro w hw hn
    have hz := hts0 w hw
    cases w <;> first | exact va_Nw.of rfl hz | cases hn
  obtain ⟨⟨o1, o2, o3, o4⟩, o5, o6⟩ := am_w0_ao
  have hAo : am_ao s := ⟨va_AO.of (hts0 _ o1), va_AO.of (hts0 _ o2), va_AO.of (hts0 _ o3), va_AO.of (hts0 _ o4)⟩
  have hkn : ∀ k : Nat, ∃ x : ClassId × (Nat → Nat), ∀ q : vw_C, am_cl[k]? = some q → u_Kn s q.1 q.2.1 q.2.2 x.1 x.2 := by
    intro k
    cases hk : am_cl[k]? with
    | none => exact ⟨(0, fun _ => 0), fun q hq => by cases hq⟩
    | some q =>
      obtain ⟨cC, iS, h⟩ := u_known (C := q.1) (T := q.2.1) (N := q.2.2) (n := q.2.2) hts0 (fun w hw => ((am_cl_ok hk).1 w hw).1) (hts0 _ (am_ins hk))
      exact ⟨(cC, iS), fun q' hq => by cases hq; exact h⟩
  obtain ⟨c0, hc0⟩ := lw_arr (ty := .int) (fun _ h => by cases h) (hts0 _ o5)
  obtain ⟨c1, hc1⟩ := lw_arr (ty := .boolean) (fun _ h => by cases h) (hts0 _ o6)
  obtain ⟨c2, hc2⟩ := lw_arrO (hts0 _ o1)
  obtain ⟨c3, hc3⟩ := lw_arrO (hts0 _ o2)
  obtain ⟨c4, hc4⟩ := lw_arrO (hts0 _ o3)
  obtain ⟨c5, hc5⟩ := lw_arrO (hts0 _ o4)
  obtain ⟨cA, e0, e1, e2, e3, e4, e5⟩ : ∃ cA : Nat → ClassId, cA 0 = c0 ∧ cA 1 = c1 ∧ cA 2 = c2 ∧ cA 3 = c3 ∧ cA 4 = c4 ∧ cA 5 = c5 := ⟨fun t => match t with
    | 0 => c0
    | 1 => c1
    | 2 => c2
    | 3 => c3
    | 4 => c4
    | _ => c5, rfl, rfl, rfl, rfl, rfl, rfl⟩
  obtain ⟨D, hD0⟩ : ∃ D : va_G, ∀ (k : Nat) (q : vw_C), am_cl[k]? = some q → u_Kn s q.1 q.2.1 q.2.2 (D.1 k) (D.2 k) := ⟨(fun k => (hkn k).choose.1, fun k => (hkn k).choose.2), fun k q hq => (hkn k).choose_spec q hq⟩
  have hK : va_K D am_cl (am_ty cA) s := by
    refine ⟨hD0, fun k q hq => ?_⟩
    have hm := List.mem_of_getElem? hq
    simp only [am_ty, List.mem_cons, List.not_mem_nil, or_false] at hm
    rcases hm with rfl | rfl | rfl | rfl | rfl | rfl
    · rw [e0]; exact hc0
    · rw [e1]; exact hc1
    · rw [e2]; exact hc2
    · rw [e3]; exact hc3
    · rw [e4]; exact hc4
    · rw [e5]; exact hc5
  obtain ⟨⟨k1, k2⟩, ⟨k3, k4⟩, k5, k6⟩ := am_w0_lk
  have hA : ∀ q : Nat, s.heap.size ≤ q → (fun q : Nat => s.heap.size ≤ q) q := fun _ h => h
  have hS : va_S (fun q : Nat => s.heap.size ≤ q) s.heap s.heap [] := va_S.rf
  have hP : va_P D am_cl [] s.heap := fun k q h => by simp at h
  have hDD : va_D (fun q : Nat => s.heap.size ≤ q) [] := ⟨fun i j p q h => by simp at h, fun k q h => by simp at h⟩
  have hl := lv_entry ([.ref b]) (n := 4) (Nat.le_of_ble_eq_true rfl)
  rw [lg_entry_eq]
  generalize (lg_sl ([.ref b]) ++ List.replicate (4 - (lg_sl ([.ref b])).length) Slot.unset).toArray = ls at hl ⊢
  have hl : lv_has ls 4 [(0, .ref b)] := hl
  -- the system
  obtain ⟨ty10, hty10, hnm10⟩ := (am_cl_ok (ci := 10) (q := (RX10, TX10, 12)) rfl).2
  refine va_new (ci := 10) (C := RX10) (T := TX10) (N := 12) hx hb hts0 (fun w hw => ((am_cl_ok (ci := 10) (q := (RX10, TX10, 12)) rfl).1 w hw).1) ty10 hty10 hown (hts _ k3) (hts0 _ am_ins10) (hts _ k5) hK hP hDD hS hA rfl (fs := (am_dv 10).map (am_v (fun _ => 0))) (am_dv_at (q := (RX10, TX10, 12)) rfl hty10 (fun _ => 0)) (by decide) (by decide) dL_0 (fun q1 H1 hP hDD hS => ?_)
  refine lv_dup hx hb dL_3 rfl ?_
  have hq1 : s.heap.size ≤ q1 := hDD.2 0 _ rfl
  have hP1 : va_P D am_cl (am_lay (fun _ => q1) cA am_w0) H1 := hP
  refine am_ctorL (ρ := fun _ => q1) (g := am_w0) (q := 0) (cells := 0 + 1) (slots := 0 + 12) hx hb hml hown hts hK hNw hAo (fun i j hi hj _ => by simp only [am_w0, List.length_cons, List.length_nil] at hi hj; omega) (fun _ _ => hq1) (j := 10) (N := mX10_init) rfl am_o1_eq k1 (by decide +kernel) (rest := [.ref q1]) (show 1 ≤ 8 by decide) dL_4 hP1 hS hl.1 ⟨by decide, by decide⟩ ⟨by decide, by decide⟩ (fun ρ1 H2 locs2 hx1 hP2 hS2 => ?_)
  have hρ10 : ρ1 0 = q1 := hx1.1 0 (by decide)
  have hlo1 : ∀ k, k < 88 → s.heap.size ≤ ρ1 k := by
    intro k hk
    by_cases h0 : k < am_w0.length
    · rw [hx1.1 k h0]; exact hq1
    · exact Nat.le_trans hS.1 (hx1.2.2 k (Nat.le_of_not_lt h0) (by rw [am_w1_len]; exact hk))
  have hinj1 : am_inj ρ1 88 := by have := hx1.2.1; rwa [am_w1_len] at this
  refine lv_astore_n (lv' := [(1, .ref q1), (0, .ref b)]) hx hb dL_7 rfl hl (by decide) rfl (fun ls hl => ?_)
  -- the reference
  have hDD2 : va_D (fun q : Nat => s.heap.size ≤ q) (am_lay ρ1 cA (am_o1.getD [])) := (am_lay_D hinj1 am_w1_len).weaken (fun _ _ _ ⟨k, hk, hq⟩ => by rw [hq]; exact hlo1 k hk)
  obtain ⟨ty11, hty11, hnm11⟩ := (am_cl_ok (ci := 11) (q := (RX11, TX11, 23)) rfl).2
  refine va_new (ci := 11) (C := RX11) (T := TX11) (N := 23) hx hb hts0 (fun w hw => ((am_cl_ok (ci := 11) (q := (RX11, TX11, 23)) rfl).1 w hw).1) ty11 hty11 hown (hts _ k4) (hts0 _ am_ins11) (hts _ k6) hK hP2 hDD2 hS2 hA rfl (fs := (am_dv 11).map (am_v ρ1)) (am_dv_at (q := (RX11, TX11, 23)) rfl hty11 ρ1) (by decide) (by decide) dL_8 (fun q2 H3 hP3 hDD3 hS3 => ?_)
  refine lv_dup hx hb dL_11 rfl ?_
  have hlen1 : (am_lay ρ1 cA (am_o1.getD [])).length = 88 := by unfold am_lay; rw [List.length_mapIdx]; exact am_w1_len
  have hlast : (am_lay ρ1 cA (am_o1.getD []) ++ [(q2, (.inr (11, (am_dv 11).map (am_v ρ1)) : va_E))])[88]? = some (q2, .inr (11, (am_dv 11).map (am_v ρ1))) := by rw [List.getElem?_append_right (by rw [hlen1]; exact Nat.le_refl _), hlen1]; rfl
  have hq2 : s.heap.size ≤ q2 := hDD3.2 88 _ hlast
  have hne : ∀ k, k < 88 → ρ1 k ≠ q2 := by
    intro k hk hq
    have hkl : k < (am_o1.getD []).length := by rw [am_w1_len]; exact hk
    have hat : (am_lay ρ1 cA (am_o1.getD []) ++ [(q2, (.inr (11, (am_dv 11).map (am_v ρ1)) : va_E))])[k]? = some (ρ1 k, am_e ρ1 cA ((am_o1.getD [])[k])) := by
      rw [List.getElem?_append_left (by rw [hlen1]; exact hk)]
      exact am_lay_at (List.getElem?_eq_getElem hkl)
    have := hDD3.1 k 88 _ _ hat hlast hq
    omega
  obtain ⟨ρ2, hρ2⟩ : ∃ ρ2 : Nat → Nat, ρ2 = fun k => if k = 88 then q2 else ρ1 k := ⟨_, rfl⟩
  have hρ2a : ∀ k, k < 88 → ρ2 k = ρ1 k := fun k hk => by rw [hρ2]; exact if_neg (Nat.ne_of_lt hk)
  have hρ2b : ρ2 88 = q2 := by rw [hρ2]; exact if_pos rfl
  have hP3' : va_P D am_cl (am_lay ρ2 cA am_w1) H3 := by
    unfold am_w1
    rw [am_lay_push, am_lay_ext (ρ := ρ1) (by rw [am_w1_len]; exact hρ2a) (by rw [am_w1_len]; exact am_w1_wf), am_w1_len, hρ2b]
    have hmap : am_e ρ2 cA (.inr (11, am_dv 11)) = .inr (11, (am_dv 11).map (am_v ρ1)) := by
      show (.inr (11, (am_dv 11).map (am_v ρ2)) : va_E) = _
      congr 2
    rw [hmap]
    exact hP3
  have hl1 : am_w1.length = 89 := by unfold am_w1; rw [List.length_append, am_w1_len]; rfl
  have hinj2 : am_inj ρ2 am_w1.length := by
    rw [hl1]
    intro i j hi hj hij
    by_cases h1 : i = 88
    · by_cases h2 : j = 88
      · omega
      · rw [h1, hρ2b, hρ2a j (by omega)] at hij
        exact absurd hij.symm (hne j (by omega))
    · by_cases h2 : j = 88
      · rw [h2, hρ2b, hρ2a i (by omega)] at hij
        exact absurd hij (hne i (by omega))
      · rw [hρ2a i (by omega), hρ2a j (by omega)] at hij
        exact hinj1 i j (by omega) (by omega) hij
  have hlo2 : ∀ k, k < am_w1.length → s.heap.size ≤ ρ2 k := by
    rw [hl1]
    intro k hk
    by_cases h1 : k = 88
    · rw [h1, hρ2b]; exact hq2
    · rw [hρ2a k (by omega)]; exact hlo1 k (by omega)
  have hgo := @am_ctorL p l e room_1 s m below meth c #[Value.ref b] cA D (0 + 1 + am_nc 10 + 1) (0 + 12 + 2000 * am_nc 10 + 23) (lw_Z below #[Value.ref b] s) hx hb hml hown hts hK hNw hAo ρ2 am_w1 am_g0 hinj2 hlo2 11 12 88 12 mX11_init rfl am_o2_eq k2 (by decide +kernel) H3 locs2 ls [.ref q2] (show 1 ≤ 8 by decide) dL_12 hP3' hS3 hl.1 ⟨by decide, by decide⟩ ⟨by decide, by decide⟩
  rw [hρ2b] at hgo
  refine hgo (fun ρ3 H4 locs4 hx3 hP4 hS4 => ?_)
  rw [hl1, am_g0_len] at hx3
  have hρ30 : ρ3 0 = q1 := by rw [hx3.1 0 (by decide), hρ2a 0 (by decide)]; exact hρ10
  have hρ388 : ρ3 88 = q2 := by rw [hx3.1 88 (by decide)]; exact hρ2b
  have hlo3 : ∀ k, k < 107 → s.heap.size ≤ ρ3 k := by
    intro k hk
    by_cases h0 : k < 89
    · rw [hx3.1 k h0]; exact hlo2 k (by rw [hl1]; exact h0)
    · exact Nat.le_trans hS3.1 (hx3.2.2 k (Nat.le_of_not_lt h0) hk)
  refine lv_astore_n (lv' := [(2, .ref q2), (1, .ref q1), (0, .ref b)]) hx hb dL_15 rfl hl (by decide) rfl (fun ls hl => ?_)
  refine lv_iconst (v := 0) hx hb dL_16 (by decide) ?_
  refine lv_istore_n (lv' := [(3, .int 0), (2, .ref q2), (1, .ref q1), (0, .ref b)]) hx hb dL_17 rfl hl (by decide) rfl (fun ls hl => ?_)
  have hl' := lv_sub hl [3, 2, 1, 0] (l' := [(0, .ref b), (1, .ref q1), (2, .ref q2), (3, .int 0)]) rfl
  rw [← hρ30, ← hρ388] at hl'
  exact law_loop hLaw ⟨hx, hb, hml, hown, hts, hK, hNw, hX, hbl, hx3.2.1, hlo3⟩ hr hlocks hL ⟨by decide, by decide⟩ (L + 1) 0 (by omega) (by omega) am_g0 H4 locs4 ls am_g0_len hI0 hP4 hS4 hl'
