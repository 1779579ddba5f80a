section AMN
variable {p : Program} {l : Launch} {e : Env} {R : Room} {s : State} {m : MethodId} {args : Array Value} {below : List Frame} {meth : Method} {c : Code}
variable {M : am_M} {ρ0 : Nat → Nat} {cA : Nat → ClassId} {D : va_G} {n0 : Nat} {mt nt : Nat → Option am_M} {nc : Nat → Nat} {Qr : am_R → State → Prop}
def am_good2 (p : Program) (l : Launch) (e : Env) (R : Room) (s : State) (m : MethodId) (args : Array Value) (below : List Frame) (meth : Method) (c : Code) (M : am_M) (ρ0 : Nat → Nat) (cA : Nat → ClassId) (D : va_G) (n0 lim : Nat) (Qr : am_R → State → Prop) (K : am_K) : Prop :=
  ∀ (pc : Nat) (L : am_L) (st : List Value) (g : am_W) (r : am_R), K pc L st g = some r → g.length ≤ lim → n0 ≤ g.length → ∀ (ρ : Nat → Nat), am_ext ρ0 ρ n0 g.length s.heap.size → ∀ (H : Heap) (locs : List Loc) (ls : Array Slot), va_P D am_cl (am_lay ρ cA g) H → va_S (am_A0 ρ0 n0 s.heap.size) s.heap H locs → am_lh ρ ls M.2.2.1 L → W p l e R s m args below meth c H locs (g.length - n0) (2000 * (g.length - n0)) (Qr r) (F0 m pc ls (st.map (am_v ρ)))
theorem am_A_A0 {ρ : Nat → Nat} {n sz : Nat} (hx : am_ext ρ0 ρ n0 n sz) : ∀ q, am_A ρ n q → am_A0 ρ0 n0 sz q := by
  intro q ⟨k, hk, hq⟩
  by_cases h : k < n0
  · exact Or.inl ⟨k, h, by rw [hq, hx.1 k h]⟩
  · exact Or.inr (by rw [hq]; exact hx.2.2 k (Nat.le_of_not_lt h) hk)
/-- a new cell goes on -/
theorem am_born {lim : Nat} {K : am_K} (hK : am_good2 p l e R s m args below meth c M ρ0 cA D n0 lim Qr K) {pc N q : Nat} {L : am_L} {st : List Value} {g : am_W} {r : am_R} {ce : am_C} {ew : va_E} (h : K pc L (.ref g.length :: st) (g ++ [ce]) = some r) (hw : am_wf L st g = true) (hlt : g.length < lim) (hn0 : n0 ≤ g.length) {ρ : Nat → Nat} (hx : am_ext ρ0 ρ n0 g.length s.heap.size) (he : ∀ ρ', am_e ρ' cA ce = ew) (hN : N ≤ 2000)
    {H1 : Heap} {locs : List Loc} {ls : Array Slot} (a1 : va_P D am_cl (am_lay ρ cA g ++ [(q, ew)]) H1) (a2 : va_D (am_A0 ρ0 n0 s.heap.size) (am_lay ρ cA g ++ [(q, ew)])) (a3 : va_S (am_A0 ρ0 n0 s.heap.size) s.heap H1 locs) (hl : am_lh ρ ls M.2.2.1 L) :
    W p l e R s m args below meth c H1 locs (g.length - n0 + 1) (2000 * (g.length - n0) + N) (Qr r) (F0 m pc ls (.ref q :: st.map (am_v ρ))) := by
  unfold am_wf at hw
  simp only [Bool.and_eq_true] at hw
  obtain ⟨⟨w1, w2⟩, w3⟩ := hw
  have hlen : (am_lay ρ cA g).length = g.length := by unfold am_lay; exact List.length_mapIdx
  have hlast : (am_lay ρ cA g ++ [(q, ew)])[g.length]? = some (q, ew) := by rw [List.getElem?_append_right (by rw [hlen]; exact Nat.le_refl _), hlen]; simp
  have hne : ∀ k, k < g.length → ρ k ≠ q := by
    intro k hk hq
    have hat : (am_lay ρ cA g ++ [(q, ew)])[k]? = some (ρ k, am_e ρ cA (g[k])) := by
      rw [List.getElem?_append_left (by rw [hlen]; exact hk)]
      exact am_lay_at (List.getElem?_eq_getElem hk)
    have := a2.1 k g.length _ _ hat hlast hq
    omega
  have hq : s.heap.size ≤ q := by
    rcases a2.2 _ _ hlast with ⟨k, hk, hkq⟩ | hq
    · exact absurd (by rw [hx.1 k hk]; exact hkq.symm) (hne k (Nat.lt_of_lt_of_le hk hn0))
    · exact hq
  have hρ : ∀ k, k < g.length → (fun k => if k = g.length then q else ρ k) k = ρ k := fun k hk => if_neg (Nat.ne_of_lt hk)
  have hx' : am_ext ρ0 (fun k => if k = g.length then q else ρ k) n0 (g ++ [ce]).length s.heap.size := by
    refine ⟨fun k hk => ?_, fun i j hi hj hij => ?_, fun k h1 h2 => ?_⟩
    · rw [hρ k (Nat.lt_of_lt_of_le hk hn0)]
      exact hx.1 k hk
    · rw [List.length_append] at hi hj
      simp only [List.length_cons, List.length_nil] at hi hj
      dsimp only at hij
      by_cases e1 : i = g.length
      · by_cases e2 : j = g.length
        · omega
        · rw [if_pos e1, if_neg e2] at hij
          exact absurd hij.symm (hne j (by omega))
      · by_cases e2 : j = g.length
        · rw [if_neg e1, if_pos e2] at hij
          exact absurd hij (hne i (by omega))
        · rw [if_neg e1, if_neg e2] at hij
          exact hx.2.1 i j (by omega) (by omega) hij
    · rw [List.length_append] at h2
      simp only [List.length_cons, List.length_nil] at h2
      dsimp only
      by_cases e1 : k = g.length
      · rw [if_pos e1]; exact hq
      · rw [if_neg e1]; exact hx.2.2 k h1 (by omega)
  have hP' : va_P D am_cl (am_lay (fun k => if k = g.length then q else ρ k) cA (g ++ [ce])) H1 := by
    rw [am_lay_push, am_lay_ext hρ w3, he, if_pos rfl]
    exact a1
  have hW := hK pc L (.ref g.length :: st) (g ++ [ce]) r h (by rw [List.length_append]; simp only [List.length_cons, List.length_nil]; omega) (by rw [List.length_append]; omega) _ hx' H1 locs ls hP' a3 (am_lh_ext hρ w1 hl)
  rw [List.length_append, show g.length + [ce].length - n0 = g.length - n0 + 1 by simp only [List.length_cons, List.length_nil]; omega] at hW
  rw [List.map_cons, am_st_ext hρ w2] at hW
  have e2 : am_v (fun k => if k = g.length then q else ρ k) (.ref g.length) = .ref q := by
    show Value.ref (if g.length = g.length then q else ρ g.length) = .ref q
    rw [if_pos rfl]
  rw [e2] at hW
  exact W.widen (Nat.le_refl _) (by omega) hW
theorem am_dv_len {a : Nat} {q : vw_C} (h : am_cl[a]? = some q) : (am_dv a).length = q.2.2 := by
  obtain ⟨C, T, N⟩ := q
  unfold am_dv
  rw [h]
  simp
theorem am_dv_at {a : Nat} {q : vw_C} (h : am_cl[a]? = some q) {ty0 : Nat → FieldType} (hty : ∀ k, k < q.2.2 → parseFieldDescriptor (q.2.1 k).2.2.1 = some (ty0 k)) (ρ : Nat → Nat) : ∀ j, j < q.2.2 → defaultValue (ty0 j) = vp_V ((am_dv a).map (am_v ρ)) j := by
  obtain ⟨C, T, N⟩ := q
  intro j hj
  have hty' := hty j hj
  unfold am_dv vp_V
  rw [h]
  dsimp only at hty' hj ⊢
  rw [List.getD_eq_getElem?_getD, List.getElem?_map, List.getElem?_map, List.getElem?_range hj]
  simp only [Option.map_some, Option.getD_some]
  rw [hty']
  cases ty0 j <;> rfl
theorem am_goW2 {cells slots mc ms pc n : Nat} {A : Nat → Prop} {Q : State → Prop} {ρ : Nat → Nat} {H : Heap} {locs : List Loc} {ls : Array Slot} {st0 rest : List Value} {g' : am_W} {a : Array Value} (hr : va_Run p l e R s m args below meth c H locs cells slots mc ms (F0 m pc ls st0) rest (am_Q2 ρ cA D n H.size g' a) (am_A0 ρ n H.size)) (hA : ∀ q, am_A0 ρ n H.size q → A q) (hS : va_S A s.heap H locs)
    (kk : ∀ (ρ' : Nat → Nat) (H1 : Heap) (locs1 : List Loc), am_ext ρ ρ' n g'.length H.size → va_P D am_cl (am_lay ρ' cA g') H1 → va_S A s.heap H1 locs1 → W p l e R s m args below meth c H1 locs1 (cells + mc) (slots + ms) Q (F0 m (pc + 3) ls rest)) : W p l e R s m args below meth c H locs cells slots Q (F0 m pc ls st0) := by
  intro T hT X
  obtain ⟨v, st₀, t, T', L, h0, X', hL, e1, e2, ⟨hv, ⟨ρ', hx', hp⟩, hz, hk⟩, st⟩ := hr T hT X
  cases hv
  rw [h0] at hz hk
  obtain ⟨t2, a1, b1⟩ := kk ρ' T'.heap (locs ++ L) hx' (by rw [e1]; exact hp)
    ⟨Nat.le_trans hS.1 (by rw [e1]; exact hz), fun q h1 h2 => by rw [e1, hk q (Nat.lt_of_lt_of_le h1 hS.1) (fun z => h2 (hA q z))]; exact hS.2.1 q h1 h2, fun q hq => by
      rcases List.mem_append.mp hq with h | h
      · exact hS.2.2 q h
      · exact hA _ (hL q h)⟩ T' rfl X'
  exact ⟨t2, st t2 a1, b1⟩
def am_cx2 (p : Program) (s : State) (m : MethodId) (args : Array Value) (meth : Method) (c : Code) (M : am_M) (cA : Nat → ClassId) (D : va_G) : Prop :=
  p.tables.exec = Jvm.exec ∧ c.code = M.2.1 ∧ c.maxLocals = M.2.2.1 ∧ s.vm.findClass M.1.cls = some m.cls ∧ (∀ w ∈ am_ws M, w.before args s = true) ∧ va_K D am_cl (am_ty cA) s ∧ am_nw s ∧ meth.locks = false ∧ meth.sig.returnType = M.2.2.2.1 ∧ am_ao s ∧ meth.name = "<init>" ∧ M.2.2.2.1 = none
theorem am_tyA {cA : Nat → ClassId} {U : State} (hK : va_K D am_cl (am_ty cA) U) {t : Nat} {ty : FieldType} (ht : (am_ty cA)[t]? = some (cA t, ty)) {cB : ClassId} (hK2 : va_K D am_cl (am_ty cA ++ [(cB, ty)]) U) : cB = cA t := by
  have h1 := (hK.2 t _ ht).2
  have h2 := (hK2.2 (am_ty cA).length (cB, ty) (by rw [List.getElem?_append_right (Nat.le_refl _)]; simp)).2
  cases ty with
  | object C =>
    obtain ⟨_, _, -, -, -, q1⟩ := h1
    obtain ⟨_, _, -, -, -, q2⟩ := h2
    exact Option.some.inj (q2.symm.trans q1)
  | _ => exact Option.some.inj (h2.symm.trans h1)
theorem am_elty {cA : Nat → ClassId} {t : Nat} {q : vw_C} (ht : t < 6) (hc : am_cl[am_el t]? = some q) : (am_ty cA)[t]? = some (cA t, .object q.1) := by
  rcases (show t = 0 ∨ t = 1 ∨ t = 2 ∨ t = 3 ∨ t = 4 ∨ t = 5 by omega) with rfl | rfl | rfl | rfl | rfl | rfl
  · cases hc
  · cases hc
  · cases hc; rfl
  · cases hc; rfl
  · cases hc; rfl
  · cases hc; rfl
theorem am_aoC {U : State} (h : am_ao U) {t : Nat} {q : vw_C} (ht : t < 6) (hc : am_cl[am_el t]? = some q) : va_AO q.1 U := by
  rcases (show t = 0 ∨ t = 1 ∨ t = 2 ∨ t = 3 ∨ t = 4 ∨ t = 5 by omega) with rfl | rfl | rfl | rfl | rfl | rfl
  · cases hc
  · cases hc
  · cases hc; exact h.1
  · cases hc; exact h.2.1
  · cases hc; exact h.2.2.1
  · cases hc; exact h.2.2.2
theorem am_putFW {pc cells slots : Nat} {A : Nat → Prop} {Q : State → Prop} {ρ : Nat → Nat} {g : am_W} {H : Heap} {locs : List Loc} {ls : Array Slot} {rest : List Value} (X : am_cx p s m args meth c M ρ cA D g.length) (hname : meth.name = "<init>") (hP : va_P D am_cl (am_lay ρ cA g) H) (hA : ∀ q, am_A ρ g.length q → A q) (hS : va_S A s.heap H locs) {q ci k kd idx : Nat} {tl : List (Int × Nat)} {fs : List Value} {v : Value} {ty : FieldType} {ins : Instr} (he : g[q]? = some (.inr (ci, fs))) (hl : k < fs.length) (hc : (am_fchk2 M.1.cls idx (ins, ci, k, kd, tl) && am_pchk2 M.1.cls (ins, ci, k, kd, tl)) = true)
    (hfin : ∀ C T N, am_cl[ci]? = some (C, T, N) → (T k).2.2.2 = true ∧ (T k).1 = M.1.cls ∧ parseFieldDescriptor (T k).2.2.1 = some ty) (hn : narrow ty (am_v ρ v) = am_v ρ v) (hfit : fits ty (am_v ρ v) = true) (hd : decode M.2.1 pc = .ok (.putfield idx, 3))
    (kk : ∀ (H1 : Heap) (locs1 : List Loc), va_P D am_cl (am_lay ρ cA (g.set q (.inr (ci, fs.set k v)))) H1 → va_S A s.heap H1 locs1 → W p l e R s m args below meth c H1 locs1 cells slots Q (F0 m (pc + 3) ls rest)) : W p l e R s m args below meth c H locs cells slots Q (F0 m pc ls (am_v ρ v :: .ref (ρ q) :: rest)) := by
  obtain ⟨hx, hb, -, hown, hts, hK, hN, -, -, hρ⟩ := X
  have he' : (am_lay ρ cA g)[q]? = some (ρ q, .inr (ci, fs.map (am_v ρ))) := am_lay_at he
  have hD := (am_lay_D (cA := cA) hρ rfl).weaken (fun _ _ _ h => hA _ h)
  have hl' : k < (fs.map (am_v ρ)).length := by rw [List.length_map]; exact hl
  have e1 : (am_lay ρ cA g).set q (ρ q, .inr (ci, (fs.map (am_v ρ)).set k (am_v ρ v))) = am_lay ρ cA (g.set q (.inr (ci, fs.set k v))) := by
    rw [← am_lay_set]
    show _ = (am_lay ρ cA g).set q (ρ q, .inr (ci, (fs.set k v).map (am_v ρ)))
    rw [List.map_set]
  simp only [Bool.and_eq_true] at hc
  have hc1 := hc.1
  unfold am_fchk2 at hc1
  dsimp only at hc1
  split at hc1
  · rename_i C T N hcl
    obtain ⟨hf, hdc, hp⟩ := hfin C T N hcl
    obtain ⟨ty0, hty, hnm⟩ := (am_cl_ok hcl).2
    simp only [Bool.and_eq_true, decide_eq_true_eq] at hc1
    exact va_putF hx hb hts (am_cl_in hcl M) ty0 hty hnm hown hK hP hD hS q he' hcl k hc1.1 (hts _ (List.mem_cons_of_mem _ (am_in_T hc1.2 rfl))) (fun _ h => h) hf hname hdc hp hn hfit hl' hd (fun H1 locs1 a1 _ a3 => kk H1 locs1 (e1 ▸ a1) a3)
  · cases hc1
set_option maxHeartbeats 16000000 in
theorem am_sim_ex2 (X2 : am_cx2 p s m args meth c M cA D) {d lim mc : Nat} (hR : R = am_rm2 (d + 1) mc) (hlim : lim = n0 + mc) (hm : am_met l mt 4) (hm2 : am_met2 l mt nt nc d) (hmt : ∀ j N, mt j = some N → am_mfacts N) (hnt : ∀ j N, nt j = some N → am_nfacts N) {K : am_K} (hK : am_good2 p l e R s m args below meth c M ρ0 cA D n0 lim Qr K)
    {pc : Nat} {L : am_L} {st : List Value} {g : am_W} {r : am_R} {i : am_I} (h : am_ex2 (am_ev mt 4) (am_new mt nt nc d) nc lim K i pc L st g = some r) (hck0 : am_chkD M.2.1 pc i.1 = true) (hrc : am_rchk M.2.2.2.1 i.1 = true) (hck : am_chk2 M.1.cls mt nt pc i = true) (hsys : am_sysP) (hsys2 : am_sysP2)
    (hEnd : ∀ (pc : Nat) (g : am_W) (ρ : Nat → Nat), g.length = lim → am_ext ρ0 ρ n0 g.length s.heap.size → ∀ (H : Heap) (locs : List Loc) (ls : Array Slot), va_P D am_cl (am_lay ρ cA g) H → va_S (am_A0 ρ0 n0 s.heap.size) s.heap H locs → decode M.2.1 pc = .ok (.return_, 1) → W p l e R s m args below meth c H locs mc (2000 * mc) (Qr (none, g)) (F0 m pc ls []))
    (hn0 : n0 ≤ g.length) {ρ : Nat → Nat} (hxt : am_ext ρ0 ρ n0 g.length s.heap.size) {H : Heap} {locs : List Loc} {ls : Array Slot} (hP : va_P D am_cl (am_lay ρ cA g) H) (hS : va_S (am_A0 ρ0 n0 s.heap.size) s.heap H locs) (hl : am_lh ρ ls M.2.2.1 L) (hle : g.length ≤ lim) : W p l e R s m args below meth c H locs (g.length - n0) (2000 * (g.length - n0)) (Qr r) (F0 m pc ls (st.map (am_v ρ))) := by
  have hD0 : ∃ ln, decode M.2.1 pc = .ok (i.1, ln) ∧ (am_sww i.1 = false → ln = am_len i.1) := by
    unfold am_chkD at hck0
    split at hck0
    · rename_i jj ln hdec
      simp only [Bool.and_eq_true, Bool.or_eq_true, decide_eq_true_eq] at hck0
      refine ⟨ln, by rw [hdec, hck0.1], fun hs => ?_⟩
      rcases hck0.2 with q | q
      · rw [q] at hs; cases hs
      · exact q
    · cases hck0
  have hd : am_sww i.1 = false → decode M.2.1 pc = .ok (i.1, am_len i.1) := fun hs => by
    obtain ⟨ln, q1, q2⟩ := hD0
    rw [q1, q2 hs]
  have X20 := X2
  obtain ⟨hx, hb, hml, hown, hts, hKK, hNw, hlk, hr, hAo, hname, hret⟩ := X2
  have X0 : am_cx p s m args meth c M ρ cA D g.length := ⟨hx, hb, hml, hown, hts, hKK, hNw, hlk, hr, hxt.2.1⟩
  have hAA := am_A_A0 hxt
  have hDD := (am_lay_D (cA := cA) hxt.2.1 rfl).weaken (fun _ _ _ h => hAA _ h)
  have hAh : ∀ q, s.heap.size ≤ q → am_A0 ρ0 n0 s.heap.size q := fun q h => Or.inr h
  have hw : ∀ w ∈ am_T, w.before args s = true := fun w hw => hts w (List.mem_cons_of_mem _ hw)
  have hcl0 : g.length - n0 ≤ R.cells ∧ 2000 * (g.length - n0) ≤ R.slots := by
    subst hR
    refine ⟨?_, ?_⟩
    · show _ ≤ mc; omega
    · show _ ≤ 2000 * mc; omega
  have hgood : am_good p l e R s m args below meth c M ρ cA D g.length (am_A0 ρ0 n0 s.heap.size) (g.length - n0) (2000 * (g.length - n0)) Qr K := by
    intro pc' L' st' g1 r' hk hg1 H1 locs1 ls1 b1 b2 b3
    have := hK pc' L' st' g1 r' hk (by rw [hg1]; exact hle) (by rw [hg1]; exact hn0) ρ (by rw [hg1]; exact hxt) H1 locs1 ls1 b1 b2 b3
    rwa [hg1] at this
  have gow : ∀ {pc' : Nat} {st' : List Value} {g' : am_W} {H1 : Heap} {locs1 : List Loc}, K pc' L st' g' = some r → g'.length = g.length → va_P D am_cl (am_lay ρ cA g') H1 → va_S (am_A0 ρ0 n0 s.heap.size) s.heap H1 locs1 → W p l e R s m args below meth c H1 locs1 (g.length - n0) (2000 * (g.length - n0)) (Qr r) (F0 m pc' ls (st'.map (am_v ρ))) := fun h' hlen a1 a2 => hgood _ _ _ _ _ h' hlen _ _ _ a1 a2 hl
  have old : ∀ (h' : am_ex false (am_ev mt 4) K i pc L st g = some r) (hc' : am_chk M.1.cls mt pc i = true) (hn1 : i.1 ≠ .return_), W p l e R s m args below meth c H locs (g.length - n0) (2000 * (g.length - n0)) (Qr r) (F0 m pc ls (st.map (am_v ρ))) := by
    intro h' hc' hn1
    have h'' := am_ex_mo false i pc L st g _ (am_cal mt 4) K K (am_ev_cal mt 4) (fun _ _ _ _ _ q => q) r h'
    have hdd : (decide (M.2.2.2.1 = some .boolean)) = false := by rw [hret]; rfl
    rw [← hdd] at h''
    refine am_sim_ex X0 ⟨by subst hR; show 4 + 2 ≤ d + 1 + 8; omega, by subst hR; show 64 * (4 + 2) ≤ 64 * (d + 1 + 8); omega, hcl0.1, hcl0.2⟩ hAA hm hmt hgood h'' hck0 hrc hc' (Or.inl hret) hsys ?_ ?_ rfl hP hS hl
    · intro x g1 _ H1 locs1 ls1 _ _ hq _
      rcases hq with q | q
      · rw [hret] at q; cases q
      · rw [hret] at q; cases q.1
    · intro g1 _ H1 locs1 ls1 _ _ _ hdec
      obtain ⟨ln, q1, -⟩ := hD0
      rw [q1] at hdec
      have := (Prod.mk.inj (Except.ok.inj hdec)).1
      exact absurd this hn1
  obtain ⟨ins, a, b, kd, tl⟩ := i
  cases ins with
  | new k =>
    dsimp only [am_ex2] at h
    obtain ⟨hc, h⟩ := am_if_some h
    simp only [Bool.and_eq_true] at hc
    obtain ⟨⟨hc1, hc2⟩, hc3⟩ := hc
    have hlt : g.length < lim := Nat.le_of_ble_eq_true hc2
    simp only [am_chk2] at hck
    split at hck
    · rename_i C T N hcl
      simp only [Bool.and_eq_true] at hck
      obtain ⟨ty0, hty, hnm⟩ := (am_cl_ok hcl).2
      have hN : N ≤ 2000 := by
        have := Nat.le_of_ble_eq_true hc3
        rw [am_dv_len hcl] at this
        exact this
      refine va_new hx hb hts (am_cl_in hcl M) ty0 hty hown (hw _ (am_in_T hck.1.1 rfl)) (hw _ (am_in_T hck.1.2 rfl)) (hw _ (am_in_T hck.2 rfl)) hKK hP hDD hS hAh hcl (fs := (am_dv a).map (am_v ρ)) (am_dv_at hcl hty ρ) ?_ ?_ (hd rfl) (fun q H1 a1 a2 a3 => ?_)
      · subst hR; show _ ≤ mc; omega
      · subst hR; show 2000 * (g.length - n0) + N ≤ 2000 * mc; omega
      · have hmap : ∀ ρ' : Nat → Nat, (am_dv a).map (am_v ρ') = (am_dv a).map (am_v ρ) := by
          intro ρ'
          refine List.map_congr_left (fun v hv => ?_)
          unfold am_dv at hv
          rw [hcl] at hv
          obtain ⟨j, -, hj⟩ := List.mem_map.mp hv
          subst hj
          split
          · rename_i t _
            cases t <;> rfl
          · rfl
        exact am_born (ce := .inr (a, am_dv a)) hK h hc1 hlt hn0 hxt (fun ρ' => by show (.inr (a, (am_dv a).map (am_v ρ')) : va_E) = _; rw [hmap ρ']) hN a1 a2 a3 hl
    · cases hck
  | newarray ty =>
    dsimp only [am_ex2] at h
    split at h
    · rename_i nn r'
      obtain ⟨hc, h⟩ := am_if_some h
      simp only [Bool.and_eq_true] at hc
      obtain ⟨⟨hc1, hc2⟩, hc3⟩ := hc
      have hlt : g.length < lim := Nat.le_of_ble_eq_true hc2
      have hN := Nat.le_of_ble_eq_true hc3
      split at h
      · cases h
      · rename_i hneg
        split at h
        · refine va_newa (atype := .int) (a0 := (nn.toNatClampNeg, .inl (fun _ => 0))) hx hb (hw _ (am_in_T hck rfl)) rfl hKK hP hDD hS hAh (fun _ => rfl) hneg rfl (by show _ * 4 ≤ _; omega) ?_ ?_ (hd rfl) (fun q cB H1 k1 a1 a2 a3 => ?_)
          · subst hR; show _ ≤ mc; omega
          · subst hR; show _ ≤ 2000 * mc; omega
          · have hcB : cB = cA 0 := am_tyA hKK (t := 0) rfl k1
            subst hcB
            exact am_born (ce := .inl (0, nn.toNatClampNeg, .inl (fun _ => 0))) hK h hc1 hlt hn0 hxt (fun _ => rfl) hN a1 a2 a3 hl
        · refine va_newa (atype := .boolean) (a0 := (nn.toNatClampNeg, .inl (fun _ => 0))) hx hb (hw _ (am_in_T hck rfl)) rfl hKK hP hDD hS hAh (fun _ => rfl) hneg rfl (by show _ * 1 ≤ _; omega) ?_ ?_ (hd rfl) (fun q cB H1 k1 a1 a2 a3 => ?_)
          · subst hR; show _ ≤ mc; omega
          · subst hR; show _ ≤ 2000 * mc; omega
          · have hcB : cB = cA 1 := am_tyA hKK (t := 1) rfl k1
            subst hcB
            exact am_born (ce := .inl (1, nn.toNatClampNeg, .inl (fun _ => 0))) hK h hc1 hlt hn0 hxt (fun _ => rfl) hN a1 a2 a3 hl
        · cases h
    · cases h
  | anewarray k =>
    dsimp only [am_ex2] at h
    split at h
    · rename_i nn r'
      obtain ⟨hc, h⟩ := am_if_some h
      simp only [Bool.and_eq_true] at hc
      obtain ⟨⟨⟨hc1, hc2⟩, hc3⟩, hc4, hc5⟩ := hc
      have hlt : g.length < lim := Nat.le_of_ble_eq_true hc2
      have hN := Nat.le_of_ble_eq_true hc3
      have ht6 : a < 6 := Nat.le_of_ble_eq_true hc5
      split at h
      · cases h
      · rename_i hneg
        simp only [am_chk2] at hck
        split at hck
        · rename_i C T N hcl
          refine va_newq (C := C) hx hb hown (hw _ (am_in_T hck rfl)) (am_aoC hAo ht6 hcl) hKK hP hDD hS hAh hneg rfl (by omega) ?_ ?_ (hd rfl) (fun q cB H1 k1 a1 a2 a3 => ?_)
          · subst hR; show _ ≤ mc; omega
          · subst hR; show _ ≤ 2000 * mc; omega
          · have hcB : cB = cA a := am_tyA hKK (t := a) (am_elty ht6 hcl) k1
            subst hcB
            refine am_born (ce := .inl (a, nn.toNatClampNeg, .inr (fun _ => none))) hK h hc1 hlt hn0 hxt (fun _ => ?_) hN a1 a2 a3 hl
            show (.inl (cA a, nn.toNatClampNeg, .inr (.inr (.inr (.inr (fun j => if j < nn.toNatClampNeg then none else none))))) : va_E) = _
            congr
            funext j
            split <;> rfl
        · cases hck
    · cases h
  | invokespecial k =>
    dsimp only [am_ex2] at h
    simp only [am_chk2] at hck
    cases h9 : Nat.beq a 990 with
    | true =>
      rw [h9] at h
      rw [if_pos (Nat.eq_of_beq_eq_true h9)] at hck
      unfold am_if am_b3 am_b2 am_b1 am_b0 at h
      dsimp only at h
      split at h
      · rename_i q r'
        obtain ⟨hroom, h⟩ := am_if_some h
        have hsum := Nat.le_of_ble_eq_true hroom
        refine W.objInit hx hb hown (hw _ (am_in_T hck rfl)) (hw _ hsys2.1) (hw _ hsys2.2) rfl (by rw [hml]; exact hl.1) rfl (hd rfl) ?_ ?_ (gow h rfl hP hS)
        · subst hR; show 1 ≤ d + 1 + 8; omega
        · rw [am_v_cats]
          subst hR
          show 2 * 0 + _ + 12 ≤ 64 * (d + 1 + 8)
          omega
      · cases h
    | false =>
      rw [h9] at h
      rw [if_neg (Nat.ne_of_beq_eq_false h9)] at hck
      replace h := (show am_if _ _ none = some r from h)
      obtain ⟨hc, h⟩ := am_if_some h
      simp only [Bool.and_eq_true] at hc
      obtain ⟨⟨⟨w1, w2⟩, w3⟩, w4⟩ := hc
      have hk := Nat.le_of_ble_eq_true w2
      have hroom := Nat.le_of_ble_eq_true w3
      have hlm := Nat.le_of_ble_eq_true w4
      obtain ⟨g', hnew, h2⟩ := Option.bind_eq_some_iff.mp h
      obtain ⟨hlen', h2⟩ := am_if_some h2
      have hlg := Nat.eq_of_beq_eq_true hlen'
      split at hck
      · rename_i N hN
        simp only [Bool.and_eq_true, Bool.or_eq_true, decide_eq_true_eq] at hck
        obtain ⟨f1, f2, f3, f4, f5, f6, f7, f8⟩ := hnt a N hN
        have hmet := hm2 a _ g g' N hN hnew ρ cA D H.size hxt.2.1
        obtain ⟨y, bytes, maxL, ret, ci, cdd⟩ := N
        dsimp only at f1 f2 f3 f4 f5 f6 f7 f8 hck hmet
        subst f6
        cases d with
        | zero => cases hnew
        | succ d =>
        have hgT := am_good_T (y, bytes, maxL, none, ci, cdd) f2 M
        have hini : (Cond.initialized y.cls).before args s = true := hw _ (List.mem_filter.mpr ⟨f3, rfl⟩)
        have hinst : (Cond.instanceMethod y).before args s = true := hw _ (List.mem_filter.mpr ⟨f8, rfl⟩)
        have hstk : st.map (am_v ρ) = (((st.take b).reverse).map (am_v ρ)).reverse ++ (st.drop b).map (am_v ρ) := by
          rw [← List.map_reverse, List.reverse_reverse, ← List.map_append, List.take_append_drop]
        have hlenb : ((st.take b).reverse).length = b := by rw [List.length_reverse, List.length_take]; omega
        have hroom' : (((st.drop b).map (am_v ρ)).map fun v => v.category).sum ≤ 8 := by rw [am_v_cats]; exact hroom
        have hpre : ∀ U : State, U.heap = H → s.WarmedH U.vm → am_Pc2 ρ cA D (st.take b).reverse g H.size ((st.take b).reverse.map (am_v ρ)).toArray U := fun U hU hW => ⟨rfl, by rw [hU], by rw [hU]; exact hP, va_K.moved hW.alike hKK, am_nw.warm hW hNw, am_ao.moved hW.alike hAo⟩
        have hrm : (am_rm2 (d + 1) (nc a)).frames + 1 ≤ R.frames ∧ 8 + (maxL + 11) + (am_rm2 (d + 1) (nc a)).locals ≤ R.locals := by
          subst hR
          refine ⟨Nat.le_refl _, ?_⟩
          show 8 + (maxL + 11) + 64 * (d + 1 + 8) ≤ 64 * (d + 1 + 1 + 8)
          omega
        have hcs : g.length - n0 + nc a ≤ R.cells ∧ 2000 * (g.length - n0) + 2000 * nc a ≤ R.slots := by
          subst hR
          refine ⟨?_, ?_⟩
          · show _ ≤ mc; omega
          · show _ ≤ 2000 * mc; omega
        rw [hstk]
        -- the receiver is the first of what is taken
        cases hrev : (st.take b).reverse with
        | nil =>
          rw [hrev] at hlenb
          have hb0 : b = 0 := hlenb.symm
          have hq := hck.2
          rw [hb0] at hq
          cases hz : am_npar y with
          | none => rw [hz] at hq; cases hq
          | some z => rw [hz] at hq; cases hq
        | cons v0 as' =>
          rw [hrev] at hlenb hmet hpre hnew
          have hv0 : ∃ k0, v0 = .ref k0 := by
            unfold am_new at hnew
            rw [hN] at hnew
            obtain ⟨hgd, -⟩ := am_if_some hnew
            simp only [Bool.and_eq_true] at hgd
            have := hgd.2
            unfold am_isR at this
            split at this
            · rename_i heq
              cases heq
              exact ⟨_, rfl⟩
            · cases this
          obtain ⟨k0, rfl⟩ := hv0
          have hn' : am_npar y = some (as'.map (am_v ρ)).length := by
            rw [List.length_map]
            have hq := hck.2
            cases hz : am_npar y with
            | none => rw [hz] at hq; cases hq
            | some z =>
              rw [hz, ← hlenb] at hq
              have := Option.some.inj hq
              simp at this
              rw [this]
          have hstack : (List.map (am_v ρ) (Value.ref k0 :: as')).reverse ++ (st.drop b).map (am_v ρ) = (as'.map (am_v ρ)).reverse ++ Value.ref (ρ k0) :: (st.drop b).map (am_v ρ) := by
            simp [am_v]
          rw [hstack]
          have hAA2 : ∀ q, am_A0 ρ g.length H.size q → am_A0 ρ0 n0 s.heap.size q := by
            intro q hq
            rcases hq with hq | hq
            · exact hAA q hq
            · exact Or.inr (Nat.le_trans hS.1 hq)
          unfold am_wf at w1
          simp only [Bool.and_eq_true] at w1
          have hcont : ∀ (ρ' : Nat → Nat) (H1 : Heap) (locs1 : List Loc), am_ext ρ ρ' g.length g'.length H.size → va_P D am_cl (am_lay ρ' cA g') H1 → va_S (am_A0 ρ0 n0 s.heap.size) s.heap H1 locs1 → W p l e R s m args below meth c H1 locs1 (g.length - n0 + nc a) (2000 * (g.length - n0) + 2000 * nc a) (Qr r) (F0 m (pc + 3) ls ((st.drop b).map (am_v ρ))) := by
            intro ρ' H1 locs1 hx' hP' hS'
            have hx2 : am_ext ρ0 ρ' n0 g'.length s.heap.size := by
              refine ⟨fun k hk => by rw [hx'.1 k (Nat.lt_of_lt_of_le hk hn0)]; exact hxt.1 k hk, hx'.2.1, fun k h1 h3 => ?_⟩
              by_cases hkg : k < g.length
              · rw [hx'.1 k hkg]; exact hxt.2.2 k h1 hkg
              · exact Nat.le_trans hS.1 (hx'.2.2 k (Nat.le_of_not_lt hkg) h3)
            have hW := hK (pc + 3) L (st.drop b) g' r h2 (by omega) (by omega) ρ' hx2 H1 locs1 ls hP' hS' (am_lh_ext hx'.1 w1.1.1 hl)
            rw [am_st_ext hx'.1 w1.1.2, show g'.length - n0 = g.length - n0 + nc a by omega, Nat.mul_add] at hW
            exact hW
          rcases hck.1 with hlk2 | hlk2
          · have cb := callB_of (R := R) (s := s) (args := args) (Ts := am_ws M) (own := M.1.cls) (index := k) (y := y) (bytes := bytes) (maxL := maxL) (ret := none) (ws := am_ws (y, bytes, maxL, none, ci, cdd)) (ws' := am_T) (rm := am_rm2 (d + 1) (nc a)) (mc := nc a) (ms := 2000 * nc a) (as'.map (am_v ρ)).length hts hgT rfl rfl rfl hini (hw _ (am_in_T hlk2 rfl)) ⟨f4.1, f4.2, hn'⟩ hrm
            exact am_goW2 (va_runI ⟨hx, hb, hml, hown, hts⟩ hmet ⟨cb, f7, hinst⟩ ⟨am_blind2 ρ cA D _ g _, hpre⟩ rfl rfl hl.1 rfl (lv_room hroom') (hd rfl) hcs) hAA2 hS hcont
          · have cb := va_cnB (R := R) (s := s) (args := args) (Ts := am_ws M) (own := M.1.cls) (host := "WrittenColumns") (index := k) (y := y) (bytes := bytes) (maxL := maxL) (ret := none) (ws := am_ws (y, bytes, maxL, none, ci, cdd)) (ws' := am_T) (rm := am_rm2 (d + 1) (nc a)) (mc := nc a) (ms := 2000 * nc a) (as'.map (am_v ρ)).length hts hgT rfl rfl rfl (hNw _ (am_in_mem hlk2) rfl) hini ⟨f4.1, f4.2, hn'⟩ hrm
            exact am_goW2 (va_runIN ⟨hx, hb, hml, hown, hts⟩ hmet ⟨cb, f7, hinst⟩ ⟨am_blind2 ρ cA D _ g _, hpre⟩ rfl rfl hl.1 rfl (lv_room hroom') (hd rfl) hcs) hAA2 hS hcont
      · cases hck
  | putfield k =>
    dsimp only [am_ex2] at h
    simp only [am_chk2] at hck
    cases h5 : Nat.beq kd 5 with
    | true =>
      have hkd : kd = 5 := Nat.eq_of_beq_eq_true h5
      rw [h5] at h
      rw [if_pos (Or.inl hkd)] at hck
      unfold am_if am_b3 am_b2 am_b1 am_b0 at h
      dsimp only at h
      split at h
      · obtain ⟨g', hx1, h2⟩ := Option.bind_eq_some_iff.mp h
        have hlen := am_sF_len hx1
        obtain ⟨fs, e1, e2, e3⟩ := am_sF_to hx1
        subst e3
        refine am_putFW (v := .int _) (ty := .int) X0 hname hP hAA hS e1 e2 hck (fun C T N hcl => ?_) rfl rfl (hd rfl) (fun H1 locs1 a1 a2 => gow h2 hlen a1 a2)
        simp only [Bool.and_eq_true] at hck
        have hq := hck.2
        unfold am_pchk2 at hq
        dsimp only at hq
        rw [hcl, hkd] at hq
        simp only [Bool.and_eq_true, decide_eq_true_eq] at hq
        exact ⟨hq.1.1, hq.1.2, hq.2⟩
      · cases h
    | false =>
      rw [h5] at h
      replace h := (show am_if (Nat.beq kd 6) _ _ = some r from h)
      cases h6 : Nat.beq kd 6 with
      | true =>
        have hkd : kd = 6 := Nat.eq_of_beq_eq_true h6
        rw [h6] at h
        rw [if_pos (Or.inr hkd)] at hck
        unfold am_if am_b3 am_b2 am_b1 am_b0 at h
        dsimp only at h
        split at h
        · obtain ⟨g', hx1, h2⟩ := Option.bind_eq_some_iff.mp h
          have hlen := am_sF_len hx1
          obtain ⟨fs, e1, e2, e3⟩ := am_sF_to hx1
          subst e3
          have hob : ∃ ty : FieldType, (∀ x : Nat, narrow ty (.ref x) = .ref x ∧ fits ty (.ref x) = true) ∧ ∀ C T N, am_cl[a]? = some (C, T, N) → (T b).2.2.2 = true ∧ (T b).1 = M.1.cls ∧ parseFieldDescriptor (T b).2.2.1 = some ty := by
            simp only [Bool.and_eq_true] at hck
            have hq := hck.2
            unfold am_pchk2 at hq
            dsimp only at hq
            split at hq
            · rename_i C T N hcl
              rw [hkd] at hq
              simp only [Bool.and_eq_true, decide_eq_true_eq] at hq
              obtain ⟨⟨q1, q2⟩, q3⟩ := hq
              split at q3
              · rename_i C0 hC0
                exact ⟨.object C0, fun x => ⟨rfl, rfl⟩, fun C' T' N' hcl' => by
                  cases hcl.symm.trans hcl'
                  exact ⟨q1, q2, hC0⟩⟩
              · rename_i C0 hC0
                exact ⟨.array C0, fun x => ⟨rfl, rfl⟩, fun C' T' N' hcl' => by
                  cases hcl.symm.trans hcl'
                  exact ⟨q1, q2, hC0⟩⟩
              · cases q3
            · cases hq
          obtain ⟨ty, hty1, hty2⟩ := hob
          exact am_putFW (v := .ref _) (ty := ty) X0 hname hP hAA hS e1 e2 hck hty2 (hty1 _).1 (hty1 _).2 (hd rfl) (fun H1 locs1 a1 a2 => gow h2 hlen a1 a2)
        · cases h
      | false =>
        rw [h6] at h
        rw [if_neg (by rintro (q | q); exact Nat.ne_of_beq_eq_false h5 q; exact Nat.ne_of_beq_eq_false h6 q)] at hck
        exact old h hck (fun q => by cases q)
  | aastore =>
    dsimp only [am_ex2] at h
    split at h
    · rename_i v x q r'
      obtain ⟨g', hx1, h2⟩ := Option.bind_eq_some_iff.mp h
      obtain ⟨t, nn, f, ci, fs, e1, e2, e3, e4, e5, e6⟩ := am_sR_to hx1
      subst e6
      cases hcq : am_cl[ci]? with
      | none =>
        have hlt6 : t < 6 := e4
        exfalso
        rw [← e3] at hcq
        have h0 := (hP v _ (am_lay_at e2))
        obtain ⟨rr, hrr, -⟩ := h0
        rw [← e3] at hrr
        exact absurd (hcq.symm.trans hrr) (by simp)
      | some qq =>
        have hlen : (g.set q (.inl (t, nn, .inr (va_up f x.toNatClampNeg (some v))))).length = g.length := List.length_set
        have hty := am_elty (cA := cA) e4 (by rw [e3]; exact hcq)
        refine va_astq (cA := cA t) (r := qq) hx hb hKK hP hDD hS q t v ci (am_lay_at e1) hty (am_lay_at e2) hcq e5 (hd rfl) (fun H1 locs1 a1 _ a3 => gow h2 hlen ?_ a3)
        rw [← am_lay_set]
        have hxl : x.toNatClampNeg < nn := Nat.not_le.mp fun z => e5 (Or.inr z)
        have hfun : (fun j => if j < nn then (va_up f x.toNatClampNeg (some v) j).map ρ else none) = va_up (fun j => if j < nn then (f j).map ρ else none) x.toNatClampNeg (some (ρ v)) := by
          funext j
          unfold va_up
          by_cases hj : j = x.toNatClampNeg
          · subst hj
            simp [hxl]
          · simp [hj]
        show va_P D am_cl ((am_lay ρ cA g).set q (ρ q, .inl (cA t, nn, .inr (.inr (.inr (.inr (fun j => if j < nn then (va_up f x.toNatClampNeg (some v) j).map ρ else none))))))) H1
        rw [hfun]
        exact a1
    · cases h
  | return_ =>
    dsimp only [am_ex2] at h
    split at h
    · obtain ⟨hb1, h⟩ := am_if_some h
      have hlg := Nat.eq_of_beq_eq_true hb1
      cases h
      have := hEnd pc g ρ hlg hxt H locs ls hP hS (hd rfl)
      rw [show mc = g.length - n0 by omega] at this
      exact this
    · cases h
  | _ => exact old h hck (fun q => by cases q)
theorem am_sim_rn2 (X2 : am_cx2 p s m args meth c M cA D) {d lim mc : Nat} (hR : R = am_rm2 (d + 1) mc) (hlim : lim = n0 + mc) (hm : am_met l mt 4) (hm2 : am_met2 l mt nt nc d) (hmt : ∀ j N, mt j = some N → am_mfacts N) (hnt : ∀ j N, nt j = some N → am_nfacts N) (hck : ∀ (pc : Nat) (i : am_I), M.2.2.2.2.2 pc = some i → (am_chkD M.2.1 pc i.1 = true ∧ am_rchk M.2.2.2.1 i.1 = true) ∧ am_chk2 M.1.cls mt nt pc i = true) (hsys : am_sysP) (hsys2 : am_sysP2)
    (hEnd : ∀ (pc : Nat) (g : am_W) (ρ : Nat → Nat), g.length = lim → am_ext ρ0 ρ n0 g.length s.heap.size → ∀ (H : Heap) (locs : List Loc) (ls : Array Slot), va_P D am_cl (am_lay ρ cA g) H → va_S (am_A0 ρ0 n0 s.heap.size) s.heap H locs → decode M.2.1 pc = .ok (.return_, 1) → W p l e R s m args below meth c H locs mc (2000 * mc) (Qr (none, g)) (F0 m pc ls [])) :
    ∀ k (pc : Nat) (L : am_L) (st : List Value) (g : am_W) (r : am_R), am_rn2 (am_ev mt 4) (am_new mt nt nc d) nc lim M.2.2.2.2.2 k pc L st g = some r → g.length ≤ lim → n0 ≤ g.length → ∀ (ρ : Nat → Nat), am_ext ρ0 ρ n0 g.length s.heap.size → ∀ (H : Heap) (locs : List Loc) (ls : Array Slot), va_P D am_cl (am_lay ρ cA g) H → va_S (am_A0 ρ0 n0 s.heap.size) s.heap H locs → am_lh ρ ls M.2.2.1 L → W p l e R s m args below meth c H locs (g.length - n0) (2000 * (g.length - n0)) (Qr r) (F0 m pc ls (st.map (am_v ρ))) := by
  intro k
  induction k with
  | zero => intro pc L st g r h; cases h
  | succ k ih =>
    intro pc L st g r h hle hn0 ρ hxt H locs ls hP hS hl
    unfold am_rn2 at h
    cases hi : M.2.2.2.2.2 pc with
    | none => rw [hi] at h; cases h
    | some i =>
      rw [hi] at h
      obtain ⟨⟨k1, k2⟩, k3⟩ := hck pc i hi
      exact am_sim_ex2 X2 hR hlim hm hm2 hmt hnt ih h k1 k2 k3 hsys hsys2 hEnd hn0 hxt hP hS hl hle
end AMN
theorem am_meets2 (l : Launch) (mt nt : Nat → Option am_M) (nc : Nat → Nat) (hmt : ∀ j N, mt j = some N → am_mok mt N) (hnt : ∀ j N, nt j = some N → am_nok mt nt N) (hsys : am_sysP) (hsys2 : am_sysP2) : ∀ d, am_met2 l mt nt nc d := by
  intro d
  induction d with
  | zero => intro j as g g' M _ h; cases h
  | succ d ih =>
    intro j as g g' M hj h ρ0 cA D sz hinj
    unfold am_new at h
    rw [hj] at h
    dsimp only at h
    obtain ⟨h1, h⟩ := am_if_some h
    simp only [Bool.and_eq_true, List.all_eq_true, beq_iff_eq] at h1
    obtain ⟨⟨ha1, ha2⟩, -⟩ := h1
    have ha2 := Nat.le_of_ble_eq_true ha2
    have hrun := am_cV_to h
    obtain ⟨hf, hck⟩ := am_nok_facts (hnt j M hj)
    obtain ⟨f1, f2, f3, f4, f5, f6, f7, f8⟩ := hf
    refine Met.ofW (cc := M.2.1) (maxL := M.2.2.1) (ret := M.2.2.2.1) (ws' := am_T) f1 rfl ?_
    intro p e s m args below meth c s₁ B hml hv
    obtain ⟨rfl, hsz, hP, hK, hN, hAo⟩ := hv
    subst hsz
    have hts := atoms_spec (ws := am_ws M) B.pre
    have hnm : meth.name = "<init>" := ((name_of_methodNamed B.named B.method).1).trans f7
    have X2 : am_cx2 p s m (as.map (am_v ρ0)).toArray meth c M cA D := ⟨B.exec, B.bytes, hml, findClass_of_methodNamed B.named, hts, hK, hN, B.notSynchronized, B.returns, hAo, hnm, f6⟩
    have hS : va_S (am_A0 ρ0 g.length s.heap.size) s.heap s.heap [] := va_S.rf
    have hc1 : ∀ v ∈ as, (am_v ρ0 v).category = 1 := fun v hv => by rw [am_v_cat]; exact ha1 v hv
    have hl := am_lh_entry (ρ := ρ0) (nL := M.2.2.1) hc1 ha2
    have hx0 : am_ext ρ0 ρ0 g.length g.length s.heap.size := ⟨fun _ _ => rfl, hinj, fun k h1 h2 => by omega⟩
    rw [lg_entry_eq]
    have hW := am_sim_rn2 (e := e) (below := below) (R := am_rm2 (d + 1) (nc j)) (n0 := g.length) (lim := g.length + nc j) (Qr := fun r => MQ below (am_Q2 ρ0 cA D g.length s.heap.size r.2) (as.map (am_v ρ0)).toArray s (nc j) (2000 * nc j) (am_A0 ρ0 g.length s.heap.size)) X2 rfl rfl (am_meets l mt hmt hsys 4) ih (fun j' N' hj' => (am_mok_facts (hmt j' N' hj')).1) (fun j' N' hj' => (am_nok_facts (hnt j' N' hj')).1) hck hsys hsys2 ?_ 3000 _ _ _ _ _ hrun (by omega) (Nat.le_refl _) ρ0 hx0 _ _ _ hP hS hl
    · rw [Nat.sub_self] at hW
      exact hW
    · intro pc g1 ρ hg1 hx1 H locs ls hP' hS' hd
      exact W.vret B.exec B.bytes (by rw [B.returns, f6]) (fun t ht hW => ⟨rfl, ⟨ρ, hx1, by rw [ht]; exact hP'⟩, hS'.F ht⟩) hS'.2.2 hd
