/-! ===== a walk over any code that is checked ===== -/
section AMX
variable {p : Program} {l : Launch} {e : Env} {R : Room} {s : State} {m : MethodId} {args : Array Value} {below : List Frame} {meth : Method} {c : Code}
variable {A : Nat → Prop} {cells slots : Nat} {Qr : am_R → State → Prop} {M : am_M} {ρ : Nat → Nat} {cA : Nat → ClassId} {D : va_G} {n : Nat} {mt : Nat → Option am_M}
def am_good (p : Program) (l : Launch) (e : Env) (R : Room) (s : State) (m : MethodId) (args : Array Value) (below : List Frame) (meth : Method) (c : Code) (M : am_M) (ρ : Nat → Nat) (cA : Nat → ClassId) (D : va_G) (n : Nat) (A : Nat → Prop) (cells slots : Nat) (Qr : am_R → State → Prop) (K : am_K) : Prop :=
  ∀ (pc : Nat) (L : am_L) (st : List Value) (g : am_W) (r : am_R), K pc L st g = some r → g.length = n → ∀ (H : Heap) (locs : List Loc) (ls : Array Slot), va_P D am_cl (am_lay ρ cA g) H → va_S A s.heap H locs → am_lh ρ ls M.2.2.1 L → W p l e R s m args below meth c H locs cells slots (Qr r) (F0 m pc ls (st.map (am_v ρ)))
/-- how a method's ends are met -/
def am_endI (p : Program) (l : Launch) (e : Env) (R : Room) (s : State) (m : MethodId) (args : Array Value) (below : List Frame) (meth : Method) (c : Code) (M : am_M) (ρ : Nat → Nat) (cA : Nat → ClassId) (D : va_G) (n : Nat) (A : Nat → Prop) (cells slots : Nat) (Qr : am_R → State → Prop) (pc : Nat) : Prop :=
  ∀ (x : Int32) (g : am_W), g.length = n → ∀ (H : Heap) (locs : List Loc) (ls : Array Slot), va_P D am_cl (am_lay ρ cA g) H → va_S A s.heap H locs → (M.2.2.2.1 = some .int ∨ (M.2.2.2.1 = some .boolean ∧ (x = 0 ∨ x = 1))) → decode M.2.1 pc = .ok (.ireturn, 1) → W p l e R s m args below meth c H locs cells slots (Qr (some (.int x), g)) (F0 m pc ls [.int x])
def am_endV (p : Program) (l : Launch) (e : Env) (R : Room) (s : State) (m : MethodId) (args : Array Value) (below : List Frame) (meth : Method) (c : Code) (M : am_M) (ρ : Nat → Nat) (cA : Nat → ClassId) (D : va_G) (n : Nat) (A : Nat → Prop) (cells slots : Nat) (Qr : am_R → State → Prop) (pc : Nat) : Prop :=
  ∀ (g : am_W), g.length = n → ∀ (H : Heap) (locs : List Loc) (ls : Array Slot), va_P D am_cl (am_lay ρ cA g) H → va_S A s.heap H locs → M.2.2.2.1 = none → decode M.2.1 pc = .ok (.return_, 1) → W p l e R s m args below meth c H locs cells slots (Qr (none, g)) (F0 m pc ls [])
theorem am_b01 {x : Int32} (h : x = 0 ∨ x = 1) : narrow .boolean (.int x) = .int x := by rcases h with rfl | rfl <;> rfl
theorem am_tyo {cA : Nat → ClassId} {t : Nat} (h : 2 ≤ t ∧ t < 6) : ∃ C, (am_ty cA)[t]? = some (cA t, .object C) := by
  obtain ⟨h1, h2⟩ := h
  rcases (show t = 2 ∨ t = 3 ∨ t = 4 ∨ t = 5 by omega) with rfl | rfl | rfl | rfl
  · exact ⟨_, rfl⟩
  · exact ⟨_, rfl⟩
  · exact ⟨_, rfl⟩
  · exact ⟨_, rfl⟩
theorem am_ty2 {cA : Nat → ClassId} {t : Nat} (h : t < 2) : ∃ ty, (am_ty cA)[t]? = some (cA t, ty) := by
  rcases (show t = 0 ∨ t = 1 by omega) with rfl | rfl
  · exact ⟨_, rfl⟩
  · exact ⟨_, rfl⟩
set_option maxHeartbeats 4000000 in
/-- calls -/
theorem am_sim_call (X : am_cx p s m args meth c M ρ cA D n) {d : Nat} (hR : d + 2 ≤ R.frames ∧ 64 * (d + 2) ≤ R.locals ∧ cells ≤ R.cells ∧ slots ≤ R.slots) (hA : ∀ q, am_A ρ n q → A q) (hm : am_met l mt d) (hmt : ∀ j N, mt j = some N → am_mfacts N) {K : am_K} (hK : am_good p l e R s m args below meth c M ρ cA D n A cells slots Qr K)
    {j k b pc : Nat} {L : am_L} {st : List Value} {g : am_W} {r : am_R} (h : am_call (am_cal mt d) K j k b pc L st g = some r) {idx : Nat} {i : am_I} {N : am_M} (hN : mt j = some N) (hck : am_mchk M.1.cls idx i N = true) (hb1 : i.2.2.2.1 = b)
    (hcase : (N.2.2.2.2.1 = 12 ∧ am_npar N.1 = some k ∧ decode M.2.1 pc = .ok (.invokestatic idx, 3)) ∨ (N.2.2.2.2.1 ≠ 12 ∧ (am_npar N.1).map (· + 1) = some k ∧ decode M.2.1 pc = .ok (.invokevirtual idx, 3)))
    (hg : g.length = n) {H : Heap} {locs : List Loc} {ls : Array Slot} (hP : va_P D am_cl (am_lay ρ cA g) H) (hS : va_S A s.heap H locs) (hl : am_lh ρ ls M.2.2.1 L) : W p l e R s m args below meth c H locs cells slots (Qr r) (F0 m pc ls (st.map (am_v ρ))) := by
  unfold am_call at h
  obtain ⟨hc, h⟩ := am_if_some h
  simp only [Bool.and_eq_true] at hc
  have hk := Nat.le_of_ble_eq_true hc.1
  have hroom := Nat.le_of_ble_eq_true hc.2
  have hst : st.map (am_v ρ) = (((st.take k).reverse).map (am_v ρ)).reverse ++ (st.drop k).map (am_v ρ) := by
    rw [← List.map_reverse, List.reverse_reverse, ← List.map_append, List.take_append_drop]
  have hlen : ((st.take k).reverse).length = k := by rw [List.length_reverse, List.length_take]; omega
  rw [hst]
  rw [← hlen] at hcase
  have hroom' : (((st.drop k).map (am_v ρ)).map fun v => v.category).sum ≤ 8 := by rw [am_v_cats]; exact hroom
  cases hb2 : Nat.beq b 1 with
  | true =>
    rw [hb2] at h
    obtain ⟨q, hq, h2⟩ := Option.bind_eq_some_iff.mp h
    have hq' := am_cI_to hq
    exact am_callW X hR hm hP hg hA hS hl.1 hN (hmt j N hN) hq' hck hroom' hcase (fun H1 locs1 a1 a2 => hK _ _ _ _ _ h2 ((am_cal_kp mt d _ _ _ _ hq').trans hg) _ _ _ a1 a2 hl)
  | false =>
    rw [hb2] at h
    obtain ⟨q, hq, h2⟩ := Option.bind_eq_some_iff.mp h
    have hq' := am_cV_to hq
    exact am_callW X hR hm hP hg hA hS hl.1 hN (hmt j N hN) hq' hck hroom' hcase (fun H1 locs1 a1 a2 => hK _ _ _ _ _ h2 ((am_cal_kp mt d _ _ _ _ hq').trans hg) _ _ _ a1 a2 hl)
set_option maxHeartbeats 16000000 in
theorem am_sim_ex (X : am_cx p s m args meth c M ρ cA D n) {d : Nat} (hR : d + 2 ≤ R.frames ∧ 64 * (d + 2) ≤ R.locals ∧ cells ≤ R.cells ∧ slots ≤ R.slots) (hA : ∀ q, am_A ρ n q → A q) (hm : am_met l mt d) (hmt : ∀ j N, mt j = some N → am_mfacts N) {K : am_K} (hK : am_good p l e R s m args below meth c M ρ cA D n A cells slots Qr K)
    {pc : Nat} {L : am_L} {st : List Value} {g : am_W} {r : am_R} {i : am_I} (h : am_ex (decide (M.2.2.2.1 = some .boolean)) (am_cal mt d) K i pc L st g = some r) (hck0 : am_chkD M.2.1 pc i.1 = true) (hrc : am_rchk M.2.2.2.1 i.1 = true) (hck : am_chk M.1.cls mt pc i = true) (hret : M.2.2.2.1 = none ∨ M.2.2.2.1 = some .int ∨ M.2.2.2.1 = some .boolean) (hsys : am_sysP) (hEI : am_endI p l e R s m args below meth c M ρ cA D n A cells slots Qr pc) (hEV : am_endV p l e R s m args below meth c M ρ cA D n A cells slots Qr pc)
    (hg : g.length = n) {H : Heap} {locs : List Loc} {ls : Array Slot} (hP : va_P D am_cl (am_lay ρ cA g) H) (hS : va_S A s.heap H locs) (hl : am_lh ρ ls M.2.2.1 L) : W p l e R s m args below meth c H locs cells slots (Qr r) (F0 m pc ls (st.map (am_v ρ))) := by
  have hD0 : ∃ ln, decode M.2.1 pc = .ok (i.1, ln) ∧ (am_sww i.1 = false → ln = am_len i.1) := by
    unfold am_chkD at hck0
    split at hck0
    · rename_i jj ln hdec
      simp only [Bool.and_eq_true, Bool.or_eq_true, decide_eq_true_eq] at hck0
      refine ⟨ln, by rw [hdec, hck0.1], fun hs => ?_⟩
      rcases hck0.2 with q | q
      · rw [q] at hs; cases hs
      · exact q
    · cases hck0
  have hd : am_sww i.1 = false → decode M.2.1 pc = .ok (i.1, am_len i.1) := fun hs => by
    obtain ⟨ln, q1, q2⟩ := hD0
    rw [q1, q2 hs]
  have X0 := X
  obtain ⟨hx, hb, hml, hown, hts, hKK, hNw, hlk, hr, hρ⟩ := X
  have hDD := (am_lay_D (cA := cA) hρ hg).weaken (fun _ _ _ h => hA _ h)
  have hsz : ls.size = M.2.2.1 := hl.1
  have go : ∀ {pc' : Nat} {st' : List Value}, K pc' L st' g = some r → W p l e R s m args below meth c H locs cells slots (Qr r) (F0 m pc' ls (st'.map (am_v ρ))) := fun h' => hK _ _ _ _ _ h' hg _ _ _ hP hS hl
  have gos : ∀ {pc' : Nat} {st' : List Value} {k : Nat} {v : Value} {ls' : Array Slot}, K pc' (L.set k (some v)) st' g = some r → (am_v ρ v).category = 1 → lv_has ls' M.2.2.1 ((k, am_v ρ v) :: (am_lv ρ L).filter (fun q => !(q.1 == k) && !(q.1 + 1 == k && q.2.category == 2))) → W p l e R s m args below meth c H locs cells slots (Qr r) (F0 m pc' ls' (st'.map (am_v ρ))) := fun h' hv h'' => hK _ _ _ _ _ h' hg _ _ _ hP hS (hl.set hv h'')
  have gow : ∀ {pc' : Nat} {st' : List Value} {g' : am_W} {H1 : Heap} {locs1 : List Loc}, K pc' L st' g' = some r → g'.length = g.length → va_P D am_cl (am_lay ρ cA g') H1 → va_S A s.heap H1 locs1 → W p l e R s m args below meth c H1 locs1 cells slots (Qr r) (F0 m pc' ls (st'.map (am_v ρ))) := fun h' hlen a1 a2 => hK _ _ _ _ _ h' (hlen.trans hg) _ _ _ a1 a2 hl
  have hw : ∀ w ∈ am_T, w.before args s = true := fun w hw => hts w (List.mem_cons_of_mem _ hw)
  have hfr : 1 ≤ R.frames ∧ 8 + 64 ≤ R.locals := ⟨by omega, by omega⟩
  obtain ⟨harr, hmath, hmax, hmin⟩ := hsys
  obtain ⟨ins, a, b, kd, tl⟩ := i
  cases ins with
  | iconst k => exact lv_iconst hx hb (hd rfl) rfl (go h)
  | bipush k => exact lv_bipush hx hb (hd rfl) rfl (go h)
  | sipush k => exact lv_sipush hx hb (hd rfl) rfl (go h)
  | ldc k => exact lv_ldc hx hb hown (hts _ (List.mem_cons_of_mem _ (am_in_T hck rfl))) (hd rfl) (go h)
  | ldc_w k => exact lv_ldcw hx hb hown (hts _ (List.mem_cons_of_mem _ (am_in_T hck rfl))) (hd rfl) (go h)
  | aconst_null => exact lv_null hx hb (hd rfl) (go h)
  | iload_n k =>
    dsimp only [am_ex] at h
    split at h
    · rename_i x hv
      exact lv_iload_n hx hb (hd rfl) rfl (hl.at hv) (go h)
    · cases h
  | iload k =>
    dsimp only [am_ex] at h
    split at h
    · rename_i x hv
      exact lv_iload hx hb (hd rfl) (hl.at hv) (go h)
    · cases h
  | aload_n k =>
    dsimp only [am_ex] at h
    split at h
    · rename_i x hv
      exact lv_aload_n hx hb (hd rfl) rfl (hl.at hv) (go h)
    · rename_i hv
      exact am_aload_nN hx hb (hd rfl) rfl (hl.at hv) (go h)
    · cases h
  | aload k =>
    dsimp only [am_ex] at h
    split at h
    · rename_i x hv
      exact lv_aload hx hb (hd rfl) (hl.at hv) (go h)
    · rename_i hv
      exact am_aloadN hx hb (hd rfl) (hl.at hv) (go h)
    · cases h
  | istore_n k =>
    dsimp only [am_ex] at h
    split at h
    · obtain ⟨hk, h⟩ := am_if_some h
      exact lv_istore_n hx hb (hd rfl) rfl hl.has (by rw [← hl.2.1]; exact Nat.le_of_ble_eq_true hk) rfl (fun ls' h' => gos h rfl h')
    · cases h
  | istore k =>
    dsimp only [am_ex] at h
    split at h
    · obtain ⟨hk, h⟩ := am_if_some h
      exact lv_istore hx hb (hd rfl) hl.has (by rw [← hl.2.1]; exact Nat.le_of_ble_eq_true hk) rfl (fun ls' h' => gos h rfl h')
    · cases h
  | astore_n k =>
    dsimp only [am_ex] at h
    split at h
    · obtain ⟨hk, h⟩ := am_if_some h
      exact lv_astore_n hx hb (hd rfl) rfl hl.has (by rw [← hl.2.1]; exact Nat.le_of_ble_eq_true hk) rfl (fun ls' h' => gos (v := .ref _) h rfl h')
    · obtain ⟨hk, h⟩ := am_if_some h
      exact am_astore_nN hx hb (hd rfl) hl.has (by rw [← hl.2.1]; exact Nat.le_of_ble_eq_true hk) (fun ls' h' => gos (v := .null) h rfl h')
    · cases h
  | astore k =>
    dsimp only [am_ex] at h
    split at h
    · obtain ⟨hk, h⟩ := am_if_some h
      exact lv_astore hx hb (hd rfl) hl.has (by rw [← hl.2.1]; exact Nat.le_of_ble_eq_true hk) rfl (fun ls' h' => gos (v := .ref _) h rfl h')
    · obtain ⟨hk, h⟩ := am_if_some h
      exact am_astoreN hx hb (hd rfl) hl.has (by rw [← hl.2.1]; exact Nat.le_of_ble_eq_true hk) (fun ls' h' => gos (v := .null) h rfl h')
    · cases h
  | iinc k z =>
    dsimp only [am_ex] at h
    split at h
    · rename_i x hv
      obtain ⟨hk, h⟩ := am_if_some h
      obtain ⟨q, hq⟩ := am_lv_ld (ρ := ρ) hv
      exact lv_iinc hx hb (hd rfl) hl.has hq rfl (by rw [← hl.2.1]; exact Nat.le_of_ble_eq_true hk) rfl (fun ls' h' => gos (v := .int _) h rfl h')
    · cases h
  | iadd =>
    dsimp only [am_ex] at h
    split at h
    · exact lv_iadd hx hb (hd rfl) (go h)
    · cases h
  | isub =>
    dsimp only [am_ex] at h
    split at h
    · exact lv_isub hx hb (hd rfl) (go h)
    · cases h
  | imul =>
    dsimp only [am_ex] at h
    split at h
    · exact lv_imul hx hb (hd rfl) (go h)
    · cases h
  | idiv =>
    dsimp only [am_ex] at h
    split at h
    · split at h
      · cases h
      · rename_i hne
        exact lv_idiv hx hb (hd rfl) hne (go h)
    · cases h
  | irem =>
    dsimp only [am_ex] at h
    split at h
    · split at h
      · cases h
      · rename_i hne
        exact lv_irem hx hb (hd rfl) hne (go h)
    · cases h
  | iand =>
    dsimp only [am_ex] at h
    split at h
    · exact lv_iand hx hb (hd rfl) (go h)
    · cases h
  | ior =>
    dsimp only [am_ex] at h
    split at h
    · exact lv_ior hx hb (hd rfl) (go h)
    · cases h
  | ixor =>
    dsimp only [am_ex] at h
    split at h
    · exact lv_ixor hx hb (hd rfl) (go h)
    · cases h
  | ishl =>
    dsimp only [am_ex] at h
    split at h
    · exact lv_ishl hx hb (hd rfl) (go h)
    · cases h
  | ishr =>
    dsimp only [am_ex] at h
    split at h
    · exact lv_ishr hx hb (hd rfl) (go h)
    · cases h
  | iushr =>
    dsimp only [am_ex] at h
    split at h
    · exact lv_iushr hx hb (hd rfl) rfl (go h)
    · cases h
  | i2b =>
    dsimp only [am_ex] at h
    split at h
    · exact lv_i2b hx hb (hd rfl) rfl (go h)
    · cases h
  | dup =>
    dsimp only [am_ex] at h
    split at h
    · exact lv_dup (va := .int _) hx hb (hd rfl) rfl (go h)
    · exact lv_dup (va := .ref _) hx hb (hd rfl) rfl (go h)
    · cases h
  | dup2 =>
    dsimp only [am_ex] at h
    split at h
    · exact lv_dup2_11 (va := .int _) (vb := .ref _) hx hb (hd rfl) rfl rfl (go h)
    · cases h
  | goto off => exact lv_goto hx hb (hd rfl) (of_decide_eq_true hck) (go h)
  | ifCond cd off =>
    have ht : (pc : Int) + off = (a : Int) := of_decide_eq_true hck
    dsimp only [am_ex] at h
    split at h
    · split at h
      · exact lv_if_eq hx hb (hd rfl) ht (fun q => go (by rw [if_pos q] at h; exact h)) (fun q => go (by rw [if_neg q] at h; exact h))
      · exact lv_if_ne hx hb (hd rfl) ht (fun q => go (by rw [if_neg q] at h; exact h)) (fun q => go (by rw [if_pos q] at h; exact h))
      · exact lv_if_lt hx hb (hd rfl) ht (fun q => go (by rw [if_pos q] at h; exact h)) (fun q => go (by rw [if_neg q] at h; exact h))
      · exact lv_if_ge hx hb (hd rfl) ht (fun q => go (by rw [if_pos q] at h; exact h)) (fun q => go (by rw [if_neg q] at h; exact h))
      · exact lv_if_gt hx hb (hd rfl) ht (fun q => go (by rw [if_pos q] at h; exact h)) (fun q => go (by rw [if_neg q] at h; exact h))
      · exact lv_if_le hx hb (hd rfl) ht (fun q => go (by rw [if_pos q] at h; exact h)) (fun q => go (by rw [if_neg q] at h; exact h))
    · cases h
  | if_icmp cd off =>
    have ht : (pc : Int) + off = (a : Int) := of_decide_eq_true hck
    dsimp only [am_ex] at h
    split at h
    · split at h
      · exact lv_icmp_eq hx hb (hd rfl) ht (fun q => go (by rw [if_pos q] at h; exact h)) (fun q => go (by rw [if_neg q] at h; exact h))
      · exact lv_icmp_ne hx hb (hd rfl) ht (fun q => go (by rw [if_neg q] at h; exact h)) (fun q => go (by rw [if_pos q] at h; exact h))
      · exact lv_icmp_lt hx hb (hd rfl) ht (fun q => go (by rw [if_pos q] at h; exact h)) (fun q => go (by rw [if_neg q] at h; exact h))
      · exact lv_icmp_ge hx hb (hd rfl) ht (fun q => go (by rw [if_pos q] at h; exact h)) (fun q => go (by rw [if_neg q] at h; exact h))
      · exact lv_icmp_gt hx hb (hd rfl) ht (fun q => go (by rw [if_pos q] at h; exact h)) (fun q => go (by rw [if_neg q] at h; exact h))
      · exact lv_icmp_le hx hb (hd rfl) ht (fun q => go (by rw [if_pos q] at h; exact h)) (fun q => go (by rw [if_neg q] at h; exact h))
    · cases h
  | ifnull off =>
    dsimp only [am_ex] at h
    split at h
    · exact lv_ifnull hx hb (hd rfl) (go h)
    · exact lv_ifnullN hx hb (hd rfl) (of_decide_eq_true hck) (go h)
    · cases h
  | ifnonnull off =>
    dsimp only [am_ex] at h
    split at h
    · exact lv_ifnonnull hx hb (hd rfl) (of_decide_eq_true hck) (go h)
    · exact lv_ifnonnullN hx hb (hd rfl) (go h)
    · cases h
  | tableswitch df lo hi offs =>
    simp only [am_chk, Bool.and_eq_true, decide_eq_true_eq] at hck
    obtain ⟨⟨⟨k1, k2⟩, k3⟩, k4⟩ := hck
    obtain ⟨ln, hdl, -⟩ := hD0
    dsimp only [am_ex] at h
    split at h
    · rename_i x r'
      have hlen : (offs.toList.length : Int) = offs.size := by rw [Array.length_toList]
      rcases am_sw_tab offs.toList tl lo k4 k3.1 (by rw [hlen]; omega) h with ⟨j, o, t, b1, b2, b3, b4⟩ | ⟨b1, b2⟩
      · have hj : j < offs.size := by
          have := (List.getElem?_eq_some_iff.mp b2).1
          rwa [Array.length_toList] at this
        refine lv_tableIn hx hb hdl (by rw [b1]; omega) (by rw [b1]; omega) (off := o) ?_ b3 (go b4)
        rw [b1, show (lo + (j : Int) - lo).toNat = j by omega, ← Array.getElem?_toList]
        exact b2
      · refine lv_tableOut hx hb hdl ?_ k1 (go b2)
        rw [hlen] at b1
        omega
    · cases h
  | lookupswitch df ps =>
    simp only [am_chk, Bool.and_eq_true, decide_eq_true_eq] at hck
    obtain ⟨⟨k1, k2⟩, k3⟩ := hck
    obtain ⟨ln, hdl, -⟩ := hD0
    dsimp only [am_ex] at h
    split at h
    · rename_i x r'
      obtain ⟨t, b1, b2⟩ := am_sw_look k1 ps.toList tl k3 h
      exact lv_lookup hx hb hdl k2 rfl b1 (go b2)
    · cases h
  | getfield k =>
    dsimp only [am_ex] at h
    split at h
    · split at h
      · obtain ⟨x, hx1, h2⟩ := Option.bind_eq_some_iff.mp h
        obtain ⟨fs, e1, e2⟩ := am_fI_to hx1
        exact am_getW X0 hP rfl rfl e1 e2 hck (hd rfl) (go h2)
      · obtain ⟨x, hx1, h2⟩ := Option.bind_eq_some_iff.mp h
        obtain ⟨fs, e1, e2⟩ := am_fR_to hx1
        exact am_getW X0 hP rfl rfl e1 e2 hck (hd rfl) (go h2)
      · obtain ⟨x, hx1, h2⟩ := Option.bind_eq_some_iff.mp h
        obtain ⟨fs, e1, e2⟩ := am_fN_to hx1
        cases x with
        | none => exact am_getW (v := .null) X0 hP rfl rfl e1 e2 hck (hd rfl) (go h2)
        | some q => exact am_getW (v := .ref q) X0 hP rfl rfl e1 e2 hck (hd rfl) (go h2)
    · cases h
  | putfield k =>
    simp only [am_chk, Bool.and_eq_true] at hck
    obtain ⟨hc1, hc2⟩ := hck
    dsimp only [am_ex] at h
    split at h
    · cases hk0 : Nat.beq kd 0 with
      | true =>
        have hkd : kd = 0 := Nat.eq_of_beq_eq_true hk0
        rw [hk0] at h
        obtain ⟨g', hx1, h2⟩ := Option.bind_eq_some_iff.mp h
        have hlen := am_sF_len hx1
        obtain ⟨fs, e1, e2, e3⟩ := am_sF_to hx1
        subst e3
        refine am_putW (v := .int _) (ty := .int) X0 hP hg hA hS rfl rfl e1 e2 hc1 (fun C T N hcl => ?_) rfl rfl (hd rfl) (fun H1 locs1 a1 a2 => gow h2 hlen a1 a2)
        unfold am_pchk at hc2
        dsimp only at hc2
        rw [hcl, hkd] at hc2
        simp only [Bool.and_eq_true, Bool.not_eq_true', decide_eq_true_eq] at hc2
        exact hc2
      | false =>
        rw [hk0] at h
        obtain ⟨hk3, h⟩ := am_if_some (x := _) (show am_if (Nat.beq kd 3) _ none = some r from h)
        have hkd : kd = 3 := Nat.eq_of_beq_eq_true hk3
        split at h
        · rename_i h01
          obtain ⟨g', hx1, h2⟩ := Option.bind_eq_some_iff.mp h
          have hlen := am_sF_len hx1
          obtain ⟨fs, e1, e2, e3⟩ := am_sF_to hx1
          subst e3
          refine am_putW (v := .int _) (ty := .boolean) X0 hP hg hA hS rfl rfl e1 e2 hc1 (fun C T N hcl => ?_) (am_b01 h01) (by rcases h01 with rfl | rfl <;> rfl) (hd rfl) (fun H1 locs1 a1 a2 => gow h2 hlen a1 a2)
          unfold am_pchk at hc2
          dsimp only at hc2
          rw [hcl, hkd] at hc2
          simp only [Bool.and_eq_true, Bool.not_eq_true', decide_eq_true_eq] at hc2
          exact hc2
        · cases h
    · obtain ⟨hk2, h⟩ := am_if_some h
      have hkd : kd = 2 := Nat.eq_of_beq_eq_true hk2
      obtain ⟨g', hx1, h2⟩ := Option.bind_eq_some_iff.mp h
      have hlen := am_sF_len hx1
      obtain ⟨fs, e1, e2, e3⟩ := am_sF_to hx1
      subst e3
      have hob : ∃ C0, ∀ C T N, am_cl[a]? = some (C, T, N) → (T b).2.2.2 = false ∧ parseFieldDescriptor (T b).2.2.1 = some (.object C0) := by
        unfold am_pchk at hc2
        dsimp only at hc2
        split at hc2
        · rename_i C T N hcl
          rw [hkd] at hc2
          simp only [Bool.and_eq_true, Bool.not_eq_true'] at hc2
          have hq := hc2.2
          unfold am_isObj at hq
          split at hq
          · rename_i C0 hC0
            exact ⟨C0, fun C' T' N' hcl' => by
              cases hcl.symm.trans hcl'
              exact ⟨hc2.1, hC0⟩⟩
          · cases hq
        · cases hc2
      obtain ⟨C0, hob⟩ := hob
      exact am_putW (v := .ref _) (ty := .object C0) X0 hP hg hA hS rfl rfl e1 e2 hc1 hob rfl rfl (hd rfl) (fun H1 locs1 a1 a2 => gow h2 hlen a1 a2)
    · obtain ⟨hk2, h⟩ := am_if_some h
      have hkd : kd = 2 := Nat.eq_of_beq_eq_true hk2
      obtain ⟨g', hx1, h2⟩ := Option.bind_eq_some_iff.mp h
      have hlen := am_sF_len hx1
      obtain ⟨fs, e1, e2, e3⟩ := am_sF_to hx1
      subst e3
      have hob : ∃ C0, ∀ C T N, am_cl[a]? = some (C, T, N) → (T b).2.2.2 = false ∧ parseFieldDescriptor (T b).2.2.1 = some (.object C0) := by
        unfold am_pchk at hc2
        dsimp only at hc2
        split at hc2
        · rename_i C T N hcl
          rw [hkd] at hc2
          simp only [Bool.and_eq_true, Bool.not_eq_true'] at hc2
          have hq := hc2.2
          unfold am_isObj at hq
          split at hq
          · rename_i C0 hC0
            exact ⟨C0, fun C' T' N' hcl' => by
              cases hcl.symm.trans hcl'
              exact ⟨hc2.1, hC0⟩⟩
          · cases hq
        · cases hc2
      obtain ⟨C0, hob⟩ := hob
      exact am_putW (v := .null) (ty := .object C0) X0 hP hg hA hS rfl rfl e1 e2 hc1 hob rfl rfl (hd rfl) (fun H1 locs1 a1 a2 => gow h2 hlen a1 a2)
    · cases h
  | iaload =>
    dsimp only [am_ex] at h
    split at h
    · obtain ⟨x, hx1, h2⟩ := Option.bind_eq_some_iff.mp h
      obtain ⟨nn, f, e1, e2, e3⟩ := am_aI_to hx1
      subst e3
      exact va_iald (cA := cA 0) hx hb hKK hP _ 0 (am_lay_at e1) rfl e2 (hd rfl) (go h2)
    · cases h
  | baload =>
    dsimp only [am_ex] at h
    split at h
    · obtain ⟨x, hx1, h2⟩ := Option.bind_eq_some_iff.mp h
      obtain ⟨nn, f, e1, e2, e3⟩ := am_aI_to hx1
      subst e3
      exact va_zald (cA := cA 1) hx hb hKK hP _ 1 (am_lay_at e1) rfl e2 (hd rfl) (go h2)
    · cases h
  | aaload =>
    dsimp only [am_ex] at h
    split at h
    · rename_i xi q r'
      obtain ⟨x, hx1, h2⟩ := Option.bind_eq_some_iff.mp h
      obtain ⟨t, nn, f, e1, e2, e3, e4⟩ := am_aR_to hx1
      obtain ⟨C0, hC0⟩ := am_tyo (cA := cA) e2
      refine va_aldq (cA := cA t) hx hb hKK hP q t (am_lay_at e1) hC0 e3 (hd rfl) ?_
      have hlt : xi.toNatClampNeg < nn := Nat.not_le.mp fun q => e3 (Or.inr q)
      rw [if_pos hlt, e4]
      exact go h2
    · cases h
  | iastore =>
    dsimp only [am_ex] at h
    split at h
    · obtain ⟨g', hx1, h2⟩ := Option.bind_eq_some_iff.mp h
      have hlen := am_sI_len hx1
      obtain ⟨nn, f, e1, e2, e3⟩ := am_sI_to hx1
      subst e3
      refine va_iast (cA := cA 0) hx hb hKK hP hDD hS _ 0 (am_lay_at e1) rfl e2 (hd rfl) (fun H1 locs1 a1 _ a3 => gow h2 hlen ?_ a3)
      rw [← am_lay_set]
      exact a1
    · cases h
  | bastore =>
    dsimp only [am_ex] at h
    split at h
    · obtain ⟨g', hx1, h2⟩ := Option.bind_eq_some_iff.mp h
      have hlen := am_sI_len hx1
      obtain ⟨nn, f, e1, e2, e3⟩ := am_sI_to hx1
      subst e3
      refine va_zast (cA := cA 1) hx hb hKK hP hDD hS _ 1 (am_lay_at e1) rfl e2 (hd rfl) (fun H1 locs1 a1 _ a3 => gow h2 hlen ?_ a3)
      rw [← am_lay_set]
      exact a1
    · cases h
  | arraylength =>
    dsimp only [am_ex] at h
    split at h
    · obtain ⟨x, hx1, h2⟩ := Option.bind_eq_some_iff.mp h
      obtain ⟨t, nn, f, e1, e2, e3⟩ := am_ln_to hx1
      obtain ⟨ty, hty⟩ := am_ty2 (cA := cA) e2
      exact va_alen hx hb hKK hP _ t (am_lay_at e1) hty e3.symm (hd rfl) (go h2)
    · cases h
  | invokestatic k =>
    dsimp only [am_ex] at h
    simp only [am_chk] at hck
    cases h9 : Nat.beq a 999 with
    | true =>
      rw [h9] at h
      rw [if_pos (Nat.eq_of_beq_eq_true h9)] at hck
      replace h := (show am_if true _ _ = some r from h)
      unfold am_if am_b3 am_b2 am_b1 am_b0 at h
      dsimp only at h
      split at h
      · obtain ⟨hroom, h⟩ := am_if_some h
        obtain ⟨g', hx1, h2⟩ := Option.bind_eq_some_iff.mp h
        have hlen := am_cp_len hx1
        obtain ⟨n0, n1, f, kf, e0, e1, c1, c2, c3, c4, c5, e3⟩ := am_cp_to hx1
        subst e3
        refine va_copyi (c0 := cA 0) (c1 := cA 0) (ty := .int) hx hb (by rw [hml, hsz]) hown (hts _ (List.mem_cons_of_mem _ (am_in_T hck rfl))) (hts _ (List.mem_cons_of_mem _ harr.1)) (hts _ (List.mem_cons_of_mem _ harr.2.1)) (hts _ (List.mem_cons_of_mem _ harr.2.2)) hKK hP hDD hS _ _ 0 0 (am_lay_at e0) (am_lay_at e1) rfl rfl rfl c1 c2 c3 c4 c5 (fun _ _ => rfl) hfr.1 ?_ (hd rfl) (fun H1 locs1 a1 _ a3 => gow h2 hlen ?_ a3)
        · rw [am_v_cats]
          have := Nat.le_of_ble_eq_true hroom
          have := hfr.2
          show _ + (7 + 11) ≤ _
          omega
        · rw [← am_lay_set]
          exact a1
      · cases h
    | false =>
      rw [h9] at h
      rw [if_neg (Nat.ne_of_beq_eq_false h9)] at hck
      replace h := (show am_if (Nat.beq a 998) _ _ = some r from h)
      cases h8 : Nat.beq a 998 with
      | true =>
        rw [h8] at h
        rw [if_pos (Nat.eq_of_beq_eq_true h8)] at hck
        unfold am_if am_b3 am_b2 am_b1 am_b0 at h
        dsimp only at h
        split at h
        · rename_i hst
          obtain ⟨hroom, h⟩ := am_if_some h
          have := Nat.le_of_ble_eq_true hroom
          exact va_mmax hx hb (by rw [hml, hsz]) hown (hw _ (am_in_T hck rfl)) (hw _ hmax.1) (hw _ hmath) (hw _ hmax.2) hfr.1 (by rw [am_v_cats]; have := hfr.2; omega) hR.2.2.1 hR.2.2.2 (hd rfl) (go h)
        · cases h
      | false =>
        rw [h8] at h
        rw [if_neg (Nat.ne_of_beq_eq_false h8)] at hck
        replace h := (show am_if (Nat.beq a 997) _ _ = some r from h)
        cases h7 : Nat.beq a 997 with
        | true =>
          rw [h7] at h
          rw [if_pos (Nat.eq_of_beq_eq_true h7)] at hck
          unfold am_if am_b3 am_b2 am_b1 am_b0 at h
          dsimp only at h
          split at h
          · rename_i hst
            obtain ⟨hroom, h⟩ := am_if_some h
            have := Nat.le_of_ble_eq_true hroom
            exact va_mmin hx hb (by rw [hml, hsz]) hown (hw _ (am_in_T hck rfl)) (hw _ hmin.1) (hw _ hmath) (hw _ hmin.2) hfr.1 (by rw [am_v_cats]; have := hfr.2; omega) hR.2.2.1 hR.2.2.2 (hd rfl) (go h)
          · cases h
        | false =>
          rw [h7] at h
          rw [if_neg (Nat.ne_of_beq_eq_false h7)] at hck
          split at hck
          · rename_i N hN
            simp only [Bool.and_eq_true, decide_eq_true_eq] at hck
            exact am_sim_call X0 hR hA hm hmt hK h hN hck.1.1 rfl (Or.inl ⟨hck.1.2, hck.2, hd rfl⟩) hg hP hS hl
          · cases hck
  | invokevirtual k =>
    dsimp only [am_ex] at h
    simp only [am_chk] at hck
    split at hck
    · rename_i N hN
      simp only [Bool.and_eq_true, decide_eq_true_eq] at hck
      exact am_sim_call X0 hR hA hm hmt hK h hN hck.1.1 rfl (Or.inr ⟨fun q => by rw [q] at hck; exact absurd hck.1.2 (by decide), hck.2, hd rfl⟩) hg hP hS hl
    · cases hck
  | ireturn =>
    dsimp only [am_ex] at h
    split at h
    · rename_i x
      rcases hret with q | q | q
      · rw [q] at hrc; cases hrc
      · rw [q] at h
        replace h : some (some (Value.int x), g) = some r := h
        cases h
        exact hEI x g hg H locs ls hP hS (Or.inl q) (hd rfl)
      · rw [q] at h
        replace h : (if x = 0 ∨ x = 1 then some (some (Value.int x), g) else none) = some r := h
        split at h
        · rename_i h01
          cases h
          exact hEI x g hg H locs ls hP hS (Or.inr ⟨q, h01⟩) (hd rfl)
        · cases h
    · cases h
  | return_ =>
    dsimp only [am_ex] at h
    split at h
    · cases h
      rcases hret with q | q | q
      · exact hEV g hg H locs ls hP hS q (hd rfl)
      · rw [q] at hrc; cases hrc
      · rw [q] at hrc; cases hrc
    · cases h
  | _ => exact absurd (show (none : Option am_R) = some r from h) (by simp)
/-- a method whose code is checked is met -/
theorem am_sim_rn (X : am_cx p s m args meth c M ρ cA D n) {d : Nat} (hR : d + 2 ≤ R.frames ∧ 64 * (d + 2) ≤ R.locals ∧ cells ≤ R.cells ∧ slots ≤ R.slots) (hA : ∀ q, am_A ρ n q → A q) (hm : am_met l mt d) (hmt : ∀ j N, mt j = some N → am_mfacts N) (hck : ∀ (pc : Nat) (i : am_I), M.2.2.2.2.2 pc = some i → (am_chkD M.2.1 pc i.1 = true ∧ am_rchk M.2.2.2.1 i.1 = true) ∧ am_chk M.1.cls mt pc i = true) (hret : M.2.2.2.1 = none ∨ M.2.2.2.1 = some .int ∨ M.2.2.2.1 = some .boolean) (hsys : am_sysP) (hEI : ∀ pc, am_endI p l e R s m args below meth c M ρ cA D n A cells slots Qr pc) (hEV : ∀ pc, am_endV p l e R s m args below meth c M ρ cA D n A cells slots Qr pc) :
    ∀ k, am_good p l e R s m args below meth c M ρ cA D n A cells slots Qr (am_rn (decide (M.2.2.2.1 = some .boolean)) (am_cal mt d) M.2.2.2.2.2 k) := by
  intro k
  induction k with
  | zero => intro pc L st g r h; cases h
  | succ k ih =>
    intro pc L st g r h hg H locs ls hP hS hl
    unfold am_rn at h
    cases hi : M.2.2.2.2.2 pc with
    | none => rw [hi] at h; cases h
    | some i =>
      rw [hi] at h
      obtain ⟨⟨k1, k2⟩, k3⟩ := hck pc i hi
      exact am_sim_ex X hR hA hm hmt ih h k1 k2 k3 hret hsys (hEI pc) (hEV pc) hg hP hS hl
end AMX
theorem am_meets (l : Launch) (mt : Nat → Option am_M) (hmt : ∀ j N, mt j = some N → am_mok mt N) (hsys : am_sysP) : ∀ d, am_met l mt d := by
  intro d
  induction d with
  | zero => intro j as g r M _ h; cases h
  | succ d ih =>
    intro j as g r M hj h ρ cA D n hρ hg
    obtain ⟨ha1, ha2, ha3, hrun⟩ := am_args_static hj h
    obtain ⟨hf, hck⟩ := am_mok_facts (hmt j M hj)
    obtain ⟨f1, f2, f3, f4, f5, f6, f7, f8⟩ := hf
    refine Met.ofW (cc := M.2.1) (maxL := M.2.2.1) (ret := M.2.2.2.1) (ws' := am_T) f1 rfl ?_
    intro p e s m args below meth c s₁ B hml hv
    obtain ⟨rfl, hP, hK, hN⟩ := hv
    have hts := atoms_spec (ws := am_ws M) B.pre
    have X : am_cx p s m (as.map (am_v ρ)).toArray meth c M ρ cA D n := ⟨B.exec, B.bytes, hml, findClass_of_methodNamed B.named, hts, hK, hN, B.notSynchronized, B.returns, hρ⟩
    obtain ⟨k, hk⟩ := am_run_to hrun
    have hS : va_S (am_A ρ n) s.heap s.heap [] := va_S.rf
    have hc1 : ∀ v ∈ as, (am_v ρ v).category = 1 := fun v hv => by rw [am_v_cat]; exact ha1 v hv
    have hl := am_lh_entry (ρ := ρ) (nL := M.2.2.1) hc1 ha2
    rw [lg_entry_eq]
    refine am_sim_rn (Qr := fun r => MQ below (am_Q ρ cA D n r) (as.map (am_v ρ)).toArray s 0 0 (am_A ρ n)) X ⟨Nat.le_refl _, Nat.le_refl _, Nat.zero_le _, Nat.zero_le _⟩ (fun _ h => h) ih (fun j' N' hj' => (am_mok_facts (hmt j' N' hj')).1) hck f6 hsys ?_ ?_ k _ _ _ _ _ hk hg _ _ _ hP hS hl
    · intro pc x g' hg' H locs ls hP' hS' hx hd
      rcases hx with q | ⟨q, h01⟩
      · exact W.iret (v := x) B.exec B.bytes (by rw [B.returns, q]) (fun t ht hW => ⟨rfl, by rw [ht]; exact hP', hS'.F ht⟩) hS'.2.2 hd
      · exact W.zret (v := x) (ty := .boolean) B.exec B.bytes (by rw [B.returns, q]) (am_b01 h01) (fun t ht hW => ⟨rfl, by rw [ht]; exact hP', hS'.F ht⟩) hS'.2.2 hd
    · intro pc g' hg' H locs ls hP' hS' q hd
      exact W.vret B.exec B.bytes (by rw [B.returns, q]) (fun t ht hW => ⟨rfl, by rw [ht]; exact hP', hS'.F ht⟩) hS'.2.2 hd
