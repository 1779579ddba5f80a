/-! ===== an evaluator that computes ===== -/
def am_le (F F' : am_F) : Prop := ∀ (j : Nat) (as : List Value) (g : am_W) (r : am_R), F j as g = some r → F' j as g = some r
def am_mo (f : am_F → am_K → Option am_R) : Prop := ∀ (F F' : am_F) (K K' : am_K), am_le F F' → (∀ (pc : Nat) (L : am_L) (st : List Value) (g : am_W) (r : am_R), K pc L st g = some r → K' pc L st g = some r) → ∀ r, f F K = some r → f F' K' = some r
theorem am_mo.none : am_mo (fun _ _ => none) := fun _ _ _ _ _ _ _ h => by cases h
theorem am_mo.fin (o : Option am_R) : am_mo (fun _ _ => o) := fun _ _ _ _ _ _ _ h => h
theorem am_mo.go (pc : Nat) (L : am_L) (st : List Value) (g : am_W) : am_mo (fun _ K => K pc L st g) := fun _ _ _ _ _ hK _ h => hK _ _ _ _ _ h
theorem am_mo.ite {c : Prop} [Decidable c] {f g : am_F → am_K → Option am_R} (hf : am_mo f) (hg : am_mo g) : am_mo (fun F K => if c then f F K else g F K) := by
  by_cases h : c
  · simpa only [h, if_true] using hf
  · simpa only [h, if_false] using hg
theorem am_mo.bif {b : Bool} {f g : am_F → am_K → Option am_R} (hf : am_mo f) (hg : am_mo g) : am_mo (fun F K => am_if b (f F K) (g F K)) := by
  cases b with
  | true => exact hf
  | false => exact hg
theorem am_mo.bind {α : Type} (o : Option α) {f : α → am_F → am_K → Option am_R} (hf : ∀ a, am_mo (f a)) : am_mo (fun F K => o.bind (fun a => f a F K)) := by
  cases o with
  | none => exact am_mo.none
  | some a => exact hf a
theorem am_mo.on (o : Option Nat) {a : am_F → am_K → Option am_R} {f : Nat → am_F → am_K → Option am_R} (ha : am_mo a) (hf : ∀ q, am_mo (f q)) : am_mo (fun F K => am_on o (a F K) (fun q => f q F K)) := by
  cases o with
  | none => exact ha
  | some q => exact hf q
theorem am_mo.sw (x : Int32) (d : Nat) {k : Nat → am_F → am_K → Option am_R} (hk : ∀ t, am_mo (k t)) : ∀ l : List (Int × Nat), am_mo (fun F K => am_sw x d (fun t => k t F K) l)
  | [] => hk d
  | q :: r => am_mo.ite (hk q.2) (am_mo.sw x d hk r)
theorem am_mo.call (j n b pc : Nat) (L : am_L) (st : List Value) (g : am_W) : am_mo (fun F K => am_call F K j n b pc L st g) := by
  unfold am_call
  refine am_mo.bif (am_mo.bif ?_ ?_) am_mo.none
  · intro F F' K K' hF hK r h
    obtain ⟨q, h1, h2⟩ := Option.bind_eq_some_iff.mp h
    refine Option.bind_eq_some_iff.mpr ⟨q, ?_, hK _ _ _ _ _ h2⟩
    rw [hF _ _ _ _ (am_cI_to h1)]
    rfl
  · intro F F' K K' hF hK r h
    obtain ⟨q, h1, h2⟩ := Option.bind_eq_some_iff.mp h
    refine Option.bind_eq_some_iff.mpr ⟨q, ?_, hK _ _ _ _ _ h2⟩
    rw [hF _ _ _ _ (am_cV_to h1)]
    rfl
set_option maxHeartbeats 4000000 in
theorem am_ex_mo (rz : Bool) (i : am_I) (pc : Nat) (L : am_L) (st : List Value) (g : am_W) : am_mo (fun F K => am_ex rz F K i pc L st g) := by
  unfold am_ex
  split
  all_goals
    repeat' first
      | exact am_mo.none
      | exact am_mo.go _ _ _ _
      | exact am_mo.fin _
      | exact am_mo.call _ _ _ _ _ _ _
      | apply am_mo.ite
      | apply am_mo.bif
      | refine am_mo.bind _ (fun _ => ?_)
      | refine am_mo.on _ ?_ (fun _ => ?_)
      | refine am_mo.sw _ _ (fun _ => ?_) _
      | split
theorem am_rn_mo {rz : Bool} {F F' : am_F} (hF : am_le F F') {cd : Nat → Option am_I} : ∀ (n pc : Nat) (L : am_L) (st : List Value) (g : am_W) (r : am_R), am_rn rz F cd n pc L st g = some r → am_rn rz F' cd n pc L st g = some r := by
  intro n
  induction n with
  | zero => intro pc L st g r h; cases h
  | succ n ih =>
    intro pc L st g r h
    unfold am_rn at h ⊢
    cases hi : cd pc with
    | none => rw [hi] at h; cases h
    | some i =>
      rw [hi] at h
      exact am_ex_mo rz i pc L st g F F' _ _ hF ih r h
def am_ev (mt : Nat → Option am_M) : Nat → am_F
  | 0, _, _, _ => none
  | d + 1, j, as, g => match mt j with
    | some M => am_if (as.all (fun v => v.category == 1) && Nat.ble as.length M.2.2.1)
        (am_if (am_rcv g M.2.2.2.2.1 as) (am_rn (decide (M.2.2.2.1 = some .boolean)) (am_ev mt d) M.2.2.2.2.2 3000 0 (as.map some ++ List.replicate (M.2.2.1 - as.length) none) [] g) none) none
    | none => none
theorem am_ev_cal (mt : Nat → Option am_M) : ∀ d, am_le (am_ev mt d) (am_cal mt d) := by
  intro d
  induction d with
  | zero => intro j as g r h; cases h
  | succ d ih =>
    intro j as g r h
    unfold am_ev at h
    unfold am_cal
    cases hj : mt j with
    | none => rw [hj] at h; cases h
    | some M =>
      rw [hj] at h
      dsimp only at h ⊢
      obtain ⟨h1, h⟩ := am_if_some h
      obtain ⟨h2, h⟩ := am_if_some h
      rw [h1, h2]
      exact am_run_of (am_rn_mo ih _ _ _ _ _ _ h)
/-! ===== makers: instructions that make cells ===== -/
def am_wv (n : Nat) : Value → Bool
  | .ref k => Nat.blt k n
  | _ => true
def am_wo (n : Nat) : Option Value → Bool
  | some v => am_wv n v
  | none => true
def am_we (n : Nat) : am_C → Bool
  | .inr (_, fs) => fs.all (am_wv n)
  | .inl (_, m, .inr f) => (List.range m).all (fun j => match f j with
    | some k => Nat.blt k n
    | none => true)
  | .inl (_, _, .inl _) => true
def am_wf (L : am_L) (st : List Value) (g : am_W) : Bool := L.all (am_wo g.length) && st.all (am_wv g.length) && g.all (am_we g.length)
def am_dv (ci : Nat) : List Value := match am_cl[ci]? with
  | some (_, T, N) => (List.range N).map (fun k => match parseFieldDescriptor (T k).2.2.1 with
    | some t => defaultValue t
    | none => .null)
  | none => []
/-- the sort of the elements of a row of references -/
def am_el : Nat → Nat
  | 2 => 2
  | 3 => 8
  | 4 => 3
  | 5 => 7
  | _ => 99
def am_sR (g : am_W) (p : Nat) (i : Int32) (v : Nat) : Option am_W := match g[p]?, g[v]? with
  | some (.inl (t, n, .inr f)), some (.inr (c, _)) => am_if (Nat.beq (am_el t) c && Nat.blt t 6) (if i < 0 ∨ n ≤ i.toNatClampNeg then none else some (g.set p (.inl (t, n, .inr (va_up f i.toNatClampNeg (some v)))))) none
  | _, _ => none
def am_ex2 (F : am_F) (G : Nat → List Value → am_W → Option am_W) (nc : Nat → Nat) (lim : Nat) (K : am_K) (i : am_I) (pc : Nat) (L : am_L) (st : List Value) (g : am_W) : Option am_R :=
  match i.1 with
  | .new _ => am_if (am_wf L st g && Nat.blt g.length lim && Nat.ble (am_dv i.2.1).length 2000) (K (pc + 3) L (.ref g.length :: st) (g ++ [.inr (i.2.1, am_dv i.2.1)])) none
  | .newarray ty => (match st with
    | .int n :: r => am_if (am_wf L r g && Nat.blt g.length lim && Nat.ble n.toNatClampNeg 2000) (if n < 0 then none else (match ty with
      | .int => K (pc + 2) L (.ref g.length :: r) (g ++ [.inl (0, n.toNatClampNeg, .inl (fun _ => 0))])
      | .boolean => K (pc + 2) L (.ref g.length :: r) (g ++ [.inl (1, n.toNatClampNeg, .inl (fun _ => 0))])
      | _ => none)) none
    | _ => none)
  | .anewarray _ => (match st with
    | .int n :: r => am_if (am_wf L r g && Nat.blt g.length lim && Nat.ble n.toNatClampNeg 2000 && (Nat.blt 1 i.2.1 && Nat.blt i.2.1 6)) (if n < 0 then none else K (pc + 3) L (.ref g.length :: r) (g ++ [.inl (i.2.1, n.toNatClampNeg, .inr (fun _ => none))])) none
    | _ => none)
  | .invokespecial _ => am_if (Nat.beq i.2.1 990) (match st with
      | .ref _ :: r => am_if (Nat.ble (r.map (fun v => v.category)).sum 8) (K (pc + 3) L r g) none
      | _ => none)
      (am_if (am_wf L (st.drop i.2.2.1) g && Nat.ble i.2.2.1 st.length && Nat.ble ((st.drop i.2.2.1).map (fun v => v.category)).sum 8 && Nat.ble (g.length + nc i.2.1) lim) ((G i.2.1 (st.take i.2.2.1).reverse g).bind (fun g' => am_if (Nat.beq g'.length (g.length + nc i.2.1)) (K (pc + 3) L (st.drop i.2.2.1) g') none)) none)
  | .putfield _ => am_if (Nat.beq i.2.2.2.1 5) (match st with
      | .int x :: .ref p :: r => (am_sF g p i.2.1 i.2.2.1 (.int x)).bind (fun g' => K (pc + 3) L r g')
      | _ => none)
      (am_if (Nat.beq i.2.2.2.1 6) (match st with
      | .ref x :: .ref p :: r => (am_sF g p i.2.1 i.2.2.1 (.ref x)).bind (fun g' => K (pc + 3) L r g')
      | _ => none) (am_ex false F K i pc L st g))
  | .aastore => (match st with
    | .ref v :: .int x :: .ref p :: r => (am_sR g p x v).bind (fun g' => K (pc + 1) L r g')
    | _ => none)
  | .return_ => (match st with
    | [] => am_if (Nat.beq g.length lim) (some (none, g)) none
    | _ => none)
  | _ => am_ex false F K i pc L st g
def am_rn2 (F : am_F) (G : Nat → List Value → am_W → Option am_W) (nc : Nat → Nat) (lim : Nat) (cd : Nat → Option am_I) : Nat → am_K
  | 0, _, _, _, _ => none
  | n + 1, pc, L, st, g => match cd pc with
    | some i => am_ex2 F G nc lim (am_rn2 F G nc lim cd n) i pc L st g
    | none => none
def am_isR : List Value → Bool
  | .ref _ :: _ => true
  | _ => false
/-- a constructor, by number: what the world is behind it -/
def am_new (mt nt : Nat → Option am_M) (nc : Nat → Nat) : Nat → Nat → List Value → am_W → Option am_W
  | 0, _, _, _ => none
  | d + 1, j, as, g => match nt j with
    | some M => am_if (as.all (fun v => v.category == 1) && Nat.ble as.length M.2.2.1 && am_isR as)
        (am_cV (am_rn2 (am_ev mt 4) (am_new mt nt nc d) nc (g.length + nc j) M.2.2.2.2.2 3000 0 (as.map some ++ List.replicate (M.2.2.1 - as.length) none) [] g)) none
    | none => none
