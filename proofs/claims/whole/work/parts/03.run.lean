/-! ===== runs ===== -/
def am_rn (rz : Bool) (F : am_F) (cd : Nat → Option am_I) : Nat → am_K
  | 0, _, _, _, _ => none
  | n + 1, pc, L, st, g => match cd pc with
    | some i => am_ex rz F (am_rn rz F cd n) i pc L st g
    | none => none
/-- what goes on is asked at one place at most -/
def am_alg (f : am_K → Option am_R) : Prop := ∀ (K : am_K) (r : am_R), f K = some r → (∀ K' : am_K, f K' = some r) ∨ ∃ (pc : Nat) (L : am_L) (st : List Value) (g : am_W), K pc L st g = some r ∧ ∀ K' : am_K, K' pc L st g = some r → f K' = some r
theorem am_alg.none : am_alg (fun _ => none) := fun _ _ h => by cases h
theorem am_alg.fin (o : Option am_R) : am_alg (fun _ => o) := fun _ _ h => Or.inl (fun _ => h)
theorem am_alg.go (pc : Nat) (L : am_L) (st : List Value) (g : am_W) : am_alg (fun K => K pc L st g) := fun _ _ h => Or.inr ⟨pc, L, st, g, h, fun _ h => h⟩
theorem am_alg.ite {c : Prop} [Decidable c] {f g : am_K → Option am_R} (hf : am_alg f) (hg : am_alg g) : am_alg (fun K => if c then f K else g K) := by
  by_cases h : c
  · simpa only [h, if_true] using hf
  · simpa only [h, if_false] using hg
theorem am_alg.bif {b : Bool} {f g : am_K → Option am_R} (hf : am_alg f) (hg : am_alg g) : am_alg (fun K => am_if b (f K) (g K)) := by
  cases b with
  | true => exact hf
  | false => exact hg
theorem am_alg.bind {α : Type} (o : Option α) {f : α → am_K → Option am_R} (hf : ∀ a, am_alg (f a)) : am_alg (fun K => o.bind (fun a => f a K)) := by
  cases o with
  | none => exact am_alg.none
  | some a => exact hf a
theorem am_alg.on (o : Option Nat) {a : am_K → Option am_R} {f : Nat → am_K → Option am_R} (ha : am_alg a) (hf : ∀ q, am_alg (f q)) : am_alg (fun K => am_on o (a K) (fun q => f q K)) := by
  cases o with
  | none => exact ha
  | some q => exact hf q
theorem am_alg.sw (x : Int32) (d : Nat) {k : Nat → am_K → Option am_R} (hk : ∀ t, am_alg (k t)) : ∀ l : List (Int × Nat), am_alg (fun K => am_sw x d (fun t => k t K) l)
  | [] => hk d
  | q :: r => am_alg.ite (hk q.2) (am_alg.sw x d hk r)
theorem am_alg.call (F : am_F) (j n b pc : Nat) (L : am_L) (st : List Value) (g : am_W) : am_alg (fun K => am_call F K j n b pc L st g) := by
  unfold am_call
  exact am_alg.bif (am_alg.bif (am_alg.bind _ (fun _ => am_alg.go _ _ _ _)) (am_alg.bind _ (fun _ => am_alg.go _ _ _ _))) am_alg.none
set_option maxHeartbeats 4000000 in
theorem am_ex_alg (rz : Bool) (F : am_F) (i : am_I) (pc : Nat) (L : am_L) (st : List Value) (g : am_W) : am_alg (fun K => am_ex rz F K i pc L st g) := by
  unfold am_ex
  split
  all_goals
    repeat' first
      | exact am_alg.none
      | exact am_alg.go _ _ _ _
      | exact am_alg.fin _
      | exact am_alg.call _ _ _ _ _ _ _ _
      | apply am_alg.ite
      | apply am_alg.bif
      | refine am_alg.bind _ (fun _ => ?_)
      | refine am_alg.on _ ?_ (fun _ => ?_)
      | refine am_alg.sw _ _ (fun _ => ?_) _
      | split
theorem am_rn_mono {rz : Bool} {F : am_F} {cd : Nat → Option am_I} : ∀ (n : Nat) (pc : Nat) (L : am_L) (st : List Value) (g : am_W) (r : am_R), am_rn rz F cd n pc L st g = some r → am_rn rz F cd (n + 1) pc L st g = some r := by
  intro n
  induction n with
  | zero => intro pc L st g r h; cases h
  | succ n ih =>
    intro pc L st g r h
    unfold am_rn at h ⊢
    cases hi : cd pc with
    | none => rw [hi] at h; cases h
    | some i =>
      rw [hi] at h
      dsimp only at h ⊢
      rcases am_ex_alg rz F i pc L st g _ r h with h1 | ⟨pc', L', st', g', h1, h2⟩
      · exact h1 _
      · exact h2 _ (ih _ _ _ _ _ h1)
theorem am_rn_le {rz : Bool} {F : am_F} {cd : Nat → Option am_I} {n k : Nat} (hk : n ≤ k) {pc : Nat} {L : am_L} {st : List Value} {g : am_W} {r : am_R} (h : am_rn rz F cd n pc L st g = some r) : am_rn rz F cd k pc L st g = some r := by
  induction hk with
  | refl => exact h
  | step _ ih => exact am_rn_mono _ _ _ _ _ _ ih
noncomputable def am_run (rz : Bool) (F : am_F) (cd : Nat → Option am_I) (pc : Nat) (L : am_L) (st : List Value) (g : am_W) : Option am_R :=
  @dite (Option am_R) (∃ (r : am_R) (n : Nat), am_rn rz F cd n pc L st g = some r) (Classical.propDecidable _) (fun h => some h.choose) (fun _ => none)
theorem am_run_of {rz : Bool} {F : am_F} {cd : Nat → Option am_I} {n : Nat} {pc : Nat} {L : am_L} {st : List Value} {g : am_W} {r : am_R} (h : am_rn rz F cd n pc L st g = some r) : am_run rz F cd pc L st g = some r := by
  have hx : ∃ (r : am_R) (n : Nat), am_rn rz F cd n pc L st g = some r := ⟨r, n, h⟩
  unfold am_run
  rw [dif_pos hx]
  obtain ⟨k, hk⟩ := hx.choose_spec
  have h1 := am_rn_le (Nat.le_max_left n k) h
  have h2 := am_rn_le (Nat.le_max_right n k) hk
  exact h2.symm.trans h1
theorem am_run_to {rz : Bool} {F : am_F} {cd : Nat → Option am_I} {pc : Nat} {L : am_L} {st : List Value} {g : am_W} {r : am_R} (h : am_run rz F cd pc L st g = some r) : ∃ n, am_rn rz F cd n pc L st g = some r := by
  unfold am_run at h
  by_cases hx : ∃ (r : am_R) (n : Nat), am_rn rz F cd n pc L st g = some r
  · rw [dif_pos hx] at h
    rw [← Option.some.inj h]
    exact hx.choose_spec
  · rw [dif_neg hx] at h
    cases h
/-- a run goes on by its instruction -/
theorem am_run_eq (rz : Bool) (F : am_F) (cd : Nat → Option am_I) (pc : Nat) (L : am_L) (st : List Value) (g : am_W) : am_run rz F cd pc L st g = (match cd pc with | some i => am_ex rz F (am_run rz F cd) i pc L st g | none => none) := by
  apply Option.ext
  intro r
  constructor
  · intro h
    obtain ⟨n, hn⟩ := am_run_to h
    cases n with
    | zero => cases hn
    | succ n =>
      unfold am_rn at hn
      cases hi : cd pc with
      | none => rw [hi] at hn; cases hn
      | some i =>
        rw [hi] at hn
        dsimp only at hn ⊢
        rcases am_ex_alg rz F i pc L st g _ r hn with h1 | ⟨pc', L', st', g', h1, h2⟩
        · exact h1 _
        · exact h2 _ (am_run_of h1)
  · intro h
    cases hi : cd pc with
    | none => rw [hi] at h; cases h
    | some i =>
      rw [hi] at h
      dsimp only at h
      rcases am_ex_alg rz F i pc L st g _ r h with h1 | ⟨pc', L', st', g', h1, h2⟩
      · refine am_run_of (n := 1) ?_
        unfold am_rn
        rw [hi]
        exact h1 _
      · obtain ⟨n, hn⟩ := am_run_to h1
        refine am_run_of (n := n + 1) ?_
        unfold am_rn
        rw [hi]
        exact h2 _ hn
/-- many instructions at once, up to the stops (the first is taken in any case) -/
def am_go (rz : Bool) (F : am_F) (cd : Nat → Option am_I) (stops : List Nat) (K : am_K) : Nat → am_K
  | 0, pc, L, st, g => K pc L st g
  | n + 1, pc, L, st, g => match cd pc with
    | some i => am_ex rz F (fun pc' L' st' g' => am_if (stops.elem pc') (K pc' L' st' g') (am_go rz F cd stops K n pc' L' st' g')) i pc L st g
    | none => none
theorem am_run_go (rz : Bool) (F : am_F) (cd : Nat → Option am_I) (stops : List Nat) : ∀ (n pc : Nat) (L : am_L) (st : List Value) (g : am_W), am_run rz F cd pc L st g = am_go rz F cd stops (am_run rz F cd) n pc L st g := by
  intro n
  induction n with
  | zero => intro pc L st g; rfl
  | succ n ih =>
    intro pc L st g
    rw [am_run_eq]
    unfold am_go
    cases cd pc with
    | none => rfl
    | some i =>
      dsimp only
      congr 1
      funext pc' L' st' g'
      cases stops.elem pc' with
      | true => rfl
      | false => exact ih _ _ _ _
