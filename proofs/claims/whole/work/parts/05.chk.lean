/-! ===== a run keeps how many cells there are ===== -/
def am_kp (n : Nat) (f : am_K → Option am_R) : Prop := ∀ K : am_K, (∀ (pc : Nat) (L : am_L) (st : List Value) (g : am_W) (r : am_R), g.length = n → K pc L st g = some r → r.2.length = n) → ∀ r, f K = some r → r.2.length = n
theorem am_kp.none {n : Nat} : am_kp n (fun _ => none) := fun _ _ _ h => by cases h
theorem am_kp.fin {n : Nat} (v : Option Value) (g : am_W) (h : g.length = n) : am_kp n (fun _ => some (v, g)) := fun _ _ r hr => by cases hr; exact h
theorem am_kp.go {n : Nat} (pc : Nat) (L : am_L) (st : List Value) (g : am_W) (h : g.length = n) : am_kp n (fun K => K pc L st g) := fun _ hK r hr => hK _ _ _ _ r h hr
theorem am_kp.ite {n : Nat} {c : Prop} [Decidable c] {f g : am_K → Option am_R} (hf : am_kp n f) (hg : am_kp n g) : am_kp n (fun K => if c then f K else g K) := by
  by_cases h : c
  · simpa only [h, if_true] using hf
  · simpa only [h, if_false] using hg
theorem am_kp.bif {n : Nat} {b : Bool} {f g : am_K → Option am_R} (hf : am_kp n f) (hg : am_kp n g) : am_kp n (fun K => am_if b (f K) (g K)) := by
  cases b with
  | true => exact hf
  | false => exact hg
theorem am_kp.bind {n : Nat} {α : Type} (o : Option α) {f : α → am_K → Option am_R} (hf : ∀ a, o = some a → am_kp n (f a)) : am_kp n (fun K => o.bind (fun a => f a K)) := by
  cases o with
  | none => exact am_kp.none
  | some a => exact hf a rfl
theorem am_kp.on {n : Nat} (o : Option Nat) {a : am_K → Option am_R} {f : Nat → am_K → Option am_R} (ha : am_kp n a) (hf : ∀ q, am_kp n (f q)) : am_kp n (fun K => am_on o (a K) (fun q => f q K)) := by
  cases o with
  | none => exact ha
  | some q => exact hf q
theorem am_kp.sw {n : Nat} (x : Int32) (d : Nat) {k : Nat → am_K → Option am_R} (hk : ∀ t, am_kp n (k t)) : ∀ l : List (Int × Nat), am_kp n (fun K => am_sw x d (fun t => k t K) l)
  | [] => hk d
  | q :: r => am_kp.ite (hk q.2) (am_kp.sw x d hk r)
theorem am_sF_len {g g' : am_W} {p ci k : Nat} {v : Value} (h : am_sF g p ci k v = some g') : g'.length = g.length := by
  unfold am_sF at h
  repeat' split at h
  all_goals first | (cases h; done) | (rw [← Option.some.inj h, List.length_set])
theorem am_sI_len {g g' : am_W} {p t : Nat} {i x : Int32} (h : am_sI g p t i x = some g') : g'.length = g.length := by
  unfold am_sI at h
  repeat' split at h
  all_goals first | (cases h; done) | (rw [← Option.some.inj h, List.length_set])
theorem am_cp_len {g g' : am_W} {a0 a : Nat} {sp dp n : Int32} (h : am_cp g a0 sp a dp n = some g') : g'.length = g.length := by
  unfold am_cp at h
  repeat' split at h
  all_goals first | (cases h; done) | (rw [← Option.some.inj h, List.length_set])
def am_Fk (F : am_F) : Prop := ∀ (j : Nat) (as : List Value) (g : am_W) (r : am_R), F j as g = some r → r.2.length = g.length
theorem am_cI_to {o : Option am_R} {q : Int32 × am_W} (h : am_cI o = some q) : o = some (some (.int q.1), q.2) := by
  unfold am_cI at h
  split at h
  · cases h; rfl
  · cases h
theorem am_cV_to {o : Option am_R} {q : am_W} (h : am_cV o = some q) : o = some (none, q) := by
  unfold am_cV at h
  split at h
  · cases h; rfl
  · cases h
theorem am_kp.call {n : Nat} {F : am_F} (hF : am_Fk F) (j k b pc : Nat) (L : am_L) (st : List Value) (g : am_W) (hg : g.length = n) : am_kp n (fun K => am_call F K j k b pc L st g) := by
  unfold am_call
  refine am_kp.bif (am_kp.bif (am_kp.bind _ (fun q hq => am_kp.go _ _ _ _ ?_)) (am_kp.bind _ (fun q hq => am_kp.go _ _ _ _ ?_))) am_kp.none
  · exact (hF _ _ _ _ (am_cI_to hq)).trans hg
  · exact (hF _ _ _ _ (am_cV_to hq)).trans hg
set_option maxHeartbeats 4000000 in
theorem am_ex_kp {n : Nat} (rz : Bool) {F : am_F} (hF : am_Fk F) (i : am_I) (pc : Nat) (L : am_L) (st : List Value) (g : am_W) (hg : g.length = n) : am_kp n (fun K => am_ex rz F K i pc L st g) := by
  unfold am_ex
  split
  all_goals
    repeat' first
      | exact am_kp.none
      | exact am_kp.go _ _ _ _ hg
      | exact am_kp.go _ _ _ _ ((am_sF_len (by assumption)).trans hg)
      | exact am_kp.go _ _ _ _ ((am_sI_len (by assumption)).trans hg)
      | exact am_kp.go _ _ _ _ ((am_cp_len (by assumption)).trans hg)
      | exact am_kp.fin _ _ hg
      | exact am_kp.call hF _ _ _ _ _ _ _ hg
      | apply am_kp.ite
      | apply am_kp.bif
      | refine am_kp.bind _ (fun _ _ => ?_)
      | refine am_kp.on _ ?_ (fun _ => ?_)
      | refine am_kp.sw _ _ (fun _ => ?_) _
      | split
theorem am_rn_kp {n : Nat} {rz : Bool} {F : am_F} (hF : am_Fk F) {cd : Nat → Option am_I} : ∀ (k pc : Nat) (L : am_L) (st : List Value) (g : am_W) (r : am_R), g.length = n → am_rn rz F cd k pc L st g = some r → r.2.length = n := by
  intro k
  induction k with
  | zero => intro pc L st g r _ h; cases h
  | succ k ih =>
    intro pc L st g r hg h
    unfold am_rn at h
    cases hi : cd pc with
    | none => rw [hi] at h; cases h
    | some i =>
      rw [hi] at h
      exact am_ex_kp rz hF i pc L st g hg _ ih r h
/-! ===== methods by number ===== -/
/-- its name, bytes, how many locals, what it answers, whose it is (12: static), its instructions -/
abbrev am_M : Type := MethodName × ByteArray × Nat × Option FieldType × Nat × (Nat → Option am_I)
def am_isO (g : am_W) (p ci : Nat) : Bool := match g[p]? with
  | some (.inr (c, _)) => c == ci
  | _ => false
def am_rcv (g : am_W) (ci : Nat) (as : List Value) : Bool := match ci with
  | 12 => true
  | ci => (match as with
    | .ref p :: _ => am_isO g p ci
    | _ => false)
noncomputable def am_cal (mt : Nat → Option am_M) : Nat → am_F
  | 0, _, _, _ => none
  | d + 1, j, as, g => match mt j with
    | some M => am_if (as.all (fun v => v.category == 1) && Nat.ble as.length M.2.2.1)
        (am_if (am_rcv g M.2.2.2.2.1 as) (am_run (decide (M.2.2.2.1 = some .boolean)) (am_cal mt d) M.2.2.2.2.2 0 (as.map some ++ List.replicate (M.2.2.1 - as.length) none) [] g) none) none
    | none => none
theorem am_cal_kp (mt : Nat → Option am_M) : ∀ d, am_Fk (am_cal mt d) := by
  intro d
  induction d with
  | zero => intro j as g r h; cases h
  | succ d ih =>
    intro j as g r h
    unfold am_cal at h
    split at h
    · obtain ⟨n, hn⟩ := am_run_to (am_if_some (am_if_some h).2).2
      exact am_rn_kp ih n _ _ _ _ _ rfl hn
    · cases h
/-! ===== what the tables say of an instruction ===== -/
def am_isN : Jvm.Cond → Bool
  | .fieldLinkNest _ _ _ _ _ _ => true
  | .methodLinkNest _ _ _ _ => true
  | _ => false
def am_T : List Jvm.Cond := lw_tbl.filter goodWord
def am_nw (U : State) : Prop := ∀ w ∈ lw_tbl, am_isN w = true → va_Nw w U
def am_in (h : Nat) (w : Jvm.Cond) : Bool := decide (lw_tbl[h]? = some w)
theorem am_in_mem {h : Nat} {w : Jvm.Cond} (hh : am_in h w = true) : w ∈ lw_tbl := List.mem_of_getElem? (of_decide_eq_true hh)
theorem am_in_T {h : Nat} {w : Jvm.Cond} (hh : am_in h w = true) (hg : goodWord w = true) : w ∈ am_T := List.mem_filter.mpr ⟨am_in_mem hh, hg⟩
def am_hint (i : am_I) : Nat := match i.2.2.2.2 with
  | q :: _ => q.2
  | [] => 0
def am_len : Instr → Nat
  | .bipush _ => 2
  | .sipush _ => 3
  | .ldc _ => 2
  | .ldc_w _ => 3
  | .iload _ => 2
  | .aload _ => 2
  | .istore _ => 2
  | .astore _ => 2
  | .iinc _ _ => 3
  | .goto _ => 3
  | .ifCond _ _ => 3
  | .if_icmp _ _ => 3
  | .ifnull _ => 3
  | .ifnonnull _ => 3
  | .getfield _ => 3
  | .putfield _ => 3
  | .invokestatic _ => 3
  | .invokevirtual _ => 3
  | .invokespecial _ => 3
  | .new _ => 3
  | .anewarray _ => 3
  | .newarray _ => 2
  | _ => 1
def am_sww : Instr → Bool
  | .tableswitch _ _ _ _ => true
  | .lookupswitch _ _ => true
  | _ => false
def am_chkD (cc : ByteArray) (pc : Nat) (i : Instr) : Bool := match decode cc pc with
  | .ok (j, ln) => decide (j = i) && (am_sww i || decide (ln = am_len i))
  | .error _ => false
/-- the jumps of a table, from a value on -/
def am_tsw (pc : Nat) : Int → List Int → List (Int × Nat) → Bool
  | _, [], [] => true
  | lo, o :: os, q :: qs => decide (q.1 = lo) && decide ((pc : Int) + o = (q.2 : Int)) && am_tsw pc (lo + 1) os qs
  | _, _, _ => false
def am_lsw (pc : Nat) : List (Int × Int) → List (Int × Nat) → Bool
  | [], [] => true
  | o :: os, q :: qs => decide (q.1 = o.1) && decide ((pc : Int) + o.2 = (q.2 : Int)) && decide (-2147483648 ≤ o.1 ∧ o.1 ≤ 2147483647) && am_lsw pc os qs
  | _, _ => false
def am_fchk (own : String) (k : Nat) (i : am_I) : Bool := match am_cl[i.2.1]? with
  | some (_, T, N) => decide (i.2.2.1 < N) && (am_in (am_hint i) (.fieldLink own k (T i.2.2.1).1 (T i.2.2.1).2.1 (T i.2.2.1).2.2.1) || am_in (am_hint i) (.fieldLinkNest own k (T i.2.2.1).1 (T i.2.2.1).2.1 (T i.2.2.1).2.2.1 "WrittenColumns"))
  | none => false
def am_isObj : Option FieldType → Bool
  | some (.object _) => true
  | _ => false
def am_pchk (i : am_I) : Bool := match am_cl[i.2.1]? with
  | some (_, T, _) => !(T i.2.2.1).2.2.2 && (match i.2.2.2.1 with
    | 0 => decide (parseFieldDescriptor (T i.2.2.1).2.2.1 = some .int)
    | 3 => decide (parseFieldDescriptor (T i.2.2.1).2.2.1 = some .boolean)
    | 2 => am_isObj (parseFieldDescriptor (T i.2.2.1).2.2.1)
    | _ => false)
  | none => false
def am_mchk (own : String) (k : Nat) (i : am_I) (M : am_M) : Bool := (am_in (am_hint i) (.methodLink own k M.1) || am_in (am_hint i) (.methodLinkNest own k M.1 "WrittenColumns")) && decide (M.2.2.2.1.isSome = decide (i.2.2.2.1 = 1))
def am_npar (y : MethodName) : Option Nat := (parseMethodDescriptor y.desc).map (fun d => d.parameters.length)
def am_chk (own : String) (mt : Nat → Option am_M) (pc : Nat) (i : am_I) : Bool := match i.1 with
  | .ldc k => am_in (am_hint i) (.constant own k (Int32.ofNat i.2.1))
  | .ldc_w k => am_in (am_hint i) (.constant own k (Int32.ofNat i.2.1))
  | .goto off => decide ((pc : Int) + off = (i.2.1 : Int))
  | .ifCond _ off => decide ((pc : Int) + off = (i.2.1 : Int))
  | .if_icmp _ off => decide ((pc : Int) + off = (i.2.1 : Int))
  | .ifnull off => decide ((pc : Int) + off = (i.2.1 : Int))
  | .ifnonnull off => decide ((pc : Int) + off = (i.2.1 : Int))
  | .tableswitch d lo hi offs => decide ((pc : Int) + d = (i.2.1 : Int)) && decide (lo + (offs.size : Int) = hi + 1) && decide (-2147483648 ≤ lo ∧ hi ≤ 2147483647) && am_tsw pc lo offs.toList i.2.2.2.2
  | .lookupswitch d ps => decide ((pc : Int) + d = (i.2.1 : Int)) && (ps.toList.zip (ps.toList.drop 1)).all (fun (a, next) => a.1 < next.1) && am_lsw pc ps.toList i.2.2.2.2
  | .getfield k => am_fchk own k i
  | .putfield k => am_fchk own k i && am_pchk i
  | .invokestatic k => if i.2.1 = 999 then am_in (am_hint i) (.methodLink own k arraycopyName) else if i.2.1 = 998 then am_in (am_hint i) (.methodLink own k Lib.Math.max.name) else if i.2.1 = 997 then am_in (am_hint i) (.methodLink own k Lib.Math.min.name) else (match mt i.2.1 with
    | some M => am_mchk own k i M && decide (M.2.2.2.2.1 = 12) && decide (am_npar M.1 = some i.2.2.1)
    | none => false)
  | .invokevirtual k => (match mt i.2.1 with
    | some M => am_mchk own k i M && Nat.blt M.2.2.2.2.1 12 && decide ((am_npar M.1).map (· + 1) = some i.2.2.1)
    | none => false)
  | _ => true
def am_rchk (rt : Option FieldType) : Instr → Bool
  | .ireturn => rt.isSome
  | .return_ => rt.isNone
  | _ => true
/-- what the tables say of a method: hints of its words -/
def am_mth (mt : Nat → Option am_M) (M : am_M) (h : Nat × Nat × Nat × Nat) (tb : List (Nat × am_I)) : Bool :=
  plainName M.1.cls && am_in h.1 (.code M.1 M.2.1 M.2.2.1 M.2.2.2.1) && am_in h.2.1 (.initialized M.1.cls) && decide (M.1.cls ≠ "java/lang/invoke/MethodHandle") && decide (M.1.cls ≠ "java/lang/invoke/VarHandle") && Nat.ble M.2.2.1 30
  && (decide (M.2.2.2.1 = none) || decide (M.2.2.2.1 = some .int) || decide (M.2.2.2.1 = some .boolean))
  && (if M.2.2.2.2.1 = 12 then am_in h.2.2.1 (.static M.1) else (am_in h.2.2.1 (.instanceMethod M.1) && am_in h.2.2.2 (.selects M.1.cls M.1 M.1) && (match am_cl[M.2.2.2.2.1]? with | some (C, _, _) => decide (C = M.1.cls) | none => false)))
  && tb.all (fun q => am_chkD M.2.1 q.1 q.2.1 && am_rchk M.2.2.2.1 q.2.1 && am_chk M.1.cls mt q.1 q.2)
def am_mok (mt : Nat → Option am_M) (M : am_M) : Prop := ∃ (h : Nat × Nat × Nat × Nat) (tb : List (Nat × am_I)), am_mth mt M h tb = true ∧ ∀ (pc : Nat) (i : am_I), M.2.2.2.2.2 pc = some i → (pc, i) ∈ tb
def am_sysP : Prop := (Jvm.Cond.native arraycopyName ∈ am_T ∧ Jvm.Cond.static arraycopyName ∈ am_T ∧ Jvm.Cond.initialized "java/lang/System" ∈ am_T) ∧ Jvm.Cond.initialized "java/lang/Math" ∈ am_T ∧ (Jvm.Cond.static Lib.Math.max.name ∈ am_T ∧ Jvm.Cond.code Lib.Math.max.name Lib.Math.max.code 2 (some .int) ∈ am_T) ∧ Jvm.Cond.static Lib.Math.min.name ∈ am_T ∧ Jvm.Cond.code Lib.Math.min.name Lib.Math.min.code 2 (some .int) ∈ am_T
