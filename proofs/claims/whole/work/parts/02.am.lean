/-! ===== THE ABSTRACT MACHINE: a world of numbered cells, instructions that say what they link to, methods by number ===== -/
abbrev am_C : Type := (Nat × Nat × ((Nat → Int32) ⊕ (Nat → Option Nat))) ⊕ (Nat × List Value)
abbrev am_W : Type := List am_C
abbrev am_L : Type := List (Option Value)
abbrev am_R : Type := Option Value × am_W
abbrev am_K : Type := Nat → am_L → List Value → am_W → Option am_R
abbrev am_F : Type := Nat → List Value → am_W → Option am_R
/-- an instruction, what it links to (three numbers, a list of jumps) -/
abbrev am_I : Type := Instr × Nat × Nat × Nat × List (Int × Nat)
/-- a field of ints -/
def am_fI (g : am_W) (p ci k : Nat) : Option Int32 := match g[p]? with
  | some (.inr (c, fs)) => if c = ci then (match fs[k]? with | some (.int x) => some x | _ => none) else none
  | _ => none
/-- a field of references that isn't null -/
def am_fR (g : am_W) (p ci k : Nat) : Option Nat := match g[p]? with
  | some (.inr (c, fs)) => if c = ci then (match fs[k]? with | some (.ref x) => some x | _ => none) else none
  | _ => none
/-- a field of references that may be null -/
def am_fN (g : am_W) (p ci k : Nat) : Option (Option Nat) := match g[p]? with
  | some (.inr (c, fs)) => if c = ci then (match fs[k]? with | some (.ref x) => some (some x) | some .null => some none | _ => none) else none
  | _ => none
/-- a field is written -/
def am_sF (g : am_W) (p ci k : Nat) (v : Value) : Option am_W := match g[p]? with
  | some (.inr (c, fs)) => if c = ci then (if k < fs.length then some (g.set p (.inr (c, fs.set k v))) else none) else none
  | _ => none
/-- an element of a row of ints (t 0) or booleans (t 1) -/
def am_aI (g : am_W) (p t : Nat) (i : Int32) : Option Int32 := match g[p]? with
  | some (.inl (u, n, .inl f)) => if u = t then (if i < 0 ∨ n ≤ i.toNatClampNeg then none else some (f i.toNatClampNeg)) else none
  | _ => none
/-- an element of a row of references that isn't null -/
def am_aR (g : am_W) (p : Nat) (i : Int32) : Option Nat := match g[p]? with
  | some (.inl (u, n, .inr f)) => if 2 ≤ u ∧ u < 6 then (if i < 0 ∨ n ≤ i.toNatClampNeg then none else f i.toNatClampNeg) else none
  | _ => none
/-- an element is written -/
def am_sI (g : am_W) (p t : Nat) (i x : Int32) : Option am_W := match g[p]? with
  | some (.inl (u, n, .inl f)) => if u = t then (if i < 0 ∨ n ≤ i.toNatClampNeg then none else some (g.set p (.inl (u, n, .inl (upd f i.toNatClampNeg x))))) else none
  | _ => none
/-- how long a row is -/
def am_ln (g : am_W) (p : Nat) : Option Int32 := match g[p]? with
  | some (.inl (u, n, .inl _)) => if u < 2 then some (Int32.ofNat n) else none
  | _ => none
/-- System.arraycopy of ints -/
def am_cp (g : am_W) (a0 : Nat) (sp : Int32) (a : Nat) (dp n : Int32) : Option am_W := match g[a0]?, g[a]? with
  | some (.inl (u0, n0, .inl f)), some (.inl (u1, n1, .inl h)) =>
    if (u0 = 0 ∧ u1 = 0) ∧ ¬ sp < 0 ∧ ¬ dp < 0 ∧ ¬ n < 0 ∧ sp.toNatClampNeg + n.toNatClampNeg ≤ n0 ∧ dp.toNatClampNeg + n.toNatClampNeg ≤ n1
    then some (g.set a (.inl (u1, n1, .inl (va_cpy f h sp.toNatClampNeg dp.toNatClampNeg n.toNatClampNeg)))) else none
  | _, _ => none
def am_on {β : Type} (o : Option Nat) (a : β) (f : Nat → β) : β := match o with
  | some q => f q
  | none => a
def am_cI (o : Option am_R) : Option (Int32 × am_W) := match o with
  | some (some (.int x), g) => some (x, g)
  | _ => none
def am_cV (o : Option am_R) : Option am_W := match o with
  | some (none, g) => some g
  | _ => none
/-- a switch: the first of the values that it is -/
def am_sw (x : Int32) (d : Nat) (k : Nat → Option am_R) : List (Int × Nat) → Option am_R
  | [] => k d
  | q :: r => if x = Int32.ofInt q.1 then k q.2 else am_sw x d k r
/-- a choice that a program makes -/
def am_b0 {β : Type} (b : Bool) (x y : β) : β := match b with
  | true => x
  | false => y
def am_b1 {β : Type} (b : Bool) (x y : β) : β := am_b0 b x y
def am_b2 {β : Type} (b : Bool) (x y : β) : β := am_b1 b x y
def am_b3 {β : Type} (b : Bool) (x y : β) : β := am_b2 b x y
def am_if {β : Type} (b : Bool) (x y : β) : β := am_b3 b x y
theorem am_if_some {β : Type} {b : Bool} {x : Option β} {r : β} (h : am_if b x none = some r) : b = true ∧ x = some r := by
  cases b with
  | true => exact ⟨rfl, h⟩
  | false => exact absurd (show (none : Option β) = some r from h) (by simp)
def am_ld (L : am_L) (i : Nat) : Option Value := match L[i]? with
  | some (some v) => some v
  | _ => none
/-- a call: n values are taken off the stack -/
def am_call (F : am_F) (K : am_K) (j n : Nat) (b : Nat) (pc : Nat) (L : am_L) (st : List Value) (g : am_W) : Option am_R :=
  am_if (Nat.ble n st.length && Nat.ble ((st.drop n).map (fun v => v.category)).sum 8)
    (am_if (Nat.beq b 1) ((am_cI (F j (st.take n).reverse g)).bind (fun q => K (pc + 3) L (.int q.1 :: st.drop n) q.2))
      ((am_cV (F j (st.take n).reverse g)).bind (fun q => K (pc + 3) L (st.drop n) q)))
  none
/-- one instruction; K goes on; rz: the method answers a boolean -/
def am_ex (rz : Bool) (F : am_F) (K : am_K) (i : am_I) (pc : Nat) (L : am_L) (st : List Value) (g : am_W) : Option am_R :=
  match i.1 with
  | .iconst n => K (pc + 1) L (.int (Int32.ofInt n) :: st) g
  | .bipush n => K (pc + 2) L (.int (Int8.ofInt n).toInt32 :: st) g
  | .sipush n => K (pc + 3) L (.int (Int16.ofInt n).toInt32 :: st) g
  | .ldc _ => K (pc + 2) L (.int (Int32.ofNat i.2.1) :: st) g
  | .ldc_w _ => K (pc + 3) L (.int (Int32.ofNat i.2.1) :: st) g
  | .aconst_null => K (pc + 1) L (.null :: st) g
  | .iload_n k => (match am_ld L k.val with | some (.int x) => K (pc + 1) L (.int x :: st) g | _ => none)
  | .iload k => (match am_ld L k with | some (.int x) => K (pc + 2) L (.int x :: st) g | _ => none)
  | .aload_n k => (match am_ld L k.val with | some (.ref x) => K (pc + 1) L (.ref x :: st) g | some .null => K (pc + 1) L (.null :: st) g | _ => none)
  | .aload k => (match am_ld L k with | some (.ref x) => K (pc + 2) L (.ref x :: st) g | some .null => K (pc + 2) L (.null :: st) g | _ => none)
  | .istore_n k => (match st with | .int x :: r => am_if (Nat.blt k.val L.length) (K (pc + 1) (L.set k.val (some (.int x))) r g) none | _ => none)
  | .istore k => (match st with | .int x :: r => am_if (Nat.blt k L.length) (K (pc + 2) (L.set k (some (.int x))) r g) none | _ => none)
  | .astore_n k => (match st with | .ref x :: r => am_if (Nat.blt k.val L.length) (K (pc + 1) (L.set k.val (some (.ref x))) r g) none | .null :: r => am_if (Nat.blt k.val L.length) (K (pc + 1) (L.set k.val (some .null)) r g) none | _ => none)
  | .astore k => (match st with | .ref x :: r => am_if (Nat.blt k L.length) (K (pc + 2) (L.set k (some (.ref x))) r g) none | .null :: r => am_if (Nat.blt k L.length) (K (pc + 2) (L.set k (some .null)) r g) none | _ => none)
  | .iinc k n => (match am_ld L k with | some (.int x) => am_if (Nat.blt k L.length) (K (pc + 3) (L.set k (some (.int (x + Int32.ofInt n)))) st g) none | _ => none)
  | .iadd => (match st with | .int y :: .int x :: r => K (pc + 1) L (.int (x + y) :: r) g | _ => none)
  | .isub => (match st with | .int y :: .int x :: r => K (pc + 1) L (.int (x - y) :: r) g | _ => none)
  | .imul => (match st with | .int y :: .int x :: r => K (pc + 1) L (.int (x * y) :: r) g | _ => none)
  | .idiv => (match st with | .int y :: .int x :: r => if y = 0 then none else K (pc + 1) L (.int (x / y) :: r) g | _ => none)
  | .irem => (match st with | .int y :: .int x :: r => if y = 0 then none else K (pc + 1) L (.int (x - x / y * y) :: r) g | _ => none)
  | .iand => (match st with | .int y :: .int x :: r => K (pc + 1) L (.int (x &&& y) :: r) g | _ => none)
  | .ior => (match st with | .int y :: .int x :: r => K (pc + 1) L (.int (x ||| y) :: r) g | _ => none)
  | .ixor => (match st with | .int y :: .int x :: r => K (pc + 1) L (.int (x ^^^ y) :: r) g | _ => none)
  | .ishl => (match st with | .int y :: .int x :: r => K (pc + 1) L (.int (x <<< (y &&& 31)) :: r) g | _ => none)
  | .ishr => (match st with | .int y :: .int x :: r => K (pc + 1) L (.int (x >>> (y &&& 31)) :: r) g | _ => none)
  | .iushr => (match st with | .int y :: .int x :: r => K (pc + 1) L (.int (x.toUInt32 >>> (y.toUInt32 &&& Int32.toUInt32 31)).toInt32 :: r) g | _ => none)
  | .i2b => (match st with | .int x :: r => K (pc + 1) L (.int x.toInt8.toInt32 :: r) g | _ => none)
  | .dup => (match st with | .int x :: r => K (pc + 1) L (.int x :: .int x :: r) g | .ref x :: r => K (pc + 1) L (.ref x :: .ref x :: r) g | _ => none)
  | .dup2 => (match st with | .int x :: .ref y :: r => K (pc + 1) L (.int x :: .ref y :: .int x :: .ref y :: r) g | _ => none)
  | .goto _ => K i.2.1 L st g
  | .ifCond c _ => (match st with
    | .int x :: r => (match c with
      | .eq => if x = 0 then K i.2.1 L r g else K (pc + 3) L r g
      | .ne => if x = 0 then K (pc + 3) L r g else K i.2.1 L r g
      | .lt => if x < 0 then K i.2.1 L r g else K (pc + 3) L r g
      | .ge => if 0 ≤ x then K i.2.1 L r g else K (pc + 3) L r g
      | .gt => if 0 < x then K i.2.1 L r g else K (pc + 3) L r g
      | .le => if x ≤ 0 then K i.2.1 L r g else K (pc + 3) L r g)
    | _ => none)
  | .if_icmp c _ => (match st with
    | .int y :: .int x :: r => (match c with
      | .eq => if x = y then K i.2.1 L r g else K (pc + 3) L r g
      | .ne => if x = y then K (pc + 3) L r g else K i.2.1 L r g
      | .lt => if x < y then K i.2.1 L r g else K (pc + 3) L r g
      | .ge => if y ≤ x then K i.2.1 L r g else K (pc + 3) L r g
      | .gt => if y < x then K i.2.1 L r g else K (pc + 3) L r g
      | .le => if x ≤ y then K i.2.1 L r g else K (pc + 3) L r g)
    | _ => none)
  | .ifnull _ => (match st with | .ref _ :: r => K (pc + 3) L r g | .null :: r => K i.2.1 L r g | _ => none)
  | .ifnonnull _ => (match st with | .ref _ :: r => K i.2.1 L r g | .null :: r => K (pc + 3) L r g | _ => none)
  | .tableswitch _ _ _ _ => (match st with | .int x :: r => am_sw x i.2.1 (fun t => K t L r g) i.2.2.2.2 | _ => none)
  | .lookupswitch _ _ => (match st with | .int x :: r => am_sw x i.2.1 (fun t => K t L r g) i.2.2.2.2 | _ => none)
  | .getfield _ => (match st with
    | .ref p :: r => (match i.2.2.2.1 with
      | 0 => (am_fI g p i.2.1 i.2.2.1).bind (fun x => K (pc + 3) L (.int x :: r) g)
      | 1 => (am_fR g p i.2.1 i.2.2.1).bind (fun x => K (pc + 3) L (.ref x :: r) g)
      | _ => (am_fN g p i.2.1 i.2.2.1).bind (fun x => am_on x (K (pc + 3) L (.null :: r) g) (fun q => K (pc + 3) L (.ref q :: r) g)))
    | _ => none)
  | .putfield _ => (match st with
    | .int x :: .ref p :: r => am_if (Nat.beq i.2.2.2.1 0) ((am_sF g p i.2.1 i.2.2.1 (.int x)).bind (fun g' => K (pc + 3) L r g')) (am_if (Nat.beq i.2.2.2.1 3) (if x = 0 ∨ x = 1 then (am_sF g p i.2.1 i.2.2.1 (.int x)).bind (fun g' => K (pc + 3) L r g') else none) none)
    | .ref x :: .ref p :: r => am_if (Nat.beq i.2.2.2.1 2) ((am_sF g p i.2.1 i.2.2.1 (.ref x)).bind (fun g' => K (pc + 3) L r g')) none
    | .null :: .ref p :: r => am_if (Nat.beq i.2.2.2.1 2) ((am_sF g p i.2.1 i.2.2.1 .null).bind (fun g' => K (pc + 3) L r g')) none
    | _ => none)
  | .iaload => (match st with | .int x :: .ref p :: r => (am_aI g p 0 x).bind (fun v => K (pc + 1) L (.int v :: r) g) | _ => none)
  | .baload => (match st with | .int x :: .ref p :: r => (am_aI g p 1 x).bind (fun v => K (pc + 1) L (.int v :: r) g) | _ => none)
  | .aaload => (match st with | .int x :: .ref p :: r => (am_aR g p x).bind (fun v => K (pc + 1) L (.ref v :: r) g) | _ => none)
  | .iastore => (match st with | .int v :: .int x :: .ref p :: r => (am_sI g p 0 x v).bind (fun g' => K (pc + 1) L r g') | _ => none)
  | .bastore => (match st with | .int v :: .int x :: .ref p :: r => (am_sI g p 1 x (vp_nar .boolean v)).bind (fun g' => K (pc + 1) L r g') | _ => none)
  | .arraylength => (match st with | .ref p :: r => (am_ln g p).bind (fun v => K (pc + 1) L (.int v :: r) g) | _ => none)
  | .invokestatic _ => am_if (Nat.beq i.2.1 999)
      (match st with | .int n :: .int dp :: .ref a :: .int sp :: .ref a0 :: r => am_if (Nat.ble (r.map (fun v => v.category)).sum 8) ((am_cp g a0 sp a dp n).bind (fun g' => K (pc + 3) L r g')) none | _ => none)
      (am_if (Nat.beq i.2.1 998)
      (match st with | .int y :: .int x :: r => am_if (Nat.ble (r.map (fun v => v.category)).sum 8) (K (pc + 3) L (.int (if x < y then y else x) :: r) g) none | _ => none)
      (am_if (Nat.beq i.2.1 997)
      (match st with | .int y :: .int x :: r => am_if (Nat.ble (r.map (fun v => v.category)).sum 8) (K (pc + 3) L (.int (if y < x then y else x) :: r) g) none | _ => none)
      (am_call F K i.2.1 i.2.2.1 i.2.2.2.1 pc L st g)))
  | .invokevirtual _ => am_call F K i.2.1 i.2.2.1 i.2.2.2.1 pc L st g
  | .ireturn => (match st with | [.int x] => am_if rz (if x = 0 ∨ x = 1 then some (some (.int x), g) else none) (some (some (.int x), g)) | _ => none)
  | .return_ => (match st with | [] => some (none, g) | _ => none)
  | _ => none
