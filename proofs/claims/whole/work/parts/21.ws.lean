/-! ===== worlds by their data: cell c's number i is S c i (by gen21.py) ===== -/
abbrev am_S : Type := Nat → Nat → Int32
/-- of each cell: 0 an object (sort, fields: 0 a number, 1 a reference for ever, 2 a reference that may change, 3 or null), 1 a row of numbers, 2 a row of references -/
def kdl : List (Nat × Nat × Nat × List (Nat × Nat)) := [(0, 10, 0, [(1, 1), (1, 2), (1, 3), (1, 4), (1, 5), (1, 15), (1, 17), (1, 25), (1, 43), (1, 48), (1, 50), (0, 0)]), (2, 2, 4, [(1, 52), (1, 54), (1, 56), (1, 58)]), (2, 3, 4, [(1, 60), (1, 62), (1, 64), (1, 66)]), (2, 4, 4, [(1, 68), (1, 71), (1, 74), (1, 77)]), (2, 5, 4, [(1, 80), (1, 82), (1, 84), (1, 86)]), (0, 4, 0, [(0, 0), (0, 0), (1, 6)]), (2, 3, 4, [(1, 7), (1, 9), (1, 11), (1, 13)]), (0, 8, 0, [(0, 0), (1, 8)]), (1, 0, 128, []), (0, 8, 0, [(0, 0), (1, 10)]), (1, 0, 128, []), (0, 8, 0, [(0, 0), (1, 12)]), (1, 0, 128, []), (0, 8, 0, [(0, 0), (1, 14)]), (1, 0, 128, []), (0, 0, 0, [(0, 0), (0, 0), (0, 0), (0, 0), (1, 16)]), (1, 1, 128, []), (0, 5, 0, [(2, 0), (1, 20), (1, 21), (1, 22), (1, 23), (1, 24), (0, 0)]), (0, 2, 0, [(0, 0), (1, 19)]), (1, 0, 5, []), (1, 0, 49, []), (1, 0, 49, []), (1, 1, 7, []), (1, 0, 7, []), (1, 0, 7, []), (0, 9, 0, [(1, 26), (1, 34), (1, 35), (1, 36), (1, 37), (1, 38), (2, 0), (2, 0), (0, 0), (0, 0), (0, 0), (0, 0)]), (0, 5, 0, [(2, 0), (1, 29), (1, 30), (1, 31), (1, 32), (1, 33), (0, 0)]), (0, 2, 0, [(0, 0), (1, 28)]), (1, 0, 5, []), (1, 0, 49, []), (1, 0, 49, []), (1, 1, 7, []), (1, 0, 7, []), (1, 0, 7, []), (1, 0, 12, []), (1, 0, 12, []), (1, 1, 12, []), (1, 0, 14, []), (1, 0, 7, []), (0, 8, 0, [(0, 0), (1, 40)]), (1, 0, 128, []), (0, 2, 0, [(0, 0), (1, 42)]), (1, 0, 5, []), (0, 1, 0, [(1, 44), (1, 46), (0, 0), (0, 0), (0, 0)]), (0, 8, 0, [(0, 0), (1, 45)]), (1, 0, 128, []), (0, 8, 0, [(0, 0), (1, 47)]), (1, 0, 128, []), (0, 6, 0, [(1, 49)]), (1, 0, 7, []), (0, 8, 0, [(0, 0), (1, 51)]), (1, 0, 128, []), (0, 2, 0, [(0, 0), (1, 53)]), (1, 0, 5, []), (0, 2, 0, [(0, 0), (1, 55)]), (1, 0, 5, []), (0, 2, 0, [(0, 0), (1, 57)]), (1, 0, 5, []), (0, 2, 0, [(0, 0), (1, 59)]), (1, 0, 5, []), (0, 8, 0, [(0, 0), (1, 61)]), (1, 0, 128, []), (0, 8, 0, [(0, 0), (1, 63)]), (1, 0, 128, []), (0, 8, 0, [(0, 0), (1, 65)]), (1, 0, 128, []), (0, 8, 0, [(0, 0), (1, 67)]), (1, 0, 128, []), (0, 3, 0, [(3, 0), (0, 0), (1, 69)]), (0, 8, 0, [(0, 0), (1, 70)]), (1, 0, 128, []), (0, 3, 0, [(3, 0), (0, 0), (1, 72)]), (0, 8, 0, [(0, 0), (1, 73)]), (1, 0, 128, []), (0, 3, 0, [(3, 0), (0, 0), (1, 75)]), (0, 8, 0, [(0, 0), (1, 76)]), (1, 0, 128, []), (0, 3, 0, [(3, 0), (0, 0), (1, 78)]), (0, 8, 0, [(0, 0), (1, 79)]), (1, 0, 128, []), (0, 7, 0, [(0, 0), (0, 0), (1, 81)]), (1, 0, 64, []), (0, 7, 0, [(0, 0), (0, 0), (1, 83)]), (1, 0, 64, []), (0, 7, 0, [(0, 0), (0, 0), (1, 85)]), (1, 0, 64, []), (0, 7, 0, [(0, 0), (0, 0), (1, 87)]), (1, 0, 64, []), (0, 11, 0, [(1, 89), (1, 90), (1, 91), (1, 92), (1, 93), (1, 94), (1, 95), (1, 96), (1, 97), (1, 98), (1, 99), (1, 100), (1, 101), (0, 0), (0, 0), (0, 0), (1, 102), (1, 103), (1, 104), (1, 105), (1, 106), (0, 0), (0, 0)]), (1, 0, 4, []), (1, 0, 16, []), (1, 0, 14, []), (1, 0, 1792, []), (1, 0, 49, []), (1, 0, 49, []), (1, 0, 4, []), (1, 0, 7, []), (1, 0, 7, []), (1, 0, 49, []), (1, 0, 14, []), (1, 0, 49, []), (1, 0, 49, []), (1, 0, 4, []), (1, 0, 4, []), (1, 0, 4, []), (1, 0, 4, []), (1, 0, 256, [])]
def kd (c : Nat) : Nat × Nat × Nat × List (Nat × Nat) := kdl.getD c (9, 0, 0, [])
def fv (S : am_S) (c k : Nat) (f : Nat × Nat) : Value := match f.1 with
  | 0 => .int (S c k)
  | 1 => .ref f.2
  | 2 => .ref (S c k).toNatClampNeg
  | _ => if S c k < 0 then .null else .ref (S c k).toNatClampNeg
def rfl_ (l : List (Nat × Nat)) (j : Nat) : Option Nat := (l[j]?).map (fun q => q.2)
/-- the rows of references are for ever as they are at first -/
def gfn (c : Nat) : Nat → Option Nat := match am_g0[c]? with
  | some (.inl (_, _, .inr f)) => f
  | _ => fun _ => none
def cw (S : am_S) (c : Nat) (q : Nat × Nat × Nat × List (Nat × Nat)) : am_C := match q.1 with
  | 0 => .inr (q.2.1, q.2.2.2.mapIdx (fv S c))
  | 1 => .inl (q.2.1, q.2.2.1, .inl (S c))
  | _ => .inl (q.2.1, q.2.2.1, .inr (gfn c))
def ws (S : am_S) : am_W := kdl.mapIdx (cw S)
def up (S : am_S) (c i : Nat) (x : Int32) : am_S := fun c' i' => if c' = c then (if i' = i then x else S c' i') else S c' i'
def upA (S : am_S) (c : Nat) (f : Nat → Int32) : am_S := fun c' => if c' = c then f else S c'
theorem kdl_len : kdl.length = 107 := by decide +kernel
theorem ws_len (S : am_S) : (ws S).length = 107 := by unfold ws; rw [List.length_mapIdx]; exact kdl_len
theorem ws_at {S : am_S} {c : Nat} {q : Nat × Nat × Nat × List (Nat × Nat)} (h : kdl[c]? = some q) : (ws S)[c]? = some (cw S c q) := by
  unfold ws
  rw [List.getElem?_mapIdx, h]
  rfl
theorem ws_none {S : am_S} {c : Nat} (h : kdl[c]? = none) : (ws S)[c]? = none := by
  unfold ws
  rw [List.getElem?_mapIdx, h]
  rfl
/-- another S that differs at one cell alone -/
theorem ws_set {S S' : am_S} {c : Nat} {q : Nat × Nat × Nat × List (Nat × Nat)} {e : am_C} (h : kdl[c]? = some q) (he : e = cw S' c q) (hS : ∀ c', c' ≠ c → S' c' = S c') : (ws S).set c e = ws S' := by
  apply List.ext_getElem?
  intro j
  rw [List.getElem?_set]
  have hlt : c < (ws S).length := by rw [ws_len, ← kdl_len]; exact (List.getElem?_eq_some_iff.mp h).1
  by_cases hj : c = j
  · subst hj
    rw [if_pos rfl, if_pos hlt, he, ws_at h]
  · rw [if_neg hj]
    cases hk : kdl[j]? with
    | none => rw [ws_none hk, ws_none hk]
    | some r =>
      rw [ws_at hk, ws_at hk]
      have e1 : S' j = S j := hS j (fun z => hj z.symm)
      have : cw S j r = cw S' j r := by
        unfold cw
        have hf : fv S j = fv S' j := by funext k f; unfold fv; rw [e1]
        rw [hf, e1]
      rw [this]
theorem up_ne {S : am_S} {c i : Nat} {x : Int32} : ∀ c', c' ≠ c → up S c i x c' = S c' := fun c' h => by funext j; unfold up; rw [if_neg h]
theorem upA_ne {S : am_S} {c : Nat} {f : Nat → Int32} : ∀ c', c' ≠ c → upA S c f c' = S c' := fun c' h => by unfold upA; rw [if_neg h]
theorem up_upd (S : am_S) (c i : Nat) (x : Int32) : up S c i x c = upd (S c) i x := by
  funext j
  unfold up upd
  rw [if_pos rfl]
theorem upA_self (S : am_S) (c : Nat) (f : Nat → Int32) : upA S c f c = f := by unfold upA; rw [if_pos rfl]
theorem ws_obj {S : am_S} {p ci z : Nat} {fl : List (Nat × Nat)} (h : kdl[p]? = some (0, ci, z, fl)) : (ws S)[p]? = some (.inr (ci, fl.mapIdx (fv S p))) := ws_at h
theorem ws_arr {S : am_S} {p t n : Nat} {fl : List (Nat × Nat)} (h : kdl[p]? = some (1, t, n, fl)) : (ws S)[p]? = some (.inl (t, n, .inl (S p))) := ws_at h
theorem ws_ref {S : am_S} {p t n : Nat} {fl : List (Nat × Nat)} (h : kdl[p]? = some (2, t, n, fl)) : (ws S)[p]? = some (.inl (t, n, .inr (gfn p))) := ws_at h
set_option maxRecDepth 100000 in
theorem gfn_all : (List.range 107).all (fun p => match kdl[p]? with
  | some (2, _, n, fl) => (List.range n).all (fun i => gfn p i == rfl_ fl i)
  | _ => true) = true := by decide +kernel
theorem gfn_ok {p t n i : Nat} {fl : List (Nat × Nat)} (h : kdl[p]? = some (2, t, n, fl)) (hi : i < n) : gfn p i = rfl_ fl i := by
  have hp : p < 107 := by rw [← kdl_len]; exact (List.getElem?_eq_some_iff.mp h).1
  have h1 := List.all_eq_true.mp gfn_all p (List.mem_range.mpr hp)
  rw [h] at h1
  exact eq_of_beq (List.all_eq_true.mp h1 i (List.mem_range.mpr hi))
theorem fv_0 (S : am_S) (c k y : Nat) : fv S c k (0, y) = .int (S c k) := rfl
theorem fv_1 (S : am_S) (c k y : Nat) : fv S c k (1, y) = .ref y := rfl
theorem fv_2 (S : am_S) (c k y : Nat) : fv S c k (2, y) = .ref (S c k).toNatClampNeg := rfl
theorem fv_3 (S : am_S) (c k y : Nat) : fv S c k (3, y) = if S c k < 0 then .null else .ref (S c k).toNatClampNeg := rfl
theorem up_self (S : am_S) (c i : Nat) (x : Int32) : up S c i x c i = x := by unfold up; rw [if_pos rfl, if_pos rfl]
/-! getters -/
theorem ws_isO {S : am_S} {p ci : Nat} {z : Nat} {fl : List (Nat × Nat)} (h : kdl[p]? = some (0, ci, z, fl)) : am_isO (ws S) p ci = true := by
  unfold am_isO
  rw [ws_obj h]
  simp
theorem ws_fld {S : am_S} {p ci k : Nat} {z : Nat} {fl : List (Nat × Nat)} {f : Nat × Nat} (h : kdl[p]? = some (0, ci, z, fl)) (hk : fl[k]? = some f) : (ws S)[p]? = some (.inr (ci, fl.mapIdx (fv S p))) ∧ (fl.mapIdx (fv S p))[k]? = some (fv S p k f) := by
  refine ⟨ws_obj h, ?_⟩
  rw [List.getElem?_mapIdx, hk]
  rfl
theorem ws_fI {S : am_S} {p ci k : Nat} {z y : Nat} {fl : List (Nat × Nat)} (h : kdl[p]? = some (0, ci, z, fl)) (hk : fl[k]? = some (0, y)) : am_fI (ws S) p ci k = some (S p k) := by
  obtain ⟨h1, h2⟩ := ws_fld (S := S) h hk
  unfold am_fI
  rw [h1]
  dsimp only
  rw [if_pos rfl, h2]
  rfl
theorem ws_fR {S : am_S} {p ci k : Nat} {z y : Nat} {fl : List (Nat × Nat)} (h : kdl[p]? = some (0, ci, z, fl)) (hk : fl[k]? = some (1, y)) : am_fR (ws S) p ci k = some y := by
  obtain ⟨h1, h2⟩ := ws_fld (S := S) h hk
  unfold am_fR
  rw [h1]
  dsimp only
  rw [if_pos rfl, h2]
  rfl
theorem ws_fM {S : am_S} {p ci k : Nat} {z y : Nat} {fl : List (Nat × Nat)} (h : kdl[p]? = some (0, ci, z, fl)) (hk : fl[k]? = some (2, y)) : am_fR (ws S) p ci k = some (S p k).toNatClampNeg := by
  obtain ⟨h1, h2⟩ := ws_fld (S := S) h hk
  unfold am_fR
  rw [h1]
  dsimp only
  rw [if_pos rfl, h2]
  rfl
theorem ws_fN {S : am_S} {p ci k : Nat} {z y : Nat} {fl : List (Nat × Nat)} (h : kdl[p]? = some (0, ci, z, fl)) (hk : fl[k]? = some (3, y)) : am_fN (ws S) p ci k = some (if S p k < 0 then none else some (S p k).toNatClampNeg) := by
  obtain ⟨h1, h2⟩ := ws_fld (S := S) h hk
  unfold am_fN
  rw [h1]
  dsimp only
  rw [if_pos rfl, h2]
  by_cases hn : S p k < 0
  · have e : fv S p k (3, y) = .null := by rw [fv_3, if_pos hn]
    rw [e, if_pos hn]
  · have e : fv S p k (3, y) = .ref (S p k).toNatClampNeg := by rw [fv_3, if_neg hn]
    rw [e, if_neg hn]
theorem ws_aI {S : am_S} {p t n : Nat} {fl : List (Nat × Nat)} {i : Int32} (h : kdl[p]? = some (1, t, n, fl)) (hi : vp_in i n) : am_aI (ws S) p t i = some (S p i.toNatClampNeg) := by
  unfold am_aI
  rw [ws_arr h]
  dsimp only
  rw [if_pos rfl, if_neg hi]
theorem ws_aIn {S : am_S} {p t n : Nat} {fl : List (Nat × Nat)} {i : Nat} (h : kdl[p]? = some (1, t, n, fl)) (hi : i < n) (hn : n < 2 ^ 31) : am_aI (ws S) p t (nI i) = some (S p i) := by
  rw [ws_aI h (vp_in_nI hi hn), nI_clamp (by omega)]
theorem ws_aR {S : am_S} {p t n : Nat} {fl : List (Nat × Nat)} {i q : Nat} (h : kdl[p]? = some (2, t, n, fl)) (ht : 2 ≤ t ∧ t < 6) (hi : i < n) (hn : n < 2 ^ 31) (hq : rfl_ fl i = some q) : am_aR (ws S) p (nI i) = some q := by
  unfold am_aR
  rw [ws_ref h]
  dsimp only
  rw [if_pos ht, if_neg (vp_in_nI hi hn), nI_clamp (by omega), gfn_ok h hi]
  exact hq
theorem ws_ln {S : am_S} {p t n : Nat} {fl : List (Nat × Nat)} (h : kdl[p]? = some (1, t, n, fl)) (ht : t < 2) : am_ln (ws S) p = some (nI n) := by
  unfold am_ln
  rw [ws_arr h]
  dsimp only
  rw [if_pos ht]
  rfl
/-! setters -/
theorem fv_up {S : am_S} {p k j : Nat} {x : Int32} {f : Nat × Nat} : fv (up S p k x) p j f = if j = k then fv (up S p k x) p k f else fv S p j f := by
  by_cases h : j = k
  · rw [if_pos h, h]
  · rw [if_neg h]
    unfold fv up
    rw [if_pos rfl, if_neg h]
set_option maxRecDepth 100000 in
theorem fl_set {S : am_S} {p k : Nat} {fl : List (Nat × Nat)} {f : Nat × Nat} {x : Int32} {v : Value} (hk : fl[k]? = some f) (hv : v = fv (up S p k x) p k f) : (fl.mapIdx (fv S p)).set k v = fl.mapIdx (fv (up S p k x) p) := by
  have hlt : k < (fl.mapIdx (fv S p)).length := by rw [List.length_mapIdx]; exact (List.getElem?_eq_some_iff.mp hk).1
  apply List.ext_getElem?
  intro j
  rw [List.getElem?_set, List.getElem?_mapIdx, List.getElem?_mapIdx]
  by_cases hj : k = j
  · subst hj
    rw [if_pos rfl, if_pos hlt, hk, hv, Option.map_some]
  · rw [if_neg hj]
    cases fl[j]? with
    | none => rw [Option.map_none, Option.map_none]
    | some r => rw [Option.map_some, Option.map_some, fv_up (j := j), if_neg (fun e => hj e.symm)]
theorem cw_0 (S : am_S) (c ci z : Nat) (fl : List (Nat × Nat)) : cw S c (0, ci, z, fl) = .inr (ci, fl.mapIdx (fv S c)) := rfl
theorem sF_of {g : am_W} {p ci k : Nat} {fs : List Value} {v : Value} (h : g[p]? = some (.inr (ci, fs))) (hk : k < fs.length) : am_sF g p ci k v = some (g.set p (.inr (ci, fs.set k v))) := by
  unfold am_sF
  rw [h]
  dsimp only
  rw [if_pos rfl, if_pos hk]
theorem ws_sF {S : am_S} {p ci k : Nat} {z : Nat} {fl : List (Nat × Nat)} {f : Nat × Nat} {x : Int32} {v : Value} (h : kdl[p]? = some (0, ci, z, fl)) (hk : fl[k]? = some f) (hv : v = fv (up S p k x) p k f) : am_sF (ws S) p ci k v = some (ws (up S p k x)) := by
  have hlt : k < (fl.mapIdx (fv S p)).length := by rw [List.length_mapIdx]; exact (List.getElem?_eq_some_iff.mp hk).1
  rw [sF_of (ws_obj h) hlt, fl_set hk hv, ← cw_0 (up S p k x) p ci z fl]
  exact congrArg some (ws_set h rfl up_ne)
theorem ws_sFI {S : am_S} {p ci k : Nat} {z y : Nat} {fl : List (Nat × Nat)} {x : Int32} (h : kdl[p]? = some (0, ci, z, fl)) (hk : fl[k]? = some (0, y)) : am_sF (ws S) p ci k (.int x) = some (ws (up S p k x)) := by
  refine ws_sF h hk ?_
  rw [fv_0, up_self]
theorem ws_sFM {S : am_S} {p ci k : Nat} {z y q : Nat} {fl : List (Nat × Nat)} (h : kdl[p]? = some (0, ci, z, fl)) (hk : fl[k]? = some (2, y)) (hq : q < 2 ^ 31) : am_sF (ws S) p ci k (.ref q) = some (ws (up S p k (nI q))) := by
  refine ws_sF h hk ?_
  rw [fv_2, up_self, nI_clamp hq]
theorem ws_sFN {S : am_S} {p ci k : Nat} {z y q : Nat} {fl : List (Nat × Nat)} (h : kdl[p]? = some (0, ci, z, fl)) (hk : fl[k]? = some (3, y)) (hq : q < 2 ^ 31) : am_sF (ws S) p ci k (.ref q) = some (ws (up S p k (nI q))) := by
  refine ws_sF h hk ?_
  rw [fv_3, up_self, if_neg (nI_pos hq), nI_clamp hq]
theorem ws_sF0 {S : am_S} {p ci k : Nat} {z y : Nat} {fl : List (Nat × Nat)} (h : kdl[p]? = some (0, ci, z, fl)) (hk : fl[k]? = some (3, y)) : am_sF (ws S) p ci k .null = some (ws (up S p k (-1))) := by
  refine ws_sF h hk ?_
  rw [fv_3, up_self, if_pos (by decide)]
theorem ws_sI {S : am_S} {p t n : Nat} {fl : List (Nat × Nat)} {i x : Int32} (h : kdl[p]? = some (1, t, n, fl)) (hi : vp_in i n) : am_sI (ws S) p t i x = some (ws (up S p i.toNatClampNeg x)) := by
  unfold am_sI
  rw [ws_arr h]
  dsimp only
  rw [if_pos rfl, if_neg hi]
  refine congrArg some (ws_set h ?_ up_ne)
  show (.inl (t, n, .inl (upd (S p) i.toNatClampNeg x)) : am_C) = .inl (t, n, .inl (up S p i.toNatClampNeg x p))
  rw [up_upd]
theorem ws_sIn {S : am_S} {p t n : Nat} {fl : List (Nat × Nat)} {i : Nat} {x : Int32} (h : kdl[p]? = some (1, t, n, fl)) (hi : i < n) (hn : n < 2 ^ 31) : am_sI (ws S) p t (nI i) x = some (ws (up S p i x)) := by
  rw [ws_sI h (vp_in_nI hi hn), nI_clamp (by omega)]
theorem ws_cp {S : am_S} {p q n0 n1 a b n : Nat} {f0 f1 : List (Nat × Nat)} (h0 : kdl[p]? = some (1, 0, n0, f0)) (h1 : kdl[q]? = some (1, 0, n1, f1)) (ha : a + n ≤ n0) (hb : b + n ≤ n1) (hn0 : n0 < 2 ^ 31) (hn1 : n1 < 2 ^ 31) : am_cp (ws S) p (nI a) q (nI b) (nI n) = some (ws (upA S q (va_cpy (S p) (S q) a b n))) := by
  unfold am_cp
  rw [ws_arr h0, ws_arr h1]
  dsimp only
  rw [nI_clamp (n := a) (by omega), nI_clamp (n := b) (by omega), nI_clamp (n := n) (by omega), if_pos ⟨⟨rfl, rfl⟩, nI_pos (by omega), nI_pos (by omega), nI_pos (by omega), ha, hb⟩]
  refine congrArg some (ws_set h1 ?_ upA_ne)
  show (.inl (0, n1, .inl (va_cpy (S p) (S q) a b n)) : am_C) = .inl (0, n1, .inl (upA S q (va_cpy (S p) (S q) a b n) q))
  rw [upA_self]
