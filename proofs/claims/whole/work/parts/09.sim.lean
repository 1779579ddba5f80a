theorem am_sw_tab {pc : Nat} {x : Int32} {k : Nat → Option am_R} {d : Nat} {r : am_R} : ∀ (offs : List Int) (tl : List (Int × Nat)) (lo : Int), am_tsw pc lo offs tl = true → -2147483648 ≤ lo → lo + offs.length ≤ 2147483648 → am_sw x d k tl = some r →
    (∃ (j : Nat) (o : Int) (t : Nat), x.toInt = lo + j ∧ offs[j]? = some o ∧ (pc : Int) + o = (t : Int) ∧ k t = some r) ∨ ((x.toInt < lo ∨ lo + offs.length ≤ x.toInt) ∧ k d = some r)
  | [], [], lo, _, _, _, h => Or.inr ⟨by simp; omega, h⟩
  | [], _ :: _, _, h, _, _, _ => by cases h
  | _ :: _, [], _, h, _, _, _ => by cases h
  | o :: os, q :: qs, lo, h, h1, h2, hs => by
    simp only [am_tsw, Bool.and_eq_true, decide_eq_true_eq] at h
    obtain ⟨⟨e1, e2⟩, e3⟩ := h
    rw [List.length_cons] at h2
    have hlo : (Int32.ofInt q.1).toInt = lo := by
      rw [e1]
      exact Int32.toInt_ofInt_of_le (by simpa using h1) (by simpa using (show lo < 2147483648 by omega))
    unfold am_sw at hs
    by_cases hx : x = Int32.ofInt q.1
    · rw [if_pos hx] at hs
      exact Or.inl ⟨0, o, q.2, by rw [hx, hlo]; simp, rfl, e2, hs⟩
    · rw [if_neg hx] at hs
      have hne : x.toInt ≠ lo := fun hh => hx (Int32.toInt_inj.mp (hh.trans hlo.symm))
      rcases am_sw_tab os qs (lo + 1) e3 (by omega) (by omega) hs with ⟨j, o', t, a1, a2, a3, a4⟩ | ⟨a1, a2⟩
      · exact Or.inl ⟨j + 1, o', t, by rw [a1]; omega, a2, a3, a4⟩
      · refine Or.inr ⟨?_, a2⟩
        rw [List.length_cons]
        omega
theorem am_sw_look {pc : Nat} {x : Int32} {k : Nat → Option am_R} {d : Nat} {dd : Int} {r : am_R} (hd : (pc : Int) + dd = (d : Int)) : ∀ (ps : List (Int × Int)) (tl : List (Int × Nat)), am_lsw pc ps tl = true → am_sw x d k tl = some r →
    ∃ t : Nat, (pc : Int) + Op.lookupswitch.offset ps dd x.toInt = (t : Int) ∧ k t = some r
  | [], [], _, h => ⟨d, hd, h⟩
  | [], _ :: _, h, _ => by cases h
  | _ :: _, [], h, _ => by cases h
  | o :: os, q :: qs, h, hs => by
    simp only [am_lsw, Bool.and_eq_true, decide_eq_true_eq] at h
    obtain ⟨⟨⟨e1, e2⟩, e4⟩, e3⟩ := h
    have hlo : (Int32.ofInt q.1).toInt = o.1 := by
      rw [e1]
      exact Int32.toInt_ofInt_of_le (by simpa using e4.1) (by simpa using (show o.1 < 2147483648 by omega))
    obtain ⟨o1, o2⟩ := o
    rw [Op.lookupswitch.offset_cons]
    unfold am_sw at hs
    by_cases hx : x = Int32.ofInt q.1
    · rw [if_pos hx] at hs
      rw [if_pos (by rw [hx, hlo])]
      exact ⟨q.2, e2, hs⟩
    · rw [if_neg hx] at hs
      have hne : ¬ o1 = x.toInt := fun hh => hx (Int32.toInt_inj.mp (hh.symm.trans hlo.symm))
      rw [if_neg hne]
      exact am_sw_look hd os qs e3 hs
