/-! ===== the law from its entry, over an invariant ===== -/
set_option maxRecDepth 100000 in
theorem am_ins0 : Jvm.Cond.instantiable RX0 5 ∈ lw_tbl := am_in_mem (h := 126) (by decide +kernel)
set_option maxRecDepth 100000 in
theorem am_ins1 : Jvm.Cond.instantiable RX1 5 ∈ lw_tbl := am_in_mem (h := 252) (by decide +kernel)
set_option maxRecDepth 100000 in
theorem am_ins2 : Jvm.Cond.instantiable RX2 2 ∈ lw_tbl := am_in_mem (h := 159) (by decide +kernel)
set_option maxRecDepth 100000 in
theorem am_ins3 : Jvm.Cond.instantiable RX3 3 ∈ lw_tbl := am_in_mem (h := 290) (by decide +kernel)
set_option maxRecDepth 100000 in
theorem am_ins4 : Jvm.Cond.instantiable RX4 3 ∈ lw_tbl := am_in_mem (h := 91) (by decide +kernel)
set_option maxRecDepth 100000 in
theorem am_ins5 : Jvm.Cond.instantiable RX5 7 ∈ lw_tbl := am_in_mem (h := 153) (by decide +kernel)
set_option maxRecDepth 100000 in
theorem am_ins6 : Jvm.Cond.instantiable RX6 1 ∈ lw_tbl := am_in_mem (h := 279) (by decide +kernel)
set_option maxRecDepth 100000 in
theorem am_ins7 : Jvm.Cond.instantiable RX7 3 ∈ lw_tbl := am_in_mem (h := 309) (by decide +kernel)
set_option maxRecDepth 100000 in
theorem am_ins8 : Jvm.Cond.instantiable RX8 2 ∈ lw_tbl := am_in_mem (h := 97) (by decide +kernel)
set_option maxRecDepth 100000 in
theorem am_ins9 : Jvm.Cond.instantiable RX9 12 ∈ lw_tbl := am_in_mem (h := 202) (by decide +kernel)
set_option maxRecDepth 100000 in
theorem am_ins10 : Jvm.Cond.instantiable RX10 12 ∈ lw_tbl := am_in_mem (h := 75) (by decide +kernel)
set_option maxRecDepth 100000 in
theorem am_ins11 : Jvm.Cond.instantiable RX11 23 ∈ lw_tbl := am_in_mem (h := 891) (by decide +kernel)
theorem am_ins {ci : Nat} {q : vw_C} (h : am_cl[ci]? = some q) : Jvm.Cond.instantiable q.1 q.2.2 ∈ lw_tbl := by
  have hm := List.mem_of_getElem? h
  simp only [am_cl, List.mem_cons, List.not_mem_nil, or_false] at hm
  rcases hm with rfl | rfl | rfl | rfl | rfl | rfl | rfl | rfl | rfl | rfl | rfl | rfl
  · exact am_ins0
  · exact am_ins1
  · exact am_ins2
  · exact am_ins3
  · exact am_ins4
  · exact am_ins5
  · exact am_ins6
  · exact am_ins7
  · exact am_ins8
  · exact am_ins9
  · exact am_ins10
  · exact am_ins11
set_option maxRecDepth 100000 in
theorem am_w0_ao : (Jvm.Cond.arrayOver (.object RX2) ∈ lw_tbl ∧ Jvm.Cond.arrayOver (.object RX8) ∈ lw_tbl ∧ Jvm.Cond.arrayOver (.object RX3) ∈ lw_tbl ∧ Jvm.Cond.arrayOver (.object RX7) ∈ lw_tbl) ∧ Jvm.Cond.arrayClass .int ∈ lw_tbl ∧ Jvm.Cond.arrayClass .boolean ∈ lw_tbl := ⟨⟨am_in_mem (h := 83) (by decide +kernel), am_in_mem (h := 85) (by decide +kernel), am_in_mem (h := 87) (by decide +kernel), am_in_mem (h := 89) (by decide +kernel)⟩, am_in_mem (h := 113) (by decide +kernel), am_in_mem (h := 151) (by decide +kernel)⟩
set_option maxRecDepth 100000 in
theorem am_w0_lk : (Jvm.Cond.methodLink "WrittenColumnsLaw" 9 yX10_init ∈ am_T ∧ Jvm.Cond.methodLink "WrittenColumnsLaw" 12 yX11_init ∈ am_T) ∧ (Jvm.Cond.classLink "WrittenColumnsLaw" 7 RX10 ∈ am_T ∧ Jvm.Cond.classLink "WrittenColumnsLaw" 10 RX11 ∈ am_T) ∧ Jvm.Cond.initialized RX10 ∈ am_T ∧ Jvm.Cond.initialized RX11 ∈ am_T := ⟨⟨am_in_T (h := 76) (by decide +kernel) rfl, am_in_T (h := 892) (by decide +kernel) rfl⟩, ⟨am_in_T (h := 74) (by decide +kernel) rfl, am_in_T (h := 890) (by decide +kernel) rfl⟩, am_in_T (h := 59) (by decide +kernel) rfl, am_in_T (h := 70) (by decide +kernel) rfl⟩
set_option maxRecDepth 100000 in
theorem am_w1_wf : (am_o1.getD []).all (am_we 88) = true := by decide +kernel
set_option maxRecDepth 100000 in
theorem am_g0_len : am_g0.length = 107 := by decide +kernel
theorem am_o1_eq : am_new am_mt am_nt am_nc 6 10 [.ref 0] am_w0 = some (am_o1.getD []) := by
  show am_o1 = some (am_o1.getD [])
  cases h : am_o1 with
  | none => have := am_o1_some; rw [h] at this; cases this
  | some g => rfl
theorem am_o2_eq : am_new am_mt am_nt am_nc 6 11 [.ref 88] am_w1 = some am_g0 := by
  show am_o2 = some (am_o2.getD [])
  cases h : am_o2 with
  | none => have := am_o2_some; rw [h] at this; cases this
  | some g => rfl
theorem lw_arr {s : State} {args : Array Value} {ty : FieldType} (hty : ∀ C, ty ≠ .object C) (h : (Jvm.Cond.arrayClass ty).before args s = true) : ∃ cA0, ArrOfT s cA0 ty ∧ va_RA s cA0 ty := by
  obtain ⟨cA0, kA, comp, hfind, hk, hkind⟩ := Cond.arrayClass_spec h
  refine ⟨cA0, fun n z => ⟨fun k h => (by cases h), kA, hk, comp, hkind⟩, ?_⟩
  cases ty with
  | object C => exact absurd rfl (hty C)
  | _ => exact hfind
theorem lw_arrO {s : State} {args : Array Value} {C : String} (h : (Jvm.Cond.arrayOver (.object C)).before args s = true) : ∃ cA0, ArrOfT s cA0 (.object C) ∧ va_RA s cA0 (.object C) := by
  obtain ⟨comp, cA0, kA, hcomp, hidx, hk, hkind, hname⟩ := Cond.arrayOver_spec h
  exact ⟨cA0, fun n z => ⟨fun k h => (by cases h), kA, hk, comp, hkind⟩, kA, comp, hk, hkind, hcomp, hname⟩
