/-- class and reference agree at every call, and the invariant goes on -/
def am_law (Inv : am_W → Prop) : Prop := am_ag Inv jX10_reckon jX11_reckon 4 ∧ am_ag Inv jX10_uniform jX11_uniform 3 ∧ am_ag Inv jX10_columns jX11_columns 4 ∧ am_ag Inv jX10_tell jX11_tell 3 ∧ am_ag Inv jX10_cause jX11_cause 1 ∧ am_ag Inv jX10_rank jX11_rank 2 ∧ am_ag Inv jX10_span jX11_span 2 ∧ am_ag Inv jX10_sorts jX11_sorts 2 ∧ am_ag Inv jX10_many jX11_many 2 ∧ am_ag Inv jX10_at jX11_at 3 ∧ am_ag Inv jX10_best jX11_best 3 ∧ am_ag Inv jX10_dual jX11_dual 2 ∧ am_ag Inv jX10_minor jX11_minor 4 ∧ am_ag Inv jX10_union jX11_union 3 ∧ am_ag Inv jX10_renumber jX11_renumber 3 ∧ am_ag Inv jX10_same jX11_same 2 ∧ am_ag Inv jX10_alike jX11_alike 2 ∧ am_ag Inv jX10_writings jX11_writings 2 ∧ am_ag Inv jX10_writes jX11_writes 3 ∧ am_ag Inv jX10_clash jX11_clash 1 ∧ am_ag Inv jX10_excluded jX11_excluded 3 ∧ am_ag Inv jX10_seed jX11_seed 1 ∧ am_ag Inv jX10_deal jX11_deal 4 ∧ am_ag Inv jX10_chance jX11_chance 5 ∧ am_ag Inv jX10_hold jX11_hold 3 ∧ am_ag Inv jX10_held jX11_held 2 ∧ am_ag Inv jX10_take jX11_take 2 ∧ am_ag Inv jX10_sheet jX11_sheet 3 ∧ am_ag Inv jX10_write jX11_write 3 ∧ am_ag Inv jX10_item jX11_item 2 ∧ am_ag Inv jX10_copy jX11_copy 5 ∧ am_ag Inv jX10_list jX11_list 2 ∧ am_ag Inv jX10_image jX11_image 0 ∧ am_ag Inv jX10_back jX11_back 0 ∧ am_ag Inv jX10_count jX11_count 1
theorem lw_key (v : Int32) : (∃ j : Nat, j ≤ 34 ∧ v = nI j) ∨ (v.toInt < 0 ∨ 34 < v.toInt) := by
  by_cases h : v.toInt < 0 ∨ 34 < v.toInt
  · exact Or.inr h
  · refine Or.inl ⟨v.toInt.toNat, by omega, ?_⟩
    apply Int32.toInt_inj.mp
    rw [nI_toInt (by omega)]
    omega
theorem lw_cmp {L i : Nat} (hL : L ≤ 3072) (hi : i ≤ L + 6) : (Int32.ofNat L - 6 < nI i) ↔ ¬ i + 6 ≤ L := by
  have h6 : (6 : Int32) = nI 6 := rfl
  rw [Int32.lt_iff_toInt_lt, h6, show Int32.ofNat L = nI L from rfl, pk_sub_toInt (by omega) (by omega), nI_toInt (by omega)]
  omega
set_option maxHeartbeats 8000000 in
set_option maxRecDepth 100000 in
theorem law_loop {p : Program} {l : Launch} {e : Env} {s : State} {m : MethodId} {below : List Frame} {meth : Method} {c : Code} {b L : Nat} {xs : Nat → Int32} {ρ : Nat → Nat} {cA : Nat → ClassId} {D : va_G} {cells slots : Nat} {Inv : am_W → Prop} (hLaw : am_law Inv) (X : lw_cx p s m c b L xs ρ cA D) (hr : meth.sig.returnType = ret) (hlocks : meth.locks = false) (hL : L ≤ 3072) (hcs : cells ≤ 600000 ∧ slots ≤ 7302249) :
    ∀ (n i : Nat), L + 1 ≤ i + n → i ≤ L + 6 → ∀ (g : am_W) (H : Heap) (locs : List Loc) (ls : Array Slot), g.length = 107 → Inv g → va_P D am_cl (am_lay ρ cA g) H → va_S (fun q => s.heap.size ≤ q) s.heap H locs → lv_has ls 4 [(0, .ref b), (1, .ref (ρ 0)), (2, .ref (ρ 88)), (3, .int (nI i))] → W p l e room_1 s m #[Value.ref b] below meth c H locs cells slots (lw_Z below #[Value.ref b] s) (F0 m 18 ls []) := by
  have hx := X.1
  have hb := X.2.1
  have hX := X.2.2.2.2.2.2.2.1
  have hbl := X.2.2.2.2.2.2.2.2.1
  have hbA : ¬ (fun q : Nat => s.heap.size ≤ q) b := Nat.not_le.mpr hbl
  have hR : 62 ≤ room_1.frames ∧ 64 * 62 ≤ room_1.locals ∧ cells ≤ room_1.cells ∧ slots ≤ room_1.slots := ⟨by decide, by decide, hcs.1, hcs.2⟩
  intro n
  induction n with
  | zero =>
    intro i h1 h2 g H locs ls hg hI hP hS hl
    refine lv_iload_n hx hb dL_18 rfl (lv_at hl 3 rfl) ?_
    refine lv_aload_n hx hb dL_19 rfl (lv_at hl 0 rfl) ?_
    refine va_slen hx hb hX hbl hbA hS dL_20 ?_
    refine lv_bipush (v := 6) hx hb dL_21 (by decide) ?_
    refine lv_isub hx hb dL_23 ?_
    refine lv_icmp_gt (tgt := 1519) hx hb dL_24 (by decide) (fun _ => ?_) (fun cz => absurd ((lw_cmp hL h2).mpr (by omega)) cz)
    refine lv_iconst (v := 1) hx hb dL_1519 (by decide) ?_
    refine va_forget (fun q hq => hS.2.2 q hq) ?_
    refine W.widen (k := 600000) (n := 7302249) hcs.1 hcs.2 ?_
    exact lw_ret hx hb hr hlocks dL_1520
  | succ n ih =>
    intro i h1 h2 g H locs ls hg hI hP hS hl
    refine lv_iload_n hx hb dL_18 rfl (lv_at hl 3 rfl) ?_
    refine lv_aload_n hx hb dL_19 rfl (lv_at hl 0 rfl) ?_
    refine va_slen hx hb hX hbl hbA hS dL_20 ?_
    refine lv_bipush (v := 6) hx hb dL_21 (by decide) ?_
    refine lv_isub hx hb dL_23 ?_
    refine lv_icmp_gt (tgt := 1519) hx hb dL_24 (by decide) (fun _ => ?_) (fun cz => ?_)
    · refine lv_iconst (v := 1) hx hb dL_1519 (by decide) ?_
      refine va_forget (fun q hq => hS.2.2 q hq) ?_
      refine W.widen (k := 600000) (n := 7302249) hcs.1 hcs.2 ?_
      exact lw_ret hx hb hr hlocks dL_1520
    · have hi : i + 6 ≤ L := by
        rcases Nat.lt_or_ge L (i + 6) with q | q
        · exact absurd ((lw_cmp hL h2).mpr (by omega)) cz
        · exact q
      have kk : ∀ (g2 : am_W) (H2 : Heap) (locs2 : List Loc), g2.length = 107 → Inv g2 → va_P D am_cl (am_lay ρ cA g2) H2 → va_S (fun q => s.heap.size ≤ q) s.heap H2 locs2 → W p l e room_1 s m #[Value.ref b] below meth c H2 locs2 cells slots (lw_Z below #[Value.ref b] s) (F0 m 1513 ls []) := by
        intro g2 H2 locs2 hg2 hI2 hP2 hS2
        refine lv_iinc (v := nI (i + 6)) (lv' := [(3, .int (nI (i + 6))), (0, .ref b), (1, .ref (ρ 0)), (2, .ref (ρ 88))]) hx hb dL_1513 hl (k := 3) rfl (nI_add i 6) (by decide) rfl (fun ls hl => ?_)
        refine lv_goto (tgt := 18) hx hb dL_1516 (by decide) ?_
        exact ih (i + 6) (by omega) (by omega) g2 H2 locs2 ls hg2 hI2 hP2 hS2 (lv_sub hl [1, 2, 3, 0] rfl)
      refine lv_aload_n hx hb dL_27 rfl (lv_at hl 0 rfl) ?_
      refine lv_iload_n hx hb dL_28 rfl (lv_at hl 3 rfl) ?_
      refine va_sld hx hb hX hbl hbA hS (vp_in_nI (show i < L by omega) (by omega)) dL_29 ?_
      refine lv_bipush (v := 63) hx hb dL_30 (by decide) ?_
      refine lv_iand hx hb dL_32 ?_
      generalize xs (nI i).toNatClampNeg &&& 63 = v
      rcases lw_key v with ⟨j, hj, rfl⟩ | hv
      · rcases (show j = 0 ∨ j = 1 ∨ j = 2 ∨ j = 3 ∨ j = 4 ∨ j = 5 ∨ j = 6 ∨ j = 7 ∨ j = 8 ∨ j = 9 ∨ j = 10 ∨ j = 11 ∨ j = 12 ∨ j = 13 ∨ j = 14 ∨ j = 15 ∨ j = 16 ∨ j = 17 ∨ j = 18 ∨ j = 19 ∨ j = 20 ∨ j = 21 ∨ j = 22 ∨ j = 23 ∨ j = 24 ∨ j = 25 ∨ j = 26 ∨ j = 27 ∨ j = 28 ∨ j = 29 ∨ j = 30 ∨ j = 31 ∨ j = 32 ∨ j = 33 ∨ j = 34 by omega) with rfl | rfl | rfl | rfl | rfl | rfl | rfl | rfl | rfl | rfl | rfl | rfl | rfl | rfl | rfl | rfl | rfl | rfl | rfl | rfl | rfl | rfl | rfl | rfl | rfl | rfl | rfl | rfl | rfl | rfl | rfl | rfl | rfl | rfl | rfl
        · exact lv_tableIn (off := 155) (tgt := 188) hx hb dL_33 (by decide) (by decide) (by decide +kernel) (by decide) (law_0 X hR hLaw.1 hi hL hg hI hP hS hl kk)
        · exact lv_tableIn (off := 208) (tgt := 241) hx hb dL_33 (by decide) (by decide) (by decide +kernel) (by decide) (law_1 X hR hLaw.2.1 hi hL hg hI hP hS hl kk)
        · exact lv_tableIn (off := 251) (tgt := 284) hx hb dL_33 (by decide) (by decide) (by decide +kernel) (by decide) (law_2 X hR hLaw.2.2.1 hi hL hg hI hP hS hl kk)
        · exact lv_tableIn (off := 304) (tgt := 337) hx hb dL_33 (by decide) (by decide) (by decide +kernel) (by decide) (law_3 X hR hLaw.2.2.2.1 hi hL hg hI hP hS hl kk)
        · exact lv_tableIn (off := 347) (tgt := 380) hx hb dL_33 (by decide) (by decide) (by decide +kernel) (by decide) (law_4 X hR hLaw.2.2.2.2.1 hi hL hg hI hP hS hl kk)
        · exact lv_tableIn (off := 370) (tgt := 403) hx hb dL_33 (by decide) (by decide) (by decide +kernel) (by decide) (law_5 X hR hLaw.2.2.2.2.2.1 hi hL hg hI hP hS hl kk)
        · exact lv_tableIn (off := 403) (tgt := 436) hx hb dL_33 (by decide) (by decide) (by decide +kernel) (by decide) (law_6 X hR hLaw.2.2.2.2.2.2.1 hi hL hg hI hP hS hl kk)
        · exact lv_tableIn (off := 436) (tgt := 469) hx hb dL_33 (by decide) (by decide) (by decide +kernel) (by decide) (law_7 X hR hLaw.2.2.2.2.2.2.2.1 hi hL hg hI hP hS hl kk)
        · exact lv_tableIn (off := 469) (tgt := 502) hx hb dL_33 (by decide) (by decide) (by decide +kernel) (by decide) (law_8 X hR hLaw.2.2.2.2.2.2.2.2.1 hi hL hg hI hP hS hl kk)
        · exact lv_tableIn (off := 502) (tgt := 535) hx hb dL_33 (by decide) (by decide) (by decide +kernel) (by decide) (law_9 X hR hLaw.2.2.2.2.2.2.2.2.2.1 hi hL hg hI hP hS hl kk)
        · exact lv_tableIn (off := 545) (tgt := 578) hx hb dL_33 (by decide) (by decide) (by decide +kernel) (by decide) (law_10 X hR hLaw.2.2.2.2.2.2.2.2.2.2.1 hi hL hg hI hP hS hl kk)
        · exact lv_tableIn (off := 588) (tgt := 621) hx hb dL_33 (by decide) (by decide) (by decide +kernel) (by decide) (law_11 X hR hLaw.2.2.2.2.2.2.2.2.2.2.2.1 hi hL hg hI hP hS hl kk)
        · exact lv_tableIn (off := 621) (tgt := 654) hx hb dL_33 (by decide) (by decide) (by decide +kernel) (by decide) (law_12 X hR hLaw.2.2.2.2.2.2.2.2.2.2.2.2.1 hi hL hg hI hP hS hl kk)
        · exact lv_tableIn (off := 674) (tgt := 707) hx hb dL_33 (by decide) (by decide) (by decide +kernel) (by decide) (law_13 X hR hLaw.2.2.2.2.2.2.2.2.2.2.2.2.2.1 hi hL hg hI hP hS hl kk)
        · exact lv_tableIn (off := 717) (tgt := 750) hx hb dL_33 (by decide) (by decide) (by decide +kernel) (by decide) (law_14 X hR hLaw.2.2.2.2.2.2.2.2.2.2.2.2.2.2.1 hi hL hg hI hP hS hl kk)
        · exact lv_tableIn (off := 760) (tgt := 793) hx hb dL_33 (by decide) (by decide) (by decide +kernel) (by decide) (law_15 X hR hLaw.2.2.2.2.2.2.2.2.2.2.2.2.2.2.2.1 hi hL hg hI hP hS hl kk)
        · exact lv_tableIn (off := 793) (tgt := 826) hx hb dL_33 (by decide) (by decide) (by decide +kernel) (by decide) (law_16 X hR hLaw.2.2.2.2.2.2.2.2.2.2.2.2.2.2.2.2.1 hi hL hg hI hP hS hl kk)
        · exact lv_tableIn (off := 826) (tgt := 859) hx hb dL_33 (by decide) (by decide) (by decide +kernel) (by decide) (law_17 X hR hLaw.2.2.2.2.2.2.2.2.2.2.2.2.2.2.2.2.2.1 hi hL hg hI hP hS hl kk)
        · exact lv_tableIn (off := 859) (tgt := 892) hx hb dL_33 (by decide) (by decide) (by decide +kernel) (by decide) (law_18 X hR hLaw.2.2.2.2.2.2.2.2.2.2.2.2.2.2.2.2.2.2.1 hi hL hg hI hP hS hl kk)
        · exact lv_tableIn (off := 902) (tgt := 935) hx hb dL_33 (by decide) (by decide) (by decide +kernel) (by decide) (law_19 X hR hLaw.2.2.2.2.2.2.2.2.2.2.2.2.2.2.2.2.2.2.2.1 hi hL hg hI hP hS hl kk)
        · exact lv_tableIn (off := 925) (tgt := 958) hx hb dL_33 (by decide) (by decide) (by decide +kernel) (by decide) (law_20 X hR hLaw.2.2.2.2.2.2.2.2.2.2.2.2.2.2.2.2.2.2.2.2.1 hi hL hg hI hP hS hl kk)
        · exact lv_tableIn (off := 968) (tgt := 1001) hx hb dL_33 (by decide) (by decide) (by decide +kernel) (by decide) (law_21 X hR hLaw.2.2.2.2.2.2.2.2.2.2.2.2.2.2.2.2.2.2.2.2.2.1 hi hL hg hI hP hS hl kk)
        · exact lv_tableIn (off := 991) (tgt := 1024) hx hb dL_33 (by decide) (by decide) (by decide +kernel) (by decide) (law_22 X hR hLaw.2.2.2.2.2.2.2.2.2.2.2.2.2.2.2.2.2.2.2.2.2.2.1 hi hL hg hI hP hS hl kk)
        · exact lv_tableIn (off := 1044) (tgt := 1077) hx hb dL_33 (by decide) (by decide) (by decide +kernel) (by decide) (law_23 X hR hLaw.2.2.2.2.2.2.2.2.2.2.2.2.2.2.2.2.2.2.2.2.2.2.2.1 hi hL hg hI hP hS hl kk)
        · exact lv_tableIn (off := 1107) (tgt := 1140) hx hb dL_33 (by decide) (by decide) (by decide +kernel) (by decide) (law_24 X hR hLaw.2.2.2.2.2.2.2.2.2.2.2.2.2.2.2.2.2.2.2.2.2.2.2.2.1 hi hL hg hI hP hS hl kk)
        · exact lv_tableIn (off := 1150) (tgt := 1183) hx hb dL_33 (by decide) (by decide) (by decide +kernel) (by decide) (law_25 X hR hLaw.2.2.2.2.2.2.2.2.2.2.2.2.2.2.2.2.2.2.2.2.2.2.2.2.2.1 hi hL hg hI hP hS hl kk)
        · exact lv_tableIn (off := 1183) (tgt := 1216) hx hb dL_33 (by decide) (by decide) (by decide +kernel) (by decide) (law_26 X hR hLaw.2.2.2.2.2.2.2.2.2.2.2.2.2.2.2.2.2.2.2.2.2.2.2.2.2.2.1 hi hL hg hI hP hS hl kk)
        · exact lv_tableIn (off := 1216) (tgt := 1249) hx hb dL_33 (by decide) (by decide) (by decide +kernel) (by decide) (law_27 X hR hLaw.2.2.2.2.2.2.2.2.2.2.2.2.2.2.2.2.2.2.2.2.2.2.2.2.2.2.2.1 hi hL hg hI hP hS hl kk)
        · exact lv_tableIn (off := 1259) (tgt := 1292) hx hb dL_33 (by decide) (by decide) (by decide +kernel) (by decide) (law_28 X hR hLaw.2.2.2.2.2.2.2.2.2.2.2.2.2.2.2.2.2.2.2.2.2.2.2.2.2.2.2.2.1 hi hL hg hI hP hS hl kk)
        · exact lv_tableIn (off := 1302) (tgt := 1335) hx hb dL_33 (by decide) (by decide) (by decide +kernel) (by decide) (law_29 X hR hLaw.2.2.2.2.2.2.2.2.2.2.2.2.2.2.2.2.2.2.2.2.2.2.2.2.2.2.2.2.2.1 hi hL hg hI hP hS hl kk)
        · exact lv_tableIn (off := 1335) (tgt := 1368) hx hb dL_33 (by decide) (by decide) (by decide +kernel) (by decide) (law_30 X hR hLaw.2.2.2.2.2.2.2.2.2.2.2.2.2.2.2.2.2.2.2.2.2.2.2.2.2.2.2.2.2.2.1 hi hL hg hI hP hS hl kk)
        · exact lv_tableIn (off := 1398) (tgt := 1431) hx hb dL_33 (by decide) (by decide) (by decide +kernel) (by decide) (law_31 X hR hLaw.2.2.2.2.2.2.2.2.2.2.2.2.2.2.2.2.2.2.2.2.2.2.2.2.2.2.2.2.2.2.2.1 hi hL hg hI hP hS hl kk)
        · exact lv_tableIn (off := 1431) (tgt := 1464) hx hb dL_33 (by decide) (by decide) (by decide +kernel) (by decide) (law_32 X hR hLaw.2.2.2.2.2.2.2.2.2.2.2.2.2.2.2.2.2.2.2.2.2.2.2.2.2.2.2.2.2.2.2.2.1 hi hL hg hI hP hS hl kk)
        · exact lv_tableIn (off := 1444) (tgt := 1477) hx hb dL_33 (by decide) (by decide) (by decide +kernel) (by decide) (law_33 X hR hLaw.2.2.2.2.2.2.2.2.2.2.2.2.2.2.2.2.2.2.2.2.2.2.2.2.2.2.2.2.2.2.2.2.2.1 hi hL hg hI hP hS hl kk)
        · exact lv_tableIn (off := 1457) (tgt := 1490) hx hb dL_33 (by decide) (by decide) (by decide +kernel) (by decide) (law_34 X hR hLaw.2.2.2.2.2.2.2.2.2.2.2.2.2.2.2.2.2.2.2.2.2.2.2.2.2.2.2.2.2.2.2.2.2.2 hi hL hg hI hP hS hl kk)
      · exact lv_tableOut (tgt := 1513) hx hb dL_33 hv (by decide) (kk g H locs hg hI hP hS)
