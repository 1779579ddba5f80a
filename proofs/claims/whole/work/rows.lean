section
-- ===== PART A: goes FIRST, ahead of the names: the tables' words, and 'selects' of the private methods out of them =====
/-- a private method of a class that the tables say can be made, by its rows of tables_1 -/
def lw_okq (q : MethodName × Nat) : Prop := (q.1.cls ≠ "java/lang/invoke/MethodHandle" ∧ q.1.cls ≠ "java/lang/invoke/VarHandle") ∧ Cond.instantiable q.1.cls q.2 ∈ tables_1 ∧ Cond.privateMethod q.1 ∈ tables_1 ∧ Cond.instanceMethod q.1 ∈ tables_1
theorem lw_p0 : lw_okq (⟨"WrittenColumns$Matrix", "keepLeft", "(II)V"⟩, 7) := ⟨⟨by decide +kernel, by decide +kernel⟩, List.mem_of_getElem? (i := 95) (by decide +kernel), List.mem_of_getElem? (i := 414) (by decide +kernel), List.mem_of_getElem? (i := 415) (by decide +kernel)⟩
theorem lw_p1 : lw_okq (⟨"WrittenColumns$Cause", "say", "(IIII)V"⟩, 5) := ⟨⟨by decide +kernel, by decide +kernel⟩, List.mem_of_getElem? (i := 68) (by decide +kernel), List.mem_of_getElem? (i := 437) (by decide +kernel), List.mem_of_getElem? (i := 438) (by decide +kernel)⟩
theorem lw_p2 : lw_okq (⟨"WrittenColumns$Cause", "findInNumbers", "(LWrittenColumns$Sheet;I)Z"⟩, 5) := ⟨⟨by decide +kernel, by decide +kernel⟩, List.mem_of_getElem? (i := 68) (by decide +kernel), List.mem_of_getElem? (i := 441) (by decide +kernel), List.mem_of_getElem? (i := 442) (by decide +kernel)⟩
theorem lw_p3 : lw_okq (⟨"WrittenColumns$Cause", "findInTwos", "(LWrittenColumns$Sheet;I)Z"⟩, 5) := ⟨⟨by decide +kernel, by decide +kernel⟩, List.mem_of_getElem? (i := 68) (by decide +kernel), List.mem_of_getElem? (i := 448) (by decide +kernel), List.mem_of_getElem? (i := 449) (by decide +kernel)⟩
theorem lw_p4 : lw_okq (⟨"WrittenColumns$Cause", "lacksOneFo\x72", "(III)Z"⟩, 5) := ⟨⟨by decide +kernel, by decide +kernel⟩, List.mem_of_getElem? (i := 68) (by decide +kernel), List.mem_of_getElem? (i := 452) (by decide +kernel), List.mem_of_getElem? (i := 453) (by decide +kernel)⟩
theorem lw_p5 : lw_okq (⟨"WrittenColumns", "isSetOf", "(II)Z"⟩, 12) := ⟨⟨by decide +kernel, by decide +kernel⟩, List.mem_of_getElem? (i := 17) (by decide +kernel), List.mem_of_getElem? (i := 470) (by decide +kernel), List.mem_of_getElem? (i := 471) (by decide +kernel)⟩
theorem lw_p6 : lw_okq (⟨"WrittenColumns$View", "isCircuit", "(I)Z"⟩, 2) := ⟨⟨by decide +kernel, by decide +kernel⟩, List.mem_of_getElem? (i := 39) (by decide +kernel), List.mem_of_getElem? (i := 501) (by decide +kernel), List.mem_of_getElem? (i := 502) (by decide +kernel)⟩
theorem lw_p7 : lw_okq (⟨"WrittenColumns$Numbering", "agrees", "(LWrittenColumns$View;LWrittenColumns$View;I)Z"⟩, 1) := ⟨⟨by decide +kernel, by decide +kernel⟩, List.mem_of_getElem? (i := 221) (by decide +kernel), List.mem_of_getElem? (i := 606) (by decide +kernel), List.mem_of_getElem? (i := 607) (by decide +kernel)⟩
theorem lw_p8 : lw_okq (⟨"WrittenColumns$Write\x72", "layOutColumn", "(I)V"⟩, 12) := ⟨⟨by decide +kernel, by decide +kernel⟩, List.mem_of_getElem? (i := 144) (by decide +kernel), List.mem_of_getElem? (i := 628) (by decide +kernel), List.mem_of_getElem? (i := 629) (by decide +kernel)⟩
theorem lw_p9 : lw_okq (⟨"WrittenColumns$Write\x72", "addPlace", "(II)V"⟩, 12) := ⟨⟨by decide +kernel, by decide +kernel⟩, List.mem_of_getElem? (i := 144) (by decide +kernel), List.mem_of_getElem? (i := 634) (by decide +kernel), List.mem_of_getElem? (i := 635) (by decide +kernel)⟩
theorem lw_p10 : lw_okq (⟨"WrittenColumns$Write\x72", "join", "(II)Z"⟩, 12) := ⟨⟨by decide +kernel, by decide +kernel⟩, List.mem_of_getElem? (i := 144) (by decide +kernel), List.mem_of_getElem? (i := 638) (by decide +kernel), List.mem_of_getElem? (i := 639) (by decide +kernel)⟩
theorem lw_p11 : lw_okq (⟨"WrittenColumns$Write\x72", "keep", "()V"⟩, 12) := ⟨⟨by decide +kernel, by decide +kernel⟩, List.mem_of_getElem? (i := 144) (by decide +kernel), List.mem_of_getElem? (i := 646) (by decide +kernel), List.mem_of_getElem? (i := 647) (by decide +kernel)⟩
theorem lw_p12 : lw_okq (⟨"WrittenColumns$Write\x72", "isLastOfColumn", "(I)Z"⟩, 12) := ⟨⟨by decide +kernel, by decide +kernel⟩, List.mem_of_getElem? (i := 144) (by decide +kernel), List.mem_of_getElem? (i := 654) (by decide +kernel), List.mem_of_getElem? (i := 655) (by decide +kernel)⟩
theorem lw_p13 : lw_okq (⟨"WrittenColumns$Write\x72", "fits", "(I)Z"⟩, 12) := ⟨⟨by decide +kernel, by decide +kernel⟩, List.mem_of_getElem? (i := 144) (by decide +kernel), List.mem_of_getElem? (i := 658) (by decide +kernel), List.mem_of_getElem? (i := 659) (by decide +kernel)⟩
theorem lw_p14 : lw_okq (⟨"WrittenColumns$Exclude\x72", "sortForTwo", "()I"⟩, 5) := ⟨⟨by decide +kernel, by decide +kernel⟩, List.mem_of_getElem? (i := 194) (by decide +kernel), List.mem_of_getElem? (i := 704) (by decide +kernel), List.mem_of_getElem? (i := 705) (by decide +kernel)⟩
theorem lw_p15 : lw_okq (⟨"WrittenColumns$Exclude\x72", "sortForThree", "()I"⟩, 5) := ⟨⟨by decide +kernel, by decide +kernel⟩, List.mem_of_getElem? (i := 194) (by decide +kernel), List.mem_of_getElem? (i := 712) (by decide +kernel), List.mem_of_getElem? (i := 713) (by decide +kernel)⟩
def lw_privs_1 : List (MethodName × Nat) := [(⟨"WrittenColumns$Matrix", "keepLeft", "(II)V"⟩, 7), (⟨"WrittenColumns$Cause", "say", "(IIII)V"⟩, 5), (⟨"WrittenColumns$Cause", "findInNumbers", "(LWrittenColumns$Sheet;I)Z"⟩, 5), (⟨"WrittenColumns$Cause", "findInTwos", "(LWrittenColumns$Sheet;I)Z"⟩, 5), (⟨"WrittenColumns$Cause", "lacksOneFo\x72", "(III)Z"⟩, 5), (⟨"WrittenColumns", "isSetOf", "(II)Z"⟩, 12), (⟨"WrittenColumns$View", "isCircuit", "(I)Z"⟩, 2), (⟨"WrittenColumns$Numbering", "agrees", "(LWrittenColumns$View;LWrittenColumns$View;I)Z"⟩, 1), (⟨"WrittenColumns$Write\x72", "layOutColumn", "(I)V"⟩, 12), (⟨"WrittenColumns$Write\x72", "addPlace", "(II)V"⟩, 12), (⟨"WrittenColumns$Write\x72", "join", "(II)Z"⟩, 12), (⟨"WrittenColumns$Write\x72", "keep", "()V"⟩, 12), (⟨"WrittenColumns$Write\x72", "isLastOfColumn", "(I)Z"⟩, 12), (⟨"WrittenColumns$Write\x72", "fits", "(I)Z"⟩, 12), (⟨"WrittenColumns$Exclude\x72", "sortForTwo", "()I"⟩, 5), (⟨"WrittenColumns$Exclude\x72", "sortForThree", "()I"⟩, 5)]
theorem lw_r1 : ∀ q ∈ lw_privs_1, lw_okq q := List.forall_mem_cons.mpr ⟨lw_p0, List.forall_mem_cons.mpr ⟨lw_p1, List.forall_mem_cons.mpr ⟨lw_p2, List.forall_mem_cons.mpr ⟨lw_p3, List.forall_mem_cons.mpr ⟨lw_p4, List.forall_mem_cons.mpr ⟨lw_p5, List.forall_mem_cons.mpr ⟨lw_p6, List.forall_mem_cons.mpr ⟨lw_p7, List.forall_mem_cons.mpr ⟨lw_p8, List.forall_mem_cons.mpr ⟨lw_p9, List.forall_mem_cons.mpr ⟨lw_p10, List.forall_mem_cons.mpr ⟨lw_p11, List.forall_mem_cons.mpr ⟨lw_p12, List.forall_mem_cons.mpr ⟨lw_p13, List.forall_mem_cons.mpr ⟨lw_p14, List.forall_mem_cons.mpr ⟨lw_p15, fun _ h => absurd h List.not_mem_nil⟩⟩⟩⟩⟩⟩⟩⟩⟩⟩⟩⟩⟩⟩⟩⟩
theorem lw_p16 : lw_okq (⟨"WrittenColumns$View", "linesThrough", "(I)I"⟩, 2) := ⟨⟨by decide +kernel, by decide +kernel⟩, List.mem_of_getElem? (i := 39) (by decide +kernel), List.mem_of_getElem? (i := 720) (by decide +kernel), List.mem_of_getElem? (i := 721) (by decide +kernel)⟩
theorem lw_p17 : lw_okq (⟨"WrittenColumns", "drawColumns", "(LWrittenColumns$Field;III)I"⟩, 12) := ⟨⟨by decide +kernel, by decide +kernel⟩, List.mem_of_getElem? (i := 17) (by decide +kernel), List.mem_of_getElem? (i := 736) (by decide +kernel), List.mem_of_getElem? (i := 737) (by decide +kernel)⟩
theorem lw_p18 : lw_okq (⟨"WrittenColumns", "refusalOfPlace", "(II)I"⟩, 12) := ⟨⟨by decide +kernel, by decide +kernel⟩, List.mem_of_getElem? (i := 17) (by decide +kernel), List.mem_of_getElem? (i := 788) (by decide +kernel), List.mem_of_getElem? (i := 789) (by decide +kernel)⟩
theorem lw_p19 : lw_okq (⟨"WrittenColumns", "elementsOfAll", "()I"⟩, 12) := ⟨⟨by decide +kernel, by decide +kernel⟩, List.mem_of_getElem? (i := 17) (by decide +kernel), List.mem_of_getElem? (i := 813) (by decide +kernel), List.mem_of_getElem? (i := 814) (by decide +kernel)⟩
theorem lw_p20 : lw_okq (⟨"WrittenColumns", "fullHolds", "()I"⟩, 12) := ⟨⟨by decide +kernel, by decide +kernel⟩, List.mem_of_getElem? (i := 17) (by decide +kernel), List.mem_of_getElem? (i := 825) (by decide +kernel), List.mem_of_getElem? (i := 826) (by decide +kernel)⟩
theorem lw_p21 : lw_okq (⟨"WrittenColumns", "sheetsThere", "()I"⟩, 12) := ⟨⟨by decide +kernel, by decide +kernel⟩, List.mem_of_getElem? (i := 17) (by decide +kernel), List.mem_of_getElem? (i := 829) (by decide +kernel), List.mem_of_getElem? (i := 830) (by decide +kernel)⟩
theorem lw_p22 : lw_okq (⟨"WrittenColumnsModel", "plus", "(III)I"⟩, 23) := ⟨⟨by decide +kernel, by decide +kernel⟩, List.mem_of_getElem? (i := 833) (by decide +kernel), List.mem_of_getElem? (i := 919) (by decide +kernel), List.mem_of_getElem? (i := 920) (by decide +kernel)⟩
theorem lw_p23 : lw_okq (⟨"WrittenColumnsModel", "minus", "(III)I"⟩, 23) := ⟨⟨by decide +kernel, by decide +kernel⟩, List.mem_of_getElem? (i := 833) (by decide +kernel), List.mem_of_getElem? (i := 923) (by decide +kernel), List.mem_of_getElem? (i := 924) (by decide +kernel)⟩
theorem lw_p24 : lw_okq (⟨"WrittenColumnsModel", "times", "(III)I"⟩, 23) := ⟨⟨by decide +kernel, by decide +kernel⟩, List.mem_of_getElem? (i := 833) (by decide +kernel), List.mem_of_getElem? (i := 927) (by decide +kernel), List.mem_of_getElem? (i := 928) (by decide +kernel)⟩
theorem lw_p25 : lw_okq (⟨"WrittenColumnsModel", "by", "(III)I"⟩, 23) := ⟨⟨by decide +kernel, by decide +kernel⟩, List.mem_of_getElem? (i := 833) (by decide +kernel), List.mem_of_getElem? (i := 931) (by decide +kernel), List.mem_of_getElem? (i := 932) (by decide +kernel)⟩
theorem lw_p26 : lw_okq (⟨"WrittenColumnsModel", "all", "(I)I"⟩, 23) := ⟨⟨by decide +kernel, by decide +kernel⟩, List.mem_of_getElem? (i := 833) (by decide +kernel), List.mem_of_getElem? (i := 942) (by decide +kernel), List.mem_of_getElem? (i := 943) (by decide +kernel)⟩
theorem lw_p27 : lw_okq (⟨"WrittenColumnsModel", "byColumns", "(III)I"⟩, 23) := ⟨⟨by decide +kernel, by decide +kernel⟩, List.mem_of_getElem? (i := 833) (by decide +kernel), List.mem_of_getElem? (i := 956) (by decide +kernel), List.mem_of_getElem? (i := 957) (by decide +kernel)⟩
theorem lw_p28 : lw_okq (⟨"WrittenColumnsModel", "rankOf", "(II)I"⟩, 23) := ⟨⟨by decide +kernel, by decide +kernel⟩, List.mem_of_getElem? (i := 833) (by decide +kernel), List.mem_of_getElem? (i := 960) (by decide +kernel), List.mem_of_getElem? (i := 961) (by decide +kernel)⟩
theorem lw_p29 : lw_okq (⟨"WrittenColumnsModel", "total", "(I)I"⟩, 23) := ⟨⟨by decide +kernel, by decide +kernel⟩, List.mem_of_getElem? (i := 833) (by decide +kernel), List.mem_of_getElem? (i := 967) (by decide +kernel), List.mem_of_getElem? (i := 968) (by decide +kernel)⟩
theorem lw_p30 : lw_okq (⟨"WrittenColumnsModel", "\x72", "(II)I"⟩, 23) := ⟨⟨by decide +kernel, by decide +kernel⟩, List.mem_of_getElem? (i := 833) (by decide +kernel), List.mem_of_getElem? (i := 971) (by decide +kernel), List.mem_of_getElem? (i := 972) (by decide +kernel)⟩
theorem lw_p31 : lw_okq (⟨"WrittenColumnsModel", "hasCause", "(II)Z"⟩, 23) := ⟨⟨by decide +kernel, by decide +kernel⟩, List.mem_of_getElem? (i := 833) (by decide +kernel), List.mem_of_getElem? (i := 979) (by decide +kernel), List.mem_of_getElem? (i := 980) (by decide +kernel)⟩
def lw_privs_2 : List (MethodName × Nat) := [(⟨"WrittenColumns$View", "linesThrough", "(I)I"⟩, 2), (⟨"WrittenColumns", "drawColumns", "(LWrittenColumns$Field;III)I"⟩, 12), (⟨"WrittenColumns", "refusalOfPlace", "(II)I"⟩, 12), (⟨"WrittenColumns", "elementsOfAll", "()I"⟩, 12), (⟨"WrittenColumns", "fullHolds", "()I"⟩, 12), (⟨"WrittenColumns", "sheetsThere", "()I"⟩, 12), (⟨"WrittenColumnsModel", "plus", "(III)I"⟩, 23), (⟨"WrittenColumnsModel", "minus", "(III)I"⟩, 23), (⟨"WrittenColumnsModel", "times", "(III)I"⟩, 23), (⟨"WrittenColumnsModel", "by", "(III)I"⟩, 23), (⟨"WrittenColumnsModel", "all", "(I)I"⟩, 23), (⟨"WrittenColumnsModel", "byColumns", "(III)I"⟩, 23), (⟨"WrittenColumnsModel", "rankOf", "(II)I"⟩, 23), (⟨"WrittenColumnsModel", "total", "(I)I"⟩, 23), (⟨"WrittenColumnsModel", "\x72", "(II)I"⟩, 23), (⟨"WrittenColumnsModel", "hasCause", "(II)Z"⟩, 23)]
theorem lw_r2 : ∀ q ∈ lw_privs_2, lw_okq q := List.forall_mem_cons.mpr ⟨lw_p16, List.forall_mem_cons.mpr ⟨lw_p17, List.forall_mem_cons.mpr ⟨lw_p18, List.forall_mem_cons.mpr ⟨lw_p19, List.forall_mem_cons.mpr ⟨lw_p20, List.forall_mem_cons.mpr ⟨lw_p21, List.forall_mem_cons.mpr ⟨lw_p22, List.forall_mem_cons.mpr ⟨lw_p23, List.forall_mem_cons.mpr ⟨lw_p24, List.forall_mem_cons.mpr ⟨lw_p25, List.forall_mem_cons.mpr ⟨lw_p26, List.forall_mem_cons.mpr ⟨lw_p27, List.forall_mem_cons.mpr ⟨lw_p28, List.forall_mem_cons.mpr ⟨lw_p29, List.forall_mem_cons.mpr ⟨lw_p30, List.forall_mem_cons.mpr ⟨lw_p31, fun _ h => absurd h List.not_mem_nil⟩⟩⟩⟩⟩⟩⟩⟩⟩⟩⟩⟩⟩⟩⟩⟩
theorem lw_p32 : lw_okq (⟨"WrittenColumnsModel", "isCause", "(IIII)Z"⟩, 23) := ⟨⟨by decide +kernel, by decide +kernel⟩, List.mem_of_getElem? (i := 833) (by decide +kernel), List.mem_of_getElem? (i := 983) (by decide +kernel), List.mem_of_getElem? (i := 984) (by decide +kernel)⟩
theorem lw_p33 : lw_okq (⟨"WrittenColumnsModel", "isTold", "(II)Z"⟩, 23) := ⟨⟨by decide +kernel, by decide +kernel⟩, List.mem_of_getElem? (i := 833) (by decide +kernel), List.mem_of_getElem? (i := 987) (by decide +kernel), List.mem_of_getElem? (i := 988) (by decide +kernel)⟩
theorem lw_p34 : lw_okq (⟨"WrittenColumnsModel", "isSet", "(II)Z"⟩, 23) := ⟨⟨by decide +kernel, by decide +kernel⟩, List.mem_of_getElem? (i := 833) (by decide +kernel), List.mem_of_getElem? (i := 999) (by decide +kernel), List.mem_of_getElem? (i := 1000) (by decide +kernel)⟩
theorem lw_p35 : lw_okq (⟨"WrittenColumnsModel", "spanOf", "(II)I"⟩, 23) := ⟨⟨by decide +kernel, by decide +kernel⟩, List.mem_of_getElem? (i := 833) (by decide +kernel), List.mem_of_getElem? (i := 1007) (by decide +kernel), List.mem_of_getElem? (i := 1008) (by decide +kernel)⟩
theorem lw_p36 : lw_okq (⟨"WrittenColumnsModel", "isOf", "(III)Z"⟩, 23) := ⟨⟨by decide +kernel, by decide +kernel⟩, List.mem_of_getElem? (i := 833) (by decide +kernel), List.mem_of_getElem? (i := 1015) (by decide +kernel), List.mem_of_getElem? (i := 1016) (by decide +kernel)⟩
theorem lw_p37 : lw_okq (⟨"WrittenColumnsModel", "isFree", "(II)Z"⟩, 23) := ⟨⟨by decide +kernel, by decide +kernel⟩, List.mem_of_getElem? (i := 833) (by decide +kernel), List.mem_of_getElem? (i := 1019) (by decide +kernel), List.mem_of_getElem? (i := 1020) (by decide +kernel)⟩
theorem lw_p38 : lw_okq (⟨"WrittenColumnsModel", "countOf", "(II)I"⟩, 23) := ⟨⟨by decide +kernel, by decide +kernel⟩, List.mem_of_getElem? (i := 833) (by decide +kernel), List.mem_of_getElem? (i := 1027) (by decide +kernel), List.mem_of_getElem? (i := 1028) (by decide +kernel)⟩
theorem lw_p39 : lw_okq (⟨"WrittenColumnsModel", "weightOf", "(II)I"⟩, 23) := ⟨⟨by decide +kernel, by decide +kernel⟩, List.mem_of_getElem? (i := 833) (by decide +kernel), List.mem_of_getElem? (i := 1039) (by decide +kernel), List.mem_of_getElem? (i := 1040) (by decide +kernel)⟩
theorem lw_p40 : lw_okq (⟨"WrittenColumnsModel", "duals", "(II)V"⟩, 23) := ⟨⟨by decide +kernel, by decide +kernel⟩, List.mem_of_getElem? (i := 833) (by decide +kernel), List.mem_of_getElem? (i := 1047) (by decide +kernel), List.mem_of_getElem? (i := 1048) (by decide +kernel)⟩
theorem lw_p41 : lw_okq (⟨"WrittenColumnsModel", "minors", "(IIII)V"⟩, 23) := ⟨⟨by decide +kernel, by decide +kernel⟩, List.mem_of_getElem? (i := 833) (by decide +kernel), List.mem_of_getElem? (i := 1055) (by decide +kernel), List.mem_of_getElem? (i := 1056) (by decide +kernel)⟩
theorem lw_p42 : lw_okq (⟨"WrittenColumnsModel", "areSame", "(II)Z"⟩, 23) := ⟨⟨by decide +kernel, by decide +kernel⟩, List.mem_of_getElem? (i := 833) (by decide +kernel), List.mem_of_getElem? (i := 1074) (by decide +kernel), List.mem_of_getElem? (i := 1075) (by decide +kernel)⟩
theorem lw_p43 : lw_okq (⟨"WrittenColumnsModel", "fits", "(IIII)Z"⟩, 23) := ⟨⟨by decide +kernel, by decide +kernel⟩, List.mem_of_getElem? (i := 833) (by decide +kernel), List.mem_of_getElem? (i := 1082) (by decide +kernel), List.mem_of_getElem? (i := 1083) (by decide +kernel)⟩
theorem lw_p44 : lw_okq (⟨"WrittenColumnsModel", "writingsOf", "(III)I"⟩, 23) := ⟨⟨by decide +kernel, by decide +kernel⟩, List.mem_of_getElem? (i := 833) (by decide +kernel), List.mem_of_getElem? (i := 1091) (by decide +kernel), List.mem_of_getElem? (i := 1092) (by decide +kernel)⟩
theorem lw_p45 : lw_okq (⟨"WrittenColumnsModel", "laysPattern", "(I)V"⟩, 23) := ⟨⟨by decide +kernel, by decide +kernel⟩, List.mem_of_getElem? (i := 833) (by decide +kernel), List.mem_of_getElem? (i := 1095) (by decide +kernel), List.mem_of_getElem? (i := 1096) (by decide +kernel)⟩
theorem lw_p46 : lw_okq (⟨"WrittenColumnsModel", "firstBase", "(I)I"⟩, 23) := ⟨⟨by decide +kernel, by decide +kernel⟩, List.mem_of_getElem? (i := 833) (by decide +kernel), List.mem_of_getElem? (i := 1099) (by decide +kernel), List.mem_of_getElem? (i := 1100) (by decide +kernel)⟩
theorem lw_p47 : lw_okq (⟨"WrittenColumnsModel", "joins", "(II)V"⟩, 23) := ⟨⟨by decide +kernel, by decide +kernel⟩, List.mem_of_getElem? (i := 833) (by decide +kernel), List.mem_of_getElem? (i := 1103) (by decide +kernel), List.mem_of_getElem? (i := 1104) (by decide +kernel)⟩
def lw_privs_3 : List (MethodName × Nat) := [(⟨"WrittenColumnsModel", "isCause", "(IIII)Z"⟩, 23), (⟨"WrittenColumnsModel", "isTold", "(II)Z"⟩, 23), (⟨"WrittenColumnsModel", "isSet", "(II)Z"⟩, 23), (⟨"WrittenColumnsModel", "spanOf", "(II)I"⟩, 23), (⟨"WrittenColumnsModel", "isOf", "(III)Z"⟩, 23), (⟨"WrittenColumnsModel", "isFree", "(II)Z"⟩, 23), (⟨"WrittenColumnsModel", "countOf", "(II)I"⟩, 23), (⟨"WrittenColumnsModel", "weightOf", "(II)I"⟩, 23), (⟨"WrittenColumnsModel", "duals", "(II)V"⟩, 23), (⟨"WrittenColumnsModel", "minors", "(IIII)V"⟩, 23), (⟨"WrittenColumnsModel", "areSame", "(II)Z"⟩, 23), (⟨"WrittenColumnsModel", "fits", "(IIII)Z"⟩, 23), (⟨"WrittenColumnsModel", "writingsOf", "(III)I"⟩, 23), (⟨"WrittenColumnsModel", "laysPattern", "(I)V"⟩, 23), (⟨"WrittenColumnsModel", "firstBase", "(I)I"⟩, 23), (⟨"WrittenColumnsModel", "joins", "(II)V"⟩, 23)]
theorem lw_r3 : ∀ q ∈ lw_privs_3, lw_okq q := List.forall_mem_cons.mpr ⟨lw_p32, List.forall_mem_cons.mpr ⟨lw_p33, List.forall_mem_cons.mpr ⟨lw_p34, List.forall_mem_cons.mpr ⟨lw_p35, List.forall_mem_cons.mpr ⟨lw_p36, List.forall_mem_cons.mpr ⟨lw_p37, List.forall_mem_cons.mpr ⟨lw_p38, List.forall_mem_cons.mpr ⟨lw_p39, List.forall_mem_cons.mpr ⟨lw_p40, List.forall_mem_cons.mpr ⟨lw_p41, List.forall_mem_cons.mpr ⟨lw_p42, List.forall_mem_cons.mpr ⟨lw_p43, List.forall_mem_cons.mpr ⟨lw_p44, List.forall_mem_cons.mpr ⟨lw_p45, List.forall_mem_cons.mpr ⟨lw_p46, List.forall_mem_cons.mpr ⟨lw_p47, fun _ h => absurd h List.not_mem_nil⟩⟩⟩⟩⟩⟩⟩⟩⟩⟩⟩⟩⟩⟩⟩⟩
theorem lw_p48 : lw_okq (⟨"WrittenColumnsModel", "isWriting", "(II)Z"⟩, 23) := ⟨⟨by decide +kernel, by decide +kernel⟩, List.mem_of_getElem? (i := 833) (by decide +kernel), List.mem_of_getElem? (i := 1107) (by decide +kernel), List.mem_of_getElem? (i := 1108) (by decide +kernel)⟩
theorem lw_p49 : lw_okq (⟨"WrittenColumnsModel", "goesOn", "(I)Z"⟩, 23) := ⟨⟨by decide +kernel, by decide +kernel⟩, List.mem_of_getElem? (i := 833) (by decide +kernel), List.mem_of_getElem? (i := 1111) (by decide +kernel), List.mem_of_getElem? (i := 1112) (by decide +kernel)⟩
theorem lw_p50 : lw_okq (⟨"WrittenColumnsModel", "laysSheet", "(II)V"⟩, 23) := ⟨⟨by decide +kernel, by decide +kernel⟩, List.mem_of_getElem? (i := 833) (by decide +kernel), List.mem_of_getElem? (i := 1119) (by decide +kernel), List.mem_of_getElem? (i := 1120) (by decide +kernel)⟩
theorem lw_p51 : lw_okq (⟨"WrittenColumnsModel", "sortOf", "(I)I"⟩, 23) := ⟨⟨by decide +kernel, by decide +kernel⟩, List.mem_of_getElem? (i := 833) (by decide +kernel), List.mem_of_getElem? (i := 1131) (by decide +kernel), List.mem_of_getElem? (i := 1132) (by decide +kernel)⟩
theorem lw_p52 : lw_okq (⟨"WrittenColumnsModel", "isAll", "(II)Z"⟩, 23) := ⟨⟨by decide +kernel, by decide +kernel⟩, List.mem_of_getElem? (i := 833) (by decide +kernel), List.mem_of_getElem? (i := 1135) (by decide +kernel), List.mem_of_getElem? (i := 1136) (by decide +kernel)⟩
theorem lw_p53 : lw_okq (⟨"WrittenColumnsModel", "isSevens", "()Z"⟩, 23) := ⟨⟨by decide +kernel, by decide +kernel⟩, List.mem_of_getElem? (i := 833) (by decide +kernel), List.mem_of_getElem? (i := 1139) (by decide +kernel), List.mem_of_getElem? (i := 1140) (by decide +kernel)⟩
theorem lw_p54 : lw_okq (⟨"WrittenColumnsModel", "dealt", "(IIII)I"⟩, 23) := ⟨⟨by decide +kernel, by decide +kernel⟩, List.mem_of_getElem? (i := 833) (by decide +kernel), List.mem_of_getElem? (i := 1154) (by decide +kernel), List.mem_of_getElem? (i := 1155) (by decide +kernel)⟩
theorem lw_p55 : lw_okq (⟨"WrittenColumnsModel", "copies", "(II)V"⟩, 23) := ⟨⟨by decide +kernel, by decide +kernel⟩, List.mem_of_getElem? (i := 833) (by decide +kernel), List.mem_of_getElem? (i := 1170) (by decide +kernel), List.mem_of_getElem? (i := 1171) (by decide +kernel)⟩
theorem lw_p56 : lw_okq (⟨"WrittenColumnsModel", "wrongAt", "(II)I"⟩, 23) := ⟨⟨by decide +kernel, by decide +kernel⟩, List.mem_of_getElem? (i := 833) (by decide +kernel), List.mem_of_getElem? (i := 1190) (by decide +kernel), List.mem_of_getElem? (i := 1191) (by decide +kernel)⟩
theorem lw_p57 : lw_okq (⟨"WrittenColumnsModel", "elements", "()I"⟩, 23) := ⟨⟨by decide +kernel, by decide +kernel⟩, List.mem_of_getElem? (i := 833) (by decide +kernel), List.mem_of_getElem? (i := 1210) (by decide +kernel), List.mem_of_getElem? (i := 1211) (by decide +kernel)⟩
def lw_privs_4 : List (MethodName × Nat) := [(⟨"WrittenColumnsModel", "isWriting", "(II)Z"⟩, 23), (⟨"WrittenColumnsModel", "goesOn", "(I)Z"⟩, 23), (⟨"WrittenColumnsModel", "laysSheet", "(II)V"⟩, 23), (⟨"WrittenColumnsModel", "sortOf", "(I)I"⟩, 23), (⟨"WrittenColumnsModel", "isAll", "(II)Z"⟩, 23), (⟨"WrittenColumnsModel", "isSevens", "()Z"⟩, 23), (⟨"WrittenColumnsModel", "dealt", "(IIII)I"⟩, 23), (⟨"WrittenColumnsModel", "copies", "(II)V"⟩, 23), (⟨"WrittenColumnsModel", "wrongAt", "(II)I"⟩, 23), (⟨"WrittenColumnsModel", "elements", "()I"⟩, 23)]
theorem lw_r4 : ∀ q ∈ lw_privs_4, lw_okq q := List.forall_mem_cons.mpr ⟨lw_p48, List.forall_mem_cons.mpr ⟨lw_p49, List.forall_mem_cons.mpr ⟨lw_p50, List.forall_mem_cons.mpr ⟨lw_p51, List.forall_mem_cons.mpr ⟨lw_p52, List.forall_mem_cons.mpr ⟨lw_p53, List.forall_mem_cons.mpr ⟨lw_p54, List.forall_mem_cons.mpr ⟨lw_p55, List.forall_mem_cons.mpr ⟨lw_p56, List.forall_mem_cons.mpr ⟨lw_p57, fun _ h => absurd h List.not_mem_nil⟩⟩⟩⟩⟩⟩⟩⟩⟩⟩
def lw_privs : List (MethodName × Nat) := lw_privs_1 ++ (lw_privs_2 ++ (lw_privs_3 ++ (lw_privs_4)))
def lw_tbl : List Cond := k2_sels lw_privs ++ tables_1
theorem lw_privs_ok : ∀ q ∈ lw_privs, lw_okq q := by
  show ∀ q ∈ lw_privs_1 ++ (lw_privs_2 ++ (lw_privs_3 ++ (lw_privs_4))), lw_okq q
  exact List.forall_mem_append.mpr ⟨lw_r1, List.forall_mem_append.mpr ⟨lw_r2, List.forall_mem_append.mpr ⟨lw_r3, lw_r4⟩⟩⟩

def RX0 : String := "WrittenColumns$Cause"
def TX0 : u_T := fun k => match k with
  | 0 => ("WrittenColumns$Cause", "sort", "I", false)
  | 1 => ("WrittenColumns$Cause", "place", "I", false)
  | 2 => ("WrittenColumns$Cause", "second", "I", false)
  | 3 => ("WrittenColumns$Cause", "element", "I", false)
  | _ => ("WrittenColumns$Cause", "isTold", "[Z", true)
def tyX0 : Nat → FieldType := fun k => match k with
  | 0 => .int
  | 1 => .int
  | 2 => .int
  | 3 => .int
  | _ => .array .boolean
abbrev wsX00 : List Cond := u_ws RX0 TX0 5
theorem nmX0 : ∀ a, a < 5 → ∀ b, b < 5 → a ≠ b → (TX0 a).2.1 ≠ (TX0 b).2.1 := by decide +kernel
theorem tyX0_ok : ∀ k, k < 5 → parseFieldDescriptor (TX0 k).2.2.1 = some (tyX0 k) := by decide +kernel
abbrev cX0_init : ByteArray := prog_2_method_1_code
def yX0_init : MethodName := ⟨RX0, "<init>", "()V"⟩
abbrev cX0_findIn : ByteArray := prog_2_method_2_code
def yX0_findIn : MethodName := ⟨RX0, "findIn", "(LWrittenColumns$Sheet;I)Z"⟩
abbrev cX0_say : ByteArray := prog_2_method_3_code
def yX0_say : MethodName := ⟨RX0, "say", "(IIII)V"⟩
abbrev cX0_findInNumbers : ByteArray := prog_2_method_4_code
def yX0_findInNumbers : MethodName := ⟨RX0, "findInNumbers", "(LWrittenColumns$Sheet;I)Z"⟩
abbrev cX0_findInTwos : ByteArray := prog_2_method_5_code
def yX0_findInTwos : MethodName := ⟨RX0, "findInTwos", "(LWrittenColumns$Sheet;I)Z"⟩
abbrev cX0_lacksOneFor : ByteArray := prog_2_method_6_code
def yX0_lacksOneFor : MethodName := ⟨RX0, "lacksOneFo\x72", "(III)Z"⟩
def RX1 : String := "WrittenColumns$Exclude\x72"
def TX1 : u_T := fun k => match k with
  | 0 => ("WrittenColumns$Exclude\x72", "mino\x72", "LWrittenColumns$View;", true)
  | 1 => ("WrittenColumns$Exclude\x72", "turned", "LWrittenColumns$View;", true)
  | 2 => ("WrittenColumns$Exclude\x72", "sort", "I", false)
  | 3 => ("WrittenColumns$Exclude\x72", "x", "I", false)
  | _ => ("WrittenColumns$Exclude\x72", "y", "I", false)
def tyX1 : Nat → FieldType := fun k => match k with
  | 0 => .object "WrittenColumns$View"
  | 1 => .object "WrittenColumns$View"
  | 2 => .int
  | 3 => .int
  | _ => .int
abbrev wsX10 : List Cond := u_ws RX1 TX1 5
theorem nmX1 : ∀ a, a < 5 → ∀ b, b < 5 → a ≠ b → (TX1 a).2.1 ≠ (TX1 b).2.1 := by decide +kernel
theorem tyX1_ok : ∀ k, k < 5 → parseFieldDescriptor (TX1 k).2.2.1 = some (tyX1 k) := by decide +kernel
abbrev cX1_init : ByteArray := prog_3_method_1_code
def yX1_init : MethodName := ⟨RX1, "<init>", "()V"⟩
abbrev cX1_findIn : ByteArray := prog_3_method_2_code
def yX1_findIn : MethodName := ⟨RX1, "findIn", "(LWrittenColumns$View;Z)Z"⟩
abbrev cX1_sortForTwo : ByteArray := prog_3_method_3_code
def yX1_sortForTwo : MethodName := ⟨RX1, "sortForTwo", "()I"⟩
abbrev cX1_sortForThree : ByteArray := prog_3_method_4_code
def yX1_sortForThree : MethodName := ⟨RX1, "sortForThree", "()I"⟩
def RX2 : String := "WrittenColumns$Field"
def TX2 : u_T := fun k => match k with
  | 0 => ("WrittenColumns$Field", "size", "I", true)
  | _ => ("WrittenColumns$Field", "inverses", "[I", true)
def tyX2 : Nat → FieldType := fun k => match k with
  | 0 => .int
  | _ => .array .int
abbrev wsX20 : List Cond := u_ws RX2 TX2 2
theorem nmX2 : ∀ a, a < 2 → ∀ b, b < 2 → a ≠ b → (TX2 a).2.1 ≠ (TX2 b).2.1 := by decide +kernel
theorem tyX2_ok : ∀ k, k < 2 → parseFieldDescriptor (TX2 k).2.2.1 = some (tyX2 k) := by decide +kernel
abbrev cX2_init : ByteArray := prog_4_method_1_code
def yX2_init : MethodName := ⟨RX2, "<init>", "(I)V"⟩
abbrev cX2_rest : ByteArray := prog_4_method_2_code
def yX2_rest : MethodName := ⟨RX2, "rest", "(I)I"⟩
abbrev cX2_sum : ByteArray := prog_4_method_3_code
def yX2_sum : MethodName := ⟨RX2, "sum", "(II)I"⟩
abbrev cX2_difference : ByteArray := prog_4_method_4_code
def yX2_difference : MethodName := ⟨RX2, "difference", "(II)I"⟩
abbrev cX2_product : ByteArray := prog_4_method_5_code
def yX2_product : MethodName := ⟨RX2, "product", "(II)I"⟩
abbrev cX2_inverse : ByteArray := prog_4_method_6_code
def yX2_inverse : MethodName := ⟨RX2, "inverse", "(I)I"⟩
abbrev cX2_columnCount : ByteArray := prog_4_method_7_code
def yX2_columnCount : MethodName := ⟨RX2, "columnCount", "()I"⟩
abbrev cX2_tellOf : ByteArray := prog_4_method_8_code
def yX2_tellOf : MethodName := ⟨RX2, "tellOf", "(I)I"⟩
def RX3 : String := "WrittenColumns$Hold"
def TX3 : u_T := fun k => match k with
  | 0 => ("WrittenColumns$Hold", "field", "LWrittenColumns$Field;", false)
  | 1 => ("WrittenColumns$Hold", "hasView", "Z", false)
  | _ => ("WrittenColumns$Hold", "view", "LWrittenColumns$View;", true)
def tyX3 : Nat → FieldType := fun k => match k with
  | 0 => .object "WrittenColumns$Field"
  | 1 => .boolean
  | _ => .object "WrittenColumns$View"
abbrev wsX30 : List Cond := u_ws RX3 TX3 3
theorem nmX3 : ∀ a, a < 3 → ∀ b, b < 3 → a ≠ b → (TX3 a).2.1 ≠ (TX3 b).2.1 := by decide +kernel
theorem tyX3_ok : ∀ k, k < 3 → parseFieldDescriptor (TX3 k).2.2.1 = some (tyX3 k) := by decide +kernel
abbrev cX3_init : ByteArray := prog_5_method_1_code
def yX3_init : MethodName := ⟨RX3, "<init>", "()V"⟩
abbrev cX3_isEmpty : ByteArray := prog_5_method_2_code
def yX3_isEmpty : MethodName := ⟨RX3, "isEmpty", "()Z"⟩
abbrev cX3_keepField : ByteArray := prog_5_method_3_code
def yX3_keepField : MethodName := ⟨RX3, "keepField", "(LWrittenColumns$Field;)V"⟩
abbrev cX3_keepView : ByteArray := prog_5_method_4_code
def yX3_keepView : MethodName := ⟨RX3, "keepView", "(LWrittenColumns$View;)V"⟩
abbrev cX3_letGo : ByteArray := prog_5_method_5_code
def yX3_letGo : MethodName := ⟨RX3, "letGo", "()V"⟩
def RX4 : String := "WrittenColumns$Image"
def TX4 : u_T := fun k => match k with
  | 0 => ("WrittenColumns$Image", "isThere", "Z", false)
  | 1 => ("WrittenColumns$Image", "z", "I", false)
  | _ => ("WrittenColumns$Image", "views", "[LWrittenColumns$View;", true)
def tyX4 : Nat → FieldType := fun k => match k with
  | 0 => .boolean
  | 1 => .int
  | _ => .array (.object "WrittenColumns$View")
abbrev wsX40 : List Cond := u_ws RX4 TX4 3
theorem nmX4 : ∀ a, a < 3 → ∀ b, b < 3 → a ≠ b → (TX4 a).2.1 ≠ (TX4 b).2.1 := by decide +kernel
theorem tyX4_ok : ∀ k, k < 3 → parseFieldDescriptor (TX4 k).2.2.1 = some (tyX4 k) := by decide +kernel
abbrev cX4_init : ByteArray := prog_6_method_1_code
def yX4_init : MethodName := ⟨RX4, "<init>", "()V"⟩
def RX5 : String := "WrittenColumns$Matrix"
def TX5 : u_T := fun k => match k with
  | 0 => ("WrittenColumns$Matrix", "field", "LWrittenColumns$Field;", false)
  | 1 => ("WrittenColumns$Matrix", "numbers", "[I", true)
  | 2 => ("WrittenColumns$Matrix", "echelon", "[I", true)
  | 3 => ("WrittenColumns$Matrix", "isTaken", "[Z", true)
  | 4 => ("WrittenColumns$Matrix", "placeOf", "[I", true)
  | 5 => ("WrittenColumns$Matrix", "left", "[I", true)
  | _ => ("WrittenColumns$Matrix", "depth", "I", false)
def tyX5 : Nat → FieldType := fun k => match k with
  | 0 => .object "WrittenColumns$Field"
  | 1 => .array .int
  | 2 => .array .int
  | 3 => .array .boolean
  | 4 => .array .int
  | 5 => .array .int
  | _ => .int
abbrev wsX50 : List Cond := u_ws RX5 TX5 7
theorem nmX5 : ∀ a, a < 7 → ∀ b, b < 7 → a ≠ b → (TX5 a).2.1 ≠ (TX5 b).2.1 := by decide +kernel
theorem tyX5_ok : ∀ k, k < 7 → parseFieldDescriptor (TX5 k).2.2.1 = some (tyX5 k) := by decide +kernel
abbrev cX5_init : ByteArray := prog_7_method_1_code
def yX5_init : MethodName := ⟨RX5, "<init>", "()V"⟩
abbrev cX5_clear : ByteArray := prog_7_method_2_code
def yX5_clear : MethodName := ⟨RX5, "clea\x72", "(LWrittenColumns$Field;)V"⟩
abbrev cX5_put : ByteArray := prog_7_method_3_code
def yX5_put : MethodName := ⟨RX5, "put", "(III)V"⟩
abbrev cX5_putCode : ByteArray := prog_7_method_4_code
def yX5_putCode : MethodName := ⟨RX5, "putCode", "(II)V"⟩
abbrev cX5_codeOf : ByteArray := prog_7_method_5_code
def yX5_codeOf : MethodName := ⟨RX5, "codeOf", "(I)I"⟩
abbrev cX5_emptyEchelon : ByteArray := prog_7_method_6_code
def yX5_emptyEchelon : MethodName := ⟨RX5, "emptyEchelon", "()V"⟩
abbrev cX5_rankOf : ByteArray := prog_7_method_7_code
def yX5_rankOf : MethodName := ⟨RX5, "rankOf", "(I)I"⟩
abbrev cX5_enter : ByteArray := prog_7_method_8_code
def yX5_enter : MethodName := ⟨RX5, "ente\x72", "(I)V"⟩
abbrev cX5_keepLeft : ByteArray := prog_7_method_9_code
def yX5_keepLeft : MethodName := ⟨RX5, "keepLeft", "(II)V"⟩
abbrev cX5_leave : ByteArray := prog_7_method_10_code
def yX5_leave : MethodName := ⟨RX5, "leave", "(I)V"⟩
def RX6 : String := "WrittenColumns$Numbering"
def TX6 : u_T := fun k => match k with
  | _ => ("WrittenColumns$Numbering", "newBit", "[I", true)
def tyX6 : Nat → FieldType := fun k => match k with
  | _ => .array .int
abbrev wsX60 : List Cond := u_ws RX6 TX6 1
theorem nmX6 : ∀ a, a < 1 → ∀ b, b < 1 → a ≠ b → (TX6 a).2.1 ≠ (TX6 b).2.1 := by decide +kernel
theorem tyX6_ok : ∀ k, k < 1 → parseFieldDescriptor (TX6 k).2.2.1 = some (tyX6 k) := by decide +kernel
abbrev cX6_init : ByteArray := prog_8_method_1_code
def yX6_init : MethodName := ⟨RX6, "<init>", "()V"⟩
abbrev cX6_readFrom : ByteArray := prog_8_method_2_code
def yX6_readFrom : MethodName := ⟨RX6, "readFrom", "(LWrittenColumns$Sheet;I)Z"⟩
abbrev cX6_newSet : ByteArray := prog_8_method_3_code
def yX6_newSet : MethodName := ⟨RX6, "newSet", "(I)I"⟩
abbrev cX6_canMatch : ByteArray := prog_8_method_4_code
def yX6_canMatch : MethodName := ⟨RX6, "canMatch", "(LWrittenColumns$Numbering;LWrittenColumns$View;LWrittenColumns$View;II)Z"⟩
abbrev cX6_agrees : ByteArray := prog_8_method_5_code
def yX6_agrees : MethodName := ⟨RX6, "agrees", "(LWrittenColumns$View;LWrittenColumns$View;I)Z"⟩
def RX7 : String := "WrittenColumns$Sheet"
def TX7 : u_T := fun k => match k with
  | 0 => ("WrittenColumns$Sheet", "sort", "I", false)
  | 1 => ("WrittenColumns$Sheet", "length", "I", false)
  | _ => ("WrittenColumns$Sheet", "numbers", "[I", true)
def tyX7 : Nat → FieldType := fun k => match k with
  | 0 => .int
  | 1 => .int
  | _ => .array .int
abbrev wsX70 : List Cond := u_ws RX7 TX7 3
theorem nmX7 : ∀ a, a < 3 → ∀ b, b < 3 → a ≠ b → (TX7 a).2.1 ≠ (TX7 b).2.1 := by decide +kernel
theorem tyX7_ok : ∀ k, k < 3 → parseFieldDescriptor (TX7 k).2.2.1 = some (tyX7 k) := by decide +kernel
abbrev cX7_init : ByteArray := prog_9_method_1_code
def yX7_init : MethodName := ⟨RX7, "<init>", "()V"⟩
abbrev cX7_isMissing : ByteArray := prog_9_method_2_code
def yX7_isMissing : MethodName := ⟨RX7, "isMissing", "()Z"⟩
abbrev cX7_become : ByteArray := prog_9_method_3_code
def yX7_become : MethodName := ⟨RX7, "become", "(II)V"⟩
abbrev cX7_hasPlaces : ByteArray := prog_9_method_4_code
def yX7_hasPlaces : MethodName := ⟨RX7, "hasPlaces", "(II)Z"⟩
abbrev cX7_numberAt : ByteArray := prog_9_method_5_code
def yX7_numberAt : MethodName := ⟨RX7, "numberAt", "(I)I"⟩
abbrev cX7_put : ByteArray := prog_9_method_6_code
def yX7_put : MethodName := ⟨RX7, "put", "(II)V"⟩
abbrev cX7_weightOf : ByteArray := prog_9_method_7_code
def yX7_weightOf : MethodName := ⟨RX7, "weightOf", "(I)I"⟩
def RX8 : String := "WrittenColumns$View"
def TX8 : u_T := fun k => match k with
  | 0 => ("WrittenColumns$View", "elements", "I", false)
  | _ => ("WrittenColumns$View", "ranks", "[I", true)
def tyX8 : Nat → FieldType := fun k => match k with
  | 0 => .int
  | _ => .array .int
abbrev wsX80 : List Cond := u_ws RX8 TX8 2
theorem nmX8 : ∀ a, a < 2 → ∀ b, b < 2 → a ≠ b → (TX8 a).2.1 ≠ (TX8 b).2.1 := by decide +kernel
theorem tyX8_ok : ∀ k, k < 2 → parseFieldDescriptor (TX8 k).2.2.1 = some (tyX8 k) := by decide +kernel
abbrev cX8_init : ByteArray := prog_10_method_1_code
def yX8_init : MethodName := ⟨RX8, "<init>", "()V"⟩
abbrev cX8_all : ByteArray := prog_10_method_2_code
def yX8_all : MethodName := ⟨RX8, "all", "()I"⟩
abbrev cX8_rankOf : ByteArray := prog_10_method_3_code
def yX8_rankOf : MethodName := ⟨RX8, "rankOf", "(I)I"⟩
abbrev cX8_fullRank : ByteArray := prog_10_method_4_code
def yX8_fullRank : MethodName := ⟨RX8, "fullRank", "()I"⟩
abbrev cX8_become : ByteArray := prog_10_method_5_code
def yX8_become : MethodName := ⟨RX8, "become", "(LWrittenColumns$View;)V"⟩
abbrev cX8_becomeUniform : ByteArray := prog_10_method_6_code
def yX8_becomeUniform : MethodName := ⟨RX8, "becomeUniform", "(II)V"⟩
abbrev cX8_becomeByColumns : ByteArray := prog_10_method_7_code
def yX8_becomeByColumns : MethodName := ⟨RX8, "becomeByColumns", "(LWrittenColumns$Matrix;I)V"⟩
abbrev cX8_becomeByBases : ByteArray := prog_10_method_8_code
def yX8_becomeByBases : MethodName := ⟨RX8, "becomeByBases", "(LWrittenColumns$Sheet;I)V"⟩
abbrev cX8_becomeDual : ByteArray := prog_10_method_9_code
def yX8_becomeDual : MethodName := ⟨RX8, "becomeDual", "(LWrittenColumns$View;)V"⟩
abbrev cX8_becomeMinor : ByteArray := prog_10_method_10_code
def yX8_becomeMinor : MethodName := ⟨RX8, "becomeMino\x72", "(LWrittenColumns$View;II)V"⟩
abbrev cX8_spreadOver : ByteArray := prog_10_method_11_code
def yX8_spreadOver : MethodName := ⟨RX8, "spreadOve\x72", "(II)I"⟩
abbrev cX8_becomeUnion : ByteArray := prog_10_method_12_code
def yX8_becomeUnion : MethodName := ⟨RX8, "becomeUnion", "(LWrittenColumns$View;LWrittenColumns$View;)V"⟩
abbrev cX8_becomeRenumbered : ByteArray := prog_10_method_13_code
def yX8_becomeRenumbered : MethodName := ⟨RX8, "becomeRenumbered", "(LWrittenColumns$View;LWrittenColumns$Numbering;)V"⟩
abbrev cX8_leastUnlike : ByteArray := prog_10_method_14_code
def yX8_leastUnlike : MethodName := ⟨RX8, "leastUnlike", "(LWrittenColumns$View;)I"⟩
abbrev cX8_spanOf : ByteArray := prog_10_method_15_code
def yX8_spanOf : MethodName := ⟨RX8, "spanOf", "(I)I"⟩
abbrev cX8_isFree : ByteArray := prog_10_method_16_code
def yX8_isFree : MethodName := ⟨RX8, "isFree", "(I)Z"⟩
abbrev cX8_isBase : ByteArray := prog_10_method_17_code
def yX8_isBase : MethodName := ⟨RX8, "isBase", "(I)Z"⟩
abbrev cX8_isCircuit : ByteArray := prog_10_method_18_code
def yX8_isCircuit : MethodName := ⟨RX8, "isCircuit", "(I)Z"⟩
abbrev cX8_isOfSort : ByteArray := prog_10_method_19_code
def yX8_isOfSort : MethodName := ⟨RX8, "isOfSort", "(II)Z"⟩
abbrev cX8_countOf : ByteArray := prog_10_method_20_code
def yX8_countOf : MethodName := ⟨RX8, "countOf", "(I)I"⟩
abbrev cX8_findNumber : ByteArray := prog_10_method_21_code
def yX8_findNumber : MethodName := ⟨RX8, "findNumbe\x72", "(II)I"⟩
abbrev cX8_firstBase : ByteArray := prog_10_method_22_code
def yX8_firstBase : MethodName := ⟨RX8, "firstBase", "()I"⟩
abbrev cX8_heaviestBase : ByteArray := prog_10_method_23_code
def yX8_heaviestBase : MethodName := ⟨RX8, "heaviestBase", "(LWrittenColumns$Sheet;)I"⟩
abbrev cX8_isUniform : ByteArray := prog_10_method_24_code
def yX8_isUniform : MethodName := ⟨RX8, "isUniform", "(II)Z"⟩
abbrev cX8_isSevenPointPlane : ByteArray := prog_10_method_25_code
def yX8_isSevenPointPlane : MethodName := ⟨RX8, "isSevenPointPlane", "()Z"⟩
abbrev cX8_linesThrough : ByteArray := prog_10_method_26_code
def yX8_linesThrough : MethodName := ⟨RX8, "linesThrough", "(I)I"⟩
def RX9 : String := "WrittenColumns$Write\x72"
def TX9 : u_T := fun k => match k with
  | 0 => ("WrittenColumns$Write\x72", "matrix", "LWrittenColumns$Matrix;", true)
  | 1 => ("WrittenColumns$Write\x72", "columnOf", "[I", true)
  | 2 => ("WrittenColumns$Write\x72", "rowOf", "[I", true)
  | 3 => ("WrittenColumns$Write\x72", "joins", "[Z", true)
  | 4 => ("WrittenColumns$Write\x72", "joined", "[I", true)
  | 5 => ("WrittenColumns$Write\x72", "first", "[I", true)
  | 6 => ("WrittenColumns$Write\x72", "view", "LWrittenColumns$View;", false)
  | 7 => ("WrittenColumns$Write\x72", "field", "LWrittenColumns$Field;", false)
  | 8 => ("WrittenColumns$Write\x72", "base", "I", false)
  | 9 => ("WrittenColumns$Write\x72", "places", "I", false)
  | 10 => ("WrittenColumns$Write\x72", "found", "I", false)
  | _ => ("WrittenColumns$Write\x72", "enough", "I", false)
def tyX9 : Nat → FieldType := fun k => match k with
  | 0 => .object "WrittenColumns$Matrix"
  | 1 => .array .int
  | 2 => .array .int
  | 3 => .array .boolean
  | 4 => .array .int
  | 5 => .array .int
  | 6 => .object "WrittenColumns$View"
  | 7 => .object "WrittenColumns$Field"
  | 8 => .int
  | 9 => .int
  | 10 => .int
  | _ => .int
abbrev wsX90 : List Cond := u_ws RX9 TX9 12
theorem nmX9 : ∀ a, a < 12 → ∀ b, b < 12 → a ≠ b → (TX9 a).2.1 ≠ (TX9 b).2.1 := by decide +kernel
theorem tyX9_ok : ∀ k, k < 12 → parseFieldDescriptor (TX9 k).2.2.1 = some (tyX9 k) := by decide +kernel
abbrev cX9_init : ByteArray := prog_11_method_1_code
def yX9_init : MethodName := ⟨RX9, "<init>", "()V"⟩
abbrev cX9_countUpTo : ByteArray := prog_11_method_2_code
def yX9_countUpTo : MethodName := ⟨RX9, "countUpTo", "(LWrittenColumns$View;LWrittenColumns$Field;I)I"⟩
abbrev cX9_firstCode : ByteArray := prog_11_method_3_code
def yX9_firstCode : MethodName := ⟨RX9, "firstCode", "(I)I"⟩
abbrev cX9_layOut : ByteArray := prog_11_method_4_code
def yX9_layOut : MethodName := ⟨RX9, "layOut", "(LWrittenColumns$View;LWrittenColumns$Field;)V"⟩
abbrev cX9_layOutColumn : ByteArray := prog_11_method_5_code
def yX9_layOutColumn : MethodName := ⟨RX9, "layOutColumn", "(I)V"⟩
abbrev cX9_addPlace : ByteArray := prog_11_method_6_code
def yX9_addPlace : MethodName := ⟨RX9, "addPlace", "(II)V"⟩
abbrev cX9_join : ByteArray := prog_11_method_7_code
def yX9_join : MethodName := ⟨RX9, "join", "(II)Z"⟩
abbrev cX9_fill : ByteArray := prog_11_method_8_code
def yX9_fill : MethodName := ⟨RX9, "fill", "(LWrittenColumns$Writer;I)V"⟩
abbrev cX9_keep : ByteArray := prog_11_method_9_code
def yX9_keep : MethodName := ⟨RX9, "keep", "()V"⟩
abbrev cX9_isLastOfColumn : ByteArray := prog_11_method_10_code
def yX9_isLastOfColumn : MethodName := ⟨RX9, "isLastOfColumn", "(I)Z"⟩
abbrev cX9_fits : ByteArray := prog_11_method_11_code
def yX9_fits : MethodName := ⟨RX9, "fits", "(I)Z"⟩
def RX10 : String := "WrittenColumns"
def TX10 : u_T := fun k => match k with
  | 0 => ("WrittenColumns", "fields", "[LWrittenColumns$Field;", true)
  | 1 => ("WrittenColumns", "views", "[LWrittenColumns$View;", true)
  | 2 => ("WrittenColumns", "holds", "[LWrittenColumns$Hold;", true)
  | 3 => ("WrittenColumns", "sheets", "[LWrittenColumns$Sheet;", true)
  | 4 => ("WrittenColumns", "kept", "LWrittenColumns$Image;", true)
  | 5 => ("WrittenColumns", "why", "LWrittenColumns$Cause;", true)
  | 6 => ("WrittenColumns", "matrix", "LWrittenColumns$Matrix;", true)
  | 7 => ("WrittenColumns", "write\x72", "LWrittenColumns$Writer;", true)
  | 8 => ("WrittenColumns", "exclude\x72", "LWrittenColumns$Excluder;", true)
  | 9 => ("WrittenColumns", "numbering", "LWrittenColumns$Numbering;", true)
  | 10 => ("WrittenColumns", "draft", "LWrittenColumns$View;", true)
  | _ => ("WrittenColumns", "z", "I", false)
def tyX10 : Nat → FieldType := fun k => match k with
  | 0 => .array (.object "WrittenColumns$Field")
  | 1 => .array (.object "WrittenColumns$View")
  | 2 => .array (.object "WrittenColumns$Hold")
  | 3 => .array (.object "WrittenColumns$Sheet")
  | 4 => .object "WrittenColumns$Image"
  | 5 => .object "WrittenColumns$Cause"
  | 6 => .object "WrittenColumns$Matrix"
  | 7 => .object "WrittenColumns$Write\x72"
  | 8 => .object "WrittenColumns$Exclude\x72"
  | 9 => .object "WrittenColumns$Numbering"
  | 10 => .object "WrittenColumns$View"
  | _ => .int
abbrev wsX100 : List Cond := u_ws RX10 TX10 12
theorem nmX10 : ∀ a, a < 12 → ∀ b, b < 12 → a ≠ b → (TX10 a).2.1 ≠ (TX10 b).2.1 := by decide +kernel
theorem tyX10_ok : ∀ k, k < 12 → parseFieldDescriptor (TX10 k).2.2.1 = some (tyX10 k) := by decide +kernel
abbrev cX10_init : ByteArray := prog_1_method_1_code
def yX10_init : MethodName := ⟨RX10, "<init>", "()V"⟩
abbrev cX10_reckon : ByteArray := prog_1_method_2_code
def yX10_reckon : MethodName := ⟨RX10, "reckon", "(IIII)I"⟩
abbrev cX10_uniform : ByteArray := prog_1_method_3_code
def yX10_uniform : MethodName := ⟨RX10, "uniform", "(III)I"⟩
abbrev cX10_columns : ByteArray := prog_1_method_4_code
def yX10_columns : MethodName := ⟨RX10, "columns", "(IIII)I"⟩
abbrev cX10_tell : ByteArray := prog_1_method_5_code
def yX10_tell : MethodName := ⟨RX10, "tell", "(III)I"⟩
abbrev cX10_cause : ByteArray := prog_1_method_6_code
def yX10_cause : MethodName := ⟨RX10, "cause", "(I)I"⟩
abbrev cX10_rank : ByteArray := prog_1_method_7_code
def yX10_rank : MethodName := ⟨RX10, "rank", "(II)I"⟩
abbrev cX10_span : ByteArray := prog_1_method_8_code
def yX10_span : MethodName := ⟨RX10, "span", "(II)I"⟩
abbrev cX10_sorts : ByteArray := prog_1_method_9_code
def yX10_sorts : MethodName := ⟨RX10, "sorts", "(II)I"⟩
abbrev cX10_many : ByteArray := prog_1_method_10_code
def yX10_many : MethodName := ⟨RX10, "many", "(II)I"⟩
abbrev cX10_at : ByteArray := prog_1_method_11_code
def yX10_at : MethodName := ⟨RX10, "at", "(III)I"⟩
abbrev cX10_best : ByteArray := prog_1_method_12_code
def yX10_best : MethodName := ⟨RX10, "best", "(III)I"⟩
abbrev cX10_dual : ByteArray := prog_1_method_13_code
def yX10_dual : MethodName := ⟨RX10, "dual", "(II)I"⟩
abbrev cX10_minor : ByteArray := prog_1_method_14_code
def yX10_minor : MethodName := ⟨RX10, "mino\x72", "(IIII)I"⟩
abbrev cX10_union : ByteArray := prog_1_method_15_code
def yX10_union : MethodName := ⟨RX10, "union", "(III)I"⟩
abbrev cX10_renumber : ByteArray := prog_1_method_16_code
def yX10_renumber : MethodName := ⟨RX10, "renumbe\x72", "(III)I"⟩
abbrev cX10_same : ByteArray := prog_1_method_17_code
def yX10_same : MethodName := ⟨RX10, "same", "(II)I"⟩
abbrev cX10_alike : ByteArray := prog_1_method_18_code
def yX10_alike : MethodName := ⟨RX10, "alike", "(II)I"⟩
abbrev cX10_writings : ByteArray := prog_1_method_19_code
def yX10_writings : MethodName := ⟨RX10, "writings", "(II)I"⟩
abbrev cX10_writes : ByteArray := prog_1_method_20_code
def yX10_writes : MethodName := ⟨RX10, "writes", "(III)I"⟩
abbrev cX10_clash : ByteArray := prog_1_method_21_code
def yX10_clash : MethodName := ⟨RX10, "clash", "(I)I"⟩
abbrev cX10_excluded : ByteArray := prog_1_method_22_code
def yX10_excluded : MethodName := ⟨RX10, "excluded", "(III)I"⟩
abbrev cX10_seed : ByteArray := prog_1_method_23_code
def yX10_seed : MethodName := ⟨RX10, "seed", "(I)I"⟩
abbrev cX10_deal : ByteArray := prog_1_method_24_code
def yX10_deal : MethodName := ⟨RX10, "deal", "(IIII)I"⟩
abbrev cX10_chance : ByteArray := prog_1_method_25_code
def yX10_chance : MethodName := ⟨RX10, "chance", "(IIIII)I"⟩
abbrev cX10_hold : ByteArray := prog_1_method_26_code
def yX10_hold : MethodName := ⟨RX10, "hold", "(III)I"⟩
abbrev cX10_held : ByteArray := prog_1_method_27_code
def yX10_held : MethodName := ⟨RX10, "held", "(II)I"⟩
abbrev cX10_take : ByteArray := prog_1_method_28_code
def yX10_take : MethodName := ⟨RX10, "take", "(II)I"⟩
abbrev cX10_sheet : ByteArray := prog_1_method_29_code
def yX10_sheet : MethodName := ⟨RX10, "sheet", "(III)I"⟩
abbrev cX10_write : ByteArray := prog_1_method_30_code
def yX10_write : MethodName := ⟨RX10, "write", "(III)I"⟩
abbrev cX10_item : ByteArray := prog_1_method_31_code
def yX10_item : MethodName := ⟨RX10, "item", "(II)I"⟩
abbrev cX10_copy : ByteArray := prog_1_method_32_code
def yX10_copy : MethodName := ⟨RX10, "copy", "(IIIII)I"⟩
abbrev cX10_list : ByteArray := prog_1_method_33_code
def yX10_list : MethodName := ⟨RX10, "list", "(II)I"⟩
abbrev cX10_image : ByteArray := prog_1_method_34_code
def yX10_image : MethodName := ⟨RX10, "image", "()I"⟩
abbrev cX10_back : ByteArray := prog_1_method_35_code
def yX10_back : MethodName := ⟨RX10, "back", "()I"⟩
abbrev cX10_count : ByteArray := prog_1_method_36_code
def yX10_count : MethodName := ⟨RX10, "count", "(I)I"⟩
abbrev cX10_isBelow : ByteArray := prog_1_method_37_code
def yX10_isBelow : MethodName := ⟨RX10, "isBelow", "(II)Z"⟩
abbrev cX10_isElementCount : ByteArray := prog_1_method_38_code
def yX10_isElementCount : MethodName := ⟨RX10, "isElementCount", "(I)Z"⟩
abbrev cX10_isDealt : ByteArray := prog_1_method_39_code
def yX10_isDealt : MethodName := ⟨RX10, "isDealt", "(III)Z"⟩
abbrev cX10_isSetOf : ByteArray := prog_1_method_40_code
def yX10_isSetOf : MethodName := ⟨RX10, "isSetOf", "(II)Z"⟩
abbrev cX10_refusalOfPlace : ByteArray := prog_1_method_41_code
def yX10_refusalOfPlace : MethodName := ⟨RX10, "refusalOfPlace", "(II)I"⟩
abbrev cX10_drawColumns : ByteArray := prog_1_method_42_code
def yX10_drawColumns : MethodName := ⟨RX10, "drawColumns", "(LWrittenColumns$Field;III)I"⟩
abbrev cX10_elementsOfAll : ByteArray := prog_1_method_43_code
def yX10_elementsOfAll : MethodName := ⟨RX10, "elementsOfAll", "()I"⟩
abbrev cX10_fullHolds : ByteArray := prog_1_method_44_code
def yX10_fullHolds : MethodName := ⟨RX10, "fullHolds", "()I"⟩
abbrev cX10_sheetsThere : ByteArray := prog_1_method_45_code
def yX10_sheetsThere : MethodName := ⟨RX10, "sheetsThere", "()I"⟩
def RX11 : String := "WrittenColumnsModel"
def TX11 : u_T := fun k => match k with
  | 0 => ("WrittenColumnsModel", "sizes", "[I", true)
  | 1 => ("WrittenColumnsModel", "fours", "[I", true)
  | 2 => ("WrittenColumnsModel", "many", "[I", true)
  | 3 => ("WrittenColumnsModel", "ranks", "[I", true)
  | 4 => ("WrittenColumnsModel", "column", "[I", true)
  | 5 => ("WrittenColumnsModel", "work", "[I", true)
  | 6 => ("WrittenColumnsModel", "cause", "[I", true)
  | 7 => ("WrittenColumnsModel", "to", "[I", true)
  | 8 => ("WrittenColumnsModel", "rowOf", "[I", true)
  | 9 => ("WrittenColumnsModel", "places", "[I", true)
  | 10 => ("WrittenColumnsModel", "joined", "[I", true)
  | 11 => ("WrittenColumnsModel", "free", "[I", true)
  | 12 => ("WrittenColumnsModel", "first", "[I", true)
  | 13 => ("WrittenColumnsModel", "rows", "I", false)
  | 14 => ("WrittenColumnsModel", "freeMany", "I", false)
  | 15 => ("WrittenColumnsModel", "z", "I", false)
  | 16 => ("WrittenColumnsModel", "holds", "[I", true)
  | 17 => ("WrittenColumnsModel", "heldField", "[I", true)
  | 18 => ("WrittenColumnsModel", "sort", "[I", true)
  | 19 => ("WrittenColumnsModel", "size", "[I", true)
  | 20 => ("WrittenColumnsModel", "items", "[I", true)
  | 21 => ("WrittenColumnsModel", "hasImage", "Z", false)
  | _ => ("WrittenColumnsModel", "keptZ", "I", false)
def tyX11 : Nat → FieldType := fun k => match k with
  | 0 => .array .int
  | 1 => .array .int
  | 2 => .array .int
  | 3 => .array .int
  | 4 => .array .int
  | 5 => .array .int
  | 6 => .array .int
  | 7 => .array .int
  | 8 => .array .int
  | 9 => .array .int
  | 10 => .array .int
  | 11 => .array .int
  | 12 => .array .int
  | 13 => .int
  | 14 => .int
  | 15 => .int
  | 16 => .array .int
  | 17 => .array .int
  | 18 => .array .int
  | 19 => .array .int
  | 20 => .array .int
  | 21 => .boolean
  | _ => .int
abbrev wsX110 : List Cond := u_ws RX11 TX11 23
theorem nmX11 : ∀ a, a < 23 → ∀ b, b < 23 → a ≠ b → (TX11 a).2.1 ≠ (TX11 b).2.1 := by decide +kernel
theorem tyX11_ok : ∀ k, k < 23 → parseFieldDescriptor (TX11 k).2.2.1 = some (tyX11 k) := by decide +kernel
abbrev cX11_init : ByteArray := prog_13_method_1_code
def yX11_init : MethodName := ⟨RX11, "<init>", "()V"⟩
abbrev cX11_in : ByteArray := prog_13_method_2_code
def yX11_in : MethodName := ⟨RX11, "in", "(III)Z"⟩
abbrev cX11_has : ByteArray := prog_13_method_3_code
def yX11_has : MethodName := ⟨RX11, "has", "(II)Z"⟩
abbrev cX11_bits : ByteArray := prog_13_method_4_code
def yX11_bits : MethodName := ⟨RX11, "bits", "(I)I"⟩
abbrev cX11_plus : ByteArray := prog_13_method_5_code
def yX11_plus : MethodName := ⟨RX11, "plus", "(III)I"⟩
abbrev cX11_minus : ByteArray := prog_13_method_6_code
def yX11_minus : MethodName := ⟨RX11, "minus", "(III)I"⟩
abbrev cX11_times : ByteArray := prog_13_method_7_code
def yX11_times : MethodName := ⟨RX11, "times", "(III)I"⟩
abbrev cX11_by : ByteArray := prog_13_method_8_code
def yX11_by : MethodName := ⟨RX11, "by", "(III)I"⟩
abbrev cX11_isField : ByteArray := prog_13_method_9_code
def yX11_isField : MethodName := ⟨RX11, "isField", "(I)Z"⟩
abbrev cX11_reckon : ByteArray := prog_13_method_10_code
def yX11_reckon : MethodName := ⟨RX11, "reckon", "(IIII)I"⟩
abbrev cX11_isView : ByteArray := prog_13_method_11_code
def yX11_isView : MethodName := ⟨RX11, "isView", "(I)Z"⟩
abbrev cX11_all : ByteArray := prog_13_method_12_code
def yX11_all : MethodName := ⟨RX11, "all", "(I)I"⟩
abbrev cX11_r : ByteArray := prog_13_method_13_code
def yX11_r : MethodName := ⟨RX11, "\x72", "(II)I"⟩
abbrev cX11_total : ByteArray := prog_13_method_14_code
def yX11_total : MethodName := ⟨RX11, "total", "(I)I"⟩
abbrev cX11_copies : ByteArray := prog_13_method_15_code
def yX11_copies : MethodName := ⟨RX11, "copies", "(II)V"⟩
abbrev cX11_uniform : ByteArray := prog_13_method_16_code
def yX11_uniform : MethodName := ⟨RX11, "uniform", "(III)I"⟩
abbrev cX11_rankOf : ByteArray := prog_13_method_17_code
def yX11_rankOf : MethodName := ⟨RX11, "rankOf", "(II)I"⟩
abbrev cX11_byColumns : ByteArray := prog_13_method_18_code
def yX11_byColumns : MethodName := ⟨RX11, "byColumns", "(III)I"⟩
abbrev cX11_columns : ByteArray := prog_13_method_19_code
def yX11_columns : MethodName := ⟨RX11, "columns", "(IIII)I"⟩
abbrev cX11_isCause : ByteArray := prog_13_method_20_code
def yX11_isCause : MethodName := ⟨RX11, "isCause", "(IIII)Z"⟩
abbrev cX11_isTold : ByteArray := prog_13_method_21_code
def yX11_isTold : MethodName := ⟨RX11, "isTold", "(II)Z"⟩
abbrev cX11_hasCause : ByteArray := prog_13_method_22_code
def yX11_hasCause : MethodName := ⟨RX11, "hasCause", "(II)Z"⟩
abbrev cX11_tell : ByteArray := prog_13_method_23_code
def yX11_tell : MethodName := ⟨RX11, "tell", "(III)I"⟩
abbrev cX11_cause : ByteArray := prog_13_method_24_code
def yX11_cause : MethodName := ⟨RX11, "cause", "(I)I"⟩
abbrev cX11_isSet : ByteArray := prog_13_method_25_code
def yX11_isSet : MethodName := ⟨RX11, "isSet", "(II)Z"⟩
abbrev cX11_rank : ByteArray := prog_13_method_26_code
def yX11_rank : MethodName := ⟨RX11, "rank", "(II)I"⟩
abbrev cX11_spanOf : ByteArray := prog_13_method_27_code
def yX11_spanOf : MethodName := ⟨RX11, "spanOf", "(II)I"⟩
abbrev cX11_span : ByteArray := prog_13_method_28_code
def yX11_span : MethodName := ⟨RX11, "span", "(II)I"⟩
abbrev cX11_isFree : ByteArray := prog_13_method_29_code
def yX11_isFree : MethodName := ⟨RX11, "isFree", "(II)Z"⟩
abbrev cX11_isOf : ByteArray := prog_13_method_30_code
def yX11_isOf : MethodName := ⟨RX11, "isOf", "(III)Z"⟩
abbrev cX11_sorts : ByteArray := prog_13_method_31_code
def yX11_sorts : MethodName := ⟨RX11, "sorts", "(II)I"⟩
abbrev cX11_countOf : ByteArray := prog_13_method_32_code
def yX11_countOf : MethodName := ⟨RX11, "countOf", "(II)I"⟩
abbrev cX11_many : ByteArray := prog_13_method_33_code
def yX11_many : MethodName := ⟨RX11, "many", "(II)I"⟩
abbrev cX11_at : ByteArray := prog_13_method_34_code
def yX11_at : MethodName := ⟨RX11, "at", "(III)I"⟩
abbrev cX11_weightOf : ByteArray := prog_13_method_35_code
def yX11_weightOf : MethodName := ⟨RX11, "weightOf", "(II)I"⟩
abbrev cX11_best : ByteArray := prog_13_method_36_code
def yX11_best : MethodName := ⟨RX11, "best", "(III)I"⟩
abbrev cX11_duals : ByteArray := prog_13_method_37_code
def yX11_duals : MethodName := ⟨RX11, "duals", "(II)V"⟩
abbrev cX11_dual : ByteArray := prog_13_method_38_code
def yX11_dual : MethodName := ⟨RX11, "dual", "(II)I"⟩
abbrev cX11_spread : ByteArray := prog_13_method_39_code
def yX11_spread : MethodName := ⟨RX11, "spread", "(II)I"⟩
abbrev cX11_minors : ByteArray := prog_13_method_40_code
def yX11_minors : MethodName := ⟨RX11, "minors", "(IIII)V"⟩
abbrev cX11_minor : ByteArray := prog_13_method_41_code
def yX11_minor : MethodName := ⟨RX11, "mino\x72", "(IIII)I"⟩
abbrev cX11_union : ByteArray := prog_13_method_42_code
def yX11_union : MethodName := ⟨RX11, "union", "(III)I"⟩
abbrev cX11_renumber : ByteArray := prog_13_method_43_code
def yX11_renumber : MethodName := ⟨RX11, "renumbe\x72", "(III)I"⟩
abbrev cX11_areSame : ByteArray := prog_13_method_44_code
def yX11_areSame : MethodName := ⟨RX11, "areSame", "(II)Z"⟩
abbrev cX11_same : ByteArray := prog_13_method_45_code
def yX11_same : MethodName := ⟨RX11, "same", "(II)I"⟩
abbrev cX11_fits : ByteArray := prog_13_method_46_code
def yX11_fits : MethodName := ⟨RX11, "fits", "(IIII)Z"⟩
abbrev cX11_alike : ByteArray := prog_13_method_47_code
def yX11_alike : MethodName := ⟨RX11, "alike", "(II)I"⟩
abbrev cX11_firstBase : ByteArray := prog_13_method_48_code
def yX11_firstBase : MethodName := ⟨RX11, "firstBase", "(I)I"⟩
abbrev cX11_joins : ByteArray := prog_13_method_49_code
def yX11_joins : MethodName := ⟨RX11, "joins", "(II)V"⟩
abbrev cX11_laysPattern : ByteArray := prog_13_method_50_code
def yX11_laysPattern : MethodName := ⟨RX11, "laysPattern", "(I)V"⟩
abbrev cX11_isWriting : ByteArray := prog_13_method_51_code
def yX11_isWriting : MethodName := ⟨RX11, "isWriting", "(II)Z"⟩
abbrev cX11_goesOn : ByteArray := prog_13_method_52_code
def yX11_goesOn : MethodName := ⟨RX11, "goesOn", "(I)Z"⟩
abbrev cX11_writingsOf : ByteArray := prog_13_method_53_code
def yX11_writingsOf : MethodName := ⟨RX11, "writingsOf", "(III)I"⟩
abbrev cX11_writings : ByteArray := prog_13_method_54_code
def yX11_writings : MethodName := ⟨RX11, "writings", "(II)I"⟩
abbrev cX11_writes : ByteArray := prog_13_method_55_code
def yX11_writes : MethodName := ⟨RX11, "writes", "(III)I"⟩
abbrev cX11_clash : ByteArray := prog_13_method_56_code
def yX11_clash : MethodName := ⟨RX11, "clash", "(I)I"⟩
abbrev cX11_isAll : ByteArray := prog_13_method_57_code
def yX11_isAll : MethodName := ⟨RX11, "isAll", "(II)Z"⟩
abbrev cX11_isSevens : ByteArray := prog_13_method_58_code
def yX11_isSevens : MethodName := ⟨RX11, "isSevens", "()Z"⟩
abbrev cX11_sortOf : ByteArray := prog_13_method_59_code
def yX11_sortOf : MethodName := ⟨RX11, "sortOf", "(I)I"⟩
abbrev cX11_excluded : ByteArray := prog_13_method_60_code
def yX11_excluded : MethodName := ⟨RX11, "excluded", "(III)I"⟩
abbrev cX11_seed : ByteArray := prog_13_method_61_code
def yX11_seed : MethodName := ⟨RX11, "seed", "(I)I"⟩
abbrev cX11_dealt : ByteArray := prog_13_method_62_code
def yX11_dealt : MethodName := ⟨RX11, "dealt", "(IIII)I"⟩
abbrev cX11_isDeal : ByteArray := prog_13_method_63_code
def yX11_isDeal : MethodName := ⟨RX11, "isDeal", "(III)Z"⟩
abbrev cX11_deal : ByteArray := prog_13_method_64_code
def yX11_deal : MethodName := ⟨RX11, "deal", "(IIII)I"⟩
abbrev cX11_chance : ByteArray := prog_13_method_65_code
def yX11_chance : MethodName := ⟨RX11, "chance", "(IIIII)I"⟩
abbrev cX11_isHold : ByteArray := prog_13_method_66_code
def yX11_isHold : MethodName := ⟨RX11, "isHold", "(I)Z"⟩
abbrev cX11_hold : ByteArray := prog_13_method_67_code
def yX11_hold : MethodName := ⟨RX11, "hold", "(III)I"⟩
abbrev cX11_held : ByteArray := prog_13_method_68_code
def yX11_held : MethodName := ⟨RX11, "held", "(II)I"⟩
abbrev cX11_take : ByteArray := prog_13_method_69_code
def yX11_take : MethodName := ⟨RX11, "take", "(II)I"⟩
abbrev cX11_isSheet : ByteArray := prog_13_method_70_code
def yX11_isSheet : MethodName := ⟨RX11, "isSheet", "(I)Z"⟩
abbrev cX11_laysSheet : ByteArray := prog_13_method_71_code
def yX11_laysSheet : MethodName := ⟨RX11, "laysSheet", "(II)V"⟩
abbrev cX11_sheet : ByteArray := prog_13_method_72_code
def yX11_sheet : MethodName := ⟨RX11, "sheet", "(III)I"⟩
abbrev cX11_wrongAt : ByteArray := prog_13_method_73_code
def yX11_wrongAt : MethodName := ⟨RX11, "wrongAt", "(II)I"⟩
abbrev cX11_write : ByteArray := prog_13_method_74_code
def yX11_write : MethodName := ⟨RX11, "write", "(III)I"⟩
abbrev cX11_item : ByteArray := prog_13_method_75_code
def yX11_item : MethodName := ⟨RX11, "item", "(II)I"⟩
abbrev cX11_copy : ByteArray := prog_13_method_76_code
def yX11_copy : MethodName := ⟨RX11, "copy", "(IIIII)I"⟩
abbrev cX11_list : ByteArray := prog_13_method_77_code
def yX11_list : MethodName := ⟨RX11, "list", "(II)I"⟩
abbrev cX11_elements : ByteArray := prog_13_method_78_code
def yX11_elements : MethodName := ⟨RX11, "elements", "()I"⟩
abbrev cX11_image : ByteArray := prog_13_method_79_code
def yX11_image : MethodName := ⟨RX11, "image", "()I"⟩
abbrev cX11_back : ByteArray := prog_13_method_80_code
def yX11_back : MethodName := ⟨RX11, "back", "()I"⟩
abbrev cX11_count : ByteArray := prog_13_method_81_code
def yX11_count : MethodName := ⟨RX11, "count", "(I)I"⟩
def RJ6 : String := "java/lang/Intege\x72"
def TJ6 : u_T := fun k => match k with
  | _ => ("", "", "", false)
def tyJ6 : Nat → FieldType := fun k => match k with
  | _ => .int
abbrev wsJ60 : List Cond := u_ws RJ6 TJ6 0
theorem nmJ6 : ∀ a, a < 0 → ∀ b, b < 0 → a ≠ b → (TJ6 a).2.1 ≠ (TJ6 b).2.1 := by decide +kernel
theorem tyJ6_ok : ∀ k, k < 0 → parseFieldDescriptor (TJ6 k).2.2.1 = some (tyJ6 k) := by decide +kernel
abbrev cJ6_numberOfTrailingZeros_0f7a4 : ByteArray := prog_14_method_48_code
def yJ6_numberOfTrailingZeros_0f7a4 : MethodName := ⟨RJ6, "numberOfTrailingZeros", "(I)I"⟩
abbrev cJ6_bitCount_0f7a4 : ByteArray := prog_14_method_49_code
def yJ6_bitCount_0f7a4 : MethodName := ⟨RJ6, "bitCount", "(I)I"⟩
def RJ9 : String := "java/lang/Math"
def TJ9 : u_T := fun k => match k with
  | _ => ("", "", "", false)
def tyJ9 : Nat → FieldType := fun k => match k with
  | _ => .int
abbrev wsJ90 : List Cond := u_ws RJ9 TJ9 0
theorem nmJ9 : ∀ a, a < 0 → ∀ b, b < 0 → a ≠ b → (TJ9 a).2.1 ≠ (TJ9 b).2.1 := by decide +kernel
theorem tyJ9_ok : ∀ k, k < 0 → parseFieldDescriptor (TJ9 k).2.2.1 = some (tyJ9 k) := by decide +kernel
abbrev cJ9_max_7cf53 : ByteArray := prog_15_method_65_code
def yJ9_max_7cf53 : MethodName := ⟨RJ9, "max", "(II)I"⟩
abbrev cJ9_min_7cf53 : ByteArray := prog_15_method_69_code
def yJ9_min_7cf53 : MethodName := ⟨RJ9, "min", "(II)I"⟩
def RJ10 : String := "java/lang/System"
def TJ10 : u_T := fun k => match k with
  | _ => ("", "", "", false)
def tyJ10 : Nat → FieldType := fun k => match k with
  | _ => .int
abbrev wsJ100 : List Cond := u_ws RJ10 TJ10 0
theorem nmJ10 : ∀ a, a < 0 → ∀ b, b < 0 → a ≠ b → (TJ10 a).2.1 ≠ (TJ10 b).2.1 := by decide +kernel
theorem tyJ10_ok : ∀ k, k < 0 → parseFieldDescriptor (TJ10 k).2.2.1 = some (tyJ10 k) := by decide +kernel
def RL : String := "WrittenColumnsLaw"
end
section
/-! ===== THE ABSTRACT MACHINE: a world of numbered cells, instructions that say what they link to, methods by number ===== -/
abbrev am_C : Type := (Nat × Nat × ((Nat → Int32) ⊕ (Nat → Option Nat))) ⊕ (Nat × List Value)
abbrev am_W : Type := List am_C
abbrev am_L : Type := List (Option Value)
abbrev am_R : Type := Option Value × am_W
abbrev am_K : Type := Nat → am_L → List Value → am_W → Option am_R
abbrev am_F : Type := Nat → List Value → am_W → Option am_R
/-- an instruction, what it links to (three numbers, a list of jumps) -/
abbrev am_I : Type := Instr × Nat × Nat × Nat × List (Int × Nat)
/-- a field of ints -/
def am_fI (g : am_W) (p ci k : Nat) : Option Int32 := match g[p]? with
  | some (.inr (c, fs)) => if c = ci then (match fs[k]? with | some (.int x) => some x | _ => none) else none
  | _ => none
/-- a field of references that isn't null -/
def am_fR (g : am_W) (p ci k : Nat) : Option Nat := match g[p]? with
  | some (.inr (c, fs)) => if c = ci then (match fs[k]? with | some (.ref x) => some x | _ => none) else none
  | _ => none
/-- a field of references that may be null -/
def am_fN (g : am_W) (p ci k : Nat) : Option (Option Nat) := match g[p]? with
  | some (.inr (c, fs)) => if c = ci then (match fs[k]? with | some (.ref x) => some (some x) | some .null => some none | _ => none) else none
  | _ => none
/-- a field is written -/
def am_sF (g : am_W) (p ci k : Nat) (v : Value) : Option am_W := match g[p]? with
  | some (.inr (c, fs)) => if c = ci then (if k < fs.length then some (g.set p (.inr (c, fs.set k v))) else none) else none
  | _ => none
/-- an element of a row of ints (t 0) or booleans (t 1) -/
def am_aI (g : am_W) (p t : Nat) (i : Int32) : Option Int32 := match g[p]? with
  | some (.inl (u, n, .inl f)) => if u = t then (if i < 0 ∨ n ≤ i.toNatClampNeg then none else some (f i.toNatClampNeg)) else none
  | _ => none
/-- an element of a row of references that isn't null -/
def am_aR (g : am_W) (p : Nat) (i : Int32) : Option Nat := match g[p]? with
  | some (.inl (u, n, .inr f)) => if 2 ≤ u ∧ u < 6 then (if i < 0 ∨ n ≤ i.toNatClampNeg then none else f i.toNatClampNeg) else none
  | _ => none
/-- an element is written -/
def am_sI (g : am_W) (p t : Nat) (i x : Int32) : Option am_W := match g[p]? with
  | some (.inl (u, n, .inl f)) => if u = t then (if i < 0 ∨ n ≤ i.toNatClampNeg then none else some (g.set p (.inl (u, n, .inl (upd f i.toNatClampNeg x))))) else none
  | _ => none
/-- how long a row is -/
def am_ln (g : am_W) (p : Nat) : Option Int32 := match g[p]? with
  | some (.inl (u, n, .inl _)) => if u < 2 then some (Int32.ofNat n) else none
  | _ => none
/-- System.arraycopy of ints -/
def am_cp (g : am_W) (a0 : Nat) (sp : Int32) (a : Nat) (dp n : Int32) : Option am_W := match g[a0]?, g[a]? with
  | some (.inl (u0, n0, .inl f)), some (.inl (u1, n1, .inl h)) =>
    if (u0 = 0 ∧ u1 = 0) ∧ ¬ sp < 0 ∧ ¬ dp < 0 ∧ ¬ n < 0 ∧ sp.toNatClampNeg + n.toNatClampNeg ≤ n0 ∧ dp.toNatClampNeg + n.toNatClampNeg ≤ n1
    then some (g.set a (.inl (u1, n1, .inl (va_cpy f h sp.toNatClampNeg dp.toNatClampNeg n.toNatClampNeg)))) else none
  | _, _ => none
def am_on {β : Type} (o : Option Nat) (a : β) (f : Nat → β) : β := match o with
  | some q => f q
  | none => a
def am_cI (o : Option am_R) : Option (Int32 × am_W) := match o with
  | some (some (.int x), g) => some (x, g)
  | _ => none
def am_cV (o : Option am_R) : Option am_W := match o with
  | some (none, g) => some g
  | _ => none
/-- a switch: the first of the values that it is -/
def am_sw (x : Int32) (d : Nat) (k : Nat → Option am_R) : List (Int × Nat) → Option am_R
  | [] => k d
  | q :: r => if x = Int32.ofInt q.1 then k q.2 else am_sw x d k r
/-- a choice that a program makes -/
def am_b0 {β : Type} (b : Bool) (x y : β) : β := match b with
  | true => x
  | false => y
def am_b1 {β : Type} (b : Bool) (x y : β) : β := am_b0 b x y
def am_b2 {β : Type} (b : Bool) (x y : β) : β := am_b1 b x y
def am_b3 {β : Type} (b : Bool) (x y : β) : β := am_b2 b x y
def am_if {β : Type} (b : Bool) (x y : β) : β := am_b3 b x y
theorem am_if_some {β : Type} {b : Bool} {x : Option β} {r : β} (h : am_if b x none = some r) : b = true ∧ x = some r := by
  cases b with
  | true => exact ⟨rfl, h⟩
  | false => exact absurd (show (none : Option β) = some r from h) (by simp)
def am_ld (L : am_L) (i : Nat) : Option Value := match L[i]? with
  | some (some v) => some v
  | _ => none
/-- a call: n values are taken off the stack -/
def am_call (F : am_F) (K : am_K) (j n : Nat) (b : Nat) (pc : Nat) (L : am_L) (st : List Value) (g : am_W) : Option am_R :=
  am_if (Nat.ble n st.length && Nat.ble ((st.drop n).map (fun v => v.category)).sum 8)
    (am_if (Nat.beq b 1) ((am_cI (F j (st.take n).reverse g)).bind (fun q => K (pc + 3) L (.int q.1 :: st.drop n) q.2))
      ((am_cV (F j (st.take n).reverse g)).bind (fun q => K (pc + 3) L (st.drop n) q)))
  none
/-- one instruction; K goes on; rz: the method answers a boolean -/
def am_ex (rz : Bool) (F : am_F) (K : am_K) (i : am_I) (pc : Nat) (L : am_L) (st : List Value) (g : am_W) : Option am_R :=
  match i.1 with
  | .iconst n => K (pc + 1) L (.int (Int32.ofInt n) :: st) g
  | .bipush n => K (pc + 2) L (.int (Int8.ofInt n).toInt32 :: st) g
  | .sipush n => K (pc + 3) L (.int (Int16.ofInt n).toInt32 :: st) g
  | .ldc _ => K (pc + 2) L (.int (Int32.ofNat i.2.1) :: st) g
  | .ldc_w _ => K (pc + 3) L (.int (Int32.ofNat i.2.1) :: st) g
  | .aconst_null => K (pc + 1) L (.null :: st) g
  | .iload_n k => (match am_ld L k.val with | some (.int x) => K (pc + 1) L (.int x :: st) g | _ => none)
  | .iload k => (match am_ld L k with | some (.int x) => K (pc + 2) L (.int x :: st) g | _ => none)
  | .aload_n k => (match am_ld L k.val with | some (.ref x) => K (pc + 1) L (.ref x :: st) g | some .null => K (pc + 1) L (.null :: st) g | _ => none)
  | .aload k => (match am_ld L k with | some (.ref x) => K (pc + 2) L (.ref x :: st) g | some .null => K (pc + 2) L (.null :: st) g | _ => none)
  | .istore_n k => (match st with | .int x :: r => am_if (Nat.blt k.val L.length) (K (pc + 1) (L.set k.val (some (.int x))) r g) none | _ => none)
  | .istore k => (match st with | .int x :: r => am_if (Nat.blt k L.length) (K (pc + 2) (L.set k (some (.int x))) r g) none | _ => none)
  | .astore_n k => (match st with | .ref x :: r => am_if (Nat.blt k.val L.length) (K (pc + 1) (L.set k.val (some (.ref x))) r g) none | .null :: r => am_if (Nat.blt k.val L.length) (K (pc + 1) (L.set k.val (some .null)) r g) none | _ => none)
  | .astore k => (match st with | .ref x :: r => am_if (Nat.blt k L.length) (K (pc + 2) (L.set k (some (.ref x))) r g) none | .null :: r => am_if (Nat.blt k L.length) (K (pc + 2) (L.set k (some .null)) r g) none | _ => none)
  | .iinc k n => (match am_ld L k with | some (.int x) => am_if (Nat.blt k L.length) (K (pc + 3) (L.set k (some (.int (x + Int32.ofInt n)))) st g) none | _ => none)
  | .iadd => (match st with | .int y :: .int x :: r => K (pc + 1) L (.int (x + y) :: r) g | _ => none)
  | .isub => (match st with | .int y :: .int x :: r => K (pc + 1) L (.int (x - y) :: r) g | _ => none)
  | .imul => (match st with | .int y :: .int x :: r => K (pc + 1) L (.int (x * y) :: r) g | _ => none)
  | .idiv => (match st with | .int y :: .int x :: r => if y = 0 then none else K (pc + 1) L (.int (x / y) :: r) g | _ => none)
  | .irem => (match st with | .int y :: .int x :: r => if y = 0 then none else K (pc + 1) L (.int (x - x / y * y) :: r) g | _ => none)
  | .iand => (match st with | .int y :: .int x :: r => K (pc + 1) L (.int (x &&& y) :: r) g | _ => none)
  | .ior => (match st with | .int y :: .int x :: r => K (pc + 1) L (.int (x ||| y) :: r) g | _ => none)
  | .ixor => (match st with | .int y :: .int x :: r => K (pc + 1) L (.int (x ^^^ y) :: r) g | _ => none)
  | .ishl => (match st with | .int y :: .int x :: r => K (pc + 1) L (.int (x <<< (y &&& 31)) :: r) g | _ => none)
  | .ishr => (match st with | .int y :: .int x :: r => K (pc + 1) L (.int (x >>> (y &&& 31)) :: r) g | _ => none)
  | .iushr => (match st with | .int y :: .int x :: r => K (pc + 1) L (.int (x.toUInt32 >>> (y.toUInt32 &&& Int32.toUInt32 31)).toInt32 :: r) g | _ => none)
  | .i2b => (match st with | .int x :: r => K (pc + 1) L (.int x.toInt8.toInt32 :: r) g | _ => none)
  | .dup => (match st with | .int x :: r => K (pc + 1) L (.int x :: .int x :: r) g | .ref x :: r => K (pc + 1) L (.ref x :: .ref x :: r) g | _ => none)
  | .dup2 => (match st with | .int x :: .ref y :: r => K (pc + 1) L (.int x :: .ref y :: .int x :: .ref y :: r) g | _ => none)
  | .goto _ => K i.2.1 L st g
  | .ifCond c _ => (match st with
    | .int x :: r => (match c with
      | .eq => if x = 0 then K i.2.1 L r g else K (pc + 3) L r g
      | .ne => if x = 0 then K (pc + 3) L r g else K i.2.1 L r g
      | .lt => if x < 0 then K i.2.1 L r g else K (pc + 3) L r g
      | .ge => if 0 ≤ x then K i.2.1 L r g else K (pc + 3) L r g
      | .gt => if 0 < x then K i.2.1 L r g else K (pc + 3) L r g
      | .le => if x ≤ 0 then K i.2.1 L r g else K (pc + 3) L r g)
    | _ => none)
  | .if_icmp c _ => (match st with
    | .int y :: .int x :: r => (match c with
      | .eq => if x = y then K i.2.1 L r g else K (pc + 3) L r g
      | .ne => if x = y then K (pc + 3) L r g else K i.2.1 L r g
      | .lt => if x < y then K i.2.1 L r g else K (pc + 3) L r g
      | .ge => if y ≤ x then K i.2.1 L r g else K (pc + 3) L r g
      | .gt => if y < x then K i.2.1 L r g else K (pc + 3) L r g
      | .le => if x ≤ y then K i.2.1 L r g else K (pc + 3) L r g)
    | _ => none)
  | .ifnull _ => (match st with | .ref _ :: r => K (pc + 3) L r g | .null :: r => K i.2.1 L r g | _ => none)
  | .ifnonnull _ => (match st with | .ref _ :: r => K i.2.1 L r g | .null :: r => K (pc + 3) L r g | _ => none)
  | .tableswitch _ _ _ _ => (match st with | .int x :: r => am_sw x i.2.1 (fun t => K t L r g) i.2.2.2.2 | _ => none)
  | .lookupswitch _ _ => (match st with | .int x :: r => am_sw x i.2.1 (fun t => K t L r g) i.2.2.2.2 | _ => none)
  | .getfield _ => (match st with
    | .ref p :: r => (match i.2.2.2.1 with
      | 0 => (am_fI g p i.2.1 i.2.2.1).bind (fun x => K (pc + 3) L (.int x :: r) g)
      | 1 => (am_fR g p i.2.1 i.2.2.1).bind (fun x => K (pc + 3) L (.ref x :: r) g)
      | _ => (am_fN g p i.2.1 i.2.2.1).bind (fun x => am_on x (K (pc + 3) L (.null :: r) g) (fun q => K (pc + 3) L (.ref q :: r) g)))
    | _ => none)
  | .putfield _ => (match st with
    | .int x :: .ref p :: r => am_if (Nat.beq i.2.2.2.1 0) ((am_sF g p i.2.1 i.2.2.1 (.int x)).bind (fun g' => K (pc + 3) L r g')) (am_if (Nat.beq i.2.2.2.1 3) (if x = 0 ∨ x = 1 then (am_sF g p i.2.1 i.2.2.1 (.int x)).bind (fun g' => K (pc + 3) L r g') else none) none)
    | .ref x :: .ref p :: r => am_if (Nat.beq i.2.2.2.1 2) ((am_sF g p i.2.1 i.2.2.1 (.ref x)).bind (fun g' => K (pc + 3) L r g')) none
    | .null :: .ref p :: r => am_if (Nat.beq i.2.2.2.1 2) ((am_sF g p i.2.1 i.2.2.1 .null).bind (fun g' => K (pc + 3) L r g')) none
    | _ => none)
  | .iaload => (match st with | .int x :: .ref p :: r => (am_aI g p 0 x).bind (fun v => K (pc + 1) L (.int v :: r) g) | _ => none)
  | .baload => (match st with | .int x :: .ref p :: r => (am_aI g p 1 x).bind (fun v => K (pc + 1) L (.int v :: r) g) | _ => none)
  | .aaload => (match st with | .int x :: .ref p :: r => (am_aR g p x).bind (fun v => K (pc + 1) L (.ref v :: r) g) | _ => none)
  | .iastore => (match st with | .int v :: .int x :: .ref p :: r => (am_sI g p 0 x v).bind (fun g' => K (pc + 1) L r g') | _ => none)
  | .bastore => (match st with | .int v :: .int x :: .ref p :: r => (am_sI g p 1 x (vp_nar .boolean v)).bind (fun g' => K (pc + 1) L r g') | _ => none)
  | .arraylength => (match st with | .ref p :: r => (am_ln g p).bind (fun v => K (pc + 1) L (.int v :: r) g) | _ => none)
  | .invokestatic _ => am_if (Nat.beq i.2.1 999)
      (match st with | .int n :: .int dp :: .ref a :: .int sp :: .ref a0 :: r => am_if (Nat.ble (r.map (fun v => v.category)).sum 8) ((am_cp g a0 sp a dp n).bind (fun g' => K (pc + 3) L r g')) none | _ => none)
      (am_if (Nat.beq i.2.1 998)
      (match st with | .int y :: .int x :: r => am_if (Nat.ble (r.map (fun v => v.category)).sum 8) (K (pc + 3) L (.int (if x < y then y else x) :: r) g) none | _ => none)
      (am_if (Nat.beq i.2.1 997)
      (match st with | .int y :: .int x :: r => am_if (Nat.ble (r.map (fun v => v.category)).sum 8) (K (pc + 3) L (.int (if y < x then y else x) :: r) g) none | _ => none)
      (am_call F K i.2.1 i.2.2.1 i.2.2.2.1 pc L st g)))
  | .invokevirtual _ => am_call F K i.2.1 i.2.2.1 i.2.2.2.1 pc L st g
  | .ireturn => (match st with | [.int x] => am_if rz (if x = 0 ∨ x = 1 then some (some (.int x), g) else none) (some (some (.int x), g)) | _ => none)
  | .return_ => (match st with | [] => some (none, g) | _ => none)
  | _ => none
end
section
/-! ===== runs ===== -/
def am_rn (rz : Bool) (F : am_F) (cd : Nat → Option am_I) : Nat → am_K
  | 0, _, _, _, _ => none
  | n + 1, pc, L, st, g => match cd pc with
    | some i => am_ex rz F (am_rn rz F cd n) i pc L st g
    | none => none
/-- what goes on is asked at one place at most -/
def am_alg (f : am_K → Option am_R) : Prop := ∀ (K : am_K) (r : am_R), f K = some r → (∀ K' : am_K, f K' = some r) ∨ ∃ (pc : Nat) (L : am_L) (st : List Value) (g : am_W), K pc L st g = some r ∧ ∀ K' : am_K, K' pc L st g = some r → f K' = some r
theorem am_alg.none : am_alg (fun _ => none) := fun _ _ h => by cases h
theorem am_alg.fin (o : Option am_R) : am_alg (fun _ => o) := fun _ _ h => Or.inl (fun _ => h)
theorem am_alg.go (pc : Nat) (L : am_L) (st : List Value) (g : am_W) : am_alg (fun K => K pc L st g) := fun _ _ h => Or.inr ⟨pc, L, st, g, h, fun _ h => h⟩
theorem am_alg.ite {c : Prop} [Decidable c] {f g : am_K → Option am_R} (hf : am_alg f) (hg : am_alg g) : am_alg (fun K => if c then f K else g K) := by
  by_cases h : c
  · simpa only [h, if_true] using hf
  · simpa only [h, if_false] using hg
theorem am_alg.bif {b : Bool} {f g : am_K → Option am_R} (hf : am_alg f) (hg : am_alg g) : am_alg (fun K => am_if b (f K) (g K)) := by
  cases b with
  | true => exact hf
  | false => exact hg
theorem am_alg.bind {α : Type} (o : Option α) {f : α → am_K → Option am_R} (hf : ∀ a, am_alg (f a)) : am_alg (fun K => o.bind (fun a => f a K)) := by
  cases o with
  | none => exact am_alg.none
  | some a => exact hf a
theorem am_alg.on (o : Option Nat) {a : am_K → Option am_R} {f : Nat → am_K → Option am_R} (ha : am_alg a) (hf : ∀ q, am_alg (f q)) : am_alg (fun K => am_on o (a K) (fun q => f q K)) := by
  cases o with
  | none => exact ha
  | some q => exact hf q
theorem am_alg.sw (x : Int32) (d : Nat) {k : Nat → am_K → Option am_R} (hk : ∀ t, am_alg (k t)) : ∀ l : List (Int × Nat), am_alg (fun K => am_sw x d (fun t => k t K) l)
  | [] => hk d
  | q :: r => am_alg.ite (hk q.2) (am_alg.sw x d hk r)
theorem am_alg.call (F : am_F) (j n b pc : Nat) (L : am_L) (st : List Value) (g : am_W) : am_alg (fun K => am_call F K j n b pc L st g) := by
  unfold am_call
  exact am_alg.bif (am_alg.bif (am_alg.bind _ (fun _ => am_alg.go _ _ _ _)) (am_alg.bind _ (fun _ => am_alg.go _ _ _ _))) am_alg.none
set_option maxHeartbeats 4000000 in
theorem am_ex_alg (rz : Bool) (F : am_F) (i : am_I) (pc : Nat) (L : am_L) (st : List Value) (g : am_W) : am_alg (fun K => am_ex rz F K i pc L st g) := by
  unfold am_ex
  split
  all_goals
    repeat' first
      | exact am_alg.none
      | exact am_alg.go _ _ _ _
      | exact am_alg.fin _
      | exact am_alg.call _ _ _ _ _ _ _ _
      | apply am_alg.ite
      | apply am_alg.bif
      | refine am_alg.bind _ (fun _ => ?_)
      | refine am_alg.on _ ?_ (fun _ => ?_)
      | refine am_alg.sw _ _ (fun _ => ?_) _
      | split
theorem am_rn_mono {rz : Bool} {F : am_F} {cd : Nat → Option am_I} : ∀ (n : Nat) (pc : Nat) (L : am_L) (st : List Value) (g : am_W) (r : am_R), am_rn rz F cd n pc L st g = some r → am_rn rz F cd (n + 1) pc L st g = some r := by
  intro n
  induction n with
  | zero => intro pc L st g r h; cases h
  | succ n ih =>
    intro pc L st g r h
    unfold am_rn at h ⊢
    cases hi : cd pc with
    | none => rw [hi] at h; cases h
    | some i =>
      rw [hi] at h
      dsimp only at h ⊢
      rcases am_ex_alg rz F i pc L st g _ r h with h1 | ⟨pc', L', st', g', h1, h2⟩
      · exact h1 _
      · exact h2 _ (ih _ _ _ _ _ h1)
theorem am_rn_le {rz : Bool} {F : am_F} {cd : Nat → Option am_I} {n k : Nat} (hk : n ≤ k) {pc : Nat} {L : am_L} {st : List Value} {g : am_W} {r : am_R} (h : am_rn rz F cd n pc L st g = some r) : am_rn rz F cd k pc L st g = some r := by
  induction hk with
  | refl => exact h
  | step _ ih => exact am_rn_mono _ _ _ _ _ _ ih
noncomputable def am_run (rz : Bool) (F : am_F) (cd : Nat → Option am_I) (pc : Nat) (L : am_L) (st : List Value) (g : am_W) : Option am_R :=
  @dite (Option am_R) (∃ (r : am_R) (n : Nat), am_rn rz F cd n pc L st g = some r) (Classical.propDecidable _) (fun h => some h.choose) (fun _ => none)
theorem am_run_of {rz : Bool} {F : am_F} {cd : Nat → Option am_I} {n : Nat} {pc : Nat} {L : am_L} {st : List Value} {g : am_W} {r : am_R} (h : am_rn rz F cd n pc L st g = some r) : am_run rz F cd pc L st g = some r := by
  have hx : ∃ (r : am_R) (n : Nat), am_rn rz F cd n pc L st g = some r := ⟨r, n, h⟩
  unfold am_run
  rw [dif_pos hx]
  obtain ⟨k, hk⟩ := hx.choose_spec
  have h1 := am_rn_le (Nat.le_max_left n k) h
  have h2 := am_rn_le (Nat.le_max_right n k) hk
  exact h2.symm.trans h1
theorem am_run_to {rz : Bool} {F : am_F} {cd : Nat → Option am_I} {pc : Nat} {L : am_L} {st : List Value} {g : am_W} {r : am_R} (h : am_run rz F cd pc L st g = some r) : ∃ n, am_rn rz F cd n pc L st g = some r := by
  unfold am_run at h
  by_cases hx : ∃ (r : am_R) (n : Nat), am_rn rz F cd n pc L st g = some r
  · rw [dif_pos hx] at h
    rw [← Option.some.inj h]
    exact hx.choose_spec
  · rw [dif_neg hx] at h
    cases h
/-- a run goes on by its instruction -/
theorem am_run_eq (rz : Bool) (F : am_F) (cd : Nat → Option am_I) (pc : Nat) (L : am_L) (st : List Value) (g : am_W) : am_run rz F cd pc L st g = (match cd pc with | some i => am_ex rz F (am_run rz F cd) i pc L st g | none => none) := by
  apply Option.ext
  intro r
  constructor
  · intro h
    obtain ⟨n, hn⟩ := am_run_to h
    cases n with
    | zero => cases hn
    | succ n =>
      unfold am_rn at hn
      cases hi : cd pc with
      | none => rw [hi] at hn; cases hn
      | some i =>
        rw [hi] at hn
        dsimp only at hn ⊢
        rcases am_ex_alg rz F i pc L st g _ r hn with h1 | ⟨pc', L', st', g', h1, h2⟩
        · exact h1 _
        · exact h2 _ (am_run_of h1)
  · intro h
    cases hi : cd pc with
    | none => rw [hi] at h; cases h
    | some i =>
      rw [hi] at h
      dsimp only at h
      rcases am_ex_alg rz F i pc L st g _ r h with h1 | ⟨pc', L', st', g', h1, h2⟩
      · refine am_run_of (n := 1) ?_
        unfold am_rn
        rw [hi]
        exact h1 _
      · obtain ⟨n, hn⟩ := am_run_to h1
        refine am_run_of (n := n + 1) ?_
        unfold am_rn
        rw [hi]
        exact h2 _ hn
/-- many instructions at once, up to the stops (the first is taken in any case) -/
def am_go (rz : Bool) (F : am_F) (cd : Nat → Option am_I) (stops : List Nat) (K : am_K) : Nat → am_K
  | 0, pc, L, st, g => K pc L st g
  | n + 1, pc, L, st, g => match cd pc with
    | some i => am_ex rz F (fun pc' L' st' g' => am_if (stops.elem pc') (K pc' L' st' g') (am_go rz F cd stops K n pc' L' st' g')) i pc L st g
    | none => none
theorem am_run_go (rz : Bool) (F : am_F) (cd : Nat → Option am_I) (stops : List Nat) : ∀ (n pc : Nat) (L : am_L) (st : List Value) (g : am_W), am_run rz F cd pc L st g = am_go rz F cd stops (am_run rz F cd) n pc L st g := by
  intro n
  induction n with
  | zero => intro pc L st g; rfl
  | succ n ih =>
    intro pc L st g
    rw [am_run_eq]
    unfold am_go
    cases cd pc with
    | none => rfl
    | some i =>
      dsimp only
      congr 1
      funext pc' L' st' g'
      cases stops.elem pc' with
      | true => rfl
      | false => exact ih _ _ _ _
end
section
/-! ===== the machine's world of an abstract one ===== -/
abbrev am_cl : List vw_C := [(RX0, TX0, 5), (RX1, TX1, 5), (RX2, TX2, 2), (RX3, TX3, 3), (RX4, TX4, 3), (RX5, TX5, 7), (RX6, TX6, 1), (RX7, TX7, 3), (RX8, TX8, 2), (RX9, TX9, 12), (RX10, TX10, 12), (RX11, TX11, 23)]
def am_ty (cA : Nat → ClassId) : List (ClassId × FieldType) := [(cA 0, .int), (cA 1, .boolean), (cA 2, .object RX2), (cA 3, .object RX8), (cA 4, .object RX3), (cA 5, .object RX7)]
def am_v (ρ : Nat → Nat) : Value → Value
  | .ref a => .ref (ρ a)
  | .int x => .int x
  | .null => .null
  | .long x => .long x
  | .float x => .float x
  | .double x => .double x
  | .retAddr x => .retAddr x
def am_e (ρ : Nat → Nat) (cA : Nat → ClassId) : am_C → va_E
  | .inl (t, n, .inl f) => .inl (cA t, n, .inl f)
  | .inl (t, n, .inr f) => .inl (cA t, n, .inr (.inr (.inr (.inr (fun j => if j < n then (f j).map ρ else none)))))
  | .inr (ci, fs) => .inr (ci, fs.map (am_v ρ))
def am_lay (ρ : Nat → Nat) (cA : Nat → ClassId) (g : am_W) : va_W := g.mapIdx (fun k e => (ρ k, am_e ρ cA e))
theorem am_lay_get (ρ : Nat → Nat) (cA : Nat → ClassId) (g : am_W) (k : Nat) : (am_lay ρ cA g)[k]? = (g[k]?).map (fun e => (ρ k, am_e ρ cA e)) := by
  unfold am_lay
  rw [List.getElem?_mapIdx]
theorem am_lay_at {ρ : Nat → Nat} {cA : Nat → ClassId} {g : am_W} {k : Nat} {e : am_C} (h : g[k]? = some e) : (am_lay ρ cA g)[k]? = some (ρ k, am_e ρ cA e) := by
  rw [am_lay_get, h]
  rfl
theorem am_lay_set (ρ : Nat → Nat) (cA : Nat → ClassId) (g : am_W) (k : Nat) (e : am_C) : (am_lay ρ cA g).set k (ρ k, am_e ρ cA e) = am_lay ρ cA (g.set k e) := by
  apply List.ext_getElem?
  intro j
  rw [am_lay_get, List.getElem?_set, List.getElem?_set]
  have hlen : (am_lay ρ cA g).length = g.length := by unfold am_lay; exact List.length_mapIdx
  rw [hlen]
  by_cases h : k = j
  · subst h
    by_cases h2 : k < g.length
    · simp [h2]
    · simp [h2]
  · simp [h, am_lay_get]
def am_A (ρ : Nat → Nat) (n : Nat) : Nat → Prop := fun q => ∃ k, k < n ∧ q = ρ k
def am_inj (ρ : Nat → Nat) (n : Nat) : Prop := ∀ i j, i < n → j < n → ρ i = ρ j → i = j
theorem am_lay_D {ρ : Nat → Nat} {cA : Nat → ClassId} {g : am_W} {n : Nat} (hρ : am_inj ρ n) (hn : g.length = n) : va_D (am_A ρ n) (am_lay ρ cA g) := by
  refine ⟨fun i j p q hi hj he => ?_, fun k q hk => ?_⟩
  · rw [am_lay_get] at hi hj
    cases h1 : g[i]? with
    | none => rw [h1] at hi; cases hi
    | some x =>
      cases h2 : g[j]? with
      | none => rw [h2] at hj; cases hj
      | some y =>
        rw [h1] at hi
        rw [h2] at hj
        have e1 := Option.some.inj hi
        have e2 := Option.some.inj hj
        rw [← e1, ← e2] at he
        have l1 := (List.getElem?_eq_some_iff.mp h1).1
        have l2 := (List.getElem?_eq_some_iff.mp h2).1
        exact hρ i j (by omega) (by omega) he
  · rw [am_lay_get] at hk
    cases h1 : g[k]? with
    | none => rw [h1] at hk; cases hk
    | some x =>
      rw [h1] at hk
      have e1 := Option.some.inj hk
      have l1 := (List.getElem?_eq_some_iff.mp h1).1
      exact ⟨k, by omega, by rw [← e1]⟩
/-! locals -/
def am_lh (ρ : Nat → Nat) (ls : Array Slot) (nL : Nat) (L : am_L) : Prop := ls.size = nL ∧ L.length = nL ∧ lv_wf ls ∧ ∀ (i : Nat) (v : Value), L[i]? = some (some v) → ls[i]? = some (.val (am_v ρ v)) ∧ (am_v ρ v).category = 1
def am_lv (ρ : Nat → Nat) (L : am_L) : List (Nat × Value) := (List.range L.length).filterMap (fun i => match L[i]? with
  | some (some v) => some (i, am_v ρ v)
  | _ => none)
theorem am_lv_mem {ρ : Nat → Nat} {L : am_L} {q : Nat × Value} (h : q ∈ am_lv ρ L) : ∃ v, L[q.1]? = some (some v) ∧ q.2 = am_v ρ v := by
  unfold am_lv at h
  obtain ⟨i, -, hi⟩ := List.mem_filterMap.mp h
  split at hi
  · rename_i v hv
    have e := Option.some.inj hi
    subst e
    exact ⟨v, hv, rfl⟩
  · cases hi
theorem am_lv_in {ρ : Nat → Nat} {L : am_L} {i : Nat} {v : Value} (h : L[i]? = some (some v)) : (i, am_v ρ v) ∈ am_lv ρ L := by
  unfold am_lv
  refine List.mem_filterMap.mpr ⟨i, List.mem_range.mpr (List.getElem?_eq_some_iff.mp h).1, ?_⟩
  rw [h]
theorem am_lh.has {ρ : Nat → Nat} {ls : Array Slot} {nL : Nat} {L : am_L} (h : am_lh ρ ls nL L) : lv_has ls nL (am_lv ρ L) := by
  refine ⟨h.1, h.2.2.1, fun q hq => ?_⟩
  obtain ⟨v, h1, h2⟩ := am_lv_mem hq
  rw [h2]
  exact (h.2.2.2 _ _ h1).1
theorem am_lh.set {ρ : Nat → Nat} {ls ls' : Array Slot} {nL : Nat} {L : am_L} {i : Nat} {v : Value} (h : am_lh ρ ls nL L) (hv : (am_v ρ v).category = 1) (h' : lv_has ls' nL ((i, am_v ρ v) :: (am_lv ρ L).filter (fun q => !(q.1 == i) && !(q.1 + 1 == i && q.2.category == 2)))) : am_lh ρ ls' nL (L.set i (some v)) := by
  refine ⟨h'.1, by rw [List.length_set]; exact h.2.1, h'.2.1, fun j w hj => ?_⟩
  rw [List.getElem?_set] at hj
  by_cases hij : i = j
  · subst hij
    rw [if_pos rfl] at hj
    by_cases hl : i < L.length
    · rw [if_pos hl] at hj
      have e := Option.some.inj (Option.some.inj hj)
      subst e
      exact ⟨h'.2.2 (i, am_v ρ v) List.mem_cons_self, hv⟩
    · rw [if_neg hl] at hj
      cases hj
  · rw [if_neg hij] at hj
    obtain ⟨h1, h2⟩ := h.2.2.2 j w hj
    refine ⟨h'.2.2 (j, am_v ρ w) (List.mem_cons_of_mem _ (List.mem_filter.mpr ⟨am_lv_in hj, ?_⟩)), h2⟩
    have hji : ¬ j = i := fun e => hij e.symm
    simp [hji, h2]
theorem am_lh.at {ρ : Nat → Nat} {ls : Array Slot} {nL : Nat} {L : am_L} (h : am_lh ρ ls nL L) {i : Nat} {v : Value} (hv : am_ld L i = some v) : ls[i]? = some (.val (am_v ρ v)) := by
  unfold am_ld at hv
  split at hv
  · rename_i w hw
    cases hv
    exact (h.2.2.2 _ _ hw).1
  · cases hv
theorem am_lv_ld {ρ : Nat → Nat} {L : am_L} {i : Nat} {v : Value} (hv : am_ld L i = some v) : ∃ k : Nat, (am_lv ρ L)[k]? = some (i, am_v ρ v) := by
  unfold am_ld at hv
  split at hv
  · rename_i w hw
    cases hv
    exact List.mem_iff_getElem?.mp (am_lv_in hw)
  · cases hv
theorem am_lh_entry_aux {ρ : Nat → Nat} : ∀ (as : List Value) (i : Nat), (∀ v ∈ as, (am_v ρ v).category = 1) → ∀ (j : Nat) (v : Value), as[j]? = some v → (i + j, am_v ρ v) ∈ lv_args i (as.map (am_v ρ))
  | [], i, _, j, v, h => by simp at h
  | a :: t, i, hc, j, v, h => by
    have hca : ¬ (am_v ρ a).category = 2 := by rw [hc a List.mem_cons_self]; decide
    show (i + j, am_v ρ v) ∈ (i, am_v ρ a) :: lv_args (if (am_v ρ a).category = 2 then i + 2 else i + 1) (t.map (am_v ρ))
    rw [if_neg hca]
    cases j with
    | zero =>
      simp at h
      subst h
      exact List.mem_cons_self
    | succ j =>
      simp at h
      have := am_lh_entry_aux t (i + 1) (fun v hv => hc v (List.mem_cons_of_mem _ hv)) j v h
      rw [show i + (j + 1) = i + 1 + j by omega]
      exact List.mem_cons_of_mem _ this
theorem am_sl_len {ρ : Nat → Nat} : ∀ (as : List Value), (∀ v ∈ as, (am_v ρ v).category = 1) → (lg_sl (as.map (am_v ρ))).length = as.length
  | [], _ => rfl
  | a :: t, hc => by
    have hca : ¬ (am_v ρ a).category = 2 := by rw [hc a List.mem_cons_self]; decide
    have := am_sl_len t (fun v hv => hc v (List.mem_cons_of_mem _ hv))
    unfold lg_sl at this ⊢
    simp only [List.map_cons, List.flatMap_cons, if_neg hca, List.length_append, List.length_cons, List.length_nil]
    omega
theorem am_lh_entry {ρ : Nat → Nat} {as : List Value} {nL : Nat} (hc : ∀ v ∈ as, (am_v ρ v).category = 1) (hn : as.length ≤ nL) : am_lh ρ ((lg_sl (as.map (am_v ρ)) ++ List.replicate (nL - (lg_sl (as.map (am_v ρ))).length) Slot.unset).toArray) nL (as.map some ++ List.replicate (nL - as.length) none) := by
  have hl := am_sl_len as hc
  have h := lv_entry (as.map (am_v ρ)) (n := nL) (by rw [hl]; exact hn)
  refine ⟨h.1, by simp; omega, h.2.1, fun i v hi => ?_⟩
  have hi2 : as[i]? = some v := by
    by_cases hlt : i < as.length
    · rw [List.getElem?_append_left (by simpa using hlt), List.getElem?_map] at hi
      cases hq : as[i]? with
      | none => rw [hq] at hi; cases hi
      | some w => rw [hq] at hi; exact congrArg some (Option.some.inj (Option.some.inj hi))
    · rw [List.getElem?_append_right (by simpa using Nat.le_of_not_lt hlt)] at hi
      rw [List.getElem?_replicate] at hi
      split at hi
      · cases Option.some.inj hi
      · cases hi
  have hm := am_lh_entry_aux as 0 hc i v hi2
  rw [Nat.zero_add] at hm
  exact ⟨h.2.2 _ hm, hc v (List.mem_of_getElem? hi2)⟩
end
section
/-! ===== a run keeps how many cells there are ===== -/
def am_kp (n : Nat) (f : am_K → Option am_R) : Prop := ∀ K : am_K, (∀ (pc : Nat) (L : am_L) (st : List Value) (g : am_W) (r : am_R), g.length = n → K pc L st g = some r → r.2.length = n) → ∀ r, f K = some r → r.2.length = n
theorem am_kp.none {n : Nat} : am_kp n (fun _ => none) := fun _ _ _ h => by cases h
theorem am_kp.fin {n : Nat} (v : Option Value) (g : am_W) (h : g.length = n) : am_kp n (fun _ => some (v, g)) := fun _ _ r hr => by cases hr; exact h
theorem am_kp.go {n : Nat} (pc : Nat) (L : am_L) (st : List Value) (g : am_W) (h : g.length = n) : am_kp n (fun K => K pc L st g) := fun _ hK r hr => hK _ _ _ _ r h hr
theorem am_kp.ite {n : Nat} {c : Prop} [Decidable c] {f g : am_K → Option am_R} (hf : am_kp n f) (hg : am_kp n g) : am_kp n (fun K => if c then f K else g K) := by
  by_cases h : c
  · simpa only [h, if_true] using hf
  · simpa only [h, if_false] using hg
theorem am_kp.bif {n : Nat} {b : Bool} {f g : am_K → Option am_R} (hf : am_kp n f) (hg : am_kp n g) : am_kp n (fun K => am_if b (f K) (g K)) := by
  cases b with
  | true => exact hf
  | false => exact hg
theorem am_kp.bind {n : Nat} {α : Type} (o : Option α) {f : α → am_K → Option am_R} (hf : ∀ a, o = some a → am_kp n (f a)) : am_kp n (fun K => o.bind (fun a => f a K)) := by
  cases o with
  | none => exact am_kp.none
  | some a => exact hf a rfl
theorem am_kp.on {n : Nat} (o : Option Nat) {a : am_K → Option am_R} {f : Nat → am_K → Option am_R} (ha : am_kp n a) (hf : ∀ q, am_kp n (f q)) : am_kp n (fun K => am_on o (a K) (fun q => f q K)) := by
  cases o with
  | none => exact ha
  | some q => exact hf q
theorem am_kp.sw {n : Nat} (x : Int32) (d : Nat) {k : Nat → am_K → Option am_R} (hk : ∀ t, am_kp n (k t)) : ∀ l : List (Int × Nat), am_kp n (fun K => am_sw x d (fun t => k t K) l)
  | [] => hk d
  | q :: r => am_kp.ite (hk q.2) (am_kp.sw x d hk r)
theorem am_sF_len {g g' : am_W} {p ci k : Nat} {v : Value} (h : am_sF g p ci k v = some g') : g'.length = g.length := by
  unfold am_sF at h
  repeat' split at h
  all_goals first | (cases h; done) | (rw [← Option.some.inj h, List.length_set])
theorem am_sI_len {g g' : am_W} {p t : Nat} {i x : Int32} (h : am_sI g p t i x = some g') : g'.length = g.length := by
  unfold am_sI at h
  repeat' split at h
  all_goals first | (cases h; done) | (rw [← Option.some.inj h, List.length_set])
theorem am_cp_len {g g' : am_W} {a0 a : Nat} {sp dp n : Int32} (h : am_cp g a0 sp a dp n = some g') : g'.length = g.length := by
  unfold am_cp at h
  repeat' split at h
  all_goals first | (cases h; done) | (rw [← Option.some.inj h, List.length_set])
def am_Fk (F : am_F) : Prop := ∀ (j : Nat) (as : List Value) (g : am_W) (r : am_R), F j as g = some r → r.2.length = g.length
theorem am_cI_to {o : Option am_R} {q : Int32 × am_W} (h : am_cI o = some q) : o = some (some (.int q.1), q.2) := by
  unfold am_cI at h
  split at h
  · cases h; rfl
  · cases h
theorem am_cV_to {o : Option am_R} {q : am_W} (h : am_cV o = some q) : o = some (none, q) := by
  unfold am_cV at h
  split at h
  · cases h; rfl
  · cases h
theorem am_kp.call {n : Nat} {F : am_F} (hF : am_Fk F) (j k b pc : Nat) (L : am_L) (st : List Value) (g : am_W) (hg : g.length = n) : am_kp n (fun K => am_call F K j k b pc L st g) := by
  unfold am_call
  refine am_kp.bif (am_kp.bif (am_kp.bind _ (fun q hq => am_kp.go _ _ _ _ ?_)) (am_kp.bind _ (fun q hq => am_kp.go _ _ _ _ ?_))) am_kp.none
  · exact (hF _ _ _ _ (am_cI_to hq)).trans hg
  · exact (hF _ _ _ _ (am_cV_to hq)).trans hg
set_option maxHeartbeats 4000000 in
theorem am_ex_kp {n : Nat} (rz : Bool) {F : am_F} (hF : am_Fk F) (i : am_I) (pc : Nat) (L : am_L) (st : List Value) (g : am_W) (hg : g.length = n) : am_kp n (fun K => am_ex rz F K i pc L st g) := by
  unfold am_ex
  split
  all_goals
    repeat' first
      | exact am_kp.none
      | exact am_kp.go _ _ _ _ hg
      | exact am_kp.go _ _ _ _ ((am_sF_len (by assumption)).trans hg)
      | exact am_kp.go _ _ _ _ ((am_sI_len (by assumption)).trans hg)
      | exact am_kp.go _ _ _ _ ((am_cp_len (by assumption)).trans hg)
      | exact am_kp.fin _ _ hg
      | exact am_kp.call hF _ _ _ _ _ _ _ hg
      | apply am_kp.ite
      | apply am_kp.bif
      | refine am_kp.bind _ (fun _ _ => ?_)
      | refine am_kp.on _ ?_ (fun _ => ?_)
      | refine am_kp.sw _ _ (fun _ => ?_) _
      | split
theorem am_rn_kp {n : Nat} {rz : Bool} {F : am_F} (hF : am_Fk F) {cd : Nat → Option am_I} : ∀ (k pc : Nat) (L : am_L) (st : List Value) (g : am_W) (r : am_R), g.length = n → am_rn rz F cd k pc L st g = some r → r.2.length = n := by
  intro k
  induction k with
  | zero => intro pc L st g r _ h; cases h
  | succ k ih =>
    intro pc L st g r hg h
    unfold am_rn at h
    cases hi : cd pc with
    | none => rw [hi] at h; cases h
    | some i =>
      rw [hi] at h
      exact am_ex_kp rz hF i pc L st g hg _ ih r h
/-! ===== methods by number ===== -/
/-- its name, bytes, how many locals, what it answers, whose it is (12: static), its instructions -/
abbrev am_M : Type := MethodName × ByteArray × Nat × Option FieldType × Nat × (Nat → Option am_I)
def am_isO (g : am_W) (p ci : Nat) : Bool := match g[p]? with
  | some (.inr (c, _)) => c == ci
  | _ => false
def am_rcv (g : am_W) (ci : Nat) (as : List Value) : Bool := match ci with
  | 12 => true
  | ci => (match as with
    | .ref p :: _ => am_isO g p ci
    | _ => false)
noncomputable def am_cal (mt : Nat → Option am_M) : Nat → am_F
  | 0, _, _, _ => none
  | d + 1, j, as, g => match mt j with
    | some M => am_if (as.all (fun v => v.category == 1) && Nat.ble as.length M.2.2.1)
        (am_if (am_rcv g M.2.2.2.2.1 as) (am_run (decide (M.2.2.2.1 = some .boolean)) (am_cal mt d) M.2.2.2.2.2 0 (as.map some ++ List.replicate (M.2.2.1 - as.length) none) [] g) none) none
    | none => none
theorem am_cal_kp (mt : Nat → Option am_M) : ∀ d, am_Fk (am_cal mt d) := by
  intro d
  induction d with
  | zero => intro j as g r h; cases h
  | succ d ih =>
    intro j as g r h
    unfold am_cal at h
    split at h
    · obtain ⟨n, hn⟩ := am_run_to (am_if_some (am_if_some h).2).2
      exact am_rn_kp ih n _ _ _ _ _ rfl hn
    · cases h
/-! ===== what the tables say of an instruction ===== -/
def am_isN : Jvm.Cond → Bool
  | .fieldLinkNest _ _ _ _ _ _ => true
  | .methodLinkNest _ _ _ _ => true
  | _ => false
def am_T : List Jvm.Cond := lw_tbl.filter goodWord
def am_nw (U : State) : Prop := ∀ w ∈ lw_tbl, am_isN w = true → va_Nw w U
def am_in (h : Nat) (w : Jvm.Cond) : Bool := decide (lw_tbl[h]? = some w)
theorem am_in_mem {h : Nat} {w : Jvm.Cond} (hh : am_in h w = true) : w ∈ lw_tbl := List.mem_of_getElem? (of_decide_eq_true hh)
theorem am_in_T {h : Nat} {w : Jvm.Cond} (hh : am_in h w = true) (hg : goodWord w = true) : w ∈ am_T := List.mem_filter.mpr ⟨am_in_mem hh, hg⟩
def am_hint (i : am_I) : Nat := match i.2.2.2.2 with
  | q :: _ => q.2
  | [] => 0
def am_len : Instr → Nat
  | .bipush _ => 2
  | .sipush _ => 3
  | .ldc _ => 2
  | .ldc_w _ => 3
  | .iload _ => 2
  | .aload _ => 2
  | .istore _ => 2
  | .astore _ => 2
  | .iinc _ _ => 3
  | .goto _ => 3
  | .ifCond _ _ => 3
  | .if_icmp _ _ => 3
  | .ifnull _ => 3
  | .ifnonnull _ => 3
  | .getfield _ => 3
  | .putfield _ => 3
  | .invokestatic _ => 3
  | .invokevirtual _ => 3
  | .invokespecial _ => 3
  | .new _ => 3
  | .anewarray _ => 3
  | .newarray _ => 2
  | _ => 1
def am_sww : Instr → Bool
  | .tableswitch _ _ _ _ => true
  | .lookupswitch _ _ => true
  | _ => false
def am_chkD (cc : ByteArray) (pc : Nat) (i : Instr) : Bool := match decode cc pc with
  | .ok (j, ln) => decide (j = i) && (am_sww i || decide (ln = am_len i))
  | .error _ => false
/-- the jumps of a table, from a value on -/
def am_tsw (pc : Nat) : Int → List Int → List (Int × Nat) → Bool
  | _, [], [] => true
  | lo, o :: os, q :: qs => decide (q.1 = lo) && decide ((pc : Int) + o = (q.2 : Int)) && am_tsw pc (lo + 1) os qs
  | _, _, _ => false
def am_lsw (pc : Nat) : List (Int × Int) → List (Int × Nat) → Bool
  | [], [] => true
  | o :: os, q :: qs => decide (q.1 = o.1) && decide ((pc : Int) + o.2 = (q.2 : Int)) && decide (-2147483648 ≤ o.1 ∧ o.1 ≤ 2147483647) && am_lsw pc os qs
  | _, _ => false
def am_fchk (own : String) (k : Nat) (i : am_I) : Bool := match am_cl[i.2.1]? with
  | some (_, T, N) => decide (i.2.2.1 < N) && (am_in (am_hint i) (.fieldLink own k (T i.2.2.1).1 (T i.2.2.1).2.1 (T i.2.2.1).2.2.1) || am_in (am_hint i) (.fieldLinkNest own k (T i.2.2.1).1 (T i.2.2.1).2.1 (T i.2.2.1).2.2.1 "WrittenColumns"))
  | none => false
def am_isObj : Option FieldType → Bool
  | some (.object _) => true
  | _ => false
def am_pchk (i : am_I) : Bool := match am_cl[i.2.1]? with
  | some (_, T, _) => !(T i.2.2.1).2.2.2 && (match i.2.2.2.1 with
    | 0 => decide (parseFieldDescriptor (T i.2.2.1).2.2.1 = some .int)
    | 3 => decide (parseFieldDescriptor (T i.2.2.1).2.2.1 = some .boolean)
    | 2 => am_isObj (parseFieldDescriptor (T i.2.2.1).2.2.1)
    | _ => false)
  | none => false
def am_mchk (own : String) (k : Nat) (i : am_I) (M : am_M) : Bool := (am_in (am_hint i) (.methodLink own k M.1) || am_in (am_hint i) (.methodLinkNest own k M.1 "WrittenColumns")) && decide (M.2.2.2.1.isSome = decide (i.2.2.2.1 = 1))
def am_npar (y : MethodName) : Option Nat := (parseMethodDescriptor y.desc).map (fun d => d.parameters.length)
def am_chk (own : String) (mt : Nat → Option am_M) (pc : Nat) (i : am_I) : Bool := match i.1 with
  | .ldc k => am_in (am_hint i) (.constant own k (Int32.ofNat i.2.1))
  | .ldc_w k => am_in (am_hint i) (.constant own k (Int32.ofNat i.2.1))
  | .goto off => decide ((pc : Int) + off = (i.2.1 : Int))
  | .ifCond _ off => decide ((pc : Int) + off = (i.2.1 : Int))
  | .if_icmp _ off => decide ((pc : Int) + off = (i.2.1 : Int))
  | .ifnull off => decide ((pc : Int) + off = (i.2.1 : Int))
  | .ifnonnull off => decide ((pc : Int) + off = (i.2.1 : Int))
  | .tableswitch d lo hi offs => decide ((pc : Int) + d = (i.2.1 : Int)) && decide (lo + (offs.size : Int) = hi + 1) && decide (-2147483648 ≤ lo ∧ hi ≤ 2147483647) && am_tsw pc lo offs.toList i.2.2.2.2
  | .lookupswitch d ps => decide ((pc : Int) + d = (i.2.1 : Int)) && (ps.toList.zip (ps.toList.drop 1)).all (fun (a, next) => a.1 < next.1) && am_lsw pc ps.toList i.2.2.2.2
  | .getfield k => am_fchk own k i
  | .putfield k => am_fchk own k i && am_pchk i
  | .invokestatic k => if i.2.1 = 999 then am_in (am_hint i) (.methodLink own k arraycopyName) else if i.2.1 = 998 then am_in (am_hint i) (.methodLink own k Lib.Math.max.name) else if i.2.1 = 997 then am_in (am_hint i) (.methodLink own k Lib.Math.min.name) else (match mt i.2.1 with
    | some M => am_mchk own k i M && decide (M.2.2.2.2.1 = 12) && decide (am_npar M.1 = some i.2.2.1)
    | none => false)
  | .invokevirtual k => (match mt i.2.1 with
    | some M => am_mchk own k i M && Nat.blt M.2.2.2.2.1 12 && decide ((am_npar M.1).map (· + 1) = some i.2.2.1)
    | none => false)
  | _ => true
def am_rchk (rt : Option FieldType) : Instr → Bool
  | .ireturn => rt.isSome
  | .return_ => rt.isNone
  | _ => true
/-- what the tables say of a method: hints of its words -/
def am_mth (mt : Nat → Option am_M) (M : am_M) (h : Nat × Nat × Nat × Nat) (tb : List (Nat × am_I)) : Bool :=
  plainName M.1.cls && am_in h.1 (.code M.1 M.2.1 M.2.2.1 M.2.2.2.1) && am_in h.2.1 (.initialized M.1.cls) && decide (M.1.cls ≠ "java/lang/invoke/MethodHandle") && decide (M.1.cls ≠ "java/lang/invoke/VarHandle") && Nat.ble M.2.2.1 30
  && (decide (M.2.2.2.1 = none) || decide (M.2.2.2.1 = some .int) || decide (M.2.2.2.1 = some .boolean))
  && (if M.2.2.2.2.1 = 12 then am_in h.2.2.1 (.static M.1) else (am_in h.2.2.1 (.instanceMethod M.1) && am_in h.2.2.2 (.selects M.1.cls M.1 M.1) && (match am_cl[M.2.2.2.2.1]? with | some (C, _, _) => decide (C = M.1.cls) | none => false)))
  && tb.all (fun q => am_chkD M.2.1 q.1 q.2.1 && am_rchk M.2.2.2.1 q.2.1 && am_chk M.1.cls mt q.1 q.2)
def am_mok (mt : Nat → Option am_M) (M : am_M) : Prop := ∃ (h : Nat × Nat × Nat × Nat) (tb : List (Nat × am_I)), am_mth mt M h tb = true ∧ ∀ (pc : Nat) (i : am_I), M.2.2.2.2.2 pc = some i → (pc, i) ∈ tb
def am_sysP : Prop := (Jvm.Cond.native arraycopyName ∈ am_T ∧ Jvm.Cond.static arraycopyName ∈ am_T ∧ Jvm.Cond.initialized "java/lang/System" ∈ am_T) ∧ Jvm.Cond.initialized "java/lang/Math" ∈ am_T ∧ (Jvm.Cond.static Lib.Math.max.name ∈ am_T ∧ Jvm.Cond.code Lib.Math.max.name Lib.Math.max.code 2 (some .int) ∈ am_T) ∧ Jvm.Cond.static Lib.Math.min.name ∈ am_T ∧ Jvm.Cond.code Lib.Math.min.name Lib.Math.min.code 2 (some .int) ∈ am_T
end
section
/-! ===== the machine does what the abstract machine does ===== -/
theorem am_v_cat (ρ : Nat → Nat) (v : Value) : (am_v ρ v).category = v.category := by cases v <;> rfl
theorem am_v_cats (ρ : Nat → Nat) (st : List Value) : ((st.map (am_v ρ)).map fun v => v.category) = st.map fun v => v.category := by
  rw [List.map_map]
  exact List.map_congr_left (fun v _ => am_v_cat ρ v)
def am_ws (M : am_M) : List Jvm.Cond := .code M.1 M.2.1 M.2.2.1 M.2.2.2.1 :: am_T
def am_rm (d : Nat) : Room := { frames := d + 1, cells := 0, slots := 0, locals := 64 * (d + 1) }
def am_Pc (ρ : Nat → Nat) (cA : Nat → ClassId) (D : va_G) (as : List Value) (g : am_W) : Array Value → State → Prop := va_Pc (as.map (am_v ρ)) (fun U => va_P D am_cl (am_lay ρ cA g) U.heap ∧ va_K D am_cl (am_ty cA) U ∧ am_nw U)
def am_Q (ρ : Nat → Nat) (cA : Nat → ClassId) (D : va_G) (n : Nat) (r : am_R) : Array Value → State → Outcome → State → Prop := fun _ st oc t => oc = .returned (r.1.map (am_v ρ)) ∧ va_P D am_cl (am_lay ρ cA r.2) t.heap ∧ va_F (am_A ρ n) st t
def am_met (l : Launch) (mt : Nat → Option am_M) (d : Nat) : Prop := ∀ (j : Nat) (as : List Value) (g : am_W) (r : am_R) (M : am_M), mt j = some M → am_cal mt d j as g = some r → ∀ (ρ : Nat → Nat) (cA : Nat → ClassId) (D : va_G) (n : Nat), am_inj ρ n → g.length = n → Met l M.1 (am_ws M) (am_rm d) (am_Pc ρ cA D as g) (am_Q ρ cA D n r) 0 0 (am_A ρ n)
theorem am_nw.warm {s U : State} (hW : s.WarmedH U.vm) (h : am_nw s) : am_nw U := by
  intro w hw hn
  have hz := h w hw hn
  cases w <;> first | exact va_Nw.warmF hW hz | exact va_Nw.warmM hW hz | cases hn
theorem am_nw.same {s U : State} (hW : s.vm = U.vm) (h : am_nw s) : am_nw U := by
  intro w hw hn
  have hz := h w hw hn
  cases w <;> first | exact va_Nw.same rfl hW hz | cases hn
theorem am_blind (ρ : Nat → Nat) (cA : Nat → ClassId) (D : va_G) (as : List Value) (g : am_W) : FrameBlind (am_Pc ρ cA D as g) := by
  intro a U fr mk q
  obtain ⟨q0, q1, q2, q3⟩ := q
  exact ⟨q0, q1, va_K.moved (u := U) (U := U.calling fr mk a) (Vm.Alike.refl U.vm) q2, am_nw.same (s := U) (U := U.calling fr mk a) rfl q3⟩
theorem am_good_T (M : am_M) (hM : Jvm.Cond.code M.1 M.2.1 M.2.2.1 M.2.2.2.1 ∈ lw_tbl) (M0 : am_M) : GoodIn (am_ws M0) (am_ws M) := by
  intro w hw
  rcases List.mem_cons.mp hw with rfl | hw
  · exact ⟨List.mem_cons_of_mem _ (List.mem_filter.mpr ⟨hM, rfl⟩), Or.inl rfl⟩
  · exact ⟨List.mem_cons_of_mem _ hw, good_of_word (List.mem_filter.mp hw).2⟩
def am_clOk (q : vw_C) : Prop := (∀ w ∈ u_ws q.1 q.2.1 q.2.2, w ∈ lw_tbl ∧ goodWord w = true) ∧ ∃ ty0 : Nat → FieldType, (∀ k, k < q.2.2 → parseFieldDescriptor (q.2.1 k).2.2.1 = some (ty0 k)) ∧ ∀ a, a < q.2.2 → ∀ b, b < q.2.2 → a ≠ b → (q.2.1 a).2.1 ≠ (q.2.1 b).2.1
set_option maxRecDepth 100000 in
theorem am_clOk0 : am_clOk (RX0, TX0, 5) := ⟨by decide +kernel, tyX0, tyX0_ok, nmX0⟩
set_option maxRecDepth 100000 in
theorem am_clOk1 : am_clOk (RX1, TX1, 5) := ⟨by decide +kernel, tyX1, tyX1_ok, nmX1⟩
set_option maxRecDepth 100000 in
theorem am_clOk2 : am_clOk (RX2, TX2, 2) := ⟨by decide +kernel, tyX2, tyX2_ok, nmX2⟩
set_option maxRecDepth 100000 in
theorem am_clOk3 : am_clOk (RX3, TX3, 3) := ⟨by decide +kernel, tyX3, tyX3_ok, nmX3⟩
set_option maxRecDepth 100000 in
theorem am_clOk4 : am_clOk (RX4, TX4, 3) := ⟨by decide +kernel, tyX4, tyX4_ok, nmX4⟩
set_option maxRecDepth 100000 in
theorem am_clOk5 : am_clOk (RX5, TX5, 7) := ⟨by decide +kernel, tyX5, tyX5_ok, nmX5⟩
set_option maxRecDepth 100000 in
theorem am_clOk6 : am_clOk (RX6, TX6, 1) := ⟨by decide +kernel, tyX6, tyX6_ok, nmX6⟩
set_option maxRecDepth 100000 in
theorem am_clOk7 : am_clOk (RX7, TX7, 3) := ⟨by decide +kernel, tyX7, tyX7_ok, nmX7⟩
set_option maxRecDepth 100000 in
theorem am_clOk8 : am_clOk (RX8, TX8, 2) := ⟨by decide +kernel, tyX8, tyX8_ok, nmX8⟩
set_option maxRecDepth 100000 in
theorem am_clOk9 : am_clOk (RX9, TX9, 12) := ⟨by decide +kernel, tyX9, tyX9_ok, nmX9⟩
set_option maxRecDepth 100000 in
theorem am_clOk10 : am_clOk (RX10, TX10, 12) := ⟨by decide +kernel, tyX10, tyX10_ok, nmX10⟩
set_option maxRecDepth 100000 in
theorem am_clOk11 : am_clOk (RX11, TX11, 23) := ⟨by decide +kernel, tyX11, tyX11_ok, nmX11⟩
theorem am_cl_ok {ci : Nat} {q : vw_C} (h : am_cl[ci]? = some q) : am_clOk q := by
  have hm := List.mem_of_getElem? h
  simp only [am_cl, List.mem_cons, List.not_mem_nil, or_false] at hm
  rcases hm with rfl | rfl | rfl | rfl | rfl | rfl | rfl | rfl | rfl | rfl | rfl | rfl
  · exact am_clOk0
  · exact am_clOk1
  · exact am_clOk2
  · exact am_clOk3
  · exact am_clOk4
  · exact am_clOk5
  · exact am_clOk6
  · exact am_clOk7
  · exact am_clOk8
  · exact am_clOk9
  · exact am_clOk10
  · exact am_clOk11
theorem am_cl_in {ci : Nat} {q : vw_C} (h : am_cl[ci]? = some q) (M : am_M) : ∀ w ∈ u_ws q.1 q.2.1 q.2.2, w ∈ am_ws M := fun w hw => List.mem_cons_of_mem _ (List.mem_filter.mpr ((am_cl_ok h).1 w hw))
/-! what the getters say -/
theorem am_fI_to {g : am_W} {p ci k : Nat} {x : Int32} (h : am_fI g p ci k = some x) : ∃ fs, g[p]? = some (.inr (ci, fs)) ∧ fs[k]? = some (.int x) := by
  unfold am_fI at h
  split at h
  · rename_i c fs hg
    split at h
    · rename_i hc
      subst hc
      refine ⟨fs, hg, ?_⟩
      split at h
      · rename_i y hy
        cases h
        exact hy
      · cases h
    · cases h
  · cases h
theorem am_fR_to {g : am_W} {p ci k : Nat} {x : Nat} (h : am_fR g p ci k = some x) : ∃ fs, g[p]? = some (.inr (ci, fs)) ∧ fs[k]? = some (.ref x) := by
  unfold am_fR at h
  split at h
  · rename_i c fs hg
    split at h
    · rename_i hc
      subst hc
      refine ⟨fs, hg, ?_⟩
      split at h
      · rename_i y hy
        cases h
        exact hy
      · cases h
    · cases h
  · cases h
theorem am_fN_to {g : am_W} {p ci k : Nat} {x : Option Nat} (h : am_fN g p ci k = some x) : ∃ fs, g[p]? = some (.inr (ci, fs)) ∧ fs[k]? = some (va_rf x) := by
  unfold am_fN at h
  split at h
  · rename_i c fs hg
    split at h
    · rename_i hc
      subst hc
      refine ⟨fs, hg, ?_⟩
      split at h
      · rename_i y hy
        cases h
        exact hy
      · rename_i hy
        cases h
        exact hy
      · cases h
    · cases h
  · cases h
theorem am_sF_to {g g' : am_W} {p ci k : Nat} {v : Value} (h : am_sF g p ci k v = some g') : ∃ fs, g[p]? = some (.inr (ci, fs)) ∧ k < fs.length ∧ g' = g.set p (.inr (ci, fs.set k v)) := by
  unfold am_sF at h
  split at h
  · rename_i c fs hg
    split at h
    · rename_i hc
      subst hc
      split at h
      · rename_i hk
        cases h
        exact ⟨fs, hg, hk, rfl⟩
      · cases h
    · cases h
  · cases h
theorem am_aI_to {g : am_W} {p t : Nat} {i x : Int32} (h : am_aI g p t i = some x) : ∃ n f, g[p]? = some (.inl (t, n, .inl f)) ∧ vp_in i n ∧ x = f i.toNatClampNeg := by
  unfold am_aI at h
  split at h
  · rename_i c n f hg
    split at h
    · rename_i hc
      subst hc
      split at h
      · cases h
      · rename_i hi
        cases h
        exact ⟨n, f, hg, hi, rfl⟩
    · cases h
  · cases h
theorem am_aR_to {g : am_W} {p : Nat} {i : Int32} {x : Nat} (h : am_aR g p i = some x) : ∃ t n f, g[p]? = some (.inl (t, n, .inr f)) ∧ (2 ≤ t ∧ t < 6) ∧ vp_in i n ∧ f i.toNatClampNeg = some x := by
  unfold am_aR at h
  split at h
  · rename_i c n f hg
    split at h
    · rename_i hc
      split at h
      · cases h
      · rename_i hi
        exact ⟨c, n, f, hg, hc, hi, h⟩
    · cases h
  · cases h
theorem am_sI_to {g g' : am_W} {p t : Nat} {i x : Int32} (h : am_sI g p t i x = some g') : ∃ n f, g[p]? = some (.inl (t, n, .inl f)) ∧ vp_in i n ∧ g' = g.set p (.inl (t, n, .inl (upd f i.toNatClampNeg x))) := by
  unfold am_sI at h
  split at h
  · rename_i c n f hg
    split at h
    · rename_i hc
      subst hc
      split at h
      · cases h
      · rename_i hi
        cases h
        exact ⟨n, f, hg, hi, rfl⟩
    · cases h
  · cases h
theorem am_ln_to {g : am_W} {p : Nat} {x : Int32} (h : am_ln g p = some x) : ∃ t n f, g[p]? = some (.inl (t, n, .inl f)) ∧ t < 2 ∧ x = Int32.ofNat n := by
  unfold am_ln at h
  split at h
  · rename_i c n f hg
    split at h
    · rename_i hc
      cases h
      exact ⟨c, n, f, hg, hc, rfl⟩
    · cases h
  · cases h
theorem am_cp_to {g g' : am_W} {a0 a : Nat} {sp dp n : Int32} (h : am_cp g a0 sp a dp n = some g') : ∃ n0 n1 f k, g[a0]? = some (.inl (0, n0, .inl f)) ∧ g[a]? = some (.inl (0, n1, .inl k)) ∧ ¬ sp < 0 ∧ ¬ dp < 0 ∧ ¬ n < 0 ∧ sp.toNatClampNeg + n.toNatClampNeg ≤ n0 ∧ dp.toNatClampNeg + n.toNatClampNeg ≤ n1 ∧ g' = g.set a (.inl (0, n1, .inl (va_cpy f k sp.toNatClampNeg dp.toNatClampNeg n.toNatClampNeg))) := by
  unfold am_cp at h
  split at h
  · rename_i u0 n0 f u1 n1 k h0 h1
    split at h
    · rename_i hc
      obtain ⟨⟨e0, e1⟩, c1, c2, c3, c4, c5⟩ := hc
      subst e0
      subst e1
      cases h
      exact ⟨n0, n1, f, k, h0, h1, c1, c2, c3, c4, c5, rfl⟩
    · cases h
  · cases h
end
section
/-! ===== an instruction, a call, a method ===== -/
section AMS
variable {p : Program} {l : Launch} {e : Env} {R : Room} {s : State} {m : MethodId} {args : Array Value} {below : List Frame} {meth : Method} {c : Code} {H : Heap} {locs : List Loc} {cells slots : Nat} {Q : State → Prop}
variable {A : Nat → Prop} {M : am_M} {ρ : Nat → Nat} {cA : Nat → ClassId} {D : va_G} {n pc : Nat} {g : am_W} {ls : Array Slot} {rest : List Value} {mt : Nat → Option am_M}
/-- a place of the walk: the method, its words, the world's sorts -/
def am_cx (p : Program) (s : State) (m : MethodId) (args : Array Value) (meth : Method) (c : Code) (M : am_M) (ρ : Nat → Nat) (cA : Nat → ClassId) (D : va_G) (n : Nat) : Prop :=
  p.tables.exec = Jvm.exec ∧ c.code = M.2.1 ∧ c.maxLocals = M.2.2.1 ∧ s.vm.findClass M.1.cls = some m.cls ∧ (∀ w ∈ am_ws M, w.before args s = true) ∧ va_K D am_cl (am_ty cA) s ∧ am_nw s ∧ meth.locks = false ∧ meth.sig.returnType = M.2.2.2.1 ∧ am_inj ρ n
theorem am_getW (X : am_cx p s m args meth c M ρ cA D n) (hP : va_P D am_cl (am_lay ρ cA g) H) {q ci k idx : Nat} {i : am_I} {fs : List Value} {v : Value} (hi1 : i.2.1 = ci) (hi2 : i.2.2.1 = k) (he : g[q]? = some (.inr (ci, fs))) (hv : fs[k]? = some v) (hc : am_fchk M.1.cls idx i = true) (hd : decode M.2.1 pc = .ok (.getfield idx, 3))
    (kk : W p l e R s m args below meth c H locs cells slots Q (F0 m (pc + 3) ls (am_v ρ v :: rest))) : W p l e R s m args below meth c H locs cells slots Q (F0 m pc ls (.ref (ρ q) :: rest)) := by
  obtain ⟨hx, hb, -, hown, hts, hK, hN, -, -, -⟩ := X
  have he' : (am_lay ρ cA g)[q]? = some (ρ q, .inr (ci, fs.map (am_v ρ))) := am_lay_at he
  have hv' : (fs.map (am_v ρ))[k]? = some (am_v ρ v) := by rw [List.getElem?_map, hv]; rfl
  unfold am_fchk at hc
  rw [hi1, hi2] at hc
  split at hc
  · rename_i C T N hcl
    simp only [Bool.and_eq_true, Bool.or_eq_true, decide_eq_true_eq] at hc
    obtain ⟨hk, hl | hl⟩ := hc
    · exact va_get hx hb hts (am_cl_in hcl M) hown hK hP q he' hcl k hk (hts _ (List.mem_cons_of_mem _ (am_in_T hl rfl))) (fun _ h => h) hv' hd kk
    · exact va_getN hx hb hts (am_cl_in hcl M) hown hK hP q he' hcl k hk (va_Nw.use rfl (hN _ (am_in_mem hl) rfl)) (fun _ h => h) hv' hd kk
  · cases hc
theorem am_putW (X : am_cx p s m args meth c M ρ cA D n) (hP : va_P D am_cl (am_lay ρ cA g) H) (hg : g.length = n) (hA : ∀ q, am_A ρ n q → A q) (hS : va_S A s.heap H locs) {q ci k idx : Nat} {i : am_I} {fs : List Value} {v : Value} {ty : FieldType} (hi1 : i.2.1 = ci) (hi2 : i.2.2.1 = k) (he : g[q]? = some (.inr (ci, fs))) (hl : k < fs.length) (hc : am_fchk M.1.cls idx i = true)
    (hfin : ∀ C T N, am_cl[ci]? = some (C, T, N) → (T k).2.2.2 = false ∧ parseFieldDescriptor (T k).2.2.1 = some ty) (hn : narrow ty (am_v ρ v) = am_v ρ v) (hfit : fits ty (am_v ρ v) = true) (hd : decode M.2.1 pc = .ok (.putfield idx, 3))
    (kk : ∀ (H1 : Heap) (locs1 : List Loc), va_P D am_cl (am_lay ρ cA (g.set q (.inr (ci, fs.set k v)))) H1 → va_S A s.heap H1 locs1 → W p l e R s m args below meth c H1 locs1 cells slots Q (F0 m (pc + 3) ls rest)) : W p l e R s m args below meth c H locs cells slots Q (F0 m pc ls (am_v ρ v :: .ref (ρ q) :: rest)) := by
  obtain ⟨hx, hb, -, hown, hts, hK, hN, -, -, hρ⟩ := X
  have he' : (am_lay ρ cA g)[q]? = some (ρ q, .inr (ci, fs.map (am_v ρ))) := am_lay_at he
  have hD := (am_lay_D (cA := cA) hρ hg).weaken (fun _ _ _ h => hA _ h)
  have hl' : k < (fs.map (am_v ρ)).length := by rw [List.length_map]; exact hl
  have e1 : (am_lay ρ cA g).set q (ρ q, .inr (ci, (fs.map (am_v ρ)).set k (am_v ρ v))) = am_lay ρ cA (g.set q (.inr (ci, fs.set k v))) := by
    rw [← am_lay_set]
    show _ = (am_lay ρ cA g).set q (ρ q, .inr (ci, (fs.set k v).map (am_v ρ)))
    rw [List.map_set]
  unfold am_fchk at hc
  rw [hi1, hi2] at hc
  split at hc
  · rename_i C T N hcl
    obtain ⟨hf, hp⟩ := hfin C T N hcl
    obtain ⟨ty0, hty, hnm⟩ := (am_cl_ok hcl).2
    simp only [Bool.and_eq_true, Bool.or_eq_true, decide_eq_true_eq] at hc
    obtain ⟨hk, hl2 | hl2⟩ := hc
    · exact va_put hx hb hts (am_cl_in hcl M) ty0 hty hnm hown hK hP hD hS q he' hcl k hk (hts _ (List.mem_cons_of_mem _ (am_in_T hl2 rfl))) (fun _ h => h) hf hp hn hfit hl' hd (fun H1 locs1 a1 _ a3 => kk H1 locs1 (e1 ▸ a1) a3)
    · exact va_putN hx hb hts (am_cl_in hcl M) ty0 hty hnm hown hK hP hD hS q he' hcl k hk (va_Nw.use rfl (hN _ (am_in_mem hl2) rfl)) (fun _ h => h) hf hp hn hfit hl' hd (fun H1 locs1 a1 _ a3 => kk H1 locs1 (e1 ▸ a1) a3)
  · cases hc
/-- a call that has run goes on -/
theorem am_goW {frees : Addr → Prop} {st0 : List Value} {r : am_R} {a : Array Value} (hr : va_Run p l e R s m args below meth c H locs cells slots 0 0 (F0 m pc ls st0) rest (am_Q ρ cA D n r a) (am_A ρ n)) (hA : ∀ q, am_A ρ n q → A q) (hS : va_S A s.heap H locs)
    (kk : ∀ (H1 : Heap) (locs1 : List Loc), va_P D am_cl (am_lay ρ cA r.2) H1 → va_S A s.heap H1 locs1 → W p l e R s m args below meth c H1 locs1 cells slots Q (F0 m (pc + 3) ls ((r.1.map (am_v ρ)).toList ++ rest))) : W p l e R s m args below meth c H locs cells slots Q (F0 m pc ls st0) := by
  intro T hT X
  obtain ⟨v, st₀, t, T', L, h0, X', hL, e1, e2, ⟨hv, hp, hz, hk⟩, st⟩ := hr T hT X
  cases hv
  rw [h0] at hz hk
  obtain ⟨t2, a1, b1⟩ := kk T'.heap (locs ++ L) (by rw [e1]; exact hp)
    ⟨Nat.le_trans hS.1 (by rw [e1]; exact hz), fun q h1 h2 => by rw [e1, hk q (Nat.lt_of_lt_of_le h1 hS.1) (fun z => h2 (hA q z))]; exact hS.2.1 q h1 h2, fun q hq => by
      rcases List.mem_append.mp hq with h | h
      · exact hS.2.2 q h
      · exact hA _ (hL q h)⟩ T' rfl X'
  exact ⟨t2, st t2 a1, b1⟩
/-- what a method's check says -/
def am_mfacts (M : am_M) : Prop := plainName M.1.cls = true ∧ Jvm.Cond.code M.1 M.2.1 M.2.2.1 M.2.2.2.1 ∈ lw_tbl ∧ Jvm.Cond.initialized M.1.cls ∈ lw_tbl ∧ (M.1.cls ≠ "java/lang/invoke/MethodHandle" ∧ M.1.cls ≠ "java/lang/invoke/VarHandle") ∧ M.2.2.1 ≤ 30 ∧ (M.2.2.2.1 = none ∨ M.2.2.2.1 = some .int ∨ M.2.2.2.1 = some .boolean) ∧
  (M.2.2.2.2.1 = 12 → Jvm.Cond.static M.1 ∈ lw_tbl) ∧ (M.2.2.2.2.1 ≠ 12 → Jvm.Cond.instanceMethod M.1 ∈ lw_tbl ∧ Jvm.Cond.selects M.1.cls M.1 M.1 ∈ lw_tbl ∧ ∃ T N, am_cl[M.2.2.2.2.1]? = some (M.1.cls, T, N))
theorem am_mok_facts (h : am_mok mt M) : am_mfacts M ∧ ∀ (pc : Nat) (i : am_I), M.2.2.2.2.2 pc = some i → (am_chkD M.2.1 pc i.1 = true ∧ am_rchk M.2.2.2.1 i.1 = true) ∧ am_chk M.1.cls mt pc i = true := by
  obtain ⟨hh, tb, h1, h2⟩ := h
  unfold am_mth at h1
  simp only [Bool.and_eq_true] at h1
  obtain ⟨⟨⟨⟨⟨⟨⟨⟨a1, a2⟩, a3⟩, a4⟩, a5⟩, a6⟩, a7⟩, a8⟩, a9⟩ := h1
  refine ⟨⟨a1, am_in_mem a2, am_in_mem a3, ⟨of_decide_eq_true a4, of_decide_eq_true a5⟩, Nat.le_of_ble_eq_true a6, ?_, fun hs => ?_, fun hs => ?_⟩, fun pc i hi => ?_⟩
  · simp only [Bool.or_eq_true, decide_eq_true_eq] at a7
    rcases a7 with (q | q) | q
    · exact Or.inl q
    · exact Or.inr (Or.inl q)
    · exact Or.inr (Or.inr q)
  · rw [if_pos hs] at a8
    exact am_in_mem a8
  · rw [if_neg hs] at a8
    simp only [Bool.and_eq_true] at a8
    refine ⟨am_in_mem a8.1.1, am_in_mem a8.1.2, ?_⟩
    have q := a8.2
    split at q
    · rename_i C T N hcl
      exact ⟨T, N, by rw [hcl, of_decide_eq_true q]⟩
    · cases q
  · have q := List.all_eq_true.mp a9 _ (h2 pc i hi)
    simpa only [Bool.and_eq_true] using q
theorem am_args_static {as : List Value} {j d : Nat} {r : am_R} {N : am_M} (hN : mt j = some N) (h : am_cal mt (d + 1) j as g = some r) : (∀ v ∈ as, v.category = 1) ∧ as.length ≤ N.2.2.1 ∧ am_rcv g N.2.2.2.2.1 as = true ∧ am_run (decide (N.2.2.2.1 = some .boolean)) (am_cal mt d) N.2.2.2.2.2 0 (as.map some ++ List.replicate (N.2.2.1 - as.length) none) [] g = some r := by
  unfold am_cal at h
  rw [hN] at h
  dsimp only at h
  obtain ⟨h1, h⟩ := am_if_some h
  obtain ⟨h2, h⟩ := am_if_some h
  simp only [Bool.and_eq_true, List.all_eq_true, beq_iff_eq] at h1
  exact ⟨h1.1, Nat.le_of_ble_eq_true h1.2, h2, h⟩
/-- a call of a method that is met -/
theorem am_callW (X : am_cx p s m args meth c M ρ cA D n) {d : Nat} (hR : d + 2 ≤ R.frames ∧ 64 * (d + 2) ≤ R.locals ∧ cells ≤ R.cells ∧ slots ≤ R.slots) (hm : am_met l mt d) (hP : va_P D am_cl (am_lay ρ cA g) H) (hg : g.length = n) (hA : ∀ q, am_A ρ n q → A q) (hS : va_S A s.heap H locs) (hls : ls.size = M.2.2.1) {j : Nat} {N : am_M} (hN : mt j = some N) (hok : am_mfacts N) {as : List Value} {r : am_R} (hr : am_cal mt d j as g = some r)
    {idx : Nat} {i : am_I} (hck : am_mchk M.1.cls idx i N = true) (hst : (rest.map fun v => v.category).sum ≤ 8)
    (hcase : (N.2.2.2.2.1 = 12 ∧ am_npar N.1 = some as.length ∧ decode M.2.1 pc = .ok (.invokestatic idx, 3)) ∨ (N.2.2.2.2.1 ≠ 12 ∧ (am_npar N.1).map (· + 1) = some as.length ∧ decode M.2.1 pc = .ok (.invokevirtual idx, 3)))
    (kk : ∀ (H1 : Heap) (locs1 : List Loc), va_P D am_cl (am_lay ρ cA r.2) H1 → va_S A s.heap H1 locs1 → W p l e R s m args below meth c H1 locs1 cells slots Q (F0 m (pc + 3) ls ((r.1.map (am_v ρ)).toList ++ rest))) : W p l e R s m args below meth c H locs cells slots Q (F0 m pc ls ((as.map (am_v ρ)).reverse ++ rest)) := by
  cases d with
  | zero => cases hr
  | succ d =>
  have hmet := hm j as g r N hN hr ρ cA D n X.2.2.2.2.2.2.2.2.2 hg
  obtain ⟨ha1, ha2, ha3, -⟩ := am_args_static hN hr
  obtain ⟨hx, hb, hml, hown, hts, hK, hNw, -, -, hρ⟩ := X
  obtain ⟨f1, f2, f3, f4, f5, f6, f7, f8⟩ := hok
  have hgT := am_good_T N f2 M
  have hini : (Cond.initialized N.1.cls).before args s = true := hts _ (List.mem_cons_of_mem _ (List.mem_filter.mpr ⟨f3, rfl⟩))
  have hroom : (am_rm (d + 1)).frames + 1 ≤ R.frames ∧ 8 + (N.2.2.1 + 11) + (am_rm (d + 1)).locals ≤ R.locals := by
    obtain ⟨r1, r2, -, -⟩ := hR
    refine ⟨by show d + 1 + 1 + 1 ≤ _; omega, ?_⟩
    show 8 + (N.2.2.1 + 11) + 64 * (d + 1 + 1) ≤ _
    omega
  have hcells : cells + 0 ≤ R.cells ∧ slots + 0 ≤ R.slots := ⟨hR.2.2.1, hR.2.2.2⟩
  have hpre : ∀ U : State, U.heap = H → s.WarmedH U.vm → am_Pc ρ cA D as g (as.map (am_v ρ)).toArray U := fun U hU hW => ⟨rfl, by rw [hU]; exact hP, va_K.moved hW.alike hK, am_nw.warm hW hNw⟩
  unfold am_mchk at hck
  simp only [Bool.and_eq_true, Bool.or_eq_true] at hck
  rcases hcase with ⟨c1, c2, c3⟩ | ⟨c1, c2, c3⟩
  · have hstat : (Cond.static N.1).before args s = true := hts _ (List.mem_cons_of_mem _ (List.mem_filter.mpr ⟨f7 c1, rfl⟩))
    rcases hck.1 with hl | hl
    · have cb := callB_of (R := R) (s := s) (args := args) (Ts := am_ws M) (own := M.1.cls) (index := idx) (y := N.1) (bytes := N.2.1) (maxL := N.2.2.1) (ret := N.2.2.2.1) (ws := am_ws N) (ws' := am_T) (rm := am_rm (d + 1)) (mc := 0) (ms := 0) as.length hts hgT rfl rfl rfl hini (hts _ (List.mem_cons_of_mem _ (am_in_T hl rfl))) ⟨f4.1, f4.2, c2⟩ hroom
      exact am_goW (frees := fun _ => False) (va_runS ⟨hx, hb, hml, hown, hts⟩ hmet ⟨cb, hstat⟩ ⟨am_blind ρ cA D as g, hpre⟩ rfl (by rw [List.length_map]) hls rfl (lv_room hst) c3 hcells) hA hS kk
    · have cb := va_cnB (R := R) (s := s) (args := args) (Ts := am_ws M) (own := M.1.cls) (host := "WrittenColumns") (index := idx) (y := N.1) (bytes := N.2.1) (maxL := N.2.2.1) (ret := N.2.2.2.1) (ws := am_ws N) (ws' := am_T) (rm := am_rm (d + 1)) (mc := 0) (ms := 0) as.length hts hgT rfl rfl rfl (hNw _ (am_in_mem hl) rfl) hini ⟨f4.1, f4.2, c2⟩ hroom
      exact am_goW (frees := fun _ => False) (va_runSN ⟨hx, hb, hml, hown, hts⟩ hmet ⟨cb, hstat, trivial⟩ ⟨am_blind ρ cA D as g, hpre⟩ rfl (by rw [List.length_map]) hls rfl (lv_room hst) c3 hcells) hA hS kk
  · obtain ⟨f81, f82, T, NN, f83⟩ := f8 c1
    have hinst : (Cond.instanceMethod N.1).before args s = true := hts _ (List.mem_cons_of_mem _ (List.mem_filter.mpr ⟨f81, rfl⟩))
    have hsel : (Cond.selects N.1.cls N.1 N.1).before args s = true := hts _ (List.mem_cons_of_mem _ (List.mem_filter.mpr ⟨f82, rfl⟩))
    unfold am_rcv at ha3
    split at ha3
    · exact absurd (by assumption) c1
    · split at ha3
      · rename_i q as'
        unfold am_isO at ha3
        split at ha3
        · rename_i ci fs hq
          have hci : ci = N.2.2.2.2.1 := by simpa using ha3
          subst hci
          have hrecv := va_recv hK hP (q0 := q) f83 (am_lay_at hq)
          have hn' : am_npar N.1 = some (as'.map (am_v ρ)).length := by
            rw [List.length_map]
            cases hz : am_npar N.1 with
            | none => rw [hz] at c2; cases c2
            | some z =>
              rw [hz] at c2
              have := Option.some.inj c2
              simp at this
              rw [this]
          have hstack : (List.map (am_v ρ) (Value.ref q :: as')).reverse ++ rest = (as'.map (am_v ρ)).reverse ++ Value.ref (ρ q) :: rest := by
            simp [am_v]
          rw [hstack]
          rcases hck.1 with hl | hl
          · have cb := callB_of (R := R) (s := s) (args := args) (Ts := am_ws M) (own := M.1.cls) (index := idx) (y := N.1) (bytes := N.2.1) (maxL := N.2.2.1) (ret := N.2.2.2.1) (ws := am_ws N) (ws' := am_T) (rm := am_rm (d + 1)) (mc := 0) (ms := 0) (as'.map (am_v ρ)).length hts hgT rfl rfl rfl hini (hts _ (List.mem_cons_of_mem _ (am_in_T hl rfl))) ⟨f4.1, f4.2, hn'⟩ hroom
            exact am_goW (frees := fun _ => False) (va_runV (C := N.1.cls) ⟨hx, hb, hml, hown, hts⟩ hmet ⟨cb, hinst, hsel⟩ ⟨am_blind ρ cA D _ g, hrecv, hpre⟩ rfl rfl hls rfl (lv_room hst) c3 hcells) hA hS kk
          · have cb := va_cnB (R := R) (s := s) (args := args) (Ts := am_ws M) (own := M.1.cls) (host := "WrittenColumns") (index := idx) (y := N.1) (bytes := N.2.1) (maxL := N.2.2.1) (ret := N.2.2.2.1) (ws := am_ws N) (ws' := am_T) (rm := am_rm (d + 1)) (mc := 0) (ms := 0) (as'.map (am_v ρ)).length hts hgT rfl rfl rfl (hNw _ (am_in_mem hl) rfl) hini ⟨f4.1, f4.2, hn'⟩ hroom
            exact am_goW (frees := fun _ => False) (va_runVN (C := N.1.cls) ⟨hx, hb, hml, hown, hts⟩ hmet ⟨cb, hinst, hsel⟩ ⟨am_blind ρ cA D _ g, hrecv, hpre⟩ rfl rfl hls rfl (lv_room hst) c3 hcells) hA hS kk
        · cases ha3
      · cases ha3
end AMS
end
section
/-! ===== every instruction ===== -/
section AMI
variable {p : Program} {l : Launch} {e : Env} {R : Room} {s : State} {m : MethodId} {args : Array Value} {below : List Frame} {meth : Method} {c : Code}
variable {cc : ByteArray} {pc : Nat} {ls : Array Slot} {rest : List Value} {H : Heap} {locs : List Loc} {cells slots : Nat} {Q : State → Prop}
theorem am_aloadN (hexec : p.tables.exec = Jvm.exec) (hb : c.code = cc) {i : Nat} (hdg : decode cc pc = .ok (.aload i, 2)) (hl : ls[i]? = some (.val .null))
    (k : W p l e R s m args below meth c H locs cells slots Q (F0 m (pc + 2) ls (.null :: rest))) : W p l e R s m args below meth c H locs cells slots Q (F0 m pc ls (rest)) := by
  intro T hT X
  obtain ⟨t, a, b⟩ := k T hT X
  refine ⟨t, ?_, b⟩
  jvm_step X.here [X.here.top, hexec, hb, hdg, hl, Value.isRef]
  exact a
theorem am_aload_nN (hexec : p.tables.exec = Jvm.exec) (hb : c.code = cc) {k : Fin 4} {i : Nat} (hdg : decode cc pc = .ok (.aload_n k, 1)) (hi : (k : Nat) = i) (hl : ls[i]? = some (.val .null))
    (kk : W p l e R s m args below meth c H locs cells slots Q (F0 m (pc + 1) ls (.null :: rest))) : W p l e R s m args below meth c H locs cells slots Q (F0 m pc ls (rest)) := by
  intro T hT X
  subst hi
  obtain ⟨t, a, b⟩ := kk T hT X
  refine ⟨t, ?_, b⟩
  jvm_step X.here [X.here.top, hexec, hb, hdg, hl, Value.isRef]
  exact a
theorem am_astore_nN (hexec : p.tables.exec = Jvm.exec) (hb : c.code = cc) {k : Fin 4} {nL : Nat} {lv : List (Nat × Value)} (hdg : decode cc pc = .ok (.astore_n k, 1)) (h : lv_has ls nL lv) (hn : (k : Nat) < nL)
    (kk : ∀ ls' : Array Slot, lv_has ls' nL (((k : Nat), Value.null) :: lv.filter (fun q => !(q.1 == (k : Nat)) && !(q.1 + 1 == (k : Nat) && q.2.category == 2))) → W p l e R s m args below meth c H locs cells slots Q (F0 m (pc + 1) ls' rest)) : W p l e R s m args below meth c H locs cells slots Q (F0 m pc ls (.null :: rest)) := by
  obtain ⟨ls', e', h'⟩ := lv_store1 (v := .null) h hn rfl
  intro T hT X
  obtain ⟨t, a, b⟩ := kk ls' h' T hT X
  refine ⟨t, ?_, b⟩
  jvm_step X.here [X.here.top, ↓top_set X.here.top, hexec, hb, hdg, e', Value.isRef]
  exact a
theorem am_astoreN (hexec : p.tables.exec = Jvm.exec) (hb : c.code = cc) {k nL : Nat} {lv : List (Nat × Value)} (hdg : decode cc pc = .ok (.astore k, 2)) (h : lv_has ls nL lv) (hn : k < nL)
    (kk : ∀ ls' : Array Slot, lv_has ls' nL ((k, Value.null) :: lv.filter (fun q => !(q.1 == k) && !(q.1 + 1 == k && q.2.category == 2))) → W p l e R s m args below meth c H locs cells slots Q (F0 m (pc + 2) ls' rest)) : W p l e R s m args below meth c H locs cells slots Q (F0 m pc ls (.null :: rest)) := by
  obtain ⟨ls', e', h'⟩ := lv_store1 (v := .null) h hn rfl
  intro T hT X
  obtain ⟨t, a, b⟩ := kk ls' h' T hT X
  refine ⟨t, ?_, b⟩
  jvm_step X.here [X.here.top, ↓top_set X.here.top, hexec, hb, hdg, e', Value.isRef]
  exact a
end AMI
end
section
theorem am_sw_tab {pc : Nat} {x : Int32} {k : Nat → Option am_R} {d : Nat} {r : am_R} : ∀ (offs : List Int) (tl : List (Int × Nat)) (lo : Int), am_tsw pc lo offs tl = true → -2147483648 ≤ lo → lo + offs.length ≤ 2147483648 → am_sw x d k tl = some r →
    (∃ (j : Nat) (o : Int) (t : Nat), x.toInt = lo + j ∧ offs[j]? = some o ∧ (pc : Int) + o = (t : Int) ∧ k t = some r) ∨ ((x.toInt < lo ∨ lo + offs.length ≤ x.toInt) ∧ k d = some r)
  | [], [], lo, _, _, _, h => Or.inr ⟨by simp; omega, h⟩
  | [], _ :: _, _, h, _, _, _ => by cases h
  | _ :: _, [], _, h, _, _, _ => by cases h
  | o :: os, q :: qs, lo, h, h1, h2, hs => by
    simp only [am_tsw, Bool.and_eq_true, decide_eq_true_eq] at h
    obtain ⟨⟨e1, e2⟩, e3⟩ := h
    rw [List.length_cons] at h2
    have hlo : (Int32.ofInt q.1).toInt = lo := by
      rw [e1]
      exact Int32.toInt_ofInt_of_le (by simpa using h1) (by simpa using (show lo < 2147483648 by omega))
    unfold am_sw at hs
    by_cases hx : x = Int32.ofInt q.1
    · rw [if_pos hx] at hs
      exact Or.inl ⟨0, o, q.2, by rw [hx, hlo]; simp, rfl, e2, hs⟩
    · rw [if_neg hx] at hs
      have hne : x.toInt ≠ lo := fun hh => hx (Int32.toInt_inj.mp (hh.trans hlo.symm))
      rcases am_sw_tab os qs (lo + 1) e3 (by omega) (by omega) hs with ⟨j, o', t, a1, a2, a3, a4⟩ | ⟨a1, a2⟩
      · exact Or.inl ⟨j + 1, o', t, by rw [a1]; omega, a2, a3, a4⟩
      · refine Or.inr ⟨?_, a2⟩
        rw [List.length_cons]
        omega
theorem am_sw_look {pc : Nat} {x : Int32} {k : Nat → Option am_R} {d : Nat} {dd : Int} {r : am_R} (hd : (pc : Int) + dd = (d : Int)) : ∀ (ps : List (Int × Int)) (tl : List (Int × Nat)), am_lsw pc ps tl = true → am_sw x d k tl = some r →
    ∃ t : Nat, (pc : Int) + Op.lookupswitch.offset ps dd x.toInt = (t : Int) ∧ k t = some r
  | [], [], _, h => ⟨d, hd, h⟩
  | [], _ :: _, h, _ => by cases h
  | _ :: _, [], h, _ => by cases h
  | o :: os, q :: qs, h, hs => by
    simp only [am_lsw, Bool.and_eq_true, decide_eq_true_eq] at h
    obtain ⟨⟨⟨e1, e2⟩, e4⟩, e3⟩ := h
    have hlo : (Int32.ofInt q.1).toInt = o.1 := by
      rw [e1]
      exact Int32.toInt_ofInt_of_le (by simpa using e4.1) (by simpa using (show o.1 < 2147483648 by omega))
    obtain ⟨o1, o2⟩ := o
    rw [Op.lookupswitch.offset_cons]
    unfold am_sw at hs
    by_cases hx : x = Int32.ofInt q.1
    · rw [if_pos hx] at hs
      rw [if_pos (by rw [hx, hlo])]
      exact ⟨q.2, e2, hs⟩
    · rw [if_neg hx] at hs
      have hne : ¬ o1 = x.toInt := fun hh => hx (Int32.toInt_inj.mp (hh.symm.trans hlo.symm))
      rw [if_neg hne]
      exact am_sw_look hd os qs e3 hs
end
section
/-! ===== a walk over any code that is checked ===== -/
section AMX
variable {p : Program} {l : Launch} {e : Env} {R : Room} {s : State} {m : MethodId} {args : Array Value} {below : List Frame} {meth : Method} {c : Code}
variable {A : Nat → Prop} {cells slots : Nat} {Qr : am_R → State → Prop} {M : am_M} {ρ : Nat → Nat} {cA : Nat → ClassId} {D : va_G} {n : Nat} {mt : Nat → Option am_M}
def am_good (p : Program) (l : Launch) (e : Env) (R : Room) (s : State) (m : MethodId) (args : Array Value) (below : List Frame) (meth : Method) (c : Code) (M : am_M) (ρ : Nat → Nat) (cA : Nat → ClassId) (D : va_G) (n : Nat) (A : Nat → Prop) (cells slots : Nat) (Qr : am_R → State → Prop) (K : am_K) : Prop :=
  ∀ (pc : Nat) (L : am_L) (st : List Value) (g : am_W) (r : am_R), K pc L st g = some r → g.length = n → ∀ (H : Heap) (locs : List Loc) (ls : Array Slot), va_P D am_cl (am_lay ρ cA g) H → va_S A s.heap H locs → am_lh ρ ls M.2.2.1 L → W p l e R s m args below meth c H locs cells slots (Qr r) (F0 m pc ls (st.map (am_v ρ)))
/-- how a method's ends are met -/
def am_endI (p : Program) (l : Launch) (e : Env) (R : Room) (s : State) (m : MethodId) (args : Array Value) (below : List Frame) (meth : Method) (c : Code) (M : am_M) (ρ : Nat → Nat) (cA : Nat → ClassId) (D : va_G) (n : Nat) (A : Nat → Prop) (cells slots : Nat) (Qr : am_R → State → Prop) (pc : Nat) : Prop :=
  ∀ (x : Int32) (g : am_W), g.length = n → ∀ (H : Heap) (locs : List Loc) (ls : Array Slot), va_P D am_cl (am_lay ρ cA g) H → va_S A s.heap H locs → (M.2.2.2.1 = some .int ∨ (M.2.2.2.1 = some .boolean ∧ (x = 0 ∨ x = 1))) → decode M.2.1 pc = .ok (.ireturn, 1) → W p l e R s m args below meth c H locs cells slots (Qr (some (.int x), g)) (F0 m pc ls [.int x])
def am_endV (p : Program) (l : Launch) (e : Env) (R : Room) (s : State) (m : MethodId) (args : Array Value) (below : List Frame) (meth : Method) (c : Code) (M : am_M) (ρ : Nat → Nat) (cA : Nat → ClassId) (D : va_G) (n : Nat) (A : Nat → Prop) (cells slots : Nat) (Qr : am_R → State → Prop) (pc : Nat) : Prop :=
  ∀ (g : am_W), g.length = n → ∀ (H : Heap) (locs : List Loc) (ls : Array Slot), va_P D am_cl (am_lay ρ cA g) H → va_S A s.heap H locs → M.2.2.2.1 = none → decode M.2.1 pc = .ok (.return_, 1) → W p l e R s m args below meth c H locs cells slots (Qr (none, g)) (F0 m pc ls [])
theorem am_b01 {x : Int32} (h : x = 0 ∨ x = 1) : narrow .boolean (.int x) = .int x := by rcases h with rfl | rfl <;> rfl
theorem am_tyo {cA : Nat → ClassId} {t : Nat} (h : 2 ≤ t ∧ t < 6) : ∃ C, (am_ty cA)[t]? = some (cA t, .object C) := by
  obtain ⟨h1, h2⟩ := h
  rcases (show t = 2 ∨ t = 3 ∨ t = 4 ∨ t = 5 by omega) with rfl | rfl | rfl | rfl
  · exact ⟨_, rfl⟩
  · exact ⟨_, rfl⟩
  · exact ⟨_, rfl⟩
  · exact ⟨_, rfl⟩
theorem am_ty2 {cA : Nat → ClassId} {t : Nat} (h : t < 2) : ∃ ty, (am_ty cA)[t]? = some (cA t, ty) := by
  rcases (show t = 0 ∨ t = 1 by omega) with rfl | rfl
  · exact ⟨_, rfl⟩
  · exact ⟨_, rfl⟩
set_option maxHeartbeats 4000000 in
/-- calls -/
theorem am_sim_call (X : am_cx p s m args meth c M ρ cA D n) {d : Nat} (hR : d + 2 ≤ R.frames ∧ 64 * (d + 2) ≤ R.locals ∧ cells ≤ R.cells ∧ slots ≤ R.slots) (hA : ∀ q, am_A ρ n q → A q) (hm : am_met l mt d) (hmt : ∀ j N, mt j = some N → am_mfacts N) {K : am_K} (hK : am_good p l e R s m args below meth c M ρ cA D n A cells slots Qr K)
    {j k b pc : Nat} {L : am_L} {st : List Value} {g : am_W} {r : am_R} (h : am_call (am_cal mt d) K j k b pc L st g = some r) {idx : Nat} {i : am_I} {N : am_M} (hN : mt j = some N) (hck : am_mchk M.1.cls idx i N = true) (hb1 : i.2.2.2.1 = b)
    (hcase : (N.2.2.2.2.1 = 12 ∧ am_npar N.1 = some k ∧ decode M.2.1 pc = .ok (.invokestatic idx, 3)) ∨ (N.2.2.2.2.1 ≠ 12 ∧ (am_npar N.1).map (· + 1) = some k ∧ decode M.2.1 pc = .ok (.invokevirtual idx, 3)))
    (hg : g.length = n) {H : Heap} {locs : List Loc} {ls : Array Slot} (hP : va_P D am_cl (am_lay ρ cA g) H) (hS : va_S A s.heap H locs) (hl : am_lh ρ ls M.2.2.1 L) : W p l e R s m args below meth c H locs cells slots (Qr r) (F0 m pc ls (st.map (am_v ρ))) := by
  unfold am_call at h
  obtain ⟨hc, h⟩ := am_if_some h
  simp only [Bool.and_eq_true] at hc
  have hk := Nat.le_of_ble_eq_true hc.1
  have hroom := Nat.le_of_ble_eq_true hc.2
  have hst : st.map (am_v ρ) = (((st.take k).reverse).map (am_v ρ)).reverse ++ (st.drop k).map (am_v ρ) := by
    rw [← List.map_reverse, List.reverse_reverse, ← List.map_append, List.take_append_drop]
  have hlen : ((st.take k).reverse).length = k := by rw [List.length_reverse, List.length_take]; omega
  rw [hst]
  rw [← hlen] at hcase
  have hroom' : (((st.drop k).map (am_v ρ)).map fun v => v.category).sum ≤ 8 := by rw [am_v_cats]; exact hroom
  cases hb2 : Nat.beq b 1 with
  | true =>
    rw [hb2] at h
    obtain ⟨q, hq, h2⟩ := Option.bind_eq_some_iff.mp h
    have hq' := am_cI_to hq
    exact am_callW X hR hm hP hg hA hS hl.1 hN (hmt j N hN) hq' hck hroom' hcase (fun H1 locs1 a1 a2 => hK _ _ _ _ _ h2 ((am_cal_kp mt d _ _ _ _ hq').trans hg) _ _ _ a1 a2 hl)
  | false =>
    rw [hb2] at h
    obtain ⟨q, hq, h2⟩ := Option.bind_eq_some_iff.mp h
    have hq' := am_cV_to hq
    exact am_callW X hR hm hP hg hA hS hl.1 hN (hmt j N hN) hq' hck hroom' hcase (fun H1 locs1 a1 a2 => hK _ _ _ _ _ h2 ((am_cal_kp mt d _ _ _ _ hq').trans hg) _ _ _ a1 a2 hl)
set_option maxHeartbeats 16000000 in
theorem am_sim_ex (X : am_cx p s m args meth c M ρ cA D n) {d : Nat} (hR : d + 2 ≤ R.frames ∧ 64 * (d + 2) ≤ R.locals ∧ cells ≤ R.cells ∧ slots ≤ R.slots) (hA : ∀ q, am_A ρ n q → A q) (hm : am_met l mt d) (hmt : ∀ j N, mt j = some N → am_mfacts N) {K : am_K} (hK : am_good p l e R s m args below meth c M ρ cA D n A cells slots Qr K)
    {pc : Nat} {L : am_L} {st : List Value} {g : am_W} {r : am_R} {i : am_I} (h : am_ex (decide (M.2.2.2.1 = some .boolean)) (am_cal mt d) K i pc L st g = some r) (hck0 : am_chkD M.2.1 pc i.1 = true) (hrc : am_rchk M.2.2.2.1 i.1 = true) (hck : am_chk M.1.cls mt pc i = true) (hret : M.2.2.2.1 = none ∨ M.2.2.2.1 = some .int ∨ M.2.2.2.1 = some .boolean) (hsys : am_sysP) (hEI : am_endI p l e R s m args below meth c M ρ cA D n A cells slots Qr pc) (hEV : am_endV p l e R s m args below meth c M ρ cA D n A cells slots Qr pc)
    (hg : g.length = n) {H : Heap} {locs : List Loc} {ls : Array Slot} (hP : va_P D am_cl (am_lay ρ cA g) H) (hS : va_S A s.heap H locs) (hl : am_lh ρ ls M.2.2.1 L) : W p l e R s m args below meth c H locs cells slots (Qr r) (F0 m pc ls (st.map (am_v ρ))) := by
  have hD0 : ∃ ln, decode M.2.1 pc = .ok (i.1, ln) ∧ (am_sww i.1 = false → ln = am_len i.1) := by
    unfold am_chkD at hck0
    split at hck0
    · rename_i jj ln hdec
      simp only [Bool.and_eq_true, Bool.or_eq_true, decide_eq_true_eq] at hck0
      refine ⟨ln, by rw [hdec, hck0.1], fun hs => ?_⟩
      rcases hck0.2 with q | q
      · rw [q] at hs; cases hs
      · exact q
    · cases hck0
  have hd : am_sww i.1 = false → decode M.2.1 pc = .ok (i.1, am_len i.1) := fun hs => by
    obtain ⟨ln, q1, q2⟩ := hD0
    rw [q1, q2 hs]
  have X0 := X
  obtain ⟨hx, hb, hml, hown, hts, hKK, hNw, hlk, hr, hρ⟩ := X
  have hDD := (am_lay_D (cA := cA) hρ hg).weaken (fun _ _ _ h => hA _ h)
  have hsz : ls.size = M.2.2.1 := hl.1
  have go : ∀ {pc' : Nat} {st' : List Value}, K pc' L st' g = some r → W p l e R s m args below meth c H locs cells slots (Qr r) (F0 m pc' ls (st'.map (am_v ρ))) := fun h' => hK _ _ _ _ _ h' hg _ _ _ hP hS hl
  have gos : ∀ {pc' : Nat} {st' : List Value} {k : Nat} {v : Value} {ls' : Array Slot}, K pc' (L.set k (some v)) st' g = some r → (am_v ρ v).category = 1 → lv_has ls' M.2.2.1 ((k, am_v ρ v) :: (am_lv ρ L).filter (fun q => !(q.1 == k) && !(q.1 + 1 == k && q.2.category == 2))) → W p l e R s m args below meth c H locs cells slots (Qr r) (F0 m pc' ls' (st'.map (am_v ρ))) := fun h' hv h'' => hK _ _ _ _ _ h' hg _ _ _ hP hS (hl.set hv h'')
  have gow : ∀ {pc' : Nat} {st' : List Value} {g' : am_W} {H1 : Heap} {locs1 : List Loc}, K pc' L st' g' = some r → g'.length = g.length → va_P D am_cl (am_lay ρ cA g') H1 → va_S A s.heap H1 locs1 → W p l e R s m args below meth c H1 locs1 cells slots (Qr r) (F0 m pc' ls (st'.map (am_v ρ))) := fun h' hlen a1 a2 => hK _ _ _ _ _ h' (hlen.trans hg) _ _ _ a1 a2 hl
  have hw : ∀ w ∈ am_T, w.before args s = true := fun w hw => hts w (List.mem_cons_of_mem _ hw)
  have hfr : 1 ≤ R.frames ∧ 8 + 64 ≤ R.locals := ⟨by omega, by omega⟩
  obtain ⟨harr, hmath, hmax, hmin⟩ := hsys
  obtain ⟨ins, a, b, kd, tl⟩ := i
  cases ins with
  | iconst k => exact lv_iconst hx hb (hd rfl) rfl (go h)
  | bipush k => exact lv_bipush hx hb (hd rfl) rfl (go h)
  | sipush k => exact lv_sipush hx hb (hd rfl) rfl (go h)
  | ldc k => exact lv_ldc hx hb hown (hts _ (List.mem_cons_of_mem _ (am_in_T hck rfl))) (hd rfl) (go h)
  | ldc_w k => exact lv_ldcw hx hb hown (hts _ (List.mem_cons_of_mem _ (am_in_T hck rfl))) (hd rfl) (go h)
  | aconst_null => exact lv_null hx hb (hd rfl) (go h)
  | iload_n k =>
    dsimp only [am_ex] at h
    split at h
    · rename_i x hv
      exact lv_iload_n hx hb (hd rfl) rfl (hl.at hv) (go h)
    · cases h
  | iload k =>
    dsimp only [am_ex] at h
    split at h
    · rename_i x hv
      exact lv_iload hx hb (hd rfl) (hl.at hv) (go h)
    · cases h
  | aload_n k =>
    dsimp only [am_ex] at h
    split at h
    · rename_i x hv
      exact lv_aload_n hx hb (hd rfl) rfl (hl.at hv) (go h)
    · rename_i hv
      exact am_aload_nN hx hb (hd rfl) rfl (hl.at hv) (go h)
    · cases h
  | aload k =>
    dsimp only [am_ex] at h
    split at h
    · rename_i x hv
      exact lv_aload hx hb (hd rfl) (hl.at hv) (go h)
    · rename_i hv
      exact am_aloadN hx hb (hd rfl) (hl.at hv) (go h)
    · cases h
  | istore_n k =>
    dsimp only [am_ex] at h
    split at h
    · obtain ⟨hk, h⟩ := am_if_some h
      exact lv_istore_n hx hb (hd rfl) rfl hl.has (by rw [← hl.2.1]; exact Nat.le_of_ble_eq_true hk) rfl (fun ls' h' => gos h rfl h')
    · cases h
  | istore k =>
    dsimp only [am_ex] at h
    split at h
    · obtain ⟨hk, h⟩ := am_if_some h
      exact lv_istore hx hb (hd rfl) hl.has (by rw [← hl.2.1]; exact Nat.le_of_ble_eq_true hk) rfl (fun ls' h' => gos h rfl h')
    · cases h
  | astore_n k =>
    dsimp only [am_ex] at h
    split at h
    · obtain ⟨hk, h⟩ := am_if_some h
      exact lv_astore_n hx hb (hd rfl) rfl hl.has (by rw [← hl.2.1]; exact Nat.le_of_ble_eq_true hk) rfl (fun ls' h' => gos (v := .ref _) h rfl h')
    · obtain ⟨hk, h⟩ := am_if_some h
      exact am_astore_nN hx hb (hd rfl) hl.has (by rw [← hl.2.1]; exact Nat.le_of_ble_eq_true hk) (fun ls' h' => gos (v := .null) h rfl h')
    · cases h
  | astore k =>
    dsimp only [am_ex] at h
    split at h
    · obtain ⟨hk, h⟩ := am_if_some h
      exact lv_astore hx hb (hd rfl) hl.has (by rw [← hl.2.1]; exact Nat.le_of_ble_eq_true hk) rfl (fun ls' h' => gos (v := .ref _) h rfl h')
    · obtain ⟨hk, h⟩ := am_if_some h
      exact am_astoreN hx hb (hd rfl) hl.has (by rw [← hl.2.1]; exact Nat.le_of_ble_eq_true hk) (fun ls' h' => gos (v := .null) h rfl h')
    · cases h
  | iinc k z =>
    dsimp only [am_ex] at h
    split at h
    · rename_i x hv
      obtain ⟨hk, h⟩ := am_if_some h
      obtain ⟨q, hq⟩ := am_lv_ld (ρ := ρ) hv
      exact lv_iinc hx hb (hd rfl) hl.has hq rfl (by rw [← hl.2.1]; exact Nat.le_of_ble_eq_true hk) rfl (fun ls' h' => gos (v := .int _) h rfl h')
    · cases h
  | iadd =>
    dsimp only [am_ex] at h
    split at h
    · exact lv_iadd hx hb (hd rfl) (go h)
    · cases h
  | isub =>
    dsimp only [am_ex] at h
    split at h
    · exact lv_isub hx hb (hd rfl) (go h)
    · cases h
  | imul =>
    dsimp only [am_ex] at h
    split at h
    · exact lv_imul hx hb (hd rfl) (go h)
    · cases h
  | idiv =>
    dsimp only [am_ex] at h
    split at h
    · split at h
      · cases h
      · rename_i hne
        exact lv_idiv hx hb (hd rfl) hne (go h)
    · cases h
  | irem =>
    dsimp only [am_ex] at h
    split at h
    · split at h
      · cases h
      · rename_i hne
        exact lv_irem hx hb (hd rfl) hne (go h)
    · cases h
  | iand =>
    dsimp only [am_ex] at h
    split at h
    · exact lv_iand hx hb (hd rfl) (go h)
    · cases h
  | ior =>
    dsimp only [am_ex] at h
    split at h
    · exact lv_ior hx hb (hd rfl) (go h)
    · cases h
  | ixor =>
    dsimp only [am_ex] at h
    split at h
    · exact lv_ixor hx hb (hd rfl) (go h)
    · cases h
  | ishl =>
    dsimp only [am_ex] at h
    split at h
    · exact lv_ishl hx hb (hd rfl) (go h)
    · cases h
  | ishr =>
    dsimp only [am_ex] at h
    split at h
    · exact lv_ishr hx hb (hd rfl) (go h)
    · cases h
  | iushr =>
    dsimp only [am_ex] at h
    split at h
    · exact lv_iushr hx hb (hd rfl) rfl (go h)
    · cases h
  | i2b =>
    dsimp only [am_ex] at h
    split at h
    · exact lv_i2b hx hb (hd rfl) rfl (go h)
    · cases h
  | dup =>
    dsimp only [am_ex] at h
    split at h
    · exact lv_dup (va := .int _) hx hb (hd rfl) rfl (go h)
    · exact lv_dup (va := .ref _) hx hb (hd rfl) rfl (go h)
    · cases h
  | dup2 =>
    dsimp only [am_ex] at h
    split at h
    · exact lv_dup2_11 (va := .int _) (vb := .ref _) hx hb (hd rfl) rfl rfl (go h)
    · cases h
  | goto off => exact lv_goto hx hb (hd rfl) (of_decide_eq_true hck) (go h)
  | ifCond cd off =>
    have ht : (pc : Int) + off = (a : Int) := of_decide_eq_true hck
    dsimp only [am_ex] at h
    split at h
    · split at h
      · exact lv_if_eq hx hb (hd rfl) ht (fun q => go (by rw [if_pos q] at h; exact h)) (fun q => go (by rw [if_neg q] at h; exact h))
      · exact lv_if_ne hx hb (hd rfl) ht (fun q => go (by rw [if_neg q] at h; exact h)) (fun q => go (by rw [if_pos q] at h; exact h))
      · exact lv_if_lt hx hb (hd rfl) ht (fun q => go (by rw [if_pos q] at h; exact h)) (fun q => go (by rw [if_neg q] at h; exact h))
      · exact lv_if_ge hx hb (hd rfl) ht (fun q => go (by rw [if_pos q] at h; exact h)) (fun q => go (by rw [if_neg q] at h; exact h))
      · exact lv_if_gt hx hb (hd rfl) ht (fun q => go (by rw [if_pos q] at h; exact h)) (fun q => go (by rw [if_neg q] at h; exact h))
      · exact lv_if_le hx hb (hd rfl) ht (fun q => go (by rw [if_pos q] at h; exact h)) (fun q => go (by rw [if_neg q] at h; exact h))
    · cases h
  | if_icmp cd off =>
    have ht : (pc : Int) + off = (a : Int) := of_decide_eq_true hck
    dsimp only [am_ex] at h
    split at h
    · split at h
      · exact lv_icmp_eq hx hb (hd rfl) ht (fun q => go (by rw [if_pos q] at h; exact h)) (fun q => go (by rw [if_neg q] at h; exact h))
      · exact lv_icmp_ne hx hb (hd rfl) ht (fun q => go (by rw [if_neg q] at h; exact h)) (fun q => go (by rw [if_pos q] at h; exact h))
      · exact lv_icmp_lt hx hb (hd rfl) ht (fun q => go (by rw [if_pos q] at h; exact h)) (fun q => go (by rw [if_neg q] at h; exact h))
      · exact lv_icmp_ge hx hb (hd rfl) ht (fun q => go (by rw [if_pos q] at h; exact h)) (fun q => go (by rw [if_neg q] at h; exact h))
      · exact lv_icmp_gt hx hb (hd rfl) ht (fun q => go (by rw [if_pos q] at h; exact h)) (fun q => go (by rw [if_neg q] at h; exact h))
      · exact lv_icmp_le hx hb (hd rfl) ht (fun q => go (by rw [if_pos q] at h; exact h)) (fun q => go (by rw [if_neg q] at h; exact h))
    · cases h
  | ifnull off =>
    dsimp only [am_ex] at h
    split at h
    · exact lv_ifnull hx hb (hd rfl) (go h)
    · exact lv_ifnullN hx hb (hd rfl) (of_decide_eq_true hck) (go h)
    · cases h
  | ifnonnull off =>
    dsimp only [am_ex] at h
    split at h
    · exact lv_ifnonnull hx hb (hd rfl) (of_decide_eq_true hck) (go h)
    · exact lv_ifnonnullN hx hb (hd rfl) (go h)
    · cases h
  | tableswitch df lo hi offs =>
    simp only [am_chk, Bool.and_eq_true, decide_eq_true_eq] at hck
    obtain ⟨⟨⟨k1, k2⟩, k3⟩, k4⟩ := hck
    obtain ⟨ln, hdl, -⟩ := hD0
    dsimp only [am_ex] at h
    split at h
    · rename_i x r'
      have hlen : (offs.toList.length : Int) = offs.size := by rw [Array.length_toList]
      rcases am_sw_tab offs.toList tl lo k4 k3.1 (by rw [hlen]; omega) h with ⟨j, o, t, b1, b2, b3, b4⟩ | ⟨b1, b2⟩
      · have hj : j < offs.size := by
          have := (List.getElem?_eq_some_iff.mp b2).1
          rwa [Array.length_toList] at this
        refine lv_tableIn hx hb hdl (by rw [b1]; omega) (by rw [b1]; omega) (off := o) ?_ b3 (go b4)
        rw [b1, show (lo + (j : Int) - lo).toNat = j by omega, ← Array.getElem?_toList]
        exact b2
      · refine lv_tableOut hx hb hdl ?_ k1 (go b2)
        rw [hlen] at b1
        omega
    · cases h
  | lookupswitch df ps =>
    simp only [am_chk, Bool.and_eq_true, decide_eq_true_eq] at hck
    obtain ⟨⟨k1, k2⟩, k3⟩ := hck
    obtain ⟨ln, hdl, -⟩ := hD0
    dsimp only [am_ex] at h
    split at h
    · rename_i x r'
      obtain ⟨t, b1, b2⟩ := am_sw_look k1 ps.toList tl k3 h
      exact lv_lookup hx hb hdl k2 rfl b1 (go b2)
    · cases h
  | getfield k =>
    dsimp only [am_ex] at h
    split at h
    · split at h
      · obtain ⟨x, hx1, h2⟩ := Option.bind_eq_some_iff.mp h
        obtain ⟨fs, e1, e2⟩ := am_fI_to hx1
        exact am_getW X0 hP rfl rfl e1 e2 hck (hd rfl) (go h2)
      · obtain ⟨x, hx1, h2⟩ := Option.bind_eq_some_iff.mp h
        obtain ⟨fs, e1, e2⟩ := am_fR_to hx1
        exact am_getW X0 hP rfl rfl e1 e2 hck (hd rfl) (go h2)
      · obtain ⟨x, hx1, h2⟩ := Option.bind_eq_some_iff.mp h
        obtain ⟨fs, e1, e2⟩ := am_fN_to hx1
        cases x with
        | none => exact am_getW (v := .null) X0 hP rfl rfl e1 e2 hck (hd rfl) (go h2)
        | some q => exact am_getW (v := .ref q) X0 hP rfl rfl e1 e2 hck (hd rfl) (go h2)
    · cases h
  | putfield k =>
    simp only [am_chk, Bool.and_eq_true] at hck
    obtain ⟨hc1, hc2⟩ := hck
    dsimp only [am_ex] at h
    split at h
    · cases hk0 : Nat.beq kd 0 with
      | true =>
        have hkd : kd = 0 := Nat.eq_of_beq_eq_true hk0
        rw [hk0] at h
        obtain ⟨g', hx1, h2⟩ := Option.bind_eq_some_iff.mp h
        have hlen := am_sF_len hx1
        obtain ⟨fs, e1, e2, e3⟩ := am_sF_to hx1
        subst e3
        refine am_putW (v := .int _) (ty := .int) X0 hP hg hA hS rfl rfl e1 e2 hc1 (fun C T N hcl => ?_) rfl rfl (hd rfl) (fun H1 locs1 a1 a2 => gow h2 hlen a1 a2)
        unfold am_pchk at hc2
        dsimp only at hc2
        rw [hcl, hkd] at hc2
        simp only [Bool.and_eq_true, Bool.not_eq_true', decide_eq_true_eq] at hc2
        exact hc2
      | false =>
        rw [hk0] at h
        obtain ⟨hk3, h⟩ := am_if_some (x := _) (show am_if (Nat.beq kd 3) _ none = some r from h)
        have hkd : kd = 3 := Nat.eq_of_beq_eq_true hk3
        split at h
        · rename_i h01
          obtain ⟨g', hx1, h2⟩ := Option.bind_eq_some_iff.mp h
          have hlen := am_sF_len hx1
          obtain ⟨fs, e1, e2, e3⟩ := am_sF_to hx1
          subst e3
          refine am_putW (v := .int _) (ty := .boolean) X0 hP hg hA hS rfl rfl e1 e2 hc1 (fun C T N hcl => ?_) (am_b01 h01) (by rcases h01 with rfl | rfl <;> rfl) (hd rfl) (fun H1 locs1 a1 a2 => gow h2 hlen a1 a2)
          unfold am_pchk at hc2
          dsimp only at hc2
          rw [hcl, hkd] at hc2
          simp only [Bool.and_eq_true, Bool.not_eq_true', decide_eq_true_eq] at hc2
          exact hc2
        · cases h
    · obtain ⟨hk2, h⟩ := am_if_some h
      have hkd : kd = 2 := Nat.eq_of_beq_eq_true hk2
      obtain ⟨g', hx1, h2⟩ := Option.bind_eq_some_iff.mp h
      have hlen := am_sF_len hx1
      obtain ⟨fs, e1, e2, e3⟩ := am_sF_to hx1
      subst e3
      have hob : ∃ C0, ∀ C T N, am_cl[a]? = some (C, T, N) → (T b).2.2.2 = false ∧ parseFieldDescriptor (T b).2.2.1 = some (.object C0) := by
        unfold am_pchk at hc2
        dsimp only at hc2
        split at hc2
        · rename_i C T N hcl
          rw [hkd] at hc2
          simp only [Bool.and_eq_true, Bool.not_eq_true'] at hc2
          have hq := hc2.2
          unfold am_isObj at hq
          split at hq
          · rename_i C0 hC0
            exact ⟨C0, fun C' T' N' hcl' => by
              cases hcl.symm.trans hcl'
              exact ⟨hc2.1, hC0⟩⟩
          · cases hq
        · cases hc2
      obtain ⟨C0, hob⟩ := hob
      exact am_putW (v := .ref _) (ty := .object C0) X0 hP hg hA hS rfl rfl e1 e2 hc1 hob rfl rfl (hd rfl) (fun H1 locs1 a1 a2 => gow h2 hlen a1 a2)
    · obtain ⟨hk2, h⟩ := am_if_some h
      have hkd : kd = 2 := Nat.eq_of_beq_eq_true hk2
      obtain ⟨g', hx1, h2⟩ := Option.bind_eq_some_iff.mp h
      have hlen := am_sF_len hx1
      obtain ⟨fs, e1, e2, e3⟩ := am_sF_to hx1
      subst e3
      have hob : ∃ C0, ∀ C T N, am_cl[a]? = some (C, T, N) → (T b).2.2.2 = false ∧ parseFieldDescriptor (T b).2.2.1 = some (.object C0) := by
        unfold am_pchk at hc2
        dsimp only at hc2
        split at hc2
        · rename_i C T N hcl
          rw [hkd] at hc2
          simp only [Bool.and_eq_true, Bool.not_eq_true'] at hc2
          have hq := hc2.2
          unfold am_isObj at hq
          split at hq
          · rename_i C0 hC0
            exact ⟨C0, fun C' T' N' hcl' => by
              cases hcl.symm.trans hcl'
              exact ⟨hc2.1, hC0⟩⟩
          · cases hq
        · cases hc2
      obtain ⟨C0, hob⟩ := hob
      exact am_putW (v := .null) (ty := .object C0) X0 hP hg hA hS rfl rfl e1 e2 hc1 hob rfl rfl (hd rfl) (fun H1 locs1 a1 a2 => gow h2 hlen a1 a2)
    · cases h
  | iaload =>
    dsimp only [am_ex] at h
    split at h
    · obtain ⟨x, hx1, h2⟩ := Option.bind_eq_some_iff.mp h
      obtain ⟨nn, f, e1, e2, e3⟩ := am_aI_to hx1
      subst e3
      exact va_iald (cA := cA 0) hx hb hKK hP _ 0 (am_lay_at e1) rfl e2 (hd rfl) (go h2)
    · cases h
  | baload =>
    dsimp only [am_ex] at h
    split at h
    · obtain ⟨x, hx1, h2⟩ := Option.bind_eq_some_iff.mp h
      obtain ⟨nn, f, e1, e2, e3⟩ := am_aI_to hx1
      subst e3
      exact va_zald (cA := cA 1) hx hb hKK hP _ 1 (am_lay_at e1) rfl e2 (hd rfl) (go h2)
    · cases h
  | aaload =>
    dsimp only [am_ex] at h
    split at h
    · rename_i xi q r'
      obtain ⟨x, hx1, h2⟩ := Option.bind_eq_some_iff.mp h
      obtain ⟨t, nn, f, e1, e2, e3, e4⟩ := am_aR_to hx1
      obtain ⟨C0, hC0⟩ := am_tyo (cA := cA) e2
      refine va_aldq (cA := cA t) hx hb hKK hP q t (am_lay_at e1) hC0 e3 (hd rfl) ?_
      have hlt : xi.toNatClampNeg < nn := Nat.not_le.mp fun q => e3 (Or.inr q)
      rw [if_pos hlt, e4]
      exact go h2
    · cases h
  | iastore =>
    dsimp only [am_ex] at h
    split at h
    · obtain ⟨g', hx1, h2⟩ := Option.bind_eq_some_iff.mp h
      have hlen := am_sI_len hx1
      obtain ⟨nn, f, e1, e2, e3⟩ := am_sI_to hx1
      subst e3
      refine va_iast (cA := cA 0) hx hb hKK hP hDD hS _ 0 (am_lay_at e1) rfl e2 (hd rfl) (fun H1 locs1 a1 _ a3 => gow h2 hlen ?_ a3)
      rw [← am_lay_set]
      exact a1
    · cases h
  | bastore =>
    dsimp only [am_ex] at h
    split at h
    · obtain ⟨g', hx1, h2⟩ := Option.bind_eq_some_iff.mp h
      have hlen := am_sI_len hx1
      obtain ⟨nn, f, e1, e2, e3⟩ := am_sI_to hx1
      subst e3
      refine va_zast (cA := cA 1) hx hb hKK hP hDD hS _ 1 (am_lay_at e1) rfl e2 (hd rfl) (fun H1 locs1 a1 _ a3 => gow h2 hlen ?_ a3)
      rw [← am_lay_set]
      exact a1
    · cases h
  | arraylength =>
    dsimp only [am_ex] at h
    split at h
    · obtain ⟨x, hx1, h2⟩ := Option.bind_eq_some_iff.mp h
      obtain ⟨t, nn, f, e1, e2, e3⟩ := am_ln_to hx1
      obtain ⟨ty, hty⟩ := am_ty2 (cA := cA) e2
      exact va_alen hx hb hKK hP _ t (am_lay_at e1) hty e3.symm (hd rfl) (go h2)
    · cases h
  | invokestatic k =>
    dsimp only [am_ex] at h
    simp only [am_chk] at hck
    cases h9 : Nat.beq a 999 with
    | true =>
      rw [h9] at h
      rw [if_pos (Nat.eq_of_beq_eq_true h9)] at hck
      replace h := (show am_if true _ _ = some r from h)
      unfold am_if am_b3 am_b2 am_b1 am_b0 at h
      dsimp only at h
      split at h
      · obtain ⟨hroom, h⟩ := am_if_some h
        obtain ⟨g', hx1, h2⟩ := Option.bind_eq_some_iff.mp h
        have hlen := am_cp_len hx1
        obtain ⟨n0, n1, f, kf, e0, e1, c1, c2, c3, c4, c5, e3⟩ := am_cp_to hx1
        subst e3
        refine va_copyi (c0 := cA 0) (c1 := cA 0) (ty := .int) hx hb (by rw [hml, hsz]) hown (hts _ (List.mem_cons_of_mem _ (am_in_T hck rfl))) (hts _ (List.mem_cons_of_mem _ harr.1)) (hts _ (List.mem_cons_of_mem _ harr.2.1)) (hts _ (List.mem_cons_of_mem _ harr.2.2)) hKK hP hDD hS _ _ 0 0 (am_lay_at e0) (am_lay_at e1) rfl rfl rfl c1 c2 c3 c4 c5 (fun _ _ => rfl) hfr.1 ?_ (hd rfl) (fun H1 locs1 a1 _ a3 => gow h2 hlen ?_ a3)
        · rw [am_v_cats]
          have := Nat.le_of_ble_eq_true hroom
          have := hfr.2
          show _ + (7 + 11) ≤ _
          omega
        · rw [← am_lay_set]
          exact a1
      · cases h
    | false =>
      rw [h9] at h
      rw [if_neg (Nat.ne_of_beq_eq_false h9)] at hck
      replace h := (show am_if (Nat.beq a 998) _ _ = some r from h)
      cases h8 : Nat.beq a 998 with
      | true =>
        rw [h8] at h
        rw [if_pos (Nat.eq_of_beq_eq_true h8)] at hck
        unfold am_if am_b3 am_b2 am_b1 am_b0 at h
        dsimp only at h
        split at h
        · rename_i hst
          obtain ⟨hroom, h⟩ := am_if_some h
          have := Nat.le_of_ble_eq_true hroom
          exact va_mmax hx hb (by rw [hml, hsz]) hown (hw _ (am_in_T hck rfl)) (hw _ hmax.1) (hw _ hmath) (hw _ hmax.2) hfr.1 (by rw [am_v_cats]; have := hfr.2; omega) hR.2.2.1 hR.2.2.2 (hd rfl) (go h)
        · cases h
      | false =>
        rw [h8] at h
        rw [if_neg (Nat.ne_of_beq_eq_false h8)] at hck
        replace h := (show am_if (Nat.beq a 997) _ _ = some r from h)
        cases h7 : Nat.beq a 997 with
        | true =>
          rw [h7] at h
          rw [if_pos (Nat.eq_of_beq_eq_true h7)] at hck
          unfold am_if am_b3 am_b2 am_b1 am_b0 at h
          dsimp only at h
          split at h
          · rename_i hst
            obtain ⟨hroom, h⟩ := am_if_some h
            have := Nat.le_of_ble_eq_true hroom
            exact va_mmin hx hb (by rw [hml, hsz]) hown (hw _ (am_in_T hck rfl)) (hw _ hmin.1) (hw _ hmath) (hw _ hmin.2) hfr.1 (by rw [am_v_cats]; have := hfr.2; omega) hR.2.2.1 hR.2.2.2 (hd rfl) (go h)
          · cases h
        | false =>
          rw [h7] at h
          rw [if_neg (Nat.ne_of_beq_eq_false h7)] at hck
          split at hck
          · rename_i N hN
            simp only [Bool.and_eq_true, decide_eq_true_eq] at hck
            exact am_sim_call X0 hR hA hm hmt hK h hN hck.1.1 rfl (Or.inl ⟨hck.1.2, hck.2, hd rfl⟩) hg hP hS hl
          · cases hck
  | invokevirtual k =>
    dsimp only [am_ex] at h
    simp only [am_chk] at hck
    split at hck
    · rename_i N hN
      simp only [Bool.and_eq_true, decide_eq_true_eq] at hck
      exact am_sim_call X0 hR hA hm hmt hK h hN hck.1.1 rfl (Or.inr ⟨fun q => by rw [q] at hck; exact absurd hck.1.2 (by decide), hck.2, hd rfl⟩) hg hP hS hl
    · cases hck
  | ireturn =>
    dsimp only [am_ex] at h
    split at h
    · rename_i x
      rcases hret with q | q | q
      · rw [q] at hrc; cases hrc
      · rw [q] at h
        replace h : some (some (Value.int x), g) = some r := h
        cases h
        exact hEI x g hg H locs ls hP hS (Or.inl q) (hd rfl)
      · rw [q] at h
        replace h : (if x = 0 ∨ x = 1 then some (some (Value.int x), g) else none) = some r := h
        split at h
        · rename_i h01
          cases h
          exact hEI x g hg H locs ls hP hS (Or.inr ⟨q, h01⟩) (hd rfl)
        · cases h
    · cases h
  | return_ =>
    dsimp only [am_ex] at h
    split at h
    · cases h
      rcases hret with q | q | q
      · exact hEV g hg H locs ls hP hS q (hd rfl)
      · rw [q] at hrc; cases hrc
      · rw [q] at hrc; cases hrc
    · cases h
  | _ => exact absurd (show (none : Option am_R) = some r from h) (by simp)
/-- a method whose code is checked is met -/
theorem am_sim_rn (X : am_cx p s m args meth c M ρ cA D n) {d : Nat} (hR : d + 2 ≤ R.frames ∧ 64 * (d + 2) ≤ R.locals ∧ cells ≤ R.cells ∧ slots ≤ R.slots) (hA : ∀ q, am_A ρ n q → A q) (hm : am_met l mt d) (hmt : ∀ j N, mt j = some N → am_mfacts N) (hck : ∀ (pc : Nat) (i : am_I), M.2.2.2.2.2 pc = some i → (am_chkD M.2.1 pc i.1 = true ∧ am_rchk M.2.2.2.1 i.1 = true) ∧ am_chk M.1.cls mt pc i = true) (hret : M.2.2.2.1 = none ∨ M.2.2.2.1 = some .int ∨ M.2.2.2.1 = some .boolean) (hsys : am_sysP) (hEI : ∀ pc, am_endI p l e R s m args below meth c M ρ cA D n A cells slots Qr pc) (hEV : ∀ pc, am_endV p l e R s m args below meth c M ρ cA D n A cells slots Qr pc) :
    ∀ k, am_good p l e R s m args below meth c M ρ cA D n A cells slots Qr (am_rn (decide (M.2.2.2.1 = some .boolean)) (am_cal mt d) M.2.2.2.2.2 k) := by
  intro k
  induction k with
  | zero => intro pc L st g r h; cases h
  | succ k ih =>
    intro pc L st g r h hg H locs ls hP hS hl
    unfold am_rn at h
    cases hi : M.2.2.2.2.2 pc with
    | none => rw [hi] at h; cases h
    | some i =>
      rw [hi] at h
      obtain ⟨⟨k1, k2⟩, k3⟩ := hck pc i hi
      exact am_sim_ex X hR hA hm hmt ih h k1 k2 k3 hret hsys (hEI pc) (hEV pc) hg hP hS hl
end AMX
theorem am_meets (l : Launch) (mt : Nat → Option am_M) (hmt : ∀ j N, mt j = some N → am_mok mt N) (hsys : am_sysP) : ∀ d, am_met l mt d := by
  intro d
  induction d with
  | zero => intro j as g r M _ h; cases h
  | succ d ih =>
    intro j as g r M hj h ρ cA D n hρ hg
    obtain ⟨ha1, ha2, ha3, hrun⟩ := am_args_static hj h
    obtain ⟨hf, hck⟩ := am_mok_facts (hmt j M hj)
    obtain ⟨f1, f2, f3, f4, f5, f6, f7, f8⟩ := hf
    refine Met.ofW (cc := M.2.1) (maxL := M.2.2.1) (ret := M.2.2.2.1) (ws' := am_T) f1 rfl ?_
    intro p e s m args below meth c s₁ B hml hv
    obtain ⟨rfl, hP, hK, hN⟩ := hv
    have hts := atoms_spec (ws := am_ws M) B.pre
    have X : am_cx p s m (as.map (am_v ρ)).toArray meth c M ρ cA D n := ⟨B.exec, B.bytes, hml, findClass_of_methodNamed B.named, hts, hK, hN, B.notSynchronized, B.returns, hρ⟩
    obtain ⟨k, hk⟩ := am_run_to hrun
    have hS : va_S (am_A ρ n) s.heap s.heap [] := va_S.rf
    have hc1 : ∀ v ∈ as, (am_v ρ v).category = 1 := fun v hv => by rw [am_v_cat]; exact ha1 v hv
    have hl := am_lh_entry (ρ := ρ) (nL := M.2.2.1) hc1 ha2
    rw [lg_entry_eq]
    refine am_sim_rn (Qr := fun r => MQ below (am_Q ρ cA D n r) (as.map (am_v ρ)).toArray s 0 0 (am_A ρ n)) X ⟨Nat.le_refl _, Nat.le_refl _, Nat.zero_le _, Nat.zero_le _⟩ (fun _ h => h) ih (fun j' N' hj' => (am_mok_facts (hmt j' N' hj')).1) hck f6 hsys ?_ ?_ k _ _ _ _ _ hk hg _ _ _ hP hS hl
    · intro pc x g' hg' H locs ls hP' hS' hx hd
      rcases hx with q | ⟨q, h01⟩
      · exact W.iret (v := x) B.exec B.bytes (by rw [B.returns, q]) (fun t ht hW => ⟨rfl, by rw [ht]; exact hP', hS'.F ht⟩) hS'.2.2 hd
      · exact W.zret (v := x) (ty := .boolean) B.exec B.bytes (by rw [B.returns, q]) (am_b01 h01) (fun t ht hW => ⟨rfl, by rw [ht]; exact hP', hS'.F ht⟩) hS'.2.2 hd
    · intro pc g' hg' H locs ls hP' hS' q hd
      exact W.vret B.exec B.bytes (by rw [B.returns, q]) (fun t ht hW => ⟨rfl, by rw [ht]; exact hP', hS'.F ht⟩) hS'.2.2 hd
end
section
/-! ===== an evaluator that computes ===== -/
def am_le (F F' : am_F) : Prop := ∀ (j : Nat) (as : List Value) (g : am_W) (r : am_R), F j as g = some r → F' j as g = some r
def am_mo (f : am_F → am_K → Option am_R) : Prop := ∀ (F F' : am_F) (K K' : am_K), am_le F F' → (∀ (pc : Nat) (L : am_L) (st : List Value) (g : am_W) (r : am_R), K pc L st g = some r → K' pc L st g = some r) → ∀ r, f F K = some r → f F' K' = some r
theorem am_mo.none : am_mo (fun _ _ => none) := fun _ _ _ _ _ _ _ h => by cases h
theorem am_mo.fin (o : Option am_R) : am_mo (fun _ _ => o) := fun _ _ _ _ _ _ _ h => h
theorem am_mo.go (pc : Nat) (L : am_L) (st : List Value) (g : am_W) : am_mo (fun _ K => K pc L st g) := fun _ _ _ _ _ hK _ h => hK _ _ _ _ _ h
theorem am_mo.ite {c : Prop} [Decidable c] {f g : am_F → am_K → Option am_R} (hf : am_mo f) (hg : am_mo g) : am_mo (fun F K => if c then f F K else g F K) := by
  by_cases h : c
  · simpa only [h, if_true] using hf
  · simpa only [h, if_false] using hg
theorem am_mo.bif {b : Bool} {f g : am_F → am_K → Option am_R} (hf : am_mo f) (hg : am_mo g) : am_mo (fun F K => am_if b (f F K) (g F K)) := by
  cases b with
  | true => exact hf
  | false => exact hg
theorem am_mo.bind {α : Type} (o : Option α) {f : α → am_F → am_K → Option am_R} (hf : ∀ a, am_mo (f a)) : am_mo (fun F K => o.bind (fun a => f a F K)) := by
  cases o with
  | none => exact am_mo.none
  | some a => exact hf a
theorem am_mo.on (o : Option Nat) {a : am_F → am_K → Option am_R} {f : Nat → am_F → am_K → Option am_R} (ha : am_mo a) (hf : ∀ q, am_mo (f q)) : am_mo (fun F K => am_on o (a F K) (fun q => f q F K)) := by
  cases o with
  | none => exact ha
  | some q => exact hf q
theorem am_mo.sw (x : Int32) (d : Nat) {k : Nat → am_F → am_K → Option am_R} (hk : ∀ t, am_mo (k t)) : ∀ l : List (Int × Nat), am_mo (fun F K => am_sw x d (fun t => k t F K) l)
  | [] => hk d
  | q :: r => am_mo.ite (hk q.2) (am_mo.sw x d hk r)
theorem am_mo.call (j n b pc : Nat) (L : am_L) (st : List Value) (g : am_W) : am_mo (fun F K => am_call F K j n b pc L st g) := by
  unfold am_call
  refine am_mo.bif (am_mo.bif ?_ ?_) am_mo.none
  · intro F F' K K' hF hK r h
    obtain ⟨q, h1, h2⟩ := Option.bind_eq_some_iff.mp h
    refine Option.bind_eq_some_iff.mpr ⟨q, ?_, hK _ _ _ _ _ h2⟩
    rw [hF _ _ _ _ (am_cI_to h1)]
    rfl
  · intro F F' K K' hF hK r h
    obtain ⟨q, h1, h2⟩ := Option.bind_eq_some_iff.mp h
    refine Option.bind_eq_some_iff.mpr ⟨q, ?_, hK _ _ _ _ _ h2⟩
    rw [hF _ _ _ _ (am_cV_to h1)]
    rfl
set_option maxHeartbeats 4000000 in
theorem am_ex_mo (rz : Bool) (i : am_I) (pc : Nat) (L : am_L) (st : List Value) (g : am_W) : am_mo (fun F K => am_ex rz F K i pc L st g) := by
  unfold am_ex
  split
  all_goals
    repeat' first
      | exact am_mo.none
      | exact am_mo.go _ _ _ _
      | exact am_mo.fin _
      | exact am_mo.call _ _ _ _ _ _ _
      | apply am_mo.ite
      | apply am_mo.bif
      | refine am_mo.bind _ (fun _ => ?_)
      | refine am_mo.on _ ?_ (fun _ => ?_)
      | refine am_mo.sw _ _ (fun _ => ?_) _
      | split
theorem am_rn_mo {rz : Bool} {F F' : am_F} (hF : am_le F F') {cd : Nat → Option am_I} : ∀ (n pc : Nat) (L : am_L) (st : List Value) (g : am_W) (r : am_R), am_rn rz F cd n pc L st g = some r → am_rn rz F' cd n pc L st g = some r := by
  intro n
  induction n with
  | zero => intro pc L st g r h; cases h
  | succ n ih =>
    intro pc L st g r h
    unfold am_rn at h ⊢
    cases hi : cd pc with
    | none => rw [hi] at h; cases h
    | some i =>
      rw [hi] at h
      exact am_ex_mo rz i pc L st g F F' _ _ hF ih r h
def am_ev (mt : Nat → Option am_M) : Nat → am_F
  | 0, _, _, _ => none
  | d + 1, j, as, g => match mt j with
    | some M => am_if (as.all (fun v => v.category == 1) && Nat.ble as.length M.2.2.1)
        (am_if (am_rcv g M.2.2.2.2.1 as) (am_rn (decide (M.2.2.2.1 = some .boolean)) (am_ev mt d) M.2.2.2.2.2 3000 0 (as.map some ++ List.replicate (M.2.2.1 - as.length) none) [] g) none) none
    | none => none
theorem am_ev_cal (mt : Nat → Option am_M) : ∀ d, am_le (am_ev mt d) (am_cal mt d) := by
  intro d
  induction d with
  | zero => intro j as g r h; cases h
  | succ d ih =>
    intro j as g r h
    unfold am_ev at h
    unfold am_cal
    cases hj : mt j with
    | none => rw [hj] at h; cases h
    | some M =>
      rw [hj] at h
      dsimp only at h ⊢
      obtain ⟨h1, h⟩ := am_if_some h
      obtain ⟨h2, h⟩ := am_if_some h
      rw [h1, h2]
      exact am_run_of (am_rn_mo ih _ _ _ _ _ _ h)
/-! ===== makers: instructions that make cells ===== -/
def am_wv (n : Nat) : Value → Bool
  | .ref k => Nat.blt k n
  | _ => true
def am_wo (n : Nat) : Option Value → Bool
  | some v => am_wv n v
  | none => true
def am_we (n : Nat) : am_C → Bool
  | .inr (_, fs) => fs.all (am_wv n)
  | .inl (_, m, .inr f) => (List.range m).all (fun j => match f j with
    | some k => Nat.blt k n
    | none => true)
  | .inl (_, _, .inl _) => true
def am_wf (L : am_L) (st : List Value) (g : am_W) : Bool := L.all (am_wo g.length) && st.all (am_wv g.length) && g.all (am_we g.length)
def am_dv (ci : Nat) : List Value := match am_cl[ci]? with
  | some (_, T, N) => (List.range N).map (fun k => match parseFieldDescriptor (T k).2.2.1 with
    | some t => defaultValue t
    | none => .null)
  | none => []
/-- the sort of the elements of a row of references -/
def am_el : Nat → Nat
  | 2 => 2
  | 3 => 8
  | 4 => 3
  | 5 => 7
  | _ => 99
def am_sR (g : am_W) (p : Nat) (i : Int32) (v : Nat) : Option am_W := match g[p]?, g[v]? with
  | some (.inl (t, n, .inr f)), some (.inr (c, _)) => am_if (Nat.beq (am_el t) c && Nat.blt t 6) (if i < 0 ∨ n ≤ i.toNatClampNeg then none else some (g.set p (.inl (t, n, .inr (va_up f i.toNatClampNeg (some v)))))) none
  | _, _ => none
def am_ex2 (F : am_F) (G : Nat → List Value → am_W → Option am_W) (nc : Nat → Nat) (lim : Nat) (K : am_K) (i : am_I) (pc : Nat) (L : am_L) (st : List Value) (g : am_W) : Option am_R :=
  match i.1 with
  | .new _ => am_if (am_wf L st g && Nat.blt g.length lim && Nat.ble (am_dv i.2.1).length 2000) (K (pc + 3) L (.ref g.length :: st) (g ++ [.inr (i.2.1, am_dv i.2.1)])) none
  | .newarray ty => (match st with
    | .int n :: r => am_if (am_wf L r g && Nat.blt g.length lim && Nat.ble n.toNatClampNeg 2000) (if n < 0 then none else (match ty with
      | .int => K (pc + 2) L (.ref g.length :: r) (g ++ [.inl (0, n.toNatClampNeg, .inl (fun _ => 0))])
      | .boolean => K (pc + 2) L (.ref g.length :: r) (g ++ [.inl (1, n.toNatClampNeg, .inl (fun _ => 0))])
      | _ => none)) none
    | _ => none)
  | .anewarray _ => (match st with
    | .int n :: r => am_if (am_wf L r g && Nat.blt g.length lim && Nat.ble n.toNatClampNeg 2000 && (Nat.blt 1 i.2.1 && Nat.blt i.2.1 6)) (if n < 0 then none else K (pc + 3) L (.ref g.length :: r) (g ++ [.inl (i.2.1, n.toNatClampNeg, .inr (fun _ => none))])) none
    | _ => none)
  | .invokespecial _ => am_if (Nat.beq i.2.1 990) (match st with
      | .ref _ :: r => am_if (Nat.ble (r.map (fun v => v.category)).sum 8) (K (pc + 3) L r g) none
      | _ => none)
      (am_if (am_wf L (st.drop i.2.2.1) g && Nat.ble i.2.2.1 st.length && Nat.ble ((st.drop i.2.2.1).map (fun v => v.category)).sum 8 && Nat.ble (g.length + nc i.2.1) lim) ((G i.2.1 (st.take i.2.2.1).reverse g).bind (fun g' => am_if (Nat.beq g'.length (g.length + nc i.2.1)) (K (pc + 3) L (st.drop i.2.2.1) g') none)) none)
  | .putfield _ => am_if (Nat.beq i.2.2.2.1 5) (match st with
      | .int x :: .ref p :: r => (am_sF g p i.2.1 i.2.2.1 (.int x)).bind (fun g' => K (pc + 3) L r g')
      | _ => none)
      (am_if (Nat.beq i.2.2.2.1 6) (match st with
      | .ref x :: .ref p :: r => (am_sF g p i.2.1 i.2.2.1 (.ref x)).bind (fun g' => K (pc + 3) L r g')
      | _ => none) (am_ex false F K i pc L st g))
  | .aastore => (match st with
    | .ref v :: .int x :: .ref p :: r => (am_sR g p x v).bind (fun g' => K (pc + 1) L r g')
    | _ => none)
  | .return_ => (match st with
    | [] => am_if (Nat.beq g.length lim) (some (none, g)) none
    | _ => none)
  | _ => am_ex false F K i pc L st g
def am_rn2 (F : am_F) (G : Nat → List Value → am_W → Option am_W) (nc : Nat → Nat) (lim : Nat) (cd : Nat → Option am_I) : Nat → am_K
  | 0, _, _, _, _ => none
  | n + 1, pc, L, st, g => match cd pc with
    | some i => am_ex2 F G nc lim (am_rn2 F G nc lim cd n) i pc L st g
    | none => none
def am_isR : List Value → Bool
  | .ref _ :: _ => true
  | _ => false
/-- a constructor, by number: what the world is behind it -/
def am_new (mt nt : Nat → Option am_M) (nc : Nat → Nat) : Nat → Nat → List Value → am_W → Option am_W
  | 0, _, _, _ => none
  | d + 1, j, as, g => match nt j with
    | some M => am_if (as.all (fun v => v.category == 1) && Nat.ble as.length M.2.2.1 && am_isR as)
        (am_cV (am_rn2 (am_ev mt 4) (am_new mt nt nc d) nc (g.length + nc j) M.2.2.2.2.2 3000 0 (as.map some ++ List.replicate (M.2.2.1 - as.length) none) [] g)) none
    | none => none
end
section
/-! ===== the machine does what the makers do ===== -/
theorem am_v_ext {ρ ρ' : Nat → Nat} {n : Nat} (h : ∀ k, k < n → ρ' k = ρ k) {v : Value} (hv : am_wv n v = true) : am_v ρ' v = am_v ρ v := by
  cases v with
  | ref k =>
    have hk : k < n := Nat.le_of_ble_eq_true hv
    show Value.ref (ρ' k) = Value.ref (ρ k)
    rw [h k hk]
  | _ => rfl
theorem am_st_ext {ρ ρ' : Nat → Nat} {n : Nat} (h : ∀ k, k < n → ρ' k = ρ k) {st : List Value} (hv : st.all (am_wv n) = true) : st.map (am_v ρ') = st.map (am_v ρ) :=
  List.map_congr_left (fun v hm => am_v_ext h (List.all_eq_true.mp hv v hm))
theorem am_e_ext {ρ ρ' : Nat → Nat} {cA : Nat → ClassId} {n : Nat} (h : ∀ k, k < n → ρ' k = ρ k) {e : am_C} (he : am_we n e = true) : am_e ρ' cA e = am_e ρ cA e := by
  rcases e with ⟨t, m, f | f⟩ | ⟨ci, fs⟩
  · rfl
  · skip
    have : (fun j => if j < m then (f j).map ρ' else none) = (fun j => if j < m then (f j).map ρ else none) := by
      funext j
      by_cases hj : j < m
      · rw [if_pos hj, if_pos hj]
        have h1 := List.all_eq_true.mp he j (List.mem_range.mpr hj)
        cases hf : f j with
        | none => rfl
        | some k =>
          rw [hf] at h1
          have hk : k < n := Nat.le_of_ble_eq_true h1
          show some (ρ' k) = some (ρ k)
          rw [h k hk]
      · rw [if_neg hj, if_neg hj]
    show (.inl (cA t, m, .inr (.inr (.inr (.inr (fun j => if j < m then (f j).map ρ' else none))))) : va_E) = .inl (cA t, m, .inr (.inr (.inr (.inr (fun j => if j < m then (f j).map ρ else none)))))
    rw [this]
  · show (.inr (ci, fs.map (am_v ρ')) : va_E) = .inr (ci, fs.map (am_v ρ))
    rw [am_st_ext h he]
theorem am_lay_push (ρ : Nat → Nat) (cA : Nat → ClassId) (g : am_W) (e : am_C) : am_lay ρ cA (g ++ [e]) = am_lay ρ cA g ++ [(ρ g.length, am_e ρ cA e)] := by
  unfold am_lay
  rw [List.mapIdx_concat]
theorem am_lay_ext {ρ ρ' : Nat → Nat} {cA : Nat → ClassId} {g : am_W} (h : ∀ k, k < g.length → ρ' k = ρ k) (hg : g.all (am_we g.length) = true) : am_lay ρ' cA g = am_lay ρ cA g := by
  apply List.ext_getElem?
  intro k
  rw [am_lay_get, am_lay_get]
  cases he : g[k]? with
  | none => rfl
  | some e =>
    have hk := (List.getElem?_eq_some_iff.mp he).1
    show some (ρ' k, am_e ρ' cA e) = some (ρ k, am_e ρ cA e)
    rw [h k hk, am_e_ext h (List.all_eq_true.mp hg e (List.mem_of_getElem? he))]
theorem am_lh_ext {ρ ρ' : Nat → Nat} {n : Nat} (h : ∀ k, k < n → ρ' k = ρ k) {ls : Array Slot} {nL : Nat} {L : am_L} (hL : L.all (am_wo n) = true) (hl : am_lh ρ ls nL L) : am_lh ρ' ls nL L := by
  refine ⟨hl.1, hl.2.1, hl.2.2.1, fun i v hi => ?_⟩
  have hw : am_wv n v = true := List.all_eq_true.mp hL _ (List.mem_of_getElem? hi)
  rw [am_v_ext h hw]
  exact hl.2.2.2 i v hi
def am_A0 (ρ : Nat → Nat) (n sz : Nat) : Nat → Prop := fun q => am_A ρ n q ∨ sz ≤ q
def am_ao (U : State) : Prop := va_AO RX2 U ∧ va_AO RX8 U ∧ va_AO RX3 U ∧ va_AO RX7 U
theorem am_ao.moved {u U : State} (hvm : u.vm.Alike U.vm) (h : am_ao u) : am_ao U := ⟨va_AO.moved hvm h.1, va_AO.moved hvm h.2.1, va_AO.moved hvm h.2.2.1, va_AO.moved hvm h.2.2.2⟩
def am_Pc2 (ρ : Nat → Nat) (cA : Nat → ClassId) (D : va_G) (as : List Value) (g : am_W) (sz : Nat) : Array Value → State → Prop := va_Pc (as.map (am_v ρ)) (fun U => U.heap.size = sz ∧ va_P D am_cl (am_lay ρ cA g) U.heap ∧ va_K D am_cl (am_ty cA) U ∧ am_nw U ∧ am_ao U)
def am_ext (ρ ρ' : Nat → Nat) (n n' sz : Nat) : Prop := (∀ k, k < n → ρ' k = ρ k) ∧ am_inj ρ' n' ∧ ∀ k, n ≤ k → k < n' → sz ≤ ρ' k
def am_Q2 (ρ : Nat → Nat) (cA : Nat → ClassId) (D : va_G) (n sz : Nat) (g' : am_W) : Array Value → State → Outcome → State → Prop := fun _ st oc t => oc = .returned none ∧ (∃ ρ', am_ext ρ ρ' n g'.length sz ∧ va_P D am_cl (am_lay ρ' cA g') t.heap) ∧ va_F (am_A0 ρ n sz) st t
def am_rm2 (d k : Nat) : Room := { frames := d + 8, cells := k, slots := 2000 * k, locals := 64 * (d + 8) }
def am_met2 (l : Launch) (mt nt : Nat → Option am_M) (nc : Nat → Nat) (d : Nat) : Prop := ∀ (j : Nat) (as : List Value) (g g' : am_W) (M : am_M), nt j = some M → am_new mt nt nc d j as g = some g' → ∀ (ρ : Nat → Nat) (cA : Nat → ClassId) (D : va_G) (sz : Nat), am_inj ρ g.length → Met l M.1 (am_ws M) (am_rm2 d (nc j)) (am_Pc2 ρ cA D as g sz) (am_Q2 ρ cA D g.length sz g') (nc j) (2000 * nc j) (am_A0 ρ g.length sz)
theorem am_blind2 (ρ : Nat → Nat) (cA : Nat → ClassId) (D : va_G) (as : List Value) (g : am_W) (sz : Nat) : FrameBlind (am_Pc2 ρ cA D as g sz) := by
  intro a U fr mk q
  obtain ⟨q0, q4, q1, q2, q3, q5⟩ := q
  exact ⟨q0, q4, q1, va_K.moved (u := U) (U := U.calling fr mk a) (Vm.Alike.refl U.vm) q2, am_nw.same (s := U) (U := U.calling fr mk a) rfl q3, am_ao.moved (u := U) (U := U.calling fr mk a) (Vm.Alike.refl U.vm) q5⟩
/-! what the tables say of makers -/
def am_pchk2 (own : String) (i : am_I) : Bool := match am_cl[i.2.1]? with
  | some (_, T, _) => (T i.2.2.1).2.2.2 && decide ((T i.2.2.1).1 = own) && (match i.2.2.2.1 with
    | 5 => decide (parseFieldDescriptor (T i.2.2.1).2.2.1 = some .int)
    | _ => (match parseFieldDescriptor (T i.2.2.1).2.2.1 with
      | some (.object _) => true
      | some (.array _) => true
      | _ => false))
  | none => false
def am_fchk2 (own : String) (k : Nat) (i : am_I) : Bool := match am_cl[i.2.1]? with
  | some (_, T, N) => decide (i.2.2.1 < N) && am_in (am_hint i) (.fieldLink own k (T i.2.2.1).1 (T i.2.2.1).2.1 (T i.2.2.1).2.2.1)
  | none => false
def am_chk2 (own : String) (mt nt : Nat → Option am_M) (pc : Nat) (i : am_I) : Bool := match i.1 with
  | .new k => (match am_cl[i.2.1]? with
    | some (C, _, N) => am_in (am_hint i) (.classLink own k C) && am_in i.2.2.1 (.instantiable C N) && am_in i.2.2.2.1 (.initialized C)
    | none => false)
  | .newarray ty => am_in (am_hint i) (.arrayClass (newarray.typeOf ty))
  | .anewarray k => (match am_cl[am_el i.2.1]? with
    | some (C, _, _) => am_in (am_hint i) (.classLink own k C)
    | none => false)
  | .invokespecial k => if i.2.1 = 990 then am_in (am_hint i) (.methodLink own k objectInit) else (match nt i.2.1 with
    | some N => (am_in (am_hint i) (.methodLink own k N.1) || am_in (am_hint i) (.methodLinkNest own k N.1 "WrittenColumns")) && decide ((am_npar N.1).map (· + 1) = some i.2.2.1)
    | none => false)
  | .putfield k => if i.2.2.2.1 = 5 ∨ i.2.2.2.1 = 6 then am_fchk2 own k i && am_pchk2 own i else am_chk own mt pc i
  | .aastore => true
  | .return_ => true
  | _ => am_chk own mt pc i
def am_nth (mt nt : Nat → Option am_M) (M : am_M) (h : Nat × Nat × Nat) (tb : List (Nat × am_I)) : Bool :=
  plainName M.1.cls && am_in h.1 (.code M.1 M.2.1 M.2.2.1 M.2.2.2.1) && am_in h.2.1 (.initialized M.1.cls) && decide (M.1.cls ≠ "java/lang/invoke/MethodHandle") && decide (M.1.cls ≠ "java/lang/invoke/VarHandle") && Nat.ble M.2.2.1 30
  && decide (M.2.2.2.1 = none) && decide (M.1.name = "<init>") && am_in h.2.2 (.instanceMethod M.1)
  && tb.all (fun q => am_chkD M.2.1 q.1 q.2.1 && am_rchk M.2.2.2.1 q.2.1 && am_chk2 M.1.cls mt nt q.1 q.2)
def am_nok (mt nt : Nat → Option am_M) (M : am_M) : Prop := ∃ (h : Nat × Nat × Nat) (tb : List (Nat × am_I)), am_nth mt nt M h tb = true ∧ ∀ (pc : Nat) (i : am_I), M.2.2.2.2.2 pc = some i → (pc, i) ∈ tb
def am_nfacts (M : am_M) : Prop := plainName M.1.cls = true ∧ Jvm.Cond.code M.1 M.2.1 M.2.2.1 M.2.2.2.1 ∈ lw_tbl ∧ Jvm.Cond.initialized M.1.cls ∈ lw_tbl ∧ (M.1.cls ≠ "java/lang/invoke/MethodHandle" ∧ M.1.cls ≠ "java/lang/invoke/VarHandle") ∧ M.2.2.1 ≤ 30 ∧ M.2.2.2.1 = none ∧ M.1.name = "<init>" ∧ Jvm.Cond.instanceMethod M.1 ∈ lw_tbl
theorem am_nok_facts {mt nt : Nat → Option am_M} {M : am_M} (h : am_nok mt nt M) : am_nfacts M ∧ ∀ (pc : Nat) (i : am_I), M.2.2.2.2.2 pc = some i → (am_chkD M.2.1 pc i.1 = true ∧ am_rchk M.2.2.2.1 i.1 = true) ∧ am_chk2 M.1.cls mt nt pc i = true := by
  obtain ⟨hh, tb, h1, h2⟩ := h
  unfold am_nth at h1
  simp only [Bool.and_eq_true] at h1
  obtain ⟨⟨⟨⟨⟨⟨⟨⟨⟨a1, a2⟩, a3⟩, a4⟩, a5⟩, a6⟩, a7⟩, a8⟩, a9⟩, a10⟩ := h1
  refine ⟨⟨a1, am_in_mem a2, am_in_mem a3, ⟨of_decide_eq_true a4, of_decide_eq_true a5⟩, Nat.le_of_ble_eq_true a6, of_decide_eq_true a7, of_decide_eq_true a8, am_in_mem a9⟩, fun pc i hi => ?_⟩
  have q := List.all_eq_true.mp a10 _ (h2 pc i hi)
  simpa only [Bool.and_eq_true] using q
def am_sysP2 : Prop := Jvm.Cond.instanceMethod objectInit ∈ am_T ∧ Jvm.Cond.code objectInit ⟨#[0xb1]⟩ 1 none ∈ am_T
theorem am_sR_to {g g' : am_W} {p v : Nat} {i : Int32} (h : am_sR g p i v = some g') : ∃ t n f c fs, g[p]? = some (.inl (t, n, .inr f)) ∧ g[v]? = some (.inr (c, fs)) ∧ am_el t = c ∧ t < 6 ∧ vp_in i n ∧ g' = g.set p (.inl (t, n, .inr (va_up f i.toNatClampNeg (some v)))) := by
  unfold am_sR at h
  split at h
  · rename_i t n f c fs h1 h2
    obtain ⟨hc, h⟩ := am_if_some h
    simp only [Bool.and_eq_true] at hc
    split at h
    · cases h
    · rename_i hi
      cases h
      exact ⟨t, n, f, c, fs, h1, h2, Nat.eq_of_beq_eq_true hc.1, Nat.le_of_ble_eq_true hc.2, hi, rfl⟩
  · cases h
end
section
section AMN
variable {p : Program} {l : Launch} {e : Env} {R : Room} {s : State} {m : MethodId} {args : Array Value} {below : List Frame} {meth : Method} {c : Code}
variable {M : am_M} {ρ0 : Nat → Nat} {cA : Nat → ClassId} {D : va_G} {n0 : Nat} {mt nt : Nat → Option am_M} {nc : Nat → Nat} {Qr : am_R → State → Prop}
def am_good2 (p : Program) (l : Launch) (e : Env) (R : Room) (s : State) (m : MethodId) (args : Array Value) (below : List Frame) (meth : Method) (c : Code) (M : am_M) (ρ0 : Nat → Nat) (cA : Nat → ClassId) (D : va_G) (n0 lim : Nat) (Qr : am_R → State → Prop) (K : am_K) : Prop :=
  ∀ (pc : Nat) (L : am_L) (st : List Value) (g : am_W) (r : am_R), K pc L st g = some r → g.length ≤ lim → n0 ≤ g.length → ∀ (ρ : Nat → Nat), am_ext ρ0 ρ n0 g.length s.heap.size → ∀ (H : Heap) (locs : List Loc) (ls : Array Slot), va_P D am_cl (am_lay ρ cA g) H → va_S (am_A0 ρ0 n0 s.heap.size) s.heap H locs → am_lh ρ ls M.2.2.1 L → W p l e R s m args below meth c H locs (g.length - n0) (2000 * (g.length - n0)) (Qr r) (F0 m pc ls (st.map (am_v ρ)))
theorem am_A_A0 {ρ : Nat → Nat} {n sz : Nat} (hx : am_ext ρ0 ρ n0 n sz) : ∀ q, am_A ρ n q → am_A0 ρ0 n0 sz q := by
  intro q ⟨k, hk, hq⟩
  by_cases h : k < n0
  · exact Or.inl ⟨k, h, by rw [hq, hx.1 k h]⟩
  · exact Or.inr (by rw [hq]; exact hx.2.2 k (Nat.le_of_not_lt h) hk)
/-- a new cell goes on -/
theorem am_born {lim : Nat} {K : am_K} (hK : am_good2 p l e R s m args below meth c M ρ0 cA D n0 lim Qr K) {pc N q : Nat} {L : am_L} {st : List Value} {g : am_W} {r : am_R} {ce : am_C} {ew : va_E} (h : K pc L (.ref g.length :: st) (g ++ [ce]) = some r) (hw : am_wf L st g = true) (hlt : g.length < lim) (hn0 : n0 ≤ g.length) {ρ : Nat → Nat} (hx : am_ext ρ0 ρ n0 g.length s.heap.size) (he : ∀ ρ', am_e ρ' cA ce = ew) (hN : N ≤ 2000)
    {H1 : Heap} {locs : List Loc} {ls : Array Slot} (a1 : va_P D am_cl (am_lay ρ cA g ++ [(q, ew)]) H1) (a2 : va_D (am_A0 ρ0 n0 s.heap.size) (am_lay ρ cA g ++ [(q, ew)])) (a3 : va_S (am_A0 ρ0 n0 s.heap.size) s.heap H1 locs) (hl : am_lh ρ ls M.2.2.1 L) :
    W p l e R s m args below meth c H1 locs (g.length - n0 + 1) (2000 * (g.length - n0) + N) (Qr r) (F0 m pc ls (.ref q :: st.map (am_v ρ))) := by
  unfold am_wf at hw
  simp only [Bool.and_eq_true] at hw
  obtain ⟨⟨w1, w2⟩, w3⟩ := hw
  have hlen : (am_lay ρ cA g).length = g.length := by unfold am_lay; exact List.length_mapIdx
  have hlast : (am_lay ρ cA g ++ [(q, ew)])[g.length]? = some (q, ew) := by rw [List.getElem?_append_right (by rw [hlen]; exact Nat.le_refl _), hlen]; simp
  have hne : ∀ k, k < g.length → ρ k ≠ q := by
    intro k hk hq
    have hat : (am_lay ρ cA g ++ [(q, ew)])[k]? = some (ρ k, am_e ρ cA (g[k])) := by
      rw [List.getElem?_append_left (by rw [hlen]; exact hk)]
      exact am_lay_at (List.getElem?_eq_getElem hk)
    have := a2.1 k g.length _ _ hat hlast hq
    omega
  have hq : s.heap.size ≤ q := by
    rcases a2.2 _ _ hlast with ⟨k, hk, hkq⟩ | hq
    · exact absurd (by rw [hx.1 k hk]; exact hkq.symm) (hne k (Nat.lt_of_lt_of_le hk hn0))
    · exact hq
  have hρ : ∀ k, k < g.length → (fun k => if k = g.length then q else ρ k) k = ρ k := fun k hk => if_neg (Nat.ne_of_lt hk)
  have hx' : am_ext ρ0 (fun k => if k = g.length then q else ρ k) n0 (g ++ [ce]).length s.heap.size := by
    refine ⟨fun k hk => ?_, fun i j hi hj hij => ?_, fun k h1 h2 => ?_⟩
    · rw [hρ k (Nat.lt_of_lt_of_le hk hn0)]
      exact hx.1 k hk
    · rw [List.length_append] at hi hj
      simp only [List.length_cons, List.length_nil] at hi hj
      dsimp only at hij
      by_cases e1 : i = g.length
      · by_cases e2 : j = g.length
        · omega
        · rw [if_pos e1, if_neg e2] at hij
          exact absurd hij.symm (hne j (by omega))
      · by_cases e2 : j = g.length
        · rw [if_neg e1, if_pos e2] at hij
          exact absurd hij (hne i (by omega))
        · rw [if_neg e1, if_neg e2] at hij
          exact hx.2.1 i j (by omega) (by omega) hij
    · rw [List.length_append] at h2
      simp only [List.length_cons, List.length_nil] at h2
      dsimp only
      by_cases e1 : k = g.length
      · rw [if_pos e1]; exact hq
      · rw [if_neg e1]; exact hx.2.2 k h1 (by omega)
  have hP' : va_P D am_cl (am_lay (fun k => if k = g.length then q else ρ k) cA (g ++ [ce])) H1 := by
    rw [am_lay_push, am_lay_ext hρ w3, he, if_pos rfl]
    exact a1
  have hW := hK pc L (.ref g.length :: st) (g ++ [ce]) r h (by rw [List.length_append]; simp only [List.length_cons, List.length_nil]; omega) (by rw [List.length_append]; omega) _ hx' H1 locs ls hP' a3 (am_lh_ext hρ w1 hl)
  rw [List.length_append, show g.length + [ce].length - n0 = g.length - n0 + 1 by simp only [List.length_cons, List.length_nil]; omega] at hW
  rw [List.map_cons, am_st_ext hρ w2] at hW
  have e2 : am_v (fun k => if k = g.length then q else ρ k) (.ref g.length) = .ref q := by
    show Value.ref (if g.length = g.length then q else ρ g.length) = .ref q
    rw [if_pos rfl]
  rw [e2] at hW
  exact W.widen (Nat.le_refl _) (by omega) hW
theorem am_dv_len {a : Nat} {q : vw_C} (h : am_cl[a]? = some q) : (am_dv a).length = q.2.2 := by
  obtain ⟨C, T, N⟩ := q
  unfold am_dv
  rw [h]
  simp
theorem am_dv_at {a : Nat} {q : vw_C} (h : am_cl[a]? = some q) {ty0 : Nat → FieldType} (hty : ∀ k, k < q.2.2 → parseFieldDescriptor (q.2.1 k).2.2.1 = some (ty0 k)) (ρ : Nat → Nat) : ∀ j, j < q.2.2 → defaultValue (ty0 j) = vp_V ((am_dv a).map (am_v ρ)) j := by
  obtain ⟨C, T, N⟩ := q
  intro j hj
  have hty' := hty j hj
  unfold am_dv vp_V
  rw [h]
  dsimp only at hty' hj ⊢
  rw [List.getD_eq_getElem?_getD, List.getElem?_map, List.getElem?_map, List.getElem?_range hj]
  simp only [Option.map_some, Option.getD_some]
  rw [hty']
  cases ty0 j <;> rfl
theorem am_goW2 {cells slots mc ms pc n : Nat} {A : Nat → Prop} {Q : State → Prop} {ρ : Nat → Nat} {H : Heap} {locs : List Loc} {ls : Array Slot} {st0 rest : List Value} {g' : am_W} {a : Array Value} (hr : va_Run p l e R s m args below meth c H locs cells slots mc ms (F0 m pc ls st0) rest (am_Q2 ρ cA D n H.size g' a) (am_A0 ρ n H.size)) (hA : ∀ q, am_A0 ρ n H.size q → A q) (hS : va_S A s.heap H locs)
    (kk : ∀ (ρ' : Nat → Nat) (H1 : Heap) (locs1 : List Loc), am_ext ρ ρ' n g'.length H.size → va_P D am_cl (am_lay ρ' cA g') H1 → va_S A s.heap H1 locs1 → W p l e R s m args below meth c H1 locs1 (cells + mc) (slots + ms) Q (F0 m (pc + 3) ls rest)) : W p l e R s m args below meth c H locs cells slots Q (F0 m pc ls st0) := by
  intro T hT X
  obtain ⟨v, st₀, t, T', L, h0, X', hL, e1, e2, ⟨hv, ⟨ρ', hx', hp⟩, hz, hk⟩, st⟩ := hr T hT X
  cases hv
  rw [h0] at hz hk
  obtain ⟨t2, a1, b1⟩ := kk ρ' T'.heap (locs ++ L) hx' (by rw [e1]; exact hp)
    ⟨Nat.le_trans hS.1 (by rw [e1]; exact hz), fun q h1 h2 => by rw [e1, hk q (Nat.lt_of_lt_of_le h1 hS.1) (fun z => h2 (hA q z))]; exact hS.2.1 q h1 h2, fun q hq => by
      rcases List.mem_append.mp hq with h | h
      · exact hS.2.2 q h
      · exact hA _ (hL q h)⟩ T' rfl X'
  exact ⟨t2, st t2 a1, b1⟩
def am_cx2 (p : Program) (s : State) (m : MethodId) (args : Array Value) (meth : Method) (c : Code) (M : am_M) (cA : Nat → ClassId) (D : va_G) : Prop :=
  p.tables.exec = Jvm.exec ∧ c.code = M.2.1 ∧ c.maxLocals = M.2.2.1 ∧ s.vm.findClass M.1.cls = some m.cls ∧ (∀ w ∈ am_ws M, w.before args s = true) ∧ va_K D am_cl (am_ty cA) s ∧ am_nw s ∧ meth.locks = false ∧ meth.sig.returnType = M.2.2.2.1 ∧ am_ao s ∧ meth.name = "<init>" ∧ M.2.2.2.1 = none
theorem am_tyA {cA : Nat → ClassId} {U : State} (hK : va_K D am_cl (am_ty cA) U) {t : Nat} {ty : FieldType} (ht : (am_ty cA)[t]? = some (cA t, ty)) {cB : ClassId} (hK2 : va_K D am_cl (am_ty cA ++ [(cB, ty)]) U) : cB = cA t := by
  have h1 := (hK.2 t _ ht).2
  have h2 := (hK2.2 (am_ty cA).length (cB, ty) (by rw [List.getElem?_append_right (Nat.le_refl _)]; simp)).2
  cases ty with
  | object C =>
    obtain ⟨_, _, -, -, -, q1⟩ := h1
    obtain ⟨_, _, -, -, -, q2⟩ := h2
    exact Option.some.inj (q2.symm.trans q1)
  | _ => exact Option.some.inj (h2.symm.trans h1)
theorem am_elty {cA : Nat → ClassId} {t : Nat} {q : vw_C} (ht : t < 6) (hc : am_cl[am_el t]? = some q) : (am_ty cA)[t]? = some (cA t, .object q.1) := by
  rcases (show t = 0 ∨ t = 1 ∨ t = 2 ∨ t = 3 ∨ t = 4 ∨ t = 5 by omega) with rfl | rfl | rfl | rfl | rfl | rfl
  · cases hc
  · cases hc
  · cases hc; rfl
  · cases hc; rfl
  · cases hc; rfl
  · cases hc; rfl
theorem am_aoC {U : State} (h : am_ao U) {t : Nat} {q : vw_C} (ht : t < 6) (hc : am_cl[am_el t]? = some q) : va_AO q.1 U := by
  rcases (show t = 0 ∨ t = 1 ∨ t = 2 ∨ t = 3 ∨ t = 4 ∨ t = 5 by omega) with rfl | rfl | rfl | rfl | rfl | rfl
  · cases hc
  · cases hc
  · cases hc; exact h.1
  · cases hc; exact h.2.1
  · cases hc; exact h.2.2.1
  · cases hc; exact h.2.2.2
theorem am_putFW {pc cells slots : Nat} {A : Nat → Prop} {Q : State → Prop} {ρ : Nat → Nat} {g : am_W} {H : Heap} {locs : List Loc} {ls : Array Slot} {rest : List Value} (X : am_cx p s m args meth c M ρ cA D g.length) (hname : meth.name = "<init>") (hP : va_P D am_cl (am_lay ρ cA g) H) (hA : ∀ q, am_A ρ g.length q → A q) (hS : va_S A s.heap H locs) {q ci k kd idx : Nat} {tl : List (Int × Nat)} {fs : List Value} {v : Value} {ty : FieldType} {ins : Instr} (he : g[q]? = some (.inr (ci, fs))) (hl : k < fs.length) (hc : (am_fchk2 M.1.cls idx (ins, ci, k, kd, tl) && am_pchk2 M.1.cls (ins, ci, k, kd, tl)) = true)
    (hfin : ∀ C T N, am_cl[ci]? = some (C, T, N) → (T k).2.2.2 = true ∧ (T k).1 = M.1.cls ∧ parseFieldDescriptor (T k).2.2.1 = some ty) (hn : narrow ty (am_v ρ v) = am_v ρ v) (hfit : fits ty (am_v ρ v) = true) (hd : decode M.2.1 pc = .ok (.putfield idx, 3))
    (kk : ∀ (H1 : Heap) (locs1 : List Loc), va_P D am_cl (am_lay ρ cA (g.set q (.inr (ci, fs.set k v)))) H1 → va_S A s.heap H1 locs1 → W p l e R s m args below meth c H1 locs1 cells slots Q (F0 m (pc + 3) ls rest)) : W p l e R s m args below meth c H locs cells slots Q (F0 m pc ls (am_v ρ v :: .ref (ρ q) :: rest)) := by
  obtain ⟨hx, hb, -, hown, hts, hK, hN, -, -, hρ⟩ := X
  have he' : (am_lay ρ cA g)[q]? = some (ρ q, .inr (ci, fs.map (am_v ρ))) := am_lay_at he
  have hD := (am_lay_D (cA := cA) hρ rfl).weaken (fun _ _ _ h => hA _ h)
  have hl' : k < (fs.map (am_v ρ)).length := by rw [List.length_map]; exact hl
  have e1 : (am_lay ρ cA g).set q (ρ q, .inr (ci, (fs.map (am_v ρ)).set k (am_v ρ v))) = am_lay ρ cA (g.set q (.inr (ci, fs.set k v))) := by
    rw [← am_lay_set]
    show _ = (am_lay ρ cA g).set q (ρ q, .inr (ci, (fs.set k v).map (am_v ρ)))
    rw [List.map_set]
  simp only [Bool.and_eq_true] at hc
  have hc1 := hc.1
  unfold am_fchk2 at hc1
  dsimp only at hc1
  split at hc1
  · rename_i C T N hcl
    obtain ⟨hf, hdc, hp⟩ := hfin C T N hcl
    obtain ⟨ty0, hty, hnm⟩ := (am_cl_ok hcl).2
    simp only [Bool.and_eq_true, decide_eq_true_eq] at hc1
    exact va_putF hx hb hts (am_cl_in hcl M) ty0 hty hnm hown hK hP hD hS q he' hcl k hc1.1 (hts _ (List.mem_cons_of_mem _ (am_in_T hc1.2 rfl))) (fun _ h => h) hf hname hdc hp hn hfit hl' hd (fun H1 locs1 a1 _ a3 => kk H1 locs1 (e1 ▸ a1) a3)
  · cases hc1
set_option maxHeartbeats 16000000 in
theorem am_sim_ex2 (X2 : am_cx2 p s m args meth c M cA D) {d lim mc : Nat} (hR : R = am_rm2 (d + 1) mc) (hlim : lim = n0 + mc) (hm : am_met l mt 4) (hm2 : am_met2 l mt nt nc d) (hmt : ∀ j N, mt j = some N → am_mfacts N) (hnt : ∀ j N, nt j = some N → am_nfacts N) {K : am_K} (hK : am_good2 p l e R s m args below meth c M ρ0 cA D n0 lim Qr K)
    {pc : Nat} {L : am_L} {st : List Value} {g : am_W} {r : am_R} {i : am_I} (h : am_ex2 (am_ev mt 4) (am_new mt nt nc d) nc lim K i pc L st g = some r) (hck0 : am_chkD M.2.1 pc i.1 = true) (hrc : am_rchk M.2.2.2.1 i.1 = true) (hck : am_chk2 M.1.cls mt nt pc i = true) (hsys : am_sysP) (hsys2 : am_sysP2)
    (hEnd : ∀ (pc : Nat) (g : am_W) (ρ : Nat → Nat), g.length = lim → am_ext ρ0 ρ n0 g.length s.heap.size → ∀ (H : Heap) (locs : List Loc) (ls : Array Slot), va_P D am_cl (am_lay ρ cA g) H → va_S (am_A0 ρ0 n0 s.heap.size) s.heap H locs → decode M.2.1 pc = .ok (.return_, 1) → W p l e R s m args below meth c H locs mc (2000 * mc) (Qr (none, g)) (F0 m pc ls []))
    (hn0 : n0 ≤ g.length) {ρ : Nat → Nat} (hxt : am_ext ρ0 ρ n0 g.length s.heap.size) {H : Heap} {locs : List Loc} {ls : Array Slot} (hP : va_P D am_cl (am_lay ρ cA g) H) (hS : va_S (am_A0 ρ0 n0 s.heap.size) s.heap H locs) (hl : am_lh ρ ls M.2.2.1 L) (hle : g.length ≤ lim) : W p l e R s m args below meth c H locs (g.length - n0) (2000 * (g.length - n0)) (Qr r) (F0 m pc ls (st.map (am_v ρ))) := by
  have hD0 : ∃ ln, decode M.2.1 pc = .ok (i.1, ln) ∧ (am_sww i.1 = false → ln = am_len i.1) := by
    unfold am_chkD at hck0
    split at hck0
    · rename_i jj ln hdec
      simp only [Bool.and_eq_true, Bool.or_eq_true, decide_eq_true_eq] at hck0
      refine ⟨ln, by rw [hdec, hck0.1], fun hs => ?_⟩
      rcases hck0.2 with q | q
      · rw [q] at hs; cases hs
      · exact q
    · cases hck0
  have hd : am_sww i.1 = false → decode M.2.1 pc = .ok (i.1, am_len i.1) := fun hs => by
    obtain ⟨ln, q1, q2⟩ := hD0
    rw [q1, q2 hs]
  have X20 := X2
  obtain ⟨hx, hb, hml, hown, hts, hKK, hNw, hlk, hr, hAo, hname, hret⟩ := X2
  have X0 : am_cx p s m args meth c M ρ cA D g.length := ⟨hx, hb, hml, hown, hts, hKK, hNw, hlk, hr, hxt.2.1⟩
  have hAA := am_A_A0 hxt
  have hDD := (am_lay_D (cA := cA) hxt.2.1 rfl).weaken (fun _ _ _ h => hAA _ h)
  have hAh : ∀ q, s.heap.size ≤ q → am_A0 ρ0 n0 s.heap.size q := fun q h => Or.inr h
  have hw : ∀ w ∈ am_T, w.before args s = true := fun w hw => hts w (List.mem_cons_of_mem _ hw)
  have hcl0 : g.length - n0 ≤ R.cells ∧ 2000 * (g.length - n0) ≤ R.slots := by
    subst hR
    refine ⟨?_, ?_⟩
    · show _ ≤ mc; omega
    · show _ ≤ 2000 * mc; omega
  have hgood : am_good p l e R s m args below meth c M ρ cA D g.length (am_A0 ρ0 n0 s.heap.size) (g.length - n0) (2000 * (g.length - n0)) Qr K := by
    intro pc' L' st' g1 r' hk hg1 H1 locs1 ls1 b1 b2 b3
    have := hK pc' L' st' g1 r' hk (by rw [hg1]; exact hle) (by rw [hg1]; exact hn0) ρ (by rw [hg1]; exact hxt) H1 locs1 ls1 b1 b2 b3
    rwa [hg1] at this
  have gow : ∀ {pc' : Nat} {st' : List Value} {g' : am_W} {H1 : Heap} {locs1 : List Loc}, K pc' L st' g' = some r → g'.length = g.length → va_P D am_cl (am_lay ρ cA g') H1 → va_S (am_A0 ρ0 n0 s.heap.size) s.heap H1 locs1 → W p l e R s m args below meth c H1 locs1 (g.length - n0) (2000 * (g.length - n0)) (Qr r) (F0 m pc' ls (st'.map (am_v ρ))) := fun h' hlen a1 a2 => hgood _ _ _ _ _ h' hlen _ _ _ a1 a2 hl
  have old : ∀ (h' : am_ex false (am_ev mt 4) K i pc L st g = some r) (hc' : am_chk M.1.cls mt pc i = true) (hn1 : i.1 ≠ .return_), W p l e R s m args below meth c H locs (g.length - n0) (2000 * (g.length - n0)) (Qr r) (F0 m pc ls (st.map (am_v ρ))) := by
    intro h' hc' hn1
    have h'' := am_ex_mo false i pc L st g _ (am_cal mt 4) K K (am_ev_cal mt 4) (fun _ _ _ _ _ q => q) r h'
    have hdd : (decide (M.2.2.2.1 = some .boolean)) = false := by rw [hret]; rfl
    rw [← hdd] at h''
    refine am_sim_ex X0 ⟨by subst hR; show 4 + 2 ≤ d + 1 + 8; omega, by subst hR; show 64 * (4 + 2) ≤ 64 * (d + 1 + 8); omega, hcl0.1, hcl0.2⟩ hAA hm hmt hgood h'' hck0 hrc hc' (Or.inl hret) hsys ?_ ?_ rfl hP hS hl
    · intro x g1 _ H1 locs1 ls1 _ _ hq _
      rcases hq with q | q
      · rw [hret] at q; cases q
      · rw [hret] at q; cases q.1
    · intro g1 _ H1 locs1 ls1 _ _ _ hdec
      obtain ⟨ln, q1, -⟩ := hD0
      rw [q1] at hdec
      have := (Prod.mk.inj (Except.ok.inj hdec)).1
      exact absurd this hn1
  obtain ⟨ins, a, b, kd, tl⟩ := i
  cases ins with
  | new k =>
    dsimp only [am_ex2] at h
    obtain ⟨hc, h⟩ := am_if_some h
    simp only [Bool.and_eq_true] at hc
    obtain ⟨⟨hc1, hc2⟩, hc3⟩ := hc
    have hlt : g.length < lim := Nat.le_of_ble_eq_true hc2
    simp only [am_chk2] at hck
    split at hck
    · rename_i C T N hcl
      simp only [Bool.and_eq_true] at hck
      obtain ⟨ty0, hty, hnm⟩ := (am_cl_ok hcl).2
      have hN : N ≤ 2000 := by
        have := Nat.le_of_ble_eq_true hc3
        rw [am_dv_len hcl] at this
        exact this
      refine va_new hx hb hts (am_cl_in hcl M) ty0 hty hown (hw _ (am_in_T hck.1.1 rfl)) (hw _ (am_in_T hck.1.2 rfl)) (hw _ (am_in_T hck.2 rfl)) hKK hP hDD hS hAh hcl (fs := (am_dv a).map (am_v ρ)) (am_dv_at hcl hty ρ) ?_ ?_ (hd rfl) (fun q H1 a1 a2 a3 => ?_)
      · subst hR; show _ ≤ mc; omega
      · subst hR; show 2000 * (g.length - n0) + N ≤ 2000 * mc; omega
      · have hmap : ∀ ρ' : Nat → Nat, (am_dv a).map (am_v ρ') = (am_dv a).map (am_v ρ) := by
          intro ρ'
          refine List.map_congr_left (fun v hv => ?_)
          unfold am_dv at hv
          rw [hcl] at hv
          obtain ⟨j, -, hj⟩ := List.mem_map.mp hv
          subst hj
          split
          · rename_i t _
            cases t <;> rfl
          · rfl
        exact am_born (ce := .inr (a, am_dv a)) hK h hc1 hlt hn0 hxt (fun ρ' => by show (.inr (a, (am_dv a).map (am_v ρ')) : va_E) = _; rw [hmap ρ']) hN a1 a2 a3 hl
    · cases hck
  | newarray ty =>
    dsimp only [am_ex2] at h
    split at h
    · rename_i nn r'
      obtain ⟨hc, h⟩ := am_if_some h
      simp only [Bool.and_eq_true] at hc
      obtain ⟨⟨hc1, hc2⟩, hc3⟩ := hc
      have hlt : g.length < lim := Nat.le_of_ble_eq_true hc2
      have hN := Nat.le_of_ble_eq_true hc3
      split at h
      · cases h
      · rename_i hneg
        split at h
        · refine va_newa (atype := .int) (a0 := (nn.toNatClampNeg, .inl (fun _ => 0))) hx hb (hw _ (am_in_T hck rfl)) rfl hKK hP hDD hS hAh (fun _ => rfl) hneg rfl (by show _ * 4 ≤ _; omega) ?_ ?_ (hd rfl) (fun q cB H1 k1 a1 a2 a3 => ?_)
          · subst hR; show _ ≤ mc; omega
          · subst hR; show _ ≤ 2000 * mc; omega
          · have hcB : cB = cA 0 := am_tyA hKK (t := 0) rfl k1
            subst hcB
            exact am_born (ce := .inl (0, nn.toNatClampNeg, .inl (fun _ => 0))) hK h hc1 hlt hn0 hxt (fun _ => rfl) hN a1 a2 a3 hl
        · refine va_newa (atype := .boolean) (a0 := (nn.toNatClampNeg, .inl (fun _ => 0))) hx hb (hw _ (am_in_T hck rfl)) rfl hKK hP hDD hS hAh (fun _ => rfl) hneg rfl (by show _ * 1 ≤ _; omega) ?_ ?_ (hd rfl) (fun q cB H1 k1 a1 a2 a3 => ?_)
          · subst hR; show _ ≤ mc; omega
          · subst hR; show _ ≤ 2000 * mc; omega
          · have hcB : cB = cA 1 := am_tyA hKK (t := 1) rfl k1
            subst hcB
            exact am_born (ce := .inl (1, nn.toNatClampNeg, .inl (fun _ => 0))) hK h hc1 hlt hn0 hxt (fun _ => rfl) hN a1 a2 a3 hl
        · cases h
    · cases h
  | anewarray k =>
    dsimp only [am_ex2] at h
    split at h
    · rename_i nn r'
      obtain ⟨hc, h⟩ := am_if_some h
      simp only [Bool.and_eq_true] at hc
      obtain ⟨⟨⟨hc1, hc2⟩, hc3⟩, hc4, hc5⟩ := hc
      have hlt : g.length < lim := Nat.le_of_ble_eq_true hc2
      have hN := Nat.le_of_ble_eq_true hc3
      have ht6 : a < 6 := Nat.le_of_ble_eq_true hc5
      split at h
      · cases h
      · rename_i hneg
        simp only [am_chk2] at hck
        split at hck
        · rename_i C T N hcl
          refine va_newq (C := C) hx hb hown (hw _ (am_in_T hck rfl)) (am_aoC hAo ht6 hcl) hKK hP hDD hS hAh hneg rfl (by omega) ?_ ?_ (hd rfl) (fun q cB H1 k1 a1 a2 a3 => ?_)
          · subst hR; show _ ≤ mc; omega
          · subst hR; show _ ≤ 2000 * mc; omega
          · have hcB : cB = cA a := am_tyA hKK (t := a) (am_elty ht6 hcl) k1
            subst hcB
            refine am_born (ce := .inl (a, nn.toNatClampNeg, .inr (fun _ => none))) hK h hc1 hlt hn0 hxt (fun _ => ?_) hN a1 a2 a3 hl
            show (.inl (cA a, nn.toNatClampNeg, .inr (.inr (.inr (.inr (fun j => if j < nn.toNatClampNeg then none else none))))) : va_E) = _
            congr
            funext j
            split <;> rfl
        · cases hck
    · cases h
  | invokespecial k =>
    dsimp only [am_ex2] at h
    simp only [am_chk2] at hck
    cases h9 : Nat.beq a 990 with
    | true =>
      rw [h9] at h
      rw [if_pos (Nat.eq_of_beq_eq_true h9)] at hck
      unfold am_if am_b3 am_b2 am_b1 am_b0 at h
      dsimp only at h
      split at h
      · rename_i q r'
        obtain ⟨hroom, h⟩ := am_if_some h
        have hsum := Nat.le_of_ble_eq_true hroom
        refine W.objInit hx hb hown (hw _ (am_in_T hck rfl)) (hw _ hsys2.1) (hw _ hsys2.2) rfl (by rw [hml]; exact hl.1) rfl (hd rfl) ?_ ?_ (gow h rfl hP hS)
        · subst hR; show 1 ≤ d + 1 + 8; omega
        · rw [am_v_cats]
          subst hR
          show 2 * 0 + _ + 12 ≤ 64 * (d + 1 + 8)
          omega
      · cases h
    | false =>
      rw [h9] at h
      rw [if_neg (Nat.ne_of_beq_eq_false h9)] at hck
      replace h := (show am_if _ _ none = some r from h)
      obtain ⟨hc, h⟩ := am_if_some h
      simp only [Bool.and_eq_true] at hc
      obtain ⟨⟨⟨w1, w2⟩, w3⟩, w4⟩ := hc
      have hk := Nat.le_of_ble_eq_true w2
      have hroom := Nat.le_of_ble_eq_true w3
      have hlm := Nat.le_of_ble_eq_true w4
      obtain ⟨g', hnew, h2⟩ := Option.bind_eq_some_iff.mp h
      obtain ⟨hlen', h2⟩ := am_if_some h2
      have hlg := Nat.eq_of_beq_eq_true hlen'
      split at hck
      · rename_i N hN
        simp only [Bool.and_eq_true, Bool.or_eq_true, decide_eq_true_eq] at hck
        obtain ⟨f1, f2, f3, f4, f5, f6, f7, f8⟩ := hnt a N hN
        have hmet := hm2 a _ g g' N hN hnew ρ cA D H.size hxt.2.1
        obtain ⟨y, bytes, maxL, ret, ci, cdd⟩ := N
        dsimp only at f1 f2 f3 f4 f5 f6 f7 f8 hck hmet
        subst f6
        cases d with
        | zero => cases hnew
        | succ d =>
        have hgT := am_good_T (y, bytes, maxL, none, ci, cdd) f2 M
        have hini : (Cond.initialized y.cls).before args s = true := hw _ (List.mem_filter.mpr ⟨f3, rfl⟩)
        have hinst : (Cond.instanceMethod y).before args s = true := hw _ (List.mem_filter.mpr ⟨f8, rfl⟩)
        have hstk : st.map (am_v ρ) = (((st.take b).reverse).map (am_v ρ)).reverse ++ (st.drop b).map (am_v ρ) := by
          rw [← List.map_reverse, List.reverse_reverse, ← List.map_append, List.take_append_drop]
        have hlenb : ((st.take b).reverse).length = b := by rw [List.length_reverse, List.length_take]; omega
        have hroom' : (((st.drop b).map (am_v ρ)).map fun v => v.category).sum ≤ 8 := by rw [am_v_cats]; exact hroom
        have hpre : ∀ U : State, U.heap = H → s.WarmedH U.vm → am_Pc2 ρ cA D (st.take b).reverse g H.size ((st.take b).reverse.map (am_v ρ)).toArray U := fun U hU hW => ⟨rfl, by rw [hU], by rw [hU]; exact hP, va_K.moved hW.alike hKK, am_nw.warm hW hNw, am_ao.moved hW.alike hAo⟩
        have hrm : (am_rm2 (d + 1) (nc a)).frames + 1 ≤ R.frames ∧ 8 + (maxL + 11) + (am_rm2 (d + 1) (nc a)).locals ≤ R.locals := by
          subst hR
          refine ⟨Nat.le_refl _, ?_⟩
          show 8 + (maxL + 11) + 64 * (d + 1 + 8) ≤ 64 * (d + 1 + 1 + 8)
          omega
        have hcs : g.length - n0 + nc a ≤ R.cells ∧ 2000 * (g.length - n0) + 2000 * nc a ≤ R.slots := by
          subst hR
          refine ⟨?_, ?_⟩
          · show _ ≤ mc; omega
          · show _ ≤ 2000 * mc; omega
        rw [hstk]
        -- the receiver is the first of what is taken
        cases hrev : (st.take b).reverse with
        | nil =>
          rw [hrev] at hlenb
          have hb0 : b = 0 := hlenb.symm
          have hq := hck.2
          rw [hb0] at hq
          cases hz : am_npar y with
          | none => rw [hz] at hq; cases hq
          | some z => rw [hz] at hq; cases hq
        | cons v0 as' =>
          rw [hrev] at hlenb hmet hpre hnew
          have hv0 : ∃ k0, v0 = .ref k0 := by
            unfold am_new at hnew
            rw [hN] at hnew
            obtain ⟨hgd, -⟩ := am_if_some hnew
            simp only [Bool.and_eq_true] at hgd
            have := hgd.2
            unfold am_isR at this
            split at this
            · rename_i heq
              cases heq
              exact ⟨_, rfl⟩
            · cases this
          obtain ⟨k0, rfl⟩ := hv0
          have hn' : am_npar y = some (as'.map (am_v ρ)).length := by
            rw [List.length_map]
            have hq := hck.2
            cases hz : am_npar y with
            | none => rw [hz] at hq; cases hq
            | some z =>
              rw [hz, ← hlenb] at hq
              have := Option.some.inj hq
              simp at this
              rw [this]
          have hstack : (List.map (am_v ρ) (Value.ref k0 :: as')).reverse ++ (st.drop b).map (am_v ρ) = (as'.map (am_v ρ)).reverse ++ Value.ref (ρ k0) :: (st.drop b).map (am_v ρ) := by
            simp [am_v]
          rw [hstack]
          have hAA2 : ∀ q, am_A0 ρ g.length H.size q → am_A0 ρ0 n0 s.heap.size q := by
            intro q hq
            rcases hq with hq | hq
            · exact hAA q hq
            · exact Or.inr (Nat.le_trans hS.1 hq)
          unfold am_wf at w1
          simp only [Bool.and_eq_true] at w1
          have hcont : ∀ (ρ' : Nat → Nat) (H1 : Heap) (locs1 : List Loc), am_ext ρ ρ' g.length g'.length H.size → va_P D am_cl (am_lay ρ' cA g') H1 → va_S (am_A0 ρ0 n0 s.heap.size) s.heap H1 locs1 → W p l e R s m args below meth c H1 locs1 (g.length - n0 + nc a) (2000 * (g.length - n0) + 2000 * nc a) (Qr r) (F0 m (pc + 3) ls ((st.drop b).map (am_v ρ))) := by
            intro ρ' H1 locs1 hx' hP' hS'
            have hx2 : am_ext ρ0 ρ' n0 g'.length s.heap.size := by
              refine ⟨fun k hk => by rw [hx'.1 k (Nat.lt_of_lt_of_le hk hn0)]; exact hxt.1 k hk, hx'.2.1, fun k h1 h3 => ?_⟩
              by_cases hkg : k < g.length
              · rw [hx'.1 k hkg]; exact hxt.2.2 k h1 hkg
              · exact Nat.le_trans hS.1 (hx'.2.2 k (Nat.le_of_not_lt hkg) h3)
            have hW := hK (pc + 3) L (st.drop b) g' r h2 (by omega) (by omega) ρ' hx2 H1 locs1 ls hP' hS' (am_lh_ext hx'.1 w1.1.1 hl)
            rw [am_st_ext hx'.1 w1.1.2, show g'.length - n0 = g.length - n0 + nc a by omega, Nat.mul_add] at hW
            exact hW
          rcases hck.1 with hlk2 | hlk2
          · have cb := callB_of (R := R) (s := s) (args := args) (Ts := am_ws M) (own := M.1.cls) (index := k) (y := y) (bytes := bytes) (maxL := maxL) (ret := none) (ws := am_ws (y, bytes, maxL, none, ci, cdd)) (ws' := am_T) (rm := am_rm2 (d + 1) (nc a)) (mc := nc a) (ms := 2000 * nc a) (as'.map (am_v ρ)).length hts hgT rfl rfl rfl hini (hw _ (am_in_T hlk2 rfl)) ⟨f4.1, f4.2, hn'⟩ hrm
            exact am_goW2 (va_runI ⟨hx, hb, hml, hown, hts⟩ hmet ⟨cb, f7, hinst⟩ ⟨am_blind2 ρ cA D _ g _, hpre⟩ rfl rfl hl.1 rfl (lv_room hroom') (hd rfl) hcs) hAA2 hS hcont
          · have cb := va_cnB (R := R) (s := s) (args := args) (Ts := am_ws M) (own := M.1.cls) (host := "WrittenColumns") (index := k) (y := y) (bytes := bytes) (maxL := maxL) (ret := none) (ws := am_ws (y, bytes, maxL, none, ci, cdd)) (ws' := am_T) (rm := am_rm2 (d + 1) (nc a)) (mc := nc a) (ms := 2000 * nc a) (as'.map (am_v ρ)).length hts hgT rfl rfl rfl (hNw _ (am_in_mem hlk2) rfl) hini ⟨f4.1, f4.2, hn'⟩ hrm
            exact am_goW2 (va_runIN ⟨hx, hb, hml, hown, hts⟩ hmet ⟨cb, f7, hinst⟩ ⟨am_blind2 ρ cA D _ g _, hpre⟩ rfl rfl hl.1 rfl (lv_room hroom') (hd rfl) hcs) hAA2 hS hcont
      · cases hck
  | putfield k =>
    dsimp only [am_ex2] at h
    simp only [am_chk2] at hck
    cases h5 : Nat.beq kd 5 with
    | true =>
      have hkd : kd = 5 := Nat.eq_of_beq_eq_true h5
      rw [h5] at h
      rw [if_pos (Or.inl hkd)] at hck
      unfold am_if am_b3 am_b2 am_b1 am_b0 at h
      dsimp only at h
      split at h
      · obtain ⟨g', hx1, h2⟩ := Option.bind_eq_some_iff.mp h
        have hlen := am_sF_len hx1
        obtain ⟨fs, e1, e2, e3⟩ := am_sF_to hx1
        subst e3
        refine am_putFW (v := .int _) (ty := .int) X0 hname hP hAA hS e1 e2 hck (fun C T N hcl => ?_) rfl rfl (hd rfl) (fun H1 locs1 a1 a2 => gow h2 hlen a1 a2)
        simp only [Bool.and_eq_true] at hck
        have hq := hck.2
        unfold am_pchk2 at hq
        dsimp only at hq
        rw [hcl, hkd] at hq
        simp only [Bool.and_eq_true, decide_eq_true_eq] at hq
        exact ⟨hq.1.1, hq.1.2, hq.2⟩
      · cases h
    | false =>
      rw [h5] at h
      replace h := (show am_if (Nat.beq kd 6) _ _ = some r from h)
      cases h6 : Nat.beq kd 6 with
      | true =>
        have hkd : kd = 6 := Nat.eq_of_beq_eq_true h6
        rw [h6] at h
        rw [if_pos (Or.inr hkd)] at hck
        unfold am_if am_b3 am_b2 am_b1 am_b0 at h
        dsimp only at h
        split at h
        · obtain ⟨g', hx1, h2⟩ := Option.bind_eq_some_iff.mp h
          have hlen := am_sF_len hx1
          obtain ⟨fs, e1, e2, e3⟩ := am_sF_to hx1
          subst e3
          have hob : ∃ ty : FieldType, (∀ x : Nat, narrow ty (.ref x) = .ref x ∧ fits ty (.ref x) = true) ∧ ∀ C T N, am_cl[a]? = some (C, T, N) → (T b).2.2.2 = true ∧ (T b).1 = M.1.cls ∧ parseFieldDescriptor (T b).2.2.1 = some ty := by
            simp only [Bool.and_eq_true] at hck
            have hq := hck.2
            unfold am_pchk2 at hq
            dsimp only at hq
            split at hq
            · rename_i C T N hcl
              rw [hkd] at hq
              simp only [Bool.and_eq_true, decide_eq_true_eq] at hq
              obtain ⟨⟨q1, q2⟩, q3⟩ := hq
              split at q3
              · rename_i C0 hC0
                exact ⟨.object C0, fun x => ⟨rfl, rfl⟩, fun C' T' N' hcl' => by
                  cases hcl.symm.trans hcl'
                  exact ⟨q1, q2, hC0⟩⟩
              · rename_i C0 hC0
                exact ⟨.array C0, fun x => ⟨rfl, rfl⟩, fun C' T' N' hcl' => by
                  cases hcl.symm.trans hcl'
                  exact ⟨q1, q2, hC0⟩⟩
              · cases q3
            · cases hq
          obtain ⟨ty, hty1, hty2⟩ := hob
          exact am_putFW (v := .ref _) (ty := ty) X0 hname hP hAA hS e1 e2 hck hty2 (hty1 _).1 (hty1 _).2 (hd rfl) (fun H1 locs1 a1 a2 => gow h2 hlen a1 a2)
        · cases h
      | false =>
        rw [h6] at h
        rw [if_neg (by rintro (q | q); exact Nat.ne_of_beq_eq_false h5 q; exact Nat.ne_of_beq_eq_false h6 q)] at hck
        exact old h hck (fun q => by cases q)
  | aastore =>
    dsimp only [am_ex2] at h
    split at h
    · rename_i v x q r'
      obtain ⟨g', hx1, h2⟩ := Option.bind_eq_some_iff.mp h
      obtain ⟨t, nn, f, ci, fs, e1, e2, e3, e4, e5, e6⟩ := am_sR_to hx1
      subst e6
      cases hcq : am_cl[ci]? with
      | none =>
        have hlt6 : t < 6 := e4
        exfalso
        rw [← e3] at hcq
        have h0 := (hP v _ (am_lay_at e2))
        obtain ⟨rr, hrr, -⟩ := h0
        rw [← e3] at hrr
        exact absurd (hcq.symm.trans hrr) (by simp)
      | some qq =>
        have hlen : (g.set q (.inl (t, nn, .inr (va_up f x.toNatClampNeg (some v))))).length = g.length := List.length_set
        have hty := am_elty (cA := cA) e4 (by rw [e3]; exact hcq)
        refine va_astq (cA := cA t) (r := qq) hx hb hKK hP hDD hS q t v ci (am_lay_at e1) hty (am_lay_at e2) hcq e5 (hd rfl) (fun H1 locs1 a1 _ a3 => gow h2 hlen ?_ a3)
        rw [← am_lay_set]
        have hxl : x.toNatClampNeg < nn := Nat.not_le.mp fun z => e5 (Or.inr z)
        have hfun : (fun j => if j < nn then (va_up f x.toNatClampNeg (some v) j).map ρ else none) = va_up (fun j => if j < nn then (f j).map ρ else none) x.toNatClampNeg (some (ρ v)) := by
          funext j
          unfold va_up
          by_cases hj : j = x.toNatClampNeg
          · subst hj
            simp [hxl]
          · simp [hj]
        show va_P D am_cl ((am_lay ρ cA g).set q (ρ q, .inl (cA t, nn, .inr (.inr (.inr (.inr (fun j => if j < nn then (va_up f x.toNatClampNeg (some v) j).map ρ else none))))))) H1
        rw [hfun]
        exact a1
    · cases h
  | return_ =>
    dsimp only [am_ex2] at h
    split at h
    · obtain ⟨hb1, h⟩ := am_if_some h
      have hlg := Nat.eq_of_beq_eq_true hb1
      cases h
      have := hEnd pc g ρ hlg hxt H locs ls hP hS (hd rfl)
      rw [show mc = g.length - n0 by omega] at this
      exact this
    · cases h
  | _ => exact old h hck (fun q => by cases q)
theorem am_sim_rn2 (X2 : am_cx2 p s m args meth c M cA D) {d lim mc : Nat} (hR : R = am_rm2 (d + 1) mc) (hlim : lim = n0 + mc) (hm : am_met l mt 4) (hm2 : am_met2 l mt nt nc d) (hmt : ∀ j N, mt j = some N → am_mfacts N) (hnt : ∀ j N, nt j = some N → am_nfacts N) (hck : ∀ (pc : Nat) (i : am_I), M.2.2.2.2.2 pc = some i → (am_chkD M.2.1 pc i.1 = true ∧ am_rchk M.2.2.2.1 i.1 = true) ∧ am_chk2 M.1.cls mt nt pc i = true) (hsys : am_sysP) (hsys2 : am_sysP2)
    (hEnd : ∀ (pc : Nat) (g : am_W) (ρ : Nat → Nat), g.length = lim → am_ext ρ0 ρ n0 g.length s.heap.size → ∀ (H : Heap) (locs : List Loc) (ls : Array Slot), va_P D am_cl (am_lay ρ cA g) H → va_S (am_A0 ρ0 n0 s.heap.size) s.heap H locs → decode M.2.1 pc = .ok (.return_, 1) → W p l e R s m args below meth c H locs mc (2000 * mc) (Qr (none, g)) (F0 m pc ls [])) :
    ∀ k (pc : Nat) (L : am_L) (st : List Value) (g : am_W) (r : am_R), am_rn2 (am_ev mt 4) (am_new mt nt nc d) nc lim M.2.2.2.2.2 k pc L st g = some r → g.length ≤ lim → n0 ≤ g.length → ∀ (ρ : Nat → Nat), am_ext ρ0 ρ n0 g.length s.heap.size → ∀ (H : Heap) (locs : List Loc) (ls : Array Slot), va_P D am_cl (am_lay ρ cA g) H → va_S (am_A0 ρ0 n0 s.heap.size) s.heap H locs → am_lh ρ ls M.2.2.1 L → W p l e R s m args below meth c H locs (g.length - n0) (2000 * (g.length - n0)) (Qr r) (F0 m pc ls (st.map (am_v ρ))) := by
  intro k
  induction k with
  | zero => intro pc L st g r h; cases h
  | succ k ih =>
    intro pc L st g r h hle hn0 ρ hxt H locs ls hP hS hl
    unfold am_rn2 at h
    cases hi : M.2.2.2.2.2 pc with
    | none => rw [hi] at h; cases h
    | some i =>
      rw [hi] at h
      obtain ⟨⟨k1, k2⟩, k3⟩ := hck pc i hi
      exact am_sim_ex2 X2 hR hlim hm hm2 hmt hnt ih h k1 k2 k3 hsys hsys2 hEnd hn0 hxt hP hS hl hle
end AMN
theorem am_meets2 (l : Launch) (mt nt : Nat → Option am_M) (nc : Nat → Nat) (hmt : ∀ j N, mt j = some N → am_mok mt N) (hnt : ∀ j N, nt j = some N → am_nok mt nt N) (hsys : am_sysP) (hsys2 : am_sysP2) : ∀ d, am_met2 l mt nt nc d := by
  intro d
  induction d with
  | zero => intro j as g g' M _ h; cases h
  | succ d ih =>
    intro j as g g' M hj h ρ0 cA D sz hinj
    unfold am_new at h
    rw [hj] at h
    dsimp only at h
    obtain ⟨h1, h⟩ := am_if_some h
    simp only [Bool.and_eq_true, List.all_eq_true, beq_iff_eq] at h1
    obtain ⟨⟨ha1, ha2⟩, -⟩ := h1
    have ha2 := Nat.le_of_ble_eq_true ha2
    have hrun := am_cV_to h
    obtain ⟨hf, hck⟩ := am_nok_facts (hnt j M hj)
    obtain ⟨f1, f2, f3, f4, f5, f6, f7, f8⟩ := hf
    refine Met.ofW (cc := M.2.1) (maxL := M.2.2.1) (ret := M.2.2.2.1) (ws' := am_T) f1 rfl ?_
    intro p e s m args below meth c s₁ B hml hv
    obtain ⟨rfl, hsz, hP, hK, hN, hAo⟩ := hv
    subst hsz
    have hts := atoms_spec (ws := am_ws M) B.pre
    have hnm : meth.name = "<init>" := ((name_of_methodNamed B.named B.method).1).trans f7
    have X2 : am_cx2 p s m (as.map (am_v ρ0)).toArray meth c M cA D := ⟨B.exec, B.bytes, hml, findClass_of_methodNamed B.named, hts, hK, hN, B.notSynchronized, B.returns, hAo, hnm, f6⟩
    have hS : va_S (am_A0 ρ0 g.length s.heap.size) s.heap s.heap [] := va_S.rf
    have hc1 : ∀ v ∈ as, (am_v ρ0 v).category = 1 := fun v hv => by rw [am_v_cat]; exact ha1 v hv
    have hl := am_lh_entry (ρ := ρ0) (nL := M.2.2.1) hc1 ha2
    have hx0 : am_ext ρ0 ρ0 g.length g.length s.heap.size := ⟨fun _ _ => rfl, hinj, fun k h1 h2 => by omega⟩
    rw [lg_entry_eq]
    have hW := am_sim_rn2 (e := e) (below := below) (R := am_rm2 (d + 1) (nc j)) (n0 := g.length) (lim := g.length + nc j) (Qr := fun r => MQ below (am_Q2 ρ0 cA D g.length s.heap.size r.2) (as.map (am_v ρ0)).toArray s (nc j) (2000 * nc j) (am_A0 ρ0 g.length s.heap.size)) X2 rfl rfl (am_meets l mt hmt hsys 4) ih (fun j' N' hj' => (am_mok_facts (hmt j' N' hj')).1) (fun j' N' hj' => (am_nok_facts (hnt j' N' hj')).1) hck hsys hsys2 ?_ 3000 _ _ _ _ _ hrun (by omega) (Nat.le_refl _) ρ0 hx0 _ _ _ hP hS hl
    · rw [Nat.sub_self] at hW
      exact hW
    · intro pc g1 ρ hg1 hx1 H locs ls hP' hS' hd
      exact W.vret B.exec B.bytes (by rw [B.returns, f6]) (fun t ht hW => ⟨rfl, ⟨ρ, hx1, by rw [ht]; exact hP'⟩, hS'.F ht⟩) hS'.2.2 hd
end
