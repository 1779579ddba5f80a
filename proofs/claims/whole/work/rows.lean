section
-- ===== PART A: goes FIRST, ahead of the names: the tables' words, and 'selects' of the private methods out of them =====
/-- a private method of a class that the tables say can be made, by its rows of tables_1 -/
def lw_okq (q : MethodName × Nat) : Prop := (q.1.cls ≠ "java/lang/invoke/MethodHandle" ∧ q.1.cls ≠ "java/lang/invoke/VarHandle") ∧ Cond.instantiable q.1.cls q.2 ∈ tables_1 ∧ Cond.privateMethod q.1 ∈ tables_1 ∧ Cond.instanceMethod q.1 ∈ tables_1
theorem lw_p0 : lw_okq (⟨"WrittenColumns$Matrix", "keepLeft", "(II)V"⟩, 7) := ⟨⟨by decide +kernel, by decide +kernel⟩, List.mem_of_getElem? (i := 95) (by decide +kernel), List.mem_of_getElem? (i := 414) (by decide +kernel), List.mem_of_getElem? (i := 415) (by decide +kernel)⟩
theorem lw_p1 : lw_okq (⟨"WrittenColumns$Cause", "say", "(IIII)V"⟩, 5) := ⟨⟨by decide +kernel, by decide +kernel⟩, List.mem_of_getElem? (i := 68) (by decide +kernel), List.mem_of_getElem? (i := 437) (by decide +kernel), List.mem_of_getElem? (i := 438) (by decide +kernel)⟩
theorem lw_p2 : lw_okq (⟨"WrittenColumns$Cause", "findInNumbers", "(LWrittenColumns$Sheet;I)Z"⟩, 5) := ⟨⟨by decide +kernel, by decide +kernel⟩, List.mem_of_getElem? (i := 68) (by decide +kernel), List.mem_of_getElem? (i := 441) (by decide +kernel), List.mem_of_getElem? (i := 442) (by decide +kernel)⟩
theorem lw_p3 : lw_okq (⟨"WrittenColumns$Cause", "findInTwos", "(LWrittenColumns$Sheet;I)Z"⟩, 5) := ⟨⟨by decide +kernel, by decide +kernel⟩, List.mem_of_getElem? (i := 68) (by decide +kernel), List.mem_of_getElem? (i := 448) (by decide +kernel), List.mem_of_getElem? (i := 449) (by decide +kernel)⟩
theorem lw_p4 : lw_okq (⟨"WrittenColumns$Cause", "lacksOneFo\x72", "(III)Z"⟩, 5) := ⟨⟨by decide +kernel, by decide +kernel⟩, List.mem_of_getElem? (i := 68) (by decide +kernel), List.mem_of_getElem? (i := 452) (by decide +kernel), List.mem_of_getElem? (i := 453) (by decide +kernel)⟩
theorem lw_p5 : lw_okq (⟨"WrittenColumns", "isSetOf", "(II)Z"⟩, 12) := ⟨⟨by decide +kernel, by decide +kernel⟩, List.mem_of_getElem? (i := 17) (by decide +kernel), List.mem_of_getElem? (i := 470) (by decide +kernel), List.mem_of_getElem? (i := 471) (by decide +kernel)⟩
theorem lw_p6 : lw_okq (⟨"WrittenColumns$View", "isCircuit", "(I)Z"⟩, 2) := ⟨⟨by decide +kernel, by decide +kernel⟩, List.mem_of_getElem? (i := 39) (by decide +kernel), List.mem_of_getElem? (i := 501) (by decide +kernel), List.mem_of_getElem? (i := 502) (by decide +kernel)⟩
theorem lw_p7 : lw_okq (⟨"WrittenColumns$Numbering", "agrees", "(LWrittenColumns$View;LWrittenColumns$View;I)Z"⟩, 1) := ⟨⟨by decide +kernel, by decide +kernel⟩, List.mem_of_getElem? (i := 221) (by decide +kernel), List.mem_of_getElem? (i := 606) (by decide +kernel), List.mem_of_getElem? (i := 607) (by decide +kernel)⟩
theorem lw_p8 : lw_okq (⟨"WrittenColumns$Write\x72", "layOutColumn", "(I)V"⟩, 12) := ⟨⟨by decide +kernel, by decide +kernel⟩, List.mem_of_getElem? (i := 144) (by decide +kernel), List.mem_of_getElem? (i := 628) (by decide +kernel), List.mem_of_getElem? (i := 629) (by decide +kernel)⟩
theorem lw_p9 : lw_okq (⟨"WrittenColumns$Write\x72", "addPlace", "(II)V"⟩, 12) := ⟨⟨by decide +kernel, by decide +kernel⟩, List.mem_of_getElem? (i := 144) (by decide +kernel), List.mem_of_getElem? (i := 634) (by decide +kernel), List.mem_of_getElem? (i := 635) (by decide +kernel)⟩
theorem lw_p10 : lw_okq (⟨"WrittenColumns$Write\x72", "join", "(II)Z"⟩, 12) := ⟨⟨by decide +kernel, by decide +kernel⟩, List.mem_of_getElem? (i := 144) (by decide +kernel), List.mem_of_getElem? (i := 638) (by decide +kernel), List.mem_of_getElem? (i := 639) (by decide +kernel)⟩
theorem lw_p11 : lw_okq (⟨"WrittenColumns$Write\x72", "keep", "()V"⟩, 12) := ⟨⟨by decide +kernel, by decide +kernel⟩, List.mem_of_getElem? (i := 144) (by decide +kernel), List.mem_of_getElem? (i := 646) (by decide +kernel), List.mem_of_getElem? (i := 647) (by decide +kernel)⟩
theorem lw_p12 : lw_okq (⟨"WrittenColumns$Write\x72", "isLastOfColumn", "(I)Z"⟩, 12) := ⟨⟨by decide +kernel, by decide +kernel⟩, List.mem_of_getElem? (i := 144) (by decide +kernel), List.mem_of_getElem? (i := 654) (by decide +kernel), List.mem_of_getElem? (i := 655) (by decide +kernel)⟩
theorem lw_p13 : lw_okq (⟨"WrittenColumns$Write\x72", "fits", "(I)Z"⟩, 12) := ⟨⟨by decide +kernel, by decide +kernel⟩, List.mem_of_getElem? (i := 144) (by decide +kernel), List.mem_of_getElem? (i := 658) (by decide +kernel), List.mem_of_getElem? (i := 659) (by decide +kernel)⟩
theorem lw_p14 : lw_okq (⟨"WrittenColumns$Exclude\x72", "sortForTwo", "()I"⟩, 5) := ⟨⟨by decide +kernel, by decide +kernel⟩, List.mem_of_getElem? (i := 194) (by decide +kernel), List.mem_of_getElem? (i := 704) (by decide +kernel), List.mem_of_getElem? (i := 705) (by decide +kernel)⟩
theorem lw_p15 : lw_okq (⟨"WrittenColumns$Exclude\x72", "sortForThree", "()I"⟩, 5) := ⟨⟨by decide +kernel, by decide +kernel⟩, List.mem_of_getElem? (i := 194) (by decide +kernel), List.mem_of_getElem? (i := 712) (by decide +kernel), List.mem_of_getElem? (i := 713) (by decide +kernel)⟩
def lw_privs_1 : List (MethodName × Nat) := [(⟨"WrittenColumns$Matrix", "keepLeft", "(II)V"⟩, 7), (⟨"WrittenColumns$Cause", "say", "(IIII)V"⟩, 5), (⟨"WrittenColumns$Cause", "findInNumbers", "(LWrittenColumns$Sheet;I)Z"⟩, 5), (⟨"WrittenColumns$Cause", "findInTwos", "(LWrittenColumns$Sheet;I)Z"⟩, 5), (⟨"WrittenColumns$Cause", "lacksOneFo\x72", "(III)Z"⟩, 5), (⟨"WrittenColumns", "isSetOf", "(II)Z"⟩, 12), (⟨"WrittenColumns$View", "isCircuit", "(I)Z"⟩, 2), (⟨"WrittenColumns$Numbering", "agrees", "(LWrittenColumns$View;LWrittenColumns$View;I)Z"⟩, 1), (⟨"WrittenColumns$Write\x72", "layOutColumn", "(I)V"⟩, 12), (⟨"WrittenColumns$Write\x72", "addPlace", "(II)V"⟩, 12), (⟨"WrittenColumns$Write\x72", "join", "(II)Z"⟩, 12), (⟨"WrittenColumns$Write\x72", "keep", "()V"⟩, 12), (⟨"WrittenColumns$Write\x72", "isLastOfColumn", "(I)Z"⟩, 12), (⟨"WrittenColumns$Write\x72", "fits", "(I)Z"⟩, 12), (⟨"WrittenColumns$Exclude\x72", "sortForTwo", "()I"⟩, 5), (⟨"WrittenColumns$Exclude\x72", "sortForThree", "()I"⟩, 5)]
theorem lw_r1 : ∀ q ∈ lw_privs_1, lw_okq q := List.forall_mem_cons.mpr ⟨lw_p0, List.forall_mem_cons.mpr ⟨lw_p1, List.forall_mem_cons.mpr ⟨lw_p2, List.forall_mem_cons.mpr ⟨lw_p3, List.forall_mem_cons.mpr ⟨lw_p4, List.forall_mem_cons.mpr ⟨lw_p5, List.forall_mem_cons.mpr ⟨lw_p6, List.forall_mem_cons.mpr ⟨lw_p7, List.forall_mem_cons.mpr ⟨lw_p8, List.forall_mem_cons.mpr ⟨lw_p9, List.forall_mem_cons.mpr ⟨lw_p10, List.forall_mem_cons.mpr ⟨lw_p11, List.forall_mem_cons.mpr ⟨lw_p12, List.forall_mem_cons.mpr ⟨lw_p13, List.forall_mem_cons.mpr ⟨lw_p14, List.forall_mem_cons.mpr ⟨lw_p15, fun _ h => absurd h List.not_mem_nil⟩⟩⟩⟩⟩⟩⟩⟩⟩⟩⟩⟩⟩⟩⟩⟩
theorem lw_p16 : lw_okq (⟨"WrittenColumns$View", "linesThrough", "(I)I"⟩, 2) := ⟨⟨by decide +kernel, by decide +kernel⟩, List.mem_of_getElem? (i := 39) (by decide +kernel), List.mem_of_getElem? (i := 720) (by decide +kernel), List.mem_of_getElem? (i := 721) (by decide +kernel)⟩
theorem lw_p17 : lw_okq (⟨"WrittenColumns", "drawColumns", "(LWrittenColumns$Field;III)I"⟩, 12) := ⟨⟨by decide +kernel, by decide +kernel⟩, List.mem_of_getElem? (i := 17) (by decide +kernel), List.mem_of_getElem? (i := 736) (by decide +kernel), List.mem_of_getElem? (i := 737) (by decide +kernel)⟩
theorem lw_p18 : lw_okq (⟨"WrittenColumns", "refusalOfPlace", "(II)I"⟩, 12) := ⟨⟨by decide +kernel, by decide +kernel⟩, List.mem_of_getElem? (i := 17) (by decide +kernel), List.mem_of_getElem? (i := 788) (by decide +kernel), List.mem_of_getElem? (i := 789) (by decide +kernel)⟩
theorem lw_p19 : lw_okq (⟨"WrittenColumns", "elementsOfAll", "()I"⟩, 12) := ⟨⟨by decide +kernel, by decide +kernel⟩, List.mem_of_getElem? (i := 17) (by decide +kernel), List.mem_of_getElem? (i := 813) (by decide +kernel), List.mem_of_getElem? (i := 814) (by decide +kernel)⟩
theorem lw_p20 : lw_okq (⟨"WrittenColumns", "fullHolds", "()I"⟩, 12) := ⟨⟨by decide +kernel, by decide +kernel⟩, List.mem_of_getElem? (i := 17) (by decide +kernel), List.mem_of_getElem? (i := 825) (by decide +kernel), List.mem_of_getElem? (i := 826) (by decide +kernel)⟩
theorem lw_p21 : lw_okq (⟨"WrittenColumns", "sheetsThere", "()I"⟩, 12) := ⟨⟨by decide +kernel, by decide +kernel⟩, List.mem_of_getElem? (i := 17) (by decide +kernel), List.mem_of_getElem? (i := 829) (by decide +kernel), List.mem_of_getElem? (i := 830) (by decide +kernel)⟩
theorem lw_p22 : lw_okq (⟨"WrittenColumnsModel", "plus", "(III)I"⟩, 23) := ⟨⟨by decide +kernel, by decide +kernel⟩, List.mem_of_getElem? (i := 833) (by decide +kernel), List.mem_of_getElem? (i := 919) (by decide +kernel), List.mem_of_getElem? (i := 920) (by decide +kernel)⟩
theorem lw_p23 : lw_okq (⟨"WrittenColumnsModel", "minus", "(III)I"⟩, 23) := ⟨⟨by decide +kernel, by decide +kernel⟩, List.mem_of_getElem? (i := 833) (by decide +kernel), List.mem_of_getElem? (i := 923) (by decide +kernel), List.mem_of_getElem? (i := 924) (by decide +kernel)⟩
theorem lw_p24 : lw_okq (⟨"WrittenColumnsModel", "times", "(III)I"⟩, 23) := ⟨⟨by decide +kernel, by decide +kernel⟩, List.mem_of_getElem? (i := 833) (by decide +kernel), List.mem_of_getElem? (i := 927) (by decide +kernel), List.mem_of_getElem? (i := 928) (by decide +kernel)⟩
theorem lw_p25 : lw_okq (⟨"WrittenColumnsModel", "by", "(III)I"⟩, 23) := ⟨⟨by decide +kernel, by decide +kernel⟩, List.mem_of_getElem? (i := 833) (by decide +kernel), List.mem_of_getElem? (i := 931) (by decide +kernel), List.mem_of_getElem? (i := 932) (by decide +kernel)⟩
theorem lw_p26 : lw_okq (⟨"WrittenColumnsModel", "all", "(I)I"⟩, 23) := ⟨⟨by decide +kernel, by decide +kernel⟩, List.mem_of_getElem? (i := 833) (by decide +kernel), List.mem_of_getElem? (i := 942) (by decide +kernel), List.mem_of_getElem? (i := 943) (by decide +kernel)⟩
theorem lw_p27 : lw_okq (⟨"WrittenColumnsModel", "byColumns", "(III)I"⟩, 23) := ⟨⟨by decide +kernel, by decide +kernel⟩, List.mem_of_getElem? (i := 833) (by decide +kernel), List.mem_of_getElem? (i := 956) (by decide +kernel), List.mem_of_getElem? (i := 957) (by decide +kernel)⟩
theorem lw_p28 : lw_okq (⟨"WrittenColumnsModel", "rankOf", "(II)I"⟩, 23) := ⟨⟨by decide +kernel, by decide +kernel⟩, List.mem_of_getElem? (i := 833) (by decide +kernel), List.mem_of_getElem? (i := 960) (by decide +kernel), List.mem_of_getElem? (i := 961) (by decide +kernel)⟩
theorem lw_p29 : lw_okq (⟨"WrittenColumnsModel", "total", "(I)I"⟩, 23) := ⟨⟨by decide +kernel, by decide +kernel⟩, List.mem_of_getElem? (i := 833) (by decide +kernel), List.mem_of_getElem? (i := 967) (by decide +kernel), List.mem_of_getElem? (i := 968) (by decide +kernel)⟩
theorem lw_p30 : lw_okq (⟨"WrittenColumnsModel", "\x72", "(II)I"⟩, 23) := ⟨⟨by decide +kernel, by decide +kernel⟩, List.mem_of_getElem? (i := 833) (by decide +kernel), List.mem_of_getElem? (i := 971) (by decide +kernel), List.mem_of_getElem? (i := 972) (by decide +kernel)⟩
theorem lw_p31 : lw_okq (⟨"WrittenColumnsModel", "hasCause", "(II)Z"⟩, 23) := ⟨⟨by decide +kernel, by decide +kernel⟩, List.mem_of_getElem? (i := 833) (by decide +kernel), List.mem_of_getElem? (i := 979) (by decide +kernel), List.mem_of_getElem? (i := 980) (by decide +kernel)⟩
def lw_privs_2 : List (MethodName × Nat) := [(⟨"WrittenColumns$View", "linesThrough", "(I)I"⟩, 2), (⟨"WrittenColumns", "drawColumns", "(LWrittenColumns$Field;III)I"⟩, 12), (⟨"WrittenColumns", "refusalOfPlace", "(II)I"⟩, 12), (⟨"WrittenColumns", "elementsOfAll", "()I"⟩, 12), (⟨"WrittenColumns", "fullHolds", "()I"⟩, 12), (⟨"WrittenColumns", "sheetsThere", "()I"⟩, 12), (⟨"WrittenColumnsModel", "plus", "(III)I"⟩, 23), (⟨"WrittenColumnsModel", "minus", "(III)I"⟩, 23), (⟨"WrittenColumnsModel", "times", "(III)I"⟩, 23), (⟨"WrittenColumnsModel", "by", "(III)I"⟩, 23), (⟨"WrittenColumnsModel", "all", "(I)I"⟩, 23), (⟨"WrittenColumnsModel", "byColumns", "(III)I"⟩, 23), (⟨"WrittenColumnsModel", "rankOf", "(II)I"⟩, 23), (⟨"WrittenColumnsModel", "total", "(I)I"⟩, 23), (⟨"WrittenColumnsModel", "\x72", "(II)I"⟩, 23), (⟨"WrittenColumnsModel", "hasCause", "(II)Z"⟩, 23)]
theorem lw_r2 : ∀ q ∈ lw_privs_2, lw_okq q := List.forall_mem_cons.mpr ⟨lw_p16, List.forall_mem_cons.mpr ⟨lw_p17, List.forall_mem_cons.mpr ⟨lw_p18, List.forall_mem_cons.mpr ⟨lw_p19, List.forall_mem_cons.mpr ⟨lw_p20, List.forall_mem_cons.mpr ⟨lw_p21, List.forall_mem_cons.mpr ⟨lw_p22, List.forall_mem_cons.mpr ⟨lw_p23, List.forall_mem_cons.mpr ⟨lw_p24, List.forall_mem_cons.mpr ⟨lw_p25, List.forall_mem_cons.mpr ⟨lw_p26, List.forall_mem_cons.mpr ⟨lw_p27, List.forall_mem_cons.mpr ⟨lw_p28, List.forall_mem_cons.mpr ⟨lw_p29, List.forall_mem_cons.mpr ⟨lw_p30, List.forall_mem_cons.mpr ⟨lw_p31, fun _ h => absurd h List.not_mem_nil⟩⟩⟩⟩⟩⟩⟩⟩⟩⟩⟩⟩⟩⟩⟩⟩
theorem lw_p32 : lw_okq (⟨"WrittenColumnsModel", "isCause", "(IIII)Z"⟩, 23) := ⟨⟨by decide +kernel, by decide +kernel⟩, List.mem_of_getElem? (i := 833) (by decide +kernel), List.mem_of_getElem? (i := 983) (by decide +kernel), List.mem_of_getElem? (i := 984) (by decide +kernel)⟩
theorem lw_p33 : lw_okq (⟨"WrittenColumnsModel", "isTold", "(II)Z"⟩, 23) := ⟨⟨by decide +kernel, by decide +kernel⟩, List.mem_of_getElem? (i := 833) (by decide +kernel), List.mem_of_getElem? (i := 987) (by decide +kernel), List.mem_of_getElem? (i := 988) (by decide +kernel)⟩
theorem lw_p34 : lw_okq (⟨"WrittenColumnsModel", "isSet", "(II)Z"⟩, 23) := ⟨⟨by decide +kernel, by decide +kernel⟩, List.mem_of_getElem? (i := 833) (by decide +kernel), List.mem_of_getElem? (i := 999) (by decide +kernel), List.mem_of_getElem? (i := 1000) (by decide +kernel)⟩
theorem lw_p35 : lw_okq (⟨"WrittenColumnsModel", "spanOf", "(II)I"⟩, 23) := ⟨⟨by decide +kernel, by decide +kernel⟩, List.mem_of_getElem? (i := 833) (by decide +kernel), List.mem_of_getElem? (i := 1007) (by decide +kernel), List.mem_of_getElem? (i := 1008) (by decide +kernel)⟩
theorem lw_p36 : lw_okq (⟨"WrittenColumnsModel", "isOf", "(III)Z"⟩, 23) := ⟨⟨by decide +kernel, by decide +kernel⟩, List.mem_of_getElem? (i := 833) (by decide +kernel), List.mem_of_getElem? (i := 1015) (by decide +kernel), List.mem_of_getElem? (i := 1016) (by decide +kernel)⟩
theorem lw_p37 : lw_okq (⟨"WrittenColumnsModel", "isFree", "(II)Z"⟩, 23) := ⟨⟨by decide +kernel, by decide +kernel⟩, List.mem_of_getElem? (i := 833) (by decide +kernel), List.mem_of_getElem? (i := 1019) (by decide +kernel), List.mem_of_getElem? (i := 1020) (by decide +kernel)⟩
theorem lw_p38 : lw_okq (⟨"WrittenColumnsModel", "countOf", "(II)I"⟩, 23) := ⟨⟨by decide +kernel, by decide +kernel⟩, List.mem_of_getElem? (i := 833) (by decide +kernel), List.mem_of_getElem? (i := 1027) (by decide +kernel), List.mem_of_getElem? (i := 1028) (by decide +kernel)⟩
theorem lw_p39 : lw_okq (⟨"WrittenColumnsModel", "weightOf", "(II)I"⟩, 23) := ⟨⟨by decide +kernel, by decide +kernel⟩, List.mem_of_getElem? (i := 833) (by decide +kernel), List.mem_of_getElem? (i := 1039) (by decide +kernel), List.mem_of_getElem? (i := 1040) (by decide +kernel)⟩
theorem lw_p40 : lw_okq (⟨"WrittenColumnsModel", "duals", "(II)V"⟩, 23) := ⟨⟨by decide +kernel, by decide +kernel⟩, List.mem_of_getElem? (i := 833) (by decide +kernel), List.mem_of_getElem? (i := 1047) (by decide +kernel), List.mem_of_getElem? (i := 1048) (by decide +kernel)⟩
theorem lw_p41 : lw_okq (⟨"WrittenColumnsModel", "minors", "(IIII)V"⟩, 23) := ⟨⟨by decide +kernel, by decide +kernel⟩, List.mem_of_getElem? (i := 833) (by decide +kernel), List.mem_of_getElem? (i := 1055) (by decide +kernel), List.mem_of_getElem? (i := 1056) (by decide +kernel)⟩
theorem lw_p42 : lw_okq (⟨"WrittenColumnsModel", "areSame", "(II)Z"⟩, 23) := ⟨⟨by decide +kernel, by decide +kernel⟩, List.mem_of_getElem? (i := 833) (by decide +kernel), List.mem_of_getElem? (i := 1074) (by decide +kernel), List.mem_of_getElem? (i := 1075) (by decide +kernel)⟩
theorem lw_p43 : lw_okq (⟨"WrittenColumnsModel", "fits", "(IIII)Z"⟩, 23) := ⟨⟨by decide +kernel, by decide +kernel⟩, List.mem_of_getElem? (i := 833) (by decide +kernel), List.mem_of_getElem? (i := 1082) (by decide +kernel), List.mem_of_getElem? (i := 1083) (by decide +kernel)⟩
theorem lw_p44 : lw_okq (⟨"WrittenColumnsModel", "writingsOf", "(III)I"⟩, 23) := ⟨⟨by decide +kernel, by decide +kernel⟩, List.mem_of_getElem? (i := 833) (by decide +kernel), List.mem_of_getElem? (i := 1091) (by decide +kernel), List.mem_of_getElem? (i := 1092) (by decide +kernel)⟩
theorem lw_p45 : lw_okq (⟨"WrittenColumnsModel", "laysPattern", "(I)V"⟩, 23) := ⟨⟨by decide +kernel, by decide +kernel⟩, List.mem_of_getElem? (i := 833) (by decide +kernel), List.mem_of_getElem? (i := 1095) (by decide +kernel), List.mem_of_getElem? (i := 1096) (by decide +kernel)⟩
theorem lw_p46 : lw_okq (⟨"WrittenColumnsModel", "firstBase", "(I)I"⟩, 23) := ⟨⟨by decide +kernel, by decide +kernel⟩, List.mem_of_getElem? (i := 833) (by decide +kernel), List.mem_of_getElem? (i := 1099) (by decide +kernel), List.mem_of_getElem? (i := 1100) (by decide +kernel)⟩
theorem lw_p47 : lw_okq (⟨"WrittenColumnsModel", "joins", "(II)V"⟩, 23) := ⟨⟨by decide +kernel, by decide +kernel⟩, List.mem_of_getElem? (i := 833) (by decide +kernel), List.mem_of_getElem? (i := 1103) (by decide +kernel), List.mem_of_getElem? (i := 1104) (by decide +kernel)⟩
def lw_privs_3 : List (MethodName × Nat) := [(⟨"WrittenColumnsModel", "isCause", "(IIII)Z"⟩, 23), (⟨"WrittenColumnsModel", "isTold", "(II)Z"⟩, 23), (⟨"WrittenColumnsModel", "isSet", "(II)Z"⟩, 23), (⟨"WrittenColumnsModel", "spanOf", "(II)I"⟩, 23), (⟨"WrittenColumnsModel", "isOf", "(III)Z"⟩, 23), (⟨"WrittenColumnsModel", "isFree", "(II)Z"⟩, 23), (⟨"WrittenColumnsModel", "countOf", "(II)I"⟩, 23), (⟨"WrittenColumnsModel", "weightOf", "(II)I"⟩, 23), (⟨"WrittenColumnsModel", "duals", "(II)V"⟩, 23), (⟨"WrittenColumnsModel", "minors", "(IIII)V"⟩, 23), (⟨"WrittenColumnsModel", "areSame", "(II)Z"⟩, 23), (⟨"WrittenColumnsModel", "fits", "(IIII)Z"⟩, 23), (⟨"WrittenColumnsModel", "writingsOf", "(III)I"⟩, 23), (⟨"WrittenColumnsModel", "laysPattern", "(I)V"⟩, 23), (⟨"WrittenColumnsModel", "firstBase", "(I)I"⟩, 23), (⟨"WrittenColumnsModel", "joins", "(II)V"⟩, 23)]
theorem lw_r3 : ∀ q ∈ lw_privs_3, lw_okq q := List.forall_mem_cons.mpr ⟨lw_p32, List.forall_mem_cons.mpr ⟨lw_p33, List.forall_mem_cons.mpr ⟨lw_p34, List.forall_mem_cons.mpr ⟨lw_p35, List.forall_mem_cons.mpr ⟨lw_p36, List.forall_mem_cons.mpr ⟨lw_p37, List.forall_mem_cons.mpr ⟨lw_p38, List.forall_mem_cons.mpr ⟨lw_p39, List.forall_mem_cons.mpr ⟨lw_p40, List.forall_mem_cons.mpr ⟨lw_p41, List.forall_mem_cons.mpr ⟨lw_p42, List.forall_mem_cons.mpr ⟨lw_p43, List.forall_mem_cons.mpr ⟨lw_p44, List.forall_mem_cons.mpr ⟨lw_p45, List.forall_mem_cons.mpr ⟨lw_p46, List.forall_mem_cons.mpr ⟨lw_p47, fun _ h => absurd h List.not_mem_nil⟩⟩⟩⟩⟩⟩⟩⟩⟩⟩⟩⟩⟩⟩⟩⟩
theorem lw_p48 : lw_okq (⟨"WrittenColumnsModel", "isWriting", "(II)Z"⟩, 23) := ⟨⟨by decide +kernel, by decide +kernel⟩, List.mem_of_getElem? (i := 833) (by decide +kernel), List.mem_of_getElem? (i := 1107) (by decide +kernel), List.mem_of_getElem? (i := 1108) (by decide +kernel)⟩
theorem lw_p49 : lw_okq (⟨"WrittenColumnsModel", "goesOn", "(I)Z"⟩, 23) := ⟨⟨by decide +kernel, by decide +kernel⟩, List.mem_of_getElem? (i := 833) (by decide +kernel), List.mem_of_getElem? (i := 1111) (by decide +kernel), List.mem_of_getElem? (i := 1112) (by decide +kernel)⟩
theorem lw_p50 : lw_okq (⟨"WrittenColumnsModel", "laysSheet", "(II)V"⟩, 23) := ⟨⟨by decide +kernel, by decide +kernel⟩, List.mem_of_getElem? (i := 833) (by decide +kernel), List.mem_of_getElem? (i := 1119) (by decide +kernel), List.mem_of_getElem? (i := 1120) (by decide +kernel)⟩
theorem lw_p51 : lw_okq (⟨"WrittenColumnsModel", "sortOf", "(I)I"⟩, 23) := ⟨⟨by decide +kernel, by decide +kernel⟩, List.mem_of_getElem? (i := 833) (by decide +kernel), List.mem_of_getElem? (i := 1131) (by decide +kernel), List.mem_of_getElem? (i := 1132) (by decide +kernel)⟩
theorem lw_p52 : lw_okq (⟨"WrittenColumnsModel", "isAll", "(II)Z"⟩, 23) := ⟨⟨by decide +kernel, by decide +kernel⟩, List.mem_of_getElem? (i := 833) (by decide +kernel), List.mem_of_getElem? (i := 1135) (by decide +kernel), List.mem_of_getElem? (i := 1136) (by decide +kernel)⟩
theorem lw_p53 : lw_okq (⟨"WrittenColumnsModel", "isSevens", "()Z"⟩, 23) := ⟨⟨by decide +kernel, by decide +kernel⟩, List.mem_of_getElem? (i := 833) (by decide +kernel), List.mem_of_getElem? (i := 1139) (by decide +kernel), List.mem_of_getElem? (i := 1140) (by decide +kernel)⟩
theorem lw_p54 : lw_okq (⟨"WrittenColumnsModel", "dealt", "(IIII)I"⟩, 23) := ⟨⟨by decide +kernel, by decide +kernel⟩, List.mem_of_getElem? (i := 833) (by decide +kernel), List.mem_of_getElem? (i := 1154) (by decide +kernel), List.mem_of_getElem? (i := 1155) (by decide +kernel)⟩
theorem lw_p55 : lw_okq (⟨"WrittenColumnsModel", "copies", "(II)V"⟩, 23) := ⟨⟨by decide +kernel, by decide +kernel⟩, List.mem_of_getElem? (i := 833) (by decide +kernel), List.mem_of_getElem? (i := 1170) (by decide +kernel), List.mem_of_getElem? (i := 1171) (by decide +kernel)⟩
theorem lw_p56 : lw_okq (⟨"WrittenColumnsModel", "wrongAt", "(II)I"⟩, 23) := ⟨⟨by decide +kernel, by decide +kernel⟩, List.mem_of_getElem? (i := 833) (by decide +kernel), List.mem_of_getElem? (i := 1190) (by decide +kernel), List.mem_of_getElem? (i := 1191) (by decide +kernel)⟩
theorem lw_p57 : lw_okq (⟨"WrittenColumnsModel", "elements", "()I"⟩, 23) := ⟨⟨by decide +kernel, by decide +kernel⟩, List.mem_of_getElem? (i := 833) (by decide +kernel), List.mem_of_getElem? (i := 1210) (by decide +kernel), List.mem_of_getElem? (i := 1211) (by decide +kernel)⟩
def lw_privs_4 : List (MethodName × Nat) := [(⟨"WrittenColumnsModel", "isWriting", "(II)Z"⟩, 23), (⟨"WrittenColumnsModel", "goesOn", "(I)Z"⟩, 23), (⟨"WrittenColumnsModel", "laysSheet", "(II)V"⟩, 23), (⟨"WrittenColumnsModel", "sortOf", "(I)I"⟩, 23), (⟨"WrittenColumnsModel", "isAll", "(II)Z"⟩, 23), (⟨"WrittenColumnsModel", "isSevens", "()Z"⟩, 23), (⟨"WrittenColumnsModel", "dealt", "(IIII)I"⟩, 23), (⟨"WrittenColumnsModel", "copies", "(II)V"⟩, 23), (⟨"WrittenColumnsModel", "wrongAt", "(II)I"⟩, 23), (⟨"WrittenColumnsModel", "elements", "()I"⟩, 23)]
theorem lw_r4 : ∀ q ∈ lw_privs_4, lw_okq q := List.forall_mem_cons.mpr ⟨lw_p48, List.forall_mem_cons.mpr ⟨lw_p49, List.forall_mem_cons.mpr ⟨lw_p50, List.forall_mem_cons.mpr ⟨lw_p51, List.forall_mem_cons.mpr ⟨lw_p52, List.forall_mem_cons.mpr ⟨lw_p53, List.forall_mem_cons.mpr ⟨lw_p54, List.forall_mem_cons.mpr ⟨lw_p55, List.forall_mem_cons.mpr ⟨lw_p56, List.forall_mem_cons.mpr ⟨lw_p57, fun _ h => absurd h List.not_mem_nil⟩⟩⟩⟩⟩⟩⟩⟩⟩⟩
def lw_privs : List (MethodName × Nat) := lw_privs_1 ++ (lw_privs_2 ++ (lw_privs_3 ++ (lw_privs_4)))
def lw_tbl : List Cond := k2_sels lw_privs ++ tables_1
theorem lw_privs_ok : ∀ q ∈ lw_privs, lw_okq q := by
  show ∀ q ∈ lw_privs_1 ++ (lw_privs_2 ++ (lw_privs_3 ++ (lw_privs_4))), lw_okq q
  exact List.forall_mem_append.mpr ⟨lw_r1, List.forall_mem_append.mpr ⟨lw_r2, List.forall_mem_append.mpr ⟨lw_r3, lw_r4⟩⟩⟩

def RX0 : String := "WrittenColumns$Cause"
def TX0 : u_T := fun k => match k with
  | 0 => ("WrittenColumns$Cause", "sort", "I", false)
  | 1 => ("WrittenColumns$Cause", "place", "I", false)
  | 2 => ("WrittenColumns$Cause", "second", "I", false)
  | 3 => ("WrittenColumns$Cause", "element", "I", false)
  | _ => ("WrittenColumns$Cause", "isTold", "[Z", true)
def tyX0 : Nat → FieldType := fun k => match k with
  | 0 => .int
  | 1 => .int
  | 2 => .int
  | 3 => .int
  | _ => .array .boolean
abbrev wsX00 : List Cond := u_ws RX0 TX0 5
theorem nmX0 : ∀ a, a < 5 → ∀ b, b < 5 → a ≠ b → (TX0 a).2.1 ≠ (TX0 b).2.1 := by decide +kernel
theorem tyX0_ok : ∀ k, k < 5 → parseFieldDescriptor (TX0 k).2.2.1 = some (tyX0 k) := by decide +kernel
abbrev cX0_init : ByteArray := prog_2_method_1_code
def yX0_init : MethodName := ⟨RX0, "<init>", "()V"⟩
abbrev cX0_findIn : ByteArray := prog_2_method_2_code
def yX0_findIn : MethodName := ⟨RX0, "findIn", "(LWrittenColumns$Sheet;I)Z"⟩
abbrev cX0_say : ByteArray := prog_2_method_3_code
def yX0_say : MethodName := ⟨RX0, "say", "(IIII)V"⟩
abbrev cX0_findInNumbers : ByteArray := prog_2_method_4_code
def yX0_findInNumbers : MethodName := ⟨RX0, "findInNumbers", "(LWrittenColumns$Sheet;I)Z"⟩
abbrev cX0_findInTwos : ByteArray := prog_2_method_5_code
def yX0_findInTwos : MethodName := ⟨RX0, "findInTwos", "(LWrittenColumns$Sheet;I)Z"⟩
abbrev cX0_lacksOneFor : ByteArray := prog_2_method_6_code
def yX0_lacksOneFor : MethodName := ⟨RX0, "lacksOneFo\x72", "(III)Z"⟩
def RX1 : String := "WrittenColumns$Exclude\x72"
def TX1 : u_T := fun k => match k with
  | 0 => ("WrittenColumns$Exclude\x72", "mino\x72", "LWrittenColumns$View;", true)
  | 1 => ("WrittenColumns$Exclude\x72", "turned", "LWrittenColumns$View;", true)
  | 2 => ("WrittenColumns$Exclude\x72", "sort", "I", false)
  | 3 => ("WrittenColumns$Exclude\x72", "x", "I", false)
  | _ => ("WrittenColumns$Exclude\x72", "y", "I", false)
def tyX1 : Nat → FieldType := fun k => match k with
  | 0 => .object "WrittenColumns$View"
  | 1 => .object "WrittenColumns$View"
  | 2 => .int
  | 3 => .int
  | _ => .int
abbrev wsX10 : List Cond := u_ws RX1 TX1 5
theorem nmX1 : ∀ a, a < 5 → ∀ b, b < 5 → a ≠ b → (TX1 a).2.1 ≠ (TX1 b).2.1 := by decide +kernel
theorem tyX1_ok : ∀ k, k < 5 → parseFieldDescriptor (TX1 k).2.2.1 = some (tyX1 k) := by decide +kernel
abbrev cX1_init : ByteArray := prog_3_method_1_code
def yX1_init : MethodName := ⟨RX1, "<init>", "()V"⟩
abbrev cX1_findIn : ByteArray := prog_3_method_2_code
def yX1_findIn : MethodName := ⟨RX1, "findIn", "(LWrittenColumns$View;Z)Z"⟩
abbrev cX1_sortForTwo : ByteArray := prog_3_method_3_code
def yX1_sortForTwo : MethodName := ⟨RX1, "sortForTwo", "()I"⟩
abbrev cX1_sortForThree : ByteArray := prog_3_method_4_code
def yX1_sortForThree : MethodName := ⟨RX1, "sortForThree", "()I"⟩
def RX2 : String := "WrittenColumns$Field"
def TX2 : u_T := fun k => match k with
  | 0 => ("WrittenColumns$Field", "size", "I", true)
  | _ => ("WrittenColumns$Field", "inverses", "[I", true)
def tyX2 : Nat → FieldType := fun k => match k with
  | 0 => .int
  | _ => .array .int
abbrev wsX20 : List Cond := u_ws RX2 TX2 2
theorem nmX2 : ∀ a, a < 2 → ∀ b, b < 2 → a ≠ b → (TX2 a).2.1 ≠ (TX2 b).2.1 := by decide +kernel
theorem tyX2_ok : ∀ k, k < 2 → parseFieldDescriptor (TX2 k).2.2.1 = some (tyX2 k) := by decide +kernel
abbrev cX2_init : ByteArray := prog_4_method_1_code
def yX2_init : MethodName := ⟨RX2, "<init>", "(I)V"⟩
abbrev cX2_rest : ByteArray := prog_4_method_2_code
def yX2_rest : MethodName := ⟨RX2, "rest", "(I)I"⟩
abbrev cX2_sum : ByteArray := prog_4_method_3_code
def yX2_sum : MethodName := ⟨RX2, "sum", "(II)I"⟩
abbrev cX2_difference : ByteArray := prog_4_method_4_code
def yX2_difference : MethodName := ⟨RX2, "difference", "(II)I"⟩
abbrev cX2_product : ByteArray := prog_4_method_5_code
def yX2_product : MethodName := ⟨RX2, "product", "(II)I"⟩
abbrev cX2_inverse : ByteArray := prog_4_method_6_code
def yX2_inverse : MethodName := ⟨RX2, "inverse", "(I)I"⟩
abbrev cX2_columnCount : ByteArray := prog_4_method_7_code
def yX2_columnCount : MethodName := ⟨RX2, "columnCount", "()I"⟩
abbrev cX2_tellOf : ByteArray := prog_4_method_8_code
def yX2_tellOf : MethodName := ⟨RX2, "tellOf", "(I)I"⟩
def RX3 : String := "WrittenColumns$Hold"
def TX3 : u_T := fun k => match k with
  | 0 => ("WrittenColumns$Hold", "field", "LWrittenColumns$Field;", false)
  | 1 => ("WrittenColumns$Hold", "hasView", "Z", false)
  | _ => ("WrittenColumns$Hold", "view", "LWrittenColumns$View;", true)
def tyX3 : Nat → FieldType := fun k => match k with
  | 0 => .object "WrittenColumns$Field"
  | 1 => .boolean
  | _ => .object "WrittenColumns$View"
abbrev wsX30 : List Cond := u_ws RX3 TX3 3
theorem nmX3 : ∀ a, a < 3 → ∀ b, b < 3 → a ≠ b → (TX3 a).2.1 ≠ (TX3 b).2.1 := by decide +kernel
theorem tyX3_ok : ∀ k, k < 3 → parseFieldDescriptor (TX3 k).2.2.1 = some (tyX3 k) := by decide +kernel
abbrev cX3_init : ByteArray := prog_5_method_1_code
def yX3_init : MethodName := ⟨RX3, "<init>", "()V"⟩
abbrev cX3_isEmpty : ByteArray := prog_5_method_2_code
def yX3_isEmpty : MethodName := ⟨RX3, "isEmpty", "()Z"⟩
abbrev cX3_keepField : ByteArray := prog_5_method_3_code
def yX3_keepField : MethodName := ⟨RX3, "keepField", "(LWrittenColumns$Field;)V"⟩
abbrev cX3_keepView : ByteArray := prog_5_method_4_code
def yX3_keepView : MethodName := ⟨RX3, "keepView", "(LWrittenColumns$View;)V"⟩
abbrev cX3_letGo : ByteArray := prog_5_method_5_code
def yX3_letGo : MethodName := ⟨RX3, "letGo", "()V"⟩
def RX4 : String := "WrittenColumns$Image"
def TX4 : u_T := fun k => match k with
  | 0 => ("WrittenColumns$Image", "isThere", "Z", false)
  | 1 => ("WrittenColumns$Image", "z", "I", false)
  | _ => ("WrittenColumns$Image", "views", "[LWrittenColumns$View;", true)
def tyX4 : Nat → FieldType := fun k => match k with
  | 0 => .boolean
  | 1 => .int
  | _ => .array (.object "WrittenColumns$View")
abbrev wsX40 : List Cond := u_ws RX4 TX4 3
theorem nmX4 : ∀ a, a < 3 → ∀ b, b < 3 → a ≠ b → (TX4 a).2.1 ≠ (TX4 b).2.1 := by decide +kernel
theorem tyX4_ok : ∀ k, k < 3 → parseFieldDescriptor (TX4 k).2.2.1 = some (tyX4 k) := by decide +kernel
abbrev cX4_init : ByteArray := prog_6_method_1_code
def yX4_init : MethodName := ⟨RX4, "<init>", "()V"⟩
def RX5 : String := "WrittenColumns$Matrix"
def TX5 : u_T := fun k => match k with
  | 0 => ("WrittenColumns$Matrix", "field", "LWrittenColumns$Field;", false)
  | 1 => ("WrittenColumns$Matrix", "numbers", "[I", true)
  | 2 => ("WrittenColumns$Matrix", "echelon", "[I", true)
  | 3 => ("WrittenColumns$Matrix", "isTaken", "[Z", true)
  | 4 => ("WrittenColumns$Matrix", "placeOf", "[I", true)
  | 5 => ("WrittenColumns$Matrix", "left", "[I", true)
  | _ => ("WrittenColumns$Matrix", "depth", "I", false)
def tyX5 : Nat → FieldType := fun k => match k with
  | 0 => .object "WrittenColumns$Field"
  | 1 => .array .int
  | 2 => .array .int
  | 3 => .array .boolean
  | 4 => .array .int
  | 5 => .array .int
  | _ => .int
abbrev wsX50 : List Cond := u_ws RX5 TX5 7
theorem nmX5 : ∀ a, a < 7 → ∀ b, b < 7 → a ≠ b → (TX5 a).2.1 ≠ (TX5 b).2.1 := by decide +kernel
theorem tyX5_ok : ∀ k, k < 7 → parseFieldDescriptor (TX5 k).2.2.1 = some (tyX5 k) := by decide +kernel
abbrev cX5_init : ByteArray := prog_7_method_1_code
def yX5_init : MethodName := ⟨RX5, "<init>", "()V"⟩
abbrev cX5_clear : ByteArray := prog_7_method_2_code
def yX5_clear : MethodName := ⟨RX5, "clea\x72", "(LWrittenColumns$Field;)V"⟩
abbrev cX5_put : ByteArray := prog_7_method_3_code
def yX5_put : MethodName := ⟨RX5, "put", "(III)V"⟩
abbrev cX5_putCode : ByteArray := prog_7_method_4_code
def yX5_putCode : MethodName := ⟨RX5, "putCode", "(II)V"⟩
abbrev cX5_codeOf : ByteArray := prog_7_method_5_code
def yX5_codeOf : MethodName := ⟨RX5, "codeOf", "(I)I"⟩
abbrev cX5_emptyEchelon : ByteArray := prog_7_method_6_code
def yX5_emptyEchelon : MethodName := ⟨RX5, "emptyEchelon", "()V"⟩
abbrev cX5_rankOf : ByteArray := prog_7_method_7_code
def yX5_rankOf : MethodName := ⟨RX5, "rankOf", "(I)I"⟩
abbrev cX5_enter : ByteArray := prog_7_method_8_code
def yX5_enter : MethodName := ⟨RX5, "ente\x72", "(I)V"⟩
abbrev cX5_keepLeft : ByteArray := prog_7_method_9_code
def yX5_keepLeft : MethodName := ⟨RX5, "keepLeft", "(II)V"⟩
abbrev cX5_leave : ByteArray := prog_7_method_10_code
def yX5_leave : MethodName := ⟨RX5, "leave", "(I)V"⟩
def RX6 : String := "WrittenColumns$Numbering"
def TX6 : u_T := fun k => match k with
  | _ => ("WrittenColumns$Numbering", "newBit", "[I", true)
def tyX6 : Nat → FieldType := fun k => match k with
  | _ => .array .int
abbrev wsX60 : List Cond := u_ws RX6 TX6 1
theorem nmX6 : ∀ a, a < 1 → ∀ b, b < 1 → a ≠ b → (TX6 a).2.1 ≠ (TX6 b).2.1 := by decide +kernel
theorem tyX6_ok : ∀ k, k < 1 → parseFieldDescriptor (TX6 k).2.2.1 = some (tyX6 k) := by decide +kernel
abbrev cX6_init : ByteArray := prog_8_method_1_code
def yX6_init : MethodName := ⟨RX6, "<init>", "()V"⟩
abbrev cX6_readFrom : ByteArray := prog_8_method_2_code
def yX6_readFrom : MethodName := ⟨RX6, "readFrom", "(LWrittenColumns$Sheet;I)Z"⟩
abbrev cX6_newSet : ByteArray := prog_8_method_3_code
def yX6_newSet : MethodName := ⟨RX6, "newSet", "(I)I"⟩
abbrev cX6_canMatch : ByteArray := prog_8_method_4_code
def yX6_canMatch : MethodName := ⟨RX6, "canMatch", "(LWrittenColumns$Numbering;LWrittenColumns$View;LWrittenColumns$View;II)Z"⟩
abbrev cX6_agrees : ByteArray := prog_8_method_5_code
def yX6_agrees : MethodName := ⟨RX6, "agrees", "(LWrittenColumns$View;LWrittenColumns$View;I)Z"⟩
def RX7 : String := "WrittenColumns$Sheet"
def TX7 : u_T := fun k => match k with
  | 0 => ("WrittenColumns$Sheet", "sort", "I", false)
  | 1 => ("WrittenColumns$Sheet", "length", "I", false)
  | _ => ("WrittenColumns$Sheet", "numbers", "[I", true)
def tyX7 : Nat → FieldType := fun k => match k with
  | 0 => .int
  | 1 => .int
  | _ => .array .int
abbrev wsX70 : List Cond := u_ws RX7 TX7 3
theorem nmX7 : ∀ a, a < 3 → ∀ b, b < 3 → a ≠ b → (TX7 a).2.1 ≠ (TX7 b).2.1 := by decide +kernel
theorem tyX7_ok : ∀ k, k < 3 → parseFieldDescriptor (TX7 k).2.2.1 = some (tyX7 k) := by decide +kernel
abbrev cX7_init : ByteArray := prog_9_method_1_code
def yX7_init : MethodName := ⟨RX7, "<init>", "()V"⟩
abbrev cX7_isMissing : ByteArray := prog_9_method_2_code
def yX7_isMissing : MethodName := ⟨RX7, "isMissing", "()Z"⟩
abbrev cX7_become : ByteArray := prog_9_method_3_code
def yX7_become : MethodName := ⟨RX7, "become", "(II)V"⟩
abbrev cX7_hasPlaces : ByteArray := prog_9_method_4_code
def yX7_hasPlaces : MethodName := ⟨RX7, "hasPlaces", "(II)Z"⟩
abbrev cX7_numberAt : ByteArray := prog_9_method_5_code
def yX7_numberAt : MethodName := ⟨RX7, "numberAt", "(I)I"⟩
abbrev cX7_put : ByteArray := prog_9_method_6_code
def yX7_put : MethodName := ⟨RX7, "put", "(II)V"⟩
abbrev cX7_weightOf : ByteArray := prog_9_method_7_code
def yX7_weightOf : MethodName := ⟨RX7, "weightOf", "(I)I"⟩
def RX8 : String := "WrittenColumns$View"
def TX8 : u_T := fun k => match k with
  | 0 => ("WrittenColumns$View", "elements", "I", false)
  | _ => ("WrittenColumns$View", "ranks", "[I", true)
def tyX8 : Nat → FieldType := fun k => match k with
  | 0 => .int
  | _ => .array .int
abbrev wsX80 : List Cond := u_ws RX8 TX8 2
theorem nmX8 : ∀ a, a < 2 → ∀ b, b < 2 → a ≠ b → (TX8 a).2.1 ≠ (TX8 b).2.1 := by decide +kernel
theorem tyX8_ok : ∀ k, k < 2 → parseFieldDescriptor (TX8 k).2.2.1 = some (tyX8 k) := by decide +kernel
abbrev cX8_init : ByteArray := prog_10_method_1_code
def yX8_init : MethodName := ⟨RX8, "<init>", "()V"⟩
abbrev cX8_all : ByteArray := prog_10_method_2_code
def yX8_all : MethodName := ⟨RX8, "all", "()I"⟩
abbrev cX8_rankOf : ByteArray := prog_10_method_3_code
def yX8_rankOf : MethodName := ⟨RX8, "rankOf", "(I)I"⟩
abbrev cX8_fullRank : ByteArray := prog_10_method_4_code
def yX8_fullRank : MethodName := ⟨RX8, "fullRank", "()I"⟩
abbrev cX8_become : ByteArray := prog_10_method_5_code
def yX8_become : MethodName := ⟨RX8, "become", "(LWrittenColumns$View;)V"⟩
abbrev cX8_becomeUniform : ByteArray := prog_10_method_6_code
def yX8_becomeUniform : MethodName := ⟨RX8, "becomeUniform", "(II)V"⟩
abbrev cX8_becomeByColumns : ByteArray := prog_10_method_7_code
def yX8_becomeByColumns : MethodName := ⟨RX8, "becomeByColumns", "(LWrittenColumns$Matrix;I)V"⟩
abbrev cX8_becomeByBases : ByteArray := prog_10_method_8_code
def yX8_becomeByBases : MethodName := ⟨RX8, "becomeByBases", "(LWrittenColumns$Sheet;I)V"⟩
abbrev cX8_becomeDual : ByteArray := prog_10_method_9_code
def yX8_becomeDual : MethodName := ⟨RX8, "becomeDual", "(LWrittenColumns$View;)V"⟩
abbrev cX8_becomeMinor : ByteArray := prog_10_method_10_code
def yX8_becomeMinor : MethodName := ⟨RX8, "becomeMino\x72", "(LWrittenColumns$View;II)V"⟩
abbrev cX8_spreadOver : ByteArray := prog_10_method_11_code
def yX8_spreadOver : MethodName := ⟨RX8, "spreadOve\x72", "(II)I"⟩
abbrev cX8_becomeUnion : ByteArray := prog_10_method_12_code
def yX8_becomeUnion : MethodName := ⟨RX8, "becomeUnion", "(LWrittenColumns$View;LWrittenColumns$View;)V"⟩
abbrev cX8_becomeRenumbered : ByteArray := prog_10_method_13_code
def yX8_becomeRenumbered : MethodName := ⟨RX8, "becomeRenumbered", "(LWrittenColumns$View;LWrittenColumns$Numbering;)V"⟩
abbrev cX8_leastUnlike : ByteArray := prog_10_method_14_code
def yX8_leastUnlike : MethodName := ⟨RX8, "leastUnlike", "(LWrittenColumns$View;)I"⟩
abbrev cX8_spanOf : ByteArray := prog_10_method_15_code
def yX8_spanOf : MethodName := ⟨RX8, "spanOf", "(I)I"⟩
abbrev cX8_isFree : ByteArray := prog_10_method_16_code
def yX8_isFree : MethodName := ⟨RX8, "isFree", "(I)Z"⟩
abbrev cX8_isBase : ByteArray := prog_10_method_17_code
def yX8_isBase : MethodName := ⟨RX8, "isBase", "(I)Z"⟩
abbrev cX8_isCircuit : ByteArray := prog_10_method_18_code
def yX8_isCircuit : MethodName := ⟨RX8, "isCircuit", "(I)Z"⟩
abbrev cX8_isOfSort : ByteArray := prog_10_method_19_code
def yX8_isOfSort : MethodName := ⟨RX8, "isOfSort", "(II)Z"⟩
abbrev cX8_countOf : ByteArray := prog_10_method_20_code
def yX8_countOf : MethodName := ⟨RX8, "countOf", "(I)I"⟩
abbrev cX8_findNumber : ByteArray := prog_10_method_21_code
def yX8_findNumber : MethodName := ⟨RX8, "findNumbe\x72", "(II)I"⟩
abbrev cX8_firstBase : ByteArray := prog_10_method_22_code
def yX8_firstBase : MethodName := ⟨RX8, "firstBase", "()I"⟩
abbrev cX8_heaviestBase : ByteArray := prog_10_method_23_code
def yX8_heaviestBase : MethodName := ⟨RX8, "heaviestBase", "(LWrittenColumns$Sheet;)I"⟩
abbrev cX8_isUniform : ByteArray := prog_10_method_24_code
def yX8_isUniform : MethodName := ⟨RX8, "isUniform", "(II)Z"⟩
abbrev cX8_isSevenPointPlane : ByteArray := prog_10_method_25_code
def yX8_isSevenPointPlane : MethodName := ⟨RX8, "isSevenPointPlane", "()Z"⟩
abbrev cX8_linesThrough : ByteArray := prog_10_method_26_code
def yX8_linesThrough : MethodName := ⟨RX8, "linesThrough", "(I)I"⟩
def RX9 : String := "WrittenColumns$Write\x72"
def TX9 : u_T := fun k => match k with
  | 0 => ("WrittenColumns$Write\x72", "matrix", "LWrittenColumns$Matrix;", true)
  | 1 => ("WrittenColumns$Write\x72", "columnOf", "[I", true)
  | 2 => ("WrittenColumns$Write\x72", "rowOf", "[I", true)
  | 3 => ("WrittenColumns$Write\x72", "joins", "[Z", true)
  | 4 => ("WrittenColumns$Write\x72", "joined", "[I", true)
  | 5 => ("WrittenColumns$Write\x72", "first", "[I", true)
  | 6 => ("WrittenColumns$Write\x72", "view", "LWrittenColumns$View;", false)
  | 7 => ("WrittenColumns$Write\x72", "field", "LWrittenColumns$Field;", false)
  | 8 => ("WrittenColumns$Write\x72", "base", "I", false)
  | 9 => ("WrittenColumns$Write\x72", "places", "I", false)
  | 10 => ("WrittenColumns$Write\x72", "found", "I", false)
  | _ => ("WrittenColumns$Write\x72", "enough", "I", false)
def tyX9 : Nat → FieldType := fun k => match k with
  | 0 => .object "WrittenColumns$Matrix"
  | 1 => .array .int
  | 2 => .array .int
  | 3 => .array .boolean
  | 4 => .array .int
  | 5 => .array .int
  | 6 => .object "WrittenColumns$View"
  | 7 => .object "WrittenColumns$Field"
  | 8 => .int
  | 9 => .int
  | 10 => .int
  | _ => .int
abbrev wsX90 : List Cond := u_ws RX9 TX9 12
theorem nmX9 : ∀ a, a < 12 → ∀ b, b < 12 → a ≠ b → (TX9 a).2.1 ≠ (TX9 b).2.1 := by decide +kernel
theorem tyX9_ok : ∀ k, k < 12 → parseFieldDescriptor (TX9 k).2.2.1 = some (tyX9 k) := by decide +kernel
abbrev cX9_init : ByteArray := prog_11_method_1_code
def yX9_init : MethodName := ⟨RX9, "<init>", "()V"⟩
abbrev cX9_countUpTo : ByteArray := prog_11_method_2_code
def yX9_countUpTo : MethodName := ⟨RX9, "countUpTo", "(LWrittenColumns$View;LWrittenColumns$Field;I)I"⟩
abbrev cX9_firstCode : ByteArray := prog_11_method_3_code
def yX9_firstCode : MethodName := ⟨RX9, "firstCode", "(I)I"⟩
abbrev cX9_layOut : ByteArray := prog_11_method_4_code
def yX9_layOut : MethodName := ⟨RX9, "layOut", "(LWrittenColumns$View;LWrittenColumns$Field;)V"⟩
abbrev cX9_layOutColumn : ByteArray := prog_11_method_5_code
def yX9_layOutColumn : MethodName := ⟨RX9, "layOutColumn", "(I)V"⟩
abbrev cX9_addPlace : ByteArray := prog_11_method_6_code
def yX9_addPlace : MethodName := ⟨RX9, "addPlace", "(II)V"⟩
abbrev cX9_join : ByteArray := prog_11_method_7_code
def yX9_join : MethodName := ⟨RX9, "join", "(II)Z"⟩
abbrev cX9_fill : ByteArray := prog_11_method_8_code
def yX9_fill : MethodName := ⟨RX9, "fill", "(LWrittenColumns$Writer;I)V"⟩
abbrev cX9_keep : ByteArray := prog_11_method_9_code
def yX9_keep : MethodName := ⟨RX9, "keep", "()V"⟩
abbrev cX9_isLastOfColumn : ByteArray := prog_11_method_10_code
def yX9_isLastOfColumn : MethodName := ⟨RX9, "isLastOfColumn", "(I)Z"⟩
abbrev cX9_fits : ByteArray := prog_11_method_11_code
def yX9_fits : MethodName := ⟨RX9, "fits", "(I)Z"⟩
def RX10 : String := "WrittenColumns"
def TX10 : u_T := fun k => match k with
  | 0 => ("WrittenColumns", "fields", "[LWrittenColumns$Field;", true)
  | 1 => ("WrittenColumns", "views", "[LWrittenColumns$View;", true)
  | 2 => ("WrittenColumns", "holds", "[LWrittenColumns$Hold;", true)
  | 3 => ("WrittenColumns", "sheets", "[LWrittenColumns$Sheet;", true)
  | 4 => ("WrittenColumns", "kept", "LWrittenColumns$Image;", true)
  | 5 => ("WrittenColumns", "why", "LWrittenColumns$Cause;", true)
  | 6 => ("WrittenColumns", "matrix", "LWrittenColumns$Matrix;", true)
  | 7 => ("WrittenColumns", "write\x72", "LWrittenColumns$Writer;", true)
  | 8 => ("WrittenColumns", "exclude\x72", "LWrittenColumns$Excluder;", true)
  | 9 => ("WrittenColumns", "numbering", "LWrittenColumns$Numbering;", true)
  | 10 => ("WrittenColumns", "draft", "LWrittenColumns$View;", true)
  | _ => ("WrittenColumns", "z", "I", false)
def tyX10 : Nat → FieldType := fun k => match k with
  | 0 => .array (.object "WrittenColumns$Field")
  | 1 => .array (.object "WrittenColumns$View")
  | 2 => .array (.object "WrittenColumns$Hold")
  | 3 => .array (.object "WrittenColumns$Sheet")
  | 4 => .object "WrittenColumns$Image"
  | 5 => .object "WrittenColumns$Cause"
  | 6 => .object "WrittenColumns$Matrix"
  | 7 => .object "WrittenColumns$Write\x72"
  | 8 => .object "WrittenColumns$Exclude\x72"
  | 9 => .object "WrittenColumns$Numbering"
  | 10 => .object "WrittenColumns$View"
  | _ => .int
abbrev wsX100 : List Cond := u_ws RX10 TX10 12
theorem nmX10 : ∀ a, a < 12 → ∀ b, b < 12 → a ≠ b → (TX10 a).2.1 ≠ (TX10 b).2.1 := by decide +kernel
theorem tyX10_ok : ∀ k, k < 12 → parseFieldDescriptor (TX10 k).2.2.1 = some (tyX10 k) := by decide +kernel
abbrev cX10_init : ByteArray := prog_1_method_1_code
def yX10_init : MethodName := ⟨RX10, "<init>", "()V"⟩
abbrev cX10_reckon : ByteArray := prog_1_method_2_code
def yX10_reckon : MethodName := ⟨RX10, "reckon", "(IIII)I"⟩
abbrev cX10_uniform : ByteArray := prog_1_method_3_code
def yX10_uniform : MethodName := ⟨RX10, "uniform", "(III)I"⟩
abbrev cX10_columns : ByteArray := prog_1_method_4_code
def yX10_columns : MethodName := ⟨RX10, "columns", "(IIII)I"⟩
abbrev cX10_tell : ByteArray := prog_1_method_5_code
def yX10_tell : MethodName := ⟨RX10, "tell", "(III)I"⟩
abbrev cX10_cause : ByteArray := prog_1_method_6_code
def yX10_cause : MethodName := ⟨RX10, "cause", "(I)I"⟩
abbrev cX10_rank : ByteArray := prog_1_method_7_code
def yX10_rank : MethodName := ⟨RX10, "rank", "(II)I"⟩
abbrev cX10_span : ByteArray := prog_1_method_8_code
def yX10_span : MethodName := ⟨RX10, "span", "(II)I"⟩
abbrev cX10_sorts : ByteArray := prog_1_method_9_code
def yX10_sorts : MethodName := ⟨RX10, "sorts", "(II)I"⟩
abbrev cX10_many : ByteArray := prog_1_method_10_code
def yX10_many : MethodName := ⟨RX10, "many", "(II)I"⟩
abbrev cX10_at : ByteArray := prog_1_method_11_code
def yX10_at : MethodName := ⟨RX10, "at", "(III)I"⟩
abbrev cX10_best : ByteArray := prog_1_method_12_code
def yX10_best : MethodName := ⟨RX10, "best", "(III)I"⟩
abbrev cX10_dual : ByteArray := prog_1_method_13_code
def yX10_dual : MethodName := ⟨RX10, "dual", "(II)I"⟩
abbrev cX10_minor : ByteArray := prog_1_method_14_code
def yX10_minor : MethodName := ⟨RX10, "mino\x72", "(IIII)I"⟩
abbrev cX10_union : ByteArray := prog_1_method_15_code
def yX10_union : MethodName := ⟨RX10, "union", "(III)I"⟩
abbrev cX10_renumber : ByteArray := prog_1_method_16_code
def yX10_renumber : MethodName := ⟨RX10, "renumbe\x72", "(III)I"⟩
abbrev cX10_same : ByteArray := prog_1_method_17_code
def yX10_same : MethodName := ⟨RX10, "same", "(II)I"⟩
abbrev cX10_alike : ByteArray := prog_1_method_18_code
def yX10_alike : MethodName := ⟨RX10, "alike", "(II)I"⟩
abbrev cX10_writings : ByteArray := prog_1_method_19_code
def yX10_writings : MethodName := ⟨RX10, "writings", "(II)I"⟩
abbrev cX10_writes : ByteArray := prog_1_method_20_code
def yX10_writes : MethodName := ⟨RX10, "writes", "(III)I"⟩
abbrev cX10_clash : ByteArray := prog_1_method_21_code
def yX10_clash : MethodName := ⟨RX10, "clash", "(I)I"⟩
abbrev cX10_excluded : ByteArray := prog_1_method_22_code
def yX10_excluded : MethodName := ⟨RX10, "excluded", "(III)I"⟩
abbrev cX10_seed : ByteArray := prog_1_method_23_code
def yX10_seed : MethodName := ⟨RX10, "seed", "(I)I"⟩
abbrev cX10_deal : ByteArray := prog_1_method_24_code
def yX10_deal : MethodName := ⟨RX10, "deal", "(IIII)I"⟩
abbrev cX10_chance : ByteArray := prog_1_method_25_code
def yX10_chance : MethodName := ⟨RX10, "chance", "(IIIII)I"⟩
abbrev cX10_hold : ByteArray := prog_1_method_26_code
def yX10_hold : MethodName := ⟨RX10, "hold", "(III)I"⟩
abbrev cX10_held : ByteArray := prog_1_method_27_code
def yX10_held : MethodName := ⟨RX10, "held", "(II)I"⟩
abbrev cX10_take : ByteArray := prog_1_method_28_code
def yX10_take : MethodName := ⟨RX10, "take", "(II)I"⟩
abbrev cX10_sheet : ByteArray := prog_1_method_29_code
def yX10_sheet : MethodName := ⟨RX10, "sheet", "(III)I"⟩
abbrev cX10_write : ByteArray := prog_1_method_30_code
def yX10_write : MethodName := ⟨RX10, "write", "(III)I"⟩
abbrev cX10_item : ByteArray := prog_1_method_31_code
def yX10_item : MethodName := ⟨RX10, "item", "(II)I"⟩
abbrev cX10_copy : ByteArray := prog_1_method_32_code
def yX10_copy : MethodName := ⟨RX10, "copy", "(IIIII)I"⟩
abbrev cX10_list : ByteArray := prog_1_method_33_code
def yX10_list : MethodName := ⟨RX10, "list", "(II)I"⟩
abbrev cX10_image : ByteArray := prog_1_method_34_code
def yX10_image : MethodName := ⟨RX10, "image", "()I"⟩
abbrev cX10_back : ByteArray := prog_1_method_35_code
def yX10_back : MethodName := ⟨RX10, "back", "()I"⟩
abbrev cX10_count : ByteArray := prog_1_method_36_code
def yX10_count : MethodName := ⟨RX10, "count", "(I)I"⟩
abbrev cX10_isBelow : ByteArray := prog_1_method_37_code
def yX10_isBelow : MethodName := ⟨RX10, "isBelow", "(II)Z"⟩
abbrev cX10_isElementCount : ByteArray := prog_1_method_38_code
def yX10_isElementCount : MethodName := ⟨RX10, "isElementCount", "(I)Z"⟩
abbrev cX10_isDealt : ByteArray := prog_1_method_39_code
def yX10_isDealt : MethodName := ⟨RX10, "isDealt", "(III)Z"⟩
abbrev cX10_isSetOf : ByteArray := prog_1_method_40_code
def yX10_isSetOf : MethodName := ⟨RX10, "isSetOf", "(II)Z"⟩
abbrev cX10_refusalOfPlace : ByteArray := prog_1_method_41_code
def yX10_refusalOfPlace : MethodName := ⟨RX10, "refusalOfPlace", "(II)I"⟩
abbrev cX10_drawColumns : ByteArray := prog_1_method_42_code
def yX10_drawColumns : MethodName := ⟨RX10, "drawColumns", "(LWrittenColumns$Field;III)I"⟩
abbrev cX10_elementsOfAll : ByteArray := prog_1_method_43_code
def yX10_elementsOfAll : MethodName := ⟨RX10, "elementsOfAll", "()I"⟩
abbrev cX10_fullHolds : ByteArray := prog_1_method_44_code
def yX10_fullHolds : MethodName := ⟨RX10, "fullHolds", "()I"⟩
abbrev cX10_sheetsThere : ByteArray := prog_1_method_45_code
def yX10_sheetsThere : MethodName := ⟨RX10, "sheetsThere", "()I"⟩
def RX11 : String := "WrittenColumnsModel"
def TX11 : u_T := fun k => match k with
  | 0 => ("WrittenColumnsModel", "sizes", "[I", true)
  | 1 => ("WrittenColumnsModel", "fours", "[I", true)
  | 2 => ("WrittenColumnsModel", "many", "[I", true)
  | 3 => ("WrittenColumnsModel", "ranks", "[I", true)
  | 4 => ("WrittenColumnsModel", "column", "[I", true)
  | 5 => ("WrittenColumnsModel", "work", "[I", true)
  | 6 => ("WrittenColumnsModel", "cause", "[I", true)
  | 7 => ("WrittenColumnsModel", "to", "[I", true)
  | 8 => ("WrittenColumnsModel", "rowOf", "[I", true)
  | 9 => ("WrittenColumnsModel", "places", "[I", true)
  | 10 => ("WrittenColumnsModel", "joined", "[I", true)
  | 11 => ("WrittenColumnsModel", "free", "[I", true)
  | 12 => ("WrittenColumnsModel", "first", "[I", true)
  | 13 => ("WrittenColumnsModel", "rows", "I", false)
  | 14 => ("WrittenColumnsModel", "freeMany", "I", false)
  | 15 => ("WrittenColumnsModel", "z", "I", false)
  | 16 => ("WrittenColumnsModel", "holds", "[I", true)
  | 17 => ("WrittenColumnsModel", "heldField", "[I", true)
  | 18 => ("WrittenColumnsModel", "sort", "[I", true)
  | 19 => ("WrittenColumnsModel", "size", "[I", true)
  | 20 => ("WrittenColumnsModel", "items", "[I", true)
  | 21 => ("WrittenColumnsModel", "hasImage", "Z", false)
  | _ => ("WrittenColumnsModel", "keptZ", "I", false)
def tyX11 : Nat → FieldType := fun k => match k with
  | 0 => .array .int
  | 1 => .array .int
  | 2 => .array .int
  | 3 => .array .int
  | 4 => .array .int
  | 5 => .array .int
  | 6 => .array .int
  | 7 => .array .int
  | 8 => .array .int
  | 9 => .array .int
  | 10 => .array .int
  | 11 => .array .int
  | 12 => .array .int
  | 13 => .int
  | 14 => .int
  | 15 => .int
  | 16 => .array .int
  | 17 => .array .int
  | 18 => .array .int
  | 19 => .array .int
  | 20 => .array .int
  | 21 => .boolean
  | _ => .int
abbrev wsX110 : List Cond := u_ws RX11 TX11 23
theorem nmX11 : ∀ a, a < 23 → ∀ b, b < 23 → a ≠ b → (TX11 a).2.1 ≠ (TX11 b).2.1 := by decide +kernel
theorem tyX11_ok : ∀ k, k < 23 → parseFieldDescriptor (TX11 k).2.2.1 = some (tyX11 k) := by decide +kernel
abbrev cX11_init : ByteArray := prog_13_method_1_code
def yX11_init : MethodName := ⟨RX11, "<init>", "()V"⟩
abbrev cX11_in : ByteArray := prog_13_method_2_code
def yX11_in : MethodName := ⟨RX11, "in", "(III)Z"⟩
abbrev cX11_has : ByteArray := prog_13_method_3_code
def yX11_has : MethodName := ⟨RX11, "has", "(II)Z"⟩
abbrev cX11_bits : ByteArray := prog_13_method_4_code
def yX11_bits : MethodName := ⟨RX11, "bits", "(I)I"⟩
abbrev cX11_plus : ByteArray := prog_13_method_5_code
def yX11_plus : MethodName := ⟨RX11, "plus", "(III)I"⟩
abbrev cX11_minus : ByteArray := prog_13_method_6_code
def yX11_minus : MethodName := ⟨RX11, "minus", "(III)I"⟩
abbrev cX11_times : ByteArray := prog_13_method_7_code
def yX11_times : MethodName := ⟨RX11, "times", "(III)I"⟩
abbrev cX11_by : ByteArray := prog_13_method_8_code
def yX11_by : MethodName := ⟨RX11, "by", "(III)I"⟩
abbrev cX11_isField : ByteArray := prog_13_method_9_code
def yX11_isField : MethodName := ⟨RX11, "isField", "(I)Z"⟩
abbrev cX11_reckon : ByteArray := prog_13_method_10_code
def yX11_reckon : MethodName := ⟨RX11, "reckon", "(IIII)I"⟩
abbrev cX11_isView : ByteArray := prog_13_method_11_code
def yX11_isView : MethodName := ⟨RX11, "isView", "(I)Z"⟩
abbrev cX11_all : ByteArray := prog_13_method_12_code
def yX11_all : MethodName := ⟨RX11, "all", "(I)I"⟩
abbrev cX11_r : ByteArray := prog_13_method_13_code
def yX11_r : MethodName := ⟨RX11, "\x72", "(II)I"⟩
abbrev cX11_total : ByteArray := prog_13_method_14_code
def yX11_total : MethodName := ⟨RX11, "total", "(I)I"⟩
abbrev cX11_copies : ByteArray := prog_13_method_15_code
def yX11_copies : MethodName := ⟨RX11, "copies", "(II)V"⟩
abbrev cX11_uniform : ByteArray := prog_13_method_16_code
def yX11_uniform : MethodName := ⟨RX11, "uniform", "(III)I"⟩
abbrev cX11_rankOf : ByteArray := prog_13_method_17_code
def yX11_rankOf : MethodName := ⟨RX11, "rankOf", "(II)I"⟩
abbrev cX11_byColumns : ByteArray := prog_13_method_18_code
def yX11_byColumns : MethodName := ⟨RX11, "byColumns", "(III)I"⟩
abbrev cX11_columns : ByteArray := prog_13_method_19_code
def yX11_columns : MethodName := ⟨RX11, "columns", "(IIII)I"⟩
abbrev cX11_isCause : ByteArray := prog_13_method_20_code
def yX11_isCause : MethodName := ⟨RX11, "isCause", "(IIII)Z"⟩
abbrev cX11_isTold : ByteArray := prog_13_method_21_code
def yX11_isTold : MethodName := ⟨RX11, "isTold", "(II)Z"⟩
abbrev cX11_hasCause : ByteArray := prog_13_method_22_code
def yX11_hasCause : MethodName := ⟨RX11, "hasCause", "(II)Z"⟩
abbrev cX11_tell : ByteArray := prog_13_method_23_code
def yX11_tell : MethodName := ⟨RX11, "tell", "(III)I"⟩
abbrev cX11_cause : ByteArray := prog_13_method_24_code
def yX11_cause : MethodName := ⟨RX11, "cause", "(I)I"⟩
abbrev cX11_isSet : ByteArray := prog_13_method_25_code
def yX11_isSet : MethodName := ⟨RX11, "isSet", "(II)Z"⟩
abbrev cX11_rank : ByteArray := prog_13_method_26_code
def yX11_rank : MethodName := ⟨RX11, "rank", "(II)I"⟩
abbrev cX11_spanOf : ByteArray := prog_13_method_27_code
def yX11_spanOf : MethodName := ⟨RX11, "spanOf", "(II)I"⟩
abbrev cX11_span : ByteArray := prog_13_method_28_code
def yX11_span : MethodName := ⟨RX11, "span", "(II)I"⟩
abbrev cX11_isFree : ByteArray := prog_13_method_29_code
def yX11_isFree : MethodName := ⟨RX11, "isFree", "(II)Z"⟩
abbrev cX11_isOf : ByteArray := prog_13_method_30_code
def yX11_isOf : MethodName := ⟨RX11, "isOf", "(III)Z"⟩
abbrev cX11_sorts : ByteArray := prog_13_method_31_code
def yX11_sorts : MethodName := ⟨RX11, "sorts", "(II)I"⟩
abbrev cX11_countOf : ByteArray := prog_13_method_32_code
def yX11_countOf : MethodName := ⟨RX11, "countOf", "(II)I"⟩
abbrev cX11_many : ByteArray := prog_13_method_33_code
def yX11_many : MethodName := ⟨RX11, "many", "(II)I"⟩
abbrev cX11_at : ByteArray := prog_13_method_34_code
def yX11_at : MethodName := ⟨RX11, "at", "(III)I"⟩
abbrev cX11_weightOf : ByteArray := prog_13_method_35_code
def yX11_weightOf : MethodName := ⟨RX11, "weightOf", "(II)I"⟩
abbrev cX11_best : ByteArray := prog_13_method_36_code
def yX11_best : MethodName := ⟨RX11, "best", "(III)I"⟩
abbrev cX11_duals : ByteArray := prog_13_method_37_code
def yX11_duals : MethodName := ⟨RX11, "duals", "(II)V"⟩
abbrev cX11_dual : ByteArray := prog_13_method_38_code
def yX11_dual : MethodName := ⟨RX11, "dual", "(II)I"⟩
abbrev cX11_spread : ByteArray := prog_13_method_39_code
def yX11_spread : MethodName := ⟨RX11, "spread", "(II)I"⟩
abbrev cX11_minors : ByteArray := prog_13_method_40_code
def yX11_minors : MethodName := ⟨RX11, "minors", "(IIII)V"⟩
abbrev cX11_minor : ByteArray := prog_13_method_41_code
def yX11_minor : MethodName := ⟨RX11, "mino\x72", "(IIII)I"⟩
abbrev cX11_union : ByteArray := prog_13_method_42_code
def yX11_union : MethodName := ⟨RX11, "union", "(III)I"⟩
abbrev cX11_renumber : ByteArray := prog_13_method_43_code
def yX11_renumber : MethodName := ⟨RX11, "renumbe\x72", "(III)I"⟩
abbrev cX11_areSame : ByteArray := prog_13_method_44_code
def yX11_areSame : MethodName := ⟨RX11, "areSame", "(II)Z"⟩
abbrev cX11_same : ByteArray := prog_13_method_45_code
def yX11_same : MethodName := ⟨RX11, "same", "(II)I"⟩
abbrev cX11_fits : ByteArray := prog_13_method_46_code
def yX11_fits : MethodName := ⟨RX11, "fits", "(IIII)Z"⟩
abbrev cX11_alike : ByteArray := prog_13_method_47_code
def yX11_alike : MethodName := ⟨RX11, "alike", "(II)I"⟩
abbrev cX11_firstBase : ByteArray := prog_13_method_48_code
def yX11_firstBase : MethodName := ⟨RX11, "firstBase", "(I)I"⟩
abbrev cX11_joins : ByteArray := prog_13_method_49_code
def yX11_joins : MethodName := ⟨RX11, "joins", "(II)V"⟩
abbrev cX11_laysPattern : ByteArray := prog_13_method_50_code
def yX11_laysPattern : MethodName := ⟨RX11, "laysPattern", "(I)V"⟩
abbrev cX11_isWriting : ByteArray := prog_13_method_51_code
def yX11_isWriting : MethodName := ⟨RX11, "isWriting", "(II)Z"⟩
abbrev cX11_goesOn : ByteArray := prog_13_method_52_code
def yX11_goesOn : MethodName := ⟨RX11, "goesOn", "(I)Z"⟩
abbrev cX11_writingsOf : ByteArray := prog_13_method_53_code
def yX11_writingsOf : MethodName := ⟨RX11, "writingsOf", "(III)I"⟩
abbrev cX11_writings : ByteArray := prog_13_method_54_code
def yX11_writings : MethodName := ⟨RX11, "writings", "(II)I"⟩
abbrev cX11_writes : ByteArray := prog_13_method_55_code
def yX11_writes : MethodName := ⟨RX11, "writes", "(III)I"⟩
abbrev cX11_clash : ByteArray := prog_13_method_56_code
def yX11_clash : MethodName := ⟨RX11, "clash", "(I)I"⟩
abbrev cX11_isAll : ByteArray := prog_13_method_57_code
def yX11_isAll : MethodName := ⟨RX11, "isAll", "(II)Z"⟩
abbrev cX11_isSevens : ByteArray := prog_13_method_58_code
def yX11_isSevens : MethodName := ⟨RX11, "isSevens", "()Z"⟩
abbrev cX11_sortOf : ByteArray := prog_13_method_59_code
def yX11_sortOf : MethodName := ⟨RX11, "sortOf", "(I)I"⟩
abbrev cX11_excluded : ByteArray := prog_13_method_60_code
def yX11_excluded : MethodName := ⟨RX11, "excluded", "(III)I"⟩
abbrev cX11_seed : ByteArray := prog_13_method_61_code
def yX11_seed : MethodName := ⟨RX11, "seed", "(I)I"⟩
abbrev cX11_dealt : ByteArray := prog_13_method_62_code
def yX11_dealt : MethodName := ⟨RX11, "dealt", "(IIII)I"⟩
abbrev cX11_isDeal : ByteArray := prog_13_method_63_code
def yX11_isDeal : MethodName := ⟨RX11, "isDeal", "(III)Z"⟩
abbrev cX11_deal : ByteArray := prog_13_method_64_code
def yX11_deal : MethodName := ⟨RX11, "deal", "(IIII)I"⟩
abbrev cX11_chance : ByteArray := prog_13_method_65_code
def yX11_chance : MethodName := ⟨RX11, "chance", "(IIIII)I"⟩
abbrev cX11_isHold : ByteArray := prog_13_method_66_code
def yX11_isHold : MethodName := ⟨RX11, "isHold", "(I)Z"⟩
abbrev cX11_hold : ByteArray := prog_13_method_67_code
def yX11_hold : MethodName := ⟨RX11, "hold", "(III)I"⟩
abbrev cX11_held : ByteArray := prog_13_method_68_code
def yX11_held : MethodName := ⟨RX11, "held", "(II)I"⟩
abbrev cX11_take : ByteArray := prog_13_method_69_code
def yX11_take : MethodName := ⟨RX11, "take", "(II)I"⟩
abbrev cX11_isSheet : ByteArray := prog_13_method_70_code
def yX11_isSheet : MethodName := ⟨RX11, "isSheet", "(I)Z"⟩
abbrev cX11_laysSheet : ByteArray := prog_13_method_71_code
def yX11_laysSheet : MethodName := ⟨RX11, "laysSheet", "(II)V"⟩
abbrev cX11_sheet : ByteArray := prog_13_method_72_code
def yX11_sheet : MethodName := ⟨RX11, "sheet", "(III)I"⟩
abbrev cX11_wrongAt : ByteArray := prog_13_method_73_code
def yX11_wrongAt : MethodName := ⟨RX11, "wrongAt", "(II)I"⟩
abbrev cX11_write : ByteArray := prog_13_method_74_code
def yX11_write : MethodName := ⟨RX11, "write", "(III)I"⟩
abbrev cX11_item : ByteArray := prog_13_method_75_code
def yX11_item : MethodName := ⟨RX11, "item", "(II)I"⟩
abbrev cX11_copy : ByteArray := prog_13_method_76_code
def yX11_copy : MethodName := ⟨RX11, "copy", "(IIIII)I"⟩
abbrev cX11_list : ByteArray := prog_13_method_77_code
def yX11_list : MethodName := ⟨RX11, "list", "(II)I"⟩
abbrev cX11_elements : ByteArray := prog_13_method_78_code
def yX11_elements : MethodName := ⟨RX11, "elements", "()I"⟩
abbrev cX11_image : ByteArray := prog_13_method_79_code
def yX11_image : MethodName := ⟨RX11, "image", "()I"⟩
abbrev cX11_back : ByteArray := prog_13_method_80_code
def yX11_back : MethodName := ⟨RX11, "back", "()I"⟩
abbrev cX11_count : ByteArray := prog_13_method_81_code
def yX11_count : MethodName := ⟨RX11, "count", "(I)I"⟩
def RJ6 : String := "java/lang/Intege\x72"
def TJ6 : u_T := fun k => match k with
  | _ => ("", "", "", false)
def tyJ6 : Nat → FieldType := fun k => match k with
  | _ => .int
abbrev wsJ60 : List Cond := u_ws RJ6 TJ6 0
theorem nmJ6 : ∀ a, a < 0 → ∀ b, b < 0 → a ≠ b → (TJ6 a).2.1 ≠ (TJ6 b).2.1 := by decide +kernel
theorem tyJ6_ok : ∀ k, k < 0 → parseFieldDescriptor (TJ6 k).2.2.1 = some (tyJ6 k) := by decide +kernel
abbrev cJ6_numberOfTrailingZeros_0f7a4 : ByteArray := prog_14_method_48_code
def yJ6_numberOfTrailingZeros_0f7a4 : MethodName := ⟨RJ6, "numberOfTrailingZeros", "(I)I"⟩
abbrev cJ6_bitCount_0f7a4 : ByteArray := prog_14_method_49_code
def yJ6_bitCount_0f7a4 : MethodName := ⟨RJ6, "bitCount", "(I)I"⟩
def RJ9 : String := "java/lang/Math"
def TJ9 : u_T := fun k => match k with
  | _ => ("", "", "", false)
def tyJ9 : Nat → FieldType := fun k => match k with
  | _ => .int
abbrev wsJ90 : List Cond := u_ws RJ9 TJ9 0
theorem nmJ9 : ∀ a, a < 0 → ∀ b, b < 0 → a ≠ b → (TJ9 a).2.1 ≠ (TJ9 b).2.1 := by decide +kernel
theorem tyJ9_ok : ∀ k, k < 0 → parseFieldDescriptor (TJ9 k).2.2.1 = some (tyJ9 k) := by decide +kernel
abbrev cJ9_max_7cf53 : ByteArray := prog_15_method_65_code
def yJ9_max_7cf53 : MethodName := ⟨RJ9, "max", "(II)I"⟩
abbrev cJ9_min_7cf53 : ByteArray := prog_15_method_69_code
def yJ9_min_7cf53 : MethodName := ⟨RJ9, "min", "(II)I"⟩
def RJ10 : String := "java/lang/System"
def TJ10 : u_T := fun k => match k with
  | _ => ("", "", "", false)
def tyJ10 : Nat → FieldType := fun k => match k with
  | _ => .int
abbrev wsJ100 : List Cond := u_ws RJ10 TJ10 0
theorem nmJ10 : ∀ a, a < 0 → ∀ b, b < 0 → a ≠ b → (TJ10 a).2.1 ≠ (TJ10 b).2.1 := by decide +kernel
theorem tyJ10_ok : ∀ k, k < 0 → parseFieldDescriptor (TJ10 k).2.2.1 = some (tyJ10 k) := by decide +kernel
def RL : String := "WrittenColumnsLaw"
end
section
/-! ===== THE ABSTRACT MACHINE: a world of numbered cells, instructions that say what they link to, methods by number ===== -/
abbrev am_C : Type := (Nat × Nat × ((Nat → Int32) ⊕ (Nat → Option Nat))) ⊕ (Nat × List Value)
abbrev am_W : Type := List am_C
abbrev am_L : Type := List (Option Value)
abbrev am_R : Type := Option Value × am_W
abbrev am_K : Type := Nat → am_L → List Value → am_W → Option am_R
abbrev am_F : Type := Nat → List Value → am_W → Option am_R
/-- an instruction, what it links to (three numbers, a list of jumps) -/
abbrev am_I : Type := Instr × Nat × Nat × Nat × List (Int × Nat)
/-- a field of ints -/
def am_fI (g : am_W) (p ci k : Nat) : Option Int32 := match g[p]? with
  | some (.inr (c, fs)) => if c = ci then (match fs[k]? with | some (.int x) => some x | _ => none) else none
  | _ => none
/-- a field of references that isn't null -/
def am_fR (g : am_W) (p ci k : Nat) : Option Nat := match g[p]? with
  | some (.inr (c, fs)) => if c = ci then (match fs[k]? with | some (.ref x) => some x | _ => none) else none
  | _ => none
/-- a field of references that may be null -/
def am_fN (g : am_W) (p ci k : Nat) : Option (Option Nat) := match g[p]? with
  | some (.inr (c, fs)) => if c = ci then (match fs[k]? with | some (.ref x) => some (some x) | some .null => some none | _ => none) else none
  | _ => none
/-- a field is written -/
def am_sF (g : am_W) (p ci k : Nat) (v : Value) : Option am_W := match g[p]? with
  | some (.inr (c, fs)) => if c = ci then (if k < fs.length then some (g.set p (.inr (c, fs.set k v))) else none) else none
  | _ => none
/-- an element of a row of ints (t 0) or booleans (t 1) -/
def am_aI (g : am_W) (p t : Nat) (i : Int32) : Option Int32 := match g[p]? with
  | some (.inl (u, n, .inl f)) => if u = t then (if i < 0 ∨ n ≤ i.toNatClampNeg then none else some (f i.toNatClampNeg)) else none
  | _ => none
/-- an element of a row of references that isn't null -/
def am_aR (g : am_W) (p : Nat) (i : Int32) : Option Nat := match g[p]? with
  | some (.inl (u, n, .inr f)) => if 2 ≤ u ∧ u < 6 then (if i < 0 ∨ n ≤ i.toNatClampNeg then none else f i.toNatClampNeg) else none
  | _ => none
/-- an element is written -/
def am_sI (g : am_W) (p t : Nat) (i x : Int32) : Option am_W := match g[p]? with
  | some (.inl (u, n, .inl f)) => if u = t then (if i < 0 ∨ n ≤ i.toNatClampNeg then none else some (g.set p (.inl (u, n, .inl (upd f i.toNatClampNeg x))))) else none
  | _ => none
/-- how long a row is -/
def am_ln (g : am_W) (p : Nat) : Option Int32 := match g[p]? with
  | some (.inl (u, n, .inl _)) => if u < 2 then some (Int32.ofNat n) else none
  | _ => none
/-- System.arraycopy of ints -/
def am_cp (g : am_W) (a0 : Nat) (sp : Int32) (a : Nat) (dp n : Int32) : Option am_W := match g[a0]?, g[a]? with
  | some (.inl (u0, n0, .inl f)), some (.inl (u1, n1, .inl h)) =>
    if (u0 = 0 ∧ u1 = 0) ∧ ¬ sp < 0 ∧ ¬ dp < 0 ∧ ¬ n < 0 ∧ sp.toNatClampNeg + n.toNatClampNeg ≤ n0 ∧ dp.toNatClampNeg + n.toNatClampNeg ≤ n1
    then some (g.set a (.inl (u1, n1, .inl (va_cpy f h sp.toNatClampNeg dp.toNatClampNeg n.toNatClampNeg)))) else none
  | _, _ => none
def am_on {β : Type} (o : Option Nat) (a : β) (f : Nat → β) : β := match o with
  | some q => f q
  | none => a
def am_cI (o : Option am_R) : Option (Int32 × am_W) := match o with
  | some (some (.int x), g) => some (x, g)
  | _ => none
def am_cV (o : Option am_R) : Option am_W := match o with
  | some (none, g) => some g
  | _ => none
/-- a switch: the first of the values that it is -/
def am_sw (x : Int32) (d : Nat) (k : Nat → Option am_R) : List (Int × Nat) → Option am_R
  | [] => k d
  | q :: r => if x = Int32.ofInt q.1 then k q.2 else am_sw x d k r
/-- a choice that a program makes -/
def am_b0 {β : Type} (b : Bool) (x y : β) : β := match b with
  | true => x
  | false => y
def am_b1 {β : Type} (b : Bool) (x y : β) : β := am_b0 b x y
def am_b2 {β : Type} (b : Bool) (x y : β) : β := am_b1 b x y
def am_b3 {β : Type} (b : Bool) (x y : β) : β := am_b2 b x y
def am_if {β : Type} (b : Bool) (x y : β) : β := am_b3 b x y
theorem am_if_some {β : Type} {b : Bool} {x : Option β} {r : β} (h : am_if b x none = some r) : b = true ∧ x = some r := by
  cases b with
  | true => exact ⟨rfl, h⟩
  | false => exact absurd (show (none : Option β) = some r from h) (by simp)
def am_ld (L : am_L) (i : Nat) : Option Value := match L[i]? with
  | some (some v) => some v
  | _ => none
/-- a call: n values are taken off the stack -/
def am_call (F : am_F) (K : am_K) (j n : Nat) (b : Nat) (pc : Nat) (L : am_L) (st : List Value) (g : am_W) : Option am_R :=
  am_if (Nat.ble n st.length && Nat.ble ((st.drop n).map (fun v => v.category)).sum 8)
    (am_if (Nat.beq b 1) ((am_cI (F j (st.take n).reverse g)).bind (fun q => K (pc + 3) L (.int q.1 :: st.drop n) q.2))
      ((am_cV (F j (st.take n).reverse g)).bind (fun q => K (pc + 3) L (st.drop n) q)))
  none
/-- one instruction; K goes on; rz: the method answers a boolean -/
def am_ex (rz : Bool) (F : am_F) (K : am_K) (i : am_I) (pc : Nat) (L : am_L) (st : List Value) (g : am_W) : Option am_R :=
  match i.1 with
  | .iconst n => K (pc + 1) L (.int (Int32.ofInt n) :: st) g
  | .bipush n => K (pc + 2) L (.int (Int8.ofInt n).toInt32 :: st) g
  | .sipush n => K (pc + 3) L (.int (Int16.ofInt n).toInt32 :: st) g
  | .ldc _ => K (pc + 2) L (.int (Int32.ofNat i.2.1) :: st) g
  | .ldc_w _ => K (pc + 3) L (.int (Int32.ofNat i.2.1) :: st) g
  | .aconst_null => K (pc + 1) L (.null :: st) g
  | .iload_n k => (match am_ld L k.val with | some (.int x) => K (pc + 1) L (.int x :: st) g | _ => none)
  | .iload k => (match am_ld L k with | some (.int x) => K (pc + 2) L (.int x :: st) g | _ => none)
  | .aload_n k => (match am_ld L k.val with | some (.ref x) => K (pc + 1) L (.ref x :: st) g | some .null => K (pc + 1) L (.null :: st) g | _ => none)
  | .aload k => (match am_ld L k with | some (.ref x) => K (pc + 2) L (.ref x :: st) g | some .null => K (pc + 2) L (.null :: st) g | _ => none)
  | .istore_n k => (match st with | .int x :: r => am_if (Nat.blt k.val L.length) (K (pc + 1) (L.set k.val (some (.int x))) r g) none | _ => none)
  | .istore k => (match st with | .int x :: r => am_if (Nat.blt k L.length) (K (pc + 2) (L.set k (some (.int x))) r g) none | _ => none)
  | .astore_n k => (match st with | .ref x :: r => am_if (Nat.blt k.val L.length) (K (pc + 1) (L.set k.val (some (.ref x))) r g) none | .null :: r => am_if (Nat.blt k.val L.length) (K (pc + 1) (L.set k.val (some .null)) r g) none | _ => none)
  | .astore k => (match st with | .ref x :: r => am_if (Nat.blt k L.length) (K (pc + 2) (L.set k (some (.ref x))) r g) none | .null :: r => am_if (Nat.blt k L.length) (K (pc + 2) (L.set k (some .null)) r g) none | _ => none)
  | .iinc k n => (match am_ld L k with | some (.int x) => am_if (Nat.blt k L.length) (K (pc + 3) (L.set k (some (.int (x + Int32.ofInt n)))) st g) none | _ => none)
  | .iadd => (match st with | .int y :: .int x :: r => K (pc + 1) L (.int (x + y) :: r) g | _ => none)
  | .isub => (match st with | .int y :: .int x :: r => K (pc + 1) L (.int (x - y) :: r) g | _ => none)
  | .imul => (match st with | .int y :: .int x :: r => K (pc + 1) L (.int (x * y) :: r) g | _ => none)
  | .idiv => (match st with | .int y :: .int x :: r => if y = 0 then none else K (pc + 1) L (.int (x / y) :: r) g | _ => none)
  | .irem => (match st with | .int y :: .int x :: r => if y = 0 then none else K (pc + 1) L (.int (x - x / y * y) :: r) g | _ => none)
  | .iand => (match st with | .int y :: .int x :: r => K (pc + 1) L (.int (x &&& y) :: r) g | _ => none)
  | .ior => (match st with | .int y :: .int x :: r => K (pc + 1) L (.int (x ||| y) :: r) g | _ => none)
  | .ixor => (match st with | .int y :: .int x :: r => K (pc + 1) L (.int (x ^^^ y) :: r) g | _ => none)
  | .ishl => (match st with | .int y :: .int x :: r => K (pc + 1) L (.int (x <<< (y &&& 31)) :: r) g | _ => none)
  | .ishr => (match st with | .int y :: .int x :: r => K (pc + 1) L (.int (x >>> (y &&& 31)) :: r) g | _ => none)
  | .iushr => (match st with | .int y :: .int x :: r => K (pc + 1) L (.int (x.toUInt32 >>> (y.toUInt32 &&& Int32.toUInt32 31)).toInt32 :: r) g | _ => none)
  | .i2b => (match st with | .int x :: r => K (pc + 1) L (.int x.toInt8.toInt32 :: r) g | _ => none)
  | .dup => (match st with | .int x :: r => K (pc + 1) L (.int x :: .int x :: r) g | .ref x :: r => K (pc + 1) L (.ref x :: .ref x :: r) g | _ => none)
  | .dup2 => (match st with | .int x :: .ref y :: r => K (pc + 1) L (.int x :: .ref y :: .int x :: .ref y :: r) g | _ => none)
  | .goto _ => K i.2.1 L st g
  | .ifCond c _ => (match st with
    | .int x :: r => (match c with
      | .eq => if x = 0 then K i.2.1 L r g else K (pc + 3) L r g
      | .ne => if x = 0 then K (pc + 3) L r g else K i.2.1 L r g
      | .lt => if x < 0 then K i.2.1 L r g else K (pc + 3) L r g
      | .ge => if 0 ≤ x then K i.2.1 L r g else K (pc + 3) L r g
      | .gt => if 0 < x then K i.2.1 L r g else K (pc + 3) L r g
      | .le => if x ≤ 0 then K i.2.1 L r g else K (pc + 3) L r g)
    | _ => none)
  | .if_icmp c _ => (match st with
    | .int y :: .int x :: r => (match c with
      | .eq => if x = y then K i.2.1 L r g else K (pc + 3) L r g
      | .ne => if x = y then K (pc + 3) L r g else K i.2.1 L r g
      | .lt => if x < y then K i.2.1 L r g else K (pc + 3) L r g
      | .ge => if y ≤ x then K i.2.1 L r g else K (pc + 3) L r g
      | .gt => if y < x then K i.2.1 L r g else K (pc + 3) L r g
      | .le => if x ≤ y then K i.2.1 L r g else K (pc + 3) L r g)
    | _ => none)
  | .ifnull _ => (match st with | .ref _ :: r => K (pc + 3) L r g | .null :: r => K i.2.1 L r g | _ => none)
  | .ifnonnull _ => (match st with | .ref _ :: r => K i.2.1 L r g | .null :: r => K (pc + 3) L r g | _ => none)
  | .tableswitch _ _ _ _ => (match st with | .int x :: r => am_sw x i.2.1 (fun t => K t L r g) i.2.2.2.2 | _ => none)
  | .lookupswitch _ _ => (match st with | .int x :: r => am_sw x i.2.1 (fun t => K t L r g) i.2.2.2.2 | _ => none)
  | .getfield _ => (match st with
    | .ref p :: r => (match i.2.2.2.1 with
      | 0 => (am_fI g p i.2.1 i.2.2.1).bind (fun x => K (pc + 3) L (.int x :: r) g)
      | 1 => (am_fR g p i.2.1 i.2.2.1).bind (fun x => K (pc + 3) L (.ref x :: r) g)
      | _ => (am_fN g p i.2.1 i.2.2.1).bind (fun x => am_on x (K (pc + 3) L (.null :: r) g) (fun q => K (pc + 3) L (.ref q :: r) g)))
    | _ => none)
  | .putfield _ => (match st with
    | .int x :: .ref p :: r => am_if (Nat.beq i.2.2.2.1 0) ((am_sF g p i.2.1 i.2.2.1 (.int x)).bind (fun g' => K (pc + 3) L r g')) (am_if (Nat.beq i.2.2.2.1 3) (if x = 0 ∨ x = 1 then (am_sF g p i.2.1 i.2.2.1 (.int x)).bind (fun g' => K (pc + 3) L r g') else none) none)
    | .ref x :: .ref p :: r => am_if (Nat.beq i.2.2.2.1 2) ((am_sF g p i.2.1 i.2.2.1 (.ref x)).bind (fun g' => K (pc + 3) L r g')) none
    | .null :: .ref p :: r => am_if (Nat.beq i.2.2.2.1 2) ((am_sF g p i.2.1 i.2.2.1 .null).bind (fun g' => K (pc + 3) L r g')) none
    | _ => none)
  | .iaload => (match st with | .int x :: .ref p :: r => (am_aI g p 0 x).bind (fun v => K (pc + 1) L (.int v :: r) g) | _ => none)
  | .baload => (match st with | .int x :: .ref p :: r => (am_aI g p 1 x).bind (fun v => K (pc + 1) L (.int v :: r) g) | _ => none)
  | .aaload => (match st with | .int x :: .ref p :: r => (am_aR g p x).bind (fun v => K (pc + 1) L (.ref v :: r) g) | _ => none)
  | .iastore => (match st with | .int v :: .int x :: .ref p :: r => (am_sI g p 0 x v).bind (fun g' => K (pc + 1) L r g') | _ => none)
  | .bastore => (match st with | .int v :: .int x :: .ref p :: r => (am_sI g p 1 x (vp_nar .boolean v)).bind (fun g' => K (pc + 1) L r g') | _ => none)
  | .arraylength => (match st with | .ref p :: r => (am_ln g p).bind (fun v => K (pc + 1) L (.int v :: r) g) | _ => none)
  | .invokestatic _ => am_if (Nat.beq i.2.1 999)
      (match st with | .int n :: .int dp :: .ref a :: .int sp :: .ref a0 :: r => am_if (Nat.ble (r.map (fun v => v.category)).sum 8) ((am_cp g a0 sp a dp n).bind (fun g' => K (pc + 3) L r g')) none | _ => none)
      (am_if (Nat.beq i.2.1 998)
      (match st with | .int y :: .int x :: r => am_if (Nat.ble (r.map (fun v => v.category)).sum 8) (K (pc + 3) L (.int (if x < y then y else x) :: r) g) none | _ => none)
      (am_if (Nat.beq i.2.1 997)
      (match st with | .int y :: .int x :: r => am_if (Nat.ble (r.map (fun v => v.category)).sum 8) (K (pc + 3) L (.int (if y < x then y else x) :: r) g) none | _ => none)
      (am_call F K i.2.1 i.2.2.1 i.2.2.2.1 pc L st g)))
  | .invokevirtual _ => am_call F K i.2.1 i.2.2.1 i.2.2.2.1 pc L st g
  | .ireturn => (match st with | [.int x] => am_if rz (if x = 0 ∨ x = 1 then some (some (.int x), g) else none) (some (some (.int x), g)) | _ => none)
  | .return_ => (match st with | [] => some (none, g) | _ => none)
  | _ => none
end
section
/-! ===== runs ===== -/
def am_rn (rz : Bool) (F : am_F) (cd : Nat → Option am_I) : Nat → am_K
  | 0, _, _, _, _ => none
  | n + 1, pc, L, st, g => match cd pc with
    | some i => am_ex rz F (am_rn rz F cd n) i pc L st g
    | none => none
/-- what goes on is asked at one place at most -/
def am_alg (f : am_K → Option am_R) : Prop := ∀ (K : am_K) (r : am_R), f K = some r → (∀ K' : am_K, f K' = some r) ∨ ∃ (pc : Nat) (L : am_L) (st : List Value) (g : am_W), K pc L st g = some r ∧ ∀ K' : am_K, K' pc L st g = some r → f K' = some r
theorem am_alg.none : am_alg (fun _ => none) := fun _ _ h => by cases h
theorem am_alg.fin (o : Option am_R) : am_alg (fun _ => o) := fun _ _ h => Or.inl (fun _ => h)
theorem am_alg.go (pc : Nat) (L : am_L) (st : List Value) (g : am_W) : am_alg (fun K => K pc L st g) := fun _ _ h => Or.inr ⟨pc, L, st, g, h, fun _ h => h⟩
theorem am_alg.ite {c : Prop} [Decidable c] {f g : am_K → Option am_R} (hf : am_alg f) (hg : am_alg g) : am_alg (fun K => if c then f K else g K) := by
  by_cases h : c
  · simpa only [h, if_true] using hf
  · simpa only [h, if_false] using hg
theorem am_alg.bif {b : Bool} {f g : am_K → Option am_R} (hf : am_alg f) (hg : am_alg g) : am_alg (fun K => am_if b (f K) (g K)) := by
  cases b with
  | true => exact hf
  | false => exact hg
theorem am_alg.bind {α : Type} (o : Option α) {f : α → am_K → Option am_R} (hf : ∀ a, am_alg (f a)) : am_alg (fun K => o.bind (fun a => f a K)) := by
  cases o with
  | none => exact am_alg.none
  | some a => exact hf a
theorem am_alg.on (o : Option Nat) {a : am_K → Option am_R} {f : Nat → am_K → Option am_R} (ha : am_alg a) (hf : ∀ q, am_alg (f q)) : am_alg (fun K => am_on o (a K) (fun q => f q K)) := by
  cases o with
  | none => exact ha
  | some q => exact hf q
theorem am_alg.sw (x : Int32) (d : Nat) {k : Nat → am_K → Option am_R} (hk : ∀ t, am_alg (k t)) : ∀ l : List (Int × Nat), am_alg (fun K => am_sw x d (fun t => k t K) l)
  | [] => hk d
  | q :: r => am_alg.ite (hk q.2) (am_alg.sw x d hk r)
theorem am_alg.call (F : am_F) (j n b pc : Nat) (L : am_L) (st : List Value) (g : am_W) : am_alg (fun K => am_call F K j n b pc L st g) := by
  unfold am_call
  exact am_alg.bif (am_alg.bif (am_alg.bind _ (fun _ => am_alg.go _ _ _ _)) (am_alg.bind _ (fun _ => am_alg.go _ _ _ _))) am_alg.none
set_option maxHeartbeats 4000000 in
theorem am_ex_alg (rz : Bool) (F : am_F) (i : am_I) (pc : Nat) (L : am_L) (st : List Value) (g : am_W) : am_alg (fun K => am_ex rz F K i pc L st g) := by
  unfold am_ex
  split
  all_goals
    repeat' first
      | exact am_alg.none
      | exact am_alg.go _ _ _ _
      | exact am_alg.fin _
      | exact am_alg.call _ _ _ _ _ _ _ _
      | apply am_alg.ite
      | apply am_alg.bif
      | refine am_alg.bind _ (fun _ => ?_)
      | refine am_alg.on _ ?_ (fun _ => ?_)
      | refine am_alg.sw _ _ (fun _ => ?_) _
      | split
theorem am_rn_mono {rz : Bool} {F : am_F} {cd : Nat → Option am_I} : ∀ (n : Nat) (pc : Nat) (L : am_L) (st : List Value) (g : am_W) (r : am_R), am_rn rz F cd n pc L st g = some r → am_rn rz F cd (n + 1) pc L st g = some r := by
  intro n
  induction n with
  | zero => intro pc L st g r h; cases h
  | succ n ih =>
    intro pc L st g r h
    unfold am_rn at h ⊢
    cases hi : cd pc with
    | none => rw [hi] at h; cases h
    | some i =>
      rw [hi] at h
      dsimp only at h ⊢
      rcases am_ex_alg rz F i pc L st g _ r h with h1 | ⟨pc', L', st', g', h1, h2⟩
      · exact h1 _
      · exact h2 _ (ih _ _ _ _ _ h1)
theorem am_rn_le {rz : Bool} {F : am_F} {cd : Nat → Option am_I} {n k : Nat} (hk : n ≤ k) {pc : Nat} {L : am_L} {st : List Value} {g : am_W} {r : am_R} (h : am_rn rz F cd n pc L st g = some r) : am_rn rz F cd k pc L st g = some r := by
  induction hk with
  | refl => exact h
  | step _ ih => exact am_rn_mono _ _ _ _ _ _ ih
noncomputable def am_run (rz : Bool) (F : am_F) (cd : Nat → Option am_I) (pc : Nat) (L : am_L) (st : List Value) (g : am_W) : Option am_R :=
  @dite (Option am_R) (∃ (r : am_R) (n : Nat), am_rn rz F cd n pc L st g = some r) (Classical.propDecidable _) (fun h => some h.choose) (fun _ => none)
theorem am_run_of {rz : Bool} {F : am_F} {cd : Nat → Option am_I} {n : Nat} {pc : Nat} {L : am_L} {st : List Value} {g : am_W} {r : am_R} (h : am_rn rz F cd n pc L st g = some r) : am_run rz F cd pc L st g = some r := by
  have hx : ∃ (r : am_R) (n : Nat), am_rn rz F cd n pc L st g = some r := ⟨r, n, h⟩
  unfold am_run
  rw [dif_pos hx]
  obtain ⟨k, hk⟩ := hx.choose_spec
  have h1 := am_rn_le (Nat.le_max_left n k) h
  have h2 := am_rn_le (Nat.le_max_right n k) hk
  exact h2.symm.trans h1
theorem am_run_to {rz : Bool} {F : am_F} {cd : Nat → Option am_I} {pc : Nat} {L : am_L} {st : List Value} {g : am_W} {r : am_R} (h : am_run rz F cd pc L st g = some r) : ∃ n, am_rn rz F cd n pc L st g = some r := by
  unfold am_run at h
  by_cases hx : ∃ (r : am_R) (n : Nat), am_rn rz F cd n pc L st g = some r
  · rw [dif_pos hx] at h
    rw [← Option.some.inj h]
    exact hx.choose_spec
  · rw [dif_neg hx] at h
    cases h
/-- a run goes on by its instruction -/
theorem am_run_eq (rz : Bool) (F : am_F) (cd : Nat → Option am_I) (pc : Nat) (L : am_L) (st : List Value) (g : am_W) : am_run rz F cd pc L st g = (match cd pc with | some i => am_ex rz F (am_run rz F cd) i pc L st g | none => none) := by
  apply Option.ext
  intro r
  constructor
  · intro h
    obtain ⟨n, hn⟩ := am_run_to h
    cases n with
    | zero => cases hn
    | succ n =>
      unfold am_rn at hn
      cases hi : cd pc with
      | none => rw [hi] at hn; cases hn
      | some i =>
        rw [hi] at hn
        dsimp only at hn ⊢
        rcases am_ex_alg rz F i pc L st g _ r hn with h1 | ⟨pc', L', st', g', h1, h2⟩
        · exact h1 _
        · exact h2 _ (am_run_of h1)
  · intro h
    cases hi : cd pc with
    | none => rw [hi] at h; cases h
    | some i =>
      rw [hi] at h
      dsimp only at h
      rcases am_ex_alg rz F i pc L st g _ r h with h1 | ⟨pc', L', st', g', h1, h2⟩
      · refine am_run_of (n := 1) ?_
        unfold am_rn
        rw [hi]
        exact h1 _
      · obtain ⟨n, hn⟩ := am_run_to h1
        refine am_run_of (n := n + 1) ?_
        unfold am_rn
        rw [hi]
        exact h2 _ hn
/-- many instructions at once, up to the stops (the first is taken in any case) -/
def am_go (rz : Bool) (F : am_F) (cd : Nat → Option am_I) (stops : List Nat) (K : am_K) : Nat → am_K
  | 0, pc, L, st, g => K pc L st g
  | n + 1, pc, L, st, g => match cd pc with
    | some i => am_ex rz F (fun pc' L' st' g' => am_if (stops.elem pc') (K pc' L' st' g') (am_go rz F cd stops K n pc' L' st' g')) i pc L st g
    | none => none
theorem am_run_go (rz : Bool) (F : am_F) (cd : Nat → Option am_I) (stops : List Nat) : ∀ (n pc : Nat) (L : am_L) (st : List Value) (g : am_W), am_run rz F cd pc L st g = am_go rz F cd stops (am_run rz F cd) n pc L st g := by
  intro n
  induction n with
  | zero => intro pc L st g; rfl
  | succ n ih =>
    intro pc L st g
    rw [am_run_eq]
    unfold am_go
    cases cd pc with
    | none => rfl
    | some i =>
      dsimp only
      congr 1
      funext pc' L' st' g'
      cases stops.elem pc' with
      | true => rfl
      | false => exact ih _ _ _ _
end
section
/-! ===== the machine's world of an abstract one ===== -/
abbrev am_cl : List vw_C := [(RX0, TX0, 5), (RX1, TX1, 5), (RX2, TX2, 2), (RX3, TX3, 3), (RX4, TX4, 3), (RX5, TX5, 7), (RX6, TX6, 1), (RX7, TX7, 3), (RX8, TX8, 2), (RX9, TX9, 12), (RX10, TX10, 12), (RX11, TX11, 23)]
def am_ty (cA : Nat → ClassId) : List (ClassId × FieldType) := [(cA 0, .int), (cA 1, .boolean), (cA 2, .object RX2), (cA 3, .object RX8), (cA 4, .object RX3), (cA 5, .object RX7)]
def am_v (ρ : Nat → Nat) : Value → Value
  | .ref a => .ref (ρ a)
  | .int x => .int x
  | .null => .null
  | .long x => .long x
  | .float x => .float x
  | .double x => .double x
  | .retAddr x => .retAddr x
def am_e (ρ : Nat → Nat) (cA : Nat → ClassId) : am_C → va_E
  | .inl (t, n, .inl f) => .inl (cA t, n, .inl f)
  | .inl (t, n, .inr f) => .inl (cA t, n, .inr (.inr (.inr (.inr (fun j => if j < n then (f j).map ρ else none)))))
  | .inr (ci, fs) => .inr (ci, fs.map (am_v ρ))
def am_lay (ρ : Nat → Nat) (cA : Nat → ClassId) (g : am_W) : va_W := g.mapIdx (fun k e => (ρ k, am_e ρ cA e))
theorem am_lay_get (ρ : Nat → Nat) (cA : Nat → ClassId) (g : am_W) (k : Nat) : (am_lay ρ cA g)[k]? = (g[k]?).map (fun e => (ρ k, am_e ρ cA e)) := by
  unfold am_lay
  rw [List.getElem?_mapIdx]
theorem am_lay_at {ρ : Nat → Nat} {cA : Nat → ClassId} {g : am_W} {k : Nat} {e : am_C} (h : g[k]? = some e) : (am_lay ρ cA g)[k]? = some (ρ k, am_e ρ cA e) := by
  rw [am_lay_get, h]
  rfl
theorem am_lay_set (ρ : Nat → Nat) (cA : Nat → ClassId) (g : am_W) (k : Nat) (e : am_C) : (am_lay ρ cA g).set k (ρ k, am_e ρ cA e) = am_lay ρ cA (g.set k e) := by
  apply List.ext_getElem?
  intro j
  rw [am_lay_get, List.getElem?_set, List.getElem?_set]
  have hlen : (am_lay ρ cA g).length = g.length := by unfold am_lay; exact List.length_mapIdx
  rw [hlen]
  by_cases h : k = j
  · subst h
    by_cases h2 : k < g.length
    · simp [h2]
    · simp [h2]
  · simp [h, am_lay_get]
def am_A (ρ : Nat → Nat) (n : Nat) : Nat → Prop := fun q => ∃ k, k < n ∧ q = ρ k
def am_inj (ρ : Nat → Nat) (n : Nat) : Prop := ∀ i j, i < n → j < n → ρ i = ρ j → i = j
theorem am_lay_D {ρ : Nat → Nat} {cA : Nat → ClassId} {g : am_W} {n : Nat} (hρ : am_inj ρ n) (hn : g.length = n) : va_D (am_A ρ n) (am_lay ρ cA g) := by
  refine ⟨fun i j p q hi hj he => ?_, fun k q hk => ?_⟩
  · rw [am_lay_get] at hi hj
    cases h1 : g[i]? with
    | none => rw [h1] at hi; cases hi
    | some x =>
      cases h2 : g[j]? with
      | none => rw [h2] at hj; cases hj
      | some y =>
        rw [h1] at hi
        rw [h2] at hj
        have e1 := Option.some.inj hi
        have e2 := Option.some.inj hj
        rw [← e1, ← e2] at he
        have l1 := (List.getElem?_eq_some_iff.mp h1).1
        have l2 := (List.getElem?_eq_some_iff.mp h2).1
        exact hρ i j (by omega) (by omega) he
  · rw [am_lay_get] at hk
    cases h1 : g[k]? with
    | none => rw [h1] at hk; cases hk
    | some x =>
      rw [h1] at hk
      have e1 := Option.some.inj hk
      have l1 := (List.getElem?_eq_some_iff.mp h1).1
      exact ⟨k, by omega, by rw [← e1]⟩
/-! locals -/
def am_lh (ρ : Nat → Nat) (ls : Array Slot) (nL : Nat) (L : am_L) : Prop := ls.size = nL ∧ L.length = nL ∧ lv_wf ls ∧ ∀ (i : Nat) (v : Value), L[i]? = some (some v) → ls[i]? = some (.val (am_v ρ v)) ∧ (am_v ρ v).category = 1
def am_lv (ρ : Nat → Nat) (L : am_L) : List (Nat × Value) := (List.range L.length).filterMap (fun i => match L[i]? with
  | some (some v) => some (i, am_v ρ v)
  | _ => none)
theorem am_lv_mem {ρ : Nat → Nat} {L : am_L} {q : Nat × Value} (h : q ∈ am_lv ρ L) : ∃ v, L[q.1]? = some (some v) ∧ q.2 = am_v ρ v := by
  unfold am_lv at h
  obtain ⟨i, -, hi⟩ := List.mem_filterMap.mp h
  split at hi
  · rename_i v hv
    have e := Option.some.inj hi
    subst e
    exact ⟨v, hv, rfl⟩
  · cases hi
theorem am_lv_in {ρ : Nat → Nat} {L : am_L} {i : Nat} {v : Value} (h : L[i]? = some (some v)) : (i, am_v ρ v) ∈ am_lv ρ L := by
  unfold am_lv
  refine List.mem_filterMap.mpr ⟨i, List.mem_range.mpr (List.getElem?_eq_some_iff.mp h).1, ?_⟩
  rw [h]
theorem am_lh.has {ρ : Nat → Nat} {ls : Array Slot} {nL : Nat} {L : am_L} (h : am_lh ρ ls nL L) : lv_has ls nL (am_lv ρ L) := by
  refine ⟨h.1, h.2.2.1, fun q hq => ?_⟩
  obtain ⟨v, h1, h2⟩ := am_lv_mem hq
  rw [h2]
  exact (h.2.2.2 _ _ h1).1
theorem am_lh.set {ρ : Nat → Nat} {ls ls' : Array Slot} {nL : Nat} {L : am_L} {i : Nat} {v : Value} (h : am_lh ρ ls nL L) (hv : (am_v ρ v).category = 1) (h' : lv_has ls' nL ((i, am_v ρ v) :: (am_lv ρ L).filter (fun q => !(q.1 == i) && !(q.1 + 1 == i && q.2.category == 2)))) : am_lh ρ ls' nL (L.set i (some v)) := by
  refine ⟨h'.1, by rw [List.length_set]; exact h.2.1, h'.2.1, fun j w hj => ?_⟩
  rw [List.getElem?_set] at hj
  by_cases hij : i = j
  · subst hij
    rw [if_pos rfl] at hj
    by_cases hl : i < L.length
    · rw [if_pos hl] at hj
      have e := Option.some.inj (Option.some.inj hj)
      subst e
      exact ⟨h'.2.2 (i, am_v ρ v) List.mem_cons_self, hv⟩
    · rw [if_neg hl] at hj
      cases hj
  · rw [if_neg hij] at hj
    obtain ⟨h1, h2⟩ := h.2.2.2 j w hj
    refine ⟨h'.2.2 (j, am_v ρ w) (List.mem_cons_of_mem _ (List.mem_filter.mpr ⟨am_lv_in hj, ?_⟩)), h2⟩
    have hji : ¬ j = i := fun e => hij e.symm
    simp [hji, h2]
theorem am_lh.at {ρ : Nat → Nat} {ls : Array Slot} {nL : Nat} {L : am_L} (h : am_lh ρ ls nL L) {i : Nat} {v : Value} (hv : am_ld L i = some v) : ls[i]? = some (.val (am_v ρ v)) := by
  unfold am_ld at hv
  split at hv
  · rename_i w hw
    cases hv
    exact (h.2.2.2 _ _ hw).1
  · cases hv
theorem am_lv_ld {ρ : Nat → Nat} {L : am_L} {i : Nat} {v : Value} (hv : am_ld L i = some v) : ∃ k : Nat, (am_lv ρ L)[k]? = some (i, am_v ρ v) := by
  unfold am_ld at hv
  split at hv
  · rename_i w hw
    cases hv
    exact List.mem_iff_getElem?.mp (am_lv_in hw)
  · cases hv
theorem am_lh_entry_aux {ρ : Nat → Nat} : ∀ (as : List Value) (i : Nat), (∀ v ∈ as, (am_v ρ v).category = 1) → ∀ (j : Nat) (v : Value), as[j]? = some v → (i + j, am_v ρ v) ∈ lv_args i (as.map (am_v ρ))
  | [], i, _, j, v, h => by simp at h
  | a :: t, i, hc, j, v, h => by
    have hca : ¬ (am_v ρ a).category = 2 := by rw [hc a List.mem_cons_self]; decide
    show (i + j, am_v ρ v) ∈ (i, am_v ρ a) :: lv_args (if (am_v ρ a).category = 2 then i + 2 else i + 1) (t.map (am_v ρ))
    rw [if_neg hca]
    cases j with
    | zero =>
      simp at h
      subst h
      exact List.mem_cons_self
    | succ j =>
      simp at h
      have := am_lh_entry_aux t (i + 1) (fun v hv => hc v (List.mem_cons_of_mem _ hv)) j v h
      rw [show i + (j + 1) = i + 1 + j by omega]
      exact List.mem_cons_of_mem _ this
theorem am_sl_len {ρ : Nat → Nat} : ∀ (as : List Value), (∀ v ∈ as, (am_v ρ v).category = 1) → (lg_sl (as.map (am_v ρ))).length = as.length
  | [], _ => rfl
  | a :: t, hc => by
    have hca : ¬ (am_v ρ a).category = 2 := by rw [hc a List.mem_cons_self]; decide
    have := am_sl_len t (fun v hv => hc v (List.mem_cons_of_mem _ hv))
    unfold lg_sl at this ⊢
    simp only [List.map_cons, List.flatMap_cons, if_neg hca, List.length_append, List.length_cons, List.length_nil]
    omega
theorem am_lh_entry {ρ : Nat → Nat} {as : List Value} {nL : Nat} (hc : ∀ v ∈ as, (am_v ρ v).category = 1) (hn : as.length ≤ nL) : am_lh ρ ((lg_sl (as.map (am_v ρ)) ++ List.replicate (nL - (lg_sl (as.map (am_v ρ))).length) Slot.unset).toArray) nL (as.map some ++ List.replicate (nL - as.length) none) := by
  have hl := am_sl_len as hc
  have h := lv_entry (as.map (am_v ρ)) (n := nL) (by rw [hl]; exact hn)
  refine ⟨h.1, by simp; omega, h.2.1, fun i v hi => ?_⟩
  have hi2 : as[i]? = some v := by
    by_cases hlt : i < as.length
    · rw [List.getElem?_append_left (by simpa using hlt), List.getElem?_map] at hi
      cases hq : as[i]? with
      | none => rw [hq] at hi; cases hi
      | some w => rw [hq] at hi; exact congrArg some (Option.some.inj (Option.some.inj hi))
    · rw [List.getElem?_append_right (by simpa using Nat.le_of_not_lt hlt)] at hi
      rw [List.getElem?_replicate] at hi
      split at hi
      · cases Option.some.inj hi
      · cases hi
  have hm := am_lh_entry_aux as 0 hc i v hi2
  rw [Nat.zero_add] at hm
  exact ⟨h.2.2 _ hm, hc v (List.mem_of_getElem? hi2)⟩
end
section
/-! ===== a run keeps how many cells there are ===== -/
def am_kp (n : Nat) (f : am_K → Option am_R) : Prop := ∀ K : am_K, (∀ (pc : Nat) (L : am_L) (st : List Value) (g : am_W) (r : am_R), g.length = n → K pc L st g = some r → r.2.length = n) → ∀ r, f K = some r → r.2.length = n
theorem am_kp.none {n : Nat} : am_kp n (fun _ => none) := fun _ _ _ h => by cases h
theorem am_kp.fin {n : Nat} (v : Option Value) (g : am_W) (h : g.length = n) : am_kp n (fun _ => some (v, g)) := fun _ _ r hr => by cases hr; exact h
theorem am_kp.go {n : Nat} (pc : Nat) (L : am_L) (st : List Value) (g : am_W) (h : g.length = n) : am_kp n (fun K => K pc L st g) := fun _ hK r hr => hK _ _ _ _ r h hr
theorem am_kp.ite {n : Nat} {c : Prop} [Decidable c] {f g : am_K → Option am_R} (hf : am_kp n f) (hg : am_kp n g) : am_kp n (fun K => if c then f K else g K) := by
  by_cases h : c
  · simpa only [h, if_true] using hf
  · simpa only [h, if_false] using hg
theorem am_kp.bif {n : Nat} {b : Bool} {f g : am_K → Option am_R} (hf : am_kp n f) (hg : am_kp n g) : am_kp n (fun K => am_if b (f K) (g K)) := by
  cases b with
  | true => exact hf
  | false => exact hg
theorem am_kp.bind {n : Nat} {α : Type} (o : Option α) {f : α → am_K → Option am_R} (hf : ∀ a, o = some a → am_kp n (f a)) : am_kp n (fun K => o.bind (fun a => f a K)) := by
  cases o with
  | none => exact am_kp.none
  | some a => exact hf a rfl
theorem am_kp.on {n : Nat} (o : Option Nat) {a : am_K → Option am_R} {f : Nat → am_K → Option am_R} (ha : am_kp n a) (hf : ∀ q, am_kp n (f q)) : am_kp n (fun K => am_on o (a K) (fun q => f q K)) := by
  cases o with
  | none => exact ha
  | some q => exact hf q
theorem am_kp.sw {n : Nat} (x : Int32) (d : Nat) {k : Nat → am_K → Option am_R} (hk : ∀ t, am_kp n (k t)) : ∀ l : List (Int × Nat), am_kp n (fun K => am_sw x d (fun t => k t K) l)
  | [] => hk d
  | q :: r => am_kp.ite (hk q.2) (am_kp.sw x d hk r)
theorem am_sF_len {g g' : am_W} {p ci k : Nat} {v : Value} (h : am_sF g p ci k v = some g') : g'.length = g.length := by
  unfold am_sF at h
  repeat' split at h
  all_goals first | (cases h; done) | (rw [← Option.some.inj h, List.length_set])
theorem am_sI_len {g g' : am_W} {p t : Nat} {i x : Int32} (h : am_sI g p t i x = some g') : g'.length = g.length := by
  unfold am_sI at h
  repeat' split at h
  all_goals first | (cases h; done) | (rw [← Option.some.inj h, List.length_set])
theorem am_cp_len {g g' : am_W} {a0 a : Nat} {sp dp n : Int32} (h : am_cp g a0 sp a dp n = some g') : g'.length = g.length := by
  unfold am_cp at h
  repeat' split at h
  all_goals first | (cases h; done) | (rw [← Option.some.inj h, List.length_set])
def am_Fk (F : am_F) : Prop := ∀ (j : Nat) (as : List Value) (g : am_W) (r : am_R), F j as g = some r → r.2.length = g.length
theorem am_cI_to {o : Option am_R} {q : Int32 × am_W} (h : am_cI o = some q) : o = some (some (.int q.1), q.2) := by
  unfold am_cI at h
  split at h
  · cases h; rfl
  · cases h
theorem am_cV_to {o : Option am_R} {q : am_W} (h : am_cV o = some q) : o = some (none, q) := by
  unfold am_cV at h
  split at h
  · cases h; rfl
  · cases h
theorem am_kp.call {n : Nat} {F : am_F} (hF : am_Fk F) (j k b pc : Nat) (L : am_L) (st : List Value) (g : am_W) (hg : g.length = n) : am_kp n (fun K => am_call F K j k b pc L st g) := by
  unfold am_call
  refine am_kp.bif (am_kp.bif (am_kp.bind _ (fun q hq => am_kp.go _ _ _ _ ?_)) (am_kp.bind _ (fun q hq => am_kp.go _ _ _ _ ?_))) am_kp.none
  · exact (hF _ _ _ _ (am_cI_to hq)).trans hg
  · exact (hF _ _ _ _ (am_cV_to hq)).trans hg
set_option maxHeartbeats 4000000 in
theorem am_ex_kp {n : Nat} (rz : Bool) {F : am_F} (hF : am_Fk F) (i : am_I) (pc : Nat) (L : am_L) (st : List Value) (g : am_W) (hg : g.length = n) : am_kp n (fun K => am_ex rz F K i pc L st g) := by
  unfold am_ex
  split
  all_goals
    repeat' first
      | exact am_kp.none
      | exact am_kp.go _ _ _ _ hg
      | exact am_kp.go _ _ _ _ ((am_sF_len (by assumption)).trans hg)
      | exact am_kp.go _ _ _ _ ((am_sI_len (by assumption)).trans hg)
      | exact am_kp.go _ _ _ _ ((am_cp_len (by assumption)).trans hg)
      | exact am_kp.fin _ _ hg
      | exact am_kp.call hF _ _ _ _ _ _ _ hg
      | apply am_kp.ite
      | apply am_kp.bif
      | refine am_kp.bind _ (fun _ _ => ?_)
      | refine am_kp.on _ ?_ (fun _ => ?_)
      | refine am_kp.sw _ _ (fun _ => ?_) _
      | split
theorem am_rn_kp {n : Nat} {rz : Bool} {F : am_F} (hF : am_Fk F) {cd : Nat → Option am_I} : ∀ (k pc : Nat) (L : am_L) (st : List Value) (g : am_W) (r : am_R), g.length = n → am_rn rz F cd k pc L st g = some r → r.2.length = n := by
  intro k
  induction k with
  | zero => intro pc L st g r _ h; cases h
  | succ k ih =>
    intro pc L st g r hg h
    unfold am_rn at h
    cases hi : cd pc with
    | none => rw [hi] at h; cases h
    | some i =>
      rw [hi] at h
      exact am_ex_kp rz hF i pc L st g hg _ ih r h
/-! ===== methods by number ===== -/
/-- its name, bytes, how many locals, what it answers, whose it is (12: static), its instructions -/
abbrev am_M : Type := MethodName × ByteArray × Nat × Option FieldType × Nat × (Nat → Option am_I)
def am_isO (g : am_W) (p ci : Nat) : Bool := match g[p]? with
  | some (.inr (c, _)) => c == ci
  | _ => false
def am_rcv (g : am_W) (ci : Nat) (as : List Value) : Bool := match ci with
  | 12 => true
  | ci => (match as with
    | .ref p :: _ => am_isO g p ci
    | _ => false)
noncomputable def am_cal (mt : Nat → Option am_M) : Nat → am_F
  | 0, _, _, _ => none
  | d + 1, j, as, g => match mt j with
    | some M => am_if (as.all (fun v => v.category == 1) && Nat.ble as.length M.2.2.1)
        (am_if (am_rcv g M.2.2.2.2.1 as) (am_run (decide (M.2.2.2.1 = some .boolean)) (am_cal mt d) M.2.2.2.2.2 0 (as.map some ++ List.replicate (M.2.2.1 - as.length) none) [] g) none) none
    | none => none
theorem am_cal_kp (mt : Nat → Option am_M) : ∀ d, am_Fk (am_cal mt d) := by
  intro d
  induction d with
  | zero => intro j as g r h; cases h
  | succ d ih =>
    intro j as g r h
    unfold am_cal at h
    split at h
    · obtain ⟨n, hn⟩ := am_run_to (am_if_some (am_if_some h).2).2
      exact am_rn_kp ih n _ _ _ _ _ rfl hn
    · cases h
/-! ===== what the tables say of an instruction ===== -/
def am_isN : Jvm.Cond → Bool
  | .fieldLinkNest _ _ _ _ _ _ => true
  | .methodLinkNest _ _ _ _ => true
  | _ => false
def am_T : List Jvm.Cond := lw_tbl.filter goodWord
def am_nw (U : State) : Prop := ∀ w ∈ lw_tbl, am_isN w = true → va_Nw w U
def am_in (h : Nat) (w : Jvm.Cond) : Bool := decide (lw_tbl[h]? = some w)
theorem am_in_mem {h : Nat} {w : Jvm.Cond} (hh : am_in h w = true) : w ∈ lw_tbl := List.mem_of_getElem? (of_decide_eq_true hh)
theorem am_in_T {h : Nat} {w : Jvm.Cond} (hh : am_in h w = true) (hg : goodWord w = true) : w ∈ am_T := List.mem_filter.mpr ⟨am_in_mem hh, hg⟩
def am_hint (i : am_I) : Nat := match i.2.2.2.2 with
  | q :: _ => q.2
  | [] => 0
def am_len : Instr → Nat
  | .bipush _ => 2
  | .sipush _ => 3
  | .ldc _ => 2
  | .ldc_w _ => 3
  | .iload _ => 2
  | .aload _ => 2
  | .istore _ => 2
  | .astore _ => 2
  | .iinc _ _ => 3
  | .goto _ => 3
  | .ifCond _ _ => 3
  | .if_icmp _ _ => 3
  | .ifnull _ => 3
  | .ifnonnull _ => 3
  | .getfield _ => 3
  | .putfield _ => 3
  | .invokestatic _ => 3
  | .invokevirtual _ => 3
  | .invokespecial _ => 3
  | .new _ => 3
  | .anewarray _ => 3
  | .newarray _ => 2
  | _ => 1
def am_sww : Instr → Bool
  | .tableswitch _ _ _ _ => true
  | .lookupswitch _ _ => true
  | _ => false
def am_chkD (cc : ByteArray) (pc : Nat) (i : Instr) : Bool := match decode cc pc with
  | .ok (j, ln) => decide (j = i) && (am_sww i || decide (ln = am_len i))
  | .error _ => false
/-- the jumps of a table, from a value on -/
def am_tsw (pc : Nat) : Int → List Int → List (Int × Nat) → Bool
  | _, [], [] => true
  | lo, o :: os, q :: qs => decide (q.1 = lo) && decide ((pc : Int) + o = (q.2 : Int)) && am_tsw pc (lo + 1) os qs
  | _, _, _ => false
def am_lsw (pc : Nat) : List (Int × Int) → List (Int × Nat) → Bool
  | [], [] => true
  | o :: os, q :: qs => decide (q.1 = o.1) && decide ((pc : Int) + o.2 = (q.2 : Int)) && decide (-2147483648 ≤ o.1 ∧ o.1 ≤ 2147483647) && am_lsw pc os qs
  | _, _ => false
def am_fchk (own : String) (k : Nat) (i : am_I) : Bool := match am_cl[i.2.1]? with
  | some (_, T, N) => decide (i.2.2.1 < N) && (am_in (am_hint i) (.fieldLink own k (T i.2.2.1).1 (T i.2.2.1).2.1 (T i.2.2.1).2.2.1) || am_in (am_hint i) (.fieldLinkNest own k (T i.2.2.1).1 (T i.2.2.1).2.1 (T i.2.2.1).2.2.1 "WrittenColumns"))
  | none => false
def am_isObj : Option FieldType → Bool
  | some (.object _) => true
  | _ => false
def am_pchk (i : am_I) : Bool := match am_cl[i.2.1]? with
  | some (_, T, _) => !(T i.2.2.1).2.2.2 && (match i.2.2.2.1 with
    | 0 => decide (parseFieldDescriptor (T i.2.2.1).2.2.1 = some .int)
    | 3 => decide (parseFieldDescriptor (T i.2.2.1).2.2.1 = some .boolean)
    | 2 => am_isObj (parseFieldDescriptor (T i.2.2.1).2.2.1)
    | _ => false)
  | none => false
def am_mchk (own : String) (k : Nat) (i : am_I) (M : am_M) : Bool := (am_in (am_hint i) (.methodLink own k M.1) || am_in (am_hint i) (.methodLinkNest own k M.1 "WrittenColumns")) && decide (M.2.2.2.1.isSome = decide (i.2.2.2.1 = 1))
def am_npar (y : MethodName) : Option Nat := (parseMethodDescriptor y.desc).map (fun d => d.parameters.length)
def am_chk (own : String) (mt : Nat → Option am_M) (pc : Nat) (i : am_I) : Bool := match i.1 with
  | .ldc k => am_in (am_hint i) (.constant own k (Int32.ofNat i.2.1))
  | .ldc_w k => am_in (am_hint i) (.constant own k (Int32.ofNat i.2.1))
  | .goto off => decide ((pc : Int) + off = (i.2.1 : Int))
  | .ifCond _ off => decide ((pc : Int) + off = (i.2.1 : Int))
  | .if_icmp _ off => decide ((pc : Int) + off = (i.2.1 : Int))
  | .ifnull off => decide ((pc : Int) + off = (i.2.1 : Int))
  | .ifnonnull off => decide ((pc : Int) + off = (i.2.1 : Int))
  | .tableswitch d lo hi offs => decide ((pc : Int) + d = (i.2.1 : Int)) && decide (lo + (offs.size : Int) = hi + 1) && decide (-2147483648 ≤ lo ∧ hi ≤ 2147483647) && am_tsw pc lo offs.toList i.2.2.2.2
  | .lookupswitch d ps => decide ((pc : Int) + d = (i.2.1 : Int)) && (ps.toList.zip (ps.toList.drop 1)).all (fun (a, next) => a.1 < next.1) && am_lsw pc ps.toList i.2.2.2.2
  | .getfield k => am_fchk own k i
  | .putfield k => am_fchk own k i && am_pchk i
  | .invokestatic k => if i.2.1 = 999 then am_in (am_hint i) (.methodLink own k arraycopyName) else if i.2.1 = 998 then am_in (am_hint i) (.methodLink own k Lib.Math.max.name) else if i.2.1 = 997 then am_in (am_hint i) (.methodLink own k Lib.Math.min.name) else (match mt i.2.1 with
    | some M => am_mchk own k i M && decide (M.2.2.2.2.1 = 12) && decide (am_npar M.1 = some i.2.2.1)
    | none => false)
  | .invokevirtual k => (match mt i.2.1 with
    | some M => am_mchk own k i M && Nat.blt M.2.2.2.2.1 12 && decide ((am_npar M.1).map (· + 1) = some i.2.2.1)
    | none => false)
  | _ => true
def am_rchk (rt : Option FieldType) : Instr → Bool
  | .ireturn => rt.isSome
  | .return_ => rt.isNone
  | _ => true
/-- what the tables say of a method: hints of its words -/
def am_mth (mt : Nat → Option am_M) (M : am_M) (h : Nat × Nat × Nat × Nat) (tb : List (Nat × am_I)) : Bool :=
  plainName M.1.cls && am_in h.1 (.code M.1 M.2.1 M.2.2.1 M.2.2.2.1) && am_in h.2.1 (.initialized M.1.cls) && decide (M.1.cls ≠ "java/lang/invoke/MethodHandle") && decide (M.1.cls ≠ "java/lang/invoke/VarHandle") && Nat.ble M.2.2.1 30
  && (decide (M.2.2.2.1 = none) || decide (M.2.2.2.1 = some .int) || decide (M.2.2.2.1 = some .boolean))
  && (if M.2.2.2.2.1 = 12 then am_in h.2.2.1 (.static M.1) else (am_in h.2.2.1 (.instanceMethod M.1) && am_in h.2.2.2 (.selects M.1.cls M.1 M.1) && (match am_cl[M.2.2.2.2.1]? with | some (C, _, _) => decide (C = M.1.cls) | none => false)))
  && tb.all (fun q => am_chkD M.2.1 q.1 q.2.1 && am_rchk M.2.2.2.1 q.2.1 && am_chk M.1.cls mt q.1 q.2)
def am_mok (mt : Nat → Option am_M) (M : am_M) : Prop := ∃ (h : Nat × Nat × Nat × Nat) (tb : List (Nat × am_I)), am_mth mt M h tb = true ∧ ∀ (pc : Nat) (i : am_I), M.2.2.2.2.2 pc = some i → (pc, i) ∈ tb
def am_sysP : Prop := (Jvm.Cond.native arraycopyName ∈ am_T ∧ Jvm.Cond.static arraycopyName ∈ am_T ∧ Jvm.Cond.initialized "java/lang/System" ∈ am_T) ∧ Jvm.Cond.initialized "java/lang/Math" ∈ am_T ∧ (Jvm.Cond.static Lib.Math.max.name ∈ am_T ∧ Jvm.Cond.code Lib.Math.max.name Lib.Math.max.code 2 (some .int) ∈ am_T) ∧ Jvm.Cond.static Lib.Math.min.name ∈ am_T ∧ Jvm.Cond.code Lib.Math.min.name Lib.Math.min.code 2 (some .int) ∈ am_T
end
section
/-! ===== the machine does what the abstract machine does ===== -/
theorem am_v_cat (ρ : Nat → Nat) (v : Value) : (am_v ρ v).category = v.category := by cases v <;> rfl
theorem am_v_cats (ρ : Nat → Nat) (st : List Value) : ((st.map (am_v ρ)).map fun v => v.category) = st.map fun v => v.category := by
  rw [List.map_map]
  exact List.map_congr_left (fun v _ => am_v_cat ρ v)
def am_ws (M : am_M) : List Jvm.Cond := .code M.1 M.2.1 M.2.2.1 M.2.2.2.1 :: am_T
def am_rm (d : Nat) : Room := { frames := d + 1, cells := 0, slots := 0, locals := 64 * (d + 1) }
def am_Pc (ρ : Nat → Nat) (cA : Nat → ClassId) (D : va_G) (as : List Value) (g : am_W) : Array Value → State → Prop := va_Pc (as.map (am_v ρ)) (fun U => va_P D am_cl (am_lay ρ cA g) U.heap ∧ va_K D am_cl (am_ty cA) U ∧ am_nw U)
def am_Q (ρ : Nat → Nat) (cA : Nat → ClassId) (D : va_G) (n : Nat) (r : am_R) : Array Value → State → Outcome → State → Prop := fun _ st oc t => oc = .returned (r.1.map (am_v ρ)) ∧ va_P D am_cl (am_lay ρ cA r.2) t.heap ∧ va_F (am_A ρ n) st t
def am_met (l : Launch) (mt : Nat → Option am_M) (d : Nat) : Prop := ∀ (j : Nat) (as : List Value) (g : am_W) (r : am_R) (M : am_M), mt j = some M → am_cal mt d j as g = some r → ∀ (ρ : Nat → Nat) (cA : Nat → ClassId) (D : va_G) (n : Nat), am_inj ρ n → g.length = n → Met l M.1 (am_ws M) (am_rm d) (am_Pc ρ cA D as g) (am_Q ρ cA D n r) 0 0 (am_A ρ n)
theorem am_nw.warm {s U : State} (hW : s.WarmedH U.vm) (h : am_nw s) : am_nw U := by
  intro w hw hn
  have hz := h w hw hn
  cases w <;> first | exact va_Nw.warmF hW hz | exact va_Nw.warmM hW hz | cases hn
theorem am_nw.same {s U : State} (hW : s.vm = U.vm) (h : am_nw s) : am_nw U := by
  intro w hw hn
  have hz := h w hw hn
  cases w <;> first | exact va_Nw.same rfl hW hz | cases hn
theorem am_blind (ρ : Nat → Nat) (cA : Nat → ClassId) (D : va_G) (as : List Value) (g : am_W) : FrameBlind (am_Pc ρ cA D as g) := by
  intro a U fr mk q
  obtain ⟨q0, q1, q2, q3⟩ := q
  exact ⟨q0, q1, va_K.moved (u := U) (U := U.calling fr mk a) (Vm.Alike.refl U.vm) q2, am_nw.same (s := U) (U := U.calling fr mk a) rfl q3⟩
theorem am_good_T (M : am_M) (hM : Jvm.Cond.code M.1 M.2.1 M.2.2.1 M.2.2.2.1 ∈ lw_tbl) (M0 : am_M) : GoodIn (am_ws M0) (am_ws M) := by
  intro w hw
  rcases List.mem_cons.mp hw with rfl | hw
  · exact ⟨List.mem_cons_of_mem _ (List.mem_filter.mpr ⟨hM, rfl⟩), Or.inl rfl⟩
  · exact ⟨List.mem_cons_of_mem _ hw, good_of_word (List.mem_filter.mp hw).2⟩
def am_clOk (q : vw_C) : Prop := (∀ w ∈ u_ws q.1 q.2.1 q.2.2, w ∈ lw_tbl ∧ goodWord w = true) ∧ ∃ ty0 : Nat → FieldType, (∀ k, k < q.2.2 → parseFieldDescriptor (q.2.1 k).2.2.1 = some (ty0 k)) ∧ ∀ a, a < q.2.2 → ∀ b, b < q.2.2 → a ≠ b → (q.2.1 a).2.1 ≠ (q.2.1 b).2.1
set_option maxRecDepth 100000 in
theorem am_clOk0 : am_clOk (RX0, TX0, 5) := ⟨by decide +kernel, tyX0, tyX0_ok, nmX0⟩
set_option maxRecDepth 100000 in
theorem am_clOk1 : am_clOk (RX1, TX1, 5) := ⟨by decide +kernel, tyX1, tyX1_ok, nmX1⟩
set_option maxRecDepth 100000 in
theorem am_clOk2 : am_clOk (RX2, TX2, 2) := ⟨by decide +kernel, tyX2, tyX2_ok, nmX2⟩
set_option maxRecDepth 100000 in
theorem am_clOk3 : am_clOk (RX3, TX3, 3) := ⟨by decide +kernel, tyX3, tyX3_ok, nmX3⟩
set_option maxRecDepth 100000 in
theorem am_clOk4 : am_clOk (RX4, TX4, 3) := ⟨by decide +kernel, tyX4, tyX4_ok, nmX4⟩
set_option maxRecDepth 100000 in
theorem am_clOk5 : am_clOk (RX5, TX5, 7) := ⟨by decide +kernel, tyX5, tyX5_ok, nmX5⟩
set_option maxRecDepth 100000 in
theorem am_clOk6 : am_clOk (RX6, TX6, 1) := ⟨by decide +kernel, tyX6, tyX6_ok, nmX6⟩
set_option maxRecDepth 100000 in
theorem am_clOk7 : am_clOk (RX7, TX7, 3) := ⟨by decide +kernel, tyX7, tyX7_ok, nmX7⟩
set_option maxRecDepth 100000 in
theorem am_clOk8 : am_clOk (RX8, TX8, 2) := ⟨by decide +kernel, tyX8, tyX8_ok, nmX8⟩
set_option maxRecDepth 100000 in
theorem am_clOk9 : am_clOk (RX9, TX9, 12) := ⟨by decide +kernel, tyX9, tyX9_ok, nmX9⟩
set_option maxRecDepth 100000 in
theorem am_clOk10 : am_clOk (RX10, TX10, 12) := ⟨by decide +kernel, tyX10, tyX10_ok, nmX10⟩
set_option maxRecDepth 100000 in
theorem am_clOk11 : am_clOk (RX11, TX11, 23) := ⟨by decide +kernel, tyX11, tyX11_ok, nmX11⟩
theorem am_cl_ok {ci : Nat} {q : vw_C} (h : am_cl[ci]? = some q) : am_clOk q := by
  have hm := List.mem_of_getElem? h
  simp only [am_cl, List.mem_cons, List.not_mem_nil, or_false] at hm
  rcases hm with rfl | rfl | rfl | rfl | rfl | rfl | rfl | rfl | rfl | rfl | rfl | rfl
  · exact am_clOk0
  · exact am_clOk1
  · exact am_clOk2
  · exact am_clOk3
  · exact am_clOk4
  · exact am_clOk5
  · exact am_clOk6
  · exact am_clOk7
  · exact am_clOk8
  · exact am_clOk9
  · exact am_clOk10
  · exact am_clOk11
theorem am_cl_in {ci : Nat} {q : vw_C} (h : am_cl[ci]? = some q) (M : am_M) : ∀ w ∈ u_ws q.1 q.2.1 q.2.2, w ∈ am_ws M := fun w hw => List.mem_cons_of_mem _ (List.mem_filter.mpr ((am_cl_ok h).1 w hw))
/-! what the getters say -/
theorem am_fI_to {g : am_W} {p ci k : Nat} {x : Int32} (h : am_fI g p ci k = some x) : ∃ fs, g[p]? = some (.inr (ci, fs)) ∧ fs[k]? = some (.int x) := by
  unfold am_fI at h
  split at h
  · rename_i c fs hg
    split at h
    · rename_i hc
      subst hc
      refine ⟨fs, hg, ?_⟩
      split at h
      · rename_i y hy
        cases h
        exact hy
      · cases h
    · cases h
  · cases h
theorem am_fR_to {g : am_W} {p ci k : Nat} {x : Nat} (h : am_fR g p ci k = some x) : ∃ fs, g[p]? = some (.inr (ci, fs)) ∧ fs[k]? = some (.ref x) := by
  unfold am_fR at h
  split at h
  · rename_i c fs hg
    split at h
    · rename_i hc
      subst hc
      refine ⟨fs, hg, ?_⟩
      split at h
      · rename_i y hy
        cases h
        exact hy
      · cases h
    · cases h
  · cases h
theorem am_fN_to {g : am_W} {p ci k : Nat} {x : Option Nat} (h : am_fN g p ci k = some x) : ∃ fs, g[p]? = some (.inr (ci, fs)) ∧ fs[k]? = some (va_rf x) := by
  unfold am_fN at h
  split at h
  · rename_i c fs hg
    split at h
    · rename_i hc
      subst hc
      refine ⟨fs, hg, ?_⟩
      split at h
      · rename_i y hy
        cases h
        exact hy
      · rename_i hy
        cases h
        exact hy
      · cases h
    · cases h
  · cases h
theorem am_sF_to {g g' : am_W} {p ci k : Nat} {v : Value} (h : am_sF g p ci k v = some g') : ∃ fs, g[p]? = some (.inr (ci, fs)) ∧ k < fs.length ∧ g' = g.set p (.inr (ci, fs.set k v)) := by
  unfold am_sF at h
  split at h
  · rename_i c fs hg
    split at h
    · rename_i hc
      subst hc
      split at h
      · rename_i hk
        cases h
        exact ⟨fs, hg, hk, rfl⟩
      · cases h
    · cases h
  · cases h
theorem am_aI_to {g : am_W} {p t : Nat} {i x : Int32} (h : am_aI g p t i = some x) : ∃ n f, g[p]? = some (.inl (t, n, .inl f)) ∧ vp_in i n ∧ x = f i.toNatClampNeg := by
  unfold am_aI at h
  split at h
  · rename_i c n f hg
    split at h
    · rename_i hc
      subst hc
      split at h
      · cases h
      · rename_i hi
        cases h
        exact ⟨n, f, hg, hi, rfl⟩
    · cases h
  · cases h
theorem am_aR_to {g : am_W} {p : Nat} {i : Int32} {x : Nat} (h : am_aR g p i = some x) : ∃ t n f, g[p]? = some (.inl (t, n, .inr f)) ∧ (2 ≤ t ∧ t < 6) ∧ vp_in i n ∧ f i.toNatClampNeg = some x := by
  unfold am_aR at h
  split at h
  · rename_i c n f hg
    split at h
    · rename_i hc
      split at h
      · cases h
      · rename_i hi
        exact ⟨c, n, f, hg, hc, hi, h⟩
    · cases h
  · cases h
theorem am_sI_to {g g' : am_W} {p t : Nat} {i x : Int32} (h : am_sI g p t i x = some g') : ∃ n f, g[p]? = some (.inl (t, n, .inl f)) ∧ vp_in i n ∧ g' = g.set p (.inl (t, n, .inl (upd f i.toNatClampNeg x))) := by
  unfold am_sI at h
  split at h
  · rename_i c n f hg
    split at h
    · rename_i hc
      subst hc
      split at h
      · cases h
      · rename_i hi
        cases h
        exact ⟨n, f, hg, hi, rfl⟩
    · cases h
  · cases h
theorem am_ln_to {g : am_W} {p : Nat} {x : Int32} (h : am_ln g p = some x) : ∃ t n f, g[p]? = some (.inl (t, n, .inl f)) ∧ t < 2 ∧ x = Int32.ofNat n := by
  unfold am_ln at h
  split at h
  · rename_i c n f hg
    split at h
    · rename_i hc
      cases h
      exact ⟨c, n, f, hg, hc, rfl⟩
    · cases h
  · cases h
theorem am_cp_to {g g' : am_W} {a0 a : Nat} {sp dp n : Int32} (h : am_cp g a0 sp a dp n = some g') : ∃ n0 n1 f k, g[a0]? = some (.inl (0, n0, .inl f)) ∧ g[a]? = some (.inl (0, n1, .inl k)) ∧ ¬ sp < 0 ∧ ¬ dp < 0 ∧ ¬ n < 0 ∧ sp.toNatClampNeg + n.toNatClampNeg ≤ n0 ∧ dp.toNatClampNeg + n.toNatClampNeg ≤ n1 ∧ g' = g.set a (.inl (0, n1, .inl (va_cpy f k sp.toNatClampNeg dp.toNatClampNeg n.toNatClampNeg))) := by
  unfold am_cp at h
  split at h
  · rename_i u0 n0 f u1 n1 k h0 h1
    split at h
    · rename_i hc
      obtain ⟨⟨e0, e1⟩, c1, c2, c3, c4, c5⟩ := hc
      subst e0
      subst e1
      cases h
      exact ⟨n0, n1, f, k, h0, h1, c1, c2, c3, c4, c5, rfl⟩
    · cases h
  · cases h
end
section
/-! ===== an instruction, a call, a method ===== -/
section AMS
variable {p : Program} {l : Launch} {e : Env} {R : Room} {s : State} {m : MethodId} {args : Array Value} {below : List Frame} {meth : Method} {c : Code} {H : Heap} {locs : List Loc} {cells slots : Nat} {Q : State → Prop}
variable {A : Nat → Prop} {M : am_M} {ρ : Nat → Nat} {cA : Nat → ClassId} {D : va_G} {n pc : Nat} {g : am_W} {ls : Array Slot} {rest : List Value} {mt : Nat → Option am_M}
/-- a place of the walk: the method, its words, the world's sorts -/
def am_cx (p : Program) (s : State) (m : MethodId) (args : Array Value) (meth : Method) (c : Code) (M : am_M) (ρ : Nat → Nat) (cA : Nat → ClassId) (D : va_G) (n : Nat) : Prop :=
  p.tables.exec = Jvm.exec ∧ c.code = M.2.1 ∧ c.maxLocals = M.2.2.1 ∧ s.vm.findClass M.1.cls = some m.cls ∧ (∀ w ∈ am_ws M, w.before args s = true) ∧ va_K D am_cl (am_ty cA) s ∧ am_nw s ∧ meth.locks = false ∧ meth.sig.returnType = M.2.2.2.1 ∧ am_inj ρ n
theorem am_getW (X : am_cx p s m args meth c M ρ cA D n) (hP : va_P D am_cl (am_lay ρ cA g) H) {q ci k idx : Nat} {i : am_I} {fs : List Value} {v : Value} (hi1 : i.2.1 = ci) (hi2 : i.2.2.1 = k) (he : g[q]? = some (.inr (ci, fs))) (hv : fs[k]? = some v) (hc : am_fchk M.1.cls idx i = true) (hd : decode M.2.1 pc = .ok (.getfield idx, 3))
    (kk : W p l e R s m args below meth c H locs cells slots Q (F0 m (pc + 3) ls (am_v ρ v :: rest))) : W p l e R s m args below meth c H locs cells slots Q (F0 m pc ls (.ref (ρ q) :: rest)) := by
  obtain ⟨hx, hb, -, hown, hts, hK, hN, -, -, -⟩ := X
  have he' : (am_lay ρ cA g)[q]? = some (ρ q, .inr (ci, fs.map (am_v ρ))) := am_lay_at he
  have hv' : (fs.map (am_v ρ))[k]? = some (am_v ρ v) := by rw [List.getElem?_map, hv]; rfl
  unfold am_fchk at hc
  rw [hi1, hi2] at hc
  split at hc
  · rename_i C T N hcl
    simp only [Bool.and_eq_true, Bool.or_eq_true, decide_eq_true_eq] at hc
    obtain ⟨hk, hl | hl⟩ := hc
    · exact va_get hx hb hts (am_cl_in hcl M) hown hK hP q he' hcl k hk (hts _ (List.mem_cons_of_mem _ (am_in_T hl rfl))) (fun _ h => h) hv' hd kk
    · exact va_getN hx hb hts (am_cl_in hcl M) hown hK hP q he' hcl k hk (va_Nw.use rfl (hN _ (am_in_mem hl) rfl)) (fun _ h => h) hv' hd kk
  · cases hc
theorem am_putW (X : am_cx p s m args meth c M ρ cA D n) (hP : va_P D am_cl (am_lay ρ cA g) H) (hg : g.length = n) (hA : ∀ q, am_A ρ n q → A q) (hS : va_S A s.heap H locs) {q ci k idx : Nat} {i : am_I} {fs : List Value} {v : Value} {ty : FieldType} (hi1 : i.2.1 = ci) (hi2 : i.2.2.1 = k) (he : g[q]? = some (.inr (ci, fs))) (hl : k < fs.length) (hc : am_fchk M.1.cls idx i = true)
    (hfin : ∀ C T N, am_cl[ci]? = some (C, T, N) → (T k).2.2.2 = false ∧ parseFieldDescriptor (T k).2.2.1 = some ty) (hn : narrow ty (am_v ρ v) = am_v ρ v) (hfit : fits ty (am_v ρ v) = true) (hd : decode M.2.1 pc = .ok (.putfield idx, 3))
    (kk : ∀ (H1 : Heap) (locs1 : List Loc), va_P D am_cl (am_lay ρ cA (g.set q (.inr (ci, fs.set k v)))) H1 → va_S A s.heap H1 locs1 → W p l e R s m args below meth c H1 locs1 cells slots Q (F0 m (pc + 3) ls rest)) : W p l e R s m args below meth c H locs cells slots Q (F0 m pc ls (am_v ρ v :: .ref (ρ q) :: rest)) := by
  obtain ⟨hx, hb, -, hown, hts, hK, hN, -, -, hρ⟩ := X
  have he' : (am_lay ρ cA g)[q]? = some (ρ q, .inr (ci, fs.map (am_v ρ))) := am_lay_at he
  have hD := (am_lay_D (cA := cA) hρ hg).weaken (fun _ _ _ h => hA _ h)
  have hl' : k < (fs.map (am_v ρ)).length := by rw [List.length_map]; exact hl
  have e1 : (am_lay ρ cA g).set q (ρ q, .inr (ci, (fs.map (am_v ρ)).set k (am_v ρ v))) = am_lay ρ cA (g.set q (.inr (ci, fs.set k v))) := by
    rw [← am_lay_set]
    show _ = (am_lay ρ cA g).set q (ρ q, .inr (ci, (fs.set k v).map (am_v ρ)))
    rw [List.map_set]
  unfold am_fchk at hc
  rw [hi1, hi2] at hc
  split at hc
  · rename_i C T N hcl
    obtain ⟨hf, hp⟩ := hfin C T N hcl
    obtain ⟨ty0, hty, hnm⟩ := (am_cl_ok hcl).2
    simp only [Bool.and_eq_true, Bool.or_eq_true, decide_eq_true_eq] at hc
    obtain ⟨hk, hl2 | hl2⟩ := hc
    · exact va_put hx hb hts (am_cl_in hcl M) ty0 hty hnm hown hK hP hD hS q he' hcl k hk (hts _ (List.mem_cons_of_mem _ (am_in_T hl2 rfl))) (fun _ h => h) hf hp hn hfit hl' hd (fun H1 locs1 a1 _ a3 => kk H1 locs1 (e1 ▸ a1) a3)
    · exact va_putN hx hb hts (am_cl_in hcl M) ty0 hty hnm hown hK hP hD hS q he' hcl k hk (va_Nw.use rfl (hN _ (am_in_mem hl2) rfl)) (fun _ h => h) hf hp hn hfit hl' hd (fun H1 locs1 a1 _ a3 => kk H1 locs1 (e1 ▸ a1) a3)
  · cases hc
/-- a call that has run goes on -/
theorem am_goW {frees : Addr → Prop} {st0 : List Value} {r : am_R} {a : Array Value} (hr : va_Run p l e R s m args below meth c H locs cells slots 0 0 (F0 m pc ls st0) rest (am_Q ρ cA D n r a) (am_A ρ n)) (hA : ∀ q, am_A ρ n q → A q) (hS : va_S A s.heap H locs)
    (kk : ∀ (H1 : Heap) (locs1 : List Loc), va_P D am_cl (am_lay ρ cA r.2) H1 → va_S A s.heap H1 locs1 → W p l e R s m args below meth c H1 locs1 cells slots Q (F0 m (pc + 3) ls ((r.1.map (am_v ρ)).toList ++ rest))) : W p l e R s m args below meth c H locs cells slots Q (F0 m pc ls st0) := by
  intro T hT X
  obtain ⟨v, st₀, t, T', L, h0, X', hL, e1, e2, ⟨hv, hp, hz, hk⟩, st⟩ := hr T hT X
  cases hv
  rw [h0] at hz hk
  obtain ⟨t2, a1, b1⟩ := kk T'.heap (locs ++ L) (by rw [e1]; exact hp)
    ⟨Nat.le_trans hS.1 (by rw [e1]; exact hz), fun q h1 h2 => by rw [e1, hk q (Nat.lt_of_lt_of_le h1 hS.1) (fun z => h2 (hA q z))]; exact hS.2.1 q h1 h2, fun q hq => by
      rcases List.mem_append.mp hq with h | h
      · exact hS.2.2 q h
      · exact hA _ (hL q h)⟩ T' rfl X'
  exact ⟨t2, st t2 a1, b1⟩
/-- what a method's check says -/
def am_mfacts (M : am_M) : Prop := plainName M.1.cls = true ∧ Jvm.Cond.code M.1 M.2.1 M.2.2.1 M.2.2.2.1 ∈ lw_tbl ∧ Jvm.Cond.initialized M.1.cls ∈ lw_tbl ∧ (M.1.cls ≠ "java/lang/invoke/MethodHandle" ∧ M.1.cls ≠ "java/lang/invoke/VarHandle") ∧ M.2.2.1 ≤ 30 ∧ (M.2.2.2.1 = none ∨ M.2.2.2.1 = some .int ∨ M.2.2.2.1 = some .boolean) ∧
  (M.2.2.2.2.1 = 12 → Jvm.Cond.static M.1 ∈ lw_tbl) ∧ (M.2.2.2.2.1 ≠ 12 → Jvm.Cond.instanceMethod M.1 ∈ lw_tbl ∧ Jvm.Cond.selects M.1.cls M.1 M.1 ∈ lw_tbl ∧ ∃ T N, am_cl[M.2.2.2.2.1]? = some (M.1.cls, T, N))
theorem am_mok_facts (h : am_mok mt M) : am_mfacts M ∧ ∀ (pc : Nat) (i : am_I), M.2.2.2.2.2 pc = some i → (am_chkD M.2.1 pc i.1 = true ∧ am_rchk M.2.2.2.1 i.1 = true) ∧ am_chk M.1.cls mt pc i = true := by
  obtain ⟨hh, tb, h1, h2⟩ := h
  unfold am_mth at h1
  simp only [Bool.and_eq_true] at h1
  obtain ⟨⟨⟨⟨⟨⟨⟨⟨a1, a2⟩, a3⟩, a4⟩, a5⟩, a6⟩, a7⟩, a8⟩, a9⟩ := h1
  refine ⟨⟨a1, am_in_mem a2, am_in_mem a3, ⟨of_decide_eq_true a4, of_decide_eq_true a5⟩, Nat.le_of_ble_eq_true a6, ?_, fun hs => ?_, fun hs => ?_⟩, fun pc i hi => ?_⟩
  · simp only [Bool.or_eq_true, decide_eq_true_eq] at a7
    rcases a7 with (q | q) | q
    · exact Or.inl q
    · exact Or.inr (Or.inl q)
    · exact Or.inr (Or.inr q)
  · rw [if_pos hs] at a8
    exact am_in_mem a8
  · rw [if_neg hs] at a8
    simp only [Bool.and_eq_true] at a8
    refine ⟨am_in_mem a8.1.1, am_in_mem a8.1.2, ?_⟩
    have q := a8.2
    split at q
    · rename_i C T N hcl
      exact ⟨T, N, by rw [hcl, of_decide_eq_true q]⟩
    · cases q
  · have q := List.all_eq_true.mp a9 _ (h2 pc i hi)
    simpa only [Bool.and_eq_true] using q
theorem am_args_static {as : List Value} {j d : Nat} {r : am_R} {N : am_M} (hN : mt j = some N) (h : am_cal mt (d + 1) j as g = some r) : (∀ v ∈ as, v.category = 1) ∧ as.length ≤ N.2.2.1 ∧ am_rcv g N.2.2.2.2.1 as = true ∧ am_run (decide (N.2.2.2.1 = some .boolean)) (am_cal mt d) N.2.2.2.2.2 0 (as.map some ++ List.replicate (N.2.2.1 - as.length) none) [] g = some r := by
  unfold am_cal at h
  rw [hN] at h
  dsimp only at h
  obtain ⟨h1, h⟩ := am_if_some h
  obtain ⟨h2, h⟩ := am_if_some h
  simp only [Bool.and_eq_true, List.all_eq_true, beq_iff_eq] at h1
  exact ⟨h1.1, Nat.le_of_ble_eq_true h1.2, h2, h⟩
/-- a call of a method that is met -/
theorem am_callW (X : am_cx p s m args meth c M ρ cA D n) {d : Nat} (hR : d + 2 ≤ R.frames ∧ 64 * (d + 2) ≤ R.locals ∧ cells ≤ R.cells ∧ slots ≤ R.slots) (hm : am_met l mt d) (hP : va_P D am_cl (am_lay ρ cA g) H) (hg : g.length = n) (hA : ∀ q, am_A ρ n q → A q) (hS : va_S A s.heap H locs) (hls : ls.size = M.2.2.1) {j : Nat} {N : am_M} (hN : mt j = some N) (hok : am_mfacts N) {as : List Value} {r : am_R} (hr : am_cal mt d j as g = some r)
    {idx : Nat} {i : am_I} (hck : am_mchk M.1.cls idx i N = true) (hst : (rest.map fun v => v.category).sum ≤ 8)
    (hcase : (N.2.2.2.2.1 = 12 ∧ am_npar N.1 = some as.length ∧ decode M.2.1 pc = .ok (.invokestatic idx, 3)) ∨ (N.2.2.2.2.1 ≠ 12 ∧ (am_npar N.1).map (· + 1) = some as.length ∧ decode M.2.1 pc = .ok (.invokevirtual idx, 3)))
    (kk : ∀ (H1 : Heap) (locs1 : List Loc), va_P D am_cl (am_lay ρ cA r.2) H1 → va_S A s.heap H1 locs1 → W p l e R s m args below meth c H1 locs1 cells slots Q (F0 m (pc + 3) ls ((r.1.map (am_v ρ)).toList ++ rest))) : W p l e R s m args below meth c H locs cells slots Q (F0 m pc ls ((as.map (am_v ρ)).reverse ++ rest)) := by
  cases d with
  | zero => cases hr
  | succ d =>
  have hmet := hm j as g r N hN hr ρ cA D n X.2.2.2.2.2.2.2.2.2 hg
  obtain ⟨ha1, ha2, ha3, -⟩ := am_args_static hN hr
  obtain ⟨hx, hb, hml, hown, hts, hK, hNw, -, -, hρ⟩ := X
  obtain ⟨f1, f2, f3, f4, f5, f6, f7, f8⟩ := hok
  have hgT := am_good_T N f2 M
  have hini : (Cond.initialized N.1.cls).before args s = true := hts _ (List.mem_cons_of_mem _ (List.mem_filter.mpr ⟨f3, rfl⟩))
  have hroom : (am_rm (d + 1)).frames + 1 ≤ R.frames ∧ 8 + (N.2.2.1 + 11) + (am_rm (d + 1)).locals ≤ R.locals := by
    obtain ⟨r1, r2, -, -⟩ := hR
    refine ⟨by show d + 1 + 1 + 1 ≤ _; omega, ?_⟩
    show 8 + (N.2.2.1 + 11) + 64 * (d + 1 + 1) ≤ _
    omega
  have hcells : cells + 0 ≤ R.cells ∧ slots + 0 ≤ R.slots := ⟨hR.2.2.1, hR.2.2.2⟩
  have hpre : ∀ U : State, U.heap = H → s.WarmedH U.vm → am_Pc ρ cA D as g (as.map (am_v ρ)).toArray U := fun U hU hW => ⟨rfl, by rw [hU]; exact hP, va_K.moved hW.alike hK, am_nw.warm hW hNw⟩
  unfold am_mchk at hck
  simp only [Bool.and_eq_true, Bool.or_eq_true] at hck
  rcases hcase with ⟨c1, c2, c3⟩ | ⟨c1, c2, c3⟩
  · have hstat : (Cond.static N.1).before args s = true := hts _ (List.mem_cons_of_mem _ (List.mem_filter.mpr ⟨f7 c1, rfl⟩))
    rcases hck.1 with hl | hl
    · have cb := callB_of (R := R) (s := s) (args := args) (Ts := am_ws M) (own := M.1.cls) (index := idx) (y := N.1) (bytes := N.2.1) (maxL := N.2.2.1) (ret := N.2.2.2.1) (ws := am_ws N) (ws' := am_T) (rm := am_rm (d + 1)) (mc := 0) (ms := 0) as.length hts hgT rfl rfl rfl hini (hts _ (List.mem_cons_of_mem _ (am_in_T hl rfl))) ⟨f4.1, f4.2, c2⟩ hroom
      exact am_goW (frees := fun _ => False) (va_runS ⟨hx, hb, hml, hown, hts⟩ hmet ⟨cb, hstat⟩ ⟨am_blind ρ cA D as g, hpre⟩ rfl (by rw [List.length_map]) hls rfl (lv_room hst) c3 hcells) hA hS kk
    · have cb := va_cnB (R := R) (s := s) (args := args) (Ts := am_ws M) (own := M.1.cls) (host := "WrittenColumns") (index := idx) (y := N.1) (bytes := N.2.1) (maxL := N.2.2.1) (ret := N.2.2.2.1) (ws := am_ws N) (ws' := am_T) (rm := am_rm (d + 1)) (mc := 0) (ms := 0) as.length hts hgT rfl rfl rfl (hNw _ (am_in_mem hl) rfl) hini ⟨f4.1, f4.2, c2⟩ hroom
      exact am_goW (frees := fun _ => False) (va_runSN ⟨hx, hb, hml, hown, hts⟩ hmet ⟨cb, hstat, trivial⟩ ⟨am_blind ρ cA D as g, hpre⟩ rfl (by rw [List.length_map]) hls rfl (lv_room hst) c3 hcells) hA hS kk
  · obtain ⟨f81, f82, T, NN, f83⟩ := f8 c1
    have hinst : (Cond.instanceMethod N.1).before args s = true := hts _ (List.mem_cons_of_mem _ (List.mem_filter.mpr ⟨f81, rfl⟩))
    have hsel : (Cond.selects N.1.cls N.1 N.1).before args s = true := hts _ (List.mem_cons_of_mem _ (List.mem_filter.mpr ⟨f82, rfl⟩))
    unfold am_rcv at ha3
    split at ha3
    · exact absurd (by assumption) c1
    · split at ha3
      · rename_i q as'
        unfold am_isO at ha3
        split at ha3
        · rename_i ci fs hq
          have hci : ci = N.2.2.2.2.1 := by simpa using ha3
          subst hci
          have hrecv := va_recv hK hP (q0 := q) f83 (am_lay_at hq)
          have hn' : am_npar N.1 = some (as'.map (am_v ρ)).length := by
            rw [List.length_map]
            cases hz : am_npar N.1 with
            | none => rw [hz] at c2; cases c2
            | some z =>
              rw [hz] at c2
              have := Option.some.inj c2
              simp at this
              rw [this]
          have hstack : (List.map (am_v ρ) (Value.ref q :: as')).reverse ++ rest = (as'.map (am_v ρ)).reverse ++ Value.ref (ρ q) :: rest := by
            simp [am_v]
          rw [hstack]
          rcases hck.1 with hl | hl
          · have cb := callB_of (R := R) (s := s) (args := args) (Ts := am_ws M) (own := M.1.cls) (index := idx) (y := N.1) (bytes := N.2.1) (maxL := N.2.2.1) (ret := N.2.2.2.1) (ws := am_ws N) (ws' := am_T) (rm := am_rm (d + 1)) (mc := 0) (ms := 0) (as'.map (am_v ρ)).length hts hgT rfl rfl rfl hini (hts _ (List.mem_cons_of_mem _ (am_in_T hl rfl))) ⟨f4.1, f4.2, hn'⟩ hroom
            exact am_goW (frees := fun _ => False) (va_runV (C := N.1.cls) ⟨hx, hb, hml, hown, hts⟩ hmet ⟨cb, hinst, hsel⟩ ⟨am_blind ρ cA D _ g, hrecv, hpre⟩ rfl rfl hls rfl (lv_room hst) c3 hcells) hA hS kk
          · have cb := va_cnB (R := R) (s := s) (args := args) (Ts := am_ws M) (own := M.1.cls) (host := "WrittenColumns") (index := idx) (y := N.1) (bytes := N.2.1) (maxL := N.2.2.1) (ret := N.2.2.2.1) (ws := am_ws N) (ws' := am_T) (rm := am_rm (d + 1)) (mc := 0) (ms := 0) (as'.map (am_v ρ)).length hts hgT rfl rfl rfl (hNw _ (am_in_mem hl) rfl) hini ⟨f4.1, f4.2, hn'⟩ hroom
            exact am_goW (frees := fun _ => False) (va_runVN (C := N.1.cls) ⟨hx, hb, hml, hown, hts⟩ hmet ⟨cb, hinst, hsel⟩ ⟨am_blind ρ cA D _ g, hrecv, hpre⟩ rfl rfl hls rfl (lv_room hst) c3 hcells) hA hS kk
        · cases ha3
      · cases ha3
end AMS
end
section
/-! ===== every instruction ===== -/
section AMI
variable {p : Program} {l : Launch} {e : Env} {R : Room} {s : State} {m : MethodId} {args : Array Value} {below : List Frame} {meth : Method} {c : Code}
variable {cc : ByteArray} {pc : Nat} {ls : Array Slot} {rest : List Value} {H : Heap} {locs : List Loc} {cells slots : Nat} {Q : State → Prop}
theorem am_aloadN (hexec : p.tables.exec = Jvm.exec) (hb : c.code = cc) {i : Nat} (hdg : decode cc pc = .ok (.aload i, 2)) (hl : ls[i]? = some (.val .null))
    (k : W p l e R s m args below meth c H locs cells slots Q (F0 m (pc + 2) ls (.null :: rest))) : W p l e R s m args below meth c H locs cells slots Q (F0 m pc ls (rest)) := by
  intro T hT X
  obtain ⟨t, a, b⟩ := k T hT X
  refine ⟨t, ?_, b⟩
  jvm_step X.here [X.here.top, hexec, hb, hdg, hl, Value.isRef]
  exact a
theorem am_aload_nN (hexec : p.tables.exec = Jvm.exec) (hb : c.code = cc) {k : Fin 4} {i : Nat} (hdg : decode cc pc = .ok (.aload_n k, 1)) (hi : (k : Nat) = i) (hl : ls[i]? = some (.val .null))
    (kk : W p l e R s m args below meth c H locs cells slots Q (F0 m (pc + 1) ls (.null :: rest))) : W p l e R s m args below meth c H locs cells slots Q (F0 m pc ls (rest)) := by
  intro T hT X
  subst hi
  obtain ⟨t, a, b⟩ := kk T hT X
  refine ⟨t, ?_, b⟩
  jvm_step X.here [X.here.top, hexec, hb, hdg, hl, Value.isRef]
  exact a
theorem am_astore_nN (hexec : p.tables.exec = Jvm.exec) (hb : c.code = cc) {k : Fin 4} {nL : Nat} {lv : List (Nat × Value)} (hdg : decode cc pc = .ok (.astore_n k, 1)) (h : lv_has ls nL lv) (hn : (k : Nat) < nL)
    (kk : ∀ ls' : Array Slot, lv_has ls' nL (((k : Nat), Value.null) :: lv.filter (fun q => !(q.1 == (k : Nat)) && !(q.1 + 1 == (k : Nat) && q.2.category == 2))) → W p l e R s m args below meth c H locs cells slots Q (F0 m (pc + 1) ls' rest)) : W p l e R s m args below meth c H locs cells slots Q (F0 m pc ls (.null :: rest)) := by
  obtain ⟨ls', e', h'⟩ := lv_store1 (v := .null) h hn rfl
  intro T hT X
  obtain ⟨t, a, b⟩ := kk ls' h' T hT X
  refine ⟨t, ?_, b⟩
  jvm_step X.here [X.here.top, ↓top_set X.here.top, hexec, hb, hdg, e', Value.isRef]
  exact a
theorem am_astoreN (hexec : p.tables.exec = Jvm.exec) (hb : c.code = cc) {k nL : Nat} {lv : List (Nat × Value)} (hdg : decode cc pc = .ok (.astore k, 2)) (h : lv_has ls nL lv) (hn : k < nL)
    (kk : ∀ ls' : Array Slot, lv_has ls' nL ((k, Value.null) :: lv.filter (fun q => !(q.1 == k) && !(q.1 + 1 == k && q.2.category == 2))) → W p l e R s m args below meth c H locs cells slots Q (F0 m (pc + 2) ls' rest)) : W p l e R s m args below meth c H locs cells slots Q (F0 m pc ls (.null :: rest)) := by
  obtain ⟨ls', e', h'⟩ := lv_store1 (v := .null) h hn rfl
  intro T hT X
  obtain ⟨t, a, b⟩ := kk ls' h' T hT X
  refine ⟨t, ?_, b⟩
  jvm_step X.here [X.here.top, ↓top_set X.here.top, hexec, hb, hdg, e', Value.isRef]
  exact a
end AMI
end
section
theorem am_sw_tab {pc : Nat} {x : Int32} {k : Nat → Option am_R} {d : Nat} {r : am_R} : ∀ (offs : List Int) (tl : List (Int × Nat)) (lo : Int), am_tsw pc lo offs tl = true → -2147483648 ≤ lo → lo + offs.length ≤ 2147483648 → am_sw x d k tl = some r →
    (∃ (j : Nat) (o : Int) (t : Nat), x.toInt = lo + j ∧ offs[j]? = some o ∧ (pc : Int) + o = (t : Int) ∧ k t = some r) ∨ ((x.toInt < lo ∨ lo + offs.length ≤ x.toInt) ∧ k d = some r)
  | [], [], lo, _, _, _, h => Or.inr ⟨by simp; omega, h⟩
  | [], _ :: _, _, h, _, _, _ => by cases h
  | _ :: _, [], _, h, _, _, _ => by cases h
  | o :: os, q :: qs, lo, h, h1, h2, hs => by
    simp only [am_tsw, Bool.and_eq_true, decide_eq_true_eq] at h
    obtain ⟨⟨e1, e2⟩, e3⟩ := h
    rw [List.length_cons] at h2
    have hlo : (Int32.ofInt q.1).toInt = lo := by
      rw [e1]
      exact Int32.toInt_ofInt_of_le (by simpa using h1) (by simpa using (show lo < 2147483648 by omega))
    unfold am_sw at hs
    by_cases hx : x = Int32.ofInt q.1
    · rw [if_pos hx] at hs
      exact Or.inl ⟨0, o, q.2, by rw [hx, hlo]; simp, rfl, e2, hs⟩
    · rw [if_neg hx] at hs
      have hne : x.toInt ≠ lo := fun hh => hx (Int32.toInt_inj.mp (hh.trans hlo.symm))
      rcases am_sw_tab os qs (lo + 1) e3 (by omega) (by omega) hs with ⟨j, o', t, a1, a2, a3, a4⟩ | ⟨a1, a2⟩
      · exact Or.inl ⟨j + 1, o', t, by rw [a1]; omega, a2, a3, a4⟩
      · refine Or.inr ⟨?_, a2⟩
        rw [List.length_cons]
        omega
theorem am_sw_look {pc : Nat} {x : Int32} {k : Nat → Option am_R} {d : Nat} {dd : Int} {r : am_R} (hd : (pc : Int) + dd = (d : Int)) : ∀ (ps : List (Int × Int)) (tl : List (Int × Nat)), am_lsw pc ps tl = true → am_sw x d k tl = some r →
    ∃ t : Nat, (pc : Int) + Op.lookupswitch.offset ps dd x.toInt = (t : Int) ∧ k t = some r
  | [], [], _, h => ⟨d, hd, h⟩
  | [], _ :: _, h, _ => by cases h
  | _ :: _, [], h, _ => by cases h
  | o :: os, q :: qs, h, hs => by
    simp only [am_lsw, Bool.and_eq_true, decide_eq_true_eq] at h
    obtain ⟨⟨⟨e1, e2⟩, e4⟩, e3⟩ := h
    have hlo : (Int32.ofInt q.1).toInt = o.1 := by
      rw [e1]
      exact Int32.toInt_ofInt_of_le (by simpa using e4.1) (by simpa using (show o.1 < 2147483648 by omega))
    obtain ⟨o1, o2⟩ := o
    rw [Op.lookupswitch.offset_cons]
    unfold am_sw at hs
    by_cases hx : x = Int32.ofInt q.1
    · rw [if_pos hx] at hs
      rw [if_pos (by rw [hx, hlo])]
      exact ⟨q.2, e2, hs⟩
    · rw [if_neg hx] at hs
      have hne : ¬ o1 = x.toInt := fun hh => hx (Int32.toInt_inj.mp (hh.symm.trans hlo.symm))
      rw [if_neg hne]
      exact am_sw_look hd os qs e3 hs
end
section
/-! ===== a walk over any code that is checked ===== -/
section AMX
variable {p : Program} {l : Launch} {e : Env} {R : Room} {s : State} {m : MethodId} {args : Array Value} {below : List Frame} {meth : Method} {c : Code}
variable {A : Nat → Prop} {cells slots : Nat} {Qr : am_R → State → Prop} {M : am_M} {ρ : Nat → Nat} {cA : Nat → ClassId} {D : va_G} {n : Nat} {mt : Nat → Option am_M}
def am_good (p : Program) (l : Launch) (e : Env) (R : Room) (s : State) (m : MethodId) (args : Array Value) (below : List Frame) (meth : Method) (c : Code) (M : am_M) (ρ : Nat → Nat) (cA : Nat → ClassId) (D : va_G) (n : Nat) (A : Nat → Prop) (cells slots : Nat) (Qr : am_R → State → Prop) (K : am_K) : Prop :=
  ∀ (pc : Nat) (L : am_L) (st : List Value) (g : am_W) (r : am_R), K pc L st g = some r → g.length = n → ∀ (H : Heap) (locs : List Loc) (ls : Array Slot), va_P D am_cl (am_lay ρ cA g) H → va_S A s.heap H locs → am_lh ρ ls M.2.2.1 L → W p l e R s m args below meth c H locs cells slots (Qr r) (F0 m pc ls (st.map (am_v ρ)))
/-- how a method's ends are met -/
def am_endI (p : Program) (l : Launch) (e : Env) (R : Room) (s : State) (m : MethodId) (args : Array Value) (below : List Frame) (meth : Method) (c : Code) (M : am_M) (ρ : Nat → Nat) (cA : Nat → ClassId) (D : va_G) (n : Nat) (A : Nat → Prop) (cells slots : Nat) (Qr : am_R → State → Prop) (pc : Nat) : Prop :=
  ∀ (x : Int32) (g : am_W), g.length = n → ∀ (H : Heap) (locs : List Loc) (ls : Array Slot), va_P D am_cl (am_lay ρ cA g) H → va_S A s.heap H locs → (M.2.2.2.1 = some .int ∨ (M.2.2.2.1 = some .boolean ∧ (x = 0 ∨ x = 1))) → decode M.2.1 pc = .ok (.ireturn, 1) → W p l e R s m args below meth c H locs cells slots (Qr (some (.int x), g)) (F0 m pc ls [.int x])
def am_endV (p : Program) (l : Launch) (e : Env) (R : Room) (s : State) (m : MethodId) (args : Array Value) (below : List Frame) (meth : Method) (c : Code) (M : am_M) (ρ : Nat → Nat) (cA : Nat → ClassId) (D : va_G) (n : Nat) (A : Nat → Prop) (cells slots : Nat) (Qr : am_R → State → Prop) (pc : Nat) : Prop :=
  ∀ (g : am_W), g.length = n → ∀ (H : Heap) (locs : List Loc) (ls : Array Slot), va_P D am_cl (am_lay ρ cA g) H → va_S A s.heap H locs → M.2.2.2.1 = none → decode M.2.1 pc = .ok (.return_, 1) → W p l e R s m args below meth c H locs cells slots (Qr (none, g)) (F0 m pc ls [])
theorem am_b01 {x : Int32} (h : x = 0 ∨ x = 1) : narrow .boolean (.int x) = .int x := by rcases h with rfl | rfl <;> rfl
theorem am_tyo {cA : Nat → ClassId} {t : Nat} (h : 2 ≤ t ∧ t < 6) : ∃ C, (am_ty cA)[t]? = some (cA t, .object C) := by
  obtain ⟨h1, h2⟩ := h
  rcases (show t = 2 ∨ t = 3 ∨ t = 4 ∨ t = 5 by omega) with rfl | rfl | rfl | rfl
  · exact ⟨_, rfl⟩
  · exact ⟨_, rfl⟩
  · exact ⟨_, rfl⟩
  · exact ⟨_, rfl⟩
theorem am_ty2 {cA : Nat → ClassId} {t : Nat} (h : t < 2) : ∃ ty, (am_ty cA)[t]? = some (cA t, ty) := by
  rcases (show t = 0 ∨ t = 1 by omega) with rfl | rfl
  · exact ⟨_, rfl⟩
  · exact ⟨_, rfl⟩
set_option maxHeartbeats 4000000 in
/-- calls -/
theorem am_sim_call (X : am_cx p s m args meth c M ρ cA D n) {d : Nat} (hR : d + 2 ≤ R.frames ∧ 64 * (d + 2) ≤ R.locals ∧ cells ≤ R.cells ∧ slots ≤ R.slots) (hA : ∀ q, am_A ρ n q → A q) (hm : am_met l mt d) (hmt : ∀ j N, mt j = some N → am_mfacts N) {K : am_K} (hK : am_good p l e R s m args below meth c M ρ cA D n A cells slots Qr K)
    {j k b pc : Nat} {L : am_L} {st : List Value} {g : am_W} {r : am_R} (h : am_call (am_cal mt d) K j k b pc L st g = some r) {idx : Nat} {i : am_I} {N : am_M} (hN : mt j = some N) (hck : am_mchk M.1.cls idx i N = true) (hb1 : i.2.2.2.1 = b)
    (hcase : (N.2.2.2.2.1 = 12 ∧ am_npar N.1 = some k ∧ decode M.2.1 pc = .ok (.invokestatic idx, 3)) ∨ (N.2.2.2.2.1 ≠ 12 ∧ (am_npar N.1).map (· + 1) = some k ∧ decode M.2.1 pc = .ok (.invokevirtual idx, 3)))
    (hg : g.length = n) {H : Heap} {locs : List Loc} {ls : Array Slot} (hP : va_P D am_cl (am_lay ρ cA g) H) (hS : va_S A s.heap H locs) (hl : am_lh ρ ls M.2.2.1 L) : W p l e R s m args below meth c H locs cells slots (Qr r) (F0 m pc ls (st.map (am_v ρ))) := by
  unfold am_call at h
  obtain ⟨hc, h⟩ := am_if_some h
  simp only [Bool.and_eq_true] at hc
  have hk := Nat.le_of_ble_eq_true hc.1
  have hroom := Nat.le_of_ble_eq_true hc.2
  have hst : st.map (am_v ρ) = (((st.take k).reverse).map (am_v ρ)).reverse ++ (st.drop k).map (am_v ρ) := by
    rw [← List.map_reverse, List.reverse_reverse, ← List.map_append, List.take_append_drop]
  have hlen : ((st.take k).reverse).length = k := by rw [List.length_reverse, List.length_take]; omega
  rw [hst]
  rw [← hlen] at hcase
  have hroom' : (((st.drop k).map (am_v ρ)).map fun v => v.category).sum ≤ 8 := by rw [am_v_cats]; exact hroom
  cases hb2 : Nat.beq b 1 with
  | true =>
    rw [hb2] at h
    obtain ⟨q, hq, h2⟩ := Option.bind_eq_some_iff.mp h
    have hq' := am_cI_to hq
    exact am_callW X hR hm hP hg hA hS hl.1 hN (hmt j N hN) hq' hck hroom' hcase (fun H1 locs1 a1 a2 => hK _ _ _ _ _ h2 ((am_cal_kp mt d _ _ _ _ hq').trans hg) _ _ _ a1 a2 hl)
  | false =>
    rw [hb2] at h
    obtain ⟨q, hq, h2⟩ := Option.bind_eq_some_iff.mp h
    have hq' := am_cV_to hq
    exact am_callW X hR hm hP hg hA hS hl.1 hN (hmt j N hN) hq' hck hroom' hcase (fun H1 locs1 a1 a2 => hK _ _ _ _ _ h2 ((am_cal_kp mt d _ _ _ _ hq').trans hg) _ _ _ a1 a2 hl)
set_option maxHeartbeats 16000000 in
theorem am_sim_ex (X : am_cx p s m args meth c M ρ cA D n) {d : Nat} (hR : d + 2 ≤ R.frames ∧ 64 * (d + 2) ≤ R.locals ∧ cells ≤ R.cells ∧ slots ≤ R.slots) (hA : ∀ q, am_A ρ n q → A q) (hm : am_met l mt d) (hmt : ∀ j N, mt j = some N → am_mfacts N) {K : am_K} (hK : am_good p l e R s m args below meth c M ρ cA D n A cells slots Qr K)
    {pc : Nat} {L : am_L} {st : List Value} {g : am_W} {r : am_R} {i : am_I} (h : am_ex (decide (M.2.2.2.1 = some .boolean)) (am_cal mt d) K i pc L st g = some r) (hck0 : am_chkD M.2.1 pc i.1 = true) (hrc : am_rchk M.2.2.2.1 i.1 = true) (hck : am_chk M.1.cls mt pc i = true) (hret : M.2.2.2.1 = none ∨ M.2.2.2.1 = some .int ∨ M.2.2.2.1 = some .boolean) (hsys : am_sysP) (hEI : am_endI p l e R s m args below meth c M ρ cA D n A cells slots Qr pc) (hEV : am_endV p l e R s m args below meth c M ρ cA D n A cells slots Qr pc)
    (hg : g.length = n) {H : Heap} {locs : List Loc} {ls : Array Slot} (hP : va_P D am_cl (am_lay ρ cA g) H) (hS : va_S A s.heap H locs) (hl : am_lh ρ ls M.2.2.1 L) : W p l e R s m args below meth c H locs cells slots (Qr r) (F0 m pc ls (st.map (am_v ρ))) := by
  have hD0 : ∃ ln, decode M.2.1 pc = .ok (i.1, ln) ∧ (am_sww i.1 = false → ln = am_len i.1) := by
    unfold am_chkD at hck0
    split at hck0
    · rename_i jj ln hdec
      simp only [Bool.and_eq_true, Bool.or_eq_true, decide_eq_true_eq] at hck0
      refine ⟨ln, by rw [hdec, hck0.1], fun hs => ?_⟩
      rcases hck0.2 with q | q
      · rw [q] at hs; cases hs
      · exact q
    · cases hck0
  have hd : am_sww i.1 = false → decode M.2.1 pc = .ok (i.1, am_len i.1) := fun hs => by
    obtain ⟨ln, q1, q2⟩ := hD0
    rw [q1, q2 hs]
  have X0 := X
  obtain ⟨hx, hb, hml, hown, hts, hKK, hNw, hlk, hr, hρ⟩ := X
  have hDD := (am_lay_D (cA := cA) hρ hg).weaken (fun _ _ _ h => hA _ h)
  have hsz : ls.size = M.2.2.1 := hl.1
  have go : ∀ {pc' : Nat} {st' : List Value}, K pc' L st' g = some r → W p l e R s m args below meth c H locs cells slots (Qr r) (F0 m pc' ls (st'.map (am_v ρ))) := fun h' => hK _ _ _ _ _ h' hg _ _ _ hP hS hl
  have gos : ∀ {pc' : Nat} {st' : List Value} {k : Nat} {v : Value} {ls' : Array Slot}, K pc' (L.set k (some v)) st' g = some r → (am_v ρ v).category = 1 → lv_has ls' M.2.2.1 ((k, am_v ρ v) :: (am_lv ρ L).filter (fun q => !(q.1 == k) && !(q.1 + 1 == k && q.2.category == 2))) → W p l e R s m args below meth c H locs cells slots (Qr r) (F0 m pc' ls' (st'.map (am_v ρ))) := fun h' hv h'' => hK _ _ _ _ _ h' hg _ _ _ hP hS (hl.set hv h'')
  have gow : ∀ {pc' : Nat} {st' : List Value} {g' : am_W} {H1 : Heap} {locs1 : List Loc}, K pc' L st' g' = some r → g'.length = g.length → va_P D am_cl (am_lay ρ cA g') H1 → va_S A s.heap H1 locs1 → W p l e R s m args below meth c H1 locs1 cells slots (Qr r) (F0 m pc' ls (st'.map (am_v ρ))) := fun h' hlen a1 a2 => hK _ _ _ _ _ h' (hlen.trans hg) _ _ _ a1 a2 hl
  have hw : ∀ w ∈ am_T, w.before args s = true := fun w hw => hts w (List.mem_cons_of_mem _ hw)
  have hfr : 1 ≤ R.frames ∧ 8 + 64 ≤ R.locals := ⟨by omega, by omega⟩
  obtain ⟨harr, hmath, hmax, hmin⟩ := hsys
  obtain ⟨ins, a, b, kd, tl⟩ := i
  cases ins with
  | iconst k => exact lv_iconst hx hb (hd rfl) rfl (go h)
  | bipush k => exact lv_bipush hx hb (hd rfl) rfl (go h)
  | sipush k => exact lv_sipush hx hb (hd rfl) rfl (go h)
  | ldc k => exact lv_ldc hx hb hown (hts _ (List.mem_cons_of_mem _ (am_in_T hck rfl))) (hd rfl) (go h)
  | ldc_w k => exact lv_ldcw hx hb hown (hts _ (List.mem_cons_of_mem _ (am_in_T hck rfl))) (hd rfl) (go h)
  | aconst_null => exact lv_null hx hb (hd rfl) (go h)
  | iload_n k =>
    dsimp only [am_ex] at h
    split at h
    · rename_i x hv
      exact lv_iload_n hx hb (hd rfl) rfl (hl.at hv) (go h)
    · cases h
  | iload k =>
    dsimp only [am_ex] at h
    split at h
    · rename_i x hv
      exact lv_iload hx hb (hd rfl) (hl.at hv) (go h)
    · cases h
  | aload_n k =>
    dsimp only [am_ex] at h
    split at h
    · rename_i x hv
      exact lv_aload_n hx hb (hd rfl) rfl (hl.at hv) (go h)
    · rename_i hv
      exact am_aload_nN hx hb (hd rfl) rfl (hl.at hv) (go h)
    · cases h
  | aload k =>
    dsimp only [am_ex] at h
    split at h
    · rename_i x hv
      exact lv_aload hx hb (hd rfl) (hl.at hv) (go h)
    · rename_i hv
      exact am_aloadN hx hb (hd rfl) (hl.at hv) (go h)
    · cases h
  | istore_n k =>
    dsimp only [am_ex] at h
    split at h
    · obtain ⟨hk, h⟩ := am_if_some h
      exact lv_istore_n hx hb (hd rfl) rfl hl.has (by rw [← hl.2.1]; exact Nat.le_of_ble_eq_true hk) rfl (fun ls' h' => gos h rfl h')
    · cases h
  | istore k =>
    dsimp only [am_ex] at h
    split at h
    · obtain ⟨hk, h⟩ := am_if_some h
      exact lv_istore hx hb (hd rfl) hl.has (by rw [← hl.2.1]; exact Nat.le_of_ble_eq_true hk) rfl (fun ls' h' => gos h rfl h')
    · cases h
  | astore_n k =>
    dsimp only [am_ex] at h
    split at h
    · obtain ⟨hk, h⟩ := am_if_some h
      exact lv_astore_n hx hb (hd rfl) rfl hl.has (by rw [← hl.2.1]; exact Nat.le_of_ble_eq_true hk) rfl (fun ls' h' => gos (v := .ref _) h rfl h')
    · obtain ⟨hk, h⟩ := am_if_some h
      exact am_astore_nN hx hb (hd rfl) hl.has (by rw [← hl.2.1]; exact Nat.le_of_ble_eq_true hk) (fun ls' h' => gos (v := .null) h rfl h')
    · cases h
  | astore k =>
    dsimp only [am_ex] at h
    split at h
    · obtain ⟨hk, h⟩ := am_if_some h
      exact lv_astore hx hb (hd rfl) hl.has (by rw [← hl.2.1]; exact Nat.le_of_ble_eq_true hk) rfl (fun ls' h' => gos (v := .ref _) h rfl h')
    · obtain ⟨hk, h⟩ := am_if_some h
      exact am_astoreN hx hb (hd rfl) hl.has (by rw [← hl.2.1]; exact Nat.le_of_ble_eq_true hk) (fun ls' h' => gos (v := .null) h rfl h')
    · cases h
  | iinc k z =>
    dsimp only [am_ex] at h
    split at h
    · rename_i x hv
      obtain ⟨hk, h⟩ := am_if_some h
      obtain ⟨q, hq⟩ := am_lv_ld (ρ := ρ) hv
      exact lv_iinc hx hb (hd rfl) hl.has hq rfl (by rw [← hl.2.1]; exact Nat.le_of_ble_eq_true hk) rfl (fun ls' h' => gos (v := .int _) h rfl h')
    · cases h
  | iadd =>
    dsimp only [am_ex] at h
    split at h
    · exact lv_iadd hx hb (hd rfl) (go h)
    · cases h
  | isub =>
    dsimp only [am_ex] at h
    split at h
    · exact lv_isub hx hb (hd rfl) (go h)
    · cases h
  | imul =>
    dsimp only [am_ex] at h
    split at h
    · exact lv_imul hx hb (hd rfl) (go h)
    · cases h
  | idiv =>
    dsimp only [am_ex] at h
    split at h
    · split at h
      · cases h
      · rename_i hne
        exact lv_idiv hx hb (hd rfl) hne (go h)
    · cases h
  | irem =>
    dsimp only [am_ex] at h
    split at h
    · split at h
      · cases h
      · rename_i hne
        exact lv_irem hx hb (hd rfl) hne (go h)
    · cases h
  | iand =>
    dsimp only [am_ex] at h
    split at h
    · exact lv_iand hx hb (hd rfl) (go h)
    · cases h
  | ior =>
    dsimp only [am_ex] at h
    split at h
    · exact lv_ior hx hb (hd rfl) (go h)
    · cases h
  | ixor =>
    dsimp only [am_ex] at h
    split at h
    · exact lv_ixor hx hb (hd rfl) (go h)
    · cases h
  | ishl =>
    dsimp only [am_ex] at h
    split at h
    · exact lv_ishl hx hb (hd rfl) (go h)
    · cases h
  | ishr =>
    dsimp only [am_ex] at h
    split at h
    · exact lv_ishr hx hb (hd rfl) (go h)
    · cases h
  | iushr =>
    dsimp only [am_ex] at h
    split at h
    · exact lv_iushr hx hb (hd rfl) rfl (go h)
    · cases h
  | i2b =>
    dsimp only [am_ex] at h
    split at h
    · exact lv_i2b hx hb (hd rfl) rfl (go h)
    · cases h
  | dup =>
    dsimp only [am_ex] at h
    split at h
    · exact lv_dup (va := .int _) hx hb (hd rfl) rfl (go h)
    · exact lv_dup (va := .ref _) hx hb (hd rfl) rfl (go h)
    · cases h
  | dup2 =>
    dsimp only [am_ex] at h
    split at h
    · exact lv_dup2_11 (va := .int _) (vb := .ref _) hx hb (hd rfl) rfl rfl (go h)
    · cases h
  | goto off => exact lv_goto hx hb (hd rfl) (of_decide_eq_true hck) (go h)
  | ifCond cd off =>
    have ht : (pc : Int) + off = (a : Int) := of_decide_eq_true hck
    dsimp only [am_ex] at h
    split at h
    · split at h
      · exact lv_if_eq hx hb (hd rfl) ht (fun q => go (by rw [if_pos q] at h; exact h)) (fun q => go (by rw [if_neg q] at h; exact h))
      · exact lv_if_ne hx hb (hd rfl) ht (fun q => go (by rw [if_neg q] at h; exact h)) (fun q => go (by rw [if_pos q] at h; exact h))
      · exact lv_if_lt hx hb (hd rfl) ht (fun q => go (by rw [if_pos q] at h; exact h)) (fun q => go (by rw [if_neg q] at h; exact h))
      · exact lv_if_ge hx hb (hd rfl) ht (fun q => go (by rw [if_pos q] at h; exact h)) (fun q => go (by rw [if_neg q] at h; exact h))
      · exact lv_if_gt hx hb (hd rfl) ht (fun q => go (by rw [if_pos q] at h; exact h)) (fun q => go (by rw [if_neg q] at h; exact h))
      · exact lv_if_le hx hb (hd rfl) ht (fun q => go (by rw [if_pos q] at h; exact h)) (fun q => go (by rw [if_neg q] at h; exact h))
    · cases h
  | if_icmp cd off =>
    have ht : (pc : Int) + off = (a : Int) := of_decide_eq_true hck
    dsimp only [am_ex] at h
    split at h
    · split at h
      · exact lv_icmp_eq hx hb (hd rfl) ht (fun q => go (by rw [if_pos q] at h; exact h)) (fun q => go (by rw [if_neg q] at h; exact h))
      · exact lv_icmp_ne hx hb (hd rfl) ht (fun q => go (by rw [if_neg q] at h; exact h)) (fun q => go (by rw [if_pos q] at h; exact h))
      · exact lv_icmp_lt hx hb (hd rfl) ht (fun q => go (by rw [if_pos q] at h; exact h)) (fun q => go (by rw [if_neg q] at h; exact h))
      · exact lv_icmp_ge hx hb (hd rfl) ht (fun q => go (by rw [if_pos q] at h; exact h)) (fun q => go (by rw [if_neg q] at h; exact h))
      · exact lv_icmp_gt hx hb (hd rfl) ht (fun q => go (by rw [if_pos q] at h; exact h)) (fun q => go (by rw [if_neg q] at h; exact h))
      · exact lv_icmp_le hx hb (hd rfl) ht (fun q => go (by rw [if_pos q] at h; exact h)) (fun q => go (by rw [if_neg q] at h; exact h))
    · cases h
  | ifnull off =>
    dsimp only [am_ex] at h
    split at h
    · exact lv_ifnull hx hb (hd rfl) (go h)
    · exact lv_ifnullN hx hb (hd rfl) (of_decide_eq_true hck) (go h)
    · cases h
  | ifnonnull off =>
    dsimp only [am_ex] at h
    split at h
    · exact lv_ifnonnull hx hb (hd rfl) (of_decide_eq_true hck) (go h)
    · exact lv_ifnonnullN hx hb (hd rfl) (go h)
    · cases h
  | tableswitch df lo hi offs =>
    simp only [am_chk, Bool.and_eq_true, decide_eq_true_eq] at hck
    obtain ⟨⟨⟨k1, k2⟩, k3⟩, k4⟩ := hck
    obtain ⟨ln, hdl, -⟩ := hD0
    dsimp only [am_ex] at h
    split at h
    · rename_i x r'
      have hlen : (offs.toList.length : Int) = offs.size := by rw [Array.length_toList]
      rcases am_sw_tab offs.toList tl lo k4 k3.1 (by rw [hlen]; omega) h with ⟨j, o, t, b1, b2, b3, b4⟩ | ⟨b1, b2⟩
      · have hj : j < offs.size := by
          have := (List.getElem?_eq_some_iff.mp b2).1
          rwa [Array.length_toList] at this
        refine lv_tableIn hx hb hdl (by rw [b1]; omega) (by rw [b1]; omega) (off := o) ?_ b3 (go b4)
        rw [b1, show (lo + (j : Int) - lo).toNat = j by omega, ← Array.getElem?_toList]
        exact b2
      · refine lv_tableOut hx hb hdl ?_ k1 (go b2)
        rw [hlen] at b1
        omega
    · cases h
  | lookupswitch df ps =>
    simp only [am_chk, Bool.and_eq_true, decide_eq_true_eq] at hck
    obtain ⟨⟨k1, k2⟩, k3⟩ := hck
    obtain ⟨ln, hdl, -⟩ := hD0
    dsimp only [am_ex] at h
    split at h
    · rename_i x r'
      obtain ⟨t, b1, b2⟩ := am_sw_look k1 ps.toList tl k3 h
      exact lv_lookup hx hb hdl k2 rfl b1 (go b2)
    · cases h
  | getfield k =>
    dsimp only [am_ex] at h
    split at h
    · split at h
      · obtain ⟨x, hx1, h2⟩ := Option.bind_eq_some_iff.mp h
        obtain ⟨fs, e1, e2⟩ := am_fI_to hx1
        exact am_getW X0 hP rfl rfl e1 e2 hck (hd rfl) (go h2)
      · obtain ⟨x, hx1, h2⟩ := Option.bind_eq_some_iff.mp h
        obtain ⟨fs, e1, e2⟩ := am_fR_to hx1
        exact am_getW X0 hP rfl rfl e1 e2 hck (hd rfl) (go h2)
      · obtain ⟨x, hx1, h2⟩ := Option.bind_eq_some_iff.mp h
        obtain ⟨fs, e1, e2⟩ := am_fN_to hx1
        cases x with
        | none => exact am_getW (v := .null) X0 hP rfl rfl e1 e2 hck (hd rfl) (go h2)
        | some q => exact am_getW (v := .ref q) X0 hP rfl rfl e1 e2 hck (hd rfl) (go h2)
    · cases h
  | putfield k =>
    simp only [am_chk, Bool.and_eq_true] at hck
    obtain ⟨hc1, hc2⟩ := hck
    dsimp only [am_ex] at h
    split at h
    · cases hk0 : Nat.beq kd 0 with
      | true =>
        have hkd : kd = 0 := Nat.eq_of_beq_eq_true hk0
        rw [hk0] at h
        obtain ⟨g', hx1, h2⟩ := Option.bind_eq_some_iff.mp h
        have hlen := am_sF_len hx1
        obtain ⟨fs, e1, e2, e3⟩ := am_sF_to hx1
        subst e3
        refine am_putW (v := .int _) (ty := .int) X0 hP hg hA hS rfl rfl e1 e2 hc1 (fun C T N hcl => ?_) rfl rfl (hd rfl) (fun H1 locs1 a1 a2 => gow h2 hlen a1 a2)
        unfold am_pchk at hc2
        dsimp only at hc2
        rw [hcl, hkd] at hc2
        simp only [Bool.and_eq_true, Bool.not_eq_true', decide_eq_true_eq] at hc2
        exact hc2
      | false =>
        rw [hk0] at h
        obtain ⟨hk3, h⟩ := am_if_some (x := _) (show am_if (Nat.beq kd 3) _ none = some r from h)
        have hkd : kd = 3 := Nat.eq_of_beq_eq_true hk3
        split at h
        · rename_i h01
          obtain ⟨g', hx1, h2⟩ := Option.bind_eq_some_iff.mp h
          have hlen := am_sF_len hx1
          obtain ⟨fs, e1, e2, e3⟩ := am_sF_to hx1
          subst e3
          refine am_putW (v := .int _) (ty := .boolean) X0 hP hg hA hS rfl rfl e1 e2 hc1 (fun C T N hcl => ?_) (am_b01 h01) (by rcases h01 with rfl | rfl <;> rfl) (hd rfl) (fun H1 locs1 a1 a2 => gow h2 hlen a1 a2)
          unfold am_pchk at hc2
          dsimp only at hc2
          rw [hcl, hkd] at hc2
          simp only [Bool.and_eq_true, Bool.not_eq_true', decide_eq_true_eq] at hc2
          exact hc2
        · cases h
    · obtain ⟨hk2, h⟩ := am_if_some h
      have hkd : kd = 2 := Nat.eq_of_beq_eq_true hk2
      obtain ⟨g', hx1, h2⟩ := Option.bind_eq_some_iff.mp h
      have hlen := am_sF_len hx1
      obtain ⟨fs, e1, e2, e3⟩ := am_sF_to hx1
      subst e3
      have hob : ∃ C0, ∀ C T N, am_cl[a]? = some (C, T, N) → (T b).2.2.2 = false ∧ parseFieldDescriptor (T b).2.2.1 = some (.object C0) := by
        unfold am_pchk at hc2
        dsimp only at hc2
        split at hc2
        · rename_i C T N hcl
          rw [hkd] at hc2
          simp only [Bool.and_eq_true, Bool.not_eq_true'] at hc2
          have hq := hc2.2
          unfold am_isObj at hq
          split at hq
          · rename_i C0 hC0
            exact ⟨C0, fun C' T' N' hcl' => by
              cases hcl.symm.trans hcl'
              exact ⟨hc2.1, hC0⟩⟩
          · cases hq
        · cases hc2
      obtain ⟨C0, hob⟩ := hob
      exact am_putW (v := .ref _) (ty := .object C0) X0 hP hg hA hS rfl rfl e1 e2 hc1 hob rfl rfl (hd rfl) (fun H1 locs1 a1 a2 => gow h2 hlen a1 a2)
    · obtain ⟨hk2, h⟩ := am_if_some h
      have hkd : kd = 2 := Nat.eq_of_beq_eq_true hk2
      obtain ⟨g', hx1, h2⟩ := Option.bind_eq_some_iff.mp h
      have hlen := am_sF_len hx1
      obtain ⟨fs, e1, e2, e3⟩ := am_sF_to hx1
      subst e3
      have hob : ∃ C0, ∀ C T N, am_cl[a]? = some (C, T, N) → (T b).2.2.2 = false ∧ parseFieldDescriptor (T b).2.2.1 = some (.object C0) := by
        unfold am_pchk at hc2
        dsimp only at hc2
        split at hc2
        · rename_i C T N hcl
          rw [hkd] at hc2
          simp only [Bool.and_eq_true, Bool.not_eq_true'] at hc2
          have hq := hc2.2
          unfold am_isObj at hq
          split at hq
          · rename_i C0 hC0
            exact ⟨C0, fun C' T' N' hcl' => by
              cases hcl.symm.trans hcl'
              exact ⟨hc2.1, hC0⟩⟩
          · cases hq
        · cases hc2
      obtain ⟨C0, hob⟩ := hob
      exact am_putW (v := .null) (ty := .object C0) X0 hP hg hA hS rfl rfl e1 e2 hc1 hob rfl rfl (hd rfl) (fun H1 locs1 a1 a2 => gow h2 hlen a1 a2)
    · cases h
  | iaload =>
    dsimp only [am_ex] at h
    split at h
    · obtain ⟨x, hx1, h2⟩ := Option.bind_eq_some_iff.mp h
      obtain ⟨nn, f, e1, e2, e3⟩ := am_aI_to hx1
      subst e3
      exact va_iald (cA := cA 0) hx hb hKK hP _ 0 (am_lay_at e1) rfl e2 (hd rfl) (go h2)
    · cases h
  | baload =>
    dsimp only [am_ex] at h
    split at h
    · obtain ⟨x, hx1, h2⟩ := Option.bind_eq_some_iff.mp h
      obtain ⟨nn, f, e1, e2, e3⟩ := am_aI_to hx1
      subst e3
      exact va_zald (cA := cA 1) hx hb hKK hP _ 1 (am_lay_at e1) rfl e2 (hd rfl) (go h2)
    · cases h
  | aaload =>
    dsimp only [am_ex] at h
    split at h
    · rename_i xi q r'
      obtain ⟨x, hx1, h2⟩ := Option.bind_eq_some_iff.mp h
      obtain ⟨t, nn, f, e1, e2, e3, e4⟩ := am_aR_to hx1
      obtain ⟨C0, hC0⟩ := am_tyo (cA := cA) e2
      refine va_aldq (cA := cA t) hx hb hKK hP q t (am_lay_at e1) hC0 e3 (hd rfl) ?_
      have hlt : xi.toNatClampNeg < nn := Nat.not_le.mp fun q => e3 (Or.inr q)
      rw [if_pos hlt, e4]
      exact go h2
    · cases h
  | iastore =>
    dsimp only [am_ex] at h
    split at h
    · obtain ⟨g', hx1, h2⟩ := Option.bind_eq_some_iff.mp h
      have hlen := am_sI_len hx1
      obtain ⟨nn, f, e1, e2, e3⟩ := am_sI_to hx1
      subst e3
      refine va_iast (cA := cA 0) hx hb hKK hP hDD hS _ 0 (am_lay_at e1) rfl e2 (hd rfl) (fun H1 locs1 a1 _ a3 => gow h2 hlen ?_ a3)
      rw [← am_lay_set]
      exact a1
    · cases h
  | bastore =>
    dsimp only [am_ex] at h
    split at h
    · obtain ⟨g', hx1, h2⟩ := Option.bind_eq_some_iff.mp h
      have hlen := am_sI_len hx1
      obtain ⟨nn, f, e1, e2, e3⟩ := am_sI_to hx1
      subst e3
      refine va_zast (cA := cA 1) hx hb hKK hP hDD hS _ 1 (am_lay_at e1) rfl e2 (hd rfl) (fun H1 locs1 a1 _ a3 => gow h2 hlen ?_ a3)
      rw [← am_lay_set]
      exact a1
    · cases h
  | arraylength =>
    dsimp only [am_ex] at h
    split at h
    · obtain ⟨x, hx1, h2⟩ := Option.bind_eq_some_iff.mp h
      obtain ⟨t, nn, f, e1, e2, e3⟩ := am_ln_to hx1
      obtain ⟨ty, hty⟩ := am_ty2 (cA := cA) e2
      exact va_alen hx hb hKK hP _ t (am_lay_at e1) hty e3.symm (hd rfl) (go h2)
    · cases h
  | invokestatic k =>
    dsimp only [am_ex] at h
    simp only [am_chk] at hck
    cases h9 : Nat.beq a 999 with
    | true =>
      rw [h9] at h
      rw [if_pos (Nat.eq_of_beq_eq_true h9)] at hck
      replace h := (show am_if true _ _ = some r from h)
      unfold am_if am_b3 am_b2 am_b1 am_b0 at h
      dsimp only at h
      split at h
      · obtain ⟨hroom, h⟩ := am_if_some h
        obtain ⟨g', hx1, h2⟩ := Option.bind_eq_some_iff.mp h
        have hlen := am_cp_len hx1
        obtain ⟨n0, n1, f, kf, e0, e1, c1, c2, c3, c4, c5, e3⟩ := am_cp_to hx1
        subst e3
        refine va_copyi (c0 := cA 0) (c1 := cA 0) (ty := .int) hx hb (by rw [hml, hsz]) hown (hts _ (List.mem_cons_of_mem _ (am_in_T hck rfl))) (hts _ (List.mem_cons_of_mem _ harr.1)) (hts _ (List.mem_cons_of_mem _ harr.2.1)) (hts _ (List.mem_cons_of_mem _ harr.2.2)) hKK hP hDD hS _ _ 0 0 (am_lay_at e0) (am_lay_at e1) rfl rfl rfl c1 c2 c3 c4 c5 (fun _ _ => rfl) hfr.1 ?_ (hd rfl) (fun H1 locs1 a1 _ a3 => gow h2 hlen ?_ a3)
        · rw [am_v_cats]
          have := Nat.le_of_ble_eq_true hroom
          have := hfr.2
          show _ + (7 + 11) ≤ _
          omega
        · rw [← am_lay_set]
          exact a1
      · cases h
    | false =>
      rw [h9] at h
      rw [if_neg (Nat.ne_of_beq_eq_false h9)] at hck
      replace h := (show am_if (Nat.beq a 998) _ _ = some r from h)
      cases h8 : Nat.beq a 998 with
      | true =>
        rw [h8] at h
        rw [if_pos (Nat.eq_of_beq_eq_true h8)] at hck
        unfold am_if am_b3 am_b2 am_b1 am_b0 at h
        dsimp only at h
        split at h
        · rename_i hst
          obtain ⟨hroom, h⟩ := am_if_some h
          have := Nat.le_of_ble_eq_true hroom
          exact va_mmax hx hb (by rw [hml, hsz]) hown (hw _ (am_in_T hck rfl)) (hw _ hmax.1) (hw _ hmath) (hw _ hmax.2) hfr.1 (by rw [am_v_cats]; have := hfr.2; omega) hR.2.2.1 hR.2.2.2 (hd rfl) (go h)
        · cases h
      | false =>
        rw [h8] at h
        rw [if_neg (Nat.ne_of_beq_eq_false h8)] at hck
        replace h := (show am_if (Nat.beq a 997) _ _ = some r from h)
        cases h7 : Nat.beq a 997 with
        | true =>
          rw [h7] at h
          rw [if_pos (Nat.eq_of_beq_eq_true h7)] at hck
          unfold am_if am_b3 am_b2 am_b1 am_b0 at h
          dsimp only at h
          split at h
          · rename_i hst
            obtain ⟨hroom, h⟩ := am_if_some h
            have := Nat.le_of_ble_eq_true hroom
            exact va_mmin hx hb (by rw [hml, hsz]) hown (hw _ (am_in_T hck rfl)) (hw _ hmin.1) (hw _ hmath) (hw _ hmin.2) hfr.1 (by rw [am_v_cats]; have := hfr.2; omega) hR.2.2.1 hR.2.2.2 (hd rfl) (go h)
          · cases h
        | false =>
          rw [h7] at h
          rw [if_neg (Nat.ne_of_beq_eq_false h7)] at hck
          split at hck
          · rename_i N hN
            simp only [Bool.and_eq_true, decide_eq_true_eq] at hck
            exact am_sim_call X0 hR hA hm hmt hK h hN hck.1.1 rfl (Or.inl ⟨hck.1.2, hck.2, hd rfl⟩) hg hP hS hl
          · cases hck
  | invokevirtual k =>
    dsimp only [am_ex] at h
    simp only [am_chk] at hck
    split at hck
    · rename_i N hN
      simp only [Bool.and_eq_true, decide_eq_true_eq] at hck
      exact am_sim_call X0 hR hA hm hmt hK h hN hck.1.1 rfl (Or.inr ⟨fun q => by rw [q] at hck; exact absurd hck.1.2 (by decide), hck.2, hd rfl⟩) hg hP hS hl
    · cases hck
  | ireturn =>
    dsimp only [am_ex] at h
    split at h
    · rename_i x
      rcases hret with q | q | q
      · rw [q] at hrc; cases hrc
      · rw [q] at h
        replace h : some (some (Value.int x), g) = some r := h
        cases h
        exact hEI x g hg H locs ls hP hS (Or.inl q) (hd rfl)
      · rw [q] at h
        replace h : (if x = 0 ∨ x = 1 then some (some (Value.int x), g) else none) = some r := h
        split at h
        · rename_i h01
          cases h
          exact hEI x g hg H locs ls hP hS (Or.inr ⟨q, h01⟩) (hd rfl)
        · cases h
    · cases h
  | return_ =>
    dsimp only [am_ex] at h
    split at h
    · cases h
      rcases hret with q | q | q
      · exact hEV g hg H locs ls hP hS q (hd rfl)
      · rw [q] at hrc; cases hrc
      · rw [q] at hrc; cases hrc
    · cases h
  | _ => exact absurd (show (none : Option am_R) = some r from h) (by simp)
/-- a method whose code is checked is met -/
theorem am_sim_rn (X : am_cx p s m args meth c M ρ cA D n) {d : Nat} (hR : d + 2 ≤ R.frames ∧ 64 * (d + 2) ≤ R.locals ∧ cells ≤ R.cells ∧ slots ≤ R.slots) (hA : ∀ q, am_A ρ n q → A q) (hm : am_met l mt d) (hmt : ∀ j N, mt j = some N → am_mfacts N) (hck : ∀ (pc : Nat) (i : am_I), M.2.2.2.2.2 pc = some i → (am_chkD M.2.1 pc i.1 = true ∧ am_rchk M.2.2.2.1 i.1 = true) ∧ am_chk M.1.cls mt pc i = true) (hret : M.2.2.2.1 = none ∨ M.2.2.2.1 = some .int ∨ M.2.2.2.1 = some .boolean) (hsys : am_sysP) (hEI : ∀ pc, am_endI p l e R s m args below meth c M ρ cA D n A cells slots Qr pc) (hEV : ∀ pc, am_endV p l e R s m args below meth c M ρ cA D n A cells slots Qr pc) :
    ∀ k, am_good p l e R s m args below meth c M ρ cA D n A cells slots Qr (am_rn (decide (M.2.2.2.1 = some .boolean)) (am_cal mt d) M.2.2.2.2.2 k) := by
  intro k
  induction k with
  | zero => intro pc L st g r h; cases h
  | succ k ih =>
    intro pc L st g r h hg H locs ls hP hS hl
    unfold am_rn at h
    cases hi : M.2.2.2.2.2 pc with
    | none => rw [hi] at h; cases h
    | some i =>
      rw [hi] at h
      obtain ⟨⟨k1, k2⟩, k3⟩ := hck pc i hi
      exact am_sim_ex X hR hA hm hmt ih h k1 k2 k3 hret hsys (hEI pc) (hEV pc) hg hP hS hl
end AMX
theorem am_meets (l : Launch) (mt : Nat → Option am_M) (hmt : ∀ j N, mt j = some N → am_mok mt N) (hsys : am_sysP) : ∀ d, am_met l mt d := by
  intro d
  induction d with
  | zero => intro j as g r M _ h; cases h
  | succ d ih =>
    intro j as g r M hj h ρ cA D n hρ hg
    obtain ⟨ha1, ha2, ha3, hrun⟩ := am_args_static hj h
    obtain ⟨hf, hck⟩ := am_mok_facts (hmt j M hj)
    obtain ⟨f1, f2, f3, f4, f5, f6, f7, f8⟩ := hf
    refine Met.ofW (cc := M.2.1) (maxL := M.2.2.1) (ret := M.2.2.2.1) (ws' := am_T) f1 rfl ?_
    intro p e s m args below meth c s₁ B hml hv
    obtain ⟨rfl, hP, hK, hN⟩ := hv
    have hts := atoms_spec (ws := am_ws M) B.pre
    have X : am_cx p s m (as.map (am_v ρ)).toArray meth c M ρ cA D n := ⟨B.exec, B.bytes, hml, findClass_of_methodNamed B.named, hts, hK, hN, B.notSynchronized, B.returns, hρ⟩
    obtain ⟨k, hk⟩ := am_run_to hrun
    have hS : va_S (am_A ρ n) s.heap s.heap [] := va_S.rf
    have hc1 : ∀ v ∈ as, (am_v ρ v).category = 1 := fun v hv => by rw [am_v_cat]; exact ha1 v hv
    have hl := am_lh_entry (ρ := ρ) (nL := M.2.2.1) hc1 ha2
    rw [lg_entry_eq]
    refine am_sim_rn (Qr := fun r => MQ below (am_Q ρ cA D n r) (as.map (am_v ρ)).toArray s 0 0 (am_A ρ n)) X ⟨Nat.le_refl _, Nat.le_refl _, Nat.zero_le _, Nat.zero_le _⟩ (fun _ h => h) ih (fun j' N' hj' => (am_mok_facts (hmt j' N' hj')).1) hck f6 hsys ?_ ?_ k _ _ _ _ _ hk hg _ _ _ hP hS hl
    · intro pc x g' hg' H locs ls hP' hS' hx hd
      rcases hx with q | ⟨q, h01⟩
      · exact W.iret (v := x) B.exec B.bytes (by rw [B.returns, q]) (fun t ht hW => ⟨rfl, by rw [ht]; exact hP', hS'.F ht⟩) hS'.2.2 hd
      · exact W.zret (v := x) (ty := .boolean) B.exec B.bytes (by rw [B.returns, q]) (am_b01 h01) (fun t ht hW => ⟨rfl, by rw [ht]; exact hP', hS'.F ht⟩) hS'.2.2 hd
    · intro pc g' hg' H locs ls hP' hS' q hd
      exact W.vret B.exec B.bytes (by rw [B.returns, q]) (fun t ht hW => ⟨rfl, by rw [ht]; exact hP', hS'.F ht⟩) hS'.2.2 hd
end
section
/-! ===== an evaluator that computes ===== -/
def am_le (F F' : am_F) : Prop := ∀ (j : Nat) (as : List Value) (g : am_W) (r : am_R), F j as g = some r → F' j as g = some r
def am_mo (f : am_F → am_K → Option am_R) : Prop := ∀ (F F' : am_F) (K K' : am_K), am_le F F' → (∀ (pc : Nat) (L : am_L) (st : List Value) (g : am_W) (r : am_R), K pc L st g = some r → K' pc L st g = some r) → ∀ r, f F K = some r → f F' K' = some r
theorem am_mo.none : am_mo (fun _ _ => none) := fun _ _ _ _ _ _ _ h => by cases h
theorem am_mo.fin (o : Option am_R) : am_mo (fun _ _ => o) := fun _ _ _ _ _ _ _ h => h
theorem am_mo.go (pc : Nat) (L : am_L) (st : List Value) (g : am_W) : am_mo (fun _ K => K pc L st g) := fun _ _ _ _ _ hK _ h => hK _ _ _ _ _ h
theorem am_mo.ite {c : Prop} [Decidable c] {f g : am_F → am_K → Option am_R} (hf : am_mo f) (hg : am_mo g) : am_mo (fun F K => if c then f F K else g F K) := by
  by_cases h : c
  · simpa only [h, if_true] using hf
  · simpa only [h, if_false] using hg
theorem am_mo.bif {b : Bool} {f g : am_F → am_K → Option am_R} (hf : am_mo f) (hg : am_mo g) : am_mo (fun F K => am_if b (f F K) (g F K)) := by
  cases b with
  | true => exact hf
  | false => exact hg
theorem am_mo.bind {α : Type} (o : Option α) {f : α → am_F → am_K → Option am_R} (hf : ∀ a, am_mo (f a)) : am_mo (fun F K => o.bind (fun a => f a F K)) := by
  cases o with
  | none => exact am_mo.none
  | some a => exact hf a
theorem am_mo.on (o : Option Nat) {a : am_F → am_K → Option am_R} {f : Nat → am_F → am_K → Option am_R} (ha : am_mo a) (hf : ∀ q, am_mo (f q)) : am_mo (fun F K => am_on o (a F K) (fun q => f q F K)) := by
  cases o with
  | none => exact ha
  | some q => exact hf q
theorem am_mo.sw (x : Int32) (d : Nat) {k : Nat → am_F → am_K → Option am_R} (hk : ∀ t, am_mo (k t)) : ∀ l : List (Int × Nat), am_mo (fun F K => am_sw x d (fun t => k t F K) l)
  | [] => hk d
  | q :: r => am_mo.ite (hk q.2) (am_mo.sw x d hk r)
theorem am_mo.call (j n b pc : Nat) (L : am_L) (st : List Value) (g : am_W) : am_mo (fun F K => am_call F K j n b pc L st g) := by
  unfold am_call
  refine am_mo.bif (am_mo.bif ?_ ?_) am_mo.none
  · intro F F' K K' hF hK r h
    obtain ⟨q, h1, h2⟩ := Option.bind_eq_some_iff.mp h
    refine Option.bind_eq_some_iff.mpr ⟨q, ?_, hK _ _ _ _ _ h2⟩
    rw [hF _ _ _ _ (am_cI_to h1)]
    rfl
  · intro F F' K K' hF hK r h
    obtain ⟨q, h1, h2⟩ := Option.bind_eq_some_iff.mp h
    refine Option.bind_eq_some_iff.mpr ⟨q, ?_, hK _ _ _ _ _ h2⟩
    rw [hF _ _ _ _ (am_cV_to h1)]
    rfl
set_option maxHeartbeats 4000000 in
theorem am_ex_mo (rz : Bool) (i : am_I) (pc : Nat) (L : am_L) (st : List Value) (g : am_W) : am_mo (fun F K => am_ex rz F K i pc L st g) := by
  unfold am_ex
  split
  all_goals
    repeat' first
      | exact am_mo.none
      | exact am_mo.go _ _ _ _
      | exact am_mo.fin _
      | exact am_mo.call _ _ _ _ _ _ _
      | apply am_mo.ite
      | apply am_mo.bif
      | refine am_mo.bind _ (fun _ => ?_)
      | refine am_mo.on _ ?_ (fun _ => ?_)
      | refine am_mo.sw _ _ (fun _ => ?_) _
      | split
theorem am_rn_mo {rz : Bool} {F F' : am_F} (hF : am_le F F') {cd : Nat → Option am_I} : ∀ (n pc : Nat) (L : am_L) (st : List Value) (g : am_W) (r : am_R), am_rn rz F cd n pc L st g = some r → am_rn rz F' cd n pc L st g = some r := by
  intro n
  induction n with
  | zero => intro pc L st g r h; cases h
  | succ n ih =>
    intro pc L st g r h
    unfold am_rn at h ⊢
    cases hi : cd pc with
    | none => rw [hi] at h; cases h
    | some i =>
      rw [hi] at h
      exact am_ex_mo rz i pc L st g F F' _ _ hF ih r h
def am_ev (mt : Nat → Option am_M) : Nat → am_F
  | 0, _, _, _ => none
  | d + 1, j, as, g => match mt j with
    | some M => am_if (as.all (fun v => v.category == 1) && Nat.ble as.length M.2.2.1)
        (am_if (am_rcv g M.2.2.2.2.1 as) (am_rn (decide (M.2.2.2.1 = some .boolean)) (am_ev mt d) M.2.2.2.2.2 3000 0 (as.map some ++ List.replicate (M.2.2.1 - as.length) none) [] g) none) none
    | none => none
theorem am_ev_cal (mt : Nat → Option am_M) : ∀ d, am_le (am_ev mt d) (am_cal mt d) := by
  intro d
  induction d with
  | zero => intro j as g r h; cases h
  | succ d ih =>
    intro j as g r h
    unfold am_ev at h
    unfold am_cal
    cases hj : mt j with
    | none => rw [hj] at h; cases h
    | some M =>
      rw [hj] at h
      dsimp only at h ⊢
      obtain ⟨h1, h⟩ := am_if_some h
      obtain ⟨h2, h⟩ := am_if_some h
      rw [h1, h2]
      exact am_run_of (am_rn_mo ih _ _ _ _ _ _ h)
/-! ===== makers: instructions that make cells ===== -/
def am_wv (n : Nat) : Value → Bool
  | .ref k => Nat.blt k n
  | _ => true
def am_wo (n : Nat) : Option Value → Bool
  | some v => am_wv n v
  | none => true
def am_we (n : Nat) : am_C → Bool
  | .inr (_, fs) => fs.all (am_wv n)
  | .inl (_, m, .inr f) => (List.range m).all (fun j => match f j with
    | some k => Nat.blt k n
    | none => true)
  | .inl (_, _, .inl _) => true
def am_wf (L : am_L) (st : List Value) (g : am_W) : Bool := L.all (am_wo g.length) && st.all (am_wv g.length) && g.all (am_we g.length)
def am_dv (ci : Nat) : List Value := match am_cl[ci]? with
  | some (_, T, N) => (List.range N).map (fun k => match parseFieldDescriptor (T k).2.2.1 with
    | some t => defaultValue t
    | none => .null)
  | none => []
/-- the sort of the elements of a row of references -/
def am_el : Nat → Nat
  | 2 => 2
  | 3 => 8
  | 4 => 3
  | 5 => 7
  | _ => 99
def am_sR (g : am_W) (p : Nat) (i : Int32) (v : Nat) : Option am_W := match g[p]?, g[v]? with
  | some (.inl (t, n, .inr f)), some (.inr (c, _)) => am_if (Nat.beq (am_el t) c && Nat.blt t 6) (if i < 0 ∨ n ≤ i.toNatClampNeg then none else some (g.set p (.inl (t, n, .inr (va_up f i.toNatClampNeg (some v)))))) none
  | _, _ => none
def am_ex2 (F : am_F) (G : Nat → List Value → am_W → Option am_W) (nc : Nat → Nat) (lim : Nat) (K : am_K) (i : am_I) (pc : Nat) (L : am_L) (st : List Value) (g : am_W) : Option am_R :=
  match i.1 with
  | .new _ => am_if (am_wf L st g && Nat.blt g.length lim && Nat.ble (am_dv i.2.1).length 2000) (K (pc + 3) L (.ref g.length :: st) (g ++ [.inr (i.2.1, am_dv i.2.1)])) none
  | .newarray ty => (match st with
    | .int n :: r => am_if (am_wf L r g && Nat.blt g.length lim && Nat.ble n.toNatClampNeg 2000) (if n < 0 then none else (match ty with
      | .int => K (pc + 2) L (.ref g.length :: r) (g ++ [.inl (0, n.toNatClampNeg, .inl (fun _ => 0))])
      | .boolean => K (pc + 2) L (.ref g.length :: r) (g ++ [.inl (1, n.toNatClampNeg, .inl (fun _ => 0))])
      | _ => none)) none
    | _ => none)
  | .anewarray _ => (match st with
    | .int n :: r => am_if (am_wf L r g && Nat.blt g.length lim && Nat.ble n.toNatClampNeg 2000 && (Nat.blt 1 i.2.1 && Nat.blt i.2.1 6)) (if n < 0 then none else K (pc + 3) L (.ref g.length :: r) (g ++ [.inl (i.2.1, n.toNatClampNeg, .inr (fun _ => none))])) none
    | _ => none)
  | .invokespecial _ => am_if (Nat.beq i.2.1 990) (match st with
      | .ref _ :: r => am_if (Nat.ble (r.map (fun v => v.category)).sum 8) (K (pc + 3) L r g) none
      | _ => none)
      (am_if (am_wf L (st.drop i.2.2.1) g && Nat.ble i.2.2.1 st.length && Nat.ble ((st.drop i.2.2.1).map (fun v => v.category)).sum 8 && Nat.ble (g.length + nc i.2.1) lim) ((G i.2.1 (st.take i.2.2.1).reverse g).bind (fun g' => am_if (Nat.beq g'.length (g.length + nc i.2.1)) (K (pc + 3) L (st.drop i.2.2.1) g') none)) none)
  | .putfield _ => am_if (Nat.beq i.2.2.2.1 5) (match st with
      | .int x :: .ref p :: r => (am_sF g p i.2.1 i.2.2.1 (.int x)).bind (fun g' => K (pc + 3) L r g')
      | _ => none)
      (am_if (Nat.beq i.2.2.2.1 6) (match st with
      | .ref x :: .ref p :: r => (am_sF g p i.2.1 i.2.2.1 (.ref x)).bind (fun g' => K (pc + 3) L r g')
      | _ => none) (am_ex false F K i pc L st g))
  | .aastore => (match st with
    | .ref v :: .int x :: .ref p :: r => (am_sR g p x v).bind (fun g' => K (pc + 1) L r g')
    | _ => none)
  | .return_ => (match st with
    | [] => am_if (Nat.beq g.length lim) (some (none, g)) none
    | _ => none)
  | _ => am_ex false F K i pc L st g
def am_rn2 (F : am_F) (G : Nat → List Value → am_W → Option am_W) (nc : Nat → Nat) (lim : Nat) (cd : Nat → Option am_I) : Nat → am_K
  | 0, _, _, _, _ => none
  | n + 1, pc, L, st, g => match cd pc with
    | some i => am_ex2 F G nc lim (am_rn2 F G nc lim cd n) i pc L st g
    | none => none
def am_isR : List Value → Bool
  | .ref _ :: _ => true
  | _ => false
/-- a constructor, by number: what the world is behind it -/
def am_new (mt nt : Nat → Option am_M) (nc : Nat → Nat) : Nat → Nat → List Value → am_W → Option am_W
  | 0, _, _, _ => none
  | d + 1, j, as, g => match nt j with
    | some M => am_if (as.all (fun v => v.category == 1) && Nat.ble as.length M.2.2.1 && am_isR as)
        (am_cV (am_rn2 (am_ev mt 4) (am_new mt nt nc d) nc (g.length + nc j) M.2.2.2.2.2 3000 0 (as.map some ++ List.replicate (M.2.2.1 - as.length) none) [] g)) none
    | none => none
end
section
/-! ===== the machine does what the makers do ===== -/
theorem am_v_ext {ρ ρ' : Nat → Nat} {n : Nat} (h : ∀ k, k < n → ρ' k = ρ k) {v : Value} (hv : am_wv n v = true) : am_v ρ' v = am_v ρ v := by
  cases v with
  | ref k =>
    have hk : k < n := Nat.le_of_ble_eq_true hv
    show Value.ref (ρ' k) = Value.ref (ρ k)
    rw [h k hk]
  | _ => rfl
theorem am_st_ext {ρ ρ' : Nat → Nat} {n : Nat} (h : ∀ k, k < n → ρ' k = ρ k) {st : List Value} (hv : st.all (am_wv n) = true) : st.map (am_v ρ') = st.map (am_v ρ) :=
  List.map_congr_left (fun v hm => am_v_ext h (List.all_eq_true.mp hv v hm))
theorem am_e_ext {ρ ρ' : Nat → Nat} {cA : Nat → ClassId} {n : Nat} (h : ∀ k, k < n → ρ' k = ρ k) {e : am_C} (he : am_we n e = true) : am_e ρ' cA e = am_e ρ cA e := by
  rcases e with ⟨t, m, f | f⟩ | ⟨ci, fs⟩
  · rfl
  · skip
    have : (fun j => if j < m then (f j).map ρ' else none) = (fun j => if j < m then (f j).map ρ else none) := by
      funext j
      by_cases hj : j < m
      · rw [if_pos hj, if_pos hj]
        have h1 := List.all_eq_true.mp he j (List.mem_range.mpr hj)
        cases hf : f j with
        | none => rfl
        | some k =>
          rw [hf] at h1
          have hk : k < n := Nat.le_of_ble_eq_true h1
          show some (ρ' k) = some (ρ k)
          rw [h k hk]
      · rw [if_neg hj, if_neg hj]
    show (.inl (cA t, m, .inr (.inr (.inr (.inr (fun j => if j < m then (f j).map ρ' else none))))) : va_E) = .inl (cA t, m, .inr (.inr (.inr (.inr (fun j => if j < m then (f j).map ρ else none)))))
    rw [this]
  · show (.inr (ci, fs.map (am_v ρ')) : va_E) = .inr (ci, fs.map (am_v ρ))
    rw [am_st_ext h he]
theorem am_lay_push (ρ : Nat → Nat) (cA : Nat → ClassId) (g : am_W) (e : am_C) : am_lay ρ cA (g ++ [e]) = am_lay ρ cA g ++ [(ρ g.length, am_e ρ cA e)] := by
  unfold am_lay
  rw [List.mapIdx_concat]
theorem am_lay_ext {ρ ρ' : Nat → Nat} {cA : Nat → ClassId} {g : am_W} (h : ∀ k, k < g.length → ρ' k = ρ k) (hg : g.all (am_we g.length) = true) : am_lay ρ' cA g = am_lay ρ cA g := by
  apply List.ext_getElem?
  intro k
  rw [am_lay_get, am_lay_get]
  cases he : g[k]? with
  | none => rfl
  | some e =>
    have hk := (List.getElem?_eq_some_iff.mp he).1
    show some (ρ' k, am_e ρ' cA e) = some (ρ k, am_e ρ cA e)
    rw [h k hk, am_e_ext h (List.all_eq_true.mp hg e (List.mem_of_getElem? he))]
theorem am_lh_ext {ρ ρ' : Nat → Nat} {n : Nat} (h : ∀ k, k < n → ρ' k = ρ k) {ls : Array Slot} {nL : Nat} {L : am_L} (hL : L.all (am_wo n) = true) (hl : am_lh ρ ls nL L) : am_lh ρ' ls nL L := by
  refine ⟨hl.1, hl.2.1, hl.2.2.1, fun i v hi => ?_⟩
  have hw : am_wv n v = true := List.all_eq_true.mp hL _ (List.mem_of_getElem? hi)
  rw [am_v_ext h hw]
  exact hl.2.2.2 i v hi
def am_A0 (ρ : Nat → Nat) (n sz : Nat) : Nat → Prop := fun q => am_A ρ n q ∨ sz ≤ q
def am_ao (U : State) : Prop := va_AO RX2 U ∧ va_AO RX8 U ∧ va_AO RX3 U ∧ va_AO RX7 U
theorem am_ao.moved {u U : State} (hvm : u.vm.Alike U.vm) (h : am_ao u) : am_ao U := ⟨va_AO.moved hvm h.1, va_AO.moved hvm h.2.1, va_AO.moved hvm h.2.2.1, va_AO.moved hvm h.2.2.2⟩
def am_Pc2 (ρ : Nat → Nat) (cA : Nat → ClassId) (D : va_G) (as : List Value) (g : am_W) (sz : Nat) : Array Value → State → Prop := va_Pc (as.map (am_v ρ)) (fun U => U.heap.size = sz ∧ va_P D am_cl (am_lay ρ cA g) U.heap ∧ va_K D am_cl (am_ty cA) U ∧ am_nw U ∧ am_ao U)
def am_ext (ρ ρ' : Nat → Nat) (n n' sz : Nat) : Prop := (∀ k, k < n → ρ' k = ρ k) ∧ am_inj ρ' n' ∧ ∀ k, n ≤ k → k < n' → sz ≤ ρ' k
def am_Q2 (ρ : Nat → Nat) (cA : Nat → ClassId) (D : va_G) (n sz : Nat) (g' : am_W) : Array Value → State → Outcome → State → Prop := fun _ st oc t => oc = .returned none ∧ (∃ ρ', am_ext ρ ρ' n g'.length sz ∧ va_P D am_cl (am_lay ρ' cA g') t.heap) ∧ va_F (am_A0 ρ n sz) st t
def am_rm2 (d k : Nat) : Room := { frames := d + 8, cells := k, slots := 2000 * k, locals := 64 * (d + 8) }
def am_met2 (l : Launch) (mt nt : Nat → Option am_M) (nc : Nat → Nat) (d : Nat) : Prop := ∀ (j : Nat) (as : List Value) (g g' : am_W) (M : am_M), nt j = some M → am_new mt nt nc d j as g = some g' → ∀ (ρ : Nat → Nat) (cA : Nat → ClassId) (D : va_G) (sz : Nat), am_inj ρ g.length → Met l M.1 (am_ws M) (am_rm2 d (nc j)) (am_Pc2 ρ cA D as g sz) (am_Q2 ρ cA D g.length sz g') (nc j) (2000 * nc j) (am_A0 ρ g.length sz)
theorem am_blind2 (ρ : Nat → Nat) (cA : Nat → ClassId) (D : va_G) (as : List Value) (g : am_W) (sz : Nat) : FrameBlind (am_Pc2 ρ cA D as g sz) := by
  intro a U fr mk q
  obtain ⟨q0, q4, q1, q2, q3, q5⟩ := q
  exact ⟨q0, q4, q1, va_K.moved (u := U) (U := U.calling fr mk a) (Vm.Alike.refl U.vm) q2, am_nw.same (s := U) (U := U.calling fr mk a) rfl q3, am_ao.moved (u := U) (U := U.calling fr mk a) (Vm.Alike.refl U.vm) q5⟩
/-! what the tables say of makers -/
def am_pchk2 (own : String) (i : am_I) : Bool := match am_cl[i.2.1]? with
  | some (_, T, _) => (T i.2.2.1).2.2.2 && decide ((T i.2.2.1).1 = own) && (match i.2.2.2.1 with
    | 5 => decide (parseFieldDescriptor (T i.2.2.1).2.2.1 = some .int)
    | _ => (match parseFieldDescriptor (T i.2.2.1).2.2.1 with
      | some (.object _) => true
      | some (.array _) => true
      | _ => false))
  | none => false
def am_fchk2 (own : String) (k : Nat) (i : am_I) : Bool := match am_cl[i.2.1]? with
  | some (_, T, N) => decide (i.2.2.1 < N) && am_in (am_hint i) (.fieldLink own k (T i.2.2.1).1 (T i.2.2.1).2.1 (T i.2.2.1).2.2.1)
  | none => false
def am_chk2 (own : String) (mt nt : Nat → Option am_M) (pc : Nat) (i : am_I) : Bool := match i.1 with
  | .new k => (match am_cl[i.2.1]? with
    | some (C, _, N) => am_in (am_hint i) (.classLink own k C) && am_in i.2.2.1 (.instantiable C N) && am_in i.2.2.2.1 (.initialized C)
    | none => false)
  | .newarray ty => am_in (am_hint i) (.arrayClass (newarray.typeOf ty))
  | .anewarray k => (match am_cl[am_el i.2.1]? with
    | some (C, _, _) => am_in (am_hint i) (.classLink own k C)
    | none => false)
  | .invokespecial k => if i.2.1 = 990 then am_in (am_hint i) (.methodLink own k objectInit) else (match nt i.2.1 with
    | some N => (am_in (am_hint i) (.methodLink own k N.1) || am_in (am_hint i) (.methodLinkNest own k N.1 "WrittenColumns")) && decide ((am_npar N.1).map (· + 1) = some i.2.2.1)
    | none => false)
  | .putfield k => if i.2.2.2.1 = 5 ∨ i.2.2.2.1 = 6 then am_fchk2 own k i && am_pchk2 own i else am_chk own mt pc i
  | .aastore => true
  | .return_ => true
  | _ => am_chk own mt pc i
def am_nth (mt nt : Nat → Option am_M) (M : am_M) (h : Nat × Nat × Nat) (tb : List (Nat × am_I)) : Bool :=
  plainName M.1.cls && am_in h.1 (.code M.1 M.2.1 M.2.2.1 M.2.2.2.1) && am_in h.2.1 (.initialized M.1.cls) && decide (M.1.cls ≠ "java/lang/invoke/MethodHandle") && decide (M.1.cls ≠ "java/lang/invoke/VarHandle") && Nat.ble M.2.2.1 30
  && decide (M.2.2.2.1 = none) && decide (M.1.name = "<init>") && am_in h.2.2 (.instanceMethod M.1)
  && tb.all (fun q => am_chkD M.2.1 q.1 q.2.1 && am_rchk M.2.2.2.1 q.2.1 && am_chk2 M.1.cls mt nt q.1 q.2)
def am_nok (mt nt : Nat → Option am_M) (M : am_M) : Prop := ∃ (h : Nat × Nat × Nat) (tb : List (Nat × am_I)), am_nth mt nt M h tb = true ∧ ∀ (pc : Nat) (i : am_I), M.2.2.2.2.2 pc = some i → (pc, i) ∈ tb
def am_nfacts (M : am_M) : Prop := plainName M.1.cls = true ∧ Jvm.Cond.code M.1 M.2.1 M.2.2.1 M.2.2.2.1 ∈ lw_tbl ∧ Jvm.Cond.initialized M.1.cls ∈ lw_tbl ∧ (M.1.cls ≠ "java/lang/invoke/MethodHandle" ∧ M.1.cls ≠ "java/lang/invoke/VarHandle") ∧ M.2.2.1 ≤ 30 ∧ M.2.2.2.1 = none ∧ M.1.name = "<init>" ∧ Jvm.Cond.instanceMethod M.1 ∈ lw_tbl
theorem am_nok_facts {mt nt : Nat → Option am_M} {M : am_M} (h : am_nok mt nt M) : am_nfacts M ∧ ∀ (pc : Nat) (i : am_I), M.2.2.2.2.2 pc = some i → (am_chkD M.2.1 pc i.1 = true ∧ am_rchk M.2.2.2.1 i.1 = true) ∧ am_chk2 M.1.cls mt nt pc i = true := by
  obtain ⟨hh, tb, h1, h2⟩ := h
  unfold am_nth at h1
  simp only [Bool.and_eq_true] at h1
  obtain ⟨⟨⟨⟨⟨⟨⟨⟨⟨a1, a2⟩, a3⟩, a4⟩, a5⟩, a6⟩, a7⟩, a8⟩, a9⟩, a10⟩ := h1
  refine ⟨⟨a1, am_in_mem a2, am_in_mem a3, ⟨of_decide_eq_true a4, of_decide_eq_true a5⟩, Nat.le_of_ble_eq_true a6, of_decide_eq_true a7, of_decide_eq_true a8, am_in_mem a9⟩, fun pc i hi => ?_⟩
  have q := List.all_eq_true.mp a10 _ (h2 pc i hi)
  simpa only [Bool.and_eq_true] using q
def am_sysP2 : Prop := Jvm.Cond.instanceMethod objectInit ∈ am_T ∧ Jvm.Cond.code objectInit ⟨#[0xb1]⟩ 1 none ∈ am_T
theorem am_sR_to {g g' : am_W} {p v : Nat} {i : Int32} (h : am_sR g p i v = some g') : ∃ t n f c fs, g[p]? = some (.inl (t, n, .inr f)) ∧ g[v]? = some (.inr (c, fs)) ∧ am_el t = c ∧ t < 6 ∧ vp_in i n ∧ g' = g.set p (.inl (t, n, .inr (va_up f i.toNatClampNeg (some v)))) := by
  unfold am_sR at h
  split at h
  · rename_i t n f c fs h1 h2
    obtain ⟨hc, h⟩ := am_if_some h
    simp only [Bool.and_eq_true] at hc
    split at h
    · cases h
    · rename_i hi
      cases h
      exact ⟨t, n, f, c, fs, h1, h2, Nat.eq_of_beq_eq_true hc.1, Nat.le_of_ble_eq_true hc.2, hi, rfl⟩
  · cases h
end
section
section AMN
variable {p : Program} {l : Launch} {e : Env} {R : Room} {s : State} {m : MethodId} {args : Array Value} {below : List Frame} {meth : Method} {c : Code}
variable {M : am_M} {ρ0 : Nat → Nat} {cA : Nat → ClassId} {D : va_G} {n0 : Nat} {mt nt : Nat → Option am_M} {nc : Nat → Nat} {Qr : am_R → State → Prop}
def am_good2 (p : Program) (l : Launch) (e : Env) (R : Room) (s : State) (m : MethodId) (args : Array Value) (below : List Frame) (meth : Method) (c : Code) (M : am_M) (ρ0 : Nat → Nat) (cA : Nat → ClassId) (D : va_G) (n0 lim : Nat) (Qr : am_R → State → Prop) (K : am_K) : Prop :=
  ∀ (pc : Nat) (L : am_L) (st : List Value) (g : am_W) (r : am_R), K pc L st g = some r → g.length ≤ lim → n0 ≤ g.length → ∀ (ρ : Nat → Nat), am_ext ρ0 ρ n0 g.length s.heap.size → ∀ (H : Heap) (locs : List Loc) (ls : Array Slot), va_P D am_cl (am_lay ρ cA g) H → va_S (am_A0 ρ0 n0 s.heap.size) s.heap H locs → am_lh ρ ls M.2.2.1 L → W p l e R s m args below meth c H locs (g.length - n0) (2000 * (g.length - n0)) (Qr r) (F0 m pc ls (st.map (am_v ρ)))
theorem am_A_A0 {ρ : Nat → Nat} {n sz : Nat} (hx : am_ext ρ0 ρ n0 n sz) : ∀ q, am_A ρ n q → am_A0 ρ0 n0 sz q := by
  intro q ⟨k, hk, hq⟩
  by_cases h : k < n0
  · exact Or.inl ⟨k, h, by rw [hq, hx.1 k h]⟩
  · exact Or.inr (by rw [hq]; exact hx.2.2 k (Nat.le_of_not_lt h) hk)
/-- a new cell goes on -/
theorem am_born {lim : Nat} {K : am_K} (hK : am_good2 p l e R s m args below meth c M ρ0 cA D n0 lim Qr K) {pc N q : Nat} {L : am_L} {st : List Value} {g : am_W} {r : am_R} {ce : am_C} {ew : va_E} (h : K pc L (.ref g.length :: st) (g ++ [ce]) = some r) (hw : am_wf L st g = true) (hlt : g.length < lim) (hn0 : n0 ≤ g.length) {ρ : Nat → Nat} (hx : am_ext ρ0 ρ n0 g.length s.heap.size) (he : ∀ ρ', am_e ρ' cA ce = ew) (hN : N ≤ 2000)
    {H1 : Heap} {locs : List Loc} {ls : Array Slot} (a1 : va_P D am_cl (am_lay ρ cA g ++ [(q, ew)]) H1) (a2 : va_D (am_A0 ρ0 n0 s.heap.size) (am_lay ρ cA g ++ [(q, ew)])) (a3 : va_S (am_A0 ρ0 n0 s.heap.size) s.heap H1 locs) (hl : am_lh ρ ls M.2.2.1 L) :
    W p l e R s m args below meth c H1 locs (g.length - n0 + 1) (2000 * (g.length - n0) + N) (Qr r) (F0 m pc ls (.ref q :: st.map (am_v ρ))) := by
  unfold am_wf at hw
  simp only [Bool.and_eq_true] at hw
  obtain ⟨⟨w1, w2⟩, w3⟩ := hw
  have hlen : (am_lay ρ cA g).length = g.length := by unfold am_lay; exact List.length_mapIdx
  have hlast : (am_lay ρ cA g ++ [(q, ew)])[g.length]? = some (q, ew) := by rw [List.getElem?_append_right (by rw [hlen]; exact Nat.le_refl _), hlen]; simp
  have hne : ∀ k, k < g.length → ρ k ≠ q := by
    intro k hk hq
    have hat : (am_lay ρ cA g ++ [(q, ew)])[k]? = some (ρ k, am_e ρ cA (g[k])) := by
      rw [List.getElem?_append_left (by rw [hlen]; exact hk)]
      exact am_lay_at (List.getElem?_eq_getElem hk)
    have := a2.1 k g.length _ _ hat hlast hq
    omega
  have hq : s.heap.size ≤ q := by
    rcases a2.2 _ _ hlast with ⟨k, hk, hkq⟩ | hq
    · exact absurd (by rw [hx.1 k hk]; exact hkq.symm) (hne k (Nat.lt_of_lt_of_le hk hn0))
    · exact hq
  have hρ : ∀ k, k < g.length → (fun k => if k = g.length then q else ρ k) k = ρ k := fun k hk => if_neg (Nat.ne_of_lt hk)
  have hx' : am_ext ρ0 (fun k => if k = g.length then q else ρ k) n0 (g ++ [ce]).length s.heap.size := by
    refine ⟨fun k hk => ?_, fun i j hi hj hij => ?_, fun k h1 h2 => ?_⟩
    · rw [hρ k (Nat.lt_of_lt_of_le hk hn0)]
      exact hx.1 k hk
    · rw [List.length_append] at hi hj
      simp only [List.length_cons, List.length_nil] at hi hj
      dsimp only at hij
      by_cases e1 : i = g.length
      · by_cases e2 : j = g.length
        · omega
        · rw [if_pos e1, if_neg e2] at hij
          exact absurd hij.symm (hne j (by omega))
      · by_cases e2 : j = g.length
        · rw [if_neg e1, if_pos e2] at hij
          exact absurd hij (hne i (by omega))
        · rw [if_neg e1, if_neg e2] at hij
          exact hx.2.1 i j (by omega) (by omega) hij
    · rw [List.length_append] at h2
      simp only [List.length_cons, List.length_nil] at h2
      dsimp only
      by_cases e1 : k = g.length
      · rw [if_pos e1]; exact hq
      · rw [if_neg e1]; exact hx.2.2 k h1 (by omega)
  have hP' : va_P D am_cl (am_lay (fun k => if k = g.length then q else ρ k) cA (g ++ [ce])) H1 := by
    rw [am_lay_push, am_lay_ext hρ w3, he, if_pos rfl]
    exact a1
  have hW := hK pc L (.ref g.length :: st) (g ++ [ce]) r h (by rw [List.length_append]; simp only [List.length_cons, List.length_nil]; omega) (by rw [List.length_append]; omega) _ hx' H1 locs ls hP' a3 (am_lh_ext hρ w1 hl)
  rw [List.length_append, show g.length + [ce].length - n0 = g.length - n0 + 1 by simp only [List.length_cons, List.length_nil]; omega] at hW
  rw [List.map_cons, am_st_ext hρ w2] at hW
  have e2 : am_v (fun k => if k = g.length then q else ρ k) (.ref g.length) = .ref q := by
    show Value.ref (if g.length = g.length then q else ρ g.length) = .ref q
    rw [if_pos rfl]
  rw [e2] at hW
  exact W.widen (Nat.le_refl _) (by omega) hW
theorem am_dv_len {a : Nat} {q : vw_C} (h : am_cl[a]? = some q) : (am_dv a).length = q.2.2 := by
  obtain ⟨C, T, N⟩ := q
  unfold am_dv
  rw [h]
  simp
theorem am_dv_at {a : Nat} {q : vw_C} (h : am_cl[a]? = some q) {ty0 : Nat → FieldType} (hty : ∀ k, k < q.2.2 → parseFieldDescriptor (q.2.1 k).2.2.1 = some (ty0 k)) (ρ : Nat → Nat) : ∀ j, j < q.2.2 → defaultValue (ty0 j) = vp_V ((am_dv a).map (am_v ρ)) j := by
  obtain ⟨C, T, N⟩ := q
  intro j hj
  have hty' := hty j hj
  unfold am_dv vp_V
  rw [h]
  dsimp only at hty' hj ⊢
  rw [List.getD_eq_getElem?_getD, List.getElem?_map, List.getElem?_map, List.getElem?_range hj]
  simp only [Option.map_some, Option.getD_some]
  rw [hty']
  cases ty0 j <;> rfl
theorem am_goW2 {cells slots mc ms pc n : Nat} {A : Nat → Prop} {Q : State → Prop} {ρ : Nat → Nat} {H : Heap} {locs : List Loc} {ls : Array Slot} {st0 rest : List Value} {g' : am_W} {a : Array Value} (hr : va_Run p l e R s m args below meth c H locs cells slots mc ms (F0 m pc ls st0) rest (am_Q2 ρ cA D n H.size g' a) (am_A0 ρ n H.size)) (hA : ∀ q, am_A0 ρ n H.size q → A q) (hS : va_S A s.heap H locs)
    (kk : ∀ (ρ' : Nat → Nat) (H1 : Heap) (locs1 : List Loc), am_ext ρ ρ' n g'.length H.size → va_P D am_cl (am_lay ρ' cA g') H1 → va_S A s.heap H1 locs1 → W p l e R s m args below meth c H1 locs1 (cells + mc) (slots + ms) Q (F0 m (pc + 3) ls rest)) : W p l e R s m args below meth c H locs cells slots Q (F0 m pc ls st0) := by
  intro T hT X
  obtain ⟨v, st₀, t, T', L, h0, X', hL, e1, e2, ⟨hv, ⟨ρ', hx', hp⟩, hz, hk⟩, st⟩ := hr T hT X
  cases hv
  rw [h0] at hz hk
  obtain ⟨t2, a1, b1⟩ := kk ρ' T'.heap (locs ++ L) hx' (by rw [e1]; exact hp)
    ⟨Nat.le_trans hS.1 (by rw [e1]; exact hz), fun q h1 h2 => by rw [e1, hk q (Nat.lt_of_lt_of_le h1 hS.1) (fun z => h2 (hA q z))]; exact hS.2.1 q h1 h2, fun q hq => by
      rcases List.mem_append.mp hq with h | h
      · exact hS.2.2 q h
      · exact hA _ (hL q h)⟩ T' rfl X'
  exact ⟨t2, st t2 a1, b1⟩
def am_cx2 (p : Program) (s : State) (m : MethodId) (args : Array Value) (meth : Method) (c : Code) (M : am_M) (cA : Nat → ClassId) (D : va_G) : Prop :=
  p.tables.exec = Jvm.exec ∧ c.code = M.2.1 ∧ c.maxLocals = M.2.2.1 ∧ s.vm.findClass M.1.cls = some m.cls ∧ (∀ w ∈ am_ws M, w.before args s = true) ∧ va_K D am_cl (am_ty cA) s ∧ am_nw s ∧ meth.locks = false ∧ meth.sig.returnType = M.2.2.2.1 ∧ am_ao s ∧ meth.name = "<init>" ∧ M.2.2.2.1 = none
theorem am_tyA {cA : Nat → ClassId} {U : State} (hK : va_K D am_cl (am_ty cA) U) {t : Nat} {ty : FieldType} (ht : (am_ty cA)[t]? = some (cA t, ty)) {cB : ClassId} (hK2 : va_K D am_cl (am_ty cA ++ [(cB, ty)]) U) : cB = cA t := by
  have h1 := (hK.2 t _ ht).2
  have h2 := (hK2.2 (am_ty cA).length (cB, ty) (by rw [List.getElem?_append_right (Nat.le_refl _)]; simp)).2
  cases ty with
  | object C =>
    obtain ⟨_, _, -, -, -, q1⟩ := h1
    obtain ⟨_, _, -, -, -, q2⟩ := h2
    exact Option.some.inj (q2.symm.trans q1)
  | _ => exact Option.some.inj (h2.symm.trans h1)
theorem am_elty {cA : Nat → ClassId} {t : Nat} {q : vw_C} (ht : t < 6) (hc : am_cl[am_el t]? = some q) : (am_ty cA)[t]? = some (cA t, .object q.1) := by
  rcases (show t = 0 ∨ t = 1 ∨ t = 2 ∨ t = 3 ∨ t = 4 ∨ t = 5 by omega) with rfl | rfl | rfl | rfl | rfl | rfl
  · cases hc
  · cases hc
  · cases hc; rfl
  · cases hc; rfl
  · cases hc; rfl
  · cases hc; rfl
theorem am_aoC {U : State} (h : am_ao U) {t : Nat} {q : vw_C} (ht : t < 6) (hc : am_cl[am_el t]? = some q) : va_AO q.1 U := by
  rcases (show t = 0 ∨ t = 1 ∨ t = 2 ∨ t = 3 ∨ t = 4 ∨ t = 5 by omega) with rfl | rfl | rfl | rfl | rfl | rfl
  · cases hc
  · cases hc
  · cases hc; exact h.1
  · cases hc; exact h.2.1
  · cases hc; exact h.2.2.1
  · cases hc; exact h.2.2.2
theorem am_putFW {pc cells slots : Nat} {A : Nat → Prop} {Q : State → Prop} {ρ : Nat → Nat} {g : am_W} {H : Heap} {locs : List Loc} {ls : Array Slot} {rest : List Value} (X : am_cx p s m args meth c M ρ cA D g.length) (hname : meth.name = "<init>") (hP : va_P D am_cl (am_lay ρ cA g) H) (hA : ∀ q, am_A ρ g.length q → A q) (hS : va_S A s.heap H locs) {q ci k kd idx : Nat} {tl : List (Int × Nat)} {fs : List Value} {v : Value} {ty : FieldType} {ins : Instr} (he : g[q]? = some (.inr (ci, fs))) (hl : k < fs.length) (hc : (am_fchk2 M.1.cls idx (ins, ci, k, kd, tl) && am_pchk2 M.1.cls (ins, ci, k, kd, tl)) = true)
    (hfin : ∀ C T N, am_cl[ci]? = some (C, T, N) → (T k).2.2.2 = true ∧ (T k).1 = M.1.cls ∧ parseFieldDescriptor (T k).2.2.1 = some ty) (hn : narrow ty (am_v ρ v) = am_v ρ v) (hfit : fits ty (am_v ρ v) = true) (hd : decode M.2.1 pc = .ok (.putfield idx, 3))
    (kk : ∀ (H1 : Heap) (locs1 : List Loc), va_P D am_cl (am_lay ρ cA (g.set q (.inr (ci, fs.set k v)))) H1 → va_S A s.heap H1 locs1 → W p l e R s m args below meth c H1 locs1 cells slots Q (F0 m (pc + 3) ls rest)) : W p l e R s m args below meth c H locs cells slots Q (F0 m pc ls (am_v ρ v :: .ref (ρ q) :: rest)) := by
  obtain ⟨hx, hb, -, hown, hts, hK, hN, -, -, hρ⟩ := X
  have he' : (am_lay ρ cA g)[q]? = some (ρ q, .inr (ci, fs.map (am_v ρ))) := am_lay_at he
  have hD := (am_lay_D (cA := cA) hρ rfl).weaken (fun _ _ _ h => hA _ h)
  have hl' : k < (fs.map (am_v ρ)).length := by rw [List.length_map]; exact hl
  have e1 : (am_lay ρ cA g).set q (ρ q, .inr (ci, (fs.map (am_v ρ)).set k (am_v ρ v))) = am_lay ρ cA (g.set q (.inr (ci, fs.set k v))) := by
    rw [← am_lay_set]
    show _ = (am_lay ρ cA g).set q (ρ q, .inr (ci, (fs.set k v).map (am_v ρ)))
    rw [List.map_set]
  simp only [Bool.and_eq_true] at hc
  have hc1 := hc.1
  unfold am_fchk2 at hc1
  dsimp only at hc1
  split at hc1
  · rename_i C T N hcl
    obtain ⟨hf, hdc, hp⟩ := hfin C T N hcl
    obtain ⟨ty0, hty, hnm⟩ := (am_cl_ok hcl).2
    simp only [Bool.and_eq_true, decide_eq_true_eq] at hc1
    exact va_putF hx hb hts (am_cl_in hcl M) ty0 hty hnm hown hK hP hD hS q he' hcl k hc1.1 (hts _ (List.mem_cons_of_mem _ (am_in_T hc1.2 rfl))) (fun _ h => h) hf hname hdc hp hn hfit hl' hd (fun H1 locs1 a1 _ a3 => kk H1 locs1 (e1 ▸ a1) a3)
  · cases hc1
set_option maxHeartbeats 16000000 in
theorem am_sim_ex2 (X2 : am_cx2 p s m args meth c M cA D) {d lim mc : Nat} (hR : R = am_rm2 (d + 1) mc) (hlim : lim = n0 + mc) (hm : am_met l mt 4) (hm2 : am_met2 l mt nt nc d) (hmt : ∀ j N, mt j = some N → am_mfacts N) (hnt : ∀ j N, nt j = some N → am_nfacts N) {K : am_K} (hK : am_good2 p l e R s m args below meth c M ρ0 cA D n0 lim Qr K)
    {pc : Nat} {L : am_L} {st : List Value} {g : am_W} {r : am_R} {i : am_I} (h : am_ex2 (am_ev mt 4) (am_new mt nt nc d) nc lim K i pc L st g = some r) (hck0 : am_chkD M.2.1 pc i.1 = true) (hrc : am_rchk M.2.2.2.1 i.1 = true) (hck : am_chk2 M.1.cls mt nt pc i = true) (hsys : am_sysP) (hsys2 : am_sysP2)
    (hEnd : ∀ (pc : Nat) (g : am_W) (ρ : Nat → Nat), g.length = lim → am_ext ρ0 ρ n0 g.length s.heap.size → ∀ (H : Heap) (locs : List Loc) (ls : Array Slot), va_P D am_cl (am_lay ρ cA g) H → va_S (am_A0 ρ0 n0 s.heap.size) s.heap H locs → decode M.2.1 pc = .ok (.return_, 1) → W p l e R s m args below meth c H locs mc (2000 * mc) (Qr (none, g)) (F0 m pc ls []))
    (hn0 : n0 ≤ g.length) {ρ : Nat → Nat} (hxt : am_ext ρ0 ρ n0 g.length s.heap.size) {H : Heap} {locs : List Loc} {ls : Array Slot} (hP : va_P D am_cl (am_lay ρ cA g) H) (hS : va_S (am_A0 ρ0 n0 s.heap.size) s.heap H locs) (hl : am_lh ρ ls M.2.2.1 L) (hle : g.length ≤ lim) : W p l e R s m args below meth c H locs (g.length - n0) (2000 * (g.length - n0)) (Qr r) (F0 m pc ls (st.map (am_v ρ))) := by
  have hD0 : ∃ ln, decode M.2.1 pc = .ok (i.1, ln) ∧ (am_sww i.1 = false → ln = am_len i.1) := by
    unfold am_chkD at hck0
    split at hck0
    · rename_i jj ln hdec
      simp only [Bool.and_eq_true, Bool.or_eq_true, decide_eq_true_eq] at hck0
      refine ⟨ln, by rw [hdec, hck0.1], fun hs => ?_⟩
      rcases hck0.2 with q | q
      · rw [q] at hs; cases hs
      · exact q
    · cases hck0
  have hd : am_sww i.1 = false → decode M.2.1 pc = .ok (i.1, am_len i.1) := fun hs => by
    obtain ⟨ln, q1, q2⟩ := hD0
    rw [q1, q2 hs]
  have X20 := X2
  obtain ⟨hx, hb, hml, hown, hts, hKK, hNw, hlk, hr, hAo, hname, hret⟩ := X2
  have X0 : am_cx p s m args meth c M ρ cA D g.length := ⟨hx, hb, hml, hown, hts, hKK, hNw, hlk, hr, hxt.2.1⟩
  have hAA := am_A_A0 hxt
  have hDD := (am_lay_D (cA := cA) hxt.2.1 rfl).weaken (fun _ _ _ h => hAA _ h)
  have hAh : ∀ q, s.heap.size ≤ q → am_A0 ρ0 n0 s.heap.size q := fun q h => Or.inr h
  have hw : ∀ w ∈ am_T, w.before args s = true := fun w hw => hts w (List.mem_cons_of_mem _ hw)
  have hcl0 : g.length - n0 ≤ R.cells ∧ 2000 * (g.length - n0) ≤ R.slots := by
    subst hR
    refine ⟨?_, ?_⟩
    · show _ ≤ mc; omega
    · show _ ≤ 2000 * mc; omega
  have hgood : am_good p l e R s m args below meth c M ρ cA D g.length (am_A0 ρ0 n0 s.heap.size) (g.length - n0) (2000 * (g.length - n0)) Qr K := by
    intro pc' L' st' g1 r' hk hg1 H1 locs1 ls1 b1 b2 b3
    have := hK pc' L' st' g1 r' hk (by rw [hg1]; exact hle) (by rw [hg1]; exact hn0) ρ (by rw [hg1]; exact hxt) H1 locs1 ls1 b1 b2 b3
    rwa [hg1] at this
  have gow : ∀ {pc' : Nat} {st' : List Value} {g' : am_W} {H1 : Heap} {locs1 : List Loc}, K pc' L st' g' = some r → g'.length = g.length → va_P D am_cl (am_lay ρ cA g') H1 → va_S (am_A0 ρ0 n0 s.heap.size) s.heap H1 locs1 → W p l e R s m args below meth c H1 locs1 (g.length - n0) (2000 * (g.length - n0)) (Qr r) (F0 m pc' ls (st'.map (am_v ρ))) := fun h' hlen a1 a2 => hgood _ _ _ _ _ h' hlen _ _ _ a1 a2 hl
  have old : ∀ (h' : am_ex false (am_ev mt 4) K i pc L st g = some r) (hc' : am_chk M.1.cls mt pc i = true) (hn1 : i.1 ≠ .return_), W p l e R s m args below meth c H locs (g.length - n0) (2000 * (g.length - n0)) (Qr r) (F0 m pc ls (st.map (am_v ρ))) := by
    intro h' hc' hn1
    have h'' := am_ex_mo false i pc L st g _ (am_cal mt 4) K K (am_ev_cal mt 4) (fun _ _ _ _ _ q => q) r h'
    have hdd : (decide (M.2.2.2.1 = some .boolean)) = false := by rw [hret]; rfl
    rw [← hdd] at h''
    refine am_sim_ex X0 ⟨by subst hR; show 4 + 2 ≤ d + 1 + 8; omega, by subst hR; show 64 * (4 + 2) ≤ 64 * (d + 1 + 8); omega, hcl0.1, hcl0.2⟩ hAA hm hmt hgood h'' hck0 hrc hc' (Or.inl hret) hsys ?_ ?_ rfl hP hS hl
    · intro x g1 _ H1 locs1 ls1 _ _ hq _
      rcases hq with q | q
      · rw [hret] at q; cases q
      · rw [hret] at q; cases q.1
    · intro g1 _ H1 locs1 ls1 _ _ _ hdec
      obtain ⟨ln, q1, -⟩ := hD0
      rw [q1] at hdec
      have := (Prod.mk.inj (Except.ok.inj hdec)).1
      exact absurd this hn1
  obtain ⟨ins, a, b, kd, tl⟩ := i
  cases ins with
  | new k =>
    dsimp only [am_ex2] at h
    obtain ⟨hc, h⟩ := am_if_some h
    simp only [Bool.and_eq_true] at hc
    obtain ⟨⟨hc1, hc2⟩, hc3⟩ := hc
    have hlt : g.length < lim := Nat.le_of_ble_eq_true hc2
    simp only [am_chk2] at hck
    split at hck
    · rename_i C T N hcl
      simp only [Bool.and_eq_true] at hck
      obtain ⟨ty0, hty, hnm⟩ := (am_cl_ok hcl).2
      have hN : N ≤ 2000 := by
        have := Nat.le_of_ble_eq_true hc3
        rw [am_dv_len hcl] at this
        exact this
      refine va_new hx hb hts (am_cl_in hcl M) ty0 hty hown (hw _ (am_in_T hck.1.1 rfl)) (hw _ (am_in_T hck.1.2 rfl)) (hw _ (am_in_T hck.2 rfl)) hKK hP hDD hS hAh hcl (fs := (am_dv a).map (am_v ρ)) (am_dv_at hcl hty ρ) ?_ ?_ (hd rfl) (fun q H1 a1 a2 a3 => ?_)
      · subst hR; show _ ≤ mc; omega
      · subst hR; show 2000 * (g.length - n0) + N ≤ 2000 * mc; omega
      · have hmap : ∀ ρ' : Nat → Nat, (am_dv a).map (am_v ρ') = (am_dv a).map (am_v ρ) := by
          intro ρ'
          refine List.map_congr_left (fun v hv => ?_)
          unfold am_dv at hv
          rw [hcl] at hv
          obtain ⟨j, -, hj⟩ := List.mem_map.mp hv
          subst hj
          split
          · rename_i t _
            cases t <;> rfl
          · rfl
        exact am_born (ce := .inr (a, am_dv a)) hK h hc1 hlt hn0 hxt (fun ρ' => by show (.inr (a, (am_dv a).map (am_v ρ')) : va_E) = _; rw [hmap ρ']) hN a1 a2 a3 hl
    · cases hck
  | newarray ty =>
    dsimp only [am_ex2] at h
    split at h
    · rename_i nn r'
      obtain ⟨hc, h⟩ := am_if_some h
      simp only [Bool.and_eq_true] at hc
      obtain ⟨⟨hc1, hc2⟩, hc3⟩ := hc
      have hlt : g.length < lim := Nat.le_of_ble_eq_true hc2
      have hN := Nat.le_of_ble_eq_true hc3
      split at h
      · cases h
      · rename_i hneg
        split at h
        · refine va_newa (atype := .int) (a0 := (nn.toNatClampNeg, .inl (fun _ => 0))) hx hb (hw _ (am_in_T hck rfl)) rfl hKK hP hDD hS hAh (fun _ => rfl) hneg rfl (by show _ * 4 ≤ _; omega) ?_ ?_ (hd rfl) (fun q cB H1 k1 a1 a2 a3 => ?_)
          · subst hR; show _ ≤ mc; omega
          · subst hR; show _ ≤ 2000 * mc; omega
          · have hcB : cB = cA 0 := am_tyA hKK (t := 0) rfl k1
            subst hcB
            exact am_born (ce := .inl (0, nn.toNatClampNeg, .inl (fun _ => 0))) hK h hc1 hlt hn0 hxt (fun _ => rfl) hN a1 a2 a3 hl
        · refine va_newa (atype := .boolean) (a0 := (nn.toNatClampNeg, .inl (fun _ => 0))) hx hb (hw _ (am_in_T hck rfl)) rfl hKK hP hDD hS hAh (fun _ => rfl) hneg rfl (by show _ * 1 ≤ _; omega) ?_ ?_ (hd rfl) (fun q cB H1 k1 a1 a2 a3 => ?_)
          · subst hR; show _ ≤ mc; omega
          · subst hR; show _ ≤ 2000 * mc; omega
          · have hcB : cB = cA 1 := am_tyA hKK (t := 1) rfl k1
            subst hcB
            exact am_born (ce := .inl (1, nn.toNatClampNeg, .inl (fun _ => 0))) hK h hc1 hlt hn0 hxt (fun _ => rfl) hN a1 a2 a3 hl
        · cases h
    · cases h
  | anewarray k =>
    dsimp only [am_ex2] at h
    split at h
    · rename_i nn r'
      obtain ⟨hc, h⟩ := am_if_some h
      simp only [Bool.and_eq_true] at hc
      obtain ⟨⟨⟨hc1, hc2⟩, hc3⟩, hc4, hc5⟩ := hc
      have hlt : g.length < lim := Nat.le_of_ble_eq_true hc2
      have hN := Nat.le_of_ble_eq_true hc3
      have ht6 : a < 6 := Nat.le_of_ble_eq_true hc5
      split at h
      · cases h
      · rename_i hneg
        simp only [am_chk2] at hck
        split at hck
        · rename_i C T N hcl
          refine va_newq (C := C) hx hb hown (hw _ (am_in_T hck rfl)) (am_aoC hAo ht6 hcl) hKK hP hDD hS hAh hneg rfl (by omega) ?_ ?_ (hd rfl) (fun q cB H1 k1 a1 a2 a3 => ?_)
          · subst hR; show _ ≤ mc; omega
          · subst hR; show _ ≤ 2000 * mc; omega
          · have hcB : cB = cA a := am_tyA hKK (t := a) (am_elty ht6 hcl) k1
            subst hcB
            refine am_born (ce := .inl (a, nn.toNatClampNeg, .inr (fun _ => none))) hK h hc1 hlt hn0 hxt (fun _ => ?_) hN a1 a2 a3 hl
            show (.inl (cA a, nn.toNatClampNeg, .inr (.inr (.inr (.inr (fun j => if j < nn.toNatClampNeg then none else none))))) : va_E) = _
            congr
            funext j
            split <;> rfl
        · cases hck
    · cases h
  | invokespecial k =>
    dsimp only [am_ex2] at h
    simp only [am_chk2] at hck
    cases h9 : Nat.beq a 990 with
    | true =>
      rw [h9] at h
      rw [if_pos (Nat.eq_of_beq_eq_true h9)] at hck
      unfold am_if am_b3 am_b2 am_b1 am_b0 at h
      dsimp only at h
      split at h
      · rename_i q r'
        obtain ⟨hroom, h⟩ := am_if_some h
        have hsum := Nat.le_of_ble_eq_true hroom
        refine W.objInit hx hb hown (hw _ (am_in_T hck rfl)) (hw _ hsys2.1) (hw _ hsys2.2) rfl (by rw [hml]; exact hl.1) rfl (hd rfl) ?_ ?_ (gow h rfl hP hS)
        · subst hR; show 1 ≤ d + 1 + 8; omega
        · rw [am_v_cats]
          subst hR
          show 2 * 0 + _ + 12 ≤ 64 * (d + 1 + 8)
          omega
      · cases h
    | false =>
      rw [h9] at h
      rw [if_neg (Nat.ne_of_beq_eq_false h9)] at hck
      replace h := (show am_if _ _ none = some r from h)
      obtain ⟨hc, h⟩ := am_if_some h
      simp only [Bool.and_eq_true] at hc
      obtain ⟨⟨⟨w1, w2⟩, w3⟩, w4⟩ := hc
      have hk := Nat.le_of_ble_eq_true w2
      have hroom := Nat.le_of_ble_eq_true w3
      have hlm := Nat.le_of_ble_eq_true w4
      obtain ⟨g', hnew, h2⟩ := Option.bind_eq_some_iff.mp h
      obtain ⟨hlen', h2⟩ := am_if_some h2
      have hlg := Nat.eq_of_beq_eq_true hlen'
      split at hck
      · rename_i N hN
        simp only [Bool.and_eq_true, Bool.or_eq_true, decide_eq_true_eq] at hck
        obtain ⟨f1, f2, f3, f4, f5, f6, f7, f8⟩ := hnt a N hN
        have hmet := hm2 a _ g g' N hN hnew ρ cA D H.size hxt.2.1
        obtain ⟨y, bytes, maxL, ret, ci, cdd⟩ := N
        dsimp only at f1 f2 f3 f4 f5 f6 f7 f8 hck hmet
        subst f6
        cases d with
        | zero => cases hnew
        | succ d =>
        have hgT := am_good_T (y, bytes, maxL, none, ci, cdd) f2 M
        have hini : (Cond.initialized y.cls).before args s = true := hw _ (List.mem_filter.mpr ⟨f3, rfl⟩)
        have hinst : (Cond.instanceMethod y).before args s = true := hw _ (List.mem_filter.mpr ⟨f8, rfl⟩)
        have hstk : st.map (am_v ρ) = (((st.take b).reverse).map (am_v ρ)).reverse ++ (st.drop b).map (am_v ρ) := by
          rw [← List.map_reverse, List.reverse_reverse, ← List.map_append, List.take_append_drop]
        have hlenb : ((st.take b).reverse).length = b := by rw [List.length_reverse, List.length_take]; omega
        have hroom' : (((st.drop b).map (am_v ρ)).map fun v => v.category).sum ≤ 8 := by rw [am_v_cats]; exact hroom
        have hpre : ∀ U : State, U.heap = H → s.WarmedH U.vm → am_Pc2 ρ cA D (st.take b).reverse g H.size ((st.take b).reverse.map (am_v ρ)).toArray U := fun U hU hW => ⟨rfl, by rw [hU], by rw [hU]; exact hP, va_K.moved hW.alike hKK, am_nw.warm hW hNw, am_ao.moved hW.alike hAo⟩
        have hrm : (am_rm2 (d + 1) (nc a)).frames + 1 ≤ R.frames ∧ 8 + (maxL + 11) + (am_rm2 (d + 1) (nc a)).locals ≤ R.locals := by
          subst hR
          refine ⟨Nat.le_refl _, ?_⟩
          show 8 + (maxL + 11) + 64 * (d + 1 + 8) ≤ 64 * (d + 1 + 1 + 8)
          omega
        have hcs : g.length - n0 + nc a ≤ R.cells ∧ 2000 * (g.length - n0) + 2000 * nc a ≤ R.slots := by
          subst hR
          refine ⟨?_, ?_⟩
          · show _ ≤ mc; omega
          · show _ ≤ 2000 * mc; omega
        rw [hstk]
        -- the receiver is the first of what is taken
        cases hrev : (st.take b).reverse with
        | nil =>
          rw [hrev] at hlenb
          have hb0 : b = 0 := hlenb.symm
          have hq := hck.2
          rw [hb0] at hq
          cases hz : am_npar y with
          | none => rw [hz] at hq; cases hq
          | some z => rw [hz] at hq; cases hq
        | cons v0 as' =>
          rw [hrev] at hlenb hmet hpre hnew
          have hv0 : ∃ k0, v0 = .ref k0 := by
            unfold am_new at hnew
            rw [hN] at hnew
            obtain ⟨hgd, -⟩ := am_if_some hnew
            simp only [Bool.and_eq_true] at hgd
            have := hgd.2
            unfold am_isR at this
            split at this
            · rename_i heq
              cases heq
              exact ⟨_, rfl⟩
            · cases this
          obtain ⟨k0, rfl⟩ := hv0
          have hn' : am_npar y = some (as'.map (am_v ρ)).length := by
            rw [List.length_map]
            have hq := hck.2
            cases hz : am_npar y with
            | none => rw [hz] at hq; cases hq
            | some z =>
              rw [hz, ← hlenb] at hq
              have := Option.some.inj hq
              simp at this
              rw [this]
          have hstack : (List.map (am_v ρ) (Value.ref k0 :: as')).reverse ++ (st.drop b).map (am_v ρ) = (as'.map (am_v ρ)).reverse ++ Value.ref (ρ k0) :: (st.drop b).map (am_v ρ) := by
            simp [am_v]
          rw [hstack]
          have hAA2 : ∀ q, am_A0 ρ g.length H.size q → am_A0 ρ0 n0 s.heap.size q := by
            intro q hq
            rcases hq with hq | hq
            · exact hAA q hq
            · exact Or.inr (Nat.le_trans hS.1 hq)
          unfold am_wf at w1
          simp only [Bool.and_eq_true] at w1
          have hcont : ∀ (ρ' : Nat → Nat) (H1 : Heap) (locs1 : List Loc), am_ext ρ ρ' g.length g'.length H.size → va_P D am_cl (am_lay ρ' cA g') H1 → va_S (am_A0 ρ0 n0 s.heap.size) s.heap H1 locs1 → W p l e R s m args below meth c H1 locs1 (g.length - n0 + nc a) (2000 * (g.length - n0) + 2000 * nc a) (Qr r) (F0 m (pc + 3) ls ((st.drop b).map (am_v ρ))) := by
            intro ρ' H1 locs1 hx' hP' hS'
            have hx2 : am_ext ρ0 ρ' n0 g'.length s.heap.size := by
              refine ⟨fun k hk => by rw [hx'.1 k (Nat.lt_of_lt_of_le hk hn0)]; exact hxt.1 k hk, hx'.2.1, fun k h1 h3 => ?_⟩
              by_cases hkg : k < g.length
              · rw [hx'.1 k hkg]; exact hxt.2.2 k h1 hkg
              · exact Nat.le_trans hS.1 (hx'.2.2 k (Nat.le_of_not_lt hkg) h3)
            have hW := hK (pc + 3) L (st.drop b) g' r h2 (by omega) (by omega) ρ' hx2 H1 locs1 ls hP' hS' (am_lh_ext hx'.1 w1.1.1 hl)
            rw [am_st_ext hx'.1 w1.1.2, show g'.length - n0 = g.length - n0 + nc a by omega, Nat.mul_add] at hW
            exact hW
          rcases hck.1 with hlk2 | hlk2
          · have cb := callB_of (R := R) (s := s) (args := args) (Ts := am_ws M) (own := M.1.cls) (index := k) (y := y) (bytes := bytes) (maxL := maxL) (ret := none) (ws := am_ws (y, bytes, maxL, none, ci, cdd)) (ws' := am_T) (rm := am_rm2 (d + 1) (nc a)) (mc := nc a) (ms := 2000 * nc a) (as'.map (am_v ρ)).length hts hgT rfl rfl rfl hini (hw _ (am_in_T hlk2 rfl)) ⟨f4.1, f4.2, hn'⟩ hrm
            exact am_goW2 (va_runI ⟨hx, hb, hml, hown, hts⟩ hmet ⟨cb, f7, hinst⟩ ⟨am_blind2 ρ cA D _ g _, hpre⟩ rfl rfl hl.1 rfl (lv_room hroom') (hd rfl) hcs) hAA2 hS hcont
          · have cb := va_cnB (R := R) (s := s) (args := args) (Ts := am_ws M) (own := M.1.cls) (host := "WrittenColumns") (index := k) (y := y) (bytes := bytes) (maxL := maxL) (ret := none) (ws := am_ws (y, bytes, maxL, none, ci, cdd)) (ws' := am_T) (rm := am_rm2 (d + 1) (nc a)) (mc := nc a) (ms := 2000 * nc a) (as'.map (am_v ρ)).length hts hgT rfl rfl rfl (hNw _ (am_in_mem hlk2) rfl) hini ⟨f4.1, f4.2, hn'⟩ hrm
            exact am_goW2 (va_runIN ⟨hx, hb, hml, hown, hts⟩ hmet ⟨cb, f7, hinst⟩ ⟨am_blind2 ρ cA D _ g _, hpre⟩ rfl rfl hl.1 rfl (lv_room hroom') (hd rfl) hcs) hAA2 hS hcont
      · cases hck
  | putfield k =>
    dsimp only [am_ex2] at h
    simp only [am_chk2] at hck
    cases h5 : Nat.beq kd 5 with
    | true =>
      have hkd : kd = 5 := Nat.eq_of_beq_eq_true h5
      rw [h5] at h
      rw [if_pos (Or.inl hkd)] at hck
      unfold am_if am_b3 am_b2 am_b1 am_b0 at h
      dsimp only at h
      split at h
      · obtain ⟨g', hx1, h2⟩ := Option.bind_eq_some_iff.mp h
        have hlen := am_sF_len hx1
        obtain ⟨fs, e1, e2, e3⟩ := am_sF_to hx1
        subst e3
        refine am_putFW (v := .int _) (ty := .int) X0 hname hP hAA hS e1 e2 hck (fun C T N hcl => ?_) rfl rfl (hd rfl) (fun H1 locs1 a1 a2 => gow h2 hlen a1 a2)
        simp only [Bool.and_eq_true] at hck
        have hq := hck.2
        unfold am_pchk2 at hq
        dsimp only at hq
        rw [hcl, hkd] at hq
        simp only [Bool.and_eq_true, decide_eq_true_eq] at hq
        exact ⟨hq.1.1, hq.1.2, hq.2⟩
      · cases h
    | false =>
      rw [h5] at h
      replace h := (show am_if (Nat.beq kd 6) _ _ = some r from h)
      cases h6 : Nat.beq kd 6 with
      | true =>
        have hkd : kd = 6 := Nat.eq_of_beq_eq_true h6
        rw [h6] at h
        rw [if_pos (Or.inr hkd)] at hck
        unfold am_if am_b3 am_b2 am_b1 am_b0 at h
        dsimp only at h
        split at h
        · obtain ⟨g', hx1, h2⟩ := Option.bind_eq_some_iff.mp h
          have hlen := am_sF_len hx1
          obtain ⟨fs, e1, e2, e3⟩ := am_sF_to hx1
          subst e3
          have hob : ∃ ty : FieldType, (∀ x : Nat, narrow ty (.ref x) = .ref x ∧ fits ty (.ref x) = true) ∧ ∀ C T N, am_cl[a]? = some (C, T, N) → (T b).2.2.2 = true ∧ (T b).1 = M.1.cls ∧ parseFieldDescriptor (T b).2.2.1 = some ty := by
            simp only [Bool.and_eq_true] at hck
            have hq := hck.2
            unfold am_pchk2 at hq
            dsimp only at hq
            split at hq
            · rename_i C T N hcl
              rw [hkd] at hq
              simp only [Bool.and_eq_true, decide_eq_true_eq] at hq
              obtain ⟨⟨q1, q2⟩, q3⟩ := hq
              split at q3
              · rename_i C0 hC0
                exact ⟨.object C0, fun x => ⟨rfl, rfl⟩, fun C' T' N' hcl' => by
                  cases hcl.symm.trans hcl'
                  exact ⟨q1, q2, hC0⟩⟩
              · rename_i C0 hC0
                exact ⟨.array C0, fun x => ⟨rfl, rfl⟩, fun C' T' N' hcl' => by
                  cases hcl.symm.trans hcl'
                  exact ⟨q1, q2, hC0⟩⟩
              · cases q3
            · cases hq
          obtain ⟨ty, hty1, hty2⟩ := hob
          exact am_putFW (v := .ref _) (ty := ty) X0 hname hP hAA hS e1 e2 hck hty2 (hty1 _).1 (hty1 _).2 (hd rfl) (fun H1 locs1 a1 a2 => gow h2 hlen a1 a2)
        · cases h
      | false =>
        rw [h6] at h
        rw [if_neg (by rintro (q | q); exact Nat.ne_of_beq_eq_false h5 q; exact Nat.ne_of_beq_eq_false h6 q)] at hck
        exact old h hck (fun q => by cases q)
  | aastore =>
    dsimp only [am_ex2] at h
    split at h
    · rename_i v x q r'
      obtain ⟨g', hx1, h2⟩ := Option.bind_eq_some_iff.mp h
      obtain ⟨t, nn, f, ci, fs, e1, e2, e3, e4, e5, e6⟩ := am_sR_to hx1
      subst e6
      cases hcq : am_cl[ci]? with
      | none =>
        have hlt6 : t < 6 := e4
        exfalso
        rw [← e3] at hcq
        have h0 := (hP v _ (am_lay_at e2))
        obtain ⟨rr, hrr, -⟩ := h0
        rw [← e3] at hrr
        exact absurd (hcq.symm.trans hrr) (by simp)
      | some qq =>
        have hlen : (g.set q (.inl (t, nn, .inr (va_up f x.toNatClampNeg (some v))))).length = g.length := List.length_set
        have hty := am_elty (cA := cA) e4 (by rw [e3]; exact hcq)
        refine va_astq (cA := cA t) (r := qq) hx hb hKK hP hDD hS q t v ci (am_lay_at e1) hty (am_lay_at e2) hcq e5 (hd rfl) (fun H1 locs1 a1 _ a3 => gow h2 hlen ?_ a3)
        rw [← am_lay_set]
        have hxl : x.toNatClampNeg < nn := Nat.not_le.mp fun z => e5 (Or.inr z)
        have hfun : (fun j => if j < nn then (va_up f x.toNatClampNeg (some v) j).map ρ else none) = va_up (fun j => if j < nn then (f j).map ρ else none) x.toNatClampNeg (some (ρ v)) := by
          funext j
          unfold va_up
          by_cases hj : j = x.toNatClampNeg
          · subst hj
            simp [hxl]
          · simp [hj]
        show va_P D am_cl ((am_lay ρ cA g).set q (ρ q, .inl (cA t, nn, .inr (.inr (.inr (.inr (fun j => if j < nn then (va_up f x.toNatClampNeg (some v) j).map ρ else none))))))) H1
        rw [hfun]
        exact a1
    · cases h
  | return_ =>
    dsimp only [am_ex2] at h
    split at h
    · obtain ⟨hb1, h⟩ := am_if_some h
      have hlg := Nat.eq_of_beq_eq_true hb1
      cases h
      have := hEnd pc g ρ hlg hxt H locs ls hP hS (hd rfl)
      rw [show mc = g.length - n0 by omega] at this
      exact this
    · cases h
  | _ => exact old h hck (fun q => by cases q)
theorem am_sim_rn2 (X2 : am_cx2 p s m args meth c M cA D) {d lim mc : Nat} (hR : R = am_rm2 (d + 1) mc) (hlim : lim = n0 + mc) (hm : am_met l mt 4) (hm2 : am_met2 l mt nt nc d) (hmt : ∀ j N, mt j = some N → am_mfacts N) (hnt : ∀ j N, nt j = some N → am_nfacts N) (hck : ∀ (pc : Nat) (i : am_I), M.2.2.2.2.2 pc = some i → (am_chkD M.2.1 pc i.1 = true ∧ am_rchk M.2.2.2.1 i.1 = true) ∧ am_chk2 M.1.cls mt nt pc i = true) (hsys : am_sysP) (hsys2 : am_sysP2)
    (hEnd : ∀ (pc : Nat) (g : am_W) (ρ : Nat → Nat), g.length = lim → am_ext ρ0 ρ n0 g.length s.heap.size → ∀ (H : Heap) (locs : List Loc) (ls : Array Slot), va_P D am_cl (am_lay ρ cA g) H → va_S (am_A0 ρ0 n0 s.heap.size) s.heap H locs → decode M.2.1 pc = .ok (.return_, 1) → W p l e R s m args below meth c H locs mc (2000 * mc) (Qr (none, g)) (F0 m pc ls [])) :
    ∀ k (pc : Nat) (L : am_L) (st : List Value) (g : am_W) (r : am_R), am_rn2 (am_ev mt 4) (am_new mt nt nc d) nc lim M.2.2.2.2.2 k pc L st g = some r → g.length ≤ lim → n0 ≤ g.length → ∀ (ρ : Nat → Nat), am_ext ρ0 ρ n0 g.length s.heap.size → ∀ (H : Heap) (locs : List Loc) (ls : Array Slot), va_P D am_cl (am_lay ρ cA g) H → va_S (am_A0 ρ0 n0 s.heap.size) s.heap H locs → am_lh ρ ls M.2.2.1 L → W p l e R s m args below meth c H locs (g.length - n0) (2000 * (g.length - n0)) (Qr r) (F0 m pc ls (st.map (am_v ρ))) := by
  intro k
  induction k with
  | zero => intro pc L st g r h; cases h
  | succ k ih =>
    intro pc L st g r h hle hn0 ρ hxt H locs ls hP hS hl
    unfold am_rn2 at h
    cases hi : M.2.2.2.2.2 pc with
    | none => rw [hi] at h; cases h
    | some i =>
      rw [hi] at h
      obtain ⟨⟨k1, k2⟩, k3⟩ := hck pc i hi
      exact am_sim_ex2 X2 hR hlim hm hm2 hmt hnt ih h k1 k2 k3 hsys hsys2 hEnd hn0 hxt hP hS hl hle
end AMN
theorem am_meets2 (l : Launch) (mt nt : Nat → Option am_M) (nc : Nat → Nat) (hmt : ∀ j N, mt j = some N → am_mok mt N) (hnt : ∀ j N, nt j = some N → am_nok mt nt N) (hsys : am_sysP) (hsys2 : am_sysP2) : ∀ d, am_met2 l mt nt nc d := by
  intro d
  induction d with
  | zero => intro j as g g' M _ h; cases h
  | succ d ih =>
    intro j as g g' M hj h ρ0 cA D sz hinj
    unfold am_new at h
    rw [hj] at h
    dsimp only at h
    obtain ⟨h1, h⟩ := am_if_some h
    simp only [Bool.and_eq_true, List.all_eq_true, beq_iff_eq] at h1
    obtain ⟨⟨ha1, ha2⟩, -⟩ := h1
    have ha2 := Nat.le_of_ble_eq_true ha2
    have hrun := am_cV_to h
    obtain ⟨hf, hck⟩ := am_nok_facts (hnt j M hj)
    obtain ⟨f1, f2, f3, f4, f5, f6, f7, f8⟩ := hf
    refine Met.ofW (cc := M.2.1) (maxL := M.2.2.1) (ret := M.2.2.2.1) (ws' := am_T) f1 rfl ?_
    intro p e s m args below meth c s₁ B hml hv
    obtain ⟨rfl, hsz, hP, hK, hN, hAo⟩ := hv
    subst hsz
    have hts := atoms_spec (ws := am_ws M) B.pre
    have hnm : meth.name = "<init>" := ((name_of_methodNamed B.named B.method).1).trans f7
    have X2 : am_cx2 p s m (as.map (am_v ρ0)).toArray meth c M cA D := ⟨B.exec, B.bytes, hml, findClass_of_methodNamed B.named, hts, hK, hN, B.notSynchronized, B.returns, hAo, hnm, f6⟩
    have hS : va_S (am_A0 ρ0 g.length s.heap.size) s.heap s.heap [] := va_S.rf
    have hc1 : ∀ v ∈ as, (am_v ρ0 v).category = 1 := fun v hv => by rw [am_v_cat]; exact ha1 v hv
    have hl := am_lh_entry (ρ := ρ0) (nL := M.2.2.1) hc1 ha2
    have hx0 : am_ext ρ0 ρ0 g.length g.length s.heap.size := ⟨fun _ _ => rfl, hinj, fun k h1 h2 => by omega⟩
    rw [lg_entry_eq]
    have hW := am_sim_rn2 (e := e) (below := below) (R := am_rm2 (d + 1) (nc j)) (n0 := g.length) (lim := g.length + nc j) (Qr := fun r => MQ below (am_Q2 ρ0 cA D g.length s.heap.size r.2) (as.map (am_v ρ0)).toArray s (nc j) (2000 * nc j) (am_A0 ρ0 g.length s.heap.size)) X2 rfl rfl (am_meets l mt hmt hsys 4) ih (fun j' N' hj' => (am_mok_facts (hmt j' N' hj')).1) (fun j' N' hj' => (am_nok_facts (hnt j' N' hj')).1) hck hsys hsys2 ?_ 3000 _ _ _ _ _ hrun (by omega) (Nat.le_refl _) ρ0 hx0 _ _ _ hP hS hl
    · rw [Nat.sub_self] at hW
      exact hW
    · intro pc g1 ρ hg1 hx1 H locs ls hP' hS' hd
      exact W.vret B.exec B.bytes (by rw [B.returns, f6]) (fun t ht hW => ⟨rfl, ⟨ρ, hx1, by rw [ht]; exact hP'⟩, hS'.F ht⟩) hS'.2.2 hd
end
section
/-! ===== the methods, by number: names, tables of instructions, what the tables say of them (by gen11.py) ===== -/
def am_lk (tb : List (Nat × am_I)) (pc : Nat) : Option am_I := match tb with
  | [] => none
  | q :: r => cond (Nat.beq q.1 pc) (some q.2) (am_lk r pc)
theorem am_lk_mem : ∀ (tb : List (Nat × am_I)) (pc : Nat) (i : am_I), am_lk tb pc = some i → (pc, i) ∈ tb
  | [], _, _, h => by cases h
  | q :: r, pc, i, h => by
    unfold am_lk at h
    cases hb : Nat.beq q.1 pc with
    | true =>
      rw [hb] at h
      have e := Nat.eq_of_beq_eq_true hb
      have e2 : q.2 = i := Option.some.inj h
      rw [← e, ← e2]
      exact List.mem_cons_self
    | false =>
      rw [hb] at h
      exact List.mem_cons_of_mem _ (am_lk_mem r pc i h)
def yJ_bitCount : MethodName := ⟨"java/lang/Intege\x72", "bitCount", "(I)I"⟩
abbrev cJ_bitCount : ByteArray := prog_14_method_49_code
def yJ_ntz : MethodName := ⟨"java/lang/Intege\x72", "numberOfTrailingZeros", "(I)I"⟩
abbrev cJ_ntz : ByteArray := prog_14_method_48_code
def tbJ_bitCount : List (Nat × am_I) := [(0, .iload_n 0, 0, 0, 0, []), (1, .iload_n 0, 0, 0, 0, []), (2, .iconst 1, 0, 0, 0, []), (3, .iushr, 0, 0, 0, []), (4, .ldc_w 265, 1431655765, 0, 0, [(0, 409)]), (7, .iand, 0, 0, 0, []), (8, .isub, 0, 0, 0, []), (9, .istore_n 0, 0, 0, 0, []), (10, .iload_n 0, 0, 0, 0, []), (11, .ldc_w 266, 858993459, 0, 0, [(0, 410)]), (14, .iand, 0, 0, 0, []), (15, .iload_n 0, 0, 0, 0, []), (16, .iconst 2, 0, 0, 0, []), (17, .iushr, 0, 0, 0, []), (18, .ldc_w 266, 858993459, 0, 0, [(0, 410)]), (21, .iand, 0, 0, 0, []), (22, .iadd, 0, 0, 0, []), (23, .istore_n 0, 0, 0, 0, []), (24, .iload_n 0, 0, 0, 0, []), (25, .iload_n 0, 0, 0, 0, []), (26, .iconst 4, 0, 0, 0, []), (27, .iushr, 0, 0, 0, []), (28, .iadd, 0, 0, 0, []), (29, .ldc_w 267, 252645135, 0, 0, [(0, 411)]), (32, .iand, 0, 0, 0, []), (33, .istore_n 0, 0, 0, 0, []), (34, .iload_n 0, 0, 0, 0, []), (35, .iload_n 0, 0, 0, 0, []), (36, .bipush 8, 0, 0, 0, []), (38, .iushr, 0, 0, 0, []), (39, .iadd, 0, 0, 0, []), (40, .istore_n 0, 0, 0, 0, []), (41, .iload_n 0, 0, 0, 0, []), (42, .iload_n 0, 0, 0, 0, []), (43, .bipush 16, 0, 0, 0, []), (45, .iushr, 0, 0, 0, []), (46, .iadd, 0, 0, 0, []), (47, .istore_n 0, 0, 0, 0, []), (48, .iload_n 0, 0, 0, 0, []), (49, .bipush 63, 0, 0, 0, []), (51, .iand, 0, 0, 0, []), (52, .ireturn, 0, 0, 0, [])]
abbrev mJ_bitCount : am_M := (yJ_bitCount, cJ_bitCount, 1, some .int, 12, am_lk tbJ_bitCount)
def tbJ_ntz : List (Nat × am_I) := [(0, .iload_n 0, 0, 0, 0, []), (1, .iconst (-1), 0, 0, 0, []), (2, .ixor, 0, 0, 0, []), (3, .iload_n 0, 0, 0, 0, []), (4, .iconst 1, 0, 0, 0, []), (5, .isub, 0, 0, 0, []), (6, .iand, 0, 0, 0, []), (7, .istore_n 0, 0, 0, 0, []), (8, .iload_n 0, 0, 0, 0, []), (9, .ifCond .gt 8, 17, 0, 0, []), (12, .iload_n 0, 0, 0, 0, []), (13, .bipush 32, 0, 0, 0, []), (15, .iand, 0, 0, 0, []), (16, .ireturn, 0, 0, 0, []), (17, .iconst 1, 0, 0, 0, []), (18, .istore_n 1, 0, 0, 0, []), (19, .iload_n 0, 0, 0, 0, []), (20, .ldc_w 264, 65536, 0, 0, [(0, 459)]), (23, .if_icmp .le 11, 34, 0, 0, []), (26, .iinc 1 16, 0, 0, 0, []), (29, .iload_n 0, 0, 0, 0, []), (30, .bipush 16, 0, 0, 0, []), (32, .iushr, 0, 0, 0, []), (33, .istore_n 0, 0, 0, 0, []), (34, .iload_n 0, 0, 0, 0, []), (35, .sipush 256, 0, 0, 0, []), (38, .if_icmp .le 11, 49, 0, 0, []), (41, .iinc 1 8, 0, 0, 0, []), (44, .iload_n 0, 0, 0, 0, []), (45, .bipush 8, 0, 0, 0, []), (47, .iushr, 0, 0, 0, []), (48, .istore_n 0, 0, 0, 0, []), (49, .iload_n 0, 0, 0, 0, []), (50, .bipush 16, 0, 0, 0, []), (52, .if_icmp .le 10, 62, 0, 0, []), (55, .iinc 1 4, 0, 0, 0, []), (58, .iload_n 0, 0, 0, 0, []), (59, .iconst 4, 0, 0, 0, []), (60, .iushr, 0, 0, 0, []), (61, .istore_n 0, 0, 0, 0, []), (62, .iload_n 0, 0, 0, 0, []), (63, .iconst 4, 0, 0, 0, []), (64, .if_icmp .le 10, 74, 0, 0, []), (67, .iinc 1 2, 0, 0, 0, []), (70, .iload_n 0, 0, 0, 0, []), (71, .iconst 2, 0, 0, 0, []), (72, .iushr, 0, 0, 0, []), (73, .istore_n 0, 0, 0, 0, []), (74, .iload_n 1, 0, 0, 0, []), (75, .iload_n 0, 0, 0, 0, []), (76, .iconst 1, 0, 0, 0, []), (77, .iushr, 0, 0, 0, []), (78, .iadd, 0, 0, 0, []), (79, .ireturn, 0, 0, 0, [])]
abbrev mJ_ntz : am_M := (yJ_ntz, cJ_ntz, 2, some .int, 12, am_lk tbJ_ntz)
def tbX0_findIn : List (Nat × am_I) := [(0, .aload_n 0, 0, 0, 0, []), (1, .iconst 0, 0, 0, 0, []), (2, .iconst (-1), 0, 0, 0, []), (3, .iconst (-1), 0, 0, 0, []), (4, .iconst (-1), 0, 0, 0, []), (5, .invokevirtual 25, 3, 5, 0, [(0, 494)]), (8, .aload_n 1, 0, 0, 0, []), (9, .getfield 29, 7, 1, 0, [(0, 316)]), (12, .ifCond .ne 13, 25, 0, 0, []), (15, .aload_n 0, 0, 0, 0, []), (16, .iconst 1, 0, 0, 0, []), (17, .iconst (-1), 0, 0, 0, []), (18, .iconst (-1), 0, 0, 0, []), (19, .iconst (-1), 0, 0, 0, []), (20, .invokevirtual 25, 3, 5, 0, [(0, 494)]), (23, .iconst 1, 0, 0, 0, []), (24, .ireturn, 0, 0, 0, []), (25, .aload_n 0, 0, 0, 0, []), (26, .aload_n 1, 0, 0, 0, []), (27, .iload_n 2, 0, 0, 0, []), (28, .invokevirtual 34, 4, 3, 1, [(0, 498)]), (31, .ifCond .ne 12, 43, 0, 0, []), (34, .aload_n 0, 0, 0, 0, []), (35, .aload_n 1, 0, 0, 0, []), (36, .iload_n 2, 0, 0, 0, []), (37, .invokevirtual 38, 5, 3, 1, [(0, 505)]), (40, .ifCond .eq 7, 47, 0, 0, []), (43, .iconst 1, 0, 0, 0, []), (44, .goto 4, 48, 0, 0, []), (47, .iconst 0, 0, 0, 0, []), (48, .ireturn, 0, 0, 0, [])]
abbrev mX0_findIn : am_M := (yX0_findIn, cX0_findIn, 3, some .boolean, 0, am_lk tbX0_findIn)
def tbX0_say : List (Nat × am_I) := [(0, .aload_n 0, 0, 0, 0, []), (1, .iload_n 1, 0, 0, 0, []), (2, .putfield 41, 0, 0, 0, [(0, 131)]), (5, .aload_n 0, 0, 0, 0, []), (6, .iload_n 2, 0, 0, 0, []), (7, .putfield 11, 0, 1, 0, [(0, 133)]), (10, .aload_n 0, 0, 0, 0, []), (11, .iload_n 3, 0, 0, 0, []), (12, .putfield 15, 0, 2, 0, [(0, 135)]), (15, .aload_n 0, 0, 0, 0, []), (16, .iload 4, 0, 0, 0, []), (18, .putfield 18, 0, 3, 0, [(0, 137)]), (21, .return_, 0, 0, 0, [])]
abbrev mX0_say : am_M := (yX0_say, cX0_say, 5, none, 0, am_lk tbX0_say)
def tbX0_findInNumbers : List (Nat × am_I) := [(0, .iconst 0, 0, 0, 0, []), (1, .istore_n 3, 0, 0, 0, []), (2, .iload_n 3, 0, 0, 0, []), (3, .sipush 128, 0, 0, 0, []), (6, .if_icmp .ge 16, 22, 0, 0, []), (9, .aload_n 0, 0, 0, 0, []), (10, .getfield 21, 0, 4, 1, [(0, 139)]), (13, .iload_n 3, 0, 0, 0, []), (14, .iconst 0, 0, 0, 0, []), (15, .bastore, 0, 0, 0, []), (16, .iinc 3 1, 0, 0, 0, []), (19, .goto (-17), 2, 0, 0, []), (22, .iconst 0, 0, 0, 0, []), (23, .istore_n 3, 0, 0, 0, []), (24, .iload_n 3, 0, 0, 0, []), (25, .aload_n 1, 0, 0, 0, []), (26, .getfield 29, 7, 1, 0, [(0, 316)]), (29, .if_icmp .ge 74, 103, 0, 0, []), (32, .aload_n 1, 0, 0, 0, []), (33, .iload_n 3, 0, 0, 0, []), (34, .invokevirtual 44, 37, 2, 1, [(0, 502)]), (37, .istore 4, 0, 0, 0, []), (39, .iload 4, 0, 0, 0, []), (41, .iconst 1, 0, 0, 0, []), (42, .iload_n 2, 0, 0, 0, []), (43, .ishl, 0, 0, 0, []), (44, .invokestatic 48, 110, 2, 1, [(0, 503)]), (47, .ifCond .ne 13, 60, 0, 0, []), (50, .aload_n 0, 0, 0, 0, []), (51, .iconst 2, 0, 0, 0, []), (52, .iload_n 3, 0, 0, 0, []), (53, .iconst (-1), 0, 0, 0, []), (54, .iconst (-1), 0, 0, 0, []), (55, .invokevirtual 25, 3, 5, 0, [(0, 494)]), (58, .iconst 1, 0, 0, 0, []), (59, .ireturn, 0, 0, 0, []), (60, .iload 4, 0, 0, 0, []), (62, .invokestatic 52, 0, 1, 1, [(0, 504)]), (65, .aload_n 1, 0, 0, 0, []), (66, .iconst 0, 0, 0, 0, []), (67, .invokevirtual 44, 37, 2, 1, [(0, 502)]), (70, .invokestatic 52, 0, 1, 1, [(0, 504)]), (73, .if_icmp .eq 13, 86, 0, 0, []), (76, .aload_n 0, 0, 0, 0, []), (77, .iconst 3, 0, 0, 0, []), (78, .iload_n 3, 0, 0, 0, []), (79, .iconst (-1), 0, 0, 0, []), (80, .iconst (-1), 0, 0, 0, []), (81, .invokevirtual 25, 3, 5, 0, [(0, 494)]), (84, .iconst 1, 0, 0, 0, []), (85, .ireturn, 0, 0, 0, []), (86, .aload_n 0, 0, 0, 0, []), (87, .getfield 21, 0, 4, 1, [(0, 139)]), (90, .iload 4, 0, 0, 0, []), (92, .bipush 127, 0, 0, 0, []), (94, .iand, 0, 0, 0, []), (95, .iconst 1, 0, 0, 0, []), (96, .bastore, 0, 0, 0, []), (97, .iinc 3 1, 0, 0, 0, []), (100, .goto (-76), 24, 0, 0, []), (103, .iconst 0, 0, 0, 0, []), (104, .ireturn, 0, 0, 0, [])]
abbrev mX0_findInNumbers : am_M := (yX0_findInNumbers, cX0_findInNumbers, 5, some .boolean, 0, am_lk tbX0_findInNumbers)
def tbX0_findInTwos : List (Nat × am_I) := [(0, .iconst 0, 0, 0, 0, []), (1, .istore_n 3, 0, 0, 0, []), (2, .iload_n 3, 0, 0, 0, []), (3, .aload_n 1, 0, 0, 0, []), (4, .getfield 29, 7, 1, 0, [(0, 316)]), (7, .if_icmp .ge 74, 81, 0, 0, []), (10, .iconst 0, 0, 0, 0, []), (11, .istore 4, 0, 0, 0, []), (13, .iload 4, 0, 0, 0, []), (15, .aload_n 1, 0, 0, 0, []), (16, .getfield 29, 7, 1, 0, [(0, 316)]), (19, .if_icmp .ge 56, 75, 0, 0, []), (22, .iconst 0, 0, 0, 0, []), (23, .istore 5, 0, 0, 0, []), (25, .iload 5, 0, 0, 0, []), (27, .iload_n 2, 0, 0, 0, []), (28, .if_icmp .ge 41, 69, 0, 0, []), (31, .aload_n 0, 0, 0, 0, []), (32, .iload 5, 0, 0, 0, []), (34, .aload_n 1, 0, 0, 0, []), (35, .iload_n 3, 0, 0, 0, []), (36, .invokevirtual 44, 37, 2, 1, [(0, 502)]), (39, .aload_n 1, 0, 0, 0, []), (40, .iload 4, 0, 0, 0, []), (42, .invokevirtual 44, 37, 2, 1, [(0, 502)]), (45, .invokevirtual 57, 6, 4, 1, [(0, 509)]), (48, .ifCond .eq 15, 63, 0, 0, []), (51, .aload_n 0, 0, 0, 0, []), (52, .iconst 4, 0, 0, 0, []), (53, .iload_n 3, 0, 0, 0, []), (54, .iload 4, 0, 0, 0, []), (56, .iload 5, 0, 0, 0, []), (58, .invokevirtual 25, 3, 5, 0, [(0, 494)]), (61, .iconst 1, 0, 0, 0, []), (62, .ireturn, 0, 0, 0, []), (63, .iinc 5 1, 0, 0, 0, []), (66, .goto (-41), 25, 0, 0, []), (69, .iinc 4 1, 0, 0, 0, []), (72, .goto (-59), 13, 0, 0, []), (75, .iinc 3 1, 0, 0, 0, []), (78, .goto (-76), 2, 0, 0, []), (81, .iconst 0, 0, 0, 0, []), (82, .ireturn, 0, 0, 0, [])]
abbrev mX0_findInTwos : am_M := (yX0_findInTwos, cX0_findInTwos, 6, some .boolean, 0, am_lk tbX0_findInTwos)
def tbX0_lacksOneFor : List (Nat × am_I) := [(0, .iload_n 2, 0, 0, 0, []), (1, .iload_n 3, 0, 0, 0, []), (2, .iconst (-1), 0, 0, 0, []), (3, .ixor, 0, 0, 0, []), (4, .iand, 0, 0, 0, []), (5, .iconst 1, 0, 0, 0, []), (6, .iload_n 1, 0, 0, 0, []), (7, .ishl, 0, 0, 0, []), (8, .iand, 0, 0, 0, []), (9, .ifCond .ne 5, 14, 0, 0, []), (12, .iconst 0, 0, 0, 0, []), (13, .ireturn, 0, 0, 0, []), (14, .iconst 0, 0, 0, 0, []), (15, .istore 4, 0, 0, 0, []), (17, .iload 4, 0, 0, 0, []), (19, .bipush 7, 0, 0, 0, []), (21, .if_icmp .ge 47, 68, 0, 0, []), (24, .iload_n 3, 0, 0, 0, []), (25, .iload_n 2, 0, 0, 0, []), (26, .iconst (-1), 0, 0, 0, []), (27, .ixor, 0, 0, 0, []), (28, .iand, 0, 0, 0, []), (29, .iconst 1, 0, 0, 0, []), (30, .iload 4, 0, 0, 0, []), (32, .ishl, 0, 0, 0, []), (33, .iand, 0, 0, 0, []), (34, .ifCond .eq 28, 62, 0, 0, []), (37, .aload_n 0, 0, 0, 0, []), (38, .getfield 21, 0, 4, 1, [(0, 139)]), (41, .iload_n 2, 0, 0, 0, []), (42, .iconst 1, 0, 0, 0, []), (43, .iload_n 1, 0, 0, 0, []), (44, .ishl, 0, 0, 0, []), (45, .iconst (-1), 0, 0, 0, []), (46, .ixor, 0, 0, 0, []), (47, .iand, 0, 0, 0, []), (48, .iconst 1, 0, 0, 0, []), (49, .iload 4, 0, 0, 0, []), (51, .ishl, 0, 0, 0, []), (52, .ior, 0, 0, 0, []), (53, .bipush 127, 0, 0, 0, []), (55, .iand, 0, 0, 0, []), (56, .baload, 0, 0, 0, []), (57, .ifCond .eq 5, 62, 0, 0, []), (60, .iconst 0, 0, 0, 0, []), (61, .ireturn, 0, 0, 0, []), (62, .iinc 4 1, 0, 0, 0, []), (65, .goto (-48), 17, 0, 0, []), (68, .iconst 1, 0, 0, 0, []), (69, .ireturn, 0, 0, 0, [])]
abbrev mX0_lacksOneFor : am_M := (yX0_lacksOneFor, cX0_lacksOneFor, 5, some .boolean, 0, am_lk tbX0_lacksOneFor)
def tbX1_findIn : List (Nat × am_I) := [(0, .iconst 0, 0, 0, 0, []), (1, .istore_n 3, 0, 0, 0, []), (2, .iload_n 3, 0, 0, 0, []), (3, .aload_n 1, 0, 0, 0, []), (4, .invokevirtual 19, 40, 1, 1, [(0, 758)]), (7, .if_icmp .gt 147, 154, 0, 0, []), (10, .iconst 0, 0, 0, 0, []), (11, .istore 4, 0, 0, 0, []), (13, .iload 4, 0, 0, 0, []), (15, .aload_n 1, 0, 0, 0, []), (16, .invokevirtual 19, 40, 1, 1, [(0, 758)]), (19, .if_icmp .gt 129, 148, 0, 0, []), (22, .aload_n 1, 0, 0, 0, []), (23, .getfield 23, 8, 0, 0, [(0, 103)]), (26, .iload_n 3, 0, 0, 0, []), (27, .iload 4, 0, 0, 0, []), (29, .ior, 0, 0, 0, []), (30, .invokestatic 27, 0, 1, 1, [(0, 759)]), (33, .isub, 0, 0, 0, []), (34, .istore 5, 0, 0, 0, []), (36, .iload_n 2, 0, 0, 0, []), (37, .ifCond .eq 17, 54, 0, 0, []), (40, .iload 5, 0, 0, 0, []), (42, .iconst 4, 0, 0, 0, []), (43, .if_icmp .ne 7, 50, 0, 0, []), (46, .iconst 1, 0, 0, 0, []), (47, .goto 25, 72, 0, 0, []), (50, .iconst 0, 0, 0, 0, []), (51, .goto 21, 72, 0, 0, []), (54, .iload 5, 0, 0, 0, []), (56, .iconst 5, 0, 0, 0, []), (57, .if_icmp .eq 10, 67, 0, 0, []), (60, .iload 5, 0, 0, 0, []), (62, .bipush 7, 0, 0, 0, []), (64, .if_icmp .ne 7, 71, 0, 0, []), (67, .iconst 1, 0, 0, 0, []), (68, .goto 4, 72, 0, 0, []), (71, .iconst 0, 0, 0, 0, []), (72, .istore 6, 0, 0, 0, []), (74, .iload 6, 0, 0, 0, []), (76, .ifCond .eq 66, 142, 0, 0, []), (79, .iload_n 3, 0, 0, 0, []), (80, .iload 4, 0, 0, 0, []), (82, .iand, 0, 0, 0, []), (83, .ifCond .ne 59, 142, 0, 0, []), (86, .aload_n 0, 0, 0, 0, []), (87, .iload_n 3, 0, 0, 0, []), (88, .putfield 33, 1, 3, 0, [(0, 263)]), (91, .aload_n 0, 0, 0, 0, []), (92, .iload 4, 0, 0, 0, []), (94, .putfield 36, 1, 4, 0, [(0, 265)]), (97, .aload_n 0, 0, 0, 0, []), (98, .getfield 10, 1, 0, 1, [(0, 259)]), (101, .aload_n 1, 0, 0, 0, []), (102, .aload_n 0, 0, 0, 0, []), (103, .getfield 33, 1, 3, 0, [(0, 263)]), (106, .aload_n 0, 0, 0, 0, []), (107, .getfield 36, 1, 4, 0, [(0, 265)]), (110, .invokevirtual 39, 48, 4, 0, [(0, 760)]), (113, .aload_n 0, 0, 0, 0, []), (114, .iload_n 2, 0, 0, 0, []), (115, .ifCond .eq 10, 125, 0, 0, []), (118, .aload_n 0, 0, 0, 0, []), (119, .invokevirtual 43, 8, 1, 1, [(0, 761)]), (122, .goto 7, 129, 0, 0, []), (125, .aload_n 0, 0, 0, 0, []), (126, .invokevirtual 46, 9, 1, 1, [(0, 769)]), (129, .putfield 49, 1, 2, 0, [(0, 261)]), (132, .aload_n 0, 0, 0, 0, []), (133, .getfield 49, 1, 2, 0, [(0, 261)]), (136, .iconst (-1), 0, 0, 0, []), (137, .if_icmp .eq 5, 142, 0, 0, []), (140, .iconst 1, 0, 0, 0, []), (141, .ireturn, 0, 0, 0, []), (142, .iinc 4 1, 0, 0, 0, []), (145, .goto (-132), 13, 0, 0, []), (148, .iinc 3 1, 0, 0, 0, []), (151, .goto (-149), 2, 0, 0, []), (154, .iconst 0, 0, 0, 0, []), (155, .ireturn, 0, 0, 0, [])]
abbrev mX1_findIn : am_M := (yX1_findIn, cX1_findIn, 7, some .boolean, 1, am_lk tbX1_findIn)
def tbX1_sortForTwo : List (Nat × am_I) := [(0, .aload_n 0, 0, 0, 0, []), (1, .getfield 10, 1, 0, 1, [(0, 259)]), (4, .iconst 4, 0, 0, 0, []), (5, .iconst 2, 0, 0, 0, []), (6, .invokevirtual 52, 62, 3, 1, [(0, 765)]), (9, .ifCond .eq 7, 16, 0, 0, []), (12, .iconst 0, 0, 0, 0, []), (13, .goto 4, 17, 0, 0, []), (16, .iconst (-1), 0, 0, 0, []), (17, .ireturn, 0, 0, 0, [])]
abbrev mX1_sortForTwo : am_M := (yX1_sortForTwo, cX1_sortForTwo, 1, some .int, 1, am_lk tbX1_sortForTwo)
def tbX1_sortForThree : List (Nat × am_I) := [(0, .aload_n 0, 0, 0, 0, []), (1, .getfield 10, 1, 0, 1, [(0, 259)]), (4, .iconst 5, 0, 0, 0, []), (5, .iconst 2, 0, 0, 0, []), (6, .invokevirtual 52, 62, 3, 1, [(0, 765)]), (9, .ifCond .eq 5, 14, 0, 0, []), (12, .iconst 1, 0, 0, 0, []), (13, .ireturn, 0, 0, 0, []), (14, .aload_n 0, 0, 0, 0, []), (15, .getfield 10, 1, 0, 1, [(0, 259)]), (18, .iconst 5, 0, 0, 0, []), (19, .iconst 3, 0, 0, 0, []), (20, .invokevirtual 52, 62, 3, 1, [(0, 765)]), (23, .ifCond .eq 5, 28, 0, 0, []), (26, .iconst 2, 0, 0, 0, []), (27, .ireturn, 0, 0, 0, []), (28, .aload_n 0, 0, 0, 0, []), (29, .getfield 10, 1, 0, 1, [(0, 259)]), (32, .invokevirtual 56, 63, 1, 1, [(0, 773)]), (35, .ifCond .eq 5, 40, 0, 0, []), (38, .iconst 3, 0, 0, 0, []), (39, .ireturn, 0, 0, 0, []), (40, .aload_n 0, 0, 0, 0, []), (41, .getfield 16, 1, 1, 1, [(0, 260)]), (44, .aload_n 0, 0, 0, 0, []), (45, .getfield 10, 1, 0, 1, [(0, 259)]), (48, .invokevirtual 60, 47, 2, 0, [(0, 781)]), (51, .aload_n 0, 0, 0, 0, []), (52, .getfield 16, 1, 1, 1, [(0, 260)]), (55, .invokevirtual 56, 63, 1, 1, [(0, 773)]), (58, .ifCond .eq 7, 65, 0, 0, []), (61, .iconst 4, 0, 0, 0, []), (62, .goto 4, 66, 0, 0, []), (65, .iconst (-1), 0, 0, 0, []), (66, .ireturn, 0, 0, 0, [])]
abbrev mX1_sortForThree : am_M := (yX1_sortForThree, cX1_sortForThree, 1, some .int, 1, am_lk tbX1_sortForThree)
def tbX2_rest : List (Nat × am_I) := [(0, .aload_n 0, 0, 0, 0, []), (1, .getfield 15, 2, 0, 0, [(0, 168)]), (4, .ifCond .le 12, 16, 0, 0, []), (7, .iload_n 1, 0, 0, 0, []), (8, .aload_n 0, 0, 0, 0, []), (9, .getfield 15, 2, 0, 0, [(0, 168)]), (12, .irem, 0, 0, 0, []), (13, .goto 4, 17, 0, 0, []), (16, .iconst 0, 0, 0, 0, []), (17, .ireturn, 0, 0, 0, [])]
abbrev mX2_rest : am_M := (yX2_rest, cX2_rest, 2, some .int, 2, am_lk tbX2_rest)
def tbX2_sum : List (Nat × am_I) := [(0, .aload_n 0, 0, 0, 0, []), (1, .getfield 15, 2, 0, 0, [(0, 168)]), (4, .iconst 4, 0, 0, 0, []), (5, .if_icmp .ne 9, 14, 0, 0, []), (8, .iload_n 1, 0, 0, 0, []), (9, .iload_n 2, 0, 0, 0, []), (10, .ixor, 0, 0, 0, []), (11, .goto 10, 21, 0, 0, []), (14, .aload_n 0, 0, 0, 0, []), (15, .iload_n 1, 0, 0, 0, []), (16, .iload_n 2, 0, 0, 0, []), (17, .iadd, 0, 0, 0, []), (18, .invokevirtual 23, 10, 2, 1, [(0, 377)]), (21, .ireturn, 0, 0, 0, [])]
abbrev mX2_sum : am_M := (yX2_sum, cX2_sum, 3, some .int, 2, am_lk tbX2_sum)
def tbX2_difference : List (Nat × am_I) := [(0, .aload_n 0, 0, 0, 0, []), (1, .getfield 15, 2, 0, 0, [(0, 168)]), (4, .iconst 4, 0, 0, 0, []), (5, .if_icmp .ne 7, 12, 0, 0, []), (8, .iload_n 1, 0, 0, 0, []), (9, .iload_n 2, 0, 0, 0, []), (10, .ixor, 0, 0, 0, []), (11, .ireturn, 0, 0, 0, []), (12, .iload_n 1, 0, 0, 0, []), (13, .iload_n 2, 0, 0, 0, []), (14, .if_icmp .ge 14, 28, 0, 0, []), (17, .iload_n 1, 0, 0, 0, []), (18, .iload_n 2, 0, 0, 0, []), (19, .isub, 0, 0, 0, []), (20, .aload_n 0, 0, 0, 0, []), (21, .getfield 15, 2, 0, 0, [(0, 168)]), (24, .iadd, 0, 0, 0, []), (25, .goto 6, 31, 0, 0, []), (28, .iload_n 1, 0, 0, 0, []), (29, .iload_n 2, 0, 0, 0, []), (30, .isub, 0, 0, 0, []), (31, .ireturn, 0, 0, 0, [])]
abbrev mX2_difference : am_M := (yX2_difference, cX2_difference, 3, some .int, 2, am_lk tbX2_difference)
def tbX2_product : List (Nat × am_I) := [(0, .iload_n 1, 0, 0, 0, []), (1, .ifCond .eq 14, 15, 0, 0, []), (4, .iload_n 2, 0, 0, 0, []), (5, .ifCond .eq 10, 15, 0, 0, []), (8, .aload_n 0, 0, 0, 0, []), (9, .getfield 15, 2, 0, 0, [(0, 168)]), (12, .ifCond .gt 5, 17, 0, 0, []), (15, .iconst 0, 0, 0, 0, []), (16, .ireturn, 0, 0, 0, []), (17, .aload_n 0, 0, 0, 0, []), (18, .getfield 15, 2, 0, 0, [(0, 168)]), (21, .iconst 4, 0, 0, 0, []), (22, .if_icmp .ne 15, 37, 0, 0, []), (25, .iload_n 1, 0, 0, 0, []), (26, .iconst 1, 0, 0, 0, []), (27, .isub, 0, 0, 0, []), (28, .iload_n 2, 0, 0, 0, []), (29, .iadd, 0, 0, 0, []), (30, .iconst 1, 0, 0, 0, []), (31, .isub, 0, 0, 0, []), (32, .iconst 3, 0, 0, 0, []), (33, .irem, 0, 0, 0, []), (34, .iconst 1, 0, 0, 0, []), (35, .iadd, 0, 0, 0, []), (36, .ireturn, 0, 0, 0, []), (37, .iload_n 1, 0, 0, 0, []), (38, .iload_n 2, 0, 0, 0, []), (39, .imul, 0, 0, 0, []), (40, .aload_n 0, 0, 0, 0, []), (41, .getfield 15, 2, 0, 0, [(0, 168)]), (44, .irem, 0, 0, 0, []), (45, .ireturn, 0, 0, 0, [])]
abbrev mX2_product : am_M := (yX2_product, cX2_product, 3, some .int, 2, am_lk tbX2_product)
def tbX2_inverse : List (Nat × am_I) := [(0, .iload_n 1, 0, 0, 0, []), (1, .iconst 5, 0, 0, 0, []), (2, .invokestatic 27, 110, 2, 1, [(0, 390)]), (5, .ifCond .eq 12, 17, 0, 0, []), (8, .aload_n 0, 0, 0, 0, []), (9, .getfield 11, 2, 1, 1, [(0, 172)]), (12, .iload_n 1, 0, 0, 0, []), (13, .iaload, 0, 0, 0, []), (14, .goto 4, 18, 0, 0, []), (17, .iconst 0, 0, 0, 0, []), (18, .ireturn, 0, 0, 0, [])]
abbrev mX2_inverse : am_M := (yX2_inverse, cX2_inverse, 2, some .int, 2, am_lk tbX2_inverse)
def tbX2_columnCount : List (Nat × am_I) := [(0, .iconst 1, 0, 0, 0, []), (1, .istore_n 1, 0, 0, 0, []), (2, .iconst 0, 0, 0, 0, []), (3, .istore_n 2, 0, 0, 0, []), (4, .iload_n 2, 0, 0, 0, []), (5, .bipush 7, 0, 0, 0, []), (7, .if_icmp .ge 16, 23, 0, 0, []), (10, .iload_n 1, 0, 0, 0, []), (11, .aload_n 0, 0, 0, 0, []), (12, .getfield 15, 2, 0, 0, [(0, 168)]), (15, .imul, 0, 0, 0, []), (16, .istore_n 1, 0, 0, 0, []), (17, .iinc 2 1, 0, 0, 0, []), (20, .goto (-16), 4, 0, 0, []), (23, .iload_n 1, 0, 0, 0, []), (24, .ireturn, 0, 0, 0, [])]
abbrev mX2_columnCount : am_M := (yX2_columnCount, cX2_columnCount, 3, some .int, 2, am_lk tbX2_columnCount)
def tbX2_tellOf : List (Nat × am_I) := [(0, .iload_n 1, 0, 0, 0, []), (1, .ifCond .ne 8, 9, 0, 0, []), (4, .aload_n 0, 0, 0, 0, []), (5, .getfield 15, 2, 0, 0, [(0, 168)]), (8, .ireturn, 0, 0, 0, []), (9, .aload_n 0, 0, 0, 0, []), (10, .getfield 15, 2, 0, 0, [(0, 168)]), (13, .iconst 4, 0, 0, 0, []), (14, .if_icmp .ne 7, 21, 0, 0, []), (17, .iconst 0, 0, 0, 0, []), (18, .goto 4, 22, 0, 0, []), (21, .iconst 1, 0, 0, 0, []), (22, .ireturn, 0, 0, 0, [])]
abbrev mX2_tellOf : am_M := (yX2_tellOf, cX2_tellOf, 2, some .int, 2, am_lk tbX2_tellOf)
def tbX3_isEmpty : List (Nat × am_I) := [(0, .aload_n 0, 0, 0, 0, []), (1, .getfield 16, 3, 0, 2, [(0, 297)]), (4, .ifnonnull 14, 18, 0, 0, []), (7, .aload_n 0, 0, 0, 0, []), (8, .getfield 20, 3, 1, 0, [(0, 299)]), (11, .ifCond .ne 7, 18, 0, 0, []), (14, .iconst 1, 0, 0, 0, []), (15, .goto 4, 19, 0, 0, []), (18, .iconst 0, 0, 0, 0, []), (19, .ireturn, 0, 0, 0, [])]
abbrev mX3_isEmpty : am_M := (yX3_isEmpty, cX3_isEmpty, 1, some .boolean, 3, am_lk tbX3_isEmpty)
def tbX3_keepField : List (Nat × am_I) := [(0, .aload_n 0, 0, 0, 0, []), (1, .aload_n 1, 0, 0, 0, []), (2, .putfield 16, 3, 0, 2, [(0, 297)]), (5, .aload_n 0, 0, 0, 0, []), (6, .iconst 0, 0, 0, 0, []), (7, .putfield 20, 3, 1, 3, [(0, 299)]), (10, .return_, 0, 0, 0, [])]
abbrev mX3_keepField : am_M := (yX3_keepField, cX3_keepField, 2, none, 3, am_lk tbX3_keepField)
def tbX3_keepView : List (Nat × am_I) := [(0, .aload_n 0, 0, 0, 0, []), (1, .aconst_null, 0, 0, 0, []), (2, .putfield 16, 3, 0, 2, [(0, 297)]), (5, .aload_n 0, 0, 0, 0, []), (6, .iconst 1, 0, 0, 0, []), (7, .putfield 20, 3, 1, 3, [(0, 299)]), (10, .aload_n 0, 0, 0, 0, []), (11, .getfield 10, 3, 2, 1, [(0, 300)]), (14, .aload_n 1, 0, 0, 0, []), (15, .invokevirtual 24, 43, 2, 0, [(0, 816)]), (18, .return_, 0, 0, 0, [])]
abbrev mX3_keepView : am_M := (yX3_keepView, cX3_keepView, 2, none, 3, am_lk tbX3_keepView)
def tbX3_letGo : List (Nat × am_I) := [(0, .aload_n 0, 0, 0, 0, []), (1, .aconst_null, 0, 0, 0, []), (2, .putfield 16, 3, 0, 2, [(0, 297)]), (5, .aload_n 0, 0, 0, 0, []), (6, .iconst 0, 0, 0, 0, []), (7, .putfield 20, 3, 1, 3, [(0, 299)]), (10, .return_, 0, 0, 0, [])]
abbrev mX3_letGo : am_M := (yX3_letGo, cX3_letGo, 1, none, 3, am_lk tbX3_letGo)
def tbX5_clear : List (Nat × am_I) := [(0, .aload_n 0, 0, 0, 0, []), (1, .aload_n 1, 0, 0, 0, []), (2, .putfield 14, 5, 0, 2, [(0, 178)]), (5, .iconst 0, 0, 0, 0, []), (6, .istore_n 2, 0, 0, 0, []), (7, .iload_n 2, 0, 0, 0, []), (8, .aload_n 0, 0, 0, 0, []), (9, .getfield 20, 5, 1, 1, [(0, 179)]), (12, .arraylength, 0, 0, 0, []), (13, .if_icmp .ge 16, 29, 0, 0, []), (16, .aload_n 0, 0, 0, 0, []), (17, .getfield 20, 5, 1, 1, [(0, 179)]), (20, .iload_n 2, 0, 0, 0, []), (21, .iconst 0, 0, 0, 0, []), (22, .iastore, 0, 0, 0, []), (23, .iinc 2 1, 0, 0, 0, []), (26, .goto (-19), 7, 0, 0, []), (29, .return_, 0, 0, 0, [])]
abbrev mX5_clear : am_M := (yX5_clear, cX5_clear, 3, none, 5, am_lk tbX5_clear)
def tbX5_put : List (Nat × am_I) := [(0, .iload_n 1, 0, 0, 0, []), (1, .bipush 7, 0, 0, 0, []), (3, .invokestatic 37, 110, 2, 1, [(0, 447)]), (6, .ifCond .eq 24, 30, 0, 0, []), (9, .iload_n 2, 0, 0, 0, []), (10, .bipush 7, 0, 0, 0, []), (12, .invokestatic 37, 110, 2, 1, [(0, 447)]), (15, .ifCond .eq 15, 30, 0, 0, []), (18, .aload_n 0, 0, 0, 0, []), (19, .getfield 20, 5, 1, 1, [(0, 179)]), (22, .iload_n 1, 0, 0, 0, []), (23, .bipush 7, 0, 0, 0, []), (25, .imul, 0, 0, 0, []), (26, .iload_n 2, 0, 0, 0, []), (27, .iadd, 0, 0, 0, []), (28, .iload_n 3, 0, 0, 0, []), (29, .iastore, 0, 0, 0, []), (30, .return_, 0, 0, 0, [])]
abbrev mX5_put : am_M := (yX5_put, cX5_put, 4, none, 5, am_lk tbX5_put)
def tbX5_putCode : List (Nat × am_I) := [(0, .aload_n 0, 0, 0, 0, []), (1, .getfield 14, 5, 0, 1, [(0, 178)]), (4, .getfield 41, 2, 0, 0, [(0, 170)]), (7, .iconst 1, 0, 0, 0, []), (8, .invokestatic 45, 998, 0, 0, [(0, 440)]), (11, .istore_n 3, 0, 0, 0, []), (12, .iload_n 2, 0, 0, 0, []), (13, .istore 4, 0, 0, 0, []), (15, .iconst 0, 0, 0, 0, []), (16, .istore 5, 0, 0, 0, []), (18, .iload 5, 0, 0, 0, []), (20, .bipush 7, 0, 0, 0, []), (22, .if_icmp .ge 26, 48, 0, 0, []), (25, .aload_n 0, 0, 0, 0, []), (26, .iload_n 1, 0, 0, 0, []), (27, .iload 5, 0, 0, 0, []), (29, .iload 4, 0, 0, 0, []), (31, .iload_n 3, 0, 0, 0, []), (32, .irem, 0, 0, 0, []), (33, .invokevirtual 51, 22, 4, 0, [(0, 443)]), (36, .iload 4, 0, 0, 0, []), (38, .iload_n 3, 0, 0, 0, []), (39, .idiv, 0, 0, 0, []), (40, .istore 4, 0, 0, 0, []), (42, .iinc 5 1, 0, 0, 0, []), (45, .goto (-27), 18, 0, 0, []), (48, .return_, 0, 0, 0, [])]
abbrev mX5_putCode : am_M := (yX5_putCode, cX5_putCode, 6, none, 5, am_lk tbX5_putCode)
def tbX5_codeOf : List (Nat × am_I) := [(0, .iconst 0, 0, 0, 0, []), (1, .istore_n 2, 0, 0, 0, []), (2, .bipush 6, 0, 0, 0, []), (4, .istore_n 3, 0, 0, 0, []), (5, .iload_n 3, 0, 0, 0, []), (6, .ifCond .lt 40, 46, 0, 0, []), (9, .iload_n 1, 0, 0, 0, []), (10, .bipush 7, 0, 0, 0, []), (12, .invokestatic 37, 110, 2, 1, [(0, 447)]), (15, .ifCond .eq 31, 46, 0, 0, []), (18, .iload_n 2, 0, 0, 0, []), (19, .aload_n 0, 0, 0, 0, []), (20, .getfield 14, 5, 0, 1, [(0, 178)]), (23, .getfield 41, 2, 0, 0, [(0, 170)]), (26, .imul, 0, 0, 0, []), (27, .aload_n 0, 0, 0, 0, []), (28, .getfield 20, 5, 1, 1, [(0, 179)]), (31, .iload_n 1, 0, 0, 0, []), (32, .bipush 7, 0, 0, 0, []), (34, .imul, 0, 0, 0, []), (35, .iload_n 3, 0, 0, 0, []), (36, .iadd, 0, 0, 0, []), (37, .iaload, 0, 0, 0, []), (38, .iadd, 0, 0, 0, []), (39, .istore_n 2, 0, 0, 0, []), (40, .iinc 3 (-1), 0, 0, 0, []), (43, .goto (-38), 5, 0, 0, []), (46, .iload_n 2, 0, 0, 0, []), (47, .ireturn, 0, 0, 0, [])]
abbrev mX5_codeOf : am_M := (yX5_codeOf, cX5_codeOf, 4, some .int, 5, am_lk tbX5_codeOf)
def tbX5_emptyEchelon : List (Nat × am_I) := [(0, .aload_n 0, 0, 0, 0, []), (1, .iconst 0, 0, 0, 0, []), (2, .putfield 55, 5, 6, 0, [(0, 184)]), (5, .iconst 0, 0, 0, 0, []), (6, .istore_n 1, 0, 0, 0, []), (7, .iload_n 1, 0, 0, 0, []), (8, .bipush 7, 0, 0, 0, []), (10, .if_icmp .ge 16, 26, 0, 0, []), (13, .aload_n 0, 0, 0, 0, []), (14, .getfield 27, 5, 3, 1, [(0, 181)]), (17, .iload_n 1, 0, 0, 0, []), (18, .iconst 0, 0, 0, 0, []), (19, .bastore, 0, 0, 0, []), (20, .iinc 1 1, 0, 0, 0, []), (23, .goto (-16), 7, 0, 0, []), (26, .return_, 0, 0, 0, [])]
abbrev mX5_emptyEchelon : am_M := (yX5_emptyEchelon, cX5_emptyEchelon, 2, none, 5, am_lk tbX5_emptyEchelon)
def tbX5_rankOf : List (Nat × am_I) := [(0, .aload_n 0, 0, 0, 0, []), (1, .invokevirtual 58, 25, 1, 0, [(0, 725)]), (4, .iconst 0, 0, 0, 0, []), (5, .istore_n 2, 0, 0, 0, []), (6, .iload_n 2, 0, 0, 0, []), (7, .bipush 7, 0, 0, 0, []), (9, .if_icmp .ge 22, 31, 0, 0, []), (12, .iload_n 1, 0, 0, 0, []), (13, .iload_n 2, 0, 0, 0, []), (14, .ishr, 0, 0, 0, []), (15, .iconst 1, 0, 0, 0, []), (16, .iand, 0, 0, 0, []), (17, .ifCond .eq 8, 25, 0, 0, []), (20, .aload_n 0, 0, 0, 0, []), (21, .iload_n 2, 0, 0, 0, []), (22, .invokevirtual 61, 27, 2, 0, [(0, 726)]), (25, .iinc 2 1, 0, 0, 0, []), (28, .goto (-22), 6, 0, 0, []), (31, .aload_n 0, 0, 0, 0, []), (32, .getfield 55, 5, 6, 0, [(0, 184)]), (35, .ireturn, 0, 0, 0, [])]
abbrev mX5_rankOf : am_M := (yX5_rankOf, cX5_rankOf, 3, some .int, 5, am_lk tbX5_rankOf)
def tbX5_enter : List (Nat × am_I) := [(0, .iload_n 1, 0, 0, 0, []), (1, .bipush 7, 0, 0, 0, []), (3, .invokestatic 37, 110, 2, 1, [(0, 447)]), (6, .ifCond .ne 4, 10, 0, 0, []), (9, .return_, 0, 0, 0, []), (10, .aload_n 0, 0, 0, 0, []), (11, .getfield 20, 5, 1, 1, [(0, 179)]), (14, .iload_n 1, 0, 0, 0, []), (15, .bipush 7, 0, 0, 0, []), (17, .imul, 0, 0, 0, []), (18, .aload_n 0, 0, 0, 0, []), (19, .getfield 34, 5, 5, 1, [(0, 183)]), (22, .iconst 0, 0, 0, 0, []), (23, .bipush 7, 0, 0, 0, []), (25, .invokestatic 64, 999, 0, 0, [(0, 468)]), (28, .aload_n 0, 0, 0, 0, []), (29, .getfield 31, 5, 4, 1, [(0, 182)]), (32, .iload_n 1, 0, 0, 0, []), (33, .iconst (-1), 0, 0, 0, []), (34, .iastore, 0, 0, 0, []), (35, .iconst 0, 0, 0, 0, []), (36, .istore_n 2, 0, 0, 0, []), (37, .iload_n 2, 0, 0, 0, []), (38, .bipush 7, 0, 0, 0, []), (40, .if_icmp .ge 149, 189, 0, 0, []), (43, .aload_n 0, 0, 0, 0, []), (44, .getfield 34, 5, 5, 1, [(0, 183)]), (47, .iload_n 2, 0, 0, 0, []), (48, .iaload, 0, 0, 0, []), (49, .ifCond .eq 19, 68, 0, 0, []), (52, .aload_n 0, 0, 0, 0, []), (53, .getfield 27, 5, 3, 1, [(0, 181)]), (56, .iload_n 2, 0, 0, 0, []), (57, .baload, 0, 0, 0, []), (58, .ifCond .ne 10, 68, 0, 0, []), (61, .aload_n 0, 0, 0, 0, []), (62, .iload_n 1, 0, 0, 0, []), (63, .iload_n 2, 0, 0, 0, []), (64, .invokevirtual 70, 28, 3, 0, [(0, 471)]), (67, .return_, 0, 0, 0, []), (68, .aload_n 0, 0, 0, 0, []), (69, .getfield 24, 5, 2, 1, [(0, 180)]), (72, .iload_n 2, 0, 0, 0, []), (73, .bipush 7, 0, 0, 0, []), (75, .imul, 0, 0, 0, []), (76, .iload_n 2, 0, 0, 0, []), (77, .iadd, 0, 0, 0, []), (78, .iaload, 0, 0, 0, []), (79, .istore_n 3, 0, 0, 0, []), (80, .aload_n 0, 0, 0, 0, []), (81, .getfield 34, 5, 5, 1, [(0, 183)]), (84, .iload_n 2, 0, 0, 0, []), (85, .iaload, 0, 0, 0, []), (86, .ifCond .ne 7, 93, 0, 0, []), (89, .iconst 0, 0, 0, 0, []), (90, .goto 24, 114, 0, 0, []), (93, .aload_n 0, 0, 0, 0, []), (94, .getfield 14, 5, 0, 1, [(0, 178)]), (97, .aload_n 0, 0, 0, 0, []), (98, .getfield 34, 5, 5, 1, [(0, 183)]), (101, .iload_n 2, 0, 0, 0, []), (102, .iaload, 0, 0, 0, []), (103, .aload_n 0, 0, 0, 0, []), (104, .getfield 14, 5, 0, 1, [(0, 178)]), (107, .iload_n 3, 0, 0, 0, []), (108, .invokevirtual 74, 14, 2, 1, [(0, 475)]), (111, .invokevirtual 78, 13, 3, 1, [(0, 476)]), (114, .istore 4, 0, 0, 0, []), (116, .iload_n 2, 0, 0, 0, []), (117, .istore 5, 0, 0, 0, []), (119, .iload 5, 0, 0, 0, []), (121, .bipush 7, 0, 0, 0, []), (123, .if_icmp .ge 60, 183, 0, 0, []), (126, .iload 4, 0, 0, 0, []), (128, .ifCond .eq 55, 183, 0, 0, []), (131, .aload_n 0, 0, 0, 0, []), (132, .getfield 14, 5, 0, 1, [(0, 178)]), (135, .iload 4, 0, 0, 0, []), (137, .aload_n 0, 0, 0, 0, []), (138, .getfield 24, 5, 2, 1, [(0, 180)]), (141, .iload_n 2, 0, 0, 0, []), (142, .bipush 7, 0, 0, 0, []), (144, .imul, 0, 0, 0, []), (145, .iload 5, 0, 0, 0, []), (147, .iadd, 0, 0, 0, []), (148, .iaload, 0, 0, 0, []), (149, .invokevirtual 78, 13, 3, 1, [(0, 476)]), (152, .istore 6, 0, 0, 0, []), (154, .aload_n 0, 0, 0, 0, []), (155, .getfield 34, 5, 5, 1, [(0, 183)]), (158, .iload 5, 0, 0, 0, []), (160, .aload_n 0, 0, 0, 0, []), (161, .getfield 14, 5, 0, 1, [(0, 178)]), (164, .aload_n 0, 0, 0, 0, []), (165, .getfield 34, 5, 5, 1, [(0, 183)]), (168, .iload 5, 0, 0, 0, []), (170, .iaload, 0, 0, 0, []), (171, .iload 6, 0, 0, 0, []), (173, .invokevirtual 81, 12, 3, 1, [(0, 477)]), (176, .iastore, 0, 0, 0, []), (177, .iinc 5 1, 0, 0, 0, []), (180, .goto (-61), 119, 0, 0, []), (183, .iinc 2 1, 0, 0, 0, []), (186, .goto (-149), 37, 0, 0, []), (189, .return_, 0, 0, 0, [])]
abbrev mX5_enter : am_M := (yX5_enter, cX5_enter, 7, none, 5, am_lk tbX5_enter)
def tbX5_keepLeft : List (Nat × am_I) := [(0, .aload_n 0, 0, 0, 0, []), (1, .getfield 34, 5, 5, 1, [(0, 183)]), (4, .iconst 0, 0, 0, 0, []), (5, .aload_n 0, 0, 0, 0, []), (6, .getfield 24, 5, 2, 1, [(0, 180)]), (9, .iload_n 2, 0, 0, 0, []), (10, .bipush 7, 0, 0, 0, []), (12, .imul, 0, 0, 0, []), (13, .bipush 7, 0, 0, 0, []), (15, .invokestatic 64, 999, 0, 0, [(0, 468)]), (18, .aload_n 0, 0, 0, 0, []), (19, .getfield 27, 5, 3, 1, [(0, 181)]), (22, .iload_n 2, 0, 0, 0, []), (23, .iconst 1, 0, 0, 0, []), (24, .bastore, 0, 0, 0, []), (25, .aload_n 0, 0, 0, 0, []), (26, .getfield 31, 5, 4, 1, [(0, 182)]), (29, .iload_n 1, 0, 0, 0, []), (30, .iload_n 2, 0, 0, 0, []), (31, .iastore, 0, 0, 0, []), (32, .aload_n 0, 0, 0, 0, []), (33, .dup, 0, 0, 0, []), (34, .getfield 55, 5, 6, 0, [(0, 184)]), (37, .iconst 1, 0, 0, 0, []), (38, .iadd, 0, 0, 0, []), (39, .putfield 55, 5, 6, 0, [(0, 184)]), (42, .return_, 0, 0, 0, [])]
abbrev mX5_keepLeft : am_M := (yX5_keepLeft, cX5_keepLeft, 3, none, 5, am_lk tbX5_keepLeft)
def tbX5_leave : List (Nat × am_I) := [(0, .iload_n 1, 0, 0, 0, []), (1, .bipush 7, 0, 0, 0, []), (3, .invokestatic 37, 110, 2, 1, [(0, 447)]), (6, .ifCond .eq 42, 48, 0, 0, []), (9, .aload_n 0, 0, 0, 0, []), (10, .getfield 31, 5, 4, 1, [(0, 182)]), (13, .iload_n 1, 0, 0, 0, []), (14, .iaload, 0, 0, 0, []), (15, .iconst (-1), 0, 0, 0, []), (16, .if_icmp .eq 32, 48, 0, 0, []), (19, .aload_n 0, 0, 0, 0, []), (20, .getfield 27, 5, 3, 1, [(0, 181)]), (23, .aload_n 0, 0, 0, 0, []), (24, .getfield 31, 5, 4, 1, [(0, 182)]), (27, .iload_n 1, 0, 0, 0, []), (28, .iaload, 0, 0, 0, []), (29, .iconst 0, 0, 0, 0, []), (30, .bastore, 0, 0, 0, []), (31, .aload_n 0, 0, 0, 0, []), (32, .getfield 31, 5, 4, 1, [(0, 182)]), (35, .iload_n 1, 0, 0, 0, []), (36, .iconst (-1), 0, 0, 0, []), (37, .iastore, 0, 0, 0, []), (38, .aload_n 0, 0, 0, 0, []), (39, .dup, 0, 0, 0, []), (40, .getfield 55, 5, 6, 0, [(0, 184)]), (43, .iconst 1, 0, 0, 0, []), (44, .isub, 0, 0, 0, []), (45, .putfield 55, 5, 6, 0, [(0, 184)]), (48, .return_, 0, 0, 0, [])]
abbrev mX5_leave : am_M := (yX5_leave, cX5_leave, 2, none, 5, am_lk tbX5_leave)
def tbX6_readFrom : List (Nat × am_I) := [(0, .iconst 0, 0, 0, 0, []), (1, .istore_n 3, 0, 0, 0, []), (2, .iconst 0, 0, 0, 0, []), (3, .istore 4, 0, 0, 0, []), (5, .iload 4, 0, 0, 0, []), (7, .iload_n 2, 0, 0, 0, []), (8, .if_icmp .ge 62, 70, 0, 0, []), (11, .iload 4, 0, 0, 0, []), (13, .bipush 7, 0, 0, 0, []), (15, .if_icmp .ge 55, 70, 0, 0, []), (18, .aload_n 1, 0, 0, 0, []), (19, .iload 4, 0, 0, 0, []), (21, .invokevirtual 15, 37, 2, 1, [(0, 638)]), (24, .istore 5, 0, 0, 0, []), (26, .iload 5, 0, 0, 0, []), (28, .iload_n 2, 0, 0, 0, []), (29, .invokestatic 21, 110, 2, 1, [(0, 639)]), (32, .ifCond .eq 12, 44, 0, 0, []), (35, .iload_n 3, 0, 0, 0, []), (36, .iload 5, 0, 0, 0, []), (38, .ishr, 0, 0, 0, []), (39, .iconst 1, 0, 0, 0, []), (40, .iand, 0, 0, 0, []), (41, .ifCond .eq 5, 46, 0, 0, []), (44, .iconst 0, 0, 0, 0, []), (45, .ireturn, 0, 0, 0, []), (46, .iload_n 3, 0, 0, 0, []), (47, .iconst 1, 0, 0, 0, []), (48, .iload 5, 0, 0, 0, []), (50, .ishl, 0, 0, 0, []), (51, .ior, 0, 0, 0, []), (52, .istore_n 3, 0, 0, 0, []), (53, .aload_n 0, 0, 0, 0, []), (54, .getfield 9, 6, 0, 1, [(0, 284)]), (57, .iload 4, 0, 0, 0, []), (59, .iconst 1, 0, 0, 0, []), (60, .iload 5, 0, 0, 0, []), (62, .ishl, 0, 0, 0, []), (63, .iastore, 0, 0, 0, []), (64, .iinc 4 1, 0, 0, 0, []), (67, .goto (-62), 5, 0, 0, []), (70, .iconst 1, 0, 0, 0, []), (71, .ireturn, 0, 0, 0, [])]
abbrev mX6_readFrom : am_M := (yX6_readFrom, cX6_readFrom, 6, some .boolean, 6, am_lk tbX6_readFrom)
def tbX6_newSet : List (Nat × am_I) := [(0, .iconst 0, 0, 0, 0, []), (1, .istore_n 2, 0, 0, 0, []), (2, .iconst 0, 0, 0, 0, []), (3, .istore_n 3, 0, 0, 0, []), (4, .iload_n 3, 0, 0, 0, []), (5, .bipush 7, 0, 0, 0, []), (7, .if_icmp .ge 26, 33, 0, 0, []), (10, .iload_n 1, 0, 0, 0, []), (11, .iload_n 3, 0, 0, 0, []), (12, .ishr, 0, 0, 0, []), (13, .iconst 1, 0, 0, 0, []), (14, .iand, 0, 0, 0, []), (15, .ifCond .eq 12, 27, 0, 0, []), (18, .iload_n 2, 0, 0, 0, []), (19, .aload_n 0, 0, 0, 0, []), (20, .getfield 9, 6, 0, 1, [(0, 284)]), (23, .iload_n 3, 0, 0, 0, []), (24, .iaload, 0, 0, 0, []), (25, .ior, 0, 0, 0, []), (26, .istore_n 2, 0, 0, 0, []), (27, .iinc 3 1, 0, 0, 0, []), (30, .goto (-26), 4, 0, 0, []), (33, .iload_n 2, 0, 0, 0, []), (34, .ireturn, 0, 0, 0, [])]
abbrev mX6_newSet : am_M := (yX6_newSet, cX6_newSet, 4, some .int, 6, am_lk tbX6_newSet)
def tbX6_canMatch : List (Nat × am_I) := [(0, .iload_n 3, 0, 0, 0, []), (1, .aload_n 1, 0, 0, 0, []), (2, .getfield 25, 8, 0, 0, [(0, 104)]), (5, .if_icmp .ge 9, 14, 0, 0, []), (8, .iload_n 3, 0, 0, 0, []), (9, .bipush 7, 0, 0, 0, []), (11, .if_icmp .lt 5, 16, 0, 0, []), (14, .iconst 1, 0, 0, 0, []), (15, .ireturn, 0, 0, 0, []), (16, .iconst 0, 0, 0, 0, []), (17, .istore 5, 0, 0, 0, []), (19, .iload 5, 0, 0, 0, []), (21, .aload_n 2, 0, 0, 0, []), (22, .getfield 25, 8, 0, 0, [(0, 104)]), (25, .if_icmp .ge 60, 85, 0, 0, []), (28, .iload 4, 0, 0, 0, []), (30, .iload 5, 0, 0, 0, []), (32, .ishr, 0, 0, 0, []), (33, .iconst 1, 0, 0, 0, []), (34, .iand, 0, 0, 0, []), (35, .ifCond .ne 44, 79, 0, 0, []), (38, .aload_n 0, 0, 0, 0, []), (39, .getfield 9, 6, 0, 1, [(0, 284)]), (42, .iload_n 3, 0, 0, 0, []), (43, .iconst 1, 0, 0, 0, []), (44, .iload 5, 0, 0, 0, []), (46, .ishl, 0, 0, 0, []), (47, .iastore, 0, 0, 0, []), (48, .aload_n 0, 0, 0, 0, []), (49, .aload_n 1, 0, 0, 0, []), (50, .aload_n 2, 0, 0, 0, []), (51, .iload_n 3, 0, 0, 0, []), (52, .invokevirtual 31, 33, 4, 1, [(0, 663)]), (55, .ifCond .eq 24, 79, 0, 0, []), (58, .aload_n 0, 0, 0, 0, []), (59, .aload_n 1, 0, 0, 0, []), (60, .aload_n 2, 0, 0, 0, []), (61, .iload_n 3, 0, 0, 0, []), (62, .iconst 1, 0, 0, 0, []), (63, .iadd, 0, 0, 0, []), (64, .iload 4, 0, 0, 0, []), (66, .iconst 1, 0, 0, 0, []), (67, .iload 5, 0, 0, 0, []), (69, .ishl, 0, 0, 0, []), (70, .ior, 0, 0, 0, []), (71, .invokestatic 35, 32, 5, 1, [(0, 669)]), (74, .ifCond .eq 5, 79, 0, 0, []), (77, .iconst 1, 0, 0, 0, []), (78, .ireturn, 0, 0, 0, []), (79, .iinc 5 1, 0, 0, 0, []), (82, .goto (-63), 19, 0, 0, []), (85, .iconst 0, 0, 0, 0, []), (86, .ireturn, 0, 0, 0, [])]
abbrev mX6_canMatch : am_M := (yX6_canMatch, cX6_canMatch, 6, some .boolean, 12, am_lk tbX6_canMatch)
def tbX6_agrees : List (Nat × am_I) := [(0, .iconst 1, 0, 0, 0, []), (1, .iload_n 3, 0, 0, 0, []), (2, .ishl, 0, 0, 0, []), (3, .istore 4, 0, 0, 0, []), (5, .iload 4, 0, 0, 0, []), (7, .iconst 2, 0, 0, 0, []), (8, .iload_n 3, 0, 0, 0, []), (9, .ishl, 0, 0, 0, []), (10, .if_icmp .ge 30, 40, 0, 0, []), (13, .aload_n 1, 0, 0, 0, []), (14, .iload 4, 0, 0, 0, []), (16, .invokevirtual 39, 41, 2, 1, [(0, 667)]), (19, .aload_n 2, 0, 0, 0, []), (20, .aload_n 0, 0, 0, 0, []), (21, .iload 4, 0, 0, 0, []), (23, .invokevirtual 42, 31, 2, 1, [(0, 668)]), (26, .invokevirtual 39, 41, 2, 1, [(0, 667)]), (29, .if_icmp .eq 5, 34, 0, 0, []), (32, .iconst 0, 0, 0, 0, []), (33, .ireturn, 0, 0, 0, []), (34, .iinc 4 1, 0, 0, 0, []), (37, .goto (-32), 5, 0, 0, []), (40, .iconst 1, 0, 0, 0, []), (41, .ireturn, 0, 0, 0, [])]
abbrev mX6_agrees : am_M := (yX6_agrees, cX6_agrees, 5, some .boolean, 6, am_lk tbX6_agrees)
def tbX7_isMissing : List (Nat × am_I) := [(0, .aload_n 0, 0, 0, 0, []), (1, .getfield 11, 7, 0, 0, [(0, 314)]), (4, .iconst (-1), 0, 0, 0, []), (5, .if_icmp .ne 7, 12, 0, 0, []), (8, .iconst 1, 0, 0, 0, []), (9, .goto 4, 13, 0, 0, []), (12, .iconst 0, 0, 0, 0, []), (13, .ireturn, 0, 0, 0, [])]
abbrev mX7_isMissing : am_M := (yX7_isMissing, cX7_isMissing, 1, some .boolean, 7, am_lk tbX7_isMissing)
def tbX7_become : List (Nat × am_I) := [(0, .aload_n 0, 0, 0, 0, []), (1, .iload_n 1, 0, 0, 0, []), (2, .putfield 11, 7, 0, 0, [(0, 314)]), (5, .aload_n 0, 0, 0, 0, []), (6, .iload_n 2, 0, 0, 0, []), (7, .bipush 64, 0, 0, 0, []), (9, .invokestatic 19, 997, 0, 0, [(0, 736)]), (12, .putfield 25, 7, 1, 0, [(0, 317)]), (15, .iconst 0, 0, 0, 0, []), (16, .istore_n 3, 0, 0, 0, []), (17, .iload_n 3, 0, 0, 0, []), (18, .bipush 64, 0, 0, 0, []), (20, .if_icmp .ge 16, 36, 0, 0, []), (23, .aload_n 0, 0, 0, 0, []), (24, .getfield 15, 7, 2, 1, [(0, 320)]), (27, .iload_n 3, 0, 0, 0, []), (28, .iconst 0, 0, 0, 0, []), (29, .iastore, 0, 0, 0, []), (30, .iinc 3 1, 0, 0, 0, []), (33, .goto (-16), 17, 0, 0, []), (36, .return_, 0, 0, 0, [])]
abbrev mX7_become : am_M := (yX7_become, cX7_become, 4, none, 7, am_lk tbX7_become)
def tbX7_hasPlaces : List (Nat × am_I) := [(0, .iload_n 1, 0, 0, 0, []), (1, .ifCond .lt 21, 22, 0, 0, []), (4, .iload_n 2, 0, 0, 0, []), (5, .ifCond .lt 17, 22, 0, 0, []), (8, .iload_n 1, 0, 0, 0, []), (9, .aload_n 0, 0, 0, 0, []), (10, .getfield 25, 7, 1, 0, [(0, 317)]), (13, .iload_n 2, 0, 0, 0, []), (14, .isub, 0, 0, 0, []), (15, .if_icmp .gt 7, 22, 0, 0, []), (18, .iconst 1, 0, 0, 0, []), (19, .goto 4, 23, 0, 0, []), (22, .iconst 0, 0, 0, 0, []), (23, .ireturn, 0, 0, 0, [])]
abbrev mX7_hasPlaces : am_M := (yX7_hasPlaces, cX7_hasPlaces, 3, some .boolean, 7, am_lk tbX7_hasPlaces)
def tbX7_numberAt : List (Nat × am_I) := [(0, .iload_n 1, 0, 0, 0, []), (1, .aload_n 0, 0, 0, 0, []), (2, .getfield 25, 7, 1, 0, [(0, 317)]), (5, .invokestatic 28, 110, 2, 1, [(0, 431)]), (8, .ifCond .eq 12, 20, 0, 0, []), (11, .aload_n 0, 0, 0, 0, []), (12, .getfield 15, 7, 2, 1, [(0, 320)]), (15, .iload_n 1, 0, 0, 0, []), (16, .iaload, 0, 0, 0, []), (17, .goto 4, 21, 0, 0, []), (20, .iconst 0, 0, 0, 0, []), (21, .ireturn, 0, 0, 0, [])]
abbrev mX7_numberAt : am_M := (yX7_numberAt, cX7_numberAt, 2, some .int, 7, am_lk tbX7_numberAt)
def tbX7_put : List (Nat × am_I) := [(0, .iload_n 1, 0, 0, 0, []), (1, .aload_n 0, 0, 0, 0, []), (2, .getfield 25, 7, 1, 0, [(0, 317)]), (5, .invokestatic 28, 110, 2, 1, [(0, 431)]), (8, .ifCond .eq 22, 30, 0, 0, []), (11, .aload_n 0, 0, 0, 0, []), (12, .getfield 15, 7, 2, 1, [(0, 320)]), (15, .iload_n 1, 0, 0, 0, []), (16, .aload_n 0, 0, 0, 0, []), (17, .getfield 11, 7, 0, 0, [(0, 314)]), (20, .ifCond .ne 8, 28, 0, 0, []), (23, .iload_n 2, 0, 0, 0, []), (24, .i2b, 0, 0, 0, []), (25, .goto 4, 29, 0, 0, []), (28, .iload_n 2, 0, 0, 0, []), (29, .iastore, 0, 0, 0, []), (30, .return_, 0, 0, 0, [])]
abbrev mX7_put : am_M := (yX7_put, cX7_put, 3, none, 7, am_lk tbX7_put)
def tbX7_weightOf : List (Nat × am_I) := [(0, .iconst 0, 0, 0, 0, []), (1, .istore_n 2, 0, 0, 0, []), (2, .iconst 0, 0, 0, 0, []), (3, .istore_n 3, 0, 0, 0, []), (4, .iload_n 3, 0, 0, 0, []), (5, .bipush 7, 0, 0, 0, []), (7, .if_icmp .ge 25, 32, 0, 0, []), (10, .iload_n 1, 0, 0, 0, []), (11, .iload_n 3, 0, 0, 0, []), (12, .ishr, 0, 0, 0, []), (13, .iconst 1, 0, 0, 0, []), (14, .iand, 0, 0, 0, []), (15, .ifCond .eq 11, 26, 0, 0, []), (18, .iload_n 2, 0, 0, 0, []), (19, .aload_n 0, 0, 0, 0, []), (20, .iload_n 3, 0, 0, 0, []), (21, .invokevirtual 32, 37, 2, 1, [(0, 596)]), (24, .iadd, 0, 0, 0, []), (25, .istore_n 2, 0, 0, 0, []), (26, .iinc 3 1, 0, 0, 0, []), (29, .goto (-25), 4, 0, 0, []), (32, .iload_n 2, 0, 0, 0, []), (33, .ireturn, 0, 0, 0, [])]
abbrev mX7_weightOf : am_M := (yX7_weightOf, cX7_weightOf, 4, some .int, 7, am_lk tbX7_weightOf)
def tbX8_all : List (Nat × am_I) := [(0, .iconst 1, 0, 0, 0, []), (1, .aload_n 0, 0, 0, 0, []), (2, .getfield 15, 8, 0, 0, [(0, 102)]), (5, .ishl, 0, 0, 0, []), (6, .iconst 1, 0, 0, 0, []), (7, .isub, 0, 0, 0, []), (8, .ireturn, 0, 0, 0, [])]
abbrev mX8_all : am_M := (yX8_all, cX8_all, 1, some .int, 8, am_lk tbX8_all)
def tbX8_rankOf : List (Nat × am_I) := [(0, .aload_n 0, 0, 0, 0, []), (1, .getfield 9, 8, 1, 1, [(0, 107)]), (4, .iload_n 1, 0, 0, 0, []), (5, .bipush 127, 0, 0, 0, []), (7, .iand, 0, 0, 0, []), (8, .iaload, 0, 0, 0, []), (9, .ireturn, 0, 0, 0, [])]
abbrev mX8_rankOf : am_M := (yX8_rankOf, cX8_rankOf, 2, some .int, 8, am_lk tbX8_rankOf)
def tbX8_fullRank : List (Nat × am_I) := [(0, .aload_n 0, 0, 0, 0, []), (1, .aload_n 0, 0, 0, 0, []), (2, .invokevirtual 19, 40, 1, 1, [(0, 402)]), (5, .invokevirtual 23, 41, 2, 1, [(0, 482)]), (8, .ireturn, 0, 0, 0, [])]
abbrev mX8_fullRank : am_M := (yX8_fullRank, cX8_fullRank, 1, some .int, 8, am_lk tbX8_fullRank)
def tbX8_become : List (Nat × am_I) := [(0, .aload_n 0, 0, 0, 0, []), (1, .aload_n 1, 0, 0, 0, []), (2, .getfield 15, 8, 0, 0, [(0, 102)]), (5, .putfield 15, 8, 0, 0, [(0, 102)]), (8, .aload_n 1, 0, 0, 0, []), (9, .getfield 9, 8, 1, 1, [(0, 107)]), (12, .iconst 0, 0, 0, 0, []), (13, .aload_n 0, 0, 0, 0, []), (14, .getfield 9, 8, 1, 1, [(0, 107)]), (17, .iconst 0, 0, 0, 0, []), (18, .sipush 128, 0, 0, 0, []), (21, .invokestatic 27, 999, 0, 0, [(0, 610)]), (24, .return_, 0, 0, 0, [])]
abbrev mX8_become : am_M := (yX8_become, cX8_become, 2, none, 8, am_lk tbX8_become)
def tbX8_becomeUniform : List (Nat × am_I) := [(0, .aload_n 0, 0, 0, 0, []), (1, .iload_n 1, 0, 0, 0, []), (2, .putfield 15, 8, 0, 0, [(0, 102)]), (5, .iconst 0, 0, 0, 0, []), (6, .istore_n 3, 0, 0, 0, []), (7, .iload_n 3, 0, 0, 0, []), (8, .aload_n 0, 0, 0, 0, []), (9, .invokevirtual 19, 40, 1, 1, [(0, 402)]), (12, .if_icmp .gt 26, 38, 0, 0, []), (15, .aload_n 0, 0, 0, 0, []), (16, .getfield 9, 8, 1, 1, [(0, 107)]), (19, .iload_n 3, 0, 0, 0, []), (20, .bipush 127, 0, 0, 0, []), (22, .iand, 0, 0, 0, []), (23, .iload_n 3, 0, 0, 0, []), (24, .invokestatic 33, 0, 1, 1, [(0, 406)]), (27, .iload_n 2, 0, 0, 0, []), (28, .invokestatic 38, 997, 0, 0, [(0, 412)]), (31, .iastore, 0, 0, 0, []), (32, .iinc 3 1, 0, 0, 0, []), (35, .goto (-28), 7, 0, 0, []), (38, .return_, 0, 0, 0, [])]
abbrev mX8_becomeUniform : am_M := (yX8_becomeUniform, cX8_becomeUniform, 4, none, 8, am_lk tbX8_becomeUniform)
def tbX8_becomeByColumns : List (Nat × am_I) := [(0, .aload_n 0, 0, 0, 0, []), (1, .iload_n 2, 0, 0, 0, []), (2, .putfield 15, 8, 0, 0, [(0, 102)]), (5, .aload_n 1, 0, 0, 0, []), (6, .invokevirtual 44, 25, 1, 0, [(0, 452)]), (9, .aload_n 0, 0, 0, 0, []), (10, .getfield 9, 8, 1, 1, [(0, 107)]), (13, .iconst 0, 0, 0, 0, []), (14, .iconst 0, 0, 0, 0, []), (15, .iastore, 0, 0, 0, []), (16, .iconst 1, 0, 0, 0, []), (17, .istore_n 3, 0, 0, 0, []), (18, .iload_n 3, 0, 0, 0, []), (19, .aload_n 0, 0, 0, 0, []), (20, .invokevirtual 19, 40, 1, 1, [(0, 402)]), (23, .if_icmp .gt 56, 79, 0, 0, []), (26, .iload_n 3, 0, 0, 0, []), (27, .invokestatic 49, 1, 1, 1, [(0, 456)]), (30, .istore 4, 0, 0, 0, []), (32, .iconst 0, 0, 0, 0, []), (33, .istore 5, 0, 0, 0, []), (35, .iload 5, 0, 0, 0, []), (37, .iload 4, 0, 0, 0, []), (39, .if_icmp .ge 15, 54, 0, 0, []), (42, .aload_n 1, 0, 0, 0, []), (43, .iload 5, 0, 0, 0, []), (45, .invokevirtual 52, 29, 2, 0, [(0, 460)]), (48, .iinc 5 1, 0, 0, 0, []), (51, .goto (-16), 35, 0, 0, []), (54, .aload_n 1, 0, 0, 0, []), (55, .iload 4, 0, 0, 0, []), (57, .invokevirtual 56, 27, 2, 0, [(0, 464)]), (60, .aload_n 0, 0, 0, 0, []), (61, .getfield 9, 8, 1, 1, [(0, 107)]), (64, .iload_n 3, 0, 0, 0, []), (65, .bipush 127, 0, 0, 0, []), (67, .iand, 0, 0, 0, []), (68, .aload_n 1, 0, 0, 0, []), (69, .getfield 59, 5, 6, 0, [(0, 185)]), (72, .iastore, 0, 0, 0, []), (73, .iinc 3 1, 0, 0, 0, []), (76, .goto (-58), 18, 0, 0, []), (79, .return_, 0, 0, 0, [])]
abbrev mX8_becomeByColumns : am_M := (yX8_becomeByColumns, cX8_becomeByColumns, 6, none, 8, am_lk tbX8_becomeByColumns)
def tbX8_becomeByBases : List (Nat × am_I) := [(0, .aload_n 0, 0, 0, 0, []), (1, .iload_n 2, 0, 0, 0, []), (2, .putfield 15, 8, 0, 0, [(0, 102)]), (5, .iconst 0, 0, 0, 0, []), (6, .istore_n 3, 0, 0, 0, []), (7, .iload_n 3, 0, 0, 0, []), (8, .aload_n 0, 0, 0, 0, []), (9, .invokevirtual 19, 40, 1, 1, [(0, 402)]), (12, .if_icmp .gt 59, 71, 0, 0, []), (15, .iconst 0, 0, 0, 0, []), (16, .istore 4, 0, 0, 0, []), (18, .iconst 0, 0, 0, 0, []), (19, .istore 5, 0, 0, 0, []), (21, .iload 5, 0, 0, 0, []), (23, .aload_n 1, 0, 0, 0, []), (24, .getfield 62, 7, 1, 0, [(0, 319)]), (27, .if_icmp .ge 27, 54, 0, 0, []), (30, .iload 4, 0, 0, 0, []), (32, .aload_n 1, 0, 0, 0, []), (33, .iload 5, 0, 0, 0, []), (35, .invokevirtual 67, 37, 2, 1, [(0, 517)]), (38, .iload_n 3, 0, 0, 0, []), (39, .iand, 0, 0, 0, []), (40, .invokestatic 33, 0, 1, 1, [(0, 406)]), (43, .invokestatic 70, 998, 0, 0, [(0, 518)]), (46, .istore 4, 0, 0, 0, []), (48, .iinc 5 1, 0, 0, 0, []), (51, .goto (-30), 21, 0, 0, []), (54, .aload_n 0, 0, 0, 0, []), (55, .getfield 9, 8, 1, 1, [(0, 107)]), (58, .iload_n 3, 0, 0, 0, []), (59, .bipush 127, 0, 0, 0, []), (61, .iand, 0, 0, 0, []), (62, .iload 4, 0, 0, 0, []), (64, .iastore, 0, 0, 0, []), (65, .iinc 3 1, 0, 0, 0, []), (68, .goto (-61), 7, 0, 0, []), (71, .return_, 0, 0, 0, [])]
abbrev mX8_becomeByBases : am_M := (yX8_becomeByBases, cX8_becomeByBases, 6, none, 8, am_lk tbX8_becomeByBases)
def tbX8_becomeDual : List (Nat × am_I) := [(0, .aload_n 0, 0, 0, 0, []), (1, .aload_n 1, 0, 0, 0, []), (2, .getfield 15, 8, 0, 0, [(0, 102)]), (5, .putfield 15, 8, 0, 0, [(0, 102)]), (8, .iconst 0, 0, 0, 0, []), (9, .istore_n 2, 0, 0, 0, []), (10, .iload_n 2, 0, 0, 0, []), (11, .aload_n 0, 0, 0, 0, []), (12, .invokevirtual 19, 40, 1, 1, [(0, 402)]), (15, .if_icmp .gt 40, 55, 0, 0, []), (18, .aload_n 0, 0, 0, 0, []), (19, .getfield 9, 8, 1, 1, [(0, 107)]), (22, .iload_n 2, 0, 0, 0, []), (23, .bipush 127, 0, 0, 0, []), (25, .iand, 0, 0, 0, []), (26, .iload_n 2, 0, 0, 0, []), (27, .invokestatic 33, 0, 1, 1, [(0, 406)]), (30, .aload_n 1, 0, 0, 0, []), (31, .aload_n 0, 0, 0, 0, []), (32, .invokevirtual 19, 40, 1, 1, [(0, 402)]), (35, .iload_n 2, 0, 0, 0, []), (36, .iconst (-1), 0, 0, 0, []), (37, .ixor, 0, 0, 0, []), (38, .iand, 0, 0, 0, []), (39, .invokevirtual 23, 41, 2, 1, [(0, 482)]), (42, .iadd, 0, 0, 0, []), (43, .aload_n 1, 0, 0, 0, []), (44, .invokevirtual 73, 42, 1, 1, [(0, 557)]), (47, .isub, 0, 0, 0, []), (48, .iastore, 0, 0, 0, []), (49, .iinc 2 1, 0, 0, 0, []), (52, .goto (-42), 10, 0, 0, []), (55, .return_, 0, 0, 0, [])]
abbrev mX8_becomeDual : am_M := (yX8_becomeDual, cX8_becomeDual, 3, none, 8, am_lk tbX8_becomeDual)
def tbX8_becomeMinor : List (Nat × am_I) := [(0, .aload_n 1, 0, 0, 0, []), (1, .invokevirtual 19, 40, 1, 1, [(0, 402)]), (4, .iload_n 2, 0, 0, 0, []), (5, .iload_n 3, 0, 0, 0, []), (6, .ior, 0, 0, 0, []), (7, .iconst (-1), 0, 0, 0, []), (8, .ixor, 0, 0, 0, []), (9, .iand, 0, 0, 0, []), (10, .istore 4, 0, 0, 0, []), (12, .aload_n 0, 0, 0, 0, []), (13, .iload 4, 0, 0, 0, []), (15, .invokestatic 33, 0, 1, 1, [(0, 406)]), (18, .putfield 15, 8, 0, 0, [(0, 102)]), (21, .aload_n 1, 0, 0, 0, []), (22, .iload_n 2, 0, 0, 0, []), (23, .invokevirtual 23, 41, 2, 1, [(0, 482)]), (26, .istore 5, 0, 0, 0, []), (28, .iconst 0, 0, 0, 0, []), (29, .istore 6, 0, 0, 0, []), (31, .iload 6, 0, 0, 0, []), (33, .aload_n 0, 0, 0, 0, []), (34, .invokevirtual 19, 40, 1, 1, [(0, 402)]), (37, .if_icmp .gt 35, 72, 0, 0, []), (40, .aload_n 0, 0, 0, 0, []), (41, .getfield 9, 8, 1, 1, [(0, 107)]), (44, .iload 6, 0, 0, 0, []), (46, .bipush 127, 0, 0, 0, []), (48, .iand, 0, 0, 0, []), (49, .aload_n 1, 0, 0, 0, []), (50, .iload 4, 0, 0, 0, []), (52, .iload 6, 0, 0, 0, []), (54, .invokestatic 76, 49, 2, 1, [(0, 619)]), (57, .iload_n 2, 0, 0, 0, []), (58, .ior, 0, 0, 0, []), (59, .invokevirtual 23, 41, 2, 1, [(0, 482)]), (62, .iload 5, 0, 0, 0, []), (64, .isub, 0, 0, 0, []), (65, .iastore, 0, 0, 0, []), (66, .iinc 6 1, 0, 0, 0, []), (69, .goto (-38), 31, 0, 0, []), (72, .return_, 0, 0, 0, [])]
abbrev mX8_becomeMinor : am_M := (yX8_becomeMinor, cX8_becomeMinor, 7, none, 8, am_lk tbX8_becomeMinor)
def tbX8_spreadOver : List (Nat × am_I) := [(0, .iconst 0, 0, 0, 0, []), (1, .istore_n 2, 0, 0, 0, []), (2, .iconst 0, 0, 0, 0, []), (3, .istore_n 3, 0, 0, 0, []), (4, .iconst 0, 0, 0, 0, []), (5, .istore 4, 0, 0, 0, []), (7, .iload 4, 0, 0, 0, []), (9, .bipush 7, 0, 0, 0, []), (11, .if_icmp .ge 32, 43, 0, 0, []), (14, .iload_n 0, 0, 0, 0, []), (15, .iload 4, 0, 0, 0, []), (17, .ishr, 0, 0, 0, []), (18, .iconst 1, 0, 0, 0, []), (19, .iand, 0, 0, 0, []), (20, .ifCond .eq 17, 37, 0, 0, []), (23, .iload_n 2, 0, 0, 0, []), (24, .iload_n 1, 0, 0, 0, []), (25, .iload_n 3, 0, 0, 0, []), (26, .ishr, 0, 0, 0, []), (27, .iconst 1, 0, 0, 0, []), (28, .iand, 0, 0, 0, []), (29, .iload 4, 0, 0, 0, []), (31, .ishl, 0, 0, 0, []), (32, .ior, 0, 0, 0, []), (33, .istore_n 2, 0, 0, 0, []), (34, .iinc 3 1, 0, 0, 0, []), (37, .iinc 4 1, 0, 0, 0, []), (40, .goto (-33), 7, 0, 0, []), (43, .iload_n 2, 0, 0, 0, []), (44, .ireturn, 0, 0, 0, [])]
abbrev mX8_spreadOver : am_M := (yX8_spreadOver, cX8_spreadOver, 5, some .int, 12, am_lk tbX8_spreadOver)
def tbX8_becomeUnion : List (Nat × am_I) := [(0, .aload_n 0, 0, 0, 0, []), (1, .aload_n 1, 0, 0, 0, []), (2, .getfield 15, 8, 0, 0, [(0, 102)]), (5, .putfield 15, 8, 0, 0, [(0, 102)]), (8, .iconst 0, 0, 0, 0, []), (9, .istore_n 3, 0, 0, 0, []), (10, .iload_n 3, 0, 0, 0, []), (11, .aload_n 0, 0, 0, 0, []), (12, .invokevirtual 19, 40, 1, 1, [(0, 402)]), (15, .if_icmp .gt 84, 99, 0, 0, []), (18, .iload_n 3, 0, 0, 0, []), (19, .invokestatic 33, 0, 1, 1, [(0, 406)]), (22, .istore 4, 0, 0, 0, []), (24, .iconst 0, 0, 0, 0, []), (25, .istore 5, 0, 0, 0, []), (27, .iload 5, 0, 0, 0, []), (29, .iload_n 3, 0, 0, 0, []), (30, .if_icmp .gt 52, 82, 0, 0, []), (33, .iload 5, 0, 0, 0, []), (35, .iload_n 3, 0, 0, 0, []), (36, .iconst (-1), 0, 0, 0, []), (37, .ixor, 0, 0, 0, []), (38, .iand, 0, 0, 0, []), (39, .ifCond .ne 37, 76, 0, 0, []), (42, .aload_n 1, 0, 0, 0, []), (43, .iload 5, 0, 0, 0, []), (45, .invokevirtual 23, 41, 2, 1, [(0, 482)]), (48, .aload_n 2, 0, 0, 0, []), (49, .iload 5, 0, 0, 0, []), (51, .invokevirtual 23, 41, 2, 1, [(0, 482)]), (54, .iadd, 0, 0, 0, []), (55, .iload_n 3, 0, 0, 0, []), (56, .iload 5, 0, 0, 0, []), (58, .iconst (-1), 0, 0, 0, []), (59, .ixor, 0, 0, 0, []), (60, .iand, 0, 0, 0, []), (61, .invokestatic 33, 0, 1, 1, [(0, 406)]), (64, .iadd, 0, 0, 0, []), (65, .istore 6, 0, 0, 0, []), (67, .iload 4, 0, 0, 0, []), (69, .iload 6, 0, 0, 0, []), (71, .invokestatic 38, 997, 0, 0, [(0, 412)]), (74, .istore 4, 0, 0, 0, []), (76, .iinc 5 1, 0, 0, 0, []), (79, .goto (-52), 27, 0, 0, []), (82, .aload_n 0, 0, 0, 0, []), (83, .getfield 9, 8, 1, 1, [(0, 107)]), (86, .iload_n 3, 0, 0, 0, []), (87, .bipush 127, 0, 0, 0, []), (89, .iand, 0, 0, 0, []), (90, .iload 4, 0, 0, 0, []), (92, .iastore, 0, 0, 0, []), (93, .iinc 3 1, 0, 0, 0, []), (96, .goto (-86), 10, 0, 0, []), (99, .return_, 0, 0, 0, [])]
abbrev mX8_becomeUnion : am_M := (yX8_becomeUnion, cX8_becomeUnion, 7, none, 8, am_lk tbX8_becomeUnion)
def tbX8_becomeRenumbered : List (Nat × am_I) := [(0, .aload_n 0, 0, 0, 0, []), (1, .aload_n 1, 0, 0, 0, []), (2, .getfield 15, 8, 0, 0, [(0, 102)]), (5, .putfield 15, 8, 0, 0, [(0, 102)]), (8, .iconst 0, 0, 0, 0, []), (9, .istore_n 3, 0, 0, 0, []), (10, .iload_n 3, 0, 0, 0, []), (11, .aload_n 0, 0, 0, 0, []), (12, .invokevirtual 19, 40, 1, 1, [(0, 402)]), (15, .if_icmp .gt 27, 42, 0, 0, []), (18, .aload_n 0, 0, 0, 0, []), (19, .getfield 9, 8, 1, 1, [(0, 107)]), (22, .aload_n 2, 0, 0, 0, []), (23, .iload_n 3, 0, 0, 0, []), (24, .invokevirtual 79, 31, 2, 1, [(0, 644)]), (27, .bipush 127, 0, 0, 0, []), (29, .iand, 0, 0, 0, []), (30, .aload_n 1, 0, 0, 0, []), (31, .iload_n 3, 0, 0, 0, []), (32, .invokevirtual 23, 41, 2, 1, [(0, 482)]), (35, .iastore, 0, 0, 0, []), (36, .iinc 3 1, 0, 0, 0, []), (39, .goto (-29), 10, 0, 0, []), (42, .return_, 0, 0, 0, [])]
abbrev mX8_becomeRenumbered : am_M := (yX8_becomeRenumbered, cX8_becomeRenumbered, 4, none, 8, am_lk tbX8_becomeRenumbered)
def tbX8_leastUnlike : List (Nat × am_I) := [(0, .iconst 0, 0, 0, 0, []), (1, .istore_n 2, 0, 0, 0, []), (2, .iload_n 2, 0, 0, 0, []), (3, .aload_n 0, 0, 0, 0, []), (4, .invokevirtual 19, 40, 1, 1, [(0, 402)]), (7, .if_icmp .gt 24, 31, 0, 0, []), (10, .aload_n 0, 0, 0, 0, []), (11, .iload_n 2, 0, 0, 0, []), (12, .invokevirtual 23, 41, 2, 1, [(0, 482)]), (15, .aload_n 1, 0, 0, 0, []), (16, .iload_n 2, 0, 0, 0, []), (17, .invokevirtual 23, 41, 2, 1, [(0, 482)]), (20, .if_icmp .eq 5, 25, 0, 0, []), (23, .iload_n 2, 0, 0, 0, []), (24, .ireturn, 0, 0, 0, []), (25, .iinc 2 1, 0, 0, 0, []), (28, .goto (-26), 2, 0, 0, []), (31, .iconst (-1), 0, 0, 0, []), (32, .ireturn, 0, 0, 0, [])]
abbrev mX8_leastUnlike : am_M := (yX8_leastUnlike, cX8_leastUnlike, 3, some .int, 8, am_lk tbX8_leastUnlike)
def tbX8_spanOf : List (Nat × am_I) := [(0, .iload_n 1, 0, 0, 0, []), (1, .istore_n 2, 0, 0, 0, []), (2, .iconst 0, 0, 0, 0, []), (3, .istore_n 3, 0, 0, 0, []), (4, .iload_n 3, 0, 0, 0, []), (5, .aload_n 0, 0, 0, 0, []), (6, .getfield 15, 8, 0, 0, [(0, 102)]), (9, .if_icmp .ge 32, 41, 0, 0, []), (12, .aload_n 0, 0, 0, 0, []), (13, .iload_n 1, 0, 0, 0, []), (14, .iconst 1, 0, 0, 0, []), (15, .iload_n 3, 0, 0, 0, []), (16, .ishl, 0, 0, 0, []), (17, .ior, 0, 0, 0, []), (18, .invokevirtual 23, 41, 2, 1, [(0, 482)]), (21, .aload_n 0, 0, 0, 0, []), (22, .iload_n 1, 0, 0, 0, []), (23, .invokevirtual 23, 41, 2, 1, [(0, 482)]), (26, .if_icmp .ne 9, 35, 0, 0, []), (29, .iload_n 2, 0, 0, 0, []), (30, .iconst 1, 0, 0, 0, []), (31, .iload_n 3, 0, 0, 0, []), (32, .ishl, 0, 0, 0, []), (33, .ior, 0, 0, 0, []), (34, .istore_n 2, 0, 0, 0, []), (35, .iinc 3 1, 0, 0, 0, []), (38, .goto (-34), 4, 0, 0, []), (41, .iload_n 2, 0, 0, 0, []), (42, .ireturn, 0, 0, 0, [])]
abbrev mX8_spanOf : am_M := (yX8_spanOf, cX8_spanOf, 4, some .int, 8, am_lk tbX8_spanOf)
def tbX8_isFree : List (Nat × am_I) := [(0, .aload_n 0, 0, 0, 0, []), (1, .iload_n 1, 0, 0, 0, []), (2, .invokevirtual 23, 41, 2, 1, [(0, 482)]), (5, .iload_n 1, 0, 0, 0, []), (6, .invokestatic 33, 0, 1, 1, [(0, 406)]), (9, .if_icmp .ne 7, 16, 0, 0, []), (12, .iconst 1, 0, 0, 0, []), (13, .goto 4, 17, 0, 0, []), (16, .iconst 0, 0, 0, 0, []), (17, .ireturn, 0, 0, 0, [])]
abbrev mX8_isFree : am_M := (yX8_isFree, cX8_isFree, 2, some .boolean, 8, am_lk tbX8_isFree)
def tbX8_isBase : List (Nat × am_I) := [(0, .aload_n 0, 0, 0, 0, []), (1, .iload_n 1, 0, 0, 0, []), (2, .invokevirtual 84, 54, 2, 1, [(0, 549)]), (5, .ifCond .eq 19, 24, 0, 0, []), (8, .aload_n 0, 0, 0, 0, []), (9, .iload_n 1, 0, 0, 0, []), (10, .invokevirtual 23, 41, 2, 1, [(0, 482)]), (13, .aload_n 0, 0, 0, 0, []), (14, .invokevirtual 73, 42, 1, 1, [(0, 557)]), (17, .if_icmp .ne 7, 24, 0, 0, []), (20, .iconst 1, 0, 0, 0, []), (21, .goto 4, 25, 0, 0, []), (24, .iconst 0, 0, 0, 0, []), (25, .ireturn, 0, 0, 0, [])]
abbrev mX8_isBase : am_M := (yX8_isBase, cX8_isBase, 2, some .boolean, 8, am_lk tbX8_isBase)
def tbX8_isCircuit : List (Nat × am_I) := [(0, .aload_n 0, 0, 0, 0, []), (1, .iload_n 1, 0, 0, 0, []), (2, .invokevirtual 84, 54, 2, 1, [(0, 549)]), (5, .ifCond .eq 5, 10, 0, 0, []), (8, .iconst 0, 0, 0, 0, []), (9, .ireturn, 0, 0, 0, []), (10, .iconst 0, 0, 0, 0, []), (11, .istore_n 2, 0, 0, 0, []), (12, .iload_n 2, 0, 0, 0, []), (13, .aload_n 0, 0, 0, 0, []), (14, .getfield 15, 8, 0, 0, [(0, 102)]), (17, .if_icmp .ge 33, 50, 0, 0, []), (20, .iload_n 1, 0, 0, 0, []), (21, .iload_n 2, 0, 0, 0, []), (22, .ishr, 0, 0, 0, []), (23, .iconst 1, 0, 0, 0, []), (24, .iand, 0, 0, 0, []), (25, .ifCond .eq 19, 44, 0, 0, []), (28, .aload_n 0, 0, 0, 0, []), (29, .iload_n 1, 0, 0, 0, []), (30, .iconst 1, 0, 0, 0, []), (31, .iload_n 2, 0, 0, 0, []), (32, .ishl, 0, 0, 0, []), (33, .iconst (-1), 0, 0, 0, []), (34, .ixor, 0, 0, 0, []), (35, .iand, 0, 0, 0, []), (36, .invokevirtual 84, 54, 2, 1, [(0, 549)]), (39, .ifCond .ne 5, 44, 0, 0, []), (42, .iconst 0, 0, 0, 0, []), (43, .ireturn, 0, 0, 0, []), (44, .iinc 2 1, 0, 0, 0, []), (47, .goto (-35), 12, 0, 0, []), (50, .iconst 1, 0, 0, 0, []), (51, .ireturn, 0, 0, 0, [])]
abbrev mX8_isCircuit : am_M := (yX8_isCircuit, cX8_isCircuit, 3, some .boolean, 8, am_lk tbX8_isCircuit)
def tbX8_isOfSort : List (Nat × am_I) := [(0, .iload_n 1, 0, 0, 0, []), (1, .tableswitch 97 1 5 #[35, 41, 47, 53, 68], 98, 0, 0, [(1, 36), (2, 42), (3, 48), (4, 54), (5, 69)]), (36, .aload_n 0, 0, 0, 0, []), (37, .iload_n 2, 0, 0, 0, []), (38, .invokevirtual 84, 54, 2, 1, [(0, 549)]), (41, .ireturn, 0, 0, 0, []), (42, .aload_n 0, 0, 0, 0, []), (43, .iload_n 2, 0, 0, 0, []), (44, .invokevirtual 88, 55, 2, 1, [(0, 553)]), (47, .ireturn, 0, 0, 0, []), (48, .aload_n 0, 0, 0, 0, []), (49, .iload_n 2, 0, 0, 0, []), (50, .invokevirtual 91, 56, 2, 1, [(0, 558)]), (53, .ireturn, 0, 0, 0, []), (54, .aload_n 0, 0, 0, 0, []), (55, .iload_n 2, 0, 0, 0, []), (56, .invokevirtual 94, 53, 2, 1, [(0, 562)]), (59, .iload_n 2, 0, 0, 0, []), (60, .if_icmp .ne 7, 67, 0, 0, []), (63, .iconst 1, 0, 0, 0, []), (64, .goto 4, 68, 0, 0, []), (67, .iconst 0, 0, 0, 0, []), (68, .ireturn, 0, 0, 0, []), (69, .aload_n 0, 0, 0, 0, []), (70, .iload_n 2, 0, 0, 0, []), (71, .invokevirtual 23, 41, 2, 1, [(0, 482)]), (74, .aload_n 0, 0, 0, 0, []), (75, .invokevirtual 73, 42, 1, 1, [(0, 557)]), (78, .iconst 1, 0, 0, 0, []), (79, .isub, 0, 0, 0, []), (80, .if_icmp .ne 16, 96, 0, 0, []), (83, .aload_n 0, 0, 0, 0, []), (84, .iload_n 2, 0, 0, 0, []), (85, .invokevirtual 94, 53, 2, 1, [(0, 562)]), (88, .iload_n 2, 0, 0, 0, []), (89, .if_icmp .ne 7, 96, 0, 0, []), (92, .iconst 1, 0, 0, 0, []), (93, .goto 4, 97, 0, 0, []), (96, .iconst 0, 0, 0, 0, []), (97, .ireturn, 0, 0, 0, []), (98, .iconst 0, 0, 0, 0, []), (99, .ireturn, 0, 0, 0, [])]
abbrev mX8_isOfSort : am_M := (yX8_isOfSort, cX8_isOfSort, 3, some .boolean, 8, am_lk tbX8_isOfSort)
def tbX8_countOf : List (Nat × am_I) := [(0, .iconst 0, 0, 0, 0, []), (1, .istore_n 2, 0, 0, 0, []), (2, .iconst 0, 0, 0, 0, []), (3, .istore_n 3, 0, 0, 0, []), (4, .iload_n 3, 0, 0, 0, []), (5, .aload_n 0, 0, 0, 0, []), (6, .invokevirtual 19, 40, 1, 1, [(0, 402)]), (9, .if_icmp .gt 21, 30, 0, 0, []), (12, .aload_n 0, 0, 0, 0, []), (13, .iload_n 1, 0, 0, 0, []), (14, .iload_n 3, 0, 0, 0, []), (15, .invokevirtual 97, 57, 3, 1, [(0, 571)]), (18, .ifCond .eq 6, 24, 0, 0, []), (21, .iinc 2 1, 0, 0, 0, []), (24, .iinc 3 1, 0, 0, 0, []), (27, .goto (-23), 4, 0, 0, []), (30, .iload_n 2, 0, 0, 0, []), (31, .ireturn, 0, 0, 0, [])]
abbrev mX8_countOf : am_M := (yX8_countOf, cX8_countOf, 4, some .int, 8, am_lk tbX8_countOf)
def tbX8_findNumber : List (Nat × am_I) := [(0, .iconst 0, 0, 0, 0, []), (1, .istore_n 3, 0, 0, 0, []), (2, .iconst 0, 0, 0, 0, []), (3, .istore 4, 0, 0, 0, []), (5, .iload 4, 0, 0, 0, []), (7, .aload_n 0, 0, 0, 0, []), (8, .invokevirtual 19, 40, 1, 1, [(0, 402)]), (11, .if_icmp .gt 30, 41, 0, 0, []), (14, .aload_n 0, 0, 0, 0, []), (15, .iload_n 1, 0, 0, 0, []), (16, .iload 4, 0, 0, 0, []), (18, .invokevirtual 97, 57, 3, 1, [(0, 571)]), (21, .ifCond .eq 14, 35, 0, 0, []), (24, .iload_n 3, 0, 0, 0, []), (25, .iload_n 2, 0, 0, 0, []), (26, .if_icmp .ne 6, 32, 0, 0, []), (29, .iload 4, 0, 0, 0, []), (31, .ireturn, 0, 0, 0, []), (32, .iinc 3 1, 0, 0, 0, []), (35, .iinc 4 1, 0, 0, 0, []), (38, .goto (-33), 5, 0, 0, []), (41, .iconst (-1), 0, 0, 0, []), (42, .ireturn, 0, 0, 0, [])]
abbrev mX8_findNumber : am_M := (yX8_findNumber, cX8_findNumber, 5, some .int, 8, am_lk tbX8_findNumber)
def tbX8_firstBase : List (Nat × am_I) := [(0, .iconst 0, 0, 0, 0, []), (1, .istore_n 1, 0, 0, 0, []), (2, .iload_n 1, 0, 0, 0, []), (3, .aload_n 0, 0, 0, 0, []), (4, .invokevirtual 19, 40, 1, 1, [(0, 402)]), (7, .if_icmp .ge 17, 24, 0, 0, []), (10, .aload_n 0, 0, 0, 0, []), (11, .iload_n 1, 0, 0, 0, []), (12, .invokevirtual 88, 55, 2, 1, [(0, 553)]), (15, .ifCond .ne 9, 24, 0, 0, []), (18, .iinc 1 1, 0, 0, 0, []), (21, .goto (-19), 2, 0, 0, []), (24, .iload_n 1, 0, 0, 0, []), (25, .ireturn, 0, 0, 0, [])]
abbrev mX8_firstBase : am_M := (yX8_firstBase, cX8_firstBase, 2, some .int, 8, am_lk tbX8_firstBase)
def tbX8_heaviestBase : List (Nat × am_I) := [(0, .aload_n 0, 0, 0, 0, []), (1, .invokevirtual 101, 60, 1, 1, [(0, 588)]), (4, .istore_n 2, 0, 0, 0, []), (5, .iload_n 2, 0, 0, 0, []), (6, .iconst 1, 0, 0, 0, []), (7, .iadd, 0, 0, 0, []), (8, .istore_n 3, 0, 0, 0, []), (9, .iload_n 3, 0, 0, 0, []), (10, .aload_n 0, 0, 0, 0, []), (11, .invokevirtual 19, 40, 1, 1, [(0, 402)]), (14, .if_icmp .gt 32, 46, 0, 0, []), (17, .aload_n 0, 0, 0, 0, []), (18, .iload_n 3, 0, 0, 0, []), (19, .invokevirtual 88, 55, 2, 1, [(0, 553)]), (22, .ifCond .eq 18, 40, 0, 0, []), (25, .aload_n 1, 0, 0, 0, []), (26, .iload_n 3, 0, 0, 0, []), (27, .invokevirtual 104, 39, 2, 1, [(0, 592)]), (30, .aload_n 1, 0, 0, 0, []), (31, .iload_n 2, 0, 0, 0, []), (32, .invokevirtual 104, 39, 2, 1, [(0, 592)]), (35, .if_icmp .le 5, 40, 0, 0, []), (38, .iload_n 3, 0, 0, 0, []), (39, .istore_n 2, 0, 0, 0, []), (40, .iinc 3 1, 0, 0, 0, []), (43, .goto (-34), 9, 0, 0, []), (46, .iload_n 2, 0, 0, 0, []), (47, .ireturn, 0, 0, 0, [])]
abbrev mX8_heaviestBase : am_M := (yX8_heaviestBase, cX8_heaviestBase, 4, some .int, 8, am_lk tbX8_heaviestBase)
def tbX8_isUniform : List (Nat × am_I) := [(0, .aload_n 0, 0, 0, 0, []), (1, .getfield 15, 8, 0, 0, [(0, 102)]), (4, .iload_n 1, 0, 0, 0, []), (5, .if_icmp .ne 11, 16, 0, 0, []), (8, .aload_n 0, 0, 0, 0, []), (9, .invokevirtual 73, 42, 1, 1, [(0, 557)]), (12, .iload_n 2, 0, 0, 0, []), (13, .if_icmp .eq 5, 18, 0, 0, []), (16, .iconst 0, 0, 0, 0, []), (17, .ireturn, 0, 0, 0, []), (18, .iconst 0, 0, 0, 0, []), (19, .istore_n 3, 0, 0, 0, []), (20, .iload_n 3, 0, 0, 0, []), (21, .aload_n 0, 0, 0, 0, []), (22, .invokevirtual 19, 40, 1, 1, [(0, 402)]), (25, .if_icmp .gt 27, 52, 0, 0, []), (28, .iload_n 3, 0, 0, 0, []), (29, .invokestatic 33, 0, 1, 1, [(0, 406)]), (32, .iload_n 2, 0, 0, 0, []), (33, .if_icmp .ne 13, 46, 0, 0, []), (36, .aload_n 0, 0, 0, 0, []), (37, .iload_n 3, 0, 0, 0, []), (38, .invokevirtual 84, 54, 2, 1, [(0, 549)]), (41, .ifCond .ne 5, 46, 0, 0, []), (44, .iconst 0, 0, 0, 0, []), (45, .ireturn, 0, 0, 0, []), (46, .iinc 3 1, 0, 0, 0, []), (49, .goto (-29), 20, 0, 0, []), (52, .iconst 1, 0, 0, 0, []), (53, .ireturn, 0, 0, 0, [])]
abbrev mX8_isUniform : am_M := (yX8_isUniform, cX8_isUniform, 4, some .boolean, 8, am_lk tbX8_isUniform)
def tbX8_isSevenPointPlane : List (Nat × am_I) := [(0, .aload_n 0, 0, 0, 0, []), (1, .getfield 15, 8, 0, 0, [(0, 102)]), (4, .bipush 7, 0, 0, 0, []), (6, .if_icmp .ne 11, 17, 0, 0, []), (9, .aload_n 0, 0, 0, 0, []), (10, .invokevirtual 73, 42, 1, 1, [(0, 557)]), (13, .iconst 3, 0, 0, 0, []), (14, .if_icmp .eq 5, 19, 0, 0, []), (17, .iconst 0, 0, 0, 0, []), (18, .ireturn, 0, 0, 0, []), (19, .iconst 0, 0, 0, 0, []), (20, .istore_n 1, 0, 0, 0, []), (21, .iload_n 1, 0, 0, 0, []), (22, .aload_n 0, 0, 0, 0, []), (23, .invokevirtual 19, 40, 1, 1, [(0, 402)]), (26, .if_icmp .gt 36, 62, 0, 0, []), (29, .iload_n 1, 0, 0, 0, []), (30, .invokestatic 33, 0, 1, 1, [(0, 406)]), (33, .iconst 2, 0, 0, 0, []), (34, .if_icmp .ne 22, 56, 0, 0, []), (37, .aload_n 0, 0, 0, 0, []), (38, .iload_n 1, 0, 0, 0, []), (39, .invokevirtual 84, 54, 2, 1, [(0, 549)]), (42, .ifCond .eq 12, 54, 0, 0, []), (45, .aload_n 0, 0, 0, 0, []), (46, .iload_n 1, 0, 0, 0, []), (47, .invokevirtual 107, 64, 2, 1, [(0, 777)]), (50, .iconst 1, 0, 0, 0, []), (51, .if_icmp .eq 5, 56, 0, 0, []), (54, .iconst 0, 0, 0, 0, []), (55, .ireturn, 0, 0, 0, []), (56, .iinc 1 1, 0, 0, 0, []), (59, .goto (-38), 21, 0, 0, []), (62, .iconst 1, 0, 0, 0, []), (63, .ireturn, 0, 0, 0, [])]
abbrev mX8_isSevenPointPlane : am_M := (yX8_isSevenPointPlane, cX8_isSevenPointPlane, 2, some .boolean, 8, am_lk tbX8_isSevenPointPlane)
def tbX8_linesThrough : List (Nat × am_I) := [(0, .iconst 0, 0, 0, 0, []), (1, .istore_n 2, 0, 0, 0, []), (2, .iconst 0, 0, 0, 0, []), (3, .istore_n 3, 0, 0, 0, []), (4, .iload_n 3, 0, 0, 0, []), (5, .aload_n 0, 0, 0, 0, []), (6, .getfield 15, 8, 0, 0, [(0, 102)]), (9, .if_icmp .ge 32, 41, 0, 0, []), (12, .iload_n 1, 0, 0, 0, []), (13, .iload_n 3, 0, 0, 0, []), (14, .ishr, 0, 0, 0, []), (15, .iconst 1, 0, 0, 0, []), (16, .iand, 0, 0, 0, []), (17, .ifCond .ne 18, 35, 0, 0, []), (20, .aload_n 0, 0, 0, 0, []), (21, .iload_n 1, 0, 0, 0, []), (22, .iconst 1, 0, 0, 0, []), (23, .iload_n 3, 0, 0, 0, []), (24, .ishl, 0, 0, 0, []), (25, .ior, 0, 0, 0, []), (26, .invokevirtual 84, 54, 2, 1, [(0, 549)]), (29, .ifCond .ne 6, 35, 0, 0, []), (32, .iinc 2 1, 0, 0, 0, []), (35, .iinc 3 1, 0, 0, 0, []), (38, .goto (-34), 4, 0, 0, []), (41, .iload_n 2, 0, 0, 0, []), (42, .ireturn, 0, 0, 0, [])]
abbrev mX8_linesThrough : am_M := (yX8_linesThrough, cX8_linesThrough, 4, some .int, 8, am_lk tbX8_linesThrough)
def tbX9_countUpTo : List (Nat × am_I) := [(0, .aload_n 0, 0, 0, 0, []), (1, .aload_n 1, 0, 0, 0, []), (2, .aload_n 2, 0, 0, 0, []), (3, .invokevirtual 51, 67, 3, 0, [(0, 679)]), (6, .aload_n 0, 0, 0, 0, []), (7, .iconst 0, 0, 0, 0, []), (8, .putfield 55, 9, 10, 0, [(0, 224)]), (11, .aload_n 0, 0, 0, 0, []), (12, .iload_n 3, 0, 0, 0, []), (13, .putfield 59, 9, 11, 0, [(0, 225)]), (16, .aload_n 0, 0, 0, 0, []), (17, .iconst 0, 0, 0, 0, []), (18, .invokestatic 62, 71, 2, 0, [(0, 700)]), (21, .aload_n 0, 0, 0, 0, []), (22, .getfield 55, 9, 10, 0, [(0, 224)]), (25, .ireturn, 0, 0, 0, [])]
abbrev mX9_countUpTo : am_M := (yX9_countUpTo, cX9_countUpTo, 4, some .int, 9, am_lk tbX9_countUpTo)
def tbX9_firstCode : List (Nat × am_I) := [(0, .iload_n 1, 0, 0, 0, []), (1, .bipush 7, 0, 0, 0, []), (3, .invokestatic 66, 110, 2, 1, [(0, 699)]), (6, .ifCond .eq 12, 18, 0, 0, []), (9, .aload_n 0, 0, 0, 0, []), (10, .getfield 32, 9, 5, 1, [(0, 219)]), (13, .iload_n 1, 0, 0, 0, []), (14, .iaload, 0, 0, 0, []), (15, .goto 4, 19, 0, 0, []), (18, .iconst 0, 0, 0, 0, []), (19, .ireturn, 0, 0, 0, [])]
abbrev mX9_firstCode : am_M := (yX9_firstCode, cX9_firstCode, 2, some .int, 9, am_lk tbX9_firstCode)
def tbX9_layOut : List (Nat × am_I) := [(0, .aload_n 0, 0, 0, 0, []), (1, .aload_n 1, 0, 0, 0, []), (2, .putfield 38, 9, 6, 2, [(0, 220)]), (5, .aload_n 0, 0, 0, 0, []), (6, .aload_n 2, 0, 0, 0, []), (7, .putfield 47, 9, 7, 2, [(0, 221)]), (10, .aload_n 0, 0, 0, 0, []), (11, .aload_n 1, 0, 0, 0, []), (12, .invokevirtual 70, 60, 1, 1, [(0, 683)]), (15, .putfield 74, 9, 8, 0, [(0, 222)]), (18, .aload_n 0, 0, 0, 0, []), (19, .iconst 0, 0, 0, 0, []), (20, .putfield 77, 9, 9, 0, [(0, 223)]), (23, .aload_n 0, 0, 0, 0, []), (24, .getfield 12, 9, 0, 1, [(0, 213)]), (27, .aload_n 2, 0, 0, 0, []), (28, .invokevirtual 80, 21, 2, 0, [(0, 684)]), (31, .iconst 0, 0, 0, 0, []), (32, .istore_n 3, 0, 0, 0, []), (33, .iload_n 3, 0, 0, 0, []), (34, .aload_n 0, 0, 0, 0, []), (35, .getfield 29, 9, 4, 1, [(0, 218)]), (38, .arraylength, 0, 0, 0, []), (39, .if_icmp .ge 16, 55, 0, 0, []), (42, .aload_n 0, 0, 0, 0, []), (43, .getfield 29, 9, 4, 1, [(0, 218)]), (46, .iload_n 3, 0, 0, 0, []), (47, .iload_n 3, 0, 0, 0, []), (48, .iastore, 0, 0, 0, []), (49, .iinc 3 1, 0, 0, 0, []), (52, .goto (-19), 33, 0, 0, []), (55, .iconst 0, 0, 0, 0, []), (56, .istore_n 3, 0, 0, 0, []), (57, .iload_n 3, 0, 0, 0, []), (58, .aload_n 1, 0, 0, 0, []), (59, .getfield 84, 8, 0, 0, [(0, 105)]), (62, .if_icmp .ge 14, 76, 0, 0, []), (65, .aload_n 0, 0, 0, 0, []), (66, .iload_n 3, 0, 0, 0, []), (67, .invokevirtual 87, 68, 2, 0, [(0, 685)]), (70, .iinc 3 1, 0, 0, 0, []), (73, .goto (-16), 57, 0, 0, []), (76, .return_, 0, 0, 0, [])]
abbrev mX9_layOut : am_M := (yX9_layOut, cX9_layOut, 4, none, 9, am_lk tbX9_layOut)
def tbX9_layOutColumn : List (Nat × am_I) := [(0, .iconst 0, 0, 0, 0, []), (1, .istore_n 2, 0, 0, 0, []), (2, .iconst 0, 0, 0, 0, []), (3, .istore_n 3, 0, 0, 0, []), (4, .iload_n 3, 0, 0, 0, []), (5, .aload_n 0, 0, 0, 0, []), (6, .getfield 38, 9, 6, 1, [(0, 220)]), (9, .getfield 84, 8, 0, 0, [(0, 105)]), (12, .if_icmp .ge 92, 104, 0, 0, []), (15, .aload_n 0, 0, 0, 0, []), (16, .getfield 74, 9, 8, 0, [(0, 222)]), (19, .iload_n 3, 0, 0, 0, []), (20, .ishr, 0, 0, 0, []), (21, .iconst 1, 0, 0, 0, []), (22, .iand, 0, 0, 0, []), (23, .ifCond .eq 75, 98, 0, 0, []), (26, .iload_n 3, 0, 0, 0, []), (27, .iload_n 1, 0, 0, 0, []), (28, .if_icmp .ne 16, 44, 0, 0, []), (31, .aload_n 0, 0, 0, 0, []), (32, .getfield 12, 9, 0, 1, [(0, 213)]), (35, .iload_n 1, 0, 0, 0, []), (36, .iload_n 2, 0, 0, 0, []), (37, .iconst 1, 0, 0, 0, []), (38, .invokevirtual 90, 22, 4, 0, [(0, 689)]), (41, .goto 54, 95, 0, 0, []), (44, .aload_n 0, 0, 0, 0, []), (45, .getfield 74, 9, 8, 0, [(0, 222)]), (48, .iload_n 1, 0, 0, 0, []), (49, .ishr, 0, 0, 0, []), (50, .iconst 1, 0, 0, 0, []), (51, .iand, 0, 0, 0, []), (52, .ifCond .ne 43, 95, 0, 0, []), (55, .aload_n 0, 0, 0, 0, []), (56, .getfield 38, 9, 6, 1, [(0, 220)]), (59, .aload_n 0, 0, 0, 0, []), (60, .getfield 74, 9, 8, 0, [(0, 222)]), (63, .iconst 1, 0, 0, 0, []), (64, .iload_n 3, 0, 0, 0, []), (65, .ishl, 0, 0, 0, []), (66, .iconst (-1), 0, 0, 0, []), (67, .ixor, 0, 0, 0, []), (68, .iand, 0, 0, 0, []), (69, .iconst 1, 0, 0, 0, []), (70, .iload_n 1, 0, 0, 0, []), (71, .ishl, 0, 0, 0, []), (72, .ior, 0, 0, 0, []), (73, .invokevirtual 94, 55, 2, 1, [(0, 690)]), (76, .ifCond .eq 19, 95, 0, 0, []), (79, .aload_n 0, 0, 0, 0, []), (80, .getfield 12, 9, 0, 1, [(0, 213)]), (83, .iload_n 1, 0, 0, 0, []), (84, .iload_n 2, 0, 0, 0, []), (85, .iconst 1, 0, 0, 0, []), (86, .invokevirtual 90, 22, 4, 0, [(0, 689)]), (89, .aload_n 0, 0, 0, 0, []), (90, .iload_n 1, 0, 0, 0, []), (91, .iload_n 2, 0, 0, 0, []), (92, .invokevirtual 98, 69, 3, 0, [(0, 691)]), (95, .iinc 2 1, 0, 0, 0, []), (98, .iinc 3 1, 0, 0, 0, []), (101, .goto (-97), 4, 0, 0, []), (104, .return_, 0, 0, 0, [])]
abbrev mX9_layOutColumn : am_M := (yX9_layOutColumn, cX9_layOutColumn, 4, none, 9, am_lk tbX9_layOutColumn)
def tbX9_addPlace : List (Nat × am_I) := [(0, .aload_n 0, 0, 0, 0, []), (1, .getfield 77, 9, 9, 0, [(0, 223)]), (4, .bipush 12, 0, 0, 0, []), (6, .if_icmp .lt 4, 10, 0, 0, []), (9, .return_, 0, 0, 0, []), (10, .aload_n 0, 0, 0, 0, []), (11, .getfield 18, 9, 1, 1, [(0, 215)]), (14, .aload_n 0, 0, 0, 0, []), (15, .getfield 77, 9, 9, 0, [(0, 223)]), (18, .iload_n 1, 0, 0, 0, []), (19, .iastore, 0, 0, 0, []), (20, .aload_n 0, 0, 0, 0, []), (21, .getfield 22, 9, 2, 1, [(0, 216)]), (24, .aload_n 0, 0, 0, 0, []), (25, .getfield 77, 9, 9, 0, [(0, 223)]), (28, .iload_n 2, 0, 0, 0, []), (29, .iastore, 0, 0, 0, []), (30, .aload_n 0, 0, 0, 0, []), (31, .getfield 25, 9, 3, 1, [(0, 217)]), (34, .aload_n 0, 0, 0, 0, []), (35, .getfield 77, 9, 9, 0, [(0, 223)]), (38, .aload_n 0, 0, 0, 0, []), (39, .iload_n 2, 0, 0, 0, []), (40, .bipush 7, 0, 0, 0, []), (42, .iload_n 1, 0, 0, 0, []), (43, .iadd, 0, 0, 0, []), (44, .invokevirtual 102, 70, 3, 1, [(0, 695)]), (47, .bastore, 0, 0, 0, []), (48, .aload_n 0, 0, 0, 0, []), (49, .dup, 0, 0, 0, []), (50, .getfield 77, 9, 9, 0, [(0, 223)]), (53, .iconst 1, 0, 0, 0, []), (54, .iadd, 0, 0, 0, []), (55, .putfield 77, 9, 9, 0, [(0, 223)]), (58, .return_, 0, 0, 0, [])]
abbrev mX9_addPlace : am_M := (yX9_addPlace, cX9_addPlace, 3, none, 9, am_lk tbX9_addPlace)
def tbX9_join : List (Nat × am_I) := [(0, .iload_n 1, 0, 0, 0, []), (1, .aload_n 0, 0, 0, 0, []), (2, .getfield 29, 9, 4, 1, [(0, 218)]), (5, .arraylength, 0, 0, 0, []), (6, .invokestatic 66, 110, 2, 1, [(0, 699)]), (9, .ifCond .eq 30, 39, 0, 0, []), (12, .iload_n 2, 0, 0, 0, []), (13, .aload_n 0, 0, 0, 0, []), (14, .getfield 29, 9, 4, 1, [(0, 218)]), (17, .arraylength, 0, 0, 0, []), (18, .invokestatic 66, 110, 2, 1, [(0, 699)]), (21, .ifCond .eq 18, 39, 0, 0, []), (24, .aload_n 0, 0, 0, 0, []), (25, .getfield 29, 9, 4, 1, [(0, 218)]), (28, .iload_n 1, 0, 0, 0, []), (29, .iaload, 0, 0, 0, []), (30, .aload_n 0, 0, 0, 0, []), (31, .getfield 29, 9, 4, 1, [(0, 218)]), (34, .iload_n 2, 0, 0, 0, []), (35, .iaload, 0, 0, 0, []), (36, .if_icmp .ne 5, 41, 0, 0, []), (39, .iconst 0, 0, 0, 0, []), (40, .ireturn, 0, 0, 0, []), (41, .aload_n 0, 0, 0, 0, []), (42, .getfield 29, 9, 4, 1, [(0, 218)]), (45, .iload_n 2, 0, 0, 0, []), (46, .iaload, 0, 0, 0, []), (47, .istore_n 3, 0, 0, 0, []), (48, .iconst 0, 0, 0, 0, []), (49, .istore 4, 0, 0, 0, []), (51, .iload 4, 0, 0, 0, []), (53, .aload_n 0, 0, 0, 0, []), (54, .getfield 29, 9, 4, 1, [(0, 218)]), (57, .arraylength, 0, 0, 0, []), (58, .if_icmp .ge 33, 91, 0, 0, []), (61, .aload_n 0, 0, 0, 0, []), (62, .getfield 29, 9, 4, 1, [(0, 218)]), (65, .iload 4, 0, 0, 0, []), (67, .iaload, 0, 0, 0, []), (68, .iload_n 3, 0, 0, 0, []), (69, .if_icmp .ne 16, 85, 0, 0, []), (72, .aload_n 0, 0, 0, 0, []), (73, .getfield 29, 9, 4, 1, [(0, 218)]), (76, .iload 4, 0, 0, 0, []), (78, .aload_n 0, 0, 0, 0, []), (79, .getfield 29, 9, 4, 1, [(0, 218)]), (82, .iload_n 1, 0, 0, 0, []), (83, .iaload, 0, 0, 0, []), (84, .iastore, 0, 0, 0, []), (85, .iinc 4 1, 0, 0, 0, []), (88, .goto (-37), 51, 0, 0, []), (91, .iconst 1, 0, 0, 0, []), (92, .ireturn, 0, 0, 0, [])]
abbrev mX9_join : am_M := (yX9_join, cX9_join, 5, some .boolean, 9, am_lk tbX9_join)
def tbX9_fill : List (Nat × am_I) := [(0, .iload_n 1, 0, 0, 0, []), (1, .aload_n 0, 0, 0, 0, []), (2, .getfield 77, 9, 9, 0, [(0, 223)]), (5, .if_icmp .ge 9, 14, 0, 0, []), (8, .iload_n 1, 0, 0, 0, []), (9, .bipush 12, 0, 0, 0, []), (11, .if_icmp .lt 8, 19, 0, 0, []), (14, .aload_n 0, 0, 0, 0, []), (15, .invokevirtual 105, 72, 1, 0, [(0, 703)]), (18, .return_, 0, 0, 0, []), (19, .aload_n 0, 0, 0, 0, []), (20, .getfield 18, 9, 1, 1, [(0, 215)]), (23, .iload_n 1, 0, 0, 0, []), (24, .iaload, 0, 0, 0, []), (25, .istore_n 2, 0, 0, 0, []), (26, .aload_n 0, 0, 0, 0, []), (27, .getfield 25, 9, 3, 1, [(0, 217)]), (30, .iload_n 1, 0, 0, 0, []), (31, .baload, 0, 0, 0, []), (32, .ifCond .eq 7, 39, 0, 0, []), (35, .iconst 1, 0, 0, 0, []), (36, .goto 12, 48, 0, 0, []), (39, .aload_n 0, 0, 0, 0, []), (40, .getfield 47, 9, 7, 1, [(0, 221)]), (43, .getfield 108, 2, 0, 0, [(0, 171)]), (46, .iconst 1, 0, 0, 0, []), (47, .isub, 0, 0, 0, []), (48, .istore_n 3, 0, 0, 0, []), (49, .iconst 1, 0, 0, 0, []), (50, .istore 4, 0, 0, 0, []), (52, .iload 4, 0, 0, 0, []), (54, .iload_n 3, 0, 0, 0, []), (55, .if_icmp .gt 59, 114, 0, 0, []), (58, .aload_n 0, 0, 0, 0, []), (59, .getfield 55, 9, 10, 0, [(0, 224)]), (62, .aload_n 0, 0, 0, 0, []), (63, .getfield 59, 9, 11, 0, [(0, 225)]), (66, .if_icmp .ge 48, 114, 0, 0, []), (69, .aload_n 0, 0, 0, 0, []), (70, .getfield 12, 9, 0, 1, [(0, 213)]), (73, .iload_n 2, 0, 0, 0, []), (74, .aload_n 0, 0, 0, 0, []), (75, .getfield 22, 9, 2, 1, [(0, 216)]), (78, .iload_n 1, 0, 0, 0, []), (79, .iaload, 0, 0, 0, []), (80, .iload 4, 0, 0, 0, []), (82, .invokevirtual 90, 22, 4, 0, [(0, 689)]), (85, .aload_n 0, 0, 0, 0, []), (86, .iload_n 1, 0, 0, 0, []), (87, .invokevirtual 111, 73, 2, 1, [(0, 711)]), (90, .ifCond .eq 11, 101, 0, 0, []), (93, .aload_n 0, 0, 0, 0, []), (94, .iload_n 2, 0, 0, 0, []), (95, .invokevirtual 114, 74, 2, 1, [(0, 715)]), (98, .ifCond .eq 10, 108, 0, 0, []), (101, .aload_n 0, 0, 0, 0, []), (102, .iload_n 1, 0, 0, 0, []), (103, .iconst 1, 0, 0, 0, []), (104, .iadd, 0, 0, 0, []), (105, .invokestatic 62, 71, 2, 0, [(0, 700)]), (108, .iinc 4 1, 0, 0, 0, []), (111, .goto (-59), 52, 0, 0, []), (114, .return_, 0, 0, 0, [])]
abbrev mX9_fill : am_M := (yX9_fill, cX9_fill, 5, none, 12, am_lk tbX9_fill)
def tbX9_keep : List (Nat × am_I) := [(0, .aload_n 0, 0, 0, 0, []), (1, .getfield 55, 9, 10, 0, [(0, 224)]), (4, .ifCond .ne 31, 35, 0, 0, []), (7, .iconst 0, 0, 0, 0, []), (8, .istore_n 1, 0, 0, 0, []), (9, .iload_n 1, 0, 0, 0, []), (10, .bipush 7, 0, 0, 0, []), (12, .if_icmp .ge 23, 35, 0, 0, []), (15, .aload_n 0, 0, 0, 0, []), (16, .getfield 32, 9, 5, 1, [(0, 219)]), (19, .iload_n 1, 0, 0, 0, []), (20, .aload_n 0, 0, 0, 0, []), (21, .getfield 12, 9, 0, 1, [(0, 213)]), (24, .iload_n 1, 0, 0, 0, []), (25, .invokevirtual 117, 24, 2, 1, [(0, 707)]), (28, .iastore, 0, 0, 0, []), (29, .iinc 1 1, 0, 0, 0, []), (32, .goto (-23), 9, 0, 0, []), (35, .aload_n 0, 0, 0, 0, []), (36, .dup, 0, 0, 0, []), (37, .getfield 55, 9, 10, 0, [(0, 224)]), (40, .iconst 1, 0, 0, 0, []), (41, .iadd, 0, 0, 0, []), (42, .putfield 55, 9, 10, 0, [(0, 224)]), (45, .return_, 0, 0, 0, [])]
abbrev mX9_keep : am_M := (yX9_keep, cX9_keep, 2, none, 9, am_lk tbX9_keep)
def tbX9_isLastOfColumn : List (Nat × am_I) := [(0, .iload_n 1, 0, 0, 0, []), (1, .iconst 1, 0, 0, 0, []), (2, .iadd, 0, 0, 0, []), (3, .aload_n 0, 0, 0, 0, []), (4, .getfield 77, 9, 9, 0, [(0, 223)]), (7, .if_icmp .ge 28, 35, 0, 0, []), (10, .iload_n 1, 0, 0, 0, []), (11, .iconst 1, 0, 0, 0, []), (12, .iadd, 0, 0, 0, []), (13, .bipush 12, 0, 0, 0, []), (15, .if_icmp .ge 20, 35, 0, 0, []), (18, .aload_n 0, 0, 0, 0, []), (19, .getfield 18, 9, 1, 1, [(0, 215)]), (22, .iload_n 1, 0, 0, 0, []), (23, .iconst 1, 0, 0, 0, []), (24, .iadd, 0, 0, 0, []), (25, .iaload, 0, 0, 0, []), (26, .aload_n 0, 0, 0, 0, []), (27, .getfield 18, 9, 1, 1, [(0, 215)]), (30, .iload_n 1, 0, 0, 0, []), (31, .iaload, 0, 0, 0, []), (32, .if_icmp .eq 7, 39, 0, 0, []), (35, .iconst 1, 0, 0, 0, []), (36, .goto 4, 40, 0, 0, []), (39, .iconst 0, 0, 0, 0, []), (40, .ireturn, 0, 0, 0, [])]
abbrev mX9_isLastOfColumn : am_M := (yX9_isLastOfColumn, cX9_isLastOfColumn, 2, some .boolean, 9, am_lk tbX9_isLastOfColumn)
def tbX9_fits : List (Nat × am_I) := [(0, .aload_n 0, 0, 0, 0, []), (1, .getfield 74, 9, 8, 0, [(0, 222)]), (4, .iconst 2, 0, 0, 0, []), (5, .iload_n 1, 0, 0, 0, []), (6, .ishl, 0, 0, 0, []), (7, .iconst 1, 0, 0, 0, []), (8, .isub, 0, 0, 0, []), (9, .ior, 0, 0, 0, []), (10, .istore_n 2, 0, 0, 0, []), (11, .aload_n 0, 0, 0, 0, []), (12, .getfield 74, 9, 8, 0, [(0, 222)]), (15, .invokestatic 121, 0, 1, 1, [(0, 719)]), (18, .istore_n 3, 0, 0, 0, []), (19, .iconst 0, 0, 0, 0, []), (20, .istore 4, 0, 0, 0, []), (22, .iload 4, 0, 0, 0, []), (24, .aload_n 0, 0, 0, 0, []), (25, .getfield 38, 9, 6, 1, [(0, 220)]), (28, .invokevirtual 126, 40, 1, 1, [(0, 720)]), (31, .if_icmp .gt 89, 120, 0, 0, []), (34, .iload 4, 0, 0, 0, []), (36, .iload_n 1, 0, 0, 0, []), (37, .ishr, 0, 0, 0, []), (38, .iconst 1, 0, 0, 0, []), (39, .iand, 0, 0, 0, []), (40, .ifCond .eq 16, 56, 0, 0, []), (43, .iload 4, 0, 0, 0, []), (45, .iload_n 2, 0, 0, 0, []), (46, .iconst (-1), 0, 0, 0, []), (47, .ixor, 0, 0, 0, []), (48, .iand, 0, 0, 0, []), (49, .ifCond .ne 7, 56, 0, 0, []), (52, .iconst 1, 0, 0, 0, []), (53, .goto 4, 57, 0, 0, []), (56, .iconst 0, 0, 0, 0, []), (57, .istore 5, 0, 0, 0, []), (59, .iload 5, 0, 0, 0, []), (61, .ifCond .eq 53, 114, 0, 0, []), (64, .iload 4, 0, 0, 0, []), (66, .invokestatic 121, 0, 1, 1, [(0, 719)]), (69, .iload_n 3, 0, 0, 0, []), (70, .if_icmp .ne 44, 114, 0, 0, []), (73, .aload_n 0, 0, 0, 0, []), (74, .getfield 12, 9, 0, 1, [(0, 213)]), (77, .iload 4, 0, 0, 0, []), (79, .invokevirtual 129, 26, 2, 1, [(0, 721)]), (82, .iload_n 3, 0, 0, 0, []), (83, .if_icmp .ne 7, 90, 0, 0, []), (86, .iconst 1, 0, 0, 0, []), (87, .goto 4, 91, 0, 0, []), (90, .iconst 0, 0, 0, 0, []), (91, .aload_n 0, 0, 0, 0, []), (92, .getfield 38, 9, 6, 1, [(0, 220)]), (95, .iload 4, 0, 0, 0, []), (97, .invokevirtual 132, 41, 2, 1, [(0, 727)]), (100, .iload_n 3, 0, 0, 0, []), (101, .if_icmp .ne 7, 108, 0, 0, []), (104, .iconst 1, 0, 0, 0, []), (105, .goto 4, 109, 0, 0, []), (108, .iconst 0, 0, 0, 0, []), (109, .if_icmp .eq 5, 114, 0, 0, []), (112, .iconst 0, 0, 0, 0, []), (113, .ireturn, 0, 0, 0, []), (114, .iinc 4 1, 0, 0, 0, []), (117, .goto (-95), 22, 0, 0, []), (120, .iconst 1, 0, 0, 0, []), (121, .ireturn, 0, 0, 0, [])]
abbrev mX9_fits : am_M := (yX9_fits, cX9_fits, 6, some .boolean, 9, am_lk tbX9_fits)
def tbX10_reckon : List (Nat × am_I) := [(0, .iload_n 1, 0, 0, 0, []), (1, .iconst 4, 0, 0, 0, []), (2, .invokestatic 89, 110, 2, 1, [(0, 370)]), (5, .ifCond .eq 11, 16, 0, 0, []), (8, .iload_n 2, 0, 0, 0, []), (9, .iconst 4, 0, 0, 0, []), (10, .invokestatic 89, 110, 2, 1, [(0, 370)]), (13, .ifCond .ne 6, 19, 0, 0, []), (16, .bipush (-2), 0, 0, 0, []), (18, .ireturn, 0, 0, 0, []), (19, .aload_n 0, 0, 0, 0, []), (20, .getfield 11, 10, 0, 1, [(0, 329)]), (23, .iload_n 1, 0, 0, 0, []), (24, .aaload, 0, 0, 0, []), (25, .astore 5, 0, 0, 0, []), (27, .iload_n 3, 0, 0, 0, []), (28, .aload 5, 0, 0, 0, []), (30, .getfield 93, 2, 0, 0, [(0, 169)]), (33, .invokestatic 89, 110, 2, 1, [(0, 370)]), (36, .ifCond .eq 16, 52, 0, 0, []), (39, .iload 4, 0, 0, 0, []), (41, .aload 5, 0, 0, 0, []), (43, .getfield 93, 2, 0, 0, [(0, 169)]), (46, .invokestatic 89, 110, 2, 1, [(0, 370)]), (49, .ifCond .ne 6, 55, 0, 0, []), (52, .bipush (-2), 0, 0, 0, []), (54, .ireturn, 0, 0, 0, []), (55, .iload_n 2, 0, 0, 0, []), (56, .tableswitch 55 0 2 #[28, 37, 46], 111, 0, 0, [(0, 84), (1, 93), (2, 102)]), (84, .aload 5, 0, 0, 0, []), (86, .iload_n 3, 0, 0, 0, []), (87, .iload 4, 0, 0, 0, []), (89, .invokevirtual 96, 11, 3, 1, [(0, 373)]), (92, .ireturn, 0, 0, 0, []), (93, .aload 5, 0, 0, 0, []), (95, .iload_n 3, 0, 0, 0, []), (96, .iload 4, 0, 0, 0, []), (98, .invokevirtual 100, 12, 3, 1, [(0, 381)]), (101, .ireturn, 0, 0, 0, []), (102, .aload 5, 0, 0, 0, []), (104, .iload_n 3, 0, 0, 0, []), (105, .iload 4, 0, 0, 0, []), (107, .invokevirtual 103, 13, 3, 1, [(0, 385)]), (110, .ireturn, 0, 0, 0, []), (111, .iload 4, 0, 0, 0, []), (113, .ifCond .ne 8, 121, 0, 0, []), (116, .bipush (-15), 0, 0, 0, []), (118, .goto 16, 134, 0, 0, []), (121, .aload 5, 0, 0, 0, []), (123, .iload_n 3, 0, 0, 0, []), (124, .aload 5, 0, 0, 0, []), (126, .iload 4, 0, 0, 0, []), (128, .invokevirtual 106, 14, 2, 1, [(0, 386)]), (131, .invokevirtual 103, 13, 3, 1, [(0, 385)]), (134, .ireturn, 0, 0, 0, [])]
abbrev mX10_reckon : am_M := (yX10_reckon, cX10_reckon, 6, some .int, 10, am_lk tbX10_reckon)
def tbX10_uniform : List (Nat × am_I) := [(0, .iload_n 1, 0, 0, 0, []), (1, .iconst 4, 0, 0, 0, []), (2, .invokestatic 89, 110, 2, 1, [(0, 370)]), (5, .ifCond .eq 20, 25, 0, 0, []), (8, .iload_n 2, 0, 0, 0, []), (9, .invokestatic 110, 111, 1, 1, [(0, 395)]), (12, .ifCond .eq 13, 25, 0, 0, []), (15, .iload_n 3, 0, 0, 0, []), (16, .iload_n 2, 0, 0, 0, []), (17, .iconst 1, 0, 0, 0, []), (18, .iadd, 0, 0, 0, []), (19, .invokestatic 89, 110, 2, 1, [(0, 370)]), (22, .ifCond .ne 6, 28, 0, 0, []), (25, .bipush (-2), 0, 0, 0, []), (27, .ireturn, 0, 0, 0, []), (28, .aload_n 0, 0, 0, 0, []), (29, .getfield 17, 10, 1, 1, [(0, 330)]), (32, .iload_n 1, 0, 0, 0, []), (33, .aaload, 0, 0, 0, []), (34, .iload_n 2, 0, 0, 0, []), (35, .iload_n 3, 0, 0, 0, []), (36, .invokevirtual 114, 44, 3, 0, [(0, 398)]), (39, .iconst 1, 0, 0, 0, []), (40, .ireturn, 0, 0, 0, [])]
abbrev mX10_uniform : am_M := (yX10_uniform, cX10_uniform, 4, some .int, 10, am_lk tbX10_uniform)
def tbX10_columns : List (Nat × am_I) := [(0, .iload_n 1, 0, 0, 0, []), (1, .iconst 4, 0, 0, 0, []), (2, .invokestatic 89, 110, 2, 1, [(0, 370)]), (5, .ifCond .eq 27, 32, 0, 0, []), (8, .iload_n 2, 0, 0, 0, []), (9, .iconst 4, 0, 0, 0, []), (10, .invokestatic 89, 110, 2, 1, [(0, 370)]), (13, .ifCond .eq 19, 32, 0, 0, []), (16, .iload_n 3, 0, 0, 0, []), (17, .iconst 4, 0, 0, 0, []), (18, .invokestatic 89, 110, 2, 1, [(0, 370)]), (21, .ifCond .eq 11, 32, 0, 0, []), (24, .iload 4, 0, 0, 0, []), (26, .invokestatic 110, 111, 1, 1, [(0, 395)]), (29, .ifCond .ne 6, 35, 0, 0, []), (32, .bipush (-2), 0, 0, 0, []), (34, .ireturn, 0, 0, 0, []), (35, .aload_n 0, 0, 0, 0, []), (36, .getfield 29, 10, 3, 1, [(0, 332)]), (39, .iload_n 3, 0, 0, 0, []), (40, .aaload, 0, 0, 0, []), (41, .astore 5, 0, 0, 0, []), (43, .aload 5, 0, 0, 0, []), (45, .invokevirtual 118, 34, 1, 1, [(0, 419)]), (48, .ifCond .eq 6, 54, 0, 0, []), (51, .bipush (-11), 0, 0, 0, []), (53, .ireturn, 0, 0, 0, []), (54, .aload 5, 0, 0, 0, []), (56, .getfield 122, 7, 1, 0, [(0, 318)]), (59, .iload 4, 0, 0, 0, []), (61, .if_icmp .ge 6, 67, 0, 0, []), (64, .bipush (-12), 0, 0, 0, []), (66, .ireturn, 0, 0, 0, []), (67, .aload_n 0, 0, 0, 0, []), (68, .getfield 11, 10, 0, 1, [(0, 329)]), (71, .iload_n 2, 0, 0, 0, []), (72, .aaload, 0, 0, 0, []), (73, .invokevirtual 125, 15, 1, 1, [(0, 423)]), (76, .istore 6, 0, 0, 0, []), (78, .iconst 0, 0, 0, 0, []), (79, .istore 7, 0, 0, 0, []), (81, .iload 7, 0, 0, 0, []), (83, .iload 4, 0, 0, 0, []), (85, .if_icmp .ge 27, 112, 0, 0, []), (88, .aload 5, 0, 0, 0, []), (90, .iload 7, 0, 0, 0, []), (92, .invokevirtual 129, 37, 2, 1, [(0, 427)]), (95, .iload 6, 0, 0, 0, []), (97, .invokestatic 89, 110, 2, 1, [(0, 370)]), (100, .ifCond .ne 6, 106, 0, 0, []), (103, .bipush (-3), 0, 0, 0, []), (105, .ireturn, 0, 0, 0, []), (106, .iinc 7 1, 0, 0, 0, []), (109, .goto (-28), 81, 0, 0, []), (112, .aload_n 0, 0, 0, 0, []), (113, .getfield 50, 10, 6, 1, [(0, 335)]), (116, .aload_n 0, 0, 0, 0, []), (117, .getfield 11, 10, 0, 1, [(0, 329)]), (120, .iload_n 2, 0, 0, 0, []), (121, .aaload, 0, 0, 0, []), (122, .invokevirtual 132, 21, 2, 0, [(0, 432)]), (125, .iconst 0, 0, 0, 0, []), (126, .istore 7, 0, 0, 0, []), (128, .iload 7, 0, 0, 0, []), (130, .iload 4, 0, 0, 0, []), (132, .if_icmp .ge 25, 157, 0, 0, []), (135, .aload_n 0, 0, 0, 0, []), (136, .getfield 50, 10, 6, 1, [(0, 335)]), (139, .iload 7, 0, 0, 0, []), (141, .aload 5, 0, 0, 0, []), (143, .iload 7, 0, 0, 0, []), (145, .invokevirtual 129, 37, 2, 1, [(0, 427)]), (148, .invokevirtual 136, 23, 3, 0, [(0, 436)]), (151, .iinc 7 1, 0, 0, 0, []), (154, .goto (-26), 128, 0, 0, []), (157, .aload_n 0, 0, 0, 0, []), (158, .getfield 17, 10, 1, 1, [(0, 330)]), (161, .iload_n 1, 0, 0, 0, []), (162, .aaload, 0, 0, 0, []), (163, .aload_n 0, 0, 0, 0, []), (164, .getfield 50, 10, 6, 1, [(0, 335)]), (167, .iload 4, 0, 0, 0, []), (169, .invokevirtual 139, 45, 3, 0, [(0, 448)]), (172, .aload_n 0, 0, 0, 0, []), (173, .getfield 17, 10, 1, 1, [(0, 330)]), (176, .iload_n 1, 0, 0, 0, []), (177, .aaload, 0, 0, 0, []), (178, .invokevirtual 143, 42, 1, 1, [(0, 478)]), (181, .ireturn, 0, 0, 0, [])]
abbrev mX10_columns : am_M := (yX10_columns, cX10_columns, 8, some .int, 10, am_lk tbX10_columns)
def tbX10_tell : List (Nat × am_I) := [(0, .iload_n 1, 0, 0, 0, []), (1, .iconst 4, 0, 0, 0, []), (2, .invokestatic 89, 110, 2, 1, [(0, 370)]), (5, .ifCond .eq 18, 23, 0, 0, []), (8, .iload_n 2, 0, 0, 0, []), (9, .iconst 4, 0, 0, 0, []), (10, .invokestatic 89, 110, 2, 1, [(0, 370)]), (13, .ifCond .eq 10, 23, 0, 0, []), (16, .iload_n 3, 0, 0, 0, []), (17, .invokestatic 110, 111, 1, 1, [(0, 395)]), (20, .ifCond .ne 6, 26, 0, 0, []), (23, .bipush (-2), 0, 0, 0, []), (25, .ireturn, 0, 0, 0, []), (26, .aload_n 0, 0, 0, 0, []), (27, .getfield 29, 10, 3, 1, [(0, 332)]), (30, .iload_n 2, 0, 0, 0, []), (31, .aaload, 0, 0, 0, []), (32, .invokevirtual 118, 34, 1, 1, [(0, 419)]), (35, .ifCond .eq 6, 41, 0, 0, []), (38, .bipush (-11), 0, 0, 0, []), (40, .ireturn, 0, 0, 0, []), (41, .aload_n 0, 0, 0, 0, []), (42, .getfield 43, 10, 5, 1, [(0, 334)]), (45, .aload_n 0, 0, 0, 0, []), (46, .getfield 29, 10, 3, 1, [(0, 332)]), (49, .iload_n 2, 0, 0, 0, []), (50, .aaload, 0, 0, 0, []), (51, .iload_n 3, 0, 0, 0, []), (52, .invokevirtual 146, 2, 3, 1, [(0, 490)]), (55, .ifCond .eq 6, 61, 0, 0, []), (58, .bipush (-3), 0, 0, 0, []), (60, .ireturn, 0, 0, 0, []), (61, .aload_n 0, 0, 0, 0, []), (62, .getfield 17, 10, 1, 1, [(0, 330)]), (65, .iload_n 1, 0, 0, 0, []), (66, .aaload, 0, 0, 0, []), (67, .aload_n 0, 0, 0, 0, []), (68, .getfield 29, 10, 3, 1, [(0, 332)]), (71, .iload_n 2, 0, 0, 0, []), (72, .aaload, 0, 0, 0, []), (73, .iload_n 3, 0, 0, 0, []), (74, .invokevirtual 150, 46, 3, 0, [(0, 513)]), (77, .aload_n 0, 0, 0, 0, []), (78, .getfield 17, 10, 1, 1, [(0, 330)]), (81, .iload_n 1, 0, 0, 0, []), (82, .aaload, 0, 0, 0, []), (83, .invokevirtual 143, 42, 1, 1, [(0, 478)]), (86, .ireturn, 0, 0, 0, [])]
abbrev mX10_tell : am_M := (yX10_tell, cX10_tell, 4, some .int, 10, am_lk tbX10_tell)
def tbX10_cause : List (Nat × am_I) := [(0, .iload_n 1, 0, 0, 0, []), (1, .tableswitch 63 0 3 #[31, 39, 47, 55], 64, 0, 0, [(0, 32), (1, 40), (2, 48), (3, 56)]), (32, .aload_n 0, 0, 0, 0, []), (33, .getfield 43, 10, 5, 1, [(0, 334)]), (36, .getfield 154, 0, 0, 0, [(0, 132)]), (39, .ireturn, 0, 0, 0, []), (40, .aload_n 0, 0, 0, 0, []), (41, .getfield 43, 10, 5, 1, [(0, 334)]), (44, .getfield 157, 0, 1, 0, [(0, 134)]), (47, .ireturn, 0, 0, 0, []), (48, .aload_n 0, 0, 0, 0, []), (49, .getfield 43, 10, 5, 1, [(0, 334)]), (52, .getfield 160, 0, 2, 0, [(0, 136)]), (55, .ireturn, 0, 0, 0, []), (56, .aload_n 0, 0, 0, 0, []), (57, .getfield 43, 10, 5, 1, [(0, 334)]), (60, .getfield 163, 0, 3, 0, [(0, 138)]), (63, .ireturn, 0, 0, 0, []), (64, .bipush (-2), 0, 0, 0, []), (66, .ireturn, 0, 0, 0, [])]
abbrev mX10_cause : am_M := (yX10_cause, cX10_cause, 2, some .int, 10, am_lk tbX10_cause)
def tbX10_rank : List (Nat × am_I) := [(0, .aload_n 0, 0, 0, 0, []), (1, .iload_n 1, 0, 0, 0, []), (2, .iload_n 2, 0, 0, 0, []), (3, .invokevirtual 166, 113, 3, 1, [(0, 527)]), (6, .ifCond .eq 16, 22, 0, 0, []), (9, .aload_n 0, 0, 0, 0, []), (10, .getfield 17, 10, 1, 1, [(0, 330)]), (13, .iload_n 1, 0, 0, 0, []), (14, .aaload, 0, 0, 0, []), (15, .iload_n 2, 0, 0, 0, []), (16, .invokevirtual 169, 41, 2, 1, [(0, 532)]), (19, .goto 5, 24, 0, 0, []), (22, .bipush (-2), 0, 0, 0, []), (24, .ireturn, 0, 0, 0, [])]
abbrev mX10_rank : am_M := (yX10_rank, cX10_rank, 3, some .int, 10, am_lk tbX10_rank)
def tbX10_span : List (Nat × am_I) := [(0, .aload_n 0, 0, 0, 0, []), (1, .iload_n 1, 0, 0, 0, []), (2, .iload_n 2, 0, 0, 0, []), (3, .invokevirtual 166, 113, 3, 1, [(0, 527)]), (6, .ifCond .eq 16, 22, 0, 0, []), (9, .aload_n 0, 0, 0, 0, []), (10, .getfield 17, 10, 1, 1, [(0, 330)]), (13, .iload_n 1, 0, 0, 0, []), (14, .aaload, 0, 0, 0, []), (15, .iload_n 2, 0, 0, 0, []), (16, .invokevirtual 172, 53, 2, 1, [(0, 537)]), (19, .goto 5, 24, 0, 0, []), (22, .bipush (-2), 0, 0, 0, []), (24, .ireturn, 0, 0, 0, [])]
abbrev mX10_span : am_M := (yX10_span, cX10_span, 3, some .int, 10, am_lk tbX10_span)
def tbX10_sorts : List (Nat × am_I) := [(0, .aload_n 0, 0, 0, 0, []), (1, .iload_n 1, 0, 0, 0, []), (2, .iload_n 2, 0, 0, 0, []), (3, .invokevirtual 166, 113, 3, 1, [(0, 527)]), (6, .ifCond .ne 6, 12, 0, 0, []), (9, .bipush (-2), 0, 0, 0, []), (11, .ireturn, 0, 0, 0, []), (12, .iconst 0, 0, 0, 0, []), (13, .istore_n 3, 0, 0, 0, []), (14, .iconst 1, 0, 0, 0, []), (15, .istore 4, 0, 0, 0, []), (17, .iload 4, 0, 0, 0, []), (19, .iconst 5, 0, 0, 0, []), (20, .if_icmp .gt 33, 53, 0, 0, []), (23, .aload_n 0, 0, 0, 0, []), (24, .getfield 17, 10, 1, 1, [(0, 330)]), (27, .iload_n 1, 0, 0, 0, []), (28, .aaload, 0, 0, 0, []), (29, .iload 4, 0, 0, 0, []), (31, .iload_n 2, 0, 0, 0, []), (32, .invokevirtual 175, 57, 3, 1, [(0, 545)]), (35, .ifCond .eq 12, 47, 0, 0, []), (38, .iload_n 3, 0, 0, 0, []), (39, .iconst 1, 0, 0, 0, []), (40, .iload 4, 0, 0, 0, []), (42, .iconst 1, 0, 0, 0, []), (43, .isub, 0, 0, 0, []), (44, .ishl, 0, 0, 0, []), (45, .ior, 0, 0, 0, []), (46, .istore_n 3, 0, 0, 0, []), (47, .iinc 4 1, 0, 0, 0, []), (50, .goto (-33), 17, 0, 0, []), (53, .iload_n 3, 0, 0, 0, []), (54, .ireturn, 0, 0, 0, [])]
abbrev mX10_sorts : am_M := (yX10_sorts, cX10_sorts, 5, some .int, 10, am_lk tbX10_sorts)
def tbX10_many : List (Nat × am_I) := [(0, .iload_n 1, 0, 0, 0, []), (1, .iconst 4, 0, 0, 0, []), (2, .invokestatic 89, 110, 2, 1, [(0, 370)]), (5, .ifCond .eq 12, 17, 0, 0, []), (8, .iload_n 2, 0, 0, 0, []), (9, .bipush 6, 0, 0, 0, []), (11, .invokestatic 89, 110, 2, 1, [(0, 370)]), (14, .ifCond .ne 6, 20, 0, 0, []), (17, .bipush (-2), 0, 0, 0, []), (19, .ireturn, 0, 0, 0, []), (20, .iload_n 2, 0, 0, 0, []), (21, .ifCond .ne 15, 36, 0, 0, []), (24, .aload_n 0, 0, 0, 0, []), (25, .getfield 17, 10, 1, 1, [(0, 330)]), (28, .iload_n 1, 0, 0, 0, []), (29, .aaload, 0, 0, 0, []), (30, .getfield 178, 8, 0, 0, [(0, 106)]), (33, .goto 13, 46, 0, 0, []), (36, .aload_n 0, 0, 0, 0, []), (37, .getfield 17, 10, 1, 1, [(0, 330)]), (40, .iload_n 1, 0, 0, 0, []), (41, .aaload, 0, 0, 0, []), (42, .iload_n 2, 0, 0, 0, []), (43, .invokevirtual 181, 58, 2, 1, [(0, 567)]), (46, .ireturn, 0, 0, 0, [])]
abbrev mX10_many : am_M := (yX10_many, cX10_many, 3, some .int, 10, am_lk tbX10_many)
def tbX10_at : List (Nat × am_I) := [(0, .iload_n 1, 0, 0, 0, []), (1, .iconst 4, 0, 0, 0, []), (2, .invokestatic 89, 110, 2, 1, [(0, 370)]), (5, .ifCond .eq 13, 18, 0, 0, []), (8, .iload_n 2, 0, 0, 0, []), (9, .iconst 1, 0, 0, 0, []), (10, .if_icmp .lt 8, 18, 0, 0, []), (13, .iload_n 2, 0, 0, 0, []), (14, .iconst 5, 0, 0, 0, []), (15, .if_icmp .le 6, 21, 0, 0, []), (18, .bipush (-2), 0, 0, 0, []), (20, .ireturn, 0, 0, 0, []), (21, .iload_n 3, 0, 0, 0, []), (22, .ifCond .ge 7, 29, 0, 0, []), (25, .iconst (-1), 0, 0, 0, []), (26, .goto 14, 40, 0, 0, []), (29, .aload_n 0, 0, 0, 0, []), (30, .getfield 17, 10, 1, 1, [(0, 330)]), (33, .iload_n 1, 0, 0, 0, []), (34, .aaload, 0, 0, 0, []), (35, .iload_n 2, 0, 0, 0, []), (36, .iload_n 3, 0, 0, 0, []), (37, .invokevirtual 184, 59, 3, 1, [(0, 576)]), (40, .ireturn, 0, 0, 0, [])]
abbrev mX10_at : am_M := (yX10_at, cX10_at, 4, some .int, 10, am_lk tbX10_at)
def tbX10_best : List (Nat × am_I) := [(0, .iload_n 1, 0, 0, 0, []), (1, .iconst 4, 0, 0, 0, []), (2, .invokestatic 89, 110, 2, 1, [(0, 370)]), (5, .ifCond .eq 19, 24, 0, 0, []), (8, .iload_n 2, 0, 0, 0, []), (9, .iconst 4, 0, 0, 0, []), (10, .invokestatic 89, 110, 2, 1, [(0, 370)]), (13, .ifCond .eq 11, 24, 0, 0, []), (16, .iload_n 3, 0, 0, 0, []), (17, .iconst 2, 0, 0, 0, []), (18, .invokestatic 89, 110, 2, 1, [(0, 370)]), (21, .ifCond .ne 6, 27, 0, 0, []), (24, .bipush (-2), 0, 0, 0, []), (26, .ireturn, 0, 0, 0, []), (27, .aload_n 0, 0, 0, 0, []), (28, .getfield 29, 10, 3, 1, [(0, 332)]), (31, .iload_n 2, 0, 0, 0, []), (32, .aaload, 0, 0, 0, []), (33, .invokevirtual 118, 34, 1, 1, [(0, 419)]), (36, .ifCond .eq 6, 42, 0, 0, []), (39, .bipush (-11), 0, 0, 0, []), (41, .ireturn, 0, 0, 0, []), (42, .aload_n 0, 0, 0, 0, []), (43, .getfield 17, 10, 1, 1, [(0, 330)]), (46, .iload_n 1, 0, 0, 0, []), (47, .aaload, 0, 0, 0, []), (48, .aload_n 0, 0, 0, 0, []), (49, .getfield 29, 10, 3, 1, [(0, 332)]), (52, .iload_n 2, 0, 0, 0, []), (53, .aaload, 0, 0, 0, []), (54, .invokevirtual 187, 61, 2, 1, [(0, 584)]), (57, .istore 4, 0, 0, 0, []), (59, .iload_n 3, 0, 0, 0, []), (60, .ifCond .ne 8, 68, 0, 0, []), (63, .iload 4, 0, 0, 0, []), (65, .goto 14, 79, 0, 0, []), (68, .aload_n 0, 0, 0, 0, []), (69, .getfield 29, 10, 3, 1, [(0, 332)]), (72, .iload_n 2, 0, 0, 0, []), (73, .aaload, 0, 0, 0, []), (74, .iload 4, 0, 0, 0, []), (76, .invokevirtual 191, 39, 2, 1, [(0, 597)]), (79, .ireturn, 0, 0, 0, [])]
abbrev mX10_best : am_M := (yX10_best, cX10_best, 5, some .int, 10, am_lk tbX10_best)
def tbX10_dual : List (Nat × am_I) := [(0, .iload_n 1, 0, 0, 0, []), (1, .iconst 4, 0, 0, 0, []), (2, .invokestatic 89, 110, 2, 1, [(0, 370)]), (5, .ifCond .eq 11, 16, 0, 0, []), (8, .iload_n 2, 0, 0, 0, []), (9, .iconst 4, 0, 0, 0, []), (10, .invokestatic 89, 110, 2, 1, [(0, 370)]), (13, .ifCond .ne 6, 19, 0, 0, []), (16, .bipush (-2), 0, 0, 0, []), (18, .ireturn, 0, 0, 0, []), (19, .aload_n 0, 0, 0, 0, []), (20, .getfield 76, 10, 10, 1, [(0, 339)]), (23, .aload_n 0, 0, 0, 0, []), (24, .getfield 17, 10, 1, 1, [(0, 330)]), (27, .iload_n 1, 0, 0, 0, []), (28, .aaload, 0, 0, 0, []), (29, .invokevirtual 194, 47, 2, 0, [(0, 602)]), (32, .aload_n 0, 0, 0, 0, []), (33, .getfield 17, 10, 1, 1, [(0, 330)]), (36, .iload_n 2, 0, 0, 0, []), (37, .aaload, 0, 0, 0, []), (38, .aload_n 0, 0, 0, 0, []), (39, .getfield 76, 10, 10, 1, [(0, 339)]), (42, .invokevirtual 198, 43, 2, 0, [(0, 606)]), (45, .aload_n 0, 0, 0, 0, []), (46, .getfield 76, 10, 10, 1, [(0, 339)]), (49, .invokevirtual 143, 42, 1, 1, [(0, 478)]), (52, .ireturn, 0, 0, 0, [])]
abbrev mX10_dual : am_M := (yX10_dual, cX10_dual, 3, some .int, 10, am_lk tbX10_dual)
def tbX10_minor : List (Nat × am_I) := [(0, .iload_n 2, 0, 0, 0, []), (1, .iconst 4, 0, 0, 0, []), (2, .invokestatic 89, 110, 2, 1, [(0, 370)]), (5, .ifCond .eq 29, 34, 0, 0, []), (8, .aload_n 0, 0, 0, 0, []), (9, .iload_n 1, 0, 0, 0, []), (10, .iload_n 3, 0, 0, 0, []), (11, .invokevirtual 166, 113, 3, 1, [(0, 527)]), (14, .ifCond .eq 20, 34, 0, 0, []), (17, .aload_n 0, 0, 0, 0, []), (18, .iload_n 1, 0, 0, 0, []), (19, .iload 4, 0, 0, 0, []), (21, .invokevirtual 166, 113, 3, 1, [(0, 527)]), (24, .ifCond .eq 10, 34, 0, 0, []), (27, .iload_n 3, 0, 0, 0, []), (28, .iload 4, 0, 0, 0, []), (30, .iand, 0, 0, 0, []), (31, .ifCond .eq 6, 37, 0, 0, []), (34, .bipush (-2), 0, 0, 0, []), (36, .ireturn, 0, 0, 0, []), (37, .aload_n 0, 0, 0, 0, []), (38, .getfield 76, 10, 10, 1, [(0, 339)]), (41, .aload_n 0, 0, 0, 0, []), (42, .getfield 17, 10, 1, 1, [(0, 330)]), (45, .iload_n 1, 0, 0, 0, []), (46, .aaload, 0, 0, 0, []), (47, .iload_n 3, 0, 0, 0, []), (48, .iload 4, 0, 0, 0, []), (50, .invokevirtual 201, 48, 4, 0, [(0, 615)]), (53, .aload_n 0, 0, 0, 0, []), (54, .getfield 17, 10, 1, 1, [(0, 330)]), (57, .iload_n 2, 0, 0, 0, []), (58, .aaload, 0, 0, 0, []), (59, .aload_n 0, 0, 0, 0, []), (60, .getfield 76, 10, 10, 1, [(0, 339)]), (63, .invokevirtual 198, 43, 2, 0, [(0, 606)]), (66, .aload_n 0, 0, 0, 0, []), (67, .getfield 76, 10, 10, 1, [(0, 339)]), (70, .getfield 178, 8, 0, 0, [(0, 106)]), (73, .ireturn, 0, 0, 0, [])]
abbrev mX10_minor : am_M := (yX10_minor, cX10_minor, 5, some .int, 10, am_lk tbX10_minor)
def tbX10_union : List (Nat × am_I) := [(0, .iload_n 1, 0, 0, 0, []), (1, .iconst 4, 0, 0, 0, []), (2, .invokestatic 89, 110, 2, 1, [(0, 370)]), (5, .ifCond .eq 19, 24, 0, 0, []), (8, .iload_n 2, 0, 0, 0, []), (9, .iconst 4, 0, 0, 0, []), (10, .invokestatic 89, 110, 2, 1, [(0, 370)]), (13, .ifCond .eq 11, 24, 0, 0, []), (16, .iload_n 3, 0, 0, 0, []), (17, .iconst 4, 0, 0, 0, []), (18, .invokestatic 89, 110, 2, 1, [(0, 370)]), (21, .ifCond .ne 6, 27, 0, 0, []), (24, .bipush (-2), 0, 0, 0, []), (26, .ireturn, 0, 0, 0, []), (27, .aload_n 0, 0, 0, 0, []), (28, .getfield 17, 10, 1, 1, [(0, 330)]), (31, .iload_n 1, 0, 0, 0, []), (32, .aaload, 0, 0, 0, []), (33, .getfield 178, 8, 0, 0, [(0, 106)]), (36, .aload_n 0, 0, 0, 0, []), (37, .getfield 17, 10, 1, 1, [(0, 330)]), (40, .iload_n 2, 0, 0, 0, []), (41, .aaload, 0, 0, 0, []), (42, .getfield 178, 8, 0, 0, [(0, 106)]), (45, .if_icmp .eq 6, 51, 0, 0, []), (48, .bipush (-3), 0, 0, 0, []), (50, .ireturn, 0, 0, 0, []), (51, .aload_n 0, 0, 0, 0, []), (52, .getfield 76, 10, 10, 1, [(0, 339)]), (55, .aload_n 0, 0, 0, 0, []), (56, .getfield 17, 10, 1, 1, [(0, 330)]), (59, .iload_n 1, 0, 0, 0, []), (60, .aaload, 0, 0, 0, []), (61, .aload_n 0, 0, 0, 0, []), (62, .getfield 17, 10, 1, 1, [(0, 330)]), (65, .iload_n 2, 0, 0, 0, []), (66, .aaload, 0, 0, 0, []), (67, .invokevirtual 205, 50, 3, 0, [(0, 626)]), (70, .aload_n 0, 0, 0, 0, []), (71, .getfield 17, 10, 1, 1, [(0, 330)]), (74, .iload_n 3, 0, 0, 0, []), (75, .aaload, 0, 0, 0, []), (76, .aload_n 0, 0, 0, 0, []), (77, .getfield 76, 10, 10, 1, [(0, 339)]), (80, .invokevirtual 198, 43, 2, 0, [(0, 606)]), (83, .aload_n 0, 0, 0, 0, []), (84, .getfield 76, 10, 10, 1, [(0, 339)]), (87, .invokevirtual 143, 42, 1, 1, [(0, 478)]), (90, .ireturn, 0, 0, 0, [])]
abbrev mX10_union : am_M := (yX10_union, cX10_union, 4, some .int, 10, am_lk tbX10_union)
def tbX10_renumber : List (Nat × am_I) := [(0, .iload_n 1, 0, 0, 0, []), (1, .iconst 4, 0, 0, 0, []), (2, .invokestatic 89, 110, 2, 1, [(0, 370)]), (5, .ifCond .eq 19, 24, 0, 0, []), (8, .iload_n 2, 0, 0, 0, []), (9, .iconst 4, 0, 0, 0, []), (10, .invokestatic 89, 110, 2, 1, [(0, 370)]), (13, .ifCond .eq 11, 24, 0, 0, []), (16, .iload_n 3, 0, 0, 0, []), (17, .iconst 4, 0, 0, 0, []), (18, .invokestatic 89, 110, 2, 1, [(0, 370)]), (21, .ifCond .ne 6, 27, 0, 0, []), (24, .bipush (-2), 0, 0, 0, []), (26, .ireturn, 0, 0, 0, []), (27, .aload_n 0, 0, 0, 0, []), (28, .getfield 29, 10, 3, 1, [(0, 332)]), (31, .iload_n 3, 0, 0, 0, []), (32, .aaload, 0, 0, 0, []), (33, .invokevirtual 118, 34, 1, 1, [(0, 419)]), (36, .ifCond .eq 6, 42, 0, 0, []), (39, .bipush (-11), 0, 0, 0, []), (41, .ireturn, 0, 0, 0, []), (42, .aload_n 0, 0, 0, 0, []), (43, .getfield 29, 10, 3, 1, [(0, 332)]), (46, .iload_n 3, 0, 0, 0, []), (47, .aaload, 0, 0, 0, []), (48, .getfield 122, 7, 1, 0, [(0, 318)]), (51, .aload_n 0, 0, 0, 0, []), (52, .getfield 17, 10, 1, 1, [(0, 330)]), (55, .iload_n 1, 0, 0, 0, []), (56, .aaload, 0, 0, 0, []), (57, .getfield 178, 8, 0, 0, [(0, 106)]), (60, .if_icmp .ge 6, 66, 0, 0, []), (63, .bipush (-12), 0, 0, 0, []), (65, .ireturn, 0, 0, 0, []), (66, .aload_n 0, 0, 0, 0, []), (67, .getfield 71, 10, 9, 1, [(0, 338)]), (70, .aload_n 0, 0, 0, 0, []), (71, .getfield 29, 10, 3, 1, [(0, 332)]), (74, .iload_n 3, 0, 0, 0, []), (75, .aaload, 0, 0, 0, []), (76, .aload_n 0, 0, 0, 0, []), (77, .getfield 17, 10, 1, 1, [(0, 330)]), (80, .iload_n 1, 0, 0, 0, []), (81, .aaload, 0, 0, 0, []), (82, .getfield 178, 8, 0, 0, [(0, 106)]), (85, .invokevirtual 209, 30, 3, 1, [(0, 634)]), (88, .ifCond .ne 6, 94, 0, 0, []), (91, .bipush (-3), 0, 0, 0, []), (93, .ireturn, 0, 0, 0, []), (94, .aload_n 0, 0, 0, 0, []), (95, .getfield 76, 10, 10, 1, [(0, 339)]), (98, .aload_n 0, 0, 0, 0, []), (99, .getfield 17, 10, 1, 1, [(0, 330)]), (102, .iload_n 1, 0, 0, 0, []), (103, .aaload, 0, 0, 0, []), (104, .aload_n 0, 0, 0, 0, []), (105, .getfield 71, 10, 9, 1, [(0, 338)]), (108, .invokevirtual 212, 51, 3, 0, [(0, 640)]), (111, .aload_n 0, 0, 0, 0, []), (112, .getfield 17, 10, 1, 1, [(0, 330)]), (115, .iload_n 2, 0, 0, 0, []), (116, .aaload, 0, 0, 0, []), (117, .aload_n 0, 0, 0, 0, []), (118, .getfield 76, 10, 10, 1, [(0, 339)]), (121, .invokevirtual 198, 43, 2, 0, [(0, 606)]), (124, .iconst 1, 0, 0, 0, []), (125, .ireturn, 0, 0, 0, [])]
abbrev mX10_renumber : am_M := (yX10_renumber, cX10_renumber, 4, some .int, 10, am_lk tbX10_renumber)
def tbX10_same : List (Nat × am_I) := [(0, .iload_n 1, 0, 0, 0, []), (1, .iconst 4, 0, 0, 0, []), (2, .invokestatic 89, 110, 2, 1, [(0, 370)]), (5, .ifCond .eq 11, 16, 0, 0, []), (8, .iload_n 2, 0, 0, 0, []), (9, .iconst 4, 0, 0, 0, []), (10, .invokestatic 89, 110, 2, 1, [(0, 370)]), (13, .ifCond .ne 6, 19, 0, 0, []), (16, .bipush (-2), 0, 0, 0, []), (18, .ireturn, 0, 0, 0, []), (19, .aload_n 0, 0, 0, 0, []), (20, .getfield 17, 10, 1, 1, [(0, 330)]), (23, .iload_n 1, 0, 0, 0, []), (24, .aaload, 0, 0, 0, []), (25, .getfield 178, 8, 0, 0, [(0, 106)]), (28, .aload_n 0, 0, 0, 0, []), (29, .getfield 17, 10, 1, 1, [(0, 330)]), (32, .iload_n 2, 0, 0, 0, []), (33, .aaload, 0, 0, 0, []), (34, .getfield 178, 8, 0, 0, [(0, 106)]), (37, .if_icmp .ne 26, 63, 0, 0, []), (40, .aload_n 0, 0, 0, 0, []), (41, .getfield 17, 10, 1, 1, [(0, 330)]), (44, .iload_n 1, 0, 0, 0, []), (45, .aaload, 0, 0, 0, []), (46, .aload_n 0, 0, 0, 0, []), (47, .getfield 17, 10, 1, 1, [(0, 330)]), (50, .iload_n 2, 0, 0, 0, []), (51, .aaload, 0, 0, 0, []), (52, .invokevirtual 216, 52, 2, 1, [(0, 652)]), (55, .iconst (-1), 0, 0, 0, []), (56, .if_icmp .ne 7, 63, 0, 0, []), (59, .iconst 1, 0, 0, 0, []), (60, .goto 4, 64, 0, 0, []), (63, .iconst 0, 0, 0, 0, []), (64, .ireturn, 0, 0, 0, [])]
abbrev mX10_same : am_M := (yX10_same, cX10_same, 3, some .int, 10, am_lk tbX10_same)
def tbX10_alike : List (Nat × am_I) := [(0, .iload_n 1, 0, 0, 0, []), (1, .iconst 4, 0, 0, 0, []), (2, .invokestatic 89, 110, 2, 1, [(0, 370)]), (5, .ifCond .eq 11, 16, 0, 0, []), (8, .iload_n 2, 0, 0, 0, []), (9, .iconst 4, 0, 0, 0, []), (10, .invokestatic 89, 110, 2, 1, [(0, 370)]), (13, .ifCond .ne 6, 19, 0, 0, []), (16, .bipush (-2), 0, 0, 0, []), (18, .ireturn, 0, 0, 0, []), (19, .aload_n 0, 0, 0, 0, []), (20, .getfield 17, 10, 1, 1, [(0, 330)]), (23, .iload_n 1, 0, 0, 0, []), (24, .aaload, 0, 0, 0, []), (25, .getfield 178, 8, 0, 0, [(0, 106)]), (28, .istore_n 3, 0, 0, 0, []), (29, .iload_n 3, 0, 0, 0, []), (30, .bipush 6, 0, 0, 0, []), (32, .if_icmp .le 20, 52, 0, 0, []), (35, .aload_n 0, 0, 0, 0, []), (36, .getfield 17, 10, 1, 1, [(0, 330)]), (39, .iload_n 2, 0, 0, 0, []), (40, .aaload, 0, 0, 0, []), (41, .getfield 178, 8, 0, 0, [(0, 106)]), (44, .bipush 6, 0, 0, 0, []), (46, .if_icmp .le 6, 52, 0, 0, []), (49, .bipush (-5), 0, 0, 0, []), (51, .ireturn, 0, 0, 0, []), (52, .iload_n 3, 0, 0, 0, []), (53, .aload_n 0, 0, 0, 0, []), (54, .getfield 17, 10, 1, 1, [(0, 330)]), (57, .iload_n 2, 0, 0, 0, []), (58, .aaload, 0, 0, 0, []), (59, .getfield 178, 8, 0, 0, [(0, 106)]), (62, .if_icmp .eq 5, 67, 0, 0, []), (65, .iconst 0, 0, 0, 0, []), (66, .ireturn, 0, 0, 0, []), (67, .aload_n 0, 0, 0, 0, []), (68, .getfield 71, 10, 9, 1, [(0, 338)]), (71, .aload_n 0, 0, 0, 0, []), (72, .getfield 17, 10, 1, 1, [(0, 330)]), (75, .iload_n 1, 0, 0, 0, []), (76, .aaload, 0, 0, 0, []), (77, .aload_n 0, 0, 0, 0, []), (78, .getfield 17, 10, 1, 1, [(0, 330)]), (81, .iload_n 2, 0, 0, 0, []), (82, .aaload, 0, 0, 0, []), (83, .iconst 0, 0, 0, 0, []), (84, .iconst 0, 0, 0, 0, []), (85, .invokestatic 220, 32, 5, 1, [(0, 660)]), (88, .ifCond .eq 7, 95, 0, 0, []), (91, .iconst 1, 0, 0, 0, []), (92, .goto 4, 96, 0, 0, []), (95, .iconst 0, 0, 0, 0, []), (96, .ireturn, 0, 0, 0, [])]
abbrev mX10_alike : am_M := (yX10_alike, cX10_alike, 4, some .int, 10, am_lk tbX10_alike)
def tbX10_writings : List (Nat × am_I) := [(0, .iload_n 1, 0, 0, 0, []), (1, .iconst 4, 0, 0, 0, []), (2, .invokestatic 89, 110, 2, 1, [(0, 370)]), (5, .ifCond .eq 11, 16, 0, 0, []), (8, .iload_n 2, 0, 0, 0, []), (9, .iconst 4, 0, 0, 0, []), (10, .invokestatic 89, 110, 2, 1, [(0, 370)]), (13, .ifCond .ne 6, 19, 0, 0, []), (16, .bipush (-2), 0, 0, 0, []), (18, .ireturn, 0, 0, 0, []), (19, .aload_n 0, 0, 0, 0, []), (20, .getfield 57, 10, 7, 1, [(0, 336)]), (23, .aload_n 0, 0, 0, 0, []), (24, .getfield 17, 10, 1, 1, [(0, 330)]), (27, .iload_n 1, 0, 0, 0, []), (28, .aaload, 0, 0, 0, []), (29, .aload_n 0, 0, 0, 0, []), (30, .getfield 11, 10, 0, 1, [(0, 329)]), (33, .iload_n 2, 0, 0, 0, []), (34, .aaload, 0, 0, 0, []), (35, .ldc 226, 2147483647, 0, 0, [(0, 674)]), (37, .invokevirtual 227, 65, 4, 1, [(0, 675)]), (40, .ireturn, 0, 0, 0, [])]
abbrev mX10_writings : am_M := (yX10_writings, cX10_writings, 3, some .int, 10, am_lk tbX10_writings)
def tbX10_writes : List (Nat × am_I) := [(0, .iload_n 1, 0, 0, 0, []), (1, .iconst 4, 0, 0, 0, []), (2, .invokestatic 89, 110, 2, 1, [(0, 370)]), (5, .ifCond .eq 19, 24, 0, 0, []), (8, .iload_n 2, 0, 0, 0, []), (9, .iconst 4, 0, 0, 0, []), (10, .invokestatic 89, 110, 2, 1, [(0, 370)]), (13, .ifCond .eq 11, 24, 0, 0, []), (16, .iload_n 3, 0, 0, 0, []), (17, .iconst 4, 0, 0, 0, []), (18, .invokestatic 89, 110, 2, 1, [(0, 370)]), (21, .ifCond .ne 6, 27, 0, 0, []), (24, .bipush (-2), 0, 0, 0, []), (26, .ireturn, 0, 0, 0, []), (27, .aload_n 0, 0, 0, 0, []), (28, .getfield 57, 10, 7, 1, [(0, 336)]), (31, .aload_n 0, 0, 0, 0, []), (32, .getfield 17, 10, 1, 1, [(0, 330)]), (35, .iload_n 1, 0, 0, 0, []), (36, .aaload, 0, 0, 0, []), (37, .aload_n 0, 0, 0, 0, []), (38, .getfield 11, 10, 0, 1, [(0, 329)]), (41, .iload_n 2, 0, 0, 0, []), (42, .aaload, 0, 0, 0, []), (43, .iconst 1, 0, 0, 0, []), (44, .invokevirtual 227, 65, 4, 1, [(0, 675)]), (47, .ifCond .ne 5, 52, 0, 0, []), (50, .iconst (-1), 0, 0, 0, []), (51, .ireturn, 0, 0, 0, []), (52, .aload_n 0, 0, 0, 0, []), (53, .getfield 17, 10, 1, 1, [(0, 330)]), (56, .iload_n 1, 0, 0, 0, []), (57, .aaload, 0, 0, 0, []), (58, .getfield 178, 8, 0, 0, [(0, 106)]), (61, .istore 4, 0, 0, 0, []), (63, .aload_n 0, 0, 0, 0, []), (64, .getfield 29, 10, 3, 1, [(0, 332)]), (67, .iload_n 3, 0, 0, 0, []), (68, .aaload, 0, 0, 0, []), (69, .iconst 1, 0, 0, 0, []), (70, .iload 4, 0, 0, 0, []), (72, .invokevirtual 231, 35, 3, 0, [(0, 732)]), (75, .iconst 0, 0, 0, 0, []), (76, .istore 5, 0, 0, 0, []), (78, .iload 5, 0, 0, 0, []), (80, .iload 4, 0, 0, 0, []), (82, .if_icmp .ge 29, 111, 0, 0, []), (85, .aload_n 0, 0, 0, 0, []), (86, .getfield 29, 10, 3, 1, [(0, 332)]), (89, .iload_n 3, 0, 0, 0, []), (90, .aaload, 0, 0, 0, []), (91, .iload 5, 0, 0, 0, []), (93, .aload_n 0, 0, 0, 0, []), (94, .getfield 57, 10, 7, 1, [(0, 336)]), (97, .iload 5, 0, 0, 0, []), (99, .invokevirtual 233, 66, 2, 1, [(0, 737)]), (102, .invokevirtual 236, 38, 3, 0, [(0, 741)]), (105, .iinc 5 1, 0, 0, 0, []), (108, .goto (-30), 78, 0, 0, []), (111, .iload 4, 0, 0, 0, []), (113, .ireturn, 0, 0, 0, [])]
abbrev mX10_writes : am_M := (yX10_writes, cX10_writes, 6, some .int, 10, am_lk tbX10_writes)
def tbX10_clash : List (Nat × am_I) := [(0, .iload_n 1, 0, 0, 0, []), (1, .iconst 4, 0, 0, 0, []), (2, .invokestatic 89, 110, 2, 1, [(0, 370)]), (5, .ifCond .ne 6, 11, 0, 0, []), (8, .bipush (-2), 0, 0, 0, []), (10, .ireturn, 0, 0, 0, []), (11, .aload_n 0, 0, 0, 0, []), (12, .getfield 57, 10, 7, 1, [(0, 336)]), (15, .aload_n 0, 0, 0, 0, []), (16, .getfield 17, 10, 1, 1, [(0, 330)]), (19, .iload_n 1, 0, 0, 0, []), (20, .aaload, 0, 0, 0, []), (21, .aload_n 0, 0, 0, 0, []), (22, .getfield 11, 10, 0, 1, [(0, 329)]), (25, .iconst 0, 0, 0, 0, []), (26, .aaload, 0, 0, 0, []), (27, .invokevirtual 239, 67, 3, 0, [(0, 749)]), (30, .aload_n 0, 0, 0, 0, []), (31, .getfield 76, 10, 10, 1, [(0, 339)]), (34, .aload_n 0, 0, 0, 0, []), (35, .getfield 57, 10, 7, 1, [(0, 336)]), (38, .getfield 243, 9, 0, 1, [(0, 214)]), (41, .aload_n 0, 0, 0, 0, []), (42, .getfield 17, 10, 1, 1, [(0, 330)]), (45, .iload_n 1, 0, 0, 0, []), (46, .aaload, 0, 0, 0, []), (47, .getfield 178, 8, 0, 0, [(0, 106)]), (50, .invokevirtual 139, 45, 3, 0, [(0, 448)]), (53, .aload_n 0, 0, 0, 0, []), (54, .getfield 17, 10, 1, 1, [(0, 330)]), (57, .iload_n 1, 0, 0, 0, []), (58, .aaload, 0, 0, 0, []), (59, .aload_n 0, 0, 0, 0, []), (60, .getfield 76, 10, 10, 1, [(0, 339)]), (63, .invokevirtual 216, 52, 2, 1, [(0, 652)]), (66, .ireturn, 0, 0, 0, [])]
abbrev mX10_clash : am_M := (yX10_clash, cX10_clash, 2, some .int, 10, am_lk tbX10_clash)
def tbX10_excluded : List (Nat × am_I) := [(0, .iload_n 1, 0, 0, 0, []), (1, .iconst 4, 0, 0, 0, []), (2, .invokestatic 89, 110, 2, 1, [(0, 370)]), (5, .ifCond .eq 19, 24, 0, 0, []), (8, .iload_n 2, 0, 0, 0, []), (9, .iconst 2, 0, 0, 0, []), (10, .invokestatic 89, 110, 2, 1, [(0, 370)]), (13, .ifCond .eq 11, 24, 0, 0, []), (16, .iload_n 3, 0, 0, 0, []), (17, .iconst 3, 0, 0, 0, []), (18, .invokestatic 89, 110, 2, 1, [(0, 370)]), (21, .ifCond .ne 6, 27, 0, 0, []), (24, .bipush (-2), 0, 0, 0, []), (26, .ireturn, 0, 0, 0, []), (27, .aload_n 0, 0, 0, 0, []), (28, .getfield 64, 10, 8, 1, [(0, 337)]), (31, .aload_n 0, 0, 0, 0, []), (32, .getfield 17, 10, 1, 1, [(0, 330)]), (35, .iload_n 1, 0, 0, 0, []), (36, .aaload, 0, 0, 0, []), (37, .iload_n 2, 0, 0, 0, []), (38, .ifCond .ne 7, 45, 0, 0, []), (41, .iconst 1, 0, 0, 0, []), (42, .goto 4, 46, 0, 0, []), (45, .iconst 0, 0, 0, 0, []), (46, .invokevirtual 244, 7, 3, 1, [(0, 754)]), (49, .ifCond .ne 5, 54, 0, 0, []), (52, .iconst (-1), 0, 0, 0, []), (53, .ireturn, 0, 0, 0, []), (54, .iload_n 3, 0, 0, 0, []), (55, .lookupswitch 41 #[(0, 25), (1, 33)], 96, 0, 0, [(0, 80), (1, 88)]), (80, .aload_n 0, 0, 0, 0, []), (81, .getfield 64, 10, 8, 1, [(0, 337)]), (84, .getfield 247, 1, 2, 0, [(0, 262)]), (87, .ireturn, 0, 0, 0, []), (88, .aload_n 0, 0, 0, 0, []), (89, .getfield 64, 10, 8, 1, [(0, 337)]), (92, .getfield 248, 1, 3, 0, [(0, 264)]), (95, .ireturn, 0, 0, 0, []), (96, .aload_n 0, 0, 0, 0, []), (97, .getfield 64, 10, 8, 1, [(0, 337)]), (100, .getfield 251, 1, 4, 0, [(0, 266)]), (103, .ireturn, 0, 0, 0, [])]
abbrev mX10_excluded : am_M := (yX10_excluded, cX10_excluded, 4, some .int, 10, am_lk tbX10_excluded)
def tbX10_seed : List (Nat × am_I) := [(0, .aload_n 0, 0, 0, 0, []), (1, .getfield 80, 10, 11, 0, [(0, 340)]), (4, .istore_n 2, 0, 0, 0, []), (5, .aload_n 0, 0, 0, 0, []), (6, .iload_n 1, 0, 0, 0, []), (7, .putfield 80, 10, 11, 0, [(0, 340)]), (10, .iload_n 2, 0, 0, 0, []), (11, .ireturn, 0, 0, 0, [])]
abbrev mX10_seed : am_M := (yX10_seed, cX10_seed, 3, some .int, 10, am_lk tbX10_seed)
def tbX10_deal : List (Nat × am_I) := [(0, .iload_n 1, 0, 0, 0, []), (1, .iconst 4, 0, 0, 0, []), (2, .invokestatic 89, 110, 2, 1, [(0, 370)]), (5, .ifCond .eq 13, 18, 0, 0, []), (8, .iload_n 2, 0, 0, 0, []), (9, .iload_n 3, 0, 0, 0, []), (10, .iload 4, 0, 0, 0, []), (12, .invokestatic 254, 112, 3, 1, [(0, 790)]), (15, .ifCond .ne 6, 21, 0, 0, []), (18, .bipush (-2), 0, 0, 0, []), (20, .ireturn, 0, 0, 0, []), (21, .aload_n 0, 0, 0, 0, []), (22, .aload_n 0, 0, 0, 0, []), (23, .aload_n 0, 0, 0, 0, []), (24, .getfield 11, 10, 0, 1, [(0, 329)]), (27, .iload_n 2, 0, 0, 0, []), (28, .aaload, 0, 0, 0, []), (29, .iload_n 3, 0, 0, 0, []), (30, .iload 4, 0, 0, 0, []), (32, .aload_n 0, 0, 0, 0, []), (33, .getfield 80, 10, 11, 0, [(0, 340)]), (36, .invokevirtual 258, 115, 5, 1, [(0, 793)]), (39, .putfield 80, 10, 11, 0, [(0, 340)]), (42, .aload_n 0, 0, 0, 0, []), (43, .getfield 17, 10, 1, 1, [(0, 330)]), (46, .iload_n 1, 0, 0, 0, []), (47, .aaload, 0, 0, 0, []), (48, .aload_n 0, 0, 0, 0, []), (49, .getfield 50, 10, 6, 1, [(0, 335)]), (52, .iload_n 3, 0, 0, 0, []), (53, .invokevirtual 139, 45, 3, 0, [(0, 448)]), (56, .aload_n 0, 0, 0, 0, []), (57, .getfield 17, 10, 1, 1, [(0, 330)]), (60, .iload_n 1, 0, 0, 0, []), (61, .aaload, 0, 0, 0, []), (62, .invokevirtual 143, 42, 1, 1, [(0, 478)]), (65, .ireturn, 0, 0, 0, [])]
abbrev mX10_deal : am_M := (yX10_deal, cX10_deal, 5, some .int, 10, am_lk tbX10_deal)
def tbX10_chance : List (Nat × am_I) := [(0, .iload_n 1, 0, 0, 0, []), (1, .iload_n 2, 0, 0, 0, []), (2, .iload_n 3, 0, 0, 0, []), (3, .invokestatic 254, 112, 3, 1, [(0, 790)]), (6, .ifCond .eq 24, 30, 0, 0, []), (9, .iload 4, 0, 0, 0, []), (11, .iconst 1, 0, 0, 0, []), (12, .if_icmp .lt 18, 30, 0, 0, []), (15, .iload 4, 0, 0, 0, []), (17, .iconst 5, 0, 0, 0, []), (18, .if_icmp .gt 12, 30, 0, 0, []), (21, .iload 5, 0, 0, 0, []), (23, .iconst 4, 0, 0, 0, []), (24, .invokestatic 89, 110, 2, 1, [(0, 370)]), (27, .ifCond .ne 6, 33, 0, 0, []), (30, .bipush (-2), 0, 0, 0, []), (32, .ireturn, 0, 0, 0, []), (33, .aload_n 0, 0, 0, 0, []), (34, .getfield 80, 10, 11, 0, [(0, 340)]), (37, .istore 6, 0, 0, 0, []), (39, .iconst 0, 0, 0, 0, []), (40, .istore 7, 0, 0, 0, []), (42, .iconst 0, 0, 0, 0, []), (43, .istore 8, 0, 0, 0, []), (45, .iload 8, 0, 0, 0, []), (47, .iload 4, 0, 0, 0, []), (49, .if_icmp .ge 61, 110, 0, 0, []), (52, .aload_n 0, 0, 0, 0, []), (53, .aload_n 0, 0, 0, 0, []), (54, .getfield 11, 10, 0, 1, [(0, 329)]), (57, .iload_n 1, 0, 0, 0, []), (58, .aaload, 0, 0, 0, []), (59, .iload_n 2, 0, 0, 0, []), (60, .iload_n 3, 0, 0, 0, []), (61, .iload 6, 0, 0, 0, []), (63, .invokevirtual 258, 115, 5, 1, [(0, 793)]), (66, .istore 6, 0, 0, 0, []), (68, .aload_n 0, 0, 0, 0, []), (69, .getfield 76, 10, 10, 1, [(0, 339)]), (72, .aload_n 0, 0, 0, 0, []), (73, .getfield 50, 10, 6, 1, [(0, 335)]), (76, .iload_n 2, 0, 0, 0, []), (77, .invokevirtual 139, 45, 3, 0, [(0, 448)]), (80, .iload 7, 0, 0, 0, []), (82, .aload_n 0, 0, 0, 0, []), (83, .getfield 57, 10, 7, 1, [(0, 336)]), (86, .aload_n 0, 0, 0, 0, []), (87, .getfield 76, 10, 10, 1, [(0, 339)]), (90, .aload_n 0, 0, 0, 0, []), (91, .getfield 11, 10, 0, 1, [(0, 329)]), (94, .iload 5, 0, 0, 0, []), (96, .aaload, 0, 0, 0, []), (97, .iconst 1, 0, 0, 0, []), (98, .invokevirtual 227, 65, 4, 1, [(0, 675)]), (101, .iadd, 0, 0, 0, []), (102, .istore 7, 0, 0, 0, []), (104, .iinc 8 1, 0, 0, 0, []), (107, .goto (-62), 45, 0, 0, []), (110, .iload 7, 0, 0, 0, []), (112, .ireturn, 0, 0, 0, [])]
abbrev mX10_chance : am_M := (yX10_chance, cX10_chance, 9, some .int, 10, am_lk tbX10_chance)
def tbX10_hold : List (Nat × am_I) := [(0, .iload_n 1, 0, 0, 0, []), (1, .iconst 4, 0, 0, 0, []), (2, .invokestatic 89, 110, 2, 1, [(0, 370)]), (5, .ifCond .ne 6, 11, 0, 0, []), (8, .bipush (-2), 0, 0, 0, []), (10, .ireturn, 0, 0, 0, []), (11, .iload_n 2, 0, 0, 0, []), (12, .ifCond .ne 29, 41, 0, 0, []), (15, .iload_n 3, 0, 0, 0, []), (16, .iconst 4, 0, 0, 0, []), (17, .invokestatic 89, 110, 2, 1, [(0, 370)]), (20, .ifCond .eq 21, 41, 0, 0, []), (23, .aload_n 0, 0, 0, 0, []), (24, .getfield 23, 10, 2, 1, [(0, 331)]), (27, .iload_n 1, 0, 0, 0, []), (28, .aaload, 0, 0, 0, []), (29, .aload_n 0, 0, 0, 0, []), (30, .getfield 11, 10, 0, 1, [(0, 329)]), (33, .iload_n 3, 0, 0, 0, []), (34, .aaload, 0, 0, 0, []), (35, .invokevirtual 262, 18, 2, 0, [(0, 808)]), (38, .goto 54, 92, 0, 0, []), (41, .iload_n 2, 0, 0, 0, []), (42, .iconst 1, 0, 0, 0, []), (43, .if_icmp .ne 29, 72, 0, 0, []), (46, .iload_n 3, 0, 0, 0, []), (47, .iconst 4, 0, 0, 0, []), (48, .invokestatic 89, 110, 2, 1, [(0, 370)]), (51, .ifCond .eq 21, 72, 0, 0, []), (54, .aload_n 0, 0, 0, 0, []), (55, .getfield 23, 10, 2, 1, [(0, 331)]), (58, .iload_n 1, 0, 0, 0, []), (59, .aaload, 0, 0, 0, []), (60, .aload_n 0, 0, 0, 0, []), (61, .getfield 17, 10, 1, 1, [(0, 330)]), (64, .iload_n 3, 0, 0, 0, []), (65, .aaload, 0, 0, 0, []), (66, .invokevirtual 265, 19, 2, 0, [(0, 812)]), (69, .goto 23, 92, 0, 0, []), (72, .iload_n 2, 0, 0, 0, []), (73, .iconst 2, 0, 0, 0, []), (74, .if_icmp .ne 15, 89, 0, 0, []), (77, .aload_n 0, 0, 0, 0, []), (78, .getfield 23, 10, 2, 1, [(0, 331)]), (81, .iload_n 1, 0, 0, 0, []), (82, .aaload, 0, 0, 0, []), (83, .invokevirtual 268, 20, 1, 0, [(0, 817)]), (86, .goto 6, 92, 0, 0, []), (89, .bipush (-2), 0, 0, 0, []), (91, .ireturn, 0, 0, 0, []), (92, .iconst 1, 0, 0, 0, []), (93, .ireturn, 0, 0, 0, [])]
abbrev mX10_hold : am_M := (yX10_hold, cX10_hold, 4, some .int, 10, am_lk tbX10_hold)
def tbX10_held : List (Nat × am_I) := [(0, .iload_n 1, 0, 0, 0, []), (1, .iconst 4, 0, 0, 0, []), (2, .invokestatic 89, 110, 2, 1, [(0, 370)]), (5, .ifCond .eq 11, 16, 0, 0, []), (8, .iload_n 2, 0, 0, 0, []), (9, .iconst 5, 0, 0, 0, []), (10, .invokestatic 89, 110, 2, 1, [(0, 370)]), (13, .ifCond .ne 6, 19, 0, 0, []), (16, .bipush (-2), 0, 0, 0, []), (18, .ireturn, 0, 0, 0, []), (19, .aload_n 0, 0, 0, 0, []), (20, .getfield 23, 10, 2, 1, [(0, 331)]), (23, .iload_n 1, 0, 0, 0, []), (24, .aaload, 0, 0, 0, []), (25, .astore_n 3, 0, 0, 0, []), (26, .aload_n 3, 0, 0, 0, []), (27, .invokevirtual 271, 17, 1, 1, [(0, 825)]), (30, .ifCond .eq 6, 36, 0, 0, []), (33, .bipush (-11), 0, 0, 0, []), (35, .ireturn, 0, 0, 0, []), (36, .aload_n 3, 0, 0, 0, []), (37, .getfield 274, 3, 0, 2, [(0, 298)]), (40, .astore 4, 0, 0, 0, []), (42, .aload 4, 0, 0, 0, []), (44, .ifnull 20, 64, 0, 0, []), (47, .iload_n 2, 0, 0, 0, []), (48, .iconst 2, 0, 0, 0, []), (49, .if_icmp .ge 12, 61, 0, 0, []), (52, .aload 4, 0, 0, 0, []), (54, .iload_n 2, 0, 0, 0, []), (55, .invokevirtual 278, 16, 2, 1, [(0, 829)]), (58, .goto 5, 63, 0, 0, []), (61, .bipush (-13), 0, 0, 0, []), (63, .ireturn, 0, 0, 0, []), (64, .iload_n 2, 0, 0, 0, []), (65, .tableswitch 52 2 4 #[27, 35, 43], 117, 0, 0, [(2, 92), (3, 100), (4, 108)]), (92, .aload_n 3, 0, 0, 0, []), (93, .getfield 281, 3, 2, 1, [(0, 301)]), (96, .getfield 178, 8, 0, 0, [(0, 106)]), (99, .ireturn, 0, 0, 0, []), (100, .aload_n 3, 0, 0, 0, []), (101, .getfield 281, 3, 2, 1, [(0, 301)]), (104, .invokevirtual 143, 42, 1, 1, [(0, 478)]), (107, .ireturn, 0, 0, 0, []), (108, .aload_n 3, 0, 0, 0, []), (109, .getfield 281, 3, 2, 1, [(0, 301)]), (112, .iconst 2, 0, 0, 0, []), (113, .invokevirtual 181, 58, 2, 1, [(0, 567)]), (116, .ireturn, 0, 0, 0, []), (117, .bipush (-13), 0, 0, 0, []), (119, .ireturn, 0, 0, 0, [])]
abbrev mX10_held : am_M := (yX10_held, cX10_held, 5, some .int, 10, am_lk tbX10_held)
def tbX10_take : List (Nat × am_I) := [(0, .iload_n 1, 0, 0, 0, []), (1, .iconst 4, 0, 0, 0, []), (2, .invokestatic 89, 110, 2, 1, [(0, 370)]), (5, .ifCond .eq 11, 16, 0, 0, []), (8, .iload_n 2, 0, 0, 0, []), (9, .iconst 4, 0, 0, 0, []), (10, .invokestatic 89, 110, 2, 1, [(0, 370)]), (13, .ifCond .ne 6, 19, 0, 0, []), (16, .bipush (-2), 0, 0, 0, []), (18, .ireturn, 0, 0, 0, []), (19, .aload_n 0, 0, 0, 0, []), (20, .getfield 23, 10, 2, 1, [(0, 331)]), (23, .iload_n 2, 0, 0, 0, []), (24, .aaload, 0, 0, 0, []), (25, .invokevirtual 271, 17, 1, 1, [(0, 825)]), (28, .ifCond .eq 6, 34, 0, 0, []), (31, .bipush (-11), 0, 0, 0, []), (33, .ireturn, 0, 0, 0, []), (34, .aload_n 0, 0, 0, 0, []), (35, .getfield 23, 10, 2, 1, [(0, 331)]), (38, .iload_n 2, 0, 0, 0, []), (39, .aaload, 0, 0, 0, []), (40, .getfield 274, 3, 0, 2, [(0, 298)]), (43, .ifnull 6, 49, 0, 0, []), (46, .bipush (-13), 0, 0, 0, []), (48, .ireturn, 0, 0, 0, []), (49, .aload_n 0, 0, 0, 0, []), (50, .getfield 17, 10, 1, 1, [(0, 330)]), (53, .iload_n 1, 0, 0, 0, []), (54, .aaload, 0, 0, 0, []), (55, .aload_n 0, 0, 0, 0, []), (56, .getfield 23, 10, 2, 1, [(0, 331)]), (59, .iload_n 2, 0, 0, 0, []), (60, .aaload, 0, 0, 0, []), (61, .getfield 281, 3, 2, 1, [(0, 301)]), (64, .invokevirtual 198, 43, 2, 0, [(0, 606)]), (67, .aload_n 0, 0, 0, 0, []), (68, .getfield 17, 10, 1, 1, [(0, 330)]), (71, .iload_n 1, 0, 0, 0, []), (72, .aaload, 0, 0, 0, []), (73, .getfield 178, 8, 0, 0, [(0, 106)]), (76, .ireturn, 0, 0, 0, [])]
abbrev mX10_take : am_M := (yX10_take, cX10_take, 3, some .int, 10, am_lk tbX10_take)
def tbX10_sheet : List (Nat × am_I) := [(0, .iload_n 1, 0, 0, 0, []), (1, .iconst 4, 0, 0, 0, []), (2, .invokestatic 89, 110, 2, 1, [(0, 370)]), (5, .ifCond .eq 13, 18, 0, 0, []), (8, .iload_n 2, 0, 0, 0, []), (9, .iconst (-1), 0, 0, 0, []), (10, .if_icmp .lt 8, 18, 0, 0, []), (13, .iload_n 2, 0, 0, 0, []), (14, .iconst 1, 0, 0, 0, []), (15, .if_icmp .le 6, 21, 0, 0, []), (18, .bipush (-2), 0, 0, 0, []), (20, .ireturn, 0, 0, 0, []), (21, .iload_n 2, 0, 0, 0, []), (22, .iconst (-1), 0, 0, 0, []), (23, .if_icmp .ne 16, 39, 0, 0, []), (26, .aload_n 0, 0, 0, 0, []), (27, .getfield 29, 10, 3, 1, [(0, 332)]), (30, .iload_n 1, 0, 0, 0, []), (31, .aaload, 0, 0, 0, []), (32, .iconst (-1), 0, 0, 0, []), (33, .iconst 0, 0, 0, 0, []), (34, .invokevirtual 231, 35, 3, 0, [(0, 732)]), (37, .iconst 1, 0, 0, 0, []), (38, .ireturn, 0, 0, 0, []), (39, .iload_n 3, 0, 0, 0, []), (40, .bipush 64, 0, 0, 0, []), (42, .if_icmp .le 6, 48, 0, 0, []), (45, .bipush (-2), 0, 0, 0, []), (47, .ireturn, 0, 0, 0, []), (48, .iload_n 3, 0, 0, 0, []), (49, .ifCond .ge 6, 55, 0, 0, []), (52, .bipush (-14), 0, 0, 0, []), (54, .ireturn, 0, 0, 0, []), (55, .aload_n 0, 0, 0, 0, []), (56, .getfield 29, 10, 3, 1, [(0, 332)]), (59, .iload_n 1, 0, 0, 0, []), (60, .aaload, 0, 0, 0, []), (61, .iload_n 2, 0, 0, 0, []), (62, .iload_n 3, 0, 0, 0, []), (63, .invokevirtual 231, 35, 3, 0, [(0, 732)]), (66, .iconst 1, 0, 0, 0, []), (67, .ireturn, 0, 0, 0, [])]
abbrev mX10_sheet : am_M := (yX10_sheet, cX10_sheet, 4, some .int, 10, am_lk tbX10_sheet)
def tbX10_write : List (Nat × am_I) := [(0, .aload_n 0, 0, 0, 0, []), (1, .iload_n 1, 0, 0, 0, []), (2, .iload_n 2, 0, 0, 0, []), (3, .invokevirtual 284, 114, 3, 1, [(0, 845)]), (6, .istore 4, 0, 0, 0, []), (8, .iload 4, 0, 0, 0, []), (10, .ifCond .eq 6, 16, 0, 0, []), (13, .iload 4, 0, 0, 0, []), (15, .ireturn, 0, 0, 0, []), (16, .aload_n 0, 0, 0, 0, []), (17, .getfield 29, 10, 3, 1, [(0, 332)]), (20, .iload_n 1, 0, 0, 0, []), (21, .aaload, 0, 0, 0, []), (22, .iload_n 2, 0, 0, 0, []), (23, .iload_n 3, 0, 0, 0, []), (24, .invokevirtual 236, 38, 3, 0, [(0, 741)]), (27, .iconst 1, 0, 0, 0, []), (28, .ireturn, 0, 0, 0, [])]
abbrev mX10_write : am_M := (yX10_write, cX10_write, 5, some .int, 10, am_lk tbX10_write)
def tbX10_item : List (Nat × am_I) := [(0, .aload_n 0, 0, 0, 0, []), (1, .iload_n 1, 0, 0, 0, []), (2, .iload_n 2, 0, 0, 0, []), (3, .invokevirtual 284, 114, 3, 1, [(0, 845)]), (6, .istore_n 3, 0, 0, 0, []), (7, .iload_n 3, 0, 0, 0, []), (8, .ifCond .eq 7, 15, 0, 0, []), (11, .iload_n 3, 0, 0, 0, []), (12, .goto 13, 25, 0, 0, []), (15, .aload_n 0, 0, 0, 0, []), (16, .getfield 29, 10, 3, 1, [(0, 332)]), (19, .iload_n 1, 0, 0, 0, []), (20, .aaload, 0, 0, 0, []), (21, .iload_n 2, 0, 0, 0, []), (22, .invokevirtual 129, 37, 2, 1, [(0, 427)]), (25, .ireturn, 0, 0, 0, [])]
abbrev mX10_item : am_M := (yX10_item, cX10_item, 4, some .int, 10, am_lk tbX10_item)
def tbX10_copy : List (Nat × am_I) := [(0, .iload_n 1, 0, 0, 0, []), (1, .iconst 4, 0, 0, 0, []), (2, .invokestatic 89, 110, 2, 1, [(0, 370)]), (5, .ifCond .eq 11, 16, 0, 0, []), (8, .iload_n 3, 0, 0, 0, []), (9, .iconst 4, 0, 0, 0, []), (10, .invokestatic 89, 110, 2, 1, [(0, 370)]), (13, .ifCond .ne 6, 19, 0, 0, []), (16, .bipush (-2), 0, 0, 0, []), (18, .ireturn, 0, 0, 0, []), (19, .aload_n 0, 0, 0, 0, []), (20, .getfield 29, 10, 3, 1, [(0, 332)]), (23, .iload_n 1, 0, 0, 0, []), (24, .aaload, 0, 0, 0, []), (25, .invokevirtual 118, 34, 1, 1, [(0, 419)]), (28, .ifCond .ne 15, 43, 0, 0, []), (31, .aload_n 0, 0, 0, 0, []), (32, .getfield 29, 10, 3, 1, [(0, 332)]), (35, .iload_n 3, 0, 0, 0, []), (36, .aaload, 0, 0, 0, []), (37, .invokevirtual 118, 34, 1, 1, [(0, 419)]), (40, .ifCond .eq 6, 46, 0, 0, []), (43, .bipush (-11), 0, 0, 0, []), (45, .ireturn, 0, 0, 0, []), (46, .aload_n 0, 0, 0, 0, []), (47, .getfield 29, 10, 3, 1, [(0, 332)]), (50, .iload_n 1, 0, 0, 0, []), (51, .aaload, 0, 0, 0, []), (52, .getfield 287, 7, 0, 0, [(0, 315)]), (55, .aload_n 0, 0, 0, 0, []), (56, .getfield 29, 10, 3, 1, [(0, 332)]), (59, .iload_n 3, 0, 0, 0, []), (60, .aaload, 0, 0, 0, []), (61, .getfield 287, 7, 0, 0, [(0, 315)]), (64, .if_icmp .eq 6, 70, 0, 0, []), (67, .bipush (-13), 0, 0, 0, []), (69, .ireturn, 0, 0, 0, []), (70, .aload_n 0, 0, 0, 0, []), (71, .getfield 29, 10, 3, 1, [(0, 332)]), (74, .iload_n 1, 0, 0, 0, []), (75, .aaload, 0, 0, 0, []), (76, .iload_n 2, 0, 0, 0, []), (77, .iload 5, 0, 0, 0, []), (79, .invokevirtual 288, 36, 3, 1, [(0, 857)]), (82, .ifCond .eq 19, 101, 0, 0, []), (85, .aload_n 0, 0, 0, 0, []), (86, .getfield 29, 10, 3, 1, [(0, 332)]), (89, .iload_n 3, 0, 0, 0, []), (90, .aaload, 0, 0, 0, []), (91, .iload 4, 0, 0, 0, []), (93, .iload 5, 0, 0, 0, []), (95, .invokevirtual 288, 36, 3, 1, [(0, 857)]), (98, .ifCond .ne 6, 104, 0, 0, []), (101, .bipush (-12), 0, 0, 0, []), (103, .ireturn, 0, 0, 0, []), (104, .aload_n 0, 0, 0, 0, []), (105, .getfield 29, 10, 3, 1, [(0, 332)]), (108, .iload_n 1, 0, 0, 0, []), (109, .aaload, 0, 0, 0, []), (110, .getfield 291, 7, 2, 1, [(0, 321)]), (113, .iload_n 2, 0, 0, 0, []), (114, .aload_n 0, 0, 0, 0, []), (115, .getfield 29, 10, 3, 1, [(0, 332)]), (118, .iload_n 3, 0, 0, 0, []), (119, .aaload, 0, 0, 0, []), (120, .getfield 291, 7, 2, 1, [(0, 321)]), (123, .iload 4, 0, 0, 0, []), (125, .iload 5, 0, 0, 0, []), (127, .invokestatic 295, 999, 0, 0, [(0, 861)]), (130, .iload 5, 0, 0, 0, []), (132, .ireturn, 0, 0, 0, [])]
abbrev mX10_copy : am_M := (yX10_copy, cX10_copy, 6, some .int, 10, am_lk tbX10_copy)
def tbX10_list : List (Nat × am_I) := [(0, .iload_n 1, 0, 0, 0, []), (1, .iconst 4, 0, 0, 0, []), (2, .invokestatic 89, 110, 2, 1, [(0, 370)]), (5, .ifCond .eq 11, 16, 0, 0, []), (8, .iload_n 2, 0, 0, 0, []), (9, .iconst 4, 0, 0, 0, []), (10, .invokestatic 89, 110, 2, 1, [(0, 370)]), (13, .ifCond .ne 6, 19, 0, 0, []), (16, .bipush (-2), 0, 0, 0, []), (18, .ireturn, 0, 0, 0, []), (19, .aload_n 0, 0, 0, 0, []), (20, .getfield 17, 10, 1, 1, [(0, 330)]), (23, .iload_n 1, 0, 0, 0, []), (24, .aaload, 0, 0, 0, []), (25, .iconst 2, 0, 0, 0, []), (26, .invokevirtual 181, 58, 2, 1, [(0, 567)]), (29, .istore_n 3, 0, 0, 0, []), (30, .aload_n 0, 0, 0, 0, []), (31, .getfield 29, 10, 3, 1, [(0, 332)]), (34, .iload_n 2, 0, 0, 0, []), (35, .aaload, 0, 0, 0, []), (36, .iconst 1, 0, 0, 0, []), (37, .iload_n 3, 0, 0, 0, []), (38, .invokevirtual 231, 35, 3, 0, [(0, 732)]), (41, .iconst 0, 0, 0, 0, []), (42, .istore 4, 0, 0, 0, []), (44, .iconst 0, 0, 0, 0, []), (45, .istore 5, 0, 0, 0, []), (47, .iload 5, 0, 0, 0, []), (49, .aload_n 0, 0, 0, 0, []), (50, .getfield 17, 10, 1, 1, [(0, 330)]), (53, .iload_n 1, 0, 0, 0, []), (54, .aaload, 0, 0, 0, []), (55, .invokevirtual 301, 40, 1, 1, [(0, 531)]), (58, .if_icmp .gt 40, 98, 0, 0, []), (61, .aload_n 0, 0, 0, 0, []), (62, .getfield 17, 10, 1, 1, [(0, 330)]), (65, .iload_n 1, 0, 0, 0, []), (66, .aaload, 0, 0, 0, []), (67, .iconst 2, 0, 0, 0, []), (68, .iload 5, 0, 0, 0, []), (70, .invokevirtual 175, 57, 3, 1, [(0, 545)]), (73, .ifCond .eq 19, 92, 0, 0, []), (76, .aload_n 0, 0, 0, 0, []), (77, .getfield 29, 10, 3, 1, [(0, 332)]), (80, .iload_n 2, 0, 0, 0, []), (81, .aaload, 0, 0, 0, []), (82, .iload 4, 0, 0, 0, []), (84, .iload 5, 0, 0, 0, []), (86, .invokevirtual 236, 38, 3, 0, [(0, 741)]), (89, .iinc 4 1, 0, 0, 0, []), (92, .iinc 5 1, 0, 0, 0, []), (95, .goto (-48), 47, 0, 0, []), (98, .iload_n 3, 0, 0, 0, []), (99, .ireturn, 0, 0, 0, [])]
abbrev mX10_list : am_M := (yX10_list, cX10_list, 6, some .int, 10, am_lk tbX10_list)
def tbX10_image : List (Nat × am_I) := [(0, .iconst 0, 0, 0, 0, []), (1, .istore_n 1, 0, 0, 0, []), (2, .iload_n 1, 0, 0, 0, []), (3, .iconst 4, 0, 0, 0, []), (4, .if_icmp .ge 27, 31, 0, 0, []), (7, .aload_n 0, 0, 0, 0, []), (8, .getfield 36, 10, 4, 1, [(0, 333)]), (11, .getfield 304, 4, 2, 1, [(0, 117)]), (14, .iload_n 1, 0, 0, 0, []), (15, .aaload, 0, 0, 0, []), (16, .aload_n 0, 0, 0, 0, []), (17, .getfield 17, 10, 1, 1, [(0, 330)]), (20, .iload_n 1, 0, 0, 0, []), (21, .aaload, 0, 0, 0, []), (22, .invokevirtual 198, 43, 2, 0, [(0, 606)]), (25, .iinc 1 1, 0, 0, 0, []), (28, .goto (-26), 2, 0, 0, []), (31, .aload_n 0, 0, 0, 0, []), (32, .getfield 36, 10, 4, 1, [(0, 333)]), (35, .aload_n 0, 0, 0, 0, []), (36, .getfield 80, 10, 11, 0, [(0, 340)]), (39, .putfield 305, 4, 1, 0, [(0, 115)]), (42, .aload_n 0, 0, 0, 0, []), (43, .getfield 36, 10, 4, 1, [(0, 333)]), (46, .iconst 1, 0, 0, 0, []), (47, .putfield 306, 4, 0, 3, [(0, 114)]), (50, .aload_n 0, 0, 0, 0, []), (51, .invokevirtual 310, 116, 1, 1, [(0, 870)]), (54, .ireturn, 0, 0, 0, [])]
abbrev mX10_image : am_M := (yX10_image, cX10_image, 2, some .int, 10, am_lk tbX10_image)
def tbX10_back : List (Nat × am_I) := [(0, .aload_n 0, 0, 0, 0, []), (1, .getfield 36, 10, 4, 1, [(0, 333)]), (4, .getfield 306, 4, 0, 0, [(0, 114)]), (7, .ifCond .ne 6, 13, 0, 0, []), (10, .bipush (-3), 0, 0, 0, []), (12, .ireturn, 0, 0, 0, []), (13, .iconst 0, 0, 0, 0, []), (14, .istore_n 1, 0, 0, 0, []), (15, .iload_n 1, 0, 0, 0, []), (16, .iconst 4, 0, 0, 0, []), (17, .if_icmp .ge 27, 44, 0, 0, []), (20, .aload_n 0, 0, 0, 0, []), (21, .getfield 17, 10, 1, 1, [(0, 330)]), (24, .iload_n 1, 0, 0, 0, []), (25, .aaload, 0, 0, 0, []), (26, .aload_n 0, 0, 0, 0, []), (27, .getfield 36, 10, 4, 1, [(0, 333)]), (30, .getfield 304, 4, 2, 1, [(0, 117)]), (33, .iload_n 1, 0, 0, 0, []), (34, .aaload, 0, 0, 0, []), (35, .invokevirtual 198, 43, 2, 0, [(0, 606)]), (38, .iinc 1 1, 0, 0, 0, []), (41, .goto (-26), 15, 0, 0, []), (44, .aload_n 0, 0, 0, 0, []), (45, .aload_n 0, 0, 0, 0, []), (46, .getfield 36, 10, 4, 1, [(0, 333)]), (49, .getfield 305, 4, 1, 0, [(0, 115)]), (52, .putfield 80, 10, 11, 0, [(0, 340)]), (55, .aload_n 0, 0, 0, 0, []), (56, .invokevirtual 310, 116, 1, 1, [(0, 870)]), (59, .ireturn, 0, 0, 0, [])]
abbrev mX10_back : am_M := (yX10_back, cX10_back, 2, some .int, 10, am_lk tbX10_back)
def tbX10_count : List (Nat × am_I) := [(0, .iload_n 1, 0, 0, 0, []), (1, .tableswitch 51 0 3 #[31, 36, 41, 46], 52, 0, 0, [(0, 32), (1, 37), (2, 42), (3, 47)]), (32, .aload_n 0, 0, 0, 0, []), (33, .invokevirtual 310, 116, 1, 1, [(0, 870)]), (36, .ireturn, 0, 0, 0, []), (37, .aload_n 0, 0, 0, 0, []), (38, .getfield 80, 10, 11, 0, [(0, 340)]), (41, .ireturn, 0, 0, 0, []), (42, .aload_n 0, 0, 0, 0, []), (43, .invokevirtual 313, 117, 1, 1, [(0, 882)]), (46, .ireturn, 0, 0, 0, []), (47, .aload_n 0, 0, 0, 0, []), (48, .invokevirtual 316, 118, 1, 1, [(0, 886)]), (51, .ireturn, 0, 0, 0, []), (52, .bipush (-2), 0, 0, 0, []), (54, .ireturn, 0, 0, 0, [])]
abbrev mX10_count : am_M := (yX10_count, cX10_count, 2, some .int, 10, am_lk tbX10_count)
def tbX10_isBelow : List (Nat × am_I) := [(0, .iload_n 0, 0, 0, 0, []), (1, .ifCond .lt 12, 13, 0, 0, []), (4, .iload_n 0, 0, 0, 0, []), (5, .iload_n 1, 0, 0, 0, []), (6, .if_icmp .ge 7, 13, 0, 0, []), (9, .iconst 1, 0, 0, 0, []), (10, .goto 4, 14, 0, 0, []), (13, .iconst 0, 0, 0, 0, []), (14, .ireturn, 0, 0, 0, [])]
abbrev mX10_isBelow : am_M := (yX10_isBelow, cX10_isBelow, 2, some .boolean, 12, am_lk tbX10_isBelow)
def tbX10_isElementCount : List (Nat × am_I) := [(0, .iload_n 0, 0, 0, 0, []), (1, .ifCond .lt 13, 14, 0, 0, []), (4, .iload_n 0, 0, 0, 0, []), (5, .bipush 7, 0, 0, 0, []), (7, .if_icmp .gt 7, 14, 0, 0, []), (10, .iconst 1, 0, 0, 0, []), (11, .goto 4, 15, 0, 0, []), (14, .iconst 0, 0, 0, 0, []), (15, .ireturn, 0, 0, 0, [])]
abbrev mX10_isElementCount : am_M := (yX10_isElementCount, cX10_isElementCount, 1, some .boolean, 12, am_lk tbX10_isElementCount)
def tbX10_isDealt : List (Nat × am_I) := [(0, .iload_n 0, 0, 0, 0, []), (1, .iconst 4, 0, 0, 0, []), (2, .invokestatic 89, 110, 2, 1, [(0, 370)]), (5, .ifCond .eq 23, 28, 0, 0, []), (8, .iload_n 1, 0, 0, 0, []), (9, .invokestatic 110, 111, 1, 1, [(0, 395)]), (12, .ifCond .eq 16, 28, 0, 0, []), (15, .iload_n 2, 0, 0, 0, []), (16, .ifCond .lt 12, 28, 0, 0, []), (19, .iload_n 2, 0, 0, 0, []), (20, .iconst 4, 0, 0, 0, []), (21, .if_icmp .gt 7, 28, 0, 0, []), (24, .iconst 1, 0, 0, 0, []), (25, .goto 4, 29, 0, 0, []), (28, .iconst 0, 0, 0, 0, []), (29, .ireturn, 0, 0, 0, [])]
abbrev mX10_isDealt : am_M := (yX10_isDealt, cX10_isDealt, 3, some .boolean, 12, am_lk tbX10_isDealt)
def tbX10_isSetOf : List (Nat × am_I) := [(0, .iload_n 1, 0, 0, 0, []), (1, .iconst 4, 0, 0, 0, []), (2, .invokestatic 89, 110, 2, 1, [(0, 370)]), (5, .ifCond .eq 23, 28, 0, 0, []), (8, .iload_n 2, 0, 0, 0, []), (9, .aload_n 0, 0, 0, 0, []), (10, .getfield 17, 10, 1, 1, [(0, 330)]), (13, .iload_n 1, 0, 0, 0, []), (14, .aaload, 0, 0, 0, []), (15, .invokevirtual 301, 40, 1, 1, [(0, 531)]), (18, .iconst (-1), 0, 0, 0, []), (19, .ixor, 0, 0, 0, []), (20, .iand, 0, 0, 0, []), (21, .ifCond .ne 7, 28, 0, 0, []), (24, .iconst 1, 0, 0, 0, []), (25, .goto 4, 29, 0, 0, []), (28, .iconst 0, 0, 0, 0, []), (29, .ireturn, 0, 0, 0, [])]
abbrev mX10_isSetOf : am_M := (yX10_isSetOf, cX10_isSetOf, 3, some .boolean, 10, am_lk tbX10_isSetOf)
def tbX10_refusalOfPlace : List (Nat × am_I) := [(0, .iload_n 1, 0, 0, 0, []), (1, .iconst 4, 0, 0, 0, []), (2, .invokestatic 89, 110, 2, 1, [(0, 370)]), (5, .ifCond .ne 6, 11, 0, 0, []), (8, .bipush (-2), 0, 0, 0, []), (10, .ireturn, 0, 0, 0, []), (11, .aload_n 0, 0, 0, 0, []), (12, .getfield 29, 10, 3, 1, [(0, 332)]), (15, .iload_n 1, 0, 0, 0, []), (16, .aaload, 0, 0, 0, []), (17, .invokevirtual 118, 34, 1, 1, [(0, 419)]), (20, .ifCond .eq 6, 26, 0, 0, []), (23, .bipush (-11), 0, 0, 0, []), (25, .ireturn, 0, 0, 0, []), (26, .iload_n 2, 0, 0, 0, []), (27, .aload_n 0, 0, 0, 0, []), (28, .getfield 29, 10, 3, 1, [(0, 332)]), (31, .iload_n 1, 0, 0, 0, []), (32, .aaload, 0, 0, 0, []), (33, .getfield 122, 7, 1, 0, [(0, 318)]), (36, .invokestatic 89, 110, 2, 1, [(0, 370)]), (39, .ifCond .eq 7, 46, 0, 0, []), (42, .iconst 0, 0, 0, 0, []), (43, .goto 5, 48, 0, 0, []), (46, .bipush (-12), 0, 0, 0, []), (48, .ireturn, 0, 0, 0, [])]
abbrev mX10_refusalOfPlace : am_M := (yX10_refusalOfPlace, cX10_refusalOfPlace, 3, some .int, 10, am_lk tbX10_refusalOfPlace)
def tbX10_drawColumns : List (Nat × am_I) := [(0, .iload 4, 0, 0, 0, []), (2, .istore 5, 0, 0, 0, []), (4, .aload_n 0, 0, 0, 0, []), (5, .getfield 50, 10, 6, 1, [(0, 335)]), (8, .aload_n 1, 0, 0, 0, []), (9, .invokevirtual 132, 21, 2, 0, [(0, 432)]), (12, .iconst 0, 0, 0, 0, []), (13, .istore 6, 0, 0, 0, []), (15, .iload 6, 0, 0, 0, []), (17, .iload_n 2, 0, 0, 0, []), (18, .if_icmp .ge 56, 74, 0, 0, []), (21, .iconst 0, 0, 0, 0, []), (22, .istore 7, 0, 0, 0, []), (24, .iload 7, 0, 0, 0, []), (26, .iload_n 3, 0, 0, 0, []), (27, .if_icmp .ge 41, 68, 0, 0, []), (30, .iload 5, 0, 0, 0, []), (32, .ldc_w 319, 1103515245, 0, 0, [(0, 797)]), (35, .imul, 0, 0, 0, []), (36, .sipush 12345, 0, 0, 0, []), (39, .iadd, 0, 0, 0, []), (40, .istore 5, 0, 0, 0, []), (42, .aload_n 0, 0, 0, 0, []), (43, .getfield 50, 10, 6, 1, [(0, 335)]), (46, .iload 6, 0, 0, 0, []), (48, .iload 7, 0, 0, 0, []), (50, .aload_n 1, 0, 0, 0, []), (51, .iload 5, 0, 0, 0, []), (53, .bipush 16, 0, 0, 0, []), (55, .iushr, 0, 0, 0, []), (56, .invokevirtual 320, 10, 2, 1, [(0, 798)]), (59, .invokevirtual 323, 22, 4, 0, [(0, 799)]), (62, .iinc 7 1, 0, 0, 0, []), (65, .goto (-41), 24, 0, 0, []), (68, .iinc 6 1, 0, 0, 0, []), (71, .goto (-56), 15, 0, 0, []), (74, .iload 5, 0, 0, 0, []), (76, .ireturn, 0, 0, 0, [])]
abbrev mX10_drawColumns : am_M := (yX10_drawColumns, cX10_drawColumns, 8, some .int, 10, am_lk tbX10_drawColumns)
def tbX10_elementsOfAll : List (Nat × am_I) := [(0, .iconst 0, 0, 0, 0, []), (1, .istore_n 1, 0, 0, 0, []), (2, .iconst 0, 0, 0, 0, []), (3, .istore_n 2, 0, 0, 0, []), (4, .iload_n 2, 0, 0, 0, []), (5, .iconst 4, 0, 0, 0, []), (6, .if_icmp .ge 21, 27, 0, 0, []), (9, .iload_n 1, 0, 0, 0, []), (10, .aload_n 0, 0, 0, 0, []), (11, .getfield 17, 10, 1, 1, [(0, 330)]), (14, .iload_n 2, 0, 0, 0, []), (15, .aaload, 0, 0, 0, []), (16, .getfield 178, 8, 0, 0, [(0, 106)]), (19, .iadd, 0, 0, 0, []), (20, .istore_n 1, 0, 0, 0, []), (21, .iinc 2 1, 0, 0, 0, []), (24, .goto (-20), 4, 0, 0, []), (27, .iload_n 1, 0, 0, 0, []), (28, .ireturn, 0, 0, 0, [])]
abbrev mX10_elementsOfAll : am_M := (yX10_elementsOfAll, cX10_elementsOfAll, 3, some .int, 10, am_lk tbX10_elementsOfAll)
def tbX10_fullHolds : List (Nat × am_I) := [(0, .iconst 0, 0, 0, 0, []), (1, .istore_n 1, 0, 0, 0, []), (2, .iconst 0, 0, 0, 0, []), (3, .istore_n 2, 0, 0, 0, []), (4, .iload_n 2, 0, 0, 0, []), (5, .iconst 4, 0, 0, 0, []), (6, .if_icmp .ge 29, 35, 0, 0, []), (9, .iload_n 1, 0, 0, 0, []), (10, .aload_n 0, 0, 0, 0, []), (11, .getfield 23, 10, 2, 1, [(0, 331)]), (14, .iload_n 2, 0, 0, 0, []), (15, .aaload, 0, 0, 0, []), (16, .invokevirtual 271, 17, 1, 1, [(0, 825)]), (19, .ifCond .eq 7, 26, 0, 0, []), (22, .iconst 0, 0, 0, 0, []), (23, .goto 4, 27, 0, 0, []), (26, .iconst 1, 0, 0, 0, []), (27, .iadd, 0, 0, 0, []), (28, .istore_n 1, 0, 0, 0, []), (29, .iinc 2 1, 0, 0, 0, []), (32, .goto (-28), 4, 0, 0, []), (35, .iload_n 1, 0, 0, 0, []), (36, .ireturn, 0, 0, 0, [])]
abbrev mX10_fullHolds : am_M := (yX10_fullHolds, cX10_fullHolds, 3, some .int, 10, am_lk tbX10_fullHolds)
def tbX10_sheetsThere : List (Nat × am_I) := [(0, .iconst 0, 0, 0, 0, []), (1, .istore_n 1, 0, 0, 0, []), (2, .iconst 0, 0, 0, 0, []), (3, .istore_n 2, 0, 0, 0, []), (4, .iload_n 2, 0, 0, 0, []), (5, .iconst 4, 0, 0, 0, []), (6, .if_icmp .ge 29, 35, 0, 0, []), (9, .iload_n 1, 0, 0, 0, []), (10, .aload_n 0, 0, 0, 0, []), (11, .getfield 29, 10, 3, 1, [(0, 332)]), (14, .iload_n 2, 0, 0, 0, []), (15, .aaload, 0, 0, 0, []), (16, .invokevirtual 118, 34, 1, 1, [(0, 419)]), (19, .ifCond .eq 7, 26, 0, 0, []), (22, .iconst 0, 0, 0, 0, []), (23, .goto 4, 27, 0, 0, []), (26, .iconst 1, 0, 0, 0, []), (27, .iadd, 0, 0, 0, []), (28, .istore_n 1, 0, 0, 0, []), (29, .iinc 2 1, 0, 0, 0, []), (32, .goto (-28), 4, 0, 0, []), (35, .iload_n 1, 0, 0, 0, []), (36, .ireturn, 0, 0, 0, [])]
abbrev mX10_sheetsThere : am_M := (yX10_sheetsThere, cX10_sheetsThere, 3, some .int, 10, am_lk tbX10_sheetsThere)
def tbX11_in : List (Nat × am_I) := [(0, .iload_n 0, 0, 0, 0, []), (1, .iload_n 1, 0, 0, 0, []), (2, .if_icmp .lt 12, 14, 0, 0, []), (5, .iload_n 0, 0, 0, 0, []), (6, .iload_n 2, 0, 0, 0, []), (7, .if_icmp .gt 7, 14, 0, 0, []), (10, .iconst 1, 0, 0, 0, []), (11, .goto 4, 15, 0, 0, []), (14, .iconst 0, 0, 0, 0, []), (15, .ireturn, 0, 0, 0, [])]
abbrev mX11_in : am_M := (yX11_in, cX11_in, 3, some .boolean, 12, am_lk tbX11_in)
def tbX11_has : List (Nat × am_I) := [(0, .iload_n 0, 0, 0, 0, []), (1, .iload_n 1, 0, 0, 0, []), (2, .ishr, 0, 0, 0, []), (3, .iconst 1, 0, 0, 0, []), (4, .iand, 0, 0, 0, []), (5, .iconst 1, 0, 0, 0, []), (6, .if_icmp .ne 7, 13, 0, 0, []), (9, .iconst 1, 0, 0, 0, []), (10, .goto 4, 14, 0, 0, []), (13, .iconst 0, 0, 0, 0, []), (14, .ireturn, 0, 0, 0, [])]
abbrev mX11_has : am_M := (yX11_has, cX11_has, 2, some .boolean, 12, am_lk tbX11_has)
def tbX11_bits : List (Nat × am_I) := [(0, .iconst 0, 0, 0, 0, []), (1, .istore_n 1, 0, 0, 0, []), (2, .iload_n 0, 0, 0, 0, []), (3, .istore_n 2, 0, 0, 0, []), (4, .iload_n 2, 0, 0, 0, []), (5, .ifCond .eq 15, 20, 0, 0, []), (8, .iinc 1 1, 0, 0, 0, []), (11, .iload_n 2, 0, 0, 0, []), (12, .iload_n 2, 0, 0, 0, []), (13, .iconst 1, 0, 0, 0, []), (14, .isub, 0, 0, 0, []), (15, .iand, 0, 0, 0, []), (16, .istore_n 2, 0, 0, 0, []), (17, .goto (-13), 4, 0, 0, []), (20, .iload_n 1, 0, 0, 0, []), (21, .ireturn, 0, 0, 0, [])]
abbrev mX11_bits : am_M := (yX11_bits, cX11_bits, 3, some .int, 12, am_lk tbX11_bits)
def tbX11_plus : List (Nat × am_I) := [(0, .iload_n 1, 0, 0, 0, []), (1, .iconst 3, 0, 0, 0, []), (2, .if_icmp .ne 9, 11, 0, 0, []), (5, .iload_n 2, 0, 0, 0, []), (6, .iload_n 3, 0, 0, 0, []), (7, .ixor, 0, 0, 0, []), (8, .goto 13, 21, 0, 0, []), (11, .iload_n 2, 0, 0, 0, []), (12, .iload_n 3, 0, 0, 0, []), (13, .iadd, 0, 0, 0, []), (14, .aload_n 0, 0, 0, 0, []), (15, .getfield 7, 11, 0, 1, [(0, 896)]), (18, .iload_n 1, 0, 0, 0, []), (19, .iaload, 0, 0, 0, []), (20, .irem, 0, 0, 0, []), (21, .ireturn, 0, 0, 0, [])]
abbrev mX11_plus : am_M := (yX11_plus, cX11_plus, 4, some .int, 11, am_lk tbX11_plus)
def tbX11_minus : List (Nat × am_I) := [(0, .iload_n 1, 0, 0, 0, []), (1, .iconst 3, 0, 0, 0, []), (2, .if_icmp .ne 9, 11, 0, 0, []), (5, .iload_n 2, 0, 0, 0, []), (6, .iload_n 3, 0, 0, 0, []), (7, .ixor, 0, 0, 0, []), (8, .goto 20, 28, 0, 0, []), (11, .iload_n 2, 0, 0, 0, []), (12, .iload_n 3, 0, 0, 0, []), (13, .isub, 0, 0, 0, []), (14, .aload_n 0, 0, 0, 0, []), (15, .getfield 7, 11, 0, 1, [(0, 896)]), (18, .iload_n 1, 0, 0, 0, []), (19, .iaload, 0, 0, 0, []), (20, .iadd, 0, 0, 0, []), (21, .aload_n 0, 0, 0, 0, []), (22, .getfield 7, 11, 0, 1, [(0, 896)]), (25, .iload_n 1, 0, 0, 0, []), (26, .iaload, 0, 0, 0, []), (27, .irem, 0, 0, 0, []), (28, .ireturn, 0, 0, 0, [])]
abbrev mX11_minus : am_M := (yX11_minus, cX11_minus, 4, some .int, 11, am_lk tbX11_minus)
def tbX11_times : List (Nat × am_I) := [(0, .iload_n 1, 0, 0, 0, []), (1, .iconst 3, 0, 0, 0, []), (2, .if_icmp .ne 16, 18, 0, 0, []), (5, .aload_n 0, 0, 0, 0, []), (6, .getfield 13, 11, 1, 1, [(0, 897)]), (9, .iconst 4, 0, 0, 0, []), (10, .iload_n 2, 0, 0, 0, []), (11, .imul, 0, 0, 0, []), (12, .iload_n 3, 0, 0, 0, []), (13, .iadd, 0, 0, 0, []), (14, .iaload, 0, 0, 0, []), (15, .goto 13, 28, 0, 0, []), (18, .iload_n 2, 0, 0, 0, []), (19, .iload_n 3, 0, 0, 0, []), (20, .imul, 0, 0, 0, []), (21, .aload_n 0, 0, 0, 0, []), (22, .getfield 7, 11, 0, 1, [(0, 896)]), (25, .iload_n 1, 0, 0, 0, []), (26, .iaload, 0, 0, 0, []), (27, .irem, 0, 0, 0, []), (28, .ireturn, 0, 0, 0, [])]
abbrev mX11_times : am_M := (yX11_times, cX11_times, 4, some .int, 11, am_lk tbX11_times)
def tbX11_by : List (Nat × am_I) := [(0, .iconst 0, 0, 0, 0, []), (1, .istore 4, 0, 0, 0, []), (3, .aload_n 0, 0, 0, 0, []), (4, .iload_n 1, 0, 0, 0, []), (5, .iload 4, 0, 0, 0, []), (7, .iload_n 3, 0, 0, 0, []), (8, .invokevirtual 68, 124, 4, 1, [(0, 984)]), (11, .iload_n 2, 0, 0, 0, []), (12, .if_icmp .eq 9, 21, 0, 0, []), (15, .iinc 4 1, 0, 0, 0, []), (18, .goto (-15), 3, 0, 0, []), (21, .iload 4, 0, 0, 0, []), (23, .ireturn, 0, 0, 0, [])]
abbrev mX11_by : am_M := (yX11_by, cX11_by, 5, some .int, 11, am_lk tbX11_by)
def tbX11_isField : List (Nat × am_I) := [(0, .iload_n 0, 0, 0, 0, []), (1, .iconst 0, 0, 0, 0, []), (2, .iconst 3, 0, 0, 0, []), (3, .invokestatic 72, 119, 3, 1, [(0, 973)]), (6, .ireturn, 0, 0, 0, [])]
abbrev mX11_isField : am_M := (yX11_isField, cX11_isField, 1, some .boolean, 12, am_lk tbX11_isField)
def tbX11_reckon : List (Nat × am_I) := [(0, .iload_n 1, 0, 0, 0, []), (1, .invokestatic 76, 126, 1, 1, [(0, 970)]), (4, .ifCond .eq 45, 49, 0, 0, []), (7, .iload_n 2, 0, 0, 0, []), (8, .iconst 0, 0, 0, 0, []), (9, .iconst 3, 0, 0, 0, []), (10, .invokestatic 72, 119, 3, 1, [(0, 973)]), (13, .ifCond .eq 36, 49, 0, 0, []), (16, .iload_n 3, 0, 0, 0, []), (17, .iconst 0, 0, 0, 0, []), (18, .aload_n 0, 0, 0, 0, []), (19, .getfield 7, 11, 0, 1, [(0, 896)]), (22, .iload_n 1, 0, 0, 0, []), (23, .iaload, 0, 0, 0, []), (24, .iconst 1, 0, 0, 0, []), (25, .isub, 0, 0, 0, []), (26, .invokestatic 72, 119, 3, 1, [(0, 973)]), (29, .ifCond .eq 20, 49, 0, 0, []), (32, .iload 4, 0, 0, 0, []), (34, .iconst 0, 0, 0, 0, []), (35, .aload_n 0, 0, 0, 0, []), (36, .getfield 7, 11, 0, 1, [(0, 896)]), (39, .iload_n 1, 0, 0, 0, []), (40, .iaload, 0, 0, 0, []), (41, .iconst 1, 0, 0, 0, []), (42, .isub, 0, 0, 0, []), (43, .invokestatic 72, 119, 3, 1, [(0, 973)]), (46, .ifCond .ne 6, 52, 0, 0, []), (49, .bipush (-2), 0, 0, 0, []), (51, .ireturn, 0, 0, 0, []), (52, .iload_n 2, 0, 0, 0, []), (53, .iconst 3, 0, 0, 0, []), (54, .if_icmp .ne 11, 65, 0, 0, []), (57, .iload 4, 0, 0, 0, []), (59, .ifCond .ne 6, 65, 0, 0, []), (62, .bipush (-15), 0, 0, 0, []), (64, .ireturn, 0, 0, 0, []), (65, .iload_n 2, 0, 0, 0, []), (66, .ifCond .ne 14, 80, 0, 0, []), (69, .aload_n 0, 0, 0, 0, []), (70, .iload_n 1, 0, 0, 0, []), (71, .iload_n 3, 0, 0, 0, []), (72, .iload 4, 0, 0, 0, []), (74, .invokevirtual 80, 122, 4, 1, [(0, 976)]), (77, .goto 43, 120, 0, 0, []), (80, .iload_n 2, 0, 0, 0, []), (81, .iconst 1, 0, 0, 0, []), (82, .if_icmp .ne 14, 96, 0, 0, []), (85, .aload_n 0, 0, 0, 0, []), (86, .iload_n 1, 0, 0, 0, []), (87, .iload_n 3, 0, 0, 0, []), (88, .iload 4, 0, 0, 0, []), (90, .invokevirtual 83, 123, 4, 1, [(0, 980)]), (93, .goto 27, 120, 0, 0, []), (96, .iload_n 2, 0, 0, 0, []), (97, .iconst 2, 0, 0, 0, []), (98, .if_icmp .ne 14, 112, 0, 0, []), (101, .aload_n 0, 0, 0, 0, []), (102, .iload_n 1, 0, 0, 0, []), (103, .iload_n 3, 0, 0, 0, []), (104, .iload 4, 0, 0, 0, []), (106, .invokevirtual 68, 124, 4, 1, [(0, 984)]), (109, .goto 11, 120, 0, 0, []), (112, .aload_n 0, 0, 0, 0, []), (113, .iload_n 1, 0, 0, 0, []), (114, .iload_n 3, 0, 0, 0, []), (115, .iload 4, 0, 0, 0, []), (117, .invokevirtual 86, 125, 4, 1, [(0, 988)]), (120, .ireturn, 0, 0, 0, [])]
abbrev mX11_reckon : am_M := (yX11_reckon, cX11_reckon, 5, some .int, 11, am_lk tbX11_reckon)
def tbX11_isView : List (Nat × am_I) := [(0, .iload_n 0, 0, 0, 0, []), (1, .iconst 0, 0, 0, 0, []), (2, .iconst 3, 0, 0, 0, []), (3, .invokestatic 72, 119, 3, 1, [(0, 973)]), (6, .ireturn, 0, 0, 0, [])]
abbrev mX11_isView : am_M := (yX11_isView, cX11_isView, 1, some .boolean, 12, am_lk tbX11_isView)
def tbX11_all : List (Nat × am_I) := [(0, .iconst 1, 0, 0, 0, []), (1, .aload_n 0, 0, 0, 0, []), (2, .getfield 16, 11, 2, 1, [(0, 898)]), (5, .iload_n 1, 0, 0, 0, []), (6, .iaload, 0, 0, 0, []), (7, .ishl, 0, 0, 0, []), (8, .iconst 1, 0, 0, 0, []), (9, .isub, 0, 0, 0, []), (10, .ireturn, 0, 0, 0, [])]
abbrev mX11_all : am_M := (yX11_all, cX11_all, 2, some .int, 11, am_lk tbX11_all)
def tbX11_r : List (Nat × am_I) := [(0, .aload_n 0, 0, 0, 0, []), (1, .getfield 19, 11, 3, 1, [(0, 899)]), (4, .sipush 128, 0, 0, 0, []), (7, .iload_n 1, 0, 0, 0, []), (8, .imul, 0, 0, 0, []), (9, .iload_n 2, 0, 0, 0, []), (10, .iadd, 0, 0, 0, []), (11, .iaload, 0, 0, 0, []), (12, .ireturn, 0, 0, 0, [])]
abbrev mX11_r : am_M := (yX11_r, cX11_r, 3, some .int, 11, am_lk tbX11_r)
def tbX11_total : List (Nat × am_I) := [(0, .aload_n 0, 0, 0, 0, []), (1, .iload_n 1, 0, 0, 0, []), (2, .aload_n 0, 0, 0, 0, []), (3, .iload_n 1, 0, 0, 0, []), (4, .invokevirtual 89, 129, 2, 1, [(0, 999)]), (7, .invokevirtual 93, 130, 3, 1, [(0, 1028)]), (10, .ireturn, 0, 0, 0, [])]
abbrev mX11_total : am_M := (yX11_total, cX11_total, 2, some .int, 11, am_lk tbX11_total)
def tbX11_copies : List (Nat × am_I) := [(0, .aload_n 0, 0, 0, 0, []), (1, .getfield 16, 11, 2, 1, [(0, 898)]), (4, .iload_n 2, 0, 0, 0, []), (5, .aload_n 0, 0, 0, 0, []), (6, .getfield 16, 11, 2, 1, [(0, 898)]), (9, .iload_n 1, 0, 0, 0, []), (10, .iaload, 0, 0, 0, []), (11, .iastore, 0, 0, 0, []), (12, .iconst 0, 0, 0, 0, []), (13, .istore_n 3, 0, 0, 0, []), (14, .iload_n 3, 0, 0, 0, []), (15, .sipush 128, 0, 0, 0, []), (18, .if_icmp .ge 33, 51, 0, 0, []), (21, .aload_n 0, 0, 0, 0, []), (22, .getfield 19, 11, 3, 1, [(0, 899)]), (25, .sipush 128, 0, 0, 0, []), (28, .iload_n 2, 0, 0, 0, []), (29, .imul, 0, 0, 0, []), (30, .iload_n 3, 0, 0, 0, []), (31, .iadd, 0, 0, 0, []), (32, .aload_n 0, 0, 0, 0, []), (33, .getfield 19, 11, 3, 1, [(0, 899)]), (36, .sipush 128, 0, 0, 0, []), (39, .iload_n 1, 0, 0, 0, []), (40, .imul, 0, 0, 0, []), (41, .iload_n 3, 0, 0, 0, []), (42, .iadd, 0, 0, 0, []), (43, .iaload, 0, 0, 0, []), (44, .iastore, 0, 0, 0, []), (45, .iinc 3 1, 0, 0, 0, []), (48, .goto (-34), 14, 0, 0, []), (51, .return_, 0, 0, 0, [])]
abbrev mX11_copies : am_M := (yX11_copies, cX11_copies, 4, none, 11, am_lk tbX11_copies)
def tbX11_uniform : List (Nat × am_I) := [(0, .iload_n 1, 0, 0, 0, []), (1, .invokestatic 97, 128, 1, 1, [(0, 996)]), (4, .ifCond .eq 22, 26, 0, 0, []), (7, .iload_n 2, 0, 0, 0, []), (8, .iconst 0, 0, 0, 0, []), (9, .bipush 7, 0, 0, 0, []), (11, .invokestatic 72, 119, 3, 1, [(0, 973)]), (14, .ifCond .eq 12, 26, 0, 0, []), (17, .iload_n 3, 0, 0, 0, []), (18, .iconst 0, 0, 0, 0, []), (19, .iload_n 2, 0, 0, 0, []), (20, .invokestatic 72, 119, 3, 1, [(0, 973)]), (23, .ifCond .ne 6, 29, 0, 0, []), (26, .bipush (-2), 0, 0, 0, []), (28, .ireturn, 0, 0, 0, []), (29, .aload_n 0, 0, 0, 0, []), (30, .getfield 16, 11, 2, 1, [(0, 898)]), (33, .iload_n 1, 0, 0, 0, []), (34, .iload_n 2, 0, 0, 0, []), (35, .iastore, 0, 0, 0, []), (36, .iconst 0, 0, 0, 0, []), (37, .istore 4, 0, 0, 0, []), (39, .iload 4, 0, 0, 0, []), (41, .aload_n 0, 0, 0, 0, []), (42, .iload_n 1, 0, 0, 0, []), (43, .invokevirtual 89, 129, 2, 1, [(0, 999)]), (46, .if_icmp .gt 40, 86, 0, 0, []), (49, .aload_n 0, 0, 0, 0, []), (50, .getfield 19, 11, 3, 1, [(0, 899)]), (53, .sipush 128, 0, 0, 0, []), (56, .iload_n 1, 0, 0, 0, []), (57, .imul, 0, 0, 0, []), (58, .iload 4, 0, 0, 0, []), (60, .iadd, 0, 0, 0, []), (61, .iload 4, 0, 0, 0, []), (63, .invokestatic 100, 121, 1, 1, [(0, 1003)]), (66, .iload_n 3, 0, 0, 0, []), (67, .if_icmp .ge 11, 78, 0, 0, []), (70, .iload 4, 0, 0, 0, []), (72, .invokestatic 100, 121, 1, 1, [(0, 1003)]), (75, .goto 4, 79, 0, 0, []), (78, .iload_n 3, 0, 0, 0, []), (79, .iastore, 0, 0, 0, []), (80, .iinc 4 1, 0, 0, 0, []), (83, .goto (-44), 39, 0, 0, []), (86, .iconst 1, 0, 0, 0, []), (87, .ireturn, 0, 0, 0, [])]
abbrev mX11_uniform : am_M := (yX11_uniform, cX11_uniform, 5, some .int, 11, am_lk tbX11_uniform)
def tbX11_rankOf : List (Nat × am_I) := [(0, .iconst 0, 0, 0, 0, []), (1, .istore_n 3, 0, 0, 0, []), (2, .iconst 0, 0, 0, 0, []), (3, .istore 4, 0, 0, 0, []), (5, .iload 4, 0, 0, 0, []), (7, .bipush 7, 0, 0, 0, []), (9, .if_icmp .ge 65, 74, 0, 0, []), (12, .iload_n 2, 0, 0, 0, []), (13, .iload 4, 0, 0, 0, []), (15, .invokestatic 103, 120, 2, 1, [(0, 1021)]), (18, .ifCond .ne 6, 24, 0, 0, []), (21, .goto 47, 68, 0, 0, []), (24, .iconst 0, 0, 0, 0, []), (25, .istore 5, 0, 0, 0, []), (27, .iload 5, 0, 0, 0, []), (29, .bipush 7, 0, 0, 0, []), (31, .if_icmp .ge 34, 65, 0, 0, []), (34, .aload_n 0, 0, 0, 0, []), (35, .getfield 25, 11, 5, 1, [(0, 901)]), (38, .bipush 7, 0, 0, 0, []), (40, .iload_n 3, 0, 0, 0, []), (41, .imul, 0, 0, 0, []), (42, .iload 5, 0, 0, 0, []), (44, .iadd, 0, 0, 0, []), (45, .aload_n 0, 0, 0, 0, []), (46, .getfield 22, 11, 4, 1, [(0, 900)]), (49, .bipush 7, 0, 0, 0, []), (51, .iload 4, 0, 0, 0, []), (53, .imul, 0, 0, 0, []), (54, .iload 5, 0, 0, 0, []), (56, .iadd, 0, 0, 0, []), (57, .iaload, 0, 0, 0, []), (58, .iastore, 0, 0, 0, []), (59, .iinc 5 1, 0, 0, 0, []), (62, .goto (-35), 27, 0, 0, []), (65, .iinc 3 1, 0, 0, 0, []), (68, .iinc 4 1, 0, 0, 0, []), (71, .goto (-66), 5, 0, 0, []), (74, .iconst 0, 0, 0, 0, []), (75, .istore 4, 0, 0, 0, []), (77, .iconst 0, 0, 0, 0, []), (78, .istore 5, 0, 0, 0, []), (80, .iload 5, 0, 0, 0, []), (82, .bipush 7, 0, 0, 0, []), (84, .if_icmp .ge 243, 327, 0, 0, []), (87, .iload 4, 0, 0, 0, []), (89, .istore 6, 0, 0, 0, []), (91, .iload 6, 0, 0, 0, []), (93, .iload_n 3, 0, 0, 0, []), (94, .if_icmp .ge 25, 119, 0, 0, []), (97, .aload_n 0, 0, 0, 0, []), (98, .getfield 25, 11, 5, 1, [(0, 901)]), (101, .bipush 7, 0, 0, 0, []), (103, .iload 6, 0, 0, 0, []), (105, .imul, 0, 0, 0, []), (106, .iload 5, 0, 0, 0, []), (108, .iadd, 0, 0, 0, []), (109, .iaload, 0, 0, 0, []), (110, .ifCond .ne 9, 119, 0, 0, []), (113, .iinc 6 1, 0, 0, 0, []), (116, .goto (-25), 91, 0, 0, []), (119, .iload 6, 0, 0, 0, []), (121, .iload_n 3, 0, 0, 0, []), (122, .if_icmp .ne 6, 128, 0, 0, []), (125, .goto 196, 321, 0, 0, []), (128, .iconst 0, 0, 0, 0, []), (129, .istore 7, 0, 0, 0, []), (131, .iload 7, 0, 0, 0, []), (133, .bipush 7, 0, 0, 0, []), (135, .if_icmp .ge 65, 200, 0, 0, []), (138, .aload_n 0, 0, 0, 0, []), (139, .getfield 25, 11, 5, 1, [(0, 901)]), (142, .bipush 7, 0, 0, 0, []), (144, .iload 6, 0, 0, 0, []), (146, .imul, 0, 0, 0, []), (147, .iload 7, 0, 0, 0, []), (149, .iadd, 0, 0, 0, []), (150, .iaload, 0, 0, 0, []), (151, .istore 8, 0, 0, 0, []), (153, .aload_n 0, 0, 0, 0, []), (154, .getfield 25, 11, 5, 1, [(0, 901)]), (157, .bipush 7, 0, 0, 0, []), (159, .iload 6, 0, 0, 0, []), (161, .imul, 0, 0, 0, []), (162, .iload 7, 0, 0, 0, []), (164, .iadd, 0, 0, 0, []), (165, .aload_n 0, 0, 0, 0, []), (166, .getfield 25, 11, 5, 1, [(0, 901)]), (169, .bipush 7, 0, 0, 0, []), (171, .iload 4, 0, 0, 0, []), (173, .imul, 0, 0, 0, []), (174, .iload 7, 0, 0, 0, []), (176, .iadd, 0, 0, 0, []), (177, .iaload, 0, 0, 0, []), (178, .iastore, 0, 0, 0, []), (179, .aload_n 0, 0, 0, 0, []), (180, .getfield 25, 11, 5, 1, [(0, 901)]), (183, .bipush 7, 0, 0, 0, []), (185, .iload 4, 0, 0, 0, []), (187, .imul, 0, 0, 0, []), (188, .iload 7, 0, 0, 0, []), (190, .iadd, 0, 0, 0, []), (191, .iload 8, 0, 0, 0, []), (193, .iastore, 0, 0, 0, []), (194, .iinc 7 1, 0, 0, 0, []), (197, .goto (-66), 131, 0, 0, []), (200, .iload 4, 0, 0, 0, []), (202, .iconst 1, 0, 0, 0, []), (203, .iadd, 0, 0, 0, []), (204, .istore 7, 0, 0, 0, []), (206, .iload 7, 0, 0, 0, []), (208, .iload_n 3, 0, 0, 0, []), (209, .if_icmp .ge 109, 318, 0, 0, []), (212, .aload_n 0, 0, 0, 0, []), (213, .iload_n 1, 0, 0, 0, []), (214, .aload_n 0, 0, 0, 0, []), (215, .getfield 25, 11, 5, 1, [(0, 901)]), (218, .bipush 7, 0, 0, 0, []), (220, .iload 7, 0, 0, 0, []), (222, .imul, 0, 0, 0, []), (223, .iload 5, 0, 0, 0, []), (225, .iadd, 0, 0, 0, []), (226, .iaload, 0, 0, 0, []), (227, .aload_n 0, 0, 0, 0, []), (228, .getfield 25, 11, 5, 1, [(0, 901)]), (231, .bipush 7, 0, 0, 0, []), (233, .iload 4, 0, 0, 0, []), (235, .imul, 0, 0, 0, []), (236, .iload 5, 0, 0, 0, []), (238, .iadd, 0, 0, 0, []), (239, .iaload, 0, 0, 0, []), (240, .invokevirtual 86, 125, 4, 1, [(0, 988)]), (243, .istore 8, 0, 0, 0, []), (245, .iconst 0, 0, 0, 0, []), (246, .istore 9, 0, 0, 0, []), (248, .iload 9, 0, 0, 0, []), (250, .bipush 7, 0, 0, 0, []), (252, .if_icmp .ge 60, 312, 0, 0, []), (255, .aload_n 0, 0, 0, 0, []), (256, .getfield 25, 11, 5, 1, [(0, 901)]), (259, .bipush 7, 0, 0, 0, []), (261, .iload 7, 0, 0, 0, []), (263, .imul, 0, 0, 0, []), (264, .iload 9, 0, 0, 0, []), (266, .iadd, 0, 0, 0, []), (267, .aload_n 0, 0, 0, 0, []), (268, .iload_n 1, 0, 0, 0, []), (269, .aload_n 0, 0, 0, 0, []), (270, .getfield 25, 11, 5, 1, [(0, 901)]), (273, .bipush 7, 0, 0, 0, []), (275, .iload 7, 0, 0, 0, []), (277, .imul, 0, 0, 0, []), (278, .iload 9, 0, 0, 0, []), (280, .iadd, 0, 0, 0, []), (281, .iaload, 0, 0, 0, []), (282, .aload_n 0, 0, 0, 0, []), (283, .iload_n 1, 0, 0, 0, []), (284, .iload 8, 0, 0, 0, []), (286, .aload_n 0, 0, 0, 0, []), (287, .getfield 25, 11, 5, 1, [(0, 901)]), (290, .bipush 7, 0, 0, 0, []), (292, .iload 4, 0, 0, 0, []), (294, .imul, 0, 0, 0, []), (295, .iload 9, 0, 0, 0, []), (297, .iadd, 0, 0, 0, []), (298, .iaload, 0, 0, 0, []), (299, .invokevirtual 68, 124, 4, 1, [(0, 984)]), (302, .invokevirtual 83, 123, 4, 1, [(0, 980)]), (305, .iastore, 0, 0, 0, []), (306, .iinc 9 1, 0, 0, 0, []), (309, .goto (-61), 248, 0, 0, []), (312, .iinc 7 1, 0, 0, 0, []), (315, .goto (-109), 206, 0, 0, []), (318, .iinc 4 1, 0, 0, 0, []), (321, .iinc 5 1, 0, 0, 0, []), (324, .goto (-244), 80, 0, 0, []), (327, .iload 4, 0, 0, 0, []), (329, .ireturn, 0, 0, 0, [])]
abbrev mX11_rankOf : am_M := (yX11_rankOf, cX11_rankOf, 10, some .int, 11, am_lk tbX11_rankOf)
def tbX11_byColumns : List (Nat × am_I) := [(0, .aload_n 0, 0, 0, 0, []), (1, .getfield 16, 11, 2, 1, [(0, 898)]), (4, .iload_n 1, 0, 0, 0, []), (5, .iload_n 3, 0, 0, 0, []), (6, .iastore, 0, 0, 0, []), (7, .iconst 0, 0, 0, 0, []), (8, .istore 4, 0, 0, 0, []), (10, .iload 4, 0, 0, 0, []), (12, .aload_n 0, 0, 0, 0, []), (13, .iload_n 1, 0, 0, 0, []), (14, .invokevirtual 89, 129, 2, 1, [(0, 999)]), (17, .if_icmp .gt 29, 46, 0, 0, []), (20, .aload_n 0, 0, 0, 0, []), (21, .getfield 19, 11, 3, 1, [(0, 899)]), (24, .sipush 128, 0, 0, 0, []), (27, .iload_n 1, 0, 0, 0, []), (28, .imul, 0, 0, 0, []), (29, .iload 4, 0, 0, 0, []), (31, .iadd, 0, 0, 0, []), (32, .aload_n 0, 0, 0, 0, []), (33, .iload_n 2, 0, 0, 0, []), (34, .iload 4, 0, 0, 0, []), (36, .invokevirtual 107, 134, 3, 1, [(0, 1017)]), (39, .iastore, 0, 0, 0, []), (40, .iinc 4 1, 0, 0, 0, []), (43, .goto (-33), 10, 0, 0, []), (46, .aload_n 0, 0, 0, 0, []), (47, .iload_n 1, 0, 0, 0, []), (48, .invokevirtual 110, 131, 2, 1, [(0, 1024)]), (51, .ireturn, 0, 0, 0, [])]
abbrev mX11_byColumns : am_M := (yX11_byColumns, cX11_byColumns, 5, some .int, 11, am_lk tbX11_byColumns)
def tbX11_columns : List (Nat × am_I) := [(0, .iload_n 1, 0, 0, 0, []), (1, .invokestatic 97, 128, 1, 1, [(0, 996)]), (4, .ifCond .eq 28, 32, 0, 0, []), (7, .iload_n 2, 0, 0, 0, []), (8, .invokestatic 76, 126, 1, 1, [(0, 970)]), (11, .ifCond .eq 21, 32, 0, 0, []), (14, .iload_n 3, 0, 0, 0, []), (15, .invokestatic 113, 187, 1, 1, [(0, 1010)]), (18, .ifCond .eq 14, 32, 0, 0, []), (21, .iload 4, 0, 0, 0, []), (23, .iconst 0, 0, 0, 0, []), (24, .bipush 7, 0, 0, 0, []), (26, .invokestatic 72, 119, 3, 1, [(0, 973)]), (29, .ifCond .ne 6, 35, 0, 0, []), (32, .bipush (-2), 0, 0, 0, []), (34, .ireturn, 0, 0, 0, []), (35, .aload_n 0, 0, 0, 0, []), (36, .getfield 59, 11, 18, 1, [(0, 914)]), (39, .iload_n 3, 0, 0, 0, []), (40, .iaload, 0, 0, 0, []), (41, .iconst (-1), 0, 0, 0, []), (42, .if_icmp .ne 6, 48, 0, 0, []), (45, .bipush (-11), 0, 0, 0, []), (47, .ireturn, 0, 0, 0, []), (48, .aload_n 0, 0, 0, 0, []), (49, .getfield 62, 11, 19, 1, [(0, 915)]), (52, .iload_n 3, 0, 0, 0, []), (53, .iaload, 0, 0, 0, []), (54, .iload 4, 0, 0, 0, []), (56, .if_icmp .ge 6, 62, 0, 0, []), (59, .bipush (-12), 0, 0, 0, []), (61, .ireturn, 0, 0, 0, []), (62, .iconst 1, 0, 0, 0, []), (63, .istore 5, 0, 0, 0, []), (65, .iconst 0, 0, 0, 0, []), (66, .istore 6, 0, 0, 0, []), (68, .iload 6, 0, 0, 0, []), (70, .bipush 7, 0, 0, 0, []), (72, .if_icmp .ge 20, 92, 0, 0, []), (75, .iload 5, 0, 0, 0, []), (77, .aload_n 0, 0, 0, 0, []), (78, .getfield 7, 11, 0, 1, [(0, 896)]), (81, .iload_n 2, 0, 0, 0, []), (82, .iaload, 0, 0, 0, []), (83, .imul, 0, 0, 0, []), (84, .istore 5, 0, 0, 0, []), (86, .iinc 6 1, 0, 0, 0, []), (89, .goto (-21), 68, 0, 0, []), (92, .iconst 0, 0, 0, 0, []), (93, .istore 6, 0, 0, 0, []), (95, .iload 6, 0, 0, 0, []), (97, .iload 4, 0, 0, 0, []), (99, .if_icmp .ge 35, 134, 0, 0, []), (102, .aload_n 0, 0, 0, 0, []), (103, .getfield 65, 11, 20, 1, [(0, 916)]), (106, .bipush 64, 0, 0, 0, []), (108, .iload_n 3, 0, 0, 0, []), (109, .imul, 0, 0, 0, []), (110, .iload 6, 0, 0, 0, []), (112, .iadd, 0, 0, 0, []), (113, .iaload, 0, 0, 0, []), (114, .iconst 0, 0, 0, 0, []), (115, .iload 5, 0, 0, 0, []), (117, .iconst 1, 0, 0, 0, []), (118, .isub, 0, 0, 0, []), (119, .invokestatic 72, 119, 3, 1, [(0, 973)]), (122, .ifCond .ne 6, 128, 0, 0, []), (125, .bipush (-3), 0, 0, 0, []), (127, .ireturn, 0, 0, 0, []), (128, .iinc 6 1, 0, 0, 0, []), (131, .goto (-36), 95, 0, 0, []), (134, .iconst 0, 0, 0, 0, []), (135, .istore 6, 0, 0, 0, []), (137, .iload 6, 0, 0, 0, []), (139, .iload 4, 0, 0, 0, []), (141, .if_icmp .ge 72, 213, 0, 0, []), (144, .aload_n 0, 0, 0, 0, []), (145, .getfield 65, 11, 20, 1, [(0, 916)]), (148, .bipush 64, 0, 0, 0, []), (150, .iload_n 3, 0, 0, 0, []), (151, .imul, 0, 0, 0, []), (152, .iload 6, 0, 0, 0, []), (154, .iadd, 0, 0, 0, []), (155, .iaload, 0, 0, 0, []), (156, .istore 7, 0, 0, 0, []), (158, .iconst 0, 0, 0, 0, []), (159, .istore 8, 0, 0, 0, []), (161, .iload 8, 0, 0, 0, []), (163, .bipush 7, 0, 0, 0, []), (165, .if_icmp .ge 42, 207, 0, 0, []), (168, .aload_n 0, 0, 0, 0, []), (169, .getfield 22, 11, 4, 1, [(0, 900)]), (172, .bipush 7, 0, 0, 0, []), (174, .iload 6, 0, 0, 0, []), (176, .imul, 0, 0, 0, []), (177, .iload 8, 0, 0, 0, []), (179, .iadd, 0, 0, 0, []), (180, .iload 7, 0, 0, 0, []), (182, .aload_n 0, 0, 0, 0, []), (183, .getfield 7, 11, 0, 1, [(0, 896)]), (186, .iload_n 2, 0, 0, 0, []), (187, .iaload, 0, 0, 0, []), (188, .irem, 0, 0, 0, []), (189, .iastore, 0, 0, 0, []), (190, .iload 7, 0, 0, 0, []), (192, .aload_n 0, 0, 0, 0, []), (193, .getfield 7, 11, 0, 1, [(0, 896)]), (196, .iload_n 2, 0, 0, 0, []), (197, .iaload, 0, 0, 0, []), (198, .idiv, 0, 0, 0, []), (199, .istore 7, 0, 0, 0, []), (201, .iinc 8 1, 0, 0, 0, []), (204, .goto (-43), 161, 0, 0, []), (207, .iinc 6 1, 0, 0, 0, []), (210, .goto (-73), 137, 0, 0, []), (213, .aload_n 0, 0, 0, 0, []), (214, .iload_n 1, 0, 0, 0, []), (215, .iload_n 2, 0, 0, 0, []), (216, .iload 4, 0, 0, 0, []), (218, .invokevirtual 116, 135, 4, 1, [(0, 1013)]), (221, .ireturn, 0, 0, 0, [])]
abbrev mX11_columns : am_M := (yX11_columns, cX11_columns, 9, some .int, 11, am_lk tbX11_columns)
def tbX11_isCause : List (Nat × am_I) := [(0, .aload_n 0, 0, 0, 0, []), (1, .getfield 28, 11, 6, 1, [(0, 902)]), (4, .iconst 0, 0, 0, 0, []), (5, .iload_n 1, 0, 0, 0, []), (6, .iastore, 0, 0, 0, []), (7, .aload_n 0, 0, 0, 0, []), (8, .getfield 28, 11, 6, 1, [(0, 902)]), (11, .iconst 1, 0, 0, 0, []), (12, .iload_n 2, 0, 0, 0, []), (13, .iastore, 0, 0, 0, []), (14, .aload_n 0, 0, 0, 0, []), (15, .getfield 28, 11, 6, 1, [(0, 902)]), (18, .iconst 2, 0, 0, 0, []), (19, .iload_n 3, 0, 0, 0, []), (20, .iastore, 0, 0, 0, []), (21, .aload_n 0, 0, 0, 0, []), (22, .getfield 28, 11, 6, 1, [(0, 902)]), (25, .iconst 3, 0, 0, 0, []), (26, .iload 4, 0, 0, 0, []), (28, .iastore, 0, 0, 0, []), (29, .iload_n 1, 0, 0, 0, []), (30, .ifCond .le 7, 37, 0, 0, []), (33, .iconst 1, 0, 0, 0, []), (34, .goto 4, 38, 0, 0, []), (37, .iconst 0, 0, 0, 0, []), (38, .ireturn, 0, 0, 0, [])]
abbrev mX11_isCause : am_M := (yX11_isCause, cX11_isCause, 5, some .boolean, 11, am_lk tbX11_isCause)
def tbX11_isTold : List (Nat × am_I) := [(0, .iconst 0, 0, 0, 0, []), (1, .istore_n 3, 0, 0, 0, []), (2, .iconst 0, 0, 0, 0, []), (3, .istore 4, 0, 0, 0, []), (5, .iload 4, 0, 0, 0, []), (7, .aload_n 0, 0, 0, 0, []), (8, .getfield 62, 11, 19, 1, [(0, 915)]), (11, .iload_n 1, 0, 0, 0, []), (12, .iaload, 0, 0, 0, []), (13, .if_icmp .ge 35, 48, 0, 0, []), (16, .iload_n 3, 0, 0, 0, []), (17, .ifCond .ne 19, 36, 0, 0, []), (20, .aload_n 0, 0, 0, 0, []), (21, .getfield 65, 11, 20, 1, [(0, 916)]), (24, .bipush 64, 0, 0, 0, []), (26, .iload_n 1, 0, 0, 0, []), (27, .imul, 0, 0, 0, []), (28, .iload 4, 0, 0, 0, []), (30, .iadd, 0, 0, 0, []), (31, .iaload, 0, 0, 0, []), (32, .iload_n 2, 0, 0, 0, []), (33, .if_icmp .ne 7, 40, 0, 0, []), (36, .iconst 1, 0, 0, 0, []), (37, .goto 4, 41, 0, 0, []), (40, .iconst 0, 0, 0, 0, []), (41, .istore_n 3, 0, 0, 0, []), (42, .iinc 4 1, 0, 0, 0, []), (45, .goto (-40), 5, 0, 0, []), (48, .iload_n 3, 0, 0, 0, []), (49, .ireturn, 0, 0, 0, [])]
abbrev mX11_isTold : am_M := (yX11_isTold, cX11_isTold, 5, some .boolean, 11, am_lk tbX11_isTold)
def tbX11_hasCause : List (Nat × am_I) := [(0, .aload_n 0, 0, 0, 0, []), (1, .getfield 62, 11, 19, 1, [(0, 915)]), (4, .iload_n 1, 0, 0, 0, []), (5, .iaload, 0, 0, 0, []), (6, .ifCond .ne 12, 18, 0, 0, []), (9, .aload_n 0, 0, 0, 0, []), (10, .iconst 1, 0, 0, 0, []), (11, .iconst (-1), 0, 0, 0, []), (12, .iconst (-1), 0, 0, 0, []), (13, .iconst (-1), 0, 0, 0, []), (14, .invokevirtual 119, 137, 5, 1, [(0, 1040)]), (17, .ireturn, 0, 0, 0, []), (18, .iconst 0, 0, 0, 0, []), (19, .istore_n 3, 0, 0, 0, []), (20, .iload_n 3, 0, 0, 0, []), (21, .aload_n 0, 0, 0, 0, []), (22, .getfield 62, 11, 19, 1, [(0, 915)]), (25, .iload_n 1, 0, 0, 0, []), (26, .iaload, 0, 0, 0, []), (27, .if_icmp .ge 74, 101, 0, 0, []), (30, .aload_n 0, 0, 0, 0, []), (31, .getfield 65, 11, 20, 1, [(0, 916)]), (34, .bipush 64, 0, 0, 0, []), (36, .iload_n 1, 0, 0, 0, []), (37, .imul, 0, 0, 0, []), (38, .iload_n 3, 0, 0, 0, []), (39, .iadd, 0, 0, 0, []), (40, .iaload, 0, 0, 0, []), (41, .istore 4, 0, 0, 0, []), (43, .iload 4, 0, 0, 0, []), (45, .iconst 0, 0, 0, 0, []), (46, .iconst 1, 0, 0, 0, []), (47, .iload_n 2, 0, 0, 0, []), (48, .ishl, 0, 0, 0, []), (49, .iconst 1, 0, 0, 0, []), (50, .isub, 0, 0, 0, []), (51, .invokestatic 72, 119, 3, 1, [(0, 973)]), (54, .ifCond .ne 12, 66, 0, 0, []), (57, .aload_n 0, 0, 0, 0, []), (58, .iconst 2, 0, 0, 0, []), (59, .iload_n 3, 0, 0, 0, []), (60, .iconst (-1), 0, 0, 0, []), (61, .iconst (-1), 0, 0, 0, []), (62, .invokevirtual 119, 137, 5, 1, [(0, 1040)]), (65, .ireturn, 0, 0, 0, []), (66, .iload 4, 0, 0, 0, []), (68, .invokestatic 100, 121, 1, 1, [(0, 1003)]), (71, .aload_n 0, 0, 0, 0, []), (72, .getfield 65, 11, 20, 1, [(0, 916)]), (75, .bipush 64, 0, 0, 0, []), (77, .iload_n 1, 0, 0, 0, []), (78, .imul, 0, 0, 0, []), (79, .iaload, 0, 0, 0, []), (80, .invokestatic 100, 121, 1, 1, [(0, 1003)]), (83, .if_icmp .eq 12, 95, 0, 0, []), (86, .aload_n 0, 0, 0, 0, []), (87, .iconst 3, 0, 0, 0, []), (88, .iload_n 3, 0, 0, 0, []), (89, .iconst (-1), 0, 0, 0, []), (90, .iconst (-1), 0, 0, 0, []), (91, .invokevirtual 119, 137, 5, 1, [(0, 1040)]), (94, .ireturn, 0, 0, 0, []), (95, .iinc 3 1, 0, 0, 0, []), (98, .goto (-78), 20, 0, 0, []), (101, .iconst 0, 0, 0, 0, []), (102, .istore_n 3, 0, 0, 0, []), (103, .iload_n 3, 0, 0, 0, []), (104, .aload_n 0, 0, 0, 0, []), (105, .getfield 62, 11, 19, 1, [(0, 915)]), (108, .iload_n 1, 0, 0, 0, []), (109, .iaload, 0, 0, 0, []), (110, .if_icmp .ge 173, 283, 0, 0, []), (113, .iconst 0, 0, 0, 0, []), (114, .istore 4, 0, 0, 0, []), (116, .iload 4, 0, 0, 0, []), (118, .aload_n 0, 0, 0, 0, []), (119, .getfield 62, 11, 19, 1, [(0, 915)]), (122, .iload_n 1, 0, 0, 0, []), (123, .iaload, 0, 0, 0, []), (124, .if_icmp .ge 153, 277, 0, 0, []), (127, .aload_n 0, 0, 0, 0, []), (128, .getfield 65, 11, 20, 1, [(0, 916)]), (131, .bipush 64, 0, 0, 0, []), (133, .iload_n 1, 0, 0, 0, []), (134, .imul, 0, 0, 0, []), (135, .iload_n 3, 0, 0, 0, []), (136, .iadd, 0, 0, 0, []), (137, .iaload, 0, 0, 0, []), (138, .istore 5, 0, 0, 0, []), (140, .aload_n 0, 0, 0, 0, []), (141, .getfield 65, 11, 20, 1, [(0, 916)]), (144, .bipush 64, 0, 0, 0, []), (146, .iload_n 1, 0, 0, 0, []), (147, .imul, 0, 0, 0, []), (148, .iload 4, 0, 0, 0, []), (150, .iadd, 0, 0, 0, []), (151, .iaload, 0, 0, 0, []), (152, .istore 6, 0, 0, 0, []), (154, .iconst 0, 0, 0, 0, []), (155, .istore 7, 0, 0, 0, []), (157, .iload 7, 0, 0, 0, []), (159, .iload_n 2, 0, 0, 0, []), (160, .if_icmp .ge 111, 271, 0, 0, []), (163, .iload 5, 0, 0, 0, []), (165, .iload 6, 0, 0, 0, []), (167, .iconst (-1), 0, 0, 0, []), (168, .ixor, 0, 0, 0, []), (169, .iand, 0, 0, 0, []), (170, .iload 7, 0, 0, 0, []), (172, .invokestatic 103, 120, 2, 1, [(0, 1021)]), (175, .ifCond .ne 7, 182, 0, 0, []), (178, .iconst 1, 0, 0, 0, []), (179, .goto 4, 183, 0, 0, []), (182, .iconst 0, 0, 0, 0, []), (183, .istore 8, 0, 0, 0, []), (185, .iconst 0, 0, 0, 0, []), (186, .istore 9, 0, 0, 0, []), (188, .iload 9, 0, 0, 0, []), (190, .iload_n 2, 0, 0, 0, []), (191, .if_icmp .ge 58, 249, 0, 0, []), (194, .iload 8, 0, 0, 0, []), (196, .ifCond .ne 40, 236, 0, 0, []), (199, .iload 6, 0, 0, 0, []), (201, .iload 5, 0, 0, 0, []), (203, .iconst (-1), 0, 0, 0, []), (204, .ixor, 0, 0, 0, []), (205, .iand, 0, 0, 0, []), (206, .iload 9, 0, 0, 0, []), (208, .invokestatic 103, 120, 2, 1, [(0, 1021)]), (211, .ifCond .eq 29, 240, 0, 0, []), (214, .aload_n 0, 0, 0, 0, []), (215, .iload_n 1, 0, 0, 0, []), (216, .iload 5, 0, 0, 0, []), (218, .iconst 1, 0, 0, 0, []), (219, .iload 7, 0, 0, 0, []), (221, .ishl, 0, 0, 0, []), (222, .iconst (-1), 0, 0, 0, []), (223, .ixor, 0, 0, 0, []), (224, .iand, 0, 0, 0, []), (225, .iconst 1, 0, 0, 0, []), (226, .iload 9, 0, 0, 0, []), (228, .ishl, 0, 0, 0, []), (229, .ior, 0, 0, 0, []), (230, .invokevirtual 123, 138, 3, 1, [(0, 1044)]), (233, .ifCond .eq 7, 240, 0, 0, []), (236, .iconst 1, 0, 0, 0, []), (237, .goto 4, 241, 0, 0, []), (240, .iconst 0, 0, 0, 0, []), (241, .istore 8, 0, 0, 0, []), (243, .iinc 9 1, 0, 0, 0, []), (246, .goto (-58), 188, 0, 0, []), (249, .iload 8, 0, 0, 0, []), (251, .ifCond .ne 14, 265, 0, 0, []), (254, .aload_n 0, 0, 0, 0, []), (255, .iconst 4, 0, 0, 0, []), (256, .iload_n 3, 0, 0, 0, []), (257, .iload 4, 0, 0, 0, []), (259, .iload 7, 0, 0, 0, []), (261, .invokevirtual 119, 137, 5, 1, [(0, 1040)]), (264, .ireturn, 0, 0, 0, []), (265, .iinc 7 1, 0, 0, 0, []), (268, .goto (-111), 157, 0, 0, []), (271, .iinc 4 1, 0, 0, 0, []), (274, .goto (-158), 116, 0, 0, []), (277, .iinc 3 1, 0, 0, 0, []), (280, .goto (-177), 103, 0, 0, []), (283, .aload_n 0, 0, 0, 0, []), (284, .iconst 0, 0, 0, 0, []), (285, .iconst (-1), 0, 0, 0, []), (286, .iconst (-1), 0, 0, 0, []), (287, .iconst (-1), 0, 0, 0, []), (288, .invokevirtual 119, 137, 5, 1, [(0, 1040)]), (291, .ireturn, 0, 0, 0, [])]
abbrev mX11_hasCause : am_M := (yX11_hasCause, cX11_hasCause, 10, some .boolean, 11, am_lk tbX11_hasCause)
def tbX11_tell : List (Nat × am_I) := [(0, .iload_n 1, 0, 0, 0, []), (1, .invokestatic 97, 128, 1, 1, [(0, 996)]), (4, .ifCond .eq 20, 24, 0, 0, []), (7, .iload_n 2, 0, 0, 0, []), (8, .invokestatic 113, 187, 1, 1, [(0, 1010)]), (11, .ifCond .eq 13, 24, 0, 0, []), (14, .iload_n 3, 0, 0, 0, []), (15, .iconst 0, 0, 0, 0, []), (16, .bipush 7, 0, 0, 0, []), (18, .invokestatic 72, 119, 3, 1, [(0, 973)]), (21, .ifCond .ne 6, 27, 0, 0, []), (24, .bipush (-2), 0, 0, 0, []), (26, .ireturn, 0, 0, 0, []), (27, .aload_n 0, 0, 0, 0, []), (28, .getfield 59, 11, 18, 1, [(0, 914)]), (31, .iload_n 2, 0, 0, 0, []), (32, .iaload, 0, 0, 0, []), (33, .iconst (-1), 0, 0, 0, []), (34, .if_icmp .ne 6, 40, 0, 0, []), (37, .bipush (-11), 0, 0, 0, []), (39, .ireturn, 0, 0, 0, []), (40, .aload_n 0, 0, 0, 0, []), (41, .iload_n 2, 0, 0, 0, []), (42, .iload_n 3, 0, 0, 0, []), (43, .invokevirtual 126, 139, 3, 1, [(0, 1036)]), (46, .ifCond .eq 6, 52, 0, 0, []), (49, .bipush (-3), 0, 0, 0, []), (51, .ireturn, 0, 0, 0, []), (52, .aload_n 0, 0, 0, 0, []), (53, .getfield 16, 11, 2, 1, [(0, 898)]), (56, .iload_n 1, 0, 0, 0, []), (57, .iload_n 3, 0, 0, 0, []), (58, .iastore, 0, 0, 0, []), (59, .iconst 0, 0, 0, 0, []), (60, .istore 4, 0, 0, 0, []), (62, .iload 4, 0, 0, 0, []), (64, .aload_n 0, 0, 0, 0, []), (65, .iload_n 1, 0, 0, 0, []), (66, .invokevirtual 89, 129, 2, 1, [(0, 999)]), (69, .if_icmp .gt 95, 164, 0, 0, []), (72, .iconst 0, 0, 0, 0, []), (73, .istore 5, 0, 0, 0, []), (75, .iconst 0, 0, 0, 0, []), (76, .istore 6, 0, 0, 0, []), (78, .iload 6, 0, 0, 0, []), (80, .aload_n 0, 0, 0, 0, []), (81, .getfield 62, 11, 19, 1, [(0, 915)]), (84, .iload_n 2, 0, 0, 0, []), (85, .iaload, 0, 0, 0, []), (86, .if_icmp .ge 57, 143, 0, 0, []), (89, .aload_n 0, 0, 0, 0, []), (90, .getfield 65, 11, 20, 1, [(0, 916)]), (93, .bipush 64, 0, 0, 0, []), (95, .iload_n 2, 0, 0, 0, []), (96, .imul, 0, 0, 0, []), (97, .iload 6, 0, 0, 0, []), (99, .iadd, 0, 0, 0, []), (100, .iaload, 0, 0, 0, []), (101, .iload 4, 0, 0, 0, []), (103, .iand, 0, 0, 0, []), (104, .invokestatic 100, 121, 1, 1, [(0, 1003)]), (107, .iload 5, 0, 0, 0, []), (109, .if_icmp .le 24, 133, 0, 0, []), (112, .aload_n 0, 0, 0, 0, []), (113, .getfield 65, 11, 20, 1, [(0, 916)]), (116, .bipush 64, 0, 0, 0, []), (118, .iload_n 2, 0, 0, 0, []), (119, .imul, 0, 0, 0, []), (120, .iload 6, 0, 0, 0, []), (122, .iadd, 0, 0, 0, []), (123, .iaload, 0, 0, 0, []), (124, .iload 4, 0, 0, 0, []), (126, .iand, 0, 0, 0, []), (127, .invokestatic 100, 121, 1, 1, [(0, 1003)]), (130, .goto 5, 135, 0, 0, []), (133, .iload 5, 0, 0, 0, []), (135, .istore 5, 0, 0, 0, []), (137, .iinc 6 1, 0, 0, 0, []), (140, .goto (-62), 78, 0, 0, []), (143, .aload_n 0, 0, 0, 0, []), (144, .getfield 19, 11, 3, 1, [(0, 899)]), (147, .sipush 128, 0, 0, 0, []), (150, .iload_n 1, 0, 0, 0, []), (151, .imul, 0, 0, 0, []), (152, .iload 4, 0, 0, 0, []), (154, .iadd, 0, 0, 0, []), (155, .iload 5, 0, 0, 0, []), (157, .iastore, 0, 0, 0, []), (158, .iinc 4 1, 0, 0, 0, []), (161, .goto (-99), 62, 0, 0, []), (164, .aload_n 0, 0, 0, 0, []), (165, .iload_n 1, 0, 0, 0, []), (166, .invokevirtual 110, 131, 2, 1, [(0, 1024)]), (169, .ireturn, 0, 0, 0, [])]
abbrev mX11_tell : am_M := (yX11_tell, cX11_tell, 7, some .int, 11, am_lk tbX11_tell)
def tbX11_cause : List (Nat × am_I) := [(0, .iload_n 1, 0, 0, 0, []), (1, .iconst 0, 0, 0, 0, []), (2, .iconst 3, 0, 0, 0, []), (3, .invokestatic 72, 119, 3, 1, [(0, 973)]), (6, .ifCond .eq 12, 18, 0, 0, []), (9, .aload_n 0, 0, 0, 0, []), (10, .getfield 28, 11, 6, 1, [(0, 902)]), (13, .iload_n 1, 0, 0, 0, []), (14, .iaload, 0, 0, 0, []), (15, .goto 5, 20, 0, 0, []), (18, .bipush (-2), 0, 0, 0, []), (20, .ireturn, 0, 0, 0, [])]
abbrev mX11_cause : am_M := (yX11_cause, cX11_cause, 2, some .int, 11, am_lk tbX11_cause)
def tbX11_isSet : List (Nat × am_I) := [(0, .iload_n 1, 0, 0, 0, []), (1, .invokestatic 97, 128, 1, 1, [(0, 996)]), (4, .ifCond .eq 19, 23, 0, 0, []), (7, .iload_n 2, 0, 0, 0, []), (8, .aload_n 0, 0, 0, 0, []), (9, .iload_n 1, 0, 0, 0, []), (10, .invokevirtual 89, 129, 2, 1, [(0, 999)]), (13, .iconst (-1), 0, 0, 0, []), (14, .ixor, 0, 0, 0, []), (15, .iand, 0, 0, 0, []), (16, .ifCond .ne 7, 23, 0, 0, []), (19, .iconst 1, 0, 0, 0, []), (20, .goto 4, 24, 0, 0, []), (23, .iconst 0, 0, 0, 0, []), (24, .ireturn, 0, 0, 0, [])]
abbrev mX11_isSet : am_M := (yX11_isSet, cX11_isSet, 3, some .boolean, 11, am_lk tbX11_isSet)
def tbX11_rank : List (Nat × am_I) := [(0, .aload_n 0, 0, 0, 0, []), (1, .iload_n 1, 0, 0, 0, []), (2, .iload_n 2, 0, 0, 0, []), (3, .invokevirtual 129, 142, 3, 1, [(0, 1056)]), (6, .ifCond .eq 12, 18, 0, 0, []), (9, .aload_n 0, 0, 0, 0, []), (10, .iload_n 1, 0, 0, 0, []), (11, .iload_n 2, 0, 0, 0, []), (12, .invokevirtual 93, 130, 3, 1, [(0, 1028)]), (15, .goto 5, 20, 0, 0, []), (18, .bipush (-2), 0, 0, 0, []), (20, .ireturn, 0, 0, 0, [])]
abbrev mX11_rank : am_M := (yX11_rank, cX11_rank, 3, some .int, 11, am_lk tbX11_rank)
def tbX11_spanOf : List (Nat × am_I) := [(0, .iload_n 2, 0, 0, 0, []), (1, .istore_n 3, 0, 0, 0, []), (2, .iconst 0, 0, 0, 0, []), (3, .istore 4, 0, 0, 0, []), (5, .iload 4, 0, 0, 0, []), (7, .aload_n 0, 0, 0, 0, []), (8, .getfield 16, 11, 2, 1, [(0, 898)]), (11, .iload_n 1, 0, 0, 0, []), (12, .iaload, 0, 0, 0, []), (13, .if_icmp .ge 40, 53, 0, 0, []), (16, .iload_n 3, 0, 0, 0, []), (17, .aload_n 0, 0, 0, 0, []), (18, .iload_n 1, 0, 0, 0, []), (19, .iload_n 2, 0, 0, 0, []), (20, .iconst 1, 0, 0, 0, []), (21, .iload 4, 0, 0, 0, []), (23, .ishl, 0, 0, 0, []), (24, .ior, 0, 0, 0, []), (25, .invokevirtual 93, 130, 3, 1, [(0, 1028)]), (28, .aload_n 0, 0, 0, 0, []), (29, .iload_n 1, 0, 0, 0, []), (30, .iload_n 2, 0, 0, 0, []), (31, .invokevirtual 93, 130, 3, 1, [(0, 1028)]), (34, .if_icmp .ne 10, 44, 0, 0, []), (37, .iconst 1, 0, 0, 0, []), (38, .iload 4, 0, 0, 0, []), (40, .ishl, 0, 0, 0, []), (41, .goto 4, 45, 0, 0, []), (44, .iconst 0, 0, 0, 0, []), (45, .ior, 0, 0, 0, []), (46, .istore_n 3, 0, 0, 0, []), (47, .iinc 4 1, 0, 0, 0, []), (50, .goto (-45), 5, 0, 0, []), (53, .iload_n 3, 0, 0, 0, []), (54, .ireturn, 0, 0, 0, [])]
abbrev mX11_spanOf : am_M := (yX11_spanOf, cX11_spanOf, 5, some .int, 11, am_lk tbX11_spanOf)
def tbX11_span : List (Nat × am_I) := [(0, .aload_n 0, 0, 0, 0, []), (1, .iload_n 1, 0, 0, 0, []), (2, .iload_n 2, 0, 0, 0, []), (3, .invokevirtual 129, 142, 3, 1, [(0, 1056)]), (6, .ifCond .eq 12, 18, 0, 0, []), (9, .aload_n 0, 0, 0, 0, []), (10, .iload_n 1, 0, 0, 0, []), (11, .iload_n 2, 0, 0, 0, []), (12, .invokevirtual 132, 144, 3, 1, [(0, 1064)]), (15, .goto 5, 20, 0, 0, []), (18, .bipush (-2), 0, 0, 0, []), (20, .ireturn, 0, 0, 0, [])]
abbrev mX11_span : am_M := (yX11_span, cX11_span, 3, some .int, 11, am_lk tbX11_span)
def tbX11_isFree : List (Nat × am_I) := [(0, .aload_n 0, 0, 0, 0, []), (1, .iload_n 1, 0, 0, 0, []), (2, .iload_n 2, 0, 0, 0, []), (3, .invokevirtual 93, 130, 3, 1, [(0, 1028)]), (6, .iload_n 2, 0, 0, 0, []), (7, .invokestatic 100, 121, 1, 1, [(0, 1003)]), (10, .if_icmp .ne 7, 17, 0, 0, []), (13, .iconst 1, 0, 0, 0, []), (14, .goto 4, 18, 0, 0, []), (17, .iconst 0, 0, 0, 0, []), (18, .ireturn, 0, 0, 0, [])]
abbrev mX11_isFree : am_M := (yX11_isFree, cX11_isFree, 3, some .boolean, 11, am_lk tbX11_isFree)
def tbX11_isOf : List (Nat × am_I) := [(0, .aload_n 0, 0, 0, 0, []), (1, .iload_n 1, 0, 0, 0, []), (2, .iload_n 2, 0, 0, 0, []), (3, .invokevirtual 135, 146, 3, 1, [(0, 1076)]), (6, .ifCond .ne 7, 13, 0, 0, []), (9, .iconst 1, 0, 0, 0, []), (10, .goto 4, 14, 0, 0, []), (13, .iconst 0, 0, 0, 0, []), (14, .istore 4, 0, 0, 0, []), (16, .iconst 0, 0, 0, 0, []), (17, .istore 5, 0, 0, 0, []), (19, .iload 5, 0, 0, 0, []), (21, .aload_n 0, 0, 0, 0, []), (22, .getfield 16, 11, 2, 1, [(0, 898)]), (25, .iload_n 1, 0, 0, 0, []), (26, .iaload, 0, 0, 0, []), (27, .if_icmp .ge 46, 73, 0, 0, []), (30, .iload 4, 0, 0, 0, []), (32, .ifCond .eq 32, 64, 0, 0, []), (35, .iload_n 2, 0, 0, 0, []), (36, .iload 5, 0, 0, 0, []), (38, .invokestatic 103, 120, 2, 1, [(0, 1021)]), (41, .ifCond .eq 19, 60, 0, 0, []), (44, .aload_n 0, 0, 0, 0, []), (45, .iload_n 1, 0, 0, 0, []), (46, .iload_n 2, 0, 0, 0, []), (47, .iconst 1, 0, 0, 0, []), (48, .iload 5, 0, 0, 0, []), (50, .ishl, 0, 0, 0, []), (51, .iconst (-1), 0, 0, 0, []), (52, .ixor, 0, 0, 0, []), (53, .iand, 0, 0, 0, []), (54, .invokevirtual 135, 146, 3, 1, [(0, 1076)]), (57, .ifCond .eq 7, 64, 0, 0, []), (60, .iconst 1, 0, 0, 0, []), (61, .goto 4, 65, 0, 0, []), (64, .iconst 0, 0, 0, 0, []), (65, .istore 4, 0, 0, 0, []), (67, .iinc 5 1, 0, 0, 0, []), (70, .goto (-51), 19, 0, 0, []), (73, .iload_n 3, 0, 0, 0, []), (74, .tableswitch 85 1 4 #[30, 37, 66, 69], 159, 0, 0, [(1, 104), (2, 111), (3, 140), (4, 143)]), (104, .aload_n 0, 0, 0, 0, []), (105, .iload_n 1, 0, 0, 0, []), (106, .iload_n 2, 0, 0, 0, []), (107, .invokevirtual 135, 146, 3, 1, [(0, 1076)]), (110, .ireturn, 0, 0, 0, []), (111, .aload_n 0, 0, 0, 0, []), (112, .iload_n 1, 0, 0, 0, []), (113, .iload_n 2, 0, 0, 0, []), (114, .invokevirtual 135, 146, 3, 1, [(0, 1076)]), (117, .ifCond .eq 21, 138, 0, 0, []), (120, .aload_n 0, 0, 0, 0, []), (121, .iload_n 1, 0, 0, 0, []), (122, .iload_n 2, 0, 0, 0, []), (123, .invokevirtual 93, 130, 3, 1, [(0, 1028)]), (126, .aload_n 0, 0, 0, 0, []), (127, .iload_n 1, 0, 0, 0, []), (128, .invokevirtual 110, 131, 2, 1, [(0, 1024)]), (131, .if_icmp .ne 7, 138, 0, 0, []), (134, .iconst 1, 0, 0, 0, []), (135, .goto 4, 139, 0, 0, []), (138, .iconst 0, 0, 0, 0, []), (139, .ireturn, 0, 0, 0, []), (140, .iload 4, 0, 0, 0, []), (142, .ireturn, 0, 0, 0, []), (143, .aload_n 0, 0, 0, 0, []), (144, .iload_n 1, 0, 0, 0, []), (145, .iload_n 2, 0, 0, 0, []), (146, .invokevirtual 132, 144, 3, 1, [(0, 1064)]), (149, .iload_n 2, 0, 0, 0, []), (150, .if_icmp .ne 7, 157, 0, 0, []), (153, .iconst 1, 0, 0, 0, []), (154, .goto 4, 158, 0, 0, []), (157, .iconst 0, 0, 0, 0, []), (158, .ireturn, 0, 0, 0, []), (159, .aload_n 0, 0, 0, 0, []), (160, .iload_n 1, 0, 0, 0, []), (161, .iload_n 2, 0, 0, 0, []), (162, .invokevirtual 132, 144, 3, 1, [(0, 1064)]), (165, .iload_n 2, 0, 0, 0, []), (166, .if_icmp .ne 23, 189, 0, 0, []), (169, .aload_n 0, 0, 0, 0, []), (170, .iload_n 1, 0, 0, 0, []), (171, .iload_n 2, 0, 0, 0, []), (172, .invokevirtual 93, 130, 3, 1, [(0, 1028)]), (175, .aload_n 0, 0, 0, 0, []), (176, .iload_n 1, 0, 0, 0, []), (177, .invokevirtual 110, 131, 2, 1, [(0, 1024)]), (180, .iconst 1, 0, 0, 0, []), (181, .isub, 0, 0, 0, []), (182, .if_icmp .ne 7, 189, 0, 0, []), (185, .iconst 1, 0, 0, 0, []), (186, .goto 4, 190, 0, 0, []), (189, .iconst 0, 0, 0, 0, []), (190, .ireturn, 0, 0, 0, [])]
abbrev mX11_isOf : am_M := (yX11_isOf, cX11_isOf, 6, some .boolean, 11, am_lk tbX11_isOf)
def tbX11_sorts : List (Nat × am_I) := [(0, .aload_n 0, 0, 0, 0, []), (1, .iload_n 1, 0, 0, 0, []), (2, .iload_n 2, 0, 0, 0, []), (3, .invokevirtual 129, 142, 3, 1, [(0, 1056)]), (6, .ifCond .ne 6, 12, 0, 0, []), (9, .bipush (-2), 0, 0, 0, []), (11, .ireturn, 0, 0, 0, []), (12, .iconst 0, 0, 0, 0, []), (13, .istore_n 3, 0, 0, 0, []), (14, .iconst 1, 0, 0, 0, []), (15, .istore 4, 0, 0, 0, []), (17, .iload 4, 0, 0, 0, []), (19, .bipush 6, 0, 0, 0, []), (21, .if_icmp .ge 33, 54, 0, 0, []), (24, .iload_n 3, 0, 0, 0, []), (25, .aload_n 0, 0, 0, 0, []), (26, .iload_n 1, 0, 0, 0, []), (27, .iload_n 2, 0, 0, 0, []), (28, .iload 4, 0, 0, 0, []), (30, .invokevirtual 138, 147, 4, 1, [(0, 1072)]), (33, .ifCond .eq 12, 45, 0, 0, []), (36, .iconst 1, 0, 0, 0, []), (37, .iload 4, 0, 0, 0, []), (39, .iconst 1, 0, 0, 0, []), (40, .isub, 0, 0, 0, []), (41, .ishl, 0, 0, 0, []), (42, .goto 4, 46, 0, 0, []), (45, .iconst 0, 0, 0, 0, []), (46, .ior, 0, 0, 0, []), (47, .istore_n 3, 0, 0, 0, []), (48, .iinc 4 1, 0, 0, 0, []), (51, .goto (-34), 17, 0, 0, []), (54, .iload_n 3, 0, 0, 0, []), (55, .ireturn, 0, 0, 0, [])]
abbrev mX11_sorts : am_M := (yX11_sorts, cX11_sorts, 5, some .int, 11, am_lk tbX11_sorts)
def tbX11_countOf : List (Nat × am_I) := [(0, .iconst 0, 0, 0, 0, []), (1, .istore_n 3, 0, 0, 0, []), (2, .iconst 0, 0, 0, 0, []), (3, .istore 4, 0, 0, 0, []), (5, .iload 4, 0, 0, 0, []), (7, .aload_n 0, 0, 0, 0, []), (8, .iload_n 1, 0, 0, 0, []), (9, .invokevirtual 89, 129, 2, 1, [(0, 999)]), (12, .if_icmp .gt 28, 40, 0, 0, []), (15, .iload_n 3, 0, 0, 0, []), (16, .aload_n 0, 0, 0, 0, []), (17, .iload_n 1, 0, 0, 0, []), (18, .iload 4, 0, 0, 0, []), (20, .iload_n 2, 0, 0, 0, []), (21, .invokevirtual 138, 147, 4, 1, [(0, 1072)]), (24, .ifCond .eq 7, 31, 0, 0, []), (27, .iconst 1, 0, 0, 0, []), (28, .goto 4, 32, 0, 0, []), (31, .iconst 0, 0, 0, 0, []), (32, .iadd, 0, 0, 0, []), (33, .istore_n 3, 0, 0, 0, []), (34, .iinc 4 1, 0, 0, 0, []), (37, .goto (-32), 5, 0, 0, []), (40, .iload_n 3, 0, 0, 0, []), (41, .ireturn, 0, 0, 0, [])]
abbrev mX11_countOf : am_M := (yX11_countOf, cX11_countOf, 5, some .int, 11, am_lk tbX11_countOf)
def tbX11_many : List (Nat × am_I) := [(0, .iload_n 1, 0, 0, 0, []), (1, .invokestatic 97, 128, 1, 1, [(0, 996)]), (4, .ifCond .eq 12, 16, 0, 0, []), (7, .iload_n 2, 0, 0, 0, []), (8, .iconst 0, 0, 0, 0, []), (9, .iconst 5, 0, 0, 0, []), (10, .invokestatic 72, 119, 3, 1, [(0, 973)]), (13, .ifCond .ne 8, 21, 0, 0, []), (16, .bipush (-2), 0, 0, 0, []), (18, .goto 22, 40, 0, 0, []), (21, .iload_n 2, 0, 0, 0, []), (22, .ifCond .ne 12, 34, 0, 0, []), (25, .aload_n 0, 0, 0, 0, []), (26, .getfield 16, 11, 2, 1, [(0, 898)]), (29, .iload_n 1, 0, 0, 0, []), (30, .iaload, 0, 0, 0, []), (31, .goto 9, 40, 0, 0, []), (34, .aload_n 0, 0, 0, 0, []), (35, .iload_n 1, 0, 0, 0, []), (36, .iload_n 2, 0, 0, 0, []), (37, .invokevirtual 141, 149, 3, 1, [(0, 1084)]), (40, .ireturn, 0, 0, 0, [])]
abbrev mX11_many : am_M := (yX11_many, cX11_many, 3, some .int, 11, am_lk tbX11_many)
def tbX11_at : List (Nat × am_I) := [(0, .iload_n 1, 0, 0, 0, []), (1, .invokestatic 97, 128, 1, 1, [(0, 996)]), (4, .ifCond .eq 12, 16, 0, 0, []), (7, .iload_n 2, 0, 0, 0, []), (8, .iconst 1, 0, 0, 0, []), (9, .iconst 5, 0, 0, 0, []), (10, .invokestatic 72, 119, 3, 1, [(0, 973)]), (13, .ifCond .ne 6, 19, 0, 0, []), (16, .bipush (-2), 0, 0, 0, []), (18, .ireturn, 0, 0, 0, []), (19, .iconst 0, 0, 0, 0, []), (20, .istore 4, 0, 0, 0, []), (22, .iconst 0, 0, 0, 0, []), (23, .istore 5, 0, 0, 0, []), (25, .iload 5, 0, 0, 0, []), (27, .aload_n 0, 0, 0, 0, []), (28, .iload_n 1, 0, 0, 0, []), (29, .invokevirtual 89, 129, 2, 1, [(0, 999)]), (32, .if_icmp .gt 35, 67, 0, 0, []), (35, .aload_n 0, 0, 0, 0, []), (36, .iload_n 1, 0, 0, 0, []), (37, .iload 5, 0, 0, 0, []), (39, .iload_n 2, 0, 0, 0, []), (40, .invokevirtual 138, 147, 4, 1, [(0, 1072)]), (43, .ifCond .ne 6, 49, 0, 0, []), (46, .goto 15, 61, 0, 0, []), (49, .iload 4, 0, 0, 0, []), (51, .iload_n 3, 0, 0, 0, []), (52, .if_icmp .ne 6, 58, 0, 0, []), (55, .iload 5, 0, 0, 0, []), (57, .ireturn, 0, 0, 0, []), (58, .iinc 4 1, 0, 0, 0, []), (61, .iinc 5 1, 0, 0, 0, []), (64, .goto (-39), 25, 0, 0, []), (67, .iconst (-1), 0, 0, 0, []), (68, .ireturn, 0, 0, 0, [])]
abbrev mX11_at : am_M := (yX11_at, cX11_at, 6, some .int, 11, am_lk tbX11_at)
def tbX11_weightOf : List (Nat × am_I) := [(0, .iconst 0, 0, 0, 0, []), (1, .istore_n 3, 0, 0, 0, []), (2, .iconst 0, 0, 0, 0, []), (3, .istore 4, 0, 0, 0, []), (5, .iload 4, 0, 0, 0, []), (7, .bipush 7, 0, 0, 0, []), (9, .if_icmp .ge 48, 57, 0, 0, []), (12, .iload_n 3, 0, 0, 0, []), (13, .iload_n 2, 0, 0, 0, []), (14, .iload 4, 0, 0, 0, []), (16, .invokestatic 103, 120, 2, 1, [(0, 1021)]), (19, .ifCond .eq 29, 48, 0, 0, []), (22, .iload 4, 0, 0, 0, []), (24, .aload_n 0, 0, 0, 0, []), (25, .getfield 62, 11, 19, 1, [(0, 915)]), (28, .iload_n 1, 0, 0, 0, []), (29, .iaload, 0, 0, 0, []), (30, .if_icmp .ge 18, 48, 0, 0, []), (33, .aload_n 0, 0, 0, 0, []), (34, .getfield 65, 11, 20, 1, [(0, 916)]), (37, .bipush 64, 0, 0, 0, []), (39, .iload_n 1, 0, 0, 0, []), (40, .imul, 0, 0, 0, []), (41, .iload 4, 0, 0, 0, []), (43, .iadd, 0, 0, 0, []), (44, .iaload, 0, 0, 0, []), (45, .goto 4, 49, 0, 0, []), (48, .iconst 0, 0, 0, 0, []), (49, .iadd, 0, 0, 0, []), (50, .istore_n 3, 0, 0, 0, []), (51, .iinc 4 1, 0, 0, 0, []), (54, .goto (-49), 5, 0, 0, []), (57, .iload_n 3, 0, 0, 0, []), (58, .ireturn, 0, 0, 0, [])]
abbrev mX11_weightOf : am_M := (yX11_weightOf, cX11_weightOf, 5, some .int, 11, am_lk tbX11_weightOf)
def tbX11_best : List (Nat × am_I) := [(0, .iload_n 1, 0, 0, 0, []), (1, .invokestatic 97, 128, 1, 1, [(0, 996)]), (4, .ifCond .eq 19, 23, 0, 0, []), (7, .iload_n 2, 0, 0, 0, []), (8, .invokestatic 113, 187, 1, 1, [(0, 1010)]), (11, .ifCond .eq 12, 23, 0, 0, []), (14, .iload_n 3, 0, 0, 0, []), (15, .iconst 0, 0, 0, 0, []), (16, .iconst 1, 0, 0, 0, []), (17, .invokestatic 72, 119, 3, 1, [(0, 973)]), (20, .ifCond .ne 6, 26, 0, 0, []), (23, .bipush (-2), 0, 0, 0, []), (25, .ireturn, 0, 0, 0, []), (26, .aload_n 0, 0, 0, 0, []), (27, .getfield 59, 11, 18, 1, [(0, 914)]), (30, .iload_n 2, 0, 0, 0, []), (31, .iaload, 0, 0, 0, []), (32, .iconst (-1), 0, 0, 0, []), (33, .if_icmp .ne 6, 39, 0, 0, []), (36, .bipush (-11), 0, 0, 0, []), (38, .ireturn, 0, 0, 0, []), (39, .iconst (-1), 0, 0, 0, []), (40, .istore 4, 0, 0, 0, []), (42, .iconst 0, 0, 0, 0, []), (43, .istore 5, 0, 0, 0, []), (45, .iload 5, 0, 0, 0, []), (47, .aload_n 0, 0, 0, 0, []), (48, .iload_n 1, 0, 0, 0, []), (49, .invokevirtual 89, 129, 2, 1, [(0, 999)]), (52, .if_icmp .gt 47, 99, 0, 0, []), (55, .aload_n 0, 0, 0, 0, []), (56, .iload_n 1, 0, 0, 0, []), (57, .iload 5, 0, 0, 0, []), (59, .iconst 2, 0, 0, 0, []), (60, .invokevirtual 138, 147, 4, 1, [(0, 1072)]), (63, .ifCond .eq 30, 93, 0, 0, []), (66, .iload 4, 0, 0, 0, []), (68, .iconst (-1), 0, 0, 0, []), (69, .if_icmp .eq 20, 89, 0, 0, []), (72, .aload_n 0, 0, 0, 0, []), (73, .iload_n 2, 0, 0, 0, []), (74, .iload 5, 0, 0, 0, []), (76, .invokevirtual 144, 152, 3, 1, [(0, 1096)]), (79, .aload_n 0, 0, 0, 0, []), (80, .iload_n 2, 0, 0, 0, []), (81, .iload 4, 0, 0, 0, []), (83, .invokevirtual 144, 152, 3, 1, [(0, 1096)]), (86, .if_icmp .le 7, 93, 0, 0, []), (89, .iload 5, 0, 0, 0, []), (91, .istore 4, 0, 0, 0, []), (93, .iinc 5 1, 0, 0, 0, []), (96, .goto (-51), 45, 0, 0, []), (99, .iload_n 3, 0, 0, 0, []), (100, .ifCond .ne 8, 108, 0, 0, []), (103, .iload 4, 0, 0, 0, []), (105, .goto 10, 115, 0, 0, []), (108, .aload_n 0, 0, 0, 0, []), (109, .iload_n 2, 0, 0, 0, []), (110, .iload 4, 0, 0, 0, []), (112, .invokevirtual 144, 152, 3, 1, [(0, 1096)]), (115, .ireturn, 0, 0, 0, [])]
abbrev mX11_best : am_M := (yX11_best, cX11_best, 6, some .int, 11, am_lk tbX11_best)
def tbX11_duals : List (Nat × am_I) := [(0, .aload_n 0, 0, 0, 0, []), (1, .getfield 16, 11, 2, 1, [(0, 898)]), (4, .iload_n 2, 0, 0, 0, []), (5, .aload_n 0, 0, 0, 0, []), (6, .getfield 16, 11, 2, 1, [(0, 898)]), (9, .iload_n 1, 0, 0, 0, []), (10, .iaload, 0, 0, 0, []), (11, .iastore, 0, 0, 0, []), (12, .iconst 0, 0, 0, 0, []), (13, .istore_n 3, 0, 0, 0, []), (14, .iload_n 3, 0, 0, 0, []), (15, .aload_n 0, 0, 0, 0, []), (16, .iload_n 1, 0, 0, 0, []), (17, .invokevirtual 89, 129, 2, 1, [(0, 999)]), (20, .if_icmp .gt 44, 64, 0, 0, []), (23, .aload_n 0, 0, 0, 0, []), (24, .getfield 19, 11, 3, 1, [(0, 899)]), (27, .sipush 1664, 0, 0, 0, []), (30, .iload_n 3, 0, 0, 0, []), (31, .iadd, 0, 0, 0, []), (32, .iload_n 3, 0, 0, 0, []), (33, .invokestatic 100, 121, 1, 1, [(0, 1003)]), (36, .aload_n 0, 0, 0, 0, []), (37, .iload_n 1, 0, 0, 0, []), (38, .aload_n 0, 0, 0, 0, []), (39, .iload_n 1, 0, 0, 0, []), (40, .invokevirtual 89, 129, 2, 1, [(0, 999)]), (43, .iload_n 3, 0, 0, 0, []), (44, .iconst (-1), 0, 0, 0, []), (45, .ixor, 0, 0, 0, []), (46, .iand, 0, 0, 0, []), (47, .invokevirtual 93, 130, 3, 1, [(0, 1028)]), (50, .iadd, 0, 0, 0, []), (51, .aload_n 0, 0, 0, 0, []), (52, .iload_n 1, 0, 0, 0, []), (53, .invokevirtual 110, 131, 2, 1, [(0, 1024)]), (56, .isub, 0, 0, 0, []), (57, .iastore, 0, 0, 0, []), (58, .iinc 3 1, 0, 0, 0, []), (61, .goto (-47), 14, 0, 0, []), (64, .iconst 0, 0, 0, 0, []), (65, .istore_n 3, 0, 0, 0, []), (66, .iload_n 3, 0, 0, 0, []), (67, .aload_n 0, 0, 0, 0, []), (68, .iload_n 2, 0, 0, 0, []), (69, .invokevirtual 89, 129, 2, 1, [(0, 999)]), (72, .if_icmp .gt 31, 103, 0, 0, []), (75, .aload_n 0, 0, 0, 0, []), (76, .getfield 19, 11, 3, 1, [(0, 899)]), (79, .sipush 128, 0, 0, 0, []), (82, .iload_n 2, 0, 0, 0, []), (83, .imul, 0, 0, 0, []), (84, .iload_n 3, 0, 0, 0, []), (85, .iadd, 0, 0, 0, []), (86, .aload_n 0, 0, 0, 0, []), (87, .getfield 19, 11, 3, 1, [(0, 899)]), (90, .sipush 1664, 0, 0, 0, []), (93, .iload_n 3, 0, 0, 0, []), (94, .iadd, 0, 0, 0, []), (95, .iaload, 0, 0, 0, []), (96, .iastore, 0, 0, 0, []), (97, .iinc 3 1, 0, 0, 0, []), (100, .goto (-34), 66, 0, 0, []), (103, .return_, 0, 0, 0, [])]
abbrev mX11_duals : am_M := (yX11_duals, cX11_duals, 4, none, 11, am_lk tbX11_duals)
def tbX11_dual : List (Nat × am_I) := [(0, .iload_n 1, 0, 0, 0, []), (1, .invokestatic 97, 128, 1, 1, [(0, 996)]), (4, .ifCond .eq 10, 14, 0, 0, []), (7, .iload_n 2, 0, 0, 0, []), (8, .invokestatic 97, 128, 1, 1, [(0, 996)]), (11, .ifCond .ne 6, 17, 0, 0, []), (14, .bipush (-2), 0, 0, 0, []), (16, .ireturn, 0, 0, 0, []), (17, .aload_n 0, 0, 0, 0, []), (18, .iload_n 1, 0, 0, 0, []), (19, .iload_n 2, 0, 0, 0, []), (20, .invokevirtual 147, 154, 3, 0, [(0, 1104)]), (23, .aload_n 0, 0, 0, 0, []), (24, .iload_n 2, 0, 0, 0, []), (25, .invokevirtual 110, 131, 2, 1, [(0, 1024)]), (28, .ireturn, 0, 0, 0, [])]
abbrev mX11_dual : am_M := (yX11_dual, cX11_dual, 3, some .int, 11, am_lk tbX11_dual)
def tbX11_spread : List (Nat × am_I) := [(0, .iconst 0, 0, 0, 0, []), (1, .istore_n 2, 0, 0, 0, []), (2, .iconst 0, 0, 0, 0, []), (3, .istore_n 3, 0, 0, 0, []), (4, .iconst 0, 0, 0, 0, []), (5, .istore 4, 0, 0, 0, []), (7, .iload 4, 0, 0, 0, []), (9, .bipush 7, 0, 0, 0, []), (11, .if_icmp .ge 43, 54, 0, 0, []), (14, .iload_n 1, 0, 0, 0, []), (15, .iload 4, 0, 0, 0, []), (17, .invokestatic 103, 120, 2, 1, [(0, 1021)]), (20, .ifCond .ne 6, 26, 0, 0, []), (23, .goto 25, 48, 0, 0, []), (26, .iload_n 2, 0, 0, 0, []), (27, .iload_n 0, 0, 0, 0, []), (28, .iload_n 3, 0, 0, 0, []), (29, .invokestatic 103, 120, 2, 1, [(0, 1021)]), (32, .ifCond .eq 10, 42, 0, 0, []), (35, .iconst 1, 0, 0, 0, []), (36, .iload 4, 0, 0, 0, []), (38, .ishl, 0, 0, 0, []), (39, .goto 4, 43, 0, 0, []), (42, .iconst 0, 0, 0, 0, []), (43, .ior, 0, 0, 0, []), (44, .istore_n 2, 0, 0, 0, []), (45, .iinc 3 1, 0, 0, 0, []), (48, .iinc 4 1, 0, 0, 0, []), (51, .goto (-44), 7, 0, 0, []), (54, .iload_n 2, 0, 0, 0, []), (55, .ireturn, 0, 0, 0, [])]
abbrev mX11_spread : am_M := (yX11_spread, cX11_spread, 5, some .int, 12, am_lk tbX11_spread)
def tbX11_minors : List (Nat × am_I) := [(0, .aload_n 0, 0, 0, 0, []), (1, .iload_n 1, 0, 0, 0, []), (2, .invokevirtual 89, 129, 2, 1, [(0, 999)]), (5, .iload_n 3, 0, 0, 0, []), (6, .iconst (-1), 0, 0, 0, []), (7, .ixor, 0, 0, 0, []), (8, .iand, 0, 0, 0, []), (9, .iload 4, 0, 0, 0, []), (11, .iconst (-1), 0, 0, 0, []), (12, .ixor, 0, 0, 0, []), (13, .iand, 0, 0, 0, []), (14, .istore 5, 0, 0, 0, []), (16, .iload 5, 0, 0, 0, []), (18, .invokestatic 100, 121, 1, 1, [(0, 1003)]), (21, .istore 6, 0, 0, 0, []), (23, .iconst 0, 0, 0, 0, []), (24, .istore 7, 0, 0, 0, []), (26, .iload 7, 0, 0, 0, []), (28, .iconst 1, 0, 0, 0, []), (29, .iload 6, 0, 0, 0, []), (31, .ishl, 0, 0, 0, []), (32, .if_icmp .ge 41, 73, 0, 0, []), (35, .aload_n 0, 0, 0, 0, []), (36, .getfield 19, 11, 3, 1, [(0, 899)]), (39, .sipush 1664, 0, 0, 0, []), (42, .iload 7, 0, 0, 0, []), (44, .iadd, 0, 0, 0, []), (45, .aload_n 0, 0, 0, 0, []), (46, .iload_n 1, 0, 0, 0, []), (47, .iload 7, 0, 0, 0, []), (49, .iload 5, 0, 0, 0, []), (51, .invokestatic 151, 156, 2, 1, [(0, 1116)]), (54, .iload_n 3, 0, 0, 0, []), (55, .ior, 0, 0, 0, []), (56, .invokevirtual 93, 130, 3, 1, [(0, 1028)]), (59, .aload_n 0, 0, 0, 0, []), (60, .iload_n 1, 0, 0, 0, []), (61, .iload_n 3, 0, 0, 0, []), (62, .invokevirtual 93, 130, 3, 1, [(0, 1028)]), (65, .isub, 0, 0, 0, []), (66, .iastore, 0, 0, 0, []), (67, .iinc 7 1, 0, 0, 0, []), (70, .goto (-44), 26, 0, 0, []), (73, .aload_n 0, 0, 0, 0, []), (74, .getfield 16, 11, 2, 1, [(0, 898)]), (77, .iload_n 2, 0, 0, 0, []), (78, .iload 6, 0, 0, 0, []), (80, .iastore, 0, 0, 0, []), (81, .iconst 0, 0, 0, 0, []), (82, .istore 7, 0, 0, 0, []), (84, .iload 7, 0, 0, 0, []), (86, .iconst 1, 0, 0, 0, []), (87, .iload 6, 0, 0, 0, []), (89, .ishl, 0, 0, 0, []), (90, .if_icmp .ge 33, 123, 0, 0, []), (93, .aload_n 0, 0, 0, 0, []), (94, .getfield 19, 11, 3, 1, [(0, 899)]), (97, .sipush 128, 0, 0, 0, []), (100, .iload_n 2, 0, 0, 0, []), (101, .imul, 0, 0, 0, []), (102, .iload 7, 0, 0, 0, []), (104, .iadd, 0, 0, 0, []), (105, .aload_n 0, 0, 0, 0, []), (106, .getfield 19, 11, 3, 1, [(0, 899)]), (109, .sipush 1664, 0, 0, 0, []), (112, .iload 7, 0, 0, 0, []), (114, .iadd, 0, 0, 0, []), (115, .iaload, 0, 0, 0, []), (116, .iastore, 0, 0, 0, []), (117, .iinc 7 1, 0, 0, 0, []), (120, .goto (-36), 84, 0, 0, []), (123, .return_, 0, 0, 0, [])]
abbrev mX11_minors : am_M := (yX11_minors, cX11_minors, 8, none, 11, am_lk tbX11_minors)
def tbX11_minor : List (Nat × am_I) := [(0, .iload_n 2, 0, 0, 0, []), (1, .invokestatic 97, 128, 1, 1, [(0, 996)]), (4, .ifCond .eq 29, 33, 0, 0, []), (7, .aload_n 0, 0, 0, 0, []), (8, .iload_n 1, 0, 0, 0, []), (9, .iload_n 3, 0, 0, 0, []), (10, .invokevirtual 129, 142, 3, 1, [(0, 1056)]), (13, .ifCond .eq 20, 33, 0, 0, []), (16, .aload_n 0, 0, 0, 0, []), (17, .iload_n 1, 0, 0, 0, []), (18, .iload 4, 0, 0, 0, []), (20, .invokevirtual 129, 142, 3, 1, [(0, 1056)]), (23, .ifCond .eq 10, 33, 0, 0, []), (26, .iload_n 3, 0, 0, 0, []), (27, .iload 4, 0, 0, 0, []), (29, .iand, 0, 0, 0, []), (30, .ifCond .eq 6, 36, 0, 0, []), (33, .bipush (-2), 0, 0, 0, []), (35, .ireturn, 0, 0, 0, []), (36, .aload_n 0, 0, 0, 0, []), (37, .iload_n 1, 0, 0, 0, []), (38, .iload_n 2, 0, 0, 0, []), (39, .iload_n 3, 0, 0, 0, []), (40, .iload 4, 0, 0, 0, []), (42, .invokevirtual 154, 157, 5, 0, [(0, 1112)]), (45, .aload_n 0, 0, 0, 0, []), (46, .getfield 16, 11, 2, 1, [(0, 898)]), (49, .iload_n 2, 0, 0, 0, []), (50, .iaload, 0, 0, 0, []), (51, .ireturn, 0, 0, 0, [])]
abbrev mX11_minor : am_M := (yX11_minor, cX11_minor, 5, some .int, 11, am_lk tbX11_minor)
def tbX11_union : List (Nat × am_I) := [(0, .iload_n 1, 0, 0, 0, []), (1, .invokestatic 97, 128, 1, 1, [(0, 996)]), (4, .ifCond .eq 17, 21, 0, 0, []), (7, .iload_n 2, 0, 0, 0, []), (8, .invokestatic 97, 128, 1, 1, [(0, 996)]), (11, .ifCond .eq 10, 21, 0, 0, []), (14, .iload_n 3, 0, 0, 0, []), (15, .invokestatic 97, 128, 1, 1, [(0, 996)]), (18, .ifCond .ne 6, 24, 0, 0, []), (21, .bipush (-2), 0, 0, 0, []), (23, .ireturn, 0, 0, 0, []), (24, .aload_n 0, 0, 0, 0, []), (25, .getfield 16, 11, 2, 1, [(0, 898)]), (28, .iload_n 1, 0, 0, 0, []), (29, .iaload, 0, 0, 0, []), (30, .aload_n 0, 0, 0, 0, []), (31, .getfield 16, 11, 2, 1, [(0, 898)]), (34, .iload_n 2, 0, 0, 0, []), (35, .iaload, 0, 0, 0, []), (36, .if_icmp .eq 6, 42, 0, 0, []), (39, .bipush (-3), 0, 0, 0, []), (41, .ireturn, 0, 0, 0, []), (42, .iconst 0, 0, 0, 0, []), (43, .istore 4, 0, 0, 0, []), (45, .iload 4, 0, 0, 0, []), (47, .aload_n 0, 0, 0, 0, []), (48, .iload_n 1, 0, 0, 0, []), (49, .invokevirtual 89, 129, 2, 1, [(0, 999)]), (52, .if_icmp .gt 94, 146, 0, 0, []), (55, .iload 4, 0, 0, 0, []), (57, .invokestatic 100, 121, 1, 1, [(0, 1003)]), (60, .istore 5, 0, 0, 0, []), (62, .iload 4, 0, 0, 0, []), (64, .istore 6, 0, 0, 0, []), (66, .iload 6, 0, 0, 0, []), (68, .ifCond .le 59, 127, 0, 0, []), (71, .aload_n 0, 0, 0, 0, []), (72, .iload_n 1, 0, 0, 0, []), (73, .iload 6, 0, 0, 0, []), (75, .invokevirtual 93, 130, 3, 1, [(0, 1028)]), (78, .aload_n 0, 0, 0, 0, []), (79, .iload_n 2, 0, 0, 0, []), (80, .iload 6, 0, 0, 0, []), (82, .invokevirtual 93, 130, 3, 1, [(0, 1028)]), (85, .iadd, 0, 0, 0, []), (86, .iload 4, 0, 0, 0, []), (88, .iload 6, 0, 0, 0, []), (90, .iconst (-1), 0, 0, 0, []), (91, .ixor, 0, 0, 0, []), (92, .iand, 0, 0, 0, []), (93, .invokestatic 100, 121, 1, 1, [(0, 1003)]), (96, .iadd, 0, 0, 0, []), (97, .istore 7, 0, 0, 0, []), (99, .iload 7, 0, 0, 0, []), (101, .iload 5, 0, 0, 0, []), (103, .if_icmp .ge 8, 111, 0, 0, []), (106, .iload 7, 0, 0, 0, []), (108, .goto 5, 113, 0, 0, []), (111, .iload 5, 0, 0, 0, []), (113, .istore 5, 0, 0, 0, []), (115, .iload 6, 0, 0, 0, []), (117, .iconst 1, 0, 0, 0, []), (118, .isub, 0, 0, 0, []), (119, .iload 4, 0, 0, 0, []), (121, .iand, 0, 0, 0, []), (122, .istore 6, 0, 0, 0, []), (124, .goto (-58), 66, 0, 0, []), (127, .aload_n 0, 0, 0, 0, []), (128, .getfield 19, 11, 3, 1, [(0, 899)]), (131, .sipush 1664, 0, 0, 0, []), (134, .iload 4, 0, 0, 0, []), (136, .iadd, 0, 0, 0, []), (137, .iload 5, 0, 0, 0, []), (139, .iastore, 0, 0, 0, []), (140, .iinc 4 1, 0, 0, 0, []), (143, .goto (-98), 45, 0, 0, []), (146, .aload_n 0, 0, 0, 0, []), (147, .getfield 16, 11, 2, 1, [(0, 898)]), (150, .iload_n 3, 0, 0, 0, []), (151, .aload_n 0, 0, 0, 0, []), (152, .getfield 16, 11, 2, 1, [(0, 898)]), (155, .iload_n 1, 0, 0, 0, []), (156, .iaload, 0, 0, 0, []), (157, .iastore, 0, 0, 0, []), (158, .iconst 0, 0, 0, 0, []), (159, .istore 4, 0, 0, 0, []), (161, .iload 4, 0, 0, 0, []), (163, .aload_n 0, 0, 0, 0, []), (164, .iload_n 3, 0, 0, 0, []), (165, .invokevirtual 89, 129, 2, 1, [(0, 999)]), (168, .if_icmp .gt 33, 201, 0, 0, []), (171, .aload_n 0, 0, 0, 0, []), (172, .getfield 19, 11, 3, 1, [(0, 899)]), (175, .sipush 128, 0, 0, 0, []), (178, .iload_n 3, 0, 0, 0, []), (179, .imul, 0, 0, 0, []), (180, .iload 4, 0, 0, 0, []), (182, .iadd, 0, 0, 0, []), (183, .aload_n 0, 0, 0, 0, []), (184, .getfield 19, 11, 3, 1, [(0, 899)]), (187, .sipush 1664, 0, 0, 0, []), (190, .iload 4, 0, 0, 0, []), (192, .iadd, 0, 0, 0, []), (193, .iaload, 0, 0, 0, []), (194, .iastore, 0, 0, 0, []), (195, .iinc 4 1, 0, 0, 0, []), (198, .goto (-37), 161, 0, 0, []), (201, .aload_n 0, 0, 0, 0, []), (202, .iload_n 3, 0, 0, 0, []), (203, .invokevirtual 110, 131, 2, 1, [(0, 1024)]), (206, .ireturn, 0, 0, 0, [])]
abbrev mX11_union : am_M := (yX11_union, cX11_union, 8, some .int, 11, am_lk tbX11_union)
def tbX11_renumber : List (Nat × am_I) := [(0, .iload_n 1, 0, 0, 0, []), (1, .invokestatic 97, 128, 1, 1, [(0, 996)]), (4, .ifCond .eq 17, 21, 0, 0, []), (7, .iload_n 2, 0, 0, 0, []), (8, .invokestatic 97, 128, 1, 1, [(0, 996)]), (11, .ifCond .eq 10, 21, 0, 0, []), (14, .iload_n 3, 0, 0, 0, []), (15, .invokestatic 113, 187, 1, 1, [(0, 1010)]), (18, .ifCond .ne 6, 24, 0, 0, []), (21, .bipush (-2), 0, 0, 0, []), (23, .ireturn, 0, 0, 0, []), (24, .aload_n 0, 0, 0, 0, []), (25, .getfield 59, 11, 18, 1, [(0, 914)]), (28, .iload_n 3, 0, 0, 0, []), (29, .iaload, 0, 0, 0, []), (30, .iconst (-1), 0, 0, 0, []), (31, .if_icmp .ne 6, 37, 0, 0, []), (34, .bipush (-11), 0, 0, 0, []), (36, .ireturn, 0, 0, 0, []), (37, .aload_n 0, 0, 0, 0, []), (38, .getfield 62, 11, 19, 1, [(0, 915)]), (41, .iload_n 3, 0, 0, 0, []), (42, .iaload, 0, 0, 0, []), (43, .aload_n 0, 0, 0, 0, []), (44, .getfield 16, 11, 2, 1, [(0, 898)]), (47, .iload_n 1, 0, 0, 0, []), (48, .iaload, 0, 0, 0, []), (49, .if_icmp .ge 6, 55, 0, 0, []), (52, .bipush (-12), 0, 0, 0, []), (54, .ireturn, 0, 0, 0, []), (55, .iconst 0, 0, 0, 0, []), (56, .istore 4, 0, 0, 0, []), (58, .iconst 0, 0, 0, 0, []), (59, .istore 5, 0, 0, 0, []), (61, .iload 5, 0, 0, 0, []), (63, .aload_n 0, 0, 0, 0, []), (64, .getfield 16, 11, 2, 1, [(0, 898)]), (67, .iload_n 1, 0, 0, 0, []), (68, .iaload, 0, 0, 0, []), (69, .if_icmp .ge 62, 131, 0, 0, []), (72, .aload_n 0, 0, 0, 0, []), (73, .getfield 65, 11, 20, 1, [(0, 916)]), (76, .bipush 64, 0, 0, 0, []), (78, .iload_n 3, 0, 0, 0, []), (79, .imul, 0, 0, 0, []), (80, .iload 5, 0, 0, 0, []), (82, .iadd, 0, 0, 0, []), (83, .iaload, 0, 0, 0, []), (84, .istore 6, 0, 0, 0, []), (86, .iload 6, 0, 0, 0, []), (88, .iconst 0, 0, 0, 0, []), (89, .aload_n 0, 0, 0, 0, []), (90, .getfield 16, 11, 2, 1, [(0, 898)]), (93, .iload_n 1, 0, 0, 0, []), (94, .iaload, 0, 0, 0, []), (95, .iconst 1, 0, 0, 0, []), (96, .isub, 0, 0, 0, []), (97, .invokestatic 72, 119, 3, 1, [(0, 973)]), (100, .ifCond .eq 13, 113, 0, 0, []), (103, .iload 4, 0, 0, 0, []), (105, .iload 6, 0, 0, 0, []), (107, .invokestatic 103, 120, 2, 1, [(0, 1021)]), (110, .ifCond .eq 6, 116, 0, 0, []), (113, .bipush (-3), 0, 0, 0, []), (115, .ireturn, 0, 0, 0, []), (116, .iload 4, 0, 0, 0, []), (118, .iconst 1, 0, 0, 0, []), (119, .iload 6, 0, 0, 0, []), (121, .ishl, 0, 0, 0, []), (122, .ior, 0, 0, 0, []), (123, .istore 4, 0, 0, 0, []), (125, .iinc 5 1, 0, 0, 0, []), (128, .goto (-67), 61, 0, 0, []), (131, .iconst 0, 0, 0, 0, []), (132, .istore 5, 0, 0, 0, []), (134, .iload 5, 0, 0, 0, []), (136, .aload_n 0, 0, 0, 0, []), (137, .iload_n 1, 0, 0, 0, []), (138, .invokevirtual 89, 129, 2, 1, [(0, 999)]), (141, .if_icmp .gt 83, 224, 0, 0, []), (144, .iconst 0, 0, 0, 0, []), (145, .istore 6, 0, 0, 0, []), (147, .iconst 0, 0, 0, 0, []), (148, .istore 7, 0, 0, 0, []), (150, .iload 7, 0, 0, 0, []), (152, .aload_n 0, 0, 0, 0, []), (153, .getfield 16, 11, 2, 1, [(0, 898)]), (156, .iload_n 1, 0, 0, 0, []), (157, .iaload, 0, 0, 0, []), (158, .if_icmp .ge 42, 200, 0, 0, []), (161, .iload 6, 0, 0, 0, []), (163, .iload 5, 0, 0, 0, []), (165, .iload 7, 0, 0, 0, []), (167, .invokestatic 103, 120, 2, 1, [(0, 1021)]), (170, .ifCond .eq 20, 190, 0, 0, []), (173, .iconst 1, 0, 0, 0, []), (174, .aload_n 0, 0, 0, 0, []), (175, .getfield 65, 11, 20, 1, [(0, 916)]), (178, .bipush 64, 0, 0, 0, []), (180, .iload_n 3, 0, 0, 0, []), (181, .imul, 0, 0, 0, []), (182, .iload 7, 0, 0, 0, []), (184, .iadd, 0, 0, 0, []), (185, .iaload, 0, 0, 0, []), (186, .ishl, 0, 0, 0, []), (187, .goto 4, 191, 0, 0, []), (190, .iconst 0, 0, 0, 0, []), (191, .ior, 0, 0, 0, []), (192, .istore 6, 0, 0, 0, []), (194, .iinc 7 1, 0, 0, 0, []), (197, .goto (-47), 150, 0, 0, []), (200, .aload_n 0, 0, 0, 0, []), (201, .getfield 19, 11, 3, 1, [(0, 899)]), (204, .sipush 1664, 0, 0, 0, []), (207, .iload 6, 0, 0, 0, []), (209, .iadd, 0, 0, 0, []), (210, .aload_n 0, 0, 0, 0, []), (211, .iload_n 1, 0, 0, 0, []), (212, .iload 5, 0, 0, 0, []), (214, .invokevirtual 93, 130, 3, 1, [(0, 1028)]), (217, .iastore, 0, 0, 0, []), (218, .iinc 5 1, 0, 0, 0, []), (221, .goto (-87), 134, 0, 0, []), (224, .aload_n 0, 0, 0, 0, []), (225, .getfield 16, 11, 2, 1, [(0, 898)]), (228, .iload_n 2, 0, 0, 0, []), (229, .aload_n 0, 0, 0, 0, []), (230, .getfield 16, 11, 2, 1, [(0, 898)]), (233, .iload_n 1, 0, 0, 0, []), (234, .iaload, 0, 0, 0, []), (235, .iastore, 0, 0, 0, []), (236, .iconst 0, 0, 0, 0, []), (237, .istore 5, 0, 0, 0, []), (239, .iload 5, 0, 0, 0, []), (241, .aload_n 0, 0, 0, 0, []), (242, .iload_n 2, 0, 0, 0, []), (243, .invokevirtual 89, 129, 2, 1, [(0, 999)]), (246, .if_icmp .gt 33, 279, 0, 0, []), (249, .aload_n 0, 0, 0, 0, []), (250, .getfield 19, 11, 3, 1, [(0, 899)]), (253, .sipush 128, 0, 0, 0, []), (256, .iload_n 2, 0, 0, 0, []), (257, .imul, 0, 0, 0, []), (258, .iload 5, 0, 0, 0, []), (260, .iadd, 0, 0, 0, []), (261, .aload_n 0, 0, 0, 0, []), (262, .getfield 19, 11, 3, 1, [(0, 899)]), (265, .sipush 1664, 0, 0, 0, []), (268, .iload 5, 0, 0, 0, []), (270, .iadd, 0, 0, 0, []), (271, .iaload, 0, 0, 0, []), (272, .iastore, 0, 0, 0, []), (273, .iinc 5 1, 0, 0, 0, []), (276, .goto (-37), 239, 0, 0, []), (279, .iconst 1, 0, 0, 0, []), (280, .ireturn, 0, 0, 0, [])]
abbrev mX11_renumber : am_M := (yX11_renumber, cX11_renumber, 8, some .int, 11, am_lk tbX11_renumber)
def tbX11_areSame : List (Nat × am_I) := [(0, .aload_n 0, 0, 0, 0, []), (1, .getfield 16, 11, 2, 1, [(0, 898)]), (4, .iload_n 1, 0, 0, 0, []), (5, .iaload, 0, 0, 0, []), (6, .aload_n 0, 0, 0, 0, []), (7, .getfield 16, 11, 2, 1, [(0, 898)]), (10, .iload_n 2, 0, 0, 0, []), (11, .iaload, 0, 0, 0, []), (12, .if_icmp .ne 7, 19, 0, 0, []), (15, .iconst 1, 0, 0, 0, []), (16, .goto 4, 20, 0, 0, []), (19, .iconst 0, 0, 0, 0, []), (20, .istore_n 3, 0, 0, 0, []), (21, .iconst 0, 0, 0, 0, []), (22, .istore 4, 0, 0, 0, []), (24, .iload 4, 0, 0, 0, []), (26, .aload_n 0, 0, 0, 0, []), (27, .iload_n 1, 0, 0, 0, []), (28, .invokevirtual 89, 129, 2, 1, [(0, 999)]), (31, .if_icmp .gt 36, 67, 0, 0, []), (34, .iload_n 3, 0, 0, 0, []), (35, .ifCond .eq 32, 67, 0, 0, []), (38, .aload_n 0, 0, 0, 0, []), (39, .iload_n 1, 0, 0, 0, []), (40, .iload 4, 0, 0, 0, []), (42, .invokevirtual 93, 130, 3, 1, [(0, 1028)]), (45, .aload_n 0, 0, 0, 0, []), (46, .iload_n 2, 0, 0, 0, []), (47, .iload 4, 0, 0, 0, []), (49, .invokevirtual 93, 130, 3, 1, [(0, 1028)]), (52, .if_icmp .ne 7, 59, 0, 0, []), (55, .iconst 1, 0, 0, 0, []), (56, .goto 4, 60, 0, 0, []), (59, .iconst 0, 0, 0, 0, []), (60, .istore_n 3, 0, 0, 0, []), (61, .iinc 4 1, 0, 0, 0, []), (64, .goto (-40), 24, 0, 0, []), (67, .iload_n 3, 0, 0, 0, []), (68, .ireturn, 0, 0, 0, [])]
abbrev mX11_areSame : am_M := (yX11_areSame, cX11_areSame, 5, some .boolean, 11, am_lk tbX11_areSame)
def tbX11_same : List (Nat × am_I) := [(0, .iload_n 1, 0, 0, 0, []), (1, .invokestatic 97, 128, 1, 1, [(0, 996)]), (4, .ifCond .eq 10, 14, 0, 0, []), (7, .iload_n 2, 0, 0, 0, []), (8, .invokestatic 97, 128, 1, 1, [(0, 996)]), (11, .ifCond .ne 8, 19, 0, 0, []), (14, .bipush (-2), 0, 0, 0, []), (16, .goto 17, 33, 0, 0, []), (19, .aload_n 0, 0, 0, 0, []), (20, .iload_n 1, 0, 0, 0, []), (21, .iload_n 2, 0, 0, 0, []), (22, .invokevirtual 158, 161, 3, 1, [(0, 1131)]), (25, .ifCond .eq 7, 32, 0, 0, []), (28, .iconst 1, 0, 0, 0, []), (29, .goto 4, 33, 0, 0, []), (32, .iconst 0, 0, 0, 0, []), (33, .ireturn, 0, 0, 0, [])]
abbrev mX11_same : am_M := (yX11_same, cX11_same, 3, some .int, 11, am_lk tbX11_same)
def tbX11_fits : List (Nat × am_I) := [(0, .iload_n 3, 0, 0, 0, []), (1, .aload_n 0, 0, 0, 0, []), (2, .getfield 16, 11, 2, 1, [(0, 898)]), (5, .iload_n 1, 0, 0, 0, []), (6, .iaload, 0, 0, 0, []), (7, .if_icmp .ne 5, 12, 0, 0, []), (10, .iconst 1, 0, 0, 0, []), (11, .ireturn, 0, 0, 0, []), (12, .iconst 0, 0, 0, 0, []), (13, .istore 5, 0, 0, 0, []), (15, .iload 5, 0, 0, 0, []), (17, .aload_n 0, 0, 0, 0, []), (18, .getfield 16, 11, 2, 1, [(0, 898)]), (21, .iload_n 1, 0, 0, 0, []), (22, .iaload, 0, 0, 0, []), (23, .if_icmp .ge 153, 176, 0, 0, []), (26, .iload 4, 0, 0, 0, []), (28, .iload 5, 0, 0, 0, []), (30, .invokestatic 103, 120, 2, 1, [(0, 1021)]), (33, .ifCond .eq 6, 39, 0, 0, []), (36, .goto 134, 170, 0, 0, []), (39, .aload_n 0, 0, 0, 0, []), (40, .getfield 31, 11, 7, 1, [(0, 903)]), (43, .iload_n 3, 0, 0, 0, []), (44, .iload 5, 0, 0, 0, []), (46, .iastore, 0, 0, 0, []), (47, .iconst 1, 0, 0, 0, []), (48, .istore 6, 0, 0, 0, []), (50, .iconst 1, 0, 0, 0, []), (51, .iload_n 3, 0, 0, 0, []), (52, .ishl, 0, 0, 0, []), (53, .istore 7, 0, 0, 0, []), (55, .iload 7, 0, 0, 0, []), (57, .iconst 2, 0, 0, 0, []), (58, .iload_n 3, 0, 0, 0, []), (59, .ishl, 0, 0, 0, []), (60, .if_icmp .ge 84, 144, 0, 0, []), (63, .iload 6, 0, 0, 0, []), (65, .ifCond .eq 79, 144, 0, 0, []), (68, .iconst 0, 0, 0, 0, []), (69, .istore 8, 0, 0, 0, []), (71, .iconst 0, 0, 0, 0, []), (72, .istore 9, 0, 0, 0, []), (74, .iload 9, 0, 0, 0, []), (76, .iload_n 3, 0, 0, 0, []), (77, .if_icmp .gt 37, 114, 0, 0, []), (80, .iload 8, 0, 0, 0, []), (82, .iload 7, 0, 0, 0, []), (84, .iload 9, 0, 0, 0, []), (86, .invokestatic 103, 120, 2, 1, [(0, 1021)]), (89, .ifCond .eq 15, 104, 0, 0, []), (92, .iconst 1, 0, 0, 0, []), (93, .aload_n 0, 0, 0, 0, []), (94, .getfield 31, 11, 7, 1, [(0, 903)]), (97, .iload 9, 0, 0, 0, []), (99, .iaload, 0, 0, 0, []), (100, .ishl, 0, 0, 0, []), (101, .goto 4, 105, 0, 0, []), (104, .iconst 0, 0, 0, 0, []), (105, .ior, 0, 0, 0, []), (106, .istore 8, 0, 0, 0, []), (108, .iinc 9 1, 0, 0, 0, []), (111, .goto (-37), 74, 0, 0, []), (114, .aload_n 0, 0, 0, 0, []), (115, .iload_n 1, 0, 0, 0, []), (116, .iload 7, 0, 0, 0, []), (118, .invokevirtual 93, 130, 3, 1, [(0, 1028)]), (121, .aload_n 0, 0, 0, 0, []), (122, .iload_n 2, 0, 0, 0, []), (123, .iload 8, 0, 0, 0, []), (125, .invokevirtual 93, 130, 3, 1, [(0, 1028)]), (128, .if_icmp .ne 7, 135, 0, 0, []), (131, .iconst 1, 0, 0, 0, []), (132, .goto 4, 136, 0, 0, []), (135, .iconst 0, 0, 0, 0, []), (136, .istore 6, 0, 0, 0, []), (138, .iinc 7 1, 0, 0, 0, []), (141, .goto (-86), 55, 0, 0, []), (144, .iload 6, 0, 0, 0, []), (146, .ifCond .eq 24, 170, 0, 0, []), (149, .aload_n 0, 0, 0, 0, []), (150, .iload_n 1, 0, 0, 0, []), (151, .iload_n 2, 0, 0, 0, []), (152, .iload_n 3, 0, 0, 0, []), (153, .iconst 1, 0, 0, 0, []), (154, .iadd, 0, 0, 0, []), (155, .iload 4, 0, 0, 0, []), (157, .iconst 1, 0, 0, 0, []), (158, .iload 5, 0, 0, 0, []), (160, .ishl, 0, 0, 0, []), (161, .ior, 0, 0, 0, []), (162, .invokevirtual 161, 163, 5, 1, [(0, 1139)]), (165, .ifCond .eq 5, 170, 0, 0, []), (168, .iconst 1, 0, 0, 0, []), (169, .ireturn, 0, 0, 0, []), (170, .iinc 5 1, 0, 0, 0, []), (173, .goto (-158), 15, 0, 0, []), (176, .iconst 0, 0, 0, 0, []), (177, .ireturn, 0, 0, 0, [])]
abbrev mX11_fits : am_M := (yX11_fits, cX11_fits, 10, some .boolean, 11, am_lk tbX11_fits)
def tbX11_alike : List (Nat × am_I) := [(0, .iload_n 1, 0, 0, 0, []), (1, .invokestatic 97, 128, 1, 1, [(0, 996)]), (4, .ifCond .eq 10, 14, 0, 0, []), (7, .iload_n 2, 0, 0, 0, []), (8, .invokestatic 97, 128, 1, 1, [(0, 996)]), (11, .ifCond .ne 6, 17, 0, 0, []), (14, .bipush (-2), 0, 0, 0, []), (16, .ireturn, 0, 0, 0, []), (17, .aload_n 0, 0, 0, 0, []), (18, .getfield 16, 11, 2, 1, [(0, 898)]), (21, .iload_n 1, 0, 0, 0, []), (22, .iaload, 0, 0, 0, []), (23, .bipush 6, 0, 0, 0, []), (25, .if_icmp .le 17, 42, 0, 0, []), (28, .aload_n 0, 0, 0, 0, []), (29, .getfield 16, 11, 2, 1, [(0, 898)]), (32, .iload_n 2, 0, 0, 0, []), (33, .iaload, 0, 0, 0, []), (34, .bipush 6, 0, 0, 0, []), (36, .if_icmp .le 6, 42, 0, 0, []), (39, .bipush (-5), 0, 0, 0, []), (41, .ireturn, 0, 0, 0, []), (42, .aload_n 0, 0, 0, 0, []), (43, .getfield 16, 11, 2, 1, [(0, 898)]), (46, .iload_n 1, 0, 0, 0, []), (47, .iaload, 0, 0, 0, []), (48, .aload_n 0, 0, 0, 0, []), (49, .getfield 16, 11, 2, 1, [(0, 898)]), (52, .iload_n 2, 0, 0, 0, []), (53, .iaload, 0, 0, 0, []), (54, .if_icmp .ne 18, 72, 0, 0, []), (57, .aload_n 0, 0, 0, 0, []), (58, .iload_n 1, 0, 0, 0, []), (59, .iload_n 2, 0, 0, 0, []), (60, .iconst 0, 0, 0, 0, []), (61, .iconst 0, 0, 0, 0, []), (62, .invokevirtual 161, 163, 5, 1, [(0, 1139)]), (65, .ifCond .eq 7, 72, 0, 0, []), (68, .iconst 1, 0, 0, 0, []), (69, .goto 4, 73, 0, 0, []), (72, .iconst 0, 0, 0, 0, []), (73, .ireturn, 0, 0, 0, [])]
abbrev mX11_alike : am_M := (yX11_alike, cX11_alike, 3, some .int, 11, am_lk tbX11_alike)
def tbX11_firstBase : List (Nat × am_I) := [(0, .iconst 0, 0, 0, 0, []), (1, .istore_n 2, 0, 0, 0, []), (2, .aload_n 0, 0, 0, 0, []), (3, .iload_n 1, 0, 0, 0, []), (4, .iload_n 2, 0, 0, 0, []), (5, .iconst 2, 0, 0, 0, []), (6, .invokevirtual 138, 147, 4, 1, [(0, 1072)]), (9, .ifCond .ne 9, 18, 0, 0, []), (12, .iinc 2 1, 0, 0, 0, []), (15, .goto (-13), 2, 0, 0, []), (18, .iload_n 2, 0, 0, 0, []), (19, .ireturn, 0, 0, 0, [])]
abbrev mX11_firstBase : am_M := (yX11_firstBase, cX11_firstBase, 3, some .int, 11, am_lk tbX11_firstBase)
def tbX11_joins : List (Nat × am_I) := [(0, .aload_n 0, 0, 0, 0, []), (1, .getfield 40, 11, 10, 1, [(0, 906)]), (4, .iload_n 1, 0, 0, 0, []), (5, .iaload, 0, 0, 0, []), (6, .istore_n 3, 0, 0, 0, []), (7, .aload_n 0, 0, 0, 0, []), (8, .getfield 40, 11, 10, 1, [(0, 906)]), (11, .iload_n 2, 0, 0, 0, []), (12, .iaload, 0, 0, 0, []), (13, .istore 4, 0, 0, 0, []), (15, .iconst 0, 0, 0, 0, []), (16, .istore 5, 0, 0, 0, []), (18, .iload 5, 0, 0, 0, []), (20, .bipush 14, 0, 0, 0, []), (22, .if_icmp .ge 39, 61, 0, 0, []), (25, .aload_n 0, 0, 0, 0, []), (26, .getfield 40, 11, 10, 1, [(0, 906)]), (29, .iload 5, 0, 0, 0, []), (31, .aload_n 0, 0, 0, 0, []), (32, .getfield 40, 11, 10, 1, [(0, 906)]), (35, .iload 5, 0, 0, 0, []), (37, .iaload, 0, 0, 0, []), (38, .iload_n 3, 0, 0, 0, []), (39, .if_icmp .ne 8, 47, 0, 0, []), (42, .iload 4, 0, 0, 0, []), (44, .goto 10, 54, 0, 0, []), (47, .aload_n 0, 0, 0, 0, []), (48, .getfield 40, 11, 10, 1, [(0, 906)]), (51, .iload 5, 0, 0, 0, []), (53, .iaload, 0, 0, 0, []), (54, .iastore, 0, 0, 0, []), (55, .iinc 5 1, 0, 0, 0, []), (58, .goto (-40), 18, 0, 0, []), (61, .return_, 0, 0, 0, [])]
abbrev mX11_joins : am_M := (yX11_joins, cX11_joins, 6, none, 11, am_lk tbX11_joins)
def tbX11_laysPattern : List (Nat × am_I) := [(0, .aload_n 0, 0, 0, 0, []), (1, .iload_n 1, 0, 0, 0, []), (2, .invokevirtual 164, 165, 2, 1, [(0, 1156)]), (5, .istore_n 2, 0, 0, 0, []), (6, .aload_n 0, 0, 0, 0, []), (7, .iconst 0, 0, 0, 0, []), (8, .putfield 167, 11, 13, 0, [(0, 909)]), (11, .iconst 0, 0, 0, 0, []), (12, .istore_n 3, 0, 0, 0, []), (13, .iload_n 3, 0, 0, 0, []), (14, .aload_n 0, 0, 0, 0, []), (15, .getfield 16, 11, 2, 1, [(0, 898)]), (18, .iload_n 1, 0, 0, 0, []), (19, .iaload, 0, 0, 0, []), (20, .if_icmp .ge 40, 60, 0, 0, []), (23, .iload_n 2, 0, 0, 0, []), (24, .iload_n 3, 0, 0, 0, []), (25, .invokestatic 103, 120, 2, 1, [(0, 1021)]), (28, .ifCond .ne 6, 34, 0, 0, []), (31, .goto 23, 54, 0, 0, []), (34, .aload_n 0, 0, 0, 0, []), (35, .getfield 34, 11, 8, 1, [(0, 904)]), (38, .aload_n 0, 0, 0, 0, []), (39, .getfield 167, 11, 13, 0, [(0, 909)]), (42, .iload_n 3, 0, 0, 0, []), (43, .iastore, 0, 0, 0, []), (44, .aload_n 0, 0, 0, 0, []), (45, .dup, 0, 0, 0, []), (46, .getfield 167, 11, 13, 0, [(0, 909)]), (49, .iconst 1, 0, 0, 0, []), (50, .iadd, 0, 0, 0, []), (51, .putfield 167, 11, 13, 0, [(0, 909)]), (54, .iinc 3 1, 0, 0, 0, []), (57, .goto (-44), 13, 0, 0, []), (60, .iconst 0, 0, 0, 0, []), (61, .istore_n 3, 0, 0, 0, []), (62, .iload_n 3, 0, 0, 0, []), (63, .bipush 14, 0, 0, 0, []), (65, .if_icmp .ge 16, 81, 0, 0, []), (68, .aload_n 0, 0, 0, 0, []), (69, .getfield 40, 11, 10, 1, [(0, 906)]), (72, .iload_n 3, 0, 0, 0, []), (73, .iload_n 3, 0, 0, 0, []), (74, .iastore, 0, 0, 0, []), (75, .iinc 3 1, 0, 0, 0, []), (78, .goto (-16), 62, 0, 0, []), (81, .aload_n 0, 0, 0, 0, []), (82, .iconst 0, 0, 0, 0, []), (83, .putfield 170, 11, 14, 0, [(0, 910)]), (86, .iconst 0, 0, 0, 0, []), (87, .istore_n 3, 0, 0, 0, []), (88, .iload_n 3, 0, 0, 0, []), (89, .aload_n 0, 0, 0, 0, []), (90, .getfield 16, 11, 2, 1, [(0, 898)]), (93, .iload_n 1, 0, 0, 0, []), (94, .iaload, 0, 0, 0, []), (95, .if_icmp .ge 177, 272, 0, 0, []), (98, .iconst 0, 0, 0, 0, []), (99, .istore 4, 0, 0, 0, []), (101, .iload 4, 0, 0, 0, []), (103, .bipush 7, 0, 0, 0, []), (105, .if_icmp .ge 161, 266, 0, 0, []), (108, .iload 4, 0, 0, 0, []), (110, .aload_n 0, 0, 0, 0, []), (111, .getfield 167, 11, 13, 0, [(0, 909)]), (114, .if_icmp .ge 55, 169, 0, 0, []), (117, .iload_n 2, 0, 0, 0, []), (118, .iload_n 3, 0, 0, 0, []), (119, .invokestatic 103, 120, 2, 1, [(0, 1021)]), (122, .ifCond .eq 17, 139, 0, 0, []), (125, .aload_n 0, 0, 0, 0, []), (126, .getfield 34, 11, 8, 1, [(0, 904)]), (129, .iload 4, 0, 0, 0, []), (131, .iaload, 0, 0, 0, []), (132, .iload_n 3, 0, 0, 0, []), (133, .if_icmp .ne 36, 169, 0, 0, []), (136, .goto 29, 165, 0, 0, []), (139, .aload_n 0, 0, 0, 0, []), (140, .iload_n 1, 0, 0, 0, []), (141, .iload_n 2, 0, 0, 0, []), (142, .iconst 1, 0, 0, 0, []), (143, .aload_n 0, 0, 0, 0, []), (144, .getfield 34, 11, 8, 1, [(0, 904)]), (147, .iload 4, 0, 0, 0, []), (149, .iaload, 0, 0, 0, []), (150, .ishl, 0, 0, 0, []), (151, .iconst (-1), 0, 0, 0, []), (152, .ixor, 0, 0, 0, []), (153, .iand, 0, 0, 0, []), (154, .iconst 1, 0, 0, 0, []), (155, .iload_n 3, 0, 0, 0, []), (156, .ishl, 0, 0, 0, []), (157, .ior, 0, 0, 0, []), (158, .iconst 2, 0, 0, 0, []), (159, .invokevirtual 138, 147, 4, 1, [(0, 1072)]), (162, .ifCond .eq 7, 169, 0, 0, []), (165, .iconst 1, 0, 0, 0, []), (166, .goto 4, 170, 0, 0, []), (169, .iconst 0, 0, 0, 0, []), (170, .istore 5, 0, 0, 0, []), (172, .aload_n 0, 0, 0, 0, []), (173, .getfield 22, 11, 4, 1, [(0, 900)]), (176, .bipush 7, 0, 0, 0, []), (178, .iload_n 3, 0, 0, 0, []), (179, .imul, 0, 0, 0, []), (180, .iload 4, 0, 0, 0, []), (182, .iadd, 0, 0, 0, []), (183, .iload 5, 0, 0, 0, []), (185, .ifCond .eq 7, 192, 0, 0, []), (188, .iconst 1, 0, 0, 0, []), (189, .goto 4, 193, 0, 0, []), (192, .iconst 0, 0, 0, 0, []), (193, .iastore, 0, 0, 0, []), (194, .iload 5, 0, 0, 0, []), (196, .ifCond .ne 6, 202, 0, 0, []), (199, .goto 61, 260, 0, 0, []), (202, .aload_n 0, 0, 0, 0, []), (203, .getfield 40, 11, 10, 1, [(0, 906)]), (206, .iload 4, 0, 0, 0, []), (208, .iaload, 0, 0, 0, []), (209, .aload_n 0, 0, 0, 0, []), (210, .getfield 40, 11, 10, 1, [(0, 906)]), (213, .bipush 7, 0, 0, 0, []), (215, .iload_n 3, 0, 0, 0, []), (216, .iadd, 0, 0, 0, []), (217, .iaload, 0, 0, 0, []), (218, .if_icmp .ne 32, 250, 0, 0, []), (221, .aload_n 0, 0, 0, 0, []), (222, .getfield 43, 11, 11, 1, [(0, 907)]), (225, .aload_n 0, 0, 0, 0, []), (226, .getfield 170, 11, 14, 0, [(0, 910)]), (229, .bipush 7, 0, 0, 0, []), (231, .iload_n 3, 0, 0, 0, []), (232, .imul, 0, 0, 0, []), (233, .iload 4, 0, 0, 0, []), (235, .iadd, 0, 0, 0, []), (236, .iastore, 0, 0, 0, []), (237, .aload_n 0, 0, 0, 0, []), (238, .dup, 0, 0, 0, []), (239, .getfield 170, 11, 14, 0, [(0, 910)]), (242, .iconst 1, 0, 0, 0, []), (243, .iadd, 0, 0, 0, []), (244, .putfield 170, 11, 14, 0, [(0, 910)]), (247, .goto 13, 260, 0, 0, []), (250, .aload_n 0, 0, 0, 0, []), (251, .iload 4, 0, 0, 0, []), (253, .bipush 7, 0, 0, 0, []), (255, .iload_n 3, 0, 0, 0, []), (256, .iadd, 0, 0, 0, []), (257, .invokevirtual 173, 166, 3, 0, [(0, 1160)]), (260, .iinc 4 1, 0, 0, 0, []), (263, .goto (-162), 101, 0, 0, []), (266, .iinc 3 1, 0, 0, 0, []), (269, .goto (-181), 88, 0, 0, []), (272, .return_, 0, 0, 0, [])]
abbrev mX11_laysPattern : am_M := (yX11_laysPattern, cX11_laysPattern, 6, none, 11, am_lk tbX11_laysPattern)
def tbX11_isWriting : List (Nat × am_I) := [(0, .iconst 1, 0, 0, 0, []), (1, .istore_n 3, 0, 0, 0, []), (2, .iconst 0, 0, 0, 0, []), (3, .istore 4, 0, 0, 0, []), (5, .iload 4, 0, 0, 0, []), (7, .aload_n 0, 0, 0, 0, []), (8, .iload_n 1, 0, 0, 0, []), (9, .invokevirtual 89, 129, 2, 1, [(0, 999)]), (12, .if_icmp .gt 72, 84, 0, 0, []), (15, .iload_n 3, 0, 0, 0, []), (16, .ifCond .eq 68, 84, 0, 0, []), (19, .iload 4, 0, 0, 0, []), (21, .invokestatic 100, 121, 1, 1, [(0, 1003)]), (24, .aload_n 0, 0, 0, 0, []), (25, .getfield 167, 11, 13, 0, [(0, 909)]), (28, .if_icmp .ne 44, 72, 0, 0, []), (31, .aload_n 0, 0, 0, 0, []), (32, .iload_n 2, 0, 0, 0, []), (33, .iload 4, 0, 0, 0, []), (35, .invokevirtual 107, 134, 3, 1, [(0, 1017)]), (38, .aload_n 0, 0, 0, 0, []), (39, .getfield 167, 11, 13, 0, [(0, 909)]), (42, .if_icmp .ne 7, 49, 0, 0, []), (45, .iconst 1, 0, 0, 0, []), (46, .goto 4, 50, 0, 0, []), (49, .iconst 0, 0, 0, 0, []), (50, .aload_n 0, 0, 0, 0, []), (51, .iload_n 1, 0, 0, 0, []), (52, .iload 4, 0, 0, 0, []), (54, .invokevirtual 93, 130, 3, 1, [(0, 1028)]), (57, .aload_n 0, 0, 0, 0, []), (58, .getfield 167, 11, 13, 0, [(0, 909)]), (61, .if_icmp .ne 7, 68, 0, 0, []), (64, .iconst 1, 0, 0, 0, []), (65, .goto 4, 69, 0, 0, []), (68, .iconst 0, 0, 0, 0, []), (69, .if_icmp .ne 7, 76, 0, 0, []), (72, .iconst 1, 0, 0, 0, []), (73, .goto 4, 77, 0, 0, []), (76, .iconst 0, 0, 0, 0, []), (77, .istore_n 3, 0, 0, 0, []), (78, .iinc 4 1, 0, 0, 0, []), (81, .goto (-76), 5, 0, 0, []), (84, .iload_n 3, 0, 0, 0, []), (85, .ireturn, 0, 0, 0, [])]
abbrev mX11_isWriting : am_M := (yX11_isWriting, cX11_isWriting, 5, some .boolean, 11, am_lk tbX11_isWriting)
def tbX11_goesOn : List (Nat × am_I) := [(0, .aload_n 0, 0, 0, 0, []), (1, .getfield 170, 11, 14, 0, [(0, 910)]), (4, .iconst 1, 0, 0, 0, []), (5, .isub, 0, 0, 0, []), (6, .istore_n 2, 0, 0, 0, []), (7, .iload_n 2, 0, 0, 0, []), (8, .ifCond .lt 43, 51, 0, 0, []), (11, .aload_n 0, 0, 0, 0, []), (12, .getfield 22, 11, 4, 1, [(0, 900)]), (15, .aload_n 0, 0, 0, 0, []), (16, .getfield 43, 11, 11, 1, [(0, 907)]), (19, .iload_n 2, 0, 0, 0, []), (20, .iaload, 0, 0, 0, []), (21, .iaload, 0, 0, 0, []), (22, .aload_n 0, 0, 0, 0, []), (23, .getfield 7, 11, 0, 1, [(0, 896)]), (26, .iload_n 1, 0, 0, 0, []), (27, .iaload, 0, 0, 0, []), (28, .iconst 1, 0, 0, 0, []), (29, .isub, 0, 0, 0, []), (30, .if_icmp .ne 21, 51, 0, 0, []), (33, .aload_n 0, 0, 0, 0, []), (34, .getfield 22, 11, 4, 1, [(0, 900)]), (37, .aload_n 0, 0, 0, 0, []), (38, .getfield 43, 11, 11, 1, [(0, 907)]), (41, .iload_n 2, 0, 0, 0, []), (42, .iaload, 0, 0, 0, []), (43, .iconst 1, 0, 0, 0, []), (44, .iastore, 0, 0, 0, []), (45, .iinc 2 (-1), 0, 0, 0, []), (48, .goto (-41), 7, 0, 0, []), (51, .iload_n 2, 0, 0, 0, []), (52, .ifCond .ge 5, 57, 0, 0, []), (55, .iconst 0, 0, 0, 0, []), (56, .ireturn, 0, 0, 0, []), (57, .aload_n 0, 0, 0, 0, []), (58, .getfield 22, 11, 4, 1, [(0, 900)]), (61, .aload_n 0, 0, 0, 0, []), (62, .getfield 43, 11, 11, 1, [(0, 907)]), (65, .iload_n 2, 0, 0, 0, []), (66, .iaload, 0, 0, 0, []), (67, .dup2, 0, 0, 0, []), (68, .iaload, 0, 0, 0, []), (69, .iconst 1, 0, 0, 0, []), (70, .iadd, 0, 0, 0, []), (71, .iastore, 0, 0, 0, []), (72, .iconst 1, 0, 0, 0, []), (73, .ireturn, 0, 0, 0, [])]
abbrev mX11_goesOn : am_M := (yX11_goesOn, cX11_goesOn, 3, some .boolean, 11, am_lk tbX11_goesOn)
def tbX11_writingsOf : List (Nat × am_I) := [(0, .aload_n 0, 0, 0, 0, []), (1, .iload_n 1, 0, 0, 0, []), (2, .invokevirtual 176, 167, 2, 0, [(0, 1152)]), (5, .iconst 0, 0, 0, 0, []), (6, .istore 4, 0, 0, 0, []), (8, .iconst 1, 0, 0, 0, []), (9, .istore 5, 0, 0, 0, []), (11, .iload 5, 0, 0, 0, []), (13, .ifCond .eq 66, 79, 0, 0, []), (16, .iload 4, 0, 0, 0, []), (18, .iload_n 3, 0, 0, 0, []), (19, .if_icmp .ge 60, 79, 0, 0, []), (22, .aload_n 0, 0, 0, 0, []), (23, .iload_n 1, 0, 0, 0, []), (24, .iload_n 2, 0, 0, 0, []), (25, .invokevirtual 180, 168, 3, 1, [(0, 1164)]), (28, .ifCond .eq 41, 69, 0, 0, []), (31, .iload 4, 0, 0, 0, []), (33, .ifCond .ne 33, 66, 0, 0, []), (36, .iconst 0, 0, 0, 0, []), (37, .istore 6, 0, 0, 0, []), (39, .iload 6, 0, 0, 0, []), (41, .bipush 49, 0, 0, 0, []), (43, .if_icmp .ge 23, 66, 0, 0, []), (46, .aload_n 0, 0, 0, 0, []), (47, .getfield 46, 11, 12, 1, [(0, 908)]), (50, .iload 6, 0, 0, 0, []), (52, .aload_n 0, 0, 0, 0, []), (53, .getfield 22, 11, 4, 1, [(0, 900)]), (56, .iload 6, 0, 0, 0, []), (58, .iaload, 0, 0, 0, []), (59, .iastore, 0, 0, 0, []), (60, .iinc 6 1, 0, 0, 0, []), (63, .goto (-24), 39, 0, 0, []), (66, .iinc 4 1, 0, 0, 0, []), (69, .aload_n 0, 0, 0, 0, []), (70, .iload_n 2, 0, 0, 0, []), (71, .invokevirtual 183, 169, 2, 1, [(0, 1168)]), (74, .istore 5, 0, 0, 0, []), (76, .goto (-65), 11, 0, 0, []), (79, .iload 4, 0, 0, 0, []), (81, .ireturn, 0, 0, 0, [])]
abbrev mX11_writingsOf : am_M := (yX11_writingsOf, cX11_writingsOf, 7, some .int, 11, am_lk tbX11_writingsOf)
def tbX11_writings : List (Nat × am_I) := [(0, .iload_n 1, 0, 0, 0, []), (1, .invokestatic 97, 128, 1, 1, [(0, 996)]), (4, .ifCond .eq 21, 25, 0, 0, []), (7, .iload_n 2, 0, 0, 0, []), (8, .invokestatic 76, 126, 1, 1, [(0, 970)]), (11, .ifCond .eq 14, 25, 0, 0, []), (14, .aload_n 0, 0, 0, 0, []), (15, .iload_n 1, 0, 0, 0, []), (16, .iload_n 2, 0, 0, 0, []), (17, .ldc 186, 1048576, 0, 0, [(0, 1147)]), (19, .invokevirtual 187, 170, 4, 1, [(0, 1148)]), (22, .goto 5, 27, 0, 0, []), (25, .bipush (-2), 0, 0, 0, []), (27, .ireturn, 0, 0, 0, [])]
abbrev mX11_writings : am_M := (yX11_writings, cX11_writings, 3, some .int, 11, am_lk tbX11_writings)
def tbX11_writes : List (Nat × am_I) := [(0, .iload_n 1, 0, 0, 0, []), (1, .invokestatic 97, 128, 1, 1, [(0, 996)]), (4, .ifCond .eq 17, 21, 0, 0, []), (7, .iload_n 2, 0, 0, 0, []), (8, .invokestatic 76, 126, 1, 1, [(0, 970)]), (11, .ifCond .eq 10, 21, 0, 0, []), (14, .iload_n 3, 0, 0, 0, []), (15, .invokestatic 113, 187, 1, 1, [(0, 1010)]), (18, .ifCond .ne 6, 24, 0, 0, []), (21, .bipush (-2), 0, 0, 0, []), (23, .ireturn, 0, 0, 0, []), (24, .aload_n 0, 0, 0, 0, []), (25, .iload_n 1, 0, 0, 0, []), (26, .iload_n 2, 0, 0, 0, []), (27, .iconst 1, 0, 0, 0, []), (28, .invokevirtual 187, 170, 4, 1, [(0, 1148)]), (31, .ifCond .ne 5, 36, 0, 0, []), (34, .iconst (-1), 0, 0, 0, []), (35, .ireturn, 0, 0, 0, []), (36, .aload_n 0, 0, 0, 0, []), (37, .iload_n 3, 0, 0, 0, []), (38, .aload_n 0, 0, 0, 0, []), (39, .getfield 16, 11, 2, 1, [(0, 898)]), (42, .iload_n 1, 0, 0, 0, []), (43, .iaload, 0, 0, 0, []), (44, .invokevirtual 190, 188, 3, 0, [(0, 1176)]), (47, .iconst 0, 0, 0, 0, []), (48, .istore 4, 0, 0, 0, []), (50, .iload 4, 0, 0, 0, []), (52, .aload_n 0, 0, 0, 0, []), (53, .getfield 16, 11, 2, 1, [(0, 898)]), (56, .iload_n 1, 0, 0, 0, []), (57, .iaload, 0, 0, 0, []), (58, .if_icmp .ge 66, 124, 0, 0, []), (61, .iconst 0, 0, 0, 0, []), (62, .istore 5, 0, 0, 0, []), (64, .bipush 6, 0, 0, 0, []), (66, .istore 6, 0, 0, 0, []), (68, .iload 6, 0, 0, 0, []), (70, .ifCond .lt 34, 104, 0, 0, []), (73, .iload 5, 0, 0, 0, []), (75, .aload_n 0, 0, 0, 0, []), (76, .getfield 7, 11, 0, 1, [(0, 896)]), (79, .iload_n 2, 0, 0, 0, []), (80, .iaload, 0, 0, 0, []), (81, .imul, 0, 0, 0, []), (82, .aload_n 0, 0, 0, 0, []), (83, .getfield 46, 11, 12, 1, [(0, 908)]), (86, .bipush 7, 0, 0, 0, []), (88, .iload 4, 0, 0, 0, []), (90, .imul, 0, 0, 0, []), (91, .iload 6, 0, 0, 0, []), (93, .iadd, 0, 0, 0, []), (94, .iaload, 0, 0, 0, []), (95, .iadd, 0, 0, 0, []), (96, .istore 5, 0, 0, 0, []), (98, .iinc 6 (-1), 0, 0, 0, []), (101, .goto (-33), 68, 0, 0, []), (104, .aload_n 0, 0, 0, 0, []), (105, .getfield 65, 11, 20, 1, [(0, 916)]), (108, .bipush 64, 0, 0, 0, []), (110, .iload_n 3, 0, 0, 0, []), (111, .imul, 0, 0, 0, []), (112, .iload 4, 0, 0, 0, []), (114, .iadd, 0, 0, 0, []), (115, .iload 5, 0, 0, 0, []), (117, .iastore, 0, 0, 0, []), (118, .iinc 4 1, 0, 0, 0, []), (121, .goto (-71), 50, 0, 0, []), (124, .aload_n 0, 0, 0, 0, []), (125, .getfield 16, 11, 2, 1, [(0, 898)]), (128, .iload_n 1, 0, 0, 0, []), (129, .iaload, 0, 0, 0, []), (130, .ireturn, 0, 0, 0, [])]
abbrev mX11_writes : am_M := (yX11_writes, cX11_writes, 7, some .int, 11, am_lk tbX11_writes)
def tbX11_clash : List (Nat × am_I) := [(0, .iload_n 1, 0, 0, 0, []), (1, .invokestatic 97, 128, 1, 1, [(0, 996)]), (4, .ifCond .ne 6, 10, 0, 0, []), (7, .bipush (-2), 0, 0, 0, []), (9, .ireturn, 0, 0, 0, []), (10, .aload_n 0, 0, 0, 0, []), (11, .iload_n 1, 0, 0, 0, []), (12, .invokevirtual 176, 167, 2, 0, [(0, 1152)]), (15, .iconst 0, 0, 0, 0, []), (16, .istore_n 2, 0, 0, 0, []), (17, .iload_n 2, 0, 0, 0, []), (18, .aload_n 0, 0, 0, 0, []), (19, .iload_n 1, 0, 0, 0, []), (20, .invokevirtual 89, 129, 2, 1, [(0, 999)]), (23, .if_icmp .gt 26, 49, 0, 0, []), (26, .aload_n 0, 0, 0, 0, []), (27, .iconst 0, 0, 0, 0, []), (28, .iload_n 2, 0, 0, 0, []), (29, .invokevirtual 107, 134, 3, 1, [(0, 1017)]), (32, .aload_n 0, 0, 0, 0, []), (33, .iload_n 1, 0, 0, 0, []), (34, .iload_n 2, 0, 0, 0, []), (35, .invokevirtual 93, 130, 3, 1, [(0, 1028)]), (38, .if_icmp .eq 5, 43, 0, 0, []), (41, .iload_n 2, 0, 0, 0, []), (42, .ireturn, 0, 0, 0, []), (43, .iinc 2 1, 0, 0, 0, []), (46, .goto (-29), 17, 0, 0, []), (49, .iconst (-1), 0, 0, 0, []), (50, .ireturn, 0, 0, 0, [])]
abbrev mX11_clash : am_M := (yX11_clash, cX11_clash, 3, some .int, 11, am_lk tbX11_clash)
def tbX11_isAll : List (Nat × am_I) := [(0, .aload_n 0, 0, 0, 0, []), (1, .getfield 16, 11, 2, 1, [(0, 898)]), (4, .bipush 12, 0, 0, 0, []), (6, .iaload, 0, 0, 0, []), (7, .iload_n 1, 0, 0, 0, []), (8, .if_icmp .ne 17, 25, 0, 0, []), (11, .aload_n 0, 0, 0, 0, []), (12, .bipush 12, 0, 0, 0, []), (14, .invokevirtual 110, 131, 2, 1, [(0, 1024)]), (17, .iload_n 2, 0, 0, 0, []), (18, .if_icmp .ne 7, 25, 0, 0, []), (21, .iconst 1, 0, 0, 0, []), (22, .goto 4, 26, 0, 0, []), (25, .iconst 0, 0, 0, 0, []), (26, .istore_n 3, 0, 0, 0, []), (27, .iconst 0, 0, 0, 0, []), (28, .istore 4, 0, 0, 0, []), (30, .iload 4, 0, 0, 0, []), (32, .aload_n 0, 0, 0, 0, []), (33, .bipush 12, 0, 0, 0, []), (35, .invokevirtual 89, 129, 2, 1, [(0, 999)]), (38, .if_icmp .gt 39, 77, 0, 0, []), (41, .iload_n 3, 0, 0, 0, []), (42, .ifCond .eq 27, 69, 0, 0, []), (45, .iload 4, 0, 0, 0, []), (47, .invokestatic 100, 121, 1, 1, [(0, 1003)]), (50, .iload_n 2, 0, 0, 0, []), (51, .if_icmp .ne 14, 65, 0, 0, []), (54, .aload_n 0, 0, 0, 0, []), (55, .bipush 12, 0, 0, 0, []), (57, .iload 4, 0, 0, 0, []), (59, .invokevirtual 135, 146, 3, 1, [(0, 1076)]), (62, .ifCond .eq 7, 69, 0, 0, []), (65, .iconst 1, 0, 0, 0, []), (66, .goto 4, 70, 0, 0, []), (69, .iconst 0, 0, 0, 0, []), (70, .istore_n 3, 0, 0, 0, []), (71, .iinc 4 1, 0, 0, 0, []), (74, .goto (-44), 30, 0, 0, []), (77, .iload_n 3, 0, 0, 0, []), (78, .ireturn, 0, 0, 0, [])]
abbrev mX11_isAll : am_M := (yX11_isAll, cX11_isAll, 5, some .boolean, 11, am_lk tbX11_isAll)
def tbX11_isSevens : List (Nat × am_I) := [(0, .aload_n 0, 0, 0, 0, []), (1, .getfield 16, 11, 2, 1, [(0, 898)]), (4, .bipush 12, 0, 0, 0, []), (6, .iaload, 0, 0, 0, []), (7, .bipush 7, 0, 0, 0, []), (9, .if_icmp .ne 17, 26, 0, 0, []), (12, .aload_n 0, 0, 0, 0, []), (13, .bipush 12, 0, 0, 0, []), (15, .invokevirtual 110, 131, 2, 1, [(0, 1024)]), (18, .iconst 3, 0, 0, 0, []), (19, .if_icmp .ne 7, 26, 0, 0, []), (22, .iconst 1, 0, 0, 0, []), (23, .goto 4, 27, 0, 0, []), (26, .iconst 0, 0, 0, 0, []), (27, .istore_n 1, 0, 0, 0, []), (28, .iconst 0, 0, 0, 0, []), (29, .istore_n 2, 0, 0, 0, []), (30, .iconst 0, 0, 0, 0, []), (31, .istore_n 3, 0, 0, 0, []), (32, .iload_n 3, 0, 0, 0, []), (33, .aload_n 0, 0, 0, 0, []), (34, .bipush 12, 0, 0, 0, []), (36, .invokevirtual 89, 129, 2, 1, [(0, 999)]), (39, .if_icmp .gt 64, 103, 0, 0, []), (42, .iload_n 1, 0, 0, 0, []), (43, .ifCond .eq 25, 68, 0, 0, []), (46, .iload_n 3, 0, 0, 0, []), (47, .invokestatic 100, 121, 1, 1, [(0, 1003)]), (50, .iconst 2, 0, 0, 0, []), (51, .if_icmp .ne 13, 64, 0, 0, []), (54, .aload_n 0, 0, 0, 0, []), (55, .bipush 12, 0, 0, 0, []), (57, .iload_n 3, 0, 0, 0, []), (58, .invokevirtual 135, 146, 3, 1, [(0, 1076)]), (61, .ifCond .eq 7, 68, 0, 0, []), (64, .iconst 1, 0, 0, 0, []), (65, .goto 4, 69, 0, 0, []), (68, .iconst 0, 0, 0, 0, []), (69, .istore_n 1, 0, 0, 0, []), (70, .iload_n 2, 0, 0, 0, []), (71, .iload_n 3, 0, 0, 0, []), (72, .invokestatic 100, 121, 1, 1, [(0, 1003)]), (75, .iconst 3, 0, 0, 0, []), (76, .if_icmp .ne 18, 94, 0, 0, []), (79, .aload_n 0, 0, 0, 0, []), (80, .bipush 12, 0, 0, 0, []), (82, .iload_n 3, 0, 0, 0, []), (83, .iconst 3, 0, 0, 0, []), (84, .invokevirtual 138, 147, 4, 1, [(0, 1072)]), (87, .ifCond .eq 7, 94, 0, 0, []), (90, .iconst 1, 0, 0, 0, []), (91, .goto 4, 95, 0, 0, []), (94, .iconst 0, 0, 0, 0, []), (95, .iadd, 0, 0, 0, []), (96, .istore_n 2, 0, 0, 0, []), (97, .iinc 3 1, 0, 0, 0, []), (100, .goto (-68), 32, 0, 0, []), (103, .iload_n 1, 0, 0, 0, []), (104, .ifCond .eq 13, 117, 0, 0, []), (107, .iload_n 2, 0, 0, 0, []), (108, .bipush 7, 0, 0, 0, []), (110, .if_icmp .ne 7, 117, 0, 0, []), (113, .iconst 1, 0, 0, 0, []), (114, .goto 4, 118, 0, 0, []), (117, .iconst 0, 0, 0, 0, []), (118, .istore_n 1, 0, 0, 0, []), (119, .iconst 0, 0, 0, 0, []), (120, .istore_n 3, 0, 0, 0, []), (121, .iload_n 3, 0, 0, 0, []), (122, .aload_n 0, 0, 0, 0, []), (123, .bipush 12, 0, 0, 0, []), (125, .invokevirtual 89, 129, 2, 1, [(0, 999)]), (128, .if_icmp .gt 41, 169, 0, 0, []), (131, .iload_n 1, 0, 0, 0, []), (132, .ifCond .eq 29, 161, 0, 0, []), (135, .iload_n 3, 0, 0, 0, []), (136, .invokestatic 100, 121, 1, 1, [(0, 1003)]), (139, .iconst 2, 0, 0, 0, []), (140, .if_icmp .ne 17, 157, 0, 0, []), (143, .aload_n 0, 0, 0, 0, []), (144, .bipush 12, 0, 0, 0, []), (146, .iload_n 3, 0, 0, 0, []), (147, .invokevirtual 132, 144, 3, 1, [(0, 1064)]), (150, .invokestatic 100, 121, 1, 1, [(0, 1003)]), (153, .iconst 3, 0, 0, 0, []), (154, .if_icmp .ne 7, 161, 0, 0, []), (157, .iconst 1, 0, 0, 0, []), (158, .goto 4, 162, 0, 0, []), (161, .iconst 0, 0, 0, 0, []), (162, .istore_n 1, 0, 0, 0, []), (163, .iinc 3 1, 0, 0, 0, []), (166, .goto (-45), 121, 0, 0, []), (169, .iload_n 1, 0, 0, 0, []), (170, .ireturn, 0, 0, 0, [])]
abbrev mX11_isSevens : am_M := (yX11_isSevens, cX11_isSevens, 4, some .boolean, 11, am_lk tbX11_isSevens)
def tbX11_sortOf : List (Nat × am_I) := [(0, .iload_n 1, 0, 0, 0, []), (1, .ifCond .ne 18, 19, 0, 0, []), (4, .aload_n 0, 0, 0, 0, []), (5, .iconst 4, 0, 0, 0, []), (6, .iconst 2, 0, 0, 0, []), (7, .invokevirtual 193, 174, 3, 1, [(0, 1192)]), (10, .ifCond .eq 7, 17, 0, 0, []), (13, .iconst 0, 0, 0, 0, []), (14, .goto 4, 18, 0, 0, []), (17, .iconst (-1), 0, 0, 0, []), (18, .ireturn, 0, 0, 0, []), (19, .aload_n 0, 0, 0, 0, []), (20, .iconst 5, 0, 0, 0, []), (21, .iconst 2, 0, 0, 0, []), (22, .invokevirtual 193, 174, 3, 1, [(0, 1192)]), (25, .ifCond .eq 5, 30, 0, 0, []), (28, .iconst 1, 0, 0, 0, []), (29, .ireturn, 0, 0, 0, []), (30, .aload_n 0, 0, 0, 0, []), (31, .iconst 5, 0, 0, 0, []), (32, .iconst 3, 0, 0, 0, []), (33, .invokevirtual 193, 174, 3, 1, [(0, 1192)]), (36, .ifCond .eq 5, 41, 0, 0, []), (39, .iconst 2, 0, 0, 0, []), (40, .ireturn, 0, 0, 0, []), (41, .aload_n 0, 0, 0, 0, []), (42, .getfield 16, 11, 2, 1, [(0, 898)]), (45, .bipush 12, 0, 0, 0, []), (47, .iaload, 0, 0, 0, []), (48, .bipush 7, 0, 0, 0, []), (50, .if_icmp .ge 5, 55, 0, 0, []), (53, .iconst (-1), 0, 0, 0, []), (54, .ireturn, 0, 0, 0, []), (55, .aload_n 0, 0, 0, 0, []), (56, .invokevirtual 196, 175, 1, 1, [(0, 1196)]), (59, .ifCond .eq 5, 64, 0, 0, []), (62, .iconst 3, 0, 0, 0, []), (63, .ireturn, 0, 0, 0, []), (64, .aload_n 0, 0, 0, 0, []), (65, .bipush 12, 0, 0, 0, []), (67, .bipush 12, 0, 0, 0, []), (69, .invokevirtual 147, 154, 3, 0, [(0, 1104)]), (72, .aload_n 0, 0, 0, 0, []), (73, .invokevirtual 196, 175, 1, 1, [(0, 1196)]), (76, .ifCond .eq 7, 83, 0, 0, []), (79, .iconst 4, 0, 0, 0, []), (80, .goto 4, 84, 0, 0, []), (83, .iconst (-1), 0, 0, 0, []), (84, .ireturn, 0, 0, 0, [])]
abbrev mX11_sortOf : am_M := (yX11_sortOf, cX11_sortOf, 2, some .int, 11, am_lk tbX11_sortOf)
def tbX11_excluded : List (Nat × am_I) := [(0, .iload_n 1, 0, 0, 0, []), (1, .invokestatic 97, 128, 1, 1, [(0, 996)]), (4, .ifCond .eq 21, 25, 0, 0, []), (7, .iload_n 2, 0, 0, 0, []), (8, .iconst 0, 0, 0, 0, []), (9, .iconst 1, 0, 0, 0, []), (10, .invokestatic 72, 119, 3, 1, [(0, 973)]), (13, .ifCond .eq 12, 25, 0, 0, []), (16, .iload_n 3, 0, 0, 0, []), (17, .iconst 0, 0, 0, 0, []), (18, .iconst 2, 0, 0, 0, []), (19, .invokestatic 72, 119, 3, 1, [(0, 973)]), (22, .ifCond .ne 6, 28, 0, 0, []), (25, .bipush (-2), 0, 0, 0, []), (27, .ireturn, 0, 0, 0, []), (28, .iconst 0, 0, 0, 0, []), (29, .istore 4, 0, 0, 0, []), (31, .iload 4, 0, 0, 0, []), (33, .aload_n 0, 0, 0, 0, []), (34, .iload_n 1, 0, 0, 0, []), (35, .invokevirtual 89, 129, 2, 1, [(0, 999)]), (38, .if_icmp .gt 85, 123, 0, 0, []), (41, .iconst 0, 0, 0, 0, []), (42, .istore 5, 0, 0, 0, []), (44, .iload 5, 0, 0, 0, []), (46, .aload_n 0, 0, 0, 0, []), (47, .iload_n 1, 0, 0, 0, []), (48, .invokevirtual 89, 129, 2, 1, [(0, 999)]), (51, .if_icmp .gt 66, 117, 0, 0, []), (54, .iload 4, 0, 0, 0, []), (56, .iload 5, 0, 0, 0, []), (58, .iand, 0, 0, 0, []), (59, .ifCond .eq 6, 65, 0, 0, []), (62, .goto 49, 111, 0, 0, []), (65, .aload_n 0, 0, 0, 0, []), (66, .iload_n 1, 0, 0, 0, []), (67, .bipush 12, 0, 0, 0, []), (69, .iload 4, 0, 0, 0, []), (71, .iload 5, 0, 0, 0, []), (73, .invokevirtual 154, 157, 5, 0, [(0, 1112)]), (76, .aload_n 0, 0, 0, 0, []), (77, .iload_n 2, 0, 0, 0, []), (78, .invokevirtual 200, 176, 2, 1, [(0, 1188)]), (81, .istore 6, 0, 0, 0, []), (83, .iload 6, 0, 0, 0, []), (85, .iconst (-1), 0, 0, 0, []), (86, .if_icmp .eq 25, 111, 0, 0, []), (89, .iload_n 3, 0, 0, 0, []), (90, .ifCond .ne 8, 98, 0, 0, []), (93, .iload 6, 0, 0, 0, []), (95, .goto 15, 110, 0, 0, []), (98, .iload_n 3, 0, 0, 0, []), (99, .iconst 1, 0, 0, 0, []), (100, .if_icmp .ne 8, 108, 0, 0, []), (103, .iload 4, 0, 0, 0, []), (105, .goto 5, 110, 0, 0, []), (108, .iload 5, 0, 0, 0, []), (110, .ireturn, 0, 0, 0, []), (111, .iinc 5 1, 0, 0, 0, []), (114, .goto (-70), 44, 0, 0, []), (117, .iinc 4 1, 0, 0, 0, []), (120, .goto (-89), 31, 0, 0, []), (123, .iconst (-1), 0, 0, 0, []), (124, .ireturn, 0, 0, 0, [])]
abbrev mX11_excluded : am_M := (yX11_excluded, cX11_excluded, 7, some .int, 11, am_lk tbX11_excluded)
def tbX11_seed : List (Nat × am_I) := [(0, .aload_n 0, 0, 0, 0, []), (1, .getfield 49, 11, 15, 0, [(0, 911)]), (4, .istore_n 2, 0, 0, 0, []), (5, .aload_n 0, 0, 0, 0, []), (6, .iload_n 1, 0, 0, 0, []), (7, .putfield 49, 11, 15, 0, [(0, 911)]), (10, .iload_n 2, 0, 0, 0, []), (11, .ireturn, 0, 0, 0, [])]
abbrev mX11_seed : am_M := (yX11_seed, cX11_seed, 3, some .int, 11, am_lk tbX11_seed)
def tbX11_dealt : List (Nat × am_I) := [(0, .iconst 0, 0, 0, 0, []), (1, .istore 5, 0, 0, 0, []), (3, .iload 5, 0, 0, 0, []), (5, .iload_n 3, 0, 0, 0, []), (6, .if_icmp .ge 85, 91, 0, 0, []), (9, .iconst 0, 0, 0, 0, []), (10, .istore 6, 0, 0, 0, []), (12, .iload 6, 0, 0, 0, []), (14, .bipush 7, 0, 0, 0, []), (16, .if_icmp .ge 69, 85, 0, 0, []), (19, .iload 6, 0, 0, 0, []), (21, .iload 4, 0, 0, 0, []), (23, .if_icmp .ge 18, 41, 0, 0, []), (26, .aload_n 0, 0, 0, 0, []), (27, .aload_n 0, 0, 0, 0, []), (28, .getfield 49, 11, 15, 0, [(0, 911)]), (31, .ldc 203, 1103515245, 0, 0, [(0, 1215)]), (33, .imul, 0, 0, 0, []), (34, .sipush 12345, 0, 0, 0, []), (37, .iadd, 0, 0, 0, []), (38, .putfield 49, 11, 15, 0, [(0, 911)]), (41, .aload_n 0, 0, 0, 0, []), (42, .getfield 22, 11, 4, 1, [(0, 900)]), (45, .bipush 7, 0, 0, 0, []), (47, .iload 5, 0, 0, 0, []), (49, .imul, 0, 0, 0, []), (50, .iload 6, 0, 0, 0, []), (52, .iadd, 0, 0, 0, []), (53, .iload 6, 0, 0, 0, []), (55, .iload 4, 0, 0, 0, []), (57, .if_icmp .ge 20, 77, 0, 0, []), (60, .aload_n 0, 0, 0, 0, []), (61, .getfield 49, 11, 15, 0, [(0, 911)]), (64, .bipush 16, 0, 0, 0, []), (66, .iushr, 0, 0, 0, []), (67, .aload_n 0, 0, 0, 0, []), (68, .getfield 7, 11, 0, 1, [(0, 896)]), (71, .iload_n 2, 0, 0, 0, []), (72, .iaload, 0, 0, 0, []), (73, .irem, 0, 0, 0, []), (74, .goto 4, 78, 0, 0, []), (77, .iconst 0, 0, 0, 0, []), (78, .iastore, 0, 0, 0, []), (79, .iinc 6 1, 0, 0, 0, []), (82, .goto (-70), 12, 0, 0, []), (85, .iinc 5 1, 0, 0, 0, []), (88, .goto (-85), 3, 0, 0, []), (91, .aload_n 0, 0, 0, 0, []), (92, .iload_n 1, 0, 0, 0, []), (93, .iload_n 2, 0, 0, 0, []), (94, .iload_n 3, 0, 0, 0, []), (95, .invokevirtual 116, 135, 4, 1, [(0, 1013)]), (98, .ireturn, 0, 0, 0, [])]
abbrev mX11_dealt : am_M := (yX11_dealt, cX11_dealt, 7, some .int, 11, am_lk tbX11_dealt)
def tbX11_isDeal : List (Nat × am_I) := [(0, .iload_n 0, 0, 0, 0, []), (1, .invokestatic 76, 126, 1, 1, [(0, 970)]), (4, .ifCond .eq 26, 30, 0, 0, []), (7, .iload_n 1, 0, 0, 0, []), (8, .iconst 0, 0, 0, 0, []), (9, .bipush 7, 0, 0, 0, []), (11, .invokestatic 72, 119, 3, 1, [(0, 973)]), (14, .ifCond .eq 16, 30, 0, 0, []), (17, .iload_n 2, 0, 0, 0, []), (18, .iconst 0, 0, 0, 0, []), (19, .iconst 4, 0, 0, 0, []), (20, .invokestatic 72, 119, 3, 1, [(0, 973)]), (23, .ifCond .eq 7, 30, 0, 0, []), (26, .iconst 1, 0, 0, 0, []), (27, .goto 4, 31, 0, 0, []), (30, .iconst 0, 0, 0, 0, []), (31, .ireturn, 0, 0, 0, [])]
abbrev mX11_isDeal : am_M := (yX11_isDeal, cX11_isDeal, 3, some .boolean, 12, am_lk tbX11_isDeal)
def tbX11_deal : List (Nat × am_I) := [(0, .iload_n 1, 0, 0, 0, []), (1, .invokestatic 97, 128, 1, 1, [(0, 996)]), (4, .ifCond .eq 25, 29, 0, 0, []), (7, .iload_n 2, 0, 0, 0, []), (8, .iload_n 3, 0, 0, 0, []), (9, .iload 4, 0, 0, 0, []), (11, .invokestatic 204, 180, 3, 1, [(0, 1208)]), (14, .ifCond .eq 15, 29, 0, 0, []), (17, .aload_n 0, 0, 0, 0, []), (18, .iload_n 1, 0, 0, 0, []), (19, .iload_n 2, 0, 0, 0, []), (20, .iload_n 3, 0, 0, 0, []), (21, .iload 4, 0, 0, 0, []), (23, .invokevirtual 207, 179, 5, 1, [(0, 1211)]), (26, .goto 5, 31, 0, 0, []), (29, .bipush (-2), 0, 0, 0, []), (31, .ireturn, 0, 0, 0, [])]
abbrev mX11_deal : am_M := (yX11_deal, cX11_deal, 5, some .int, 11, am_lk tbX11_deal)
def tbX11_chance : List (Nat × am_I) := [(0, .iload_n 1, 0, 0, 0, []), (1, .iload_n 2, 0, 0, 0, []), (2, .iload_n 3, 0, 0, 0, []), (3, .invokestatic 204, 180, 3, 1, [(0, 1208)]), (6, .ifCond .eq 21, 27, 0, 0, []), (9, .iload 4, 0, 0, 0, []), (11, .iconst 1, 0, 0, 0, []), (12, .iconst 5, 0, 0, 0, []), (13, .invokestatic 72, 119, 3, 1, [(0, 973)]), (16, .ifCond .eq 11, 27, 0, 0, []), (19, .iload 5, 0, 0, 0, []), (21, .invokestatic 76, 126, 1, 1, [(0, 970)]), (24, .ifCond .ne 6, 30, 0, 0, []), (27, .bipush (-2), 0, 0, 0, []), (29, .ireturn, 0, 0, 0, []), (30, .aload_n 0, 0, 0, 0, []), (31, .getfield 49, 11, 15, 0, [(0, 911)]), (34, .istore 6, 0, 0, 0, []), (36, .iconst 0, 0, 0, 0, []), (37, .istore 7, 0, 0, 0, []), (39, .iconst 0, 0, 0, 0, []), (40, .istore 8, 0, 0, 0, []), (42, .iload 8, 0, 0, 0, []), (44, .iload 4, 0, 0, 0, []), (46, .if_icmp .ge 34, 80, 0, 0, []), (49, .aload_n 0, 0, 0, 0, []), (50, .bipush 12, 0, 0, 0, []), (52, .iload_n 1, 0, 0, 0, []), (53, .iload_n 2, 0, 0, 0, []), (54, .iload_n 3, 0, 0, 0, []), (55, .invokevirtual 207, 179, 5, 1, [(0, 1211)]), (58, .istore 9, 0, 0, 0, []), (60, .iload 7, 0, 0, 0, []), (62, .aload_n 0, 0, 0, 0, []), (63, .bipush 12, 0, 0, 0, []), (65, .iload 5, 0, 0, 0, []), (67, .iconst 1, 0, 0, 0, []), (68, .invokevirtual 187, 170, 4, 1, [(0, 1148)]), (71, .iadd, 0, 0, 0, []), (72, .istore 7, 0, 0, 0, []), (74, .iinc 8 1, 0, 0, 0, []), (77, .goto (-35), 42, 0, 0, []), (80, .aload_n 0, 0, 0, 0, []), (81, .iload 6, 0, 0, 0, []), (83, .putfield 49, 11, 15, 0, [(0, 911)]), (86, .iload 7, 0, 0, 0, []), (88, .ireturn, 0, 0, 0, [])]
abbrev mX11_chance : am_M := (yX11_chance, cX11_chance, 10, some .int, 11, am_lk tbX11_chance)
def tbX11_isHold : List (Nat × am_I) := [(0, .iload_n 0, 0, 0, 0, []), (1, .iconst 0, 0, 0, 0, []), (2, .iconst 3, 0, 0, 0, []), (3, .invokestatic 72, 119, 3, 1, [(0, 973)]), (6, .ireturn, 0, 0, 0, [])]
abbrev mX11_isHold : am_M := (yX11_isHold, cX11_isHold, 1, some .boolean, 12, am_lk tbX11_isHold)
def tbX11_hold : List (Nat × am_I) := [(0, .iload_n 1, 0, 0, 0, []), (1, .invokestatic 211, 183, 1, 1, [(0, 1224)]), (4, .ifCond .eq 35, 39, 0, 0, []), (7, .iload_n 2, 0, 0, 0, []), (8, .iconst 0, 0, 0, 0, []), (9, .iconst 2, 0, 0, 0, []), (10, .invokestatic 72, 119, 3, 1, [(0, 973)]), (13, .ifCond .eq 26, 39, 0, 0, []), (16, .iload_n 2, 0, 0, 0, []), (17, .ifCond .ne 10, 27, 0, 0, []), (20, .iload_n 3, 0, 0, 0, []), (21, .invokestatic 76, 126, 1, 1, [(0, 970)]), (24, .ifCond .eq 15, 39, 0, 0, []), (27, .iload_n 2, 0, 0, 0, []), (28, .iconst 1, 0, 0, 0, []), (29, .if_icmp .ne 13, 42, 0, 0, []), (32, .iload_n 3, 0, 0, 0, []), (33, .invokestatic 97, 128, 1, 1, [(0, 996)]), (36, .ifCond .ne 6, 42, 0, 0, []), (39, .bipush (-2), 0, 0, 0, []), (41, .ireturn, 0, 0, 0, []), (42, .aload_n 0, 0, 0, 0, []), (43, .getfield 53, 11, 16, 1, [(0, 912)]), (46, .iload_n 1, 0, 0, 0, []), (47, .iload_n 2, 0, 0, 0, []), (48, .iconst 2, 0, 0, 0, []), (49, .if_icmp .ne 7, 56, 0, 0, []), (52, .iconst 0, 0, 0, 0, []), (53, .goto 6, 59, 0, 0, []), (56, .iconst 1, 0, 0, 0, []), (57, .iload_n 2, 0, 0, 0, []), (58, .iadd, 0, 0, 0, []), (59, .iastore, 0, 0, 0, []), (60, .aload_n 0, 0, 0, 0, []), (61, .getfield 56, 11, 17, 1, [(0, 913)]), (64, .iload_n 1, 0, 0, 0, []), (65, .iload_n 3, 0, 0, 0, []), (66, .iastore, 0, 0, 0, []), (67, .iload_n 2, 0, 0, 0, []), (68, .iconst 1, 0, 0, 0, []), (69, .if_icmp .ne 11, 80, 0, 0, []), (72, .aload_n 0, 0, 0, 0, []), (73, .iload_n 3, 0, 0, 0, []), (74, .iconst 4, 0, 0, 0, []), (75, .iload_n 1, 0, 0, 0, []), (76, .iadd, 0, 0, 0, []), (77, .invokevirtual 214, 132, 3, 0, [(0, 1227)]), (80, .iconst 1, 0, 0, 0, []), (81, .ireturn, 0, 0, 0, [])]
abbrev mX11_hold : am_M := (yX11_hold, cX11_hold, 4, some .int, 11, am_lk tbX11_hold)
def tbX11_held : List (Nat × am_I) := [(0, .iload_n 1, 0, 0, 0, []), (1, .invokestatic 211, 183, 1, 1, [(0, 1224)]), (4, .ifCond .eq 12, 16, 0, 0, []), (7, .iload_n 2, 0, 0, 0, []), (8, .iconst 0, 0, 0, 0, []), (9, .iconst 4, 0, 0, 0, []), (10, .invokestatic 72, 119, 3, 1, [(0, 973)]), (13, .ifCond .ne 6, 19, 0, 0, []), (16, .bipush (-2), 0, 0, 0, []), (18, .ireturn, 0, 0, 0, []), (19, .aload_n 0, 0, 0, 0, []), (20, .getfield 53, 11, 16, 1, [(0, 912)]), (23, .iload_n 1, 0, 0, 0, []), (24, .iaload, 0, 0, 0, []), (25, .ifCond .ne 6, 31, 0, 0, []), (28, .bipush (-11), 0, 0, 0, []), (30, .ireturn, 0, 0, 0, []), (31, .aload_n 0, 0, 0, 0, []), (32, .getfield 53, 11, 16, 1, [(0, 912)]), (35, .iload_n 1, 0, 0, 0, []), (36, .iaload, 0, 0, 0, []), (37, .iload_n 2, 0, 0, 0, []), (38, .iconst 2, 0, 0, 0, []), (39, .if_icmp .ge 7, 46, 0, 0, []), (42, .iconst 1, 0, 0, 0, []), (43, .goto 4, 47, 0, 0, []), (46, .iconst 2, 0, 0, 0, []), (47, .if_icmp .eq 6, 53, 0, 0, []), (50, .bipush (-13), 0, 0, 0, []), (52, .ireturn, 0, 0, 0, []), (53, .iload_n 2, 0, 0, 0, []), (54, .tableswitch 75 0 3 #[30, 42, 58, 67], 129, 0, 0, [(0, 84), (1, 96), (2, 112), (3, 121)]), (84, .aload_n 0, 0, 0, 0, []), (85, .getfield 7, 11, 0, 1, [(0, 896)]), (88, .aload_n 0, 0, 0, 0, []), (89, .getfield 56, 11, 17, 1, [(0, 913)]), (92, .iload_n 1, 0, 0, 0, []), (93, .iaload, 0, 0, 0, []), (94, .iaload, 0, 0, 0, []), (95, .ireturn, 0, 0, 0, []), (96, .aload_n 0, 0, 0, 0, []), (97, .getfield 56, 11, 17, 1, [(0, 913)]), (100, .iload_n 1, 0, 0, 0, []), (101, .iaload, 0, 0, 0, []), (102, .iconst 3, 0, 0, 0, []), (103, .if_icmp .ge 7, 110, 0, 0, []), (106, .iconst 1, 0, 0, 0, []), (107, .goto 4, 111, 0, 0, []), (110, .iconst 0, 0, 0, 0, []), (111, .ireturn, 0, 0, 0, []), (112, .aload_n 0, 0, 0, 0, []), (113, .getfield 16, 11, 2, 1, [(0, 898)]), (116, .iconst 4, 0, 0, 0, []), (117, .iload_n 1, 0, 0, 0, []), (118, .iadd, 0, 0, 0, []), (119, .iaload, 0, 0, 0, []), (120, .ireturn, 0, 0, 0, []), (121, .aload_n 0, 0, 0, 0, []), (122, .iconst 4, 0, 0, 0, []), (123, .iload_n 1, 0, 0, 0, []), (124, .iadd, 0, 0, 0, []), (125, .invokevirtual 110, 131, 2, 1, [(0, 1024)]), (128, .ireturn, 0, 0, 0, []), (129, .aload_n 0, 0, 0, 0, []), (130, .iconst 4, 0, 0, 0, []), (131, .iload_n 1, 0, 0, 0, []), (132, .iadd, 0, 0, 0, []), (133, .iconst 2, 0, 0, 0, []), (134, .invokevirtual 141, 149, 3, 1, [(0, 1084)]), (137, .ireturn, 0, 0, 0, [])]
abbrev mX11_held : am_M := (yX11_held, cX11_held, 3, some .int, 11, am_lk tbX11_held)
def tbX11_take : List (Nat × am_I) := [(0, .iload_n 1, 0, 0, 0, []), (1, .invokestatic 97, 128, 1, 1, [(0, 996)]), (4, .ifCond .eq 10, 14, 0, 0, []), (7, .iload_n 2, 0, 0, 0, []), (8, .invokestatic 211, 183, 1, 1, [(0, 1224)]), (11, .ifCond .ne 6, 17, 0, 0, []), (14, .bipush (-2), 0, 0, 0, []), (16, .ireturn, 0, 0, 0, []), (17, .aload_n 0, 0, 0, 0, []), (18, .getfield 53, 11, 16, 1, [(0, 912)]), (21, .iload_n 2, 0, 0, 0, []), (22, .iaload, 0, 0, 0, []), (23, .iconst 2, 0, 0, 0, []), (24, .if_icmp .eq 20, 44, 0, 0, []), (27, .aload_n 0, 0, 0, 0, []), (28, .getfield 53, 11, 16, 1, [(0, 912)]), (31, .iload_n 2, 0, 0, 0, []), (32, .iaload, 0, 0, 0, []), (33, .ifCond .ne 8, 41, 0, 0, []), (36, .bipush (-11), 0, 0, 0, []), (38, .goto 5, 43, 0, 0, []), (41, .bipush (-13), 0, 0, 0, []), (43, .ireturn, 0, 0, 0, []), (44, .aload_n 0, 0, 0, 0, []), (45, .iconst 4, 0, 0, 0, []), (46, .iload_n 2, 0, 0, 0, []), (47, .iadd, 0, 0, 0, []), (48, .iload_n 1, 0, 0, 0, []), (49, .invokevirtual 214, 132, 3, 0, [(0, 1227)]), (52, .aload_n 0, 0, 0, 0, []), (53, .getfield 16, 11, 2, 1, [(0, 898)]), (56, .iload_n 1, 0, 0, 0, []), (57, .iaload, 0, 0, 0, []), (58, .ireturn, 0, 0, 0, [])]
abbrev mX11_take : am_M := (yX11_take, cX11_take, 3, some .int, 11, am_lk tbX11_take)
def tbX11_isSheet : List (Nat × am_I) := [(0, .iload_n 0, 0, 0, 0, []), (1, .iconst 0, 0, 0, 0, []), (2, .iconst 3, 0, 0, 0, []), (3, .invokestatic 72, 119, 3, 1, [(0, 973)]), (6, .ireturn, 0, 0, 0, [])]
abbrev mX11_isSheet : am_M := (yX11_isSheet, cX11_isSheet, 1, some .boolean, 12, am_lk tbX11_isSheet)
def tbX11_laysSheet : List (Nat × am_I) := [(0, .aload_n 0, 0, 0, 0, []), (1, .getfield 59, 11, 18, 1, [(0, 914)]), (4, .iload_n 1, 0, 0, 0, []), (5, .iconst 1, 0, 0, 0, []), (6, .iastore, 0, 0, 0, []), (7, .aload_n 0, 0, 0, 0, []), (8, .getfield 62, 11, 19, 1, [(0, 915)]), (11, .iload_n 1, 0, 0, 0, []), (12, .iload_n 2, 0, 0, 0, []), (13, .iastore, 0, 0, 0, []), (14, .iconst 0, 0, 0, 0, []), (15, .istore_n 3, 0, 0, 0, []), (16, .iload_n 3, 0, 0, 0, []), (17, .bipush 64, 0, 0, 0, []), (19, .if_icmp .ge 21, 40, 0, 0, []), (22, .aload_n 0, 0, 0, 0, []), (23, .getfield 65, 11, 20, 1, [(0, 916)]), (26, .bipush 64, 0, 0, 0, []), (28, .iload_n 1, 0, 0, 0, []), (29, .imul, 0, 0, 0, []), (30, .iload_n 3, 0, 0, 0, []), (31, .iadd, 0, 0, 0, []), (32, .iconst 0, 0, 0, 0, []), (33, .iastore, 0, 0, 0, []), (34, .iinc 3 1, 0, 0, 0, []), (37, .goto (-21), 16, 0, 0, []), (40, .return_, 0, 0, 0, [])]
abbrev mX11_laysSheet : am_M := (yX11_laysSheet, cX11_laysSheet, 4, none, 11, am_lk tbX11_laysSheet)
def tbX11_sheet : List (Nat × am_I) := [(0, .iload_n 1, 0, 0, 0, []), (1, .invokestatic 113, 187, 1, 1, [(0, 1010)]), (4, .ifCond .eq 23, 27, 0, 0, []), (7, .iload_n 2, 0, 0, 0, []), (8, .iconst (-1), 0, 0, 0, []), (9, .iconst 1, 0, 0, 0, []), (10, .invokestatic 72, 119, 3, 1, [(0, 973)]), (13, .ifCond .eq 14, 27, 0, 0, []), (16, .iload_n 2, 0, 0, 0, []), (17, .iconst (-1), 0, 0, 0, []), (18, .if_icmp .eq 12, 30, 0, 0, []), (21, .iload_n 3, 0, 0, 0, []), (22, .bipush 64, 0, 0, 0, []), (24, .if_icmp .le 6, 30, 0, 0, []), (27, .bipush (-2), 0, 0, 0, []), (29, .ireturn, 0, 0, 0, []), (30, .iload_n 2, 0, 0, 0, []), (31, .iconst (-1), 0, 0, 0, []), (32, .if_icmp .eq 10, 42, 0, 0, []), (35, .iload_n 3, 0, 0, 0, []), (36, .ifCond .ge 6, 42, 0, 0, []), (39, .bipush (-14), 0, 0, 0, []), (41, .ireturn, 0, 0, 0, []), (42, .aload_n 0, 0, 0, 0, []), (43, .iload_n 1, 0, 0, 0, []), (44, .iload_n 2, 0, 0, 0, []), (45, .iconst (-1), 0, 0, 0, []), (46, .if_icmp .ne 7, 53, 0, 0, []), (49, .iconst 0, 0, 0, 0, []), (50, .goto 4, 54, 0, 0, []), (53, .iload_n 3, 0, 0, 0, []), (54, .invokevirtual 190, 188, 3, 0, [(0, 1176)]), (57, .aload_n 0, 0, 0, 0, []), (58, .getfield 59, 11, 18, 1, [(0, 914)]), (61, .iload_n 1, 0, 0, 0, []), (62, .iload_n 2, 0, 0, 0, []), (63, .iastore, 0, 0, 0, []), (64, .iconst 1, 0, 0, 0, []), (65, .ireturn, 0, 0, 0, [])]
abbrev mX11_sheet : am_M := (yX11_sheet, cX11_sheet, 4, some .int, 11, am_lk tbX11_sheet)
def tbX11_wrongAt : List (Nat × am_I) := [(0, .iload_n 1, 0, 0, 0, []), (1, .invokestatic 113, 187, 1, 1, [(0, 1010)]), (4, .ifCond .ne 8, 12, 0, 0, []), (7, .bipush (-2), 0, 0, 0, []), (9, .goto 40, 49, 0, 0, []), (12, .aload_n 0, 0, 0, 0, []), (13, .getfield 59, 11, 18, 1, [(0, 914)]), (16, .iload_n 1, 0, 0, 0, []), (17, .iaload, 0, 0, 0, []), (18, .iconst (-1), 0, 0, 0, []), (19, .if_icmp .ne 8, 27, 0, 0, []), (22, .bipush (-11), 0, 0, 0, []), (24, .goto 25, 49, 0, 0, []), (27, .iload_n 2, 0, 0, 0, []), (28, .iconst 0, 0, 0, 0, []), (29, .aload_n 0, 0, 0, 0, []), (30, .getfield 62, 11, 19, 1, [(0, 915)]), (33, .iload_n 1, 0, 0, 0, []), (34, .iaload, 0, 0, 0, []), (35, .iconst 1, 0, 0, 0, []), (36, .isub, 0, 0, 0, []), (37, .invokestatic 72, 119, 3, 1, [(0, 973)]), (40, .ifCond .eq 7, 47, 0, 0, []), (43, .iconst 0, 0, 0, 0, []), (44, .goto 5, 49, 0, 0, []), (47, .bipush (-12), 0, 0, 0, []), (49, .ireturn, 0, 0, 0, [])]
abbrev mX11_wrongAt : am_M := (yX11_wrongAt, cX11_wrongAt, 3, some .int, 11, am_lk tbX11_wrongAt)
def tbX11_write : List (Nat × am_I) := [(0, .aload_n 0, 0, 0, 0, []), (1, .iload_n 1, 0, 0, 0, []), (2, .iload_n 2, 0, 0, 0, []), (3, .invokevirtual 217, 190, 3, 1, [(0, 1247)]), (6, .istore 4, 0, 0, 0, []), (8, .iload 4, 0, 0, 0, []), (10, .ifCond .eq 6, 16, 0, 0, []), (13, .iload 4, 0, 0, 0, []), (15, .ireturn, 0, 0, 0, []), (16, .aload_n 0, 0, 0, 0, []), (17, .getfield 65, 11, 20, 1, [(0, 916)]), (20, .bipush 64, 0, 0, 0, []), (22, .iload_n 1, 0, 0, 0, []), (23, .imul, 0, 0, 0, []), (24, .iload_n 2, 0, 0, 0, []), (25, .iadd, 0, 0, 0, []), (26, .aload_n 0, 0, 0, 0, []), (27, .getfield 59, 11, 18, 1, [(0, 914)]), (30, .iload_n 1, 0, 0, 0, []), (31, .iaload, 0, 0, 0, []), (32, .ifCond .ne 8, 40, 0, 0, []), (35, .iload_n 3, 0, 0, 0, []), (36, .i2b, 0, 0, 0, []), (37, .goto 4, 41, 0, 0, []), (40, .iload_n 3, 0, 0, 0, []), (41, .iastore, 0, 0, 0, []), (42, .iconst 1, 0, 0, 0, []), (43, .ireturn, 0, 0, 0, [])]
abbrev mX11_write : am_M := (yX11_write, cX11_write, 5, some .int, 11, am_lk tbX11_write)
def tbX11_item : List (Nat × am_I) := [(0, .aload_n 0, 0, 0, 0, []), (1, .iload_n 1, 0, 0, 0, []), (2, .iload_n 2, 0, 0, 0, []), (3, .invokevirtual 217, 190, 3, 1, [(0, 1247)]), (6, .istore_n 3, 0, 0, 0, []), (7, .iload_n 3, 0, 0, 0, []), (8, .ifCond .eq 7, 15, 0, 0, []), (11, .iload_n 3, 0, 0, 0, []), (12, .goto 14, 26, 0, 0, []), (15, .aload_n 0, 0, 0, 0, []), (16, .getfield 65, 11, 20, 1, [(0, 916)]), (19, .bipush 64, 0, 0, 0, []), (21, .iload_n 1, 0, 0, 0, []), (22, .imul, 0, 0, 0, []), (23, .iload_n 2, 0, 0, 0, []), (24, .iadd, 0, 0, 0, []), (25, .iaload, 0, 0, 0, []), (26, .ireturn, 0, 0, 0, [])]
abbrev mX11_item : am_M := (yX11_item, cX11_item, 4, some .int, 11, am_lk tbX11_item)
def tbX11_copy : List (Nat × am_I) := [(0, .iload_n 1, 0, 0, 0, []), (1, .invokestatic 113, 187, 1, 1, [(0, 1010)]), (4, .ifCond .eq 10, 14, 0, 0, []), (7, .iload_n 3, 0, 0, 0, []), (8, .invokestatic 113, 187, 1, 1, [(0, 1010)]), (11, .ifCond .ne 6, 17, 0, 0, []), (14, .bipush (-2), 0, 0, 0, []), (16, .ireturn, 0, 0, 0, []), (17, .aload_n 0, 0, 0, 0, []), (18, .getfield 59, 11, 18, 1, [(0, 914)]), (21, .iload_n 1, 0, 0, 0, []), (22, .iaload, 0, 0, 0, []), (23, .iconst (-1), 0, 0, 0, []), (24, .if_icmp .eq 13, 37, 0, 0, []), (27, .aload_n 0, 0, 0, 0, []), (28, .getfield 59, 11, 18, 1, [(0, 914)]), (31, .iload_n 3, 0, 0, 0, []), (32, .iaload, 0, 0, 0, []), (33, .iconst (-1), 0, 0, 0, []), (34, .if_icmp .ne 6, 40, 0, 0, []), (37, .bipush (-11), 0, 0, 0, []), (39, .ireturn, 0, 0, 0, []), (40, .aload_n 0, 0, 0, 0, []), (41, .getfield 59, 11, 18, 1, [(0, 914)]), (44, .iload_n 1, 0, 0, 0, []), (45, .iaload, 0, 0, 0, []), (46, .aload_n 0, 0, 0, 0, []), (47, .getfield 59, 11, 18, 1, [(0, 914)]), (50, .iload_n 3, 0, 0, 0, []), (51, .iaload, 0, 0, 0, []), (52, .if_icmp .eq 6, 58, 0, 0, []), (55, .bipush (-13), 0, 0, 0, []), (57, .ireturn, 0, 0, 0, []), (58, .iload 5, 0, 0, 0, []), (60, .ifCond .lt 39, 99, 0, 0, []), (63, .iload_n 2, 0, 0, 0, []), (64, .ifCond .lt 35, 99, 0, 0, []), (67, .iload 4, 0, 0, 0, []), (69, .ifCond .lt 30, 99, 0, 0, []), (72, .iload_n 2, 0, 0, 0, []), (73, .aload_n 0, 0, 0, 0, []), (74, .getfield 62, 11, 19, 1, [(0, 915)]), (77, .iload_n 1, 0, 0, 0, []), (78, .iaload, 0, 0, 0, []), (79, .iload 5, 0, 0, 0, []), (81, .isub, 0, 0, 0, []), (82, .if_icmp .gt 17, 99, 0, 0, []), (85, .iload 4, 0, 0, 0, []), (87, .aload_n 0, 0, 0, 0, []), (88, .getfield 62, 11, 19, 1, [(0, 915)]), (91, .iload_n 3, 0, 0, 0, []), (92, .iaload, 0, 0, 0, []), (93, .iload 5, 0, 0, 0, []), (95, .isub, 0, 0, 0, []), (96, .if_icmp .le 6, 102, 0, 0, []), (99, .bipush (-12), 0, 0, 0, []), (101, .ireturn, 0, 0, 0, []), (102, .bipush 64, 0, 0, 0, []), (104, .iload_n 1, 0, 0, 0, []), (105, .imul, 0, 0, 0, []), (106, .iload_n 2, 0, 0, 0, []), (107, .iadd, 0, 0, 0, []), (108, .bipush 64, 0, 0, 0, []), (110, .iload_n 3, 0, 0, 0, []), (111, .imul, 0, 0, 0, []), (112, .iload 4, 0, 0, 0, []), (114, .iadd, 0, 0, 0, []), (115, .if_icmp .ge 7, 122, 0, 0, []), (118, .iconst 1, 0, 0, 0, []), (119, .goto 4, 123, 0, 0, []), (122, .iconst 0, 0, 0, 0, []), (123, .istore 6, 0, 0, 0, []), (125, .iconst 0, 0, 0, 0, []), (126, .istore 7, 0, 0, 0, []), (128, .iload 7, 0, 0, 0, []), (130, .iload 5, 0, 0, 0, []), (132, .if_icmp .ge 57, 189, 0, 0, []), (135, .iload 6, 0, 0, 0, []), (137, .ifCond .eq 13, 150, 0, 0, []), (140, .iload 5, 0, 0, 0, []), (142, .iconst 1, 0, 0, 0, []), (143, .isub, 0, 0, 0, []), (144, .iload 7, 0, 0, 0, []), (146, .isub, 0, 0, 0, []), (147, .goto 5, 152, 0, 0, []), (150, .iload 7, 0, 0, 0, []), (152, .istore 8, 0, 0, 0, []), (154, .aload_n 0, 0, 0, 0, []), (155, .getfield 65, 11, 20, 1, [(0, 916)]), (158, .bipush 64, 0, 0, 0, []), (160, .iload_n 3, 0, 0, 0, []), (161, .imul, 0, 0, 0, []), (162, .iload 4, 0, 0, 0, []), (164, .iadd, 0, 0, 0, []), (165, .iload 8, 0, 0, 0, []), (167, .iadd, 0, 0, 0, []), (168, .aload_n 0, 0, 0, 0, []), (169, .getfield 65, 11, 20, 1, [(0, 916)]), (172, .bipush 64, 0, 0, 0, []), (174, .iload_n 1, 0, 0, 0, []), (175, .imul, 0, 0, 0, []), (176, .iload_n 2, 0, 0, 0, []), (177, .iadd, 0, 0, 0, []), (178, .iload 8, 0, 0, 0, []), (180, .iadd, 0, 0, 0, []), (181, .iaload, 0, 0, 0, []), (182, .iastore, 0, 0, 0, []), (183, .iinc 7 1, 0, 0, 0, []), (186, .goto (-58), 128, 0, 0, []), (189, .iload 5, 0, 0, 0, []), (191, .ireturn, 0, 0, 0, [])]
abbrev mX11_copy : am_M := (yX11_copy, cX11_copy, 9, some .int, 11, am_lk tbX11_copy)
def tbX11_list : List (Nat × am_I) := [(0, .iload_n 1, 0, 0, 0, []), (1, .invokestatic 97, 128, 1, 1, [(0, 996)]), (4, .ifCond .eq 10, 14, 0, 0, []), (7, .iload_n 2, 0, 0, 0, []), (8, .invokestatic 113, 187, 1, 1, [(0, 1010)]), (11, .ifCond .ne 6, 17, 0, 0, []), (14, .bipush (-2), 0, 0, 0, []), (16, .ireturn, 0, 0, 0, []), (17, .aload_n 0, 0, 0, 0, []), (18, .iload_n 2, 0, 0, 0, []), (19, .aload_n 0, 0, 0, 0, []), (20, .iload_n 1, 0, 0, 0, []), (21, .iconst 2, 0, 0, 0, []), (22, .invokevirtual 141, 149, 3, 1, [(0, 1084)]), (25, .invokevirtual 190, 188, 3, 0, [(0, 1176)]), (28, .iconst 0, 0, 0, 0, []), (29, .istore_n 3, 0, 0, 0, []), (30, .iconst 0, 0, 0, 0, []), (31, .istore 4, 0, 0, 0, []), (33, .iload 4, 0, 0, 0, []), (35, .aload_n 0, 0, 0, 0, []), (36, .iload_n 1, 0, 0, 0, []), (37, .invokevirtual 89, 129, 2, 1, [(0, 999)]), (40, .if_icmp .gt 39, 79, 0, 0, []), (43, .aload_n 0, 0, 0, 0, []), (44, .iload_n 1, 0, 0, 0, []), (45, .iload 4, 0, 0, 0, []), (47, .iconst 2, 0, 0, 0, []), (48, .invokevirtual 138, 147, 4, 1, [(0, 1072)]), (51, .ifCond .ne 6, 57, 0, 0, []), (54, .goto 19, 73, 0, 0, []), (57, .aload_n 0, 0, 0, 0, []), (58, .getfield 65, 11, 20, 1, [(0, 916)]), (61, .bipush 64, 0, 0, 0, []), (63, .iload_n 2, 0, 0, 0, []), (64, .imul, 0, 0, 0, []), (65, .iload_n 3, 0, 0, 0, []), (66, .iadd, 0, 0, 0, []), (67, .iload 4, 0, 0, 0, []), (69, .iastore, 0, 0, 0, []), (70, .iinc 3 1, 0, 0, 0, []), (73, .iinc 4 1, 0, 0, 0, []), (76, .goto (-43), 33, 0, 0, []), (79, .iload_n 3, 0, 0, 0, []), (80, .ireturn, 0, 0, 0, [])]
abbrev mX11_list : am_M := (yX11_list, cX11_list, 5, some .int, 11, am_lk tbX11_list)
def tbX11_elements : List (Nat × am_I) := [(0, .aload_n 0, 0, 0, 0, []), (1, .getfield 16, 11, 2, 1, [(0, 898)]), (4, .iconst 0, 0, 0, 0, []), (5, .iaload, 0, 0, 0, []), (6, .aload_n 0, 0, 0, 0, []), (7, .getfield 16, 11, 2, 1, [(0, 898)]), (10, .iconst 1, 0, 0, 0, []), (11, .iaload, 0, 0, 0, []), (12, .iadd, 0, 0, 0, []), (13, .aload_n 0, 0, 0, 0, []), (14, .getfield 16, 11, 2, 1, [(0, 898)]), (17, .iconst 2, 0, 0, 0, []), (18, .iaload, 0, 0, 0, []), (19, .iadd, 0, 0, 0, []), (20, .aload_n 0, 0, 0, 0, []), (21, .getfield 16, 11, 2, 1, [(0, 898)]), (24, .iconst 3, 0, 0, 0, []), (25, .iaload, 0, 0, 0, []), (26, .iadd, 0, 0, 0, []), (27, .ireturn, 0, 0, 0, [])]
abbrev mX11_elements : am_M := (yX11_elements, cX11_elements, 1, some .int, 11, am_lk tbX11_elements)
def tbX11_image : List (Nat × am_I) := [(0, .iconst 0, 0, 0, 0, []), (1, .istore_n 1, 0, 0, 0, []), (2, .iload_n 1, 0, 0, 0, []), (3, .iconst 4, 0, 0, 0, []), (4, .if_icmp .ge 18, 22, 0, 0, []), (7, .aload_n 0, 0, 0, 0, []), (8, .iload_n 1, 0, 0, 0, []), (9, .bipush 8, 0, 0, 0, []), (11, .iload_n 1, 0, 0, 0, []), (12, .iadd, 0, 0, 0, []), (13, .invokevirtual 214, 132, 3, 0, [(0, 1227)]), (16, .iinc 1 1, 0, 0, 0, []), (19, .goto (-17), 2, 0, 0, []), (22, .aload_n 0, 0, 0, 0, []), (23, .aload_n 0, 0, 0, 0, []), (24, .getfield 49, 11, 15, 0, [(0, 911)]), (27, .putfield 220, 11, 22, 0, [(0, 918)]), (30, .aload_n 0, 0, 0, 0, []), (31, .iconst 1, 0, 0, 0, []), (32, .putfield 223, 11, 21, 3, [(0, 917)]), (35, .aload_n 0, 0, 0, 0, []), (36, .invokevirtual 227, 195, 1, 1, [(0, 1267)]), (39, .ireturn, 0, 0, 0, [])]
abbrev mX11_image : am_M := (yX11_image, cX11_image, 2, some .int, 11, am_lk tbX11_image)
def tbX11_back : List (Nat × am_I) := [(0, .aload_n 0, 0, 0, 0, []), (1, .getfield 223, 11, 21, 0, [(0, 917)]), (4, .ifCond .ne 6, 10, 0, 0, []), (7, .bipush (-3), 0, 0, 0, []), (9, .ireturn, 0, 0, 0, []), (10, .iconst 0, 0, 0, 0, []), (11, .istore_n 1, 0, 0, 0, []), (12, .iload_n 1, 0, 0, 0, []), (13, .iconst 4, 0, 0, 0, []), (14, .if_icmp .ge 18, 32, 0, 0, []), (17, .aload_n 0, 0, 0, 0, []), (18, .bipush 8, 0, 0, 0, []), (20, .iload_n 1, 0, 0, 0, []), (21, .iadd, 0, 0, 0, []), (22, .iload_n 1, 0, 0, 0, []), (23, .invokevirtual 214, 132, 3, 0, [(0, 1227)]), (26, .iinc 1 1, 0, 0, 0, []), (29, .goto (-17), 12, 0, 0, []), (32, .aload_n 0, 0, 0, 0, []), (33, .aload_n 0, 0, 0, 0, []), (34, .getfield 220, 11, 22, 0, [(0, 918)]), (37, .putfield 49, 11, 15, 0, [(0, 911)]), (40, .aload_n 0, 0, 0, 0, []), (41, .invokevirtual 227, 195, 1, 1, [(0, 1267)]), (44, .ireturn, 0, 0, 0, [])]
abbrev mX11_back : am_M := (yX11_back, cX11_back, 2, some .int, 11, am_lk tbX11_back)
def tbX11_count : List (Nat × am_I) := [(0, .iconst 0, 0, 0, 0, []), (1, .istore_n 2, 0, 0, 0, []), (2, .iconst 0, 0, 0, 0, []), (3, .istore_n 3, 0, 0, 0, []), (4, .iconst 0, 0, 0, 0, []), (5, .istore 4, 0, 0, 0, []), (7, .iload 4, 0, 0, 0, []), (9, .iconst 4, 0, 0, 0, []), (10, .if_icmp .ge 46, 56, 0, 0, []), (13, .iload_n 2, 0, 0, 0, []), (14, .aload_n 0, 0, 0, 0, []), (15, .getfield 53, 11, 16, 1, [(0, 912)]), (18, .iload 4, 0, 0, 0, []), (20, .iaload, 0, 0, 0, []), (21, .ifCond .le 7, 28, 0, 0, []), (24, .iconst 1, 0, 0, 0, []), (25, .goto 4, 29, 0, 0, []), (28, .iconst 0, 0, 0, 0, []), (29, .iadd, 0, 0, 0, []), (30, .istore_n 2, 0, 0, 0, []), (31, .iload_n 3, 0, 0, 0, []), (32, .aload_n 0, 0, 0, 0, []), (33, .getfield 59, 11, 18, 1, [(0, 914)]), (36, .iload 4, 0, 0, 0, []), (38, .iaload, 0, 0, 0, []), (39, .iconst (-1), 0, 0, 0, []), (40, .if_icmp .eq 7, 47, 0, 0, []), (43, .iconst 1, 0, 0, 0, []), (44, .goto 4, 48, 0, 0, []), (47, .iconst 0, 0, 0, 0, []), (48, .iadd, 0, 0, 0, []), (49, .istore_n 3, 0, 0, 0, []), (50, .iinc 4 1, 0, 0, 0, []), (53, .goto (-46), 7, 0, 0, []), (56, .iload_n 1, 0, 0, 0, []), (57, .ifCond .ne 10, 67, 0, 0, []), (60, .aload_n 0, 0, 0, 0, []), (61, .invokevirtual 227, 195, 1, 1, [(0, 1267)]), (64, .goto 35, 99, 0, 0, []), (67, .iload_n 1, 0, 0, 0, []), (68, .iconst 1, 0, 0, 0, []), (69, .if_icmp .ne 10, 79, 0, 0, []), (72, .aload_n 0, 0, 0, 0, []), (73, .getfield 49, 11, 15, 0, [(0, 911)]), (76, .goto 23, 99, 0, 0, []), (79, .iload_n 1, 0, 0, 0, []), (80, .iconst 2, 0, 0, 0, []), (81, .if_icmp .ne 7, 88, 0, 0, []), (84, .iload_n 2, 0, 0, 0, []), (85, .goto 14, 99, 0, 0, []), (88, .iload_n 1, 0, 0, 0, []), (89, .iconst 3, 0, 0, 0, []), (90, .if_icmp .ne 7, 97, 0, 0, []), (93, .iload_n 3, 0, 0, 0, []), (94, .goto 5, 99, 0, 0, []), (97, .bipush (-2), 0, 0, 0, []), (99, .ireturn, 0, 0, 0, [])]
abbrev mX11_count : am_M := (yX11_count, cX11_count, 5, some .int, 11, am_lk tbX11_count)
def am_ml0 : List am_M := [mJ_bitCount, mJ_ntz, mX0_findIn, mX0_say, mX0_findInNumbers, mX0_findInTwos, mX0_lacksOneFor, mX1_findIn, mX1_sortForTwo, mX1_sortForThree, mX2_rest, mX2_sum, mX2_difference, mX2_product, mX2_inverse, mX2_columnCount, mX2_tellOf, mX3_isEmpty, mX3_keepField, mX3_keepView, mX3_letGo, mX5_clear, mX5_put, mX5_putCode, mX5_codeOf]
def am_ml1 : List am_M := [mX5_emptyEchelon, mX5_rankOf, mX5_enter, mX5_keepLeft, mX5_leave, mX6_readFrom, mX6_newSet, mX6_canMatch, mX6_agrees, mX7_isMissing, mX7_become, mX7_hasPlaces, mX7_numberAt, mX7_put, mX7_weightOf, mX8_all, mX8_rankOf, mX8_fullRank, mX8_become, mX8_becomeUniform, mX8_becomeByColumns, mX8_becomeByBases, mX8_becomeDual, mX8_becomeMinor, mX8_spreadOver]
def am_ml2 : List am_M := [mX8_becomeUnion, mX8_becomeRenumbered, mX8_leastUnlike, mX8_spanOf, mX8_isFree, mX8_isBase, mX8_isCircuit, mX8_isOfSort, mX8_countOf, mX8_findNumber, mX8_firstBase, mX8_heaviestBase, mX8_isUniform, mX8_isSevenPointPlane, mX8_linesThrough, mX9_countUpTo, mX9_firstCode, mX9_layOut, mX9_layOutColumn, mX9_addPlace, mX9_join, mX9_fill, mX9_keep, mX9_isLastOfColumn, mX9_fits]
def am_ml3 : List am_M := [mX10_reckon, mX10_uniform, mX10_columns, mX10_tell, mX10_cause, mX10_rank, mX10_span, mX10_sorts, mX10_many, mX10_at, mX10_best, mX10_dual, mX10_minor, mX10_union, mX10_renumber, mX10_same, mX10_alike, mX10_writings, mX10_writes, mX10_clash, mX10_excluded, mX10_seed, mX10_deal, mX10_chance, mX10_hold]
def am_ml4 : List am_M := [mX10_held, mX10_take, mX10_sheet, mX10_write, mX10_item, mX10_copy, mX10_list, mX10_image, mX10_back, mX10_count, mX10_isBelow, mX10_isElementCount, mX10_isDealt, mX10_isSetOf, mX10_refusalOfPlace, mX10_drawColumns, mX10_elementsOfAll, mX10_fullHolds, mX10_sheetsThere, mX11_in, mX11_has, mX11_bits, mX11_plus, mX11_minus, mX11_times]
def am_ml5 : List am_M := [mX11_by, mX11_isField, mX11_reckon, mX11_isView, mX11_all, mX11_r, mX11_total, mX11_copies, mX11_uniform, mX11_rankOf, mX11_byColumns, mX11_columns, mX11_isCause, mX11_isTold, mX11_hasCause, mX11_tell, mX11_cause, mX11_isSet, mX11_rank, mX11_spanOf, mX11_span, mX11_isFree, mX11_isOf, mX11_sorts, mX11_countOf]
def am_ml6 : List am_M := [mX11_many, mX11_at, mX11_weightOf, mX11_best, mX11_duals, mX11_dual, mX11_spread, mX11_minors, mX11_minor, mX11_union, mX11_renumber, mX11_areSame, mX11_same, mX11_fits, mX11_alike, mX11_firstBase, mX11_joins, mX11_laysPattern, mX11_isWriting, mX11_goesOn, mX11_writingsOf, mX11_writings, mX11_writes, mX11_clash, mX11_isAll]
def am_ml7 : List am_M := [mX11_isSevens, mX11_sortOf, mX11_excluded, mX11_seed, mX11_dealt, mX11_isDeal, mX11_deal, mX11_chance, mX11_isHold, mX11_hold, mX11_held, mX11_take, mX11_isSheet, mX11_laysSheet, mX11_sheet, mX11_wrongAt, mX11_write, mX11_item, mX11_copy, mX11_list, mX11_elements, mX11_image, mX11_back, mX11_count]
def am_ml : List am_M := am_ml0 ++ (am_ml1 ++ (am_ml2 ++ (am_ml3 ++ (am_ml4 ++ (am_ml5 ++ (am_ml6 ++ (am_ml7)))))))
def am_mt (j : Nat) : Option am_M := am_ml[j]?
abbrev jJ_bitCount : Nat := 0
abbrev jJ_ntz : Nat := 1
abbrev jX0_findIn : Nat := 2
abbrev jX0_say : Nat := 3
abbrev jX0_findInNumbers : Nat := 4
abbrev jX0_findInTwos : Nat := 5
abbrev jX0_lacksOneFor : Nat := 6
abbrev jX1_findIn : Nat := 7
abbrev jX1_sortForTwo : Nat := 8
abbrev jX1_sortForThree : Nat := 9
abbrev jX2_rest : Nat := 10
abbrev jX2_sum : Nat := 11
abbrev jX2_difference : Nat := 12
abbrev jX2_product : Nat := 13
abbrev jX2_inverse : Nat := 14
abbrev jX2_columnCount : Nat := 15
abbrev jX2_tellOf : Nat := 16
abbrev jX3_isEmpty : Nat := 17
abbrev jX3_keepField : Nat := 18
abbrev jX3_keepView : Nat := 19
abbrev jX3_letGo : Nat := 20
abbrev jX5_clear : Nat := 21
abbrev jX5_put : Nat := 22
abbrev jX5_putCode : Nat := 23
abbrev jX5_codeOf : Nat := 24
abbrev jX5_emptyEchelon : Nat := 25
abbrev jX5_rankOf : Nat := 26
abbrev jX5_enter : Nat := 27
abbrev jX5_keepLeft : Nat := 28
abbrev jX5_leave : Nat := 29
abbrev jX6_readFrom : Nat := 30
abbrev jX6_newSet : Nat := 31
abbrev jX6_canMatch : Nat := 32
abbrev jX6_agrees : Nat := 33
abbrev jX7_isMissing : Nat := 34
abbrev jX7_become : Nat := 35
abbrev jX7_hasPlaces : Nat := 36
abbrev jX7_numberAt : Nat := 37
abbrev jX7_put : Nat := 38
abbrev jX7_weightOf : Nat := 39
abbrev jX8_all : Nat := 40
abbrev jX8_rankOf : Nat := 41
abbrev jX8_fullRank : Nat := 42
abbrev jX8_become : Nat := 43
abbrev jX8_becomeUniform : Nat := 44
abbrev jX8_becomeByColumns : Nat := 45
abbrev jX8_becomeByBases : Nat := 46
abbrev jX8_becomeDual : Nat := 47
abbrev jX8_becomeMinor : Nat := 48
abbrev jX8_spreadOver : Nat := 49
abbrev jX8_becomeUnion : Nat := 50
abbrev jX8_becomeRenumbered : Nat := 51
abbrev jX8_leastUnlike : Nat := 52
abbrev jX8_spanOf : Nat := 53
abbrev jX8_isFree : Nat := 54
abbrev jX8_isBase : Nat := 55
abbrev jX8_isCircuit : Nat := 56
abbrev jX8_isOfSort : Nat := 57
abbrev jX8_countOf : Nat := 58
abbrev jX8_findNumber : Nat := 59
abbrev jX8_firstBase : Nat := 60
abbrev jX8_heaviestBase : Nat := 61
abbrev jX8_isUniform : Nat := 62
abbrev jX8_isSevenPointPlane : Nat := 63
abbrev jX8_linesThrough : Nat := 64
abbrev jX9_countUpTo : Nat := 65
abbrev jX9_firstCode : Nat := 66
abbrev jX9_layOut : Nat := 67
abbrev jX9_layOutColumn : Nat := 68
abbrev jX9_addPlace : Nat := 69
abbrev jX9_join : Nat := 70
abbrev jX9_fill : Nat := 71
abbrev jX9_keep : Nat := 72
abbrev jX9_isLastOfColumn : Nat := 73
abbrev jX9_fits : Nat := 74
abbrev jX10_reckon : Nat := 75
abbrev jX10_uniform : Nat := 76
abbrev jX10_columns : Nat := 77
abbrev jX10_tell : Nat := 78
abbrev jX10_cause : Nat := 79
abbrev jX10_rank : Nat := 80
abbrev jX10_span : Nat := 81
abbrev jX10_sorts : Nat := 82
abbrev jX10_many : Nat := 83
abbrev jX10_at : Nat := 84
abbrev jX10_best : Nat := 85
abbrev jX10_dual : Nat := 86
abbrev jX10_minor : Nat := 87
abbrev jX10_union : Nat := 88
abbrev jX10_renumber : Nat := 89
abbrev jX10_same : Nat := 90
abbrev jX10_alike : Nat := 91
abbrev jX10_writings : Nat := 92
abbrev jX10_writes : Nat := 93
abbrev jX10_clash : Nat := 94
abbrev jX10_excluded : Nat := 95
abbrev jX10_seed : Nat := 96
abbrev jX10_deal : Nat := 97
abbrev jX10_chance : Nat := 98
abbrev jX10_hold : Nat := 99
abbrev jX10_held : Nat := 100
abbrev jX10_take : Nat := 101
abbrev jX10_sheet : Nat := 102
abbrev jX10_write : Nat := 103
abbrev jX10_item : Nat := 104
abbrev jX10_copy : Nat := 105
abbrev jX10_list : Nat := 106
abbrev jX10_image : Nat := 107
abbrev jX10_back : Nat := 108
abbrev jX10_count : Nat := 109
abbrev jX10_isBelow : Nat := 110
abbrev jX10_isElementCount : Nat := 111
abbrev jX10_isDealt : Nat := 112
abbrev jX10_isSetOf : Nat := 113
abbrev jX10_refusalOfPlace : Nat := 114
abbrev jX10_drawColumns : Nat := 115
abbrev jX10_elementsOfAll : Nat := 116
abbrev jX10_fullHolds : Nat := 117
abbrev jX10_sheetsThere : Nat := 118
abbrev jX11_in : Nat := 119
abbrev jX11_has : Nat := 120
abbrev jX11_bits : Nat := 121
abbrev jX11_plus : Nat := 122
abbrev jX11_minus : Nat := 123
abbrev jX11_times : Nat := 124
abbrev jX11_by : Nat := 125
abbrev jX11_isField : Nat := 126
abbrev jX11_reckon : Nat := 127
abbrev jX11_isView : Nat := 128
abbrev jX11_all : Nat := 129
abbrev jX11_r : Nat := 130
abbrev jX11_total : Nat := 131
abbrev jX11_copies : Nat := 132
abbrev jX11_uniform : Nat := 133
abbrev jX11_rankOf : Nat := 134
abbrev jX11_byColumns : Nat := 135
abbrev jX11_columns : Nat := 136
abbrev jX11_isCause : Nat := 137
abbrev jX11_isTold : Nat := 138
abbrev jX11_hasCause : Nat := 139
abbrev jX11_tell : Nat := 140
abbrev jX11_cause : Nat := 141
abbrev jX11_isSet : Nat := 142
abbrev jX11_rank : Nat := 143
abbrev jX11_spanOf : Nat := 144
abbrev jX11_span : Nat := 145
abbrev jX11_isFree : Nat := 146
abbrev jX11_isOf : Nat := 147
abbrev jX11_sorts : Nat := 148
abbrev jX11_countOf : Nat := 149
abbrev jX11_many : Nat := 150
abbrev jX11_at : Nat := 151
abbrev jX11_weightOf : Nat := 152
abbrev jX11_best : Nat := 153
abbrev jX11_duals : Nat := 154
abbrev jX11_dual : Nat := 155
abbrev jX11_spread : Nat := 156
abbrev jX11_minors : Nat := 157
abbrev jX11_minor : Nat := 158
abbrev jX11_union : Nat := 159
abbrev jX11_renumber : Nat := 160
abbrev jX11_areSame : Nat := 161
abbrev jX11_same : Nat := 162
abbrev jX11_fits : Nat := 163
abbrev jX11_alike : Nat := 164
abbrev jX11_firstBase : Nat := 165
abbrev jX11_joins : Nat := 166
abbrev jX11_laysPattern : Nat := 167
abbrev jX11_isWriting : Nat := 168
abbrev jX11_goesOn : Nat := 169
abbrev jX11_writingsOf : Nat := 170
abbrev jX11_writings : Nat := 171
abbrev jX11_writes : Nat := 172
abbrev jX11_clash : Nat := 173
abbrev jX11_isAll : Nat := 174
abbrev jX11_isSevens : Nat := 175
abbrev jX11_sortOf : Nat := 176
abbrev jX11_excluded : Nat := 177
abbrev jX11_seed : Nat := 178
abbrev jX11_dealt : Nat := 179
abbrev jX11_isDeal : Nat := 180
abbrev jX11_deal : Nat := 181
abbrev jX11_chance : Nat := 182
abbrev jX11_isHold : Nat := 183
abbrev jX11_hold : Nat := 184
abbrev jX11_held : Nat := 185
abbrev jX11_take : Nat := 186
abbrev jX11_isSheet : Nat := 187
abbrev jX11_laysSheet : Nat := 188
abbrev jX11_sheet : Nat := 189
abbrev jX11_wrongAt : Nat := 190
abbrev jX11_write : Nat := 191
abbrev jX11_item : Nat := 192
abbrev jX11_copy : Nat := 193
abbrev jX11_list : Nat := 194
abbrev jX11_elements : Nat := 195
abbrev jX11_image : Nat := 196
abbrev jX11_back : Nat := 197
abbrev jX11_count : Nat := 198
end
section
/-! ===== the constructors (by gen11n.py) ===== -/
def tbX0_init : List (Nat × am_I) := [(0, .aload_n 0, 0, 0, 0, []), (1, .invokespecial 3, 990, 0, 0, [(0, 130)]), (4, .aload_n 0, 0, 0, 0, []), (5, .iconst (-1), 0, 0, 0, []), (6, .putfield 11, 0, 1, 0, [(0, 133)]), (9, .aload_n 0, 0, 0, 0, []), (10, .iconst (-1), 0, 0, 0, []), (11, .putfield 15, 0, 2, 0, [(0, 135)]), (14, .aload_n 0, 0, 0, 0, []), (15, .iconst (-1), 0, 0, 0, []), (16, .putfield 18, 0, 3, 0, [(0, 137)]), (19, .aload_n 0, 0, 0, 0, []), (20, .sipush 128, 0, 0, 0, []), (23, .newarray .boolean, 0, 0, 0, [(0, 151)]), (25, .putfield 21, 0, 4, 6, [(0, 139)]), (28, .return_, 0, 0, 0, [])]
abbrev mX0_init : am_M := (yX0_init, cX0_init, 1, none, 0, am_lk tbX0_init)
def tbX1_init : List (Nat × am_I) := [(0, .aload_n 0, 0, 0, 0, []), (1, .invokespecial 1, 990, 0, 0, [(0, 256)]), (4, .aload_n 0, 0, 0, 0, []), (5, .new 7, 8, 97, 61, [(0, 257)]), (8, .dup, 0, 0, 0, []), (9, .invokespecial 9, 8, 1, 0, [(0, 258)]), (12, .putfield 10, 1, 0, 6, [(0, 259)]), (15, .aload_n 0, 0, 0, 0, []), (16, .new 7, 8, 97, 61, [(0, 257)]), (19, .dup, 0, 0, 0, []), (20, .invokespecial 9, 8, 1, 0, [(0, 258)]), (23, .putfield 16, 1, 1, 6, [(0, 260)]), (26, .return_, 0, 0, 0, [])]
abbrev mX1_init : am_M := (yX1_init, cX1_init, 1, none, 1, am_lk tbX1_init)
def tbX2_init : List (Nat × am_I) := [(0, .aload_n 0, 0, 0, 0, []), (1, .invokespecial 3, 990, 0, 0, [(0, 163)]), (4, .aload_n 0, 0, 0, 0, []), (5, .iconst 5, 0, 0, 0, []), (6, .newarray .int, 0, 0, 0, [(0, 113)]), (8, .putfield 11, 2, 1, 6, [(0, 172)]), (11, .aload_n 0, 0, 0, 0, []), (12, .iload_n 1, 0, 0, 0, []), (13, .putfield 15, 2, 0, 5, [(0, 168)]), (16, .iconst 1, 0, 0, 0, []), (17, .istore_n 2, 0, 0, 0, []), (18, .iload_n 2, 0, 0, 0, []), (19, .iload_n 1, 0, 0, 0, []), (20, .if_icmp .ge 44, 64, 0, 0, []), (23, .iload_n 2, 0, 0, 0, []), (24, .iconst 5, 0, 0, 0, []), (25, .if_icmp .ge 39, 64, 0, 0, []), (28, .iconst 1, 0, 0, 0, []), (29, .istore_n 3, 0, 0, 0, []), (30, .iload_n 3, 0, 0, 0, []), (31, .iload_n 1, 0, 0, 0, []), (32, .if_icmp .ge 26, 58, 0, 0, []), (35, .aload_n 0, 0, 0, 0, []), (36, .iload_n 2, 0, 0, 0, []), (37, .iload_n 3, 0, 0, 0, []), (38, .invokevirtual 19, 13, 3, 1, [(0, 164)]), (41, .iconst 1, 0, 0, 0, []), (42, .if_icmp .ne 10, 52, 0, 0, []), (45, .aload_n 0, 0, 0, 0, []), (46, .getfield 11, 2, 1, 1, [(0, 172)]), (49, .iload_n 2, 0, 0, 0, []), (50, .iload_n 3, 0, 0, 0, []), (51, .iastore, 0, 0, 0, []), (52, .iinc 3 1, 0, 0, 0, []), (55, .goto (-25), 30, 0, 0, []), (58, .iinc 2 1, 0, 0, 0, []), (61, .goto (-43), 18, 0, 0, []), (64, .return_, 0, 0, 0, [])]
abbrev mX2_init : am_M := (yX2_init, cX2_init, 4, none, 2, am_lk tbX2_init)
def tbX3_init : List (Nat × am_I) := [(0, .aload_n 0, 0, 0, 0, []), (1, .invokespecial 1, 990, 0, 0, [(0, 294)]), (4, .aload_n 0, 0, 0, 0, []), (5, .new 7, 8, 97, 61, [(0, 295)]), (8, .dup, 0, 0, 0, []), (9, .invokespecial 9, 8, 1, 0, [(0, 296)]), (12, .putfield 10, 3, 2, 6, [(0, 300)]), (15, .return_, 0, 0, 0, [])]
abbrev mX3_init : am_M := (yX3_init, cX3_init, 1, none, 3, am_lk tbX3_init)
def tbX4_init : List (Nat × am_I) := [(0, .aload_n 0, 0, 0, 0, []), (1, .invokespecial 3, 990, 0, 0, [(0, 95)]), (4, .aload_n 0, 0, 0, 0, []), (5, .iconst 4, 0, 0, 0, []), (6, .anewarray 9, 3, 0, 0, [(0, 96)]), (9, .putfield 11, 4, 2, 6, [(0, 116)]), (12, .iconst 0, 0, 0, 0, []), (13, .istore_n 1, 0, 0, 0, []), (14, .iload_n 1, 0, 0, 0, []), (15, .iconst 4, 0, 0, 0, []), (16, .if_icmp .ge 22, 38, 0, 0, []), (19, .aload_n 0, 0, 0, 0, []), (20, .getfield 11, 4, 2, 1, [(0, 116)]), (23, .iload_n 1, 0, 0, 0, []), (24, .new 9, 8, 97, 61, [(0, 96)]), (27, .dup, 0, 0, 0, []), (28, .invokespecial 17, 8, 1, 0, [(0, 98)]), (31, .aastore, 0, 0, 0, []), (32, .iinc 1 1, 0, 0, 0, []), (35, .goto (-21), 14, 0, 0, []), (38, .return_, 0, 0, 0, [])]
abbrev mX4_init : am_M := (yX4_init, cX4_init, 2, none, 4, am_lk tbX4_init)
def tbX5_init : List (Nat × am_I) := [(0, .aload_n 0, 0, 0, 0, []), (1, .invokespecial 3, 990, 0, 0, [(0, 157)]), (4, .aload_n 0, 0, 0, 0, []), (5, .new 9, 2, 159, 64, [(0, 158)]), (8, .dup, 0, 0, 0, []), (9, .iconst 2, 0, 0, 0, []), (10, .invokespecial 11, 2, 2, 0, [(0, 160)]), (13, .putfield 14, 5, 0, 2, [(0, 178)]), (16, .aload_n 0, 0, 0, 0, []), (17, .bipush 49, 0, 0, 0, []), (19, .newarray .int, 0, 0, 0, [(0, 113)]), (21, .putfield 20, 5, 1, 6, [(0, 179)]), (24, .aload_n 0, 0, 0, 0, []), (25, .bipush 49, 0, 0, 0, []), (27, .newarray .int, 0, 0, 0, [(0, 113)]), (29, .putfield 24, 5, 2, 6, [(0, 180)]), (32, .aload_n 0, 0, 0, 0, []), (33, .bipush 7, 0, 0, 0, []), (35, .newarray .boolean, 0, 0, 0, [(0, 151)]), (37, .putfield 27, 5, 3, 6, [(0, 181)]), (40, .aload_n 0, 0, 0, 0, []), (41, .bipush 7, 0, 0, 0, []), (43, .newarray .int, 0, 0, 0, [(0, 113)]), (45, .putfield 31, 5, 4, 6, [(0, 182)]), (48, .aload_n 0, 0, 0, 0, []), (49, .bipush 7, 0, 0, 0, []), (51, .newarray .int, 0, 0, 0, [(0, 113)]), (53, .putfield 34, 5, 5, 6, [(0, 183)]), (56, .return_, 0, 0, 0, [])]
abbrev mX5_init : am_M := (yX5_init, cX5_init, 1, none, 5, am_lk tbX5_init)
def tbX6_init : List (Nat × am_I) := [(0, .aload_n 0, 0, 0, 0, []), (1, .invokespecial 3, 990, 0, 0, [(0, 283)]), (4, .aload_n 0, 0, 0, 0, []), (5, .bipush 7, 0, 0, 0, []), (7, .newarray .int, 0, 0, 0, [(0, 113)]), (9, .putfield 9, 6, 0, 6, [(0, 284)]), (12, .return_, 0, 0, 0, [])]
abbrev mX6_init : am_M := (yX6_init, cX6_init, 1, none, 6, am_lk tbX6_init)
def tbX7_init : List (Nat × am_I) := [(0, .aload_n 0, 0, 0, 0, []), (1, .invokespecial 3, 990, 0, 0, [(0, 313)]), (4, .aload_n 0, 0, 0, 0, []), (5, .iconst (-1), 0, 0, 0, []), (6, .putfield 11, 7, 0, 0, [(0, 314)]), (9, .aload_n 0, 0, 0, 0, []), (10, .bipush 64, 0, 0, 0, []), (12, .newarray .int, 0, 0, 0, [(0, 113)]), (14, .putfield 15, 7, 2, 6, [(0, 320)]), (17, .return_, 0, 0, 0, [])]
abbrev mX7_init : am_M := (yX7_init, cX7_init, 1, none, 7, am_lk tbX7_init)
def tbX8_init : List (Nat × am_I) := [(0, .aload_n 0, 0, 0, 0, []), (1, .invokespecial 3, 990, 0, 0, [(0, 101)]), (4, .aload_n 0, 0, 0, 0, []), (5, .sipush 128, 0, 0, 0, []), (8, .newarray .int, 0, 0, 0, [(0, 113)]), (10, .putfield 9, 8, 1, 6, [(0, 107)]), (13, .return_, 0, 0, 0, [])]
abbrev mX8_init : am_M := (yX8_init, cX8_init, 1, none, 8, am_lk tbX8_init)
def tbX9_init : List (Nat × am_I) := [(0, .aload_n 0, 0, 0, 0, []), (1, .invokespecial 3, 990, 0, 0, [(0, 206)]), (4, .aload_n 0, 0, 0, 0, []), (5, .new 9, 5, 153, 63, [(0, 207)]), (8, .dup, 0, 0, 0, []), (9, .invokespecial 11, 5, 1, 0, [(0, 208)]), (12, .putfield 12, 9, 0, 6, [(0, 213)]), (15, .aload_n 0, 0, 0, 0, []), (16, .bipush 12, 0, 0, 0, []), (18, .newarray .int, 0, 0, 0, [(0, 113)]), (20, .putfield 18, 9, 1, 6, [(0, 215)]), (23, .aload_n 0, 0, 0, 0, []), (24, .bipush 12, 0, 0, 0, []), (26, .newarray .int, 0, 0, 0, [(0, 113)]), (28, .putfield 22, 9, 2, 6, [(0, 216)]), (31, .aload_n 0, 0, 0, 0, []), (32, .bipush 12, 0, 0, 0, []), (34, .newarray .boolean, 0, 0, 0, [(0, 151)]), (36, .putfield 25, 9, 3, 6, [(0, 217)]), (39, .aload_n 0, 0, 0, 0, []), (40, .bipush 14, 0, 0, 0, []), (42, .newarray .int, 0, 0, 0, [(0, 113)]), (44, .putfield 29, 9, 4, 6, [(0, 218)]), (47, .aload_n 0, 0, 0, 0, []), (48, .bipush 7, 0, 0, 0, []), (50, .newarray .int, 0, 0, 0, [(0, 113)]), (52, .putfield 32, 9, 5, 6, [(0, 219)]), (55, .aload_n 0, 0, 0, 0, []), (56, .new 35, 8, 97, 61, [(0, 209)]), (59, .dup, 0, 0, 0, []), (60, .invokespecial 37, 8, 1, 0, [(0, 210)]), (63, .putfield 38, 9, 6, 2, [(0, 220)]), (66, .aload_n 0, 0, 0, 0, []), (67, .new 42, 2, 159, 64, [(0, 211)]), (70, .dup, 0, 0, 0, []), (71, .iconst 2, 0, 0, 0, []), (72, .invokespecial 44, 2, 2, 0, [(0, 212)]), (75, .putfield 47, 9, 7, 2, [(0, 221)]), (78, .return_, 0, 0, 0, [])]
abbrev mX9_init : am_M := (yX9_init, cX9_init, 1, none, 9, am_lk tbX9_init)
def tbX10_init : List (Nat × am_I) := [(0, .aload_n 0, 0, 0, 0, []), (1, .invokespecial 1, 990, 0, 0, [(0, 79)]), (4, .aload_n 0, 0, 0, 0, []), (5, .iconst 4, 0, 0, 0, []), (6, .anewarray 9, 2, 0, 0, [(0, 82)]), (9, .putfield 11, 10, 0, 6, [(0, 329)]), (12, .aload_n 0, 0, 0, 0, []), (13, .iconst 4, 0, 0, 0, []), (14, .anewarray 15, 3, 0, 0, [(0, 84)]), (17, .putfield 17, 10, 1, 6, [(0, 330)]), (20, .aload_n 0, 0, 0, 0, []), (21, .iconst 4, 0, 0, 0, []), (22, .anewarray 21, 4, 0, 0, [(0, 86)]), (25, .putfield 23, 10, 2, 6, [(0, 331)]), (28, .aload_n 0, 0, 0, 0, []), (29, .iconst 4, 0, 0, 0, []), (30, .anewarray 27, 5, 0, 0, [(0, 88)]), (33, .putfield 29, 10, 3, 6, [(0, 332)]), (36, .aload_n 0, 0, 0, 0, []), (37, .new 33, 4, 91, 60, [(0, 90)]), (40, .dup, 0, 0, 0, []), (41, .invokespecial 35, 4, 1, 0, [(0, 92)]), (44, .putfield 36, 10, 4, 6, [(0, 333)]), (47, .aload_n 0, 0, 0, 0, []), (48, .new 40, 0, 126, 62, [(0, 125)]), (51, .dup, 0, 0, 0, []), (52, .invokespecial 42, 0, 1, 0, [(0, 127)]), (55, .putfield 43, 10, 5, 6, [(0, 334)]), (58, .aload_n 0, 0, 0, 0, []), (59, .new 47, 5, 153, 63, [(0, 152)]), (62, .dup, 0, 0, 0, []), (63, .invokespecial 49, 5, 1, 0, [(0, 154)]), (66, .putfield 50, 10, 6, 6, [(0, 335)]), (69, .aload_n 0, 0, 0, 0, []), (70, .new 54, 9, 202, 65, [(0, 201)]), (73, .dup, 0, 0, 0, []), (74, .invokespecial 56, 9, 1, 0, [(0, 203)]), (77, .putfield 57, 10, 7, 6, [(0, 336)]), (80, .aload_n 0, 0, 0, 0, []), (81, .new 61, 1, 252, 66, [(0, 251)]), (84, .dup, 0, 0, 0, []), (85, .invokespecial 63, 1, 1, 0, [(0, 253)]), (88, .putfield 64, 10, 8, 6, [(0, 337)]), (91, .aload_n 0, 0, 0, 0, []), (92, .new 68, 6, 279, 67, [(0, 278)]), (95, .dup, 0, 0, 0, []), (96, .invokespecial 70, 6, 1, 0, [(0, 280)]), (99, .putfield 71, 10, 9, 6, [(0, 338)]), (102, .aload_n 0, 0, 0, 0, []), (103, .new 15, 8, 97, 61, [(0, 84)]), (106, .dup, 0, 0, 0, []), (107, .invokespecial 75, 8, 1, 0, [(0, 288)]), (110, .putfield 76, 10, 10, 6, [(0, 339)]), (113, .aload_n 0, 0, 0, 0, []), (114, .iconst 1, 0, 0, 0, []), (115, .putfield 80, 10, 11, 0, [(0, 340)]), (118, .aload_n 0, 0, 0, 0, []), (119, .getfield 11, 10, 0, 1, [(0, 329)]), (122, .iconst 0, 0, 0, 0, []), (123, .new 9, 2, 159, 64, [(0, 82)]), (126, .dup, 0, 0, 0, []), (127, .iconst 2, 0, 0, 0, []), (128, .invokespecial 84, 2, 2, 0, [(0, 289)]), (131, .aastore, 0, 0, 0, []), (132, .aload_n 0, 0, 0, 0, []), (133, .getfield 11, 10, 0, 1, [(0, 329)]), (136, .iconst 1, 0, 0, 0, []), (137, .new 9, 2, 159, 64, [(0, 82)]), (140, .dup, 0, 0, 0, []), (141, .iconst 3, 0, 0, 0, []), (142, .invokespecial 84, 2, 2, 0, [(0, 289)]), (145, .aastore, 0, 0, 0, []), (146, .aload_n 0, 0, 0, 0, []), (147, .getfield 11, 10, 0, 1, [(0, 329)]), (150, .iconst 2, 0, 0, 0, []), (151, .new 9, 2, 159, 64, [(0, 82)]), (154, .dup, 0, 0, 0, []), (155, .iconst 5, 0, 0, 0, []), (156, .invokespecial 84, 2, 2, 0, [(0, 289)]), (159, .aastore, 0, 0, 0, []), (160, .aload_n 0, 0, 0, 0, []), (161, .getfield 11, 10, 0, 1, [(0, 329)]), (164, .iconst 3, 0, 0, 0, []), (165, .new 9, 2, 159, 64, [(0, 82)]), (168, .dup, 0, 0, 0, []), (169, .iconst 4, 0, 0, 0, []), (170, .invokespecial 84, 2, 2, 0, [(0, 289)]), (173, .aastore, 0, 0, 0, []), (174, .iconst 0, 0, 0, 0, []), (175, .istore_n 1, 0, 0, 0, []), (176, .iload_n 1, 0, 0, 0, []), (177, .iconst 4, 0, 0, 0, []), (178, .if_icmp .ge 22, 200, 0, 0, []), (181, .aload_n 0, 0, 0, 0, []), (182, .getfield 17, 10, 1, 1, [(0, 330)]), (185, .iload_n 1, 0, 0, 0, []), (186, .new 15, 8, 97, 61, [(0, 84)]), (189, .dup, 0, 0, 0, []), (190, .invokespecial 75, 8, 1, 0, [(0, 288)]), (193, .aastore, 0, 0, 0, []), (194, .iinc 1 1, 0, 0, 0, []), (197, .goto (-21), 176, 0, 0, []), (200, .iconst 0, 0, 0, 0, []), (201, .istore_n 1, 0, 0, 0, []), (202, .iload_n 1, 0, 0, 0, []), (203, .iconst 4, 0, 0, 0, []), (204, .if_icmp .ge 22, 226, 0, 0, []), (207, .aload_n 0, 0, 0, 0, []), (208, .getfield 23, 10, 2, 1, [(0, 331)]), (211, .iload_n 1, 0, 0, 0, []), (212, .new 21, 3, 290, 68, [(0, 86)]), (215, .dup, 0, 0, 0, []), (216, .invokespecial 87, 3, 1, 0, [(0, 291)]), (219, .aastore, 0, 0, 0, []), (220, .iinc 1 1, 0, 0, 0, []), (223, .goto (-21), 202, 0, 0, []), (226, .iconst 0, 0, 0, 0, []), (227, .istore_n 1, 0, 0, 0, []), (228, .iload_n 1, 0, 0, 0, []), (229, .iconst 4, 0, 0, 0, []), (230, .if_icmp .ge 22, 252, 0, 0, []), (233, .aload_n 0, 0, 0, 0, []), (234, .getfield 29, 10, 3, 1, [(0, 332)]), (237, .iload_n 1, 0, 0, 0, []), (238, .new 27, 7, 309, 69, [(0, 88)]), (241, .dup, 0, 0, 0, []), (242, .invokespecial 88, 7, 1, 0, [(0, 310)]), (245, .aastore, 0, 0, 0, []), (246, .iinc 1 1, 0, 0, 0, []), (249, .goto (-21), 228, 0, 0, []), (252, .return_, 0, 0, 0, [])]
abbrev mX10_init : am_M := (yX10_init, cX10_init, 2, none, 10, am_lk tbX10_init)
def tbX11_init : List (Nat × am_I) := [(0, .aload_n 0, 0, 0, 0, []), (1, .invokespecial 1, 990, 0, 0, [(0, 895)]), (4, .aload_n 0, 0, 0, 0, []), (5, .iconst 4, 0, 0, 0, []), (6, .newarray .int, 0, 0, 0, [(0, 113)]), (8, .dup, 0, 0, 0, []), (9, .iconst 0, 0, 0, 0, []), (10, .iconst 2, 0, 0, 0, []), (11, .iastore, 0, 0, 0, []), (12, .dup, 0, 0, 0, []), (13, .iconst 1, 0, 0, 0, []), (14, .iconst 3, 0, 0, 0, []), (15, .iastore, 0, 0, 0, []), (16, .dup, 0, 0, 0, []), (17, .iconst 2, 0, 0, 0, []), (18, .iconst 5, 0, 0, 0, []), (19, .iastore, 0, 0, 0, []), (20, .dup, 0, 0, 0, []), (21, .iconst 3, 0, 0, 0, []), (22, .iconst 4, 0, 0, 0, []), (23, .iastore, 0, 0, 0, []), (24, .putfield 7, 11, 0, 6, [(0, 896)]), (27, .aload_n 0, 0, 0, 0, []), (28, .bipush 16, 0, 0, 0, []), (30, .newarray .int, 0, 0, 0, [(0, 113)]), (32, .dup, 0, 0, 0, []), (33, .iconst 0, 0, 0, 0, []), (34, .iconst 0, 0, 0, 0, []), (35, .iastore, 0, 0, 0, []), (36, .dup, 0, 0, 0, []), (37, .iconst 1, 0, 0, 0, []), (38, .iconst 0, 0, 0, 0, []), (39, .iastore, 0, 0, 0, []), (40, .dup, 0, 0, 0, []), (41, .iconst 2, 0, 0, 0, []), (42, .iconst 0, 0, 0, 0, []), (43, .iastore, 0, 0, 0, []), (44, .dup, 0, 0, 0, []), (45, .iconst 3, 0, 0, 0, []), (46, .iconst 0, 0, 0, 0, []), (47, .iastore, 0, 0, 0, []), (48, .dup, 0, 0, 0, []), (49, .iconst 4, 0, 0, 0, []), (50, .iconst 0, 0, 0, 0, []), (51, .iastore, 0, 0, 0, []), (52, .dup, 0, 0, 0, []), (53, .iconst 5, 0, 0, 0, []), (54, .iconst 1, 0, 0, 0, []), (55, .iastore, 0, 0, 0, []), (56, .dup, 0, 0, 0, []), (57, .bipush 6, 0, 0, 0, []), (59, .iconst 2, 0, 0, 0, []), (60, .iastore, 0, 0, 0, []), (61, .dup, 0, 0, 0, []), (62, .bipush 7, 0, 0, 0, []), (64, .iconst 3, 0, 0, 0, []), (65, .iastore, 0, 0, 0, []), (66, .dup, 0, 0, 0, []), (67, .bipush 8, 0, 0, 0, []), (69, .iconst 0, 0, 0, 0, []), (70, .iastore, 0, 0, 0, []), (71, .dup, 0, 0, 0, []), (72, .bipush 9, 0, 0, 0, []), (74, .iconst 2, 0, 0, 0, []), (75, .iastore, 0, 0, 0, []), (76, .dup, 0, 0, 0, []), (77, .bipush 10, 0, 0, 0, []), (79, .iconst 3, 0, 0, 0, []), (80, .iastore, 0, 0, 0, []), (81, .dup, 0, 0, 0, []), (82, .bipush 11, 0, 0, 0, []), (84, .iconst 1, 0, 0, 0, []), (85, .iastore, 0, 0, 0, []), (86, .dup, 0, 0, 0, []), (87, .bipush 12, 0, 0, 0, []), (89, .iconst 0, 0, 0, 0, []), (90, .iastore, 0, 0, 0, []), (91, .dup, 0, 0, 0, []), (92, .bipush 13, 0, 0, 0, []), (94, .iconst 3, 0, 0, 0, []), (95, .iastore, 0, 0, 0, []), (96, .dup, 0, 0, 0, []), (97, .bipush 14, 0, 0, 0, []), (99, .iconst 1, 0, 0, 0, []), (100, .iastore, 0, 0, 0, []), (101, .dup, 0, 0, 0, []), (102, .bipush 15, 0, 0, 0, []), (104, .iconst 2, 0, 0, 0, []), (105, .iastore, 0, 0, 0, []), (106, .putfield 13, 11, 1, 6, [(0, 897)]), (109, .aload_n 0, 0, 0, 0, []), (110, .bipush 14, 0, 0, 0, []), (112, .newarray .int, 0, 0, 0, [(0, 113)]), (114, .putfield 16, 11, 2, 6, [(0, 898)]), (117, .aload_n 0, 0, 0, 0, []), (118, .sipush 1792, 0, 0, 0, []), (121, .newarray .int, 0, 0, 0, [(0, 113)]), (123, .putfield 19, 11, 3, 6, [(0, 899)]), (126, .aload_n 0, 0, 0, 0, []), (127, .bipush 49, 0, 0, 0, []), (129, .newarray .int, 0, 0, 0, [(0, 113)]), (131, .putfield 22, 11, 4, 6, [(0, 900)]), (134, .aload_n 0, 0, 0, 0, []), (135, .bipush 49, 0, 0, 0, []), (137, .newarray .int, 0, 0, 0, [(0, 113)]), (139, .putfield 25, 11, 5, 6, [(0, 901)]), (142, .aload_n 0, 0, 0, 0, []), (143, .iconst 4, 0, 0, 0, []), (144, .newarray .int, 0, 0, 0, [(0, 113)]), (146, .dup, 0, 0, 0, []), (147, .iconst 0, 0, 0, 0, []), (148, .iconst 0, 0, 0, 0, []), (149, .iastore, 0, 0, 0, []), (150, .dup, 0, 0, 0, []), (151, .iconst 1, 0, 0, 0, []), (152, .iconst (-1), 0, 0, 0, []), (153, .iastore, 0, 0, 0, []), (154, .dup, 0, 0, 0, []), (155, .iconst 2, 0, 0, 0, []), (156, .iconst (-1), 0, 0, 0, []), (157, .iastore, 0, 0, 0, []), (158, .dup, 0, 0, 0, []), (159, .iconst 3, 0, 0, 0, []), (160, .iconst (-1), 0, 0, 0, []), (161, .iastore, 0, 0, 0, []), (162, .putfield 28, 11, 6, 6, [(0, 902)]), (165, .aload_n 0, 0, 0, 0, []), (166, .bipush 7, 0, 0, 0, []), (168, .newarray .int, 0, 0, 0, [(0, 113)]), (170, .putfield 31, 11, 7, 6, [(0, 903)]), (173, .aload_n 0, 0, 0, 0, []), (174, .bipush 7, 0, 0, 0, []), (176, .newarray .int, 0, 0, 0, [(0, 113)]), (178, .putfield 34, 11, 8, 6, [(0, 904)]), (181, .aload_n 0, 0, 0, 0, []), (182, .bipush 49, 0, 0, 0, []), (184, .newarray .int, 0, 0, 0, [(0, 113)]), (186, .putfield 37, 11, 9, 6, [(0, 905)]), (189, .aload_n 0, 0, 0, 0, []), (190, .bipush 14, 0, 0, 0, []), (192, .newarray .int, 0, 0, 0, [(0, 113)]), (194, .putfield 40, 11, 10, 6, [(0, 906)]), (197, .aload_n 0, 0, 0, 0, []), (198, .bipush 49, 0, 0, 0, []), (200, .newarray .int, 0, 0, 0, [(0, 113)]), (202, .putfield 43, 11, 11, 6, [(0, 907)]), (205, .aload_n 0, 0, 0, 0, []), (206, .bipush 49, 0, 0, 0, []), (208, .newarray .int, 0, 0, 0, [(0, 113)]), (210, .putfield 46, 11, 12, 6, [(0, 908)]), (213, .aload_n 0, 0, 0, 0, []), (214, .iconst 1, 0, 0, 0, []), (215, .putfield 49, 11, 15, 0, [(0, 911)]), (218, .aload_n 0, 0, 0, 0, []), (219, .iconst 4, 0, 0, 0, []), (220, .newarray .int, 0, 0, 0, [(0, 113)]), (222, .putfield 53, 11, 16, 6, [(0, 912)]), (225, .aload_n 0, 0, 0, 0, []), (226, .iconst 4, 0, 0, 0, []), (227, .newarray .int, 0, 0, 0, [(0, 113)]), (229, .putfield 56, 11, 17, 6, [(0, 913)]), (232, .aload_n 0, 0, 0, 0, []), (233, .iconst 4, 0, 0, 0, []), (234, .newarray .int, 0, 0, 0, [(0, 113)]), (236, .dup, 0, 0, 0, []), (237, .iconst 0, 0, 0, 0, []), (238, .iconst (-1), 0, 0, 0, []), (239, .iastore, 0, 0, 0, []), (240, .dup, 0, 0, 0, []), (241, .iconst 1, 0, 0, 0, []), (242, .iconst (-1), 0, 0, 0, []), (243, .iastore, 0, 0, 0, []), (244, .dup, 0, 0, 0, []), (245, .iconst 2, 0, 0, 0, []), (246, .iconst (-1), 0, 0, 0, []), (247, .iastore, 0, 0, 0, []), (248, .dup, 0, 0, 0, []), (249, .iconst 3, 0, 0, 0, []), (250, .iconst (-1), 0, 0, 0, []), (251, .iastore, 0, 0, 0, []), (252, .putfield 59, 11, 18, 6, [(0, 914)]), (255, .aload_n 0, 0, 0, 0, []), (256, .iconst 4, 0, 0, 0, []), (257, .newarray .int, 0, 0, 0, [(0, 113)]), (259, .putfield 62, 11, 19, 6, [(0, 915)]), (262, .aload_n 0, 0, 0, 0, []), (263, .sipush 256, 0, 0, 0, []), (266, .newarray .int, 0, 0, 0, [(0, 113)]), (268, .putfield 65, 11, 20, 6, [(0, 916)]), (271, .return_, 0, 0, 0, [])]
abbrev mX11_init : am_M := (yX11_init, cX11_init, 1, none, 11, am_lk tbX11_init)
def am_nl : List am_M := [mX0_init, mX1_init, mX2_init, mX3_init, mX4_init, mX5_init, mX6_init, mX7_init, mX8_init, mX9_init, mX10_init, mX11_init]
def am_nt (j : Nat) : Option am_M := am_nl[j]?
def am_ncl : List Nat := [1, 4, 1, 2, 9, 7, 1, 1, 1, 17, 87, 18]
def am_nc (j : Nat) : Nat := am_ncl.getD j 0
set_option maxRecDepth 100000 in
theorem nkX0_init : am_nok am_mt am_nt mX0_init := ⟨(129, 62, 128), tbX0_init, by decide +kernel, am_lk_mem _⟩
set_option maxRecDepth 100000 in
theorem nkX1_init : am_nok am_mt am_nt mX1_init := ⟨(255, 66, 254), tbX1_init, by decide +kernel, am_lk_mem _⟩
set_option maxRecDepth 100000 in
theorem nkX2_init : am_nok am_mt am_nt mX2_init := ⟨(162, 64, 161), tbX2_init, by decide +kernel, am_lk_mem _⟩
set_option maxRecDepth 100000 in
theorem nkX3_init : am_nok am_mt am_nt mX3_init := ⟨(293, 68, 292), tbX3_init, by decide +kernel, am_lk_mem _⟩
set_option maxRecDepth 100000 in
theorem nkX4_init : am_nok am_mt am_nt mX4_init := ⟨(94, 60, 93), tbX4_init, by decide +kernel, am_lk_mem _⟩
set_option maxRecDepth 100000 in
theorem nkX5_init : am_nok am_mt am_nt mX5_init := ⟨(156, 63, 155), tbX5_init, by decide +kernel, am_lk_mem _⟩
set_option maxRecDepth 100000 in
theorem nkX6_init : am_nok am_mt am_nt mX6_init := ⟨(282, 67, 281), tbX6_init, by decide +kernel, am_lk_mem _⟩
set_option maxRecDepth 100000 in
theorem nkX7_init : am_nok am_mt am_nt mX7_init := ⟨(312, 69, 311), tbX7_init, by decide +kernel, am_lk_mem _⟩
set_option maxRecDepth 100000 in
theorem nkX8_init : am_nok am_mt am_nt mX8_init := ⟨(100, 61, 99), tbX8_init, by decide +kernel, am_lk_mem _⟩
set_option maxRecDepth 100000 in
theorem nkX9_init : am_nok am_mt am_nt mX9_init := ⟨(205, 65, 204), tbX9_init, by decide +kernel, am_lk_mem _⟩
set_option maxRecDepth 100000 in
theorem nkX10_init : am_nok am_mt am_nt mX10_init := ⟨(78, 59, 77), tbX10_init, by decide +kernel, am_lk_mem _⟩
set_option maxRecDepth 100000 in
theorem nkX11_init : am_nok am_mt am_nt mX11_init := ⟨(894, 70, 893), tbX11_init, by decide +kernel, am_lk_mem _⟩
theorem am_nk_all : ∀ N ∈ am_nl, am_nok am_mt am_nt N := List.forall_mem_cons.mpr ⟨nkX0_init, List.forall_mem_cons.mpr ⟨nkX1_init, List.forall_mem_cons.mpr ⟨nkX2_init, List.forall_mem_cons.mpr ⟨nkX3_init, List.forall_mem_cons.mpr ⟨nkX4_init, List.forall_mem_cons.mpr ⟨nkX5_init, List.forall_mem_cons.mpr ⟨nkX6_init, List.forall_mem_cons.mpr ⟨nkX7_init, List.forall_mem_cons.mpr ⟨nkX8_init, List.forall_mem_cons.mpr ⟨nkX9_init, List.forall_mem_cons.mpr ⟨nkX10_init, List.forall_mem_cons.mpr ⟨nkX11_init, fun _ h => by cases h⟩⟩⟩⟩⟩⟩⟩⟩⟩⟩⟩⟩
theorem am_nt_ok : ∀ j N, am_nt j = some N → am_nok am_mt am_nt N := fun j N h => am_nk_all N (List.mem_of_getElem? h)
set_option maxRecDepth 100000 in
theorem am_sys2 : am_sysP2 := ⟨am_in_T (h := 80) (by decide +kernel) rfl, am_in_T (h := 81) (by decide +kernel) rfl⟩
def am_w0 : am_W := [.inr (10, am_dv 10)]
def am_o1 : Option am_W := am_new am_mt am_nt am_nc 6 10 [.ref 0] am_w0
def am_w1 : am_W := am_o1.getD [] ++ [.inr (11, am_dv 11)]
def am_o2 : Option am_W := am_new am_mt am_nt am_nc 6 11 [.ref 88] am_w1
def am_g0 : am_W := am_o2.getD []
def am_vk : Value → Nat × Int
  | .int x => (0, x.toInt)
  | .ref k => (1, k)
  | .null => (2, 0)
  | _ => (3, 0)
def am_shp : am_C → Nat × Nat × Nat × List (Nat × Int)
  | .inr (ci, fs) => (0, ci, 0, fs.map am_vk)
  | .inl (t, n, .inl f) => (1, t, n, (List.range n).map (fun j => (0, (f j).toInt)))
  | .inl (t, n, .inr f) => (2, t, n, (List.range n).map (fun j => match f j with
    | some k => (1, (k : Int))
    | none => (2, 0)))
def am_sh0 : List (Nat × Nat × Nat × List (Nat × Int)) := [(0, 10, 0, [(1, 1), (1, 2), (1, 3), (1, 4), (1, 5), (1, 15), (1, 17), (1, 25), (1, 43), (1, 48), (1, 50), (0, 1)]), (2, 2, 4, [(1, 52), (1, 54), (1, 56), (1, 58)]), (2, 3, 4, [(1, 60), (1, 62), (1, 64), (1, 66)]), (2, 4, 4, [(1, 68), (1, 71), (1, 74), (1, 77)]), (2, 5, 4, [(1, 80), (1, 82), (1, 84), (1, 86)]), (0, 4, 0, [(0, 0), (0, 0), (1, 6)]), (2, 3, 4, [(1, 7), (1, 9), (1, 11), (1, 13)]), (0, 8, 0, [(0, 0), (1, 8)]), (1, 0, 128, List.replicate 128 (0, 0)), (0, 8, 0, [(0, 0), (1, 10)]), (1, 0, 128, List.replicate 128 (0, 0)), (0, 8, 0, [(0, 0), (1, 12)]), (1, 0, 128, List.replicate 128 (0, 0)), (0, 8, 0, [(0, 0), (1, 14)]), (1, 0, 128, List.replicate 128 (0, 0)), (0, 0, 0, [(0, 0), (0, -1), (0, -1), (0, -1), (1, 16)]), (1, 1, 128, List.replicate 128 (0, 0)), (0, 5, 0, [(1, 18), (1, 20), (1, 21), (1, 22), (1, 23), (1, 24), (0, 0)]), (0, 2, 0, [(0, 2), (1, 19)]), (1, 0, 5, [(0, 0), (0, 1), (0, 0), (0, 0), (0, 0)]), (1, 0, 49, [(0, 0), (0, 0), (0, 0), (0, 0), (0, 0), (0, 0), (0, 0), (0, 0), (0, 0), (0, 0), (0, 0), (0, 0), (0, 0), (0, 0), (0, 0), (0, 0), (0, 0), (0, 0), (0, 0), (0, 0), (0, 0), (0, 0), (0, 0), (0, 0), (0, 0), (0, 0), (0, 0), (0, 0), (0, 0), (0, 0), (0, 0), (0, 0), (0, 0), (0, 0), (0, 0), (0, 0), (0, 0), (0, 0), (0, 0), (0, 0), (0, 0), (0, 0), (0, 0), (0, 0), (0, 0), (0, 0), (0, 0), (0, 0), (0, 0)]), (1, 0, 49, [(0, 0), (0, 0), (0, 0), (0, 0), (0, 0), (0, 0), (0, 0), (0, 0), (0, 0), (0, 0), (0, 0), (0, 0), (0, 0), (0, 0), (0, 0), (0, 0), (0, 0), (0, 0), (0, 0), (0, 0), (0, 0), (0, 0), (0, 0), (0, 0), (0, 0), (0, 0), (0, 0), (0, 0), (0, 0), (0, 0), (0, 0), (0, 0), (0, 0), (0, 0), (0, 0), (0, 0), (0, 0), (0, 0), (0, 0), (0, 0), (0, 0), (0, 0), (0, 0), (0, 0), (0, 0), (0, 0), (0, 0), (0, 0), (0, 0)]), (1, 1, 7, [(0, 0), (0, 0), (0, 0), (0, 0), (0, 0), (0, 0), (0, 0)]), (1, 0, 7, [(0, 0), (0, 0), (0, 0), (0, 0), (0, 0), (0, 0), (0, 0)]), (1, 0, 7, [(0, 0), (0, 0), (0, 0), (0, 0), (0, 0), (0, 0), (0, 0)]), (0, 9, 0, [(1, 26), (1, 34), (1, 35), (1, 36), (1, 37), (1, 38), (1, 39), (1, 41), (0, 0), (0, 0), (0, 0), (0, 0)]), (0, 5, 0, [(1, 27), (1, 29), (1, 30), (1, 31), (1, 32), (1, 33), (0, 0)]), (0, 2, 0, [(0, 2), (1, 28)]), (1, 0, 5, [(0, 0), (0, 1), (0, 0), (0, 0), (0, 0)]), (1, 0, 49, [(0, 0), (0, 0), (0, 0), (0, 0), (0, 0), (0, 0), (0, 0), (0, 0), (0, 0), (0, 0), (0, 0), (0, 0), (0, 0), (0, 0), (0, 0), (0, 0), (0, 0), (0, 0), (0, 0), (0, 0), (0, 0), (0, 0), (0, 0), (0, 0), (0, 0), (0, 0), (0, 0), (0, 0), (0, 0), (0, 0), (0, 0), (0, 0), (0, 0), (0, 0), (0, 0), (0, 0), (0, 0), (0, 0), (0, 0), (0, 0), (0, 0), (0, 0), (0, 0), (0, 0), (0, 0), (0, 0), (0, 0), (0, 0), (0, 0)]), (1, 0, 49, [(0, 0), (0, 0), (0, 0), (0, 0), (0, 0), (0, 0), (0, 0), (0, 0), (0, 0), (0, 0), (0, 0), (0, 0), (0, 0), (0, 0), (0, 0), (0, 0), (0, 0), (0, 0), (0, 0), (0, 0), (0, 0), (0, 0), (0, 0), (0, 0), (0, 0), (0, 0), (0, 0), (0, 0), (0, 0), (0, 0), (0, 0), (0, 0), (0, 0), (0, 0), (0, 0), (0, 0), (0, 0), (0, 0), (0, 0), (0, 0), (0, 0), (0, 0), (0, 0), (0, 0), (0, 0), (0, 0), (0, 0), (0, 0), (0, 0)]), (1, 1, 7, [(0, 0), (0, 0), (0, 0), (0, 0), (0, 0), (0, 0), (0, 0)]), (1, 0, 7, [(0, 0), (0, 0), (0, 0), (0, 0), (0, 0), (0, 0), (0, 0)]), (1, 0, 7, [(0, 0), (0, 0), (0, 0), (0, 0), (0, 0), (0, 0), (0, 0)]), (1, 0, 12, [(0, 0), (0, 0), (0, 0), (0, 0), (0, 0), (0, 0), (0, 0), (0, 0), (0, 0), (0, 0), (0, 0), (0, 0)]), (1, 0, 12, [(0, 0), (0, 0), (0, 0), (0, 0), (0, 0), (0, 0), (0, 0), (0, 0), (0, 0), (0, 0), (0, 0), (0, 0)]), (1, 1, 12, [(0, 0), (0, 0), (0, 0), (0, 0), (0, 0), (0, 0), (0, 0), (0, 0), (0, 0), (0, 0), (0, 0), (0, 0)]), (1, 0, 14, [(0, 0), (0, 0), (0, 0), (0, 0), (0, 0), (0, 0), (0, 0), (0, 0), (0, 0), (0, 0), (0, 0), (0, 0), (0, 0), (0, 0)]), (1, 0, 7, [(0, 0), (0, 0), (0, 0), (0, 0), (0, 0), (0, 0), (0, 0)]), (0, 8, 0, [(0, 0), (1, 40)]), (1, 0, 128, List.replicate 128 (0, 0)), (0, 2, 0, [(0, 2), (1, 42)]), (1, 0, 5, [(0, 0), (0, 1), (0, 0), (0, 0), (0, 0)]), (0, 1, 0, [(1, 44), (1, 46), (0, 0), (0, 0), (0, 0)]), (0, 8, 0, [(0, 0), (1, 45)]), (1, 0, 128, List.replicate 128 (0, 0)), (0, 8, 0, [(0, 0), (1, 47)]), (1, 0, 128, List.replicate 128 (0, 0)), (0, 6, 0, [(1, 49)]), (1, 0, 7, [(0, 0), (0, 0), (0, 0), (0, 0), (0, 0), (0, 0), (0, 0)]), (0, 8, 0, [(0, 0), (1, 51)]), (1, 0, 128, List.replicate 128 (0, 0)), (0, 2, 0, [(0, 2), (1, 53)]), (1, 0, 5, [(0, 0), (0, 1), (0, 0), (0, 0), (0, 0)]), (0, 2, 0, [(0, 3), (1, 55)]), (1, 0, 5, [(0, 0), (0, 1), (0, 2), (0, 0), (0, 0)]), (0, 2, 0, [(0, 5), (1, 57)]), (1, 0, 5, [(0, 0), (0, 1), (0, 3), (0, 2), (0, 4)]), (0, 2, 0, [(0, 4), (1, 59)]), (1, 0, 5, [(0, 0), (0, 1), (0, 3), (0, 2), (0, 0)]), (0, 8, 0, [(0, 0), (1, 61)]), (1, 0, 128, List.replicate 128 (0, 0)), (0, 8, 0, [(0, 0), (1, 63)]), (1, 0, 128, List.replicate 128 (0, 0)), (0, 8, 0, [(0, 0), (1, 65)]), (1, 0, 128, List.replicate 128 (0, 0)), (0, 8, 0, [(0, 0), (1, 67)]), (1, 0, 128, List.replicate 128 (0, 0)), (0, 3, 0, [(2, 0), (0, 0), (1, 69)]), (0, 8, 0, [(0, 0), (1, 70)]), (1, 0, 128, List.replicate 128 (0, 0)), (0, 3, 0, [(2, 0), (0, 0), (1, 72)]), (0, 8, 0, [(0, 0), (1, 73)]), (1, 0, 128, List.replicate 128 (0, 0)), (0, 3, 0, [(2, 0), (0, 0), (1, 75)]), (0, 8, 0, [(0, 0), (1, 76)]), (1, 0, 128, List.replicate 128 (0, 0)), (0, 3, 0, [(2, 0), (0, 0), (1, 78)]), (0, 8, 0, [(0, 0), (1, 79)]), (1, 0, 128, List.replicate 128 (0, 0)), (0, 7, 0, [(0, -1), (0, 0), (1, 81)]), (1, 0, 64, [(0, 0), (0, 0), (0, 0), (0, 0), (0, 0), (0, 0), (0, 0), (0, 0), (0, 0), (0, 0), (0, 0), (0, 0), (0, 0), (0, 0), (0, 0), (0, 0), (0, 0), (0, 0), (0, 0), (0, 0), (0, 0), (0, 0), (0, 0), (0, 0), (0, 0), (0, 0), (0, 0), (0, 0), (0, 0), (0, 0), (0, 0), (0, 0), (0, 0), (0, 0), (0, 0), (0, 0), (0, 0), (0, 0), (0, 0), (0, 0), (0, 0), (0, 0), (0, 0), (0, 0), (0, 0), (0, 0), (0, 0), (0, 0), (0, 0), (0, 0), (0, 0), (0, 0), (0, 0), (0, 0), (0, 0), (0, 0), (0, 0), (0, 0), (0, 0), (0, 0), (0, 0), (0, 0), (0, 0), (0, 0)]), (0, 7, 0, [(0, -1), (0, 0), (1, 83)]), (1, 0, 64, [(0, 0), (0, 0), (0, 0), (0, 0), (0, 0), (0, 0), (0, 0), (0, 0), (0, 0), (0, 0), (0, 0), (0, 0), (0, 0), (0, 0), (0, 0), (0, 0), (0, 0), (0, 0), (0, 0), (0, 0), (0, 0), (0, 0), (0, 0), (0, 0), (0, 0), (0, 0), (0, 0), (0, 0), (0, 0), (0, 0), (0, 0), (0, 0), (0, 0), (0, 0), (0, 0), (0, 0), (0, 0), (0, 0), (0, 0), (0, 0), (0, 0), (0, 0), (0, 0), (0, 0), (0, 0), (0, 0), (0, 0), (0, 0), (0, 0), (0, 0), (0, 0), (0, 0), (0, 0), (0, 0), (0, 0), (0, 0), (0, 0), (0, 0), (0, 0), (0, 0), (0, 0), (0, 0), (0, 0), (0, 0)]), (0, 7, 0, [(0, -1), (0, 0), (1, 85)]), (1, 0, 64, [(0, 0), (0, 0), (0, 0), (0, 0), (0, 0), (0, 0), (0, 0), (0, 0), (0, 0), (0, 0), (0, 0), (0, 0), (0, 0), (0, 0), (0, 0), (0, 0), (0, 0), (0, 0), (0, 0), (0, 0), (0, 0), (0, 0), (0, 0), (0, 0), (0, 0), (0, 0), (0, 0), (0, 0), (0, 0), (0, 0), (0, 0), (0, 0), (0, 0), (0, 0), (0, 0), (0, 0), (0, 0), (0, 0), (0, 0), (0, 0), (0, 0), (0, 0), (0, 0), (0, 0), (0, 0), (0, 0), (0, 0), (0, 0), (0, 0), (0, 0), (0, 0), (0, 0), (0, 0), (0, 0), (0, 0), (0, 0), (0, 0), (0, 0), (0, 0), (0, 0), (0, 0), (0, 0), (0, 0), (0, 0)]), (0, 7, 0, [(0, -1), (0, 0), (1, 87)]), (1, 0, 64, [(0, 0), (0, 0), (0, 0), (0, 0), (0, 0), (0, 0), (0, 0), (0, 0), (0, 0), (0, 0), (0, 0), (0, 0), (0, 0), (0, 0), (0, 0), (0, 0), (0, 0), (0, 0), (0, 0), (0, 0), (0, 0), (0, 0), (0, 0), (0, 0), (0, 0), (0, 0), (0, 0), (0, 0), (0, 0), (0, 0), (0, 0), (0, 0), (0, 0), (0, 0), (0, 0), (0, 0), (0, 0), (0, 0), (0, 0), (0, 0), (0, 0), (0, 0), (0, 0), (0, 0), (0, 0), (0, 0), (0, 0), (0, 0), (0, 0), (0, 0), (0, 0), (0, 0), (0, 0), (0, 0), (0, 0), (0, 0), (0, 0), (0, 0), (0, 0), (0, 0), (0, 0), (0, 0), (0, 0), (0, 0)]), (0, 11, 0, [(1, 89), (1, 90), (1, 91), (1, 92), (1, 93), (1, 94), (1, 95), (1, 96), (1, 97), (1, 98), (1, 99), (1, 100), (1, 101), (0, 0), (0, 0), (0, 1), (1, 102), (1, 103), (1, 104), (1, 105), (1, 106), (0, 0), (0, 0)]), (1, 0, 4, [(0, 2), (0, 3), (0, 5), (0, 4)]), (1, 0, 16, [(0, 0), (0, 0), (0, 0), (0, 0), (0, 0), (0, 1), (0, 2), (0, 3), (0, 0), (0, 2), (0, 3), (0, 1), (0, 0), (0, 3), (0, 1), (0, 2)]), (1, 0, 14, [(0, 0), (0, 0), (0, 0), (0, 0), (0, 0), (0, 0), (0, 0), (0, 0), (0, 0), (0, 0), (0, 0), (0, 0), (0, 0), (0, 0)]), (1, 0, 1792, List.replicate 1792 (0, 0)), (1, 0, 49, [(0, 0), (0, 0), (0, 0), (0, 0), (0, 0), (0, 0), (0, 0), (0, 0), (0, 0), (0, 0), (0, 0), (0, 0), (0, 0), (0, 0), (0, 0), (0, 0), (0, 0), (0, 0), (0, 0), (0, 0), (0, 0), (0, 0), (0, 0), (0, 0), (0, 0), (0, 0), (0, 0), (0, 0), (0, 0), (0, 0), (0, 0), (0, 0), (0, 0), (0, 0), (0, 0), (0, 0), (0, 0), (0, 0), (0, 0), (0, 0), (0, 0), (0, 0), (0, 0), (0, 0), (0, 0), (0, 0), (0, 0), (0, 0), (0, 0)]), (1, 0, 49, [(0, 0), (0, 0), (0, 0), (0, 0), (0, 0), (0, 0), (0, 0), (0, 0), (0, 0), (0, 0), (0, 0), (0, 0), (0, 0), (0, 0), (0, 0), (0, 0), (0, 0), (0, 0), (0, 0), (0, 0), (0, 0), (0, 0), (0, 0), (0, 0), (0, 0), (0, 0), (0, 0), (0, 0), (0, 0), (0, 0), (0, 0), (0, 0), (0, 0), (0, 0), (0, 0), (0, 0), (0, 0), (0, 0), (0, 0), (0, 0), (0, 0), (0, 0), (0, 0), (0, 0), (0, 0), (0, 0), (0, 0), (0, 0), (0, 0)]), (1, 0, 4, [(0, 0), (0, -1), (0, -1), (0, -1)]), (1, 0, 7, [(0, 0), (0, 0), (0, 0), (0, 0), (0, 0), (0, 0), (0, 0)]), (1, 0, 7, [(0, 0), (0, 0), (0, 0), (0, 0), (0, 0), (0, 0), (0, 0)]), (1, 0, 49, [(0, 0), (0, 0), (0, 0), (0, 0), (0, 0), (0, 0), (0, 0), (0, 0), (0, 0), (0, 0), (0, 0), (0, 0), (0, 0), (0, 0), (0, 0), (0, 0), (0, 0), (0, 0), (0, 0), (0, 0), (0, 0), (0, 0), (0, 0), (0, 0), (0, 0), (0, 0), (0, 0), (0, 0), (0, 0), (0, 0), (0, 0), (0, 0), (0, 0), (0, 0), (0, 0), (0, 0), (0, 0), (0, 0), (0, 0), (0, 0), (0, 0), (0, 0), (0, 0), (0, 0), (0, 0), (0, 0), (0, 0), (0, 0), (0, 0)]), (1, 0, 14, [(0, 0), (0, 0), (0, 0), (0, 0), (0, 0), (0, 0), (0, 0), (0, 0), (0, 0), (0, 0), (0, 0), (0, 0), (0, 0), (0, 0)]), (1, 0, 49, [(0, 0), (0, 0), (0, 0), (0, 0), (0, 0), (0, 0), (0, 0), (0, 0), (0, 0), (0, 0), (0, 0), (0, 0), (0, 0), (0, 0), (0, 0), (0, 0), (0, 0), (0, 0), (0, 0), (0, 0), (0, 0), (0, 0), (0, 0), (0, 0), (0, 0), (0, 0), (0, 0), (0, 0), (0, 0), (0, 0), (0, 0), (0, 0), (0, 0), (0, 0), (0, 0), (0, 0), (0, 0), (0, 0), (0, 0), (0, 0), (0, 0), (0, 0), (0, 0), (0, 0), (0, 0), (0, 0), (0, 0), (0, 0), (0, 0)]), (1, 0, 49, [(0, 0), (0, 0), (0, 0), (0, 0), (0, 0), (0, 0), (0, 0), (0, 0), (0, 0), (0, 0), (0, 0), (0, 0), (0, 0), (0, 0), (0, 0), (0, 0), (0, 0), (0, 0), (0, 0), (0, 0), (0, 0), (0, 0), (0, 0), (0, 0), (0, 0), (0, 0), (0, 0), (0, 0), (0, 0), (0, 0), (0, 0), (0, 0), (0, 0), (0, 0), (0, 0), (0, 0), (0, 0), (0, 0), (0, 0), (0, 0), (0, 0), (0, 0), (0, 0), (0, 0), (0, 0), (0, 0), (0, 0), (0, 0), (0, 0)]), (1, 0, 4, [(0, 0), (0, 0), (0, 0), (0, 0)]), (1, 0, 4, [(0, 0), (0, 0), (0, 0), (0, 0)]), (1, 0, 4, [(0, -1), (0, -1), (0, -1), (0, -1)]), (1, 0, 4, [(0, 0), (0, 0), (0, 0), (0, 0)]), (1, 0, 256, List.replicate 256 (0, 0))]
set_option maxRecDepth 100000 in
theorem am_o1_some : am_o1.isSome = true := by decide +kernel
set_option maxRecDepth 100000 in
theorem am_o2_some : am_o2.isSome = true := by decide +kernel
set_option maxRecDepth 100000 in
theorem am_g0_shp : am_g0.map am_shp = am_sh0 := by decide +kernel
set_option maxRecDepth 100000 in
theorem am_w1_len : (am_o1.getD []).length = 88 := by decide +kernel
end
