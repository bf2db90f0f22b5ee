section
-- ===== PART A: goes FIRST, ahead of the names: the tables' words, and 'selects' of the private methods out of them =====
/-- a private method of a class that the tables say can be made, by its rows of tables_1 -/
def lw_okq (q : MethodName × Nat) : Prop := (q.1.cls ≠ "java/lang/invoke/MethodHandle" ∧ q.1.cls ≠ "java/lang/invoke/VarHandle") ∧ Cond.instantiable q.1.cls q.2 ∈ tables_1 ∧ Cond.privateMethod q.1 ∈ tables_1 ∧ Cond.instanceMethod q.1 ∈ tables_1
theorem lw_p0 : lw_okq (⟨"WrackDeeds", "textOf", "(I)LWrackDeeds$Text;"⟩, 17) := ⟨⟨by decide +kernel, by decide +kernel⟩, List.mem_of_getElem? (i := 18) (by decide +kernel), List.mem_of_getElem? (i := 344) (by decide +kernel), List.mem_of_getElem? (i := 345) (by decide +kernel)⟩
theorem lw_p1 : lw_okq (⟨"WrackDeeds", "freshen", "()V"⟩, 17) := ⟨⟨by decide +kernel, by decide +kernel⟩, List.mem_of_getElem? (i := 18) (by decide +kernel), List.mem_of_getElem? (i := 360) (by decide +kernel), List.mem_of_getElem? (i := 361) (by decide +kernel)⟩
theorem lw_p2 : lw_okq (⟨"WrackDeeds$Deeds", "takes", "(I)Z"⟩, 8) := ⟨⟨by decide +kernel, by decide +kernel⟩, List.mem_of_getElem? (i := 56) (by decide +kernel), List.mem_of_getElem? (i := 368) (by decide +kernel), List.mem_of_getElem? (i := 369) (by decide +kernel)⟩
theorem lw_p3 : lw_okq (⟨"WrackDeeds$Deeds", "takesFigure", "(I)Z"⟩, 8) := ⟨⟨by decide +kernel, by decide +kernel⟩, List.mem_of_getElem? (i := 56) (by decide +kernel), List.mem_of_getElem? (i := 372) (by decide +kernel), List.mem_of_getElem? (i := 373) (by decide +kernel)⟩
theorem lw_p4 : lw_okq (⟨"WrackDeeds$Deeds", "takesKind", "(I)Z"⟩, 8) := ⟨⟨by decide +kernel, by decide +kernel⟩, List.mem_of_getElem? (i := 56) (by decide +kernel), List.mem_of_getElem? (i := 376) (by decide +kernel), List.mem_of_getElem? (i := 377) (by decide +kernel)⟩
theorem lw_p5 : lw_okq (⟨"WrackDeeds$Deeds", "takesBladder", "(I)Z"⟩, 8) := ⟨⟨by decide +kernel, by decide +kernel⟩, List.mem_of_getElem? (i := 56) (by decide +kernel), List.mem_of_getElem? (i := 380) (by decide +kernel), List.mem_of_getElem? (i := 381) (by decide +kernel)⟩
theorem lw_p6 : lw_okq (⟨"WrackDeeds$Deeds", "onOf", "(I)I"⟩, 8) := ⟨⟨by decide +kernel, by decide +kernel⟩, List.mem_of_getElem? (i := 56) (by decide +kernel), List.mem_of_getElem? (i := 388) (by decide +kernel), List.mem_of_getElem? (i := 389) (by decide +kernel)⟩
theorem lw_p7 : lw_okq (⟨"WrackDeeds$Deeds", "chainOf", "(I)I"⟩, 8) := ⟨⟨by decide +kernel, by decide +kernel⟩, List.mem_of_getElem? (i := 56) (by decide +kernel), List.mem_of_getElem? (i := 396) (by decide +kernel), List.mem_of_getElem? (i := 397) (by decide +kernel)⟩
theorem lw_p8 : lw_okq (⟨"WrackDeeds$Hanging", "suffer", "(II)V"⟩, 5) := ⟨⟨by decide +kernel, by decide +kernel⟩, List.mem_of_getElem? (i := 135) (by decide +kernel), List.mem_of_getElem? (i := 420) (by decide +kernel), List.mem_of_getElem? (i := 421) (by decide +kernel)⟩
theorem lw_p9 : lw_okq (⟨"WrackDeeds", "isStrand", "(I)Z"⟩, 17) := ⟨⟨by decide +kernel, by decide +kernel⟩, List.mem_of_getElem? (i := 18) (by decide +kernel), List.mem_of_getElem? (i := 450) (by decide +kernel), List.mem_of_getElem? (i := 451) (by decide +kernel)⟩
theorem lw_p10 : lw_okq (⟨"WrackDeeds", "finding", "(I)I"⟩, 17) := ⟨⟨by decide +kernel, by decide +kernel⟩, List.mem_of_getElem? (i := 18) (by decide +kernel), List.mem_of_getElem? (i := 482) (by decide +kernel), List.mem_of_getElem? (i := 483) (by decide +kernel)⟩
theorem lw_p11 : lw_okq (⟨"WrackDeeds", "eventFrom", "(LWrackDeeds$Sheet;I)Z"⟩, 17) := ⟨⟨by decide +kernel, by decide +kernel⟩, List.mem_of_getElem? (i := 18) (by decide +kernel), List.mem_of_getElem? (i := 486) (by decide +kernel), List.mem_of_getElem? (i := 487) (by decide +kernel)⟩
theorem lw_p12 : lw_okq (⟨"WrackDeeds", "bladderIn", "(III)I"⟩, 17) := ⟨⟨by decide +kernel, by decide +kernel⟩, List.mem_of_getElem? (i := 18) (by decide +kernel), List.mem_of_getElem? (i := 499) (by decide +kernel), List.mem_of_getElem? (i := 500) (by decide +kernel)⟩
theorem lw_p13 : lw_okq (⟨"WrackDeeds", "voidBits", "(LWrackDeeds$Events;I)I"⟩, 17) := ⟨⟨by decide +kernel, by decide +kernel⟩, List.mem_of_getElem? (i := 18) (by decide +kernel), List.mem_of_getElem? (i := 519) (by decide +kernel), List.mem_of_getElem? (i := 520) (by decide +kernel)⟩
theorem lw_p14 : lw_okq (⟨"WrackDeeds$Deeds", "runFrom", "(IIII)I"⟩, 8) := ⟨⟨by decide +kernel, by decide +kernel⟩, List.mem_of_getElem? (i := 56) (by decide +kernel), List.mem_of_getElem? (i := 543) (by decide +kernel), List.mem_of_getElem? (i := 544) (by decide +kernel)⟩
theorem lw_p15 : lw_okq (⟨"WrackDeeds$Tour", "keepIfBetter", "(II)V"⟩, 7) := ⟨⟨by decide +kernel, by decide +kernel⟩, List.mem_of_getElem? (i := 185) (by decide +kernel), List.mem_of_getElem? (i := 571) (by decide +kernel), List.mem_of_getElem? (i := 572) (by decide +kernel)⟩
def lw_privs_1 : List (MethodName × Nat) := [(⟨"WrackDeeds", "textOf", "(I)LWrackDeeds$Text;"⟩, 17), (⟨"WrackDeeds", "freshen", "()V"⟩, 17), (⟨"WrackDeeds$Deeds", "takes", "(I)Z"⟩, 8), (⟨"WrackDeeds$Deeds", "takesFigure", "(I)Z"⟩, 8), (⟨"WrackDeeds$Deeds", "takesKind", "(I)Z"⟩, 8), (⟨"WrackDeeds$Deeds", "takesBladder", "(I)Z"⟩, 8), (⟨"WrackDeeds$Deeds", "onOf", "(I)I"⟩, 8), (⟨"WrackDeeds$Deeds", "chainOf", "(I)I"⟩, 8), (⟨"WrackDeeds$Hanging", "suffer", "(II)V"⟩, 5), (⟨"WrackDeeds", "isStrand", "(I)Z"⟩, 17), (⟨"WrackDeeds", "finding", "(I)I"⟩, 17), (⟨"WrackDeeds", "eventFrom", "(LWrackDeeds$Sheet;I)Z"⟩, 17), (⟨"WrackDeeds", "bladderIn", "(III)I"⟩, 17), (⟨"WrackDeeds", "voidBits", "(LWrackDeeds$Events;I)I"⟩, 17), (⟨"WrackDeeds$Deeds", "runFrom", "(IIII)I"⟩, 8), (⟨"WrackDeeds$Tour", "keepIfBetter", "(II)V"⟩, 7)]
theorem lw_r1 : ∀ q ∈ lw_privs_1, lw_okq q := List.forall_mem_cons.mpr ⟨lw_p0, List.forall_mem_cons.mpr ⟨lw_p1, List.forall_mem_cons.mpr ⟨lw_p2, List.forall_mem_cons.mpr ⟨lw_p3, List.forall_mem_cons.mpr ⟨lw_p4, List.forall_mem_cons.mpr ⟨lw_p5, List.forall_mem_cons.mpr ⟨lw_p6, List.forall_mem_cons.mpr ⟨lw_p7, List.forall_mem_cons.mpr ⟨lw_p8, List.forall_mem_cons.mpr ⟨lw_p9, List.forall_mem_cons.mpr ⟨lw_p10, List.forall_mem_cons.mpr ⟨lw_p11, List.forall_mem_cons.mpr ⟨lw_p12, List.forall_mem_cons.mpr ⟨lw_p13, List.forall_mem_cons.mpr ⟨lw_p14, List.forall_mem_cons.mpr ⟨lw_p15, fun _ h => absurd h List.not_mem_nil⟩⟩⟩⟩⟩⟩⟩⟩⟩⟩⟩⟩⟩⟩⟩⟩
theorem lw_p16 : lw_okq (⟨"WrackDeeds$Tour", "mayGetBetter", "(II)Z"⟩, 7) := ⟨⟨by decide +kernel, by decide +kernel⟩, List.mem_of_getElem? (i := 185) (by decide +kernel), List.mem_of_getElem? (i := 578) (by decide +kernel), List.mem_of_getElem? (i := 579) (by decide +kernel)⟩
theorem lw_p17 : lw_okq (⟨"WrackDeeds", "legibleHoursAt", "(II)I"⟩, 17) := ⟨⟨by decide +kernel, by decide +kernel⟩, List.mem_of_getElem? (i := 18) (by decide +kernel), List.mem_of_getElem? (i := 587) (by decide +kernel), List.mem_of_getElem? (i := 588) (by decide +kernel)⟩
theorem lw_p18 : lw_okq (⟨"WrackDeeds$Filling", "waysBehind", "(II)I"⟩, 3) := ⟨⟨by decide +kernel, by decide +kernel⟩, List.mem_of_getElem? (i := 244) (by decide +kernel), List.mem_of_getElem? (i := 618) (by decide +kernel), List.mem_of_getElem? (i := 619) (by decide +kernel)⟩
theorem lw_p19 : lw_okq (⟨"WrackDeeds$Filling", "sumBut", "(II)I"⟩, 3) := ⟨⟨by decide +kernel, by decide +kernel⟩, List.mem_of_getElem? (i := 244) (by decide +kernel), List.mem_of_getElem? (i := 622) (by decide +kernel), List.mem_of_getElem? (i := 623) (by decide +kernel)⟩
theorem lw_p20 : lw_okq (⟨"WrackDeeds$Filling", "leastBut", "(II)I"⟩, 3) := ⟨⟨by decide +kernel, by decide +kernel⟩, List.mem_of_getElem? (i := 244) (by decide +kernel), List.mem_of_getElem? (i := 634) (by decide +kernel), List.mem_of_getElem? (i := 635) (by decide +kernel)⟩
theorem lw_p21 : lw_okq (⟨"WrackDeeds", "guessHanging", "(IIII)V"⟩, 17) := ⟨⟨by decide +kernel, by decide +kernel⟩, List.mem_of_getElem? (i := 18) (by decide +kernel), List.mem_of_getElem? (i := 654) (by decide +kernel), List.mem_of_getElem? (i := 655) (by decide +kernel)⟩
theorem lw_p22 : lw_okq (⟨"WrackDeeds", "comesOut", "(I)Z"⟩, 17) := ⟨⟨by decide +kernel, by decide +kernel⟩, List.mem_of_getElem? (i := 18) (by decide +kernel), List.mem_of_getElem? (i := 660) (by decide +kernel), List.mem_of_getElem? (i := 661) (by decide +kernel)⟩
theorem lw_p23 : lw_okq (⟨"WrackDeeds", "hungBits", "(I)I"⟩, 17) := ⟨⟨by decide +kernel, by decide +kernel⟩, List.mem_of_getElem? (i := 18) (by decide +kernel), List.mem_of_getElem? (i := 668) (by decide +kernel), List.mem_of_getElem? (i := 669) (by decide +kernel)⟩
theorem lw_p24 : lw_okq (⟨"WrackDeeds", "sortBits", "(I)I"⟩, 17) := ⟨⟨by decide +kernel, by decide +kernel⟩, List.mem_of_getElem? (i := 18) (by decide +kernel), List.mem_of_getElem? (i := 672) (by decide +kernel), List.mem_of_getElem? (i := 673) (by decide +kernel)⟩
theorem lw_p25 : lw_okq (⟨"WrackDeeds$Events", "lot", "(I)I"⟩, 6) := ⟨⟨by decide +kernel, by decide +kernel⟩, List.mem_of_getElem? (i := 96) (by decide +kernel), List.mem_of_getElem? (i := 705) (by decide +kernel), List.mem_of_getElem? (i := 706) (by decide +kernel)⟩
theorem lw_p26 : lw_okq (⟨"WrackDeeds", "digestTold", "(JI)J"⟩, 17) := ⟨⟨by decide +kernel, by decide +kernel⟩, List.mem_of_getElem? (i := 18) (by decide +kernel), List.mem_of_getElem? (i := 770) (by decide +kernel), List.mem_of_getElem? (i := 771) (by decide +kernel)⟩
theorem lw_p27 : lw_okq (⟨"WrackDeeds", "digestHour", "(JII)J"⟩, 17) := ⟨⟨by decide +kernel, by decide +kernel⟩, List.mem_of_getElem? (i := 18) (by decide +kernel), List.mem_of_getElem? (i := 775) (by decide +kernel), List.mem_of_getElem? (i := 776) (by decide +kernel)⟩
theorem lw_p28 : lw_okq (⟨"WrackDeeds", "digestDeed", "(JI)J"⟩, 17) := ⟨⟨by decide +kernel, by decide +kernel⟩, List.mem_of_getElem? (i := 18) (by decide +kernel), List.mem_of_getElem? (i := 782) (by decide +kernel), List.mem_of_getElem? (i := 783) (by decide +kernel)⟩
theorem lw_p29 : lw_okq (⟨"WrackDeeds", "digestWhole", "(J)J"⟩, 17) := ⟨⟨by decide +kernel, by decide +kernel⟩, List.mem_of_getElem? (i := 18) (by decide +kernel), List.mem_of_getElem? (i := 793) (by decide +kernel), List.mem_of_getElem? (i := 794) (by decide +kernel)⟩
theorem lw_p30 : lw_okq (⟨"WrackDeedsModel", "finds", "(I)I"⟩, 36) := ⟨⟨by decide +kernel, by decide +kernel⟩, List.mem_of_getElem? (i := 804) (by decide +kernel), List.mem_of_getElem? (i := 931) (by decide +kernel), List.mem_of_getElem? (i := 932) (by decide +kernel)⟩
theorem lw_p31 : lw_okq (⟨"WrackDeedsModel", "lacks", "(III)I"⟩, 36) := ⟨⟨by decide +kernel, by decide +kernel⟩, List.mem_of_getElem? (i := 804) (by decide +kernel), List.mem_of_getElem? (i := 943) (by decide +kernel), List.mem_of_getElem? (i := 944) (by decide +kernel)⟩
def lw_privs_2 : List (MethodName × Nat) := [(⟨"WrackDeeds$Tour", "mayGetBetter", "(II)Z"⟩, 7), (⟨"WrackDeeds", "legibleHoursAt", "(II)I"⟩, 17), (⟨"WrackDeeds$Filling", "waysBehind", "(II)I"⟩, 3), (⟨"WrackDeeds$Filling", "sumBut", "(II)I"⟩, 3), (⟨"WrackDeeds$Filling", "leastBut", "(II)I"⟩, 3), (⟨"WrackDeeds", "guessHanging", "(IIII)V"⟩, 17), (⟨"WrackDeeds", "comesOut", "(I)Z"⟩, 17), (⟨"WrackDeeds", "hungBits", "(I)I"⟩, 17), (⟨"WrackDeeds", "sortBits", "(I)I"⟩, 17), (⟨"WrackDeeds$Events", "lot", "(I)I"⟩, 6), (⟨"WrackDeeds", "digestTold", "(JI)J"⟩, 17), (⟨"WrackDeeds", "digestHour", "(JII)J"⟩, 17), (⟨"WrackDeeds", "digestDeed", "(JI)J"⟩, 17), (⟨"WrackDeeds", "digestWhole", "(J)J"⟩, 17), (⟨"WrackDeedsModel", "finds", "(I)I"⟩, 36), (⟨"WrackDeedsModel", "lacks", "(III)I"⟩, 36)]
theorem lw_r2 : ∀ q ∈ lw_privs_2, lw_okq q := List.forall_mem_cons.mpr ⟨lw_p16, List.forall_mem_cons.mpr ⟨lw_p17, List.forall_mem_cons.mpr ⟨lw_p18, List.forall_mem_cons.mpr ⟨lw_p19, List.forall_mem_cons.mpr ⟨lw_p20, List.forall_mem_cons.mpr ⟨lw_p21, List.forall_mem_cons.mpr ⟨lw_p22, List.forall_mem_cons.mpr ⟨lw_p23, List.forall_mem_cons.mpr ⟨lw_p24, List.forall_mem_cons.mpr ⟨lw_p25, List.forall_mem_cons.mpr ⟨lw_p26, List.forall_mem_cons.mpr ⟨lw_p27, List.forall_mem_cons.mpr ⟨lw_p28, List.forall_mem_cons.mpr ⟨lw_p29, List.forall_mem_cons.mpr ⟨lw_p30, List.forall_mem_cons.mpr ⟨lw_p31, fun _ h => absurd h List.not_mem_nil⟩⟩⟩⟩⟩⟩⟩⟩⟩⟩⟩⟩⟩⟩⟩⟩
theorem lw_p32 : lw_okq (⟨"WrackDeedsModel", "readsText", "(I)I"⟩, 36) := ⟨⟨by decide +kernel, by decide +kernel⟩, List.mem_of_getElem? (i := 804) (by decide +kernel), List.mem_of_getElem? (i := 979) (by decide +kernel), List.mem_of_getElem? (i := 980) (by decide +kernel)⟩
theorem lw_p33 : lw_okq (⟨"WrackDeedsModel", "readsStrands", "()I"⟩, 36) := ⟨⟨by decide +kernel, by decide +kernel⟩, List.mem_of_getElem? (i := 804) (by decide +kernel), List.mem_of_getElem? (i := 983) (by decide +kernel), List.mem_of_getElem? (i := 984) (by decide +kernel)⟩
theorem lw_p34 : lw_okq (⟨"WrackDeedsModel", "readsTides", "()I"⟩, 36) := ⟨⟨by decide +kernel, by decide +kernel⟩, List.mem_of_getElem? (i := 804) (by decide +kernel), List.mem_of_getElem? (i := 991) (by decide +kernel), List.mem_of_getElem? (i := 992) (by decide +kernel)⟩
theorem lw_p35 : lw_okq (⟨"WrackDeedsModel", "fives", "()V"⟩, 36) := ⟨⟨by decide +kernel, by decide +kernel⟩, List.mem_of_getElem? (i := 804) (by decide +kernel), List.mem_of_getElem? (i := 995) (by decide +kernel), List.mem_of_getElem? (i := 996) (by decide +kernel)⟩
theorem lw_p36 : lw_okq (⟨"WrackDeedsModel", "readsRoute", "()I"⟩, 36) := ⟨⟨by decide +kernel, by decide +kernel⟩, List.mem_of_getElem? (i := 804) (by decide +kernel), List.mem_of_getElem? (i := 999) (by decide +kernel), List.mem_of_getElem? (i := 1000) (by decide +kernel)⟩
theorem lw_p37 : lw_okq (⟨"WrackDeedsModel", "isStrand", "(I)Z"⟩, 36) := ⟨⟨by decide +kernel, by decide +kernel⟩, List.mem_of_getElem? (i := 804) (by decide +kernel), List.mem_of_getElem? (i := 1008) (by decide +kernel), List.mem_of_getElem? (i := 1009) (by decide +kernel)⟩
theorem lw_p38 : lw_okq (⟨"WrackDeedsModel", "strandBy", "(II)I"⟩, 36) := ⟨⟨by decide +kernel, by decide +kernel⟩, List.mem_of_getElem? (i := 804) (by decide +kernel), List.mem_of_getElem? (i := 1013) (by decide +kernel), List.mem_of_getElem? (i := 1014) (by decide +kernel)⟩
theorem lw_p39 : lw_okq (⟨"WrackDeedsModel", "routeBy", "(I)I"⟩, 36) := ⟨⟨by decide +kernel, by decide +kernel⟩, List.mem_of_getElem? (i := 804) (by decide +kernel), List.mem_of_getElem? (i := 1030) (by decide +kernel), List.mem_of_getElem? (i := 1031) (by decide +kernel)⟩
theorem lw_p40 : lw_okq (⟨"WrackDeedsModel", "puts", "(IIII)V"⟩, 36) := ⟨⟨by decide +kernel, by decide +kernel⟩, List.mem_of_getElem? (i := 804) (by decide +kernel), List.mem_of_getElem? (i := 1039) (by decide +kernel), List.mem_of_getElem? (i := 1040) (by decide +kernel)⟩
theorem lw_p41 : lw_okq (⟨"WrackDeedsModel", "find", "()V"⟩, 36) := ⟨⟨by decide +kernel, by decide +kernel⟩, List.mem_of_getElem? (i := 804) (by decide +kernel), List.mem_of_getElem? (i := 1056) (by decide +kernel), List.mem_of_getElem? (i := 1057) (by decide +kernel)⟩
theorem lw_p42 : lw_okq (⟨"WrackDeedsModel", "lives", "()V"⟩, 36) := ⟨⟨by decide +kernel, by decide +kernel⟩, List.mem_of_getElem? (i := 804) (by decide +kernel), List.mem_of_getElem? (i := 1060) (by decide +kernel), List.mem_of_getElem? (i := 1061) (by decide +kernel)⟩
theorem lw_p43 : lw_okq (⟨"WrackDeedsModel", "stateOf", "(II)I"⟩, 36) := ⟨⟨by decide +kernel, by decide +kernel⟩, List.mem_of_getElem? (i := 804) (by decide +kernel), List.mem_of_getElem? (i := 1070) (by decide +kernel), List.mem_of_getElem? (i := 1071) (by decide +kernel)⟩
theorem lw_p44 : lw_okq (⟨"WrackDeedsModel", "lies", "(III)I"⟩, 36) := ⟨⟨by decide +kernel, by decide +kernel⟩, List.mem_of_getElem? (i := 804) (by decide +kernel), List.mem_of_getElem? (i := 1074) (by decide +kernel), List.mem_of_getElem? (i := 1075) (by decide +kernel)⟩
theorem lw_p45 : lw_okq (⟨"WrackDeedsModel", "saysOf", "(III)I"⟩, 36) := ⟨⟨by decide +kernel, by decide +kernel⟩, List.mem_of_getElem? (i := 804) (by decide +kernel), List.mem_of_getElem? (i := 1083) (by decide +kernel), List.mem_of_getElem? (i := 1084) (by decide +kernel)⟩
theorem lw_p46 : lw_okq (⟨"WrackDeedsModel", "isPopped", "(III)Z"⟩, 36) := ⟨⟨by decide +kernel, by decide +kernel⟩, List.mem_of_getElem? (i := 804) (by decide +kernel), List.mem_of_getElem? (i := 1087) (by decide +kernel), List.mem_of_getElem? (i := 1088) (by decide +kernel)⟩
theorem lw_p47 : lw_okq (⟨"WrackDeedsModel", "legibleOf", "(I)I"⟩, 36) := ⟨⟨by decide +kernel, by decide +kernel⟩, List.mem_of_getElem? (i := 804) (by decide +kernel), List.mem_of_getElem? (i := 1095) (by decide +kernel), List.mem_of_getElem? (i := 1096) (by decide +kernel)⟩
def lw_privs_3 : List (MethodName × Nat) := [(⟨"WrackDeedsModel", "readsText", "(I)I"⟩, 36), (⟨"WrackDeedsModel", "readsStrands", "()I"⟩, 36), (⟨"WrackDeedsModel", "readsTides", "()I"⟩, 36), (⟨"WrackDeedsModel", "fives", "()V"⟩, 36), (⟨"WrackDeedsModel", "readsRoute", "()I"⟩, 36), (⟨"WrackDeedsModel", "isStrand", "(I)Z"⟩, 36), (⟨"WrackDeedsModel", "strandBy", "(II)I"⟩, 36), (⟨"WrackDeedsModel", "routeBy", "(I)I"⟩, 36), (⟨"WrackDeedsModel", "puts", "(IIII)V"⟩, 36), (⟨"WrackDeedsModel", "find", "()V"⟩, 36), (⟨"WrackDeedsModel", "lives", "()V"⟩, 36), (⟨"WrackDeedsModel", "stateOf", "(II)I"⟩, 36), (⟨"WrackDeedsModel", "lies", "(III)I"⟩, 36), (⟨"WrackDeedsModel", "saysOf", "(III)I"⟩, 36), (⟨"WrackDeedsModel", "isPopped", "(III)Z"⟩, 36), (⟨"WrackDeedsModel", "legibleOf", "(I)I"⟩, 36)]
theorem lw_r3 : ∀ q ∈ lw_privs_3, lw_okq q := List.forall_mem_cons.mpr ⟨lw_p32, List.forall_mem_cons.mpr ⟨lw_p33, List.forall_mem_cons.mpr ⟨lw_p34, List.forall_mem_cons.mpr ⟨lw_p35, List.forall_mem_cons.mpr ⟨lw_p36, List.forall_mem_cons.mpr ⟨lw_p37, List.forall_mem_cons.mpr ⟨lw_p38, List.forall_mem_cons.mpr ⟨lw_p39, List.forall_mem_cons.mpr ⟨lw_p40, List.forall_mem_cons.mpr ⟨lw_p41, List.forall_mem_cons.mpr ⟨lw_p42, List.forall_mem_cons.mpr ⟨lw_p43, List.forall_mem_cons.mpr ⟨lw_p44, List.forall_mem_cons.mpr ⟨lw_p45, List.forall_mem_cons.mpr ⟨lw_p46, List.forall_mem_cons.mpr ⟨lw_p47, fun _ h => absurd h List.not_mem_nil⟩⟩⟩⟩⟩⟩⟩⟩⟩⟩⟩⟩⟩⟩⟩⟩
theorem lw_p48 : lw_okq (⟨"WrackDeedsModel", "hangsOn", "(I)I"⟩, 36) := ⟨⟨by decide +kernel, by decide +kernel⟩, List.mem_of_getElem? (i := 804) (by decide +kernel), List.mem_of_getElem? (i := 1099) (by decide +kernel), List.mem_of_getElem? (i := 1100) (by decide +kernel)⟩
theorem lw_p49 : lw_okq (⟨"WrackDeedsModel", "voidsBy", "(I)I"⟩, 36) := ⟨⟨by decide +kernel, by decide +kernel⟩, List.mem_of_getElem? (i := 804) (by decide +kernel), List.mem_of_getElem? (i := 1107) (by decide +kernel), List.mem_of_getElem? (i := 1108) (by decide +kernel)⟩
theorem lw_p50 : lw_okq (⟨"WrackDeedsModel", "isVoid", "(II)Z"⟩, 36) := ⟨⟨by decide +kernel, by decide +kernel⟩, List.mem_of_getElem? (i := 804) (by decide +kernel), List.mem_of_getElem? (i := 1111) (by decide +kernel), List.mem_of_getElem? (i := 1112) (by decide +kernel)⟩
theorem lw_p51 : lw_okq (⟨"WrackDeedsModel", "forgedNow", "()I"⟩, 36) := ⟨⟨by decide +kernel, by decide +kernel⟩, List.mem_of_getElem? (i := 804) (by decide +kernel), List.mem_of_getElem? (i := 1119) (by decide +kernel), List.mem_of_getElem? (i := 1120) (by decide +kernel)⟩
theorem lw_p52 : lw_okq (⟨"WrackDeedsModel", "tangledNow", "(I)I"⟩, 36) := ⟨⟨by decide +kernel, by decide +kernel⟩, List.mem_of_getElem? (i := 804) (by decide +kernel), List.mem_of_getElem? (i := 1127) (by decide +kernel), List.mem_of_getElem? (i := 1128) (by decide +kernel)⟩
theorem lw_p53 : lw_okq (⟨"WrackDeedsModel", "run", "(II)I"⟩, 36) := ⟨⟨by decide +kernel, by decide +kernel⟩, List.mem_of_getElem? (i := 804) (by decide +kernel), List.mem_of_getElem? (i := 1131) (by decide +kernel), List.mem_of_getElem? (i := 1132) (by decide +kernel)⟩
theorem lw_p54 : lw_okq (⟨"WrackDeedsModel", "readsOf", "(I)I"⟩, 36) := ⟨⟨by decide +kernel, by decide +kernel⟩, List.mem_of_getElem? (i := 804) (by decide +kernel), List.mem_of_getElem? (i := 1142) (by decide +kernel), List.mem_of_getElem? (i := 1143) (by decide +kernel)⟩
theorem lw_p55 : lw_okq (⟨"WrackDeedsModel", "goes", "()V"⟩, 36) := ⟨⟨by decide +kernel, by decide +kernel⟩, List.mem_of_getElem? (i := 804) (by decide +kernel), List.mem_of_getElem? (i := 1146) (by decide +kernel), List.mem_of_getElem? (i := 1147) (by decide +kernel)⟩
theorem lw_p56 : lw_okq (⟨"WrackDeedsModel", "readOn", "(III)I"⟩, 36) := ⟨⟨by decide +kernel, by decide +kernel⟩, List.mem_of_getElem? (i := 804) (by decide +kernel), List.mem_of_getElem? (i := 1150) (by decide +kernel), List.mem_of_getElem? (i := 1151) (by decide +kernel)⟩
theorem lw_p57 : lw_okq (⟨"WrackDeedsModel", "findTour", "()V"⟩, 36) := ⟨⟨by decide +kernel, by decide +kernel⟩, List.mem_of_getElem? (i := 804) (by decide +kernel), List.mem_of_getElem? (i := 1158) (by decide +kernel), List.mem_of_getElem? (i := 1159) (by decide +kernel)⟩
theorem lw_p58 : lw_okq (⟨"WrackDeedsModel", "keepsTour", "(I)V"⟩, 36) := ⟨⟨by decide +kernel, by decide +kernel⟩, List.mem_of_getElem? (i := 804) (by decide +kernel), List.mem_of_getElem? (i := 1162) (by decide +kernel), List.mem_of_getElem? (i := 1163) (by decide +kernel)⟩
theorem lw_p59 : lw_okq (⟨"WrackDeedsModel", "nextHour", "(II)I"⟩, 36) := ⟨⟨by decide +kernel, by decide +kernel⟩, List.mem_of_getElem? (i := 804) (by decide +kernel), List.mem_of_getElem? (i := 1166) (by decide +kernel), List.mem_of_getElem? (i := 1167) (by decide +kernel)⟩
theorem lw_p60 : lw_okq (⟨"WrackDeedsModel", "tourBy", "(I)I"⟩, 36) := ⟨⟨by decide +kernel, by decide +kernel⟩, List.mem_of_getElem? (i := 804) (by decide +kernel), List.mem_of_getElem? (i := 1170) (by decide +kernel), List.mem_of_getElem? (i := 1171) (by decide +kernel)⟩
theorem lw_p61 : lw_okq (⟨"WrackDeedsModel", "hangOf", "(II)I"⟩, 36) := ⟨⟨by decide +kernel, by decide +kernel⟩, List.mem_of_getElem? (i := 804) (by decide +kernel), List.mem_of_getElem? (i := 1178) (by decide +kernel), List.mem_of_getElem? (i := 1179) (by decide +kernel)⟩
theorem lw_p62 : lw_okq (⟨"WrackDeedsModel", "saveOf", "(II)I"⟩, 36) := ⟨⟨by decide +kernel, by decide +kernel⟩, List.mem_of_getElem? (i := 804) (by decide +kernel), List.mem_of_getElem? (i := 1187) (by decide +kernel), List.mem_of_getElem? (i := 1188) (by decide +kernel)⟩
theorem lw_p63 : lw_okq (⟨"WrackDeedsModel", "isSafe", "(II)Z"⟩, 36) := ⟨⟨by decide +kernel, by decide +kernel⟩, List.mem_of_getElem? (i := 804) (by decide +kernel), List.mem_of_getElem? (i := 1191) (by decide +kernel), List.mem_of_getElem? (i := 1192) (by decide +kernel)⟩
def lw_privs_4 : List (MethodName × Nat) := [(⟨"WrackDeedsModel", "hangsOn", "(I)I"⟩, 36), (⟨"WrackDeedsModel", "voidsBy", "(I)I"⟩, 36), (⟨"WrackDeedsModel", "isVoid", "(II)Z"⟩, 36), (⟨"WrackDeedsModel", "forgedNow", "()I"⟩, 36), (⟨"WrackDeedsModel", "tangledNow", "(I)I"⟩, 36), (⟨"WrackDeedsModel", "run", "(II)I"⟩, 36), (⟨"WrackDeedsModel", "readsOf", "(I)I"⟩, 36), (⟨"WrackDeedsModel", "goes", "()V"⟩, 36), (⟨"WrackDeedsModel", "readOn", "(III)I"⟩, 36), (⟨"WrackDeedsModel", "findTour", "()V"⟩, 36), (⟨"WrackDeedsModel", "keepsTour", "(I)V"⟩, 36), (⟨"WrackDeedsModel", "nextHour", "(II)I"⟩, 36), (⟨"WrackDeedsModel", "tourBy", "(I)I"⟩, 36), (⟨"WrackDeedsModel", "hangOf", "(II)I"⟩, 36), (⟨"WrackDeedsModel", "saveOf", "(II)I"⟩, 36), (⟨"WrackDeedsModel", "isSafe", "(II)Z"⟩, 36)]
theorem lw_r4 : ∀ q ∈ lw_privs_4, lw_okq q := List.forall_mem_cons.mpr ⟨lw_p48, List.forall_mem_cons.mpr ⟨lw_p49, List.forall_mem_cons.mpr ⟨lw_p50, List.forall_mem_cons.mpr ⟨lw_p51, List.forall_mem_cons.mpr ⟨lw_p52, List.forall_mem_cons.mpr ⟨lw_p53, List.forall_mem_cons.mpr ⟨lw_p54, List.forall_mem_cons.mpr ⟨lw_p55, List.forall_mem_cons.mpr ⟨lw_p56, List.forall_mem_cons.mpr ⟨lw_p57, List.forall_mem_cons.mpr ⟨lw_p58, List.forall_mem_cons.mpr ⟨lw_p59, List.forall_mem_cons.mpr ⟨lw_p60, List.forall_mem_cons.mpr ⟨lw_p61, List.forall_mem_cons.mpr ⟨lw_p62, List.forall_mem_cons.mpr ⟨lw_p63, fun _ h => absurd h List.not_mem_nil⟩⟩⟩⟩⟩⟩⟩⟩⟩⟩⟩⟩⟩⟩⟩⟩
theorem lw_p64 : lw_okq (⟨"WrackDeedsModel", "fillOf", "(III)I"⟩, 36) := ⟨⟨by decide +kernel, by decide +kernel⟩, List.mem_of_getElem? (i := 804) (by decide +kernel), List.mem_of_getElem? (i := 1199) (by decide +kernel), List.mem_of_getElem? (i := 1200) (by decide +kernel)⟩
theorem lw_p65 : lw_okq (⟨"WrackDeedsModel", "mayBe", "(III)Z"⟩, 36) := ⟨⟨by decide +kernel, by decide +kernel⟩, List.mem_of_getElem? (i := 804) (by decide +kernel), List.mem_of_getElem? (i := 1203) (by decide +kernel), List.mem_of_getElem? (i := 1204) (by decide +kernel)⟩
theorem lw_p66 : lw_okq (⟨"WrackDeedsModel", "neverNow", "()I"⟩, 36) := ⟨⟨by decide +kernel, by decide +kernel⟩, List.mem_of_getElem? (i := 804) (by decide +kernel), List.mem_of_getElem? (i := 1220) (by decide +kernel), List.mem_of_getElem? (i := 1221) (by decide +kernel)⟩
theorem lw_p67 : lw_okq (⟨"WrackDeedsModel", "isSeen", "()Z"⟩, 36) := ⟨⟨by decide +kernel, by decide +kernel⟩, List.mem_of_getElem? (i := 804) (by decide +kernel), List.mem_of_getElem? (i := 1224) (by decide +kernel), List.mem_of_getElem? (i := 1225) (by decide +kernel)⟩
theorem lw_p68 : lw_okq (⟨"WrackDeedsModel", "wasOf", "(II)I"⟩, 36) := ⟨⟨by decide +kernel, by decide +kernel⟩, List.mem_of_getElem? (i := 804) (by decide +kernel), List.mem_of_getElem? (i := 1232) (by decide +kernel), List.mem_of_getElem? (i := 1233) (by decide +kernel)⟩
theorem lw_p69 : lw_okq (⟨"WrackDeedsModel", "hungOf", "(I)I"⟩, 36) := ⟨⟨by decide +kernel, by decide +kernel⟩, List.mem_of_getElem? (i := 804) (by decide +kernel), List.mem_of_getElem? (i := 1236) (by decide +kernel), List.mem_of_getElem? (i := 1237) (by decide +kernel)⟩
theorem lw_p70 : lw_okq (⟨"WrackDeedsModel", "sortOf", "(I)I"⟩, 36) := ⟨⟨by decide +kernel, by decide +kernel⟩, List.mem_of_getElem? (i := 804) (by decide +kernel), List.mem_of_getElem? (i := 1240) (by decide +kernel), List.mem_of_getElem? (i := 1241) (by decide +kernel)⟩
theorem lw_p71 : lw_okq (⟨"WrackDeedsModel", "askOf", "(I)I"⟩, 36) := ⟨⟨by decide +kernel, by decide +kernel⟩, List.mem_of_getElem? (i := 804) (by decide +kernel), List.mem_of_getElem? (i := 1248) (by decide +kernel), List.mem_of_getElem? (i := 1249) (by decide +kernel)⟩
theorem lw_p72 : lw_okq (⟨"WrackDeedsModel", "riskOf", "(IIII)J"⟩, 36) := ⟨⟨by decide +kernel, by decide +kernel⟩, List.mem_of_getElem? (i := 804) (by decide +kernel), List.mem_of_getElem? (i := 1257) (by decide +kernel), List.mem_of_getElem? (i := 1258) (by decide +kernel)⟩
theorem lw_p73 : lw_okq (⟨"WrackDeedsModel", "centuryOf", "(III)I"⟩, 36) := ⟨⟨by decide +kernel, by decide +kernel⟩, List.mem_of_getElem? (i := 804) (by decide +kernel), List.mem_of_getElem? (i := 1272) (by decide +kernel), List.mem_of_getElem? (i := 1273) (by decide +kernel)⟩
theorem lw_p74 : lw_okq (⟨"WrackDeedsModel", "lot", "(I)I"⟩, 36) := ⟨⟨by decide +kernel, by decide +kernel⟩, List.mem_of_getElem? (i := 804) (by decide +kernel), List.mem_of_getElem? (i := 1276) (by decide +kernel), List.mem_of_getElem? (i := 1277) (by decide +kernel)⟩
theorem lw_p75 : lw_okq (⟨"WrackDeedsModel", "tellsStrand", "(JI)J"⟩, 36) := ⟨⟨by decide +kernel, by decide +kernel⟩, List.mem_of_getElem? (i := 804) (by decide +kernel), List.mem_of_getElem? (i := 1302) (by decide +kernel), List.mem_of_getElem? (i := 1303) (by decide +kernel)⟩
theorem lw_p76 : lw_okq (⟨"WrackDeedsModel", "tellsHour", "(JII)J"⟩, 36) := ⟨⟨by decide +kernel, by decide +kernel⟩, List.mem_of_getElem? (i := 804) (by decide +kernel), List.mem_of_getElem? (i := 1306) (by decide +kernel), List.mem_of_getElem? (i := 1307) (by decide +kernel)⟩
def lw_privs_5 : List (MethodName × Nat) := [(⟨"WrackDeedsModel", "fillOf", "(III)I"⟩, 36), (⟨"WrackDeedsModel", "mayBe", "(III)Z"⟩, 36), (⟨"WrackDeedsModel", "neverNow", "()I"⟩, 36), (⟨"WrackDeedsModel", "isSeen", "()Z"⟩, 36), (⟨"WrackDeedsModel", "wasOf", "(II)I"⟩, 36), (⟨"WrackDeedsModel", "hungOf", "(I)I"⟩, 36), (⟨"WrackDeedsModel", "sortOf", "(I)I"⟩, 36), (⟨"WrackDeedsModel", "askOf", "(I)I"⟩, 36), (⟨"WrackDeedsModel", "riskOf", "(IIII)J"⟩, 36), (⟨"WrackDeedsModel", "centuryOf", "(III)I"⟩, 36), (⟨"WrackDeedsModel", "lot", "(I)I"⟩, 36), (⟨"WrackDeedsModel", "tellsStrand", "(JI)J"⟩, 36), (⟨"WrackDeedsModel", "tellsHour", "(JII)J"⟩, 36)]
theorem lw_r5 : ∀ q ∈ lw_privs_5, lw_okq q := List.forall_mem_cons.mpr ⟨lw_p64, List.forall_mem_cons.mpr ⟨lw_p65, List.forall_mem_cons.mpr ⟨lw_p66, List.forall_mem_cons.mpr ⟨lw_p67, List.forall_mem_cons.mpr ⟨lw_p68, List.forall_mem_cons.mpr ⟨lw_p69, List.forall_mem_cons.mpr ⟨lw_p70, List.forall_mem_cons.mpr ⟨lw_p71, List.forall_mem_cons.mpr ⟨lw_p72, List.forall_mem_cons.mpr ⟨lw_p73, List.forall_mem_cons.mpr ⟨lw_p74, List.forall_mem_cons.mpr ⟨lw_p75, List.forall_mem_cons.mpr ⟨lw_p76, fun _ h => absurd h List.not_mem_nil⟩⟩⟩⟩⟩⟩⟩⟩⟩⟩⟩⟩⟩
def lw_privs : List (MethodName × Nat) := lw_privs_1 ++ (lw_privs_2 ++ (lw_privs_3 ++ (lw_privs_4 ++ (lw_privs_5))))
def lw_tbl : List Cond := k2_sels lw_privs ++ tables_1
theorem lw_privs_ok : ∀ q ∈ lw_privs, lw_okq q := by
  show ∀ q ∈ lw_privs_1 ++ (lw_privs_2 ++ (lw_privs_3 ++ (lw_privs_4 ++ (lw_privs_5)))), lw_okq q
  exact List.forall_mem_append.mpr ⟨lw_r1, List.forall_mem_append.mpr ⟨lw_r2, List.forall_mem_append.mpr ⟨lw_r3, List.forall_mem_append.mpr ⟨lw_r4, lw_r5⟩⟩⟩⟩

/-! ===== BEGIN words of one list among another's, by their places ===== -/
theorem goodIn_r {big : List Cond} (ws : List Cond) (ps : List Nat) (hp : ws = ps.filterMap (fun i => big[i]?)) (h : ws.all goodWord = true) : GoodIn big ws := by
  intro w hw
  have h1 := List.all_eq_true.mp h w hw
  rw [hp] at hw
  obtain ⟨i, -, hi⟩ := List.mem_filterMap.mp hw
  have hm : w ∈ big := by first | exact List.mem_of_getElem? hi | exact List.getElem?_mem hi
  exact ⟨hm, good_of_word h1⟩
theorem goodIn_app {big a b : List Cond} (ha : GoodIn big a) (hb : GoodIn big b) : GoodIn big (a ++ b) := fun w h => (List.mem_append.mp h).elim (ha w) (hb w)
theorem goodIn_ca {big a b : List Cond} {c : Cond} (ha : GoodIn big (c :: a)) (hb : GoodIn big b) : GoodIn big (c :: (a ++ b)) := fun w h => (List.mem_cons.mp h).elim (fun e => ha w (List.mem_cons.mpr (Or.inl e))) (fun h => (List.mem_append.mp h).elim (fun h => ha w (List.mem_cons.mpr (Or.inr h))) (hb w))
theorem goodIn_sub {big ws : List Cond} (hm : ∀ w ∈ ws, w ∈ big) (h : ws.all goodWord = true) : GoodIn big ws := fun w hw => ⟨hm w hw, good_of_word (List.all_eq_true.mp h w hw)⟩
/-! ===== END ===== -/

def RX0 : String := "WrackDeeds$Deeds"
def TX0 : u_T := fun k => match k with
  | 0 => ("WrackDeeds$Deeds", "size", "I", false)
  | 1 => ("WrackDeeds$Deeds", "highs", "[I", true)
  | 2 => ("WrackDeeds$Deeds", "kinds", "[I", true)
  | 3 => ("WrackDeeds$Deeds", "lengths", "[I", true)
  | 4 => ("WrackDeeds$Deeds", "bladders", "[I", true)
  | 5 => ("WrackDeeds$Deeds", "ons", "[I", true)
  | 6 => ("WrackDeeds$Deeds", "chains", "[I", true)
  | _ => ("WrackDeeds$Deeds", "place", "I", false)
def tyX0 : Nat → FieldType := fun k => match k with
  | 0 => .int
  | 1 => .array .int
  | 2 => .array .int
  | 3 => .array .int
  | 4 => .array .int
  | 5 => .array .int
  | 6 => .array .int
  | _ => .int
abbrev wsX00 : List Cond := u_ws RX0 TX0 8
theorem nmX0 : ∀ a, a < 8 → ∀ b, b < 8 → a ≠ b → (TX0 a).2.1 ≠ (TX0 b).2.1 := by decide +kernel
theorem tyX0_ok : ∀ k, k < 8 → parseFieldDescriptor (TX0 k).2.2.1 = some (tyX0 k) := by decide +kernel
abbrev cX0_init : ByteArray := prog_2_method_1_code
def yX0_init : MethodName := ⟨RX0, "<init>", "()V"⟩
abbrev cX0_bladderOf : ByteArray := prog_2_method_2_code
def yX0_bladderOf : MethodName := ⟨RX0, "bladderOf", "(II)I"⟩
abbrev cX0_parse : ByteArray := prog_2_method_3_code
def yX0_parse : MethodName := ⟨RX0, "parse", "(LWrackDeeds$Text;)I"⟩
abbrev cX0_takes : ByteArray := prog_2_method_4_code
def yX0_takes : MethodName := ⟨RX0, "takes", "(I)Z"⟩
abbrev cX0_takesFigure : ByteArray := prog_2_method_5_code
def yX0_takesFigure : MethodName := ⟨RX0, "takesFigure", "(I)Z"⟩
abbrev cX0_takesKind : ByteArray := prog_2_method_6_code
def yX0_takesKind : MethodName := ⟨RX0, "takesKind", "(I)Z"⟩
abbrev cX0_takesBladder : ByteArray := prog_2_method_7_code
def yX0_takesBladder : MethodName := ⟨RX0, "takesBladder", "(I)Z"⟩
abbrev cX0_linkAll : ByteArray := prog_2_method_8_code
def yX0_linkAll : MethodName := ⟨RX0, "linkAll", "()V"⟩
abbrev cX0_onOf : ByteArray := prog_2_method_9_code
def yX0_onOf : MethodName := ⟨RX0, "onOf", "(I)I"⟩
abbrev cX0_chainOf : ByteArray := prog_2_method_10_code
def yX0_chainOf : MethodName := ⟨RX0, "chainOf", "(I)I"⟩
abbrev cX0_inTwos : ByteArray := prog_2_method_11_code
def yX0_inTwos : MethodName := ⟨RX0, "inTwos", "(I)Z"⟩
abbrev cX0_commonRun : ByteArray := prog_2_method_12_code
def yX0_commonRun : MethodName := ⟨RX0, "commonRun", "(II)I"⟩
abbrev cX0_runFrom : ByteArray := prog_2_method_13_code
def yX0_runFrom : MethodName := ⟨RX0, "runFrom", "(IIII)I"⟩
def RX1 : String := "WrackDeeds$Events"
def TX1 : u_T := fun k => match k with
  | 0 => ("WrackDeeds$Events", "size", "I", false)
  | 1 => ("WrackDeeds$Events", "kinds", "[I", true)
  | 2 => ("WrackDeeds$Events", "hours", "[I", true)
  | 3 => ("WrackDeeds$Events", "strands", "[I", true)
  | 4 => ("WrackDeeds$Events", "numbers", "[I", true)
  | _ => ("WrackDeeds$Events", "seed", "I", false)
def tyX1 : Nat → FieldType := fun k => match k with
  | 0 => .int
  | 1 => .array .int
  | 2 => .array .int
  | 3 => .array .int
  | 4 => .array .int
  | _ => .int
abbrev wsX10 : List Cond := u_ws RX1 TX1 6
theorem nmX1 : ∀ a, a < 6 → ∀ b, b < 6 → a ≠ b → (TX1 a).2.1 ≠ (TX1 b).2.1 := by decide +kernel
theorem tyX1_ok : ∀ k, k < 6 → parseFieldDescriptor (TX1 k).2.2.1 = some (tyX1 k) := by decide +kernel
abbrev cX1_init : ByteArray := prog_3_method_1_code
def yX1_init : MethodName := ⟨RX1, "<init>", "()V"⟩
abbrev cX1_tell : ByteArray := prog_3_method_2_code
def yX1_tell : MethodName := ⟨RX1, "tell", "(IIII)V"⟩
abbrev cX1_pops : ByteArray := prog_3_method_3_code
def yX1_pops : MethodName := ⟨RX1, "pops", "(III)Z"⟩
abbrev cX1_herons : ByteArray := prog_3_method_4_code
def yX1_herons : MethodName := ⟨RX1, "herons", "(II)I"⟩
abbrev cX1_draw : ByteArray := prog_3_method_5_code
def yX1_draw : MethodName := ⟨RX1, "draw", "(III)V"⟩
abbrev cX1_lot : ByteArray := prog_3_method_6_code
def yX1_lot : MethodName := ⟨RX1, "lot", "(I)I"⟩
def RX2 : String := "WrackDeeds$Filling"
def TX2 : u_T := fun k => match k with
  | 0 => ("WrackDeeds$Filling", "known", "[I", true)
  | 1 => ("WrackDeeds$Filling", "onward", "[I", true)
  | _ => ("WrackDeeds$Filling", "length", "I", false)
def tyX2 : Nat → FieldType := fun k => match k with
  | 0 => .array .int
  | 1 => .array .int
  | _ => .int
abbrev wsX20 : List Cond := u_ws RX2 TX2 3
theorem nmX2 : ∀ a, a < 3 → ∀ b, b < 3 → a ≠ b → (TX2 a).2.1 ≠ (TX2 b).2.1 := by decide +kernel
theorem tyX2_ok : ∀ k, k < 3 → parseFieldDescriptor (TX2 k).2.2.1 = some (tyX2 k) := by decide +kernel
abbrev cX2_init : ByteArray := prog_4_method_1_code
def yX2_init : MethodName := ⟨RX2, "<init>", "()V"⟩
abbrev cX2_begin : ByteArray := prog_4_method_2_code
def yX2_begin : MethodName := ⟨RX2, "begin", "(I)V"⟩
abbrev cX2_reckon : ByteArray := prog_4_method_3_code
def yX2_reckon : MethodName := ⟨RX2, "reckon", "()V"⟩
abbrev cX2_waysBehind : ByteArray := prog_4_method_4_code
def yX2_waysBehind : MethodName := ⟨RX2, "waysBehind", "(II)I"⟩
abbrev cX2_sumBut : ByteArray := prog_4_method_5_code
def yX2_sumBut : MethodName := ⟨RX2, "sumBut", "(II)I"⟩
abbrev cX2_ways : ByteArray := prog_4_method_6_code
def yX2_ways : MethodName := ⟨RX2, "ways", "()I"⟩
abbrev cX2_leastAt : ByteArray := prog_4_method_7_code
def yX2_leastAt : MethodName := ⟨RX2, "leastAt", "(I)I"⟩
abbrev cX2_leastBut : ByteArray := prog_4_method_8_code
def yX2_leastBut : MethodName := ⟨RX2, "leastBut", "(II)I"⟩
def RX3 : String := "WrackDeeds$Hanging"
def TX3 : u_T := fun k => match k with
  | 0 => ("WrackDeeds$Hanging", "highs", "[I", true)
  | 1 => ("WrackDeeds$Hanging", "states", "[I", true)
  | 2 => ("WrackDeeds$Hanging", "high", "I", false)
  | 3 => ("WrackDeeds$Hanging", "kind", "I", false)
  | _ => ("WrackDeeds$Hanging", "eaten", "Z", false)
def tyX3 : Nat → FieldType := fun k => match k with
  | 0 => .array .int
  | 1 => .array .int
  | 2 => .int
  | 3 => .int
  | _ => .boolean
abbrev wsX30 : List Cond := u_ws RX3 TX3 5
theorem nmX3 : ∀ a, a < 5 → ∀ b, b < 5 → a ≠ b → (TX3 a).2.1 ≠ (TX3 b).2.1 := by decide +kernel
theorem tyX3_ok : ∀ k, k < 5 → parseFieldDescriptor (TX3 k).2.2.1 = some (tyX3 k) := by decide +kernel
abbrev cX3_init : ByteArray := prog_5_method_1_code
def yX3_init : MethodName := ⟨RX3, "<init>", "()V"⟩
abbrev cX3_begin : ByteArray := prog_5_method_2_code
def yX3_begin : MethodName := ⟨RX3, "begin", "(II)V"⟩
abbrev cX3_live : ByteArray := prog_5_method_3_code
def yX3_live : MethodName := ⟨RX3, "live", "(I[ILWrackDeeds$Events;I)V"⟩
abbrev cX3_suffer : ByteArray := prog_5_method_4_code
def yX3_suffer : MethodName := ⟨RX3, "suffer", "(II)V"⟩
abbrev cX3_legibleHours : ByteArray := prog_5_method_5_code
def yX3_legibleHours : MethodName := ⟨RX3, "legibleHours", "()I"⟩
def RX4 : String := "WrackDeeds$Sheet"
def TX4 : u_T := fun k => match k with
  | 0 => ("WrackDeeds$Sheet", "lost", "Z", false)
  | 1 => ("WrackDeeds$Sheet", "form", "I", false)
  | 2 => ("WrackDeeds$Sheet", "size", "I", false)
  | _ => ("WrackDeeds$Sheet", "items", "[I", true)
def tyX4 : Nat → FieldType := fun k => match k with
  | 0 => .boolean
  | 1 => .int
  | 2 => .int
  | _ => .array .int
abbrev wsX40 : List Cond := u_ws RX4 TX4 4
theorem nmX4 : ∀ a, a < 4 → ∀ b, b < 4 → a ≠ b → (TX4 a).2.1 ≠ (TX4 b).2.1 := by decide +kernel
theorem tyX4_ok : ∀ k, k < 4 → parseFieldDescriptor (TX4 k).2.2.1 = some (tyX4 k) := by decide +kernel
abbrev cX4_init : ByteArray := prog_6_method_1_code
def yX4_init : MethodName := ⟨RX4, "<init>", "()V"⟩
abbrev cX4_make : ByteArray := prog_6_method_2_code
def yX4_make : MethodName := ⟨RX4, "make", "(II)V"⟩
abbrev cX4_put : ByteArray := prog_6_method_3_code
def yX4_put : MethodName := ⟨RX4, "put", "(II)V"⟩
abbrev cX4_hasRun : ByteArray := prog_6_method_4_code
def yX4_hasRun : MethodName := ⟨RX4, "hasRun", "(II)Z"⟩
def RX5 : String := "WrackDeeds$Shore"
def TX5 : u_T := fun k => match k with
  | _ => ("WrackDeeds$Shore", "hangings", "[LWrackDeeds$Hanging;", true)
def tyX5 : Nat → FieldType := fun k => match k with
  | _ => .array (.object "WrackDeeds$Hanging")
abbrev wsX50 : List Cond := u_ws RX5 TX5 1
theorem nmX5 : ∀ a, a < 1 → ∀ b, b < 1 → a ≠ b → (TX5 a).2.1 ≠ (TX5 b).2.1 := by decide +kernel
theorem tyX5_ok : ∀ k, k < 1 → parseFieldDescriptor (TX5 k).2.2.1 = some (tyX5 k) := by decide +kernel
abbrev cX5_init : ByteArray := prog_7_method_1_code
def yX5_init : MethodName := ⟨RX5, "<init>", "()V"⟩
abbrev cX5_hangAll : ByteArray := prog_7_method_2_code
def yX5_hangAll : MethodName := ⟨RX5, "hangAll", "(LWrackDeeds$Deeds;[ILWrackDeeds$Events;)V"⟩
abbrev cX5_firstRead : ByteArray := prog_7_method_3_code
def yX5_firstRead : MethodName := ⟨RX5, "firstRead", "(I)I"⟩
abbrev cX5_nextRead : ByteArray := prog_7_method_4_code
def yX5_nextRead : MethodName := ⟨RX5, "nextRead", "(III)I"⟩
def RX6 : String := "WrackDeeds$Sightings"
def TX6 : u_T := fun k => match k with
  | 0 => ("WrackDeeds$Sightings", "size", "I", false)
  | 1 => ("WrackDeeds$Sightings", "hours", "[I", true)
  | 2 => ("WrackDeeds$Sightings", "strands", "[I", true)
  | 3 => ("WrackDeeds$Sightings", "states", "[I", true)
  | _ => ("WrackDeeds$Sightings", "alike", "[I", true)
def tyX6 : Nat → FieldType := fun k => match k with
  | 0 => .int
  | 1 => .array .int
  | 2 => .array .int
  | 3 => .array .int
  | _ => .array .int
abbrev wsX60 : List Cond := u_ws RX6 TX6 5
theorem nmX6 : ∀ a, a < 5 → ∀ b, b < 5 → a ≠ b → (TX6 a).2.1 ≠ (TX6 b).2.1 := by decide +kernel
theorem tyX6_ok : ∀ k, k < 5 → parseFieldDescriptor (TX6 k).2.2.1 = some (tyX6 k) := by decide +kernel
abbrev cX6_init : ByteArray := prog_8_method_1_code
def yX6_init : MethodName := ⟨RX6, "<init>", "()V"⟩
abbrev cX6_tell : ByteArray := prog_8_method_2_code
def yX6_tell : MethodName := ⟨RX6, "tell", "(III)V"⟩
abbrev cX6_addAlike : ByteArray := prog_8_method_3_code
def yX6_addAlike : MethodName := ⟨RX6, "addAlike", "([I)V"⟩
abbrev cX6_mostAlike : ByteArray := prog_8_method_4_code
def yX6_mostAlike : MethodName := ⟨RX6, "mostAlike", "(I)I"⟩
def RX7 : String := "WrackDeeds$Text"
def TX7 : u_T := fun k => match k with
  | 0 => ("WrackDeeds$Text", "bytes", "[I", true)
  | 1 => ("WrackDeeds$Text", "most", "I", true)
  | 2 => ("WrackDeeds$Text", "size", "I", false)
  | _ => ("WrackDeeds$Text", "faultAt", "I", false)
def tyX7 : Nat → FieldType := fun k => match k with
  | 0 => .array .int
  | 1 => .int
  | 2 => .int
  | _ => .int
abbrev wsX70 : List Cond := u_ws RX7 TX7 4
theorem nmX7 : ∀ a, a < 4 → ∀ b, b < 4 → a ≠ b → (TX7 a).2.1 ≠ (TX7 b).2.1 := by decide +kernel
theorem tyX7_ok : ∀ k, k < 4 → parseFieldDescriptor (TX7 k).2.2.1 = some (tyX7 k) := by decide +kernel
abbrev cX7_init : ByteArray := prog_9_method_1_code
def yX7_init : MethodName := ⟨RX7, "<init>", "(I)V"⟩
abbrev cX7_firstBeyond : ByteArray := prog_9_method_2_code
def yX7_firstBeyond : MethodName := ⟨RX7, "firstBeyond", "(II)I"⟩
abbrev cX7_sound : ByteArray := prog_9_method_3_code
def yX7_sound : MethodName := ⟨RX7, "sound", "()I"⟩
def RX8 : String := "WrackDeeds$Tour"
def TX8 : u_T := fun k => match k with
  | 0 => ("WrackDeeds$Tour", "size", "I", false)
  | 1 => ("WrackDeeds$Tour", "lastHour", "I", false)
  | 2 => ("WrackDeeds$Tour", "row", "[I", true)
  | 3 => ("WrackDeeds$Tour", "stale", "Z", false)
  | 4 => ("WrackDeeds$Tour", "tried", "[I", true)
  | 5 => ("WrackDeeds$Tour", "met", "[I", true)
  | _ => ("WrackDeeds$Tour", "strands", "I", false)
def tyX8 : Nat → FieldType := fun k => match k with
  | 0 => .int
  | 1 => .int
  | 2 => .array .int
  | 3 => .boolean
  | 4 => .array .int
  | 5 => .array .int
  | _ => .int
abbrev wsX80 : List Cond := u_ws RX8 TX8 7
theorem nmX8 : ∀ a, a < 7 → ∀ b, b < 7 → a ≠ b → (TX8 a).2.1 ≠ (TX8 b).2.1 := by decide +kernel
theorem tyX8_ok : ∀ k, k < 7 → parseFieldDescriptor (TX8 k).2.2.1 = some (tyX8 k) := by decide +kernel
abbrev cX8_init : ByteArray := prog_10_method_1_code
def yX8_init : MethodName := ⟨RX8, "<init>", "()V"⟩
abbrev cX8_look : ByteArray := prog_10_method_2_code
def yX8_look : MethodName := ⟨RX8, "look", "(LWrackDeeds$Shore;I)V"⟩
abbrev cX8_visit : ByteArray := prog_10_method_3_code
def yX8_visit : MethodName := ⟨RX8, "visit", "(LWrackDeeds$Tour;LWrackDeeds$Shore;IIII)V"⟩
abbrev cX8_mayGetBetter : ByteArray := prog_10_method_4_code
def yX8_mayGetBetter : MethodName := ⟨RX8, "mayGetBetter", "(II)Z"⟩
abbrev cX8_keepIfBetter : ByteArray := prog_10_method_5_code
def yX8_keepIfBetter : MethodName := ⟨RX8, "keepIfBetter", "(II)V"⟩
def RX9 : String := "WrackDeeds$Walk"
def TX9 : u_T := fun k => match k with
  | 0 => ("WrackDeeds$Walk", "size", "I", false)
  | _ => ("WrackDeeds$Walk", "hours", "[I", true)
def tyX9 : Nat → FieldType := fun k => match k with
  | 0 => .int
  | _ => .array .int
abbrev wsX90 : List Cond := u_ws RX9 TX9 2
theorem nmX9 : ∀ a, a < 2 → ∀ b, b < 2 → a ≠ b → (TX9 a).2.1 ≠ (TX9 b).2.1 := by decide +kernel
theorem tyX9_ok : ∀ k, k < 2 → parseFieldDescriptor (TX9 k).2.2.1 = some (tyX9 k) := by decide +kernel
abbrev cX9_init : ByteArray := prog_11_method_1_code
def yX9_init : MethodName := ⟨RX9, "<init>", "()V"⟩
abbrev cX9_go : ByteArray := prog_11_method_2_code
def yX9_go : MethodName := ⟨RX9, "go", "(LWrackDeeds$Shore;ILWrackDeeds$Text;)V"⟩
def RX10 : String := "WrackDeeds"
def TX10 : u_T := fun k => match k with
  | 0 => ("WrackDeeds", "strandText", "LWrackDeeds$Text;", true)
  | 1 => ("WrackDeeds", "tideText", "LWrackDeeds$Text;", true)
  | 2 => ("WrackDeeds", "routeText", "LWrackDeeds$Text;", true)
  | 3 => ("WrackDeeds", "deeds", "LWrackDeeds$Deeds;", true)
  | 4 => ("WrackDeeds", "tides", "[I", true)
  | 5 => ("WrackDeeds", "events", "LWrackDeeds$Events;", true)
  | 6 => ("WrackDeeds", "drawn", "LWrackDeeds$Events;", true)
  | 7 => ("WrackDeeds", "told", "LWrackDeeds$Shore;", true)
  | 8 => ("WrackDeeds", "guessed", "LWrackDeeds$Shore;", true)
  | 9 => ("WrackDeeds", "walk", "LWrackDeeds$Walk;", true)
  | 10 => ("WrackDeeds", "guessedWalk", "LWrackDeeds$Walk;", true)
  | 11 => ("WrackDeeds", "best", "LWrackDeeds$Tour;", true)
  | 12 => ("WrackDeeds", "sightings", "LWrackDeeds$Sightings;", true)
  | 13 => ("WrackDeeds", "filling", "LWrackDeeds$Filling;", true)
  | 14 => ("WrackDeeds", "sheets", "[LWrackDeeds$Sheet;", true)
  | 15 => ("WrackDeeds", "latestFinding", "I", false)
  | _ => ("WrackDeeds", "stale", "Z", false)
def tyX10 : Nat → FieldType := fun k => match k with
  | 0 => .object "WrackDeeds$Text"
  | 1 => .object "WrackDeeds$Text"
  | 2 => .object "WrackDeeds$Text"
  | 3 => .object "WrackDeeds$Deeds"
  | 4 => .array .int
  | 5 => .object "WrackDeeds$Events"
  | 6 => .object "WrackDeeds$Events"
  | 7 => .object "WrackDeeds$Shore"
  | 8 => .object "WrackDeeds$Shore"
  | 9 => .object "WrackDeeds$Walk"
  | 10 => .object "WrackDeeds$Walk"
  | 11 => .object "WrackDeeds$Tour"
  | 12 => .object "WrackDeeds$Sightings"
  | 13 => .object "WrackDeeds$Filling"
  | 14 => .array (.object "WrackDeeds$Sheet")
  | 15 => .int
  | _ => .boolean
abbrev wsX100 : List Cond := u_ws RX10 TX10 17
theorem nmX10 : ∀ a, a < 17 → ∀ b, b < 17 → a ≠ b → (TX10 a).2.1 ≠ (TX10 b).2.1 := by decide +kernel
theorem tyX10_ok : ∀ k, k < 17 → parseFieldDescriptor (TX10 k).2.2.1 = some (tyX10 k) := by decide +kernel
abbrev cX10_init : ByteArray := prog_1_method_1_code
def yX10_init : MethodName := ⟨RX10, "<init>", "()V"⟩
abbrev cX10_type : ByteArray := prog_1_method_2_code
def yX10_type : MethodName := ⟨RX10, "type", "(II)I"⟩
abbrev cX10_wipe : ByteArray := prog_1_method_3_code
def yX10_wipe : MethodName := ⟨RX10, "wipe", "(I)I"⟩
abbrev cX10_undo : ByteArray := prog_1_method_4_code
def yX10_undo : MethodName := ⟨RX10, "undo", "(I)I"⟩
abbrev cX10_fault : ByteArray := prog_1_method_5_code
def yX10_fault : MethodName := ⟨RX10, "fault", "(I)I"⟩
abbrev cX10_strand : ByteArray := prog_1_method_6_code
def yX10_strand : MethodName := ⟨RX10, "strand", "(II)I"⟩
abbrev cX10_tide : ByteArray := prog_1_method_7_code
def yX10_tide : MethodName := ⟨RX10, "tide", "(I)I"⟩
abbrev cX10_route : ByteArray := prog_1_method_8_code
def yX10_route : MethodName := ⟨RX10, "route", "(I)I"⟩
abbrev cX10_event : ByteArray := prog_1_method_9_code
def yX10_event : MethodName := ⟨RX10, "event", "(IIII)I"⟩
abbrev cX10_back : ByteArray := prog_1_method_10_code
def yX10_back : MethodName := ⟨RX10, "back", "()I"⟩
abbrev cX10_read : ByteArray := prog_1_method_11_code
def yX10_read : MethodName := ⟨RX10, "read", "(I)I"⟩
abbrev cX10_state : ByteArray := prog_1_method_12_code
def yX10_state : MethodName := ⟨RX10, "state", "(III)I"⟩
abbrev cX10_says : ByteArray := prog_1_method_13_code
def yX10_says : MethodName := ⟨RX10, "says", "(III)I"⟩
abbrev cX10_deed : ByteArray := prog_1_method_14_code
def yX10_deed : MethodName := ⟨RX10, "deed", "(II)I"⟩
abbrev cX10_voids : ByteArray := prog_1_method_15_code
def yX10_voids : MethodName := ⟨RX10, "voids", "(I)I"⟩
abbrev cX10_forged : ByteArray := prog_1_method_16_code
def yX10_forged : MethodName := ⟨RX10, "forged", "()I"⟩
abbrev cX10_tangled : ByteArray := prog_1_method_17_code
def yX10_tangled : MethodName := ⟨RX10, "tangled", "(I)I"⟩
abbrev cX10_reads : ByteArray := prog_1_method_18_code
def yX10_reads : MethodName := ⟨RX10, "reads", "(I)I"⟩
abbrev cX10_tour : ByteArray := prog_1_method_19_code
def yX10_tour : MethodName := ⟨RX10, "tour", "(I)I"⟩
abbrev cX10_hang : ByteArray := prog_1_method_20_code
def yX10_hang : MethodName := ⟨RX10, "hang", "(II)I"⟩
abbrev cX10_save : ByteArray := prog_1_method_21_code
def yX10_save : MethodName := ⟨RX10, "save", "(II)I"⟩
abbrev cX10_fill : ByteArray := prog_1_method_22_code
def yX10_fill : MethodName := ⟨RX10, "fill", "(III)I"⟩
abbrev cX10_seen : ByteArray := prog_1_method_23_code
def yX10_seen : MethodName := ⟨RX10, "seen", "(III)I"⟩
abbrev cX10_forget : ByteArray := prog_1_method_24_code
def yX10_forget : MethodName := ⟨RX10, "forget", "()I"⟩
abbrev cX10_never : ByteArray := prog_1_method_25_code
def yX10_never : MethodName := ⟨RX10, "never", "()I"⟩
abbrev cX10_was : ByteArray := prog_1_method_26_code
def yX10_was : MethodName := ⟨RX10, "was", "(II)I"⟩
abbrev cX10_ask : ByteArray := prog_1_method_27_code
def yX10_ask : MethodName := ⟨RX10, "ask", "(I)I"⟩
abbrev cX10_risk : ByteArray := prog_1_method_28_code
def yX10_risk : MethodName := ⟨RX10, "risk", "(IIII)J"⟩
abbrev cX10_century : ByteArray := prog_1_method_29_code
def yX10_century : MethodName := ⟨RX10, "century", "(III)I"⟩
abbrev cX10_sheet : ByteArray := prog_1_method_30_code
def yX10_sheet : MethodName := ⟨RX10, "sheet", "(III)I"⟩
abbrev cX10_lose : ByteArray := prog_1_method_31_code
def yX10_lose : MethodName := ⟨RX10, "lose", "(I)I"⟩
abbrev cX10_lay : ByteArray := prog_1_method_32_code
def yX10_lay : MethodName := ⟨RX10, "lay", "(IIII)I"⟩
abbrev cX10_get : ByteArray := prog_1_method_33_code
def yX10_get : MethodName := ⟨RX10, "get", "(III)I"⟩
abbrev cX10_copy : ByteArray := prog_1_method_34_code
def yX10_copy : MethodName := ⟨RX10, "copy", "(IIIII)I"⟩
abbrev cX10_write : ByteArray := prog_1_method_35_code
def yX10_write : MethodName := ⟨RX10, "write", "(II)I"⟩
abbrev cX10_count : ByteArray := prog_1_method_36_code
def yX10_count : MethodName := ⟨RX10, "count", "(I)I"⟩
abbrev cX10_digest : ByteArray := prog_1_method_37_code
def yX10_digest : MethodName := ⟨RX10, "digest", "()J"⟩
abbrev cX10_within : ByteArray := prog_1_method_38_code
def yX10_within : MethodName := ⟨RX10, "within", "(II)Z"⟩
abbrev cX10_mayBeEvent : ByteArray := prog_1_method_39_code
def yX10_mayBeEvent : MethodName := ⟨RX10, "mayBeEvent", "(IIII)Z"⟩
abbrev cX10_bitAt : ByteArray := prog_1_method_40_code
def yX10_bitAt : MethodName := ⟨RX10, "bitAt", "(II)I"⟩
abbrev cX10_stateAt : ByteArray := prog_1_method_41_code
def yX10_stateAt : MethodName := ⟨RX10, "stateAt", "(III)I"⟩
abbrev cX10_textOf : ByteArray := prog_1_method_42_code
def yX10_textOf : MethodName := ⟨RX10, "textOf", "(I)LWrackDeeds$Text;"⟩
abbrev cX10_isStrand : ByteArray := prog_1_method_43_code
def yX10_isStrand : MethodName := ⟨RX10, "isStrand", "(I)Z"⟩
abbrev cX10_finding : ByteArray := prog_1_method_44_code
def yX10_finding : MethodName := ⟨RX10, "finding", "(I)I"⟩
abbrev cX10_freshen : ByteArray := prog_1_method_45_code
def yX10_freshen : MethodName := ⟨RX10, "freshen", "()V"⟩
abbrev cX10_eventFrom : ByteArray := prog_1_method_46_code
def yX10_eventFrom : MethodName := ⟨RX10, "eventFrom", "(LWrackDeeds$Sheet;I)Z"⟩
abbrev cX10_bladderIn : ByteArray := prog_1_method_47_code
def yX10_bladderIn : MethodName := ⟨RX10, "bladderIn", "(III)I"⟩
abbrev cX10_voidBits : ByteArray := prog_1_method_48_code
def yX10_voidBits : MethodName := ⟨RX10, "voidBits", "(LWrackDeeds$Events;I)I"⟩
abbrev cX10_legibleHoursAt : ByteArray := prog_1_method_49_code
def yX10_legibleHoursAt : MethodName := ⟨RX10, "legibleHoursAt", "(II)I"⟩
abbrev cX10_guessHanging : ByteArray := prog_1_method_50_code
def yX10_guessHanging : MethodName := ⟨RX10, "guessHanging", "(IIII)V"⟩
abbrev cX10_comesOut : ByteArray := prog_1_method_51_code
def yX10_comesOut : MethodName := ⟨RX10, "comesOut", "(I)Z"⟩
abbrev cX10_hungBits : ByteArray := prog_1_method_52_code
def yX10_hungBits : MethodName := ⟨RX10, "hungBits", "(I)I"⟩
abbrev cX10_sortBits : ByteArray := prog_1_method_53_code
def yX10_sortBits : MethodName := ⟨RX10, "sortBits", "(I)I"⟩
abbrev cX10_itemFinding : ByteArray := prog_1_method_54_code
def yX10_itemFinding : MethodName := ⟨RX10, "itemFinding", "(LWrackDeeds$Sheet;II)I"⟩
abbrev cX10_digestTold : ByteArray := prog_1_method_55_code
def yX10_digestTold : MethodName := ⟨RX10, "digestTold", "(JI)J"⟩
abbrev cX10_digestHour : ByteArray := prog_1_method_56_code
def yX10_digestHour : MethodName := ⟨RX10, "digestHour", "(JII)J"⟩
abbrev cX10_digestDeed : ByteArray := prog_1_method_57_code
def yX10_digestDeed : MethodName := ⟨RX10, "digestDeed", "(JI)J"⟩
abbrev cX10_digestWhole : ByteArray := prog_1_method_58_code
def yX10_digestWhole : MethodName := ⟨RX10, "digestWhole", "(J)J"⟩
def RX11 : String := "WrackDeedsModel"
def TX11 : u_T := fun k => match k with
  | 0 => ("WrackDeedsModel", "forms", "[I", true)
  | 1 => ("WrackDeedsModel", "sizes", "[I", true)
  | 2 => ("WrackDeedsModel", "items", "[I", true)
  | 3 => ("WrackDeedsModel", "moved", "[I", true)
  | 4 => ("WrackDeedsModel", "latest", "I", false)
  | 5 => ("WrackDeedsModel", "bytes", "[I", true)
  | 6 => ("WrackDeedsModel", "typed", "[I", true)
  | 7 => ("WrackDeedsModel", "strands", "I", false)
  | 8 => ("WrackDeedsModel", "high", "[I", true)
  | 9 => ("WrackDeedsModel", "kind", "[I", true)
  | 10 => ("WrackDeedsModel", "longs", "[I", true)
  | 11 => ("WrackDeedsModel", "bladder", "[I", true)
  | 12 => ("WrackDeedsModel", "tide", "[I", true)
  | 13 => ("WrackDeedsModel", "routes", "I", false)
  | 14 => ("WrackDeedsModel", "route", "[I", true)
  | 15 => ("WrackDeedsModel", "events", "I", false)
  | 16 => ("WrackDeedsModel", "event", "[I", true)
  | 17 => ("WrackDeedsModel", "highBy", "[I", true)
  | 18 => ("WrackDeedsModel", "poppedBy", "[I", true)
  | 19 => ("WrackDeedsModel", "eatenBy", "[I", true)
  | 20 => ("WrackDeedsModel", "highNow", "[I", true)
  | 21 => ("WrackDeedsModel", "poppedNow", "[I", true)
  | 22 => ("WrackDeedsModel", "gone", "I", false)
  | 23 => ("WrackDeedsModel", "readBy", "[I", true)
  | 24 => ("WrackDeedsModel", "tour", "[I", true)
  | 25 => ("WrackDeedsModel", "tourHour", "[I", true)
  | 26 => ("WrackDeedsModel", "bestTour", "[I", true)
  | 27 => ("WrackDeedsModel", "tourMany", "I", false)
  | 28 => ("WrackDeedsModel", "tourLast", "I", false)
  | 29 => ("WrackDeedsModel", "way", "[I", true)
  | 30 => ("WrackDeedsModel", "leastWay", "[I", true)
  | 31 => ("WrackDeedsModel", "sights", "I", false)
  | 32 => ("WrackDeedsModel", "sight", "[I", true)
  | 33 => ("WrackDeedsModel", "alike", "[I", true)
  | 34 => ("WrackDeedsModel", "drawn", "I", false)
  | _ => ("WrackDeedsModel", "told", "[I", true)
def tyX11 : Nat → FieldType := fun k => match k with
  | 0 => .array .int
  | 1 => .array .int
  | 2 => .array .int
  | 3 => .array .int
  | 4 => .int
  | 5 => .array .int
  | 6 => .array .int
  | 7 => .int
  | 8 => .array .int
  | 9 => .array .int
  | 10 => .array .int
  | 11 => .array .int
  | 12 => .array .int
  | 13 => .int
  | 14 => .array .int
  | 15 => .int
  | 16 => .array .int
  | 17 => .array .int
  | 18 => .array .int
  | 19 => .array .int
  | 20 => .array .int
  | 21 => .array .int
  | 22 => .int
  | 23 => .array .int
  | 24 => .array .int
  | 25 => .array .int
  | 26 => .array .int
  | 27 => .int
  | 28 => .int
  | 29 => .array .int
  | 30 => .array .int
  | 31 => .int
  | 32 => .array .int
  | 33 => .array .int
  | 34 => .int
  | _ => .array .int
abbrev wsX110 : List Cond := u_ws RX11 TX11 36
theorem nmX11 : ∀ a, a < 36 → ∀ b, b < 36 → a ≠ b → (TX11 a).2.1 ≠ (TX11 b).2.1 := by decide +kernel
theorem tyX11_ok : ∀ k, k < 36 → parseFieldDescriptor (TX11 k).2.2.1 = some (tyX11 k) := by decide +kernel
abbrev cX11_init : ByteArray := prog_13_method_1_code
def yX11_init : MethodName := ⟨RX11, "<init>", "()V"⟩
abbrev cX11_in : ByteArray := prog_13_method_3_code
def yX11_in : MethodName := ⟨RX11, "in", "(JJJ)Z"⟩
abbrev cX11_no : ByteArray := prog_13_method_4_code
def yX11_no : MethodName := ⟨RX11, "no", "(I)J"⟩
abbrev cX11_isTwo : ByteArray := prog_13_method_5_code
def yX11_isTwo : MethodName := ⟨RX11, "isTwo", "(I)Z"⟩
abbrev cX11_isIn : ByteArray := prog_13_method_6_code
def yX11_isIn : MethodName := ⟨RX11, "isIn", "(II)Z"⟩
abbrev cX11_ones : ByteArray := prog_13_method_7_code
def yX11_ones : MethodName := ⟨RX11, "ones", "(I)I"⟩
abbrev cX11_lesser : ByteArray := prog_13_method_8_code
def yX11_lesser : MethodName := ⟨RX11, "lesser", "(II)I"⟩
abbrev cX11_greater : ByteArray := prog_13_method_9_code
def yX11_greater : MethodName := ⟨RX11, "greater", "(II)I"⟩
abbrev cX11_part : ByteArray := prog_13_method_10_code
def yX11_part : MethodName := ⟨RX11, "part", "(JJI)J"⟩
abbrev cX11_finds : ByteArray := prog_13_method_11_code
def yX11_finds : MethodName := ⟨RX11, "finds", "(I)I"⟩
abbrev cX11_isSheet : ByteArray := prog_13_method_12_code
def yX11_isSheet : MethodName := ⟨RX11, "isSheet", "(I)Z"⟩
abbrev cX11_sheet : ByteArray := prog_13_method_13_code
def yX11_sheet : MethodName := ⟨RX11, "sheet", "(III)I"⟩
abbrev cX11_lose : ByteArray := prog_13_method_14_code
def yX11_lose : MethodName := ⟨RX11, "lose", "(I)I"⟩
abbrev cX11_lacks : ByteArray := prog_13_method_15_code
def yX11_lacks : MethodName := ⟨RX11, "lacks", "(III)I"⟩
abbrev cX11_cut : ByteArray := prog_13_method_16_code
def yX11_cut : MethodName := ⟨RX11, "cut", "(II)I"⟩
abbrev cX11_lay : ByteArray := prog_13_method_17_code
def yX11_lay : MethodName := ⟨RX11, "lay", "(IIII)I"⟩
abbrev cX11_get : ByteArray := prog_13_method_18_code
def yX11_get : MethodName := ⟨RX11, "get", "(III)I"⟩
abbrev cX11_copy : ByteArray := prog_13_method_19_code
def yX11_copy : MethodName := ⟨RX11, "copy", "(IIIII)I"⟩
abbrev cX11_isText : ByteArray := prog_13_method_20_code
def yX11_isText : MethodName := ⟨RX11, "isText", "(I)Z"⟩
abbrev cX11_type : ByteArray := prog_13_method_21_code
def yX11_type : MethodName := ⟨RX11, "type", "(II)I"⟩
abbrev cX11_wipe : ByteArray := prog_13_method_22_code
def yX11_wipe : MethodName := ⟨RX11, "wipe", "(I)I"⟩
abbrev cX11_undo : ByteArray := prog_13_method_23_code
def yX11_undo : MethodName := ⟨RX11, "undo", "(I)I"⟩
abbrev cX11_readsStrands : ByteArray := prog_13_method_24_code
def yX11_readsStrands : MethodName := ⟨RX11, "readsStrands", "()I"⟩
abbrev cX11_fives : ByteArray := prog_13_method_25_code
def yX11_fives : MethodName := ⟨RX11, "fives", "()V"⟩
abbrev cX11_readsTides : ByteArray := prog_13_method_26_code
def yX11_readsTides : MethodName := ⟨RX11, "readsTides", "()I"⟩
abbrev cX11_readsRoute : ByteArray := prog_13_method_27_code
def yX11_readsRoute : MethodName := ⟨RX11, "readsRoute", "()I"⟩
abbrev cX11_readsText : ByteArray := prog_13_method_28_code
def yX11_readsText : MethodName := ⟨RX11, "readsText", "(I)I"⟩
abbrev cX11_fault : ByteArray := prog_13_method_29_code
def yX11_fault : MethodName := ⟨RX11, "fault", "(I)I"⟩
abbrev cX11_isStrand : ByteArray := prog_13_method_30_code
def yX11_isStrand : MethodName := ⟨RX11, "isStrand", "(I)Z"⟩
abbrev cX11_isHour : ByteArray := prog_13_method_31_code
def yX11_isHour : MethodName := ⟨RX11, "isHour", "(I)Z"⟩
abbrev cX11_strandBy : ByteArray := prog_13_method_32_code
def yX11_strandBy : MethodName := ⟨RX11, "strandBy", "(II)I"⟩
abbrev cX11_strand : ByteArray := prog_13_method_33_code
def yX11_strand : MethodName := ⟨RX11, "strand", "(II)I"⟩
abbrev cX11_tide : ByteArray := prog_13_method_34_code
def yX11_tide : MethodName := ⟨RX11, "tide", "(I)I"⟩
abbrev cX11_routeBy : ByteArray := prog_13_method_35_code
def yX11_routeBy : MethodName := ⟨RX11, "routeBy", "(I)I"⟩
abbrev cX11_route : ByteArray := prog_13_method_36_code
def yX11_route : MethodName := ⟨RX11, "route", "(I)I"⟩
abbrev cX11_puts : ByteArray := prog_13_method_37_code
def yX11_puts : MethodName := ⟨RX11, "puts", "(IIII)V"⟩
abbrev cX11_event : ByteArray := prog_13_method_38_code
def yX11_event : MethodName := ⟨RX11, "event", "(IIII)I"⟩
abbrev cX11_back : ByteArray := prog_13_method_39_code
def yX11_back : MethodName := ⟨RX11, "back", "()I"⟩
abbrev cX11_read : ByteArray := prog_13_method_40_code
def yX11_read : MethodName := ⟨RX11, "read", "(I)I"⟩
abbrev cX11_lives : ByteArray := prog_13_method_41_code
def yX11_lives : MethodName := ⟨RX11, "lives", "()V"⟩
abbrev cX11_find : ByteArray := prog_13_method_42_code
def yX11_find : MethodName := ⟨RX11, "find", "()V"⟩
abbrev cX11_lies : ByteArray := prog_13_method_43_code
def yX11_lies : MethodName := ⟨RX11, "lies", "(III)I"⟩
abbrev cX11_stateOf : ByteArray := prog_13_method_44_code
def yX11_stateOf : MethodName := ⟨RX11, "stateOf", "(II)I"⟩
abbrev cX11_state : ByteArray := prog_13_method_45_code
def yX11_state : MethodName := ⟨RX11, "state", "(III)I"⟩
abbrev cX11_isPopped : ByteArray := prog_13_method_46_code
def yX11_isPopped : MethodName := ⟨RX11, "isPopped", "(III)Z"⟩
abbrev cX11_saysOf : ByteArray := prog_13_method_47_code
def yX11_saysOf : MethodName := ⟨RX11, "saysOf", "(III)I"⟩
abbrev cX11_says : ByteArray := prog_13_method_48_code
def yX11_says : MethodName := ⟨RX11, "says", "(III)I"⟩
abbrev cX11_hangsOn : ByteArray := prog_13_method_49_code
def yX11_hangsOn : MethodName := ⟨RX11, "hangsOn", "(I)I"⟩
abbrev cX11_legibleOf : ByteArray := prog_13_method_50_code
def yX11_legibleOf : MethodName := ⟨RX11, "legibleOf", "(I)I"⟩
abbrev cX11_deed : ByteArray := prog_13_method_51_code
def yX11_deed : MethodName := ⟨RX11, "deed", "(II)I"⟩
abbrev cX11_isVoid : ByteArray := prog_13_method_52_code
def yX11_isVoid : MethodName := ⟨RX11, "isVoid", "(II)Z"⟩
abbrev cX11_voidsBy : ByteArray := prog_13_method_53_code
def yX11_voidsBy : MethodName := ⟨RX11, "voidsBy", "(I)I"⟩
abbrev cX11_voids : ByteArray := prog_13_method_54_code
def yX11_voids : MethodName := ⟨RX11, "voids", "(I)I"⟩
abbrev cX11_forgedNow : ByteArray := prog_13_method_55_code
def yX11_forgedNow : MethodName := ⟨RX11, "forgedNow", "()I"⟩
abbrev cX11_forged : ByteArray := prog_13_method_56_code
def yX11_forged : MethodName := ⟨RX11, "forged", "()I"⟩
abbrev cX11_run : ByteArray := prog_13_method_57_code
def yX11_run : MethodName := ⟨RX11, "run", "(II)I"⟩
abbrev cX11_tangledNow : ByteArray := prog_13_method_58_code
def yX11_tangledNow : MethodName := ⟨RX11, "tangledNow", "(I)I"⟩
abbrev cX11_tangled : ByteArray := prog_13_method_59_code
def yX11_tangled : MethodName := ⟨RX11, "tangled", "(I)I"⟩
abbrev cX11_readOn : ByteArray := prog_13_method_60_code
def yX11_readOn : MethodName := ⟨RX11, "readOn", "(III)I"⟩
abbrev cX11_goes : ByteArray := prog_13_method_61_code
def yX11_goes : MethodName := ⟨RX11, "goes", "()V"⟩
abbrev cX11_readsOf : ByteArray := prog_13_method_62_code
def yX11_readsOf : MethodName := ⟨RX11, "readsOf", "(I)I"⟩
abbrev cX11_reads : ByteArray := prog_13_method_63_code
def yX11_reads : MethodName := ⟨RX11, "reads", "(I)I"⟩
abbrev cX11_nextHour : ByteArray := prog_13_method_64_code
def yX11_nextHour : MethodName := ⟨RX11, "nextHour", "(II)I"⟩
abbrev cX11_keepsTour : ByteArray := prog_13_method_65_code
def yX11_keepsTour : MethodName := ⟨RX11, "keepsTour", "(I)V"⟩
abbrev cX11_findTour : ByteArray := prog_13_method_66_code
def yX11_findTour : MethodName := ⟨RX11, "findTour", "()V"⟩
abbrev cX11_tourBy : ByteArray := prog_13_method_67_code
def yX11_tourBy : MethodName := ⟨RX11, "tourBy", "(I)I"⟩
abbrev cX11_tour : ByteArray := prog_13_method_68_code
def yX11_tour : MethodName := ⟨RX11, "tour", "(I)I"⟩
abbrev cX11_hangOf : ByteArray := prog_13_method_69_code
def yX11_hangOf : MethodName := ⟨RX11, "hangOf", "(II)I"⟩
abbrev cX11_hang : ByteArray := prog_13_method_70_code
def yX11_hang : MethodName := ⟨RX11, "hang", "(II)I"⟩
abbrev cX11_isSafe : ByteArray := prog_13_method_71_code
def yX11_isSafe : MethodName := ⟨RX11, "isSafe", "(II)Z"⟩
abbrev cX11_saveOf : ByteArray := prog_13_method_72_code
def yX11_saveOf : MethodName := ⟨RX11, "saveOf", "(II)I"⟩
abbrev cX11_save : ByteArray := prog_13_method_73_code
def yX11_save : MethodName := ⟨RX11, "save", "(II)I"⟩
abbrev cX11_mayBe : ByteArray := prog_13_method_74_code
def yX11_mayBe : MethodName := ⟨RX11, "mayBe", "(III)Z"⟩
abbrev cX11_fillOf : ByteArray := prog_13_method_75_code
def yX11_fillOf : MethodName := ⟨RX11, "fillOf", "(III)I"⟩
abbrev cX11_fill : ByteArray := prog_13_method_76_code
def yX11_fill : MethodName := ⟨RX11, "fill", "(III)I"⟩
abbrev cX11_seen : ByteArray := prog_13_method_77_code
def yX11_seen : MethodName := ⟨RX11, "seen", "(III)I"⟩
abbrev cX11_forget : ByteArray := prog_13_method_78_code
def yX11_forget : MethodName := ⟨RX11, "forget", "()I"⟩
abbrev cX11_isSeen : ByteArray := prog_13_method_79_code
def yX11_isSeen : MethodName := ⟨RX11, "isSeen", "()Z"⟩
abbrev cX11_neverNow : ByteArray := prog_13_method_80_code
def yX11_neverNow : MethodName := ⟨RX11, "neverNow", "()I"⟩
abbrev cX11_never : ByteArray := prog_13_method_81_code
def yX11_never : MethodName := ⟨RX11, "never", "()I"⟩
abbrev cX11_hungOf : ByteArray := prog_13_method_82_code
def yX11_hungOf : MethodName := ⟨RX11, "hungOf", "(I)I"⟩
abbrev cX11_sortOf : ByteArray := prog_13_method_83_code
def yX11_sortOf : MethodName := ⟨RX11, "sortOf", "(I)I"⟩
abbrev cX11_wasOf : ByteArray := prog_13_method_84_code
def yX11_wasOf : MethodName := ⟨RX11, "wasOf", "(II)I"⟩
abbrev cX11_was : ByteArray := prog_13_method_85_code
def yX11_was : MethodName := ⟨RX11, "was", "(II)I"⟩
abbrev cX11_askOf : ByteArray := prog_13_method_86_code
def yX11_askOf : MethodName := ⟨RX11, "askOf", "(I)I"⟩
abbrev cX11_ask : ByteArray := prog_13_method_87_code
def yX11_ask : MethodName := ⟨RX11, "ask", "(I)I"⟩
abbrev cX11_riskOf : ByteArray := prog_13_method_88_code
def yX11_riskOf : MethodName := ⟨RX11, "riskOf", "(IIII)J"⟩
abbrev cX11_risk : ByteArray := prog_13_method_89_code
def yX11_risk : MethodName := ⟨RX11, "risk", "(IIII)J"⟩
abbrev cX11_lot : ByteArray := prog_13_method_90_code
def yX11_lot : MethodName := ⟨RX11, "lot", "(I)I"⟩
abbrev cX11_centuryOf : ByteArray := prog_13_method_91_code
def yX11_centuryOf : MethodName := ⟨RX11, "centuryOf", "(III)I"⟩
abbrev cX11_century : ByteArray := prog_13_method_92_code
def yX11_century : MethodName := ⟨RX11, "century", "(III)I"⟩
abbrev cX11_write : ByteArray := prog_13_method_93_code
def yX11_write : MethodName := ⟨RX11, "write", "(II)I"⟩
abbrev cX11_count : ByteArray := prog_13_method_94_code
def yX11_count : MethodName := ⟨RX11, "count", "(I)I"⟩
abbrev cX11_tellsHour : ByteArray := prog_13_method_95_code
def yX11_tellsHour : MethodName := ⟨RX11, "tellsHour", "(JII)J"⟩
abbrev cX11_tellsStrand : ByteArray := prog_13_method_96_code
def yX11_tellsStrand : MethodName := ⟨RX11, "tellsStrand", "(JI)J"⟩
abbrev cX11_digest : ByteArray := prog_13_method_97_code
def yX11_digest : MethodName := ⟨RX11, "digest", "()J"⟩
def RJ6 : String := "java/lang/Integer"
def TJ6 : u_T := fun k => match k with
  | _ => ("", "", "", false)
def tyJ6 : Nat → FieldType := fun k => match k with
  | _ => .int
abbrev wsJ60 : List Cond := u_ws RJ6 TJ6 0
theorem nmJ6 : ∀ a, a < 0 → ∀ b, b < 0 → a ≠ b → (TJ6 a).2.1 ≠ (TJ6 b).2.1 := by decide +kernel
theorem tyJ6_ok : ∀ k, k < 0 → parseFieldDescriptor (TJ6 k).2.2.1 = some (tyJ6 k) := by decide +kernel
abbrev cJ6_bitCount_0f7a4 : ByteArray := prog_14_method_49_code
def yJ6_bitCount_0f7a4 : MethodName := ⟨RJ6, "bitCount", "(I)I"⟩
def RJ9 : String := "java/lang/Math"
def TJ9 : u_T := fun k => match k with
  | _ => ("", "", "", false)
def tyJ9 : Nat → FieldType := fun k => match k with
  | _ => .int
abbrev wsJ90 : List Cond := u_ws RJ9 TJ9 0
theorem nmJ9 : ∀ a, a < 0 → ∀ b, b < 0 → a ≠ b → (TJ9 a).2.1 ≠ (TJ9 b).2.1 := by decide +kernel
theorem tyJ9_ok : ∀ k, k < 0 → parseFieldDescriptor (TJ9 k).2.2.1 = some (tyJ9 k) := by decide +kernel
abbrev cJ9_abs_0f7a4 : ByteArray := prog_15_method_59_code
def yJ9_abs_0f7a4 : MethodName := ⟨RJ9, "abs", "(I)I"⟩
abbrev cJ9_max_7cf53 : ByteArray := prog_15_method_65_code
def yJ9_max_7cf53 : MethodName := ⟨RJ9, "max", "(II)I"⟩
abbrev cJ9_min_7cf53 : ByteArray := prog_15_method_69_code
def yJ9_min_7cf53 : MethodName := ⟨RJ9, "min", "(II)I"⟩
def RJ10 : String := "java/lang/System"
def TJ10 : u_T := fun k => match k with
  | _ => ("", "", "", false)
def tyJ10 : Nat → FieldType := fun k => match k with
  | _ => .int
abbrev wsJ100 : List Cond := u_ws RJ10 TJ10 0
theorem nmJ10 : ∀ a, a < 0 → ∀ b, b < 0 → a ≠ b → (TJ10 a).2.1 ≠ (TJ10 b).2.1 := by decide +kernel
theorem tyJ10_ok : ∀ k, k < 0 → parseFieldDescriptor (TJ10 k).2.2.1 = some (tyJ10 k) := by decide +kernel
def RJ7 : String := "java/util/Arrays"
def TJ7 : u_T := fun k => match k with
  | _ => ("", "", "", false)
def tyJ7 : Nat → FieldType := fun k => match k with
  | _ => .int
abbrev wsJ70 : List Cond := u_ws RJ7 TJ7 0
theorem nmJ7 : ∀ a, a < 0 → ∀ b, b < 0 → a ≠ b → (TJ7 a).2.1 ≠ (TJ7 b).2.1 := by decide +kernel
theorem tyJ7_ok : ∀ k, k < 0 → parseFieldDescriptor (TJ7 k).2.2.1 = some (tyJ7 k) := by decide +kernel
abbrev cJ7_fill_53178 : ByteArray := prog_17_method_103_code
def yJ7_fill_53178 : MethodName := ⟨RJ7, "fill", "([II)V"⟩
def RL : String := "WrackDeedsLaw"
abbrev cL_law : ByteArray := code
def yL_law : MethodName := ⟨RL, "law", "([I)Z"⟩
abbrev vwCl : List vw_C := [(RX0, TX0, 8), (RX1, TX1, 6), (RX2, TX2, 3), (RX3, TX3, 5), (RX4, TX4, 4), (RX5, TX5, 1), (RX6, TX6, 5), (RX7, TX7, 4), (RX8, TX8, 7), (RX9, TX9, 2), (RX10, TX10, 17), (RX11, TX11, 36)]
end
section
/-! THE ABSTRACT MACHINE: values, memory of ints, the fixed shape of a world, the judgement am_Wn -/
abbrev AV : Type := Int32 ⊕ Int64 ⊕ Nat ⊕ Unit
abbrev vI (x : Int32) : AV := .inl x
abbrev vL (x : Int64) : AV := .inr (.inl x)
abbrev vR (x : Nat) : AV := .inr (.inr (.inl x))
abbrev vU : AV := .inr (.inr (.inr ()))
/-- the ints of the cells: cell number, place -/
abbrev am_M : Type := Nat → Nat → Int32
/-- a cell's shape: ints, so many | references (kind of array, cells) | an object (class number, of each slot: an int, or the cell it refers to) -/
abbrev am_SC : Type := Nat ⊕ (Nat × List Nat) ⊕ (Nat × List (Option Nat))
def am_cv (ad : Nat → Nat) : AV → Value
  | .inl x => .int x
  | .inr (.inl x) => .long x
  | .inr (.inr (.inl r)) => .ref (ad r)
  | .inr (.inr (.inr _)) => .null
def am_ov (ad : Nat → Nat) : AV → Option Value
  | .inl x => some (.int x)
  | .inr (.inl x) => some (.long x)
  | .inr (.inr (.inl r)) => some (.ref (ad r))
  | .inr (.inr (.inr _)) => none
def am_sv (ad : Nat → Nat) (f : Nat → Int32) (j : Nat) (o : Option Nat) : Value := match o with
  | none => .int (f j)
  | some r => .ref (ad r)
def am_ce (ad : Nat → Nat) (cs : Nat → ClassId) (f : Nat → Int32) : am_SC → va_E
  | .inl n => .inl (cs 0, n, .inl f)
  | .inr (.inl (t, rs)) => .inl (cs t, rs.length, .inr (.inr (.inr (.inr (fun j => (rs[j]?).map ad)))))
  | .inr (.inr (ci, sl)) => .inr (ci, sl.mapIdx (am_sv ad f))
def am_wl (Sh : List am_SC) (ad : Nat → Nat) (cs : Nat → ClassId) (μ : am_M) : va_W := Sh.mapIdx (fun k sc => (ad k, am_ce ad cs (μ k) sc))
def am_ur (μ : am_M) (k : Nat) (f : Nat → Int32) : am_M := fun a => if a = k then f else μ a
def am_up (μ : am_M) (k j : Nat) (v : Int32) : am_M := am_ur μ k (upd (μ k) j v)
def am_ty (cs : Nat → ClassId) : List (ClassId × FieldType) := [(cs 0, .int), (cs 1, .object "WrackDeeds$Hanging"), (cs 2, .object "WrackDeeds$Sheet")]
theorem am_wl_get {Sh : List am_SC} {ad : Nat → Nat} {cs : Nat → ClassId} {μ : am_M} {k : Nat} {sc : am_SC} (h : Sh[k]? = some sc) : (am_wl Sh ad cs μ)[k]? = some (ad k, am_ce ad cs (μ k) sc) := by
  unfold am_wl
  rw [List.getElem?_mapIdx, h]
  rfl
theorem am_wl_set {Sh : List am_SC} {ad : Nat → Nat} {cs : Nat → ClassId} {μ : am_M} {k : Nat} {sc : am_SC} (h : Sh[k]? = some sc) (f : Nat → Int32) : (am_wl Sh ad cs μ).set k (ad k, am_ce ad cs f sc) = am_wl Sh ad cs (am_ur μ k f) := by
  have hk : k < Sh.length := (List.getElem?_eq_some_iff.mp h).1
  apply List.ext_getElem?
  intro i
  by_cases hi : i = k
  · subst hi
    rw [List.getElem?_set_self (by unfold am_wl; rw [List.length_mapIdx]; exact hk), am_wl_get h]
    simp [am_ur]
  · rw [List.getElem?_set_ne (Ne.symm hi)]
    unfold am_wl
    rw [List.getElem?_mapIdx, List.getElem?_mapIdx]
    simp [am_ur, hi]
theorem am_wl_D {Sh : List am_SC} {ad : Nat → Nat} {cs : Nat → ClassId} {μ μ' : am_M} {A : Nat → Prop} (h : va_D A (am_wl Sh ad cs μ)) : va_D A (am_wl Sh ad cs μ') := by
  have key : ∀ (k : Nat) (q : Nat × va_E), (am_wl Sh ad cs μ')[k]? = some q → ∃ q0, (am_wl Sh ad cs μ)[k]? = some q0 ∧ q0.1 = q.1 := by
    intro k q hk
    unfold am_wl at hk
    rw [List.getElem?_mapIdx] at hk
    cases hs : Sh[k]? with
    | none => rw [hs] at hk; simp at hk
    | some sc =>
      rw [hs] at hk
      refine ⟨_, am_wl_get hs, ?_⟩
      have := Option.some.inj hk
      rw [← this]
  refine ⟨fun i j x y hi hj hxy => ?_, fun k q hk => ?_⟩
  · obtain ⟨x0, h1, h2⟩ := key i x hi
    obtain ⟨y0, h3, h4⟩ := key j y hj
    exact h.1 i j x0 y0 h1 h3 (h2.trans (hxy.trans h4.symm))
  · obtain ⟨q0, h1, h2⟩ := key k q hk
    rw [← h2]
    exact h.2 k q0 h1
theorem am_wl_A {Sh : List am_SC} {ad : Nat → Nat} {cs : Nat → ClassId} {μ : am_M} {A : Nat → Prop} {H0 H : Heap} {locs : List Loc} (hD : va_D A (am_wl Sh ad cs μ)) (hS : va_S A H0 H locs) (hA : ∀ q : Nat, H0.size ≤ q → A q) : ∀ q, va_A (am_wl Sh ad cs μ) H.size q → A q := by
  intro q h
  rcases h with ⟨k, e, h⟩ | h
  · exact hD.2 k (q, e) h
  · exact hA q (Nat.le_trans hS.1 h)
/-! locals -/
def am_ll (ad : Nat → Nat) (env : List AV) : List (Nat × Value) := (List.range env.length).filterMap (fun i => (env[i]?).bind fun a => (am_ov ad a).map fun v => (i, v))
theorem am_ll_mem {ad : Nat → Nat} {env : List AV} {i : Nat} {v : Value} : (i, v) ∈ am_ll ad env ↔ ∃ a, env[i]? = some a ∧ am_ov ad a = some v := by
  unfold am_ll
  rw [List.mem_filterMap]
  constructor
  · rintro ⟨j, hj, h⟩
    cases ha : env[j]? with
    | none => rw [ha] at h; simp at h
    | some a =>
      rw [ha] at h
      cases hv : am_ov ad a with
      | none => simp [hv] at h
      | some w =>
        simp [hv] at h
        obtain ⟨rfl, rfl⟩ := h
        exact ⟨a, ha, hv⟩
  · rintro ⟨a, ha, hv⟩
    refine ⟨i, List.mem_range.mpr (List.getElem?_eq_some_iff.mp ha).1, ?_⟩
    simp [ha, hv]
def am_ag (ad : Nat → Nat) (ls : Array Slot) (nL : Nat) (env : List AV) : Prop := lv_has ls nL (am_ll ad env)
theorem am_ag.get {ad : Nat → Nat} {ls : Array Slot} {nL : Nat} {env : List AV} (h : am_ag ad ls nL env) {i : Nat} {a : AV} {v : Value} (ha : env[i]? = some a) (hv : am_ov ad a = some v) : ls[i]? = some (.val v) := h.2.2 (i, v) (am_ll_mem.mpr ⟨a, ha, hv⟩)
theorem am_ag.take {ad : Nat → Nat} {ls : Array Slot} {nL : Nat} {env : List AV} (h : am_ag ad ls nL env) (n : Nat) : am_ag ad ls nL (env.take n) := by
  refine ⟨h.1, h.2.1, fun q hq => ?_⟩
  obtain ⟨i, v⟩ := q
  obtain ⟨a, ha, hv⟩ := am_ll_mem.mp hq
  refine h.get (i := i) (a := a) ?_ hv
  rw [List.getElem?_take] at ha
  split at ha
  · exact ha
  · cases ha
/-- no long just below this place -/
def am_nl (env : List AV) : Nat → Bool
  | 0 => true
  | j + 1 => match env[j]? with
    | some (.inr (.inl _)) => false
    | _ => true
def am_se (env : List AV) (i : Nat) (a : AV) : List AV := if i < env.length then env.set i a else env ++ [a]
theorem am_se_get {env : List AV} {i : Nat} {a : AV} (hi : i ≤ env.length) {j : Nat} {b : AV} (h : (am_se env i a)[j]? = some b) : (j = i ∧ b = a) ∨ (j ≠ i ∧ env[j]? = some b) := by
  unfold am_se at h
  split at h
  · rename_i hl
    by_cases hj : j = i
    · subst hj
      rw [List.getElem?_set_self hl] at h
      exact Or.inl ⟨rfl, (Option.some.inj h).symm⟩
    · rw [List.getElem?_set_ne (Ne.symm hj)] at h
      exact Or.inr ⟨hj, h⟩
  · rename_i hl
    have hi2 : i = env.length := by omega
    by_cases hj : j < env.length
    · rw [List.getElem?_append_left hj] at h
      exact Or.inr ⟨by omega, h⟩
    · rw [List.getElem?_append_right (by omega)] at h
      have hz : j - env.length < 1 := (List.getElem?_eq_some_iff.mp h).1
      have hj2 : j = i := by omega
      subst hj2
      rw [hi2, Nat.sub_self] at h
      exact Or.inl ⟨rfl, (Option.some.inj h).symm⟩
theorem am_ov_cat {ad : Nat → Nat} {a : AV} {v : Value} (h : am_ov ad a = some v) (hc : v.category = 2) : ∃ x, a = .inr (.inl x) := by
  rcases a with x | x | x | x
  · cases h; simp [Value.category] at hc
  · exact ⟨x, rfl⟩
  · cases h; simp [Value.category] at hc
  · cases h
theorem am_ag.set1 {ad : Nat → Nat} {ls : Array Slot} {nL : Nat} {env : List AV} {i : Nat} {a : AV} {v : Value} (hv : am_ov ad a = some v) (hi : i ≤ env.length) (hn : am_nl env i = true)
    (h : lv_has ls nL ((i, v) :: (am_ll ad env).filter (fun q => !(q.1 == i) && !(q.1 + 1 == i && q.2.category == 2)))) : am_ag ad ls nL (am_se env i a) := by
  refine ⟨h.1, h.2.1, fun q hq => ?_⟩
  obtain ⟨j, w⟩ := q
  obtain ⟨b, hb, hw⟩ := am_ll_mem.mp hq
  rcases am_se_get hi hb with ⟨rfl, rfl⟩ | ⟨hj, hb2⟩
  · rw [hv] at hw
    cases hw
    exact h.2.2 (j, v) List.mem_cons_self
  · refine h.2.2 (j, w) (List.mem_cons_of_mem _ (List.mem_filter.mpr ⟨am_ll_mem.mpr ⟨b, hb2, hw⟩, ?_⟩))
    have h1 : (j == i) = false := by simpa using hj
    simp only [h1, Bool.not_false, Bool.true_and, Bool.not_eq_true', Bool.and_eq_false_iff]
    by_cases hji : j + 1 = i
    · right
      by_cases hc : w.category = 2
      · obtain ⟨x, rfl⟩ := am_ov_cat hw hc
        subst hji
        simp [am_nl, hb2] at hn
      · simpa using hc
    · left
      simpa using hji
theorem am_ag.set2 {ad : Nat → Nat} {ls : Array Slot} {nL : Nat} {env : List AV} {i : Nat} {x : Int64} (hi : i ≤ env.length) (hn : am_nl env i = true)
    (h : lv_has ls nL ((i, .long x) :: (am_ll ad env).filter (fun q => !(q.1 == i) && (!(q.1 == i + 1) && !(q.1 + 1 == i && q.2.category == 2))))) : am_ag ad ls nL (am_se (am_se env i (vL x)) (i + 1) vU) := by
  have hlen : i + 1 ≤ (am_se env i (vL x)).length := by
    unfold am_se
    split
    · rw [List.length_set]; omega
    · rw [List.length_append]; simp; omega
  refine ⟨h.1, h.2.1, fun q hq => ?_⟩
  obtain ⟨j, w⟩ := q
  obtain ⟨b, hb, hw⟩ := am_ll_mem.mp hq
  rcases am_se_get hlen hb with ⟨rfl, rfl⟩ | ⟨hj1, hb1⟩
  · cases hw
  · rcases am_se_get hi hb1 with ⟨rfl, rfl⟩ | ⟨hj, hb2⟩
    · cases hw
      exact h.2.2 (j, _) List.mem_cons_self
    · refine h.2.2 (j, w) (List.mem_cons_of_mem _ (List.mem_filter.mpr ⟨am_ll_mem.mpr ⟨b, hb2, hw⟩, ?_⟩))
      have h1 : (j == i) = false := by simpa using hj
      have h2 : (j == i + 1) = false := by simpa using hj1
      simp only [h1, h2, Bool.not_false, Bool.true_and, Bool.not_eq_true', Bool.and_eq_false_iff]
      by_cases hji : j + 1 = i
      · right
        by_cases hc : w.category = 2
        · obtain ⟨y, rfl⟩ := am_ov_cat hw hc
          subst hji
          simp [am_nl, hb2] at hn
        · simpa using hc
      · left
        simpa using hji
/-! the judgement -/
/-- p, l, e, R, s, m, args, below, meth, c, Q, D, cs, ad, A, cells, slots -/
abbrev am_G : Type := Program × Launch × Env × Room × State × MethodId × Array Value × List Frame × Method × Code × (State → Prop) × va_G × (Nat → ClassId) × (Nat → Nat) × (Nat → Prop) × Nat × Nat
/-- what is static of a method that runs: the shape of its world, its code, how many locals, how deep it may call, its class -/
abbrev am_S : Type := List am_SC × ByteArray × Nat × Nat × String
/-- the words that every state keeps; the words of calls to nest mates -/
def am_tb : List Jvm.Cond := lw_tbl.filter goodWord
def am_isN : Jvm.Cond → Bool
  | .methodLinkNest .. => true
  | _ => false
def am_ne : List Jvm.Cond := lw_tbl.filter am_isN
def am_Ok (S : am_S) : am_G → Prop
  | (p, l, e, R, s, m, args, below, meth, c, Q, D, cs, ad, A, nc, ns) => p.tables.exec = Jvm.exec ∧ c.code = S.2.1 ∧ c.maxLocals = S.2.2.1 ∧ s.vm.findClass S.2.2.2.2 = some m.cls ∧ ((∀ w ∈ am_tb, w.before args s = true) ∧ ∀ w ∈ am_ne, va_Nw w s) ∧ va_K D vwCl (am_ty cs) s ∧ (∀ q : Nat, s.heap.size ≤ q → A q) ∧ S.2.2.2.1 ≤ R.frames ∧ 64 * S.2.2.2.1 ≤ R.locals ∧ nc ≤ R.cells ∧ ns ≤ R.slots
def am_Wn (S : am_S) (G : am_G) (pc : Nat) (env st : List AV) (μ : am_M) : Prop := match G with
  | (p, l, e, R, s, m, args, below, meth, c, Q, D, cs, ad, A, nc, ns) => ∀ (H : Heap) (locs : List Loc) (ls : Array Slot), va_P D vwCl (am_wl S.1 ad cs μ) H → va_D A (am_wl S.1 ad cs μ) → va_S A s.heap H locs → am_ag ad ls S.2.2.1 env → W p l e R s m args below meth c H locs nc ns Q (F0 m pc ls (st.map (am_cv ad)))
/-- an instruction, its length, the word of the tables that it rests on, by its place -/
abbrev am_I : Type := Instr × Nat × Option (Nat × Jvm.Cond)
def am_fit (cc : ByteArray) : Nat → List am_I → Prop
  | _, [] => True
  | pc, (i, n, o) :: t => decode cc pc = .ok (i, n) ∧ (∀ q, o = some q → lw_tbl[q.1]? = some q.2) ∧ am_fit cc (pc + n) t
def am_sz : List am_I → Nat
  | [] => 0
  | (_, n, _) :: t => n + am_sz t
def am_fb (cc : ByteArray) : Nat → List am_I → Bool
  | _, [] => true
  | pc, (i, n, o) :: t => decide (decode cc pc = .ok (i, n)) && (match o with | none => true | some q => decide (lw_tbl[q.1]? = some q.2)) && am_fb cc (pc + n) t
theorem am_fb_ok {cc : ByteArray} : ∀ {l : List am_I} {pc : Nat}, am_fb cc pc l = true → am_fit cc pc l
  | [], _, _ => trivial
  | (i, n, o) :: t, pc, h => by
    simp only [am_fb, Bool.and_eq_true, decide_eq_true_eq] at h
    refine ⟨h.1.1, fun q hq => ?_, am_fb_ok h.2⟩
    subst hq
    simpa using h.1.2
theorem am_fit_app {cc : ByteArray} : ∀ {a b : List am_I} {pc : Nat}, am_fit cc pc (a ++ b) → am_fit cc pc a ∧ am_fit cc (pc + am_sz a) b
  | [], b, pc, h => ⟨trivial, h⟩
  | (i, n, o) :: t, b, pc, h => by
    obtain ⟨h1, h2, h3⟩ := h
    obtain ⟨h4, h5⟩ := am_fit_app (a := t) (b := b) (pc := pc + n) h3
    refine ⟨⟨h1, h2, h4⟩, ?_⟩
    show am_fit cc (pc + (n + am_sz t)) b
    rw [← Nat.add_assoc]
    exact h5
theorem am_sz_app : ∀ (a b : List am_I), am_sz (a ++ b) = am_sz a + am_sz b
  | [], b => by simp [am_sz]
  | (i, n, o) :: t, b => by
    show n + am_sz (t ++ b) = n + am_sz t + am_sz b
    rw [am_sz_app t b, Nat.add_assoc]
theorem am_word {k : Nat} {w : Jvm.Cond} (h : lw_tbl[k]? = some w) (hg : goodWord w = true) : w ∈ am_tb := List.mem_filter.mpr ⟨List.mem_of_getElem? h, hg⟩
theorem am_wordN {k : Nat} {w : Jvm.Cond} (h : lw_tbl[k]? = some w) (hg : am_isN w = true) : w ∈ am_ne := List.mem_filter.mpr ⟨List.mem_of_getElem? h, hg⟩
theorem am_good {y : MethodName} {cc : ByteArray} {n : Nat} {ret : Option FieldType} (h : Jvm.Cond.code y cc n ret ∈ am_tb) : GoodIn am_tb (Jvm.Cond.code y cc n ret :: am_tb) := by
  intro w hw
  have key : ∀ w ∈ am_tb, (w.onTables && w.keeps) = true ∨ ∃ ty, w = Jvm.Cond.arrayClass ty := fun w h => good_of_word (List.mem_filter.mp h).2
  rcases List.mem_cons.mp hw with rfl | hw
  · exact ⟨h, key _ h⟩
  · exact ⟨hw, key _ hw⟩
end
section
/-! A ROW AN INSTRUCTION, over am_Wn -/
/-- pushes: what is pushed, of the locals -/
def am_IK (S : am_S) (i : am_I) (op : List AV → Option AV) : Prop := ∀ (G : am_G), am_Ok S G → ∀ (pc : Nat), am_fit S.2.1 pc [i] → ∀ (env st : List AV) (μ : am_M) (w : AV), op env = some w → am_Wn S G (pc + i.2.1) env (w :: st) μ → am_Wn S G pc env st μ
/-- takes one, gives one -/
def am_IU (S : am_S) (i : am_I) (op : AV → am_M → Option AV) : Prop := ∀ (G : am_G), am_Ok S G → ∀ (pc : Nat), am_fit S.2.1 pc [i] → ∀ (env st : List AV) (μ : am_M) (v w : AV), op v μ = some w → am_Wn S G (pc + i.2.1) env (w :: st) μ → am_Wn S G pc env (v :: st) μ
/-- takes two, gives one -/
def am_IB (S : am_S) (i : am_I) (op : AV → AV → am_M → Option AV) : Prop := ∀ (G : am_G), am_Ok S G → ∀ (pc : Nat), am_fit S.2.1 pc [i] → ∀ (env st : List AV) (μ : am_M) (v1 v2 w : AV), op v1 v2 μ = some w → am_Wn S G (pc + i.2.1) env (w :: st) μ → am_Wn S G pc env (v2 :: v1 :: st) μ
def o_k (v : AV) : List AV → Option AV := fun _ => some v
def o_li (i : Nat) : List AV → Option AV := fun env => match env[i]? with
  | some (.inl x) => some (vI x)
  | _ => none
def o_ll (i : Nat) : List AV → Option AV := fun env => match env[i]? with
  | some (.inr (.inl x)) => some (vL x)
  | _ => none
def o_lr (i : Nat) : List AV → Option AV := fun env => match env[i]? with
  | some (.inr (.inr (.inl x))) => some (vR x)
  | _ => none
theorem o_li_ok {i : Nat} {env : List AV} {w : AV} (h : o_li i env = some w) : ∃ x, w = vI x ∧ env[i]? = some (vI x) := by
  unfold o_li at h
  split at h
  · rename_i x hx
    cases h
    exact ⟨x, rfl, hx⟩
  · cases h
theorem o_ll_ok {i : Nat} {env : List AV} {w : AV} (h : o_ll i env = some w) : ∃ x, w = vL x ∧ env[i]? = some (vL x) := by
  unfold o_ll at h
  split at h
  · rename_i x hx
    cases h
    exact ⟨x, rfl, hx⟩
  · cases h
theorem o_lr_ok {i : Nat} {env : List AV} {w : AV} (h : o_lr i env = some w) : ∃ x, w = vR x ∧ env[i]? = some (vR x) := by
  unfold o_lr at h
  split at h
  · rename_i x hx
    cases h
    exact ⟨x, rfl, hx⟩
  · cases h
theorem ik_iconst {S : am_S} (n : Int) (v : Int32) (hv : Int32.ofInt n = v) : am_IK S (.iconst n, 1, none) (o_k (vI v)) := by
  rintro ⟨p, l, e, R, s, m, args, below, meth, c, Q, D, cs, ad, A, nc, ns⟩ hO pc hf env st μ w hw k H locs ls hP hD hS hl
  cases hw
  exact lv_iconst hO.1 hO.2.1 hf.1 hv (k H locs ls hP hD hS hl)
theorem ik_bipush {S : am_S} (n : Int) (v : Int32) (hv : (Int8.ofInt n).toInt32 = v) : am_IK S (.bipush n, 2, none) (o_k (vI v)) := by
  rintro ⟨p, l, e, R, s, m, args, below, meth, c, Q, D, cs, ad, A, nc, ns⟩ hO pc hf env st μ w hw k H locs ls hP hD hS hl
  cases hw
  exact lv_bipush hO.1 hO.2.1 hf.1 hv (k H locs ls hP hD hS hl)
theorem ik_sipush {S : am_S} (n : Int) (v : Int32) (hv : (Int16.ofInt n).toInt32 = v) : am_IK S (.sipush n, 3, none) (o_k (vI v)) := by
  rintro ⟨p, l, e, R, s, m, args, below, meth, c, Q, D, cs, ad, A, nc, ns⟩ hO pc hf env st μ w hw k H locs ls hP hD hS hl
  cases hw
  exact lv_sipush hO.1 hO.2.1 hf.1 hv (k H locs ls hP hD hS hl)
theorem ik_lconst {S : am_S} (n : Fin 2) (v : Int64) (hv : Int64.ofNat (n : Nat) = v) : am_IK S (.lconst n, 1, none) (o_k (vL v)) := by
  rintro ⟨p, l, e, R, s, m, args, below, meth, c, Q, D, cs, ad, A, nc, ns⟩ hO pc hf env st μ w hw k H locs ls hP hD hS hl
  cases hw
  exact lv_lconst hO.1 hO.2.1 hf.1 hv (k H locs ls hP hD hS hl)
theorem ik_ldc {S : am_S} (i : Nat) (v : Int32) (q : Nat) : am_IK S (.ldc i, 2, some (q, .constant S.2.2.2.2 i v)) (o_k (vI v)) := by
  rintro ⟨p, l, e, R, s, m, args, below, meth, c, Q, D, cs, ad, A, nc, ns⟩ hO pc hf env st μ w hw k H locs ls hP hD hS hl
  cases hw
  exact lv_ldc hO.1 hO.2.1 hO.2.2.2.1 (hO.2.2.2.2.1.1 _ (am_word (hf.2.1 _ rfl) rfl)) hf.1 (k H locs ls hP hD hS hl)
theorem ik_ldc2 {S : am_S} (i : Nat) (v : Int64) (q : Nat) : am_IK S (.ldc2_w i, 3, some (q, .constantLong S.2.2.2.2 i v)) (o_k (vL v)) := by
  rintro ⟨p, l, e, R, s, m, args, below, meth, c, Q, D, cs, ad, A, nc, ns⟩ hO pc hf env st μ w hw k H locs ls hP hD hS hl
  cases hw
  exact lv_ldc2 hO.1 hO.2.1 hO.2.2.2.1 (hO.2.2.2.2.1.1 _ (am_word (hf.2.1 _ rfl) rfl)) hf.1 (k H locs ls hP hD hS hl)
theorem ik_iload_n {S : am_S} (n : Fin 4) : am_IK S (.iload_n n, 1, none) (o_li n) := by
  rintro ⟨p, l, e, R, s, m, args, below, meth, c, Q, D, cs, ad, A, nc, ns⟩ hO pc hf env st μ w hw k H locs ls hP hD hS hl
  obtain ⟨x, rfl, hx⟩ := o_li_ok hw
  exact lv_iload_n hO.1 hO.2.1 hf.1 rfl (hl.get hx rfl) (k H locs ls hP hD hS hl)
theorem ik_iload {S : am_S} (n : Nat) : am_IK S (.iload n, 2, none) (o_li n) := by
  rintro ⟨p, l, e, R, s, m, args, below, meth, c, Q, D, cs, ad, A, nc, ns⟩ hO pc hf env st μ w hw k H locs ls hP hD hS hl
  obtain ⟨x, rfl, hx⟩ := o_li_ok hw
  exact lv_iload hO.1 hO.2.1 hf.1 (hl.get hx rfl) (k H locs ls hP hD hS hl)
theorem ik_lload_n {S : am_S} (n : Fin 4) : am_IK S (.lload_n n, 1, none) (o_ll n) := by
  rintro ⟨p, l, e, R, s, m, args, below, meth, c, Q, D, cs, ad, A, nc, ns⟩ hO pc hf env st μ w hw k H locs ls hP hD hS hl
  obtain ⟨x, rfl, hx⟩ := o_ll_ok hw
  exact lv_lload_n hO.1 hO.2.1 hf.1 rfl (hl.get hx rfl) (k H locs ls hP hD hS hl)
theorem ik_lload {S : am_S} (n : Nat) : am_IK S (.lload n, 2, none) (o_ll n) := by
  rintro ⟨p, l, e, R, s, m, args, below, meth, c, Q, D, cs, ad, A, nc, ns⟩ hO pc hf env st μ w hw k H locs ls hP hD hS hl
  obtain ⟨x, rfl, hx⟩ := o_ll_ok hw
  exact lv_lload hO.1 hO.2.1 hf.1 (hl.get hx rfl) (k H locs ls hP hD hS hl)
theorem ik_aload_n {S : am_S} (n : Fin 4) : am_IK S (.aload_n n, 1, none) (o_lr n) := by
  rintro ⟨p, l, e, R, s, m, args, below, meth, c, Q, D, cs, ad, A, nc, ns⟩ hO pc hf env st μ w hw k H locs ls hP hD hS hl
  obtain ⟨x, rfl, hx⟩ := o_lr_ok hw
  exact lv_aload_n hO.1 hO.2.1 hf.1 rfl (hl.get hx rfl) (k H locs ls hP hD hS hl)
theorem ik_aload {S : am_S} (n : Nat) : am_IK S (.aload n, 2, none) (o_lr n) := by
  rintro ⟨p, l, e, R, s, m, args, below, meth, c, Q, D, cs, ad, A, nc, ns⟩ hO pc hf env st μ w hw k H locs ls hP hD hS hl
  obtain ⟨x, rfl, hx⟩ := o_lr_ok hw
  exact lv_aload hO.1 hO.2.1 hf.1 (hl.get hx rfl) (k H locs ls hP hD hS hl)
/-! two ints, two longs -/
def o_ii (f : Int32 → Int32 → Int32) : AV → AV → am_M → Option AV := fun a b _ => match a, b with
  | .inl x, .inl y => some (vI (f x y))
  | _, _ => none
def o_iz (f : Int32 → Int32 → Int32) : AV → AV → am_M → Option AV := fun a b _ => match a, b with
  | .inl x, .inl y => if y = 0 then none else some (vI (f x y))
  | _, _ => none
def o_jj (f : Int64 → Int64 → Int64) : AV → AV → am_M → Option AV := fun a b _ => match a, b with
  | .inr (.inl x), .inr (.inl y) => some (vL (f x y))
  | _, _ => none
def o_jz (f : Int64 → Int64 → Int64) : AV → AV → am_M → Option AV := fun a b _ => match a, b with
  | .inr (.inl x), .inr (.inl y) => if y = 0 then none else some (vL (f x y))
  | _, _ => none
def o_ji (f : Int64 → Int32 → Int64) : AV → AV → am_M → Option AV := fun a b _ => match a, b with
  | .inr (.inl x), .inl y => some (vL (f x y))
  | _, _ => none
def o_jc : AV → AV → am_M → Option AV := fun a b _ => match a, b with
  | .inr (.inl x), .inr (.inl y) => some (vI (lg_cmp x y))
  | _, _ => none
theorem o_ii_ok {f : Int32 → Int32 → Int32} {a b w : AV} {μ : am_M} (h : o_ii f a b μ = some w) : ∃ x y, a = vI x ∧ b = vI y ∧ w = vI (f x y) := by
  unfold o_ii at h
  split at h
  · cases h
    exact ⟨_, _, rfl, rfl, rfl⟩
  · cases h
theorem o_iz_ok {f : Int32 → Int32 → Int32} {a b w : AV} {μ : am_M} (h : o_iz f a b μ = some w) : ∃ x y, a = vI x ∧ b = vI y ∧ w = vI (f x y) ∧ ¬ y = 0 := by
  unfold o_iz at h
  split at h
  · split at h
    · cases h
    · rename_i hz
      cases h
      exact ⟨_, _, rfl, rfl, rfl, hz⟩
  · cases h
theorem o_jj_ok {f : Int64 → Int64 → Int64} {a b w : AV} {μ : am_M} (h : o_jj f a b μ = some w) : ∃ x y, a = vL x ∧ b = vL y ∧ w = vL (f x y) := by
  unfold o_jj at h
  split at h
  · cases h
    exact ⟨_, _, rfl, rfl, rfl⟩
  · cases h
theorem o_jz_ok {f : Int64 → Int64 → Int64} {a b w : AV} {μ : am_M} (h : o_jz f a b μ = some w) : ∃ x y, a = vL x ∧ b = vL y ∧ w = vL (f x y) ∧ ¬ y = 0 := by
  unfold o_jz at h
  split at h
  · split at h
    · cases h
    · rename_i hz
      cases h
      exact ⟨_, _, rfl, rfl, rfl, hz⟩
  · cases h
theorem o_ji_ok {f : Int64 → Int32 → Int64} {a b w : AV} {μ : am_M} (h : o_ji f a b μ = some w) : ∃ x y, a = vL x ∧ b = vI y ∧ w = vL (f x y) := by
  unfold o_ji at h
  split at h
  · cases h
    exact ⟨_, _, rfl, rfl, rfl⟩
  · cases h
theorem o_jc_ok {a b w : AV} {μ : am_M} (h : o_jc a b μ = some w) : ∃ x y, a = vL x ∧ b = vL y ∧ w = vI (lg_cmp x y) := by
  unfold o_jc at h
  split at h
  · cases h
    exact ⟨_, _, rfl, rfl, rfl⟩
  · cases h
theorem ib_iadd {S : am_S} : am_IB S (.iadd, 1, none) (o_ii (fun x y => x + y)) := by
  rintro ⟨p, l, e, R, s, m, args, below, meth, c, Q, D, cs, ad, A, nc, ns⟩ hO pc hf env st μ v1 v2 w hw k H locs ls hP hD hS hl
  obtain ⟨x, y, rfl, rfl, rfl⟩ := o_ii_ok hw
  exact lv_iadd hO.1 hO.2.1 hf.1 (k H locs ls hP hD hS hl)
theorem ib_isub {S : am_S} : am_IB S (.isub, 1, none) (o_ii (fun x y => x - y)) := by
  rintro ⟨p, l, e, R, s, m, args, below, meth, c, Q, D, cs, ad, A, nc, ns⟩ hO pc hf env st μ v1 v2 w hw k H locs ls hP hD hS hl
  obtain ⟨x, y, rfl, rfl, rfl⟩ := o_ii_ok hw
  exact lv_isub hO.1 hO.2.1 hf.1 (k H locs ls hP hD hS hl)
theorem ib_imul {S : am_S} : am_IB S (.imul, 1, none) (o_ii (fun x y => x * y)) := by
  rintro ⟨p, l, e, R, s, m, args, below, meth, c, Q, D, cs, ad, A, nc, ns⟩ hO pc hf env st μ v1 v2 w hw k H locs ls hP hD hS hl
  obtain ⟨x, y, rfl, rfl, rfl⟩ := o_ii_ok hw
  exact lv_imul hO.1 hO.2.1 hf.1 (k H locs ls hP hD hS hl)
theorem ib_iand {S : am_S} : am_IB S (.iand, 1, none) (o_ii (fun x y => x &&& y)) := by
  rintro ⟨p, l, e, R, s, m, args, below, meth, c, Q, D, cs, ad, A, nc, ns⟩ hO pc hf env st μ v1 v2 w hw k H locs ls hP hD hS hl
  obtain ⟨x, y, rfl, rfl, rfl⟩ := o_ii_ok hw
  exact lv_iand hO.1 hO.2.1 hf.1 (k H locs ls hP hD hS hl)
theorem ib_ior {S : am_S} : am_IB S (.ior, 1, none) (o_ii (fun x y => x ||| y)) := by
  rintro ⟨p, l, e, R, s, m, args, below, meth, c, Q, D, cs, ad, A, nc, ns⟩ hO pc hf env st μ v1 v2 w hw k H locs ls hP hD hS hl
  obtain ⟨x, y, rfl, rfl, rfl⟩ := o_ii_ok hw
  exact lv_ior hO.1 hO.2.1 hf.1 (k H locs ls hP hD hS hl)
theorem ib_ishl {S : am_S} : am_IB S (.ishl, 1, none) (o_ii (fun x y => x <<< (y &&& 31))) := by
  rintro ⟨p, l, e, R, s, m, args, below, meth, c, Q, D, cs, ad, A, nc, ns⟩ hO pc hf env st μ v1 v2 w hw k H locs ls hP hD hS hl
  obtain ⟨x, y, rfl, rfl, rfl⟩ := o_ii_ok hw
  exact lv_ishl hO.1 hO.2.1 hf.1 (k H locs ls hP hD hS hl)
theorem ib_ishr {S : am_S} : am_IB S (.ishr, 1, none) (o_ii (fun x y => x >>> (y &&& 31))) := by
  rintro ⟨p, l, e, R, s, m, args, below, meth, c, Q, D, cs, ad, A, nc, ns⟩ hO pc hf env st μ v1 v2 w hw k H locs ls hP hD hS hl
  obtain ⟨x, y, rfl, rfl, rfl⟩ := o_ii_ok hw
  exact lv_ishr hO.1 hO.2.1 hf.1 (k H locs ls hP hD hS hl)
theorem ib_iushr {S : am_S} : am_IB S (.iushr, 1, none) (o_ii (fun x y => (x.toUInt32 >>> (y.toUInt32 &&& Int32.toUInt32 31)).toInt32)) := by
  rintro ⟨p, l, e, R, s, m, args, below, meth, c, Q, D, cs, ad, A, nc, ns⟩ hO pc hf env st μ v1 v2 w hw k H locs ls hP hD hS hl
  obtain ⟨x, y, rfl, rfl, rfl⟩ := o_ii_ok hw
  exact lv_iushr hO.1 hO.2.1 hf.1 rfl (k H locs ls hP hD hS hl)
theorem ib_idiv {S : am_S} : am_IB S (.idiv, 1, none) (o_iz (fun x y => x / y)) := by
  rintro ⟨p, l, e, R, s, m, args, below, meth, c, Q, D, cs, ad, A, nc, ns⟩ hO pc hf env st μ v1 v2 w hw k H locs ls hP hD hS hl
  obtain ⟨x, y, rfl, rfl, rfl, hz⟩ := o_iz_ok hw
  exact lv_idiv hO.1 hO.2.1 hf.1 hz (k H locs ls hP hD hS hl)
theorem ib_irem {S : am_S} : am_IB S (.irem, 1, none) (o_iz (fun x y => x - (x / y) * y)) := by
  rintro ⟨p, l, e, R, s, m, args, below, meth, c, Q, D, cs, ad, A, nc, ns⟩ hO pc hf env st μ v1 v2 w hw k H locs ls hP hD hS hl
  obtain ⟨x, y, rfl, rfl, rfl, hz⟩ := o_iz_ok hw
  exact lv_irem hO.1 hO.2.1 hf.1 hz (k H locs ls hP hD hS hl)
theorem ib_ladd {S : am_S} : am_IB S (.ladd, 1, none) (o_jj (fun x y => x + y)) := by
  rintro ⟨p, l, e, R, s, m, args, below, meth, c, Q, D, cs, ad, A, nc, ns⟩ hO pc hf env st μ v1 v2 w hw k H locs ls hP hD hS hl
  obtain ⟨x, y, rfl, rfl, rfl⟩ := o_jj_ok hw
  exact lv_ladd hO.1 hO.2.1 hf.1 (k H locs ls hP hD hS hl)
theorem ib_lsub {S : am_S} : am_IB S (.lsub, 1, none) (o_jj (fun x y => x - y)) := by
  rintro ⟨p, l, e, R, s, m, args, below, meth, c, Q, D, cs, ad, A, nc, ns⟩ hO pc hf env st μ v1 v2 w hw k H locs ls hP hD hS hl
  obtain ⟨x, y, rfl, rfl, rfl⟩ := o_jj_ok hw
  exact lv_lsub hO.1 hO.2.1 hf.1 (k H locs ls hP hD hS hl)
theorem ib_lmul {S : am_S} : am_IB S (.lmul, 1, none) (o_jj (fun x y => x * y)) := by
  rintro ⟨p, l, e, R, s, m, args, below, meth, c, Q, D, cs, ad, A, nc, ns⟩ hO pc hf env st μ v1 v2 w hw k H locs ls hP hD hS hl
  obtain ⟨x, y, rfl, rfl, rfl⟩ := o_jj_ok hw
  exact lv_lmul hO.1 hO.2.1 hf.1 (k H locs ls hP hD hS hl)
theorem ib_ldiv {S : am_S} : am_IB S (.ldiv, 1, none) (o_jz (fun x y => x / y)) := by
  rintro ⟨p, l, e, R, s, m, args, below, meth, c, Q, D, cs, ad, A, nc, ns⟩ hO pc hf env st μ v1 v2 w hw k H locs ls hP hD hS hl
  obtain ⟨x, y, rfl, rfl, rfl, hz⟩ := o_jz_ok hw
  exact lv_ldiv hO.1 hO.2.1 hf.1 hz (k H locs ls hP hD hS hl)
theorem ib_lrem {S : am_S} : am_IB S (.lrem, 1, none) (o_jz (fun x y => x - (x / y) * y)) := by
  rintro ⟨p, l, e, R, s, m, args, below, meth, c, Q, D, cs, ad, A, nc, ns⟩ hO pc hf env st μ v1 v2 w hw k H locs ls hP hD hS hl
  obtain ⟨x, y, rfl, rfl, rfl, hz⟩ := o_jz_ok hw
  exact lv_lrem hO.1 hO.2.1 hf.1 hz (k H locs ls hP hD hS hl)
theorem ib_lshl {S : am_S} : am_IB S (.lshl, 1, none) (o_ji (fun x y => x <<< (y.toInt64 &&& 63))) := by
  rintro ⟨p, l, e, R, s, m, args, below, meth, c, Q, D, cs, ad, A, nc, ns⟩ hO pc hf env st μ v1 v2 w hw k H locs ls hP hD hS hl
  obtain ⟨x, y, rfl, rfl, rfl⟩ := o_ji_ok hw
  exact lv_lshl hO.1 hO.2.1 hf.1 rfl (k H locs ls hP hD hS hl)
theorem ib_lcmp {S : am_S} : am_IB S (.lcmp, 1, none) (o_jc) := by
  rintro ⟨p, l, e, R, s, m, args, below, meth, c, Q, D, cs, ad, A, nc, ns⟩ hO pc hf env st μ v1 v2 w hw k H locs ls hP hD hS hl
  obtain ⟨x, y, rfl, rfl, rfl⟩ := o_jc_ok hw
  exact W.lcmp hO.1 hO.2.1 hf.1 (k H locs ls hP hD hS hl)
end
section
/-! rows that read and write the memory -/
theorem ik_ldcw {S : am_S} (i : Nat) (v : Int32) (q : Nat) : am_IK S (.ldc_w i, 3, some (q, .constant S.2.2.2.2 i v)) (o_k (vI v)) := by
  rintro ⟨p, l, e, R, s, m, args, below, meth, c, Q, D, cs, ad, A, nc, ns⟩ hO pc hf env st μ w hw k H locs ls hP hD hS hl
  cases hw
  exact lv_ldcw hO.1 hO.2.1 hO.2.2.2.1 (hO.2.2.2.2.1.1 _ (am_word (hf.2.1 _ rfl) rfl)) hf.1 (k H locs ls hP hD hS hl)
def o_iu (f : Int32 → Int32) : AV → am_M → Option AV := fun a _ => match a with
  | .inl x => some (vI (f x))
  | _ => none
def o_i2l : AV → am_M → Option AV := fun a _ => match a with
  | .inl x => some (vL x.toInt64)
  | _ => none
theorem o_iu_ok {f : Int32 → Int32} {a w : AV} {μ : am_M} (h : o_iu f a μ = some w) : ∃ x, a = vI x ∧ w = vI (f x) := by
  unfold o_iu at h
  split at h
  · cases h
    exact ⟨_, rfl, rfl⟩
  · cases h
theorem iu_ineg {S : am_S} : am_IU S (.ineg, 1, none) (o_iu (fun x => -x)) := by
  rintro ⟨p, l, e, R, s, m, args, below, meth, c, Q, D, cs, ad, A, nc, ns⟩ hO pc hf env st μ v w hw k H locs ls hP hD hS hl
  obtain ⟨x, rfl, rfl⟩ := o_iu_ok hw
  exact lv_ineg hO.1 hO.2.1 hf.1 (k H locs ls hP hD hS hl)
theorem iu_i2b {S : am_S} : am_IU S (.i2b, 1, none) (o_iu (fun x => x.toInt8.toInt32)) := by
  rintro ⟨p, l, e, R, s, m, args, below, meth, c, Q, D, cs, ad, A, nc, ns⟩ hO pc hf env st μ v w hw k H locs ls hP hD hS hl
  obtain ⟨x, rfl, rfl⟩ := o_iu_ok hw
  exact lv_i2b hO.1 hO.2.1 hf.1 rfl (k H locs ls hP hD hS hl)
theorem iu_i2s {S : am_S} : am_IU S (.i2s, 1, none) (o_iu (fun x => x.toInt16.toInt32)) := by
  rintro ⟨p, l, e, R, s, m, args, below, meth, c, Q, D, cs, ad, A, nc, ns⟩ hO pc hf env st μ v w hw k H locs ls hP hD hS hl
  obtain ⟨x, rfl, rfl⟩ := o_iu_ok hw
  exact lv_i2s hO.1 hO.2.1 hf.1 rfl (k H locs ls hP hD hS hl)
theorem iu_i2l {S : am_S} : am_IU S (.i2l, 1, none) o_i2l := by
  rintro ⟨p, l, e, R, s, m, args, below, meth, c, Q, D, cs, ad, A, nc, ns⟩ hO pc hf env st μ v w hw k H locs ls hP hD hS hl
  unfold o_i2l at hw
  split at hw
  · cases hw
    exact lv_i2l hO.1 hO.2.1 hf.1 rfl (k H locs ls hP hD hS hl)
  · cases hw
/-! fields -/
theorem am_uw : (vwCl.all fun q => (u_ws q.1 q.2.1 q.2.2).all fun w => goodWord w && decide (w ∈ lw_tbl)) = true := by decide +kernel
theorem am_uwi {ci : Nat} {q : vw_C} (h : vwCl[ci]? = some q) : ∀ w ∈ u_ws q.1 q.2.1 q.2.2, w ∈ am_tb := by
  intro w hw
  have h1 := List.all_eq_true.mp (List.all_eq_true.mp am_uw q (List.mem_of_getElem? h)) w hw
  simp only [Bool.and_eq_true, decide_eq_true_eq] at h1
  exact List.mem_filter.mpr ⟨h1.2, h1.1⟩
def am_tyl : List (Nat → FieldType) := [tyX0, tyX1, tyX2, tyX3, tyX4, tyX5, tyX6, tyX7, tyX8, tyX9, tyX10, tyX11]
def am_cn (ci : Nat) : vw_C := (vwCl[ci]?).getD (RX0, TX0, 0)
/-- the word of a field: class of the code, number in its pool, class of the object, which field -/
def am_fl (own : String) (idx ci j : Nat) : Jvm.Cond := .fieldLink own idx ((am_cn ci).2.1 j).1 ((am_cn ci).2.1 j).2.1 ((am_cn ci).2.1 j).2.2.1
def am_gv (Sh : List am_SC) (ci j : Nat) (v : AV) (μ : am_M) : Option AV := match v with
  | .inr (.inr (.inl r)) => match Sh[r]? with
    | some (.inr (.inr (c, sl))) => if c = ci then (match sl[j]? with
      | some none => some (vI (μ r j))
      | some (some r') => some (vR r')
      | none => none) else none
    | _ => none
  | _ => none
theorem am_gv_ok {Sh : List am_SC} {ci j : Nat} {v w : AV} {μ : am_M} (h : am_gv Sh ci j v μ = some w) : ∃ r sl, v = vR r ∧ Sh[r]? = some (.inr (.inr (ci, sl))) ∧ ((sl[j]? = some none ∧ w = vI (μ r j)) ∨ ∃ r', sl[j]? = some (some r') ∧ w = vR r') := by
  unfold am_gv at h
  split at h
  · rename_i r
    split at h
    · rename_i c sl hs
      split at h
      · rename_i hc
        subst hc
        refine ⟨r, sl, rfl, hs, ?_⟩
        split at h
        · rename_i hj
          cases h
          exact Or.inl ⟨hj, rfl⟩
        · rename_i r' hj
          cases h
          exact Or.inr ⟨r', hj, rfl⟩
        · cases h
      · cases h
    · cases h
  · cases h
theorem am_gv_fs {Sh : List am_SC} {ci j : Nat} {v w : AV} {μ : am_M} (h : am_gv Sh ci j v μ = some w) (ad : Nat → Nat) (cs : Nat → ClassId) : ∃ r fs, v = vR r ∧ (am_wl Sh ad cs μ)[r]? = some (ad r, .inr (ci, fs)) ∧ fs[j]? = some (am_cv ad w) := by
  obtain ⟨r, sl, rfl, hs, h1⟩ := am_gv_ok h
  refine ⟨r, sl.mapIdx (am_sv ad (μ r)), rfl, am_wl_get hs, ?_⟩
  rw [List.getElem?_mapIdx]
  rcases h1 with ⟨hj, rfl⟩ | ⟨r', hj, rfl⟩
  · rw [hj]; rfl
  · rw [hj]; rfl
theorem iu_get {S : am_S} (idx ci j q : Nat) (hc : vwCl[ci]? = some (am_cn ci)) (hj : j < (am_cn ci).2.2) : am_IU S (.getfield idx, 3, some (q, am_fl S.2.2.2.2 idx ci j)) (am_gv S.1 ci j) := by
  rintro ⟨p, l, e, R, s, m, args, below, meth, c, Q, D, cs, ad, A, nc, ns⟩ hO pc hf env st μ v w hw k H locs ls hP hD hS hl
  obtain ⟨r, fs, rfl, he, hfs⟩ := am_gv_fs hw ad cs
  exact va_get (C := (am_cn ci).1) (T := (am_cn ci).2.1) (N := (am_cn ci).2.2) hO.1 hO.2.1 hO.2.2.2.2.1.1 (am_uwi hc) hO.2.2.2.1 hO.2.2.2.2.2.1 hP r he hc j hj (hO.2.2.2.2.1.1 _ (am_word (hf.2.1 _ rfl) rfl)) (fun _ h9 => h9) hfs hf.1 (k H locs ls hP hD hS hl)
/-! rows -/
def am_lv (Sh : List am_SC) (a b : AV) (μ : am_M) : Option AV := match a, b with
  | .inr (.inr (.inl r)), .inl i => match Sh[r]? with
    | some (.inl n) => if i < 0 ∨ n ≤ i.toNatClampNeg then none else some (vI (μ r i.toNatClampNeg))
    | _ => none
  | _, _ => none
theorem am_lv_ok {Sh : List am_SC} {a b w : AV} {μ : am_M} (h : am_lv Sh a b μ = some w) : ∃ r n i, a = vR r ∧ b = vI i ∧ Sh[r]? = some (.inl n) ∧ vp_in i n ∧ w = vI (μ r i.toNatClampNeg) := by
  unfold am_lv at h
  split at h
  · rename_i r i
    split at h
    · rename_i n hs
      split at h
      · cases h
      · rename_i hi
        cases h
        exact ⟨r, n, i, rfl, rfl, hs, hi, rfl⟩
    · cases h
  · cases h
theorem ib_iaload {S : am_S} : am_IB S (.iaload, 1, none) (am_lv S.1) := by
  rintro ⟨p, l, e, R, s, m, args, below, meth, c, Q, D, cs, ad, A, nc, ns⟩ hO pc hf env st μ v1 v2 w hw k H locs ls hP hD hS hl
  obtain ⟨r, n, i, rfl, rfl, hs, hi, rfl⟩ := am_lv_ok hw
  exact va_iald (tys := am_ty cs) hO.1 hO.2.1 hO.2.2.2.2.2.1 hP r 0 (am_wl_get hs) rfl hi hf.1 (k H locs ls hP hD hS hl)
def am_qv (Sh : List am_SC) (a b : AV) (_ : am_M) : Option AV := match a, b with
  | .inr (.inr (.inl r)), .inl i => match Sh[r]? with
    | some (.inr (.inl (t, rs))) => if t = 1 ∨ t = 2 then (if i < 0 ∨ rs.length ≤ i.toNatClampNeg then none else (rs[i.toNatClampNeg]?).map vR) else none
    | _ => none
  | _, _ => none
theorem ib_aaload {S : am_S} : am_IB S (.aaload, 1, none) (am_qv S.1) := by
  rintro ⟨p, l, e, R, s, m, args, below, meth, c, Q, D, cs, ad, A, nc, ns⟩ hO pc hf env st μ v1 v2 w hw k H locs ls hP hD hS hl
  unfold am_qv at hw
  split at hw
  · rename_i r i
    split at hw
    · rename_i t rs hs
      split at hw
      · rename_i ht
        split at hw
        · cases hw
        · rename_i hi
          cases hr : rs[i.toNatClampNeg]? with
          | none => rw [hr] at hw; cases hw
          | some x =>
            rw [hr] at hw
            cases hw
            have k1 := k H locs ls hP hD hS hl
            have hx : va_rf ((rs[i.toNatClampNeg]?).map ad) = am_cv ad (vR x) := by rw [hr]; rfl
            rcases ht with rfl | rfl
            · refine va_aldq (tys := am_ty cs) (C := "WrackDeeds$Hanging") hO.1 hO.2.1 hO.2.2.2.2.2.1 hP r 1 (am_wl_get hs) rfl hi hf.1 ?_
              rw [hx]
              exact k1
            · refine va_aldq (tys := am_ty cs) (C := "WrackDeeds$Sheet") hO.1 hO.2.1 hO.2.2.2.2.2.1 hP r 2 (am_wl_get hs) rfl hi hf.1 ?_
              rw [hx]
              exact k1
      · cases hw
    · cases hw
  · cases hw
def am_nv (Sh : List am_SC) (a : AV) (_ : am_M) : Option AV := match a with
  | .inr (.inr (.inl r)) => match Sh[r]? with
    | some (.inl n) => some (vI (Int32.ofNat n))
    | _ => none
  | _ => none
theorem iu_alen {S : am_S} : am_IU S (.arraylength, 1, none) (am_nv S.1) := by
  rintro ⟨p, l, e, R, s, m, args, below, meth, c, Q, D, cs, ad, A, nc, ns⟩ hO pc hf env st μ v w hw k H locs ls hP hD hS hl
  unfold am_nv at hw
  split at hw
  · rename_i r
    split at hw
    · rename_i n hs
      cases hw
      exact va_alen (tys := am_ty cs) hO.1 hO.2.1 hO.2.2.2.2.2.1 hP r 0 (am_wl_get hs) (ty := .int) rfl rfl hf.1 (k H locs ls hP hD hS hl)
    · cases hw
  · cases hw
/-! stores into locals -/
def am_IT (S : am_S) (i : am_I) (op : List AV → AV → Option (List AV)) : Prop := ∀ (G : am_G), am_Ok S G → ∀ (pc : Nat), am_fit S.2.1 pc [i] → ∀ (env env' st : List AV) (μ : am_M) (v : AV), op env v = some env' → am_Wn S G (pc + i.2.1) env' st μ → am_Wn S G pc env (v :: st) μ
def o_si (nL i : Nat) : List AV → AV → Option (List AV) := fun env v => match v with
  | .inl x => if i ≤ env.length ∧ i < nL ∧ am_nl env i = true then some (am_se env i (vI x)) else none
  | _ => none
def o_sr (nL i : Nat) : List AV → AV → Option (List AV) := fun env v => match v with
  | .inr (.inr (.inl x)) => if i ≤ env.length ∧ i < nL ∧ am_nl env i = true then some (am_se env i (vR x)) else none
  | _ => none
def o_sl (nL i : Nat) : List AV → AV → Option (List AV) := fun env v => match v with
  | .inr (.inl x) => if i ≤ env.length ∧ i + 1 < nL ∧ am_nl env i = true then some (am_se (am_se env i (vL x)) (i + 1) vU) else none
  | _ => none
theorem o_si_ok {nL i : Nat} {env env' : List AV} {v : AV} (h : o_si nL i env v = some env') : ∃ x, v = vI x ∧ i ≤ env.length ∧ i < nL ∧ am_nl env i = true ∧ env' = am_se env i (vI x) := by
  unfold o_si at h
  split at h
  · split at h
    · rename_i x hc
      cases h
      exact ⟨x, rfl, hc.1, hc.2.1, hc.2.2, rfl⟩
    · cases h
  · cases h
theorem o_sr_ok {nL i : Nat} {env env' : List AV} {v : AV} (h : o_sr nL i env v = some env') : ∃ x, v = vR x ∧ i ≤ env.length ∧ i < nL ∧ am_nl env i = true ∧ env' = am_se env i (vR x) := by
  unfold o_sr at h
  split at h
  · split at h
    · rename_i x hc
      cases h
      exact ⟨x, rfl, hc.1, hc.2.1, hc.2.2, rfl⟩
    · cases h
  · cases h
theorem o_sl_ok {nL i : Nat} {env env' : List AV} {v : AV} (h : o_sl nL i env v = some env') : ∃ x, v = vL x ∧ i ≤ env.length ∧ i + 1 < nL ∧ am_nl env i = true ∧ env' = am_se (am_se env i (vL x)) (i + 1) vU := by
  unfold o_sl at h
  split at h
  · split at h
    · rename_i x hc
      cases h
      exact ⟨x, rfl, hc.1, hc.2.1, hc.2.2, rfl⟩
    · cases h
  · cases h
theorem it_istore_n {S : am_S} (n : Fin 4) : am_IT S (.istore_n n, 1, none) (o_si S.2.2.1 n) := by
  rintro ⟨p, l, e, R, s, m, args, below, meth, c, Q, D, cs, ad, A, nc, ns⟩ hO pc hf env env' st μ v hw k H locs ls hP hD hS hl
  obtain ⟨x, rfl, h1, h2, h3, rfl⟩ := o_si_ok hw
  exact lv_istore_n hO.1 hO.2.1 hf.1 rfl hl h2 rfl (fun ls' hl' => k H locs ls' hP hD hS (am_ag.set1 rfl h1 h3 hl'))
theorem it_istore {S : am_S} (n : Nat) : am_IT S (.istore n, 2, none) (o_si S.2.2.1 n) := by
  rintro ⟨p, l, e, R, s, m, args, below, meth, c, Q, D, cs, ad, A, nc, ns⟩ hO pc hf env env' st μ v hw k H locs ls hP hD hS hl
  obtain ⟨x, rfl, h1, h2, h3, rfl⟩ := o_si_ok hw
  exact lv_istore hO.1 hO.2.1 hf.1 hl h2 rfl (fun ls' hl' => k H locs ls' hP hD hS (am_ag.set1 rfl h1 h3 hl'))
theorem it_astore_n {S : am_S} (n : Fin 4) : am_IT S (.astore_n n, 1, none) (o_sr S.2.2.1 n) := by
  rintro ⟨p, l, e, R, s, m, args, below, meth, c, Q, D, cs, ad, A, nc, ns⟩ hO pc hf env env' st μ v hw k H locs ls hP hD hS hl
  obtain ⟨x, rfl, h1, h2, h3, rfl⟩ := o_sr_ok hw
  exact lv_astore_n hO.1 hO.2.1 hf.1 rfl hl h2 rfl (fun ls' hl' => k H locs ls' hP hD hS (am_ag.set1 rfl h1 h3 hl'))
theorem it_astore {S : am_S} (n : Nat) : am_IT S (.astore n, 2, none) (o_sr S.2.2.1 n) := by
  rintro ⟨p, l, e, R, s, m, args, below, meth, c, Q, D, cs, ad, A, nc, ns⟩ hO pc hf env env' st μ v hw k H locs ls hP hD hS hl
  obtain ⟨x, rfl, h1, h2, h3, rfl⟩ := o_sr_ok hw
  exact lv_astore hO.1 hO.2.1 hf.1 hl h2 rfl (fun ls' hl' => k H locs ls' hP hD hS (am_ag.set1 rfl h1 h3 hl'))
theorem it_lstore_n {S : am_S} (n : Fin 4) : am_IT S (.lstore_n n, 1, none) (o_sl S.2.2.1 n) := by
  rintro ⟨p, l, e, R, s, m, args, below, meth, c, Q, D, cs, ad, A, nc, ns⟩ hO pc hf env env' st μ v hw k H locs ls hP hD hS hl
  obtain ⟨x, rfl, h1, h2, h3, rfl⟩ := o_sl_ok hw
  exact lv_lstore_n hO.1 hO.2.1 hf.1 rfl hl h2 rfl (fun ls' hl' => k H locs ls' hP hD hS (am_ag.set2 h1 h3 hl'))
theorem it_lstore {S : am_S} (n : Nat) : am_IT S (.lstore n, 2, none) (o_sl S.2.2.1 n) := by
  rintro ⟨p, l, e, R, s, m, args, below, meth, c, Q, D, cs, ad, A, nc, ns⟩ hO pc hf env env' st μ v hw k H locs ls hP hD hS hl
  obtain ⟨x, rfl, h1, h2, h3, rfl⟩ := o_sl_ok hw
  exact lv_lstore hO.1 hO.2.1 hf.1 hl h2 rfl (fun ls' hl' => k H locs ls' hP hD hS (am_ag.set2 h1 h3 hl'))
/-- iinc -/
def o_inc (nL i : Nat) (d : Int32) : List AV → Option (List AV) := fun env => match env[i]? with
  | some (.inl x) => if i < nL ∧ am_nl env i = true then some (am_se env i (vI (x + d))) else none
  | _ => none
theorem it_iinc {S : am_S} (i : Nat) (n : Int) (d : Int32) (hd : Int32.ofInt n = d) {G : am_G} (hO : am_Ok S G) {pc : Nat} (hf : am_fit S.2.1 pc [(.iinc i n, 3, none)]) {env env' st : List AV} {μ : am_M} (hw : o_inc S.2.2.1 i d env = some env') (k : am_Wn S G (pc + 3) env' st μ) : am_Wn S G pc env st μ := by
  obtain ⟨p, l, e, R, s, m, args, below, meth, c, Q, D, cs, ad, A, nc, ns⟩ := G
  intro H locs ls hP hD hS hl
  unfold o_inc at hw
  split at hw
  · rename_i x hx
    split at hw
    · rename_i hc
      cases hw
      have hm : (i, Value.int x) ∈ am_ll ad env := am_ll_mem.mpr ⟨vI x, hx, rfl⟩
      obtain ⟨q, hq⟩ := List.getElem?_of_mem hm
      exact lv_iinc hO.1 hO.2.1 hf.1 hl hq (by rw [hd]) hc.1 rfl (fun ls' hl' => k H locs ls' hP hD hS (am_ag.set1 rfl (Nat.le_of_lt (List.getElem?_eq_some_iff.mp hx).1) hc.2 hl'))
    · cases hw
  · cases hw
end
section
/-! rows that write the memory; dup; branches -/
/-- putfield: what the memory is behind it -/
def am_pv (Sh : List am_SC) (ci j : Nat) (b : Bool) (a v : AV) (μ : am_M) : Option am_M := match a, v with
  | .inr (.inr (.inl r)), .inl x => match Sh[r]? with
    | some (.inr (.inr (c, sl))) => if c = ci ∧ sl[j]? = some none ∧ (b = true → x = 0 ∨ x = 1) then some (am_up μ r j x) else none
    | _ => none
  | _, _ => none
theorem am_pv_ok {Sh : List am_SC} {ci j : Nat} {b : Bool} {a v : AV} {μ μ' : am_M} (h : am_pv Sh ci j b a v μ = some μ') : ∃ r sl x, a = vR r ∧ v = vI x ∧ Sh[r]? = some (.inr (.inr (ci, sl))) ∧ sl[j]? = some none ∧ (b = true → x = 0 ∨ x = 1) ∧ μ' = am_up μ r j x := by
  unfold am_pv at h
  split at h
  · rename_i r x
    split at h
    · rename_i c sl hs
      split at h
      · rename_i hc
        obtain ⟨rfl, h1, h2⟩ := hc
        cases h
        exact ⟨r, sl, x, rfl, rfl, hs, h1, h2, rfl⟩
      · cases h
    · cases h
  · cases h
theorem am_sl_set {ad : Nat → Nat} {f : Nat → Int32} {sl : List (Option Nat)} {j : Nat} {x : Int32} (h : sl[j]? = some none) : (sl.mapIdx (am_sv ad f)).set j (.int x) = sl.mapIdx (am_sv ad (upd f j x)) := by
  have hk : j < sl.length := (List.getElem?_eq_some_iff.mp h).1
  apply List.ext_getElem?
  intro i
  by_cases hi : i = j
  · subst hi
    rw [List.getElem?_set_self (by rw [List.length_mapIdx]; exact hk), List.getElem?_mapIdx, h]
    simp [am_sv, upd]
  · rw [List.getElem?_set_ne (Ne.symm hi), List.getElem?_mapIdx, List.getElem?_mapIdx]
    cases ho : sl[i]? with
    | none => rfl
    | some o => cases o <;> simp [am_sv, upd, hi]
theorem am_tyn : (vwCl.zip am_tyl).all (fun q => (List.range q.1.2.2).all (fun k => decide (parseFieldDescriptor (q.1.2.1 k).2.2.1 = some (q.2 k)))) = true := by decide +kernel
theorem am_nmn : vwCl.all (fun q => (List.range q.2.2).all (fun a => (List.range q.2.2).all (fun b => decide (a = b) || decide ((q.2.1 a).2.1 ≠ (q.2.1 b).2.1)))) = true := by decide +kernel
theorem am_nm {ci : Nat} {q : vw_C} (h : vwCl[ci]? = some q) : ∀ a, a < q.2.2 → ∀ b, b < q.2.2 → a ≠ b → (q.2.1 a).2.1 ≠ (q.2.1 b).2.1 := by
  intro a ha b hb hab
  have h1 := List.all_eq_true.mp (List.all_eq_true.mp (List.all_eq_true.mp am_nmn q (List.mem_of_getElem? h)) a (List.mem_range.mpr ha)) b (List.mem_range.mpr hb)
  simp only [Bool.or_eq_true, decide_eq_true_eq] at h1
  rcases h1 with h1 | h1
  · exact absurd h1 hab
  · exact h1
theorem am_tyk {ci : Nat} {q : vw_C} (h : vwCl[ci]? = some q) : ∃ ty0 : Nat → FieldType, ∀ k, k < q.2.2 → parseFieldDescriptor (q.2.1 k).2.2.1 = some (ty0 k) := by
  have hl : ci < am_tyl.length := by
    have := (List.getElem?_eq_some_iff.mp h).1
    exact this
  obtain ⟨t, ht⟩ : ∃ t, am_tyl[ci]? = some t := ⟨_, List.getElem?_eq_getElem hl⟩
  have hz : (vwCl.zip am_tyl)[ci]? = some (q, t) := List.getElem?_zip_eq_some.mpr ⟨h, ht⟩
  refine ⟨t, fun k hk => ?_⟩
  have h1 := List.all_eq_true.mp (List.all_eq_true.mp am_tyn (q, t) (List.mem_of_getElem? hz)) k (List.mem_range.mpr hk)
  simpa using h1
theorem is_put {S : am_S} (idx ci j q : Nat) (b : Bool) (ty : FieldType) (hc : vwCl[ci]? = some (am_cn ci)) (hj : j < (am_cn ci).2.2) (hfin : ((am_cn ci).2.1 j).2.2.2 = false) (hd : parseFieldDescriptor ((am_cn ci).2.1 j).2.2.1 = some ty) (hty : (b = false ∧ ty = .int) ∨ (b = true ∧ ty = .boolean)) {G : am_G} (hO : am_Ok S G) {pc : Nat} (hf : am_fit S.2.1 pc [(.putfield idx, 3, some (q, am_fl S.2.2.2.2 idx ci j))]) {env st : List AV} {μ μ' : am_M} {a v : AV} (hw : am_pv S.1 ci j b a v μ = some μ') (k : am_Wn S G (pc + 3) env st μ') : am_Wn S G pc env (v :: a :: st) μ := by
  obtain ⟨p, l, e, R, s, m, args, below, meth, c, Q, D, cs, ad, A, nc, ns⟩ := G
  intro H locs ls hP hD hS hl
  obtain ⟨r, sl, x, rfl, rfl, hs, hsl, hbx, rfl⟩ := am_pv_ok hw
  obtain ⟨ty0, hty0⟩ := am_tyk hc
  have hn : narrow ty (.int x) = .int x := by
    rcases hty with ⟨rfl, rfl⟩ | ⟨rfl, rfl⟩
    · rfl
    · rcases hbx rfl with rfl | rfl <;> decide
  have hfit : fits ty (.int x) = true := by
    rcases hty with ⟨rfl, rfl⟩ | ⟨rfl, rfl⟩
    · rfl
    · rcases hbx rfl with rfl | rfl <;> decide
  refine va_put (C := (am_cn ci).1) (T := (am_cn ci).2.1) (N := (am_cn ci).2.2) hO.1 hO.2.1 hO.2.2.2.2.1.1 (am_uwi hc) ty0 hty0 (am_nm hc) hO.2.2.2.1 hO.2.2.2.2.2.1 hP hD hS r (am_wl_get hs) hc j hj (hO.2.2.2.2.1.1 _ (am_word (hf.2.1 _ rfl) rfl)) (fun _ h9 => h9) hfin hd hn hfit (by rw [List.length_mapIdx]; exact (List.getElem?_eq_some_iff.mp hsl).1) hf.1 (fun H1 locs1 hP1 hD1 hS1 => ?_)
  rw [show am_cv ad (vI x) = Value.int x from rfl, am_sl_set hsl] at hP1 hD1
  have he : (am_wl S.1 ad cs μ).set r (ad r, Sum.inr (ci, List.mapIdx (am_sv ad (upd (μ r) j x)) sl)) = am_wl S.1 ad cs (am_up μ r j x) := am_wl_set (sc := .inr (.inr (ci, sl))) hs (upd (μ r) j x)
  rw [he] at hP1 hD1
  exact k H1 locs1 ls hP1 hD1 hS1 hl
/-- iastore -/
def am_wv (Sh : List am_SC) (a b v : AV) (μ : am_M) : Option am_M := match a, b, v with
  | .inr (.inr (.inl r)), .inl i, .inl x => match Sh[r]? with
    | some (.inl n) => if i < 0 ∨ n ≤ i.toNatClampNeg then none else some (am_up μ r i.toNatClampNeg x)
    | _ => none
  | _, _, _ => none
theorem is_iast {S : am_S} {G : am_G} (hO : am_Ok S G) {pc : Nat} (hf : am_fit S.2.1 pc [(.iastore, 1, none)]) {env st : List AV} {μ μ' : am_M} {a b v : AV} (hw : am_wv S.1 a b v μ = some μ') (k : am_Wn S G (pc + 1) env st μ') : am_Wn S G pc env (v :: b :: a :: st) μ := by
  obtain ⟨p, l, e, R, s, m, args, below, meth, c, Q, D, cs, ad, A, nc, ns⟩ := G
  intro H locs ls hP hD hS hl
  unfold am_wv at hw
  split at hw
  · rename_i r i x
    split at hw
    · rename_i n hs
      split at hw
      · cases hw
      · rename_i hi
        cases hw
        refine va_iast (tys := am_ty cs) hO.1 hO.2.1 hO.2.2.2.2.2.1 hP hD hS r 0 (am_wl_get hs) rfl hi hf.1 (fun H1 locs1 hP1 hD1 hS1 => ?_)
        have he : (am_wl S.1 ad cs μ).set r (ad r, Sum.inl (cs 0, n, Sum.inl (upd (μ r) i.toNatClampNeg x))) = am_wl S.1 ad cs (am_up μ r i.toNatClampNeg x) := am_wl_set (sc := .inl n) hs (upd (μ r) i.toNatClampNeg x)
        rw [he] at hP1 hD1
        exact k H1 locs1 ls hP1 hD1 hS1 hl
    · cases hw
  · cases hw
/-- System.arraycopy of ints -/
def am_cy (Sh : List am_SC) (a i b j n : AV) (μ : am_M) : Option am_M := match a, i, b, j, n with
  | .inr (.inr (.inl r)), .inl i, .inr (.inr (.inl t)), .inl j, .inl n => match Sh[r]?, Sh[t]? with
    | some (.inl n0), some (.inl n1) => if i < 0 ∨ j < 0 ∨ n < 0 ∨ n0 < i.toNatClampNeg + n.toNatClampNeg ∨ n1 < j.toNatClampNeg + n.toNatClampNeg then none else some (am_ur μ t (va_cpy (μ r) (μ t) i.toNatClampNeg j.toNatClampNeg n.toNatClampNeg))
    | _, _ => none
  | _, _, _, _, _ => none
theorem am_jcw : Jvm.Cond.native arraycopyName ∈ am_tb ∧ Jvm.Cond.static arraycopyName ∈ am_tb ∧ Jvm.Cond.initialized "java/lang/System" ∈ am_tb := by decide +kernel
theorem is_copy {S : am_S} (idx q : Nat) (hdp : 1 ≤ S.2.2.2.1) {G : am_G} (hO : am_Ok S G) {pc : Nat} (hf : am_fit S.2.1 pc [(.invokestatic idx, 3, some (q, .methodLink S.2.2.2.2 idx arraycopyName))]) {env : List AV} {μ μ' : am_M} {a i b j n : AV} (hw : am_cy S.1 a i b j n μ = some μ') (k : am_Wn S G (pc + 3) env [] μ') : am_Wn S G pc env (n :: j :: b :: i :: a :: []) μ := by
  obtain ⟨p, l, e, R, s, m, args, below, meth, c, Q, D, cs, ad, A, nc, ns⟩ := G
  intro H locs ls hP hD hS hl
  obtain ⟨hO1, hO2, hO3, hO4, ⟨hO5, hO5n⟩, hO6, hO7, hO8, hO9, hO10, hO11⟩ := hO
  unfold am_cy at hw
  split at hw
  · rename_i r i t j n
    split at hw
    · rename_i n0 n1 h0 h1
      split at hw
      · cases hw
      · rename_i hi
        cases hw
        simp only [not_or] at hi
        obtain ⟨z1, z2, z3, z4, z5⟩ := hi
        refine va_copyi (tys := am_ty cs) (rest := []) hO1 hO2 (hO3.trans hl.1.symm) hO4 (hO5 _ (am_word (hf.2.1 _ rfl) rfl)) (hO5 _ am_jcw.1) (hO5 _ am_jcw.2.1) (hO5 _ am_jcw.2.2) hO6 hP hD hS r t 0 0 (ty := .int) (am_wl_get h0) (am_wl_get h1) rfl rfl rfl z1 z2 z3 (Nat.le_of_not_lt z4) (Nat.le_of_not_lt z5) (fun _ _ => rfl) (Nat.le_trans hdp hO8) (Nat.le_trans (by decide +kernel) (Nat.le_trans (Nat.mul_le_mul_left 64 hdp) hO9)) hf.1 (fun H1 locs1 hP1 hD1 hS1 => ?_)
        have he : (am_wl S.1 ad cs μ).set t (ad t, Sum.inl (cs 0, n1, Sum.inl (va_cpy (μ r) (μ t) i.toNatClampNeg j.toNatClampNeg n.toNatClampNeg))) = am_wl S.1 ad cs (am_ur μ t (va_cpy (μ r) (μ t) i.toNatClampNeg j.toNatClampNeg n.toNatClampNeg)) := am_wl_set (sc := .inl n1) h1 _
        rw [he] at hP1 hD1
        exact k H1 locs1 ls hP1 hD1 hS1 hl
    · cases hw
  · cases hw
/-! dup, pop -/
def am_c1 : AV → Bool
  | .inl _ => true
  | .inr (.inr (.inl _)) => true
  | _ => false
theorem am_c1_ok {ad : Nat → Nat} {a : AV} (h : am_c1 a = true) : (am_cv ad a).category = 1 := by
  rcases a with x | x | x | x
  · rfl
  · cases h
  · rfl
  · cases h
theorem is_dup {S : am_S} {G : am_G} (hO : am_Ok S G) {pc : Nat} (hf : am_fit S.2.1 pc [(.dup, 1, none)]) {env st : List AV} {μ : am_M} {a : AV} (ha : am_c1 a = true) (k : am_Wn S G (pc + 1) env (a :: a :: st) μ) : am_Wn S G pc env (a :: st) μ := by
  obtain ⟨p, l, e, R, s, m, args, below, meth, c, Q, D, cs, ad, A, nc, ns⟩ := G
  intro H locs ls hP hD hS hl
  exact lv_dup hO.1 hO.2.1 hf.1 (am_c1_ok ha) (k H locs ls hP hD hS hl)
theorem is_dup2 {S : am_S} {G : am_G} (hO : am_Ok S G) {pc : Nat} (hf : am_fit S.2.1 pc [(.dup2, 1, none)]) {env st : List AV} {μ : am_M} {a b : AV} (ha : am_c1 a = true) (hb : am_c1 b = true) (k : am_Wn S G (pc + 1) env (b :: a :: b :: a :: st) μ) : am_Wn S G pc env (b :: a :: st) μ := by
  obtain ⟨p, l, e, R, s, m, args, below, meth, c, Q, D, cs, ad, A, nc, ns⟩ := G
  intro H locs ls hP hD hS hl
  exact lv_dup2_11 hO.1 hO.2.1 hf.1 (am_c1_ok hb) (am_c1_ok ha) (k H locs ls hP hD hS hl)
theorem is_pop {S : am_S} {G : am_G} (hO : am_Ok S G) {pc : Nat} (hf : am_fit S.2.1 pc [(.pop, 1, none)]) {env st : List AV} {μ : am_M} {a : AV} (ha : am_c1 a = true) (k : am_Wn S G (pc + 1) env st μ) : am_Wn S G pc env (a :: st) μ := by
  obtain ⟨p, l, e, R, s, m, args, below, meth, c, Q, D, cs, ad, A, nc, ns⟩ := G
  intro H locs ls hP hD hS hl
  exact lv_pop hO.1 hO.2.1 hf.1 (am_c1_ok ha) (k H locs ls hP hD hS hl)
/-! branches -/
theorem is_goto {S : am_S} {G : am_G} (hO : am_Ok S G) {pc : Nat} {off : Int} (hf : am_fit S.2.1 pc [(.goto off, 3, none)]) {env st : List AV} {μ : am_M} {tgt : Nat} (ht : (pc : Int) + off = (tgt : Int)) (k : am_Wn S G tgt env st μ) : am_Wn S G pc env st μ := by
  obtain ⟨p, l, e, R, s, m, args, below, meth, c, Q, D, cs, ad, A, nc, ns⟩ := G
  intro H locs ls hP hD hS hl
  exact lv_goto hO.1 hO.2.1 hf.1 ht (k H locs ls hP hD hS hl)
/-- the six comparisons: of an int with 0, of two ints -/
def am_c0 (c : ClassFile.Cond) (x : Int32) : Bool := match c with
  | .eq => decide (x = 0)
  | .ne => decide (¬ x = 0)
  | .lt => decide (x < 0)
  | .ge => decide (0 ≤ x)
  | .gt => decide (0 < x)
  | .le => decide (x ≤ 0)
def am_c2 (c : ClassFile.Cond) (x y : Int32) : Bool := match c with
  | .eq => decide (x = y)
  | .ne => decide (¬ x = y)
  | .lt => decide (x < y)
  | .ge => decide (y ≤ x)
  | .gt => decide (y < x)
  | .le => decide (x ≤ y)
theorem is_if {S : am_S} {G : am_G} (hO : am_Ok S G) {pc : Nat} (cd : ClassFile.Cond) {off : Int} (hf : am_fit S.2.1 pc [(.ifCond cd off, 3, none)]) {env st : List AV} {μ : am_M} {tgt : Nat} (ht : (pc : Int) + off = (tgt : Int)) {x : Int32} (kt : am_c0 cd x = true → am_Wn S G tgt env st μ) (kf : am_c0 cd x = false → am_Wn S G (pc + 3) env st μ) : am_Wn S G pc env (vI x :: st) μ := by
  obtain ⟨p, l, e, R, s, m, args, below, meth, c, Q, D, cs, ad, A, nc, ns⟩ := G
  intro H locs ls hP hD hS hl
  cases cd with
  | eq => exact lv_if_eq hO.1 hO.2.1 hf.1 ht (fun h => kt (decide_eq_true h) H locs ls hP hD hS hl) (fun h => kf (decide_eq_false h) H locs ls hP hD hS hl)
  | ne => exact lv_if_ne hO.1 hO.2.1 hf.1 ht (fun h => kt (decide_eq_true h) H locs ls hP hD hS hl) (fun h => kf (decide_eq_false (fun h9 => h9 h)) H locs ls hP hD hS hl)
  | lt => exact lv_if_lt hO.1 hO.2.1 hf.1 ht (fun h => kt (decide_eq_true h) H locs ls hP hD hS hl) (fun h => kf (decide_eq_false h) H locs ls hP hD hS hl)
  | ge => exact lv_if_ge hO.1 hO.2.1 hf.1 ht (fun h => kt (decide_eq_true h) H locs ls hP hD hS hl) (fun h => kf (decide_eq_false h) H locs ls hP hD hS hl)
  | gt => exact lv_if_gt hO.1 hO.2.1 hf.1 ht (fun h => kt (decide_eq_true h) H locs ls hP hD hS hl) (fun h => kf (decide_eq_false h) H locs ls hP hD hS hl)
  | le => exact lv_if_le hO.1 hO.2.1 hf.1 ht (fun h => kt (decide_eq_true h) H locs ls hP hD hS hl) (fun h => kf (decide_eq_false h) H locs ls hP hD hS hl)
theorem is_ic {S : am_S} {G : am_G} (hO : am_Ok S G) {pc : Nat} (cd : ClassFile.Cond) {off : Int} (hf : am_fit S.2.1 pc [(.if_icmp cd off, 3, none)]) {env st : List AV} {μ : am_M} {tgt : Nat} (ht : (pc : Int) + off = (tgt : Int)) {x y : Int32} (kt : am_c2 cd x y = true → am_Wn S G tgt env st μ) (kf : am_c2 cd x y = false → am_Wn S G (pc + 3) env st μ) : am_Wn S G pc env (vI y :: vI x :: st) μ := by
  obtain ⟨p, l, e, R, s, m, args, below, meth, c, Q, D, cs, ad, A, nc, ns⟩ := G
  intro H locs ls hP hD hS hl
  cases cd with
  | eq => exact lv_icmp_eq hO.1 hO.2.1 hf.1 ht (fun h => kt (decide_eq_true h) H locs ls hP hD hS hl) (fun h => kf (decide_eq_false h) H locs ls hP hD hS hl)
  | ne => exact lv_icmp_ne hO.1 hO.2.1 hf.1 ht (fun h => kt (decide_eq_true h) H locs ls hP hD hS hl) (fun h => kf (decide_eq_false (fun h9 => h9 h)) H locs ls hP hD hS hl)
  | lt => exact lv_icmp_lt hO.1 hO.2.1 hf.1 ht (fun h => kt (decide_eq_true h) H locs ls hP hD hS hl) (fun h => kf (decide_eq_false h) H locs ls hP hD hS hl)
  | ge => exact lv_icmp_ge hO.1 hO.2.1 hf.1 ht (fun h => kt (decide_eq_true h) H locs ls hP hD hS hl) (fun h => kf (decide_eq_false h) H locs ls hP hD hS hl)
  | gt => exact lv_icmp_gt hO.1 hO.2.1 hf.1 ht (fun h => kt (decide_eq_true h) H locs ls hP hD hS hl) (fun h => kf (decide_eq_false h) H locs ls hP hD hS hl)
  | le => exact lv_icmp_le hO.1 hO.2.1 hf.1 ht (fun h => kt (decide_eq_true h) H locs ls hP hD hS hl) (fun h => kf (decide_eq_false h) H locs ls hP hD hS hl)
end
section
/-! CONTRACTS AND CALLS -/
def am_rm (d : Nat) : Room := { frames := d, cells := 0, slots := 0, locals := 64 * d }
def am_Q (Sh : List am_SC) (D : va_G) (cs : Nat → ClassId) (ad : Nat → Nat) (r : Option AV) (μ' : am_M) (A : Nat → Prop) : Array Value → State → Outcome → State → Prop := fun _ st o t => o = .returned (r.map (am_cv ad)) ∧ va_P D vwCl (am_wl Sh ad cs μ') t.heap ∧ va_F A st t
def am_Pu (Sh : List am_SC) (D : va_G) (cs : Nat → ClassId) (ad : Nat → Nat) (sz : Nat) (μ : am_M) : State → Prop := fun U => U.heap.size = sz ∧ va_P D vwCl (am_wl Sh ad cs μ) U.heap ∧ va_K D vwCl (am_ty cs) U ∧ va_D (fun _ => True) (am_wl Sh ad cs μ) ∧ ∀ w ∈ am_ne, va_Nw w U
/-- a method does what the function f says: its answer, and the memory behind it -/
def am_Sd (Sh : List am_SC) (y : MethodName) (cc : ByteArray) (nL : Nat) (ret : Option FieldType) (d : Nat) (f : List AV → am_M → Option (Option AV × am_M)) : Prop :=
  ∀ (l : Launch) (D : va_G) (cs : Nat → ClassId) (ad : Nat → Nat) (sz : Nat) (as : List AV) (μ : am_M) (r : Option AV) (μ' : am_M), f as μ = some (r, μ') → Met l y (Jvm.Cond.code y cc nL ret :: am_tb) (am_rm d) (va_Pc (as.map (am_cv ad)) (am_Pu Sh D cs ad sz μ)) (am_Q Sh D cs ad r μ' (va_A (am_wl Sh ad cs μ) sz)) 0 0 (va_A (am_wl Sh ad cs μ) sz)
theorem am_isN_on {w : Jvm.Cond} (h : am_isN w = true) : w.onTables = true := by
  cases w <;> first | rfl | (simp [am_isN] at h)
theorem am_ne_moved {s U : State} (hW : s.WarmedH U.vm) (h : ∀ w ∈ am_ne, va_Nw w s) : ∀ w ∈ am_ne, va_Nw w U := by
  intro w hw
  have h1 := h w hw
  have h2 := (List.mem_filter.mp hw).2
  cases w <;> first | (simp [am_isN] at h2; done) | exact va_Nw.warmM hW h1
theorem am_blind {Sh : List am_SC} {D : va_G} {cs : Nat → ClassId} {ad : Nat → Nat} {sz : Nat} {μ : am_M} {av : List Value} : FrameBlind (va_Pc av (am_Pu Sh D cs ad sz μ)) := by
  intro a U g mk q
  obtain ⟨q0, q1, qP, qK, qD, qN⟩ := q
  exact ⟨q0, q1, qP, va_K.moved (u := U) (U := U.calling g mk a) (Vm.Alike.refl U.vm) qK, qD, fun w hw => va_Nw.same (am_isN_on (List.mem_filter.mp hw).2) (u := U) rfl (qN w hw)⟩
theorem am_pre {Sh : List am_SC} {D : va_G} {cs : Nat → ClassId} {ad : Nat → Nat} {μ : am_M} {A : Nat → Prop} {s : State} {H : Heap} {av : List Value} (hK : va_K D vwCl (am_ty cs) s) (hP : va_P D vwCl (am_wl Sh ad cs μ) H) (hD : va_D A (am_wl Sh ad cs μ)) (hN : ∀ w ∈ am_ne, va_Nw w s) : ∀ U : State, U.heap = H → s.WarmedH U.vm → va_Pc av (am_Pu Sh D cs ad H.size μ) av.toArray U := fun U hU hW => ⟨rfl, by rw [hU], by rw [hU]; exact hP, va_K.moved hW.alike hK, hD.weaken (fun _ _ _ _ => trivial), am_ne_moved hW hN⟩
section AMGO
variable {p : Program} {l : Launch} {e : Env} {R : Room} {s : State} {m : MethodId} {args : Array Value} {below : List Frame} {meth : Method} {c : Code} {H : Heap} {locs : List Loc} {cells slots : Nat} {Q : State → Prop}
theorem am_go {Sh : List am_SC} {D : va_G} {cs : Nat → ClassId} {ad : Nat → Nat} {r : Option AV} {μ' : am_M} {A0 A1 : Nat → Prop} {H0 : Heap} {pc : Nat} {ls : Array Slot} {rest st0 : List Value} {a : Array Value} {free : Addr → Prop}
    (hr : va_Run p l e R s m args below meth c H locs cells slots 0 0 (F0 m pc ls st0) rest (am_Q Sh D cs ad r μ' A1 a) free) (hS : va_S A0 H0 H locs) (hA : ∀ q, A1 q → A0 q) (hf : ∀ q, free q → A0 q)
    (kk : ∀ (H1 : Heap) (locs1 : List Loc), va_P D vwCl (am_wl Sh ad cs μ') H1 → va_S A0 H0 H1 locs1 → W p l e R s m args below meth c H1 locs1 cells slots Q (F0 m (pc + 3) ls ((r.map (am_cv ad)).toList ++ rest))) : W p l e R s m args below meth c H locs cells slots Q (F0 m pc ls st0) := by
  intro T hT X
  obtain ⟨v, st₀, t, T', L, h0, X', hL, e1, e2, ⟨hv, hp, hz, hk⟩, st⟩ := hr T hT X
  cases hv
  rw [h0] at hz hk
  obtain ⟨t2, a1, b1⟩ := kk T'.heap (locs ++ L) (by rw [e1]; exact hp)
    ⟨Nat.le_trans hS.1 (by rw [e1]; exact hz), fun q h1 h2 => by rw [e1, hk q (Nat.lt_of_lt_of_le h1 hS.1) (fun z => h2 (hA q z))]; exact hS.2.1 q h1 h2, fun q hq => by
      rcases List.mem_append.mp hq with h | h
      · exact hS.2.2 q h
      · exact hf _ (hL q h)⟩ T' rfl X'
  exact ⟨t2, st t2 a1, b1⟩
end AMGO
theorem am_room {ad : Nat → Nat} : ∀ {st : List AV}, st.length ≤ 4 → ((st.map (am_cv ad)).map fun v => v.category).sum ≤ 8 := by
  have key : ∀ st : List AV, ((st.map (am_cv ad)).map fun v => v.category).sum ≤ 2 * st.length := by
    intro st
    induction st with
    | nil => exact Nat.le_refl _
    | cons a t ih =>
      have h1 : (am_cv ad a).category ≤ 2 := by rcases lv_cat (am_cv ad a) with h | h <;> omega
      simp only [List.map_cons, List.sum_cons, List.length_cons]
      omega
  intro st h
  have := key st
  omega
/-- what a call needs of the tables of the method that is called -/
def am_Ky (y : MethodName) (cb : ByteArray) (nb : Nat) (ret : Option FieldType) (n : Nat) : Prop := Jvm.Cond.code y cb nb ret ∈ am_tb ∧ Jvm.Cond.initialized y.cls ∈ am_tb ∧ (y.cls ≠ "java/lang/invoke/MethodHandle" ∧ y.cls ≠ "java/lang/invoke/VarHandle" ∧ (parseMethodDescriptor y.desc).map (fun d => d.parameters.length) = some n) ∧ nb ≤ 45
def am_KV (y : MethodName) (ci : Nat) : Prop := Jvm.Cond.instanceMethod y ∈ am_tb ∧ Jvm.Cond.selects y.cls y y ∈ am_tb ∧ ∃ T N, vwCl[ci]? = some (y.cls, T, N)
def am_KS (y : MethodName) : Prop := Jvm.Cond.static y ∈ am_tb
/-- the link of a call: plain, or to a nest mate -/
def am_lk (own : String) (idx : Nat) (y : MethodName) : Option String → Jvm.Cond
  | none => .methodLink own idx y
  | some host => .methodLinkNest own idx y host
def am_ck (Sh : List am_SC) (ci : Nat) (a : AV) : Bool := match a with
  | .inr (.inr (.inl r)) => match Sh[r]? with
    | some (.inr (.inr (c, _))) => c == ci
    | _ => false
  | _ => false
theorem am_ck_ok {Sh : List am_SC} {ci : Nat} {a : AV} (h : am_ck Sh ci a = true) : ∃ r sl, a = vR r ∧ Sh[r]? = some (.inr (.inr (ci, sl))) := by
  unfold am_ck at h
  split at h
  · rename_i r
    split at h
    · rename_i c sl hs
      have hc : c = ci := by simpa using h
      subst hc
      exact ⟨r, sl, rfl, hs⟩
    · cases h
  · cases h
theorem is_callV {S : am_S} {y : MethodName} {cb : ByteArray} {nb n dc ci : Nat} {ret : Option FieldType} {f : List AV → am_M → Option (Option AV × am_M)} (hM : am_Sd S.1 y cb nb ret dc f) (hy : am_Ky y cb nb ret n) (hv : am_KV y ci) (hdc : dc + 1 ≤ S.2.2.2.1) (idx q : Nat) (host : Option String)
    {G : am_G} (hO : am_Ok S G) {pc : Nat} (hf : am_fit S.2.1 pc [(.invokevirtual idx, 3, some (q, am_lk S.2.2.2.2 idx y host))]) {env st as : List AV} {b : AV} {μ μ' : am_M} {r : Option AV} (hn : as.length = n) (hb : am_ck S.1 ci b = true) (hst : st.length ≤ 4) (hw : f (b :: as) μ = some (r, μ')) (k : am_Wn S G (pc + 3) env (r.toList ++ st) μ') : am_Wn S G pc env (as.reverse ++ b :: st) μ := by
  obtain ⟨p, l, e, R, s, m, args, below, meth, c, Q, D, cs, ad, A, nc, ns⟩ := G
  intro H locs ls hP hD hS hl
  obtain ⟨hO1, hO2, hO3, hO4, ⟨hO5, hO5n⟩, hO6, hO7, hO8, hO9, hO10, hO11⟩ := hO
  obtain ⟨br, sl, rfl, hs⟩ := am_ck_ok hb
  obtain ⟨k1, k2, k3, k4⟩ := hy
  obtain ⟨v1, v2, T, N, v3⟩ := hv
  have hA1 := am_wl_A hD hS hO7
  have hR : (am_rm dc).frames + 1 ≤ R.frames ∧ 8 + (nb + 11) + (am_rm dc).locals ≤ R.locals := by
    refine ⟨Nat.le_trans hdc hO8, Nat.le_trans ?_ hO9⟩
    show 8 + (nb + 11) + 64 * dc ≤ 64 * S.2.2.2.1
    omega
  have hstk : ((as.reverse ++ vR br :: st).map (am_cv ad)) = (as.map (am_cv ad)).reverse ++ .ref (ad br) :: st.map (am_cv ad) := by
    rw [List.map_append, List.map_reverse]
    rfl
  have hgo : ∀ hr : va_Run p l e R s m args below meth c H locs nc ns 0 0 (F0 m pc ls ((as.reverse ++ vR br :: st).map (am_cv ad))) (st.map (am_cv ad)) (am_Q S.1 D cs ad r μ' (va_A (am_wl S.1 ad cs μ) H.size) ((vR br :: as).map (am_cv ad)).toArray) (va_A (am_wl S.1 ad cs μ) H.size), W p l e R s m args below meth c H locs nc ns Q (F0 m pc ls ((as.reverse ++ vR br :: st).map (am_cv ad))) := by
    intro hr
    refine am_go hr hS hA1 hA1 (fun H1 locs1 hP1 hS1 => ?_)
    have h1 := k H1 locs1 ls hP1 (am_wl_D hD) hS1 hl
    have h2 : (r.map (am_cv ad)).toList ++ st.map (am_cv ad) = (r.toList ++ st).map (am_cv ad) := by cases r <;> rfl
    rw [h2]
    exact h1
  have hpre := am_pre (av := (vR br :: as).map (am_cv ad)) hO6 hP hD hO5n
  have hrv : ∃ cellB : Cell, H[ad br]? = some cellB ∧ cellB.vm.isStatics = false ∧ s.vm.findClass y.cls = some cellB.cls := va_recv (q := (y.cls, T, N)) hO6 hP v3 (am_wl_get hs)
  have hM' := hM l D cs ad H.size (vR br :: as) μ r μ' hw
  apply hgo
  cases host with
  | none => exact va_runV (C := y.cls) (b := ad br) (As := as.map (am_cv ad)) (rest := st.map (am_cv ad)) ⟨hO1, hO2, hO3, hO4, hO5⟩ hM' ⟨callB_of n hO5 (am_good k1) rfl rfl rfl (hO5 _ k2) (hO5 _ (am_word (hf.2.1 _ rfl) rfl)) k3 hR, hO5 _ v1, hO5 _ v2⟩ ⟨am_blind, hrv, hpre⟩ rfl (by rw [List.length_map]; exact hn) hl.1 hstk (lv_room (am_room hst)) hf.1 ⟨hO10, hO11⟩
  | some host => exact va_runVN (C := y.cls) (b := ad br) (As := as.map (am_cv ad)) (rest := st.map (am_cv ad)) ⟨hO1, hO2, hO3, hO4, hO5⟩ hM' ⟨va_cnB n hO5 (am_good k1) rfl rfl rfl (hO5n _ (am_wordN (hf.2.1 _ rfl) rfl)) (hO5 _ k2) k3 hR, hO5 _ v1, hO5 _ v2⟩ ⟨am_blind, hrv, hpre⟩ rfl (by rw [List.length_map]; exact hn) hl.1 hstk (lv_room (am_room hst)) hf.1 ⟨hO10, hO11⟩
theorem is_callS {S : am_S} {y : MethodName} {cb : ByteArray} {nb n dc : Nat} {ret : Option FieldType} {f : List AV → am_M → Option (Option AV × am_M)} (hM : am_Sd S.1 y cb nb ret dc f) (hy : am_Ky y cb nb ret n) (hv : am_KS y) (hdc : dc + 1 ≤ S.2.2.2.1) (idx q : Nat) (host : Option String)
    {G : am_G} (hO : am_Ok S G) {pc : Nat} (hf : am_fit S.2.1 pc [(.invokestatic idx, 3, some (q, am_lk S.2.2.2.2 idx y host))]) {env st as : List AV} {μ μ' : am_M} {r : Option AV} (hn : as.length = n) (hst : st.length ≤ 4) (hw : f as μ = some (r, μ')) (k : am_Wn S G (pc + 3) env (r.toList ++ st) μ') : am_Wn S G pc env (as.reverse ++ st) μ := by
  obtain ⟨p, l, e, R, s, m, args, below, meth, c, Q, D, cs, ad, A, nc, ns⟩ := G
  intro H locs ls hP hD hS hl
  obtain ⟨hO1, hO2, hO3, hO4, ⟨hO5, hO5n⟩, hO6, hO7, hO8, hO9, hO10, hO11⟩ := hO
  obtain ⟨k1, k2, k3, k4⟩ := hy
  have hA1 := am_wl_A hD hS hO7
  have hR : (am_rm dc).frames + 1 ≤ R.frames ∧ 8 + (nb + 11) + (am_rm dc).locals ≤ R.locals := by
    refine ⟨Nat.le_trans hdc hO8, Nat.le_trans ?_ hO9⟩
    show 8 + (nb + 11) + 64 * dc ≤ 64 * S.2.2.2.1
    omega
  have hstk : ((as.reverse ++ st).map (am_cv ad)) = (as.map (am_cv ad)).reverse ++ st.map (am_cv ad) := by
    rw [List.map_append, List.map_reverse]
  have hgo : ∀ hr : va_Run p l e R s m args below meth c H locs nc ns 0 0 (F0 m pc ls ((as.reverse ++ st).map (am_cv ad))) (st.map (am_cv ad)) (am_Q S.1 D cs ad r μ' (va_A (am_wl S.1 ad cs μ) H.size) (as.map (am_cv ad)).toArray) (va_A (am_wl S.1 ad cs μ) H.size), W p l e R s m args below meth c H locs nc ns Q (F0 m pc ls ((as.reverse ++ st).map (am_cv ad))) := by
    intro hr
    refine am_go hr hS hA1 hA1 (fun H1 locs1 hP1 hS1 => ?_)
    have h1 := k H1 locs1 ls hP1 (am_wl_D hD) hS1 hl
    have h2 : (r.map (am_cv ad)).toList ++ st.map (am_cv ad) = (r.toList ++ st).map (am_cv ad) := by cases r <;> rfl
    rw [h2]
    exact h1
  have hpre := am_pre (av := as.map (am_cv ad)) hO6 hP hD hO5n
  have hM' := hM l D cs ad H.size as μ r μ' hw
  apply hgo
  cases host with
  | none => exact va_runS (As := as.map (am_cv ad)) (rest := st.map (am_cv ad)) ⟨hO1, hO2, hO3, hO4, hO5⟩ hM' ⟨callB_of n hO5 (am_good k1) rfl rfl rfl (hO5 _ k2) (hO5 _ (am_word (hf.2.1 _ rfl) rfl)) k3 hR, hO5 _ hv⟩ ⟨am_blind, hpre⟩ rfl (by rw [List.length_map]; exact hn) hl.1 hstk (lv_room (am_room hst)) hf.1 ⟨hO10, hO11⟩
  | some host => exact va_runSN (As := as.map (am_cv ad)) (rest := st.map (am_cv ad)) ⟨hO1, hO2, hO3, hO4, hO5⟩ hM' ⟨va_cnB n hO5 (am_good k1) rfl rfl rfl (hO5n _ (am_wordN (hf.2.1 _ rfl) rfl)) (hO5 _ k2) k3 hR, hO5 _ hv, trivial⟩ ⟨am_blind, hpre⟩ rfl (by rw [List.length_map]; exact hn) hl.1 hstk (lv_room (am_room hst)) hf.1 ⟨hO10, hO11⟩
end
section
/-! FORMS: code and meaning side by side. x_ an expression, c_ a condition, t_ a statement; e_, b_, s_ their meanings -/
def am_bd {α β : Type} (o : Option (α × am_M)) (k : α → am_M → Option β) : Option β := match o with
  | some (a, μ) => k a μ
  | none => none
theorem am_bd_ok {α β : Type} {o : Option (α × am_M)} {k : α → am_M → Option β} {b : β} (h : am_bd o k = some b) : ∃ a μ, o = some (a, μ) ∧ k a μ = some b := by
  rcases o with _ | ⟨a, μ⟩
  · cases h
  · exact ⟨a, μ, rfl, h⟩
abbrev am_X : Type := List AV → am_M → Option (AV × am_M)
abbrev am_L : Type := List AV → am_M → Option (List AV × am_M)
abbrev am_B : Type := List AV → am_M → Option (Bool × am_M)
abbrev am_T : Type := List AV → am_M → Option ((List AV × am_M) ⊕ (Option AV × am_M))
def am_OkX (S : am_S) (fr : List am_I) (r : Nat) (f : am_X) : Prop := ∀ (G : am_G), am_Ok S G → ∀ (pc : Nat), am_fit S.2.1 pc fr → ∀ (env st : List AV) (μ : am_M) (v : AV) (μ' : am_M), f env μ = some (v, μ') → (r = 0 ∨ st.length + r ≤ 5) → am_Wn S G (pc + am_sz fr) env (v :: st) μ' → am_Wn S G pc env st μ
def am_OkA (S : am_S) (fr : List am_I) (r : Nat) (f : am_L) : Prop := ∀ (G : am_G), am_Ok S G → ∀ (pc : Nat), am_fit S.2.1 pc fr → ∀ (env st : List AV) (μ : am_M) (vs : List AV) (μ' : am_M), f env μ = some (vs, μ') → (r = 0 ∨ st.length + r ≤ 5) → am_Wn S G (pc + am_sz fr) env (vs.reverse ++ st) μ' → am_Wn S G pc env st μ
/-- a jump where it is false (fF), where it is true (fT); the jump's goal counts from the first byte on -/
def am_OkC (S : am_S) (fF fT : Int → List am_I) (r : Nat) (f : am_B) : Prop := (∀ o, am_sz (fF o) = am_sz (fF 0)) ∧ (∀ o, am_sz (fT o) = am_sz (fT 0)) ∧
  (∀ (G : am_G), am_Ok S G → ∀ (pc : Nat) (off : Int) (tgt : Nat), (pc : Int) + off = (tgt : Int) → am_fit S.2.1 pc (fF off) → ∀ (env st : List AV) (μ : am_M) (b : Bool) (μ' : am_M), f env μ = some (b, μ') → (r = 0 ∨ st.length + r ≤ 5) → (b = true → am_Wn S G (pc + am_sz (fF 0)) env st μ') → (b = false → am_Wn S G tgt env st μ') → am_Wn S G pc env st μ) ∧
  (∀ (G : am_G), am_Ok S G → ∀ (pc : Nat) (off : Int) (tgt : Nat), (pc : Int) + off = (tgt : Int) → am_fit S.2.1 pc (fT off) → ∀ (env st : List AV) (μ : am_M) (b : Bool) (μ' : am_M), f env μ = some (b, μ') → (r = 0 ∨ st.length + r ≤ 5) → (b = false → am_Wn S G (pc + am_sz (fT 0)) env st μ') → (b = true → am_Wn S G tgt env st μ') → am_Wn S G pc env st μ)
def am_ri : Option AV → Instr
  | none => .return_
  | some (.inl _) => .ireturn
  | some (.inr (.inl _)) => .lreturn
  | some (.inr (.inr _)) => .areturn
def am_Rt (S : am_S) (G : am_G) (v : Option AV) (μ : am_M) : Prop := match G with
  | (p, l, e, R, s, m, args, below, meth, c, Q, D, cs, ad, A, nc, ns) => ∀ (H : Heap) (locs : List Loc) (ls : Array Slot) (pc : Nat), va_P D vwCl (am_wl S.1 ad cs μ) H → va_D A (am_wl S.1 ad cs μ) → va_S A s.heap H locs → decode S.2.1 pc = .ok (am_ri v, 1) → W p l e R s m args below meth c H locs nc ns Q (F0 m pc ls (v.map (am_cv ad)).toList)
def am_Kt (S : am_S) (G : am_G) (pc : Nat) : (List AV × am_M) ⊕ (Option AV × am_M) → Prop
  | .inl (env, μ) => am_Wn S G pc env [] μ
  | .inr (v, μ) => am_Rt S G v μ
def am_OkS (S : am_S) (fr : List am_I) (r : Nat) (f : am_T) : Prop := r ≤ 5 → ∀ (G : am_G), am_Ok S G → ∀ (pc : Nat), am_fit S.2.1 pc fr → ∀ (env : List AV) (μ : am_M) (o : (List AV × am_M) ⊕ (Option AV × am_M)), f env μ = some o → am_Kt S G (pc + am_sz fr) o → am_Wn S G pc env [] μ
abbrev am_XP (S : am_S) : Type := { q : List am_I × Nat × am_X // am_OkX S q.1 q.2.1 q.2.2 }
abbrev am_AP (S : am_S) : Type := { q : List am_I × Nat × am_L // am_OkA S q.1 q.2.1 q.2.2 }
abbrev am_CP (S : am_S) : Type := { q : (Int → List am_I) × (Int → List am_I) × Nat × am_B // am_OkC S q.1 q.2.1 q.2.2.1 q.2.2.2 }
abbrev am_SP (S : am_S) : Type := { q : List am_I × Nat × am_T // am_OkS S q.1 q.2.1 q.2.2 }
/-! expressions -/
def e_n (op : List AV → Option AV) : am_X := fun env μ => (op env).map (fun v => (v, μ))
def e_u (op : AV → am_M → Option AV) (a : am_X) : am_X := fun env μ => am_bd (a env μ) fun v μ => (op v μ).map (fun w => (w, μ))
def e_b (op : AV → AV → am_M → Option AV) (a b : am_X) : am_X := fun env μ => am_bd (a env μ) fun v μ => am_bd (b env μ) fun w μ => (op v w μ).map (fun z => (z, μ))
def e_c (c : am_B) (a b : am_X) : am_X := fun env μ => am_bd (c env μ) fun z μ => if z then a env μ else b env μ
theorem am_map_ok {α β : Type} {o : Option α} {g : α → β} {b : β} (h : o.map g = some b) : ∃ a, o = some a ∧ g a = b := by
  rcases o with _ | a
  · cases h
  · exact ⟨a, rfl, Option.some.inj h⟩
theorem ok_n {S : am_S} {i : am_I} {op : List AV → Option AV} (h : am_IK S i op) : am_OkX S [i] 0 (e_n op) := by
  intro G hO pc hf env st μ v μ' hv hr k
  obtain ⟨w, hw, he⟩ := am_map_ok hv
  cases he
  exact h G hO pc hf env st _ _ hw k
theorem ok_u {S : am_S} {i : am_I} {op : AV → am_M → Option AV} (h : am_IU S i op) {fr : List am_I} {r : Nat} {f : am_X} (ha : am_OkX S fr r f) : am_OkX S (fr ++ [i]) r (e_u op f) := by
  intro G hO pc hf env st μ v μ' hv hr k
  obtain ⟨h1, h2⟩ := am_fit_app hf
  obtain ⟨a, μ1, ha1, hv⟩ := am_bd_ok hv
  obtain ⟨w, hw, he⟩ := am_map_ok hv
  cases he
  refine ha G hO pc h1 env st μ a _ ha1 hr (h G hO _ h2 env st _ a _ hw ?_)
  rw [am_sz_app, ← Nat.add_assoc] at k
  exact k
theorem ok_b {S : am_S} {i : am_I} {op : AV → AV → am_M → Option AV} (h : am_IB S i op) {fa fb : List am_I} {ra rb : Nat} {f g : am_X} (ha : am_OkX S fa ra f) (hb : am_OkX S fb rb g) : am_OkX S (fa ++ (fb ++ [i])) (max ra (rb + min rb 1)) (e_b op f g) := by
  intro G hO pc hf env st μ v μ' hv hr k
  obtain ⟨h1, h2⟩ := am_fit_app hf
  obtain ⟨h2, h3⟩ := am_fit_app h2
  obtain ⟨a, μ1, ha1, hv⟩ := am_bd_ok hv
  obtain ⟨b, μ2, hb1, hv⟩ := am_bd_ok hv
  obtain ⟨w, hw, he⟩ := am_map_ok hv
  cases he
  refine ha G hO pc h1 env st μ a μ1 ha1 (by omega) (hb G hO _ h2 env (a :: st) μ1 b _ hb1 (by simp only [List.length_cons]; omega) (h G hO _ h3 env st _ a b _ hw ?_))
  rw [am_sz_app, am_sz_app, ← Nat.add_assoc, ← Nat.add_assoc] at k
  exact k
def x_n {S : am_S} (i : am_I) (op : List AV → Option AV) (h : am_IK S i op) : am_XP S := ⟨([i], 0, e_n op), ok_n h⟩
def x_u {S : am_S} (i : am_I) (op : AV → am_M → Option AV) (h : am_IU S i op) (a : am_XP S) : am_XP S := ⟨(a.1.1 ++ [i], a.1.2.1, e_u op a.1.2.2), ok_u h a.2⟩
def x_b {S : am_S} (i : am_I) (op : AV → AV → am_M → Option AV) (h : am_IB S i op) (a b : am_XP S) : am_XP S := ⟨(a.1.1 ++ (b.1.1 ++ [i]), max a.1.2.1 (b.1.2.1 + min b.1.2.1 1), e_b op a.1.2.2 b.1.2.2), ok_b h a.2 b.2⟩
theorem ok_c {S : am_S} {fF fT : Int → List am_I} {rc : Nat} {fc : am_B} (hc : am_OkC S fF fT rc fc) {fa fb : List am_I} {ra rb : Nat} {f g : am_X} (ha : am_OkX S fa ra f) (hb : am_OkX S fb rb g) : am_OkX S (fF ((am_sz (fF 0) + am_sz fa + 3 : Nat) : Int) ++ (fa ++ ((.goto ((3 + am_sz fb : Nat) : Int), 3, none) :: fb))) (max rc (max ra rb)) (e_c fc f g) := by
  intro G hO pc hf env st μ v μ' hv hr k
  obtain ⟨h1, h2⟩ := am_fit_app hf
  rw [hc.1] at h2
  obtain ⟨h2, h3⟩ := am_fit_app h2
  obtain ⟨h3a, h3b, h4⟩ := h3
  obtain ⟨z, μ1, hz, hv⟩ := am_bd_ok hv
  rw [am_sz_app, am_sz_app, hc.1] at k
  have he : am_sz ((Instr.goto ((3 + am_sz fb : Nat) : Int), 3, none) :: fb) = 3 + am_sz fb := rfl
  rw [he] at k
  refine hc.2.2.1 G hO pc _ (pc + am_sz (fF 0) + am_sz fa + 3) (by omega) h1 env st μ z μ1 hz (by omega) (fun hz1 => ?_) (fun hz1 => ?_)
  · rw [hz1] at hv
    refine ha G hO _ h2 env st μ1 v μ' hv (by omega) (is_goto hO ⟨h3a, h3b, trivial⟩ (tgt := pc + (am_sz (fF 0) + (am_sz fa + (3 + am_sz fb)))) (by omega) k)
  · rw [hz1] at hv
    refine hb G hO _ h4 env st μ1 v μ' hv (by omega) ?_
    rw [show pc + am_sz (fF 0) + am_sz fa + 3 + am_sz fb = pc + (am_sz (fF 0) + (am_sz fa + (3 + am_sz fb))) by omega]
    exact k
def x_c {S : am_S} (c : am_CP S) (a b : am_XP S) : am_XP S := ⟨(c.1.1 ((am_sz (c.1.1 0) + am_sz a.1.1 + 3 : Nat) : Int) ++ (a.1.1 ++ ((.goto ((3 + am_sz b.1.1 : Nat) : Int), 3, none) :: b.1.1)), max c.1.2.2.1 (max a.1.2.1 b.1.2.1), e_c c.1.2.2.2 a.1.2.2 b.1.2.2), ok_c c.2 a.2 b.2⟩
/-! conditions -/
def am_cn' : ClassFile.Cond → ClassFile.Cond
  | .eq => .ne
  | .ne => .eq
  | .lt => .ge
  | .ge => .lt
  | .gt => .le
  | .le => .gt
theorem am_c0_n (c : ClassFile.Cond) (x : Int32) : am_c0 (am_cn' c) x = !am_c0 c x := by
  cases c <;> simp only [am_cn', am_c0]
  · by_cases h : x = 0 <;> simp [h]
  · by_cases h : x = 0 <;> simp [h]
  · by_cases h : x < 0
    · simp [h]
    · simp [h, Int32.not_lt.mp h]
  · by_cases h : x < 0
    · simp [h]
    · simp [h, Int32.not_lt.mp h]
  · by_cases h : 0 < x
    · simp [h]
    · simp [h, Int32.not_lt.mp h]
  · by_cases h : 0 < x
    · simp [h]
    · simp [h, Int32.not_lt.mp h]
theorem am_c2_n (c : ClassFile.Cond) (x y : Int32) : am_c2 (am_cn' c) x y = !am_c2 c x y := by
  cases c <;> simp only [am_cn', am_c2]
  · by_cases h : x = y <;> simp [h]
  · by_cases h : x = y <;> simp [h]
  · by_cases h : x < y
    · simp [h]
    · simp [h, Int32.not_lt.mp h]
  · by_cases h : x < y
    · simp [h]
    · simp [h, Int32.not_lt.mp h]
  · by_cases h : y < x
    · simp [h]
    · simp [h, Int32.not_lt.mp h]
  · by_cases h : y < x
    · simp [h]
    · simp [h, Int32.not_lt.mp h]
def b_z (cd : ClassFile.Cond) (a : am_X) : am_B := fun env μ => am_bd (a env μ) fun v μ => match v with
  | .inl x => some (am_c0 cd x, μ)
  | _ => none
def b_2 (cd : ClassFile.Cond) (a b : am_X) : am_B := fun env μ => am_bd (a env μ) fun v μ => am_bd (b env μ) fun w μ => match v, w with
  | .inl x, .inl y => some (am_c2 cd x y, μ)
  | _, _ => none
def b_and (a b : am_B) : am_B := fun env μ => am_bd (a env μ) fun x μ => if x then b env μ else some (false, μ)
def b_or (a b : am_B) : am_B := fun env μ => am_bd (a env μ) fun x μ => if x then some (true, μ) else b env μ
def b_not (a : am_B) : am_B := fun env μ => am_bd (a env μ) fun x μ => some (!x, μ)
theorem ok_z {S : am_S} (cd : ClassFile.Cond) {fr : List am_I} {r : Nat} {f : am_X} (ha : am_OkX S fr r f) : am_OkC S (fun o => fr ++ [(.ifCond (am_cn' cd) (o - (am_sz fr : Nat)), 3, none)]) (fun o => fr ++ [(.ifCond cd (o - (am_sz fr : Nat)), 3, none)]) r (b_z cd f) := by
  have hz : ∀ (cd : ClassFile.Cond) (o : Int), am_sz (fr ++ [(Instr.ifCond cd (o - (am_sz fr : Nat)), 3, none)]) = am_sz fr + 3 := fun cd o => by rw [am_sz_app]; rfl
  refine ⟨fun o => by rw [hz, hz], fun o => by rw [hz, hz], ?_, ?_⟩
  · intro G hO pc off tgt ht hf env st μ b μ' hb hr kt kf
    obtain ⟨h1, h2⟩ := am_fit_app hf
    obtain ⟨v, μ1, hv, hb⟩ := am_bd_ok hb
    split at hb
    · rename_i x
      cases hb
      rw [hz] at kt
      refine ha G hO pc h1 env st μ _ _ hv hr (is_if hO (am_cn' cd) h2 (tgt := tgt) (by omega) (fun h => kf (by rw [am_c0_n] at h; simpa using h)) (fun h => ?_))
      rw [Nat.add_assoc]
      exact kt (by rw [am_c0_n] at h; simpa using h)
    · cases hb
  · intro G hO pc off tgt ht hf env st μ b μ' hb hr kf kt
    obtain ⟨h1, h2⟩ := am_fit_app hf
    obtain ⟨v, μ1, hv, hb⟩ := am_bd_ok hb
    split at hb
    · rename_i x
      cases hb
      rw [hz] at kf
      refine ha G hO pc h1 env st μ _ _ hv hr (is_if hO cd h2 (tgt := tgt) (by omega) (fun h => kt h) (fun h => ?_))
      rw [Nat.add_assoc]
      exact kf h
    · cases hb
theorem ok_2 {S : am_S} (cd : ClassFile.Cond) {fa fb : List am_I} {ra rb : Nat} {f g : am_X} (ha : am_OkX S fa ra f) (hb : am_OkX S fb rb g) : am_OkC S (fun o => fa ++ (fb ++ [(.if_icmp (am_cn' cd) (o - (am_sz fa + am_sz fb : Nat)), 3, none)])) (fun o => fa ++ (fb ++ [(.if_icmp cd (o - (am_sz fa + am_sz fb : Nat)), 3, none)])) (max ra (rb + min rb 1)) (b_2 cd f g) := by
  have hz : ∀ (cd : ClassFile.Cond) (o : Int), am_sz (fa ++ (fb ++ [(Instr.if_icmp cd o, 3, none)])) = am_sz fa + (am_sz fb + 3) := fun cd o => by rw [am_sz_app, am_sz_app]; rfl
  refine ⟨fun o => by rw [hz, hz], fun o => by rw [hz, hz], ?_, ?_⟩
  · intro G hO pc off tgt ht hf env st μ b μ' hv hr kt kf
    obtain ⟨h1, h2⟩ := am_fit_app hf
    obtain ⟨h2, h3⟩ := am_fit_app h2
    obtain ⟨v, μ1, hv1, hv⟩ := am_bd_ok hv
    obtain ⟨w, μ2, hv2, hv⟩ := am_bd_ok hv
    split at hv
    · rename_i x y
      cases hv
      rw [hz] at kt
      refine ha G hO pc h1 env st μ _ _ hv1 (by omega) (hb G hO _ h2 env _ μ1 _ _ hv2 (by simp only [List.length_cons]; omega) (is_ic hO (am_cn' cd) h3 (tgt := tgt) (by omega) (fun h => kf (by rw [am_c2_n] at h; simpa using h)) (fun h => ?_)))
      rw [Nat.add_assoc, Nat.add_assoc]
      exact kt (by rw [am_c2_n] at h; simpa using h)
    · cases hv
  · intro G hO pc off tgt ht hf env st μ b μ' hv hr kf kt
    obtain ⟨h1, h2⟩ := am_fit_app hf
    obtain ⟨h2, h3⟩ := am_fit_app h2
    obtain ⟨v, μ1, hv1, hv⟩ := am_bd_ok hv
    obtain ⟨w, μ2, hv2, hv⟩ := am_bd_ok hv
    split at hv
    · rename_i x y
      cases hv
      rw [hz] at kf
      refine ha G hO pc h1 env st μ _ _ hv1 (by omega) (hb G hO _ h2 env _ μ1 _ _ hv2 (by simp only [List.length_cons]; omega) (is_ic hO cd h3 (tgt := tgt) (by omega) (fun h => kt h) (fun h => ?_)))
      rw [Nat.add_assoc, Nat.add_assoc]
      exact kf h
    · cases hv
def c_z {S : am_S} (cd : ClassFile.Cond) (a : am_XP S) : am_CP S := ⟨(fun o => a.1.1 ++ [(.ifCond (am_cn' cd) (o - (am_sz a.1.1 : Nat)), 3, none)], fun o => a.1.1 ++ [(.ifCond cd (o - (am_sz a.1.1 : Nat)), 3, none)], a.1.2.1, b_z cd a.1.2.2), ok_z cd a.2⟩
def c_2 {S : am_S} (cd : ClassFile.Cond) (a b : am_XP S) : am_CP S := ⟨(fun o => a.1.1 ++ (b.1.1 ++ [(.if_icmp (am_cn' cd) (o - (am_sz a.1.1 + am_sz b.1.1 : Nat)), 3, none)]), fun o => a.1.1 ++ (b.1.1 ++ [(.if_icmp cd (o - (am_sz a.1.1 + am_sz b.1.1 : Nat)), 3, none)]), max a.1.2.1 (b.1.2.1 + min b.1.2.1 1), b_2 cd a.1.2.2 b.1.2.2), ok_2 cd a.2 b.2⟩
theorem ok_not {S : am_S} {fF fT : Int → List am_I} {r : Nat} {f : am_B} (h : am_OkC S fF fT r f) : am_OkC S fT fF r (b_not f) := by
  refine ⟨h.2.1, h.1, ?_, ?_⟩
  · intro G hO pc off tgt ht hf env st μ b μ' hb hr kt kf
    obtain ⟨x, μ1, hx, hb⟩ := am_bd_ok hb
    cases hb
    exact h.2.2.2 G hO pc off tgt ht hf env st μ x _ hx hr (fun z => kt (by rw [z]; rfl)) (fun z => kf (by rw [z]; rfl))
  · intro G hO pc off tgt ht hf env st μ b μ' hb hr kf kt
    obtain ⟨x, μ1, hx, hb⟩ := am_bd_ok hb
    cases hb
    exact h.2.2.1 G hO pc off tgt ht hf env st μ x _ hx hr (fun z => kf (by rw [z]; rfl)) (fun z => kt (by rw [z]; rfl))
def c_not {S : am_S} (a : am_CP S) : am_CP S := ⟨(a.1.2.1, a.1.1, a.1.2.2.1, b_not a.1.2.2.2), ok_not a.2⟩
theorem ok_and {S : am_S} {aF aT bF bT : Int → List am_I} {ra rb : Nat} {f g : am_B} (ha : am_OkC S aF aT ra f) (hb : am_OkC S bF bT rb g) : am_OkC S (fun o => aF o ++ bF (o - (am_sz (aF 0) : Nat))) (fun o => aF ((am_sz (aF 0) + am_sz (bT 0) : Nat) : Int) ++ bT (o - (am_sz (aF 0) : Nat))) (max ra rb) (b_and f g) := by
  have hz1 : ∀ o : Int, am_sz (aF o ++ bF (o - (am_sz (aF 0) : Nat))) = am_sz (aF 0) + am_sz (bF 0) := fun o => by rw [am_sz_app, ha.1, hb.1]
  have hz2 : ∀ o : Int, am_sz (aF ((am_sz (aF 0) + am_sz (bT 0) : Nat) : Int) ++ bT (o - (am_sz (aF 0) : Nat))) = am_sz (aF 0) + am_sz (bT 0) := fun o => by rw [am_sz_app, ha.1, hb.2.1]
  refine ⟨fun o => by rw [hz1, hz1], fun o => by rw [hz2, hz2], ?_, ?_⟩
  · intro G hO pc off tgt ht hf env st μ b μ' hv hr kt kf
    obtain ⟨h1, h2⟩ := am_fit_app hf
    rw [ha.1] at h2
    obtain ⟨x, μ1, hx, hv⟩ := am_bd_ok hv
    rw [hz1, ← Nat.add_assoc] at kt
    refine ha.2.2.1 G hO pc off tgt ht h1 env st μ x μ1 hx (by omega) (fun z => ?_) (fun z => ?_)
    · rw [z] at hv
      exact hb.2.2.1 G hO _ _ tgt (by omega) h2 env st μ1 b μ' hv (by omega) kt kf
    · rw [z] at hv
      cases hv
      exact kf rfl
  · intro G hO pc off tgt ht hf env st μ b μ' hv hr kf kt
    obtain ⟨h1, h2⟩ := am_fit_app hf
    rw [ha.1] at h2
    obtain ⟨x, μ1, hx, hv⟩ := am_bd_ok hv
    rw [hz2] at kf
    refine ha.2.2.1 G hO pc _ (pc + (am_sz (aF 0) + am_sz (bT 0))) (by omega) h1 env st μ x μ1 hx (by omega) (fun z => ?_) (fun z => ?_)
    · rw [z] at hv
      refine hb.2.2.2 G hO _ _ tgt (by omega) h2 env st μ1 b μ' hv (by omega) (fun y => ?_) kt
      rw [Nat.add_assoc]
      exact kf y
    · rw [z] at hv
      cases hv
      exact kf rfl
def c_and {S : am_S} (a b : am_CP S) : am_CP S := ⟨(fun o => a.1.1 o ++ b.1.1 (o - (am_sz (a.1.1 0) : Nat)), fun o => a.1.1 ((am_sz (a.1.1 0) + am_sz (b.1.2.1 0) : Nat) : Int) ++ b.1.2.1 (o - (am_sz (a.1.1 0) : Nat)), max a.1.2.2.1 b.1.2.2.1, b_and a.1.2.2.2 b.1.2.2.2), ok_and a.2 b.2⟩
theorem ok_or {S : am_S} {aF aT bF bT : Int → List am_I} {ra rb : Nat} {f g : am_B} (ha : am_OkC S aF aT ra f) (hb : am_OkC S bF bT rb g) : am_OkC S (fun o => aT ((am_sz (aT 0) + am_sz (bF 0) : Nat) : Int) ++ bF (o - (am_sz (aT 0) : Nat))) (fun o => aT o ++ bT (o - (am_sz (aT 0) : Nat))) (max ra rb) (b_or f g) := by
  have hz1 : ∀ o : Int, am_sz (aT ((am_sz (aT 0) + am_sz (bF 0) : Nat) : Int) ++ bF (o - (am_sz (aT 0) : Nat))) = am_sz (aT 0) + am_sz (bF 0) := fun o => by rw [am_sz_app, ha.2.1, hb.1]
  have hz2 : ∀ o : Int, am_sz (aT o ++ bT (o - (am_sz (aT 0) : Nat))) = am_sz (aT 0) + am_sz (bT 0) := fun o => by rw [am_sz_app, ha.2.1, hb.2.1]
  refine ⟨fun o => by rw [hz1, hz1], fun o => by rw [hz2, hz2], ?_, ?_⟩
  · intro G hO pc off tgt ht hf env st μ b μ' hv hr kt kf
    obtain ⟨h1, h2⟩ := am_fit_app hf
    rw [ha.2.1] at h2
    obtain ⟨x, μ1, hx, hv⟩ := am_bd_ok hv
    rw [hz1] at kt
    refine ha.2.2.2 G hO pc _ (pc + (am_sz (aT 0) + am_sz (bF 0))) (by omega) h1 env st μ x μ1 hx (by omega) (fun z => ?_) (fun z => ?_)
    · rw [z] at hv
      refine hb.2.2.1 G hO _ _ tgt (by omega) h2 env st μ1 b μ' hv (by omega) (fun y => ?_) kf
      rw [Nat.add_assoc]
      exact kt y
    · rw [z] at hv
      cases hv
      exact kt rfl
  · intro G hO pc off tgt ht hf env st μ b μ' hv hr kf kt
    obtain ⟨h1, h2⟩ := am_fit_app hf
    rw [ha.2.1] at h2
    obtain ⟨x, μ1, hx, hv⟩ := am_bd_ok hv
    rw [hz2, ← Nat.add_assoc] at kf
    refine ha.2.2.2 G hO pc off tgt ht h1 env st μ x μ1 hx (by omega) (fun z => ?_) (fun z => ?_)
    · rw [z] at hv
      exact hb.2.2.2 G hO _ _ tgt (by omega) h2 env st μ1 b μ' hv (by omega) kf kt
    · rw [z] at hv
      cases hv
      exact kt rfl
def c_or {S : am_S} (a b : am_CP S) : am_CP S := ⟨(fun o => a.1.2.1 ((am_sz (a.1.2.1 0) + am_sz (b.1.1 0) : Nat) : Int) ++ b.1.1 (o - (am_sz (a.1.2.1 0) : Nat)), fun o => a.1.2.1 o ++ b.1.2.1 (o - (am_sz (a.1.2.1 0) : Nat)), max a.1.2.2.1 b.1.2.2.1, b_or a.1.2.2.2 b.1.2.2.2), ok_or a.2 b.2⟩
end
section
/-! arguments, calls, statements -/
def a_0 : am_L := fun _ μ => some ([], μ)
def a_1 (a : am_X) (b : am_L) : am_L := fun env μ => am_bd (a env μ) fun v μ => am_bd (b env μ) fun vs μ => some (v :: vs, μ)
theorem ok_a0 {S : am_S} : am_OkA S [] 0 a_0 := by
  intro G hO pc hf env st μ vs μ' hv hr k
  cases hv
  exact k
theorem ok_a1 {S : am_S} {fa fb : List am_I} {ra rb : Nat} {f : am_X} {g : am_L} (ha : am_OkX S fa ra f) (hb : am_OkA S fb rb g) : am_OkA S (fa ++ fb) (max ra (rb + min rb 1)) (a_1 f g) := by
  intro G hO pc hf env st μ vs μ' hv hr k
  obtain ⟨h1, h2⟩ := am_fit_app hf
  obtain ⟨a, μ1, ha1, hv⟩ := am_bd_ok hv
  obtain ⟨b, μ2, hb1, hv⟩ := am_bd_ok hv
  cases hv
  refine ha G hO pc h1 env st μ a μ1 ha1 (by omega) (hb G hO _ h2 env (a :: st) μ1 b _ hb1 (by simp only [List.length_cons]; omega) ?_)
  rw [am_sz_app, ← Nat.add_assoc, List.reverse_cons, List.append_assoc] at k
  exact k
def x_a0 {S : am_S} : am_AP S := ⟨([], 0, a_0), ok_a0⟩
def x_a1 {S : am_S} (a : am_XP S) (b : am_AP S) : am_AP S := ⟨(a.1.1 ++ b.1.1, max a.1.2.1 (b.1.2.1 + min b.1.2.1 1), a_1 a.1.2.2 b.1.2.2), ok_a1 a.2 b.2⟩
abbrev am_F : Type := List AV → am_M → Option (Option AV × am_M)
/-- a call on an object of class ci: the receiver is the first of the arguments -/
def am_cl (Sh : List am_SC) (ci n : Nat) (f : am_F) (vs : List AV) (μ : am_M) : Option (Option AV × am_M) := match vs with
  | b :: as => if as.length = n ∧ am_ck Sh ci b = true then f (b :: as) μ else none
  | [] => none
def am_cs (n : Nat) (f : am_F) (vs : List AV) (μ : am_M) : Option (Option AV × am_M) := if vs.length = n then f vs μ else none
/-- a call row: takes the arguments, gives the answer -/
def am_IC (S : am_S) (i : am_I) (g : List AV → am_M → Option (Option AV × am_M)) : Prop := ∀ (G : am_G), am_Ok S G → ∀ (pc : Nat), am_fit S.2.1 pc [i] → ∀ (env st : List AV) (μ μ' : am_M) (vs : List AV) (r : Option AV), st.length ≤ 4 → g vs μ = some (r, μ') → am_Wn S G (pc + i.2.1) env (r.toList ++ st) μ' → am_Wn S G pc env (vs.reverse ++ st) μ
theorem ic_V {S : am_S} {y : MethodName} {cb : ByteArray} {nb n dc ci : Nat} {ret : Option FieldType} {f : am_F} (hM : am_Sd S.1 y cb nb ret dc f) (hy : am_Ky y cb nb ret n) (hv : am_KV y ci) (hdc : dc + 1 ≤ S.2.2.2.1) (idx q : Nat) (host : Option String) : am_IC S (.invokevirtual idx, 3, some (q, am_lk S.2.2.2.2 idx y host)) (am_cl S.1 ci n f) := by
  intro G hO pc hf env st μ μ' vs r hst hw k
  unfold am_cl at hw
  split at hw
  · rename_i b as
    split at hw
    · rename_i hc
      have h1 := is_callV hM hy hv hdc idx q host hO hf (env := env) (st := st) (as := as) (b := b) hc.1 hc.2 hst hw k
      rw [List.reverse_cons, List.append_assoc]
      exact h1
    · cases hw
  · cases hw
theorem ic_S {S : am_S} {y : MethodName} {cb : ByteArray} {nb n dc : Nat} {ret : Option FieldType} {f : am_F} (hM : am_Sd S.1 y cb nb ret dc f) (hy : am_Ky y cb nb ret n) (hv : am_KS y) (hdc : dc + 1 ≤ S.2.2.2.1) (idx q : Nat) (host : Option String) : am_IC S (.invokestatic idx, 3, some (q, am_lk S.2.2.2.2 idx y host)) (am_cs n f) := by
  intro G hO pc hf env st μ μ' vs r hst hw k
  unfold am_cs at hw
  split at hw
  · rename_i hc
    exact is_callS hM hy hv hdc idx q host hO hf (env := env) (st := st) (as := vs) hc hst hw k
  · cases hw
def e_k (g : List AV → am_M → Option (Option AV × am_M)) (a : am_L) : am_X := fun env μ => am_bd (a env μ) fun vs μ => match g vs μ with
  | some (some v, μ) => some (v, μ)
  | _ => none
theorem ok_k {S : am_S} {i : am_I} {g : List AV → am_M → Option (Option AV × am_M)} (h : am_IC S i g) {fr : List am_I} {r : Nat} {f : am_L} (ha : am_OkA S fr r f) : am_OkX S (fr ++ [i]) (max r 1) (e_k g f) := by
  intro G hO pc hf env st μ v μ' hv hr k
  obtain ⟨h1, h2⟩ := am_fit_app hf
  obtain ⟨vs, μ1, ha1, hv⟩ := am_bd_ok hv
  rw [am_sz_app, ← Nat.add_assoc] at k
  split at hv
  · rename_i w μ2 hw
    cases hv
    exact ha G hO pc h1 env st μ vs μ1 ha1 (by omega) (h G hO _ h2 env st μ1 _ vs _ (by omega) hw k)
  · cases hv
def x_k {S : am_S} (i : am_I) (g : List AV → am_M → Option (Option AV × am_M)) (h : am_IC S i g) (a : am_AP S) : am_XP S := ⟨(a.1.1 ++ [i], max a.1.2.1 1, e_k g a.1.2.2), ok_k h a.2⟩
/-! statements -/
def s_k (g : List AV → am_M → Option (Option AV × am_M)) (a : am_L) : am_T := fun env μ => am_bd (a env μ) fun vs μ => match g vs μ with
  | some (none, μ) => some (.inl (env, μ))
  | _ => none
theorem ok_sk {S : am_S} {i : am_I} {g : List AV → am_M → Option (Option AV × am_M)} (h : am_IC S i g) {fr : List am_I} {r : Nat} {f : am_L} (ha : am_OkA S fr r f) : am_OkS S (fr ++ [i]) (max r 1) (s_k g f) := by
  intro hr G hO pc hf env μ o hv k
  obtain ⟨h1, h2⟩ := am_fit_app hf
  obtain ⟨vs, μ1, ha1, hv⟩ := am_bd_ok hv
  rw [am_sz_app, ← Nat.add_assoc] at k
  split at hv
  · rename_i μ2 hw
    cases hv
    exact ha G hO pc h1 env [] μ vs μ1 ha1 (by simp only [List.length_nil]; omega) (h G hO _ h2 env [] μ1 _ vs none (by simp) hw k)
  · cases hv
def t_k {S : am_S} (i : am_I) (g : List AV → am_M → Option (Option AV × am_M)) (h : am_IC S i g) (a : am_AP S) : am_SP S := ⟨(a.1.1 ++ [i], max a.1.2.1 1, s_k g a.1.2.2), ok_sk h a.2⟩
def s_pop (a : am_X) : am_T := fun env μ => am_bd (a env μ) fun v μ => if am_c1 v = true then some (.inl (env, μ)) else none
theorem ok_pop {S : am_S} {fr : List am_I} {r : Nat} {f : am_X} (ha : am_OkX S fr r f) : am_OkS S (fr ++ [(.pop, 1, none)]) r (s_pop f) := by
  intro hr G hO pc hf env μ o hv k
  obtain ⟨h1, h2⟩ := am_fit_app hf
  obtain ⟨v, μ1, ha1, hv⟩ := am_bd_ok hv
  rw [am_sz_app, ← Nat.add_assoc] at k
  split at hv
  · rename_i hc
    cases hv
    exact ha G hO pc h1 env [] μ v μ1 ha1 (by simp only [List.length_nil]; omega) (is_pop hO h2 hc k)
  · cases hv
def t_pop {S : am_S} (a : am_XP S) : am_SP S := ⟨(a.1.1 ++ [(.pop, 1, none)], a.1.2.1, s_pop a.1.2.2), ok_pop a.2⟩
def s_as (op : List AV → AV → Option (List AV)) (a : am_X) : am_T := fun env μ => am_bd (a env μ) fun v μ => (op env v).map (fun env' => .inl (env', μ))
theorem ok_as {S : am_S} {i : am_I} {op : List AV → AV → Option (List AV)} (h : am_IT S i op) {fr : List am_I} {r : Nat} {f : am_X} (ha : am_OkX S fr r f) : am_OkS S (fr ++ [i]) r (s_as op f) := by
  intro hr G hO pc hf env μ o hv k
  obtain ⟨h1, h2⟩ := am_fit_app hf
  obtain ⟨v, μ1, ha1, hv⟩ := am_bd_ok hv
  obtain ⟨env', he, hv⟩ := am_map_ok hv
  subst hv
  rw [am_sz_app, ← Nat.add_assoc] at k
  exact ha G hO pc h1 env [] μ v μ1 ha1 (by simp only [List.length_nil]; omega) (h G hO _ h2 env env' [] μ1 v he k)
def t_as {S : am_S} (i : am_I) (op : List AV → AV → Option (List AV)) (h : am_IT S i op) (a : am_XP S) : am_SP S := ⟨(a.1.1 ++ [i], a.1.2.1, s_as op a.1.2.2), ok_as h a.2⟩
def s_inc (nL i : Nat) (d : Int32) : am_T := fun env μ => (o_inc nL i d env).map (fun env' => .inl (env', μ))
theorem ok_inc {S : am_S} (i : Nat) (n : Int) (d : Int32) (hd : Int32.ofInt n = d) : am_OkS S [(.iinc i n, 3, none)] 0 (s_inc S.2.2.1 i d) := by
  intro hr G hO pc hf env μ o hv k
  obtain ⟨env', he, hv⟩ := am_map_ok hv
  subst hv
  exact it_iinc i n d hd hO hf he k
def t_inc {S : am_S} (i : Nat) (n : Int) (d : Int32) (hd : Int32.ofInt n = d) : am_SP S := ⟨([(.iinc i n, 3, none)], 0, s_inc S.2.2.1 i d), ok_inc i n d hd⟩
/-- what putfield needs of the tables -/
def am_KP (ci j : Nat) (b : Bool) : Prop := vwCl[ci]? = some (am_cn ci) ∧ j < (am_cn ci).2.2 ∧ ((am_cn ci).2.1 j).2.2.2 = false ∧ parseFieldDescriptor ((am_cn ci).2.1 j).2.2.1 = some (if b then .boolean else .int)
theorem is_put' {S : am_S} {idx ci j q : Nat} {b : Bool} (hp : am_KP ci j b) {G : am_G} (hO : am_Ok S G) {pc : Nat} (hf : am_fit S.2.1 pc [(.putfield idx, 3, some (q, am_fl S.2.2.2.2 idx ci j))]) {env st : List AV} {μ μ' : am_M} {a v : AV} (hw : am_pv S.1 ci j b a v μ = some μ') (k : am_Wn S G (pc + 3) env st μ') : am_Wn S G pc env (v :: a :: st) μ := by
  obtain ⟨h1, h2, h3, h4⟩ := hp
  refine is_put idx ci j q b _ h1 h2 h3 h4 ?_ hO hf hw k
  cases b
  · exact Or.inl ⟨rfl, rfl⟩
  · exact Or.inr ⟨rfl, rfl⟩
def s_pf (Sh : List am_SC) (ci j : Nat) (b : Bool) (a e : am_X) : am_T := fun env μ => am_bd (a env μ) fun x μ => am_bd (e env μ) fun v μ => (am_pv Sh ci j b x v μ).map (fun μ' => .inl (env, μ'))
theorem ok_pf {S : am_S} {idx ci j q : Nat} {b : Bool} (hp : am_KP ci j b) {fa fb : List am_I} {ra rb : Nat} {f g : am_X} (ha : am_OkX S fa ra f) (hb : am_OkX S fb rb g) : am_OkS S (fa ++ (fb ++ [(.putfield idx, 3, some (q, am_fl S.2.2.2.2 idx ci j))])) (max ra (rb + min rb 1)) (s_pf S.1 ci j b f g) := by
  intro hr G hO pc hf env μ o hv k
  obtain ⟨h1, h2⟩ := am_fit_app hf
  obtain ⟨h2, h3⟩ := am_fit_app h2
  obtain ⟨x, μ1, ha1, hv⟩ := am_bd_ok hv
  obtain ⟨v, μ2, hb1, hv⟩ := am_bd_ok hv
  obtain ⟨μ3, he, hv⟩ := am_map_ok hv
  subst hv
  rw [am_sz_app, am_sz_app, ← Nat.add_assoc, ← Nat.add_assoc] at k
  exact ha G hO pc h1 env [] μ x μ1 ha1 (by simp only [List.length_cons, List.length_nil]; omega) (hb G hO _ h2 env [x] μ1 v μ2 hb1 (by simp only [List.length_cons, List.length_nil]; omega) (is_put' hp hO h3 he k))
def t_pf {S : am_S} (idx ci j q : Nat) (b : Bool) (hp : am_KP ci j b) (a e : am_XP S) : am_SP S := ⟨(a.1.1 ++ (e.1.1 ++ [(.putfield idx, 3, some (q, am_fl S.2.2.2.2 idx ci j))]), max a.1.2.1 (e.1.2.1 + min e.1.2.1 1), s_pf S.1 ci j b a.1.2.2 e.1.2.2), ok_pf hp a.2 e.2⟩
/-- a.f op= e -/
def s_po (Sh : List am_SC) (ci j : Nat) (b : Bool) (op : AV → AV → am_M → Option AV) (a e : am_X) : am_T := fun env μ => am_bd (a env μ) fun x μ => if am_c1 x = true then (match am_gv Sh ci j x μ with
  | some u => am_bd (e env μ) fun v μ => (match op u v μ with
    | some w => (am_pv Sh ci j b x w μ).map (fun μ' => .inl (env, μ'))
    | none => none)
  | none => none) else none
theorem ok_po {S : am_S} {idx ci j q q2 : Nat} {b : Bool} (hp : am_KP ci j b) {i : am_I} {op : AV → AV → am_M → Option AV} (hi : am_IB S i op) {fa fb : List am_I} {ra rb : Nat} {f g : am_X} (ha : am_OkX S fa ra f) (hb : am_OkX S fb rb g) : am_OkS S (fa ++ ([(.dup, 1, none)] ++ ([(.getfield idx, 3, some (q, am_fl S.2.2.2.2 idx ci j))] ++ (fb ++ ([i] ++ [(.putfield idx, 3, some (q2, am_fl S.2.2.2.2 idx ci j))]))))) (max ra (rb + 2 * min rb 1)) (s_po S.1 ci j b op f g) := by
  intro hr G hO pc hf env μ o hv k
  obtain ⟨h1, h2⟩ := am_fit_app hf
  obtain ⟨h2, h3⟩ := am_fit_app h2
  obtain ⟨h3, h4⟩ := am_fit_app h3
  obtain ⟨h4, h5⟩ := am_fit_app h4
  obtain ⟨h5, h6⟩ := am_fit_app h5
  obtain ⟨x, μ1, ha1, hv⟩ := am_bd_ok hv
  rw [am_sz_app, am_sz_app, am_sz_app, am_sz_app, am_sz_app, ← Nat.add_assoc, ← Nat.add_assoc, ← Nat.add_assoc, ← Nat.add_assoc, ← Nat.add_assoc] at k
  split at hv
  · rename_i hc
    split at hv
    · rename_i u hu
      obtain ⟨v, μ2, hb1, hv⟩ := am_bd_ok hv
      split at hv
      · rename_i w hw
        obtain ⟨μ3, he, hv⟩ := am_map_ok hv
        subst hv
        exact ha G hO pc h1 env [] μ x μ1 ha1 (by simp only [List.length_cons, List.length_nil]; omega) (is_dup hO h2 hc (iu_get idx ci j q hp.1 hp.2.1 G hO _ h3 env [x] μ1 x u hu (hb G hO _ h4 env [u, x] μ1 v μ2 hb1 (by simp only [List.length_cons, List.length_nil]; omega) (hi G hO _ h5 env [x] μ2 u v w hw (is_put' hp hO h6 he k)))))
      · cases hv
    · cases hv
  · cases hv
def t_po {S : am_S} (idx ci j q q2 : Nat) (b : Bool) (hp : am_KP ci j b) (i : am_I) (op : AV → AV → am_M → Option AV) (hi : am_IB S i op) (a e : am_XP S) : am_SP S := ⟨(a.1.1 ++ ([(.dup, 1, none)] ++ ([(.getfield idx, 3, some (q, am_fl S.2.2.2.2 idx ci j))] ++ (e.1.1 ++ ([i] ++ [(.putfield idx, 3, some (q2, am_fl S.2.2.2.2 idx ci j))])))), max a.1.2.1 (e.1.2.1 + 2 * min e.1.2.1 1), s_po S.1 ci j b op a.1.2.2 e.1.2.2), ok_po hp hi a.2 e.2⟩
/-- a[i] = e -/
def s_ia (Sh : List am_SC) (a i e : am_X) : am_T := fun env μ => am_bd (a env μ) fun x μ => am_bd (i env μ) fun j μ => am_bd (e env μ) fun v μ => (am_wv Sh x j v μ).map (fun μ' => .inl (env, μ'))
theorem ok_ia {S : am_S} {fa fi fb : List am_I} {ra ri rb : Nat} {f h g : am_X} (ha : am_OkX S fa ra f) (hi : am_OkX S fi ri h) (hb : am_OkX S fb rb g) : am_OkS S (fa ++ (fi ++ (fb ++ [(.iastore, 1, none)]))) (max ra (max (ri + min ri 1) (rb + 2 * min rb 1))) (s_ia S.1 f h g) := by
  intro hr G hO pc hf env μ o hv k
  obtain ⟨h1, h2⟩ := am_fit_app hf
  obtain ⟨h2, h3⟩ := am_fit_app h2
  obtain ⟨h3, h4⟩ := am_fit_app h3
  obtain ⟨x, μ1, ha1, hv⟩ := am_bd_ok hv
  obtain ⟨j, μ2, hi1, hv⟩ := am_bd_ok hv
  obtain ⟨v, μ3, hb1, hv⟩ := am_bd_ok hv
  obtain ⟨μ4, he, hv⟩ := am_map_ok hv
  subst hv
  rw [am_sz_app, am_sz_app, am_sz_app, ← Nat.add_assoc, ← Nat.add_assoc, ← Nat.add_assoc] at k
  exact ha G hO pc h1 env [] μ x μ1 ha1 (by simp only [List.length_cons, List.length_nil]; omega) (hi G hO _ h2 env [x] μ1 j μ2 hi1 (by simp only [List.length_cons, List.length_nil]; omega) (hb G hO _ h3 env [j, x] μ2 v μ3 hb1 (by simp only [List.length_cons, List.length_nil]; omega) (is_iast hO h4 he k)))
def t_ia {S : am_S} (a i e : am_XP S) : am_SP S := ⟨(a.1.1 ++ (i.1.1 ++ (e.1.1 ++ [(.iastore, 1, none)])), max a.1.2.1 (max (i.1.2.1 + min i.1.2.1 1) (e.1.2.1 + 2 * min e.1.2.1 1)), s_ia S.1 a.1.2.2 i.1.2.2 e.1.2.2), ok_ia a.2 i.2 e.2⟩
/-- a[i] op= e -/
def s_io (Sh : List am_SC) (op : AV → AV → am_M → Option AV) (a i e : am_X) : am_T := fun env μ => am_bd (a env μ) fun x μ => am_bd (i env μ) fun j μ => if am_c1 x = true ∧ am_c1 j = true then (match am_lv Sh x j μ with
  | some u => am_bd (e env μ) fun v μ => (match op u v μ with
    | some w => (am_wv Sh x j w μ).map (fun μ' => .inl (env, μ'))
    | none => none)
  | none => none) else none
theorem ok_io {S : am_S} {i : am_I} {op : AV → AV → am_M → Option AV} (hp : am_IB S i op) {fa fi fb : List am_I} {ra ri rb : Nat} {f h g : am_X} (ha : am_OkX S fa ra f) (hi : am_OkX S fi ri h) (hb : am_OkX S fb rb g) : am_OkS S (fa ++ (fi ++ ([(.dup2, 1, none)] ++ ([(.iaload, 1, none)] ++ (fb ++ ([i] ++ [(.iastore, 1, none)])))))) (max ra (max (ri + min ri 1) (rb + 3 * min rb 1))) (s_io S.1 op f h g) := by
  intro hr G hO pc hf env μ o hv k
  obtain ⟨h1, h2⟩ := am_fit_app hf
  obtain ⟨h2, h3⟩ := am_fit_app h2
  obtain ⟨h3, h4⟩ := am_fit_app h3
  obtain ⟨h4, h5⟩ := am_fit_app h4
  obtain ⟨h5, h6⟩ := am_fit_app h5
  obtain ⟨h6, h7⟩ := am_fit_app h6
  obtain ⟨x, μ1, ha1, hv⟩ := am_bd_ok hv
  obtain ⟨j, μ2, hi1, hv⟩ := am_bd_ok hv
  rw [am_sz_app, am_sz_app, am_sz_app, am_sz_app, am_sz_app, am_sz_app, ← Nat.add_assoc, ← Nat.add_assoc, ← Nat.add_assoc, ← Nat.add_assoc, ← Nat.add_assoc, ← Nat.add_assoc] at k
  split at hv
  · rename_i hc
    split at hv
    · rename_i u hu
      obtain ⟨v, μ3, hb1, hv⟩ := am_bd_ok hv
      split at hv
      · rename_i w hw
        obtain ⟨μ4, he, hv⟩ := am_map_ok hv
        subst hv
        exact ha G hO pc h1 env [] μ x μ1 ha1 (by simp only [List.length_cons, List.length_nil]; omega) (hi G hO _ h2 env [x] μ1 j μ2 hi1 (by simp only [List.length_cons, List.length_nil]; omega) (is_dup2 hO h3 hc.1 hc.2 (ib_iaload G hO _ h4 env [j, x] μ2 x j u hu (hb G hO _ h5 env [u, j, x] μ2 v μ3 hb1 (by simp only [List.length_cons, List.length_nil]; omega) (hp G hO _ h6 env [j, x] μ3 u v w hw (is_iast hO h7 he k))))))
      · cases hv
    · cases hv
  · cases hv
def t_io {S : am_S} (i : am_I) (op : AV → AV → am_M → Option AV) (hp : am_IB S i op) (a j e : am_XP S) : am_SP S := ⟨(a.1.1 ++ (j.1.1 ++ ([(.dup2, 1, none)] ++ ([(.iaload, 1, none)] ++ (e.1.1 ++ ([i] ++ [(.iastore, 1, none)]))))), max a.1.2.1 (max (j.1.2.1 + min j.1.2.1 1) (e.1.2.1 + 3 * min e.1.2.1 1)), s_io S.1 op a.1.2.2 j.1.2.2 e.1.2.2), ok_io hp a.2 j.2 e.2⟩
/-- System.arraycopy -/
def s_cy (Sh : List am_SC) (a : am_L) : am_T := fun env μ => am_bd (a env μ) fun vs μ => match vs with
  | [x, i, y, j, n] => (am_cy Sh x i y j n μ).map (fun μ' => .inl (env, μ'))
  | _ => none
theorem ok_cy {S : am_S} (idx q : Nat) (hdp : 1 ≤ S.2.2.2.1) {fr : List am_I} {r : Nat} {f : am_L} (ha : am_OkA S fr r f) : am_OkS S (fr ++ [(.invokestatic idx, 3, some (q, .methodLink S.2.2.2.2 idx arraycopyName))]) r (s_cy S.1 f) := by
  intro hr G hO pc hf env μ o hv k
  obtain ⟨h1, h2⟩ := am_fit_app hf
  obtain ⟨vs, μ1, ha1, hv⟩ := am_bd_ok hv
  rw [am_sz_app, ← Nat.add_assoc] at k
  split at hv
  · obtain ⟨μ3, he, hv⟩ := am_map_ok hv
    subst hv
    exact ha G hO pc h1 env [] μ _ μ1 ha1 (by simp only [List.length_nil]; omega) (is_copy idx q hdp hO h2 he k)
  · cases hv
def t_cy {S : am_S} (idx q : Nat) (hdp : 1 ≤ S.2.2.2.1) (a : am_AP S) : am_SP S := ⟨(a.1.1 ++ [(.invokestatic idx, 3, some (q, .methodLink S.2.2.2.2 idx arraycopyName))], a.1.2.1, s_cy S.1 a.1.2.2), ok_cy idx q hdp a.2⟩
/-! flow -/
def s_0 : am_T := fun env μ => some (.inl (env, μ))
def s_sq (a b : am_T) : am_T := fun env μ => match a env μ with
  | some (.inl (env', μ')) => b env' μ'
  | o => o
def s_if (c : am_B) (a b : am_T) : am_T := fun env μ => am_bd (c env μ) fun z μ => if z then a env μ else b env μ
/-- a statement that does not complete -/
def s_no (a : am_T) : am_T := fun env μ => match a env μ with
  | some (.inr o) => some (.inr o)
  | _ => none
def s_bk (a : am_T) : am_T := fun env μ => match a env μ with
  | some (.inl (env', μ')) => some (.inl (env'.take env.length, μ'))
  | o => o
theorem am_Wn.take {S : am_S} {G : am_G} {pc n : Nat} {env st : List AV} {μ : am_M} (k : am_Wn S G pc (env.take n) st μ) : am_Wn S G pc env st μ := by
  obtain ⟨p, l, e, R, s, m, args, below, meth, c, Q, D, cs, ad, A, nc, ns⟩ := G
  intro H locs ls hP hD hS hl
  exact k H locs ls hP hD hS (hl.take n)
theorem ok_s0 {S : am_S} : am_OkS S [] 0 s_0 := by
  intro hr G hO pc hf env μ o hv k
  cases hv
  exact k
theorem ok_sq {S : am_S} {fa fb : List am_I} {ra rb : Nat} {f g : am_T} (ha : am_OkS S fa ra f) (hb : am_OkS S fb rb g) : am_OkS S (fa ++ fb) (max ra rb) (s_sq f g) := by
  intro hr G hO pc hf env μ o hv k
  obtain ⟨h1, h2⟩ := am_fit_app hf
  rw [am_sz_app, ← Nat.add_assoc] at k
  unfold s_sq at hv
  split at hv
  · rename_i env' μ' he
    exact ha (by omega) G hO pc h1 env μ _ he (hb (by omega) G hO _ h2 env' μ' o hv k)
  · rename_i hne
    refine ha (by omega) G hO pc h1 env μ o hv ?_
    rcases o with ⟨env', μ'⟩ | ⟨v, μ'⟩
    · exact absurd hv (hne env' μ')
    · exact k
theorem ok_bk {S : am_S} {fr : List am_I} {r : Nat} {f : am_T} (ha : am_OkS S fr r f) : am_OkS S fr r (s_bk f) := by
  intro hr G hO pc hf env μ o hv k
  unfold s_bk at hv
  split at hv
  · rename_i env' μ' he
    cases hv
    exact ha hr G hO pc hf env μ _ he (am_Wn.take k)
  · exact ha hr G hO pc hf env μ o hv k
theorem ok_no {S : am_S} {fr : List am_I} {r : Nat} {f : am_T} (ha : am_OkS S fr r f) (hr : r ≤ 5) {G : am_G} (hO : am_Ok S G) {pc : Nat} (hf : am_fit S.2.1 pc fr) {env : List AV} {μ : am_M} {o : (List AV × am_M) ⊕ (Option AV × am_M)} (hv : s_no f env μ = some o) (pc' : Nat) (k : am_Kt S G pc' o) : am_Wn S G pc env [] μ := by
  unfold s_no at hv
  split at hv
  · rename_i o' he
    cases hv
    exact ha hr G hO pc hf env μ _ he k
  · cases hv
/-- if, no else -/
theorem ok_if1 {S : am_S} {fF fT : Int → List am_I} {rc : Nat} {fc : am_B} (hc : am_OkC S fF fT rc fc) {fa : List am_I} {ra : Nat} {f : am_T} (ha : am_OkS S fa ra f) : am_OkS S (fF ((am_sz (fF 0) + am_sz fa : Nat) : Int) ++ fa) (max rc ra) (s_if fc f s_0) := by
  intro hr G hO pc hf env μ o hv k
  obtain ⟨h1, h2⟩ := am_fit_app hf
  rw [hc.1] at h2
  obtain ⟨z, μ1, hz, hv⟩ := am_bd_ok hv
  rw [am_sz_app, hc.1] at k
  refine hc.2.2.1 G hO pc _ (pc + (am_sz (fF 0) + am_sz fa)) (by omega) h1 env [] μ z μ1 hz (by simp only [List.length_cons, List.length_nil]; omega) (fun hz1 => ?_) (fun hz1 => ?_)
  · rw [hz1] at hv
    refine ha (by omega) G hO _ h2 env μ1 o hv ?_
    rw [Nat.add_assoc]
    exact k
  · rw [hz1] at hv
    cases hv
    exact k
/-- if, else: the first goes on behind the second -/
theorem ok_if2 {S : am_S} {fF fT : Int → List am_I} {rc : Nat} {fc : am_B} (hc : am_OkC S fF fT rc fc) {fa fb : List am_I} {ra rb : Nat} {f g : am_T} (ha : am_OkS S fa ra f) (hb : am_OkS S fb rb g) : am_OkS S (fF ((am_sz (fF 0) + am_sz fa + 3 : Nat) : Int) ++ (fa ++ ((.goto ((3 + am_sz fb : Nat) : Int), 3, none) :: fb))) (max rc (max ra rb)) (s_if fc f g) := by
  intro hr G hO pc hf env μ o hv k
  obtain ⟨h1, h2⟩ := am_fit_app hf
  rw [hc.1] at h2
  obtain ⟨h2, h3⟩ := am_fit_app h2
  obtain ⟨h3a, h3b, h4⟩ := h3
  obtain ⟨z, μ1, hz, hv⟩ := am_bd_ok hv
  rw [am_sz_app, am_sz_app, hc.1] at k
  have he : am_sz ((Instr.goto ((3 + am_sz fb : Nat) : Int), 3, none) :: fb) = 3 + am_sz fb := rfl
  rw [he] at k
  refine hc.2.2.1 G hO pc _ (pc + am_sz (fF 0) + am_sz fa + 3) (by omega) h1 env [] μ z μ1 hz (by simp only [List.length_cons, List.length_nil]; omega) (fun hz1 => ?_) (fun hz1 => ?_)
  · rw [hz1] at hv
    refine ha (by omega) G hO _ h2 env μ1 o hv ?_
    rcases o with ⟨env', μ'⟩ | ⟨v, μ'⟩
    · exact is_goto hO ⟨h3a, h3b, trivial⟩ (tgt := pc + (am_sz (fF 0) + (am_sz fa + (3 + am_sz fb)))) (by omega) k
    · exact k
  · rw [hz1] at hv
    refine hb (by omega) G hO _ h4 env μ1 o hv ?_
    rw [show pc + am_sz (fF 0) + am_sz fa + 3 + am_sz fb = pc + (am_sz (fF 0) + (am_sz fa + (3 + am_sz fb))) by omega]
    exact k
/-- if, else: the first does not complete -/
theorem ok_if3 {S : am_S} {fF fT : Int → List am_I} {rc : Nat} {fc : am_B} (hc : am_OkC S fF fT rc fc) {fa fb : List am_I} {ra rb : Nat} {f g : am_T} (ha : am_OkS S fa ra f) (hb : am_OkS S fb rb g) : am_OkS S (fF ((am_sz (fF 0) + am_sz fa : Nat) : Int) ++ (fa ++ fb)) (max rc (max ra rb)) (s_if fc (s_no f) g) := by
  intro hr G hO pc hf env μ o hv k
  obtain ⟨h1, h2⟩ := am_fit_app hf
  rw [hc.1] at h2
  obtain ⟨h2, h3⟩ := am_fit_app h2
  obtain ⟨z, μ1, hz, hv⟩ := am_bd_ok hv
  rw [am_sz_app, am_sz_app, hc.1] at k
  refine hc.2.2.1 G hO pc _ (pc + am_sz (fF 0) + am_sz fa) (by omega) h1 env [] μ z μ1 hz (by simp only [List.length_cons, List.length_nil]; omega) (fun hz1 => ?_) (fun hz1 => ?_)
  · rw [hz1] at hv
    exact ok_no ha (by omega) hO h2 hv _ k
  · rw [hz1] at hv
    refine hb (by omega) G hO _ h3 env μ1 o hv ?_
    rw [show pc + am_sz (fF 0) + am_sz fa + am_sz fb = pc + (am_sz (fF 0) + (am_sz fa + am_sz fb)) by omega]
    exact k
def t_0 {S : am_S} : am_SP S := ⟨([], 0, s_0), ok_s0⟩
def t_sq {S : am_S} (a b : am_SP S) : am_SP S := ⟨(a.1.1 ++ b.1.1, max a.1.2.1 b.1.2.1, s_sq a.1.2.2 b.1.2.2), ok_sq a.2 b.2⟩
def t_bk {S : am_S} (a : am_SP S) : am_SP S := ⟨(a.1.1, a.1.2.1, s_bk a.1.2.2), ok_bk a.2⟩
def t_if1 {S : am_S} (c : am_CP S) (a : am_SP S) : am_SP S := ⟨(c.1.1 ((am_sz (c.1.1 0) + am_sz a.1.1 : Nat) : Int) ++ a.1.1, max c.1.2.2.1 a.1.2.1, s_if c.1.2.2.2 a.1.2.2 s_0), ok_if1 c.2 a.2⟩
def t_if2 {S : am_S} (c : am_CP S) (a b : am_SP S) : am_SP S := ⟨(c.1.1 ((am_sz (c.1.1 0) + am_sz a.1.1 + 3 : Nat) : Int) ++ (a.1.1 ++ ((.goto ((3 + am_sz b.1.1 : Nat) : Int), 3, none) :: b.1.1)), max c.1.2.2.1 (max a.1.2.1 b.1.2.1), s_if c.1.2.2.2 a.1.2.2 b.1.2.2), ok_if2 c.2 a.2 b.2⟩
def t_if3 {S : am_S} (c : am_CP S) (a b : am_SP S) : am_SP S := ⟨(c.1.1 ((am_sz (c.1.1 0) + am_sz a.1.1 : Nat) : Int) ++ (a.1.1 ++ b.1.1), max c.1.2.2.1 (max a.1.2.1 b.1.2.1), s_if c.1.2.2.2 (s_no a.1.2.2) b.1.2.2), ok_if3 c.2 a.2 b.2⟩
/-! loops -/
def am_lf (c : am_B) (s : am_T) : Nat → am_T
  | 0 => fun _ _ => none
  | n + 1 => fun env μ => am_bd (c env μ) fun b μ => if b then (match s env μ with
    | some (.inl (env', μ')) => am_lf c s n env' μ'
    | o => o) else some (.inl (env, μ))
theorem am_lf_mono {c : am_B} {s : am_T} : ∀ (n : Nat) (env : List AV) (μ : am_M) (o : (List AV × am_M) ⊕ (Option AV × am_M)), am_lf c s n env μ = some o → am_lf c s (n + 1) env μ = some o := by
  intro n
  induction n with
  | zero => intro env μ o h; cases h
  | succ n ih =>
    intro env μ o h
    unfold am_lf at h ⊢
    obtain ⟨b, μ1, hb, h⟩ := am_bd_ok h
    rw [hb]
    show (if b = true then _ else _) = _
    cases b with
    | false => exact h
    | true =>
      simp only [if_true] at h ⊢
      split at h
      · rename_i env' μ' he
        exact ih _ _ _ h
      · rename_i hne
        rw [h]
theorem am_lf_le {c : am_B} {s : am_T} {n m : Nat} (h : n ≤ m) {env : List AV} {μ : am_M} {o : (List AV × am_M) ⊕ (Option AV × am_M)} (hn : am_lf c s n env μ = some o) : am_lf c s m env μ = some o := by
  induction h with
  | refl => exact hn
  | step _ ih => exact am_lf_mono _ _ _ _ ih
theorem am_lp_ex (c : am_B) (s : am_T) (env : List AV) (μ : am_M) : ∃ o : Option ((List AV × am_M) ⊕ (Option AV × am_M)), (∀ r, o = some r → ∃ n, am_lf c s n env μ = some r) ∧ ∀ n r, am_lf c s n env μ = some r → o = some r := by
  by_cases h : ∃ n r, am_lf c s n env μ = some r
  · obtain ⟨n, r, h⟩ := h
    refine ⟨some r, fun r' hr => ⟨n, by cases hr; exact h⟩, fun m r' h' => ?_⟩
    have h1 := am_lf_le (Nat.le_max_left n m) h
    have h2 := am_lf_le (Nat.le_max_right n m) h'
    rw [← h1, h2]
  · exact ⟨none, fun r hr => (by cases hr), fun n r hr => absurd ⟨n, r, hr⟩ h⟩
noncomputable def s_lp (c : am_B) (s : am_T) : am_T := fun env μ => Classical.choose (am_lp_ex c s env μ)
theorem s_lp_ok {c : am_B} {s : am_T} {env : List AV} {μ : am_M} {o : (List AV × am_M) ⊕ (Option AV × am_M)} (h : s_lp c s env μ = some o) : ∃ n, am_lf c s n env μ = some o := (Classical.choose_spec (am_lp_ex c s env μ)).1 o h
theorem s_lp_of {c : am_B} {s : am_T} {env : List AV} {μ : am_M} {o : (List AV × am_M) ⊕ (Option AV × am_M)} {n : Nat} (h : am_lf c s n env μ = some o) : s_lp c s env μ = some o := (Classical.choose_spec (am_lp_ex c s env μ)).2 n o h
/-- the loop, once round -/
theorem s_lp_eq (c : am_B) (s : am_T) (env : List AV) (μ : am_M) : s_lp c s env μ = am_bd (c env μ) fun b μ => if b then s_sq s (s_lp c s) env μ else some (.inl (env, μ)) := by
  cases hc : c env μ with
  | none =>
    show _ = none
    cases h : s_lp c s env μ with
    | none => rfl
    | some o =>
      obtain ⟨n, hn⟩ := s_lp_ok h
      cases n with
      | zero => cases hn
      | succ n => unfold am_lf at hn; rw [hc] at hn; cases hn
  | some q =>
    obtain ⟨b, μ1⟩ := q
    show _ = if b = true then _ else _
    cases b with
    | false =>
      simp only [Bool.false_eq_true, if_false]
      exact s_lp_of (n := 1) (by unfold am_lf; rw [hc]; rfl)
    | true =>
      simp only [if_true]
      have step : ∀ n, am_lf c s (n + 1) env μ = (match s env μ1 with
        | some (.inl (env', μ')) => am_lf c s n env' μ'
        | o => o) := fun n => by
        show am_bd (c env μ) _ = _
        rw [hc]
        rfl
      unfold s_sq
      cases hs : s env μ1 with
      | none =>
        cases h : s_lp c s env μ with
        | none => rfl
        | some o =>
          obtain ⟨n, hn⟩ := s_lp_ok h
          cases n with
          | zero => cases hn
          | succ n => rw [step, hs] at hn; cases hn
      | some o1 =>
        rcases o1 with ⟨env', μ'⟩ | ⟨v, μ'⟩
        · show _ = s_lp c s env' μ'
          cases h : s_lp c s env' μ' with
          | some o =>
            obtain ⟨n, hn⟩ := s_lp_ok h
            exact s_lp_of (n := n + 1) (by rw [step, hs]; exact hn)
          | none =>
            cases h2 : s_lp c s env μ with
            | none => rfl
            | some o =>
              obtain ⟨n, hn⟩ := s_lp_ok h2
              cases n with
              | zero => cases hn
              | succ n =>
                rw [step, hs] at hn
                have h3 := s_lp_of (c := c) (s := s) (env := env') (μ := μ') (n := n) hn
                rw [h3] at h
                cases h
        · exact s_lp_of (n := 1) (by rw [step, hs])
theorem ok_lp {S : am_S} {fF fT : Int → List am_I} {rc : Nat} {fc : am_B} (hc : am_OkC S fF fT rc fc) {fa : List am_I} {ra : Nat} {f : am_T} (ha : am_OkS S fa ra f) : am_OkS S (fF ((am_sz (fF 0) + am_sz fa + 3 : Nat) : Int) ++ (fa ++ [(.goto (-((am_sz (fF 0) + am_sz fa : Nat) : Int)), 3, none)])) (max rc ra) (s_lp fc f) := by
  intro hr G hO pc hf env μ o hv k
  obtain ⟨n, hn⟩ := s_lp_ok hv
  clear hv
  obtain ⟨h1, h2⟩ := am_fit_app hf
  rw [hc.1] at h2
  obtain ⟨h2, h3⟩ := am_fit_app h2
  have hk : am_Kt S G (pc + (am_sz (fF 0) + am_sz fa + 3)) o := by
    rw [am_sz_app, am_sz_app, hc.1] at k
    rw [Nat.add_assoc (am_sz (fF 0))]
    exact k
  clear k
  induction n generalizing env μ with
  | zero => cases hn
  | succ n ih =>
    unfold am_lf at hn
    obtain ⟨z, μ1, hz, hv⟩ := am_bd_ok hn
    refine hc.2.2.1 G hO pc _ (pc + (am_sz (fF 0) + am_sz fa + 3)) (by omega) h1 env [] μ z μ1 hz (by simp only [List.length_cons, List.length_nil]; omega) (fun hz1 => ?_) (fun hz1 => ?_)
    · rw [hz1] at hv
      simp only [if_true] at hv
      split at hv
      · rename_i env' μ' he
        refine ha (by omega) G hO _ h2 env μ1 _ he ?_
        exact is_goto hO h3 (tgt := pc) (by omega) (ih env' μ' hv)
      · rename_i hne
        refine ha (by omega) G hO _ h2 env μ1 o hv ?_
        rcases o with ⟨env', μ'⟩ | ⟨v, μ'⟩
        · exact absurd hv (hne env' μ')
        · exact hk
    · rw [hz1] at hv
      cases hv
      exact hk
noncomputable def t_lp {S : am_S} (c : am_CP S) (a : am_SP S) : am_SP S := ⟨(c.1.1 ((am_sz (c.1.1 0) + am_sz a.1.1 + 3 : Nat) : Int) ++ (a.1.1 ++ [(.goto (-((am_sz (c.1.1 0) + am_sz a.1.1 : Nat) : Int)), 3, none)]), max c.1.2.2.1 a.1.2.1, s_lp c.1.2.2.2 a.1.2.2), ok_lp c.2 a.2⟩
/-! returns -/
def s_rt (i : Instr) (a : am_X) : am_T := fun env μ => am_bd (a env μ) fun v μ => if am_ri (some v) = i then some (.inr (some v, μ)) else none
theorem am_Rt.at {S : am_S} {G : am_G} {v : Option AV} {μ : am_M} (h : am_Rt S G v μ) {pc : Nat} {o : Option (Nat × Jvm.Cond)} (hf : am_fit S.2.1 pc [(am_ri v, 1, o)]) (env : List AV) : am_Wn S G pc env v.toList μ := by
  obtain ⟨p, l, e, R, s, m, args, below, meth, c, Q, D, cs, ad, A, nc, ns⟩ := G
  intro H locs ls hP hD hS hl
  have h1 := h H locs ls pc hP hD hS hf.1
  cases v <;> exact h1
theorem ok_rt {S : am_S} (i : Instr) {fr : List am_I} {r : Nat} {f : am_X} (ha : am_OkX S fr r f) : am_OkS S (fr ++ [(i, 1, none)]) r (s_rt i f) := by
  intro hr G hO pc hf env μ o hv k
  obtain ⟨h1, h2⟩ := am_fit_app hf
  obtain ⟨v, μ1, ha1, hv⟩ := am_bd_ok hv
  split at hv
  · rename_i hi
    cases hv
    subst hi
    exact ha G hO pc h1 env [] μ v μ1 ha1 (by simp only [List.length_nil]; omega) (am_Rt.at (v := some v) k h2 env)
  · cases hv
def t_rt {S : am_S} (i : Instr) (a : am_XP S) : am_SP S := ⟨(a.1.1 ++ [(i, 1, none)], a.1.2.1, s_rt i a.1.2.2), ok_rt i a.2⟩
def s_rv : am_T := fun _ μ => some (.inr (none, μ))
theorem ok_rv {S : am_S} : am_OkS S [(.return_, 1, none)] 0 s_rv := by
  intro hr G hO pc hf env μ o hv k
  cases hv
  exact am_Rt.at (v := none) k hf env
def t_rv {S : am_S} : am_SP S := ⟨([(.return_, 1, none)], 0, s_rv), ok_rv⟩
end
section
/-! A METHOD OUT OF ITS BODY -/
def am_en : List AV → List AV
  | [] => []
  | .inr (.inl x) :: t => vL x :: vU :: am_en t
  | a :: t => a :: am_en t
theorem am_en_args {ad : Nat → Nat} : ∀ (as : List AV) (k i : Nat) (a : AV) (v : Value), (am_en as)[i]? = some a → am_ov ad a = some v → (k + i, v) ∈ lv_args k (as.map (am_cv ad))
  | [], k, i, a, v, h, _ => by simp [am_en] at h
  | b :: t, k, i, a, v, h, hv => by
    rcases b with x | x | x | x
    · cases i with
      | zero => cases h; cases hv; exact List.mem_cons_self
      | succ i => exact List.mem_cons_of_mem _ (by have := am_en_args t (k + 1) i a v h hv; rw [show k + (i + 1) = k + 1 + i by omega]; exact this)
    · cases i with
      | zero => cases h; cases hv; exact List.mem_cons_self
      | succ i =>
        cases i with
        | zero => cases h; cases hv
        | succ i => exact List.mem_cons_of_mem _ (by have := am_en_args t (k + 2) i a v h hv; rw [show k + (i + 1 + 1) = k + 2 + i by omega]; exact this)
    · cases i with
      | zero => cases h; cases hv; exact List.mem_cons_self
      | succ i => exact List.mem_cons_of_mem _ (by have := am_en_args t (k + 1) i a v h hv; rw [show k + (i + 1) = k + 1 + i by omega]; exact this)
    · cases i with
      | zero => cases h; cases hv
      | succ i => exact List.mem_cons_of_mem _ (by have := am_en_args t (k + 1) i a v h hv; rw [show k + (i + 1) = k + 1 + i by omega]; exact this)
theorem am_en_len {ad : Nat → Nat} : ∀ (as : List AV), (lg_sl (as.map (am_cv ad))).length = (am_en as).length
  | [] => rfl
  | b :: t => by
    have ih := am_en_len (ad := ad) t
    have hc : ∀ (v : Value) (vs : List Value), lg_sl (v :: vs) = (if v.category = 2 then [.val v, .second] else [.val v]) ++ lg_sl vs := fun v vs => by unfold lg_sl; rw [List.flatMap_cons]
    rw [List.map_cons, hc, List.length_append, ih]
    rcases b with x | x | x | x <;> simp [am_en, am_cv, Value.category] <;> omega
def am_nr (ret : Option FieldType) (r : Option AV) : Bool := match ret, r with
  | none, none => true
  | some .int, some (.inl _) => true
  | some .boolean, some (.inl x) => x == 0 || x == 1
  | some .long, some (.inr (.inl _)) => true
  | some (.object _), some (.inr (.inr (.inl _))) => true
  | _, _ => false
def am_fn (nL : Nat) (ret : Option FieldType) (f : am_T) : am_F := fun as μ => if (am_en as).length ≤ nL then (match f (am_en as) μ with
  | some (.inr (r, μ')) => if am_nr ret r = true then some (r, μ') else none
  | _ => none) else none
theorem am_fn_ok {nL : Nat} {ret : Option FieldType} {f : am_T} {as : List AV} {μ μ' : am_M} {r : Option AV} (h : am_fn nL ret f as μ = some (r, μ')) : (am_en as).length ≤ nL ∧ f (am_en as) μ = some (.inr (r, μ')) ∧ am_nr ret r = true := by
  unfold am_fn at h
  split at h
  · rename_i hl
    split at h
    · rename_i r' μ'' he
      split at h
      · rename_i hn
        cases h
        exact ⟨hl, he, hn⟩
      · cases h
    · cases h
  · cases h
theorem am_meth {Sh : List am_SC} {y : MethodName} {cc : ByteArray} {nL d : Nat} {ret : Option FieldType} (x : am_SP (Sh, cc, nL, d, y.cls)) (hy : plainName y.cls = true) (hr : x.1.2.1 ≤ 5) (hf : am_fb cc 0 x.1.1 = true) : am_Sd Sh y cc nL ret d (am_fn nL ret x.1.2.2) := by
  intro l D cs ad sz as μ r μ' hfn
  obtain ⟨hlen, hbody, hnr⟩ := am_fn_ok hfn
  refine Met.ofW (cc := cc) (maxL := nL) (ret := ret) hy rfl ?_
  intro p e s m args below meth c s₁ B hml hv
  obtain ⟨rfl, hsz, hP, hK, hD0, hN⟩ := hv
  have hx := B.exec
  have hb := B.bytes
  have hrt := B.returns
  have hts := atoms_spec (ws := Jvm.Cond.code y cc nL ret :: am_tb) B.pre
  have hown : s.vm.findClass y.cls = some m.cls := findClass_of_methodNamed B.named
  have hlocks := B.notSynchronized
  subst hsz
  have hD := hD0.self (sz := s.heap.size)
  generalize hAe : va_A (am_wl Sh ad cs μ) s.heap.size = A at hD ⊢
  have hA : ∀ q : Nat, s.heap.size ≤ q → A q := fun q h => by rw [← hAe]; exact Or.inr h
  have hS : va_S A s.heap s.heap [] := va_S.rf
  have hl := lv_entry (as.map (am_cv ad)) (n := nL) (by rw [am_en_len]; exact hlen)
  rw [lg_entry_eq]
  generalize (lg_sl (as.map (am_cv ad)) ++ List.replicate (nL - (lg_sl (as.map (am_cv ad))).length) Slot.unset).toArray = ls at hl ⊢
  have hl : am_ag ad ls nL (am_en as) := ⟨hl.1, hl.2.1, fun q hq => by
    obtain ⟨i, v⟩ := q
    obtain ⟨a, ha, hv⟩ := am_ll_mem.mp hq
    have := am_en_args as 0 i a v ha hv
    rw [Nat.zero_add] at this
    exact hl.2.2 (i, v) this⟩
  have hO : am_Ok (Sh, cc, nL, d, y.cls) (p, l, e, am_rm d, s, m, (as.map (am_cv ad)).toArray, below, meth, c, MQ below (am_Q Sh D cs ad r μ' A) (as.map (am_cv ad)).toArray s 0 0 A, D, cs, ad, A, 0, 0) := ⟨hx, hb, hml, hown, ⟨fun w hw => hts w (List.mem_cons_of_mem _ hw), hN⟩, hK, hA, Nat.le_refl _, Nat.le_refl _, Nat.le_refl _, Nat.le_refl _⟩
  refine x.2 hr _ hO 0 (am_fb_ok hf) (am_en as) μ _ hbody ?_ s.heap [] ls hP hD hS hl
  intro H locs ls pc hP hD hS hdg
  have hq : ∀ t : State, t.heap = H → am_Q Sh D cs ad r μ' A (as.map (am_cv ad)).toArray s (.returned (r.map (am_cv ad))) t := fun t ht => ⟨rfl, by rw [ht]; exact hP, hS.F ht⟩
  unfold am_nr at hnr
  split at hnr
  · exact W.vret hx hb hrt (fun t ht _ => hq t ht) hS.2.2 hdg
  · exact W.iret hx hb hrt (fun t ht _ => hq t ht) hS.2.2 hdg
  · rename_i v
    refine W.zret hx hb hrt ?_ (fun t ht _ => hq t ht) hS.2.2 hdg
    simp only [Bool.or_eq_true, beq_iff_eq] at hnr
    rcases hnr with rfl | rfl <;> decide
  · exact W.lret hx hb hrt (fun t ht _ => hq t ht) hS.2.2 hdg
  · exact W.aret hx hb hrt (Or.inl ⟨_, rfl⟩) (Or.inr ⟨_, rfl⟩) (fun t ht _ => hq t ht) hS.2.2 hdg
  · cases hnr
/-! a switch whose cases do not complete: bodies one behind another -/
def am_cat : List (List am_I) → List am_I
  | [] => []
  | a :: t => a ++ am_cat t
def am_of : List (List am_I) → Nat → Nat
  | _, 0 => 0
  | [], _ => 0
  | a :: t, k + 1 => am_sz a + am_of t k
theorem am_of_fit {cc : ByteArray} : ∀ {l : List (List am_I)} {k : Nat} {a : List am_I} {pc : Nat}, am_fit cc pc (am_cat l) → l[k]? = some a → am_fit cc (pc + am_of l k) a
  | [], k, a, pc, _, h => by simp at h
  | b :: t, 0, a, pc, hf, h => by
    cases h
    exact (am_fit_app hf).1
  | b :: t, k + 1, a, pc, hf, h => by
    have h1 := am_of_fit (l := t) (k := k) (a := a) (am_fit_app hf).2 h
    show am_fit cc (pc + (am_sz b + am_of t k)) a
    rw [← Nat.add_assoc]
    exact h1
/-- which body an int takes: lo, the bodies of lo, lo + 1 .., the body of all else -/
def am_wh (lo : Int) (ks : List Nat) (kd : Nat) (x : Int32) : Nat := if x.toInt < lo ∨ lo + (ks.length : Int) - 1 < x.toInt then kd else (ks[(x.toInt - lo).toNat]?).getD kd
def s_sw (lo : Int) (ks : List Nat) (kd : Nat) (a : am_X) (bs : List am_T) : am_T := fun env μ => am_bd (a env μ) fun v μ => match v with
  | .inl x => (match bs[am_wh lo ks kd x]? with
    | some f => s_no f env μ
    | none => none)
  | _ => none
theorem ok_sw {S : am_S} (lo : Int) (ks : List Nat) (kd len : Nat) {fr : List am_I} {r : Nat} {f : am_X} (ha : am_OkX S fr r f) (bs : List (am_SP S)) : am_OkS S (fr ++ ((.tableswitch ((len + am_of (bs.map (fun b => b.1.1)) kd : Nat) : Int) lo (lo + (ks.length : Int) - 1) (ks.map (fun k => ((len + am_of (bs.map (fun b => b.1.1)) k : Nat) : Int))).toArray, len, none) :: am_cat (bs.map (fun b => b.1.1)))) (max r ((bs.map (fun b => b.1.2.1)).foldr max 0)) (s_sw lo ks kd f (bs.map (fun b => b.1.2.2))) := by
  intro hr G hO pc hf env μ o hv k
  obtain ⟨h1, h2a, h2b, h3⟩ := am_fit_app hf
  obtain ⟨v, μ1, ha1, hv⟩ := am_bd_ok hv
  split at hv
  · rename_i x
    split at hv
    · rename_i g hg
      rw [List.getElem?_map] at hg
      obtain ⟨b, hb, rfl⟩ := am_map_ok hg
      have hb2 : (bs.map (fun b => b.1.1))[am_wh lo ks kd x]? = some b.1.1 := by rw [List.getElem?_map, hb]; rfl
      have hfit := am_of_fit h3 hb2
      have hle : ∀ (l : List (am_SP S)) (k : Nat) (b : am_SP S), l[k]? = some b → b.1.2.1 ≤ (l.map (fun b => b.1.2.1)).foldr max 0 := by
        intro l
        induction l with
        | nil => intro k b h; simp at h
        | cons a t ih =>
          intro k b h
          simp only [List.map_cons, List.foldr_cons]
          cases k with
          | zero => cases h; exact Nat.le_max_left _ _
          | succ k => exact Nat.le_trans (ih k b h) (Nat.le_max_right _ _)
      have hrb := hle bs _ b hb
      refine ha G hO pc h1 env [] μ _ μ1 ha1 (by simp only [List.length_nil]; omega) ?_
      have key := ok_no b.2 (by omega) hO hfit hv _ k
      generalize am_sz fr = z at *
      obtain ⟨p, l, e, R, s, m, args, below, meth, c, Q, D, cs, ad, A, nc, ns⟩ := G
      intro H locs ls hP hD hS hl
      by_cases hx : x.toInt < lo ∨ lo + (ks.length : Int) - 1 < x.toInt
      · refine lv_tableOut hO.1 hO.2.1 h2a hx (tgt := pc + z + (len + am_of (bs.map (fun b => b.1.1)) kd)) (by omega) ?_
        have hw : am_wh lo ks kd x = kd := by unfold am_wh; rw [if_pos hx]
        rw [hw] at key
        rw [← Nat.add_assoc]
        exact key H locs ls hP hD hS hl
      · have hlt : (x.toInt - lo).toNat < ks.length := by omega
        obtain ⟨j, hj⟩ : ∃ j, ks[(x.toInt - lo).toNat]? = some j := ⟨_, List.getElem?_eq_getElem hlt⟩
        have hw : am_wh lo ks kd x = j := by unfold am_wh; rw [if_neg hx, hj]; rfl
        rw [hw] at key
        refine lv_tableIn hO.1 hO.2.1 h2a (fun h => hx (Or.inl h)) (fun h => hx (Or.inr h)) (off := ((len + am_of (bs.map (fun b => b.1.1)) j : Nat) : Int)) (by rw [List.getElem?_toArray, List.getElem?_map, hj]; rfl) (tgt := pc + z + (len + am_of (bs.map (fun b => b.1.1)) j)) (by omega) ?_
        rw [← Nat.add_assoc]
        exact key H locs ls hP hD hS hl
    · cases hv
  · cases hv
def t_sw {S : am_S} (lo : Int) (ks : List Nat) (kd len : Nat) (a : am_XP S) (bs : List (am_SP S)) : am_SP S := ⟨(a.1.1 ++ ((.tableswitch ((len + am_of (bs.map (fun b => b.1.1)) kd : Nat) : Int) lo (lo + (ks.length : Int) - 1) (ks.map (fun k => ((len + am_of (bs.map (fun b => b.1.1)) k : Nat) : Int))).toArray, len, none) :: am_cat (bs.map (fun b => b.1.1))), max a.1.2.1 ((bs.map (fun b => b.1.2.1)).foldr max 0), s_sw lo ks kd a.1.2.2 (bs.map (fun b => b.1.2.2))), ok_sw lo ks kd len a.2 bs⟩
/-! Math.max, min, abs: calls that the machine's tables tell by name -/
def am_max (x y : Int32) : Int32 := if x < y then y else x
def am_min (x y : Int32) : Int32 := if y < x then y else x
def am_abs (x : Int32) : Int32 := if 0 ≤ x then x else 0 - x
def am_m2 (f : Int32 → Int32 → Int32) (vs : List AV) (μ : am_M) : Option (Option AV × am_M) := match vs with
  | [.inl x, .inl y] => some (some (vI (f x y)), μ)
  | _ => none
def am_m1 (f : Int32 → Int32) (vs : List AV) (μ : am_M) : Option (Option AV × am_M) := match vs with
  | [.inl x] => some (some (vI (f x)), μ)
  | _ => none
theorem am_mw : Jvm.Cond.static Lib.Math.max.name ∈ am_tb ∧ Jvm.Cond.static Lib.Math.min.name ∈ am_tb ∧ Jvm.Cond.static Lib.Math.abs.name ∈ am_tb ∧ Jvm.Cond.initialized "java/lang/Math" ∈ am_tb ∧ Jvm.Cond.code Lib.Math.max.name Lib.Math.max.code 2 (some .int) ∈ am_tb ∧ Jvm.Cond.code Lib.Math.min.name Lib.Math.min.code 2 (some .int) ∈ am_tb ∧ Jvm.Cond.code Lib.Math.abs.name Lib.Math.abs.code 1 (some .int) ∈ am_tb := by decide +kernel
theorem ic_max {S : am_S} (idx q : Nat) (hd : 1 ≤ S.2.2.2.1) : am_IC S (.invokestatic idx, 3, some (q, .methodLink S.2.2.2.2 idx Lib.Math.max.name)) (am_m2 am_max) := by
  rintro ⟨p, l, e, R, s, m, args, below, meth, c, Q, D, cs, ad, A, nc, ns⟩ hO pc hf env st μ μ' vs r hst hw k H locs ls hP hD hS hl
  obtain ⟨hO1, hO2, hO3, hO4, ⟨hO5, hO5n⟩, hO6, hO7, hO8, hO9, hO10, hO11⟩ := hO
  unfold am_m2 at hw
  split at hw
  · rename_i x y
    cases hw
    have hrm := am_room (ad := ad) hst
    exact va_mmax (rest := st.map (am_cv ad)) hO1 hO2 (hO3.trans hl.1.symm) hO4 (hO5 _ (am_word (hf.2.1 _ rfl) rfl)) (hO5 _ am_mw.1) (hO5 _ am_mw.2.2.2.1) (hO5 _ am_mw.2.2.2.2.1) (Nat.le_trans hd hO8) (by omega) hO10 hO11 hf.1 (k H locs ls hP hD hS hl)
  · cases hw
theorem ic_min {S : am_S} (idx q : Nat) (hd : 1 ≤ S.2.2.2.1) : am_IC S (.invokestatic idx, 3, some (q, .methodLink S.2.2.2.2 idx Lib.Math.min.name)) (am_m2 am_min) := by
  rintro ⟨p, l, e, R, s, m, args, below, meth, c, Q, D, cs, ad, A, nc, ns⟩ hO pc hf env st μ μ' vs r hst hw k H locs ls hP hD hS hl
  obtain ⟨hO1, hO2, hO3, hO4, ⟨hO5, hO5n⟩, hO6, hO7, hO8, hO9, hO10, hO11⟩ := hO
  unfold am_m2 at hw
  split at hw
  · rename_i x y
    cases hw
    have hrm := am_room (ad := ad) hst
    exact va_mmin (rest := st.map (am_cv ad)) hO1 hO2 (hO3.trans hl.1.symm) hO4 (hO5 _ (am_word (hf.2.1 _ rfl) rfl)) (hO5 _ am_mw.2.1) (hO5 _ am_mw.2.2.2.1) (hO5 _ am_mw.2.2.2.2.2.1) (Nat.le_trans hd hO8) (by omega) hO10 hO11 hf.1 (k H locs ls hP hD hS hl)
  · cases hw
theorem ic_abs {S : am_S} (idx q : Nat) (hd : 1 ≤ S.2.2.2.1) : am_IC S (.invokestatic idx, 3, some (q, .methodLink S.2.2.2.2 idx Lib.Math.abs.name)) (am_m1 am_abs) := by
  rintro ⟨p, l, e, R, s, m, args, below, meth, c, Q, D, cs, ad, A, nc, ns⟩ hO pc hf env st μ μ' vs r hst hw k H locs ls hP hD hS hl
  obtain ⟨hO1, hO2, hO3, hO4, ⟨hO5, hO5n⟩, hO6, hO7, hO8, hO9, hO10, hO11⟩ := hO
  unfold am_m1 at hw
  split at hw
  · rename_i x
    cases hw
    have hrm := am_room (ad := ad) hst
    exact va_mabs (rest := st.map (am_cv ad)) hO1 hO2 (hO3.trans hl.1.symm) hO4 (hO5 _ (am_word (hf.2.1 _ rfl) rfl)) (hO5 _ am_mw.2.2.1) (hO5 _ am_mw.2.2.2.1) (hO5 _ am_mw.2.2.2.2.2.2) (Nat.le_trans hd hO8) (by omega) hO10 hO11 hf.1 (k H locs ls hP hD hS hl)
  · cases hw
end
section
/-! short names of the forms, and of their meanings -/
def x_ic {S : am_S} (n : Int) (v : Int32) (h : Int32.ofInt n = v) : am_XP S := x_n _ _ (ik_iconst n v h)
def x_bp {S : am_S} (n : Int) (v : Int32) (h : (Int8.ofInt n).toInt32 = v) : am_XP S := x_n _ _ (ik_bipush n v h)
def x_sp {S : am_S} (n : Int) (v : Int32) (h : (Int16.ofInt n).toInt32 = v) : am_XP S := x_n _ _ (ik_sipush n v h)
def x_lc {S : am_S} (n : Fin 2) (v : Int64) (h : Int64.ofNat (n : Nat) = v) : am_XP S := x_n _ _ (ik_lconst n v h)
def x_ldc {S : am_S} (i : Nat) (v : Int32) (q : Nat) : am_XP S := x_n _ _ (ik_ldc i v q)
def x_ldcw {S : am_S} (i : Nat) (v : Int32) (q : Nat) : am_XP S := x_n _ _ (ik_ldcw i v q)
def x_ldc2 {S : am_S} (i : Nat) (v : Int64) (q : Nat) : am_XP S := x_n _ _ (ik_ldc2 i v q)
def x_iln {S : am_S} (n : Fin 4) : am_XP S := x_n _ _ (ik_iload_n n)
def x_il {S : am_S} (n : Nat) : am_XP S := x_n _ _ (ik_iload n)
def x_lln {S : am_S} (n : Fin 4) : am_XP S := x_n _ _ (ik_lload_n n)
def x_ll {S : am_S} (n : Nat) : am_XP S := x_n _ _ (ik_lload n)
def x_aln {S : am_S} (n : Fin 4) : am_XP S := x_n _ _ (ik_aload_n n)
def x_al {S : am_S} (n : Nat) : am_XP S := x_n _ _ (ik_aload n)
/-- what getfield needs of the tables -/
def am_KG (ci j : Nat) : Prop := vwCl[ci]? = some (am_cn ci) ∧ j < (am_cn ci).2.2
def x_gf {S : am_S} (idx ci j q : Nat) (h : am_KG ci j) (a : am_XP S) : am_XP S := x_u _ _ (iu_get idx ci j q h.1 h.2) a
def x_ald {S : am_S} (a b : am_XP S) : am_XP S := x_b _ _ ib_iaload a b
def x_qld {S : am_S} (a b : am_XP S) : am_XP S := x_b _ _ ib_aaload a b
def x_len {S : am_S} (a : am_XP S) : am_XP S := x_u _ _ iu_alen a
def x_neg {S : am_S} (a : am_XP S) : am_XP S := x_u _ _ iu_ineg a
def x_i2l {S : am_S} (a : am_XP S) : am_XP S := x_u _ _ iu_i2l a
def x_i2b {S : am_S} (a : am_XP S) : am_XP S := x_u _ _ iu_i2b a
def x_i2s {S : am_S} (a : am_XP S) : am_XP S := x_u _ _ iu_i2s a
def x_iadd {S : am_S} (a b : am_XP S) : am_XP S := x_b _ _ ib_iadd a b
def x_isub {S : am_S} (a b : am_XP S) : am_XP S := x_b _ _ ib_isub a b
def x_imul {S : am_S} (a b : am_XP S) : am_XP S := x_b _ _ ib_imul a b
def x_iand {S : am_S} (a b : am_XP S) : am_XP S := x_b _ _ ib_iand a b
def x_ior {S : am_S} (a b : am_XP S) : am_XP S := x_b _ _ ib_ior a b
def x_ishl {S : am_S} (a b : am_XP S) : am_XP S := x_b _ _ ib_ishl a b
def x_ishr {S : am_S} (a b : am_XP S) : am_XP S := x_b _ _ ib_ishr a b
def x_iushr {S : am_S} (a b : am_XP S) : am_XP S := x_b _ _ ib_iushr a b
def x_idiv {S : am_S} (a b : am_XP S) : am_XP S := x_b _ _ ib_idiv a b
def x_irem {S : am_S} (a b : am_XP S) : am_XP S := x_b _ _ ib_irem a b
def x_ladd {S : am_S} (a b : am_XP S) : am_XP S := x_b _ _ ib_ladd a b
def x_lsub {S : am_S} (a b : am_XP S) : am_XP S := x_b _ _ ib_lsub a b
def x_lmul {S : am_S} (a b : am_XP S) : am_XP S := x_b _ _ ib_lmul a b
def x_ldiv {S : am_S} (a b : am_XP S) : am_XP S := x_b _ _ ib_ldiv a b
def x_lrem {S : am_S} (a b : am_XP S) : am_XP S := x_b _ _ ib_lrem a b
def x_lshl {S : am_S} (a b : am_XP S) : am_XP S := x_b _ _ ib_lshl a b
def x_lcmp {S : am_S} (a b : am_XP S) : am_XP S := x_b _ _ ib_lcmp a b
def t_isn {S : am_S} (n : Fin 4) (a : am_XP S) : am_SP S := t_as _ _ (it_istore_n n) a
def t_is {S : am_S} (n : Nat) (a : am_XP S) : am_SP S := t_as _ _ (it_istore n) a
def t_asn {S : am_S} (n : Fin 4) (a : am_XP S) : am_SP S := t_as _ _ (it_astore_n n) a
def t_ast {S : am_S} (n : Nat) (a : am_XP S) : am_SP S := t_as _ _ (it_astore n) a
def t_lsn {S : am_S} (n : Fin 4) (a : am_XP S) : am_SP S := t_as _ _ (it_lstore_n n) a
def t_ls {S : am_S} (n : Nat) (a : am_XP S) : am_SP S := t_as _ _ (it_lstore n) a
abbrev e_i (v : Int32) : am_X := e_n (o_k (vI v))
abbrev e_j (v : Int64) : am_X := e_n (o_k (vL v))
abbrev e_li (i : Nat) : am_X := e_n (o_li i)
abbrev e_ll (i : Nat) : am_X := e_n (o_ll i)
abbrev e_lr (i : Nat) : am_X := e_n (o_lr i)
abbrev e_gf (Sh : List am_SC) (ci j : Nat) (a : am_X) : am_X := e_u (am_gv Sh ci j) a
abbrev e_ald (Sh : List am_SC) (a b : am_X) : am_X := e_b (am_lv Sh) a b
abbrev e_qld (Sh : List am_SC) (a b : am_X) : am_X := e_b (am_qv Sh) a b
abbrev e_len (Sh : List am_SC) (a : am_X) : am_X := e_u (am_nv Sh) a
abbrev e_neg (a : am_X) : am_X := e_u (o_iu (fun x => -x)) a
abbrev e_i2l (a : am_X) : am_X := e_u o_i2l a
abbrev e_i2b (a : am_X) : am_X := e_u (o_iu (fun x => x.toInt8.toInt32)) a
abbrev e_i2s (a : am_X) : am_X := e_u (o_iu (fun x => x.toInt16.toInt32)) a
abbrev o_iadd : AV → AV → am_M → Option AV := o_ii (fun x y => x + y)
abbrev o_isub : AV → AV → am_M → Option AV := o_ii (fun x y => x - y)
abbrev o_imul : AV → AV → am_M → Option AV := o_ii (fun x y => x * y)
abbrev o_iand : AV → AV → am_M → Option AV := o_ii (fun x y => x &&& y)
abbrev o_ior : AV → AV → am_M → Option AV := o_ii (fun x y => x ||| y)
abbrev o_ishl : AV → AV → am_M → Option AV := o_ii (fun x y => x <<< (y &&& 31))
abbrev o_ishr : AV → AV → am_M → Option AV := o_ii (fun x y => x >>> (y &&& 31))
abbrev o_iushr : AV → AV → am_M → Option AV := o_ii (fun x y => (x.toUInt32 >>> (y.toUInt32 &&& Int32.toUInt32 31)).toInt32)
abbrev o_idiv : AV → AV → am_M → Option AV := o_iz (fun x y => x / y)
abbrev o_irem : AV → AV → am_M → Option AV := o_iz (fun x y => x - (x / y) * y)
abbrev o_ladd : AV → AV → am_M → Option AV := o_jj (fun x y => x + y)
abbrev o_lsub : AV → AV → am_M → Option AV := o_jj (fun x y => x - y)
abbrev o_lmul : AV → AV → am_M → Option AV := o_jj (fun x y => x * y)
abbrev o_ldiv : AV → AV → am_M → Option AV := o_jz (fun x y => x / y)
abbrev o_lrem : AV → AV → am_M → Option AV := o_jz (fun x y => x - (x / y) * y)
abbrev o_lshl : AV → AV → am_M → Option AV := o_ji (fun x y => x <<< (y.toInt64 &&& 63))
abbrev o_lcmp : AV → AV → am_M → Option AV := o_jc
end
section
/-! THE SHAPES OF THE TWO WORLDS, cells in the order in which the constructors make them; what fields and methods need of the tables -/
def ShX : List am_SC := [.inr (.inr (10, [some 1, some 3, some 5, some 7, some 14, some 15, some 20, some 25, some 51, some 77, some 79, some 81, some 85, some 90, some 93, none, none])), .inr (.inr (7, [some 2, none, none, none])), .inl 71, .inr (.inr (7, [some 4, none, none, none])), .inl 71, .inr (.inr (7, [some 6, none, none, none])), .inl 71, .inr (.inr (0, [none, some 8, some 9, some 10, some 11, some 12, some 13, none])), .inl 8, .inl 8, .inl 8, .inl 48, .inl 8, .inl 8, .inl 20, .inr (.inr (1, [none, some 16, some 17, some 18, some 19, none])), .inl 8, .inl 8, .inl 8, .inl 8, .inr (.inr (1, [none, some 21, some 22, some 23, some 24, none])), .inl 8, .inl 8, .inl 8, .inl 8, .inr (.inr (5, [some 26])), .inr (.inl (1, [27, 30, 33, 36, 39, 42, 45, 48])), .inr (.inr (3, [some 28, some 29, none, none, none])), .inl 20, .inl 20, .inr (.inr (3, [some 31, some 32, none, none, none])), .inl 20, .inl 20, .inr (.inr (3, [some 34, some 35, none, none, none])), .inl 20, .inl 20, .inr (.inr (3, [some 37, some 38, none, none, none])), .inl 20, .inl 20, .inr (.inr (3, [some 40, some 41, none, none, none])), .inl 20, .inl 20, .inr (.inr (3, [some 43, some 44, none, none, none])), .inl 20, .inl 20, .inr (.inr (3, [some 46, some 47, none, none, none])), .inl 20, .inl 20, .inr (.inr (3, [some 49, some 50, none, none, none])), .inl 20, .inl 20, .inr (.inr (5, [some 52])), .inr (.inl (1, [53, 56, 59, 62, 65, 68, 71, 74])), .inr (.inr (3, [some 54, some 55, none, none, none])), .inl 20, .inl 20, .inr (.inr (3, [some 57, some 58, none, none, none])), .inl 20, .inl 20, .inr (.inr (3, [some 60, some 61, none, none, none])), .inl 20, .inl 20, .inr (.inr (3, [some 63, some 64, none, none, none])), .inl 20, .inl 20, .inr (.inr (3, [some 66, some 67, none, none, none])), .inl 20, .inl 20, .inr (.inr (3, [some 69, some 70, none, none, none])), .inl 20, .inl 20, .inr (.inr (3, [some 72, some 73, none, none, none])), .inl 20, .inl 20, .inr (.inr (3, [some 75, some 76, none, none, none])), .inl 20, .inl 20, .inr (.inr (9, [none, some 78])), .inl 8, .inr (.inr (9, [none, some 80])), .inl 8, .inr (.inr (8, [none, none, some 82, none, some 83, some 84, none])), .inl 8, .inl 8, .inl 2048, .inr (.inr (6, [none, some 86, some 87, some 88, some 89])), .inl 8, .inl 8, .inl 8, .inl 100, .inr (.inr (2, [some 91, some 92, none])), .inl 6, .inl 24, .inr (.inl (2, [94, 96, 98, 100])), .inr (.inr (4, [none, none, none, some 95])), .inl 60, .inr (.inr (4, [none, none, none, some 97])), .inl 60, .inr (.inr (4, [none, none, none, some 99])), .inl 60, .inr (.inr (4, [none, none, none, some 101])), .inl 60]
def ShM : List am_SC := [.inr (.inr (11, [some 1, some 2, some 3, some 4, none, some 5, some 6, none, some 7, some 8, some 9, some 10, some 11, none, some 12, none, some 13, some 14, some 15, some 16, some 17, some 18, none, some 19, some 20, some 21, some 22, none, none, some 23, some 24, none, some 25, some 26, none, some 27])), .inl 4, .inl 4, .inl 240, .inl 60, .inl 216, .inl 3, .inl 8, .inl 8, .inl 8, .inl 48, .inl 20, .inl 8, .inl 32, .inl 160, .inl 160, .inl 20, .inl 8, .inl 8, .inl 8, .inl 8, .inl 8, .inl 8, .inl 6, .inl 6, .inl 24, .inl 100, .inl 32]
theorem kg_0_0 : am_KG 0 0 := ⟨rfl, by decide⟩
theorem kg_0_1 : am_KG 0 1 := ⟨rfl, by decide⟩
theorem kg_0_2 : am_KG 0 2 := ⟨rfl, by decide⟩
theorem kg_0_3 : am_KG 0 3 := ⟨rfl, by decide⟩
theorem kg_0_4 : am_KG 0 4 := ⟨rfl, by decide⟩
theorem kg_0_5 : am_KG 0 5 := ⟨rfl, by decide⟩
theorem kg_0_6 : am_KG 0 6 := ⟨rfl, by decide⟩
theorem kg_0_7 : am_KG 0 7 := ⟨rfl, by decide⟩
theorem kg_1_0 : am_KG 1 0 := ⟨rfl, by decide⟩
theorem kg_1_1 : am_KG 1 1 := ⟨rfl, by decide⟩
theorem kg_1_2 : am_KG 1 2 := ⟨rfl, by decide⟩
theorem kg_1_3 : am_KG 1 3 := ⟨rfl, by decide⟩
theorem kg_1_4 : am_KG 1 4 := ⟨rfl, by decide⟩
theorem kg_1_5 : am_KG 1 5 := ⟨rfl, by decide⟩
theorem kg_2_0 : am_KG 2 0 := ⟨rfl, by decide⟩
theorem kg_2_1 : am_KG 2 1 := ⟨rfl, by decide⟩
theorem kg_2_2 : am_KG 2 2 := ⟨rfl, by decide⟩
theorem kg_3_0 : am_KG 3 0 := ⟨rfl, by decide⟩
theorem kg_3_1 : am_KG 3 1 := ⟨rfl, by decide⟩
theorem kg_3_2 : am_KG 3 2 := ⟨rfl, by decide⟩
theorem kg_3_3 : am_KG 3 3 := ⟨rfl, by decide⟩
theorem kg_3_4 : am_KG 3 4 := ⟨rfl, by decide⟩
theorem kg_4_0 : am_KG 4 0 := ⟨rfl, by decide⟩
theorem kg_4_1 : am_KG 4 1 := ⟨rfl, by decide⟩
theorem kg_4_2 : am_KG 4 2 := ⟨rfl, by decide⟩
theorem kg_4_3 : am_KG 4 3 := ⟨rfl, by decide⟩
theorem kg_5_0 : am_KG 5 0 := ⟨rfl, by decide⟩
theorem kg_6_0 : am_KG 6 0 := ⟨rfl, by decide⟩
theorem kg_6_1 : am_KG 6 1 := ⟨rfl, by decide⟩
theorem kg_6_2 : am_KG 6 2 := ⟨rfl, by decide⟩
theorem kg_6_3 : am_KG 6 3 := ⟨rfl, by decide⟩
theorem kg_6_4 : am_KG 6 4 := ⟨rfl, by decide⟩
theorem kg_7_0 : am_KG 7 0 := ⟨rfl, by decide⟩
theorem kg_7_1 : am_KG 7 1 := ⟨rfl, by decide⟩
theorem kg_7_2 : am_KG 7 2 := ⟨rfl, by decide⟩
theorem kg_7_3 : am_KG 7 3 := ⟨rfl, by decide⟩
theorem kg_8_0 : am_KG 8 0 := ⟨rfl, by decide⟩
theorem kg_8_1 : am_KG 8 1 := ⟨rfl, by decide⟩
theorem kg_8_2 : am_KG 8 2 := ⟨rfl, by decide⟩
theorem kg_8_3 : am_KG 8 3 := ⟨rfl, by decide⟩
theorem kg_8_4 : am_KG 8 4 := ⟨rfl, by decide⟩
theorem kg_8_5 : am_KG 8 5 := ⟨rfl, by decide⟩
theorem kg_8_6 : am_KG 8 6 := ⟨rfl, by decide⟩
theorem kg_9_0 : am_KG 9 0 := ⟨rfl, by decide⟩
theorem kg_9_1 : am_KG 9 1 := ⟨rfl, by decide⟩
theorem kg_10_0 : am_KG 10 0 := ⟨rfl, by decide⟩
theorem kg_10_1 : am_KG 10 1 := ⟨rfl, by decide⟩
theorem kg_10_2 : am_KG 10 2 := ⟨rfl, by decide⟩
theorem kg_10_3 : am_KG 10 3 := ⟨rfl, by decide⟩
theorem kg_10_4 : am_KG 10 4 := ⟨rfl, by decide⟩
theorem kg_10_5 : am_KG 10 5 := ⟨rfl, by decide⟩
theorem kg_10_6 : am_KG 10 6 := ⟨rfl, by decide⟩
theorem kg_10_7 : am_KG 10 7 := ⟨rfl, by decide⟩
theorem kg_10_8 : am_KG 10 8 := ⟨rfl, by decide⟩
theorem kg_10_9 : am_KG 10 9 := ⟨rfl, by decide⟩
theorem kg_10_10 : am_KG 10 10 := ⟨rfl, by decide⟩
theorem kg_10_11 : am_KG 10 11 := ⟨rfl, by decide⟩
theorem kg_10_12 : am_KG 10 12 := ⟨rfl, by decide⟩
theorem kg_10_13 : am_KG 10 13 := ⟨rfl, by decide⟩
theorem kg_10_14 : am_KG 10 14 := ⟨rfl, by decide⟩
theorem kg_10_15 : am_KG 10 15 := ⟨rfl, by decide⟩
theorem kg_10_16 : am_KG 10 16 := ⟨rfl, by decide⟩
theorem kg_11_0 : am_KG 11 0 := ⟨rfl, by decide⟩
theorem kg_11_1 : am_KG 11 1 := ⟨rfl, by decide⟩
theorem kg_11_2 : am_KG 11 2 := ⟨rfl, by decide⟩
theorem kg_11_3 : am_KG 11 3 := ⟨rfl, by decide⟩
theorem kg_11_4 : am_KG 11 4 := ⟨rfl, by decide⟩
theorem kg_11_5 : am_KG 11 5 := ⟨rfl, by decide⟩
theorem kg_11_6 : am_KG 11 6 := ⟨rfl, by decide⟩
theorem kg_11_7 : am_KG 11 7 := ⟨rfl, by decide⟩
theorem kg_11_8 : am_KG 11 8 := ⟨rfl, by decide⟩
theorem kg_11_9 : am_KG 11 9 := ⟨rfl, by decide⟩
theorem kg_11_10 : am_KG 11 10 := ⟨rfl, by decide⟩
theorem kg_11_11 : am_KG 11 11 := ⟨rfl, by decide⟩
theorem kg_11_12 : am_KG 11 12 := ⟨rfl, by decide⟩
theorem kg_11_13 : am_KG 11 13 := ⟨rfl, by decide⟩
theorem kg_11_14 : am_KG 11 14 := ⟨rfl, by decide⟩
theorem kg_11_15 : am_KG 11 15 := ⟨rfl, by decide⟩
theorem kg_11_16 : am_KG 11 16 := ⟨rfl, by decide⟩
theorem kg_11_17 : am_KG 11 17 := ⟨rfl, by decide⟩
theorem kg_11_18 : am_KG 11 18 := ⟨rfl, by decide⟩
theorem kg_11_19 : am_KG 11 19 := ⟨rfl, by decide⟩
theorem kg_11_20 : am_KG 11 20 := ⟨rfl, by decide⟩
theorem kg_11_21 : am_KG 11 21 := ⟨rfl, by decide⟩
theorem kg_11_22 : am_KG 11 22 := ⟨rfl, by decide⟩
theorem kg_11_23 : am_KG 11 23 := ⟨rfl, by decide⟩
theorem kg_11_24 : am_KG 11 24 := ⟨rfl, by decide⟩
theorem kg_11_25 : am_KG 11 25 := ⟨rfl, by decide⟩
theorem kg_11_26 : am_KG 11 26 := ⟨rfl, by decide⟩
theorem kg_11_27 : am_KG 11 27 := ⟨rfl, by decide⟩
theorem kg_11_28 : am_KG 11 28 := ⟨rfl, by decide⟩
theorem kg_11_29 : am_KG 11 29 := ⟨rfl, by decide⟩
theorem kg_11_30 : am_KG 11 30 := ⟨rfl, by decide⟩
theorem kg_11_31 : am_KG 11 31 := ⟨rfl, by decide⟩
theorem kg_11_32 : am_KG 11 32 := ⟨rfl, by decide⟩
theorem kg_11_33 : am_KG 11 33 := ⟨rfl, by decide⟩
theorem kg_11_34 : am_KG 11 34 := ⟨rfl, by decide⟩
theorem kg_11_35 : am_KG 11 35 := ⟨rfl, by decide⟩
theorem kp_0_0 : am_KP 0 0 false := ⟨rfl, by decide, rfl, by decide +kernel⟩
theorem kp_0_7 : am_KP 0 7 false := ⟨rfl, by decide, rfl, by decide +kernel⟩
theorem kp_1_0 : am_KP 1 0 false := ⟨rfl, by decide, rfl, by decide +kernel⟩
theorem kp_1_5 : am_KP 1 5 false := ⟨rfl, by decide, rfl, by decide +kernel⟩
theorem kp_2_2 : am_KP 2 2 false := ⟨rfl, by decide, rfl, by decide +kernel⟩
theorem kp_3_2 : am_KP 3 2 false := ⟨rfl, by decide, rfl, by decide +kernel⟩
theorem kp_3_3 : am_KP 3 3 false := ⟨rfl, by decide, rfl, by decide +kernel⟩
theorem kp_3_4 : am_KP 3 4 true := ⟨rfl, by decide, rfl, by decide +kernel⟩
theorem kp_4_0 : am_KP 4 0 true := ⟨rfl, by decide, rfl, by decide +kernel⟩
theorem kp_4_1 : am_KP 4 1 false := ⟨rfl, by decide, rfl, by decide +kernel⟩
theorem kp_4_2 : am_KP 4 2 false := ⟨rfl, by decide, rfl, by decide +kernel⟩
theorem kp_6_0 : am_KP 6 0 false := ⟨rfl, by decide, rfl, by decide +kernel⟩
theorem kp_7_2 : am_KP 7 2 false := ⟨rfl, by decide, rfl, by decide +kernel⟩
theorem kp_7_3 : am_KP 7 3 false := ⟨rfl, by decide, rfl, by decide +kernel⟩
theorem kp_8_0 : am_KP 8 0 false := ⟨rfl, by decide, rfl, by decide +kernel⟩
theorem kp_8_1 : am_KP 8 1 false := ⟨rfl, by decide, rfl, by decide +kernel⟩
theorem kp_8_3 : am_KP 8 3 true := ⟨rfl, by decide, rfl, by decide +kernel⟩
theorem kp_8_6 : am_KP 8 6 false := ⟨rfl, by decide, rfl, by decide +kernel⟩
theorem kp_9_0 : am_KP 9 0 false := ⟨rfl, by decide, rfl, by decide +kernel⟩
theorem kp_10_15 : am_KP 10 15 false := ⟨rfl, by decide, rfl, by decide +kernel⟩
theorem kp_10_16 : am_KP 10 16 true := ⟨rfl, by decide, rfl, by decide +kernel⟩
theorem kp_11_4 : am_KP 11 4 false := ⟨rfl, by decide, rfl, by decide +kernel⟩
theorem kp_11_7 : am_KP 11 7 false := ⟨rfl, by decide, rfl, by decide +kernel⟩
theorem kp_11_13 : am_KP 11 13 false := ⟨rfl, by decide, rfl, by decide +kernel⟩
theorem kp_11_15 : am_KP 11 15 false := ⟨rfl, by decide, rfl, by decide +kernel⟩
theorem kp_11_22 : am_KP 11 22 false := ⟨rfl, by decide, rfl, by decide +kernel⟩
theorem kp_11_27 : am_KP 11 27 false := ⟨rfl, by decide, rfl, by decide +kernel⟩
theorem kp_11_28 : am_KP 11 28 false := ⟨rfl, by decide, rfl, by decide +kernel⟩
theorem kp_11_31 : am_KP 11 31 false := ⟨rfl, by decide, rfl, by decide +kernel⟩
theorem kp_11_34 : am_KP 11 34 false := ⟨rfl, by decide, rfl, by decide +kernel⟩
end
section
/-! what a call needs of the tables of the method that is called -/
theorem ky_X10_textOf : am_Ky yX10_textOf cX10_textOf 2 (some (.object "WrackDeeds$Text")) 1 := ⟨am_word (k := 423) (by decide +kernel) rfl, am_word (k := 78) (by decide +kernel) rfl, by decide +kernel, by decide⟩
theorem kv_X10_textOf : am_KV yX10_textOf 10 := ⟨am_word (k := 422) (by decide +kernel) rfl, am_word (k := 0) (by decide +kernel) rfl, _, _, rfl⟩
theorem ky_X10_within : am_Ky yX10_within cX10_within 2 (some .boolean) 2 := ⟨am_word (k := 419) (by decide +kernel) rfl, am_word (k := 78) (by decide +kernel) rfl, by decide +kernel, by decide⟩
theorem ks_X10_within : am_KS yX10_within := am_word (k := 418) (by decide +kernel) rfl
theorem ky_X10_type : am_Ky yX10_type cX10_type 4 (some .int) 2 := ⟨am_word (k := 416) (by decide +kernel) rfl, am_word (k := 78) (by decide +kernel) rfl, by decide +kernel, by decide⟩
theorem kv_X10_type : am_KV yX10_type 10 := ⟨am_word (k := 414) (by decide +kernel) rfl, am_word (k := 415) (by decide +kernel) rfl, _, _, rfl⟩
theorem ky_X10_wipe : am_Ky yX10_wipe cX10_wipe 4 (some .int) 1 := ⟨am_word (k := 427) (by decide +kernel) rfl, am_word (k := 78) (by decide +kernel) rfl, by decide +kernel, by decide⟩
theorem kv_X10_wipe : am_KV yX10_wipe 10 := ⟨am_word (k := 425) (by decide +kernel) rfl, am_word (k := 426) (by decide +kernel) rfl, _, _, rfl⟩
theorem ky_X10_undo : am_Ky yX10_undo cX10_undo 3 (some .int) 1 := ⟨am_word (k := 431) (by decide +kernel) rfl, am_word (k := 78) (by decide +kernel) rfl, by decide +kernel, by decide⟩
theorem kv_X10_undo : am_KV yX10_undo 10 := ⟨am_word (k := 429) (by decide +kernel) rfl, am_word (k := 430) (by decide +kernel) rfl, _, _, rfl⟩
theorem ky_X0_chainOf : am_Ky yX0_chainOf cX0_chainOf 5 (some .int) 1 := ⟨am_word (k := 475) (by decide +kernel) rfl, am_word (k := 81) (by decide +kernel) rfl, by decide +kernel, by decide⟩
theorem kv_X0_chainOf : am_KV yX0_chainOf 0 := ⟨am_word (k := 474) (by decide +kernel) rfl, am_word (k := 7) (by decide +kernel) rfl, _, _, rfl⟩
theorem ky_X0_bladderOf : am_Ky yX0_bladderOf cX0_bladderOf 3 (some .int) 2 := ⟨am_word (k := 471) (by decide +kernel) rfl, am_word (k := 81) (by decide +kernel) rfl, by decide +kernel, by decide⟩
theorem kv_X0_bladderOf : am_KV yX0_bladderOf 0 := ⟨am_word (k := 469) (by decide +kernel) rfl, am_word (k := 470) (by decide +kernel) rfl, _, _, rfl⟩
theorem ky_X0_onOf : am_Ky yX0_onOf cX0_onOf 4 (some .int) 1 := ⟨am_word (k := 467) (by decide +kernel) rfl, am_word (k := 81) (by decide +kernel) rfl, by decide +kernel, by decide⟩
theorem kv_X0_onOf : am_KV yX0_onOf 0 := ⟨am_word (k := 466) (by decide +kernel) rfl, am_word (k := 6) (by decide +kernel) rfl, _, _, rfl⟩
theorem ky_X0_linkAll : am_Ky yX0_linkAll cX0_linkAll 2 none 0 := ⟨am_word (k := 463) (by decide +kernel) rfl, am_word (k := 81) (by decide +kernel) rfl, by decide +kernel, by decide⟩
theorem kv_X0_linkAll : am_KV yX0_linkAll 0 := ⟨am_word (k := 461) (by decide +kernel) rfl, am_word (k := 462) (by decide +kernel) rfl, _, _, rfl⟩
theorem ky_X0_takesBladder : am_Ky yX0_takesBladder cX0_takesBladder 2 (some .boolean) 1 := ⟨am_word (k := 459) (by decide +kernel) rfl, am_word (k := 81) (by decide +kernel) rfl, by decide +kernel, by decide⟩
theorem kv_X0_takesBladder : am_KV yX0_takesBladder 0 := ⟨am_word (k := 458) (by decide +kernel) rfl, am_word (k := 5) (by decide +kernel) rfl, _, _, rfl⟩
theorem ky_X0_takesFigure : am_Ky yX0_takesFigure cX0_takesFigure 2 (some .boolean) 1 := ⟨am_word (k := 451) (by decide +kernel) rfl, am_word (k := 81) (by decide +kernel) rfl, by decide +kernel, by decide⟩
theorem kv_X0_takesFigure : am_KV yX0_takesFigure 0 := ⟨am_word (k := 450) (by decide +kernel) rfl, am_word (k := 3) (by decide +kernel) rfl, _, _, rfl⟩
theorem ky_X0_takesKind : am_Ky yX0_takesKind cX0_takesKind 3 (some .boolean) 1 := ⟨am_word (k := 455) (by decide +kernel) rfl, am_word (k := 81) (by decide +kernel) rfl, by decide +kernel, by decide⟩
theorem kv_X0_takesKind : am_KV yX0_takesKind 0 := ⟨am_word (k := 454) (by decide +kernel) rfl, am_word (k := 4) (by decide +kernel) rfl, _, _, rfl⟩
theorem ky_X0_takes : am_Ky yX0_takes cX0_takes 2 (some .boolean) 1 := ⟨am_word (k := 447) (by decide +kernel) rfl, am_word (k := 81) (by decide +kernel) rfl, by decide +kernel, by decide⟩
theorem kv_X0_takes : am_KV yX0_takes 0 := ⟨am_word (k := 446) (by decide +kernel) rfl, am_word (k := 2) (by decide +kernel) rfl, _, _, rfl⟩
theorem ky_X0_parse : am_Ky yX0_parse cX0_parse 4 (some .int) 1 := ⟨am_word (k := 443) (by decide +kernel) rfl, am_word (k := 81) (by decide +kernel) rfl, by decide +kernel, by decide⟩
theorem kv_X0_parse : am_KV yX0_parse 0 := ⟨am_word (k := 441) (by decide +kernel) rfl, am_word (k := 442) (by decide +kernel) rfl, _, _, rfl⟩
theorem ky_X3_begin : am_Ky yX3_begin cX3_begin 3 none 2 := ⟨am_word (k := 491) (by decide +kernel) rfl, am_word (k := 84) (by decide +kernel) rfl, by decide +kernel, by decide⟩
theorem kv_X3_begin : am_KV yX3_begin 3 := ⟨am_word (k := 489) (by decide +kernel) rfl, am_word (k := 490) (by decide +kernel) rfl, _, _, rfl⟩
theorem ky_X10_stateAt : am_Ky yX10_stateAt cX10_stateAt 3 (some .int) 3 := ⟨am_word (k := 502) (by decide +kernel) rfl, am_word (k := 78) (by decide +kernel) rfl, by decide +kernel, by decide⟩
theorem ks_X10_stateAt : am_KS yX10_stateAt := am_word (k := 501) (by decide +kernel) rfl
theorem ky_X3_suffer : am_Ky yX3_suffer cX3_suffer 3 none 2 := ⟨am_word (k := 499) (by decide +kernel) rfl, am_word (k := 84) (by decide +kernel) rfl, by decide +kernel, by decide⟩
theorem kv_X3_suffer : am_KV yX3_suffer 3 := ⟨am_word (k := 498) (by decide +kernel) rfl, am_word (k := 8) (by decide +kernel) rfl, _, _, rfl⟩
theorem ky_X3_live : am_Ky yX3_live cX3_live 7 none 4 := ⟨am_word (k := 495) (by decide +kernel) rfl, am_word (k := 84) (by decide +kernel) rfl, by decide +kernel, by decide⟩
theorem kv_X3_live : am_KV yX3_live 3 := ⟨am_word (k := 493) (by decide +kernel) rfl, am_word (k := 494) (by decide +kernel) rfl, _, _, rfl⟩
theorem ky_X5_hangAll : am_Ky yX5_hangAll cX5_hangAll 5 none 3 := ⟨am_word (k := 487) (by decide +kernel) rfl, am_word (k := 83) (by decide +kernel) rfl, by decide +kernel, by decide⟩
theorem kv_X5_hangAll : am_KV yX5_hangAll 5 := ⟨am_word (k := 485) (by decide +kernel) rfl, am_word (k := 486) (by decide +kernel) rfl, _, _, rfl⟩
theorem ky_X7_firstBeyond : am_Ky yX7_firstBeyond cX7_firstBeyond 4 (some .int) 2 := ⟨am_word (k := 479) (by decide +kernel) rfl, am_word (k := 79) (by decide +kernel) rfl, by decide +kernel, by decide⟩
theorem kv_X7_firstBeyond : am_KV yX7_firstBeyond 7 := ⟨am_word (k := 477) (by decide +kernel) rfl, am_word (k := 478) (by decide +kernel) rfl, _, _, rfl⟩
theorem ky_X7_sound : am_Ky yX7_sound cX7_sound 1 (some .int) 0 := ⟨am_word (k := 483) (by decide +kernel) rfl, am_word (k := 79) (by decide +kernel) rfl, by decide +kernel, by decide⟩
theorem kv_X7_sound : am_KV yX7_sound 7 := ⟨am_word (k := 481) (by decide +kernel) rfl, am_word (k := 482) (by decide +kernel) rfl, _, _, rfl⟩
theorem ky_X5_nextRead : am_Ky yX5_nextRead cX5_nextRead 7 (some .int) 3 := ⟨am_word (k := 517) (by decide +kernel) rfl, am_word (k := 83) (by decide +kernel) rfl, by decide +kernel, by decide⟩
theorem kv_X5_nextRead : am_KV yX5_nextRead 5 := ⟨am_word (k := 515) (by decide +kernel) rfl, am_word (k := 516) (by decide +kernel) rfl, _, _, rfl⟩
theorem ky_X5_firstRead : am_Ky yX5_firstRead cX5_firstRead 2 (some .int) 1 := ⟨am_word (k := 513) (by decide +kernel) rfl, am_word (k := 83) (by decide +kernel) rfl, by decide +kernel, by decide⟩
theorem kv_X5_firstRead : am_KV yX5_firstRead 5 := ⟨am_word (k := 511) (by decide +kernel) rfl, am_word (k := 512) (by decide +kernel) rfl, _, _, rfl⟩
theorem ky_X9_go : am_Ky yX9_go cX9_go 9 none 3 := ⟨am_word (k := 506) (by decide +kernel) rfl, am_word (k := 85) (by decide +kernel) rfl, by decide +kernel, by decide⟩
theorem kv_X9_go : am_KV yX9_go 9 := ⟨am_word (k := 504) (by decide +kernel) rfl, am_word (k := 505) (by decide +kernel) rfl, _, _, rfl⟩
theorem ky_X10_freshen : am_Ky yX10_freshen cX10_freshen 3 none 0 := ⟨am_word (k := 439) (by decide +kernel) rfl, am_word (k := 78) (by decide +kernel) rfl, by decide +kernel, by decide⟩
theorem kv_X10_freshen : am_KV yX10_freshen 10 := ⟨am_word (k := 438) (by decide +kernel) rfl, am_word (k := 1) (by decide +kernel) rfl, _, _, rfl⟩
theorem ky_X10_fault : am_Ky yX10_fault cX10_fault 2 (some .int) 1 := ⟨am_word (k := 435) (by decide +kernel) rfl, am_word (k := 78) (by decide +kernel) rfl, by decide +kernel, by decide⟩
theorem kv_X10_fault : am_KV yX10_fault 10 := ⟨am_word (k := 433) (by decide +kernel) rfl, am_word (k := 434) (by decide +kernel) rfl, _, _, rfl⟩
theorem ky_X10_isStrand : am_Ky yX10_isStrand cX10_isStrand 2 (some .boolean) 1 := ⟨am_word (k := 529) (by decide +kernel) rfl, am_word (k := 78) (by decide +kernel) rfl, by decide +kernel, by decide⟩
theorem kv_X10_isStrand : am_KV yX10_isStrand 10 := ⟨am_word (k := 528) (by decide +kernel) rfl, am_word (k := 9) (by decide +kernel) rfl, _, _, rfl⟩
theorem ky_X10_strand : am_Ky yX10_strand cX10_strand 3 (some .int) 2 := ⟨am_word (k := 525) (by decide +kernel) rfl, am_word (k := 78) (by decide +kernel) rfl, by decide +kernel, by decide⟩
theorem kv_X10_strand : am_KV yX10_strand 10 := ⟨am_word (k := 523) (by decide +kernel) rfl, am_word (k := 524) (by decide +kernel) rfl, _, _, rfl⟩
theorem ky_X10_tide : am_Ky yX10_tide cX10_tide 2 (some .int) 1 := ⟨am_word (k := 534) (by decide +kernel) rfl, am_word (k := 78) (by decide +kernel) rfl, by decide +kernel, by decide⟩
theorem kv_X10_tide : am_KV yX10_tide 10 := ⟨am_word (k := 532) (by decide +kernel) rfl, am_word (k := 533) (by decide +kernel) rfl, _, _, rfl⟩
theorem ky_X10_route : am_Ky yX10_route cX10_route 2 (some .int) 1 := ⟨am_word (k := 538) (by decide +kernel) rfl, am_word (k := 78) (by decide +kernel) rfl, by decide +kernel, by decide⟩
theorem kv_X10_route : am_KV yX10_route 10 := ⟨am_word (k := 536) (by decide +kernel) rfl, am_word (k := 537) (by decide +kernel) rfl, _, _, rfl⟩
theorem ky_X10_mayBeEvent : am_Ky yX10_mayBeEvent cX10_mayBeEvent 4 (some .boolean) 4 := ⟨am_word (k := 545) (by decide +kernel) rfl, am_word (k := 78) (by decide +kernel) rfl, by decide +kernel, by decide⟩
theorem ks_X10_mayBeEvent : am_KS yX10_mayBeEvent := am_word (k := 544) (by decide +kernel) rfl
theorem ky_X1_tell : am_Ky yX1_tell cX1_tell 5 none 4 := ⟨am_word (k := 549) (by decide +kernel) rfl, am_word (k := 82) (by decide +kernel) rfl, by decide +kernel, by decide⟩
theorem kv_X1_tell : am_KV yX1_tell 1 := ⟨am_word (k := 547) (by decide +kernel) rfl, am_word (k := 548) (by decide +kernel) rfl, _, _, rfl⟩
theorem ky_X10_event : am_Ky yX10_event cX10_event 5 (some .int) 4 := ⟨am_word (k := 542) (by decide +kernel) rfl, am_word (k := 78) (by decide +kernel) rfl, by decide +kernel, by decide⟩
theorem kv_X10_event : am_KV yX10_event 10 := ⟨am_word (k := 540) (by decide +kernel) rfl, am_word (k := 541) (by decide +kernel) rfl, _, _, rfl⟩
theorem ky_X10_back : am_Ky yX10_back cX10_back 1 (some .int) 0 := ⟨am_word (k := 553) (by decide +kernel) rfl, am_word (k := 78) (by decide +kernel) rfl, by decide +kernel, by decide⟩
theorem kv_X10_back : am_KV yX10_back 10 := ⟨am_word (k := 551) (by decide +kernel) rfl, am_word (k := 552) (by decide +kernel) rfl, _, _, rfl⟩
theorem ky_X10_eventFrom : am_Ky yX10_eventFrom cX10_eventFrom 4 (some .boolean) 2 := ⟨am_word (k := 565) (by decide +kernel) rfl, am_word (k := 78) (by decide +kernel) rfl, by decide +kernel, by decide⟩
theorem kv_X10_eventFrom : am_KV yX10_eventFrom 10 := ⟨am_word (k := 564) (by decide +kernel) rfl, am_word (k := 11) (by decide +kernel) rfl, _, _, rfl⟩
theorem ky_X10_finding : am_Ky yX10_finding cX10_finding 2 (some .int) 1 := ⟨am_word (k := 561) (by decide +kernel) rfl, am_word (k := 78) (by decide +kernel) rfl, by decide +kernel, by decide⟩
theorem kv_X10_finding : am_KV yX10_finding 10 := ⟨am_word (k := 560) (by decide +kernel) rfl, am_word (k := 10) (by decide +kernel) rfl, _, _, rfl⟩
theorem ky_X10_read : am_Ky yX10_read cX10_read 5 (some .int) 1 := ⟨am_word (k := 557) (by decide +kernel) rfl, am_word (k := 78) (by decide +kernel) rfl, by decide +kernel, by decide⟩
theorem kv_X10_read : am_KV yX10_read 10 := ⟨am_word (k := 555) (by decide +kernel) rfl, am_word (k := 556) (by decide +kernel) rfl, _, _, rfl⟩
theorem ky_X10_state : am_Ky yX10_state cX10_state 5 (some .int) 3 := ⟨am_word (k := 570) (by decide +kernel) rfl, am_word (k := 78) (by decide +kernel) rfl, by decide +kernel, by decide⟩
theorem kv_X10_state : am_KV yX10_state 10 := ⟨am_word (k := 568) (by decide +kernel) rfl, am_word (k := 569) (by decide +kernel) rfl, _, _, rfl⟩
theorem ky_X1_pops : am_Ky yX1_pops cX1_pops 5 (some .boolean) 3 := ⟨am_word (k := 582) (by decide +kernel) rfl, am_word (k := 82) (by decide +kernel) rfl, by decide +kernel, by decide⟩
theorem kv_X1_pops : am_KV yX1_pops 1 := ⟨am_word (k := 580) (by decide +kernel) rfl, am_word (k := 581) (by decide +kernel) rfl, _, _, rfl⟩
theorem ky_X10_bladderIn : am_Ky yX10_bladderIn cX10_bladderIn 4 (some .int) 3 := ⟨am_word (k := 578) (by decide +kernel) rfl, am_word (k := 78) (by decide +kernel) rfl, by decide +kernel, by decide⟩
theorem kv_X10_bladderIn : am_KV yX10_bladderIn 10 := ⟨am_word (k := 577) (by decide +kernel) rfl, am_word (k := 12) (by decide +kernel) rfl, _, _, rfl⟩
theorem ky_X10_says : am_Ky yX10_says cX10_says 4 (some .int) 3 := ⟨am_word (k := 574) (by decide +kernel) rfl, am_word (k := 78) (by decide +kernel) rfl, by decide +kernel, by decide⟩
theorem kv_X10_says : am_KV yX10_says 10 := ⟨am_word (k := 572) (by decide +kernel) rfl, am_word (k := 573) (by decide +kernel) rfl, _, _, rfl⟩
theorem ky_X3_legibleHours : am_Ky yX3_legibleHours cX3_legibleHours 3 (some .int) 0 := ⟨am_word (k := 590) (by decide +kernel) rfl, am_word (k := 84) (by decide +kernel) rfl, by decide +kernel, by decide⟩
theorem kv_X3_legibleHours : am_KV yX3_legibleHours 3 := ⟨am_word (k := 588) (by decide +kernel) rfl, am_word (k := 589) (by decide +kernel) rfl, _, _, rfl⟩
theorem ky_X10_deed : am_Ky yX10_deed cX10_deed 3 (some .int) 2 := ⟨am_word (k := 586) (by decide +kernel) rfl, am_word (k := 78) (by decide +kernel) rfl, by decide +kernel, by decide⟩
theorem kv_X10_deed : am_KV yX10_deed 10 := ⟨am_word (k := 584) (by decide +kernel) rfl, am_word (k := 585) (by decide +kernel) rfl, _, _, rfl⟩
theorem ky_X1_herons : am_Ky yX1_herons cX1_herons 5 (some .int) 2 := ⟨am_word (k := 602) (by decide +kernel) rfl, am_word (k := 82) (by decide +kernel) rfl, by decide +kernel, by decide⟩
theorem kv_X1_herons : am_KV yX1_herons 1 := ⟨am_word (k := 600) (by decide +kernel) rfl, am_word (k := 601) (by decide +kernel) rfl, _, _, rfl⟩
theorem ky_X10_voidBits : am_Ky yX10_voidBits cX10_voidBits 5 (some .int) 2 := ⟨am_word (k := 598) (by decide +kernel) rfl, am_word (k := 78) (by decide +kernel) rfl, by decide +kernel, by decide⟩
theorem kv_X10_voidBits : am_KV yX10_voidBits 10 := ⟨am_word (k := 597) (by decide +kernel) rfl, am_word (k := 13) (by decide +kernel) rfl, _, _, rfl⟩
theorem ky_X10_voids : am_Ky yX10_voids cX10_voids 2 (some .int) 1 := ⟨am_word (k := 594) (by decide +kernel) rfl, am_word (k := 78) (by decide +kernel) rfl, by decide +kernel, by decide⟩
theorem kv_X10_voids : am_KV yX10_voids 10 := ⟨am_word (k := 592) (by decide +kernel) rfl, am_word (k := 593) (by decide +kernel) rfl, _, _, rfl⟩
theorem ky_X0_inTwos : am_Ky yX0_inTwos cX0_inTwos 3 (some .boolean) 1 := ⟨am_word (k := 610) (by decide +kernel) rfl, am_word (k := 81) (by decide +kernel) rfl, by decide +kernel, by decide⟩
theorem kv_X0_inTwos : am_KV yX0_inTwos 0 := ⟨am_word (k := 608) (by decide +kernel) rfl, am_word (k := 609) (by decide +kernel) rfl, _, _, rfl⟩
theorem ky_X10_forged : am_Ky yX10_forged cX10_forged 3 (some .int) 0 := ⟨am_word (k := 606) (by decide +kernel) rfl, am_word (k := 78) (by decide +kernel) rfl, by decide +kernel, by decide⟩
theorem kv_X10_forged : am_KV yX10_forged 10 := ⟨am_word (k := 604) (by decide +kernel) rfl, am_word (k := 605) (by decide +kernel) rfl, _, _, rfl⟩
theorem ky_X0_runFrom : am_Ky yX0_runFrom cX0_runFrom 6 (some .int) 4 := ⟨am_word (k := 622) (by decide +kernel) rfl, am_word (k := 81) (by decide +kernel) rfl, by decide +kernel, by decide⟩
theorem kv_X0_runFrom : am_KV yX0_runFrom 0 := ⟨am_word (k := 621) (by decide +kernel) rfl, am_word (k := 14) (by decide +kernel) rfl, _, _, rfl⟩
theorem ky_X0_commonRun : am_Ky yX0_commonRun cX0_commonRun 6 (some .int) 2 := ⟨am_word (k := 618) (by decide +kernel) rfl, am_word (k := 81) (by decide +kernel) rfl, by decide +kernel, by decide⟩
theorem kv_X0_commonRun : am_KV yX0_commonRun 0 := ⟨am_word (k := 616) (by decide +kernel) rfl, am_word (k := 617) (by decide +kernel) rfl, _, _, rfl⟩
theorem ky_X10_tangled : am_Ky yX10_tangled cX10_tangled 7 (some .int) 1 := ⟨am_word (k := 614) (by decide +kernel) rfl, am_word (k := 78) (by decide +kernel) rfl, by decide +kernel, by decide⟩
theorem kv_X10_tangled : am_KV yX10_tangled 10 := ⟨am_word (k := 612) (by decide +kernel) rfl, am_word (k := 613) (by decide +kernel) rfl, _, _, rfl⟩
theorem ky_X10_reads : am_Ky yX10_reads cX10_reads 2 (some .int) 1 := ⟨am_word (k := 630) (by decide +kernel) rfl, am_word (k := 78) (by decide +kernel) rfl, by decide +kernel, by decide⟩
theorem kv_X10_reads : am_KV yX10_reads 10 := ⟨am_word (k := 628) (by decide +kernel) rfl, am_word (k := 629) (by decide +kernel) rfl, _, _, rfl⟩
theorem ky_X8_keepIfBetter : am_Ky yX8_keepIfBetter cX8_keepIfBetter 3 none 2 := ⟨am_word (k := 650) (by decide +kernel) rfl, am_word (k := 86) (by decide +kernel) rfl, by decide +kernel, by decide⟩
theorem kv_X8_keepIfBetter : am_KV yX8_keepIfBetter 8 := ⟨am_word (k := 649) (by decide +kernel) rfl, am_word (k := 15) (by decide +kernel) rfl, _, _, rfl⟩
theorem ky_X8_mayGetBetter : am_Ky yX8_mayGetBetter cX8_mayGetBetter 4 (some .boolean) 2 := ⟨am_word (k := 657) (by decide +kernel) rfl, am_word (k := 86) (by decide +kernel) rfl, by decide +kernel, by decide⟩
theorem kv_X8_mayGetBetter : am_KV yX8_mayGetBetter 8 := ⟨am_word (k := 656) (by decide +kernel) rfl, am_word (k := 16) (by decide +kernel) rfl, _, _, rfl⟩
theorem ky_X8_visit : am_Ky yX8_visit cX8_visit 10 none 6 := ⟨am_word (k := 646) (by decide +kernel) rfl, am_word (k := 86) (by decide +kernel) rfl, by decide +kernel, by decide⟩
theorem ks_X8_visit : am_KS yX8_visit := am_word (k := 645) (by decide +kernel) rfl
theorem ky_J7_fill_53178 : am_Ky yJ7_fill_53178 cJ7_fill_53178 4 none 2 := ⟨am_word (k := 642) (by decide +kernel) rfl, am_word (k := 91) (by decide +kernel) rfl, by decide +kernel, by decide⟩
theorem ks_J7_fill_53178 : am_KS yJ7_fill_53178 := am_word (k := 641) (by decide +kernel) rfl
theorem ky_X8_look : am_Ky yX8_look cX8_look 4 none 2 := ⟨am_word (k := 638) (by decide +kernel) rfl, am_word (k := 86) (by decide +kernel) rfl, by decide +kernel, by decide⟩
theorem kv_X8_look : am_KV yX8_look 8 := ⟨am_word (k := 636) (by decide +kernel) rfl, am_word (k := 637) (by decide +kernel) rfl, _, _, rfl⟩
theorem ky_X10_tour : am_Ky yX10_tour cX10_tour 2 (some .int) 1 := ⟨am_word (k := 634) (by decide +kernel) rfl, am_word (k := 78) (by decide +kernel) rfl, by decide +kernel, by decide⟩
theorem kv_X10_tour : am_KV yX10_tour 10 := ⟨am_word (k := 632) (by decide +kernel) rfl, am_word (k := 633) (by decide +kernel) rfl, _, _, rfl⟩
theorem ky_X10_legibleHoursAt : am_Ky yX10_legibleHoursAt cX10_legibleHoursAt 5 (some .int) 2 := ⟨am_word (k := 666) (by decide +kernel) rfl, am_word (k := 78) (by decide +kernel) rfl, by decide +kernel, by decide⟩
theorem kv_X10_legibleHoursAt : am_KV yX10_legibleHoursAt 10 := ⟨am_word (k := 665) (by decide +kernel) rfl, am_word (k := 17) (by decide +kernel) rfl, _, _, rfl⟩
theorem ky_X10_hang : am_Ky yX10_hang cX10_hang 7 (some .int) 2 := ⟨am_word (k := 662) (by decide +kernel) rfl, am_word (k := 78) (by decide +kernel) rfl, by decide +kernel, by decide⟩
theorem kv_X10_hang : am_KV yX10_hang 10 := ⟨am_word (k := 660) (by decide +kernel) rfl, am_word (k := 661) (by decide +kernel) rfl, _, _, rfl⟩
theorem ky_X10_bitAt : am_Ky yX10_bitAt cX10_bitAt 4 (some .int) 2 := ⟨am_word (k := 680) (by decide +kernel) rfl, am_word (k := 78) (by decide +kernel) rfl, by decide +kernel, by decide⟩
theorem ks_X10_bitAt : am_KS yX10_bitAt := am_word (k := 679) (by decide +kernel) rfl
theorem ky_J6_bitCount_0f7a4 : am_Ky yJ6_bitCount_0f7a4 cJ6_bitCount_0f7a4 1 (some .int) 1 := ⟨am_word (k := 674) (by decide +kernel) rfl, am_word (k := 93) (by decide +kernel) rfl, by decide +kernel, by decide⟩
theorem ks_J6_bitCount_0f7a4 : am_KS yJ6_bitCount_0f7a4 := am_word (k := 673) (by decide +kernel) rfl
theorem ky_X10_save : am_Ky yX10_save cX10_save 5 (some .int) 2 := ⟨am_word (k := 671) (by decide +kernel) rfl, am_word (k := 78) (by decide +kernel) rfl, by decide +kernel, by decide⟩
theorem kv_X10_save : am_KV yX10_save 10 := ⟨am_word (k := 669) (by decide +kernel) rfl, am_word (k := 670) (by decide +kernel) rfl, _, _, rfl⟩
theorem ky_X2_begin : am_Ky yX2_begin cX2_begin 2 none 1 := ⟨am_word (k := 688) (by decide +kernel) rfl, am_word (k := 88) (by decide +kernel) rfl, by decide +kernel, by decide⟩
theorem kv_X2_begin : am_KV yX2_begin 2 := ⟨am_word (k := 686) (by decide +kernel) rfl, am_word (k := 687) (by decide +kernel) rfl, _, _, rfl⟩
theorem ky_X2_leastBut : am_Ky yX2_leastBut cX2_leastBut 4 (some .int) 2 := ⟨am_word (k := 713) (by decide +kernel) rfl, am_word (k := 88) (by decide +kernel) rfl, by decide +kernel, by decide⟩
theorem kv_X2_leastBut : am_KV yX2_leastBut 2 := ⟨am_word (k := 712) (by decide +kernel) rfl, am_word (k := 20) (by decide +kernel) rfl, _, _, rfl⟩
theorem ky_X2_leastAt : am_Ky yX2_leastAt cX2_leastAt 4 (some .int) 1 := ⟨am_word (k := 709) (by decide +kernel) rfl, am_word (k := 88) (by decide +kernel) rfl, by decide +kernel, by decide⟩
theorem kv_X2_leastAt : am_KV yX2_leastAt 2 := ⟨am_word (k := 707) (by decide +kernel) rfl, am_word (k := 708) (by decide +kernel) rfl, _, _, rfl⟩
theorem ky_X2_sumBut : am_Ky yX2_sumBut cX2_sumBut 5 (some .int) 2 := ⟨am_word (k := 701) (by decide +kernel) rfl, am_word (k := 88) (by decide +kernel) rfl, by decide +kernel, by decide⟩
theorem kv_X2_sumBut : am_KV yX2_sumBut 2 := ⟨am_word (k := 700) (by decide +kernel) rfl, am_word (k := 19) (by decide +kernel) rfl, _, _, rfl⟩
theorem ky_X2_waysBehind : am_Ky yX2_waysBehind cX2_waysBehind 3 (some .int) 2 := ⟨am_word (k := 697) (by decide +kernel) rfl, am_word (k := 88) (by decide +kernel) rfl, by decide +kernel, by decide⟩
theorem kv_X2_waysBehind : am_KV yX2_waysBehind 2 := ⟨am_word (k := 696) (by decide +kernel) rfl, am_word (k := 18) (by decide +kernel) rfl, _, _, rfl⟩
theorem ky_X2_reckon : am_Ky yX2_reckon cX2_reckon 4 none 0 := ⟨am_word (k := 693) (by decide +kernel) rfl, am_word (k := 88) (by decide +kernel) rfl, by decide +kernel, by decide⟩
theorem kv_X2_reckon : am_KV yX2_reckon 2 := ⟨am_word (k := 691) (by decide +kernel) rfl, am_word (k := 692) (by decide +kernel) rfl, _, _, rfl⟩
theorem ky_X2_ways : am_Ky yX2_ways cX2_ways 1 (some .int) 0 := ⟨am_word (k := 705) (by decide +kernel) rfl, am_word (k := 88) (by decide +kernel) rfl, by decide +kernel, by decide⟩
theorem kv_X2_ways : am_KV yX2_ways 2 := ⟨am_word (k := 703) (by decide +kernel) rfl, am_word (k := 704) (by decide +kernel) rfl, _, _, rfl⟩
theorem ky_X10_fill : am_Ky yX10_fill cX10_fill 6 (some .int) 3 := ⟨am_word (k := 684) (by decide +kernel) rfl, am_word (k := 78) (by decide +kernel) rfl, by decide +kernel, by decide⟩
theorem kv_X10_fill : am_KV yX10_fill 10 := ⟨am_word (k := 682) (by decide +kernel) rfl, am_word (k := 683) (by decide +kernel) rfl, _, _, rfl⟩
theorem ky_X6_tell : am_Ky yX6_tell cX6_tell 4 none 3 := ⟨am_word (k := 721) (by decide +kernel) rfl, am_word (k := 87) (by decide +kernel) rfl, by decide +kernel, by decide⟩
theorem kv_X6_tell : am_KV yX6_tell 6 := ⟨am_word (k := 719) (by decide +kernel) rfl, am_word (k := 720) (by decide +kernel) rfl, _, _, rfl⟩
theorem ky_X10_seen : am_Ky yX10_seen cX10_seen 4 (some .int) 3 := ⟨am_word (k := 717) (by decide +kernel) rfl, am_word (k := 78) (by decide +kernel) rfl, by decide +kernel, by decide⟩
theorem kv_X10_seen : am_KV yX10_seen 10 := ⟨am_word (k := 715) (by decide +kernel) rfl, am_word (k := 716) (by decide +kernel) rfl, _, _, rfl⟩
theorem ky_X10_forget : am_Ky yX10_forget cX10_forget 2 (some .int) 0 := ⟨am_word (k := 725) (by decide +kernel) rfl, am_word (k := 78) (by decide +kernel) rfl, by decide +kernel, by decide⟩
theorem kv_X10_forget : am_KV yX10_forget 10 := ⟨am_word (k := 723) (by decide +kernel) rfl, am_word (k := 724) (by decide +kernel) rfl, _, _, rfl⟩
theorem ky_X10_comesOut : am_Ky yX10_comesOut cX10_comesOut 5 (some .boolean) 1 := ⟨am_word (k := 739) (by decide +kernel) rfl, am_word (k := 78) (by decide +kernel) rfl, by decide +kernel, by decide⟩
theorem kv_X10_comesOut : am_KV yX10_comesOut 10 := ⟨am_word (k := 738) (by decide +kernel) rfl, am_word (k := 22) (by decide +kernel) rfl, _, _, rfl⟩
theorem ky_X10_guessHanging : am_Ky yX10_guessHanging cX10_guessHanging 6 none 4 := ⟨am_word (k := 733) (by decide +kernel) rfl, am_word (k := 78) (by decide +kernel) rfl, by decide +kernel, by decide⟩
theorem kv_X10_guessHanging : am_KV yX10_guessHanging 10 := ⟨am_word (k := 732) (by decide +kernel) rfl, am_word (k := 21) (by decide +kernel) rfl, _, _, rfl⟩
theorem ky_X10_never : am_Ky yX10_never cX10_never 4 (some .int) 0 := ⟨am_word (k := 729) (by decide +kernel) rfl, am_word (k := 78) (by decide +kernel) rfl, by decide +kernel, by decide⟩
theorem kv_X10_never : am_KV yX10_never 10 := ⟨am_word (k := 727) (by decide +kernel) rfl, am_word (k := 728) (by decide +kernel) rfl, _, _, rfl⟩
theorem ky_X10_hungBits : am_Ky yX10_hungBits cX10_hungBits 4 (some .int) 1 := ⟨am_word (k := 747) (by decide +kernel) rfl, am_word (k := 78) (by decide +kernel) rfl, by decide +kernel, by decide⟩
theorem kv_X10_hungBits : am_KV yX10_hungBits 10 := ⟨am_word (k := 746) (by decide +kernel) rfl, am_word (k := 23) (by decide +kernel) rfl, _, _, rfl⟩
theorem ky_X10_sortBits : am_Ky yX10_sortBits cX10_sortBits 4 (some .int) 1 := ⟨am_word (k := 751) (by decide +kernel) rfl, am_word (k := 78) (by decide +kernel) rfl, by decide +kernel, by decide⟩
theorem kv_X10_sortBits : am_KV yX10_sortBits 10 := ⟨am_word (k := 750) (by decide +kernel) rfl, am_word (k := 24) (by decide +kernel) rfl, _, _, rfl⟩
theorem ky_X10_was : am_Ky yX10_was cX10_was 3 (some .int) 2 := ⟨am_word (k := 743) (by decide +kernel) rfl, am_word (k := 78) (by decide +kernel) rfl, by decide +kernel, by decide⟩
theorem kv_X10_was : am_KV yX10_was 10 := ⟨am_word (k := 741) (by decide +kernel) rfl, am_word (k := 742) (by decide +kernel) rfl, _, _, rfl⟩
theorem ky_X6_addAlike : am_Ky yX6_addAlike cX6_addAlike 3 none 1 := ⟨am_word (k := 760) (by decide +kernel) rfl, am_word (k := 87) (by decide +kernel) rfl, by decide +kernel, by decide⟩
theorem kv_X6_addAlike : am_KV yX6_addAlike 6 := ⟨am_word (k := 758) (by decide +kernel) rfl, am_word (k := 759) (by decide +kernel) rfl, _, _, rfl⟩
theorem ky_X6_mostAlike : am_Ky yX6_mostAlike cX6_mostAlike 4 (some .int) 1 := ⟨am_word (k := 764) (by decide +kernel) rfl, am_word (k := 87) (by decide +kernel) rfl, by decide +kernel, by decide⟩
theorem kv_X6_mostAlike : am_KV yX6_mostAlike 6 := ⟨am_word (k := 762) (by decide +kernel) rfl, am_word (k := 763) (by decide +kernel) rfl, _, _, rfl⟩
theorem ky_X10_ask : am_Ky yX10_ask cX10_ask 5 (some .int) 1 := ⟨am_word (k := 755) (by decide +kernel) rfl, am_word (k := 78) (by decide +kernel) rfl, by decide +kernel, by decide⟩
theorem kv_X10_ask : am_KV yX10_ask 10 := ⟨am_word (k := 753) (by decide +kernel) rfl, am_word (k := 754) (by decide +kernel) rfl, _, _, rfl⟩
theorem ky_X10_risk : am_Ky yX10_risk cX10_risk 13 (some .long) 4 := ⟨am_word (k := 769) (by decide +kernel) rfl, am_word (k := 78) (by decide +kernel) rfl, by decide +kernel, by decide⟩
theorem kv_X10_risk : am_KV yX10_risk 10 := ⟨am_word (k := 767) (by decide +kernel) rfl, am_word (k := 768) (by decide +kernel) rfl, _, _, rfl⟩
theorem ky_X1_lot : am_Ky yX1_lot cX1_lot 2 (some .int) 1 := ⟨am_word (k := 784) (by decide +kernel) rfl, am_word (k := 82) (by decide +kernel) rfl, by decide +kernel, by decide⟩
theorem kv_X1_lot : am_KV yX1_lot 1 := ⟨am_word (k := 783) (by decide +kernel) rfl, am_word (k := 25) (by decide +kernel) rfl, _, _, rfl⟩
theorem ky_X1_draw : am_Ky yX1_draw cX1_draw 8 none 3 := ⟨am_word (k := 780) (by decide +kernel) rfl, am_word (k := 82) (by decide +kernel) rfl, by decide +kernel, by decide⟩
theorem kv_X1_draw : am_KV yX1_draw 1 := ⟨am_word (k := 778) (by decide +kernel) rfl, am_word (k := 779) (by decide +kernel) rfl, _, _, rfl⟩
theorem ky_X10_century : am_Ky yX10_century cX10_century 4 (some .int) 3 := ⟨am_word (k := 776) (by decide +kernel) rfl, am_word (k := 78) (by decide +kernel) rfl, by decide +kernel, by decide⟩
theorem kv_X10_century : am_KV yX10_century 10 := ⟨am_word (k := 774) (by decide +kernel) rfl, am_word (k := 775) (by decide +kernel) rfl, _, _, rfl⟩
theorem ky_X4_make : am_Ky yX4_make cX4_make 3 none 2 := ⟨am_word (k := 794) (by decide +kernel) rfl, am_word (k := 89) (by decide +kernel) rfl, by decide +kernel, by decide⟩
theorem kv_X4_make : am_KV yX4_make 4 := ⟨am_word (k := 792) (by decide +kernel) rfl, am_word (k := 793) (by decide +kernel) rfl, _, _, rfl⟩
theorem ky_X10_sheet : am_Ky yX10_sheet cX10_sheet 4 (some .int) 3 := ⟨am_word (k := 790) (by decide +kernel) rfl, am_word (k := 78) (by decide +kernel) rfl, by decide +kernel, by decide⟩
theorem kv_X10_sheet : am_KV yX10_sheet 10 := ⟨am_word (k := 788) (by decide +kernel) rfl, am_word (k := 789) (by decide +kernel) rfl, _, _, rfl⟩
theorem ky_X10_lose : am_Ky yX10_lose cX10_lose 3 (some .int) 1 := ⟨am_word (k := 801) (by decide +kernel) rfl, am_word (k := 78) (by decide +kernel) rfl, by decide +kernel, by decide⟩
theorem kv_X10_lose : am_KV yX10_lose 10 := ⟨am_word (k := 799) (by decide +kernel) rfl, am_word (k := 800) (by decide +kernel) rfl, _, _, rfl⟩
theorem ky_X10_itemFinding : am_Ky yX10_itemFinding cX10_itemFinding 3 (some .int) 3 := ⟨am_word (k := 808) (by decide +kernel) rfl, am_word (k := 78) (by decide +kernel) rfl, by decide +kernel, by decide⟩
theorem ks_X10_itemFinding : am_KS yX10_itemFinding := am_word (k := 807) (by decide +kernel) rfl
theorem ky_X4_put : am_Ky yX4_put cX4_put 3 none 2 := ⟨am_word (k := 812) (by decide +kernel) rfl, am_word (k := 89) (by decide +kernel) rfl, by decide +kernel, by decide⟩
theorem kv_X4_put : am_KV yX4_put 4 := ⟨am_word (k := 810) (by decide +kernel) rfl, am_word (k := 811) (by decide +kernel) rfl, _, _, rfl⟩
theorem ky_X10_lay : am_Ky yX10_lay cX10_lay 7 (some .int) 4 := ⟨am_word (k := 805) (by decide +kernel) rfl, am_word (k := 78) (by decide +kernel) rfl, by decide +kernel, by decide⟩
theorem kv_X10_lay : am_KV yX10_lay 10 := ⟨am_word (k := 803) (by decide +kernel) rfl, am_word (k := 804) (by decide +kernel) rfl, _, _, rfl⟩
theorem ky_X10_get : am_Ky yX10_get cX10_get 6 (some .int) 3 := ⟨am_word (k := 817) (by decide +kernel) rfl, am_word (k := 78) (by decide +kernel) rfl, by decide +kernel, by decide⟩
theorem kv_X10_get : am_KV yX10_get 10 := ⟨am_word (k := 815) (by decide +kernel) rfl, am_word (k := 816) (by decide +kernel) rfl, _, _, rfl⟩
theorem ky_X4_hasRun : am_Ky yX4_hasRun cX4_hasRun 3 (some .boolean) 2 := ⟨am_word (k := 826) (by decide +kernel) rfl, am_word (k := 89) (by decide +kernel) rfl, by decide +kernel, by decide⟩
theorem kv_X4_hasRun : am_KV yX4_hasRun 4 := ⟨am_word (k := 824) (by decide +kernel) rfl, am_word (k := 825) (by decide +kernel) rfl, _, _, rfl⟩
theorem ky_X10_copy : am_Ky yX10_copy cX10_copy 8 (some .int) 5 := ⟨am_word (k := 822) (by decide +kernel) rfl, am_word (k := 78) (by decide +kernel) rfl, by decide +kernel, by decide⟩
theorem kv_X10_copy : am_KV yX10_copy 10 := ⟨am_word (k := 820) (by decide +kernel) rfl, am_word (k := 821) (by decide +kernel) rfl, _, _, rfl⟩
theorem ky_X10_write : am_Ky yX10_write cX10_write 6 (some .int) 2 := ⟨am_word (k := 831) (by decide +kernel) rfl, am_word (k := 78) (by decide +kernel) rfl, by decide +kernel, by decide⟩
theorem kv_X10_write : am_KV yX10_write 10 := ⟨am_word (k := 829) (by decide +kernel) rfl, am_word (k := 830) (by decide +kernel) rfl, _, _, rfl⟩
theorem ky_X10_count : am_Ky yX10_count cX10_count 2 (some .int) 1 := ⟨am_word (k := 836) (by decide +kernel) rfl, am_word (k := 78) (by decide +kernel) rfl, by decide +kernel, by decide⟩
theorem kv_X10_count : am_KV yX10_count 10 := ⟨am_word (k := 834) (by decide +kernel) rfl, am_word (k := 835) (by decide +kernel) rfl, _, _, rfl⟩
theorem ky_X10_digestDeed : am_Ky yX10_digestDeed cX10_digestDeed 6 (some .long) 2 := ⟨am_word (k := 861) (by decide +kernel) rfl, am_word (k := 78) (by decide +kernel) rfl, by decide +kernel, by decide⟩
theorem kv_X10_digestDeed : am_KV yX10_digestDeed 10 := ⟨am_word (k := 860) (by decide +kernel) rfl, am_word (k := 28) (by decide +kernel) rfl, _, _, rfl⟩
theorem ky_X10_digestHour : am_Ky yX10_digestHour cX10_digestHour 7 (some .long) 3 := ⟨am_word (k := 854) (by decide +kernel) rfl, am_word (k := 78) (by decide +kernel) rfl, by decide +kernel, by decide⟩
theorem kv_X10_digestHour : am_KV yX10_digestHour 10 := ⟨am_word (k := 853) (by decide +kernel) rfl, am_word (k := 27) (by decide +kernel) rfl, _, _, rfl⟩
theorem ky_X10_digestTold : am_Ky yX10_digestTold cX10_digestTold 7 (some .long) 2 := ⟨am_word (k := 849) (by decide +kernel) rfl, am_word (k := 78) (by decide +kernel) rfl, by decide +kernel, by decide⟩
theorem kv_X10_digestTold : am_KV yX10_digestTold 10 := ⟨am_word (k := 848) (by decide +kernel) rfl, am_word (k := 26) (by decide +kernel) rfl, _, _, rfl⟩
theorem ky_X10_digestWhole : am_Ky yX10_digestWhole cX10_digestWhole 6 (some .long) 1 := ⟨am_word (k := 872) (by decide +kernel) rfl, am_word (k := 78) (by decide +kernel) rfl, by decide +kernel, by decide⟩
theorem kv_X10_digestWhole : am_KV yX10_digestWhole 10 := ⟨am_word (k := 871) (by decide +kernel) rfl, am_word (k := 29) (by decide +kernel) rfl, _, _, rfl⟩
theorem ky_X10_digest : am_Ky yX10_digest cX10_digest 5 (some .long) 0 := ⟨am_word (k := 840) (by decide +kernel) rfl, am_word (k := 78) (by decide +kernel) rfl, by decide +kernel, by decide⟩
theorem kv_X10_digest : am_KV yX10_digest 10 := ⟨am_word (k := 838) (by decide +kernel) rfl, am_word (k := 839) (by decide +kernel) rfl, _, _, rfl⟩
theorem ky_X11_in : am_Ky yX11_in cX11_in 6 (some .boolean) 3 := ⟨am_word (k := 1005) (by decide +kernel) rfl, am_word (k := 90) (by decide +kernel) rfl, by decide +kernel, by decide⟩
theorem ks_X11_in : am_KS yX11_in := am_word (k := 1004) (by decide +kernel) rfl
theorem ky_X11_no : am_Ky yX11_no cX11_no 1 (some .long) 1 := ⟨am_word (k := 1342) (by decide +kernel) rfl, am_word (k := 90) (by decide +kernel) rfl, by decide +kernel, by decide⟩
theorem ks_X11_no : am_KS yX11_no := am_word (k := 1341) (by decide +kernel) rfl
theorem ky_X11_isTwo : am_Ky yX11_isTwo cX11_isTwo 1 (some .boolean) 1 := ⟨am_word (k := 1145) (by decide +kernel) rfl, am_word (k := 90) (by decide +kernel) rfl, by decide +kernel, by decide⟩
theorem ks_X11_isTwo : am_KS yX11_isTwo := am_word (k := 1144) (by decide +kernel) rfl
theorem ky_X11_isIn : am_Ky yX11_isIn cX11_isIn 2 (some .boolean) 2 := ⟨am_word (k := 1142) (by decide +kernel) rfl, am_word (k := 90) (by decide +kernel) rfl, by decide +kernel, by decide⟩
theorem ks_X11_isIn : am_KS yX11_isIn := am_word (k := 1141) (by decide +kernel) rfl
theorem ky_X11_ones : am_Ky yX11_ones cX11_ones 3 (some .int) 1 := ⟨am_word (k := 1359) (by decide +kernel) rfl, am_word (k := 90) (by decide +kernel) rfl, by decide +kernel, by decide⟩
theorem ks_X11_ones : am_KS yX11_ones := am_word (k := 1358) (by decide +kernel) rfl
theorem ky_X11_lesser : am_Ky yX11_lesser cX11_lesser 2 (some .int) 2 := ⟨am_word (k := 1366) (by decide +kernel) rfl, am_word (k := 90) (by decide +kernel) rfl, by decide +kernel, by decide⟩
theorem ks_X11_lesser : am_KS yX11_lesser := am_word (k := 1365) (by decide +kernel) rfl
theorem ky_X11_greater : am_Ky yX11_greater cX11_greater 2 (some .int) 2 := ⟨am_word (k := 1213) (by decide +kernel) rfl, am_word (k := 90) (by decide +kernel) rfl, by decide +kernel, by decide⟩
theorem ks_X11_greater : am_KS yX11_greater := am_word (k := 1212) (by decide +kernel) rfl
theorem ky_X11_part : am_Ky yX11_part cX11_part 11 (some .long) 3 := ⟨am_word (k := 1339) (by decide +kernel) rfl, am_word (k := 90) (by decide +kernel) rfl, by decide +kernel, by decide⟩
theorem ks_X11_part : am_KS yX11_part := am_word (k := 1338) (by decide +kernel) rfl
theorem ky_X11_finds : am_Ky yX11_finds cX11_finds 2 (some .int) 1 := ⟨am_word (k := 1010) (by decide +kernel) rfl, am_word (k := 90) (by decide +kernel) rfl, by decide +kernel, by decide⟩
theorem kv_X11_finds : am_KV yX11_finds 11 := ⟨am_word (k := 1009) (by decide +kernel) rfl, am_word (k := 30) (by decide +kernel) rfl, _, _, rfl⟩
theorem ky_X11_isSheet : am_Ky yX11_isSheet cX11_isSheet 1 (some .boolean) 1 := ⟨am_word (k := 1001) (by decide +kernel) rfl, am_word (k := 90) (by decide +kernel) rfl, by decide +kernel, by decide⟩
theorem ks_X11_isSheet : am_KS yX11_isSheet := am_word (k := 1000) (by decide +kernel) rfl
theorem ky_X11_sheet : am_Ky yX11_sheet cX11_sheet 5 (some .int) 3 := ⟨am_word (k := 998) (by decide +kernel) rfl, am_word (k := 90) (by decide +kernel) rfl, by decide +kernel, by decide⟩
theorem kv_X11_sheet : am_KV yX11_sheet 11 := ⟨am_word (k := 996) (by decide +kernel) rfl, am_word (k := 997) (by decide +kernel) rfl, _, _, rfl⟩
theorem ky_X11_lose : am_Ky yX11_lose cX11_lose 2 (some .int) 1 := ⟨am_word (k := 1014) (by decide +kernel) rfl, am_word (k := 90) (by decide +kernel) rfl, by decide +kernel, by decide⟩
theorem kv_X11_lose : am_KV yX11_lose 11 := ⟨am_word (k := 1012) (by decide +kernel) rfl, am_word (k := 1013) (by decide +kernel) rfl, _, _, rfl⟩
theorem ky_X11_lacks : am_Ky yX11_lacks cX11_lacks 4 (some .int) 3 := ⟨am_word (k := 1022) (by decide +kernel) rfl, am_word (k := 90) (by decide +kernel) rfl, by decide +kernel, by decide⟩
theorem kv_X11_lacks : am_KV yX11_lacks 11 := ⟨am_word (k := 1021) (by decide +kernel) rfl, am_word (k := 31) (by decide +kernel) rfl, _, _, rfl⟩
theorem ky_X11_cut : am_Ky yX11_cut cX11_cut 2 (some .int) 2 := ⟨am_word (k := 1025) (by decide +kernel) rfl, am_word (k := 90) (by decide +kernel) rfl, by decide +kernel, by decide⟩
theorem ks_X11_cut : am_KS yX11_cut := am_word (k := 1024) (by decide +kernel) rfl
theorem ky_X11_lay : am_Ky yX11_lay cX11_lay 6 (some .int) 4 := ⟨am_word (k := 1018) (by decide +kernel) rfl, am_word (k := 90) (by decide +kernel) rfl, by decide +kernel, by decide⟩
theorem kv_X11_lay : am_KV yX11_lay 11 := ⟨am_word (k := 1016) (by decide +kernel) rfl, am_word (k := 1017) (by decide +kernel) rfl, _, _, rfl⟩
theorem ky_X11_get : am_Ky yX11_get cX11_get 4 (some .int) 3 := ⟨am_word (k := 1029) (by decide +kernel) rfl, am_word (k := 90) (by decide +kernel) rfl, by decide +kernel, by decide⟩
theorem kv_X11_get : am_KV yX11_get 11 := ⟨am_word (k := 1027) (by decide +kernel) rfl, am_word (k := 1028) (by decide +kernel) rfl, _, _, rfl⟩
theorem ky_X11_copy : am_Ky yX11_copy cX11_copy 7 (some .int) 5 := ⟨am_word (k := 1034) (by decide +kernel) rfl, am_word (k := 90) (by decide +kernel) rfl, by decide +kernel, by decide⟩
theorem kv_X11_copy : am_KV yX11_copy 11 := ⟨am_word (k := 1032) (by decide +kernel) rfl, am_word (k := 1033) (by decide +kernel) rfl, _, _, rfl⟩
theorem ky_X11_isText : am_Ky yX11_isText cX11_isText 1 (some .boolean) 1 := ⟨am_word (k := 1041) (by decide +kernel) rfl, am_word (k := 90) (by decide +kernel) rfl, by decide +kernel, by decide⟩
theorem ks_X11_isText : am_KS yX11_isText := am_word (k := 1040) (by decide +kernel) rfl
theorem ky_X11_type : am_Ky yX11_type cX11_type 3 (some .int) 2 := ⟨am_word (k := 1038) (by decide +kernel) rfl, am_word (k := 90) (by decide +kernel) rfl, by decide +kernel, by decide⟩
theorem kv_X11_type : am_KV yX11_type 11 := ⟨am_word (k := 1036) (by decide +kernel) rfl, am_word (k := 1037) (by decide +kernel) rfl, _, _, rfl⟩
theorem ky_X11_wipe : am_Ky yX11_wipe cX11_wipe 3 (some .int) 1 := ⟨am_word (k := 1046) (by decide +kernel) rfl, am_word (k := 90) (by decide +kernel) rfl, by decide +kernel, by decide⟩
theorem kv_X11_wipe : am_KV yX11_wipe 11 := ⟨am_word (k := 1044) (by decide +kernel) rfl, am_word (k := 1045) (by decide +kernel) rfl, _, _, rfl⟩
theorem ky_X11_undo : am_Ky yX11_undo cX11_undo 2 (some .int) 1 := ⟨am_word (k := 1050) (by decide +kernel) rfl, am_word (k := 90) (by decide +kernel) rfl, by decide +kernel, by decide⟩
theorem kv_X11_undo : am_KV yX11_undo 11 := ⟨am_word (k := 1048) (by decide +kernel) rfl, am_word (k := 1049) (by decide +kernel) rfl, _, _, rfl⟩
theorem ky_X11_readsStrands : am_Ky yX11_readsStrands cX11_readsStrands 10 (some .int) 0 := ⟨am_word (k := 1062) (by decide +kernel) rfl, am_word (k := 90) (by decide +kernel) rfl, by decide +kernel, by decide⟩
theorem kv_X11_readsStrands : am_KV yX11_readsStrands 11 := ⟨am_word (k := 1061) (by decide +kernel) rfl, am_word (k := 33) (by decide +kernel) rfl, _, _, rfl⟩
theorem ky_X11_fives : am_Ky yX11_fives cX11_fives 2 none 0 := ⟨am_word (k := 1074) (by decide +kernel) rfl, am_word (k := 90) (by decide +kernel) rfl, by decide +kernel, by decide⟩
theorem kv_X11_fives : am_KV yX11_fives 11 := ⟨am_word (k := 1073) (by decide +kernel) rfl, am_word (k := 35) (by decide +kernel) rfl, _, _, rfl⟩
theorem ky_X11_readsTides : am_Ky yX11_readsTides cX11_readsTides 3 (some .int) 0 := ⟨am_word (k := 1070) (by decide +kernel) rfl, am_word (k := 90) (by decide +kernel) rfl, by decide +kernel, by decide⟩
theorem kv_X11_readsTides : am_KV yX11_readsTides 11 := ⟨am_word (k := 1069) (by decide +kernel) rfl, am_word (k := 34) (by decide +kernel) rfl, _, _, rfl⟩
theorem ky_X11_readsRoute : am_Ky yX11_readsRoute cX11_readsRoute 3 (some .int) 0 := ⟨am_word (k := 1078) (by decide +kernel) rfl, am_word (k := 90) (by decide +kernel) rfl, by decide +kernel, by decide⟩
theorem kv_X11_readsRoute : am_KV yX11_readsRoute 11 := ⟨am_word (k := 1077) (by decide +kernel) rfl, am_word (k := 36) (by decide +kernel) rfl, _, _, rfl⟩
theorem ky_X11_readsText : am_Ky yX11_readsText cX11_readsText 2 (some .int) 1 := ⟨am_word (k := 1058) (by decide +kernel) rfl, am_word (k := 90) (by decide +kernel) rfl, by decide +kernel, by decide⟩
theorem kv_X11_readsText : am_KV yX11_readsText 11 := ⟨am_word (k := 1057) (by decide +kernel) rfl, am_word (k := 32) (by decide +kernel) rfl, _, _, rfl⟩
theorem ky_X11_fault : am_Ky yX11_fault cX11_fault 2 (some .int) 1 := ⟨am_word (k := 1054) (by decide +kernel) rfl, am_word (k := 90) (by decide +kernel) rfl, by decide +kernel, by decide⟩
theorem kv_X11_fault : am_KV yX11_fault 11 := ⟨am_word (k := 1052) (by decide +kernel) rfl, am_word (k := 1053) (by decide +kernel) rfl, _, _, rfl⟩
theorem ky_X11_isStrand : am_Ky yX11_isStrand cX11_isStrand 2 (some .boolean) 1 := ⟨am_word (k := 1087) (by decide +kernel) rfl, am_word (k := 90) (by decide +kernel) rfl, by decide +kernel, by decide⟩
theorem kv_X11_isStrand : am_KV yX11_isStrand 11 := ⟨am_word (k := 1086) (by decide +kernel) rfl, am_word (k := 37) (by decide +kernel) rfl, _, _, rfl⟩
theorem ky_X11_isHour : am_Ky yX11_isHour cX11_isHour 1 (some .boolean) 1 := ⟨am_word (k := 1099) (by decide +kernel) rfl, am_word (k := 90) (by decide +kernel) rfl, by decide +kernel, by decide⟩
theorem ks_X11_isHour : am_KS yX11_isHour := am_word (k := 1098) (by decide +kernel) rfl
theorem ky_X11_strandBy : am_Ky yX11_strandBy cX11_strandBy 3 (some .int) 2 := ⟨am_word (k := 1092) (by decide +kernel) rfl, am_word (k := 90) (by decide +kernel) rfl, by decide +kernel, by decide⟩
theorem kv_X11_strandBy : am_KV yX11_strandBy 11 := ⟨am_word (k := 1091) (by decide +kernel) rfl, am_word (k := 38) (by decide +kernel) rfl, _, _, rfl⟩
theorem ky_X11_strand : am_Ky yX11_strand cX11_strand 3 (some .int) 2 := ⟨am_word (k := 1083) (by decide +kernel) rfl, am_word (k := 90) (by decide +kernel) rfl, by decide +kernel, by decide⟩
theorem kv_X11_strand : am_KV yX11_strand 11 := ⟨am_word (k := 1081) (by decide +kernel) rfl, am_word (k := 1082) (by decide +kernel) rfl, _, _, rfl⟩
theorem ky_X11_tide : am_Ky yX11_tide cX11_tide 2 (some .int) 1 := ⟨am_word (k := 1096) (by decide +kernel) rfl, am_word (k := 90) (by decide +kernel) rfl, by decide +kernel, by decide⟩
theorem kv_X11_tide : am_KV yX11_tide 11 := ⟨am_word (k := 1094) (by decide +kernel) rfl, am_word (k := 1095) (by decide +kernel) rfl, _, _, rfl⟩
theorem ky_X11_routeBy : am_Ky yX11_routeBy cX11_routeBy 2 (some .int) 1 := ⟨am_word (k := 1109) (by decide +kernel) rfl, am_word (k := 90) (by decide +kernel) rfl, by decide +kernel, by decide⟩
theorem kv_X11_routeBy : am_KV yX11_routeBy 11 := ⟨am_word (k := 1108) (by decide +kernel) rfl, am_word (k := 39) (by decide +kernel) rfl, _, _, rfl⟩
theorem ky_X11_route : am_Ky yX11_route cX11_route 2 (some .int) 1 := ⟨am_word (k := 1104) (by decide +kernel) rfl, am_word (k := 90) (by decide +kernel) rfl, by decide +kernel, by decide⟩
theorem kv_X11_route : am_KV yX11_route 11 := ⟨am_word (k := 1102) (by decide +kernel) rfl, am_word (k := 1103) (by decide +kernel) rfl, _, _, rfl⟩
theorem ky_X11_puts : am_Ky yX11_puts cX11_puts 5 none 4 := ⟨am_word (k := 1118) (by decide +kernel) rfl, am_word (k := 90) (by decide +kernel) rfl, by decide +kernel, by decide⟩
theorem kv_X11_puts : am_KV yX11_puts 11 := ⟨am_word (k := 1117) (by decide +kernel) rfl, am_word (k := 40) (by decide +kernel) rfl, _, _, rfl⟩
theorem ky_X11_event : am_Ky yX11_event cX11_event 5 (some .int) 4 := ⟨am_word (k := 1113) (by decide +kernel) rfl, am_word (k := 90) (by decide +kernel) rfl, by decide +kernel, by decide⟩
theorem kv_X11_event : am_KV yX11_event 11 := ⟨am_word (k := 1111) (by decide +kernel) rfl, am_word (k := 1112) (by decide +kernel) rfl, _, _, rfl⟩
theorem ky_X11_back : am_Ky yX11_back cX11_back 1 (some .int) 0 := ⟨am_word (k := 1122) (by decide +kernel) rfl, am_word (k := 90) (by decide +kernel) rfl, by decide +kernel, by decide⟩
theorem kv_X11_back : am_KV yX11_back 11 := ⟨am_word (k := 1120) (by decide +kernel) rfl, am_word (k := 1121) (by decide +kernel) rfl, _, _, rfl⟩
theorem ky_X11_read : am_Ky yX11_read cX11_read 5 (some .int) 1 := ⟨am_word (k := 1126) (by decide +kernel) rfl, am_word (k := 90) (by decide +kernel) rfl, by decide +kernel, by decide⟩
theorem kv_X11_read : am_KV yX11_read 11 := ⟨am_word (k := 1124) (by decide +kernel) rfl, am_word (k := 1125) (by decide +kernel) rfl, _, _, rfl⟩
theorem ky_X11_lives : am_Ky yX11_lives cX11_lives 8 none 0 := ⟨am_word (k := 1139) (by decide +kernel) rfl, am_word (k := 90) (by decide +kernel) rfl, by decide +kernel, by decide⟩
theorem kv_X11_lives : am_KV yX11_lives 11 := ⟨am_word (k := 1138) (by decide +kernel) rfl, am_word (k := 42) (by decide +kernel) rfl, _, _, rfl⟩
theorem ky_X11_find : am_Ky yX11_find cX11_find 1 none 0 := ⟨am_word (k := 1135) (by decide +kernel) rfl, am_word (k := 90) (by decide +kernel) rfl, by decide +kernel, by decide⟩
theorem kv_X11_find : am_KV yX11_find 11 := ⟨am_word (k := 1134) (by decide +kernel) rfl, am_word (k := 41) (by decide +kernel) rfl, _, _, rfl⟩
theorem ky_X11_lies : am_Ky yX11_lies cX11_lies 5 (some .int) 3 := ⟨am_word (k := 1153) (by decide +kernel) rfl, am_word (k := 90) (by decide +kernel) rfl, by decide +kernel, by decide⟩
theorem kv_X11_lies : am_KV yX11_lies 11 := ⟨am_word (k := 1152) (by decide +kernel) rfl, am_word (k := 44) (by decide +kernel) rfl, _, _, rfl⟩
theorem ky_X11_stateOf : am_Ky yX11_stateOf cX11_stateOf 3 (some .int) 2 := ⟨am_word (k := 1149) (by decide +kernel) rfl, am_word (k := 90) (by decide +kernel) rfl, by decide +kernel, by decide⟩
theorem kv_X11_stateOf : am_KV yX11_stateOf 11 := ⟨am_word (k := 1148) (by decide +kernel) rfl, am_word (k := 43) (by decide +kernel) rfl, _, _, rfl⟩
theorem ky_X11_state : am_Ky yX11_state cX11_state 4 (some .int) 3 := ⟨am_word (k := 1131) (by decide +kernel) rfl, am_word (k := 90) (by decide +kernel) rfl, by decide +kernel, by decide⟩
theorem kv_X11_state : am_KV yX11_state 11 := ⟨am_word (k := 1129) (by decide +kernel) rfl, am_word (k := 1130) (by decide +kernel) rfl, _, _, rfl⟩
theorem ky_X11_isPopped : am_Ky yX11_isPopped cX11_isPopped 4 (some .boolean) 3 := ⟨am_word (k := 1166) (by decide +kernel) rfl, am_word (k := 90) (by decide +kernel) rfl, by decide +kernel, by decide⟩
theorem kv_X11_isPopped : am_KV yX11_isPopped 11 := ⟨am_word (k := 1165) (by decide +kernel) rfl, am_word (k := 46) (by decide +kernel) rfl, _, _, rfl⟩
theorem ky_X11_saysOf : am_Ky yX11_saysOf cX11_saysOf 4 (some .int) 3 := ⟨am_word (k := 1162) (by decide +kernel) rfl, am_word (k := 90) (by decide +kernel) rfl, by decide +kernel, by decide⟩
theorem kv_X11_saysOf : am_KV yX11_saysOf 11 := ⟨am_word (k := 1161) (by decide +kernel) rfl, am_word (k := 45) (by decide +kernel) rfl, _, _, rfl⟩
theorem ky_X11_says : am_Ky yX11_says cX11_says 4 (some .int) 3 := ⟨am_word (k := 1157) (by decide +kernel) rfl, am_word (k := 90) (by decide +kernel) rfl, by decide +kernel, by decide⟩
theorem kv_X11_says : am_KV yX11_says 11 := ⟨am_word (k := 1155) (by decide +kernel) rfl, am_word (k := 1156) (by decide +kernel) rfl, _, _, rfl⟩
theorem ky_X11_hangsOn : am_Ky yX11_hangsOn cX11_hangsOn 3 (some .int) 1 := ⟨am_word (k := 1178) (by decide +kernel) rfl, am_word (k := 90) (by decide +kernel) rfl, by decide +kernel, by decide⟩
theorem kv_X11_hangsOn : am_KV yX11_hangsOn 11 := ⟨am_word (k := 1177) (by decide +kernel) rfl, am_word (k := 48) (by decide +kernel) rfl, _, _, rfl⟩
theorem ky_X11_legibleOf : am_Ky yX11_legibleOf cX11_legibleOf 4 (some .int) 1 := ⟨am_word (k := 1174) (by decide +kernel) rfl, am_word (k := 90) (by decide +kernel) rfl, by decide +kernel, by decide⟩
theorem kv_X11_legibleOf : am_KV yX11_legibleOf 11 := ⟨am_word (k := 1173) (by decide +kernel) rfl, am_word (k := 47) (by decide +kernel) rfl, _, _, rfl⟩
theorem ky_X11_deed : am_Ky yX11_deed cX11_deed 3 (some .int) 2 := ⟨am_word (k := 1170) (by decide +kernel) rfl, am_word (k := 90) (by decide +kernel) rfl, by decide +kernel, by decide⟩
theorem kv_X11_deed : am_KV yX11_deed 11 := ⟨am_word (k := 1168) (by decide +kernel) rfl, am_word (k := 1169) (by decide +kernel) rfl, _, _, rfl⟩
theorem ky_X11_isVoid : am_Ky yX11_isVoid cX11_isVoid 6 (some .boolean) 2 := ⟨am_word (k := 1190) (by decide +kernel) rfl, am_word (k := 90) (by decide +kernel) rfl, by decide +kernel, by decide⟩
theorem kv_X11_isVoid : am_KV yX11_isVoid 11 := ⟨am_word (k := 1189) (by decide +kernel) rfl, am_word (k := 50) (by decide +kernel) rfl, _, _, rfl⟩
theorem ky_X11_voidsBy : am_Ky yX11_voidsBy cX11_voidsBy 4 (some .int) 1 := ⟨am_word (k := 1186) (by decide +kernel) rfl, am_word (k := 90) (by decide +kernel) rfl, by decide +kernel, by decide⟩
theorem kv_X11_voidsBy : am_KV yX11_voidsBy 11 := ⟨am_word (k := 1185) (by decide +kernel) rfl, am_word (k := 49) (by decide +kernel) rfl, _, _, rfl⟩
theorem ky_X11_voids : am_Ky yX11_voids cX11_voids 2 (some .int) 1 := ⟨am_word (k := 1182) (by decide +kernel) rfl, am_word (k := 90) (by decide +kernel) rfl, by decide +kernel, by decide⟩
theorem kv_X11_voids : am_KV yX11_voids 11 := ⟨am_word (k := 1180) (by decide +kernel) rfl, am_word (k := 1181) (by decide +kernel) rfl, _, _, rfl⟩
theorem ky_X11_forgedNow : am_Ky yX11_forgedNow cX11_forgedNow 5 (some .int) 0 := ⟨am_word (k := 1198) (by decide +kernel) rfl, am_word (k := 90) (by decide +kernel) rfl, by decide +kernel, by decide⟩
theorem kv_X11_forgedNow : am_KV yX11_forgedNow 11 := ⟨am_word (k := 1197) (by decide +kernel) rfl, am_word (k := 51) (by decide +kernel) rfl, _, _, rfl⟩
theorem ky_X11_forged : am_Ky yX11_forged cX11_forged 1 (some .int) 0 := ⟨am_word (k := 1194) (by decide +kernel) rfl, am_word (k := 90) (by decide +kernel) rfl, by decide +kernel, by decide⟩
theorem kv_X11_forged : am_KV yX11_forged 11 := ⟨am_word (k := 1192) (by decide +kernel) rfl, am_word (k := 1193) (by decide +kernel) rfl, _, _, rfl⟩
theorem ky_X11_run : am_Ky yX11_run cX11_run 7 (some .int) 2 := ⟨am_word (k := 1210) (by decide +kernel) rfl, am_word (k := 90) (by decide +kernel) rfl, by decide +kernel, by decide⟩
theorem kv_X11_run : am_KV yX11_run 11 := ⟨am_word (k := 1209) (by decide +kernel) rfl, am_word (k := 53) (by decide +kernel) rfl, _, _, rfl⟩
theorem ky_X11_tangledNow : am_Ky yX11_tangledNow cX11_tangledNow 7 (some .int) 1 := ⟨am_word (k := 1206) (by decide +kernel) rfl, am_word (k := 90) (by decide +kernel) rfl, by decide +kernel, by decide⟩
theorem kv_X11_tangledNow : am_KV yX11_tangledNow 11 := ⟨am_word (k := 1205) (by decide +kernel) rfl, am_word (k := 52) (by decide +kernel) rfl, _, _, rfl⟩
theorem ky_X11_tangled : am_Ky yX11_tangled cX11_tangled 2 (some .int) 1 := ⟨am_word (k := 1202) (by decide +kernel) rfl, am_word (k := 90) (by decide +kernel) rfl, by decide +kernel, by decide⟩
theorem kv_X11_tangled : am_KV yX11_tangled 11 := ⟨am_word (k := 1200) (by decide +kernel) rfl, am_word (k := 1201) (by decide +kernel) rfl, _, _, rfl⟩
theorem ky_X11_readOn : am_Ky yX11_readOn cX11_readOn 7 (some .int) 3 := ⟨am_word (k := 1229) (by decide +kernel) rfl, am_word (k := 90) (by decide +kernel) rfl, by decide +kernel, by decide⟩
theorem kv_X11_readOn : am_KV yX11_readOn 11 := ⟨am_word (k := 1228) (by decide +kernel) rfl, am_word (k := 56) (by decide +kernel) rfl, _, _, rfl⟩
theorem ky_X11_goes : am_Ky yX11_goes cX11_goes 5 none 0 := ⟨am_word (k := 1225) (by decide +kernel) rfl, am_word (k := 90) (by decide +kernel) rfl, by decide +kernel, by decide⟩
theorem kv_X11_goes : am_KV yX11_goes 11 := ⟨am_word (k := 1224) (by decide +kernel) rfl, am_word (k := 55) (by decide +kernel) rfl, _, _, rfl⟩
theorem ky_X11_readsOf : am_Ky yX11_readsOf cX11_readsOf 4 (some .int) 1 := ⟨am_word (k := 1221) (by decide +kernel) rfl, am_word (k := 90) (by decide +kernel) rfl, by decide +kernel, by decide⟩
theorem kv_X11_readsOf : am_KV yX11_readsOf 11 := ⟨am_word (k := 1220) (by decide +kernel) rfl, am_word (k := 54) (by decide +kernel) rfl, _, _, rfl⟩
theorem ky_X11_reads : am_Ky yX11_reads cX11_reads 2 (some .int) 1 := ⟨am_word (k := 1217) (by decide +kernel) rfl, am_word (k := 90) (by decide +kernel) rfl, by decide +kernel, by decide⟩
theorem kv_X11_reads : am_KV yX11_reads 11 := ⟨am_word (k := 1215) (by decide +kernel) rfl, am_word (k := 1216) (by decide +kernel) rfl, _, _, rfl⟩
theorem ky_X11_nextHour : am_Ky yX11_nextHour cX11_nextHour 4 (some .int) 2 := ⟨am_word (k := 1245) (by decide +kernel) rfl, am_word (k := 90) (by decide +kernel) rfl, by decide +kernel, by decide⟩
theorem kv_X11_nextHour : am_KV yX11_nextHour 11 := ⟨am_word (k := 1244) (by decide +kernel) rfl, am_word (k := 59) (by decide +kernel) rfl, _, _, rfl⟩
theorem ky_X11_keepsTour : am_Ky yX11_keepsTour cX11_keepsTour 4 none 1 := ⟨am_word (k := 1241) (by decide +kernel) rfl, am_word (k := 90) (by decide +kernel) rfl, by decide +kernel, by decide⟩
theorem kv_X11_keepsTour : am_KV yX11_keepsTour 11 := ⟨am_word (k := 1240) (by decide +kernel) rfl, am_word (k := 58) (by decide +kernel) rfl, _, _, rfl⟩
theorem ky_X11_findTour : am_Ky yX11_findTour cX11_findTour 5 none 0 := ⟨am_word (k := 1237) (by decide +kernel) rfl, am_word (k := 90) (by decide +kernel) rfl, by decide +kernel, by decide⟩
theorem kv_X11_findTour : am_KV yX11_findTour 11 := ⟨am_word (k := 1236) (by decide +kernel) rfl, am_word (k := 57) (by decide +kernel) rfl, _, _, rfl⟩
theorem ky_X11_tourBy : am_Ky yX11_tourBy cX11_tourBy 2 (some .int) 1 := ⟨am_word (k := 1249) (by decide +kernel) rfl, am_word (k := 90) (by decide +kernel) rfl, by decide +kernel, by decide⟩
theorem kv_X11_tourBy : am_KV yX11_tourBy 11 := ⟨am_word (k := 1248) (by decide +kernel) rfl, am_word (k := 60) (by decide +kernel) rfl, _, _, rfl⟩
theorem ky_X11_tour : am_Ky yX11_tour cX11_tour 2 (some .int) 1 := ⟨am_word (k := 1233) (by decide +kernel) rfl, am_word (k := 90) (by decide +kernel) rfl, by decide +kernel, by decide⟩
theorem kv_X11_tour : am_KV yX11_tour 11 := ⟨am_word (k := 1231) (by decide +kernel) rfl, am_word (k := 1232) (by decide +kernel) rfl, _, _, rfl⟩
theorem ky_X11_hangOf : am_Ky yX11_hangOf cX11_hangOf 8 (some .int) 2 := ⟨am_word (k := 1257) (by decide +kernel) rfl, am_word (k := 90) (by decide +kernel) rfl, by decide +kernel, by decide⟩
theorem kv_X11_hangOf : am_KV yX11_hangOf 11 := ⟨am_word (k := 1256) (by decide +kernel) rfl, am_word (k := 61) (by decide +kernel) rfl, _, _, rfl⟩
theorem ky_X11_hang : am_Ky yX11_hang cX11_hang 3 (some .int) 2 := ⟨am_word (k := 1253) (by decide +kernel) rfl, am_word (k := 90) (by decide +kernel) rfl, by decide +kernel, by decide⟩
theorem kv_X11_hang : am_KV yX11_hang 11 := ⟨am_word (k := 1251) (by decide +kernel) rfl, am_word (k := 1252) (by decide +kernel) rfl, _, _, rfl⟩
theorem ky_X11_isSafe : am_Ky yX11_isSafe cX11_isSafe 3 (some .boolean) 2 := ⟨am_word (k := 1270) (by decide +kernel) rfl, am_word (k := 90) (by decide +kernel) rfl, by decide +kernel, by decide⟩
theorem kv_X11_isSafe : am_KV yX11_isSafe 11 := ⟨am_word (k := 1269) (by decide +kernel) rfl, am_word (k := 63) (by decide +kernel) rfl, _, _, rfl⟩
theorem ky_X11_saveOf : am_Ky yX11_saveOf cX11_saveOf 5 (some .int) 2 := ⟨am_word (k := 1266) (by decide +kernel) rfl, am_word (k := 90) (by decide +kernel) rfl, by decide +kernel, by decide⟩
theorem kv_X11_saveOf : am_KV yX11_saveOf 11 := ⟨am_word (k := 1265) (by decide +kernel) rfl, am_word (k := 62) (by decide +kernel) rfl, _, _, rfl⟩
theorem ky_X11_save : am_Ky yX11_save cX11_save 3 (some .int) 2 := ⟨am_word (k := 1261) (by decide +kernel) rfl, am_word (k := 90) (by decide +kernel) rfl, by decide +kernel, by decide⟩
theorem kv_X11_save : am_KV yX11_save 11 := ⟨am_word (k := 1259) (by decide +kernel) rfl, am_word (k := 1260) (by decide +kernel) rfl, _, _, rfl⟩
theorem ky_X11_mayBe : am_Ky yX11_mayBe cX11_mayBe 7 (some .boolean) 3 := ⟨am_word (k := 1282) (by decide +kernel) rfl, am_word (k := 90) (by decide +kernel) rfl, by decide +kernel, by decide⟩
theorem kv_X11_mayBe : am_KV yX11_mayBe 11 := ⟨am_word (k := 1281) (by decide +kernel) rfl, am_word (k := 65) (by decide +kernel) rfl, _, _, rfl⟩
theorem ky_X11_fillOf : am_Ky yX11_fillOf cX11_fillOf 8 (some .int) 3 := ⟨am_word (k := 1278) (by decide +kernel) rfl, am_word (k := 90) (by decide +kernel) rfl, by decide +kernel, by decide⟩
theorem kv_X11_fillOf : am_KV yX11_fillOf 11 := ⟨am_word (k := 1277) (by decide +kernel) rfl, am_word (k := 64) (by decide +kernel) rfl, _, _, rfl⟩
theorem ky_X11_fill : am_Ky yX11_fill cX11_fill 4 (some .int) 3 := ⟨am_word (k := 1274) (by decide +kernel) rfl, am_word (k := 90) (by decide +kernel) rfl, by decide +kernel, by decide⟩
theorem kv_X11_fill : am_KV yX11_fill 11 := ⟨am_word (k := 1272) (by decide +kernel) rfl, am_word (k := 1273) (by decide +kernel) rfl, _, _, rfl⟩
theorem ky_X11_seen : am_Ky yX11_seen cX11_seen 4 (some .int) 3 := ⟨am_word (k := 1286) (by decide +kernel) rfl, am_word (k := 90) (by decide +kernel) rfl, by decide +kernel, by decide⟩
theorem kv_X11_seen : am_KV yX11_seen 11 := ⟨am_word (k := 1284) (by decide +kernel) rfl, am_word (k := 1285) (by decide +kernel) rfl, _, _, rfl⟩
theorem ky_X11_forget : am_Ky yX11_forget cX11_forget 2 (some .int) 0 := ⟨am_word (k := 1291) (by decide +kernel) rfl, am_word (k := 90) (by decide +kernel) rfl, by decide +kernel, by decide⟩
theorem kv_X11_forget : am_KV yX11_forget 11 := ⟨am_word (k := 1289) (by decide +kernel) rfl, am_word (k := 1290) (by decide +kernel) rfl, _, _, rfl⟩
theorem ky_X11_isSeen : am_Ky yX11_isSeen cX11_isSeen 4 (some .boolean) 0 := ⟨am_word (k := 1303) (by decide +kernel) rfl, am_word (k := 90) (by decide +kernel) rfl, by decide +kernel, by decide⟩
theorem kv_X11_isSeen : am_KV yX11_isSeen 11 := ⟨am_word (k := 1302) (by decide +kernel) rfl, am_word (k := 67) (by decide +kernel) rfl, _, _, rfl⟩
theorem ky_X11_neverNow : am_Ky yX11_neverNow cX11_neverNow 3 (some .int) 0 := ⟨am_word (k := 1299) (by decide +kernel) rfl, am_word (k := 90) (by decide +kernel) rfl, by decide +kernel, by decide⟩
theorem kv_X11_neverNow : am_KV yX11_neverNow 11 := ⟨am_word (k := 1298) (by decide +kernel) rfl, am_word (k := 66) (by decide +kernel) rfl, _, _, rfl⟩
theorem ky_X11_never : am_Ky yX11_never cX11_never 1 (some .int) 0 := ⟨am_word (k := 1295) (by decide +kernel) rfl, am_word (k := 90) (by decide +kernel) rfl, by decide +kernel, by decide⟩
theorem kv_X11_never : am_KV yX11_never 11 := ⟨am_word (k := 1293) (by decide +kernel) rfl, am_word (k := 1294) (by decide +kernel) rfl, _, _, rfl⟩
theorem ky_X11_hungOf : am_Ky yX11_hungOf cX11_hungOf 5 (some .int) 1 := ⟨am_word (k := 1315) (by decide +kernel) rfl, am_word (k := 90) (by decide +kernel) rfl, by decide +kernel, by decide⟩
theorem kv_X11_hungOf : am_KV yX11_hungOf 11 := ⟨am_word (k := 1314) (by decide +kernel) rfl, am_word (k := 69) (by decide +kernel) rfl, _, _, rfl⟩
theorem ky_X11_sortOf : am_Ky yX11_sortOf cX11_sortOf 5 (some .int) 1 := ⟨am_word (k := 1319) (by decide +kernel) rfl, am_word (k := 90) (by decide +kernel) rfl, by decide +kernel, by decide⟩
theorem kv_X11_sortOf : am_KV yX11_sortOf 11 := ⟨am_word (k := 1318) (by decide +kernel) rfl, am_word (k := 70) (by decide +kernel) rfl, _, _, rfl⟩
theorem ky_X11_wasOf : am_Ky yX11_wasOf cX11_wasOf 3 (some .int) 2 := ⟨am_word (k := 1311) (by decide +kernel) rfl, am_word (k := 90) (by decide +kernel) rfl, by decide +kernel, by decide⟩
theorem kv_X11_wasOf : am_KV yX11_wasOf 11 := ⟨am_word (k := 1310) (by decide +kernel) rfl, am_word (k := 68) (by decide +kernel) rfl, _, _, rfl⟩
theorem ky_X11_was : am_Ky yX11_was cX11_was 3 (some .int) 2 := ⟨am_word (k := 1307) (by decide +kernel) rfl, am_word (k := 90) (by decide +kernel) rfl, by decide +kernel, by decide⟩
theorem kv_X11_was : am_KV yX11_was 11 := ⟨am_word (k := 1305) (by decide +kernel) rfl, am_word (k := 1306) (by decide +kernel) rfl, _, _, rfl⟩
theorem ky_X11_askOf : am_Ky yX11_askOf cX11_askOf 9 (some .int) 1 := ⟨am_word (k := 1327) (by decide +kernel) rfl, am_word (k := 90) (by decide +kernel) rfl, by decide +kernel, by decide⟩
theorem kv_X11_askOf : am_KV yX11_askOf 11 := ⟨am_word (k := 1326) (by decide +kernel) rfl, am_word (k := 71) (by decide +kernel) rfl, _, _, rfl⟩
theorem ky_X11_ask : am_Ky yX11_ask cX11_ask 2 (some .int) 1 := ⟨am_word (k := 1323) (by decide +kernel) rfl, am_word (k := 90) (by decide +kernel) rfl, by decide +kernel, by decide⟩
theorem kv_X11_ask : am_KV yX11_ask 11 := ⟨am_word (k := 1321) (by decide +kernel) rfl, am_word (k := 1322) (by decide +kernel) rfl, _, _, rfl⟩
theorem ky_X11_riskOf : am_Ky yX11_riskOf cX11_riskOf 11 (some .long) 4 := ⟨am_word (k := 1336) (by decide +kernel) rfl, am_word (k := 90) (by decide +kernel) rfl, by decide +kernel, by decide⟩
theorem kv_X11_riskOf : am_KV yX11_riskOf 11 := ⟨am_word (k := 1335) (by decide +kernel) rfl, am_word (k := 72) (by decide +kernel) rfl, _, _, rfl⟩
theorem ky_X11_risk : am_Ky yX11_risk cX11_risk 5 (some .long) 4 := ⟨am_word (k := 1331) (by decide +kernel) rfl, am_word (k := 90) (by decide +kernel) rfl, by decide +kernel, by decide⟩
theorem kv_X11_risk : am_KV yX11_risk 11 := ⟨am_word (k := 1329) (by decide +kernel) rfl, am_word (k := 1330) (by decide +kernel) rfl, _, _, rfl⟩
theorem ky_X11_lot : am_Ky yX11_lot cX11_lot 2 (some .int) 1 := ⟨am_word (k := 1355) (by decide +kernel) rfl, am_word (k := 90) (by decide +kernel) rfl, by decide +kernel, by decide⟩
theorem kv_X11_lot : am_KV yX11_lot 11 := ⟨am_word (k := 1354) (by decide +kernel) rfl, am_word (k := 74) (by decide +kernel) rfl, _, _, rfl⟩
theorem ky_X11_centuryOf : am_Ky yX11_centuryOf cX11_centuryOf 9 (some .int) 3 := ⟨am_word (k := 1351) (by decide +kernel) rfl, am_word (k := 90) (by decide +kernel) rfl, by decide +kernel, by decide⟩
theorem kv_X11_centuryOf : am_KV yX11_centuryOf 11 := ⟨am_word (k := 1350) (by decide +kernel) rfl, am_word (k := 73) (by decide +kernel) rfl, _, _, rfl⟩
theorem ky_X11_century : am_Ky yX11_century cX11_century 4 (some .int) 3 := ⟨am_word (k := 1347) (by decide +kernel) rfl, am_word (k := 90) (by decide +kernel) rfl, by decide +kernel, by decide⟩
theorem kv_X11_century : am_KV yX11_century 11 := ⟨am_word (k := 1345) (by decide +kernel) rfl, am_word (k := 1346) (by decide +kernel) rfl, _, _, rfl⟩
theorem ky_X11_write : am_Ky yX11_write cX11_write 5 (some .int) 2 := ⟨am_word (k := 1363) (by decide +kernel) rfl, am_word (k := 90) (by decide +kernel) rfl, by decide +kernel, by decide⟩
theorem kv_X11_write : am_KV yX11_write 11 := ⟨am_word (k := 1361) (by decide +kernel) rfl, am_word (k := 1362) (by decide +kernel) rfl, _, _, rfl⟩
theorem ky_X11_count : am_Ky yX11_count cX11_count 2 (some .int) 1 := ⟨am_word (k := 1370) (by decide +kernel) rfl, am_word (k := 90) (by decide +kernel) rfl, by decide +kernel, by decide⟩
theorem kv_X11_count : am_KV yX11_count 11 := ⟨am_word (k := 1368) (by decide +kernel) rfl, am_word (k := 1369) (by decide +kernel) rfl, _, _, rfl⟩
theorem ky_X11_tellsHour : am_Ky yX11_tellsHour cX11_tellsHour 7 (some .long) 3 := ⟨am_word (k := 1385) (by decide +kernel) rfl, am_word (k := 90) (by decide +kernel) rfl, by decide +kernel, by decide⟩
theorem kv_X11_tellsHour : am_KV yX11_tellsHour 11 := ⟨am_word (k := 1384) (by decide +kernel) rfl, am_word (k := 76) (by decide +kernel) rfl, _, _, rfl⟩
theorem ky_X11_tellsStrand : am_Ky yX11_tellsStrand cX11_tellsStrand 7 (some .long) 2 := ⟨am_word (k := 1381) (by decide +kernel) rfl, am_word (k := 90) (by decide +kernel) rfl, by decide +kernel, by decide⟩
theorem kv_X11_tellsStrand : am_KV yX11_tellsStrand 11 := ⟨am_word (k := 1380) (by decide +kernel) rfl, am_word (k := 75) (by decide +kernel) rfl, _, _, rfl⟩
theorem ky_X11_digest : am_Ky yX11_digest cX11_digest 4 (some .long) 0 := ⟨am_word (k := 1374) (by decide +kernel) rfl, am_word (k := 90) (by decide +kernel) rfl, by decide +kernel, by decide⟩
theorem kv_X11_digest : am_KV yX11_digest 11 := ⟨am_word (k := 1372) (by decide +kernel) rfl, am_word (k := 1373) (by decide +kernel) rfl, _, _, rfl⟩
end
section
/-! methods as forms, by program (gen.py, mkm.py): x_ the form, g_ and f_ the meaning, sd_ the contract -/
abbrev S_X10_textOf : am_S := (ShX, cX10_textOf, 2, 0, RX10)
set_option maxRecDepth 100000 in
noncomputable def x_X10_textOf : am_SP S_X10_textOf := (t_rt .areturn (x_c (c_z .eq (x_iln 1)) (x_gf 16 10 0 361 kg_10_0 (x_aln 0)) (x_c (c_2 .eq (x_iln 1) (x_ic 1 1 (by decide))) (x_gf 20 10 1 362 kg_10_1 (x_aln 0)) (x_gf 23 10 2 363 kg_10_2 (x_aln 0)))))
noncomputable def g_X10_textOf : am_T := (s_rt .areturn (e_c (b_z .eq (e_li 1)) (e_gf ShX 10 0 (e_lr 0)) (e_c (b_2 .eq (e_li 1) (e_i 1)) (e_gf ShX 10 1 (e_lr 0)) (e_gf ShX 10 2 (e_lr 0)))))
noncomputable def f_X10_textOf : am_F := am_fn 2 (some (.object "WrackDeeds$Text")) g_X10_textOf
set_option maxRecDepth 100000 in
theorem sd_X10_textOf : am_Sd ShX yX10_textOf cX10_textOf 2 (some (.object "WrackDeeds$Text")) 0 f_X10_textOf := am_meth (y := yX10_textOf) (ret := (some (.object "WrackDeeds$Text"))) x_X10_textOf (by decide) (by decide +kernel) (by decide +kernel)
abbrev S_X10_within : am_S := (ShX, cX10_within, 2, 0, RX10)
set_option maxRecDepth 100000 in
noncomputable def x_X10_within : am_SP S_X10_within := (t_rt .ireturn (x_c (c_and (c_z .ge (x_iln 0)) (c_2 .lt (x_iln 0) (x_iln 1))) (x_ic 1 1 (by decide)) (x_ic 0 0 (by decide))))
noncomputable def g_X10_within : am_T := (s_rt .ireturn (e_c (b_and (b_z .ge (e_li 0)) (b_2 .lt (e_li 0) (e_li 1))) (e_i 1) (e_i 0)))
noncomputable def f_X10_within : am_F := am_fn 2 (some .boolean) g_X10_within
set_option maxRecDepth 100000 in
theorem sd_X10_within : am_Sd ShX yX10_within cX10_within 2 (some .boolean) 0 f_X10_within := am_meth (y := yX10_within) (ret := (some .boolean)) x_X10_within (by decide) (by decide +kernel) (by decide +kernel)
abbrev S_X10_type : am_S := (ShX, cX10_type, 4, 1, RX10)
set_option maxRecDepth 100000 in
noncomputable def x_X10_type : am_SP S_X10_type := (t_sq (t_if1 (c_or (c_not (c_z .ne (x_k _ _ (ic_S (S := S_X10_type) sd_X10_within ky_X10_within ks_X10_within (by decide) 103 417 none) (x_a1 (x_iln 1) (x_a1 (x_ic 3 3 (by decide)) x_a0))))) (c_not (c_z .ne (x_k _ _ (ic_S (S := S_X10_type) sd_X10_within ky_X10_within ks_X10_within (by decide) 103 417 none) (x_a1 (x_iln 2) (x_a1 (x_sp 256 256 (by decide)) x_a0)))))) (t_rt .ireturn (x_bp (-2) (-2) (by decide)))) (t_sq (t_asn 3 (x_k _ _ (ic_V (S := S_X10_type) sd_X10_textOf ky_X10_textOf kv_X10_textOf (by decide) 107 420 none) (x_a1 (x_aln 0) (x_a1 (x_iln 1) x_a0)))) (t_sq (t_if1 (c_2 .ge (x_gf 111 7 2 118 kg_7_2 (x_aln 3)) (x_gf 114 7 1 116 kg_7_1 (x_aln 3))) (t_rt .ireturn (x_bp (-4) (-4) (by decide)))) (t_sq (t_ia (x_gf 117 7 0 113 kg_7_0 (x_aln 3)) (x_gf 111 7 2 118 kg_7_2 (x_aln 3)) (x_iln 2)) (t_sq (t_po 111 7 2 118 118 false kp_7_2 _ _ ib_iadd (x_aln 3) (x_ic 1 1 (by decide))) (t_sq (t_pf 99 10 16 377 true kp_10_16 (x_aln 0) (x_ic 1 1 (by decide))) (t_rt .ireturn (x_gf 111 7 2 118 kg_7_2 (x_aln 3)))))))))
noncomputable def g_X10_type : am_T := (s_sq (s_if (b_or (b_not (b_z .ne (e_k (am_cs 2 f_X10_within) (a_1 (e_li 1) (a_1 (e_i 3) a_0))))) (b_not (b_z .ne (e_k (am_cs 2 f_X10_within) (a_1 (e_li 2) (a_1 (e_i 256) a_0)))))) (s_rt .ireturn (e_i (-2))) s_0) (s_sq (s_as (o_sr 4 3) (e_k (am_cl ShX 10 1 f_X10_textOf) (a_1 (e_lr 0) (a_1 (e_li 1) a_0)))) (s_sq (s_if (b_2 .ge (e_gf ShX 7 2 (e_lr 3)) (e_gf ShX 7 1 (e_lr 3))) (s_rt .ireturn (e_i (-4))) s_0) (s_sq (s_ia ShX (e_gf ShX 7 0 (e_lr 3)) (e_gf ShX 7 2 (e_lr 3)) (e_li 2)) (s_sq (s_po ShX 7 2 false o_iadd (e_lr 3) (e_i 1)) (s_sq (s_pf ShX 10 16 true (e_lr 0) (e_i 1)) (s_rt .ireturn (e_gf ShX 7 2 (e_lr 3)))))))))
noncomputable def f_X10_type : am_F := am_fn 4 (some .int) g_X10_type
set_option maxRecDepth 100000 in
theorem sd_X10_type : am_Sd ShX yX10_type cX10_type 4 (some .int) 1 f_X10_type := am_meth (y := yX10_type) (ret := (some .int)) x_X10_type (by decide) (by decide +kernel) (by decide +kernel)
abbrev S_X10_wipe : am_S := (ShX, cX10_wipe, 4, 1, RX10)
set_option maxRecDepth 100000 in
noncomputable def x_X10_wipe : am_SP S_X10_wipe := (t_sq (t_if1 (c_not (c_z .ne (x_k _ _ (ic_S (S := S_X10_wipe) sd_X10_within ky_X10_within ks_X10_within (by decide) 103 417 none) (x_a1 (x_iln 1) (x_a1 (x_ic 3 3 (by decide)) x_a0))))) (t_rt .ireturn (x_bp (-2) (-2) (by decide)))) (t_sq (t_asn 2 (x_k _ _ (ic_V (S := S_X10_wipe) sd_X10_textOf ky_X10_textOf kv_X10_textOf (by decide) 107 420 none) (x_a1 (x_aln 0) (x_a1 (x_iln 1) x_a0)))) (t_sq (t_isn 3 (x_gf 111 7 2 118 kg_7_2 (x_aln 2))) (t_sq (t_pf 111 7 2 118 false kp_7_2 (x_aln 2) (x_ic 0 0 (by decide))) (t_sq (t_pf 99 10 16 377 true kp_10_16 (x_aln 0) (x_ic 1 1 (by decide))) (t_rt .ireturn (x_iln 3)))))))
noncomputable def g_X10_wipe : am_T := (s_sq (s_if (b_not (b_z .ne (e_k (am_cs 2 f_X10_within) (a_1 (e_li 1) (a_1 (e_i 3) a_0))))) (s_rt .ireturn (e_i (-2))) s_0) (s_sq (s_as (o_sr 4 2) (e_k (am_cl ShX 10 1 f_X10_textOf) (a_1 (e_lr 0) (a_1 (e_li 1) a_0)))) (s_sq (s_as (o_si 4 3) (e_gf ShX 7 2 (e_lr 2))) (s_sq (s_pf ShX 7 2 false (e_lr 2) (e_i 0)) (s_sq (s_pf ShX 10 16 true (e_lr 0) (e_i 1)) (s_rt .ireturn (e_li 3)))))))
noncomputable def f_X10_wipe : am_F := am_fn 4 (some .int) g_X10_wipe
set_option maxRecDepth 100000 in
theorem sd_X10_wipe : am_Sd ShX yX10_wipe cX10_wipe 4 (some .int) 1 f_X10_wipe := am_meth (y := yX10_wipe) (ret := (some .int)) x_X10_wipe (by decide) (by decide +kernel) (by decide +kernel)
abbrev S_X10_undo : am_S := (ShX, cX10_undo, 3, 1, RX10)
set_option maxRecDepth 100000 in
noncomputable def x_X10_undo : am_SP S_X10_undo := (t_sq (t_if1 (c_not (c_z .ne (x_k _ _ (ic_S (S := S_X10_undo) sd_X10_within ky_X10_within ks_X10_within (by decide) 103 417 none) (x_a1 (x_iln 1) (x_a1 (x_ic 3 3 (by decide)) x_a0))))) (t_rt .ireturn (x_bp (-2) (-2) (by decide)))) (t_sq (t_asn 2 (x_k _ _ (ic_V (S := S_X10_undo) sd_X10_textOf ky_X10_textOf kv_X10_textOf (by decide) 107 420 none) (x_a1 (x_aln 0) (x_a1 (x_iln 1) x_a0)))) (t_sq (t_if1 (c_z .eq (x_gf 111 7 2 118 kg_7_2 (x_aln 2))) (t_rt .ireturn (x_bp (-3) (-3) (by decide)))) (t_sq (t_po 111 7 2 118 118 false kp_7_2 _ _ ib_isub (x_aln 2) (x_ic 1 1 (by decide))) (t_sq (t_pf 99 10 16 377 true kp_10_16 (x_aln 0) (x_ic 1 1 (by decide))) (t_rt .ireturn (x_gf 111 7 2 118 kg_7_2 (x_aln 2))))))))
noncomputable def g_X10_undo : am_T := (s_sq (s_if (b_not (b_z .ne (e_k (am_cs 2 f_X10_within) (a_1 (e_li 1) (a_1 (e_i 3) a_0))))) (s_rt .ireturn (e_i (-2))) s_0) (s_sq (s_as (o_sr 3 2) (e_k (am_cl ShX 10 1 f_X10_textOf) (a_1 (e_lr 0) (a_1 (e_li 1) a_0)))) (s_sq (s_if (b_z .eq (e_gf ShX 7 2 (e_lr 2))) (s_rt .ireturn (e_i (-3))) s_0) (s_sq (s_po ShX 7 2 false o_isub (e_lr 2) (e_i 1)) (s_sq (s_pf ShX 10 16 true (e_lr 0) (e_i 1)) (s_rt .ireturn (e_gf ShX 7 2 (e_lr 2))))))))
noncomputable def f_X10_undo : am_F := am_fn 3 (some .int) g_X10_undo
set_option maxRecDepth 100000 in
theorem sd_X10_undo : am_Sd ShX yX10_undo cX10_undo 3 (some .int) 1 f_X10_undo := am_meth (y := yX10_undo) (ret := (some .int)) x_X10_undo (by decide) (by decide +kernel) (by decide +kernel)
abbrev S_X0_chainOf : am_S := (ShX, cX0_chainOf, 5, 0, RX0)
set_option maxRecDepth 100000 in
noncomputable def x_X0_chainOf : am_SP S_X0_chainOf := (t_sq (t_isn 2 (x_ic 0 0 (by decide))) (t_sq (t_isn 3 (x_iln 1)) (t_sq (t_bk (t_sq (t_is 4 (x_ic 0 0 (by decide))) (t_lp (c_and (c_2 .lt (x_il 4) (x_bp 8 8 (by decide))) (c_2 .ne (x_iln 3) (x_ic (-1) (-1) (by decide)))) (t_sq (t_sq (t_isn 2 (x_ior (x_iln 2) (x_ishl (x_ic 1 1 (by decide)) (x_iln 3)))) (t_isn 3 (x_ald (x_gf 24 0 5 150 kg_0_5 (x_aln 0)) (x_iln 3)))) (t_inc 4 1 1 (by decide)))))) (t_rt .ireturn (x_iln 2)))))
noncomputable def g_X0_chainOf : am_T := (s_sq (s_as (o_si 5 2) (e_i 0)) (s_sq (s_as (o_si 5 3) (e_li 1)) (s_sq (s_bk (s_sq (s_as (o_si 5 4) (e_i 0)) (s_lp (b_and (b_2 .lt (e_li 4) (e_i 8)) (b_2 .ne (e_li 3) (e_i (-1)))) (s_sq (s_sq (s_as (o_si 5 2) (e_b o_ior (e_li 2) (e_b o_ishl (e_i 1) (e_li 3)))) (s_as (o_si 5 3) (e_ald ShX (e_gf ShX 0 5 (e_lr 0)) (e_li 3)))) (s_inc 5 4 1))))) (s_rt .ireturn (e_li 2)))))
noncomputable def f_X0_chainOf : am_F := am_fn 5 (some .int) g_X0_chainOf
set_option maxRecDepth 100000 in
theorem sd_X0_chainOf : am_Sd ShX yX0_chainOf cX0_chainOf 5 (some .int) 0 f_X0_chainOf := am_meth (y := yX0_chainOf) (ret := (some .int)) x_X0_chainOf (by decide) (by decide +kernel) (by decide +kernel)
abbrev S_X0_bladderOf : am_S := (ShX, cX0_bladderOf, 3, 0, RX0)
set_option maxRecDepth 100000 in
noncomputable def x_X0_bladderOf : am_SP S_X0_bladderOf := (t_rt .ireturn (x_ald (x_gf 21 0 4 149 kg_0_4 (x_aln 0)) (x_iadd (x_imul (x_iln 1) (x_bp 6 6 (by decide))) (x_iln 2))))
noncomputable def g_X0_bladderOf : am_T := (s_rt .ireturn (e_ald ShX (e_gf ShX 0 4 (e_lr 0)) (e_b o_iadd (e_b o_imul (e_li 1) (e_i 6)) (e_li 2))))
noncomputable def f_X0_bladderOf : am_F := am_fn 3 (some .int) g_X0_bladderOf
set_option maxRecDepth 100000 in
theorem sd_X0_bladderOf : am_Sd ShX yX0_bladderOf cX0_bladderOf 3 (some .int) 0 f_X0_bladderOf := am_meth (y := yX0_bladderOf) (ret := (some .int)) x_X0_bladderOf (by decide) (by decide +kernel) (by decide +kernel)
abbrev S_X0_onOf : am_S := (ShX, cX0_onOf, 4, 1, RX0)
set_option maxRecDepth 100000 in
noncomputable def x_X0_onOf : am_SP S_X0_onOf := (t_sq (t_if1 (c_2 .lt (x_ald (x_gf 18 0 3 147 kg_0_3 (x_aln 0)) (x_iln 1)) (x_ic 1 1 (by decide))) (t_rt .ireturn (x_ic (-1) (-1) (by decide)))) (t_sq (t_isn 2 (x_k _ _ (ic_V (S := S_X0_onOf) sd_X0_bladderOf ky_X0_bladderOf kv_X0_bladderOf (by decide) 63 468 none) (x_a1 (x_aln 0) (x_a1 (x_iln 1) (x_a1 (x_isub (x_ald (x_gf 18 0 3 147 kg_0_3 (x_aln 0)) (x_iln 1)) (x_ic 1 1 (by decide))) x_a0))))) (t_sq (t_bk (t_sq (t_isn 3 (x_ic 0 0 (by decide))) (t_lp (c_2 .lt (x_iln 3) (x_gf 30 0 0 139 kg_0_0 (x_aln 0))) (t_sq (t_if1 (c_and (c_2 .ne (x_iln 3) (x_iln 1)) (c_2 .eq (x_k _ _ (ic_V (S := S_X0_onOf) sd_X0_bladderOf ky_X0_bladderOf kv_X0_bladderOf (by decide) 63 468 none) (x_a1 (x_aln 0) (x_a1 (x_iln 3) (x_a1 (x_ic 0 0 (by decide)) x_a0)))) (x_iln 2))) (t_rt .ireturn (x_iln 3))) (t_inc 3 1 1 (by decide)))))) (t_rt .ireturn (x_ic (-1) (-1) (by decide))))))
noncomputable def g_X0_onOf : am_T := (s_sq (s_if (b_2 .lt (e_ald ShX (e_gf ShX 0 3 (e_lr 0)) (e_li 1)) (e_i 1)) (s_rt .ireturn (e_i (-1))) s_0) (s_sq (s_as (o_si 4 2) (e_k (am_cl ShX 0 2 f_X0_bladderOf) (a_1 (e_lr 0) (a_1 (e_li 1) (a_1 (e_b o_isub (e_ald ShX (e_gf ShX 0 3 (e_lr 0)) (e_li 1)) (e_i 1)) a_0))))) (s_sq (s_bk (s_sq (s_as (o_si 4 3) (e_i 0)) (s_lp (b_2 .lt (e_li 3) (e_gf ShX 0 0 (e_lr 0))) (s_sq (s_if (b_and (b_2 .ne (e_li 3) (e_li 1)) (b_2 .eq (e_k (am_cl ShX 0 2 f_X0_bladderOf) (a_1 (e_lr 0) (a_1 (e_li 3) (a_1 (e_i 0) a_0)))) (e_li 2))) (s_rt .ireturn (e_li 3)) s_0) (s_inc 4 3 1))))) (s_rt .ireturn (e_i (-1))))))
noncomputable def f_X0_onOf : am_F := am_fn 4 (some .int) g_X0_onOf
set_option maxRecDepth 100000 in
theorem sd_X0_onOf : am_Sd ShX yX0_onOf cX0_onOf 4 (some .int) 1 f_X0_onOf := am_meth (y := yX0_onOf) (ret := (some .int)) x_X0_onOf (by decide) (by decide +kernel) (by decide +kernel)
abbrev S_X0_linkAll : am_S := (ShX, cX0_linkAll, 2, 2, RX0)
set_option maxRecDepth 100000 in
noncomputable def x_X0_linkAll : am_SP S_X0_linkAll := (t_sq (t_bk (t_sq (t_isn 1 (x_ic 0 0 (by decide))) (t_lp (c_2 .lt (x_iln 1) (x_gf 30 0 0 139 kg_0_0 (x_aln 0))) (t_sq (t_ia (x_gf 24 0 5 150 kg_0_5 (x_aln 0)) (x_iln 1) (x_k _ _ (ic_V (S := S_X0_linkAll) sd_X0_onOf ky_X0_onOf kv_X0_onOf (by decide) 56 464 none) (x_a1 (x_aln 0) (x_a1 (x_iln 1) x_a0)))) (t_inc 1 1 1 (by decide)))))) (t_sq (t_bk (t_sq (t_isn 1 (x_ic 0 0 (by decide))) (t_lp (c_2 .lt (x_iln 1) (x_gf 30 0 0 139 kg_0_0 (x_aln 0))) (t_sq (t_ia (x_gf 27 0 6 152 kg_0_6 (x_aln 0)) (x_iln 1) (x_k _ _ (ic_V (S := S_X0_linkAll) sd_X0_chainOf ky_X0_chainOf kv_X0_chainOf (by decide) 60 472 none) (x_a1 (x_aln 0) (x_a1 (x_iln 1) x_a0)))) (t_inc 1 1 1 (by decide)))))) t_rv))
noncomputable def g_X0_linkAll : am_T := (s_sq (s_bk (s_sq (s_as (o_si 2 1) (e_i 0)) (s_lp (b_2 .lt (e_li 1) (e_gf ShX 0 0 (e_lr 0))) (s_sq (s_ia ShX (e_gf ShX 0 5 (e_lr 0)) (e_li 1) (e_k (am_cl ShX 0 1 f_X0_onOf) (a_1 (e_lr 0) (a_1 (e_li 1) a_0)))) (s_inc 2 1 1))))) (s_sq (s_bk (s_sq (s_as (o_si 2 1) (e_i 0)) (s_lp (b_2 .lt (e_li 1) (e_gf ShX 0 0 (e_lr 0))) (s_sq (s_ia ShX (e_gf ShX 0 6 (e_lr 0)) (e_li 1) (e_k (am_cl ShX 0 1 f_X0_chainOf) (a_1 (e_lr 0) (a_1 (e_li 1) a_0)))) (s_inc 2 1 1))))) s_rv))
noncomputable def f_X0_linkAll : am_F := am_fn 2 none g_X0_linkAll
set_option maxRecDepth 100000 in
theorem sd_X0_linkAll : am_Sd ShX yX0_linkAll cX0_linkAll 2 none 2 f_X0_linkAll := am_meth (y := yX0_linkAll) (ret := none) x_X0_linkAll (by decide) (by decide +kernel) (by decide +kernel)
abbrev S_X0_takesBladder : am_S := (ShX, cX0_takesBladder, 2, 0, RX0)
set_option maxRecDepth 100000 in
noncomputable def x_X0_takesBladder : am_SP S_X0_takesBladder := (t_sq (t_if1 (c_or (c_or (c_or (c_2 .lt (x_iln 1) (x_bp 97 97 (by decide))) (c_2 .gt (x_iln 1) (x_bp 100 100 (by decide)))) (c_2 .ge (x_isub (x_gf 34 0 7 154 kg_0_7 (x_aln 0)) (x_ic 2 2 (by decide))) (x_bp 6 6 (by decide)))) (c_2 .lt (x_gf 30 0 0 139 kg_0_0 (x_aln 0)) (x_ic 1 1 (by decide)))) (t_rt .ireturn (x_ic 0 0 (by decide)))) (t_sq (t_ia (x_gf 21 0 4 149 kg_0_4 (x_aln 0)) (x_isub (x_iadd (x_imul (x_isub (x_gf 30 0 0 139 kg_0_0 (x_aln 0)) (x_ic 1 1 (by decide))) (x_bp 6 6 (by decide))) (x_gf 34 0 7 154 kg_0_7 (x_aln 0))) (x_ic 2 2 (by decide))) (x_isub (x_iln 1) (x_bp 97 97 (by decide)))) (t_sq (t_ia (x_gf 18 0 3 147 kg_0_3 (x_aln 0)) (x_isub (x_gf 30 0 0 139 kg_0_0 (x_aln 0)) (x_ic 1 1 (by decide))) (x_isub (x_gf 34 0 7 154 kg_0_7 (x_aln 0)) (x_ic 1 1 (by decide)))) (t_sq (t_po 34 0 7 154 154 false kp_0_7 _ _ ib_iadd (x_aln 0) (x_ic 1 1 (by decide))) (t_rt .ireturn (x_ic 1 1 (by decide)))))))
noncomputable def g_X0_takesBladder : am_T := (s_sq (s_if (b_or (b_or (b_or (b_2 .lt (e_li 1) (e_i 97)) (b_2 .gt (e_li 1) (e_i 100))) (b_2 .ge (e_b o_isub (e_gf ShX 0 7 (e_lr 0)) (e_i 2)) (e_i 6))) (b_2 .lt (e_gf ShX 0 0 (e_lr 0)) (e_i 1))) (s_rt .ireturn (e_i 0)) s_0) (s_sq (s_ia ShX (e_gf ShX 0 4 (e_lr 0)) (e_b o_isub (e_b o_iadd (e_b o_imul (e_b o_isub (e_gf ShX 0 0 (e_lr 0)) (e_i 1)) (e_i 6)) (e_gf ShX 0 7 (e_lr 0))) (e_i 2)) (e_b o_isub (e_li 1) (e_i 97))) (s_sq (s_ia ShX (e_gf ShX 0 3 (e_lr 0)) (e_b o_isub (e_gf ShX 0 0 (e_lr 0)) (e_i 1)) (e_b o_isub (e_gf ShX 0 7 (e_lr 0)) (e_i 1))) (s_sq (s_po ShX 0 7 false o_iadd (e_lr 0) (e_i 1)) (s_rt .ireturn (e_i 1))))))
noncomputable def f_X0_takesBladder : am_F := am_fn 2 (some .boolean) g_X0_takesBladder
set_option maxRecDepth 100000 in
theorem sd_X0_takesBladder : am_Sd ShX yX0_takesBladder cX0_takesBladder 2 (some .boolean) 0 f_X0_takesBladder := am_meth (y := yX0_takesBladder) (ret := (some .boolean)) x_X0_takesBladder (by decide) (by decide +kernel) (by decide +kernel)
abbrev S_X0_takesFigure : am_S := (ShX, cX0_takesFigure, 2, 0, RX0)
set_option maxRecDepth 100000 in
noncomputable def x_X0_takesFigure : am_SP S_X0_takesFigure := (t_sq (t_if1 (c_or (c_or (c_2 .ge (x_gf 30 0 0 139 kg_0_0 (x_aln 0)) (x_bp 8 8 (by decide))) (c_2 .lt (x_iln 1) (x_bp 48 48 (by decide)))) (c_2 .gt (x_iln 1) (x_bp 57 57 (by decide)))) (t_rt .ireturn (x_ic 0 0 (by decide)))) (t_sq (t_ia (x_gf 9 0 1 141 kg_0_1 (x_aln 0)) (x_gf 30 0 0 139 kg_0_0 (x_aln 0)) (x_isub (x_iln 1) (x_bp 48 48 (by decide)))) (t_sq (t_ia (x_gf 18 0 3 147 kg_0_3 (x_aln 0)) (x_gf 30 0 0 139 kg_0_0 (x_aln 0)) (x_ic 0 0 (by decide))) (t_sq (t_po 30 0 0 139 139 false kp_0_0 _ _ ib_iadd (x_aln 0) (x_ic 1 1 (by decide))) (t_sq (t_pf 34 0 7 154 false kp_0_7 (x_aln 0) (x_ic 1 1 (by decide))) (t_rt .ireturn (x_ic 1 1 (by decide))))))))
noncomputable def g_X0_takesFigure : am_T := (s_sq (s_if (b_or (b_or (b_2 .ge (e_gf ShX 0 0 (e_lr 0)) (e_i 8)) (b_2 .lt (e_li 1) (e_i 48))) (b_2 .gt (e_li 1) (e_i 57))) (s_rt .ireturn (e_i 0)) s_0) (s_sq (s_ia ShX (e_gf ShX 0 1 (e_lr 0)) (e_gf ShX 0 0 (e_lr 0)) (e_b o_isub (e_li 1) (e_i 48))) (s_sq (s_ia ShX (e_gf ShX 0 3 (e_lr 0)) (e_gf ShX 0 0 (e_lr 0)) (e_i 0)) (s_sq (s_po ShX 0 0 false o_iadd (e_lr 0) (e_i 1)) (s_sq (s_pf ShX 0 7 false (e_lr 0) (e_i 1)) (s_rt .ireturn (e_i 1)))))))
noncomputable def f_X0_takesFigure : am_F := am_fn 2 (some .boolean) g_X0_takesFigure
set_option maxRecDepth 100000 in
theorem sd_X0_takesFigure : am_Sd ShX yX0_takesFigure cX0_takesFigure 2 (some .boolean) 0 f_X0_takesFigure := am_meth (y := yX0_takesFigure) (ret := (some .boolean)) x_X0_takesFigure (by decide) (by decide +kernel) (by decide +kernel)
abbrev S_X0_takesKind : am_S := (ShX, cX0_takesKind, 3, 0, RX0)
set_option maxRecDepth 100000 in
noncomputable def x_X0_takesKind : am_SP S_X0_takesKind := (t_sq (t_isn 2 (x_c (c_2 .eq (x_iln 1) (x_bp 119 119 (by decide))) (x_ic 0 0 (by decide)) (x_c (c_2 .eq (x_iln 1) (x_bp 107 107 (by decide))) (x_ic 1 1 (by decide)) (x_c (c_2 .eq (x_iln 1) (x_bp 100 100 (by decide))) (x_ic 2 2 (by decide)) (x_ic (-1) (-1) (by decide)))))) (t_sq (t_if1 (c_or (c_2 .eq (x_iln 2) (x_ic (-1) (-1) (by decide))) (c_2 .lt (x_gf 30 0 0 139 kg_0_0 (x_aln 0)) (x_ic 1 1 (by decide)))) (t_rt .ireturn (x_ic 0 0 (by decide)))) (t_sq (t_ia (x_gf 15 0 2 144 kg_0_2 (x_aln 0)) (x_isub (x_gf 30 0 0 139 kg_0_0 (x_aln 0)) (x_ic 1 1 (by decide))) (x_iln 2)) (t_sq (t_pf 34 0 7 154 false kp_0_7 (x_aln 0) (x_ic 2 2 (by decide))) (t_rt .ireturn (x_ic 1 1 (by decide)))))))
noncomputable def g_X0_takesKind : am_T := (s_sq (s_as (o_si 3 2) (e_c (b_2 .eq (e_li 1) (e_i 119)) (e_i 0) (e_c (b_2 .eq (e_li 1) (e_i 107)) (e_i 1) (e_c (b_2 .eq (e_li 1) (e_i 100)) (e_i 2) (e_i (-1)))))) (s_sq (s_if (b_or (b_2 .eq (e_li 2) (e_i (-1))) (b_2 .lt (e_gf ShX 0 0 (e_lr 0)) (e_i 1))) (s_rt .ireturn (e_i 0)) s_0) (s_sq (s_ia ShX (e_gf ShX 0 2 (e_lr 0)) (e_b o_isub (e_gf ShX 0 0 (e_lr 0)) (e_i 1)) (e_li 2)) (s_sq (s_pf ShX 0 7 false (e_lr 0) (e_i 2)) (s_rt .ireturn (e_i 1))))))
noncomputable def f_X0_takesKind : am_F := am_fn 3 (some .boolean) g_X0_takesKind
set_option maxRecDepth 100000 in
theorem sd_X0_takesKind : am_Sd ShX yX0_takesKind cX0_takesKind 3 (some .boolean) 0 f_X0_takesKind := am_meth (y := yX0_takesKind) (ret := (some .boolean)) x_X0_takesKind (by decide) (by decide +kernel) (by decide +kernel)
abbrev S_X0_takes : am_S := (ShX, cX0_takes, 2, 1, RX0)
set_option maxRecDepth 100000 in
noncomputable def x_X0_takes : am_SP S_X0_takes := (t_sq (t_if1 (c_z .eq (x_gf 34 0 7 154 kg_0_7 (x_aln 0))) (t_rt .ireturn (x_k _ _ (ic_V (S := S_X0_takes) sd_X0_takesFigure ky_X0_takesFigure kv_X0_takesFigure (by decide) 47 448 none) (x_a1 (x_aln 0) (x_a1 (x_iln 1) x_a0))))) (t_sq (t_if1 (c_2 .eq (x_gf 34 0 7 154 kg_0_7 (x_aln 0)) (x_ic 1 1 (by decide))) (t_rt .ireturn (x_k _ _ (ic_V (S := S_X0_takes) sd_X0_takesKind ky_X0_takesKind kv_X0_takesKind (by decide) 50 452 none) (x_a1 (x_aln 0) (x_a1 (x_iln 1) x_a0))))) (t_sq (t_if1 (c_and (c_2 .eq (x_iln 1) (x_bp 59 59 (by decide))) (c_2 .gt (x_gf 34 0 7 154 kg_0_7 (x_aln 0)) (x_ic 2 2 (by decide)))) (t_sq (t_pf 34 0 7 154 false kp_0_7 (x_aln 0) (x_ic 0 0 (by decide))) (t_rt .ireturn (x_ic 1 1 (by decide))))) (t_rt .ireturn (x_k _ _ (ic_V (S := S_X0_takes) sd_X0_takesBladder ky_X0_takesBladder kv_X0_takesBladder (by decide) 53 456 none) (x_a1 (x_aln 0) (x_a1 (x_iln 1) x_a0)))))))
noncomputable def g_X0_takes : am_T := (s_sq (s_if (b_z .eq (e_gf ShX 0 7 (e_lr 0))) (s_rt .ireturn (e_k (am_cl ShX 0 1 f_X0_takesFigure) (a_1 (e_lr 0) (a_1 (e_li 1) a_0)))) s_0) (s_sq (s_if (b_2 .eq (e_gf ShX 0 7 (e_lr 0)) (e_i 1)) (s_rt .ireturn (e_k (am_cl ShX 0 1 f_X0_takesKind) (a_1 (e_lr 0) (a_1 (e_li 1) a_0)))) s_0) (s_sq (s_if (b_and (b_2 .eq (e_li 1) (e_i 59)) (b_2 .gt (e_gf ShX 0 7 (e_lr 0)) (e_i 2))) (s_sq (s_pf ShX 0 7 false (e_lr 0) (e_i 0)) (s_rt .ireturn (e_i 1))) s_0) (s_rt .ireturn (e_k (am_cl ShX 0 1 f_X0_takesBladder) (a_1 (e_lr 0) (a_1 (e_li 1) a_0)))))))
noncomputable def f_X0_takes : am_F := am_fn 2 (some .boolean) g_X0_takes
set_option maxRecDepth 100000 in
theorem sd_X0_takes : am_Sd ShX yX0_takes cX0_takes 2 (some .boolean) 1 f_X0_takes := am_meth (y := yX0_takes) (ret := (some .boolean)) x_X0_takes (by decide) (by decide +kernel) (by decide +kernel)
abbrev S_X0_parse : am_S := (ShX, cX0_parse, 4, 2, RX0)
set_option maxRecDepth 100000 in
noncomputable def x_X0_parse : am_SP S_X0_parse := (t_sq (t_pf 30 0 0 139 false kp_0_0 (x_aln 0) (x_ic 0 0 (by decide))) (t_sq (t_pf 34 0 7 154 false kp_0_7 (x_aln 0) (x_ic 0 0 (by decide))) (t_sq (t_isn 2 (x_ic (-1) (-1) (by decide))) (t_sq (t_bk (t_sq (t_isn 3 (x_ic 0 0 (by decide))) (t_lp (c_and (c_2 .lt (x_iln 3) (x_gf 37 7 2 119 kg_7_2 (x_aln 1))) (c_2 .eq (x_iln 2) (x_ic (-1) (-1) (by decide)))) (t_sq (t_if1 (c_not (c_z .ne (x_k _ _ (ic_V (S := S_X0_parse) sd_X0_takes ky_X0_takes kv_X0_takes (by decide) 43 444 none) (x_a1 (x_aln 0) (x_a1 (x_ald (x_gf 40 7 0 114 kg_7_0 (x_aln 1)) (x_iln 3)) x_a0))))) (t_isn 2 (x_iln 3))) (t_inc 3 1 1 (by decide)))))) (t_sq (t_if1 (c_and (c_and (c_2 .eq (x_iln 2) (x_ic (-1) (-1) (by decide))) (c_z .gt (x_gf 37 7 2 119 kg_7_2 (x_aln 1)))) (c_2 .lt (x_gf 34 0 7 154 kg_0_7 (x_aln 0)) (x_ic 3 3 (by decide)))) (t_isn 2 (x_gf 37 7 2 119 kg_7_2 (x_aln 1)))) (t_sq (t_if1 (c_2 .ne (x_iln 2) (x_ic (-1) (-1) (by decide))) (t_pf 30 0 0 139 false kp_0_0 (x_aln 0) (x_ic 0 0 (by decide)))) (t_rt .ireturn (x_iln 2))))))))
noncomputable def g_X0_parse : am_T := (s_sq (s_pf ShX 0 0 false (e_lr 0) (e_i 0)) (s_sq (s_pf ShX 0 7 false (e_lr 0) (e_i 0)) (s_sq (s_as (o_si 4 2) (e_i (-1))) (s_sq (s_bk (s_sq (s_as (o_si 4 3) (e_i 0)) (s_lp (b_and (b_2 .lt (e_li 3) (e_gf ShX 7 2 (e_lr 1))) (b_2 .eq (e_li 2) (e_i (-1)))) (s_sq (s_if (b_not (b_z .ne (e_k (am_cl ShX 0 1 f_X0_takes) (a_1 (e_lr 0) (a_1 (e_ald ShX (e_gf ShX 7 0 (e_lr 1)) (e_li 3)) a_0))))) (s_as (o_si 4 2) (e_li 3)) s_0) (s_inc 4 3 1))))) (s_sq (s_if (b_and (b_and (b_2 .eq (e_li 2) (e_i (-1))) (b_z .gt (e_gf ShX 7 2 (e_lr 1)))) (b_2 .lt (e_gf ShX 0 7 (e_lr 0)) (e_i 3))) (s_as (o_si 4 2) (e_gf ShX 7 2 (e_lr 1))) s_0) (s_sq (s_if (b_2 .ne (e_li 2) (e_i (-1))) (s_pf ShX 0 0 false (e_lr 0) (e_i 0)) s_0) (s_rt .ireturn (e_li 2))))))))
noncomputable def f_X0_parse : am_F := am_fn 4 (some .int) g_X0_parse
set_option maxRecDepth 100000 in
theorem sd_X0_parse : am_Sd ShX yX0_parse cX0_parse 4 (some .int) 2 f_X0_parse := am_meth (y := yX0_parse) (ret := (some .int)) x_X0_parse (by decide) (by decide +kernel) (by decide +kernel)
abbrev S_X3_begin : am_S := (ShX, cX3_begin, 3, 0, RX3)
set_option maxRecDepth 100000 in
noncomputable def x_X3_begin : am_SP S_X3_begin := (t_sq (t_pf 18 3 2 225 false kp_3_2 (x_aln 0) (x_iln 1)) (t_sq (t_pf 22 3 3 226 false kp_3_3 (x_aln 0) (x_iln 2)) (t_sq (t_pf 25 3 4 227 true kp_3_4 (x_aln 0) (x_ic 0 0 (by decide))) t_rv)))
noncomputable def g_X3_begin : am_T := (s_sq (s_pf ShX 3 2 false (e_lr 0) (e_li 1)) (s_sq (s_pf ShX 3 3 false (e_lr 0) (e_li 2)) (s_sq (s_pf ShX 3 4 true (e_lr 0) (e_i 0)) s_rv)))
noncomputable def f_X3_begin : am_F := am_fn 3 none g_X3_begin
set_option maxRecDepth 100000 in
theorem sd_X3_begin : am_Sd ShX yX3_begin cX3_begin 3 none 0 f_X3_begin := am_meth (y := yX3_begin) (ret := none) x_X3_begin (by decide) (by decide +kernel) (by decide +kernel)
abbrev S_X10_stateAt : am_S := (ShX, cX10_stateAt, 3, 0, RX10)
set_option maxRecDepth 100000 in
noncomputable def x_X10_stateAt : am_SP S_X10_stateAt := (t_sq (t_if1 (c_z .lt (x_iln 2)) (t_rt .ireturn (x_ic 0 0 (by decide)))) (t_sq (t_if1 (c_2 .gt (x_iln 2) (x_c (c_2 .eq (x_iln 0) (x_ic 1 1 (by decide))) (x_ic 4 4 (by decide)) (x_ic 2 2 (by decide)))) (t_rt .ireturn (x_ic 2 2 (by decide)))) (t_rt .ireturn (x_c (c_and (c_2 .eq (x_iln 0) (x_ic 2 2 (by decide))) (c_2 .lt (x_iln 1) (x_bp 10 10 (by decide)))) (x_ic 4 4 (by decide)) (x_ic 1 1 (by decide))))))
noncomputable def g_X10_stateAt : am_T := (s_sq (s_if (b_z .lt (e_li 2)) (s_rt .ireturn (e_i 0)) s_0) (s_sq (s_if (b_2 .gt (e_li 2) (e_c (b_2 .eq (e_li 0) (e_i 1)) (e_i 4) (e_i 2))) (s_rt .ireturn (e_i 2)) s_0) (s_rt .ireturn (e_c (b_and (b_2 .eq (e_li 0) (e_i 2)) (b_2 .lt (e_li 1) (e_i 10))) (e_i 4) (e_i 1)))))
noncomputable def f_X10_stateAt : am_F := am_fn 3 (some .int) g_X10_stateAt
set_option maxRecDepth 100000 in
theorem sd_X10_stateAt : am_Sd ShX yX10_stateAt cX10_stateAt 3 (some .int) 0 f_X10_stateAt := am_meth (y := yX10_stateAt) (ret := (some .int)) x_X10_stateAt (by decide) (by decide +kernel) (by decide +kernel)
abbrev S_X3_suffer : am_S := (ShX, cX3_suffer, 3, 0, RX3)
set_option maxRecDepth 100000 in
noncomputable def x_X3_suffer : am_SP S_X3_suffer := (t_sq (t_if2 (c_2 .eq (x_iln 1) (x_ic 1 1 (by decide))) (t_pf 25 3 4 227 true kp_3_4 (x_aln 0) (x_ic 1 1 (by decide))) (t_if1 (c_2 .eq (x_iln 1) (x_ic 2 2 (by decide))) (t_pf 18 3 2 225 false kp_3_2 (x_aln 0) (x_iln 2)))) t_rv)
noncomputable def g_X3_suffer : am_T := (s_sq (s_if (b_2 .eq (e_li 1) (e_i 1)) (s_pf ShX 3 4 true (e_lr 0) (e_i 1)) (s_if (b_2 .eq (e_li 1) (e_i 2)) (s_pf ShX 3 2 false (e_lr 0) (e_li 2)) s_0)) s_rv)
noncomputable def f_X3_suffer : am_F := am_fn 3 none g_X3_suffer
set_option maxRecDepth 100000 in
theorem sd_X3_suffer : am_Sd ShX yX3_suffer cX3_suffer 3 none 0 f_X3_suffer := am_meth (y := yX3_suffer) (ret := none) x_X3_suffer (by decide) (by decide +kernel) (by decide +kernel)
abbrev S_X3_live : am_S := (ShX, cX3_live, 7, 1, RX3)
set_option maxRecDepth 100000 in
noncomputable def x_X3_live : am_SP S_X3_live := (t_sq (t_bk (t_sq (t_is 5 (x_ic 0 0 (by decide))) (t_lp (c_2 .lt (x_il 5) (x_bp 20 20 (by decide))) (t_sq (t_sq (t_bk (t_sq (t_is 6 (x_ic 0 0 (by decide))) (t_lp (c_2 .lt (x_il 6) (x_gf 29 1 0 179 kg_1_0 (x_aln 3))) (t_sq (t_if1 (c_and (c_and (c_2 .eq (x_ald (x_gf 34 1 2 184 kg_1_2 (x_aln 3)) (x_il 6)) (x_il 5)) (c_2 .eq (x_ald (x_gf 37 1 3 186 kg_1_3 (x_aln 3)) (x_il 6)) (x_iln 1))) (c_2 .ne (x_il 6) (x_il 4))) (t_k _ _ (ic_V (S := S_X3_live) sd_X3_suffer ky_X3_suffer kv_X3_suffer (by decide) 46 496 none) (x_a1 (x_aln 0) (x_a1 (x_ald (x_gf 40 1 1 182 kg_1_1 (x_aln 3)) (x_il 6)) (x_a1 (x_ald (x_gf 43 1 4 189 kg_1_4 (x_aln 3)) (x_il 6)) x_a0))))) (t_inc 6 1 1 (by decide)))))) (t_sq (t_ia (x_gf 9 3 0 217 kg_3_0 (x_aln 0)) (x_il 5) (x_gf 18 3 2 225 kg_3_2 (x_aln 0))) (t_ia (x_gf 15 3 1 222 kg_3_1 (x_aln 0)) (x_il 5) (x_c (c_z .ne (x_gf 25 3 4 227 kg_3_4 (x_aln 0))) (x_ic 3 3 (by decide)) (x_k _ _ (ic_S (S := S_X3_live) sd_X10_stateAt ky_X10_stateAt ks_X10_stateAt (by decide) 50 500 (some "WrackDeeds")) (x_a1 (x_gf 22 3 3 226 kg_3_3 (x_aln 0)) (x_a1 (x_il 5) (x_a1 (x_isub (x_ald (x_aln 2) (x_il 5)) (x_gf 18 3 2 225 kg_3_2 (x_aln 0))) x_a0)))))))) (t_inc 5 1 1 (by decide)))))) t_rv)
noncomputable def g_X3_live : am_T := (s_sq (s_bk (s_sq (s_as (o_si 7 5) (e_i 0)) (s_lp (b_2 .lt (e_li 5) (e_i 20)) (s_sq (s_sq (s_bk (s_sq (s_as (o_si 7 6) (e_i 0)) (s_lp (b_2 .lt (e_li 6) (e_gf ShX 1 0 (e_lr 3))) (s_sq (s_if (b_and (b_and (b_2 .eq (e_ald ShX (e_gf ShX 1 2 (e_lr 3)) (e_li 6)) (e_li 5)) (b_2 .eq (e_ald ShX (e_gf ShX 1 3 (e_lr 3)) (e_li 6)) (e_li 1))) (b_2 .ne (e_li 6) (e_li 4))) (s_k (am_cl ShX 3 2 f_X3_suffer) (a_1 (e_lr 0) (a_1 (e_ald ShX (e_gf ShX 1 1 (e_lr 3)) (e_li 6)) (a_1 (e_ald ShX (e_gf ShX 1 4 (e_lr 3)) (e_li 6)) a_0)))) s_0) (s_inc 7 6 1))))) (s_sq (s_ia ShX (e_gf ShX 3 0 (e_lr 0)) (e_li 5) (e_gf ShX 3 2 (e_lr 0))) (s_ia ShX (e_gf ShX 3 1 (e_lr 0)) (e_li 5) (e_c (b_z .ne (e_gf ShX 3 4 (e_lr 0))) (e_i 3) (e_k (am_cs 3 f_X10_stateAt) (a_1 (e_gf ShX 3 3 (e_lr 0)) (a_1 (e_li 5) (a_1 (e_b o_isub (e_ald ShX (e_lr 2) (e_li 5)) (e_gf ShX 3 2 (e_lr 0))) a_0)))))))) (s_inc 7 5 1))))) s_rv)
noncomputable def f_X3_live : am_F := am_fn 7 none g_X3_live
set_option maxRecDepth 100000 in
theorem sd_X3_live : am_Sd ShX yX3_live cX3_live 7 none 1 f_X3_live := am_meth (y := yX3_live) (ret := none) x_X3_live (by decide) (by decide +kernel) (by decide +kernel)
abbrev S_X5_hangAll : am_S := (ShX, cX5_hangAll, 5, 2, RX5)
set_option maxRecDepth 100000 in
noncomputable def x_X5_hangAll : am_SP S_X5_hangAll := (t_sq (t_bk (t_sq (t_is 4 (x_ic 0 0 (by decide))) (t_lp (c_2 .lt (x_il 4) (x_gf 18 0 0 138 kg_0_0 (x_aln 1))) (t_sq (t_sq (t_k _ _ (ic_V (S := S_X5_hangAll) sd_X3_begin ky_X3_begin kv_X3_begin (by decide) 31 488 none) (x_a1 (x_qld (x_gf 11 5 0 239 kg_5_0 (x_aln 0)) (x_il 4)) (x_a1 (x_ald (x_gf 24 0 1 142 kg_0_1 (x_aln 1)) (x_il 4)) (x_a1 (x_ald (x_gf 28 0 2 145 kg_0_2 (x_aln 1)) (x_il 4)) x_a0)))) (t_k _ _ (ic_V (S := S_X5_hangAll) sd_X3_live ky_X3_live kv_X3_live (by decide) 35 492 none) (x_a1 (x_qld (x_gf 11 5 0 239 kg_5_0 (x_aln 0)) (x_il 4)) (x_a1 (x_il 4) (x_a1 (x_aln 2) (x_a1 (x_aln 3) (x_a1 (x_ic (-1) (-1) (by decide)) x_a0))))))) (t_inc 4 1 1 (by decide)))))) t_rv)
noncomputable def g_X5_hangAll : am_T := (s_sq (s_bk (s_sq (s_as (o_si 5 4) (e_i 0)) (s_lp (b_2 .lt (e_li 4) (e_gf ShX 0 0 (e_lr 1))) (s_sq (s_sq (s_k (am_cl ShX 3 2 f_X3_begin) (a_1 (e_qld ShX (e_gf ShX 5 0 (e_lr 0)) (e_li 4)) (a_1 (e_ald ShX (e_gf ShX 0 1 (e_lr 1)) (e_li 4)) (a_1 (e_ald ShX (e_gf ShX 0 2 (e_lr 1)) (e_li 4)) a_0)))) (s_k (am_cl ShX 3 4 f_X3_live) (a_1 (e_qld ShX (e_gf ShX 5 0 (e_lr 0)) (e_li 4)) (a_1 (e_li 4) (a_1 (e_lr 2) (a_1 (e_lr 3) (a_1 (e_i (-1)) a_0))))))) (s_inc 5 4 1))))) s_rv)
noncomputable def f_X5_hangAll : am_F := am_fn 5 none g_X5_hangAll
set_option maxRecDepth 100000 in
theorem sd_X5_hangAll : am_Sd ShX yX5_hangAll cX5_hangAll 5 none 2 f_X5_hangAll := am_meth (y := yX5_hangAll) (ret := none) x_X5_hangAll (by decide) (by decide +kernel) (by decide +kernel)
abbrev S_X7_firstBeyond : am_S := (ShX, cX7_firstBeyond, 4, 0, RX7)
set_option maxRecDepth 100000 in
noncomputable def x_X7_firstBeyond : am_SP S_X7_firstBeyond := (t_sq (t_bk (t_sq (t_isn 3 (x_ic 0 0 (by decide))) (t_lp (c_2 .lt (x_iln 3) (x_gf 28 7 2 117 kg_7_2 (x_aln 0))) (t_sq (t_if1 (c_or (c_2 .lt (x_ald (x_gf 9 7 0 111 kg_7_0 (x_aln 0)) (x_iln 3)) (x_iln 1)) (c_2 .gt (x_ald (x_gf 9 7 0 111 kg_7_0 (x_aln 0)) (x_iln 3)) (x_iln 2))) (t_rt .ireturn (x_iln 3))) (t_inc 3 1 1 (by decide)))))) (t_rt .ireturn (x_ic (-1) (-1) (by decide))))
noncomputable def g_X7_firstBeyond : am_T := (s_sq (s_bk (s_sq (s_as (o_si 4 3) (e_i 0)) (s_lp (b_2 .lt (e_li 3) (e_gf ShX 7 2 (e_lr 0))) (s_sq (s_if (b_or (b_2 .lt (e_ald ShX (e_gf ShX 7 0 (e_lr 0)) (e_li 3)) (e_li 1)) (b_2 .gt (e_ald ShX (e_gf ShX 7 0 (e_lr 0)) (e_li 3)) (e_li 2))) (s_rt .ireturn (e_li 3)) s_0) (s_inc 4 3 1))))) (s_rt .ireturn (e_i (-1))))
noncomputable def f_X7_firstBeyond : am_F := am_fn 4 (some .int) g_X7_firstBeyond
set_option maxRecDepth 100000 in
theorem sd_X7_firstBeyond : am_Sd ShX yX7_firstBeyond cX7_firstBeyond 4 (some .int) 0 f_X7_firstBeyond := am_meth (y := yX7_firstBeyond) (ret := (some .int)) x_X7_firstBeyond (by decide) (by decide +kernel) (by decide +kernel)
abbrev S_X7_sound : am_S := (ShX, cX7_sound, 1, 0, RX7)
set_option maxRecDepth 100000 in
noncomputable def x_X7_sound : am_SP S_X7_sound := (t_rt .ireturn (x_c (c_2 .eq (x_gf 15 7 3 120 kg_7_3 (x_aln 0)) (x_ic (-1) (-1) (by decide))) (x_gf 28 7 2 117 kg_7_2 (x_aln 0)) (x_ic 0 0 (by decide))))
noncomputable def g_X7_sound : am_T := (s_rt .ireturn (e_c (b_2 .eq (e_gf ShX 7 3 (e_lr 0)) (e_i (-1))) (e_gf ShX 7 2 (e_lr 0)) (e_i 0)))
noncomputable def f_X7_sound : am_F := am_fn 1 (some .int) g_X7_sound
set_option maxRecDepth 100000 in
theorem sd_X7_sound : am_Sd ShX yX7_sound cX7_sound 1 (some .int) 0 f_X7_sound := am_meth (y := yX7_sound) (ret := (some .int)) x_X7_sound (by decide) (by decide +kernel) (by decide +kernel)
abbrev S_X5_nextRead : am_S := (ShX, cX5_nextRead, 7, 1, RX5)
set_option maxRecDepth 100000 in
noncomputable def x_X5_nextRead : am_SP S_X5_nextRead := (t_sq (t_if1 (c_or (c_z .lt (x_iln 2)) (c_2 .ge (x_iln 2) (x_bp 20 20 (by decide)))) (t_rt .ireturn (x_ic (-1) (-1) (by decide)))) (t_sq (t_ast 4 (x_qld (x_gf 11 5 0 239 kg_5_0 (x_aln 0)) (x_iln 1))) (t_sq (t_is 5 (x_ald (x_gf 39 3 0 219 kg_3_0 (x_al 4)) (x_iln 2))) (t_sq (t_bk (t_sq (t_is 6 (x_iadd (x_iln 2) (x_k _ _ (ic_abs (S := S_X5_nextRead) 44 518 (by decide)) (x_a1 (x_isub (x_il 5) (x_iln 3)) x_a0)))) (t_lp (c_2 .lt (x_il 6) (x_bp 20 20 (by decide))) (t_sq (t_if1 (c_and (c_2 .eq (x_ald (x_gf 50 3 1 223 kg_3_1 (x_al 4)) (x_il 6)) (x_ic 1 1 (by decide))) (c_2 .eq (x_ald (x_gf 39 3 0 219 kg_3_0 (x_al 4)) (x_il 6)) (x_il 5))) (t_rt .ireturn (x_il 6))) (t_inc 6 1 1 (by decide)))))) (t_rt .ireturn (x_ic (-1) (-1) (by decide)))))))
noncomputable def g_X5_nextRead : am_T := (s_sq (s_if (b_or (b_z .lt (e_li 2)) (b_2 .ge (e_li 2) (e_i 20))) (s_rt .ireturn (e_i (-1))) s_0) (s_sq (s_as (o_sr 7 4) (e_qld ShX (e_gf ShX 5 0 (e_lr 0)) (e_li 1))) (s_sq (s_as (o_si 7 5) (e_ald ShX (e_gf ShX 3 0 (e_lr 4)) (e_li 2))) (s_sq (s_bk (s_sq (s_as (o_si 7 6) (e_b o_iadd (e_li 2) (e_k (am_m1 am_abs) (a_1 (e_b o_isub (e_li 5) (e_li 3)) a_0)))) (s_lp (b_2 .lt (e_li 6) (e_i 20)) (s_sq (s_if (b_and (b_2 .eq (e_ald ShX (e_gf ShX 3 1 (e_lr 4)) (e_li 6)) (e_i 1)) (b_2 .eq (e_ald ShX (e_gf ShX 3 0 (e_lr 4)) (e_li 6)) (e_li 5))) (s_rt .ireturn (e_li 6)) s_0) (s_inc 7 6 1))))) (s_rt .ireturn (e_i (-1)))))))
noncomputable def f_X5_nextRead : am_F := am_fn 7 (some .int) g_X5_nextRead
set_option maxRecDepth 100000 in
theorem sd_X5_nextRead : am_Sd ShX yX5_nextRead cX5_nextRead 7 (some .int) 1 f_X5_nextRead := am_meth (y := yX5_nextRead) (ret := (some .int)) x_X5_nextRead (by decide) (by decide +kernel) (by decide +kernel)
abbrev S_X5_firstRead : am_S := (ShX, cX5_firstRead, 2, 2, RX5)
set_option maxRecDepth 100000 in
noncomputable def x_X5_firstRead : am_SP S_X5_firstRead := (t_rt .ireturn (x_k _ _ (ic_V (S := S_X5_firstRead) sd_X5_nextRead ky_X5_nextRead kv_X5_nextRead (by decide) 40 514 none) (x_a1 (x_aln 0) (x_a1 (x_iln 1) (x_a1 (x_ic 0 0 (by decide)) (x_a1 (x_ald (x_gf 39 3 0 219 kg_3_0 (x_qld (x_gf 11 5 0 239 kg_5_0 (x_aln 0)) (x_iln 1))) (x_ic 0 0 (by decide))) x_a0))))))
noncomputable def g_X5_firstRead : am_T := (s_rt .ireturn (e_k (am_cl ShX 5 3 f_X5_nextRead) (a_1 (e_lr 0) (a_1 (e_li 1) (a_1 (e_i 0) (a_1 (e_ald ShX (e_gf ShX 3 0 (e_qld ShX (e_gf ShX 5 0 (e_lr 0)) (e_li 1))) (e_i 0)) a_0))))))
noncomputable def f_X5_firstRead : am_F := am_fn 2 (some .int) g_X5_firstRead
set_option maxRecDepth 100000 in
theorem sd_X5_firstRead : am_Sd ShX yX5_firstRead cX5_firstRead 2 (some .int) 2 f_X5_firstRead := am_meth (y := yX5_firstRead) (ret := (some .int)) x_X5_firstRead (by decide) (by decide +kernel) (by decide +kernel)
abbrev S_X9_go : am_S := (ShX, cX9_go, 9, 3, RX9)
set_option maxRecDepth 100000 in
noncomputable def x_X9_go : am_SP S_X9_go := (t_sq (t_pf 15 9 0 252 false kp_9_0 (x_aln 0) (x_ic 0 0 (by decide))) (t_sq (t_is 4 (x_ic 0 0 (by decide))) (t_sq (t_is 5 (x_ic 0 0 (by decide))) (t_sq (t_is 6 (x_k _ _ (ic_min (S := S_X9_go) 25 508 (by decide)) (x_a1 (x_k _ _ (ic_V (S := S_X9_go) sd_X7_sound ky_X7_sound kv_X7_sound (by decide) 19 507 none) (x_a1 (x_aln 3) x_a0)) (x_a1 (x_bp 8 8 (by decide)) x_a0)))) (t_sq (t_bk (t_sq (t_is 7 (x_ic 0 0 (by decide))) (t_lp (c_2 .lt (x_il 7) (x_il 6)) (t_sq (t_bk (t_sq (t_is 8 (x_isub (x_ald (x_gf 31 7 0 112 kg_7_0 (x_aln 3)) (x_il 7)) (x_bp 97 97 (by decide)))) (t_sq (t_if1 (c_not (c_z .ne (x_k _ _ (ic_S (S := S_X9_go) sd_X10_within ky_X10_within ks_X10_within (by decide) 34 509 (some "WrackDeeds")) (x_a1 (x_il 8) (x_a1 (x_iln 2) x_a0))))) t_rv) (t_sq (t_is 4 (x_c (c_z .eq (x_il 7)) (x_k _ _ (ic_V (S := S_X9_go) sd_X5_firstRead ky_X5_firstRead kv_X5_firstRead (by decide) 38 510 none) (x_a1 (x_aln 1) (x_a1 (x_il 8) x_a0))) (x_k _ _ (ic_V (S := S_X9_go) sd_X5_nextRead ky_X5_nextRead kv_X5_nextRead (by decide) 44 521 none) (x_a1 (x_aln 1) (x_a1 (x_il 8) (x_a1 (x_iadd (x_il 4) (x_ic 1 1 (by decide))) (x_a1 (x_il 5) x_a0))))))) (t_sq (t_if1 (c_2 .eq (x_il 4) (x_ic (-1) (-1) (by decide))) t_rv) (t_sq (t_ia (x_gf 9 9 1 254 kg_9_1 (x_aln 0)) (x_il 7) (x_il 4)) (t_sq (t_is 5 (x_ald (x_gf 52 3 0 218 kg_3_0 (x_qld (x_gf 48 5 0 240 kg_5_0 (x_aln 1)) (x_il 8))) (x_il 4))) (t_po 15 9 0 252 252 false kp_9_0 _ _ ib_iadd (x_aln 0) (x_ic 1 1 (by decide)))))))))) (t_inc 7 1 1 (by decide)))))) t_rv)))))
noncomputable def g_X9_go : am_T := (s_sq (s_pf ShX 9 0 false (e_lr 0) (e_i 0)) (s_sq (s_as (o_si 9 4) (e_i 0)) (s_sq (s_as (o_si 9 5) (e_i 0)) (s_sq (s_as (o_si 9 6) (e_k (am_m2 am_min) (a_1 (e_k (am_cl ShX 7 0 f_X7_sound) (a_1 (e_lr 3) a_0)) (a_1 (e_i 8) a_0)))) (s_sq (s_bk (s_sq (s_as (o_si 9 7) (e_i 0)) (s_lp (b_2 .lt (e_li 7) (e_li 6)) (s_sq (s_bk (s_sq (s_as (o_si 9 8) (e_b o_isub (e_ald ShX (e_gf ShX 7 0 (e_lr 3)) (e_li 7)) (e_i 97))) (s_sq (s_if (b_not (b_z .ne (e_k (am_cs 2 f_X10_within) (a_1 (e_li 8) (a_1 (e_li 2) a_0))))) s_rv s_0) (s_sq (s_as (o_si 9 4) (e_c (b_z .eq (e_li 7)) (e_k (am_cl ShX 5 1 f_X5_firstRead) (a_1 (e_lr 1) (a_1 (e_li 8) a_0))) (e_k (am_cl ShX 5 3 f_X5_nextRead) (a_1 (e_lr 1) (a_1 (e_li 8) (a_1 (e_b o_iadd (e_li 4) (e_i 1)) (a_1 (e_li 5) a_0))))))) (s_sq (s_if (b_2 .eq (e_li 4) (e_i (-1))) s_rv s_0) (s_sq (s_ia ShX (e_gf ShX 9 1 (e_lr 0)) (e_li 7) (e_li 4)) (s_sq (s_as (o_si 9 5) (e_ald ShX (e_gf ShX 3 0 (e_qld ShX (e_gf ShX 5 0 (e_lr 1)) (e_li 8))) (e_li 4))) (s_po ShX 9 0 false o_iadd (e_lr 0) (e_i 1))))))))) (s_inc 9 7 1))))) s_rv)))))
noncomputable def f_X9_go : am_F := am_fn 9 none g_X9_go
set_option maxRecDepth 100000 in
theorem sd_X9_go : am_Sd ShX yX9_go cX9_go 9 none 3 f_X9_go := am_meth (y := yX9_go) (ret := none) x_X9_go (by decide) (by decide +kernel) (by decide +kernel)
end
section
/-! methods as forms, by program (gen.py, mkm.py): x_ the form, g_ and f_ the meaning, sd_ the contract -/
abbrev S_X10_freshen : am_S := (ShX, cX10_freshen, 3, 4, RX10)
set_option maxRecDepth 100000 in
noncomputable def x_X10_freshen : am_SP S_X10_freshen := (t_sq (t_if1 (c_not (c_z .ne (x_gf 99 10 16 377 kg_10_16 (x_aln 0)))) t_rv) (t_sq (t_pf 99 10 16 377 true kp_10_16 (x_aln 0) (x_ic 0 0 (by decide))) (t_sq (t_pf 123 7 3 121 false kp_7_3 (x_gf 16 10 0 361 kg_10_0 (x_aln 0)) (x_k _ _ (ic_V (S := S_X10_freshen) sd_X0_parse ky_X0_parse kv_X0_parse (by decide) 367 440 none) (x_a1 (x_gf 29 10 3 364 kg_10_3 (x_aln 0)) (x_a1 (x_gf 16 10 0 361 kg_10_0 (x_aln 0)) x_a0)))) (t_sq (t_k _ _ (ic_V (S := S_X10_freshen) sd_X0_linkAll ky_X0_linkAll kv_X0_linkAll (by decide) 371 460 none) (x_a1 (x_gf 29 10 3 364 kg_10_3 (x_aln 0)) x_a0)) (t_sq (t_pf 123 7 3 121 false kp_7_3 (x_gf 20 10 1 362 kg_10_1 (x_aln 0)) (x_k _ _ (ic_V (S := S_X10_freshen) sd_X7_firstBeyond ky_X7_firstBeyond kv_X7_firstBeyond (by decide) 374 476 none) (x_a1 (x_gf 20 10 1 362 kg_10_1 (x_aln 0)) (x_a1 (x_bp 48 48 (by decide)) (x_a1 (x_bp 57 57 (by decide)) x_a0))))) (t_sq (t_pf 123 7 3 121 false kp_7_3 (x_gf 23 10 2 363 kg_10_2 (x_aln 0)) (x_k _ _ (ic_V (S := S_X10_freshen) sd_X7_firstBeyond ky_X7_firstBeyond kv_X7_firstBeyond (by decide) 374 476 none) (x_a1 (x_gf 23 10 2 363 kg_10_2 (x_aln 0)) (x_a1 (x_bp 97 97 (by decide)) (x_a1 (x_bp 104 104 (by decide)) x_a0))))) (t_sq (t_isn 1 (x_k _ _ (ic_V (S := S_X10_freshen) sd_X7_sound ky_X7_sound kv_X7_sound (by decide) 143 480 none) (x_a1 (x_gf 20 10 1 362 kg_10_1 (x_aln 0)) x_a0))) (t_sq (t_bk (t_sq (t_isn 2 (x_ic 0 0 (by decide))) (t_lp (c_2 .lt (x_iln 2) (x_bp 20 20 (by decide))) (t_sq (t_ia (x_gf 33 10 4 365 kg_10_4 (x_aln 0)) (x_iln 2) (x_c (c_2 .lt (x_iln 2) (x_iln 1)) (x_isub (x_ald (x_gf 117 7 0 113 kg_7_0 (x_gf 20 10 1 362 kg_10_1 (x_aln 0))) (x_iln 2)) (x_bp 48 48 (by decide))) (x_ic 5 5 (by decide)))) (t_inc 2 1 1 (by decide)))))) (t_sq (t_k _ _ (ic_V (S := S_X10_freshen) sd_X5_hangAll ky_X5_hangAll kv_X5_hangAll (by decide) 295 484 none) (x_a1 (x_gf 50 10 7 368 kg_10_7 (x_aln 0)) (x_a1 (x_gf 29 10 3 364 kg_10_3 (x_aln 0)) (x_a1 (x_gf 33 10 4 365 kg_10_4 (x_aln 0)) (x_a1 (x_gf 40 10 5 366 kg_10_5 (x_aln 0)) x_a0))))) (t_sq (t_k _ _ (ic_V (S := S_X10_freshen) sd_X9_go ky_X9_go kv_X9_go (by decide) 299 503 none) (x_a1 (x_gf 60 10 9 370 kg_10_9 (x_aln 0)) (x_a1 (x_gf 50 10 7 368 kg_10_7 (x_aln 0)) (x_a1 (x_gf 192 0 0 140 kg_0_0 (x_gf 29 10 3 364 kg_10_3 (x_aln 0))) (x_a1 (x_gf 23 10 2 363 kg_10_2 (x_aln 0)) x_a0))))) (t_sq (t_pf 377 8 3 274 true kp_8_3 (x_gf 70 10 11 372 kg_10_11 (x_aln 0)) (x_ic 1 1 (by decide))) t_rv)))))))))))
noncomputable def g_X10_freshen : am_T := (s_sq (s_if (b_not (b_z .ne (e_gf ShX 10 16 (e_lr 0)))) s_rv s_0) (s_sq (s_pf ShX 10 16 true (e_lr 0) (e_i 0)) (s_sq (s_pf ShX 7 3 false (e_gf ShX 10 0 (e_lr 0)) (e_k (am_cl ShX 0 1 f_X0_parse) (a_1 (e_gf ShX 10 3 (e_lr 0)) (a_1 (e_gf ShX 10 0 (e_lr 0)) a_0)))) (s_sq (s_k (am_cl ShX 0 0 f_X0_linkAll) (a_1 (e_gf ShX 10 3 (e_lr 0)) a_0)) (s_sq (s_pf ShX 7 3 false (e_gf ShX 10 1 (e_lr 0)) (e_k (am_cl ShX 7 2 f_X7_firstBeyond) (a_1 (e_gf ShX 10 1 (e_lr 0)) (a_1 (e_i 48) (a_1 (e_i 57) a_0))))) (s_sq (s_pf ShX 7 3 false (e_gf ShX 10 2 (e_lr 0)) (e_k (am_cl ShX 7 2 f_X7_firstBeyond) (a_1 (e_gf ShX 10 2 (e_lr 0)) (a_1 (e_i 97) (a_1 (e_i 104) a_0))))) (s_sq (s_as (o_si 3 1) (e_k (am_cl ShX 7 0 f_X7_sound) (a_1 (e_gf ShX 10 1 (e_lr 0)) a_0))) (s_sq (s_bk (s_sq (s_as (o_si 3 2) (e_i 0)) (s_lp (b_2 .lt (e_li 2) (e_i 20)) (s_sq (s_ia ShX (e_gf ShX 10 4 (e_lr 0)) (e_li 2) (e_c (b_2 .lt (e_li 2) (e_li 1)) (e_b o_isub (e_ald ShX (e_gf ShX 7 0 (e_gf ShX 10 1 (e_lr 0))) (e_li 2)) (e_i 48)) (e_i 5))) (s_inc 3 2 1))))) (s_sq (s_k (am_cl ShX 5 3 f_X5_hangAll) (a_1 (e_gf ShX 10 7 (e_lr 0)) (a_1 (e_gf ShX 10 3 (e_lr 0)) (a_1 (e_gf ShX 10 4 (e_lr 0)) (a_1 (e_gf ShX 10 5 (e_lr 0)) a_0))))) (s_sq (s_k (am_cl ShX 9 3 f_X9_go) (a_1 (e_gf ShX 10 9 (e_lr 0)) (a_1 (e_gf ShX 10 7 (e_lr 0)) (a_1 (e_gf ShX 0 0 (e_gf ShX 10 3 (e_lr 0))) (a_1 (e_gf ShX 10 2 (e_lr 0)) a_0))))) (s_sq (s_pf ShX 8 3 true (e_gf ShX 10 11 (e_lr 0)) (e_i 1)) s_rv)))))))))))
noncomputable def f_X10_freshen : am_F := am_fn 3 none g_X10_freshen
set_option maxRecDepth 100000 in
theorem sd_X10_freshen : am_Sd ShX yX10_freshen cX10_freshen 3 none 4 f_X10_freshen := am_meth (y := yX10_freshen) (ret := none) x_X10_freshen (by decide) (by decide +kernel) (by decide +kernel)
abbrev S_X10_fault : am_S := (ShX, cX10_fault, 2, 5, RX10)
set_option maxRecDepth 100000 in
noncomputable def x_X10_fault : am_SP S_X10_fault := (t_sq (t_if1 (c_not (c_z .ne (x_k _ _ (ic_S (S := S_X10_fault) sd_X10_within ky_X10_within ks_X10_within (by decide) 103 417 none) (x_a1 (x_iln 1) (x_a1 (x_ic 3 3 (by decide)) x_a0))))) (t_rt .ireturn (x_bp (-2) (-2) (by decide)))) (t_sq (t_k _ _ (ic_V (S := S_X10_fault) sd_X10_freshen ky_X10_freshen kv_X10_freshen (by decide) 120 436 none) (x_a1 (x_aln 0) x_a0)) (t_rt .ireturn (x_gf 123 7 3 121 kg_7_3 (x_k _ _ (ic_V (S := S_X10_fault) sd_X10_textOf ky_X10_textOf kv_X10_textOf (by decide) 107 420 none) (x_a1 (x_aln 0) (x_a1 (x_iln 1) x_a0)))))))
noncomputable def g_X10_fault : am_T := (s_sq (s_if (b_not (b_z .ne (e_k (am_cs 2 f_X10_within) (a_1 (e_li 1) (a_1 (e_i 3) a_0))))) (s_rt .ireturn (e_i (-2))) s_0) (s_sq (s_k (am_cl ShX 10 0 f_X10_freshen) (a_1 (e_lr 0) a_0)) (s_rt .ireturn (e_gf ShX 7 3 (e_k (am_cl ShX 10 1 f_X10_textOf) (a_1 (e_lr 0) (a_1 (e_li 1) a_0)))))))
noncomputable def f_X10_fault : am_F := am_fn 2 (some .int) g_X10_fault
set_option maxRecDepth 100000 in
theorem sd_X10_fault : am_Sd ShX yX10_fault cX10_fault 2 (some .int) 5 f_X10_fault := am_meth (y := yX10_fault) (ret := (some .int)) x_X10_fault (by decide) (by decide +kernel) (by decide +kernel)
abbrev S_X10_isStrand : am_S := (ShX, cX10_isStrand, 2, 5, RX10)
set_option maxRecDepth 100000 in
noncomputable def x_X10_isStrand : am_SP S_X10_isStrand := (t_sq (t_k _ _ (ic_V (S := S_X10_isStrand) sd_X10_freshen ky_X10_freshen kv_X10_freshen (by decide) 120 436 none) (x_a1 (x_aln 0) x_a0)) (t_rt .ireturn (x_k _ _ (ic_S (S := S_X10_isStrand) sd_X10_within ky_X10_within ks_X10_within (by decide) 103 417 none) (x_a1 (x_iln 1) (x_a1 (x_gf 192 0 0 140 kg_0_0 (x_gf 29 10 3 364 kg_10_3 (x_aln 0))) x_a0)))))
noncomputable def g_X10_isStrand : am_T := (s_sq (s_k (am_cl ShX 10 0 f_X10_freshen) (a_1 (e_lr 0) a_0)) (s_rt .ireturn (e_k (am_cs 2 f_X10_within) (a_1 (e_li 1) (a_1 (e_gf ShX 0 0 (e_gf ShX 10 3 (e_lr 0))) a_0)))))
noncomputable def f_X10_isStrand : am_F := am_fn 2 (some .boolean) g_X10_isStrand
set_option maxRecDepth 100000 in
theorem sd_X10_isStrand : am_Sd ShX yX10_isStrand cX10_isStrand 2 (some .boolean) 5 f_X10_isStrand := am_meth (y := yX10_isStrand) (ret := (some .boolean)) x_X10_isStrand (by decide) (by decide +kernel) (by decide +kernel)
abbrev S_X10_strand : am_S := (ShX, cX10_strand, 3, 6, RX10)
set_option maxRecDepth 100000 in
noncomputable def x_X10_strand : am_SP S_X10_strand := (t_sq (t_if1 (c_or (c_not (c_z .ne (x_k _ _ (ic_V (S := S_X10_strand) sd_X10_isStrand ky_X10_isStrand kv_X10_isStrand (by decide) 126 526 none) (x_a1 (x_aln 0) (x_a1 (x_iln 1) x_a0))))) (c_not (c_z .ne (x_k _ _ (ic_S (S := S_X10_strand) sd_X10_within ky_X10_within ks_X10_within (by decide) 103 417 none) (x_a1 (x_iln 2) (x_a1 (x_bp 9 9 (by decide)) x_a0)))))) (t_rt .ireturn (x_bp (-2) (-2) (by decide)))) (t_sq (t_if1 (c_z .eq (x_iln 2)) (t_rt .ireturn (x_ald (x_gf 130 0 1 143 kg_0_1 (x_gf 29 10 3 364 kg_10_3 (x_aln 0))) (x_iln 1)))) (t_sq (t_if1 (c_2 .eq (x_iln 2) (x_ic 1 1 (by decide))) (t_rt .ireturn (x_ald (x_gf 133 0 2 146 kg_0_2 (x_gf 29 10 3 364 kg_10_3 (x_aln 0))) (x_iln 1)))) (t_sq (t_if1 (c_2 .eq (x_iln 2) (x_ic 2 2 (by decide))) (t_rt .ireturn (x_ald (x_gf 136 0 3 148 kg_0_3 (x_gf 29 10 3 364 kg_10_3 (x_aln 0))) (x_iln 1)))) (t_rt .ireturn (x_c (c_2 .lt (x_isub (x_iln 2) (x_ic 3 3 (by decide))) (x_ald (x_gf 136 0 3 148 kg_0_3 (x_gf 29 10 3 364 kg_10_3 (x_aln 0))) (x_iln 1))) (x_k _ _ (ic_V (S := S_X10_strand) sd_X0_bladderOf ky_X0_bladderOf kv_X0_bladderOf (by decide) 139 530 none) (x_a1 (x_gf 29 10 3 364 kg_10_3 (x_aln 0)) (x_a1 (x_iln 1) (x_a1 (x_isub (x_iln 2) (x_ic 3 3 (by decide))) x_a0)))) (x_ic (-1) (-1) (by decide))))))))
noncomputable def g_X10_strand : am_T := (s_sq (s_if (b_or (b_not (b_z .ne (e_k (am_cl ShX 10 1 f_X10_isStrand) (a_1 (e_lr 0) (a_1 (e_li 1) a_0))))) (b_not (b_z .ne (e_k (am_cs 2 f_X10_within) (a_1 (e_li 2) (a_1 (e_i 9) a_0)))))) (s_rt .ireturn (e_i (-2))) s_0) (s_sq (s_if (b_z .eq (e_li 2)) (s_rt .ireturn (e_ald ShX (e_gf ShX 0 1 (e_gf ShX 10 3 (e_lr 0))) (e_li 1))) s_0) (s_sq (s_if (b_2 .eq (e_li 2) (e_i 1)) (s_rt .ireturn (e_ald ShX (e_gf ShX 0 2 (e_gf ShX 10 3 (e_lr 0))) (e_li 1))) s_0) (s_sq (s_if (b_2 .eq (e_li 2) (e_i 2)) (s_rt .ireturn (e_ald ShX (e_gf ShX 0 3 (e_gf ShX 10 3 (e_lr 0))) (e_li 1))) s_0) (s_rt .ireturn (e_c (b_2 .lt (e_b o_isub (e_li 2) (e_i 3)) (e_ald ShX (e_gf ShX 0 3 (e_gf ShX 10 3 (e_lr 0))) (e_li 1))) (e_k (am_cl ShX 0 2 f_X0_bladderOf) (a_1 (e_gf ShX 10 3 (e_lr 0)) (a_1 (e_li 1) (a_1 (e_b o_isub (e_li 2) (e_i 3)) a_0)))) (e_i (-1))))))))
noncomputable def f_X10_strand : am_F := am_fn 3 (some .int) g_X10_strand
set_option maxRecDepth 100000 in
theorem sd_X10_strand : am_Sd ShX yX10_strand cX10_strand 3 (some .int) 6 f_X10_strand := am_meth (y := yX10_strand) (ret := (some .int)) x_X10_strand (by decide) (by decide +kernel) (by decide +kernel)
abbrev S_X10_tide : am_S := (ShX, cX10_tide, 2, 5, RX10)
set_option maxRecDepth 100000 in
noncomputable def x_X10_tide : am_SP S_X10_tide := (t_sq (t_if1 (c_not (c_z .ne (x_k _ _ (ic_S (S := S_X10_tide) sd_X10_within ky_X10_within ks_X10_within (by decide) 103 417 none) (x_a1 (x_iln 1) (x_a1 (x_bp 20 20 (by decide)) x_a0))))) (t_rt .ireturn (x_bp (-2) (-2) (by decide)))) (t_sq (t_k _ _ (ic_V (S := S_X10_tide) sd_X10_freshen ky_X10_freshen kv_X10_freshen (by decide) 120 436 none) (x_a1 (x_aln 0) x_a0)) (t_rt .ireturn (x_ald (x_gf 33 10 4 365 kg_10_4 (x_aln 0)) (x_iln 1)))))
noncomputable def g_X10_tide : am_T := (s_sq (s_if (b_not (b_z .ne (e_k (am_cs 2 f_X10_within) (a_1 (e_li 1) (a_1 (e_i 20) a_0))))) (s_rt .ireturn (e_i (-2))) s_0) (s_sq (s_k (am_cl ShX 10 0 f_X10_freshen) (a_1 (e_lr 0) a_0)) (s_rt .ireturn (e_ald ShX (e_gf ShX 10 4 (e_lr 0)) (e_li 1)))))
noncomputable def f_X10_tide : am_F := am_fn 2 (some .int) g_X10_tide
set_option maxRecDepth 100000 in
theorem sd_X10_tide : am_Sd ShX yX10_tide cX10_tide 2 (some .int) 5 f_X10_tide := am_meth (y := yX10_tide) (ret := (some .int)) x_X10_tide (by decide) (by decide +kernel) (by decide +kernel)
abbrev S_X10_route : am_S := (ShX, cX10_route, 2, 5, RX10)
set_option maxRecDepth 100000 in
noncomputable def x_X10_route : am_SP S_X10_route := (t_sq (t_if1 (c_not (c_z .ne (x_k _ _ (ic_S (S := S_X10_route) sd_X10_within ky_X10_within ks_X10_within (by decide) 103 417 none) (x_a1 (x_iln 1) (x_a1 (x_bp 8 8 (by decide)) x_a0))))) (t_rt .ireturn (x_bp (-2) (-2) (by decide)))) (t_sq (t_k _ _ (ic_V (S := S_X10_route) sd_X10_freshen ky_X10_freshen kv_X10_freshen (by decide) 120 436 none) (x_a1 (x_aln 0) x_a0)) (t_rt .ireturn (x_c (c_2 .lt (x_iln 1) (x_k _ _ (ic_V (S := S_X10_route) sd_X7_sound ky_X7_sound kv_X7_sound (by decide) 143 480 none) (x_a1 (x_gf 23 10 2 363 kg_10_2 (x_aln 0)) x_a0))) (x_isub (x_ald (x_gf 117 7 0 113 kg_7_0 (x_gf 23 10 2 363 kg_10_2 (x_aln 0))) (x_iln 1)) (x_bp 97 97 (by decide))) (x_ic (-1) (-1) (by decide))))))
noncomputable def g_X10_route : am_T := (s_sq (s_if (b_not (b_z .ne (e_k (am_cs 2 f_X10_within) (a_1 (e_li 1) (a_1 (e_i 8) a_0))))) (s_rt .ireturn (e_i (-2))) s_0) (s_sq (s_k (am_cl ShX 10 0 f_X10_freshen) (a_1 (e_lr 0) a_0)) (s_rt .ireturn (e_c (b_2 .lt (e_li 1) (e_k (am_cl ShX 7 0 f_X7_sound) (a_1 (e_gf ShX 10 2 (e_lr 0)) a_0))) (e_b o_isub (e_ald ShX (e_gf ShX 7 0 (e_gf ShX 10 2 (e_lr 0))) (e_li 1)) (e_i 97)) (e_i (-1))))))
noncomputable def f_X10_route : am_F := am_fn 2 (some .int) g_X10_route
set_option maxRecDepth 100000 in
theorem sd_X10_route : am_Sd ShX yX10_route cX10_route 2 (some .int) 5 f_X10_route := am_meth (y := yX10_route) (ret := (some .int)) x_X10_route (by decide) (by decide +kernel) (by decide +kernel)
abbrev S_X10_mayBeEvent : am_S := (ShX, cX10_mayBeEvent, 4, 1, RX10)
set_option maxRecDepth 100000 in
noncomputable def x_X10_mayBeEvent : am_SP S_X10_mayBeEvent := (t_rt .ireturn (x_c (c_and (c_and (c_and (c_z .ne (x_k _ _ (ic_S (S := S_X10_mayBeEvent) sd_X10_within ky_X10_within ks_X10_within (by decide) 103 417 none) (x_a1 (x_iln 0) (x_a1 (x_ic 3 3 (by decide)) x_a0)))) (c_z .ne (x_k _ _ (ic_S (S := S_X10_mayBeEvent) sd_X10_within ky_X10_within ks_X10_within (by decide) 103 417 none) (x_a1 (x_iln 1) (x_a1 (x_bp 20 20 (by decide)) x_a0))))) (c_z .ne (x_k _ _ (ic_S (S := S_X10_mayBeEvent) sd_X10_within ky_X10_within ks_X10_within (by decide) 103 417 none) (x_a1 (x_iln 2) (x_a1 (x_bp 8 8 (by decide)) x_a0))))) (c_z .ne (x_k _ _ (ic_S (S := S_X10_mayBeEvent) sd_X10_within ky_X10_within ks_X10_within (by decide) 103 417 none) (x_a1 (x_iln 3) (x_a1 (x_bp 10 10 (by decide)) x_a0))))) (x_ic 1 1 (by decide)) (x_ic 0 0 (by decide))))
noncomputable def g_X10_mayBeEvent : am_T := (s_rt .ireturn (e_c (b_and (b_and (b_and (b_z .ne (e_k (am_cs 2 f_X10_within) (a_1 (e_li 0) (a_1 (e_i 3) a_0)))) (b_z .ne (e_k (am_cs 2 f_X10_within) (a_1 (e_li 1) (a_1 (e_i 20) a_0))))) (b_z .ne (e_k (am_cs 2 f_X10_within) (a_1 (e_li 2) (a_1 (e_i 8) a_0))))) (b_z .ne (e_k (am_cs 2 f_X10_within) (a_1 (e_li 3) (a_1 (e_i 10) a_0))))) (e_i 1) (e_i 0)))
noncomputable def f_X10_mayBeEvent : am_F := am_fn 4 (some .boolean) g_X10_mayBeEvent
set_option maxRecDepth 100000 in
theorem sd_X10_mayBeEvent : am_Sd ShX yX10_mayBeEvent cX10_mayBeEvent 4 (some .boolean) 1 f_X10_mayBeEvent := am_meth (y := yX10_mayBeEvent) (ret := (some .boolean)) x_X10_mayBeEvent (by decide) (by decide +kernel) (by decide +kernel)
abbrev S_X1_tell : am_S := (ShX, cX1_tell, 5, 0, RX1)
set_option maxRecDepth 100000 in
noncomputable def x_X1_tell : am_SP S_X1_tell := (t_sq (t_if1 (c_2 .ge (x_gf 24 1 0 178 kg_1_0 (x_aln 0)) (x_bp 8 8 (by decide))) t_rv) (t_sq (t_ia (x_gf 9 1 1 181 kg_1_1 (x_aln 0)) (x_gf 24 1 0 178 kg_1_0 (x_aln 0)) (x_iln 1)) (t_sq (t_ia (x_gf 15 1 2 183 kg_1_2 (x_aln 0)) (x_gf 24 1 0 178 kg_1_0 (x_aln 0)) (x_iln 2)) (t_sq (t_ia (x_gf 18 1 3 185 kg_1_3 (x_aln 0)) (x_gf 24 1 0 178 kg_1_0 (x_aln 0)) (x_iln 3)) (t_sq (t_ia (x_gf 21 1 4 188 kg_1_4 (x_aln 0)) (x_gf 24 1 0 178 kg_1_0 (x_aln 0)) (x_il 4)) (t_sq (t_po 24 1 0 178 178 false kp_1_0 _ _ ib_iadd (x_aln 0) (x_ic 1 1 (by decide))) t_rv))))))
noncomputable def g_X1_tell : am_T := (s_sq (s_if (b_2 .ge (e_gf ShX 1 0 (e_lr 0)) (e_i 8)) s_rv s_0) (s_sq (s_ia ShX (e_gf ShX 1 1 (e_lr 0)) (e_gf ShX 1 0 (e_lr 0)) (e_li 1)) (s_sq (s_ia ShX (e_gf ShX 1 2 (e_lr 0)) (e_gf ShX 1 0 (e_lr 0)) (e_li 2)) (s_sq (s_ia ShX (e_gf ShX 1 3 (e_lr 0)) (e_gf ShX 1 0 (e_lr 0)) (e_li 3)) (s_sq (s_ia ShX (e_gf ShX 1 4 (e_lr 0)) (e_gf ShX 1 0 (e_lr 0)) (e_li 4)) (s_sq (s_po ShX 1 0 false o_iadd (e_lr 0) (e_i 1)) s_rv))))))
noncomputable def f_X1_tell : am_F := am_fn 5 none g_X1_tell
set_option maxRecDepth 100000 in
theorem sd_X1_tell : am_Sd ShX yX1_tell cX1_tell 5 none 0 f_X1_tell := am_meth (y := yX1_tell) (ret := none) x_X1_tell (by decide) (by decide +kernel) (by decide +kernel)
abbrev S_X10_event : am_S := (ShX, cX10_event, 5, 2, RX10)
set_option maxRecDepth 100000 in
noncomputable def x_X10_event : am_SP S_X10_event := (t_sq (t_if1 (c_not (c_z .ne (x_k _ _ (ic_S (S := S_X10_event) sd_X10_mayBeEvent ky_X10_mayBeEvent ks_X10_mayBeEvent (by decide) 147 543 none) (x_a1 (x_iln 1) (x_a1 (x_iln 2) (x_a1 (x_iln 3) (x_a1 (x_il 4) x_a0))))))) (t_rt .ireturn (x_bp (-2) (-2) (by decide)))) (t_sq (t_if1 (c_2 .ge (x_gf 151 1 0 180 kg_1_0 (x_gf 40 10 5 366 kg_10_5 (x_aln 0))) (x_bp 8 8 (by decide))) (t_rt .ireturn (x_bp (-4) (-4) (by decide)))) (t_sq (t_k _ _ (ic_V (S := S_X10_event) sd_X1_tell ky_X1_tell kv_X1_tell (by decide) 152 546 none) (x_a1 (x_gf 40 10 5 366 kg_10_5 (x_aln 0)) (x_a1 (x_iln 1) (x_a1 (x_iln 2) (x_a1 (x_iln 3) (x_a1 (x_il 4) x_a0)))))) (t_sq (t_pf 99 10 16 377 true kp_10_16 (x_aln 0) (x_ic 1 1 (by decide))) (t_rt .ireturn (x_gf 151 1 0 180 kg_1_0 (x_gf 40 10 5 366 kg_10_5 (x_aln 0))))))))
noncomputable def g_X10_event : am_T := (s_sq (s_if (b_not (b_z .ne (e_k (am_cs 4 f_X10_mayBeEvent) (a_1 (e_li 1) (a_1 (e_li 2) (a_1 (e_li 3) (a_1 (e_li 4) a_0))))))) (s_rt .ireturn (e_i (-2))) s_0) (s_sq (s_if (b_2 .ge (e_gf ShX 1 0 (e_gf ShX 10 5 (e_lr 0))) (e_i 8)) (s_rt .ireturn (e_i (-4))) s_0) (s_sq (s_k (am_cl ShX 1 4 f_X1_tell) (a_1 (e_gf ShX 10 5 (e_lr 0)) (a_1 (e_li 1) (a_1 (e_li 2) (a_1 (e_li 3) (a_1 (e_li 4) a_0)))))) (s_sq (s_pf ShX 10 16 true (e_lr 0) (e_i 1)) (s_rt .ireturn (e_gf ShX 1 0 (e_gf ShX 10 5 (e_lr 0))))))))
noncomputable def f_X10_event : am_F := am_fn 5 (some .int) g_X10_event
set_option maxRecDepth 100000 in
theorem sd_X10_event : am_Sd ShX yX10_event cX10_event 5 (some .int) 2 f_X10_event := am_meth (y := yX10_event) (ret := (some .int)) x_X10_event (by decide) (by decide +kernel) (by decide +kernel)
abbrev S_X10_back : am_S := (ShX, cX10_back, 1, 0, RX10)
set_option maxRecDepth 100000 in
noncomputable def x_X10_back : am_SP S_X10_back := (t_sq (t_if1 (c_z .eq (x_gf 151 1 0 180 kg_1_0 (x_gf 40 10 5 366 kg_10_5 (x_aln 0)))) (t_rt .ireturn (x_bp (-3) (-3) (by decide)))) (t_sq (t_po 151 1 0 180 180 false kp_1_0 _ _ ib_isub (x_gf 40 10 5 366 kg_10_5 (x_aln 0)) (x_ic 1 1 (by decide))) (t_sq (t_pf 99 10 16 377 true kp_10_16 (x_aln 0) (x_ic 1 1 (by decide))) (t_rt .ireturn (x_gf 151 1 0 180 kg_1_0 (x_gf 40 10 5 366 kg_10_5 (x_aln 0)))))))
noncomputable def g_X10_back : am_T := (s_sq (s_if (b_z .eq (e_gf ShX 1 0 (e_gf ShX 10 5 (e_lr 0)))) (s_rt .ireturn (e_i (-3))) s_0) (s_sq (s_po ShX 1 0 false o_isub (e_gf ShX 10 5 (e_lr 0)) (e_i 1)) (s_sq (s_pf ShX 10 16 true (e_lr 0) (e_i 1)) (s_rt .ireturn (e_gf ShX 1 0 (e_gf ShX 10 5 (e_lr 0)))))))
noncomputable def f_X10_back : am_F := am_fn 1 (some .int) g_X10_back
set_option maxRecDepth 100000 in
theorem sd_X10_back : am_Sd ShX yX10_back cX10_back 1 (some .int) 0 f_X10_back := am_meth (y := yX10_back) (ret := (some .int)) x_X10_back (by decide) (by decide +kernel) (by decide +kernel)
abbrev S_X10_eventFrom : am_S := (ShX, cX10_eventFrom, 4, 3, RX10)
set_option maxRecDepth 100000 in
noncomputable def x_X10_eventFrom : am_SP S_X10_eventFrom := (t_sq (t_if1 (c_or (c_z .lt (x_iln 2)) (c_2 .gt (x_iadd (x_iln 2) (x_ic 4 4 (by decide))) (x_gf 163 4 2 349 kg_4_2 (x_aln 1)))) (t_rt .ireturn (x_ic 0 0 (by decide)))) (t_sq (t_asn 3 (x_gf 315 4 3 351 kg_4_3 (x_aln 1))) (t_rt .ireturn (x_c (c_z .gt (x_k _ _ (ic_V (S := S_X10_eventFrom) sd_X10_event ky_X10_event kv_X10_event (by decide) 378 566 none) (x_a1 (x_aln 0) (x_a1 (x_ald (x_aln 3) (x_iln 2)) (x_a1 (x_ald (x_aln 3) (x_iadd (x_iln 2) (x_ic 1 1 (by decide)))) (x_a1 (x_ald (x_aln 3) (x_iadd (x_iln 2) (x_ic 2 2 (by decide)))) (x_a1 (x_ald (x_aln 3) (x_iadd (x_iln 2) (x_ic 3 3 (by decide)))) x_a0))))))) (x_ic 1 1 (by decide)) (x_ic 0 0 (by decide))))))
noncomputable def g_X10_eventFrom : am_T := (s_sq (s_if (b_or (b_z .lt (e_li 2)) (b_2 .gt (e_b o_iadd (e_li 2) (e_i 4)) (e_gf ShX 4 2 (e_lr 1)))) (s_rt .ireturn (e_i 0)) s_0) (s_sq (s_as (o_sr 4 3) (e_gf ShX 4 3 (e_lr 1))) (s_rt .ireturn (e_c (b_z .gt (e_k (am_cl ShX 10 4 f_X10_event) (a_1 (e_lr 0) (a_1 (e_ald ShX (e_lr 3) (e_li 2)) (a_1 (e_ald ShX (e_lr 3) (e_b o_iadd (e_li 2) (e_i 1))) (a_1 (e_ald ShX (e_lr 3) (e_b o_iadd (e_li 2) (e_i 2))) (a_1 (e_ald ShX (e_lr 3) (e_b o_iadd (e_li 2) (e_i 3))) a_0))))))) (e_i 1) (e_i 0)))))
noncomputable def f_X10_eventFrom : am_F := am_fn 4 (some .boolean) g_X10_eventFrom
set_option maxRecDepth 100000 in
theorem sd_X10_eventFrom : am_Sd ShX yX10_eventFrom cX10_eventFrom 4 (some .boolean) 3 f_X10_eventFrom := am_meth (y := yX10_eventFrom) (ret := (some .boolean)) x_X10_eventFrom (by decide) (by decide +kernel) (by decide +kernel)
abbrev S_X10_finding : am_S := (ShX, cX10_finding, 2, 0, RX10)
set_option maxRecDepth 100000 in
noncomputable def x_X10_finding : am_SP S_X10_finding := (t_sq (t_pf 95 10 15 376 false kp_10_15 (x_aln 0) (x_iln 1)) (t_rt .ireturn (x_isub (x_bp (-10) (-10) (by decide)) (x_iln 1))))
noncomputable def g_X10_finding : am_T := (s_sq (s_pf ShX 10 15 false (e_lr 0) (e_li 1)) (s_rt .ireturn (e_b o_isub (e_i (-10)) (e_li 1))))
noncomputable def f_X10_finding : am_F := am_fn 2 (some .int) g_X10_finding
set_option maxRecDepth 100000 in
theorem sd_X10_finding : am_Sd ShX yX10_finding cX10_finding 2 (some .int) 0 f_X10_finding := am_meth (y := yX10_finding) (ret := (some .int)) x_X10_finding (by decide) (by decide +kernel) (by decide +kernel)
abbrev S_X10_read : am_S := (ShX, cX10_read, 5, 4, RX10)
set_option maxRecDepth 100000 in
noncomputable def x_X10_read : am_SP S_X10_read := (t_sq (t_if1 (c_not (c_z .ne (x_k _ _ (ic_S (S := S_X10_read) sd_X10_within ky_X10_within ks_X10_within (by decide) 103 417 none) (x_a1 (x_iln 1) (x_a1 (x_ic 4 4 (by decide)) x_a0))))) (t_rt .ireturn (x_bp (-2) (-2) (by decide)))) (t_sq (t_asn 2 (x_qld (x_gf 90 10 14 375 kg_10_14 (x_aln 0)) (x_iln 1))) (t_sq (t_if1 (c_z .ne (x_gf 156 4 0 345 kg_4_0 (x_aln 2))) (t_rt .ireturn (x_k _ _ (ic_V (S := S_X10_read) sd_X10_finding ky_X10_finding kv_X10_finding (by decide) 159 558 none) (x_a1 (x_aln 0) (x_a1 (x_ic 1 1 (by decide)) x_a0))))) (t_sq (t_isn 3 (x_idiv (x_gf 163 4 2 349 kg_4_2 (x_aln 2)) (x_ic 4 4 (by decide)))) (t_sq (t_is 4 (x_ic 0 0 (by decide))) (t_sq (t_lp (c_and (c_2 .lt (x_il 4) (x_iln 3)) (c_z .ne (x_k _ _ (ic_V (S := S_X10_read) sd_X10_eventFrom ky_X10_eventFrom kv_X10_eventFrom (by decide) 164 562 none) (x_a1 (x_aln 0) (x_a1 (x_aln 2) (x_a1 (x_imul (x_il 4) (x_ic 4 4 (by decide))) x_a0)))))) (t_inc 4 1 1 (by decide))) (t_rt .ireturn (x_il 4))))))))
noncomputable def g_X10_read : am_T := (s_sq (s_if (b_not (b_z .ne (e_k (am_cs 2 f_X10_within) (a_1 (e_li 1) (a_1 (e_i 4) a_0))))) (s_rt .ireturn (e_i (-2))) s_0) (s_sq (s_as (o_sr 5 2) (e_qld ShX (e_gf ShX 10 14 (e_lr 0)) (e_li 1))) (s_sq (s_if (b_z .ne (e_gf ShX 4 0 (e_lr 2))) (s_rt .ireturn (e_k (am_cl ShX 10 1 f_X10_finding) (a_1 (e_lr 0) (a_1 (e_i 1) a_0)))) s_0) (s_sq (s_as (o_si 5 3) (e_b o_idiv (e_gf ShX 4 2 (e_lr 2)) (e_i 4))) (s_sq (s_as (o_si 5 4) (e_i 0)) (s_sq (s_lp (b_and (b_2 .lt (e_li 4) (e_li 3)) (b_z .ne (e_k (am_cl ShX 10 2 f_X10_eventFrom) (a_1 (e_lr 0) (a_1 (e_lr 2) (a_1 (e_b o_imul (e_li 4) (e_i 4)) a_0)))))) (s_inc 5 4 1)) (s_rt .ireturn (e_li 4))))))))
noncomputable def f_X10_read : am_F := am_fn 5 (some .int) g_X10_read
set_option maxRecDepth 100000 in
theorem sd_X10_read : am_Sd ShX yX10_read cX10_read 5 (some .int) 4 f_X10_read := am_meth (y := yX10_read) (ret := (some .int)) x_X10_read (by decide) (by decide +kernel) (by decide +kernel)
abbrev S_X10_state : am_S := (ShX, cX10_state, 5, 6, RX10)
set_option maxRecDepth 100000 in
noncomputable def x_X10_state : am_SP S_X10_state := (t_sq (t_if1 (c_or (c_or (c_not (c_z .ne (x_k _ _ (ic_S (S := S_X10_state) sd_X10_within ky_X10_within ks_X10_within (by decide) 103 417 none) (x_a1 (x_iln 1) (x_a1 (x_bp 20 20 (by decide)) x_a0))))) (c_not (c_z .ne (x_k _ _ (ic_V (S := S_X10_state) sd_X10_isStrand ky_X10_isStrand kv_X10_isStrand (by decide) 126 526 none) (x_a1 (x_aln 0) (x_a1 (x_iln 2) x_a0)))))) (c_not (c_z .ne (x_k _ _ (ic_S (S := S_X10_state) sd_X10_within ky_X10_within ks_X10_within (by decide) 103 417 none) (x_a1 (x_iln 3) (x_a1 (x_ic 2 2 (by decide)) x_a0)))))) (t_rt .ireturn (x_bp (-2) (-2) (by decide)))) (t_sq (t_ast 4 (x_qld (x_gf 168 5 0 242 kg_5_0 (x_gf 50 10 7 368 kg_10_7 (x_aln 0))) (x_iln 2))) (t_rt .ireturn (x_c (c_z .eq (x_iln 3)) (x_ald (x_gf 172 3 1 224 kg_3_1 (x_al 4)) (x_iln 1)) (x_ald (x_gf 177 3 0 221 kg_3_0 (x_al 4)) (x_iln 1))))))
noncomputable def g_X10_state : am_T := (s_sq (s_if (b_or (b_or (b_not (b_z .ne (e_k (am_cs 2 f_X10_within) (a_1 (e_li 1) (a_1 (e_i 20) a_0))))) (b_not (b_z .ne (e_k (am_cl ShX 10 1 f_X10_isStrand) (a_1 (e_lr 0) (a_1 (e_li 2) a_0)))))) (b_not (b_z .ne (e_k (am_cs 2 f_X10_within) (a_1 (e_li 3) (a_1 (e_i 2) a_0)))))) (s_rt .ireturn (e_i (-2))) s_0) (s_sq (s_as (o_sr 5 4) (e_qld ShX (e_gf ShX 5 0 (e_gf ShX 10 7 (e_lr 0))) (e_li 2))) (s_rt .ireturn (e_c (b_z .eq (e_li 3)) (e_ald ShX (e_gf ShX 3 1 (e_lr 4)) (e_li 1)) (e_ald ShX (e_gf ShX 3 0 (e_lr 4)) (e_li 1))))))
noncomputable def f_X10_state : am_F := am_fn 5 (some .int) g_X10_state
set_option maxRecDepth 100000 in
theorem sd_X10_state : am_Sd ShX yX10_state cX10_state 5 (some .int) 6 f_X10_state := am_meth (y := yX10_state) (ret := (some .int)) x_X10_state (by decide) (by decide +kernel) (by decide +kernel)
abbrev S_X1_pops : am_S := (ShX, cX1_pops, 5, 0, RX1)
set_option maxRecDepth 100000 in
noncomputable def x_X1_pops : am_SP S_X1_pops := (t_sq (t_bk (t_sq (t_is 4 (x_ic 0 0 (by decide))) (t_lp (c_2 .lt (x_il 4) (x_gf 24 1 0 178 kg_1_0 (x_aln 0))) (t_sq (t_if1 (c_and (c_and (c_and (c_z .eq (x_ald (x_gf 9 1 1 181 kg_1_1 (x_aln 0)) (x_il 4))) (c_2 .le (x_ald (x_gf 15 1 2 183 kg_1_2 (x_aln 0)) (x_il 4)) (x_iln 3))) (c_2 .eq (x_ald (x_gf 18 1 3 185 kg_1_3 (x_aln 0)) (x_il 4)) (x_iln 1))) (c_2 .eq (x_ald (x_gf 21 1 4 188 kg_1_4 (x_aln 0)) (x_il 4)) (x_iln 2))) (t_rt .ireturn (x_ic 1 1 (by decide)))) (t_inc 4 1 1 (by decide)))))) (t_rt .ireturn (x_ic 0 0 (by decide))))
noncomputable def g_X1_pops : am_T := (s_sq (s_bk (s_sq (s_as (o_si 5 4) (e_i 0)) (s_lp (b_2 .lt (e_li 4) (e_gf ShX 1 0 (e_lr 0))) (s_sq (s_if (b_and (b_and (b_and (b_z .eq (e_ald ShX (e_gf ShX 1 1 (e_lr 0)) (e_li 4))) (b_2 .le (e_ald ShX (e_gf ShX 1 2 (e_lr 0)) (e_li 4)) (e_li 3))) (b_2 .eq (e_ald ShX (e_gf ShX 1 3 (e_lr 0)) (e_li 4)) (e_li 1))) (b_2 .eq (e_ald ShX (e_gf ShX 1 4 (e_lr 0)) (e_li 4)) (e_li 2))) (s_rt .ireturn (e_i 1)) s_0) (s_inc 5 4 1))))) (s_rt .ireturn (e_i 0)))
noncomputable def f_X1_pops : am_F := am_fn 5 (some .boolean) g_X1_pops
set_option maxRecDepth 100000 in
theorem sd_X1_pops : am_Sd ShX yX1_pops cX1_pops 5 (some .boolean) 0 f_X1_pops := am_meth (y := yX1_pops) (ret := (some .boolean)) x_X1_pops (by decide) (by decide +kernel) (by decide +kernel)
abbrev S_X10_bladderIn : am_S := (ShX, cX10_bladderIn, 4, 1, RX10)
set_option maxRecDepth 100000 in
noncomputable def x_X10_bladderIn : am_SP S_X10_bladderIn := (t_sq (t_if1 (c_or (c_2 .eq (x_ald (x_gf 172 3 1 224 kg_3_1 (x_qld (x_gf 168 5 0 242 kg_5_0 (x_gf 50 10 7 368 kg_10_7 (x_aln 0))) (x_iln 2))) (x_iln 1)) (x_ic 3 3 (by decide))) (c_z .ne (x_k _ _ (ic_V (S := S_X10_bladderIn) sd_X1_pops ky_X1_pops kv_X1_pops (by decide) 382 579 none) (x_a1 (x_gf 40 10 5 366 kg_10_5 (x_aln 0)) (x_a1 (x_iln 2) (x_a1 (x_iln 3) (x_a1 (x_iln 1) x_a0))))))) (t_rt .ireturn (x_ic 4 4 (by decide)))) (t_rt .ireturn (x_k _ _ (ic_V (S := S_X10_bladderIn) sd_X0_bladderOf ky_X0_bladderOf kv_X0_bladderOf (by decide) 139 530 none) (x_a1 (x_gf 29 10 3 364 kg_10_3 (x_aln 0)) (x_a1 (x_iln 2) (x_a1 (x_iln 3) x_a0))))))
noncomputable def g_X10_bladderIn : am_T := (s_sq (s_if (b_or (b_2 .eq (e_ald ShX (e_gf ShX 3 1 (e_qld ShX (e_gf ShX 5 0 (e_gf ShX 10 7 (e_lr 0))) (e_li 2))) (e_li 1)) (e_i 3)) (b_z .ne (e_k (am_cl ShX 1 3 f_X1_pops) (a_1 (e_gf ShX 10 5 (e_lr 0)) (a_1 (e_li 2) (a_1 (e_li 3) (a_1 (e_li 1) a_0))))))) (s_rt .ireturn (e_i 4)) s_0) (s_rt .ireturn (e_k (am_cl ShX 0 2 f_X0_bladderOf) (a_1 (e_gf ShX 10 3 (e_lr 0)) (a_1 (e_li 2) (a_1 (e_li 3) a_0))))))
noncomputable def f_X10_bladderIn : am_F := am_fn 4 (some .int) g_X10_bladderIn
set_option maxRecDepth 100000 in
theorem sd_X10_bladderIn : am_Sd ShX yX10_bladderIn cX10_bladderIn 4 (some .int) 1 f_X10_bladderIn := am_meth (y := yX10_bladderIn) (ret := (some .int)) x_X10_bladderIn (by decide) (by decide +kernel) (by decide +kernel)
abbrev S_X10_says : am_S := (ShX, cX10_says, 4, 6, RX10)
set_option maxRecDepth 100000 in
noncomputable def x_X10_says : am_SP S_X10_says := (t_sq (t_if1 (c_or (c_or (c_not (c_z .ne (x_k _ _ (ic_S (S := S_X10_says) sd_X10_within ky_X10_within ks_X10_within (by decide) 103 417 none) (x_a1 (x_iln 1) (x_a1 (x_bp 20 20 (by decide)) x_a0))))) (c_not (c_z .ne (x_k _ _ (ic_V (S := S_X10_says) sd_X10_isStrand ky_X10_isStrand kv_X10_isStrand (by decide) 126 526 none) (x_a1 (x_aln 0) (x_a1 (x_iln 2) x_a0)))))) (c_not (c_z .ne (x_k _ _ (ic_S (S := S_X10_says) sd_X10_within ky_X10_within ks_X10_within (by decide) 103 417 none) (x_a1 (x_iln 3) (x_a1 (x_bp 6 6 (by decide)) x_a0)))))) (t_rt .ireturn (x_bp (-2) (-2) (by decide)))) (t_rt .ireturn (x_c (c_2 .lt (x_iln 3) (x_ald (x_gf 136 0 3 148 kg_0_3 (x_gf 29 10 3 364 kg_10_3 (x_aln 0))) (x_iln 2))) (x_k _ _ (ic_V (S := S_X10_says) sd_X10_bladderIn ky_X10_bladderIn kv_X10_bladderIn (by decide) 178 575 none) (x_a1 (x_aln 0) (x_a1 (x_iln 1) (x_a1 (x_iln 2) (x_a1 (x_iln 3) x_a0))))) (x_ic (-1) (-1) (by decide)))))
noncomputable def g_X10_says : am_T := (s_sq (s_if (b_or (b_or (b_not (b_z .ne (e_k (am_cs 2 f_X10_within) (a_1 (e_li 1) (a_1 (e_i 20) a_0))))) (b_not (b_z .ne (e_k (am_cl ShX 10 1 f_X10_isStrand) (a_1 (e_lr 0) (a_1 (e_li 2) a_0)))))) (b_not (b_z .ne (e_k (am_cs 2 f_X10_within) (a_1 (e_li 3) (a_1 (e_i 6) a_0)))))) (s_rt .ireturn (e_i (-2))) s_0) (s_rt .ireturn (e_c (b_2 .lt (e_li 3) (e_ald ShX (e_gf ShX 0 3 (e_gf ShX 10 3 (e_lr 0))) (e_li 2))) (e_k (am_cl ShX 10 3 f_X10_bladderIn) (a_1 (e_lr 0) (a_1 (e_li 1) (a_1 (e_li 2) (a_1 (e_li 3) a_0))))) (e_i (-1)))))
noncomputable def f_X10_says : am_F := am_fn 4 (some .int) g_X10_says
set_option maxRecDepth 100000 in
theorem sd_X10_says : am_Sd ShX yX10_says cX10_says 4 (some .int) 6 f_X10_says := am_meth (y := yX10_says) (ret := (some .int)) x_X10_says (by decide) (by decide +kernel) (by decide +kernel)
abbrev S_X3_legibleHours : am_S := (ShX, cX3_legibleHours, 3, 0, RX3)
set_option maxRecDepth 100000 in
noncomputable def x_X3_legibleHours : am_SP S_X3_legibleHours := (t_sq (t_isn 1 (x_ic 0 0 (by decide))) (t_sq (t_bk (t_sq (t_isn 2 (x_ic 0 0 (by decide))) (t_lp (c_2 .lt (x_iln 2) (x_bp 20 20 (by decide))) (t_sq (t_if1 (c_2 .eq (x_ald (x_gf 15 3 1 222 kg_3_1 (x_aln 0)) (x_iln 2)) (x_ic 1 1 (by decide))) (t_inc 1 1 1 (by decide))) (t_inc 2 1 1 (by decide)))))) (t_rt .ireturn (x_iln 1))))
noncomputable def g_X3_legibleHours : am_T := (s_sq (s_as (o_si 3 1) (e_i 0)) (s_sq (s_bk (s_sq (s_as (o_si 3 2) (e_i 0)) (s_lp (b_2 .lt (e_li 2) (e_i 20)) (s_sq (s_if (b_2 .eq (e_ald ShX (e_gf ShX 3 1 (e_lr 0)) (e_li 2)) (e_i 1)) (s_inc 3 1 1) s_0) (s_inc 3 2 1))))) (s_rt .ireturn (e_li 1))))
noncomputable def f_X3_legibleHours : am_F := am_fn 3 (some .int) g_X3_legibleHours
set_option maxRecDepth 100000 in
theorem sd_X3_legibleHours : am_Sd ShX yX3_legibleHours cX3_legibleHours 3 (some .int) 0 f_X3_legibleHours := am_meth (y := yX3_legibleHours) (ret := (some .int)) x_X3_legibleHours (by decide) (by decide +kernel) (by decide +kernel)
abbrev S_X10_deed : am_S := (ShX, cX10_deed, 3, 6, RX10)
set_option maxRecDepth 100000 in
noncomputable def x_X10_deed : am_SP S_X10_deed := (t_sq (t_if1 (c_or (c_not (c_z .ne (x_k _ _ (ic_V (S := S_X10_deed) sd_X10_isStrand ky_X10_isStrand kv_X10_isStrand (by decide) 126 526 none) (x_a1 (x_aln 0) (x_a1 (x_iln 1) x_a0))))) (c_not (c_z .ne (x_k _ _ (ic_S (S := S_X10_deed) sd_X10_within ky_X10_within ks_X10_within (by decide) 103 417 none) (x_a1 (x_iln 2) (x_a1 (x_ic 2 2 (by decide)) x_a0)))))) (t_rt .ireturn (x_bp (-2) (-2) (by decide)))) (t_rt .ireturn (x_c (c_z .eq (x_iln 2)) (x_k _ _ (ic_V (S := S_X10_deed) sd_X3_legibleHours ky_X3_legibleHours kv_X3_legibleHours (by decide) 182 587 none) (x_a1 (x_qld (x_gf 168 5 0 242 kg_5_0 (x_gf 50 10 7 368 kg_10_7 (x_aln 0))) (x_iln 1)) x_a0)) (x_ald (x_gf 185 0 5 151 kg_0_5 (x_gf 29 10 3 364 kg_10_3 (x_aln 0))) (x_iln 1)))))
noncomputable def g_X10_deed : am_T := (s_sq (s_if (b_or (b_not (b_z .ne (e_k (am_cl ShX 10 1 f_X10_isStrand) (a_1 (e_lr 0) (a_1 (e_li 1) a_0))))) (b_not (b_z .ne (e_k (am_cs 2 f_X10_within) (a_1 (e_li 2) (a_1 (e_i 2) a_0)))))) (s_rt .ireturn (e_i (-2))) s_0) (s_rt .ireturn (e_c (b_z .eq (e_li 2)) (e_k (am_cl ShX 3 0 f_X3_legibleHours) (a_1 (e_qld ShX (e_gf ShX 5 0 (e_gf ShX 10 7 (e_lr 0))) (e_li 1)) a_0)) (e_ald ShX (e_gf ShX 0 5 (e_gf ShX 10 3 (e_lr 0))) (e_li 1)))))
noncomputable def f_X10_deed : am_F := am_fn 3 (some .int) g_X10_deed
set_option maxRecDepth 100000 in
theorem sd_X10_deed : am_Sd ShX yX10_deed cX10_deed 3 (some .int) 6 f_X10_deed := am_meth (y := yX10_deed) (ret := (some .int)) x_X10_deed (by decide) (by decide +kernel) (by decide +kernel)
abbrev S_X1_herons : am_S := (ShX, cX1_herons, 5, 0, RX1)
set_option maxRecDepth 100000 in
noncomputable def x_X1_herons : am_SP S_X1_herons := (t_sq (t_isn 3 (x_ic 0 0 (by decide))) (t_sq (t_bk (t_sq (t_is 4 (x_ic 0 0 (by decide))) (t_lp (c_2 .lt (x_il 4) (x_gf 24 1 0 178 kg_1_0 (x_aln 0))) (t_sq (t_if1 (c_and (c_and (c_2 .eq (x_ald (x_gf 9 1 1 181 kg_1_1 (x_aln 0)) (x_il 4)) (x_ic 1 1 (by decide))) (c_2 .le (x_ald (x_gf 15 1 2 183 kg_1_2 (x_aln 0)) (x_il 4)) (x_iln 2))) (c_z .ne (x_iand (x_ishr (x_iln 1) (x_ald (x_gf 18 1 3 185 kg_1_3 (x_aln 0)) (x_il 4))) (x_ic 1 1 (by decide))))) (t_isn 3 (x_ior (x_iln 3) (x_ishl (x_ic 1 1 (by decide)) (x_il 4))))) (t_inc 4 1 1 (by decide)))))) (t_rt .ireturn (x_iln 3))))
noncomputable def g_X1_herons : am_T := (s_sq (s_as (o_si 5 3) (e_i 0)) (s_sq (s_bk (s_sq (s_as (o_si 5 4) (e_i 0)) (s_lp (b_2 .lt (e_li 4) (e_gf ShX 1 0 (e_lr 0))) (s_sq (s_if (b_and (b_and (b_2 .eq (e_ald ShX (e_gf ShX 1 1 (e_lr 0)) (e_li 4)) (e_i 1)) (b_2 .le (e_ald ShX (e_gf ShX 1 2 (e_lr 0)) (e_li 4)) (e_li 2))) (b_z .ne (e_b o_iand (e_b o_ishr (e_li 1) (e_ald ShX (e_gf ShX 1 3 (e_lr 0)) (e_li 4))) (e_i 1)))) (s_as (o_si 5 3) (e_b o_ior (e_li 3) (e_b o_ishl (e_i 1) (e_li 4)))) s_0) (s_inc 5 4 1))))) (s_rt .ireturn (e_li 3))))
noncomputable def f_X1_herons : am_F := am_fn 5 (some .int) g_X1_herons
set_option maxRecDepth 100000 in
theorem sd_X1_herons : am_Sd ShX yX1_herons cX1_herons 5 (some .int) 0 f_X1_herons := am_meth (y := yX1_herons) (ret := (some .int)) x_X1_herons (by decide) (by decide +kernel) (by decide +kernel)
abbrev S_X10_voidBits : am_S := (ShX, cX10_voidBits, 5, 1, RX10)
set_option maxRecDepth 100000 in
noncomputable def x_X10_voidBits : am_SP S_X10_voidBits := (t_sq (t_isn 3 (x_ic 0 0 (by decide))) (t_sq (t_bk (t_sq (t_is 4 (x_ic 0 0 (by decide))) (t_lp (c_2 .lt (x_il 4) (x_gf 192 0 0 140 kg_0_0 (x_gf 29 10 3 364 kg_10_3 (x_aln 0)))) (t_sq (t_if1 (c_z .ne (x_k _ _ (ic_V (S := S_X10_voidBits) sd_X1_herons ky_X1_herons kv_X1_herons (by decide) 225 599 none) (x_a1 (x_aln 1) (x_a1 (x_ald (x_gf 222 0 6 153 kg_0_6 (x_gf 29 10 3 364 kg_10_3 (x_aln 0))) (x_il 4)) (x_a1 (x_iln 2) x_a0))))) (t_isn 3 (x_ior (x_iln 3) (x_ishl (x_ic 1 1 (by decide)) (x_il 4))))) (t_inc 4 1 1 (by decide)))))) (t_rt .ireturn (x_iln 3))))
noncomputable def g_X10_voidBits : am_T := (s_sq (s_as (o_si 5 3) (e_i 0)) (s_sq (s_bk (s_sq (s_as (o_si 5 4) (e_i 0)) (s_lp (b_2 .lt (e_li 4) (e_gf ShX 0 0 (e_gf ShX 10 3 (e_lr 0)))) (s_sq (s_if (b_z .ne (e_k (am_cl ShX 1 2 f_X1_herons) (a_1 (e_lr 1) (a_1 (e_ald ShX (e_gf ShX 0 6 (e_gf ShX 10 3 (e_lr 0))) (e_li 4)) (a_1 (e_li 2) a_0))))) (s_as (o_si 5 3) (e_b o_ior (e_li 3) (e_b o_ishl (e_i 1) (e_li 4)))) s_0) (s_inc 5 4 1))))) (s_rt .ireturn (e_li 3))))
noncomputable def f_X10_voidBits : am_F := am_fn 5 (some .int) g_X10_voidBits
set_option maxRecDepth 100000 in
theorem sd_X10_voidBits : am_Sd ShX yX10_voidBits cX10_voidBits 5 (some .int) 1 f_X10_voidBits := am_meth (y := yX10_voidBits) (ret := (some .int)) x_X10_voidBits (by decide) (by decide +kernel) (by decide +kernel)
abbrev S_X10_voids : am_S := (ShX, cX10_voids, 2, 5, RX10)
set_option maxRecDepth 100000 in
noncomputable def x_X10_voids : am_SP S_X10_voids := (t_sq (t_if1 (c_not (c_z .ne (x_k _ _ (ic_S (S := S_X10_voids) sd_X10_within ky_X10_within ks_X10_within (by decide) 103 417 none) (x_a1 (x_iln 1) (x_a1 (x_bp 20 20 (by decide)) x_a0))))) (t_rt .ireturn (x_bp (-2) (-2) (by decide)))) (t_sq (t_k _ _ (ic_V (S := S_X10_voids) sd_X10_freshen ky_X10_freshen kv_X10_freshen (by decide) 120 436 none) (x_a1 (x_aln 0) x_a0)) (t_rt .ireturn (x_k _ _ (ic_V (S := S_X10_voids) sd_X10_voidBits ky_X10_voidBits kv_X10_voidBits (by decide) 188 595 none) (x_a1 (x_aln 0) (x_a1 (x_gf 40 10 5 366 kg_10_5 (x_aln 0)) (x_a1 (x_iln 1) x_a0)))))))
noncomputable def g_X10_voids : am_T := (s_sq (s_if (b_not (b_z .ne (e_k (am_cs 2 f_X10_within) (a_1 (e_li 1) (a_1 (e_i 20) a_0))))) (s_rt .ireturn (e_i (-2))) s_0) (s_sq (s_k (am_cl ShX 10 0 f_X10_freshen) (a_1 (e_lr 0) a_0)) (s_rt .ireturn (e_k (am_cl ShX 10 2 f_X10_voidBits) (a_1 (e_lr 0) (a_1 (e_gf ShX 10 5 (e_lr 0)) (a_1 (e_li 1) a_0)))))))
noncomputable def f_X10_voids : am_F := am_fn 2 (some .int) g_X10_voids
set_option maxRecDepth 100000 in
theorem sd_X10_voids : am_Sd ShX yX10_voids cX10_voids 2 (some .int) 5 f_X10_voids := am_meth (y := yX10_voids) (ret := (some .int)) x_X10_voids (by decide) (by decide +kernel) (by decide +kernel)
abbrev S_X0_inTwos : am_S := (ShX, cX0_inTwos, 3, 1, RX0)
set_option maxRecDepth 100000 in
noncomputable def x_X0_inTwos : am_SP S_X0_inTwos := (t_sq (t_if1 (c_z .ne (x_irem (x_ald (x_gf 18 0 3 147 kg_0_3 (x_aln 0)) (x_iln 1)) (x_ic 2 2 (by decide)))) (t_rt .ireturn (x_ic 0 0 (by decide)))) (t_sq (t_bk (t_sq (t_isn 2 (x_ic 0 0 (by decide))) (t_lp (c_2 .lt (x_iadd (x_iln 2) (x_ic 1 1 (by decide))) (x_ald (x_gf 18 0 3 147 kg_0_3 (x_aln 0)) (x_iln 1))) (t_sq (t_if1 (c_2 .ne (x_k _ _ (ic_V (S := S_X0_inTwos) sd_X0_bladderOf ky_X0_bladderOf kv_X0_bladderOf (by decide) 63 468 none) (x_a1 (x_aln 0) (x_a1 (x_iln 1) (x_a1 (x_iln 2) x_a0)))) (x_k _ _ (ic_V (S := S_X0_inTwos) sd_X0_bladderOf ky_X0_bladderOf kv_X0_bladderOf (by decide) 63 468 none) (x_a1 (x_aln 0) (x_a1 (x_iln 1) (x_a1 (x_iadd (x_iln 2) (x_ic 1 1 (by decide))) x_a0))))) (t_rt .ireturn (x_ic 0 0 (by decide)))) (t_inc 2 2 2 (by decide)))))) (t_rt .ireturn (x_ic 1 1 (by decide)))))
noncomputable def g_X0_inTwos : am_T := (s_sq (s_if (b_z .ne (e_b o_irem (e_ald ShX (e_gf ShX 0 3 (e_lr 0)) (e_li 1)) (e_i 2))) (s_rt .ireturn (e_i 0)) s_0) (s_sq (s_bk (s_sq (s_as (o_si 3 2) (e_i 0)) (s_lp (b_2 .lt (e_b o_iadd (e_li 2) (e_i 1)) (e_ald ShX (e_gf ShX 0 3 (e_lr 0)) (e_li 1))) (s_sq (s_if (b_2 .ne (e_k (am_cl ShX 0 2 f_X0_bladderOf) (a_1 (e_lr 0) (a_1 (e_li 1) (a_1 (e_li 2) a_0)))) (e_k (am_cl ShX 0 2 f_X0_bladderOf) (a_1 (e_lr 0) (a_1 (e_li 1) (a_1 (e_b o_iadd (e_li 2) (e_i 1)) a_0))))) (s_rt .ireturn (e_i 0)) s_0) (s_inc 3 2 2))))) (s_rt .ireturn (e_i 1))))
noncomputable def f_X0_inTwos : am_F := am_fn 3 (some .boolean) g_X0_inTwos
set_option maxRecDepth 100000 in
theorem sd_X0_inTwos : am_Sd ShX yX0_inTwos cX0_inTwos 3 (some .boolean) 1 f_X0_inTwos := am_meth (y := yX0_inTwos) (ret := (some .boolean)) x_X0_inTwos (by decide) (by decide +kernel) (by decide +kernel)
abbrev S_X10_forged : am_S := (ShX, cX10_forged, 3, 5, RX10)
set_option maxRecDepth 100000 in
noncomputable def x_X10_forged : am_SP S_X10_forged := (t_sq (t_k _ _ (ic_V (S := S_X10_forged) sd_X10_freshen ky_X10_freshen kv_X10_freshen (by decide) 120 436 none) (x_a1 (x_aln 0) x_a0)) (t_sq (t_isn 1 (x_ic 0 0 (by decide))) (t_sq (t_bk (t_sq (t_isn 2 (x_ic 0 0 (by decide))) (t_lp (c_2 .lt (x_iln 2) (x_gf 192 0 0 140 kg_0_0 (x_gf 29 10 3 364 kg_10_3 (x_aln 0)))) (t_sq (t_if1 (c_z .ne (x_k _ _ (ic_V (S := S_X10_forged) sd_X0_inTwos ky_X0_inTwos kv_X0_inTwos (by decide) 193 607 none) (x_a1 (x_gf 29 10 3 364 kg_10_3 (x_aln 0)) (x_a1 (x_iln 2) x_a0)))) (t_isn 1 (x_ior (x_iln 1) (x_ishl (x_ic 1 1 (by decide)) (x_iln 2))))) (t_inc 2 1 1 (by decide)))))) (t_rt .ireturn (x_iln 1)))))
noncomputable def g_X10_forged : am_T := (s_sq (s_k (am_cl ShX 10 0 f_X10_freshen) (a_1 (e_lr 0) a_0)) (s_sq (s_as (o_si 3 1) (e_i 0)) (s_sq (s_bk (s_sq (s_as (o_si 3 2) (e_i 0)) (s_lp (b_2 .lt (e_li 2) (e_gf ShX 0 0 (e_gf ShX 10 3 (e_lr 0)))) (s_sq (s_if (b_z .ne (e_k (am_cl ShX 0 1 f_X0_inTwos) (a_1 (e_gf ShX 10 3 (e_lr 0)) (a_1 (e_li 2) a_0)))) (s_as (o_si 3 1) (e_b o_ior (e_li 1) (e_b o_ishl (e_i 1) (e_li 2)))) s_0) (s_inc 3 2 1))))) (s_rt .ireturn (e_li 1)))))
noncomputable def f_X10_forged : am_F := am_fn 3 (some .int) g_X10_forged
set_option maxRecDepth 100000 in
theorem sd_X10_forged : am_Sd ShX yX10_forged cX10_forged 3 (some .int) 5 f_X10_forged := am_meth (y := yX10_forged) (ret := (some .int)) x_X10_forged (by decide) (by decide +kernel) (by decide +kernel)
abbrev S_X0_runFrom : am_S := (ShX, cX0_runFrom, 6, 1, RX0)
set_option maxRecDepth 100000 in
noncomputable def x_X0_runFrom : am_SP S_X0_runFrom := (t_sq (t_is 5 (x_ic 0 0 (by decide))) (t_sq (t_lp (c_and (c_and (c_2 .lt (x_iadd (x_iln 2) (x_il 5)) (x_ald (x_gf 18 0 3 147 kg_0_3 (x_aln 0)) (x_iln 1))) (c_2 .lt (x_iadd (x_il 4) (x_il 5)) (x_ald (x_gf 18 0 3 147 kg_0_3 (x_aln 0)) (x_iln 3)))) (c_2 .eq (x_k _ _ (ic_V (S := S_X0_runFrom) sd_X0_bladderOf ky_X0_bladderOf kv_X0_bladderOf (by decide) 63 468 none) (x_a1 (x_aln 0) (x_a1 (x_iln 1) (x_a1 (x_iadd (x_iln 2) (x_il 5)) x_a0)))) (x_k _ _ (ic_V (S := S_X0_runFrom) sd_X0_bladderOf ky_X0_bladderOf kv_X0_bladderOf (by decide) 63 468 none) (x_a1 (x_aln 0) (x_a1 (x_iln 3) (x_a1 (x_iadd (x_il 4) (x_il 5)) x_a0)))))) (t_inc 5 1 1 (by decide))) (t_rt .ireturn (x_il 5))))
noncomputable def g_X0_runFrom : am_T := (s_sq (s_as (o_si 6 5) (e_i 0)) (s_sq (s_lp (b_and (b_and (b_2 .lt (e_b o_iadd (e_li 2) (e_li 5)) (e_ald ShX (e_gf ShX 0 3 (e_lr 0)) (e_li 1))) (b_2 .lt (e_b o_iadd (e_li 4) (e_li 5)) (e_ald ShX (e_gf ShX 0 3 (e_lr 0)) (e_li 3)))) (b_2 .eq (e_k (am_cl ShX 0 2 f_X0_bladderOf) (a_1 (e_lr 0) (a_1 (e_li 1) (a_1 (e_b o_iadd (e_li 2) (e_li 5)) a_0)))) (e_k (am_cl ShX 0 2 f_X0_bladderOf) (a_1 (e_lr 0) (a_1 (e_li 3) (a_1 (e_b o_iadd (e_li 4) (e_li 5)) a_0)))))) (s_inc 6 5 1)) (s_rt .ireturn (e_li 5))))
noncomputable def f_X0_runFrom : am_F := am_fn 6 (some .int) g_X0_runFrom
set_option maxRecDepth 100000 in
theorem sd_X0_runFrom : am_Sd ShX yX0_runFrom cX0_runFrom 6 (some .int) 1 f_X0_runFrom := am_meth (y := yX0_runFrom) (ret := (some .int)) x_X0_runFrom (by decide) (by decide +kernel) (by decide +kernel)
end
section
/-! methods as forms, by program (gen.py, mkm.py): x_ the form, g_ and f_ the meaning, sd_ the contract -/
abbrev S_X0_commonRun : am_S := (ShX, cX0_commonRun, 6, 2, RX0)
set_option maxRecDepth 100000 in
noncomputable def x_X0_commonRun : am_SP S_X0_commonRun := (t_sq (t_isn 3 (x_ic 0 0 (by decide))) (t_sq (t_bk (t_sq (t_is 4 (x_ic 0 0 (by decide))) (t_lp (c_2 .lt (x_il 4) (x_ald (x_gf 18 0 3 147 kg_0_3 (x_aln 0)) (x_iln 1))) (t_sq (t_bk (t_sq (t_is 5 (x_ic 0 0 (by decide))) (t_lp (c_2 .lt (x_il 5) (x_ald (x_gf 18 0 3 147 kg_0_3 (x_aln 0)) (x_iln 2))) (t_sq (t_isn 3 (x_k _ _ (ic_max (S := S_X0_commonRun) 71 623 (by decide)) (x_a1 (x_iln 3) (x_a1 (x_k _ _ (ic_V (S := S_X0_commonRun) sd_X0_runFrom ky_X0_runFrom kv_X0_runFrom (by decide) 67 619 none) (x_a1 (x_aln 0) (x_a1 (x_iln 1) (x_a1 (x_il 4) (x_a1 (x_iln 2) (x_a1 (x_il 5) x_a0)))))) x_a0)))) (t_inc 5 1 1 (by decide)))))) (t_inc 4 1 1 (by decide)))))) (t_rt .ireturn (x_iln 3))))
noncomputable def g_X0_commonRun : am_T := (s_sq (s_as (o_si 6 3) (e_i 0)) (s_sq (s_bk (s_sq (s_as (o_si 6 4) (e_i 0)) (s_lp (b_2 .lt (e_li 4) (e_ald ShX (e_gf ShX 0 3 (e_lr 0)) (e_li 1))) (s_sq (s_bk (s_sq (s_as (o_si 6 5) (e_i 0)) (s_lp (b_2 .lt (e_li 5) (e_ald ShX (e_gf ShX 0 3 (e_lr 0)) (e_li 2))) (s_sq (s_as (o_si 6 3) (e_k (am_m2 am_max) (a_1 (e_li 3) (a_1 (e_k (am_cl ShX 0 4 f_X0_runFrom) (a_1 (e_lr 0) (a_1 (e_li 1) (a_1 (e_li 4) (a_1 (e_li 2) (a_1 (e_li 5) a_0)))))) a_0)))) (s_inc 6 5 1))))) (s_inc 6 4 1))))) (s_rt .ireturn (e_li 3))))
noncomputable def f_X0_commonRun : am_F := am_fn 6 (some .int) g_X0_commonRun
set_option maxRecDepth 100000 in
theorem sd_X0_commonRun : am_Sd ShX yX0_commonRun cX0_commonRun 6 (some .int) 2 f_X0_commonRun := am_meth (y := yX0_commonRun) (ret := (some .int)) x_X0_commonRun (by decide) (by decide +kernel) (by decide +kernel)
abbrev S_X10_tangled : am_S := (ShX, cX10_tangled, 7, 5, RX10)
set_option maxRecDepth 100000 in
noncomputable def x_X10_tangled : am_SP S_X10_tangled := (t_sq (t_if1 (c_not (c_z .ne (x_k _ _ (ic_S (S := S_X10_tangled) sd_X10_within ky_X10_within ks_X10_within (by decide) 103 417 none) (x_a1 (x_iln 1) (x_a1 (x_ic 2 2 (by decide)) x_a0))))) (t_rt .ireturn (x_bp (-2) (-2) (by decide)))) (t_sq (t_k _ _ (ic_V (S := S_X10_tangled) sd_X10_freshen ky_X10_freshen kv_X10_freshen (by decide) 120 436 none) (x_a1 (x_aln 0) x_a0)) (t_sq (t_isn 2 (x_ic 0 0 (by decide))) (t_sq (t_isn 3 (x_ic 0 0 (by decide))) (t_sq (t_bk (t_sq (t_is 4 (x_ic 0 0 (by decide))) (t_lp (c_2 .lt (x_il 4) (x_gf 192 0 0 140 kg_0_0 (x_gf 29 10 3 364 kg_10_3 (x_aln 0)))) (t_sq (t_bk (t_sq (t_is 5 (x_iadd (x_il 4) (x_ic 1 1 (by decide)))) (t_lp (c_2 .lt (x_il 5) (x_gf 192 0 0 140 kg_0_0 (x_gf 29 10 3 364 kg_10_3 (x_aln 0)))) (t_sq (t_bk (t_sq (t_is 6 (x_k _ _ (ic_V (S := S_X10_tangled) sd_X0_commonRun ky_X0_commonRun kv_X0_commonRun (by decide) 196 615 none) (x_a1 (x_gf 29 10 3 364 kg_10_3 (x_aln 0)) (x_a1 (x_il 4) (x_a1 (x_il 5) x_a0))))) (t_if1 (c_2 .ge (x_il 6) (x_ic 2 2 (by decide))) (t_sq (t_inc 2 1 1 (by decide)) (t_isn 3 (x_k _ _ (ic_max (S := S_X10_tangled) 199 626 (by decide)) (x_a1 (x_iln 3) (x_a1 (x_il 6) x_a0)))))))) (t_inc 5 1 1 (by decide)))))) (t_inc 4 1 1 (by decide)))))) (t_rt .ireturn (x_c (c_z .eq (x_iln 1)) (x_iln 2) (x_iln 3))))))))
noncomputable def g_X10_tangled : am_T := (s_sq (s_if (b_not (b_z .ne (e_k (am_cs 2 f_X10_within) (a_1 (e_li 1) (a_1 (e_i 2) a_0))))) (s_rt .ireturn (e_i (-2))) s_0) (s_sq (s_k (am_cl ShX 10 0 f_X10_freshen) (a_1 (e_lr 0) a_0)) (s_sq (s_as (o_si 7 2) (e_i 0)) (s_sq (s_as (o_si 7 3) (e_i 0)) (s_sq (s_bk (s_sq (s_as (o_si 7 4) (e_i 0)) (s_lp (b_2 .lt (e_li 4) (e_gf ShX 0 0 (e_gf ShX 10 3 (e_lr 0)))) (s_sq (s_bk (s_sq (s_as (o_si 7 5) (e_b o_iadd (e_li 4) (e_i 1))) (s_lp (b_2 .lt (e_li 5) (e_gf ShX 0 0 (e_gf ShX 10 3 (e_lr 0)))) (s_sq (s_bk (s_sq (s_as (o_si 7 6) (e_k (am_cl ShX 0 2 f_X0_commonRun) (a_1 (e_gf ShX 10 3 (e_lr 0)) (a_1 (e_li 4) (a_1 (e_li 5) a_0))))) (s_if (b_2 .ge (e_li 6) (e_i 2)) (s_sq (s_inc 7 2 1) (s_as (o_si 7 3) (e_k (am_m2 am_max) (a_1 (e_li 3) (a_1 (e_li 6) a_0))))) s_0))) (s_inc 7 5 1))))) (s_inc 7 4 1))))) (s_rt .ireturn (e_c (b_z .eq (e_li 1)) (e_li 2) (e_li 3))))))))
noncomputable def f_X10_tangled : am_F := am_fn 7 (some .int) g_X10_tangled
set_option maxRecDepth 100000 in
theorem sd_X10_tangled : am_Sd ShX yX10_tangled cX10_tangled 7 (some .int) 5 f_X10_tangled := am_meth (y := yX10_tangled) (ret := (some .int)) x_X10_tangled (by decide) (by decide +kernel) (by decide +kernel)
abbrev S_X10_reads : am_S := (ShX, cX10_reads, 2, 5, RX10)
set_option maxRecDepth 100000 in
noncomputable def x_X10_reads : am_SP S_X10_reads := (t_sq (t_if1 (c_not (c_z .ne (x_k _ _ (ic_S (S := S_X10_reads) sd_X10_within ky_X10_within ks_X10_within (by decide) 103 417 none) (x_a1 (x_iln 1) (x_a1 (x_bp 9 9 (by decide)) x_a0))))) (t_rt .ireturn (x_bp (-2) (-2) (by decide)))) (t_sq (t_k _ _ (ic_V (S := S_X10_reads) sd_X10_freshen ky_X10_freshen kv_X10_freshen (by decide) 120 436 none) (x_a1 (x_aln 0) x_a0)) (t_sq (t_if1 (c_2 .eq (x_iln 1) (x_bp 8 8 (by decide))) (t_rt .ireturn (x_gf 204 9 0 253 kg_9_0 (x_gf 60 10 9 370 kg_10_9 (x_aln 0))))) (t_rt .ireturn (x_c (c_2 .lt (x_iln 1) (x_gf 204 9 0 253 kg_9_0 (x_gf 60 10 9 370 kg_10_9 (x_aln 0)))) (x_ald (x_gf 205 9 1 255 kg_9_1 (x_gf 60 10 9 370 kg_10_9 (x_aln 0))) (x_iln 1)) (x_ic (-1) (-1) (by decide)))))))
noncomputable def g_X10_reads : am_T := (s_sq (s_if (b_not (b_z .ne (e_k (am_cs 2 f_X10_within) (a_1 (e_li 1) (a_1 (e_i 9) a_0))))) (s_rt .ireturn (e_i (-2))) s_0) (s_sq (s_k (am_cl ShX 10 0 f_X10_freshen) (a_1 (e_lr 0) a_0)) (s_sq (s_if (b_2 .eq (e_li 1) (e_i 8)) (s_rt .ireturn (e_gf ShX 9 0 (e_gf ShX 10 9 (e_lr 0)))) s_0) (s_rt .ireturn (e_c (b_2 .lt (e_li 1) (e_gf ShX 9 0 (e_gf ShX 10 9 (e_lr 0)))) (e_ald ShX (e_gf ShX 9 1 (e_gf ShX 10 9 (e_lr 0))) (e_li 1)) (e_i (-1)))))))
noncomputable def f_X10_reads : am_F := am_fn 2 (some .int) g_X10_reads
set_option maxRecDepth 100000 in
theorem sd_X10_reads : am_Sd ShX yX10_reads cX10_reads 2 (some .int) 5 f_X10_reads := am_meth (y := yX10_reads) (ret := (some .int)) x_X10_reads (by decide) (by decide +kernel) (by decide +kernel)
abbrev S_X8_keepIfBetter : am_S := (ShX, cX8_keepIfBetter, 3, 1, RX8)
set_option maxRecDepth 100000 in
noncomputable def x_X8_keepIfBetter : am_SP S_X8_keepIfBetter := (t_sq (t_if1 (c_or (c_2 .gt (x_iln 1) (x_gf 25 8 0 267 kg_8_0 (x_aln 0))) (c_and (c_2 .eq (x_iln 1) (x_gf 25 8 0 267 kg_8_0 (x_aln 0))) (c_2 .lt (x_iln 2) (x_gf 29 8 1 269 kg_8_1 (x_aln 0))))) (t_sq (t_pf 25 8 0 267 false kp_8_0 (x_aln 0) (x_iln 1)) (t_sq (t_pf 29 8 1 269 false kp_8_1 (x_aln 0) (x_iln 2)) (t_cy 78 651 (by decide) (x_a1 (x_gf 19 8 4 275 kg_8_4 (x_aln 0)) (x_a1 (x_ic 0 0 (by decide)) (x_a1 (x_gf 9 8 2 271 kg_8_2 (x_aln 0)) (x_a1 (x_ic 0 0 (by decide)) (x_a1 (x_iln 1) x_a0))))))))) t_rv)
noncomputable def g_X8_keepIfBetter : am_T := (s_sq (s_if (b_or (b_2 .gt (e_li 1) (e_gf ShX 8 0 (e_lr 0))) (b_and (b_2 .eq (e_li 1) (e_gf ShX 8 0 (e_lr 0))) (b_2 .lt (e_li 2) (e_gf ShX 8 1 (e_lr 0))))) (s_sq (s_pf ShX 8 0 false (e_lr 0) (e_li 1)) (s_sq (s_pf ShX 8 1 false (e_lr 0) (e_li 2)) (s_cy ShX (a_1 (e_gf ShX 8 4 (e_lr 0)) (a_1 (e_i 0) (a_1 (e_gf ShX 8 2 (e_lr 0)) (a_1 (e_i 0) (a_1 (e_li 1) a_0)))))))) s_0) s_rv)
noncomputable def f_X8_keepIfBetter : am_F := am_fn 3 none g_X8_keepIfBetter
set_option maxRecDepth 100000 in
theorem sd_X8_keepIfBetter : am_Sd ShX yX8_keepIfBetter cX8_keepIfBetter 3 none 1 f_X8_keepIfBetter := am_meth (y := yX8_keepIfBetter) (ret := none) x_X8_keepIfBetter (by decide) (by decide +kernel) (by decide +kernel)
abbrev S_X8_mayGetBetter : am_S := (ShX, cX8_mayGetBetter, 4, 1, RX8)
set_option maxRecDepth 100000 in
noncomputable def x_X8_mayGetBetter : am_SP S_X8_mayGetBetter := (t_sq (t_isn 3 (x_iadd (x_iln 1) (x_k _ _ (ic_min (S := S_X8_mayGetBetter) 32 639 (by decide)) (x_a1 (x_isub (x_gf 38 8 6 277 kg_8_6 (x_aln 0)) (x_iln 1)) (x_a1 (x_isub (x_bp 19 19 (by decide)) (x_iln 2)) x_a0))))) (t_rt .ireturn (x_c (c_or (c_2 .gt (x_iln 3) (x_gf 25 8 0 267 kg_8_0 (x_aln 0))) (c_and (c_2 .eq (x_iln 3) (x_gf 25 8 0 267 kg_8_0 (x_aln 0))) (c_2 .lt (x_isub (x_iadd (x_iln 2) (x_gf 25 8 0 267 kg_8_0 (x_aln 0))) (x_iln 1)) (x_gf 29 8 1 269 kg_8_1 (x_aln 0))))) (x_ic 1 1 (by decide)) (x_ic 0 0 (by decide)))))
noncomputable def g_X8_mayGetBetter : am_T := (s_sq (s_as (o_si 4 3) (e_b o_iadd (e_li 1) (e_k (am_m2 am_min) (a_1 (e_b o_isub (e_gf ShX 8 6 (e_lr 0)) (e_li 1)) (a_1 (e_b o_isub (e_i 19) (e_li 2)) a_0))))) (s_rt .ireturn (e_c (b_or (b_2 .gt (e_li 3) (e_gf ShX 8 0 (e_lr 0))) (b_and (b_2 .eq (e_li 3) (e_gf ShX 8 0 (e_lr 0))) (b_2 .lt (e_b o_isub (e_b o_iadd (e_li 2) (e_gf ShX 8 0 (e_lr 0))) (e_li 1)) (e_gf ShX 8 1 (e_lr 0))))) (e_i 1) (e_i 0))))
noncomputable def f_X8_mayGetBetter : am_F := am_fn 4 (some .boolean) g_X8_mayGetBetter
set_option maxRecDepth 100000 in
theorem sd_X8_mayGetBetter : am_Sd ShX yX8_mayGetBetter cX8_mayGetBetter 4 (some .boolean) 1 f_X8_mayGetBetter := am_meth (y := yX8_mayGetBetter) (ret := (some .boolean)) x_X8_mayGetBetter (by decide) (by decide +kernel) (by decide +kernel)
abbrev S_X8_visit (n : Nat) : am_S := (ShX, cX8_visit, 10, 2 + n + 1, RX8)
set_option maxRecDepth 100000 in
noncomputable def x_X8_visit {n : Nat} {frec : am_F} (hrec : am_Sd ShX yX8_visit cX8_visit 10 none (2 + n) frec) : am_SP (S_X8_visit n) := (t_sq (t_is 6 (x_ior (x_il 4) (x_ishl (x_ic 1 1 (by decide)) (x_iln 2)))) (t_sq (t_is 7 (x_iadd (x_imul (x_il 6) (x_bp 8 8 (by decide))) (x_iln 2))) (t_sq (t_if1 (c_or (c_or (c_2 .eq (x_iln 3) (x_ic (-1) (-1) (by decide))) (c_2 .ge (x_il 5) (x_bp 8 8 (by decide)))) (c_z .ne (x_iand (x_ishr (x_ald (x_gf 22 8 5 276 kg_8_5 (x_aln 0)) (x_il 7)) (x_iln 3)) (x_ic 1 1 (by decide))))) t_rv) (t_sq (t_io _ _ ib_ior (x_gf 22 8 5 276 kg_8_5 (x_aln 0)) (x_il 7) (x_ishl (x_ic 1 1 (by decide)) (x_iln 3))) (t_sq (t_ia (x_gf 19 8 4 275 kg_8_4 (x_aln 0)) (x_il 5) (x_iln 2)) (t_sq (t_k _ _ (ic_V (S := (S_X8_visit n)) sd_X8_keepIfBetter ky_X8_keepIfBetter kv_X8_keepIfBetter (by show _ ≤ 2 + n + 1; omega) 57 647 none) (x_a1 (x_aln 0) (x_a1 (x_iadd (x_il 5) (x_ic 1 1 (by decide))) (x_a1 (x_iln 3) x_a0)))) (t_sq (t_if1 (c_not (c_z .ne (x_k _ _ (ic_V (S := (S_X8_visit n)) sd_X8_mayGetBetter ky_X8_mayGetBetter kv_X8_mayGetBetter (by show _ ≤ 2 + n + 1; omega) 61 654 none) (x_a1 (x_aln 0) (x_a1 (x_iadd (x_il 5) (x_ic 1 1 (by decide))) (x_a1 (x_iln 3) x_a0)))))) t_rv) (t_sq (t_is 8 (x_ald (x_gf 69 3 0 220 kg_3_0 (x_qld (x_gf 65 5 0 241 kg_5_0 (x_aln 1)) (x_iln 2))) (x_iln 3))) (t_sq (t_bk (t_sq (t_is 9 (x_ic 0 0 (by decide))) (t_lp (c_2 .lt (x_il 9) (x_gf 38 8 6 277 kg_8_6 (x_aln 0))) (t_sq (t_if1 (c_z .eq (x_iand (x_ishr (x_il 6) (x_il 9)) (x_ic 1 1 (by decide)))) (t_k _ _ (ic_S (S := (S_X8_visit n)) hrec ky_X8_visit ks_X8_visit (by show _ ≤ 2 + n + 1; omega) 53 644 none) (x_a1 (x_aln 0) (x_a1 (x_aln 1) (x_a1 (x_il 9) (x_a1 (x_k _ _ (ic_V (S := (S_X8_visit n)) sd_X5_nextRead ky_X5_nextRead kv_X5_nextRead (by show _ ≤ 2 + n + 1; omega) 74 658 none) (x_a1 (x_aln 1) (x_a1 (x_il 9) (x_a1 (x_iadd (x_iln 3) (x_ic 1 1 (by decide))) (x_a1 (x_il 8) x_a0))))) (x_a1 (x_il 6) (x_a1 (x_iadd (x_il 5) (x_ic 1 1 (by decide))) x_a0)))))))) (t_inc 9 1 1 (by decide)))))) t_rv)))))))))
noncomputable def g_X8_visit (frec : am_F) : am_T := (s_sq (s_as (o_si 10 6) (e_b o_ior (e_li 4) (e_b o_ishl (e_i 1) (e_li 2)))) (s_sq (s_as (o_si 10 7) (e_b o_iadd (e_b o_imul (e_li 6) (e_i 8)) (e_li 2))) (s_sq (s_if (b_or (b_or (b_2 .eq (e_li 3) (e_i (-1))) (b_2 .ge (e_li 5) (e_i 8))) (b_z .ne (e_b o_iand (e_b o_ishr (e_ald ShX (e_gf ShX 8 5 (e_lr 0)) (e_li 7)) (e_li 3)) (e_i 1)))) s_rv s_0) (s_sq (s_io ShX o_ior (e_gf ShX 8 5 (e_lr 0)) (e_li 7) (e_b o_ishl (e_i 1) (e_li 3))) (s_sq (s_ia ShX (e_gf ShX 8 4 (e_lr 0)) (e_li 5) (e_li 2)) (s_sq (s_k (am_cl ShX 8 2 f_X8_keepIfBetter) (a_1 (e_lr 0) (a_1 (e_b o_iadd (e_li 5) (e_i 1)) (a_1 (e_li 3) a_0)))) (s_sq (s_if (b_not (b_z .ne (e_k (am_cl ShX 8 2 f_X8_mayGetBetter) (a_1 (e_lr 0) (a_1 (e_b o_iadd (e_li 5) (e_i 1)) (a_1 (e_li 3) a_0)))))) s_rv s_0) (s_sq (s_as (o_si 10 8) (e_ald ShX (e_gf ShX 3 0 (e_qld ShX (e_gf ShX 5 0 (e_lr 1)) (e_li 2))) (e_li 3))) (s_sq (s_bk (s_sq (s_as (o_si 10 9) (e_i 0)) (s_lp (b_2 .lt (e_li 9) (e_gf ShX 8 6 (e_lr 0))) (s_sq (s_if (b_z .eq (e_b o_iand (e_b o_ishr (e_li 6) (e_li 9)) (e_i 1))) (s_k (am_cs 6 frec) (a_1 (e_lr 0) (a_1 (e_lr 1) (a_1 (e_li 9) (a_1 (e_k (am_cl ShX 5 3 f_X5_nextRead) (a_1 (e_lr 1) (a_1 (e_li 9) (a_1 (e_b o_iadd (e_li 3) (e_i 1)) (a_1 (e_li 8) a_0))))) (a_1 (e_li 6) (a_1 (e_b o_iadd (e_li 5) (e_i 1)) a_0))))))) s_0) (s_inc 10 9 1))))) s_rv)))))))))
noncomputable def f_X8_visit : Nat → am_F
  | 0 => fun _ _ => none
  | n + 1 => am_fn 10 none (g_X8_visit (f_X8_visit n))
theorem sd0_X8_visit (d : Nat) : am_Sd ShX yX8_visit cX8_visit 10 none d (fun _ _ => none) := fun _ _ _ _ _ _ _ _ _ h => nomatch h
theorem sn0_X8_visit : am_Sd ShX yX8_visit cX8_visit 10 none (2 + 0) (f_X8_visit 0) := sd0_X8_visit _
set_option maxRecDepth 100000 in
theorem sn1_X8_visit : am_Sd ShX yX8_visit cX8_visit 10 none (2 + 1) (f_X8_visit 1) := am_meth (y := yX8_visit) (ret := none) (x_X8_visit (n := 0) sn0_X8_visit) (by decide) (by decide +kernel) (by decide +kernel)
set_option maxRecDepth 100000 in
theorem sn2_X8_visit : am_Sd ShX yX8_visit cX8_visit 10 none (2 + 2) (f_X8_visit 2) := am_meth (y := yX8_visit) (ret := none) (x_X8_visit (n := 1) sn1_X8_visit) (by decide) (by decide +kernel) (by decide +kernel)
set_option maxRecDepth 100000 in
theorem sn3_X8_visit : am_Sd ShX yX8_visit cX8_visit 10 none (2 + 3) (f_X8_visit 3) := am_meth (y := yX8_visit) (ret := none) (x_X8_visit (n := 2) sn2_X8_visit) (by decide) (by decide +kernel) (by decide +kernel)
set_option maxRecDepth 100000 in
theorem sn4_X8_visit : am_Sd ShX yX8_visit cX8_visit 10 none (2 + 4) (f_X8_visit 4) := am_meth (y := yX8_visit) (ret := none) (x_X8_visit (n := 3) sn3_X8_visit) (by decide) (by decide +kernel) (by decide +kernel)
set_option maxRecDepth 100000 in
theorem sn5_X8_visit : am_Sd ShX yX8_visit cX8_visit 10 none (2 + 5) (f_X8_visit 5) := am_meth (y := yX8_visit) (ret := none) (x_X8_visit (n := 4) sn4_X8_visit) (by decide) (by decide +kernel) (by decide +kernel)
set_option maxRecDepth 100000 in
theorem sn6_X8_visit : am_Sd ShX yX8_visit cX8_visit 10 none (2 + 6) (f_X8_visit 6) := am_meth (y := yX8_visit) (ret := none) (x_X8_visit (n := 5) sn5_X8_visit) (by decide) (by decide +kernel) (by decide +kernel)
set_option maxRecDepth 100000 in
theorem sn7_X8_visit : am_Sd ShX yX8_visit cX8_visit 10 none (2 + 7) (f_X8_visit 7) := am_meth (y := yX8_visit) (ret := none) (x_X8_visit (n := 6) sn6_X8_visit) (by decide) (by decide +kernel) (by decide +kernel)
set_option maxRecDepth 100000 in
theorem sn8_X8_visit : am_Sd ShX yX8_visit cX8_visit 10 none (2 + 8) (f_X8_visit 8) := am_meth (y := yX8_visit) (ret := none) (x_X8_visit (n := 7) sn7_X8_visit) (by decide) (by decide +kernel) (by decide +kernel)
set_option maxRecDepth 100000 in
theorem sn9_X8_visit : am_Sd ShX yX8_visit cX8_visit 10 none (2 + 9) (f_X8_visit 9) := am_meth (y := yX8_visit) (ret := none) (x_X8_visit (n := 8) sn8_X8_visit) (by decide) (by decide +kernel) (by decide +kernel)
theorem sd_X8_visit : am_Sd ShX yX8_visit cX8_visit 10 none 11 (f_X8_visit 9) := sn9_X8_visit
abbrev S_J7_fill_53178 : am_S := (ShX, cJ7_fill_53178, 4, 0, RJ7)
set_option maxRecDepth 100000 in
noncomputable def x_J7_fill_53178 : am_SP S_J7_fill_53178 := (t_sq (t_bk (t_sq (t_isn 2 (x_ic 0 0 (by decide))) (t_sq (t_isn 3 (x_len (x_aln 0))) (t_lp (c_2 .lt (x_iln 2) (x_iln 3)) (t_sq (t_ia (x_aln 0) (x_iln 2) (x_iln 1)) (t_inc 2 1 1 (by decide))))))) t_rv)
noncomputable def g_J7_fill_53178 : am_T := (s_sq (s_bk (s_sq (s_as (o_si 4 2) (e_i 0)) (s_sq (s_as (o_si 4 3) (e_len ShX (e_lr 0))) (s_lp (b_2 .lt (e_li 2) (e_li 3)) (s_sq (s_ia ShX (e_lr 0) (e_li 2) (e_li 1)) (s_inc 4 2 1)))))) s_rv)
noncomputable def f_J7_fill_53178 : am_F := am_fn 4 none g_J7_fill_53178
set_option maxRecDepth 100000 in
theorem sd_J7_fill_53178 : am_Sd ShX yJ7_fill_53178 cJ7_fill_53178 4 none 0 f_J7_fill_53178 := am_meth (y := yJ7_fill_53178) (ret := none) x_J7_fill_53178 (by decide) (by decide +kernel) (by decide +kernel)
abbrev S_X8_look : am_S := (ShX, cX8_look, 4, 12, RX8)
set_option maxRecDepth 100000 in
noncomputable def x_X8_look : am_SP S_X8_look := (t_sq (t_if1 (c_not (c_z .ne (x_gf 15 8 3 273 kg_8_3 (x_aln 0)))) t_rv) (t_sq (t_pf 15 8 3 273 true kp_8_3 (x_aln 0) (x_ic 0 0 (by decide))) (t_sq (t_pf 25 8 0 267 false kp_8_0 (x_aln 0) (x_ic 0 0 (by decide))) (t_sq (t_pf 29 8 1 269 false kp_8_1 (x_aln 0) (x_ic (-1) (-1) (by decide))) (t_sq (t_pf 38 8 6 277 false kp_8_6 (x_aln 0) (x_k _ _ (ic_min (S := S_X8_look) 32 639 (by decide)) (x_a1 (x_iln 2) (x_a1 (x_bp 8 8 (by decide)) x_a0)))) (t_sq (t_k _ _ (ic_S (S := S_X8_look) sd_J7_fill_53178 ky_J7_fill_53178 ks_J7_fill_53178 (by decide) 41 640 none) (x_a1 (x_gf 22 8 5 276 kg_8_5 (x_aln 0)) (x_a1 (x_ic 0 0 (by decide)) x_a0))) (t_sq (t_bk (t_sq (t_isn 3 (x_ic 0 0 (by decide))) (t_lp (c_2 .lt (x_iln 3) (x_gf 38 8 6 277 kg_8_6 (x_aln 0))) (t_sq (t_k _ _ (ic_S (S := S_X8_look) sd_X8_visit ky_X8_visit ks_X8_visit (by decide) 53 644 none) (x_a1 (x_aln 0) (x_a1 (x_aln 1) (x_a1 (x_iln 3) (x_a1 (x_k _ _ (ic_V (S := S_X8_look) sd_X5_firstRead ky_X5_firstRead kv_X5_firstRead (by decide) 47 643 none) (x_a1 (x_aln 1) (x_a1 (x_iln 3) x_a0))) (x_a1 (x_ic 0 0 (by decide)) (x_a1 (x_ic 0 0 (by decide)) x_a0))))))) (t_inc 3 1 1 (by decide)))))) t_rv)))))))
noncomputable def g_X8_look : am_T := (s_sq (s_if (b_not (b_z .ne (e_gf ShX 8 3 (e_lr 0)))) s_rv s_0) (s_sq (s_pf ShX 8 3 true (e_lr 0) (e_i 0)) (s_sq (s_pf ShX 8 0 false (e_lr 0) (e_i 0)) (s_sq (s_pf ShX 8 1 false (e_lr 0) (e_i (-1))) (s_sq (s_pf ShX 8 6 false (e_lr 0) (e_k (am_m2 am_min) (a_1 (e_li 2) (a_1 (e_i 8) a_0)))) (s_sq (s_k (am_cs 2 f_J7_fill_53178) (a_1 (e_gf ShX 8 5 (e_lr 0)) (a_1 (e_i 0) a_0))) (s_sq (s_bk (s_sq (s_as (o_si 4 3) (e_i 0)) (s_lp (b_2 .lt (e_li 3) (e_gf ShX 8 6 (e_lr 0))) (s_sq (s_k (am_cs 6 (f_X8_visit 9)) (a_1 (e_lr 0) (a_1 (e_lr 1) (a_1 (e_li 3) (a_1 (e_k (am_cl ShX 5 1 f_X5_firstRead) (a_1 (e_lr 1) (a_1 (e_li 3) a_0))) (a_1 (e_i 0) (a_1 (e_i 0) a_0))))))) (s_inc 4 3 1))))) s_rv)))))))
noncomputable def f_X8_look : am_F := am_fn 4 none g_X8_look
set_option maxRecDepth 100000 in
theorem sd_X8_look : am_Sd ShX yX8_look cX8_look 4 none 12 f_X8_look := am_meth (y := yX8_look) (ret := none) x_X8_look (by decide) (by decide +kernel) (by decide +kernel)
abbrev S_X10_tour : am_S := (ShX, cX10_tour, 2, 13, RX10)
set_option maxRecDepth 100000 in
noncomputable def x_X10_tour : am_SP S_X10_tour := (t_sq (t_if1 (c_not (c_z .ne (x_k _ _ (ic_S (S := S_X10_tour) sd_X10_within ky_X10_within ks_X10_within (by decide) 103 417 none) (x_a1 (x_iln 1) (x_a1 (x_bp 10 10 (by decide)) x_a0))))) (t_rt .ireturn (x_bp (-2) (-2) (by decide)))) (t_sq (t_k _ _ (ic_V (S := S_X10_tour) sd_X10_freshen ky_X10_freshen kv_X10_freshen (by decide) 120 436 none) (x_a1 (x_aln 0) x_a0)) (t_sq (t_k _ _ (ic_V (S := S_X10_tour) sd_X8_look ky_X8_look kv_X8_look (by decide) 208 635 none) (x_a1 (x_gf 70 10 11 372 kg_10_11 (x_aln 0)) (x_a1 (x_gf 50 10 7 368 kg_10_7 (x_aln 0)) (x_a1 (x_gf 192 0 0 140 kg_0_0 (x_gf 29 10 3 364 kg_10_3 (x_aln 0))) x_a0)))) (t_sq (t_if1 (c_z .eq (x_iln 1)) (t_rt .ireturn (x_gf 212 8 0 268 kg_8_0 (x_gf 70 10 11 372 kg_10_11 (x_aln 0))))) (t_sq (t_if1 (c_2 .eq (x_iln 1) (x_ic 1 1 (by decide))) (t_rt .ireturn (x_gf 213 8 1 270 kg_8_1 (x_gf 70 10 11 372 kg_10_11 (x_aln 0))))) (t_rt .ireturn (x_c (c_2 .lt (x_isub (x_iln 1) (x_ic 2 2 (by decide))) (x_gf 212 8 0 268 kg_8_0 (x_gf 70 10 11 372 kg_10_11 (x_aln 0)))) (x_ald (x_gf 216 8 2 272 kg_8_2 (x_gf 70 10 11 372 kg_10_11 (x_aln 0))) (x_isub (x_iln 1) (x_ic 2 2 (by decide)))) (x_ic (-1) (-1) (by decide)))))))))
noncomputable def g_X10_tour : am_T := (s_sq (s_if (b_not (b_z .ne (e_k (am_cs 2 f_X10_within) (a_1 (e_li 1) (a_1 (e_i 10) a_0))))) (s_rt .ireturn (e_i (-2))) s_0) (s_sq (s_k (am_cl ShX 10 0 f_X10_freshen) (a_1 (e_lr 0) a_0)) (s_sq (s_k (am_cl ShX 8 2 f_X8_look) (a_1 (e_gf ShX 10 11 (e_lr 0)) (a_1 (e_gf ShX 10 7 (e_lr 0)) (a_1 (e_gf ShX 0 0 (e_gf ShX 10 3 (e_lr 0))) a_0)))) (s_sq (s_if (b_z .eq (e_li 1)) (s_rt .ireturn (e_gf ShX 8 0 (e_gf ShX 10 11 (e_lr 0)))) s_0) (s_sq (s_if (b_2 .eq (e_li 1) (e_i 1)) (s_rt .ireturn (e_gf ShX 8 1 (e_gf ShX 10 11 (e_lr 0)))) s_0) (s_rt .ireturn (e_c (b_2 .lt (e_b o_isub (e_li 1) (e_i 2)) (e_gf ShX 8 0 (e_gf ShX 10 11 (e_lr 0)))) (e_ald ShX (e_gf ShX 8 2 (e_gf ShX 10 11 (e_lr 0))) (e_b o_isub (e_li 1) (e_i 2))) (e_i (-1)))))))))
noncomputable def f_X10_tour : am_F := am_fn 2 (some .int) g_X10_tour
set_option maxRecDepth 100000 in
theorem sd_X10_tour : am_Sd ShX yX10_tour cX10_tour 2 (some .int) 13 f_X10_tour := am_meth (y := yX10_tour) (ret := (some .int)) x_X10_tour (by decide) (by decide +kernel) (by decide +kernel)
abbrev S_X10_legibleHoursAt : am_S := (ShX, cX10_legibleHoursAt, 5, 1, RX10)
set_option maxRecDepth 100000 in
noncomputable def x_X10_legibleHoursAt : am_SP S_X10_legibleHoursAt := (t_sq (t_isn 3 (x_ic 0 0 (by decide))) (t_sq (t_bk (t_sq (t_is 4 (x_ic 0 0 (by decide))) (t_lp (c_2 .lt (x_il 4) (x_bp 20 20 (by decide))) (t_sq (t_if1 (c_2 .eq (x_k _ _ (ic_S (S := S_X10_legibleHoursAt) sd_X10_stateAt ky_X10_stateAt ks_X10_stateAt (by decide) 386 667 none) (x_a1 (x_iln 1) (x_a1 (x_il 4) (x_a1 (x_isub (x_ald (x_gf 33 10 4 365 kg_10_4 (x_aln 0)) (x_il 4)) (x_iln 2)) x_a0)))) (x_ic 1 1 (by decide))) (t_inc 3 1 1 (by decide))) (t_inc 4 1 1 (by decide)))))) (t_rt .ireturn (x_iln 3))))
noncomputable def g_X10_legibleHoursAt : am_T := (s_sq (s_as (o_si 5 3) (e_i 0)) (s_sq (s_bk (s_sq (s_as (o_si 5 4) (e_i 0)) (s_lp (b_2 .lt (e_li 4) (e_i 20)) (s_sq (s_if (b_2 .eq (e_k (am_cs 3 f_X10_stateAt) (a_1 (e_li 1) (a_1 (e_li 4) (a_1 (e_b o_isub (e_ald ShX (e_gf ShX 10 4 (e_lr 0)) (e_li 4)) (e_li 2)) a_0)))) (e_i 1)) (s_inc 5 3 1) s_0) (s_inc 5 4 1))))) (s_rt .ireturn (e_li 3))))
noncomputable def f_X10_legibleHoursAt : am_F := am_fn 5 (some .int) g_X10_legibleHoursAt
set_option maxRecDepth 100000 in
theorem sd_X10_legibleHoursAt : am_Sd ShX yX10_legibleHoursAt cX10_legibleHoursAt 5 (some .int) 1 f_X10_legibleHoursAt := am_meth (y := yX10_legibleHoursAt) (ret := (some .int)) x_X10_legibleHoursAt (by decide) (by decide +kernel) (by decide +kernel)
abbrev S_X10_hang : am_S := (ShX, cX10_hang, 7, 5, RX10)
set_option maxRecDepth 100000 in
noncomputable def x_X10_hang : am_SP S_X10_hang := (t_sq (t_if1 (c_or (c_not (c_z .ne (x_k _ _ (ic_S (S := S_X10_hang) sd_X10_within ky_X10_within ks_X10_within (by decide) 103 417 none) (x_a1 (x_iln 1) (x_a1 (x_ic 3 3 (by decide)) x_a0))))) (c_not (c_z .ne (x_k _ _ (ic_S (S := S_X10_hang) sd_X10_within ky_X10_within ks_X10_within (by decide) 103 417 none) (x_a1 (x_iln 2) (x_a1 (x_ic 2 2 (by decide)) x_a0)))))) (t_rt .ireturn (x_bp (-2) (-2) (by decide)))) (t_sq (t_k _ _ (ic_V (S := S_X10_hang) sd_X10_freshen ky_X10_freshen kv_X10_freshen (by decide) 120 436 none) (x_a1 (x_aln 0) x_a0)) (t_sq (t_isn 3 (x_ic 0 0 (by decide))) (t_sq (t_is 4 (x_ic (-1) (-1) (by decide))) (t_sq (t_bk (t_sq (t_is 5 (x_ic 0 0 (by decide))) (t_lp (c_2 .lt (x_il 5) (x_bp 10 10 (by decide))) (t_sq (t_bk (t_sq (t_is 6 (x_k _ _ (ic_V (S := S_X10_hang) sd_X10_legibleHoursAt ky_X10_legibleHoursAt kv_X10_legibleHoursAt (by decide) 219 663 none) (x_a1 (x_aln 0) (x_a1 (x_iln 1) (x_a1 (x_il 5) x_a0))))) (t_if1 (c_2 .gt (x_il 6) (x_il 4)) (t_sq (t_is 4 (x_il 6)) (t_isn 3 (x_il 5)))))) (t_inc 5 1 1 (by decide)))))) (t_rt .ireturn (x_c (c_z .eq (x_iln 2)) (x_iln 3) (x_il 4))))))))
noncomputable def g_X10_hang : am_T := (s_sq (s_if (b_or (b_not (b_z .ne (e_k (am_cs 2 f_X10_within) (a_1 (e_li 1) (a_1 (e_i 3) a_0))))) (b_not (b_z .ne (e_k (am_cs 2 f_X10_within) (a_1 (e_li 2) (a_1 (e_i 2) a_0)))))) (s_rt .ireturn (e_i (-2))) s_0) (s_sq (s_k (am_cl ShX 10 0 f_X10_freshen) (a_1 (e_lr 0) a_0)) (s_sq (s_as (o_si 7 3) (e_i 0)) (s_sq (s_as (o_si 7 4) (e_i (-1))) (s_sq (s_bk (s_sq (s_as (o_si 7 5) (e_i 0)) (s_lp (b_2 .lt (e_li 5) (e_i 10)) (s_sq (s_bk (s_sq (s_as (o_si 7 6) (e_k (am_cl ShX 10 2 f_X10_legibleHoursAt) (a_1 (e_lr 0) (a_1 (e_li 1) (a_1 (e_li 5) a_0))))) (s_if (b_2 .gt (e_li 6) (e_li 4)) (s_sq (s_as (o_si 7 4) (e_li 6)) (s_as (o_si 7 3) (e_li 5))) s_0))) (s_inc 7 5 1))))) (s_rt .ireturn (e_c (b_z .eq (e_li 2)) (e_li 3) (e_li 4))))))))
noncomputable def f_X10_hang : am_F := am_fn 7 (some .int) g_X10_hang
set_option maxRecDepth 100000 in
theorem sd_X10_hang : am_Sd ShX yX10_hang cX10_hang 7 (some .int) 5 f_X10_hang := am_meth (y := yX10_hang) (ret := (some .int)) x_X10_hang (by decide) (by decide +kernel) (by decide +kernel)
abbrev S_X10_bitAt : am_S := (ShX, cX10_bitAt, 4, 0, RX10)
set_option maxRecDepth 100000 in
noncomputable def x_X10_bitAt : am_SP S_X10_bitAt := (t_sq (t_isn 2 (x_iln 1)) (t_sq (t_bk (t_sq (t_isn 3 (x_ic 0 0 (by decide))) (t_lp (c_2 .lt (x_iln 3) (x_bp 8 8 (by decide))) (t_sq (t_if1 (c_z .ne (x_iand (x_ishr (x_iln 0) (x_iln 3)) (x_ic 1 1 (by decide)))) (t_sq (t_if1 (c_z .eq (x_iln 2)) (t_rt .ireturn (x_iln 3))) (t_inc 2 (-1) (-1) (by decide)))) (t_inc 3 1 1 (by decide)))))) (t_rt .ireturn (x_ic (-1) (-1) (by decide)))))
noncomputable def g_X10_bitAt : am_T := (s_sq (s_as (o_si 4 2) (e_li 1)) (s_sq (s_bk (s_sq (s_as (o_si 4 3) (e_i 0)) (s_lp (b_2 .lt (e_li 3) (e_i 8)) (s_sq (s_if (b_z .ne (e_b o_iand (e_b o_ishr (e_li 0) (e_li 3)) (e_i 1))) (s_sq (s_if (b_z .eq (e_li 2)) (s_rt .ireturn (e_li 3)) s_0) (s_inc 4 2 (-1))) s_0) (s_inc 4 3 1))))) (s_rt .ireturn (e_i (-1)))))
noncomputable def f_X10_bitAt : am_F := am_fn 4 (some .int) g_X10_bitAt
set_option maxRecDepth 100000 in
theorem sd_X10_bitAt : am_Sd ShX yX10_bitAt cX10_bitAt 4 (some .int) 0 f_X10_bitAt := am_meth (y := yX10_bitAt) (ret := (some .int)) x_X10_bitAt (by decide) (by decide +kernel) (by decide +kernel)
abbrev S_J6_bitCount_0f7a4 : am_S := (ShX, cJ6_bitCount_0f7a4, 1, 0, RJ6)
set_option maxRecDepth 100000 in
noncomputable def x_J6_bitCount_0f7a4 : am_SP S_J6_bitCount_0f7a4 := (t_sq (t_isn 0 (x_isub (x_iln 0) (x_iand (x_iushr (x_iln 0) (x_ic 1 1 (by decide))) (x_ldcw 265 1431655765 675)))) (t_sq (t_isn 0 (x_iadd (x_iand (x_iln 0) (x_ldcw 266 858993459 676)) (x_iand (x_iushr (x_iln 0) (x_ic 2 2 (by decide))) (x_ldcw 266 858993459 676)))) (t_sq (t_isn 0 (x_iand (x_iadd (x_iln 0) (x_iushr (x_iln 0) (x_ic 4 4 (by decide)))) (x_ldcw 267 252645135 677))) (t_sq (t_isn 0 (x_iadd (x_iln 0) (x_iushr (x_iln 0) (x_bp 8 8 (by decide))))) (t_sq (t_isn 0 (x_iadd (x_iln 0) (x_iushr (x_iln 0) (x_bp 16 16 (by decide))))) (t_rt .ireturn (x_iand (x_iln 0) (x_bp 63 63 (by decide)))))))))
noncomputable def g_J6_bitCount_0f7a4 : am_T := (s_sq (s_as (o_si 1 0) (e_b o_isub (e_li 0) (e_b o_iand (e_b o_iushr (e_li 0) (e_i 1)) (e_i 1431655765)))) (s_sq (s_as (o_si 1 0) (e_b o_iadd (e_b o_iand (e_li 0) (e_i 858993459)) (e_b o_iand (e_b o_iushr (e_li 0) (e_i 2)) (e_i 858993459)))) (s_sq (s_as (o_si 1 0) (e_b o_iand (e_b o_iadd (e_li 0) (e_b o_iushr (e_li 0) (e_i 4))) (e_i 252645135))) (s_sq (s_as (o_si 1 0) (e_b o_iadd (e_li 0) (e_b o_iushr (e_li 0) (e_i 8)))) (s_sq (s_as (o_si 1 0) (e_b o_iadd (e_li 0) (e_b o_iushr (e_li 0) (e_i 16)))) (s_rt .ireturn (e_b o_iand (e_li 0) (e_i 63))))))))
noncomputable def f_J6_bitCount_0f7a4 : am_F := am_fn 1 (some .int) g_J6_bitCount_0f7a4
set_option maxRecDepth 100000 in
theorem sd_J6_bitCount_0f7a4 : am_Sd ShX yJ6_bitCount_0f7a4 cJ6_bitCount_0f7a4 1 (some .int) 0 f_J6_bitCount_0f7a4 := am_meth (y := yJ6_bitCount_0f7a4) (ret := (some .int)) x_J6_bitCount_0f7a4 (by decide) (by decide +kernel) (by decide +kernel)
abbrev S_X10_save : am_S := (ShX, cX10_save, 5, 6, RX10)
set_option maxRecDepth 100000 in
noncomputable def x_X10_save : am_SP S_X10_save := (t_sq (t_if1 (c_or (c_or (c_not (c_z .ne (x_k _ _ (ic_V (S := S_X10_save) sd_X10_isStrand ky_X10_isStrand kv_X10_isStrand (by decide) 126 526 none) (x_a1 (x_aln 0) (x_a1 (x_iln 1) x_a0))))) (c_2 .lt (x_iln 2) (x_ic (-1) (-1) (by decide)))) (c_2 .ge (x_iln 2) (x_ic 2 2 (by decide)))) (t_rt .ireturn (x_bp (-2) (-2) (by decide)))) (t_sq (t_isn 3 (x_k _ _ (ic_V (S := S_X10_save) sd_X1_herons ky_X1_herons kv_X1_herons (by decide) 225 599 none) (x_a1 (x_gf 40 10 5 366 kg_10_5 (x_aln 0)) (x_a1 (x_ald (x_gf 222 0 6 153 kg_0_6 (x_gf 29 10 3 364 kg_10_3 (x_aln 0))) (x_iln 1)) (x_a1 (x_bp 19 19 (by decide)) x_a0))))) (t_sq (t_is 4 (x_k _ _ (ic_S (S := S_X10_save) sd_J6_bitCount_0f7a4 ky_J6_bitCount_0f7a4 ks_J6_bitCount_0f7a4 (by decide) 228 672 none) (x_a1 (x_iln 3) x_a0))) (t_sq (t_if1 (c_2 .gt (x_il 4) (x_ic 2 2 (by decide))) (t_rt .ireturn (x_ic (-1) (-1) (by decide)))) (t_rt .ireturn (x_c (c_2 .eq (x_iln 2) (x_ic (-1) (-1) (by decide))) (x_il 4) (x_k _ _ (ic_S (S := S_X10_save) sd_X10_bitAt ky_X10_bitAt ks_X10_bitAt (by decide) 233 678 none) (x_a1 (x_iln 3) (x_a1 (x_iln 2) x_a0)))))))))
noncomputable def g_X10_save : am_T := (s_sq (s_if (b_or (b_or (b_not (b_z .ne (e_k (am_cl ShX 10 1 f_X10_isStrand) (a_1 (e_lr 0) (a_1 (e_li 1) a_0))))) (b_2 .lt (e_li 2) (e_i (-1)))) (b_2 .ge (e_li 2) (e_i 2))) (s_rt .ireturn (e_i (-2))) s_0) (s_sq (s_as (o_si 5 3) (e_k (am_cl ShX 1 2 f_X1_herons) (a_1 (e_gf ShX 10 5 (e_lr 0)) (a_1 (e_ald ShX (e_gf ShX 0 6 (e_gf ShX 10 3 (e_lr 0))) (e_li 1)) (a_1 (e_i 19) a_0))))) (s_sq (s_as (o_si 5 4) (e_k (am_cs 1 f_J6_bitCount_0f7a4) (a_1 (e_li 3) a_0))) (s_sq (s_if (b_2 .gt (e_li 4) (e_i 2)) (s_rt .ireturn (e_i (-1))) s_0) (s_rt .ireturn (e_c (b_2 .eq (e_li 2) (e_i (-1))) (e_li 4) (e_k (am_cs 2 f_X10_bitAt) (a_1 (e_li 3) (a_1 (e_li 2) a_0)))))))))
noncomputable def f_X10_save : am_F := am_fn 5 (some .int) g_X10_save
set_option maxRecDepth 100000 in
theorem sd_X10_save : am_Sd ShX yX10_save cX10_save 5 (some .int) 6 f_X10_save := am_meth (y := yX10_save) (ret := (some .int)) x_X10_save (by decide) (by decide +kernel) (by decide +kernel)
abbrev S_X2_begin : am_S := (ShX, cX2_begin, 2, 1, RX2)
set_option maxRecDepth 100000 in
noncomputable def x_X2_begin : am_SP S_X2_begin := (t_sq (t_pf 24 2 2 329 false kp_2_2 (x_aln 0) (x_k _ _ (ic_min (S := S_X2_begin) 18 689 (by decide)) (x_a1 (x_iln 1) (x_a1 (x_bp 6 6 (by decide)) x_a0)))) t_rv)
noncomputable def g_X2_begin : am_T := (s_sq (s_pf ShX 2 2 false (e_lr 0) (e_k (am_m2 am_min) (a_1 (e_li 1) (a_1 (e_i 6) a_0)))) s_rv)
noncomputable def f_X2_begin : am_F := am_fn 2 none g_X2_begin
set_option maxRecDepth 100000 in
theorem sd_X2_begin : am_Sd ShX yX2_begin cX2_begin 2 none 1 f_X2_begin := am_meth (y := yX2_begin) (ret := none) x_X2_begin (by decide) (by decide +kernel) (by decide +kernel)
abbrev S_X2_leastBut : am_S := (ShX, cX2_leastBut, 4, 0, RX2)
set_option maxRecDepth 100000 in
noncomputable def x_X2_leastBut : am_SP S_X2_leastBut := (t_sq (t_bk (t_sq (t_isn 3 (x_ic 0 0 (by decide))) (t_lp (c_2 .lt (x_iln 3) (x_ic 4 4 (by decide))) (t_sq (t_if1 (c_and (c_2 .ne (x_iln 3) (x_iln 2)) (c_z .gt (x_ald (x_gf 15 2 1 328 kg_2_1 (x_aln 0)) (x_iadd (x_imul (x_iln 1) (x_ic 4 4 (by decide))) (x_iln 3))))) (t_rt .ireturn (x_iln 3))) (t_inc 3 1 1 (by decide)))))) (t_rt .ireturn (x_ic (-1) (-1) (by decide))))
noncomputable def g_X2_leastBut : am_T := (s_sq (s_bk (s_sq (s_as (o_si 4 3) (e_i 0)) (s_lp (b_2 .lt (e_li 3) (e_i 4)) (s_sq (s_if (b_and (b_2 .ne (e_li 3) (e_li 2)) (b_z .gt (e_ald ShX (e_gf ShX 2 1 (e_lr 0)) (e_b o_iadd (e_b o_imul (e_li 1) (e_i 4)) (e_li 3))))) (s_rt .ireturn (e_li 3)) s_0) (s_inc 4 3 1))))) (s_rt .ireturn (e_i (-1))))
noncomputable def f_X2_leastBut : am_F := am_fn 4 (some .int) g_X2_leastBut
set_option maxRecDepth 100000 in
theorem sd_X2_leastBut : am_Sd ShX yX2_leastBut cX2_leastBut 4 (some .int) 0 f_X2_leastBut := am_meth (y := yX2_leastBut) (ret := (some .int)) x_X2_leastBut (by decide) (by decide +kernel) (by decide +kernel)
abbrev S_X2_leastAt : am_S := (ShX, cX2_leastAt, 4, 1, RX2)
set_option maxRecDepth 100000 in
noncomputable def x_X2_leastAt : am_SP S_X2_leastAt := (t_sq (t_if1 (c_2 .ge (x_iln 1) (x_gf 24 2 2 329 kg_2_2 (x_aln 0))) (t_rt .ireturn (x_ic (-1) (-1) (by decide)))) (t_sq (t_isn 2 (x_ic (-1) (-1) (by decide))) (t_sq (t_bk (t_sq (t_isn 3 (x_ic 0 0 (by decide))) (t_lp (c_2 .le (x_iln 3) (x_iln 1)) (t_sq (t_sq (t_isn 2 (x_k _ _ (ic_V (S := S_X2_leastAt) sd_X2_leastBut ky_X2_leastBut kv_X2_leastBut (by decide) 34 710 none) (x_a1 (x_aln 0) (x_a1 (x_iln 3) (x_a1 (x_iln 2) x_a0))))) (t_if1 (c_2 .eq (x_iln 2) (x_ic (-1) (-1) (by decide))) (t_rt .ireturn (x_ic (-1) (-1) (by decide))))) (t_inc 3 1 1 (by decide)))))) (t_rt .ireturn (x_iln 2)))))
noncomputable def g_X2_leastAt : am_T := (s_sq (s_if (b_2 .ge (e_li 1) (e_gf ShX 2 2 (e_lr 0))) (s_rt .ireturn (e_i (-1))) s_0) (s_sq (s_as (o_si 4 2) (e_i (-1))) (s_sq (s_bk (s_sq (s_as (o_si 4 3) (e_i 0)) (s_lp (b_2 .le (e_li 3) (e_li 1)) (s_sq (s_sq (s_as (o_si 4 2) (e_k (am_cl ShX 2 2 f_X2_leastBut) (a_1 (e_lr 0) (a_1 (e_li 3) (a_1 (e_li 2) a_0))))) (s_if (b_2 .eq (e_li 2) (e_i (-1))) (s_rt .ireturn (e_i (-1))) s_0)) (s_inc 4 3 1))))) (s_rt .ireturn (e_li 2)))))
noncomputable def f_X2_leastAt : am_F := am_fn 4 (some .int) g_X2_leastAt
set_option maxRecDepth 100000 in
theorem sd_X2_leastAt : am_Sd ShX yX2_leastAt cX2_leastAt 4 (some .int) 1 f_X2_leastAt := am_meth (y := yX2_leastAt) (ret := (some .int)) x_X2_leastAt (by decide) (by decide +kernel) (by decide +kernel)
abbrev S_X2_sumBut : am_S := (ShX, cX2_sumBut, 5, 0, RX2)
set_option maxRecDepth 100000 in
noncomputable def x_X2_sumBut : am_SP S_X2_sumBut := (t_sq (t_isn 3 (x_ic 0 0 (by decide))) (t_sq (t_bk (t_sq (t_is 4 (x_ic 0 0 (by decide))) (t_lp (c_2 .lt (x_il 4) (x_ic 4 4 (by decide))) (t_sq (t_if1 (c_2 .ne (x_il 4) (x_iln 2)) (t_isn 3 (x_iadd (x_iln 3) (x_ald (x_gf 15 2 1 328 kg_2_1 (x_aln 0)) (x_iadd (x_imul (x_iln 1) (x_ic 4 4 (by decide))) (x_il 4)))))) (t_inc 4 1 1 (by decide)))))) (t_rt .ireturn (x_iln 3))))
noncomputable def g_X2_sumBut : am_T := (s_sq (s_as (o_si 5 3) (e_i 0)) (s_sq (s_bk (s_sq (s_as (o_si 5 4) (e_i 0)) (s_lp (b_2 .lt (e_li 4) (e_i 4)) (s_sq (s_if (b_2 .ne (e_li 4) (e_li 2)) (s_as (o_si 5 3) (e_b o_iadd (e_li 3) (e_ald ShX (e_gf ShX 2 1 (e_lr 0)) (e_b o_iadd (e_b o_imul (e_li 1) (e_i 4)) (e_li 4))))) s_0) (s_inc 5 4 1))))) (s_rt .ireturn (e_li 3))))
noncomputable def f_X2_sumBut : am_F := am_fn 5 (some .int) g_X2_sumBut
set_option maxRecDepth 100000 in
theorem sd_X2_sumBut : am_Sd ShX yX2_sumBut cX2_sumBut 5 (some .int) 0 f_X2_sumBut := am_meth (y := yX2_sumBut) (ret := (some .int)) x_X2_sumBut (by decide) (by decide +kernel) (by decide +kernel)
abbrev S_X2_waysBehind : am_S := (ShX, cX2_waysBehind, 3, 1, RX2)
set_option maxRecDepth 100000 in
noncomputable def x_X2_waysBehind : am_SP S_X2_waysBehind := (t_rt .ireturn (x_c (c_2 .ge (x_iadd (x_iln 1) (x_ic 1 1 (by decide))) (x_gf 24 2 2 329 kg_2_2 (x_aln 0))) (x_ic 1 1 (by decide)) (x_k _ _ (ic_V (S := S_X2_waysBehind) sd_X2_sumBut ky_X2_sumBut kv_X2_sumBut (by decide) 31 698 none) (x_a1 (x_aln 0) (x_a1 (x_iadd (x_iln 1) (x_ic 1 1 (by decide))) (x_a1 (x_iln 2) x_a0))))))
noncomputable def g_X2_waysBehind : am_T := (s_rt .ireturn (e_c (b_2 .ge (e_b o_iadd (e_li 1) (e_i 1)) (e_gf ShX 2 2 (e_lr 0))) (e_i 1) (e_k (am_cl ShX 2 2 f_X2_sumBut) (a_1 (e_lr 0) (a_1 (e_b o_iadd (e_li 1) (e_i 1)) (a_1 (e_li 2) a_0))))))
noncomputable def f_X2_waysBehind : am_F := am_fn 3 (some .int) g_X2_waysBehind
set_option maxRecDepth 100000 in
theorem sd_X2_waysBehind : am_Sd ShX yX2_waysBehind cX2_waysBehind 3 (some .int) 1 f_X2_waysBehind := am_meth (y := yX2_waysBehind) (ret := (some .int)) x_X2_waysBehind (by decide) (by decide +kernel) (by decide +kernel)
abbrev S_X2_reckon : am_S := (ShX, cX2_reckon, 4, 2, RX2)
set_option maxRecDepth 100000 in
noncomputable def x_X2_reckon : am_SP S_X2_reckon := (t_sq (t_bk (t_sq (t_isn 1 (x_isub (x_gf 24 2 2 329 kg_2_2 (x_aln 0)) (x_ic 1 1 (by decide)))) (t_lp (c_z .ge (x_iln 1)) (t_sq (t_bk (t_sq (t_isn 2 (x_ic 0 0 (by decide))) (t_lp (c_2 .lt (x_iln 2) (x_ic 4 4 (by decide))) (t_sq (t_bk (t_sq (t_isn 3 (x_c (c_or (c_2 .eq (x_ald (x_gf 9 2 0 326 kg_2_0 (x_aln 0)) (x_iln 1)) (x_ic 4 4 (by decide))) (c_2 .eq (x_ald (x_gf 9 2 0 326 kg_2_0 (x_aln 0)) (x_iln 1)) (x_iln 2))) (x_ic 1 1 (by decide)) (x_ic 0 0 (by decide)))) (t_ia (x_gf 15 2 1 328 kg_2_1 (x_aln 0)) (x_iadd (x_imul (x_iln 1) (x_ic 4 4 (by decide))) (x_iln 2)) (x_c (c_z .ne (x_iln 3)) (x_k _ _ (ic_V (S := S_X2_reckon) sd_X2_waysBehind ky_X2_waysBehind kv_X2_waysBehind (by decide) 28 694 none) (x_a1 (x_aln 0) (x_a1 (x_iln 1) (x_a1 (x_iln 2) x_a0)))) (x_ic 0 0 (by decide)))))) (t_inc 2 1 1 (by decide)))))) (t_inc 1 (-1) (-1) (by decide)))))) t_rv)
noncomputable def g_X2_reckon : am_T := (s_sq (s_bk (s_sq (s_as (o_si 4 1) (e_b o_isub (e_gf ShX 2 2 (e_lr 0)) (e_i 1))) (s_lp (b_z .ge (e_li 1)) (s_sq (s_bk (s_sq (s_as (o_si 4 2) (e_i 0)) (s_lp (b_2 .lt (e_li 2) (e_i 4)) (s_sq (s_bk (s_sq (s_as (o_si 4 3) (e_c (b_or (b_2 .eq (e_ald ShX (e_gf ShX 2 0 (e_lr 0)) (e_li 1)) (e_i 4)) (b_2 .eq (e_ald ShX (e_gf ShX 2 0 (e_lr 0)) (e_li 1)) (e_li 2))) (e_i 1) (e_i 0))) (s_ia ShX (e_gf ShX 2 1 (e_lr 0)) (e_b o_iadd (e_b o_imul (e_li 1) (e_i 4)) (e_li 2)) (e_c (b_z .ne (e_li 3)) (e_k (am_cl ShX 2 2 f_X2_waysBehind) (a_1 (e_lr 0) (a_1 (e_li 1) (a_1 (e_li 2) a_0)))) (e_i 0))))) (s_inc 4 2 1))))) (s_inc 4 1 (-1)))))) s_rv)
noncomputable def f_X2_reckon : am_F := am_fn 4 none g_X2_reckon
set_option maxRecDepth 100000 in
theorem sd_X2_reckon : am_Sd ShX yX2_reckon cX2_reckon 4 none 2 f_X2_reckon := am_meth (y := yX2_reckon) (ret := none) x_X2_reckon (by decide) (by decide +kernel) (by decide +kernel)
abbrev S_X2_ways : am_S := (ShX, cX2_ways, 1, 1, RX2)
set_option maxRecDepth 100000 in
noncomputable def x_X2_ways : am_SP S_X2_ways := (t_rt .ireturn (x_k _ _ (ic_V (S := S_X2_ways) sd_X2_sumBut ky_X2_sumBut kv_X2_sumBut (by decide) 31 698 none) (x_a1 (x_aln 0) (x_a1 (x_ic 0 0 (by decide)) (x_a1 (x_ic (-1) (-1) (by decide)) x_a0)))))
noncomputable def g_X2_ways : am_T := (s_rt .ireturn (e_k (am_cl ShX 2 2 f_X2_sumBut) (a_1 (e_lr 0) (a_1 (e_i 0) (a_1 (e_i (-1)) a_0)))))
noncomputable def f_X2_ways : am_F := am_fn 1 (some .int) g_X2_ways
set_option maxRecDepth 100000 in
theorem sd_X2_ways : am_Sd ShX yX2_ways cX2_ways 1 (some .int) 1 f_X2_ways := am_meth (y := yX2_ways) (ret := (some .int)) x_X2_ways (by decide) (by decide +kernel) (by decide +kernel)
abbrev S_X10_fill : am_S := (ShX, cX10_fill, 6, 6, RX10)
set_option maxRecDepth 100000 in
noncomputable def x_X10_fill : am_SP S_X10_fill := (t_sq (t_if1 (c_or (c_or (c_or (c_not (c_z .ne (x_k _ _ (ic_S (S := S_X10_fill) sd_X10_within ky_X10_within ks_X10_within (by decide) 103 417 none) (x_a1 (x_iln 1) (x_a1 (x_bp 20 20 (by decide)) x_a0))))) (c_not (c_z .ne (x_k _ _ (ic_V (S := S_X10_fill) sd_X10_isStrand ky_X10_isStrand kv_X10_isStrand (by decide) 126 526 none) (x_a1 (x_aln 0) (x_a1 (x_iln 2) x_a0)))))) (c_2 .lt (x_iln 3) (x_ic (-1) (-1) (by decide)))) (c_2 .ge (x_iln 3) (x_bp 6 6 (by decide)))) (t_rt .ireturn (x_bp (-2) (-2) (by decide)))) (t_sq (t_is 4 (x_ald (x_gf 136 0 3 148 kg_0_3 (x_gf 29 10 3 364 kg_10_3 (x_aln 0))) (x_iln 2))) (t_sq (t_k _ _ (ic_V (S := S_X10_fill) sd_X2_begin ky_X2_begin kv_X2_begin (by decide) 236 685 none) (x_a1 (x_gf 84 10 13 374 kg_10_13 (x_aln 0)) (x_a1 (x_il 4) x_a0))) (t_sq (t_bk (t_sq (t_is 5 (x_ic 0 0 (by decide))) (t_lp (c_2 .lt (x_il 5) (x_il 4)) (t_sq (t_ia (x_gf 239 2 0 327 kg_2_0 (x_gf 84 10 13 374 kg_10_13 (x_aln 0))) (x_il 5) (x_k _ _ (ic_V (S := S_X10_fill) sd_X10_bladderIn ky_X10_bladderIn kv_X10_bladderIn (by decide) 178 575 none) (x_a1 (x_aln 0) (x_a1 (x_iln 1) (x_a1 (x_iln 2) (x_a1 (x_il 5) x_a0)))))) (t_inc 5 1 1 (by decide)))))) (t_sq (t_k _ _ (ic_V (S := S_X10_fill) sd_X2_reckon ky_X2_reckon kv_X2_reckon (by decide) 242 690 none) (x_a1 (x_gf 84 10 13 374 kg_10_13 (x_aln 0)) x_a0)) (t_rt .ireturn (x_c (c_2 .eq (x_iln 3) (x_ic (-1) (-1) (by decide))) (x_k _ _ (ic_V (S := S_X10_fill) sd_X2_ways ky_X2_ways kv_X2_ways (by decide) 245 702 none) (x_a1 (x_gf 84 10 13 374 kg_10_13 (x_aln 0)) x_a0)) (x_k _ _ (ic_V (S := S_X10_fill) sd_X2_leastAt ky_X2_leastAt kv_X2_leastAt (by decide) 248 706 none) (x_a1 (x_gf 84 10 13 374 kg_10_13 (x_aln 0)) (x_a1 (x_iln 3) x_a0))))))))))
noncomputable def g_X10_fill : am_T := (s_sq (s_if (b_or (b_or (b_or (b_not (b_z .ne (e_k (am_cs 2 f_X10_within) (a_1 (e_li 1) (a_1 (e_i 20) a_0))))) (b_not (b_z .ne (e_k (am_cl ShX 10 1 f_X10_isStrand) (a_1 (e_lr 0) (a_1 (e_li 2) a_0)))))) (b_2 .lt (e_li 3) (e_i (-1)))) (b_2 .ge (e_li 3) (e_i 6))) (s_rt .ireturn (e_i (-2))) s_0) (s_sq (s_as (o_si 6 4) (e_ald ShX (e_gf ShX 0 3 (e_gf ShX 10 3 (e_lr 0))) (e_li 2))) (s_sq (s_k (am_cl ShX 2 1 f_X2_begin) (a_1 (e_gf ShX 10 13 (e_lr 0)) (a_1 (e_li 4) a_0))) (s_sq (s_bk (s_sq (s_as (o_si 6 5) (e_i 0)) (s_lp (b_2 .lt (e_li 5) (e_li 4)) (s_sq (s_ia ShX (e_gf ShX 2 0 (e_gf ShX 10 13 (e_lr 0))) (e_li 5) (e_k (am_cl ShX 10 3 f_X10_bladderIn) (a_1 (e_lr 0) (a_1 (e_li 1) (a_1 (e_li 2) (a_1 (e_li 5) a_0)))))) (s_inc 6 5 1))))) (s_sq (s_k (am_cl ShX 2 0 f_X2_reckon) (a_1 (e_gf ShX 10 13 (e_lr 0)) a_0)) (s_rt .ireturn (e_c (b_2 .eq (e_li 3) (e_i (-1))) (e_k (am_cl ShX 2 0 f_X2_ways) (a_1 (e_gf ShX 10 13 (e_lr 0)) a_0)) (e_k (am_cl ShX 2 1 f_X2_leastAt) (a_1 (e_gf ShX 10 13 (e_lr 0)) (a_1 (e_li 3) a_0))))))))))
noncomputable def f_X10_fill : am_F := am_fn 6 (some .int) g_X10_fill
set_option maxRecDepth 100000 in
theorem sd_X10_fill : am_Sd ShX yX10_fill cX10_fill 6 (some .int) 6 f_X10_fill := am_meth (y := yX10_fill) (ret := (some .int)) x_X10_fill (by decide) (by decide +kernel) (by decide +kernel)
end
section
/-! methods as forms, by program (gen.py, mkm.py): x_ the form, g_ and f_ the meaning, sd_ the contract -/
abbrev S_X6_tell : am_S := (ShX, cX6_tell, 4, 0, RX6)
set_option maxRecDepth 100000 in
noncomputable def x_X6_tell : am_SP S_X6_tell := (t_sq (t_if1 (c_2 .ge (x_gf 24 6 0 299 kg_6_0 (x_aln 0)) (x_bp 8 8 (by decide))) t_rv) (t_sq (t_ia (x_gf 9 6 1 301 kg_6_1 (x_aln 0)) (x_gf 24 6 0 299 kg_6_0 (x_aln 0)) (x_iln 1)) (t_sq (t_ia (x_gf 15 6 2 303 kg_6_2 (x_aln 0)) (x_gf 24 6 0 299 kg_6_0 (x_aln 0)) (x_iln 2)) (t_sq (t_ia (x_gf 18 6 3 305 kg_6_3 (x_aln 0)) (x_gf 24 6 0 299 kg_6_0 (x_aln 0)) (x_iln 3)) (t_sq (t_po 24 6 0 299 299 false kp_6_0 _ _ ib_iadd (x_aln 0) (x_ic 1 1 (by decide))) t_rv)))))
noncomputable def g_X6_tell : am_T := (s_sq (s_if (b_2 .ge (e_gf ShX 6 0 (e_lr 0)) (e_i 8)) s_rv s_0) (s_sq (s_ia ShX (e_gf ShX 6 1 (e_lr 0)) (e_gf ShX 6 0 (e_lr 0)) (e_li 1)) (s_sq (s_ia ShX (e_gf ShX 6 2 (e_lr 0)) (e_gf ShX 6 0 (e_lr 0)) (e_li 2)) (s_sq (s_ia ShX (e_gf ShX 6 3 (e_lr 0)) (e_gf ShX 6 0 (e_lr 0)) (e_li 3)) (s_sq (s_po ShX 6 0 false o_iadd (e_lr 0) (e_i 1)) s_rv)))))
noncomputable def f_X6_tell : am_F := am_fn 4 none g_X6_tell
set_option maxRecDepth 100000 in
theorem sd_X6_tell : am_Sd ShX yX6_tell cX6_tell 4 none 0 f_X6_tell := am_meth (y := yX6_tell) (ret := none) x_X6_tell (by decide) (by decide +kernel) (by decide +kernel)
abbrev S_X10_seen : am_S := (ShX, cX10_seen, 4, 1, RX10)
set_option maxRecDepth 100000 in
noncomputable def x_X10_seen : am_SP S_X10_seen := (t_sq (t_if1 (c_or (c_or (c_not (c_z .ne (x_k _ _ (ic_S (S := S_X10_seen) sd_X10_within ky_X10_within ks_X10_within (by decide) 103 417 none) (x_a1 (x_iln 1) (x_a1 (x_bp 20 20 (by decide)) x_a0))))) (c_not (c_z .ne (x_k _ _ (ic_S (S := S_X10_seen) sd_X10_within ky_X10_within ks_X10_within (by decide) 103 417 none) (x_a1 (x_iln 2) (x_a1 (x_bp 8 8 (by decide)) x_a0)))))) (c_not (c_z .ne (x_k _ _ (ic_S (S := S_X10_seen) sd_X10_within ky_X10_within ks_X10_within (by decide) 103 417 none) (x_a1 (x_iln 3) (x_a1 (x_ic 5 5 (by decide)) x_a0)))))) (t_rt .ireturn (x_bp (-2) (-2) (by decide)))) (t_sq (t_if1 (c_2 .ge (x_gf 251 6 0 300 kg_6_0 (x_gf 77 10 12 373 kg_10_12 (x_aln 0))) (x_bp 8 8 (by decide))) (t_rt .ireturn (x_bp (-4) (-4) (by decide)))) (t_sq (t_k _ _ (ic_V (S := S_X10_seen) sd_X6_tell ky_X6_tell kv_X6_tell (by decide) 252 718 none) (x_a1 (x_gf 77 10 12 373 kg_10_12 (x_aln 0)) (x_a1 (x_iln 1) (x_a1 (x_iln 2) (x_a1 (x_iln 3) x_a0))))) (t_rt .ireturn (x_gf 251 6 0 300 kg_6_0 (x_gf 77 10 12 373 kg_10_12 (x_aln 0)))))))
noncomputable def g_X10_seen : am_T := (s_sq (s_if (b_or (b_or (b_not (b_z .ne (e_k (am_cs 2 f_X10_within) (a_1 (e_li 1) (a_1 (e_i 20) a_0))))) (b_not (b_z .ne (e_k (am_cs 2 f_X10_within) (a_1 (e_li 2) (a_1 (e_i 8) a_0)))))) (b_not (b_z .ne (e_k (am_cs 2 f_X10_within) (a_1 (e_li 3) (a_1 (e_i 5) a_0)))))) (s_rt .ireturn (e_i (-2))) s_0) (s_sq (s_if (b_2 .ge (e_gf ShX 6 0 (e_gf ShX 10 12 (e_lr 0))) (e_i 8)) (s_rt .ireturn (e_i (-4))) s_0) (s_sq (s_k (am_cl ShX 6 3 f_X6_tell) (a_1 (e_gf ShX 10 12 (e_lr 0)) (a_1 (e_li 1) (a_1 (e_li 2) (a_1 (e_li 3) a_0))))) (s_rt .ireturn (e_gf ShX 6 0 (e_gf ShX 10 12 (e_lr 0)))))))
noncomputable def f_X10_seen : am_F := am_fn 4 (some .int) g_X10_seen
set_option maxRecDepth 100000 in
theorem sd_X10_seen : am_Sd ShX yX10_seen cX10_seen 4 (some .int) 1 f_X10_seen := am_meth (y := yX10_seen) (ret := (some .int)) x_X10_seen (by decide) (by decide +kernel) (by decide +kernel)
abbrev S_X10_forget : am_S := (ShX, cX10_forget, 2, 0, RX10)
set_option maxRecDepth 100000 in
noncomputable def x_X10_forget : am_SP S_X10_forget := (t_sq (t_isn 1 (x_gf 251 6 0 300 kg_6_0 (x_gf 77 10 12 373 kg_10_12 (x_aln 0)))) (t_sq (t_pf 251 6 0 300 false kp_6_0 (x_gf 77 10 12 373 kg_10_12 (x_aln 0)) (x_ic 0 0 (by decide))) (t_rt .ireturn (x_iln 1))))
noncomputable def g_X10_forget : am_T := (s_sq (s_as (o_si 2 1) (e_gf ShX 6 0 (e_gf ShX 10 12 (e_lr 0)))) (s_sq (s_pf ShX 6 0 false (e_gf ShX 10 12 (e_lr 0)) (e_i 0)) (s_rt .ireturn (e_li 1))))
noncomputable def f_X10_forget : am_F := am_fn 2 (some .int) g_X10_forget
set_option maxRecDepth 100000 in
theorem sd_X10_forget : am_Sd ShX yX10_forget cX10_forget 2 (some .int) 0 f_X10_forget := am_meth (y := yX10_forget) (ret := (some .int)) x_X10_forget (by decide) (by decide +kernel) (by decide +kernel)
abbrev S_X10_comesOut : am_S := (ShX, cX10_comesOut, 5, 0, RX10)
set_option maxRecDepth 100000 in
noncomputable def x_X10_comesOut : am_SP S_X10_comesOut := (t_sq (t_bk (t_sq (t_isn 2 (x_ic 0 0 (by decide))) (t_lp (c_2 .lt (x_iln 2) (x_gf 251 6 0 300 kg_6_0 (x_gf 77 10 12 373 kg_10_12 (x_aln 0)))) (t_sq (t_bk (t_sq (t_isn 3 (x_ald (x_gf 395 6 2 304 kg_6_2 (x_gf 77 10 12 373 kg_10_12 (x_aln 0))) (x_iln 2))) (t_sq (t_if1 (c_2 .ge (x_iln 3) (x_gf 192 0 0 140 kg_0_0 (x_gf 29 10 3 364 kg_10_3 (x_aln 0)))) (t_rt .ireturn (x_ic 0 0 (by decide)))) (t_sq (t_ast 4 (x_c (c_2 .eq (x_iln 3) (x_iln 1)) (x_gf 54 10 8 369 kg_10_8 (x_aln 0)) (x_gf 50 10 7 368 kg_10_7 (x_aln 0)))) (t_if1 (c_2 .ne (x_ald (x_gf 172 3 1 224 kg_3_1 (x_qld (x_gf 168 5 0 242 kg_5_0 (x_al 4)) (x_iln 3))) (x_ald (x_gf 396 6 1 302 kg_6_1 (x_gf 77 10 12 373 kg_10_12 (x_aln 0))) (x_iln 2))) (x_ald (x_gf 397 6 3 306 kg_6_3 (x_gf 77 10 12 373 kg_10_12 (x_aln 0))) (x_iln 2))) (t_rt .ireturn (x_ic 0 0 (by decide)))))))) (t_inc 2 1 1 (by decide)))))) (t_rt .ireturn (x_ic 1 1 (by decide))))
noncomputable def g_X10_comesOut : am_T := (s_sq (s_bk (s_sq (s_as (o_si 5 2) (e_i 0)) (s_lp (b_2 .lt (e_li 2) (e_gf ShX 6 0 (e_gf ShX 10 12 (e_lr 0)))) (s_sq (s_bk (s_sq (s_as (o_si 5 3) (e_ald ShX (e_gf ShX 6 2 (e_gf ShX 10 12 (e_lr 0))) (e_li 2))) (s_sq (s_if (b_2 .ge (e_li 3) (e_gf ShX 0 0 (e_gf ShX 10 3 (e_lr 0)))) (s_rt .ireturn (e_i 0)) s_0) (s_sq (s_as (o_sr 5 4) (e_c (b_2 .eq (e_li 3) (e_li 1)) (e_gf ShX 10 8 (e_lr 0)) (e_gf ShX 10 7 (e_lr 0)))) (s_if (b_2 .ne (e_ald ShX (e_gf ShX 3 1 (e_qld ShX (e_gf ShX 5 0 (e_lr 4)) (e_li 3))) (e_ald ShX (e_gf ShX 6 1 (e_gf ShX 10 12 (e_lr 0))) (e_li 2))) (e_ald ShX (e_gf ShX 6 3 (e_gf ShX 10 12 (e_lr 0))) (e_li 2))) (s_rt .ireturn (e_i 0)) s_0))))) (s_inc 5 2 1))))) (s_rt .ireturn (e_i 1)))
noncomputable def f_X10_comesOut : am_F := am_fn 5 (some .boolean) g_X10_comesOut
set_option maxRecDepth 100000 in
theorem sd_X10_comesOut : am_Sd ShX yX10_comesOut cX10_comesOut 5 (some .boolean) 0 f_X10_comesOut := am_meth (y := yX10_comesOut) (ret := (some .boolean)) x_X10_comesOut (by decide) (by decide +kernel) (by decide +kernel)
abbrev S_X10_guessHanging : am_S := (ShX, cX10_guessHanging, 6, 2, RX10)
set_option maxRecDepth 100000 in
noncomputable def x_X10_guessHanging : am_SP S_X10_guessHanging := (t_sq (t_ast 5 (x_qld (x_gf 168 5 0 242 kg_5_0 (x_gf 54 10 8 369 kg_10_8 (x_aln 0))) (x_iln 1))) (t_sq (t_k _ _ (ic_V (S := S_X10_guessHanging) sd_X3_begin ky_X3_begin kv_X3_begin (by decide) 389 734 none) (x_a1 (x_al 5) (x_a1 (x_iln 2) (x_a1 (x_iln 3) x_a0)))) (t_sq (t_k _ _ (ic_V (S := S_X10_guessHanging) sd_X3_live ky_X3_live kv_X3_live (by decide) 391 735 none) (x_a1 (x_al 5) (x_a1 (x_iln 1) (x_a1 (x_gf 33 10 4 365 kg_10_4 (x_aln 0)) (x_a1 (x_gf 40 10 5 366 kg_10_5 (x_aln 0)) (x_a1 (x_il 4) x_a0)))))) t_rv)))
noncomputable def g_X10_guessHanging : am_T := (s_sq (s_as (o_sr 6 5) (e_qld ShX (e_gf ShX 5 0 (e_gf ShX 10 8 (e_lr 0))) (e_li 1))) (s_sq (s_k (am_cl ShX 3 2 f_X3_begin) (a_1 (e_lr 5) (a_1 (e_li 2) (a_1 (e_li 3) a_0)))) (s_sq (s_k (am_cl ShX 3 4 f_X3_live) (a_1 (e_lr 5) (a_1 (e_li 1) (a_1 (e_gf ShX 10 4 (e_lr 0)) (a_1 (e_gf ShX 10 5 (e_lr 0)) (a_1 (e_li 4) a_0)))))) s_rv)))
noncomputable def f_X10_guessHanging : am_F := am_fn 6 none g_X10_guessHanging
set_option maxRecDepth 100000 in
theorem sd_X10_guessHanging : am_Sd ShX yX10_guessHanging cX10_guessHanging 6 none 2 f_X10_guessHanging := am_meth (y := yX10_guessHanging) (ret := none) x_X10_guessHanging (by decide) (by decide +kernel) (by decide +kernel)
abbrev S_X10_never : am_S := (ShX, cX10_never, 4, 5, RX10)
set_option maxRecDepth 100000 in
noncomputable def x_X10_never : am_SP S_X10_never := (t_sq (t_k _ _ (ic_V (S := S_X10_never) sd_X10_freshen ky_X10_freshen kv_X10_freshen (by decide) 120 436 none) (x_a1 (x_aln 0) x_a0)) (t_sq (t_isn 1 (x_ic 0 0 (by decide))) (t_sq (t_bk (t_sq (t_isn 2 (x_ic 0 0 (by decide))) (t_lp (c_2 .lt (x_iln 2) (x_gf 151 1 0 180 kg_1_0 (x_gf 40 10 5 366 kg_10_5 (x_aln 0)))) (t_sq (t_bk (t_sq (t_isn 3 (x_ald (x_gf 255 1 3 187 kg_1_3 (x_gf 40 10 5 366 kg_10_5 (x_aln 0))) (x_iln 2))) (t_sq (t_if1 (c_2 .lt (x_iln 3) (x_gf 192 0 0 140 kg_0_0 (x_gf 29 10 3 364 kg_10_3 (x_aln 0)))) (t_k _ _ (ic_V (S := S_X10_never) sd_X10_guessHanging ky_X10_guessHanging kv_X10_guessHanging (by decide) 258 730 none) (x_a1 (x_aln 0) (x_a1 (x_iln 3) (x_a1 (x_ald (x_gf 130 0 1 143 kg_0_1 (x_gf 29 10 3 364 kg_10_3 (x_aln 0))) (x_iln 3)) (x_a1 (x_ald (x_gf 133 0 2 146 kg_0_2 (x_gf 29 10 3 364 kg_10_3 (x_aln 0))) (x_iln 3)) (x_a1 (x_iln 2) x_a0))))))) (t_if1 (c_z .ne (x_k _ _ (ic_V (S := S_X10_never) sd_X10_comesOut ky_X10_comesOut kv_X10_comesOut (by decide) 261 736 none) (x_a1 (x_aln 0) (x_a1 (x_iln 3) x_a0)))) (t_isn 1 (x_ior (x_iln 1) (x_ishl (x_ic 1 1 (by decide)) (x_iln 2)))))))) (t_inc 2 1 1 (by decide)))))) (t_rt .ireturn (x_iln 1)))))
noncomputable def g_X10_never : am_T := (s_sq (s_k (am_cl ShX 10 0 f_X10_freshen) (a_1 (e_lr 0) a_0)) (s_sq (s_as (o_si 4 1) (e_i 0)) (s_sq (s_bk (s_sq (s_as (o_si 4 2) (e_i 0)) (s_lp (b_2 .lt (e_li 2) (e_gf ShX 1 0 (e_gf ShX 10 5 (e_lr 0)))) (s_sq (s_bk (s_sq (s_as (o_si 4 3) (e_ald ShX (e_gf ShX 1 3 (e_gf ShX 10 5 (e_lr 0))) (e_li 2))) (s_sq (s_if (b_2 .lt (e_li 3) (e_gf ShX 0 0 (e_gf ShX 10 3 (e_lr 0)))) (s_k (am_cl ShX 10 4 f_X10_guessHanging) (a_1 (e_lr 0) (a_1 (e_li 3) (a_1 (e_ald ShX (e_gf ShX 0 1 (e_gf ShX 10 3 (e_lr 0))) (e_li 3)) (a_1 (e_ald ShX (e_gf ShX 0 2 (e_gf ShX 10 3 (e_lr 0))) (e_li 3)) (a_1 (e_li 2) a_0)))))) s_0) (s_if (b_z .ne (e_k (am_cl ShX 10 1 f_X10_comesOut) (a_1 (e_lr 0) (a_1 (e_li 3) a_0)))) (s_as (o_si 4 1) (e_b o_ior (e_li 1) (e_b o_ishl (e_i 1) (e_li 2)))) s_0)))) (s_inc 4 2 1))))) (s_rt .ireturn (e_li 1)))))
noncomputable def f_X10_never : am_F := am_fn 4 (some .int) g_X10_never
set_option maxRecDepth 100000 in
theorem sd_X10_never : am_Sd ShX yX10_never cX10_never 4 (some .int) 5 f_X10_never := am_meth (y := yX10_never) (ret := (some .int)) x_X10_never (by decide) (by decide +kernel) (by decide +kernel)
abbrev S_X10_hungBits : am_S := (ShX, cX10_hungBits, 4, 3, RX10)
set_option maxRecDepth 100000 in
noncomputable def x_X10_hungBits : am_SP S_X10_hungBits := (t_sq (t_isn 2 (x_ic 0 0 (by decide))) (t_sq (t_bk (t_sq (t_isn 3 (x_ic 0 0 (by decide))) (t_lp (c_2 .lt (x_iln 3) (x_bp 10 10 (by decide))) (t_sq (t_sq (t_k _ _ (ic_V (S := S_X10_hungBits) sd_X10_guessHanging ky_X10_guessHanging kv_X10_guessHanging (by decide) 258 730 none) (x_a1 (x_aln 0) (x_a1 (x_iln 1) (x_a1 (x_iln 3) (x_a1 (x_ald (x_gf 133 0 2 146 kg_0_2 (x_gf 29 10 3 364 kg_10_3 (x_aln 0))) (x_iln 1)) (x_a1 (x_ic (-1) (-1) (by decide)) x_a0)))))) (t_if1 (c_z .ne (x_k _ _ (ic_V (S := S_X10_hungBits) sd_X10_comesOut ky_X10_comesOut kv_X10_comesOut (by decide) 261 736 none) (x_a1 (x_aln 0) (x_a1 (x_iln 1) x_a0)))) (t_isn 2 (x_ior (x_iln 2) (x_ishl (x_ic 1 1 (by decide)) (x_iln 3)))))) (t_inc 3 1 1 (by decide)))))) (t_rt .ireturn (x_iln 2))))
noncomputable def g_X10_hungBits : am_T := (s_sq (s_as (o_si 4 2) (e_i 0)) (s_sq (s_bk (s_sq (s_as (o_si 4 3) (e_i 0)) (s_lp (b_2 .lt (e_li 3) (e_i 10)) (s_sq (s_sq (s_k (am_cl ShX 10 4 f_X10_guessHanging) (a_1 (e_lr 0) (a_1 (e_li 1) (a_1 (e_li 3) (a_1 (e_ald ShX (e_gf ShX 0 2 (e_gf ShX 10 3 (e_lr 0))) (e_li 1)) (a_1 (e_i (-1)) a_0)))))) (s_if (b_z .ne (e_k (am_cl ShX 10 1 f_X10_comesOut) (a_1 (e_lr 0) (a_1 (e_li 1) a_0)))) (s_as (o_si 4 2) (e_b o_ior (e_li 2) (e_b o_ishl (e_i 1) (e_li 3)))) s_0)) (s_inc 4 3 1))))) (s_rt .ireturn (e_li 2))))
noncomputable def f_X10_hungBits : am_F := am_fn 4 (some .int) g_X10_hungBits
set_option maxRecDepth 100000 in
theorem sd_X10_hungBits : am_Sd ShX yX10_hungBits cX10_hungBits 4 (some .int) 3 f_X10_hungBits := am_meth (y := yX10_hungBits) (ret := (some .int)) x_X10_hungBits (by decide) (by decide +kernel) (by decide +kernel)
abbrev S_X10_sortBits : am_S := (ShX, cX10_sortBits, 4, 3, RX10)
set_option maxRecDepth 100000 in
noncomputable def x_X10_sortBits : am_SP S_X10_sortBits := (t_sq (t_isn 2 (x_ic 0 0 (by decide))) (t_sq (t_bk (t_sq (t_isn 3 (x_ic 0 0 (by decide))) (t_lp (c_2 .lt (x_iln 3) (x_ic 3 3 (by decide))) (t_sq (t_sq (t_k _ _ (ic_V (S := S_X10_sortBits) sd_X10_guessHanging ky_X10_guessHanging kv_X10_guessHanging (by decide) 258 730 none) (x_a1 (x_aln 0) (x_a1 (x_iln 1) (x_a1 (x_ald (x_gf 130 0 1 143 kg_0_1 (x_gf 29 10 3 364 kg_10_3 (x_aln 0))) (x_iln 1)) (x_a1 (x_iln 3) (x_a1 (x_ic (-1) (-1) (by decide)) x_a0)))))) (t_if1 (c_z .ne (x_k _ _ (ic_V (S := S_X10_sortBits) sd_X10_comesOut ky_X10_comesOut kv_X10_comesOut (by decide) 261 736 none) (x_a1 (x_aln 0) (x_a1 (x_iln 1) x_a0)))) (t_isn 2 (x_ior (x_iln 2) (x_ishl (x_ic 1 1 (by decide)) (x_iln 3)))))) (t_inc 3 1 1 (by decide)))))) (t_rt .ireturn (x_iln 2))))
noncomputable def g_X10_sortBits : am_T := (s_sq (s_as (o_si 4 2) (e_i 0)) (s_sq (s_bk (s_sq (s_as (o_si 4 3) (e_i 0)) (s_lp (b_2 .lt (e_li 3) (e_i 3)) (s_sq (s_sq (s_k (am_cl ShX 10 4 f_X10_guessHanging) (a_1 (e_lr 0) (a_1 (e_li 1) (a_1 (e_ald ShX (e_gf ShX 0 1 (e_gf ShX 10 3 (e_lr 0))) (e_li 1)) (a_1 (e_li 3) (a_1 (e_i (-1)) a_0)))))) (s_if (b_z .ne (e_k (am_cl ShX 10 1 f_X10_comesOut) (a_1 (e_lr 0) (a_1 (e_li 1) a_0)))) (s_as (o_si 4 2) (e_b o_ior (e_li 2) (e_b o_ishl (e_i 1) (e_li 3)))) s_0)) (s_inc 4 3 1))))) (s_rt .ireturn (e_li 2))))
noncomputable def f_X10_sortBits : am_F := am_fn 4 (some .int) g_X10_sortBits
set_option maxRecDepth 100000 in
theorem sd_X10_sortBits : am_Sd ShX yX10_sortBits cX10_sortBits 4 (some .int) 3 f_X10_sortBits := am_meth (y := yX10_sortBits) (ret := (some .int)) x_X10_sortBits (by decide) (by decide +kernel) (by decide +kernel)
abbrev S_X10_was : am_S := (ShX, cX10_was, 3, 6, RX10)
set_option maxRecDepth 100000 in
noncomputable def x_X10_was : am_SP S_X10_was := (t_sq (t_if1 (c_or (c_not (c_z .ne (x_k _ _ (ic_V (S := S_X10_was) sd_X10_isStrand ky_X10_isStrand kv_X10_isStrand (by decide) 126 526 none) (x_a1 (x_aln 0) (x_a1 (x_iln 1) x_a0))))) (c_not (c_z .ne (x_k _ _ (ic_S (S := S_X10_was) sd_X10_within ky_X10_within ks_X10_within (by decide) 103 417 none) (x_a1 (x_iln 2) (x_a1 (x_ic 2 2 (by decide)) x_a0)))))) (t_rt .ireturn (x_bp (-2) (-2) (by decide)))) (t_rt .ireturn (x_c (c_z .eq (x_iln 2)) (x_k _ _ (ic_V (S := S_X10_was) sd_X10_hungBits ky_X10_hungBits kv_X10_hungBits (by decide) 264 744 none) (x_a1 (x_aln 0) (x_a1 (x_iln 1) x_a0))) (x_k _ _ (ic_V (S := S_X10_was) sd_X10_sortBits ky_X10_sortBits kv_X10_sortBits (by decide) 267 748 none) (x_a1 (x_aln 0) (x_a1 (x_iln 1) x_a0))))))
noncomputable def g_X10_was : am_T := (s_sq (s_if (b_or (b_not (b_z .ne (e_k (am_cl ShX 10 1 f_X10_isStrand) (a_1 (e_lr 0) (a_1 (e_li 1) a_0))))) (b_not (b_z .ne (e_k (am_cs 2 f_X10_within) (a_1 (e_li 2) (a_1 (e_i 2) a_0)))))) (s_rt .ireturn (e_i (-2))) s_0) (s_rt .ireturn (e_c (b_z .eq (e_li 2)) (e_k (am_cl ShX 10 1 f_X10_hungBits) (a_1 (e_lr 0) (a_1 (e_li 1) a_0))) (e_k (am_cl ShX 10 1 f_X10_sortBits) (a_1 (e_lr 0) (a_1 (e_li 1) a_0))))))
noncomputable def f_X10_was : am_F := am_fn 3 (some .int) g_X10_was
set_option maxRecDepth 100000 in
theorem sd_X10_was : am_Sd ShX yX10_was cX10_was 3 (some .int) 6 f_X10_was := am_meth (y := yX10_was) (ret := (some .int)) x_X10_was (by decide) (by decide +kernel) (by decide +kernel)
abbrev S_X6_addAlike : am_S := (ShX, cX6_addAlike, 3, 0, RX6)
set_option maxRecDepth 100000 in
noncomputable def x_X6_addAlike : am_SP S_X6_addAlike := (t_sq (t_bk (t_sq (t_isn 2 (x_ic 0 0 (by decide))) (t_lp (c_2 .lt (x_iln 2) (x_bp 20 20 (by decide))) (t_sq (t_io _ _ ib_iadd (x_gf 21 6 4 307 kg_6_4 (x_aln 0)) (x_iadd (x_imul (x_iln 2) (x_ic 5 5 (by decide))) (x_ald (x_aln 1) (x_iln 2))) (x_ic 1 1 (by decide))) (t_inc 2 1 1 (by decide)))))) t_rv)
noncomputable def g_X6_addAlike : am_T := (s_sq (s_bk (s_sq (s_as (o_si 3 2) (e_i 0)) (s_lp (b_2 .lt (e_li 2) (e_i 20)) (s_sq (s_io ShX o_iadd (e_gf ShX 6 4 (e_lr 0)) (e_b o_iadd (e_b o_imul (e_li 2) (e_i 5)) (e_ald ShX (e_lr 1) (e_li 2))) (e_i 1)) (s_inc 3 2 1))))) s_rv)
noncomputable def f_X6_addAlike : am_F := am_fn 3 none g_X6_addAlike
set_option maxRecDepth 100000 in
theorem sd_X6_addAlike : am_Sd ShX yX6_addAlike cX6_addAlike 3 none 0 f_X6_addAlike := am_meth (y := yX6_addAlike) (ret := none) x_X6_addAlike (by decide) (by decide +kernel) (by decide +kernel)
abbrev S_X6_mostAlike : am_S := (ShX, cX6_mostAlike, 4, 1, RX6)
set_option maxRecDepth 100000 in
noncomputable def x_X6_mostAlike : am_SP S_X6_mostAlike := (t_sq (t_isn 2 (x_ic 0 0 (by decide))) (t_sq (t_bk (t_sq (t_isn 3 (x_ic 0 0 (by decide))) (t_lp (c_2 .lt (x_iln 3) (x_ic 5 5 (by decide))) (t_sq (t_isn 2 (x_k _ _ (ic_max (S := S_X6_mostAlike) 28 765 (by decide)) (x_a1 (x_iln 2) (x_a1 (x_ald (x_gf 21 6 4 307 kg_6_4 (x_aln 0)) (x_iadd (x_imul (x_iln 1) (x_ic 5 5 (by decide))) (x_iln 3))) x_a0)))) (t_inc 3 1 1 (by decide)))))) (t_rt .ireturn (x_iln 2))))
noncomputable def g_X6_mostAlike : am_T := (s_sq (s_as (o_si 4 2) (e_i 0)) (s_sq (s_bk (s_sq (s_as (o_si 4 3) (e_i 0)) (s_lp (b_2 .lt (e_li 3) (e_i 5)) (s_sq (s_as (o_si 4 2) (e_k (am_m2 am_max) (a_1 (e_li 2) (a_1 (e_ald ShX (e_gf ShX 6 4 (e_lr 0)) (e_b o_iadd (e_b o_imul (e_li 1) (e_i 5)) (e_li 3))) a_0)))) (s_inc 4 3 1))))) (s_rt .ireturn (e_li 2))))
noncomputable def f_X6_mostAlike : am_F := am_fn 4 (some .int) g_X6_mostAlike
set_option maxRecDepth 100000 in
theorem sd_X6_mostAlike : am_Sd ShX yX6_mostAlike cX6_mostAlike 4 (some .int) 1 f_X6_mostAlike := am_meth (y := yX6_mostAlike) (ret := (some .int)) x_X6_mostAlike (by decide) (by decide +kernel) (by decide +kernel)
abbrev S_X10_ask : am_S := (ShX, cX10_ask, 5, 6, RX10)
set_option maxRecDepth 100000 in
noncomputable def x_X10_ask : am_SP S_X10_ask := (t_sq (t_if1 (c_not (c_z .ne (x_k _ _ (ic_V (S := S_X10_ask) sd_X10_isStrand ky_X10_isStrand kv_X10_isStrand (by decide) 126 526 none) (x_a1 (x_aln 0) (x_a1 (x_iln 1) x_a0))))) (t_rt .ireturn (x_bp (-2) (-2) (by decide)))) (t_sq (t_asn 2 (x_gf 270 6 4 308 kg_6_4 (x_gf 77 10 12 373 kg_10_12 (x_aln 0)))) (t_sq (t_k _ _ (ic_S (S := S_X10_ask) sd_J7_fill_53178 ky_J7_fill_53178 ks_J7_fill_53178 (by decide) 273 756 none) (x_a1 (x_aln 2) (x_a1 (x_ic 0 0 (by decide)) x_a0))) (t_sq (t_bk (t_sq (t_isn 3 (x_ic 0 0 (by decide))) (t_lp (c_2 .lt (x_iln 3) (x_bp 10 10 (by decide))) (t_sq (t_sq (t_k _ _ (ic_V (S := S_X10_ask) sd_X10_guessHanging ky_X10_guessHanging kv_X10_guessHanging (by decide) 258 730 none) (x_a1 (x_aln 0) (x_a1 (x_iln 1) (x_a1 (x_iln 3) (x_a1 (x_ald (x_gf 133 0 2 146 kg_0_2 (x_gf 29 10 3 364 kg_10_3 (x_aln 0))) (x_iln 1)) (x_a1 (x_ic (-1) (-1) (by decide)) x_a0)))))) (t_if1 (c_z .ne (x_k _ _ (ic_V (S := S_X10_ask) sd_X10_comesOut ky_X10_comesOut kv_X10_comesOut (by decide) 261 736 none) (x_a1 (x_aln 0) (x_a1 (x_iln 1) x_a0)))) (t_k _ _ (ic_V (S := S_X10_ask) sd_X6_addAlike ky_X6_addAlike kv_X6_addAlike (by decide) 279 757 none) (x_a1 (x_gf 77 10 12 373 kg_10_12 (x_aln 0)) (x_a1 (x_gf 172 3 1 224 kg_3_1 (x_qld (x_gf 168 5 0 242 kg_5_0 (x_gf 54 10 8 369 kg_10_8 (x_aln 0))) (x_iln 1))) x_a0))))) (t_inc 3 1 1 (by decide)))))) (t_sq (t_isn 3 (x_ic 0 0 (by decide))) (t_sq (t_bk (t_sq (t_is 4 (x_ic 1 1 (by decide))) (t_lp (c_2 .lt (x_il 4) (x_bp 20 20 (by decide))) (t_sq (t_if1 (c_2 .lt (x_k _ _ (ic_V (S := S_X10_ask) sd_X6_mostAlike ky_X6_mostAlike kv_X6_mostAlike (by decide) 283 761 none) (x_a1 (x_gf 77 10 12 373 kg_10_12 (x_aln 0)) (x_a1 (x_il 4) x_a0))) (x_k _ _ (ic_V (S := S_X10_ask) sd_X6_mostAlike ky_X6_mostAlike kv_X6_mostAlike (by decide) 283 761 none) (x_a1 (x_gf 77 10 12 373 kg_10_12 (x_aln 0)) (x_a1 (x_iln 3) x_a0)))) (t_isn 3 (x_il 4))) (t_inc 4 1 1 (by decide)))))) (t_rt .ireturn (x_iln 3))))))))
noncomputable def g_X10_ask : am_T := (s_sq (s_if (b_not (b_z .ne (e_k (am_cl ShX 10 1 f_X10_isStrand) (a_1 (e_lr 0) (a_1 (e_li 1) a_0))))) (s_rt .ireturn (e_i (-2))) s_0) (s_sq (s_as (o_sr 5 2) (e_gf ShX 6 4 (e_gf ShX 10 12 (e_lr 0)))) (s_sq (s_k (am_cs 2 f_J7_fill_53178) (a_1 (e_lr 2) (a_1 (e_i 0) a_0))) (s_sq (s_bk (s_sq (s_as (o_si 5 3) (e_i 0)) (s_lp (b_2 .lt (e_li 3) (e_i 10)) (s_sq (s_sq (s_k (am_cl ShX 10 4 f_X10_guessHanging) (a_1 (e_lr 0) (a_1 (e_li 1) (a_1 (e_li 3) (a_1 (e_ald ShX (e_gf ShX 0 2 (e_gf ShX 10 3 (e_lr 0))) (e_li 1)) (a_1 (e_i (-1)) a_0)))))) (s_if (b_z .ne (e_k (am_cl ShX 10 1 f_X10_comesOut) (a_1 (e_lr 0) (a_1 (e_li 1) a_0)))) (s_k (am_cl ShX 6 1 f_X6_addAlike) (a_1 (e_gf ShX 10 12 (e_lr 0)) (a_1 (e_gf ShX 3 1 (e_qld ShX (e_gf ShX 5 0 (e_gf ShX 10 8 (e_lr 0))) (e_li 1))) a_0))) s_0)) (s_inc 5 3 1))))) (s_sq (s_as (o_si 5 3) (e_i 0)) (s_sq (s_bk (s_sq (s_as (o_si 5 4) (e_i 1)) (s_lp (b_2 .lt (e_li 4) (e_i 20)) (s_sq (s_if (b_2 .lt (e_k (am_cl ShX 6 1 f_X6_mostAlike) (a_1 (e_gf ShX 10 12 (e_lr 0)) (a_1 (e_li 4) a_0))) (e_k (am_cl ShX 6 1 f_X6_mostAlike) (a_1 (e_gf ShX 10 12 (e_lr 0)) (a_1 (e_li 3) a_0)))) (s_as (o_si 5 3) (e_li 4)) s_0) (s_inc 5 4 1))))) (s_rt .ireturn (e_li 3))))))))
noncomputable def f_X10_ask : am_F := am_fn 5 (some .int) g_X10_ask
set_option maxRecDepth 100000 in
theorem sd_X10_ask : am_Sd ShX yX10_ask cX10_ask 5 (some .int) 6 f_X10_ask := am_meth (y := yX10_ask) (ret := (some .int)) x_X10_ask (by decide) (by decide +kernel) (by decide +kernel)
abbrev S_X10_risk : am_S := (ShX, cX10_risk, 13, 6, RX10)
set_option maxRecDepth 100000 in
noncomputable def x_X10_risk : am_SP S_X10_risk := (t_sq (t_if1 (c_or (c_or (c_or (c_not (c_z .ne (x_k _ _ (ic_S (S := S_X10_risk) sd_X10_within ky_X10_within ks_X10_within (by decide) 103 417 none) (x_a1 (x_iln 1) (x_a1 (x_bp 17 17 (by decide)) x_a0))))) (c_not (c_z .ne (x_k _ _ (ic_V (S := S_X10_risk) sd_X10_isStrand ky_X10_isStrand kv_X10_isStrand (by decide) 126 526 none) (x_a1 (x_aln 0) (x_a1 (x_iln 2) x_a0)))))) (c_not (c_z .ne (x_k _ _ (ic_S (S := S_X10_risk) sd_X10_within ky_X10_within ks_X10_within (by decide) 103 417 none) (x_a1 (x_iln 3) (x_a1 (x_bp 20 20 (by decide)) x_a0)))))) (c_not (c_z .ne (x_k _ _ (ic_S (S := S_X10_risk) sd_X10_within ky_X10_within ks_X10_within (by decide) 103 417 none) (x_a1 (x_il 4) (x_a1 (x_ic 2 2 (by decide)) x_a0)))))) (t_rt .lreturn (x_ldc2 286 (-9223372036854775806) 770))) (t_sq (t_is 5 (x_k _ _ (ic_S (S := S_X10_risk) sd_J6_bitCount_0f7a4 ky_J6_bitCount_0f7a4 ks_J6_bitCount_0f7a4 (by decide) 228 672 none) (x_a1 (x_k _ _ (ic_V (S := S_X10_risk) sd_X1_herons ky_X1_herons kv_X1_herons (by decide) 225 599 none) (x_a1 (x_gf 40 10 5 366 kg_10_5 (x_aln 0)) (x_a1 (x_ald (x_gf 222 0 6 153 kg_0_6 (x_gf 29 10 3 364 kg_10_3 (x_aln 0))) (x_iln 2)) (x_a1 (x_iln 3) x_a0)))) x_a0))) (t_sq (t_ls 6 (x_lc 1 1 (by decide))) (t_sq (t_ls 8 (x_lc 1 1 (by decide))) (t_sq (t_bk (t_sq (t_is 10 (x_ic 0 0 (by decide))) (t_lp (c_2 .lt (x_il 10) (x_il 5)) (t_sq (t_sq (t_ls 6 (x_lmul (x_ll 6) (x_ldc2 288 16 771))) (t_ls 8 (x_lmul (x_ll 8) (x_i2l (x_isub (x_bp 16 16 (by decide)) (x_iln 1)))))) (t_inc 10 1 1 (by decide)))))) (t_sq (t_ls 10 (x_lsub (x_ll 6) (x_ll 8))) (t_sq (t_bk (t_sq (t_is 12 (x_ic 0 0 (by decide))) (t_lp (c_and (c_and (c_2 .lt (x_il 12) (x_bp 32 32 (by decide))) (c_z .gt (x_lcmp (x_ll 6) (x_lc 1 1 (by decide))))) (c_z .eq (x_lcmp (x_lrem (x_ll 10) (x_ldc2 290 2 772)) (x_lc 0 0 (by decide))))) (t_sq (t_sq (t_ls 10 (x_ldiv (x_ll 10) (x_ldc2 290 2 772))) (t_ls 6 (x_ldiv (x_ll 6) (x_ldc2 290 2 772)))) (t_inc 12 1 1 (by decide)))))) (t_rt .lreturn (x_c (c_z .eq (x_il 4)) (x_ll 10) (x_ll 6))))))))))
noncomputable def g_X10_risk : am_T := (s_sq (s_if (b_or (b_or (b_or (b_not (b_z .ne (e_k (am_cs 2 f_X10_within) (a_1 (e_li 1) (a_1 (e_i 17) a_0))))) (b_not (b_z .ne (e_k (am_cl ShX 10 1 f_X10_isStrand) (a_1 (e_lr 0) (a_1 (e_li 2) a_0)))))) (b_not (b_z .ne (e_k (am_cs 2 f_X10_within) (a_1 (e_li 3) (a_1 (e_i 20) a_0)))))) (b_not (b_z .ne (e_k (am_cs 2 f_X10_within) (a_1 (e_li 4) (a_1 (e_i 2) a_0)))))) (s_rt .lreturn (e_j (-9223372036854775806))) s_0) (s_sq (s_as (o_si 13 5) (e_k (am_cs 1 f_J6_bitCount_0f7a4) (a_1 (e_k (am_cl ShX 1 2 f_X1_herons) (a_1 (e_gf ShX 10 5 (e_lr 0)) (a_1 (e_ald ShX (e_gf ShX 0 6 (e_gf ShX 10 3 (e_lr 0))) (e_li 2)) (a_1 (e_li 3) a_0)))) a_0))) (s_sq (s_as (o_sl 13 6) (e_j 1)) (s_sq (s_as (o_sl 13 8) (e_j 1)) (s_sq (s_bk (s_sq (s_as (o_si 13 10) (e_i 0)) (s_lp (b_2 .lt (e_li 10) (e_li 5)) (s_sq (s_sq (s_as (o_sl 13 6) (e_b o_lmul (e_ll 6) (e_j 16))) (s_as (o_sl 13 8) (e_b o_lmul (e_ll 8) (e_i2l (e_b o_isub (e_i 16) (e_li 1)))))) (s_inc 13 10 1))))) (s_sq (s_as (o_sl 13 10) (e_b o_lsub (e_ll 6) (e_ll 8))) (s_sq (s_bk (s_sq (s_as (o_si 13 12) (e_i 0)) (s_lp (b_and (b_and (b_2 .lt (e_li 12) (e_i 32)) (b_z .gt (e_b o_lcmp (e_ll 6) (e_j 1)))) (b_z .eq (e_b o_lcmp (e_b o_lrem (e_ll 10) (e_j 2)) (e_j 0)))) (s_sq (s_sq (s_as (o_sl 13 10) (e_b o_ldiv (e_ll 10) (e_j 2))) (s_as (o_sl 13 6) (e_b o_ldiv (e_ll 6) (e_j 2)))) (s_inc 13 12 1))))) (s_rt .lreturn (e_c (b_z .eq (e_li 4)) (e_ll 10) (e_ll 6))))))))))
noncomputable def f_X10_risk : am_F := am_fn 13 (some .long) g_X10_risk
set_option maxRecDepth 100000 in
theorem sd_X10_risk : am_Sd ShX yX10_risk cX10_risk 13 (some .long) 6 f_X10_risk := am_meth (y := yX10_risk) (ret := (some .long)) x_X10_risk (by decide) (by decide +kernel) (by decide +kernel)
abbrev S_X1_lot : am_S := (ShX, cX1_lot, 2, 0, RX1)
set_option maxRecDepth 100000 in
noncomputable def x_X1_lot : am_SP S_X1_lot := (t_sq (t_pf 28 1 5 190 false kp_1_5 (x_aln 0) (x_iadd (x_imul (x_ldc 39 1103515245 785) (x_gf 28 1 5 190 kg_1_5 (x_aln 0))) (x_sp 12345 12345 (by decide)))) (t_rt .ireturn (x_c (c_z .gt (x_iln 1)) (x_irem (x_iushr (x_gf 28 1 5 190 kg_1_5 (x_aln 0)) (x_bp 16 16 (by decide))) (x_iln 1)) (x_ic 0 0 (by decide)))))
noncomputable def g_X1_lot : am_T := (s_sq (s_pf ShX 1 5 false (e_lr 0) (e_b o_iadd (e_b o_imul (e_i 1103515245) (e_gf ShX 1 5 (e_lr 0))) (e_i 12345))) (s_rt .ireturn (e_c (b_z .gt (e_li 1)) (e_b o_irem (e_b o_iushr (e_gf ShX 1 5 (e_lr 0)) (e_i 16)) (e_li 1)) (e_i 0))))
noncomputable def f_X1_lot : am_F := am_fn 2 (some .int) g_X1_lot
set_option maxRecDepth 100000 in
theorem sd_X1_lot : am_Sd ShX yX1_lot cX1_lot 2 (some .int) 0 f_X1_lot := am_meth (y := yX1_lot) (ret := (some .int)) x_X1_lot (by decide) (by decide +kernel) (by decide +kernel)
abbrev S_X1_draw : am_S := (ShX, cX1_draw, 8, 1, RX1)
set_option maxRecDepth 100000 in
noncomputable def x_X1_draw : am_SP S_X1_draw := (t_sq (t_pf 24 1 0 178 false kp_1_0 (x_aln 0) (x_ic 0 0 (by decide))) (t_sq (t_pf 28 1 5 190 false kp_1_5 (x_aln 0) (x_iln 1)) (t_sq (t_bk (t_sq (t_is 4 (x_ic 0 0 (by decide))) (t_lp (c_and (c_2 .lt (x_il 4) (x_iln 2)) (c_z .gt (x_iln 3))) (t_sq (t_bk (t_sq (t_is 5 (x_k _ _ (ic_V (S := S_X1_draw) sd_X1_lot ky_X1_lot kv_X1_lot (by decide) 31 781 none) (x_a1 (x_aln 0) (x_a1 (x_ic 3 3 (by decide)) x_a0)))) (t_sq (t_is 6 (x_k _ _ (ic_V (S := S_X1_draw) sd_X1_lot ky_X1_lot kv_X1_lot (by decide) 31 781 none) (x_a1 (x_aln 0) (x_a1 (x_bp 20 20 (by decide)) x_a0)))) (t_sq (t_is 7 (x_k _ _ (ic_V (S := S_X1_draw) sd_X1_lot ky_X1_lot kv_X1_lot (by decide) 31 781 none) (x_a1 (x_aln 0) (x_a1 (x_iln 3) x_a0)))) (t_k _ _ (ic_V (S := S_X1_draw) sd_X1_tell ky_X1_tell kv_X1_tell (by decide) 35 786 none) (x_a1 (x_aln 0) (x_a1 (x_il 5) (x_a1 (x_il 6) (x_a1 (x_il 7) (x_a1 (x_k _ _ (ic_V (S := S_X1_draw) sd_X1_lot ky_X1_lot kv_X1_lot (by decide) 31 781 none) (x_a1 (x_aln 0) (x_a1 (x_bp 10 10 (by decide)) x_a0))) x_a0)))))))))) (t_inc 4 1 1 (by decide)))))) t_rv)))
noncomputable def g_X1_draw : am_T := (s_sq (s_pf ShX 1 0 false (e_lr 0) (e_i 0)) (s_sq (s_pf ShX 1 5 false (e_lr 0) (e_li 1)) (s_sq (s_bk (s_sq (s_as (o_si 8 4) (e_i 0)) (s_lp (b_and (b_2 .lt (e_li 4) (e_li 2)) (b_z .gt (e_li 3))) (s_sq (s_bk (s_sq (s_as (o_si 8 5) (e_k (am_cl ShX 1 1 f_X1_lot) (a_1 (e_lr 0) (a_1 (e_i 3) a_0)))) (s_sq (s_as (o_si 8 6) (e_k (am_cl ShX 1 1 f_X1_lot) (a_1 (e_lr 0) (a_1 (e_i 20) a_0)))) (s_sq (s_as (o_si 8 7) (e_k (am_cl ShX 1 1 f_X1_lot) (a_1 (e_lr 0) (a_1 (e_li 3) a_0)))) (s_k (am_cl ShX 1 4 f_X1_tell) (a_1 (e_lr 0) (a_1 (e_li 5) (a_1 (e_li 6) (a_1 (e_li 7) (a_1 (e_k (am_cl ShX 1 1 f_X1_lot) (a_1 (e_lr 0) (a_1 (e_i 10) a_0))) a_0)))))))))) (s_inc 8 4 1))))) s_rv)))
noncomputable def f_X1_draw : am_F := am_fn 8 none g_X1_draw
set_option maxRecDepth 100000 in
theorem sd_X1_draw : am_Sd ShX yX1_draw cX1_draw 8 none 1 f_X1_draw := am_meth (y := yX1_draw) (ret := none) x_X1_draw (by decide) (by decide +kernel) (by decide +kernel)
abbrev S_X10_century : am_S := (ShX, cX10_century, 4, 5, RX10)
set_option maxRecDepth 100000 in
noncomputable def x_X10_century : am_SP S_X10_century := (t_sq (t_if1 (c_or (c_not (c_z .ne (x_k _ _ (ic_S (S := S_X10_century) sd_X10_within ky_X10_within ks_X10_within (by decide) 103 417 none) (x_a1 (x_iln 2) (x_a1 (x_bp 9 9 (by decide)) x_a0))))) (c_not (c_z .ne (x_k _ _ (ic_S (S := S_X10_century) sd_X10_within ky_X10_within ks_X10_within (by decide) 103 417 none) (x_a1 (x_iln 3) (x_a1 (x_ic 2 2 (by decide)) x_a0)))))) (t_rt .ireturn (x_bp (-2) (-2) (by decide)))) (t_sq (t_k _ _ (ic_V (S := S_X10_century) sd_X10_freshen ky_X10_freshen kv_X10_freshen (by decide) 120 436 none) (x_a1 (x_aln 0) x_a0)) (t_sq (t_k _ _ (ic_V (S := S_X10_century) sd_X1_draw ky_X1_draw kv_X1_draw (by decide) 292 777 none) (x_a1 (x_gf 44 10 6 367 kg_10_6 (x_aln 0)) (x_a1 (x_iln 1) (x_a1 (x_iln 2) (x_a1 (x_gf 192 0 0 140 kg_0_0 (x_gf 29 10 3 364 kg_10_3 (x_aln 0))) x_a0))))) (t_sq (t_if1 (c_z .eq (x_iln 3)) (t_rt .ireturn (x_k _ _ (ic_S (S := S_X10_century) sd_J6_bitCount_0f7a4 ky_J6_bitCount_0f7a4 ks_J6_bitCount_0f7a4 (by decide) 228 672 none) (x_a1 (x_k _ _ (ic_V (S := S_X10_century) sd_X10_voidBits ky_X10_voidBits kv_X10_voidBits (by decide) 188 595 none) (x_a1 (x_aln 0) (x_a1 (x_gf 44 10 6 367 kg_10_6 (x_aln 0)) (x_a1 (x_bp 19 19 (by decide)) x_a0)))) x_a0)))) (t_sq (t_k _ _ (ic_V (S := S_X10_century) sd_X5_hangAll ky_X5_hangAll kv_X5_hangAll (by decide) 295 484 none) (x_a1 (x_gf 54 10 8 369 kg_10_8 (x_aln 0)) (x_a1 (x_gf 29 10 3 364 kg_10_3 (x_aln 0)) (x_a1 (x_gf 33 10 4 365 kg_10_4 (x_aln 0)) (x_a1 (x_gf 44 10 6 367 kg_10_6 (x_aln 0)) x_a0))))) (t_sq (t_k _ _ (ic_V (S := S_X10_century) sd_X9_go ky_X9_go kv_X9_go (by decide) 299 503 none) (x_a1 (x_gf 64 10 10 371 kg_10_10 (x_aln 0)) (x_a1 (x_gf 54 10 8 369 kg_10_8 (x_aln 0)) (x_a1 (x_gf 192 0 0 140 kg_0_0 (x_gf 29 10 3 364 kg_10_3 (x_aln 0))) (x_a1 (x_gf 23 10 2 363 kg_10_2 (x_aln 0)) x_a0))))) (t_rt .ireturn (x_gf 204 9 0 253 kg_9_0 (x_gf 64 10 10 371 kg_10_10 (x_aln 0))))))))))
noncomputable def g_X10_century : am_T := (s_sq (s_if (b_or (b_not (b_z .ne (e_k (am_cs 2 f_X10_within) (a_1 (e_li 2) (a_1 (e_i 9) a_0))))) (b_not (b_z .ne (e_k (am_cs 2 f_X10_within) (a_1 (e_li 3) (a_1 (e_i 2) a_0)))))) (s_rt .ireturn (e_i (-2))) s_0) (s_sq (s_k (am_cl ShX 10 0 f_X10_freshen) (a_1 (e_lr 0) a_0)) (s_sq (s_k (am_cl ShX 1 3 f_X1_draw) (a_1 (e_gf ShX 10 6 (e_lr 0)) (a_1 (e_li 1) (a_1 (e_li 2) (a_1 (e_gf ShX 0 0 (e_gf ShX 10 3 (e_lr 0))) a_0))))) (s_sq (s_if (b_z .eq (e_li 3)) (s_rt .ireturn (e_k (am_cs 1 f_J6_bitCount_0f7a4) (a_1 (e_k (am_cl ShX 10 2 f_X10_voidBits) (a_1 (e_lr 0) (a_1 (e_gf ShX 10 6 (e_lr 0)) (a_1 (e_i 19) a_0)))) a_0))) s_0) (s_sq (s_k (am_cl ShX 5 3 f_X5_hangAll) (a_1 (e_gf ShX 10 8 (e_lr 0)) (a_1 (e_gf ShX 10 3 (e_lr 0)) (a_1 (e_gf ShX 10 4 (e_lr 0)) (a_1 (e_gf ShX 10 6 (e_lr 0)) a_0))))) (s_sq (s_k (am_cl ShX 9 3 f_X9_go) (a_1 (e_gf ShX 10 10 (e_lr 0)) (a_1 (e_gf ShX 10 8 (e_lr 0)) (a_1 (e_gf ShX 0 0 (e_gf ShX 10 3 (e_lr 0))) (a_1 (e_gf ShX 10 2 (e_lr 0)) a_0))))) (s_rt .ireturn (e_gf ShX 9 0 (e_gf ShX 10 10 (e_lr 0))))))))))
noncomputable def f_X10_century : am_F := am_fn 4 (some .int) g_X10_century
set_option maxRecDepth 100000 in
theorem sd_X10_century : am_Sd ShX yX10_century cX10_century 4 (some .int) 5 f_X10_century := am_meth (y := yX10_century) (ret := (some .int)) x_X10_century (by decide) (by decide +kernel) (by decide +kernel)
abbrev S_X4_make : am_S := (ShX, cX4_make, 3, 1, RX4)
set_option maxRecDepth 100000 in
noncomputable def x_X4_make : am_SP S_X4_make := (t_sq (t_pf 9 4 0 344 true kp_4_0 (x_aln 0) (x_ic 0 0 (by decide))) (t_sq (t_pf 19 4 1 346 false kp_4_1 (x_aln 0) (x_iln 1)) (t_sq (t_pf 32 4 2 348 false kp_4_2 (x_aln 0) (x_k _ _ (ic_max (S := S_X4_make) 29 796 (by decide)) (x_a1 (x_ic 0 0 (by decide)) (x_a1 (x_k _ _ (ic_min (S := S_X4_make) 23 795 (by decide)) (x_a1 (x_iln 2) (x_a1 (x_bp 60 60 (by decide)) x_a0))) x_a0)))) (t_sq (t_k _ _ (ic_S (S := S_X4_make) sd_J7_fill_53178 ky_J7_fill_53178 ks_J7_fill_53178 (by decide) 35 797 none) (x_a1 (x_gf 15 4 3 350 kg_4_3 (x_aln 0)) (x_a1 (x_ic 0 0 (by decide)) x_a0))) t_rv))))
noncomputable def g_X4_make : am_T := (s_sq (s_pf ShX 4 0 true (e_lr 0) (e_i 0)) (s_sq (s_pf ShX 4 1 false (e_lr 0) (e_li 1)) (s_sq (s_pf ShX 4 2 false (e_lr 0) (e_k (am_m2 am_max) (a_1 (e_i 0) (a_1 (e_k (am_m2 am_min) (a_1 (e_li 2) (a_1 (e_i 60) a_0))) a_0)))) (s_sq (s_k (am_cs 2 f_J7_fill_53178) (a_1 (e_gf ShX 4 3 (e_lr 0)) (a_1 (e_i 0) a_0))) s_rv))))
noncomputable def f_X4_make : am_F := am_fn 3 none g_X4_make
set_option maxRecDepth 100000 in
theorem sd_X4_make : am_Sd ShX yX4_make cX4_make 3 none 1 f_X4_make := am_meth (y := yX4_make) (ret := none) x_X4_make (by decide) (by decide +kernel) (by decide +kernel)
abbrev S_X10_sheet : am_S := (ShX, cX10_sheet, 4, 2, RX10)
set_option maxRecDepth 100000 in
noncomputable def x_X10_sheet : am_SP S_X10_sheet := (t_sq (t_if1 (c_or (c_or (c_not (c_z .ne (x_k _ _ (ic_S (S := S_X10_sheet) sd_X10_within ky_X10_within ks_X10_within (by decide) 103 417 none) (x_a1 (x_iln 1) (x_a1 (x_ic 4 4 (by decide)) x_a0))))) (c_not (c_z .ne (x_k _ _ (ic_S (S := S_X10_sheet) sd_X10_within ky_X10_within ks_X10_within (by decide) 103 417 none) (x_a1 (x_iln 2) (x_a1 (x_ic 3 3 (by decide)) x_a0)))))) (c_2 .gt (x_iln 3) (x_bp 60 60 (by decide)))) (t_rt .ireturn (x_bp (-2) (-2) (by decide)))) (t_sq (t_if1 (c_z .lt (x_iln 3)) (t_rt .ireturn (x_k _ _ (ic_V (S := S_X10_sheet) sd_X10_finding ky_X10_finding kv_X10_finding (by decide) 159 558 none) (x_a1 (x_aln 0) (x_a1 (x_ic 5 5 (by decide)) x_a0))))) (t_sq (t_k _ _ (ic_V (S := S_X10_sheet) sd_X4_make ky_X4_make kv_X4_make (by decide) 303 791 none) (x_a1 (x_qld (x_gf 90 10 14 375 kg_10_14 (x_aln 0)) (x_iln 1)) (x_a1 (x_iln 2) (x_a1 (x_iln 3) x_a0)))) (t_rt .ireturn (x_iln 3)))))
noncomputable def g_X10_sheet : am_T := (s_sq (s_if (b_or (b_or (b_not (b_z .ne (e_k (am_cs 2 f_X10_within) (a_1 (e_li 1) (a_1 (e_i 4) a_0))))) (b_not (b_z .ne (e_k (am_cs 2 f_X10_within) (a_1 (e_li 2) (a_1 (e_i 3) a_0)))))) (b_2 .gt (e_li 3) (e_i 60))) (s_rt .ireturn (e_i (-2))) s_0) (s_sq (s_if (b_z .lt (e_li 3)) (s_rt .ireturn (e_k (am_cl ShX 10 1 f_X10_finding) (a_1 (e_lr 0) (a_1 (e_i 5) a_0)))) s_0) (s_sq (s_k (am_cl ShX 4 2 f_X4_make) (a_1 (e_qld ShX (e_gf ShX 10 14 (e_lr 0)) (e_li 1)) (a_1 (e_li 2) (a_1 (e_li 3) a_0)))) (s_rt .ireturn (e_li 3)))))
noncomputable def f_X10_sheet : am_F := am_fn 4 (some .int) g_X10_sheet
set_option maxRecDepth 100000 in
theorem sd_X10_sheet : am_Sd ShX yX10_sheet cX10_sheet 4 (some .int) 2 f_X10_sheet := am_meth (y := yX10_sheet) (ret := (some .int)) x_X10_sheet (by decide) (by decide +kernel) (by decide +kernel)
abbrev S_X10_lose : am_S := (ShX, cX10_lose, 3, 1, RX10)
set_option maxRecDepth 100000 in
noncomputable def x_X10_lose : am_SP S_X10_lose := (t_sq (t_if1 (c_not (c_z .ne (x_k _ _ (ic_S (S := S_X10_lose) sd_X10_within ky_X10_within ks_X10_within (by decide) 103 417 none) (x_a1 (x_iln 1) (x_a1 (x_ic 4 4 (by decide)) x_a0))))) (t_rt .ireturn (x_bp (-2) (-2) (by decide)))) (t_sq (t_asn 2 (x_qld (x_gf 90 10 14 375 kg_10_14 (x_aln 0)) (x_iln 1))) (t_sq (t_if1 (c_z .ne (x_gf 156 4 0 345 kg_4_0 (x_aln 2))) (t_rt .ireturn (x_k _ _ (ic_V (S := S_X10_lose) sd_X10_finding ky_X10_finding kv_X10_finding (by decide) 159 558 none) (x_a1 (x_aln 0) (x_a1 (x_ic 1 1 (by decide)) x_a0))))) (t_sq (t_pf 156 4 0 345 true kp_4_0 (x_aln 2) (x_ic 1 1 (by decide))) (t_rt .ireturn (x_gf 163 4 2 349 kg_4_2 (x_aln 2)))))))
noncomputable def g_X10_lose : am_T := (s_sq (s_if (b_not (b_z .ne (e_k (am_cs 2 f_X10_within) (a_1 (e_li 1) (a_1 (e_i 4) a_0))))) (s_rt .ireturn (e_i (-2))) s_0) (s_sq (s_as (o_sr 3 2) (e_qld ShX (e_gf ShX 10 14 (e_lr 0)) (e_li 1))) (s_sq (s_if (b_z .ne (e_gf ShX 4 0 (e_lr 2))) (s_rt .ireturn (e_k (am_cl ShX 10 1 f_X10_finding) (a_1 (e_lr 0) (a_1 (e_i 1) a_0)))) s_0) (s_sq (s_pf ShX 4 0 true (e_lr 2) (e_i 1)) (s_rt .ireturn (e_gf ShX 4 2 (e_lr 2)))))))
noncomputable def f_X10_lose : am_F := am_fn 3 (some .int) g_X10_lose
set_option maxRecDepth 100000 in
theorem sd_X10_lose : am_Sd ShX yX10_lose cX10_lose 3 (some .int) 1 f_X10_lose := am_meth (y := yX10_lose) (ret := (some .int)) x_X10_lose (by decide) (by decide +kernel) (by decide +kernel)
abbrev S_X10_itemFinding : am_S := (ShX, cX10_itemFinding, 3, 1, RX10)
set_option maxRecDepth 100000 in
noncomputable def x_X10_itemFinding : am_SP S_X10_itemFinding := (t_sq (t_if1 (c_z .ne (x_gf 156 4 0 345 kg_4_0 (x_aln 0))) (t_rt .ireturn (x_ic 1 1 (by decide)))) (t_sq (t_if1 (c_2 .ne (x_gf 318 4 1 347 kg_4_1 (x_aln 0)) (x_iln 1)) (t_rt .ireturn (x_ic 3 3 (by decide)))) (t_rt .ireturn (x_c (c_z .ne (x_k _ _ (ic_S (S := S_X10_itemFinding) sd_X10_within ky_X10_within ks_X10_within (by decide) 103 417 none) (x_a1 (x_iln 2) (x_a1 (x_gf 163 4 2 349 kg_4_2 (x_aln 0)) x_a0)))) (x_ic 0 0 (by decide)) (x_ic 2 2 (by decide))))))
noncomputable def g_X10_itemFinding : am_T := (s_sq (s_if (b_z .ne (e_gf ShX 4 0 (e_lr 0))) (s_rt .ireturn (e_i 1)) s_0) (s_sq (s_if (b_2 .ne (e_gf ShX 4 1 (e_lr 0)) (e_li 1)) (s_rt .ireturn (e_i 3)) s_0) (s_rt .ireturn (e_c (b_z .ne (e_k (am_cs 2 f_X10_within) (a_1 (e_li 2) (a_1 (e_gf ShX 4 2 (e_lr 0)) a_0)))) (e_i 0) (e_i 2)))))
noncomputable def f_X10_itemFinding : am_F := am_fn 3 (some .int) g_X10_itemFinding
set_option maxRecDepth 100000 in
theorem sd_X10_itemFinding : am_Sd ShX yX10_itemFinding cX10_itemFinding 3 (some .int) 1 f_X10_itemFinding := am_meth (y := yX10_itemFinding) (ret := (some .int)) x_X10_itemFinding (by decide) (by decide +kernel) (by decide +kernel)
abbrev S_X4_put : am_S := (ShX, cX4_put, 3, 1, RX4)
set_option maxRecDepth 100000 in
noncomputable def x_X4_put : am_SP S_X4_put := (t_sq (t_if1 (c_z .ne (x_k _ _ (ic_S (S := S_X4_put) sd_X10_within ky_X10_within ks_X10_within (by decide) 41 813 (some "WrackDeeds")) (x_a1 (x_iln 1) (x_a1 (x_gf 32 4 2 348 kg_4_2 (x_aln 0)) x_a0)))) (t_ia (x_gf 15 4 3 350 kg_4_3 (x_aln 0)) (x_iln 1) (x_c (c_z .eq (x_gf 19 4 1 346 kg_4_1 (x_aln 0))) (x_i2b (x_iln 2)) (x_c (c_2 .eq (x_gf 19 4 1 346 kg_4_1 (x_aln 0)) (x_ic 1 1 (by decide))) (x_i2s (x_iln 2)) (x_iln 2))))) t_rv)
noncomputable def g_X4_put : am_T := (s_sq (s_if (b_z .ne (e_k (am_cs 2 f_X10_within) (a_1 (e_li 1) (a_1 (e_gf ShX 4 2 (e_lr 0)) a_0)))) (s_ia ShX (e_gf ShX 4 3 (e_lr 0)) (e_li 1) (e_c (b_z .eq (e_gf ShX 4 1 (e_lr 0))) (e_i2b (e_li 2)) (e_c (b_2 .eq (e_gf ShX 4 1 (e_lr 0)) (e_i 1)) (e_i2s (e_li 2)) (e_li 2)))) s_0) s_rv)
noncomputable def f_X4_put : am_F := am_fn 3 none g_X4_put
set_option maxRecDepth 100000 in
theorem sd_X4_put : am_Sd ShX yX4_put cX4_put 3 none 1 f_X4_put := am_meth (y := yX4_put) (ret := none) x_X4_put (by decide) (by decide +kernel) (by decide +kernel)
abbrev S_X10_lay : am_S := (ShX, cX10_lay, 7, 2, RX10)
set_option maxRecDepth 100000 in
noncomputable def x_X10_lay : am_SP S_X10_lay := (t_sq (t_if1 (c_or (c_not (c_z .ne (x_k _ _ (ic_S (S := S_X10_lay) sd_X10_within ky_X10_within ks_X10_within (by decide) 103 417 none) (x_a1 (x_iln 1) (x_a1 (x_ic 4 4 (by decide)) x_a0))))) (c_not (c_z .ne (x_k _ _ (ic_S (S := S_X10_lay) sd_X10_within ky_X10_within ks_X10_within (by decide) 103 417 none) (x_a1 (x_iln 2) (x_a1 (x_ic 3 3 (by decide)) x_a0)))))) (t_rt .ireturn (x_bp (-2) (-2) (by decide)))) (t_sq (t_ast 5 (x_qld (x_gf 90 10 14 375 kg_10_14 (x_aln 0)) (x_iln 1))) (t_sq (t_is 6 (x_k _ _ (ic_S (S := S_X10_lay) sd_X10_itemFinding ky_X10_itemFinding ks_X10_itemFinding (by decide) 307 806 none) (x_a1 (x_al 5) (x_a1 (x_iln 2) (x_a1 (x_iln 3) x_a0))))) (t_sq (t_if1 (c_z .ne (x_il 6)) (t_rt .ireturn (x_k _ _ (ic_V (S := S_X10_lay) sd_X10_finding ky_X10_finding kv_X10_finding (by decide) 159 558 none) (x_a1 (x_aln 0) (x_a1 (x_il 6) x_a0))))) (t_sq (t_k _ _ (ic_V (S := S_X10_lay) sd_X4_put ky_X4_put kv_X4_put (by decide) 311 809 none) (x_a1 (x_al 5) (x_a1 (x_iln 3) (x_a1 (x_il 4) x_a0)))) (t_rt .ireturn (x_ic 1 1 (by decide))))))))
noncomputable def g_X10_lay : am_T := (s_sq (s_if (b_or (b_not (b_z .ne (e_k (am_cs 2 f_X10_within) (a_1 (e_li 1) (a_1 (e_i 4) a_0))))) (b_not (b_z .ne (e_k (am_cs 2 f_X10_within) (a_1 (e_li 2) (a_1 (e_i 3) a_0)))))) (s_rt .ireturn (e_i (-2))) s_0) (s_sq (s_as (o_sr 7 5) (e_qld ShX (e_gf ShX 10 14 (e_lr 0)) (e_li 1))) (s_sq (s_as (o_si 7 6) (e_k (am_cs 3 f_X10_itemFinding) (a_1 (e_lr 5) (a_1 (e_li 2) (a_1 (e_li 3) a_0))))) (s_sq (s_if (b_z .ne (e_li 6)) (s_rt .ireturn (e_k (am_cl ShX 10 1 f_X10_finding) (a_1 (e_lr 0) (a_1 (e_li 6) a_0)))) s_0) (s_sq (s_k (am_cl ShX 4 2 f_X4_put) (a_1 (e_lr 5) (a_1 (e_li 3) (a_1 (e_li 4) a_0)))) (s_rt .ireturn (e_i 1)))))))
noncomputable def f_X10_lay : am_F := am_fn 7 (some .int) g_X10_lay
set_option maxRecDepth 100000 in
theorem sd_X10_lay : am_Sd ShX yX10_lay cX10_lay 7 (some .int) 2 f_X10_lay := am_meth (y := yX10_lay) (ret := (some .int)) x_X10_lay (by decide) (by decide +kernel) (by decide +kernel)
end
section
/-! methods as forms, by program (gen.py, mkm.py): x_ the form, g_ and f_ the meaning, sd_ the contract -/
abbrev S_X10_get : am_S := (ShX, cX10_get, 6, 2, RX10)
set_option maxRecDepth 100000 in
noncomputable def x_X10_get : am_SP S_X10_get := (t_sq (t_if1 (c_or (c_not (c_z .ne (x_k _ _ (ic_S (S := S_X10_get) sd_X10_within ky_X10_within ks_X10_within (by decide) 103 417 none) (x_a1 (x_iln 1) (x_a1 (x_ic 4 4 (by decide)) x_a0))))) (c_not (c_z .ne (x_k _ _ (ic_S (S := S_X10_get) sd_X10_within ky_X10_within ks_X10_within (by decide) 103 417 none) (x_a1 (x_iln 2) (x_a1 (x_ic 3 3 (by decide)) x_a0)))))) (t_rt .ireturn (x_ldcw 314 (-2147483648) 818))) (t_sq (t_ast 4 (x_qld (x_gf 90 10 14 375 kg_10_14 (x_aln 0)) (x_iln 1))) (t_sq (t_is 5 (x_k _ _ (ic_S (S := S_X10_get) sd_X10_itemFinding ky_X10_itemFinding ks_X10_itemFinding (by decide) 307 806 none) (x_a1 (x_al 4) (x_a1 (x_iln 2) (x_a1 (x_iln 3) x_a0))))) (t_sq (t_if1 (c_z .ne (x_il 5)) (t_sq (t_pf 95 10 15 376 false kp_10_15 (x_aln 0) (x_il 5)) (t_rt .ireturn (x_ldcw 314 (-2147483648) 818)))) (t_rt .ireturn (x_ald (x_gf 315 4 3 351 kg_4_3 (x_al 4)) (x_iln 3)))))))
noncomputable def g_X10_get : am_T := (s_sq (s_if (b_or (b_not (b_z .ne (e_k (am_cs 2 f_X10_within) (a_1 (e_li 1) (a_1 (e_i 4) a_0))))) (b_not (b_z .ne (e_k (am_cs 2 f_X10_within) (a_1 (e_li 2) (a_1 (e_i 3) a_0)))))) (s_rt .ireturn (e_i (-2147483648))) s_0) (s_sq (s_as (o_sr 6 4) (e_qld ShX (e_gf ShX 10 14 (e_lr 0)) (e_li 1))) (s_sq (s_as (o_si 6 5) (e_k (am_cs 3 f_X10_itemFinding) (a_1 (e_lr 4) (a_1 (e_li 2) (a_1 (e_li 3) a_0))))) (s_sq (s_if (b_z .ne (e_li 5)) (s_sq (s_pf ShX 10 15 false (e_lr 0) (e_li 5)) (s_rt .ireturn (e_i (-2147483648)))) s_0) (s_rt .ireturn (e_ald ShX (e_gf ShX 4 3 (e_lr 4)) (e_li 3)))))))
noncomputable def f_X10_get : am_F := am_fn 6 (some .int) g_X10_get
set_option maxRecDepth 100000 in
theorem sd_X10_get : am_Sd ShX yX10_get cX10_get 6 (some .int) 2 f_X10_get := am_meth (y := yX10_get) (ret := (some .int)) x_X10_get (by decide) (by decide +kernel) (by decide +kernel)
abbrev S_X4_hasRun : am_S := (ShX, cX4_hasRun, 3, 0, RX4)
set_option maxRecDepth 100000 in
noncomputable def x_X4_hasRun : am_SP S_X4_hasRun := (t_rt .ireturn (x_c (c_and (c_and (c_and (c_z .ge (x_iln 1)) (c_z .ge (x_iln 2))) (c_2 .le (x_iln 2) (x_gf 32 4 2 348 kg_4_2 (x_aln 0)))) (c_2 .le (x_iln 1) (x_isub (x_gf 32 4 2 348 kg_4_2 (x_aln 0)) (x_iln 2)))) (x_ic 1 1 (by decide)) (x_ic 0 0 (by decide))))
noncomputable def g_X4_hasRun : am_T := (s_rt .ireturn (e_c (b_and (b_and (b_and (b_z .ge (e_li 1)) (b_z .ge (e_li 2))) (b_2 .le (e_li 2) (e_gf ShX 4 2 (e_lr 0)))) (b_2 .le (e_li 1) (e_b o_isub (e_gf ShX 4 2 (e_lr 0)) (e_li 2)))) (e_i 1) (e_i 0)))
noncomputable def f_X4_hasRun : am_F := am_fn 3 (some .boolean) g_X4_hasRun
set_option maxRecDepth 100000 in
theorem sd_X4_hasRun : am_Sd ShX yX4_hasRun cX4_hasRun 3 (some .boolean) 0 f_X4_hasRun := am_meth (y := yX4_hasRun) (ret := (some .boolean)) x_X4_hasRun (by decide) (by decide +kernel) (by decide +kernel)
abbrev S_X10_copy : am_S := (ShX, cX10_copy, 8, 1, RX10)
set_option maxRecDepth 100000 in
noncomputable def x_X10_copy : am_SP S_X10_copy := (t_sq (t_if1 (c_or (c_not (c_z .ne (x_k _ _ (ic_S (S := S_X10_copy) sd_X10_within ky_X10_within ks_X10_within (by decide) 103 417 none) (x_a1 (x_iln 1) (x_a1 (x_ic 4 4 (by decide)) x_a0))))) (c_not (c_z .ne (x_k _ _ (ic_S (S := S_X10_copy) sd_X10_within ky_X10_within ks_X10_within (by decide) 103 417 none) (x_a1 (x_iln 3) (x_a1 (x_ic 4 4 (by decide)) x_a0)))))) (t_rt .ireturn (x_bp (-2) (-2) (by decide)))) (t_sq (t_ast 6 (x_qld (x_gf 90 10 14 375 kg_10_14 (x_aln 0)) (x_iln 1))) (t_sq (t_ast 7 (x_qld (x_gf 90 10 14 375 kg_10_14 (x_aln 0)) (x_iln 3))) (t_sq (t_if1 (c_or (c_z .ne (x_gf 156 4 0 345 kg_4_0 (x_al 6))) (c_z .ne (x_gf 156 4 0 345 kg_4_0 (x_al 7)))) (t_rt .ireturn (x_k _ _ (ic_V (S := S_X10_copy) sd_X10_finding ky_X10_finding kv_X10_finding (by decide) 159 558 none) (x_a1 (x_aln 0) (x_a1 (x_ic 1 1 (by decide)) x_a0))))) (t_sq (t_if1 (c_2 .ne (x_gf 318 4 1 347 kg_4_1 (x_al 6)) (x_gf 318 4 1 347 kg_4_1 (x_al 7))) (t_rt .ireturn (x_k _ _ (ic_V (S := S_X10_copy) sd_X10_finding ky_X10_finding kv_X10_finding (by decide) 159 558 none) (x_a1 (x_aln 0) (x_a1 (x_ic 4 4 (by decide)) x_a0))))) (t_sq (t_if1 (c_or (c_not (c_z .ne (x_k _ _ (ic_V (S := S_X10_copy) sd_X4_hasRun ky_X4_hasRun kv_X4_hasRun (by decide) 321 823 none) (x_a1 (x_al 6) (x_a1 (x_iln 2) (x_a1 (x_il 5) x_a0)))))) (c_not (c_z .ne (x_k _ _ (ic_V (S := S_X10_copy) sd_X4_hasRun ky_X4_hasRun kv_X4_hasRun (by decide) 321 823 none) (x_a1 (x_al 7) (x_a1 (x_il 4) (x_a1 (x_il 5) x_a0))))))) (t_rt .ireturn (x_k _ _ (ic_V (S := S_X10_copy) sd_X10_finding ky_X10_finding kv_X10_finding (by decide) 159 558 none) (x_a1 (x_aln 0) (x_a1 (x_ic 2 2 (by decide)) x_a0))))) (t_sq (t_cy 324 827 (by decide) (x_a1 (x_gf 315 4 3 351 kg_4_3 (x_al 6)) (x_a1 (x_iln 2) (x_a1 (x_gf 315 4 3 351 kg_4_3 (x_al 7)) (x_a1 (x_il 4) (x_a1 (x_il 5) x_a0)))))) (t_rt .ireturn (x_ic 1 1 (by decide))))))))))
noncomputable def g_X10_copy : am_T := (s_sq (s_if (b_or (b_not (b_z .ne (e_k (am_cs 2 f_X10_within) (a_1 (e_li 1) (a_1 (e_i 4) a_0))))) (b_not (b_z .ne (e_k (am_cs 2 f_X10_within) (a_1 (e_li 3) (a_1 (e_i 4) a_0)))))) (s_rt .ireturn (e_i (-2))) s_0) (s_sq (s_as (o_sr 8 6) (e_qld ShX (e_gf ShX 10 14 (e_lr 0)) (e_li 1))) (s_sq (s_as (o_sr 8 7) (e_qld ShX (e_gf ShX 10 14 (e_lr 0)) (e_li 3))) (s_sq (s_if (b_or (b_z .ne (e_gf ShX 4 0 (e_lr 6))) (b_z .ne (e_gf ShX 4 0 (e_lr 7)))) (s_rt .ireturn (e_k (am_cl ShX 10 1 f_X10_finding) (a_1 (e_lr 0) (a_1 (e_i 1) a_0)))) s_0) (s_sq (s_if (b_2 .ne (e_gf ShX 4 1 (e_lr 6)) (e_gf ShX 4 1 (e_lr 7))) (s_rt .ireturn (e_k (am_cl ShX 10 1 f_X10_finding) (a_1 (e_lr 0) (a_1 (e_i 4) a_0)))) s_0) (s_sq (s_if (b_or (b_not (b_z .ne (e_k (am_cl ShX 4 2 f_X4_hasRun) (a_1 (e_lr 6) (a_1 (e_li 2) (a_1 (e_li 5) a_0)))))) (b_not (b_z .ne (e_k (am_cl ShX 4 2 f_X4_hasRun) (a_1 (e_lr 7) (a_1 (e_li 4) (a_1 (e_li 5) a_0))))))) (s_rt .ireturn (e_k (am_cl ShX 10 1 f_X10_finding) (a_1 (e_lr 0) (a_1 (e_i 2) a_0)))) s_0) (s_sq (s_cy ShX (a_1 (e_gf ShX 4 3 (e_lr 6)) (a_1 (e_li 2) (a_1 (e_gf ShX 4 3 (e_lr 7)) (a_1 (e_li 4) (a_1 (e_li 5) a_0)))))) (s_rt .ireturn (e_i 1)))))))))
noncomputable def f_X10_copy : am_F := am_fn 8 (some .int) g_X10_copy
set_option maxRecDepth 100000 in
theorem sd_X10_copy : am_Sd ShX yX10_copy cX10_copy 8 (some .int) 1 f_X10_copy := am_meth (y := yX10_copy) (ret := (some .int)) x_X10_copy (by decide) (by decide +kernel) (by decide +kernel)
abbrev S_X10_write : am_S := (ShX, cX10_write, 6, 6, RX10)
set_option maxRecDepth 100000 in
noncomputable def x_X10_write : am_SP S_X10_write := (t_sq (t_if1 (c_or (c_not (c_z .ne (x_k _ _ (ic_V (S := S_X10_write) sd_X10_isStrand ky_X10_isStrand kv_X10_isStrand (by decide) 126 526 none) (x_a1 (x_aln 0) (x_a1 (x_iln 1) x_a0))))) (c_not (c_z .ne (x_k _ _ (ic_S (S := S_X10_write) sd_X10_within ky_X10_within ks_X10_within (by decide) 103 417 none) (x_a1 (x_iln 2) (x_a1 (x_ic 4 4 (by decide)) x_a0)))))) (t_rt .ireturn (x_bp (-2) (-2) (by decide)))) (t_sq (t_asn 3 (x_qld (x_gf 90 10 14 375 kg_10_14 (x_aln 0)) (x_iln 2))) (t_sq (t_if1 (c_z .ne (x_gf 156 4 0 345 kg_4_0 (x_aln 3))) (t_rt .ireturn (x_k _ _ (ic_V (S := S_X10_write) sd_X10_finding ky_X10_finding kv_X10_finding (by decide) 159 558 none) (x_a1 (x_aln 0) (x_a1 (x_ic 1 1 (by decide)) x_a0))))) (t_sq (t_is 4 (x_k _ _ (ic_min (S := S_X10_write) 330 832 (by decide)) (x_a1 (x_gf 163 4 2 349 kg_4_2 (x_aln 3)) (x_a1 (x_bp 20 20 (by decide)) x_a0)))) (t_sq (t_bk (t_sq (t_is 5 (x_ic 0 0 (by decide))) (t_lp (c_2 .lt (x_il 5) (x_il 4)) (t_sq (t_k _ _ (ic_V (S := S_X10_write) sd_X4_put ky_X4_put kv_X4_put (by decide) 311 809 none) (x_a1 (x_aln 3) (x_a1 (x_il 5) (x_a1 (x_ald (x_gf 172 3 1 224 kg_3_1 (x_qld (x_gf 168 5 0 242 kg_5_0 (x_gf 50 10 7 368 kg_10_7 (x_aln 0))) (x_iln 1))) (x_il 5)) x_a0)))) (t_inc 5 1 1 (by decide)))))) (t_rt .ireturn (x_il 4)))))))
noncomputable def g_X10_write : am_T := (s_sq (s_if (b_or (b_not (b_z .ne (e_k (am_cl ShX 10 1 f_X10_isStrand) (a_1 (e_lr 0) (a_1 (e_li 1) a_0))))) (b_not (b_z .ne (e_k (am_cs 2 f_X10_within) (a_1 (e_li 2) (a_1 (e_i 4) a_0)))))) (s_rt .ireturn (e_i (-2))) s_0) (s_sq (s_as (o_sr 6 3) (e_qld ShX (e_gf ShX 10 14 (e_lr 0)) (e_li 2))) (s_sq (s_if (b_z .ne (e_gf ShX 4 0 (e_lr 3))) (s_rt .ireturn (e_k (am_cl ShX 10 1 f_X10_finding) (a_1 (e_lr 0) (a_1 (e_i 1) a_0)))) s_0) (s_sq (s_as (o_si 6 4) (e_k (am_m2 am_min) (a_1 (e_gf ShX 4 2 (e_lr 3)) (a_1 (e_i 20) a_0)))) (s_sq (s_bk (s_sq (s_as (o_si 6 5) (e_i 0)) (s_lp (b_2 .lt (e_li 5) (e_li 4)) (s_sq (s_k (am_cl ShX 4 2 f_X4_put) (a_1 (e_lr 3) (a_1 (e_li 5) (a_1 (e_ald ShX (e_gf ShX 3 1 (e_qld ShX (e_gf ShX 5 0 (e_gf ShX 10 7 (e_lr 0))) (e_li 1))) (e_li 5)) a_0)))) (s_inc 6 5 1))))) (s_rt .ireturn (e_li 4)))))))
noncomputable def f_X10_write : am_F := am_fn 6 (some .int) g_X10_write
set_option maxRecDepth 100000 in
theorem sd_X10_write : am_Sd ShX yX10_write cX10_write 6 (some .int) 6 f_X10_write := am_meth (y := yX10_write) (ret := (some .int)) x_X10_write (by decide) (by decide +kernel) (by decide +kernel)
abbrev S_X10_count : am_S := (ShX, cX10_count, 2, 5, RX10)
set_option maxRecDepth 100000 in
noncomputable def x_X10_count : am_SP S_X10_count := (t_sq (t_k _ _ (ic_V (S := S_X10_count) sd_X10_freshen ky_X10_freshen kv_X10_freshen (by decide) 120 436 none) (x_a1 (x_aln 0) x_a0)) (t_sw 0 [0, 1, 2, 3, 4, 5, 6, 7, 8] 9 51 (x_iln 1) [(t_rt .ireturn (x_gf 192 0 0 140 kg_0_0 (x_gf 29 10 3 364 kg_10_3 (x_aln 0)))), (t_rt .ireturn (x_k _ _ (ic_V (S := S_X10_count) sd_X7_sound ky_X7_sound kv_X7_sound (by decide) 143 480 none) (x_a1 (x_gf 23 10 2 363 kg_10_2 (x_aln 0)) x_a0))), (t_rt .ireturn (x_gf 111 7 2 118 kg_7_2 (x_gf 16 10 0 361 kg_10_0 (x_aln 0)))), (t_rt .ireturn (x_gf 111 7 2 118 kg_7_2 (x_gf 20 10 1 362 kg_10_1 (x_aln 0)))), (t_rt .ireturn (x_gf 111 7 2 118 kg_7_2 (x_gf 23 10 2 363 kg_10_2 (x_aln 0)))), (t_rt .ireturn (x_gf 151 1 0 180 kg_1_0 (x_gf 40 10 5 366 kg_10_5 (x_aln 0)))), (t_rt .ireturn (x_gf 204 9 0 253 kg_9_0 (x_gf 60 10 9 370 kg_10_9 (x_aln 0)))), (t_rt .ireturn (x_gf 251 6 0 300 kg_6_0 (x_gf 77 10 12 373 kg_10_12 (x_aln 0)))), (t_rt .ireturn (x_gf 95 10 15 376 kg_10_15 (x_aln 0))), (t_rt .ireturn (x_bp (-2) (-2) (by decide)))]))
noncomputable def g_X10_count : am_T := (s_sq (s_k (am_cl ShX 10 0 f_X10_freshen) (a_1 (e_lr 0) a_0)) (s_sw 0 [0, 1, 2, 3, 4, 5, 6, 7, 8] 9 (e_li 1) [(s_rt .ireturn (e_gf ShX 0 0 (e_gf ShX 10 3 (e_lr 0)))), (s_rt .ireturn (e_k (am_cl ShX 7 0 f_X7_sound) (a_1 (e_gf ShX 10 2 (e_lr 0)) a_0))), (s_rt .ireturn (e_gf ShX 7 2 (e_gf ShX 10 0 (e_lr 0)))), (s_rt .ireturn (e_gf ShX 7 2 (e_gf ShX 10 1 (e_lr 0)))), (s_rt .ireturn (e_gf ShX 7 2 (e_gf ShX 10 2 (e_lr 0)))), (s_rt .ireturn (e_gf ShX 1 0 (e_gf ShX 10 5 (e_lr 0)))), (s_rt .ireturn (e_gf ShX 9 0 (e_gf ShX 10 9 (e_lr 0)))), (s_rt .ireturn (e_gf ShX 6 0 (e_gf ShX 10 12 (e_lr 0)))), (s_rt .ireturn (e_gf ShX 10 15 (e_lr 0))), (s_rt .ireturn (e_i (-2)))]))
noncomputable def f_X10_count : am_F := am_fn 2 (some .int) g_X10_count
set_option maxRecDepth 100000 in
theorem sd_X10_count : am_Sd ShX yX10_count cX10_count 2 (some .int) 5 f_X10_count := am_meth (y := yX10_count) (ret := (some .int)) x_X10_count (by decide) (by decide +kernel) (by decide +kernel)
abbrev S_X10_digestDeed : am_S := (ShX, cX10_digestDeed, 6, 7, RX10)
set_option maxRecDepth 100000 in
noncomputable def x_X10_digestDeed : am_SP S_X10_digestDeed := (t_sq (t_ls 4 (x_lln 1)) (t_sq (t_ls 4 (x_ladd (x_lmul (x_ldc2 335 31 842) (x_ll 4)) (x_i2l (x_k _ _ (ic_V (S := S_X10_digestDeed) sd_X10_deed ky_X10_deed kv_X10_deed (by decide) 409 862 none) (x_a1 (x_aln 0) (x_a1 (x_iln 3) (x_a1 (x_ic 0 0 (by decide)) x_a0))))))) (t_sq (t_ls 4 (x_ladd (x_lmul (x_ldc2 335 31 842) (x_ll 4)) (x_i2l (x_k _ _ (ic_V (S := S_X10_digestDeed) sd_X10_deed ky_X10_deed kv_X10_deed (by decide) 409 862 none) (x_a1 (x_aln 0) (x_a1 (x_iln 3) (x_a1 (x_ic 1 1 (by decide)) x_a0))))))) (t_sq (t_ls 4 (x_ladd (x_lmul (x_ldc2 335 31 842) (x_ll 4)) (x_i2l (x_k _ _ (ic_V (S := S_X10_digestDeed) sd_X10_save ky_X10_save kv_X10_save (by decide) 412 863 none) (x_a1 (x_aln 0) (x_a1 (x_iln 3) (x_a1 (x_ic (-1) (-1) (by decide)) x_a0))))))) (t_sq (t_ls 4 (x_ladd (x_lmul (x_ldc2 335 31 842) (x_ll 4)) (x_i2l (x_k _ _ (ic_V (S := S_X10_digestDeed) sd_X10_save ky_X10_save kv_X10_save (by decide) 412 863 none) (x_a1 (x_aln 0) (x_a1 (x_iln 3) (x_a1 (x_ic 0 0 (by decide)) x_a0))))))) (t_sq (t_ls 4 (x_ladd (x_lmul (x_ldc2 335 31 842) (x_ll 4)) (x_i2l (x_k _ _ (ic_V (S := S_X10_digestDeed) sd_X10_was ky_X10_was kv_X10_was (by decide) 415 864 none) (x_a1 (x_aln 0) (x_a1 (x_iln 3) (x_a1 (x_ic 0 0 (by decide)) x_a0))))))) (t_sq (t_ls 4 (x_ladd (x_lmul (x_ldc2 335 31 842) (x_ll 4)) (x_i2l (x_k _ _ (ic_V (S := S_X10_digestDeed) sd_X10_was ky_X10_was kv_X10_was (by decide) 415 864 none) (x_a1 (x_aln 0) (x_a1 (x_iln 3) (x_a1 (x_ic 1 1 (by decide)) x_a0))))))) (t_sq (t_ls 4 (x_ladd (x_lmul (x_ldc2 335 31 842) (x_ll 4)) (x_i2l (x_k _ _ (ic_V (S := S_X10_digestDeed) sd_X10_ask ky_X10_ask kv_X10_ask (by decide) 418 865 none) (x_a1 (x_aln 0) (x_a1 (x_iln 3) x_a0)))))) (t_sq (t_ls 4 (x_ladd (x_lmul (x_ldc2 335 31 842) (x_ll 4)) (x_k _ _ (ic_V (S := S_X10_digestDeed) sd_X10_risk ky_X10_risk kv_X10_risk (by decide) 421 866 none) (x_a1 (x_aln 0) (x_a1 (x_ic 5 5 (by decide)) (x_a1 (x_iln 3) (x_a1 (x_bp 15 15 (by decide)) (x_a1 (x_ic 0 0 (by decide)) x_a0)))))))) (t_rt .lreturn (x_ladd (x_lmul (x_ldc2 335 31 842) (x_ll 4)) (x_k _ _ (ic_V (S := S_X10_digestDeed) sd_X10_risk ky_X10_risk kv_X10_risk (by decide) 421 866 none) (x_a1 (x_aln 0) (x_a1 (x_ic 5 5 (by decide)) (x_a1 (x_iln 3) (x_a1 (x_bp 15 15 (by decide)) (x_a1 (x_ic 1 1 (by decide)) x_a0)))))))))))))))))
noncomputable def g_X10_digestDeed : am_T := (s_sq (s_as (o_sl 6 4) (e_ll 1)) (s_sq (s_as (o_sl 6 4) (e_b o_ladd (e_b o_lmul (e_j 31) (e_ll 4)) (e_i2l (e_k (am_cl ShX 10 2 f_X10_deed) (a_1 (e_lr 0) (a_1 (e_li 3) (a_1 (e_i 0) a_0))))))) (s_sq (s_as (o_sl 6 4) (e_b o_ladd (e_b o_lmul (e_j 31) (e_ll 4)) (e_i2l (e_k (am_cl ShX 10 2 f_X10_deed) (a_1 (e_lr 0) (a_1 (e_li 3) (a_1 (e_i 1) a_0))))))) (s_sq (s_as (o_sl 6 4) (e_b o_ladd (e_b o_lmul (e_j 31) (e_ll 4)) (e_i2l (e_k (am_cl ShX 10 2 f_X10_save) (a_1 (e_lr 0) (a_1 (e_li 3) (a_1 (e_i (-1)) a_0))))))) (s_sq (s_as (o_sl 6 4) (e_b o_ladd (e_b o_lmul (e_j 31) (e_ll 4)) (e_i2l (e_k (am_cl ShX 10 2 f_X10_save) (a_1 (e_lr 0) (a_1 (e_li 3) (a_1 (e_i 0) a_0))))))) (s_sq (s_as (o_sl 6 4) (e_b o_ladd (e_b o_lmul (e_j 31) (e_ll 4)) (e_i2l (e_k (am_cl ShX 10 2 f_X10_was) (a_1 (e_lr 0) (a_1 (e_li 3) (a_1 (e_i 0) a_0))))))) (s_sq (s_as (o_sl 6 4) (e_b o_ladd (e_b o_lmul (e_j 31) (e_ll 4)) (e_i2l (e_k (am_cl ShX 10 2 f_X10_was) (a_1 (e_lr 0) (a_1 (e_li 3) (a_1 (e_i 1) a_0))))))) (s_sq (s_as (o_sl 6 4) (e_b o_ladd (e_b o_lmul (e_j 31) (e_ll 4)) (e_i2l (e_k (am_cl ShX 10 1 f_X10_ask) (a_1 (e_lr 0) (a_1 (e_li 3) a_0)))))) (s_sq (s_as (o_sl 6 4) (e_b o_ladd (e_b o_lmul (e_j 31) (e_ll 4)) (e_k (am_cl ShX 10 4 f_X10_risk) (a_1 (e_lr 0) (a_1 (e_i 5) (a_1 (e_li 3) (a_1 (e_i 15) (a_1 (e_i 0) a_0)))))))) (s_rt .lreturn (e_b o_ladd (e_b o_lmul (e_j 31) (e_ll 4)) (e_k (am_cl ShX 10 4 f_X10_risk) (a_1 (e_lr 0) (a_1 (e_i 5) (a_1 (e_li 3) (a_1 (e_i 15) (a_1 (e_i 1) a_0)))))))))))))))))
noncomputable def f_X10_digestDeed : am_F := am_fn 6 (some .long) g_X10_digestDeed
set_option maxRecDepth 100000 in
theorem sd_X10_digestDeed : am_Sd ShX yX10_digestDeed cX10_digestDeed 6 (some .long) 7 f_X10_digestDeed := am_meth (y := yX10_digestDeed) (ret := (some .long)) x_X10_digestDeed (by decide) (by decide +kernel) (by decide +kernel)
abbrev S_X10_digestHour : am_S := (ShX, cX10_digestHour, 7, 7, RX10)
set_option maxRecDepth 100000 in
noncomputable def x_X10_digestHour : am_SP S_X10_digestHour := (t_sq (t_ls 5 (x_lln 1)) (t_sq (t_ls 5 (x_ladd (x_lmul (x_ldc2 335 31 842) (x_ll 5)) (x_i2l (x_k _ _ (ic_V (S := S_X10_digestHour) sd_X10_state ky_X10_state kv_X10_state (by decide) 401 855 none) (x_a1 (x_aln 0) (x_a1 (x_il 4) (x_a1 (x_iln 3) (x_a1 (x_ic 0 0 (by decide)) x_a0)))))))) (t_sq (t_ls 5 (x_ladd (x_lmul (x_ldc2 335 31 842) (x_ll 5)) (x_i2l (x_k _ _ (ic_V (S := S_X10_digestHour) sd_X10_state ky_X10_state kv_X10_state (by decide) 401 855 none) (x_a1 (x_aln 0) (x_a1 (x_il 4) (x_a1 (x_iln 3) (x_a1 (x_ic 1 1 (by decide)) x_a0)))))))) (t_sq (t_ls 5 (x_ladd (x_lmul (x_ldc2 335 31 842) (x_ll 5)) (x_i2l (x_k _ _ (ic_V (S := S_X10_digestHour) sd_X10_says ky_X10_says kv_X10_says (by decide) 404 856 none) (x_a1 (x_aln 0) (x_a1 (x_il 4) (x_a1 (x_iln 3) (x_a1 (x_ic 0 0 (by decide)) x_a0)))))))) (t_sq (t_ls 5 (x_ladd (x_lmul (x_ldc2 335 31 842) (x_ll 5)) (x_i2l (x_k _ _ (ic_V (S := S_X10_digestHour) sd_X10_fill ky_X10_fill kv_X10_fill (by decide) 407 857 none) (x_a1 (x_aln 0) (x_a1 (x_il 4) (x_a1 (x_iln 3) (x_a1 (x_ic (-1) (-1) (by decide)) x_a0)))))))) (t_rt .lreturn (x_ladd (x_lmul (x_ldc2 335 31 842) (x_ll 5)) (x_i2l (x_k _ _ (ic_V (S := S_X10_digestHour) sd_X10_fill ky_X10_fill kv_X10_fill (by decide) 407 857 none) (x_a1 (x_aln 0) (x_a1 (x_il 4) (x_a1 (x_iln 3) (x_a1 (x_ic 0 0 (by decide)) x_a0)))))))))))))
noncomputable def g_X10_digestHour : am_T := (s_sq (s_as (o_sl 7 5) (e_ll 1)) (s_sq (s_as (o_sl 7 5) (e_b o_ladd (e_b o_lmul (e_j 31) (e_ll 5)) (e_i2l (e_k (am_cl ShX 10 3 f_X10_state) (a_1 (e_lr 0) (a_1 (e_li 4) (a_1 (e_li 3) (a_1 (e_i 0) a_0)))))))) (s_sq (s_as (o_sl 7 5) (e_b o_ladd (e_b o_lmul (e_j 31) (e_ll 5)) (e_i2l (e_k (am_cl ShX 10 3 f_X10_state) (a_1 (e_lr 0) (a_1 (e_li 4) (a_1 (e_li 3) (a_1 (e_i 1) a_0)))))))) (s_sq (s_as (o_sl 7 5) (e_b o_ladd (e_b o_lmul (e_j 31) (e_ll 5)) (e_i2l (e_k (am_cl ShX 10 3 f_X10_says) (a_1 (e_lr 0) (a_1 (e_li 4) (a_1 (e_li 3) (a_1 (e_i 0) a_0)))))))) (s_sq (s_as (o_sl 7 5) (e_b o_ladd (e_b o_lmul (e_j 31) (e_ll 5)) (e_i2l (e_k (am_cl ShX 10 3 f_X10_fill) (a_1 (e_lr 0) (a_1 (e_li 4) (a_1 (e_li 3) (a_1 (e_i (-1)) a_0)))))))) (s_rt .lreturn (e_b o_ladd (e_b o_lmul (e_j 31) (e_ll 5)) (e_i2l (e_k (am_cl ShX 10 3 f_X10_fill) (a_1 (e_lr 0) (a_1 (e_li 4) (a_1 (e_li 3) (a_1 (e_i 0) a_0)))))))))))))
noncomputable def f_X10_digestHour : am_F := am_fn 7 (some .long) g_X10_digestHour
set_option maxRecDepth 100000 in
theorem sd_X10_digestHour : am_Sd ShX yX10_digestHour cX10_digestHour 7 (some .long) 7 f_X10_digestHour := am_meth (y := yX10_digestHour) (ret := (some .long)) x_X10_digestHour (by decide) (by decide +kernel) (by decide +kernel)
abbrev S_X10_digestTold : am_S := (ShX, cX10_digestTold, 7, 7, RX10)
set_option maxRecDepth 100000 in
noncomputable def x_X10_digestTold : am_SP S_X10_digestTold := (t_sq (t_ls 4 (x_lln 1)) (t_sq (t_bk (t_sq (t_is 6 (x_ic 0 0 (by decide))) (t_lp (c_2 .lt (x_il 6) (x_bp 9 9 (by decide))) (t_sq (t_ls 4 (x_ladd (x_lmul (x_ldc2 335 31 842) (x_ll 4)) (x_i2l (x_k _ _ (ic_V (S := S_X10_digestTold) sd_X10_strand ky_X10_strand kv_X10_strand (by decide) 398 850 none) (x_a1 (x_aln 0) (x_a1 (x_iln 3) (x_a1 (x_il 6) x_a0))))))) (t_inc 6 1 1 (by decide)))))) (t_rt .lreturn (x_ll 4))))
noncomputable def g_X10_digestTold : am_T := (s_sq (s_as (o_sl 7 4) (e_ll 1)) (s_sq (s_bk (s_sq (s_as (o_si 7 6) (e_i 0)) (s_lp (b_2 .lt (e_li 6) (e_i 9)) (s_sq (s_as (o_sl 7 4) (e_b o_ladd (e_b o_lmul (e_j 31) (e_ll 4)) (e_i2l (e_k (am_cl ShX 10 2 f_X10_strand) (a_1 (e_lr 0) (a_1 (e_li 3) (a_1 (e_li 6) a_0))))))) (s_inc 7 6 1))))) (s_rt .lreturn (e_ll 4))))
noncomputable def f_X10_digestTold : am_F := am_fn 7 (some .long) g_X10_digestTold
set_option maxRecDepth 100000 in
theorem sd_X10_digestTold : am_Sd ShX yX10_digestTold cX10_digestTold 7 (some .long) 7 f_X10_digestTold := am_meth (y := yX10_digestTold) (ret := (some .long)) x_X10_digestTold (by decide) (by decide +kernel) (by decide +kernel)
abbrev S_X10_digestWhole : am_S := (ShX, cX10_digestWhole, 6, 14, RX10)
set_option maxRecDepth 100000 in
noncomputable def x_X10_digestWhole : am_SP S_X10_digestWhole := (t_sq (t_lsn 3 (x_lln 1)) (t_sq (t_lsn 3 (x_ladd (x_lmul (x_ldc2 335 31 842) (x_lln 3)) (x_i2l (x_k _ _ (ic_V (S := S_X10_digestWhole) sd_X10_voids ky_X10_voids kv_X10_voids (by decide) 425 873 none) (x_a1 (x_aln 0) (x_a1 (x_ic 5 5 (by decide)) x_a0)))))) (t_sq (t_lsn 3 (x_ladd (x_lmul (x_ldc2 335 31 842) (x_lln 3)) (x_i2l (x_k _ _ (ic_V (S := S_X10_digestWhole) sd_X10_voids ky_X10_voids kv_X10_voids (by decide) 425 873 none) (x_a1 (x_aln 0) (x_a1 (x_bp 19 19 (by decide)) x_a0)))))) (t_sq (t_lsn 3 (x_ladd (x_lmul (x_ldc2 335 31 842) (x_lln 3)) (x_i2l (x_k _ _ (ic_V (S := S_X10_digestWhole) sd_X10_forged ky_X10_forged kv_X10_forged (by decide) 428 874 none) (x_a1 (x_aln 0) x_a0))))) (t_sq (t_lsn 3 (x_ladd (x_lmul (x_ldc2 335 31 842) (x_lln 3)) (x_i2l (x_k _ _ (ic_V (S := S_X10_digestWhole) sd_X10_tangled ky_X10_tangled kv_X10_tangled (by decide) 431 875 none) (x_a1 (x_aln 0) (x_a1 (x_ic 0 0 (by decide)) x_a0)))))) (t_sq (t_lsn 3 (x_ladd (x_lmul (x_ldc2 335 31 842) (x_lln 3)) (x_i2l (x_k _ _ (ic_V (S := S_X10_digestWhole) sd_X10_tangled ky_X10_tangled kv_X10_tangled (by decide) 431 875 none) (x_a1 (x_aln 0) (x_a1 (x_ic 1 1 (by decide)) x_a0)))))) (t_sq (t_bk (t_sq (t_is 5 (x_ic 0 0 (by decide))) (t_lp (c_2 .le (x_il 5) (x_ic 3 3 (by decide))) (t_sq (t_lsn 3 (x_ladd (x_lmul (x_ldc2 335 31 842) (x_lln 3)) (x_i2l (x_k _ _ (ic_V (S := S_X10_digestWhole) sd_X10_tour ky_X10_tour kv_X10_tour (by decide) 434 876 none) (x_a1 (x_aln 0) (x_a1 (x_il 5) x_a0)))))) (t_inc 5 1 1 (by decide)))))) (t_sq (t_bk (t_sq (t_is 5 (x_ic 0 0 (by decide))) (t_lp (c_2 .lt (x_il 5) (x_ic 3 3 (by decide))) (t_sq (t_sq (t_lsn 3 (x_ladd (x_lmul (x_ldc2 335 31 842) (x_lln 3)) (x_i2l (x_k _ _ (ic_V (S := S_X10_digestWhole) sd_X10_hang ky_X10_hang kv_X10_hang (by decide) 437 877 none) (x_a1 (x_aln 0) (x_a1 (x_il 5) (x_a1 (x_ic 0 0 (by decide)) x_a0))))))) (t_lsn 3 (x_ladd (x_lmul (x_ldc2 335 31 842) (x_lln 3)) (x_i2l (x_k _ _ (ic_V (S := S_X10_digestWhole) sd_X10_hang ky_X10_hang kv_X10_hang (by decide) 437 877 none) (x_a1 (x_aln 0) (x_a1 (x_il 5) (x_a1 (x_ic 1 1 (by decide)) x_a0)))))))) (t_inc 5 1 1 (by decide)))))) (t_sq (t_lsn 3 (x_ladd (x_lmul (x_ldc2 335 31 842) (x_lln 3)) (x_i2l (x_k _ _ (ic_V (S := S_X10_digestWhole) sd_X10_never ky_X10_never kv_X10_never (by decide) 440 878 none) (x_a1 (x_aln 0) x_a0))))) (t_sq (t_lsn 3 (x_ladd (x_lmul (x_ldc2 335 31 842) (x_lln 3)) (x_i2l (x_k _ _ (ic_V (S := S_X10_digestWhole) sd_X10_century ky_X10_century kv_X10_century (by decide) 443 879 none) (x_a1 (x_aln 0) (x_a1 (x_bp 7 7 (by decide)) (x_a1 (x_bp 6 6 (by decide)) (x_a1 (x_ic 0 0 (by decide)) x_a0)))))))) (t_rt .lreturn (x_ladd (x_lmul (x_ldc2 335 31 842) (x_lln 3)) (x_i2l (x_k _ _ (ic_V (S := S_X10_digestWhole) sd_X10_century ky_X10_century kv_X10_century (by decide) 443 879 none) (x_a1 (x_aln 0) (x_a1 (x_bp 7 7 (by decide)) (x_a1 (x_bp 6 6 (by decide)) (x_a1 (x_ic 1 1 (by decide)) x_a0))))))))))))))))))
noncomputable def g_X10_digestWhole : am_T := (s_sq (s_as (o_sl 6 3) (e_ll 1)) (s_sq (s_as (o_sl 6 3) (e_b o_ladd (e_b o_lmul (e_j 31) (e_ll 3)) (e_i2l (e_k (am_cl ShX 10 1 f_X10_voids) (a_1 (e_lr 0) (a_1 (e_i 5) a_0)))))) (s_sq (s_as (o_sl 6 3) (e_b o_ladd (e_b o_lmul (e_j 31) (e_ll 3)) (e_i2l (e_k (am_cl ShX 10 1 f_X10_voids) (a_1 (e_lr 0) (a_1 (e_i 19) a_0)))))) (s_sq (s_as (o_sl 6 3) (e_b o_ladd (e_b o_lmul (e_j 31) (e_ll 3)) (e_i2l (e_k (am_cl ShX 10 0 f_X10_forged) (a_1 (e_lr 0) a_0))))) (s_sq (s_as (o_sl 6 3) (e_b o_ladd (e_b o_lmul (e_j 31) (e_ll 3)) (e_i2l (e_k (am_cl ShX 10 1 f_X10_tangled) (a_1 (e_lr 0) (a_1 (e_i 0) a_0)))))) (s_sq (s_as (o_sl 6 3) (e_b o_ladd (e_b o_lmul (e_j 31) (e_ll 3)) (e_i2l (e_k (am_cl ShX 10 1 f_X10_tangled) (a_1 (e_lr 0) (a_1 (e_i 1) a_0)))))) (s_sq (s_bk (s_sq (s_as (o_si 6 5) (e_i 0)) (s_lp (b_2 .le (e_li 5) (e_i 3)) (s_sq (s_as (o_sl 6 3) (e_b o_ladd (e_b o_lmul (e_j 31) (e_ll 3)) (e_i2l (e_k (am_cl ShX 10 1 f_X10_tour) (a_1 (e_lr 0) (a_1 (e_li 5) a_0)))))) (s_inc 6 5 1))))) (s_sq (s_bk (s_sq (s_as (o_si 6 5) (e_i 0)) (s_lp (b_2 .lt (e_li 5) (e_i 3)) (s_sq (s_sq (s_as (o_sl 6 3) (e_b o_ladd (e_b o_lmul (e_j 31) (e_ll 3)) (e_i2l (e_k (am_cl ShX 10 2 f_X10_hang) (a_1 (e_lr 0) (a_1 (e_li 5) (a_1 (e_i 0) a_0))))))) (s_as (o_sl 6 3) (e_b o_ladd (e_b o_lmul (e_j 31) (e_ll 3)) (e_i2l (e_k (am_cl ShX 10 2 f_X10_hang) (a_1 (e_lr 0) (a_1 (e_li 5) (a_1 (e_i 1) a_0)))))))) (s_inc 6 5 1))))) (s_sq (s_as (o_sl 6 3) (e_b o_ladd (e_b o_lmul (e_j 31) (e_ll 3)) (e_i2l (e_k (am_cl ShX 10 0 f_X10_never) (a_1 (e_lr 0) a_0))))) (s_sq (s_as (o_sl 6 3) (e_b o_ladd (e_b o_lmul (e_j 31) (e_ll 3)) (e_i2l (e_k (am_cl ShX 10 3 f_X10_century) (a_1 (e_lr 0) (a_1 (e_i 7) (a_1 (e_i 6) (a_1 (e_i 0) a_0)))))))) (s_rt .lreturn (e_b o_ladd (e_b o_lmul (e_j 31) (e_ll 3)) (e_i2l (e_k (am_cl ShX 10 3 f_X10_century) (a_1 (e_lr 0) (a_1 (e_i 7) (a_1 (e_i 6) (a_1 (e_i 1) a_0))))))))))))))))))
noncomputable def f_X10_digestWhole : am_F := am_fn 6 (some .long) g_X10_digestWhole
set_option maxRecDepth 100000 in
theorem sd_X10_digestWhole : am_Sd ShX yX10_digestWhole cX10_digestWhole 6 (some .long) 14 f_X10_digestWhole := am_meth (y := yX10_digestWhole) (ret := (some .long)) x_X10_digestWhole (by decide) (by decide +kernel) (by decide +kernel)
abbrev S_X10_digest : am_S := (ShX, cX10_digest, 5, 15, RX10)
set_option maxRecDepth 100000 in
noncomputable def x_X10_digest : am_SP S_X10_digest := (t_sq (t_lsn 1 (x_ldc2 333 17 841)) (t_sq (t_bk (t_sq (t_isn 3 (x_ic 0 0 (by decide))) (t_lp (c_2 .le (x_iln 3) (x_bp 7 7 (by decide))) (t_sq (t_lsn 1 (x_ladd (x_lmul (x_ldc2 335 31 842) (x_lln 1)) (x_i2l (x_k _ _ (ic_V (S := S_X10_digest) sd_X10_count ky_X10_count kv_X10_count (by decide) 337 843 none) (x_a1 (x_aln 0) (x_a1 (x_iln 3) x_a0)))))) (t_inc 3 1 1 (by decide)))))) (t_sq (t_bk (t_sq (t_isn 3 (x_ic 0 0 (by decide))) (t_lp (c_2 .lt (x_iln 3) (x_ic 3 3 (by decide))) (t_sq (t_lsn 1 (x_ladd (x_lmul (x_ldc2 335 31 842) (x_lln 1)) (x_i2l (x_k _ _ (ic_V (S := S_X10_digest) sd_X10_fault ky_X10_fault kv_X10_fault (by decide) 340 844 none) (x_a1 (x_aln 0) (x_a1 (x_iln 3) x_a0)))))) (t_inc 3 1 1 (by decide)))))) (t_sq (t_bk (t_sq (t_isn 3 (x_ic 0 0 (by decide))) (t_lp (c_2 .lt (x_iln 3) (x_bp 20 20 (by decide))) (t_sq (t_lsn 1 (x_ladd (x_lmul (x_ldc2 335 31 842) (x_lln 1)) (x_i2l (x_k _ _ (ic_V (S := S_X10_digest) sd_X10_tide ky_X10_tide kv_X10_tide (by decide) 343 845 none) (x_a1 (x_aln 0) (x_a1 (x_iln 3) x_a0)))))) (t_inc 3 1 1 (by decide)))))) (t_sq (t_isn 3 (x_k _ _ (ic_V (S := S_X10_digest) sd_X10_count ky_X10_count kv_X10_count (by decide) 337 843 none) (x_a1 (x_aln 0) (x_a1 (x_ic 0 0 (by decide)) x_a0)))) (t_sq (t_bk (t_sq (t_is 4 (x_ic 0 0 (by decide))) (t_lp (c_2 .lt (x_il 4) (x_iln 3)) (t_sq (t_sq (t_lsn 1 (x_k _ _ (ic_V (S := S_X10_digest) sd_X10_digestTold ky_X10_digestTold kv_X10_digestTold (by decide) 346 846 none) (x_a1 (x_aln 0) (x_a1 (x_lln 1) (x_a1 (x_il 4) x_a0))))) (t_sq (t_lsn 1 (x_k _ _ (ic_V (S := S_X10_digest) sd_X10_digestHour ky_X10_digestHour kv_X10_digestHour (by decide) 350 851 none) (x_a1 (x_aln 0) (x_a1 (x_lln 1) (x_a1 (x_il 4) (x_a1 (x_ic 0 0 (by decide)) x_a0)))))) (t_sq (t_lsn 1 (x_k _ _ (ic_V (S := S_X10_digest) sd_X10_digestHour ky_X10_digestHour kv_X10_digestHour (by decide) 350 851 none) (x_a1 (x_aln 0) (x_a1 (x_lln 1) (x_a1 (x_il 4) (x_a1 (x_bp 6 6 (by decide)) x_a0)))))) (t_sq (t_lsn 1 (x_k _ _ (ic_V (S := S_X10_digest) sd_X10_digestHour ky_X10_digestHour kv_X10_digestHour (by decide) 350 851 none) (x_a1 (x_aln 0) (x_a1 (x_lln 1) (x_a1 (x_il 4) (x_a1 (x_bp 12 12 (by decide)) x_a0)))))) (t_sq (t_lsn 1 (x_k _ _ (ic_V (S := S_X10_digest) sd_X10_digestHour ky_X10_digestHour kv_X10_digestHour (by decide) 350 851 none) (x_a1 (x_aln 0) (x_a1 (x_lln 1) (x_a1 (x_il 4) (x_a1 (x_bp 19 19 (by decide)) x_a0)))))) (t_lsn 1 (x_k _ _ (ic_V (S := S_X10_digest) sd_X10_digestDeed ky_X10_digestDeed kv_X10_digestDeed (by decide) 354 858 none) (x_a1 (x_aln 0) (x_a1 (x_lln 1) (x_a1 (x_il 4) x_a0)))))))))) (t_inc 4 1 1 (by decide)))))) (t_sq (t_bk (t_sq (t_is 4 (x_ic 0 0 (by decide))) (t_lp (c_2 .lt (x_il 4) (x_bp 8 8 (by decide))) (t_sq (t_sq (t_lsn 1 (x_ladd (x_lmul (x_ldc2 335 31 842) (x_lln 1)) (x_i2l (x_k _ _ (ic_V (S := S_X10_digest) sd_X10_route ky_X10_route kv_X10_route (by decide) 357 867 none) (x_a1 (x_aln 0) (x_a1 (x_il 4) x_a0)))))) (t_lsn 1 (x_ladd (x_lmul (x_ldc2 335 31 842) (x_lln 1)) (x_i2l (x_k _ _ (ic_V (S := S_X10_digest) sd_X10_reads ky_X10_reads kv_X10_reads (by decide) 360 868 none) (x_a1 (x_aln 0) (x_a1 (x_il 4) x_a0))))))) (t_inc 4 1 1 (by decide)))))) (t_rt .lreturn (x_k _ _ (ic_V (S := S_X10_digest) sd_X10_digestWhole ky_X10_digestWhole kv_X10_digestWhole (by decide) 363 869 none) (x_a1 (x_aln 0) (x_a1 (x_lln 1) x_a0)))))))))))
noncomputable def g_X10_digest : am_T := (s_sq (s_as (o_sl 5 1) (e_j 17)) (s_sq (s_bk (s_sq (s_as (o_si 5 3) (e_i 0)) (s_lp (b_2 .le (e_li 3) (e_i 7)) (s_sq (s_as (o_sl 5 1) (e_b o_ladd (e_b o_lmul (e_j 31) (e_ll 1)) (e_i2l (e_k (am_cl ShX 10 1 f_X10_count) (a_1 (e_lr 0) (a_1 (e_li 3) a_0)))))) (s_inc 5 3 1))))) (s_sq (s_bk (s_sq (s_as (o_si 5 3) (e_i 0)) (s_lp (b_2 .lt (e_li 3) (e_i 3)) (s_sq (s_as (o_sl 5 1) (e_b o_ladd (e_b o_lmul (e_j 31) (e_ll 1)) (e_i2l (e_k (am_cl ShX 10 1 f_X10_fault) (a_1 (e_lr 0) (a_1 (e_li 3) a_0)))))) (s_inc 5 3 1))))) (s_sq (s_bk (s_sq (s_as (o_si 5 3) (e_i 0)) (s_lp (b_2 .lt (e_li 3) (e_i 20)) (s_sq (s_as (o_sl 5 1) (e_b o_ladd (e_b o_lmul (e_j 31) (e_ll 1)) (e_i2l (e_k (am_cl ShX 10 1 f_X10_tide) (a_1 (e_lr 0) (a_1 (e_li 3) a_0)))))) (s_inc 5 3 1))))) (s_sq (s_as (o_si 5 3) (e_k (am_cl ShX 10 1 f_X10_count) (a_1 (e_lr 0) (a_1 (e_i 0) a_0)))) (s_sq (s_bk (s_sq (s_as (o_si 5 4) (e_i 0)) (s_lp (b_2 .lt (e_li 4) (e_li 3)) (s_sq (s_sq (s_as (o_sl 5 1) (e_k (am_cl ShX 10 2 f_X10_digestTold) (a_1 (e_lr 0) (a_1 (e_ll 1) (a_1 (e_li 4) a_0))))) (s_sq (s_as (o_sl 5 1) (e_k (am_cl ShX 10 3 f_X10_digestHour) (a_1 (e_lr 0) (a_1 (e_ll 1) (a_1 (e_li 4) (a_1 (e_i 0) a_0)))))) (s_sq (s_as (o_sl 5 1) (e_k (am_cl ShX 10 3 f_X10_digestHour) (a_1 (e_lr 0) (a_1 (e_ll 1) (a_1 (e_li 4) (a_1 (e_i 6) a_0)))))) (s_sq (s_as (o_sl 5 1) (e_k (am_cl ShX 10 3 f_X10_digestHour) (a_1 (e_lr 0) (a_1 (e_ll 1) (a_1 (e_li 4) (a_1 (e_i 12) a_0)))))) (s_sq (s_as (o_sl 5 1) (e_k (am_cl ShX 10 3 f_X10_digestHour) (a_1 (e_lr 0) (a_1 (e_ll 1) (a_1 (e_li 4) (a_1 (e_i 19) a_0)))))) (s_as (o_sl 5 1) (e_k (am_cl ShX 10 2 f_X10_digestDeed) (a_1 (e_lr 0) (a_1 (e_ll 1) (a_1 (e_li 4) a_0)))))))))) (s_inc 5 4 1))))) (s_sq (s_bk (s_sq (s_as (o_si 5 4) (e_i 0)) (s_lp (b_2 .lt (e_li 4) (e_i 8)) (s_sq (s_sq (s_as (o_sl 5 1) (e_b o_ladd (e_b o_lmul (e_j 31) (e_ll 1)) (e_i2l (e_k (am_cl ShX 10 1 f_X10_route) (a_1 (e_lr 0) (a_1 (e_li 4) a_0)))))) (s_as (o_sl 5 1) (e_b o_ladd (e_b o_lmul (e_j 31) (e_ll 1)) (e_i2l (e_k (am_cl ShX 10 1 f_X10_reads) (a_1 (e_lr 0) (a_1 (e_li 4) a_0))))))) (s_inc 5 4 1))))) (s_rt .lreturn (e_k (am_cl ShX 10 1 f_X10_digestWhole) (a_1 (e_lr 0) (a_1 (e_ll 1) a_0)))))))))))
noncomputable def f_X10_digest : am_F := am_fn 5 (some .long) g_X10_digest
set_option maxRecDepth 100000 in
theorem sd_X10_digest : am_Sd ShX yX10_digest cX10_digest 5 (some .long) 15 f_X10_digest := am_meth (y := yX10_digest) (ret := (some .long)) x_X10_digest (by decide) (by decide +kernel) (by decide +kernel)
end
section
/-! methods as forms, by program (gen.py, mkm.py): x_ the form, g_ and f_ the meaning, sd_ the contract -/
abbrev S_X11_in : am_S := (ShM, cX11_in, 6, 0, RX11)
set_option maxRecDepth 100000 in
noncomputable def x_X11_in : am_SP S_X11_in := (t_rt .ireturn (x_c (c_and (c_z .ge (x_lcmp (x_lln 0) (x_lln 2))) (c_z .le (x_lcmp (x_lln 0) (x_ll 4)))) (x_ic 1 1 (by decide)) (x_ic 0 0 (by decide))))
noncomputable def g_X11_in : am_T := (s_rt .ireturn (e_c (b_and (b_z .ge (e_b o_lcmp (e_ll 0) (e_ll 2))) (b_z .le (e_b o_lcmp (e_ll 0) (e_ll 4)))) (e_i 1) (e_i 0)))
noncomputable def f_X11_in : am_F := am_fn 6 (some .boolean) g_X11_in
set_option maxRecDepth 100000 in
theorem sd_X11_in : am_Sd ShM yX11_in cX11_in 6 (some .boolean) 0 f_X11_in := am_meth (y := yX11_in) (ret := (some .boolean)) x_X11_in (by decide) (by decide +kernel) (by decide +kernel)
abbrev S_X11_no : am_S := (ShM, cX11_no, 1, 0, RX11)
set_option maxRecDepth 100000 in
noncomputable def x_X11_no : am_SP S_X11_no := (t_rt .lreturn (x_lsub (x_ldc2 91 (-9223372036854775808) 1343) (x_i2l (x_iln 0))))
noncomputable def g_X11_no : am_T := (s_rt .lreturn (e_b o_lsub (e_j (-9223372036854775808)) (e_i2l (e_li 0))))
noncomputable def f_X11_no : am_F := am_fn 1 (some .long) g_X11_no
set_option maxRecDepth 100000 in
theorem sd_X11_no : am_Sd ShM yX11_no cX11_no 1 (some .long) 0 f_X11_no := am_meth (y := yX11_no) (ret := (some .long)) x_X11_no (by decide) (by decide +kernel) (by decide +kernel)
abbrev S_X11_isTwo : am_S := (ShM, cX11_isTwo, 1, 1, RX11)
set_option maxRecDepth 100000 in
noncomputable def x_X11_isTwo : am_SP S_X11_isTwo := (t_rt .ireturn (x_k _ _ (ic_S (S := S_X11_isTwo) sd_X11_in ky_X11_in ks_X11_in (by decide) 93 1003 none) (x_a1 (x_i2l (x_iln 0)) (x_a1 (x_lc 0 0 (by decide)) (x_a1 (x_lc 1 1 (by decide)) x_a0)))))
noncomputable def g_X11_isTwo : am_T := (s_rt .ireturn (e_k (am_cs 3 f_X11_in) (a_1 (e_i2l (e_li 0)) (a_1 (e_j 0) (a_1 (e_j 1) a_0)))))
noncomputable def f_X11_isTwo : am_F := am_fn 1 (some .boolean) g_X11_isTwo
set_option maxRecDepth 100000 in
theorem sd_X11_isTwo : am_Sd ShM yX11_isTwo cX11_isTwo 1 (some .boolean) 1 f_X11_isTwo := am_meth (y := yX11_isTwo) (ret := (some .boolean)) x_X11_isTwo (by decide) (by decide +kernel) (by decide +kernel)
abbrev S_X11_isIn : am_S := (ShM, cX11_isIn, 2, 0, RX11)
set_option maxRecDepth 100000 in
noncomputable def x_X11_isIn : am_SP S_X11_isIn := (t_rt .ireturn (x_c (c_2 .eq (x_iand (x_ishr (x_iln 0) (x_iln 1)) (x_ic 1 1 (by decide))) (x_ic 1 1 (by decide))) (x_ic 1 1 (by decide)) (x_ic 0 0 (by decide))))
noncomputable def g_X11_isIn : am_T := (s_rt .ireturn (e_c (b_2 .eq (e_b o_iand (e_b o_ishr (e_li 0) (e_li 1)) (e_i 1)) (e_i 1)) (e_i 1) (e_i 0)))
noncomputable def f_X11_isIn : am_F := am_fn 2 (some .boolean) g_X11_isIn
set_option maxRecDepth 100000 in
theorem sd_X11_isIn : am_Sd ShM yX11_isIn cX11_isIn 2 (some .boolean) 0 f_X11_isIn := am_meth (y := yX11_isIn) (ret := (some .boolean)) x_X11_isIn (by decide) (by decide +kernel) (by decide +kernel)
abbrev S_X11_ones : am_S := (ShM, cX11_ones, 3, 0, RX11)
set_option maxRecDepth 100000 in
noncomputable def x_X11_ones : am_SP S_X11_ones := (t_sq (t_isn 1 (x_ic 0 0 (by decide))) (t_sq (t_bk (t_sq (t_isn 2 (x_iln 0)) (t_lp (c_z .ne (x_iln 2)) (t_sq (t_inc 1 1 1 (by decide)) (t_isn 2 (x_iand (x_iln 2) (x_isub (x_iln 2) (x_ic 1 1 (by decide))))))))) (t_rt .ireturn (x_iln 1))))
noncomputable def g_X11_ones : am_T := (s_sq (s_as (o_si 3 1) (e_i 0)) (s_sq (s_bk (s_sq (s_as (o_si 3 2) (e_li 0)) (s_lp (b_z .ne (e_li 2)) (s_sq (s_inc 3 1 1) (s_as (o_si 3 2) (e_b o_iand (e_li 2) (e_b o_isub (e_li 2) (e_i 1)))))))) (s_rt .ireturn (e_li 1))))
noncomputable def f_X11_ones : am_F := am_fn 3 (some .int) g_X11_ones
set_option maxRecDepth 100000 in
theorem sd_X11_ones : am_Sd ShM yX11_ones cX11_ones 3 (some .int) 0 f_X11_ones := am_meth (y := yX11_ones) (ret := (some .int)) x_X11_ones (by decide) (by decide +kernel) (by decide +kernel)
abbrev S_X11_lesser : am_S := (ShM, cX11_lesser, 2, 0, RX11)
set_option maxRecDepth 100000 in
noncomputable def x_X11_lesser : am_SP S_X11_lesser := (t_rt .ireturn (x_c (c_2 .lt (x_iln 0) (x_iln 1)) (x_iln 0) (x_iln 1)))
noncomputable def g_X11_lesser : am_T := (s_rt .ireturn (e_c (b_2 .lt (e_li 0) (e_li 1)) (e_li 0) (e_li 1)))
noncomputable def f_X11_lesser : am_F := am_fn 2 (some .int) g_X11_lesser
set_option maxRecDepth 100000 in
theorem sd_X11_lesser : am_Sd ShM yX11_lesser cX11_lesser 2 (some .int) 0 f_X11_lesser := am_meth (y := yX11_lesser) (ret := (some .int)) x_X11_lesser (by decide) (by decide +kernel) (by decide +kernel)
abbrev S_X11_greater : am_S := (ShM, cX11_greater, 2, 0, RX11)
set_option maxRecDepth 100000 in
noncomputable def x_X11_greater : am_SP S_X11_greater := (t_rt .ireturn (x_c (c_2 .gt (x_iln 0) (x_iln 1)) (x_iln 0) (x_iln 1)))
noncomputable def g_X11_greater : am_T := (s_rt .ireturn (e_c (b_2 .gt (e_li 0) (e_li 1)) (e_li 0) (e_li 1)))
noncomputable def f_X11_greater : am_F := am_fn 2 (some .int) g_X11_greater
set_option maxRecDepth 100000 in
theorem sd_X11_greater : am_Sd ShM yX11_greater cX11_greater 2 (some .int) 0 f_X11_greater := am_meth (y := yX11_greater) (ret := (some .int)) x_X11_greater (by decide) (by decide +kernel) (by decide +kernel)
abbrev S_X11_part : am_S := (ShM, cX11_part, 11, 0, RX11)
set_option maxRecDepth 100000 in
noncomputable def x_X11_part : am_SP S_X11_part := (t_sq (t_ls 5 (x_lln 0)) (t_sq (t_ls 7 (x_lln 2)) (t_sq (t_lp (c_z .ne (x_lcmp (x_ll 7) (x_lc 0 0 (by decide)))) (t_bk (t_sq (t_ls 9 (x_lrem (x_ll 5) (x_ll 7))) (t_sq (t_ls 5 (x_ll 7)) (t_ls 7 (x_ll 9)))))) (t_rt .lreturn (x_ldiv (x_c (c_z .eq (x_il 4)) (x_lln 0) (x_lln 2)) (x_ll 5))))))
noncomputable def g_X11_part : am_T := (s_sq (s_as (o_sl 11 5) (e_ll 0)) (s_sq (s_as (o_sl 11 7) (e_ll 2)) (s_sq (s_lp (b_z .ne (e_b o_lcmp (e_ll 7) (e_j 0))) (s_bk (s_sq (s_as (o_sl 11 9) (e_b o_lrem (e_ll 5) (e_ll 7))) (s_sq (s_as (o_sl 11 5) (e_ll 7)) (s_as (o_sl 11 7) (e_ll 9)))))) (s_rt .lreturn (e_b o_ldiv (e_c (b_z .eq (e_li 4)) (e_ll 0) (e_ll 2)) (e_ll 5))))))
noncomputable def f_X11_part : am_F := am_fn 11 (some .long) g_X11_part
set_option maxRecDepth 100000 in
theorem sd_X11_part : am_Sd ShM yX11_part cX11_part 11 (some .long) 0 f_X11_part := am_meth (y := yX11_part) (ret := (some .long)) x_X11_part (by decide) (by decide +kernel) (by decide +kernel)
abbrev S_X11_finds : am_S := (ShM, cX11_finds, 2, 0, RX11)
set_option maxRecDepth 100000 in
noncomputable def x_X11_finds : am_SP S_X11_finds := (t_sq (t_pf 97 11 4 890 false kp_11_4 (x_aln 0) (x_iln 1)) (t_rt .ireturn (x_isub (x_bp (-10) (-10) (by decide)) (x_iln 1))))
noncomputable def g_X11_finds : am_T := (s_sq (s_pf ShM 11 4 false (e_lr 0) (e_li 1)) (s_rt .ireturn (e_b o_isub (e_i (-10)) (e_li 1))))
noncomputable def f_X11_finds : am_F := am_fn 2 (some .int) g_X11_finds
set_option maxRecDepth 100000 in
theorem sd_X11_finds : am_Sd ShM yX11_finds cX11_finds 2 (some .int) 0 f_X11_finds := am_meth (y := yX11_finds) (ret := (some .int)) x_X11_finds (by decide) (by decide +kernel) (by decide +kernel)
abbrev S_X11_isSheet : am_S := (ShM, cX11_isSheet, 1, 1, RX11)
set_option maxRecDepth 100000 in
noncomputable def x_X11_isSheet : am_SP S_X11_isSheet := (t_rt .ireturn (x_k _ _ (ic_S (S := S_X11_isSheet) sd_X11_in ky_X11_in ks_X11_in (by decide) 93 1003 none) (x_a1 (x_i2l (x_iln 0)) (x_a1 (x_lc 0 0 (by decide)) (x_a1 (x_ldc2 101 3 1002) x_a0)))))
noncomputable def g_X11_isSheet : am_T := (s_rt .ireturn (e_k (am_cs 3 f_X11_in) (a_1 (e_i2l (e_li 0)) (a_1 (e_j 0) (a_1 (e_j 3) a_0)))))
noncomputable def f_X11_isSheet : am_F := am_fn 1 (some .boolean) g_X11_isSheet
set_option maxRecDepth 100000 in
theorem sd_X11_isSheet : am_Sd ShM yX11_isSheet cX11_isSheet 1 (some .boolean) 1 f_X11_isSheet := am_meth (y := yX11_isSheet) (ret := (some .boolean)) x_X11_isSheet (by decide) (by decide +kernel) (by decide +kernel)
abbrev S_X11_sheet : am_S := (ShM, cX11_sheet, 5, 2, RX11)
set_option maxRecDepth 100000 in
noncomputable def x_X11_sheet : am_SP S_X11_sheet := (t_sq (t_if1 (c_or (c_or (c_not (c_z .ne (x_k _ _ (ic_S (S := S_X11_sheet) sd_X11_isSheet ky_X11_isSheet ks_X11_isSheet (by decide) 103 999 none) (x_a1 (x_iln 1) x_a0)))) (c_not (c_z .ne (x_k _ _ (ic_S (S := S_X11_sheet) sd_X11_in ky_X11_in ks_X11_in (by decide) 93 1003 none) (x_a1 (x_i2l (x_iln 2)) (x_a1 (x_lc 0 0 (by decide)) (x_a1 (x_ldc2 107 2 1006) x_a0))))))) (c_2 .gt (x_iln 3) (x_bp 60 60 (by decide)))) (t_rt .ireturn (x_bp (-2) (-2) (by decide)))) (t_sq (t_if1 (c_z .lt (x_iln 3)) (t_rt .ireturn (x_k _ _ (ic_V (S := S_X11_sheet) sd_X11_finds ky_X11_finds kv_X11_finds (by decide) 109 1007 none) (x_a1 (x_aln 0) (x_a1 (x_ic 5 5 (by decide)) x_a0))))) (t_sq (t_ia (x_gf 7 11 0 886 kg_11_0 (x_aln 0)) (x_iln 1) (x_iln 2)) (t_sq (t_ia (x_gf 13 11 1 887 kg_11_1 (x_aln 0)) (x_iln 1) (x_iln 3)) (t_sq (t_bk (t_sq (t_is 4 (x_ic 0 0 (by decide))) (t_lp (c_2 .lt (x_il 4) (x_iln 3)) (t_sq (t_ia (x_gf 16 11 2 888 kg_11_2 (x_aln 0)) (x_iadd (x_imul (x_bp 60 60 (by decide)) (x_iln 1)) (x_il 4)) (x_ic 0 0 (by decide))) (t_inc 4 1 1 (by decide)))))) (t_rt .ireturn (x_iln 3)))))))
noncomputable def g_X11_sheet : am_T := (s_sq (s_if (b_or (b_or (b_not (b_z .ne (e_k (am_cs 1 f_X11_isSheet) (a_1 (e_li 1) a_0)))) (b_not (b_z .ne (e_k (am_cs 3 f_X11_in) (a_1 (e_i2l (e_li 2)) (a_1 (e_j 0) (a_1 (e_j 2) a_0))))))) (b_2 .gt (e_li 3) (e_i 60))) (s_rt .ireturn (e_i (-2))) s_0) (s_sq (s_if (b_z .lt (e_li 3)) (s_rt .ireturn (e_k (am_cl ShM 11 1 f_X11_finds) (a_1 (e_lr 0) (a_1 (e_i 5) a_0)))) s_0) (s_sq (s_ia ShM (e_gf ShM 11 0 (e_lr 0)) (e_li 1) (e_li 2)) (s_sq (s_ia ShM (e_gf ShM 11 1 (e_lr 0)) (e_li 1) (e_li 3)) (s_sq (s_bk (s_sq (s_as (o_si 5 4) (e_i 0)) (s_lp (b_2 .lt (e_li 4) (e_li 3)) (s_sq (s_ia ShM (e_gf ShM 11 2 (e_lr 0)) (e_b o_iadd (e_b o_imul (e_i 60) (e_li 1)) (e_li 4)) (e_i 0)) (s_inc 5 4 1))))) (s_rt .ireturn (e_li 3)))))))
noncomputable def f_X11_sheet : am_F := am_fn 5 (some .int) g_X11_sheet
set_option maxRecDepth 100000 in
theorem sd_X11_sheet : am_Sd ShM yX11_sheet cX11_sheet 5 (some .int) 2 f_X11_sheet := am_meth (y := yX11_sheet) (ret := (some .int)) x_X11_sheet (by decide) (by decide +kernel) (by decide +kernel)
abbrev S_X11_lose : am_S := (ShM, cX11_lose, 2, 2, RX11)
set_option maxRecDepth 100000 in
noncomputable def x_X11_lose : am_SP S_X11_lose := (t_sq (t_if1 (c_not (c_z .ne (x_k _ _ (ic_S (S := S_X11_lose) sd_X11_isSheet ky_X11_isSheet ks_X11_isSheet (by decide) 103 999 none) (x_a1 (x_iln 1) x_a0)))) (t_rt .ireturn (x_bp (-2) (-2) (by decide)))) (t_sq (t_if1 (c_z .lt (x_ald (x_gf 7 11 0 886 kg_11_0 (x_aln 0)) (x_iln 1))) (t_rt .ireturn (x_k _ _ (ic_V (S := S_X11_lose) sd_X11_finds ky_X11_finds kv_X11_finds (by decide) 109 1007 none) (x_a1 (x_aln 0) (x_a1 (x_ic 1 1 (by decide)) x_a0))))) (t_sq (t_ia (x_gf 7 11 0 886 kg_11_0 (x_aln 0)) (x_iln 1) (x_ic (-1) (-1) (by decide))) (t_rt .ireturn (x_ald (x_gf 13 11 1 887 kg_11_1 (x_aln 0)) (x_iln 1))))))
noncomputable def g_X11_lose : am_T := (s_sq (s_if (b_not (b_z .ne (e_k (am_cs 1 f_X11_isSheet) (a_1 (e_li 1) a_0)))) (s_rt .ireturn (e_i (-2))) s_0) (s_sq (s_if (b_z .lt (e_ald ShM (e_gf ShM 11 0 (e_lr 0)) (e_li 1))) (s_rt .ireturn (e_k (am_cl ShM 11 1 f_X11_finds) (a_1 (e_lr 0) (a_1 (e_i 1) a_0)))) s_0) (s_sq (s_ia ShM (e_gf ShM 11 0 (e_lr 0)) (e_li 1) (e_i (-1))) (s_rt .ireturn (e_ald ShM (e_gf ShM 11 1 (e_lr 0)) (e_li 1))))))
noncomputable def f_X11_lose : am_F := am_fn 2 (some .int) g_X11_lose
set_option maxRecDepth 100000 in
theorem sd_X11_lose : am_Sd ShM yX11_lose cX11_lose 2 (some .int) 2 f_X11_lose := am_meth (y := yX11_lose) (ret := (some .int)) x_X11_lose (by decide) (by decide +kernel) (by decide +kernel)
abbrev S_X11_lacks : am_S := (ShM, cX11_lacks, 4, 1, RX11)
set_option maxRecDepth 100000 in
noncomputable def x_X11_lacks : am_SP S_X11_lacks := (t_sq (t_if1 (c_z .lt (x_ald (x_gf 7 11 0 886 kg_11_0 (x_aln 0)) (x_iln 1))) (t_rt .ireturn (x_k _ _ (ic_V (S := S_X11_lacks) sd_X11_finds ky_X11_finds kv_X11_finds (by decide) 109 1007 none) (x_a1 (x_aln 0) (x_a1 (x_ic 1 1 (by decide)) x_a0))))) (t_sq (t_if1 (c_2 .ne (x_ald (x_gf 7 11 0 886 kg_11_0 (x_aln 0)) (x_iln 1)) (x_iln 2)) (t_rt .ireturn (x_k _ _ (ic_V (S := S_X11_lacks) sd_X11_finds ky_X11_finds kv_X11_finds (by decide) 109 1007 none) (x_a1 (x_aln 0) (x_a1 (x_ic 3 3 (by decide)) x_a0))))) (t_rt .ireturn (x_c (c_z .ne (x_k _ _ (ic_S (S := S_X11_lacks) sd_X11_in ky_X11_in ks_X11_in (by decide) 93 1003 none) (x_a1 (x_i2l (x_iln 3)) (x_a1 (x_lc 0 0 (by decide)) (x_a1 (x_i2l (x_isub (x_ald (x_gf 13 11 1 887 kg_11_1 (x_aln 0)) (x_iln 1)) (x_ic 1 1 (by decide)))) x_a0))))) (x_ic 0 0 (by decide)) (x_k _ _ (ic_V (S := S_X11_lacks) sd_X11_finds ky_X11_finds kv_X11_finds (by decide) 109 1007 none) (x_a1 (x_aln 0) (x_a1 (x_ic 2 2 (by decide)) x_a0)))))))
noncomputable def g_X11_lacks : am_T := (s_sq (s_if (b_z .lt (e_ald ShM (e_gf ShM 11 0 (e_lr 0)) (e_li 1))) (s_rt .ireturn (e_k (am_cl ShM 11 1 f_X11_finds) (a_1 (e_lr 0) (a_1 (e_i 1) a_0)))) s_0) (s_sq (s_if (b_2 .ne (e_ald ShM (e_gf ShM 11 0 (e_lr 0)) (e_li 1)) (e_li 2)) (s_rt .ireturn (e_k (am_cl ShM 11 1 f_X11_finds) (a_1 (e_lr 0) (a_1 (e_i 3) a_0)))) s_0) (s_rt .ireturn (e_c (b_z .ne (e_k (am_cs 3 f_X11_in) (a_1 (e_i2l (e_li 3)) (a_1 (e_j 0) (a_1 (e_i2l (e_b o_isub (e_ald ShM (e_gf ShM 11 1 (e_lr 0)) (e_li 1)) (e_i 1))) a_0))))) (e_i 0) (e_k (am_cl ShM 11 1 f_X11_finds) (a_1 (e_lr 0) (a_1 (e_i 2) a_0)))))))
noncomputable def f_X11_lacks : am_F := am_fn 4 (some .int) g_X11_lacks
set_option maxRecDepth 100000 in
theorem sd_X11_lacks : am_Sd ShM yX11_lacks cX11_lacks 4 (some .int) 1 f_X11_lacks := am_meth (y := yX11_lacks) (ret := (some .int)) x_X11_lacks (by decide) (by decide +kernel) (by decide +kernel)
abbrev S_X11_cut : am_S := (ShM, cX11_cut, 2, 0, RX11)
set_option maxRecDepth 100000 in
noncomputable def x_X11_cut : am_SP S_X11_cut := (t_rt .ireturn (x_c (c_z .eq (x_iln 0)) (x_i2b (x_iln 1)) (x_c (c_2 .eq (x_iln 0) (x_ic 1 1 (by decide))) (x_i2s (x_iln 1)) (x_iln 1))))
noncomputable def g_X11_cut : am_T := (s_rt .ireturn (e_c (b_z .eq (e_li 0)) (e_i2b (e_li 1)) (e_c (b_2 .eq (e_li 0) (e_i 1)) (e_i2s (e_li 1)) (e_li 1))))
noncomputable def f_X11_cut : am_F := am_fn 2 (some .int) g_X11_cut
set_option maxRecDepth 100000 in
theorem sd_X11_cut : am_Sd ShM yX11_cut cX11_cut 2 (some .int) 0 f_X11_cut := am_meth (y := yX11_cut) (ret := (some .int)) x_X11_cut (by decide) (by decide +kernel) (by decide +kernel)
abbrev S_X11_lay : am_S := (ShM, cX11_lay, 6, 2, RX11)
set_option maxRecDepth 100000 in
noncomputable def x_X11_lay : am_SP S_X11_lay := (t_sq (t_if1 (c_or (c_not (c_z .ne (x_k _ _ (ic_S (S := S_X11_lay) sd_X11_isSheet ky_X11_isSheet ks_X11_isSheet (by decide) 103 999 none) (x_a1 (x_iln 1) x_a0)))) (c_not (c_z .ne (x_k _ _ (ic_S (S := S_X11_lay) sd_X11_in ky_X11_in ks_X11_in (by decide) 93 1003 none) (x_a1 (x_i2l (x_iln 2)) (x_a1 (x_lc 0 0 (by decide)) (x_a1 (x_ldc2 107 2 1006) x_a0))))))) (t_rt .ireturn (x_bp (-2) (-2) (by decide)))) (t_sq (t_is 5 (x_k _ _ (ic_V (S := S_X11_lay) sd_X11_lacks ky_X11_lacks kv_X11_lacks (by decide) 113 1019 none) (x_a1 (x_aln 0) (x_a1 (x_iln 1) (x_a1 (x_iln 2) (x_a1 (x_iln 3) x_a0)))))) (t_sq (t_if1 (c_z .ne (x_il 5)) (t_rt .ireturn (x_il 5))) (t_sq (t_ia (x_gf 16 11 2 888 kg_11_2 (x_aln 0)) (x_iadd (x_imul (x_bp 60 60 (by decide)) (x_iln 1)) (x_iln 3)) (x_k _ _ (ic_S (S := S_X11_lay) sd_X11_cut ky_X11_cut ks_X11_cut (by decide) 117 1023 none) (x_a1 (x_iln 2) (x_a1 (x_il 4) x_a0)))) (t_rt .ireturn (x_ic 1 1 (by decide)))))))
noncomputable def g_X11_lay : am_T := (s_sq (s_if (b_or (b_not (b_z .ne (e_k (am_cs 1 f_X11_isSheet) (a_1 (e_li 1) a_0)))) (b_not (b_z .ne (e_k (am_cs 3 f_X11_in) (a_1 (e_i2l (e_li 2)) (a_1 (e_j 0) (a_1 (e_j 2) a_0))))))) (s_rt .ireturn (e_i (-2))) s_0) (s_sq (s_as (o_si 6 5) (e_k (am_cl ShM 11 3 f_X11_lacks) (a_1 (e_lr 0) (a_1 (e_li 1) (a_1 (e_li 2) (a_1 (e_li 3) a_0)))))) (s_sq (s_if (b_z .ne (e_li 5)) (s_rt .ireturn (e_li 5)) s_0) (s_sq (s_ia ShM (e_gf ShM 11 2 (e_lr 0)) (e_b o_iadd (e_b o_imul (e_i 60) (e_li 1)) (e_li 3)) (e_k (am_cs 2 f_X11_cut) (a_1 (e_li 2) (a_1 (e_li 4) a_0)))) (s_rt .ireturn (e_i 1))))))
noncomputable def f_X11_lay : am_F := am_fn 6 (some .int) g_X11_lay
set_option maxRecDepth 100000 in
theorem sd_X11_lay : am_Sd ShM yX11_lay cX11_lay 6 (some .int) 2 f_X11_lay := am_meth (y := yX11_lay) (ret := (some .int)) x_X11_lay (by decide) (by decide +kernel) (by decide +kernel)
abbrev S_X11_get : am_S := (ShM, cX11_get, 4, 2, RX11)
set_option maxRecDepth 100000 in
noncomputable def x_X11_get : am_SP S_X11_get := (t_sq (t_if1 (c_or (c_or (c_not (c_z .ne (x_k _ _ (ic_S (S := S_X11_get) sd_X11_isSheet ky_X11_isSheet ks_X11_isSheet (by decide) 103 999 none) (x_a1 (x_iln 1) x_a0)))) (c_not (c_z .ne (x_k _ _ (ic_S (S := S_X11_get) sd_X11_in ky_X11_in ks_X11_in (by decide) 93 1003 none) (x_a1 (x_i2l (x_iln 2)) (x_a1 (x_lc 0 0 (by decide)) (x_a1 (x_ldc2 107 2 1006) x_a0))))))) (c_z .ne (x_k _ _ (ic_V (S := S_X11_get) sd_X11_lacks ky_X11_lacks kv_X11_lacks (by decide) 113 1019 none) (x_a1 (x_aln 0) (x_a1 (x_iln 1) (x_a1 (x_iln 2) (x_a1 (x_iln 3) x_a0))))))) (t_rt .ireturn (x_ldc 121 (-2147483648) 1030))) (t_rt .ireturn (x_ald (x_gf 16 11 2 888 kg_11_2 (x_aln 0)) (x_iadd (x_imul (x_bp 60 60 (by decide)) (x_iln 1)) (x_iln 3)))))
noncomputable def g_X11_get : am_T := (s_sq (s_if (b_or (b_or (b_not (b_z .ne (e_k (am_cs 1 f_X11_isSheet) (a_1 (e_li 1) a_0)))) (b_not (b_z .ne (e_k (am_cs 3 f_X11_in) (a_1 (e_i2l (e_li 2)) (a_1 (e_j 0) (a_1 (e_j 2) a_0))))))) (b_z .ne (e_k (am_cl ShM 11 3 f_X11_lacks) (a_1 (e_lr 0) (a_1 (e_li 1) (a_1 (e_li 2) (a_1 (e_li 3) a_0))))))) (s_rt .ireturn (e_i (-2147483648))) s_0) (s_rt .ireturn (e_ald ShM (e_gf ShM 11 2 (e_lr 0)) (e_b o_iadd (e_b o_imul (e_i 60) (e_li 1)) (e_li 3)))))
noncomputable def f_X11_get : am_F := am_fn 4 (some .int) g_X11_get
set_option maxRecDepth 100000 in
theorem sd_X11_get : am_Sd ShM yX11_get cX11_get 4 (some .int) 2 f_X11_get := am_meth (y := yX11_get) (ret := (some .int)) x_X11_get (by decide) (by decide +kernel) (by decide +kernel)
abbrev S_X11_copy : am_S := (ShM, cX11_copy, 7, 2, RX11)
set_option maxRecDepth 100000 in
noncomputable def x_X11_copy : am_SP S_X11_copy := (t_sq (t_if1 (c_or (c_not (c_z .ne (x_k _ _ (ic_S (S := S_X11_copy) sd_X11_isSheet ky_X11_isSheet ks_X11_isSheet (by decide) 103 999 none) (x_a1 (x_iln 1) x_a0)))) (c_not (c_z .ne (x_k _ _ (ic_S (S := S_X11_copy) sd_X11_isSheet ky_X11_isSheet ks_X11_isSheet (by decide) 103 999 none) (x_a1 (x_iln 3) x_a0))))) (t_rt .ireturn (x_bp (-2) (-2) (by decide)))) (t_sq (t_if1 (c_or (c_z .lt (x_ald (x_gf 7 11 0 886 kg_11_0 (x_aln 0)) (x_iln 1))) (c_z .lt (x_ald (x_gf 7 11 0 886 kg_11_0 (x_aln 0)) (x_iln 3)))) (t_rt .ireturn (x_k _ _ (ic_V (S := S_X11_copy) sd_X11_finds ky_X11_finds kv_X11_finds (by decide) 109 1007 none) (x_a1 (x_aln 0) (x_a1 (x_ic 1 1 (by decide)) x_a0))))) (t_sq (t_if1 (c_2 .ne (x_ald (x_gf 7 11 0 886 kg_11_0 (x_aln 0)) (x_iln 1)) (x_ald (x_gf 7 11 0 886 kg_11_0 (x_aln 0)) (x_iln 3))) (t_rt .ireturn (x_k _ _ (ic_V (S := S_X11_copy) sd_X11_finds ky_X11_finds kv_X11_finds (by decide) 109 1007 none) (x_a1 (x_aln 0) (x_a1 (x_ic 4 4 (by decide)) x_a0))))) (t_sq (t_if1 (c_or (c_or (c_or (c_or (c_z .lt (x_iln 2)) (c_z .lt (x_il 4))) (c_z .lt (x_il 5))) (c_z .gt (x_lcmp (x_ladd (x_i2l (x_iln 2)) (x_i2l (x_il 5))) (x_i2l (x_ald (x_gf 13 11 1 887 kg_11_1 (x_aln 0)) (x_iln 1)))))) (c_z .gt (x_lcmp (x_ladd (x_i2l (x_il 4)) (x_i2l (x_il 5))) (x_i2l (x_ald (x_gf 13 11 1 887 kg_11_1 (x_aln 0)) (x_iln 3)))))) (t_rt .ireturn (x_k _ _ (ic_V (S := S_X11_copy) sd_X11_finds ky_X11_finds kv_X11_finds (by decide) 109 1007 none) (x_a1 (x_aln 0) (x_a1 (x_ic 2 2 (by decide)) x_a0))))) (t_sq (t_bk (t_sq (t_is 6 (x_ic 0 0 (by decide))) (t_lp (c_2 .lt (x_il 6) (x_il 5)) (t_sq (t_ia (x_gf 19 11 3 889 kg_11_3 (x_aln 0)) (x_il 6) (x_ald (x_gf 16 11 2 888 kg_11_2 (x_aln 0)) (x_iadd (x_iadd (x_imul (x_bp 60 60 (by decide)) (x_iln 1)) (x_iln 2)) (x_il 6)))) (t_inc 6 1 1 (by decide)))))) (t_sq (t_bk (t_sq (t_is 6 (x_ic 0 0 (by decide))) (t_lp (c_2 .lt (x_il 6) (x_il 5)) (t_sq (t_ia (x_gf 16 11 2 888 kg_11_2 (x_aln 0)) (x_iadd (x_iadd (x_imul (x_bp 60 60 (by decide)) (x_iln 3)) (x_il 4)) (x_il 6)) (x_ald (x_gf 19 11 3 889 kg_11_3 (x_aln 0)) (x_il 6))) (t_inc 6 1 1 (by decide)))))) (t_rt .ireturn (x_ic 1 1 (by decide)))))))))
noncomputable def g_X11_copy : am_T := (s_sq (s_if (b_or (b_not (b_z .ne (e_k (am_cs 1 f_X11_isSheet) (a_1 (e_li 1) a_0)))) (b_not (b_z .ne (e_k (am_cs 1 f_X11_isSheet) (a_1 (e_li 3) a_0))))) (s_rt .ireturn (e_i (-2))) s_0) (s_sq (s_if (b_or (b_z .lt (e_ald ShM (e_gf ShM 11 0 (e_lr 0)) (e_li 1))) (b_z .lt (e_ald ShM (e_gf ShM 11 0 (e_lr 0)) (e_li 3)))) (s_rt .ireturn (e_k (am_cl ShM 11 1 f_X11_finds) (a_1 (e_lr 0) (a_1 (e_i 1) a_0)))) s_0) (s_sq (s_if (b_2 .ne (e_ald ShM (e_gf ShM 11 0 (e_lr 0)) (e_li 1)) (e_ald ShM (e_gf ShM 11 0 (e_lr 0)) (e_li 3))) (s_rt .ireturn (e_k (am_cl ShM 11 1 f_X11_finds) (a_1 (e_lr 0) (a_1 (e_i 4) a_0)))) s_0) (s_sq (s_if (b_or (b_or (b_or (b_or (b_z .lt (e_li 2)) (b_z .lt (e_li 4))) (b_z .lt (e_li 5))) (b_z .gt (e_b o_lcmp (e_b o_ladd (e_i2l (e_li 2)) (e_i2l (e_li 5))) (e_i2l (e_ald ShM (e_gf ShM 11 1 (e_lr 0)) (e_li 1)))))) (b_z .gt (e_b o_lcmp (e_b o_ladd (e_i2l (e_li 4)) (e_i2l (e_li 5))) (e_i2l (e_ald ShM (e_gf ShM 11 1 (e_lr 0)) (e_li 3)))))) (s_rt .ireturn (e_k (am_cl ShM 11 1 f_X11_finds) (a_1 (e_lr 0) (a_1 (e_i 2) a_0)))) s_0) (s_sq (s_bk (s_sq (s_as (o_si 7 6) (e_i 0)) (s_lp (b_2 .lt (e_li 6) (e_li 5)) (s_sq (s_ia ShM (e_gf ShM 11 3 (e_lr 0)) (e_li 6) (e_ald ShM (e_gf ShM 11 2 (e_lr 0)) (e_b o_iadd (e_b o_iadd (e_b o_imul (e_i 60) (e_li 1)) (e_li 2)) (e_li 6)))) (s_inc 7 6 1))))) (s_sq (s_bk (s_sq (s_as (o_si 7 6) (e_i 0)) (s_lp (b_2 .lt (e_li 6) (e_li 5)) (s_sq (s_ia ShM (e_gf ShM 11 2 (e_lr 0)) (e_b o_iadd (e_b o_iadd (e_b o_imul (e_i 60) (e_li 3)) (e_li 4)) (e_li 6)) (e_ald ShM (e_gf ShM 11 3 (e_lr 0)) (e_li 6))) (s_inc 7 6 1))))) (s_rt .ireturn (e_i 1))))))))
noncomputable def f_X11_copy : am_F := am_fn 7 (some .int) g_X11_copy
set_option maxRecDepth 100000 in
theorem sd_X11_copy : am_Sd ShM yX11_copy cX11_copy 7 (some .int) 2 f_X11_copy := am_meth (y := yX11_copy) (ret := (some .int)) x_X11_copy (by decide) (by decide +kernel) (by decide +kernel)
abbrev S_X11_isText : am_S := (ShM, cX11_isText, 1, 1, RX11)
set_option maxRecDepth 100000 in
noncomputable def x_X11_isText : am_SP S_X11_isText := (t_rt .ireturn (x_k _ _ (ic_S (S := S_X11_isText) sd_X11_in ky_X11_in ks_X11_in (by decide) 93 1003 none) (x_a1 (x_i2l (x_iln 0)) (x_a1 (x_lc 0 0 (by decide)) (x_a1 (x_ldc2 107 2 1006) x_a0)))))
noncomputable def g_X11_isText : am_T := (s_rt .ireturn (e_k (am_cs 3 f_X11_in) (a_1 (e_i2l (e_li 0)) (a_1 (e_j 0) (a_1 (e_j 2) a_0)))))
noncomputable def f_X11_isText : am_F := am_fn 1 (some .boolean) g_X11_isText
set_option maxRecDepth 100000 in
theorem sd_X11_isText : am_Sd ShM yX11_isText cX11_isText 1 (some .boolean) 1 f_X11_isText := am_meth (y := yX11_isText) (ret := (some .boolean)) x_X11_isText (by decide) (by decide +kernel) (by decide +kernel)
abbrev S_X11_type : am_S := (ShM, cX11_type, 3, 2, RX11)
set_option maxRecDepth 100000 in
noncomputable def x_X11_type : am_SP S_X11_type := (t_sq (t_if1 (c_or (c_not (c_z .ne (x_k _ _ (ic_S (S := S_X11_type) sd_X11_isText ky_X11_isText ks_X11_isText (by decide) 122 1039 none) (x_a1 (x_iln 1) x_a0)))) (c_not (c_z .ne (x_k _ _ (ic_S (S := S_X11_type) sd_X11_in ky_X11_in ks_X11_in (by decide) 93 1003 none) (x_a1 (x_i2l (x_iln 2)) (x_a1 (x_lc 0 0 (by decide)) (x_a1 (x_ldc2 125 255 1042) x_a0))))))) (t_rt .ireturn (x_bp (-2) (-2) (by decide)))) (t_sq (t_if1 (c_2 .eq (x_ald (x_gf 25 11 6 892 kg_11_6 (x_aln 0)) (x_iln 1)) (x_c (c_z .eq (x_iln 1)) (x_bp 71 71 (by decide)) (x_c (c_2 .eq (x_iln 1) (x_ic 1 1 (by decide))) (x_bp 20 20 (by decide)) (x_bp 8 8 (by decide))))) (t_rt .ireturn (x_bp (-4) (-4) (by decide)))) (t_sq (t_ia (x_gf 22 11 5 891 kg_11_5 (x_aln 0)) (x_iadd (x_imul (x_bp 72 72 (by decide)) (x_iln 1)) (x_ald (x_gf 25 11 6 892 kg_11_6 (x_aln 0)) (x_iln 1))) (x_iln 2)) (t_sq (t_io _ _ ib_iadd (x_gf 25 11 6 892 kg_11_6 (x_aln 0)) (x_iln 1) (x_ic 1 1 (by decide))) (t_rt .ireturn (x_ald (x_gf 25 11 6 892 kg_11_6 (x_aln 0)) (x_iln 1)))))))
noncomputable def g_X11_type : am_T := (s_sq (s_if (b_or (b_not (b_z .ne (e_k (am_cs 1 f_X11_isText) (a_1 (e_li 1) a_0)))) (b_not (b_z .ne (e_k (am_cs 3 f_X11_in) (a_1 (e_i2l (e_li 2)) (a_1 (e_j 0) (a_1 (e_j 255) a_0))))))) (s_rt .ireturn (e_i (-2))) s_0) (s_sq (s_if (b_2 .eq (e_ald ShM (e_gf ShM 11 6 (e_lr 0)) (e_li 1)) (e_c (b_z .eq (e_li 1)) (e_i 71) (e_c (b_2 .eq (e_li 1) (e_i 1)) (e_i 20) (e_i 8)))) (s_rt .ireturn (e_i (-4))) s_0) (s_sq (s_ia ShM (e_gf ShM 11 5 (e_lr 0)) (e_b o_iadd (e_b o_imul (e_i 72) (e_li 1)) (e_ald ShM (e_gf ShM 11 6 (e_lr 0)) (e_li 1))) (e_li 2)) (s_sq (s_io ShM o_iadd (e_gf ShM 11 6 (e_lr 0)) (e_li 1) (e_i 1)) (s_rt .ireturn (e_ald ShM (e_gf ShM 11 6 (e_lr 0)) (e_li 1)))))))
noncomputable def f_X11_type : am_F := am_fn 3 (some .int) g_X11_type
set_option maxRecDepth 100000 in
theorem sd_X11_type : am_Sd ShM yX11_type cX11_type 3 (some .int) 2 f_X11_type := am_meth (y := yX11_type) (ret := (some .int)) x_X11_type (by decide) (by decide +kernel) (by decide +kernel)
abbrev S_X11_wipe : am_S := (ShM, cX11_wipe, 3, 2, RX11)
set_option maxRecDepth 100000 in
noncomputable def x_X11_wipe : am_SP S_X11_wipe := (t_sq (t_if1 (c_not (c_z .ne (x_k _ _ (ic_S (S := S_X11_wipe) sd_X11_isText ky_X11_isText ks_X11_isText (by decide) 122 1039 none) (x_a1 (x_iln 1) x_a0)))) (t_rt .ireturn (x_bp (-2) (-2) (by decide)))) (t_sq (t_isn 2 (x_ald (x_gf 25 11 6 892 kg_11_6 (x_aln 0)) (x_iln 1))) (t_sq (t_ia (x_gf 25 11 6 892 kg_11_6 (x_aln 0)) (x_iln 1) (x_ic 0 0 (by decide))) (t_rt .ireturn (x_iln 2)))))
noncomputable def g_X11_wipe : am_T := (s_sq (s_if (b_not (b_z .ne (e_k (am_cs 1 f_X11_isText) (a_1 (e_li 1) a_0)))) (s_rt .ireturn (e_i (-2))) s_0) (s_sq (s_as (o_si 3 2) (e_ald ShM (e_gf ShM 11 6 (e_lr 0)) (e_li 1))) (s_sq (s_ia ShM (e_gf ShM 11 6 (e_lr 0)) (e_li 1) (e_i 0)) (s_rt .ireturn (e_li 2)))))
noncomputable def f_X11_wipe : am_F := am_fn 3 (some .int) g_X11_wipe
set_option maxRecDepth 100000 in
theorem sd_X11_wipe : am_Sd ShM yX11_wipe cX11_wipe 3 (some .int) 2 f_X11_wipe := am_meth (y := yX11_wipe) (ret := (some .int)) x_X11_wipe (by decide) (by decide +kernel) (by decide +kernel)
abbrev S_X11_undo : am_S := (ShM, cX11_undo, 2, 2, RX11)
set_option maxRecDepth 100000 in
noncomputable def x_X11_undo : am_SP S_X11_undo := (t_sq (t_if1 (c_not (c_z .ne (x_k _ _ (ic_S (S := S_X11_undo) sd_X11_isText ky_X11_isText ks_X11_isText (by decide) 122 1039 none) (x_a1 (x_iln 1) x_a0)))) (t_rt .ireturn (x_bp (-2) (-2) (by decide)))) (t_sq (t_if1 (c_z .eq (x_ald (x_gf 25 11 6 892 kg_11_6 (x_aln 0)) (x_iln 1))) (t_rt .ireturn (x_bp (-3) (-3) (by decide)))) (t_sq (t_io _ _ ib_isub (x_gf 25 11 6 892 kg_11_6 (x_aln 0)) (x_iln 1) (x_ic 1 1 (by decide))) (t_rt .ireturn (x_ald (x_gf 25 11 6 892 kg_11_6 (x_aln 0)) (x_iln 1))))))
noncomputable def g_X11_undo : am_T := (s_sq (s_if (b_not (b_z .ne (e_k (am_cs 1 f_X11_isText) (a_1 (e_li 1) a_0)))) (s_rt .ireturn (e_i (-2))) s_0) (s_sq (s_if (b_z .eq (e_ald ShM (e_gf ShM 11 6 (e_lr 0)) (e_li 1))) (s_rt .ireturn (e_i (-3))) s_0) (s_sq (s_io ShM o_isub (e_gf ShM 11 6 (e_lr 0)) (e_li 1) (e_i 1)) (s_rt .ireturn (e_ald ShM (e_gf ShM 11 6 (e_lr 0)) (e_li 1))))))
noncomputable def f_X11_undo : am_F := am_fn 2 (some .int) g_X11_undo
set_option maxRecDepth 100000 in
theorem sd_X11_undo : am_Sd ShM yX11_undo cX11_undo 2 (some .int) 2 f_X11_undo := am_meth (y := yX11_undo) (ret := (some .int)) x_X11_undo (by decide) (by decide +kernel) (by decide +kernel)
abbrev S_X11_readsStrands : am_S := (ShM, cX11_readsStrands, 10, 1, RX11)
set_option maxRecDepth 100000 in
noncomputable def x_X11_readsStrands : am_SP S_X11_readsStrands := (t_sq (t_pf 127 11 7 893 false kp_11_7 (x_aln 0) (x_ic 0 0 (by decide))) (t_sq (t_isn 1 (x_ald (x_gf 25 11 6 892 kg_11_6 (x_aln 0)) (x_ic 0 0 (by decide)))) (t_sq (t_isn 2 (x_ic 0 0 (by decide))) (t_sq (t_isn 3 (x_ic 0 0 (by decide))) (t_sq (t_bk (t_sq (t_is 4 (x_ic 0 0 (by decide))) (t_lp (c_2 .lt (x_il 4) (x_iln 1)) (t_sq (t_bk (t_sq (t_is 5 (x_ald (x_gf 22 11 5 891 kg_11_5 (x_aln 0)) (x_il 4))) (t_sq (t_is 6 (x_c (c_and (c_and (c_z .eq (x_iln 2)) (c_z .ne (x_k _ _ (ic_S (S := S_X11_readsStrands) sd_X11_in ky_X11_in ks_X11_in (by decide) 93 1003 none) (x_a1 (x_i2l (x_il 5)) (x_a1 (x_ldc2 130 48 1063) (x_a1 (x_ldc2 132 57 1064) x_a0)))))) (c_2 .lt (x_gf 127 11 7 893 kg_11_7 (x_aln 0)) (x_bp 8 8 (by decide)))) (x_ic 1 1 (by decide)) (x_ic 0 0 (by decide)))) (t_sq (t_is 7 (x_c (c_and (c_2 .eq (x_iln 2) (x_ic 1 1 (by decide))) (c_or (c_or (c_2 .eq (x_il 5) (x_bp 119 119 (by decide))) (c_2 .eq (x_il 5) (x_bp 107 107 (by decide)))) (c_2 .eq (x_il 5) (x_bp 100 100 (by decide))))) (x_ic 1 1 (by decide)) (x_ic 0 0 (by decide)))) (t_sq (t_is 8 (x_c (c_and (c_and (c_2 .eq (x_iln 2) (x_ic 2 2 (by decide))) (c_z .ne (x_k _ _ (ic_S (S := S_X11_readsStrands) sd_X11_in ky_X11_in ks_X11_in (by decide) 93 1003 none) (x_a1 (x_i2l (x_il 5)) (x_a1 (x_ldc2 134 97 1065) (x_a1 (x_ldc2 136 100 1066) x_a0)))))) (c_2 .lt (x_iln 3) (x_bp 6 6 (by decide)))) (x_ic 1 1 (by decide)) (x_ic 0 0 (by decide)))) (t_sq (t_is 9 (x_c (c_and (c_and (c_2 .eq (x_iln 2) (x_ic 2 2 (by decide))) (c_2 .eq (x_il 5) (x_bp 59 59 (by decide)))) (c_z .gt (x_iln 3))) (x_ic 1 1 (by decide)) (x_ic 0 0 (by decide)))) (t_sq (t_if1 (c_and (c_and (c_and (c_not (c_z .ne (x_il 6))) (c_not (c_z .ne (x_il 7)))) (c_not (c_z .ne (x_il 8)))) (c_not (c_z .ne (x_il 9)))) (t_sq (t_pf 127 11 7 893 false kp_11_7 (x_aln 0) (x_ic 0 0 (by decide))) (t_rt .ireturn (x_il 4)))) (t_sq (t_if1 (c_z .ne (x_il 6)) (t_sq (t_ia (x_gf 28 11 8 894 kg_11_8 (x_aln 0)) (x_gf 127 11 7 893 kg_11_7 (x_aln 0)) (x_isub (x_il 5) (x_bp 48 48 (by decide)))) (t_isn 2 (x_ic 1 1 (by decide))))) (t_sq (t_if1 (c_z .ne (x_il 7)) (t_sq (t_ia (x_gf 31 11 9 895 kg_11_9 (x_aln 0)) (x_gf 127 11 7 893 kg_11_7 (x_aln 0)) (x_c (c_2 .eq (x_il 5) (x_bp 119 119 (by decide))) (x_ic 0 0 (by decide)) (x_c (c_2 .eq (x_il 5) (x_bp 107 107 (by decide))) (x_ic 1 1 (by decide)) (x_ic 2 2 (by decide))))) (t_sq (t_isn 2 (x_ic 2 2 (by decide))) (t_isn 3 (x_ic 0 0 (by decide)))))) (t_sq (t_if1 (c_z .ne (x_il 8)) (t_sq (t_ia (x_gf 37 11 11 897 kg_11_11 (x_aln 0)) (x_iadd (x_imul (x_bp 6 6 (by decide)) (x_gf 127 11 7 893 kg_11_7 (x_aln 0))) (x_iln 3)) (x_isub (x_il 5) (x_bp 97 97 (by decide)))) (t_sq (t_inc 3 1 1 (by decide)) (t_ia (x_gf 34 11 10 896 kg_11_10 (x_aln 0)) (x_gf 127 11 7 893 kg_11_7 (x_aln 0)) (x_iln 3))))) (t_if1 (c_z .ne (x_il 9)) (t_sq (t_po 127 11 7 893 893 false kp_11_7 _ _ ib_iadd (x_aln 0) (x_ic 1 1 (by decide))) (t_isn 2 (x_ic 0 0 (by decide))))))))))))))) (t_inc 4 1 1 (by decide)))))) (t_sq (t_if1 (c_and (c_z .gt (x_iln 1)) (c_or (c_2 .ne (x_iln 2) (x_ic 2 2 (by decide))) (c_z .eq (x_iln 3)))) (t_sq (t_pf 127 11 7 893 false kp_11_7 (x_aln 0) (x_ic 0 0 (by decide))) (t_rt .ireturn (x_iln 1)))) (t_sq (t_po 127 11 7 893 893 false kp_11_7 _ _ ib_iadd (x_aln 0) (x_c (c_z .gt (x_iln 1)) (x_ic 1 1 (by decide)) (x_ic 0 0 (by decide)))) (t_rt .ireturn (x_ic (-1) (-1) (by decide))))))))))
noncomputable def g_X11_readsStrands : am_T := (s_sq (s_pf ShM 11 7 false (e_lr 0) (e_i 0)) (s_sq (s_as (o_si 10 1) (e_ald ShM (e_gf ShM 11 6 (e_lr 0)) (e_i 0))) (s_sq (s_as (o_si 10 2) (e_i 0)) (s_sq (s_as (o_si 10 3) (e_i 0)) (s_sq (s_bk (s_sq (s_as (o_si 10 4) (e_i 0)) (s_lp (b_2 .lt (e_li 4) (e_li 1)) (s_sq (s_bk (s_sq (s_as (o_si 10 5) (e_ald ShM (e_gf ShM 11 5 (e_lr 0)) (e_li 4))) (s_sq (s_as (o_si 10 6) (e_c (b_and (b_and (b_z .eq (e_li 2)) (b_z .ne (e_k (am_cs 3 f_X11_in) (a_1 (e_i2l (e_li 5)) (a_1 (e_j 48) (a_1 (e_j 57) a_0)))))) (b_2 .lt (e_gf ShM 11 7 (e_lr 0)) (e_i 8))) (e_i 1) (e_i 0))) (s_sq (s_as (o_si 10 7) (e_c (b_and (b_2 .eq (e_li 2) (e_i 1)) (b_or (b_or (b_2 .eq (e_li 5) (e_i 119)) (b_2 .eq (e_li 5) (e_i 107))) (b_2 .eq (e_li 5) (e_i 100)))) (e_i 1) (e_i 0))) (s_sq (s_as (o_si 10 8) (e_c (b_and (b_and (b_2 .eq (e_li 2) (e_i 2)) (b_z .ne (e_k (am_cs 3 f_X11_in) (a_1 (e_i2l (e_li 5)) (a_1 (e_j 97) (a_1 (e_j 100) a_0)))))) (b_2 .lt (e_li 3) (e_i 6))) (e_i 1) (e_i 0))) (s_sq (s_as (o_si 10 9) (e_c (b_and (b_and (b_2 .eq (e_li 2) (e_i 2)) (b_2 .eq (e_li 5) (e_i 59))) (b_z .gt (e_li 3))) (e_i 1) (e_i 0))) (s_sq (s_if (b_and (b_and (b_and (b_not (b_z .ne (e_li 6))) (b_not (b_z .ne (e_li 7)))) (b_not (b_z .ne (e_li 8)))) (b_not (b_z .ne (e_li 9)))) (s_sq (s_pf ShM 11 7 false (e_lr 0) (e_i 0)) (s_rt .ireturn (e_li 4))) s_0) (s_sq (s_if (b_z .ne (e_li 6)) (s_sq (s_ia ShM (e_gf ShM 11 8 (e_lr 0)) (e_gf ShM 11 7 (e_lr 0)) (e_b o_isub (e_li 5) (e_i 48))) (s_as (o_si 10 2) (e_i 1))) s_0) (s_sq (s_if (b_z .ne (e_li 7)) (s_sq (s_ia ShM (e_gf ShM 11 9 (e_lr 0)) (e_gf ShM 11 7 (e_lr 0)) (e_c (b_2 .eq (e_li 5) (e_i 119)) (e_i 0) (e_c (b_2 .eq (e_li 5) (e_i 107)) (e_i 1) (e_i 2)))) (s_sq (s_as (o_si 10 2) (e_i 2)) (s_as (o_si 10 3) (e_i 0)))) s_0) (s_sq (s_if (b_z .ne (e_li 8)) (s_sq (s_ia ShM (e_gf ShM 11 11 (e_lr 0)) (e_b o_iadd (e_b o_imul (e_i 6) (e_gf ShM 11 7 (e_lr 0))) (e_li 3)) (e_b o_isub (e_li 5) (e_i 97))) (s_sq (s_inc 10 3 1) (s_ia ShM (e_gf ShM 11 10 (e_lr 0)) (e_gf ShM 11 7 (e_lr 0)) (e_li 3)))) s_0) (s_if (b_z .ne (e_li 9)) (s_sq (s_po ShM 11 7 false o_iadd (e_lr 0) (e_i 1)) (s_as (o_si 10 2) (e_i 0))) s_0))))))))))) (s_inc 10 4 1))))) (s_sq (s_if (b_and (b_z .gt (e_li 1)) (b_or (b_2 .ne (e_li 2) (e_i 2)) (b_z .eq (e_li 3)))) (s_sq (s_pf ShM 11 7 false (e_lr 0) (e_i 0)) (s_rt .ireturn (e_li 1))) s_0) (s_sq (s_po ShM 11 7 false o_iadd (e_lr 0) (e_c (b_z .gt (e_li 1)) (e_i 1) (e_i 0))) (s_rt .ireturn (e_i (-1))))))))))
noncomputable def f_X11_readsStrands : am_F := am_fn 10 (some .int) g_X11_readsStrands
set_option maxRecDepth 100000 in
theorem sd_X11_readsStrands : am_Sd ShM yX11_readsStrands cX11_readsStrands 10 (some .int) 1 f_X11_readsStrands := am_meth (y := yX11_readsStrands) (ret := (some .int)) x_X11_readsStrands (by decide) (by decide +kernel) (by decide +kernel)
abbrev S_X11_fives : am_S := (ShM, cX11_fives, 2, 0, RX11)
set_option maxRecDepth 100000 in
noncomputable def x_X11_fives : am_SP S_X11_fives := (t_sq (t_bk (t_sq (t_isn 1 (x_ic 0 0 (by decide))) (t_lp (c_2 .lt (x_iln 1) (x_bp 20 20 (by decide))) (t_sq (t_ia (x_gf 40 11 12 898 kg_11_12 (x_aln 0)) (x_iln 1) (x_ic 5 5 (by decide))) (t_inc 1 1 1 (by decide)))))) t_rv)
noncomputable def g_X11_fives : am_T := (s_sq (s_bk (s_sq (s_as (o_si 2 1) (e_i 0)) (s_lp (b_2 .lt (e_li 1) (e_i 20)) (s_sq (s_ia ShM (e_gf ShM 11 12 (e_lr 0)) (e_li 1) (e_i 5)) (s_inc 2 1 1))))) s_rv)
noncomputable def f_X11_fives : am_F := am_fn 2 none g_X11_fives
set_option maxRecDepth 100000 in
theorem sd_X11_fives : am_Sd ShM yX11_fives cX11_fives 2 none 0 f_X11_fives := am_meth (y := yX11_fives) (ret := none) x_X11_fives (by decide) (by decide +kernel) (by decide +kernel)
abbrev S_X11_readsTides : am_S := (ShM, cX11_readsTides, 3, 1, RX11)
set_option maxRecDepth 100000 in
noncomputable def x_X11_readsTides : am_SP S_X11_readsTides := (t_sq (t_k _ _ (ic_V (S := S_X11_readsTides) sd_X11_fives ky_X11_fives kv_X11_fives (by decide) 138 1071 none) (x_a1 (x_aln 0) x_a0)) (t_sq (t_bk (t_sq (t_isn 1 (x_ic 0 0 (by decide))) (t_lp (c_2 .lt (x_iln 1) (x_ald (x_gf 25 11 6 892 kg_11_6 (x_aln 0)) (x_ic 1 1 (by decide)))) (t_sq (t_bk (t_sq (t_isn 2 (x_ald (x_gf 22 11 5 891 kg_11_5 (x_aln 0)) (x_iadd (x_bp 72 72 (by decide)) (x_iln 1)))) (t_sq (t_if1 (c_not (c_z .ne (x_k _ _ (ic_S (S := S_X11_readsTides) sd_X11_in ky_X11_in ks_X11_in (by decide) 93 1003 none) (x_a1 (x_i2l (x_iln 2)) (x_a1 (x_ldc2 130 48 1063) (x_a1 (x_ldc2 132 57 1064) x_a0)))))) (t_sq (t_k _ _ (ic_V (S := S_X11_readsTides) sd_X11_fives ky_X11_fives kv_X11_fives (by decide) 138 1071 none) (x_a1 (x_aln 0) x_a0)) (t_rt .ireturn (x_iln 1)))) (t_ia (x_gf 40 11 12 898 kg_11_12 (x_aln 0)) (x_iln 1) (x_isub (x_iln 2) (x_bp 48 48 (by decide))))))) (t_inc 1 1 1 (by decide)))))) (t_rt .ireturn (x_ic (-1) (-1) (by decide)))))
noncomputable def g_X11_readsTides : am_T := (s_sq (s_k (am_cl ShM 11 0 f_X11_fives) (a_1 (e_lr 0) a_0)) (s_sq (s_bk (s_sq (s_as (o_si 3 1) (e_i 0)) (s_lp (b_2 .lt (e_li 1) (e_ald ShM (e_gf ShM 11 6 (e_lr 0)) (e_i 1))) (s_sq (s_bk (s_sq (s_as (o_si 3 2) (e_ald ShM (e_gf ShM 11 5 (e_lr 0)) (e_b o_iadd (e_i 72) (e_li 1)))) (s_sq (s_if (b_not (b_z .ne (e_k (am_cs 3 f_X11_in) (a_1 (e_i2l (e_li 2)) (a_1 (e_j 48) (a_1 (e_j 57) a_0)))))) (s_sq (s_k (am_cl ShM 11 0 f_X11_fives) (a_1 (e_lr 0) a_0)) (s_rt .ireturn (e_li 1))) s_0) (s_ia ShM (e_gf ShM 11 12 (e_lr 0)) (e_li 1) (e_b o_isub (e_li 2) (e_i 48)))))) (s_inc 3 1 1))))) (s_rt .ireturn (e_i (-1)))))
noncomputable def f_X11_readsTides : am_F := am_fn 3 (some .int) g_X11_readsTides
set_option maxRecDepth 100000 in
theorem sd_X11_readsTides : am_Sd ShM yX11_readsTides cX11_readsTides 3 (some .int) 1 f_X11_readsTides := am_meth (y := yX11_readsTides) (ret := (some .int)) x_X11_readsTides (by decide) (by decide +kernel) (by decide +kernel)
end
section
/-! methods as forms, by program (gen.py, mkm.py): x_ the form, g_ and f_ the meaning, sd_ the contract -/
abbrev S_X11_readsRoute : am_S := (ShM, cX11_readsRoute, 3, 1, RX11)
set_option maxRecDepth 100000 in
noncomputable def x_X11_readsRoute : am_SP S_X11_readsRoute := (t_sq (t_pf 141 11 13 899 false kp_11_13 (x_aln 0) (x_ic 0 0 (by decide))) (t_sq (t_bk (t_sq (t_isn 1 (x_ic 0 0 (by decide))) (t_lp (c_2 .lt (x_iln 1) (x_ald (x_gf 25 11 6 892 kg_11_6 (x_aln 0)) (x_ic 2 2 (by decide)))) (t_sq (t_bk (t_sq (t_isn 2 (x_ald (x_gf 22 11 5 891 kg_11_5 (x_aln 0)) (x_iadd (x_sp 144 144 (by decide)) (x_iln 1)))) (t_sq (t_if1 (c_not (c_z .ne (x_k _ _ (ic_S (S := S_X11_readsRoute) sd_X11_in ky_X11_in ks_X11_in (by decide) 93 1003 none) (x_a1 (x_i2l (x_iln 2)) (x_a1 (x_ldc2 134 97 1065) (x_a1 (x_ldc2 144 104 1079) x_a0)))))) (t_sq (t_pf 141 11 13 899 false kp_11_13 (x_aln 0) (x_ic 0 0 (by decide))) (t_rt .ireturn (x_iln 1)))) (t_sq (t_ia (x_gf 43 11 14 900 kg_11_14 (x_aln 0)) (x_iln 1) (x_isub (x_iln 2) (x_bp 97 97 (by decide)))) (t_po 141 11 13 899 899 false kp_11_13 _ _ ib_iadd (x_aln 0) (x_ic 1 1 (by decide))))))) (t_inc 1 1 1 (by decide)))))) (t_rt .ireturn (x_ic (-1) (-1) (by decide)))))
noncomputable def g_X11_readsRoute : am_T := (s_sq (s_pf ShM 11 13 false (e_lr 0) (e_i 0)) (s_sq (s_bk (s_sq (s_as (o_si 3 1) (e_i 0)) (s_lp (b_2 .lt (e_li 1) (e_ald ShM (e_gf ShM 11 6 (e_lr 0)) (e_i 2))) (s_sq (s_bk (s_sq (s_as (o_si 3 2) (e_ald ShM (e_gf ShM 11 5 (e_lr 0)) (e_b o_iadd (e_i 144) (e_li 1)))) (s_sq (s_if (b_not (b_z .ne (e_k (am_cs 3 f_X11_in) (a_1 (e_i2l (e_li 2)) (a_1 (e_j 97) (a_1 (e_j 104) a_0)))))) (s_sq (s_pf ShM 11 13 false (e_lr 0) (e_i 0)) (s_rt .ireturn (e_li 1))) s_0) (s_sq (s_ia ShM (e_gf ShM 11 14 (e_lr 0)) (e_li 1) (e_b o_isub (e_li 2) (e_i 97))) (s_po ShM 11 13 false o_iadd (e_lr 0) (e_i 1)))))) (s_inc 3 1 1))))) (s_rt .ireturn (e_i (-1)))))
noncomputable def f_X11_readsRoute : am_F := am_fn 3 (some .int) g_X11_readsRoute
set_option maxRecDepth 100000 in
theorem sd_X11_readsRoute : am_Sd ShM yX11_readsRoute cX11_readsRoute 3 (some .int) 1 f_X11_readsRoute := am_meth (y := yX11_readsRoute) (ret := (some .int)) x_X11_readsRoute (by decide) (by decide +kernel) (by decide +kernel)
abbrev S_X11_readsText : am_S := (ShM, cX11_readsText, 2, 2, RX11)
set_option maxRecDepth 100000 in
noncomputable def x_X11_readsText : am_SP S_X11_readsText := (t_rt .ireturn (x_c (c_z .eq (x_iln 1)) (x_k _ _ (ic_V (S := S_X11_readsText) sd_X11_readsStrands ky_X11_readsStrands kv_X11_readsStrands (by decide) 146 1059 none) (x_a1 (x_aln 0) x_a0)) (x_c (c_2 .eq (x_iln 1) (x_ic 1 1 (by decide))) (x_k _ _ (ic_V (S := S_X11_readsText) sd_X11_readsTides ky_X11_readsTides kv_X11_readsTides (by decide) 150 1067 none) (x_a1 (x_aln 0) x_a0)) (x_k _ _ (ic_V (S := S_X11_readsText) sd_X11_readsRoute ky_X11_readsRoute kv_X11_readsRoute (by decide) 153 1075 none) (x_a1 (x_aln 0) x_a0)))))
noncomputable def g_X11_readsText : am_T := (s_rt .ireturn (e_c (b_z .eq (e_li 1)) (e_k (am_cl ShM 11 0 f_X11_readsStrands) (a_1 (e_lr 0) a_0)) (e_c (b_2 .eq (e_li 1) (e_i 1)) (e_k (am_cl ShM 11 0 f_X11_readsTides) (a_1 (e_lr 0) a_0)) (e_k (am_cl ShM 11 0 f_X11_readsRoute) (a_1 (e_lr 0) a_0)))))
noncomputable def f_X11_readsText : am_F := am_fn 2 (some .int) g_X11_readsText
set_option maxRecDepth 100000 in
theorem sd_X11_readsText : am_Sd ShM yX11_readsText cX11_readsText 2 (some .int) 2 f_X11_readsText := am_meth (y := yX11_readsText) (ret := (some .int)) x_X11_readsText (by decide) (by decide +kernel) (by decide +kernel)
abbrev S_X11_fault : am_S := (ShM, cX11_fault, 2, 3, RX11)
set_option maxRecDepth 100000 in
noncomputable def x_X11_fault : am_SP S_X11_fault := (t_rt .ireturn (x_c (c_z .ne (x_k _ _ (ic_S (S := S_X11_fault) sd_X11_isText ky_X11_isText ks_X11_isText (by decide) 122 1039 none) (x_a1 (x_iln 1) x_a0))) (x_k _ _ (ic_V (S := S_X11_fault) sd_X11_readsText ky_X11_readsText kv_X11_readsText (by decide) 156 1055 none) (x_a1 (x_aln 0) (x_a1 (x_iln 1) x_a0))) (x_bp (-2) (-2) (by decide))))
noncomputable def g_X11_fault : am_T := (s_rt .ireturn (e_c (b_z .ne (e_k (am_cs 1 f_X11_isText) (a_1 (e_li 1) a_0))) (e_k (am_cl ShM 11 1 f_X11_readsText) (a_1 (e_lr 0) (a_1 (e_li 1) a_0))) (e_i (-2))))
noncomputable def f_X11_fault : am_F := am_fn 2 (some .int) g_X11_fault
set_option maxRecDepth 100000 in
theorem sd_X11_fault : am_Sd ShM yX11_fault cX11_fault 2 (some .int) 3 f_X11_fault := am_meth (y := yX11_fault) (ret := (some .int)) x_X11_fault (by decide) (by decide +kernel) (by decide +kernel)
abbrev S_X11_isStrand : am_S := (ShM, cX11_isStrand, 2, 1, RX11)
set_option maxRecDepth 100000 in
noncomputable def x_X11_isStrand : am_SP S_X11_isStrand := (t_rt .ireturn (x_k _ _ (ic_S (S := S_X11_isStrand) sd_X11_in ky_X11_in ks_X11_in (by decide) 93 1003 none) (x_a1 (x_i2l (x_iln 1)) (x_a1 (x_lc 0 0 (by decide)) (x_a1 (x_i2l (x_isub (x_gf 127 11 7 893 kg_11_7 (x_aln 0)) (x_ic 1 1 (by decide)))) x_a0)))))
noncomputable def g_X11_isStrand : am_T := (s_rt .ireturn (e_k (am_cs 3 f_X11_in) (a_1 (e_i2l (e_li 1)) (a_1 (e_j 0) (a_1 (e_i2l (e_b o_isub (e_gf ShM 11 7 (e_lr 0)) (e_i 1))) a_0)))))
noncomputable def f_X11_isStrand : am_F := am_fn 2 (some .boolean) g_X11_isStrand
set_option maxRecDepth 100000 in
theorem sd_X11_isStrand : am_Sd ShM yX11_isStrand cX11_isStrand 2 (some .boolean) 1 f_X11_isStrand := am_meth (y := yX11_isStrand) (ret := (some .boolean)) x_X11_isStrand (by decide) (by decide +kernel) (by decide +kernel)
abbrev S_X11_isHour : am_S := (ShM, cX11_isHour, 1, 1, RX11)
set_option maxRecDepth 100000 in
noncomputable def x_X11_isHour : am_SP S_X11_isHour := (t_rt .ireturn (x_k _ _ (ic_S (S := S_X11_isHour) sd_X11_in ky_X11_in ks_X11_in (by decide) 93 1003 none) (x_a1 (x_i2l (x_iln 0)) (x_a1 (x_lc 0 0 (by decide)) (x_a1 (x_ldc2 159 19 1100) x_a0)))))
noncomputable def g_X11_isHour : am_T := (s_rt .ireturn (e_k (am_cs 3 f_X11_in) (a_1 (e_i2l (e_li 0)) (a_1 (e_j 0) (a_1 (e_j 19) a_0)))))
noncomputable def f_X11_isHour : am_F := am_fn 1 (some .boolean) g_X11_isHour
set_option maxRecDepth 100000 in
theorem sd_X11_isHour : am_Sd ShM yX11_isHour cX11_isHour 1 (some .boolean) 1 f_X11_isHour := am_meth (y := yX11_isHour) (ret := (some .boolean)) x_X11_isHour (by decide) (by decide +kernel) (by decide +kernel)
abbrev S_X11_strandBy : am_S := (ShM, cX11_strandBy, 3, 0, RX11)
set_option maxRecDepth 100000 in
noncomputable def x_X11_strandBy : am_SP S_X11_strandBy := (t_sw 0 [0, 1, 2] 3 27 (x_iln 2) [(t_rt .ireturn (x_ald (x_gf 28 11 8 894 kg_11_8 (x_aln 0)) (x_iln 1))), (t_rt .ireturn (x_ald (x_gf 31 11 9 895 kg_11_9 (x_aln 0)) (x_iln 1))), (t_rt .ireturn (x_ald (x_gf 34 11 10 896 kg_11_10 (x_aln 0)) (x_iln 1))), (t_rt .ireturn (x_c (c_2 .lt (x_isub (x_iln 2) (x_ic 3 3 (by decide))) (x_ald (x_gf 34 11 10 896 kg_11_10 (x_aln 0)) (x_iln 1))) (x_ald (x_gf 37 11 11 897 kg_11_11 (x_aln 0)) (x_isub (x_iadd (x_imul (x_bp 6 6 (by decide)) (x_iln 1)) (x_iln 2)) (x_ic 3 3 (by decide)))) (x_ic (-1) (-1) (by decide))))])
noncomputable def g_X11_strandBy : am_T := (s_sw 0 [0, 1, 2] 3 (e_li 2) [(s_rt .ireturn (e_ald ShM (e_gf ShM 11 8 (e_lr 0)) (e_li 1))), (s_rt .ireturn (e_ald ShM (e_gf ShM 11 9 (e_lr 0)) (e_li 1))), (s_rt .ireturn (e_ald ShM (e_gf ShM 11 10 (e_lr 0)) (e_li 1))), (s_rt .ireturn (e_c (b_2 .lt (e_b o_isub (e_li 2) (e_i 3)) (e_ald ShM (e_gf ShM 11 10 (e_lr 0)) (e_li 1))) (e_ald ShM (e_gf ShM 11 11 (e_lr 0)) (e_b o_isub (e_b o_iadd (e_b o_imul (e_i 6) (e_li 1)) (e_li 2)) (e_i 3))) (e_i (-1))))])
noncomputable def f_X11_strandBy : am_F := am_fn 3 (some .int) g_X11_strandBy
set_option maxRecDepth 100000 in
theorem sd_X11_strandBy : am_Sd ShM yX11_strandBy cX11_strandBy 3 (some .int) 0 f_X11_strandBy := am_meth (y := yX11_strandBy) (ret := (some .int)) x_X11_strandBy (by decide) (by decide +kernel) (by decide +kernel)
abbrev S_X11_strand : am_S := (ShM, cX11_strand, 3, 2, RX11)
set_option maxRecDepth 100000 in
noncomputable def x_X11_strand : am_SP S_X11_strand := (t_sq (t_pop (x_k _ _ (ic_V (S := S_X11_strand) sd_X11_readsStrands ky_X11_readsStrands kv_X11_readsStrands (by decide) 146 1059 none) (x_a1 (x_aln 0) x_a0))) (t_rt .ireturn (x_c (c_and (c_z .ne (x_k _ _ (ic_V (S := S_X11_strand) sd_X11_isStrand ky_X11_isStrand kv_X11_isStrand (by decide) 161 1084 none) (x_a1 (x_aln 0) (x_a1 (x_iln 1) x_a0)))) (c_z .ne (x_k _ _ (ic_S (S := S_X11_strand) sd_X11_in ky_X11_in ks_X11_in (by decide) 93 1003 none) (x_a1 (x_i2l (x_iln 2)) (x_a1 (x_lc 0 0 (by decide)) (x_a1 (x_ldc2 164 8 1088) x_a0)))))) (x_k _ _ (ic_V (S := S_X11_strand) sd_X11_strandBy ky_X11_strandBy kv_X11_strandBy (by decide) 166 1089 none) (x_a1 (x_aln 0) (x_a1 (x_iln 1) (x_a1 (x_iln 2) x_a0)))) (x_bp (-2) (-2) (by decide)))))
noncomputable def g_X11_strand : am_T := (s_sq (s_pop (e_k (am_cl ShM 11 0 f_X11_readsStrands) (a_1 (e_lr 0) a_0))) (s_rt .ireturn (e_c (b_and (b_z .ne (e_k (am_cl ShM 11 1 f_X11_isStrand) (a_1 (e_lr 0) (a_1 (e_li 1) a_0)))) (b_z .ne (e_k (am_cs 3 f_X11_in) (a_1 (e_i2l (e_li 2)) (a_1 (e_j 0) (a_1 (e_j 8) a_0)))))) (e_k (am_cl ShM 11 2 f_X11_strandBy) (a_1 (e_lr 0) (a_1 (e_li 1) (a_1 (e_li 2) a_0)))) (e_i (-2)))))
noncomputable def f_X11_strand : am_F := am_fn 3 (some .int) g_X11_strand
set_option maxRecDepth 100000 in
theorem sd_X11_strand : am_Sd ShM yX11_strand cX11_strand 3 (some .int) 2 f_X11_strand := am_meth (y := yX11_strand) (ret := (some .int)) x_X11_strand (by decide) (by decide +kernel) (by decide +kernel)
abbrev S_X11_tide : am_S := (ShM, cX11_tide, 2, 2, RX11)
set_option maxRecDepth 100000 in
noncomputable def x_X11_tide : am_SP S_X11_tide := (t_sq (t_pop (x_k _ _ (ic_V (S := S_X11_tide) sd_X11_readsTides ky_X11_readsTides kv_X11_readsTides (by decide) 150 1067 none) (x_a1 (x_aln 0) x_a0))) (t_rt .ireturn (x_c (c_z .ne (x_k _ _ (ic_S (S := S_X11_tide) sd_X11_isHour ky_X11_isHour ks_X11_isHour (by decide) 169 1097 none) (x_a1 (x_iln 1) x_a0))) (x_ald (x_gf 40 11 12 898 kg_11_12 (x_aln 0)) (x_iln 1)) (x_bp (-2) (-2) (by decide)))))
noncomputable def g_X11_tide : am_T := (s_sq (s_pop (e_k (am_cl ShM 11 0 f_X11_readsTides) (a_1 (e_lr 0) a_0))) (s_rt .ireturn (e_c (b_z .ne (e_k (am_cs 1 f_X11_isHour) (a_1 (e_li 1) a_0))) (e_ald ShM (e_gf ShM 11 12 (e_lr 0)) (e_li 1)) (e_i (-2)))))
noncomputable def f_X11_tide : am_F := am_fn 2 (some .int) g_X11_tide
set_option maxRecDepth 100000 in
theorem sd_X11_tide : am_Sd ShM yX11_tide cX11_tide 2 (some .int) 2 f_X11_tide := am_meth (y := yX11_tide) (ret := (some .int)) x_X11_tide (by decide) (by decide +kernel) (by decide +kernel)
abbrev S_X11_routeBy : am_S := (ShM, cX11_routeBy, 2, 0, RX11)
set_option maxRecDepth 100000 in
noncomputable def x_X11_routeBy : am_SP S_X11_routeBy := (t_rt .ireturn (x_c (c_2 .lt (x_iln 1) (x_gf 141 11 13 899 kg_11_13 (x_aln 0))) (x_ald (x_gf 43 11 14 900 kg_11_14 (x_aln 0)) (x_iln 1)) (x_ic (-1) (-1) (by decide))))
noncomputable def g_X11_routeBy : am_T := (s_rt .ireturn (e_c (b_2 .lt (e_li 1) (e_gf ShM 11 13 (e_lr 0))) (e_ald ShM (e_gf ShM 11 14 (e_lr 0)) (e_li 1)) (e_i (-1))))
noncomputable def f_X11_routeBy : am_F := am_fn 2 (some .int) g_X11_routeBy
set_option maxRecDepth 100000 in
theorem sd_X11_routeBy : am_Sd ShM yX11_routeBy cX11_routeBy 2 (some .int) 0 f_X11_routeBy := am_meth (y := yX11_routeBy) (ret := (some .int)) x_X11_routeBy (by decide) (by decide +kernel) (by decide +kernel)
abbrev S_X11_route : am_S := (ShM, cX11_route, 2, 2, RX11)
set_option maxRecDepth 100000 in
noncomputable def x_X11_route : am_SP S_X11_route := (t_sq (t_pop (x_k _ _ (ic_V (S := S_X11_route) sd_X11_readsRoute ky_X11_readsRoute kv_X11_readsRoute (by decide) 153 1075 none) (x_a1 (x_aln 0) x_a0))) (t_rt .ireturn (x_c (c_z .ne (x_k _ _ (ic_S (S := S_X11_route) sd_X11_in ky_X11_in ks_X11_in (by decide) 93 1003 none) (x_a1 (x_i2l (x_iln 1)) (x_a1 (x_lc 0 0 (by decide)) (x_a1 (x_ldc2 172 7 1105) x_a0))))) (x_k _ _ (ic_V (S := S_X11_route) sd_X11_routeBy ky_X11_routeBy kv_X11_routeBy (by decide) 174 1106 none) (x_a1 (x_aln 0) (x_a1 (x_iln 1) x_a0))) (x_bp (-2) (-2) (by decide)))))
noncomputable def g_X11_route : am_T := (s_sq (s_pop (e_k (am_cl ShM 11 0 f_X11_readsRoute) (a_1 (e_lr 0) a_0))) (s_rt .ireturn (e_c (b_z .ne (e_k (am_cs 3 f_X11_in) (a_1 (e_i2l (e_li 1)) (a_1 (e_j 0) (a_1 (e_j 7) a_0))))) (e_k (am_cl ShM 11 1 f_X11_routeBy) (a_1 (e_lr 0) (a_1 (e_li 1) a_0))) (e_i (-2)))))
noncomputable def f_X11_route : am_F := am_fn 2 (some .int) g_X11_route
set_option maxRecDepth 100000 in
theorem sd_X11_route : am_Sd ShM yX11_route cX11_route 2 (some .int) 2 f_X11_route := am_meth (y := yX11_route) (ret := (some .int)) x_X11_route (by decide) (by decide +kernel) (by decide +kernel)
abbrev S_X11_puts : am_S := (ShM, cX11_puts, 5, 0, RX11)
set_option maxRecDepth 100000 in
noncomputable def x_X11_puts : am_SP S_X11_puts := (t_sq (t_ia (x_gf 46 11 16 902 kg_11_16 (x_aln 0)) (x_imul (x_ic 4 4 (by decide)) (x_gf 177 11 15 901 kg_11_15 (x_aln 0))) (x_iln 1)) (t_sq (t_ia (x_gf 46 11 16 902 kg_11_16 (x_aln 0)) (x_iadd (x_imul (x_ic 4 4 (by decide)) (x_gf 177 11 15 901 kg_11_15 (x_aln 0))) (x_ic 1 1 (by decide))) (x_iln 2)) (t_sq (t_ia (x_gf 46 11 16 902 kg_11_16 (x_aln 0)) (x_iadd (x_imul (x_ic 4 4 (by decide)) (x_gf 177 11 15 901 kg_11_15 (x_aln 0))) (x_ic 2 2 (by decide))) (x_iln 3)) (t_sq (t_ia (x_gf 46 11 16 902 kg_11_16 (x_aln 0)) (x_iadd (x_imul (x_ic 4 4 (by decide)) (x_gf 177 11 15 901 kg_11_15 (x_aln 0))) (x_ic 3 3 (by decide))) (x_il 4)) (t_sq (t_po 177 11 15 901 901 false kp_11_15 _ _ ib_iadd (x_aln 0) (x_ic 1 1 (by decide))) t_rv)))))
noncomputable def g_X11_puts : am_T := (s_sq (s_ia ShM (e_gf ShM 11 16 (e_lr 0)) (e_b o_imul (e_i 4) (e_gf ShM 11 15 (e_lr 0))) (e_li 1)) (s_sq (s_ia ShM (e_gf ShM 11 16 (e_lr 0)) (e_b o_iadd (e_b o_imul (e_i 4) (e_gf ShM 11 15 (e_lr 0))) (e_i 1)) (e_li 2)) (s_sq (s_ia ShM (e_gf ShM 11 16 (e_lr 0)) (e_b o_iadd (e_b o_imul (e_i 4) (e_gf ShM 11 15 (e_lr 0))) (e_i 2)) (e_li 3)) (s_sq (s_ia ShM (e_gf ShM 11 16 (e_lr 0)) (e_b o_iadd (e_b o_imul (e_i 4) (e_gf ShM 11 15 (e_lr 0))) (e_i 3)) (e_li 4)) (s_sq (s_po ShM 11 15 false o_iadd (e_lr 0) (e_i 1)) s_rv)))))
noncomputable def f_X11_puts : am_F := am_fn 5 none g_X11_puts
set_option maxRecDepth 100000 in
theorem sd_X11_puts : am_Sd ShM yX11_puts cX11_puts 5 none 0 f_X11_puts := am_meth (y := yX11_puts) (ret := none) x_X11_puts (by decide) (by decide +kernel) (by decide +kernel)
abbrev S_X11_event : am_S := (ShM, cX11_event, 5, 2, RX11)
set_option maxRecDepth 100000 in
noncomputable def x_X11_event : am_SP S_X11_event := (t_sq (t_if1 (c_or (c_or (c_or (c_not (c_z .ne (x_k _ _ (ic_S (S := S_X11_event) sd_X11_in ky_X11_in ks_X11_in (by decide) 93 1003 none) (x_a1 (x_i2l (x_iln 1)) (x_a1 (x_lc 0 0 (by decide)) (x_a1 (x_ldc2 107 2 1006) x_a0)))))) (c_not (c_z .ne (x_k _ _ (ic_S (S := S_X11_event) sd_X11_isHour ky_X11_isHour ks_X11_isHour (by decide) 169 1097 none) (x_a1 (x_iln 2) x_a0))))) (c_not (c_z .ne (x_k _ _ (ic_S (S := S_X11_event) sd_X11_in ky_X11_in ks_X11_in (by decide) 93 1003 none) (x_a1 (x_i2l (x_iln 3)) (x_a1 (x_lc 0 0 (by decide)) (x_a1 (x_ldc2 172 7 1105) x_a0))))))) (c_not (c_z .ne (x_k _ _ (ic_S (S := S_X11_event) sd_X11_in ky_X11_in ks_X11_in (by decide) 93 1003 none) (x_a1 (x_i2l (x_il 4)) (x_a1 (x_lc 0 0 (by decide)) (x_a1 (x_ldc2 180 9 1114) x_a0))))))) (t_rt .ireturn (x_bp (-2) (-2) (by decide)))) (t_sq (t_if1 (c_2 .eq (x_gf 177 11 15 901 kg_11_15 (x_aln 0)) (x_bp 8 8 (by decide))) (t_rt .ireturn (x_bp (-4) (-4) (by decide)))) (t_sq (t_k _ _ (ic_V (S := S_X11_event) sd_X11_puts ky_X11_puts kv_X11_puts (by decide) 182 1115 none) (x_a1 (x_aln 0) (x_a1 (x_iln 1) (x_a1 (x_iln 2) (x_a1 (x_iln 3) (x_a1 (x_il 4) x_a0)))))) (t_rt .ireturn (x_gf 177 11 15 901 kg_11_15 (x_aln 0))))))
noncomputable def g_X11_event : am_T := (s_sq (s_if (b_or (b_or (b_or (b_not (b_z .ne (e_k (am_cs 3 f_X11_in) (a_1 (e_i2l (e_li 1)) (a_1 (e_j 0) (a_1 (e_j 2) a_0)))))) (b_not (b_z .ne (e_k (am_cs 1 f_X11_isHour) (a_1 (e_li 2) a_0))))) (b_not (b_z .ne (e_k (am_cs 3 f_X11_in) (a_1 (e_i2l (e_li 3)) (a_1 (e_j 0) (a_1 (e_j 7) a_0))))))) (b_not (b_z .ne (e_k (am_cs 3 f_X11_in) (a_1 (e_i2l (e_li 4)) (a_1 (e_j 0) (a_1 (e_j 9) a_0))))))) (s_rt .ireturn (e_i (-2))) s_0) (s_sq (s_if (b_2 .eq (e_gf ShM 11 15 (e_lr 0)) (e_i 8)) (s_rt .ireturn (e_i (-4))) s_0) (s_sq (s_k (am_cl ShM 11 4 f_X11_puts) (a_1 (e_lr 0) (a_1 (e_li 1) (a_1 (e_li 2) (a_1 (e_li 3) (a_1 (e_li 4) a_0)))))) (s_rt .ireturn (e_gf ShM 11 15 (e_lr 0))))))
noncomputable def f_X11_event : am_F := am_fn 5 (some .int) g_X11_event
set_option maxRecDepth 100000 in
theorem sd_X11_event : am_Sd ShM yX11_event cX11_event 5 (some .int) 2 f_X11_event := am_meth (y := yX11_event) (ret := (some .int)) x_X11_event (by decide) (by decide +kernel) (by decide +kernel)
abbrev S_X11_back : am_S := (ShM, cX11_back, 1, 0, RX11)
set_option maxRecDepth 100000 in
noncomputable def x_X11_back : am_SP S_X11_back := (t_sq (t_if1 (c_z .eq (x_gf 177 11 15 901 kg_11_15 (x_aln 0))) (t_rt .ireturn (x_bp (-3) (-3) (by decide)))) (t_sq (t_po 177 11 15 901 901 false kp_11_15 _ _ ib_isub (x_aln 0) (x_ic 1 1 (by decide))) (t_rt .ireturn (x_gf 177 11 15 901 kg_11_15 (x_aln 0)))))
noncomputable def g_X11_back : am_T := (s_sq (s_if (b_z .eq (e_gf ShM 11 15 (e_lr 0))) (s_rt .ireturn (e_i (-3))) s_0) (s_sq (s_po ShM 11 15 false o_isub (e_lr 0) (e_i 1)) (s_rt .ireturn (e_gf ShM 11 15 (e_lr 0)))))
noncomputable def f_X11_back : am_F := am_fn 1 (some .int) g_X11_back
set_option maxRecDepth 100000 in
theorem sd_X11_back : am_Sd ShM yX11_back cX11_back 1 (some .int) 0 f_X11_back := am_meth (y := yX11_back) (ret := (some .int)) x_X11_back (by decide) (by decide +kernel) (by decide +kernel)
abbrev S_X11_read : am_S := (ShM, cX11_read, 5, 3, RX11)
set_option maxRecDepth 100000 in
noncomputable def x_X11_read : am_SP S_X11_read := (t_sq (t_if1 (c_not (c_z .ne (x_k _ _ (ic_S (S := S_X11_read) sd_X11_isSheet ky_X11_isSheet ks_X11_isSheet (by decide) 103 999 none) (x_a1 (x_iln 1) x_a0)))) (t_rt .ireturn (x_bp (-2) (-2) (by decide)))) (t_sq (t_if1 (c_z .lt (x_ald (x_gf 7 11 0 886 kg_11_0 (x_aln 0)) (x_iln 1))) (t_rt .ireturn (x_k _ _ (ic_V (S := S_X11_read) sd_X11_finds ky_X11_finds kv_X11_finds (by decide) 109 1007 none) (x_a1 (x_aln 0) (x_a1 (x_ic 1 1 (by decide)) x_a0))))) (t_sq (t_isn 2 (x_ic 0 0 (by decide))) (t_sq (t_isn 3 (x_ic 1 1 (by decide))) (t_sq (t_lp (c_and (c_z .ne (x_iln 3)) (c_2 .le (x_iadd (x_imul (x_ic 4 4 (by decide)) (x_iln 2)) (x_ic 4 4 (by decide))) (x_ald (x_gf 13 11 1 887 kg_11_1 (x_aln 0)) (x_iln 1)))) (t_bk (t_sq (t_is 4 (x_iadd (x_imul (x_bp 60 60 (by decide)) (x_iln 1)) (x_imul (x_ic 4 4 (by decide)) (x_iln 2)))) (t_sq (t_isn 3 (x_c (c_z .ge (x_k _ _ (ic_V (S := S_X11_read) sd_X11_event ky_X11_event kv_X11_event (by decide) 186 1127 none) (x_a1 (x_aln 0) (x_a1 (x_ald (x_gf 16 11 2 888 kg_11_2 (x_aln 0)) (x_il 4)) (x_a1 (x_ald (x_gf 16 11 2 888 kg_11_2 (x_aln 0)) (x_iadd (x_il 4) (x_ic 1 1 (by decide)))) (x_a1 (x_ald (x_gf 16 11 2 888 kg_11_2 (x_aln 0)) (x_iadd (x_il 4) (x_ic 2 2 (by decide)))) (x_a1 (x_ald (x_gf 16 11 2 888 kg_11_2 (x_aln 0)) (x_iadd (x_il 4) (x_ic 3 3 (by decide)))) x_a0))))))) (x_ic 1 1 (by decide)) (x_ic 0 0 (by decide)))) (t_isn 2 (x_iadd (x_iln 2) (x_c (c_z .ne (x_iln 3)) (x_ic 1 1 (by decide)) (x_ic 0 0 (by decide))))))))) (t_rt .ireturn (x_iln 2)))))))
noncomputable def g_X11_read : am_T := (s_sq (s_if (b_not (b_z .ne (e_k (am_cs 1 f_X11_isSheet) (a_1 (e_li 1) a_0)))) (s_rt .ireturn (e_i (-2))) s_0) (s_sq (s_if (b_z .lt (e_ald ShM (e_gf ShM 11 0 (e_lr 0)) (e_li 1))) (s_rt .ireturn (e_k (am_cl ShM 11 1 f_X11_finds) (a_1 (e_lr 0) (a_1 (e_i 1) a_0)))) s_0) (s_sq (s_as (o_si 5 2) (e_i 0)) (s_sq (s_as (o_si 5 3) (e_i 1)) (s_sq (s_lp (b_and (b_z .ne (e_li 3)) (b_2 .le (e_b o_iadd (e_b o_imul (e_i 4) (e_li 2)) (e_i 4)) (e_ald ShM (e_gf ShM 11 1 (e_lr 0)) (e_li 1)))) (s_bk (s_sq (s_as (o_si 5 4) (e_b o_iadd (e_b o_imul (e_i 60) (e_li 1)) (e_b o_imul (e_i 4) (e_li 2)))) (s_sq (s_as (o_si 5 3) (e_c (b_z .ge (e_k (am_cl ShM 11 4 f_X11_event) (a_1 (e_lr 0) (a_1 (e_ald ShM (e_gf ShM 11 2 (e_lr 0)) (e_li 4)) (a_1 (e_ald ShM (e_gf ShM 11 2 (e_lr 0)) (e_b o_iadd (e_li 4) (e_i 1))) (a_1 (e_ald ShM (e_gf ShM 11 2 (e_lr 0)) (e_b o_iadd (e_li 4) (e_i 2))) (a_1 (e_ald ShM (e_gf ShM 11 2 (e_lr 0)) (e_b o_iadd (e_li 4) (e_i 3))) a_0))))))) (e_i 1) (e_i 0))) (s_as (o_si 5 2) (e_b o_iadd (e_li 2) (e_c (b_z .ne (e_li 3)) (e_i 1) (e_i 0)))))))) (s_rt .ireturn (e_li 2)))))))
noncomputable def f_X11_read : am_F := am_fn 5 (some .int) g_X11_read
set_option maxRecDepth 100000 in
theorem sd_X11_read : am_Sd ShM yX11_read cX11_read 5 (some .int) 3 f_X11_read := am_meth (y := yX11_read) (ret := (some .int)) x_X11_read (by decide) (by decide +kernel) (by decide +kernel)
abbrev S_X11_lives : am_S := (ShM, cX11_lives, 8, 1, RX11)
set_option maxRecDepth 100000 in
noncomputable def x_X11_lives : am_SP S_X11_lives := (t_sq (t_bk (t_sq (t_isn 1 (x_ic 0 0 (by decide))) (t_lp (c_2 .lt (x_iln 1) (x_bp 8 8 (by decide))) (t_sq (t_sq (t_ia (x_gf 58 11 20 906 kg_11_20 (x_aln 0)) (x_iln 1) (x_ald (x_gf 28 11 8 894 kg_11_8 (x_aln 0)) (x_iln 1))) (t_ia (x_gf 61 11 21 907 kg_11_21 (x_aln 0)) (x_iln 1) (x_ic 0 0 (by decide)))) (t_inc 1 1 1 (by decide)))))) (t_sq (t_isn 1 (x_ic 0 0 (by decide))) (t_sq (t_bk (t_sq (t_isn 2 (x_ic 0 0 (by decide))) (t_lp (c_2 .lt (x_iln 2) (x_bp 20 20 (by decide))) (t_sq (t_sq (t_bk (t_sq (t_isn 3 (x_ic 0 0 (by decide))) (t_lp (c_2 .lt (x_iln 3) (x_gf 177 11 15 901 kg_11_15 (x_aln 0))) (t_sq (t_bk (t_sq (t_is 4 (x_ald (x_gf 46 11 16 902 kg_11_16 (x_aln 0)) (x_iadd (x_imul (x_ic 4 4 (by decide)) (x_iln 3)) (x_ic 2 2 (by decide))))) (t_sq (t_is 5 (x_c (c_and (c_and (c_2 .eq (x_ald (x_gf 46 11 16 902 kg_11_16 (x_aln 0)) (x_iadd (x_imul (x_ic 4 4 (by decide)) (x_iln 3)) (x_ic 1 1 (by decide)))) (x_iln 2)) (c_not (c_z .ne (x_k _ _ (ic_S (S := S_X11_lives) sd_X11_isIn ky_X11_isIn ks_X11_isIn (by decide) 192 1140 none) (x_a1 (x_gf 189 11 22 908 kg_11_22 (x_aln 0)) (x_a1 (x_iln 3) x_a0)))))) (c_2 .lt (x_il 4) (x_gf 127 11 7 893 kg_11_7 (x_aln 0)))) (x_ic 1 1 (by decide)) (x_ic 0 0 (by decide)))) (t_sq (t_is 6 (x_ald (x_gf 46 11 16 902 kg_11_16 (x_aln 0)) (x_imul (x_ic 4 4 (by decide)) (x_iln 3)))) (t_sq (t_is 7 (x_ald (x_gf 46 11 16 902 kg_11_16 (x_aln 0)) (x_iadd (x_imul (x_ic 4 4 (by decide)) (x_iln 3)) (x_ic 3 3 (by decide))))) (t_sq (t_io _ _ ib_ior (x_gf 61 11 21 907 kg_11_21 (x_aln 0)) (x_il 4) (x_c (c_and (c_and (c_z .ne (x_il 5)) (c_z .eq (x_il 6))) (c_2 .lt (x_il 7) (x_ald (x_gf 34 11 10 896 kg_11_10 (x_aln 0)) (x_il 4)))) (x_ishl (x_ic 1 1 (by decide)) (x_il 7)) (x_ic 0 0 (by decide)))) (t_sq (t_isn 1 (x_ior (x_iln 1) (x_c (c_and (c_z .ne (x_il 5)) (c_2 .eq (x_il 6) (x_ic 1 1 (by decide)))) (x_ishl (x_ic 1 1 (by decide)) (x_il 4)) (x_ic 0 0 (by decide))))) (t_ia (x_gf 58 11 20 906 kg_11_20 (x_aln 0)) (x_il 4) (x_c (c_and (c_z .ne (x_il 5)) (c_2 .eq (x_il 6) (x_ic 2 2 (by decide)))) (x_il 7) (x_ald (x_gf 58 11 20 906 kg_11_20 (x_aln 0)) (x_il 4))))))))))) (t_inc 3 1 1 (by decide)))))) (t_sq (t_bk (t_sq (t_isn 3 (x_ic 0 0 (by decide))) (t_lp (c_2 .lt (x_iln 3) (x_gf 127 11 7 893 kg_11_7 (x_aln 0))) (t_sq (t_sq (t_ia (x_gf 49 11 17 903 kg_11_17 (x_aln 0)) (x_iadd (x_imul (x_bp 8 8 (by decide)) (x_iln 2)) (x_iln 3)) (x_ald (x_gf 58 11 20 906 kg_11_20 (x_aln 0)) (x_iln 3))) (t_ia (x_gf 52 11 18 904 kg_11_18 (x_aln 0)) (x_iadd (x_imul (x_bp 8 8 (by decide)) (x_iln 2)) (x_iln 3)) (x_ald (x_gf 61 11 21 907 kg_11_21 (x_aln 0)) (x_iln 3)))) (t_inc 3 1 1 (by decide)))))) (t_ia (x_gf 55 11 19 905 kg_11_19 (x_aln 0)) (x_iln 2) (x_iln 1)))) (t_inc 2 1 1 (by decide)))))) t_rv)))
noncomputable def g_X11_lives : am_T := (s_sq (s_bk (s_sq (s_as (o_si 8 1) (e_i 0)) (s_lp (b_2 .lt (e_li 1) (e_i 8)) (s_sq (s_sq (s_ia ShM (e_gf ShM 11 20 (e_lr 0)) (e_li 1) (e_ald ShM (e_gf ShM 11 8 (e_lr 0)) (e_li 1))) (s_ia ShM (e_gf ShM 11 21 (e_lr 0)) (e_li 1) (e_i 0))) (s_inc 8 1 1))))) (s_sq (s_as (o_si 8 1) (e_i 0)) (s_sq (s_bk (s_sq (s_as (o_si 8 2) (e_i 0)) (s_lp (b_2 .lt (e_li 2) (e_i 20)) (s_sq (s_sq (s_bk (s_sq (s_as (o_si 8 3) (e_i 0)) (s_lp (b_2 .lt (e_li 3) (e_gf ShM 11 15 (e_lr 0))) (s_sq (s_bk (s_sq (s_as (o_si 8 4) (e_ald ShM (e_gf ShM 11 16 (e_lr 0)) (e_b o_iadd (e_b o_imul (e_i 4) (e_li 3)) (e_i 2)))) (s_sq (s_as (o_si 8 5) (e_c (b_and (b_and (b_2 .eq (e_ald ShM (e_gf ShM 11 16 (e_lr 0)) (e_b o_iadd (e_b o_imul (e_i 4) (e_li 3)) (e_i 1))) (e_li 2)) (b_not (b_z .ne (e_k (am_cs 2 f_X11_isIn) (a_1 (e_gf ShM 11 22 (e_lr 0)) (a_1 (e_li 3) a_0)))))) (b_2 .lt (e_li 4) (e_gf ShM 11 7 (e_lr 0)))) (e_i 1) (e_i 0))) (s_sq (s_as (o_si 8 6) (e_ald ShM (e_gf ShM 11 16 (e_lr 0)) (e_b o_imul (e_i 4) (e_li 3)))) (s_sq (s_as (o_si 8 7) (e_ald ShM (e_gf ShM 11 16 (e_lr 0)) (e_b o_iadd (e_b o_imul (e_i 4) (e_li 3)) (e_i 3)))) (s_sq (s_io ShM o_ior (e_gf ShM 11 21 (e_lr 0)) (e_li 4) (e_c (b_and (b_and (b_z .ne (e_li 5)) (b_z .eq (e_li 6))) (b_2 .lt (e_li 7) (e_ald ShM (e_gf ShM 11 10 (e_lr 0)) (e_li 4)))) (e_b o_ishl (e_i 1) (e_li 7)) (e_i 0))) (s_sq (s_as (o_si 8 1) (e_b o_ior (e_li 1) (e_c (b_and (b_z .ne (e_li 5)) (b_2 .eq (e_li 6) (e_i 1))) (e_b o_ishl (e_i 1) (e_li 4)) (e_i 0)))) (s_ia ShM (e_gf ShM 11 20 (e_lr 0)) (e_li 4) (e_c (b_and (b_z .ne (e_li 5)) (b_2 .eq (e_li 6) (e_i 2))) (e_li 7) (e_ald ShM (e_gf ShM 11 20 (e_lr 0)) (e_li 4))))))))))) (s_inc 8 3 1))))) (s_sq (s_bk (s_sq (s_as (o_si 8 3) (e_i 0)) (s_lp (b_2 .lt (e_li 3) (e_gf ShM 11 7 (e_lr 0))) (s_sq (s_sq (s_ia ShM (e_gf ShM 11 17 (e_lr 0)) (e_b o_iadd (e_b o_imul (e_i 8) (e_li 2)) (e_li 3)) (e_ald ShM (e_gf ShM 11 20 (e_lr 0)) (e_li 3))) (s_ia ShM (e_gf ShM 11 18 (e_lr 0)) (e_b o_iadd (e_b o_imul (e_i 8) (e_li 2)) (e_li 3)) (e_ald ShM (e_gf ShM 11 21 (e_lr 0)) (e_li 3)))) (s_inc 8 3 1))))) (s_ia ShM (e_gf ShM 11 19 (e_lr 0)) (e_li 2) (e_li 1)))) (s_inc 8 2 1))))) s_rv)))
noncomputable def f_X11_lives : am_F := am_fn 8 none g_X11_lives
set_option maxRecDepth 100000 in
theorem sd_X11_lives : am_Sd ShM yX11_lives cX11_lives 8 none 1 f_X11_lives := am_meth (y := yX11_lives) (ret := none) x_X11_lives (by decide) (by decide +kernel) (by decide +kernel)
abbrev S_X11_find : am_S := (ShM, cX11_find, 1, 2, RX11)
set_option maxRecDepth 100000 in
noncomputable def x_X11_find : am_SP S_X11_find := (t_sq (t_pop (x_k _ _ (ic_V (S := S_X11_find) sd_X11_readsStrands ky_X11_readsStrands kv_X11_readsStrands (by decide) 146 1059 none) (x_a1 (x_aln 0) x_a0))) (t_sq (t_pop (x_k _ _ (ic_V (S := S_X11_find) sd_X11_readsTides ky_X11_readsTides kv_X11_readsTides (by decide) 150 1067 none) (x_a1 (x_aln 0) x_a0))) (t_sq (t_pop (x_k _ _ (ic_V (S := S_X11_find) sd_X11_readsRoute ky_X11_readsRoute kv_X11_readsRoute (by decide) 153 1075 none) (x_a1 (x_aln 0) x_a0))) (t_sq (t_k _ _ (ic_V (S := S_X11_find) sd_X11_lives ky_X11_lives kv_X11_lives (by decide) 196 1136 none) (x_a1 (x_aln 0) x_a0)) t_rv))))
noncomputable def g_X11_find : am_T := (s_sq (s_pop (e_k (am_cl ShM 11 0 f_X11_readsStrands) (a_1 (e_lr 0) a_0))) (s_sq (s_pop (e_k (am_cl ShM 11 0 f_X11_readsTides) (a_1 (e_lr 0) a_0))) (s_sq (s_pop (e_k (am_cl ShM 11 0 f_X11_readsRoute) (a_1 (e_lr 0) a_0))) (s_sq (s_k (am_cl ShM 11 0 f_X11_lives) (a_1 (e_lr 0) a_0)) s_rv))))
noncomputable def f_X11_find : am_F := am_fn 1 none g_X11_find
set_option maxRecDepth 100000 in
theorem sd_X11_find : am_Sd ShM yX11_find cX11_find 1 none 2 f_X11_find := am_meth (y := yX11_find) (ret := none) x_X11_find (by decide) (by decide +kernel) (by decide +kernel)
abbrev S_X11_lies : am_S := (ShM, cX11_lies, 5, 0, RX11)
set_option maxRecDepth 100000 in
noncomputable def x_X11_lies : am_SP S_X11_lies := (t_sq (t_is 4 (x_isub (x_ald (x_gf 40 11 12 898 kg_11_12 (x_aln 0)) (x_iln 3)) (x_iln 2))) (t_sq (t_if1 (c_z .lt (x_il 4)) (t_rt .ireturn (x_ic 0 0 (by decide)))) (t_sq (t_if1 (c_2 .gt (x_il 4) (x_c (c_2 .eq (x_iln 1) (x_ic 1 1 (by decide))) (x_ic 4 4 (by decide)) (x_ic 2 2 (by decide)))) (t_rt .ireturn (x_ic 2 2 (by decide)))) (t_rt .ireturn (x_c (c_and (c_2 .eq (x_iln 1) (x_ic 2 2 (by decide))) (c_2 .lt (x_iln 3) (x_bp 10 10 (by decide)))) (x_ic 4 4 (by decide)) (x_ic 1 1 (by decide)))))))
noncomputable def g_X11_lies : am_T := (s_sq (s_as (o_si 5 4) (e_b o_isub (e_ald ShM (e_gf ShM 11 12 (e_lr 0)) (e_li 3)) (e_li 2))) (s_sq (s_if (b_z .lt (e_li 4)) (s_rt .ireturn (e_i 0)) s_0) (s_sq (s_if (b_2 .gt (e_li 4) (e_c (b_2 .eq (e_li 1) (e_i 1)) (e_i 4) (e_i 2))) (s_rt .ireturn (e_i 2)) s_0) (s_rt .ireturn (e_c (b_and (b_2 .eq (e_li 1) (e_i 2)) (b_2 .lt (e_li 3) (e_i 10))) (e_i 4) (e_i 1))))))
noncomputable def f_X11_lies : am_F := am_fn 5 (some .int) g_X11_lies
set_option maxRecDepth 100000 in
theorem sd_X11_lies : am_Sd ShM yX11_lies cX11_lies 5 (some .int) 0 f_X11_lies := am_meth (y := yX11_lies) (ret := (some .int)) x_X11_lies (by decide) (by decide +kernel) (by decide +kernel)
abbrev S_X11_stateOf : am_S := (ShM, cX11_stateOf, 3, 1, RX11)
set_option maxRecDepth 100000 in
noncomputable def x_X11_stateOf : am_SP S_X11_stateOf := (t_rt .ireturn (x_c (c_z .ne (x_k _ _ (ic_S (S := S_X11_stateOf) sd_X11_isIn ky_X11_isIn ks_X11_isIn (by decide) 192 1140 none) (x_a1 (x_ald (x_gf 55 11 19 905 kg_11_19 (x_aln 0)) (x_iln 1)) (x_a1 (x_iln 2) x_a0)))) (x_ic 3 3 (by decide)) (x_k _ _ (ic_V (S := S_X11_stateOf) sd_X11_lies ky_X11_lies kv_X11_lies (by decide) 199 1150 none) (x_a1 (x_aln 0) (x_a1 (x_ald (x_gf 31 11 9 895 kg_11_9 (x_aln 0)) (x_iln 2)) (x_a1 (x_ald (x_gf 49 11 17 903 kg_11_17 (x_aln 0)) (x_iadd (x_imul (x_bp 8 8 (by decide)) (x_iln 1)) (x_iln 2))) (x_a1 (x_iln 1) x_a0)))))))
noncomputable def g_X11_stateOf : am_T := (s_rt .ireturn (e_c (b_z .ne (e_k (am_cs 2 f_X11_isIn) (a_1 (e_ald ShM (e_gf ShM 11 19 (e_lr 0)) (e_li 1)) (a_1 (e_li 2) a_0)))) (e_i 3) (e_k (am_cl ShM 11 3 f_X11_lies) (a_1 (e_lr 0) (a_1 (e_ald ShM (e_gf ShM 11 9 (e_lr 0)) (e_li 2)) (a_1 (e_ald ShM (e_gf ShM 11 17 (e_lr 0)) (e_b o_iadd (e_b o_imul (e_i 8) (e_li 1)) (e_li 2))) (a_1 (e_li 1) a_0)))))))
noncomputable def f_X11_stateOf : am_F := am_fn 3 (some .int) g_X11_stateOf
set_option maxRecDepth 100000 in
theorem sd_X11_stateOf : am_Sd ShM yX11_stateOf cX11_stateOf 3 (some .int) 1 f_X11_stateOf := am_meth (y := yX11_stateOf) (ret := (some .int)) x_X11_stateOf (by decide) (by decide +kernel) (by decide +kernel)
abbrev S_X11_state : am_S := (ShM, cX11_state, 4, 3, RX11)
set_option maxRecDepth 100000 in
noncomputable def x_X11_state : am_SP S_X11_state := (t_sq (t_k _ _ (ic_V (S := S_X11_state) sd_X11_find ky_X11_find kv_X11_find (by decide) 202 1132 none) (x_a1 (x_aln 0) x_a0)) (t_rt .ireturn (x_c (c_or (c_or (c_not (c_z .ne (x_k _ _ (ic_S (S := S_X11_state) sd_X11_isHour ky_X11_isHour ks_X11_isHour (by decide) 169 1097 none) (x_a1 (x_iln 1) x_a0)))) (c_not (c_z .ne (x_k _ _ (ic_V (S := S_X11_state) sd_X11_isStrand ky_X11_isStrand kv_X11_isStrand (by decide) 161 1084 none) (x_a1 (x_aln 0) (x_a1 (x_iln 2) x_a0)))))) (c_not (c_z .ne (x_k _ _ (ic_S (S := S_X11_state) sd_X11_isTwo ky_X11_isTwo ks_X11_isTwo (by decide) 205 1143 none) (x_a1 (x_iln 3) x_a0))))) (x_bp (-2) (-2) (by decide)) (x_c (c_z .eq (x_iln 3)) (x_k _ _ (ic_V (S := S_X11_state) sd_X11_stateOf ky_X11_stateOf kv_X11_stateOf (by decide) 208 1146 none) (x_a1 (x_aln 0) (x_a1 (x_iln 1) (x_a1 (x_iln 2) x_a0)))) (x_ald (x_gf 49 11 17 903 kg_11_17 (x_aln 0)) (x_iadd (x_imul (x_bp 8 8 (by decide)) (x_iln 1)) (x_iln 2)))))))
noncomputable def g_X11_state : am_T := (s_sq (s_k (am_cl ShM 11 0 f_X11_find) (a_1 (e_lr 0) a_0)) (s_rt .ireturn (e_c (b_or (b_or (b_not (b_z .ne (e_k (am_cs 1 f_X11_isHour) (a_1 (e_li 1) a_0)))) (b_not (b_z .ne (e_k (am_cl ShM 11 1 f_X11_isStrand) (a_1 (e_lr 0) (a_1 (e_li 2) a_0)))))) (b_not (b_z .ne (e_k (am_cs 1 f_X11_isTwo) (a_1 (e_li 3) a_0))))) (e_i (-2)) (e_c (b_z .eq (e_li 3)) (e_k (am_cl ShM 11 2 f_X11_stateOf) (a_1 (e_lr 0) (a_1 (e_li 1) (a_1 (e_li 2) a_0)))) (e_ald ShM (e_gf ShM 11 17 (e_lr 0)) (e_b o_iadd (e_b o_imul (e_i 8) (e_li 1)) (e_li 2)))))))
noncomputable def f_X11_state : am_F := am_fn 4 (some .int) g_X11_state
set_option maxRecDepth 100000 in
theorem sd_X11_state : am_Sd ShM yX11_state cX11_state 4 (some .int) 3 f_X11_state := am_meth (y := yX11_state) (ret := (some .int)) x_X11_state (by decide) (by decide +kernel) (by decide +kernel)
abbrev S_X11_isPopped : am_S := (ShM, cX11_isPopped, 4, 1, RX11)
set_option maxRecDepth 100000 in
noncomputable def x_X11_isPopped : am_SP S_X11_isPopped := (t_rt .ireturn (x_c (c_or (c_z .ne (x_k _ _ (ic_S (S := S_X11_isPopped) sd_X11_isIn ky_X11_isIn ks_X11_isIn (by decide) 192 1140 none) (x_a1 (x_ald (x_gf 55 11 19 905 kg_11_19 (x_aln 0)) (x_iln 1)) (x_a1 (x_iln 2) x_a0)))) (c_z .ne (x_k _ _ (ic_S (S := S_X11_isPopped) sd_X11_isIn ky_X11_isIn ks_X11_isIn (by decide) 192 1140 none) (x_a1 (x_ald (x_gf 52 11 18 904 kg_11_18 (x_aln 0)) (x_iadd (x_imul (x_bp 8 8 (by decide)) (x_iln 1)) (x_iln 2))) (x_a1 (x_iln 3) x_a0))))) (x_ic 1 1 (by decide)) (x_ic 0 0 (by decide))))
noncomputable def g_X11_isPopped : am_T := (s_rt .ireturn (e_c (b_or (b_z .ne (e_k (am_cs 2 f_X11_isIn) (a_1 (e_ald ShM (e_gf ShM 11 19 (e_lr 0)) (e_li 1)) (a_1 (e_li 2) a_0)))) (b_z .ne (e_k (am_cs 2 f_X11_isIn) (a_1 (e_ald ShM (e_gf ShM 11 18 (e_lr 0)) (e_b o_iadd (e_b o_imul (e_i 8) (e_li 1)) (e_li 2))) (a_1 (e_li 3) a_0))))) (e_i 1) (e_i 0)))
noncomputable def f_X11_isPopped : am_F := am_fn 4 (some .boolean) g_X11_isPopped
set_option maxRecDepth 100000 in
theorem sd_X11_isPopped : am_Sd ShM yX11_isPopped cX11_isPopped 4 (some .boolean) 1 f_X11_isPopped := am_meth (y := yX11_isPopped) (ret := (some .boolean)) x_X11_isPopped (by decide) (by decide +kernel) (by decide +kernel)
abbrev S_X11_saysOf : am_S := (ShM, cX11_saysOf, 4, 2, RX11)
set_option maxRecDepth 100000 in
noncomputable def x_X11_saysOf : am_SP S_X11_saysOf := (t_rt .ireturn (x_c (c_2 .ge (x_iln 3) (x_ald (x_gf 34 11 10 896 kg_11_10 (x_aln 0)) (x_iln 2))) (x_ic (-1) (-1) (by decide)) (x_c (c_z .ne (x_k _ _ (ic_V (S := S_X11_saysOf) sd_X11_isPopped ky_X11_isPopped kv_X11_isPopped (by decide) 211 1163 none) (x_a1 (x_aln 0) (x_a1 (x_iln 1) (x_a1 (x_iln 2) (x_a1 (x_iln 3) x_a0)))))) (x_ic 4 4 (by decide)) (x_ald (x_gf 37 11 11 897 kg_11_11 (x_aln 0)) (x_iadd (x_imul (x_bp 6 6 (by decide)) (x_iln 2)) (x_iln 3))))))
noncomputable def g_X11_saysOf : am_T := (s_rt .ireturn (e_c (b_2 .ge (e_li 3) (e_ald ShM (e_gf ShM 11 10 (e_lr 0)) (e_li 2))) (e_i (-1)) (e_c (b_z .ne (e_k (am_cl ShM 11 3 f_X11_isPopped) (a_1 (e_lr 0) (a_1 (e_li 1) (a_1 (e_li 2) (a_1 (e_li 3) a_0)))))) (e_i 4) (e_ald ShM (e_gf ShM 11 11 (e_lr 0)) (e_b o_iadd (e_b o_imul (e_i 6) (e_li 2)) (e_li 3))))))
noncomputable def f_X11_saysOf : am_F := am_fn 4 (some .int) g_X11_saysOf
set_option maxRecDepth 100000 in
theorem sd_X11_saysOf : am_Sd ShM yX11_saysOf cX11_saysOf 4 (some .int) 2 f_X11_saysOf := am_meth (y := yX11_saysOf) (ret := (some .int)) x_X11_saysOf (by decide) (by decide +kernel) (by decide +kernel)
abbrev S_X11_says : am_S := (ShM, cX11_says, 4, 3, RX11)
set_option maxRecDepth 100000 in
noncomputable def x_X11_says : am_SP S_X11_says := (t_sq (t_k _ _ (ic_V (S := S_X11_says) sd_X11_find ky_X11_find kv_X11_find (by decide) 202 1132 none) (x_a1 (x_aln 0) x_a0)) (t_rt .ireturn (x_c (c_and (c_and (c_z .ne (x_k _ _ (ic_S (S := S_X11_says) sd_X11_isHour ky_X11_isHour ks_X11_isHour (by decide) 169 1097 none) (x_a1 (x_iln 1) x_a0))) (c_z .ne (x_k _ _ (ic_V (S := S_X11_says) sd_X11_isStrand ky_X11_isStrand kv_X11_isStrand (by decide) 161 1084 none) (x_a1 (x_aln 0) (x_a1 (x_iln 2) x_a0))))) (c_z .ne (x_k _ _ (ic_S (S := S_X11_says) sd_X11_in ky_X11_in ks_X11_in (by decide) 93 1003 none) (x_a1 (x_i2l (x_iln 3)) (x_a1 (x_lc 0 0 (by decide)) (x_a1 (x_ldc2 215 5 1158) x_a0)))))) (x_k _ _ (ic_V (S := S_X11_says) sd_X11_saysOf ky_X11_saysOf kv_X11_saysOf (by decide) 217 1159 none) (x_a1 (x_aln 0) (x_a1 (x_iln 1) (x_a1 (x_iln 2) (x_a1 (x_iln 3) x_a0))))) (x_bp (-2) (-2) (by decide)))))
noncomputable def g_X11_says : am_T := (s_sq (s_k (am_cl ShM 11 0 f_X11_find) (a_1 (e_lr 0) a_0)) (s_rt .ireturn (e_c (b_and (b_and (b_z .ne (e_k (am_cs 1 f_X11_isHour) (a_1 (e_li 1) a_0))) (b_z .ne (e_k (am_cl ShM 11 1 f_X11_isStrand) (a_1 (e_lr 0) (a_1 (e_li 2) a_0))))) (b_z .ne (e_k (am_cs 3 f_X11_in) (a_1 (e_i2l (e_li 3)) (a_1 (e_j 0) (a_1 (e_j 5) a_0)))))) (e_k (am_cl ShM 11 3 f_X11_saysOf) (a_1 (e_lr 0) (a_1 (e_li 1) (a_1 (e_li 2) (a_1 (e_li 3) a_0))))) (e_i (-2)))))
noncomputable def f_X11_says : am_F := am_fn 4 (some .int) g_X11_says
set_option maxRecDepth 100000 in
theorem sd_X11_says : am_Sd ShM yX11_says cX11_says 4 (some .int) 3 f_X11_says := am_meth (y := yX11_says) (ret := (some .int)) x_X11_says (by decide) (by decide +kernel) (by decide +kernel)
abbrev S_X11_hangsOn : am_S := (ShM, cX11_hangsOn, 3, 0, RX11)
set_option maxRecDepth 100000 in
noncomputable def x_X11_hangsOn : am_SP S_X11_hangsOn := (t_sq (t_bk (t_sq (t_isn 2 (x_ic 0 0 (by decide))) (t_lp (c_2 .lt (x_iln 2) (x_gf 127 11 7 893 kg_11_7 (x_aln 0))) (t_sq (t_if1 (c_and (c_2 .ne (x_iln 2) (x_iln 1)) (c_2 .eq (x_ald (x_gf 37 11 11 897 kg_11_11 (x_aln 0)) (x_imul (x_bp 6 6 (by decide)) (x_iln 2))) (x_ald (x_gf 37 11 11 897 kg_11_11 (x_aln 0)) (x_isub (x_iadd (x_imul (x_bp 6 6 (by decide)) (x_iln 1)) (x_ald (x_gf 34 11 10 896 kg_11_10 (x_aln 0)) (x_iln 1))) (x_ic 1 1 (by decide)))))) (t_rt .ireturn (x_iln 2))) (t_inc 2 1 1 (by decide)))))) (t_rt .ireturn (x_ic (-1) (-1) (by decide))))
noncomputable def g_X11_hangsOn : am_T := (s_sq (s_bk (s_sq (s_as (o_si 3 2) (e_i 0)) (s_lp (b_2 .lt (e_li 2) (e_gf ShM 11 7 (e_lr 0))) (s_sq (s_if (b_and (b_2 .ne (e_li 2) (e_li 1)) (b_2 .eq (e_ald ShM (e_gf ShM 11 11 (e_lr 0)) (e_b o_imul (e_i 6) (e_li 2))) (e_ald ShM (e_gf ShM 11 11 (e_lr 0)) (e_b o_isub (e_b o_iadd (e_b o_imul (e_i 6) (e_li 1)) (e_ald ShM (e_gf ShM 11 10 (e_lr 0)) (e_li 1))) (e_i 1))))) (s_rt .ireturn (e_li 2)) s_0) (s_inc 3 2 1))))) (s_rt .ireturn (e_i (-1))))
noncomputable def f_X11_hangsOn : am_F := am_fn 3 (some .int) g_X11_hangsOn
set_option maxRecDepth 100000 in
theorem sd_X11_hangsOn : am_Sd ShM yX11_hangsOn cX11_hangsOn 3 (some .int) 0 f_X11_hangsOn := am_meth (y := yX11_hangsOn) (ret := (some .int)) x_X11_hangsOn (by decide) (by decide +kernel) (by decide +kernel)
end
section
/-! xor -/
theorem ib_ixor {S : am_S} : am_IB S (.ixor, 1, none) (o_ii (fun x y => x ^^^ y)) := by
  rintro ⟨p, l, e, R, s, m, args, below, meth, c, Q, D, cs, ad, A, nc, ns⟩ hO pc hf env st μ v1 v2 w hw k H locs ls hP hD hS hl
  obtain ⟨x, y, rfl, rfl, rfl⟩ := o_ii_ok hw
  exact lv_ixor hO.1 hO.2.1 hf.1 (k H locs ls hP hD hS hl)
def x_ixor {S : am_S} (a b : am_XP S) : am_XP S := x_b _ _ ib_ixor a b
abbrev o_ixor : AV → AV → am_M → Option AV := o_ii (fun x y => x ^^^ y)
end
section
/-! methods as forms, by program (gen.py, mkm.py): x_ the form, g_ and f_ the meaning, sd_ the contract -/
abbrev S_X11_legibleOf : am_S := (ShM, cX11_legibleOf, 4, 2, RX11)
set_option maxRecDepth 100000 in
noncomputable def x_X11_legibleOf : am_SP S_X11_legibleOf := (t_sq (t_isn 2 (x_ic 0 0 (by decide))) (t_sq (t_bk (t_sq (t_isn 3 (x_ic 0 0 (by decide))) (t_lp (c_2 .lt (x_iln 3) (x_bp 20 20 (by decide))) (t_sq (t_isn 2 (x_iadd (x_iln 2) (x_c (c_2 .eq (x_k _ _ (ic_V (S := S_X11_legibleOf) sd_X11_stateOf ky_X11_stateOf kv_X11_stateOf (by decide) 208 1146 none) (x_a1 (x_aln 0) (x_a1 (x_iln 3) (x_a1 (x_iln 1) x_a0)))) (x_ic 1 1 (by decide))) (x_ic 1 1 (by decide)) (x_ic 0 0 (by decide))))) (t_inc 3 1 1 (by decide)))))) (t_rt .ireturn (x_iln 2))))
noncomputable def g_X11_legibleOf : am_T := (s_sq (s_as (o_si 4 2) (e_i 0)) (s_sq (s_bk (s_sq (s_as (o_si 4 3) (e_i 0)) (s_lp (b_2 .lt (e_li 3) (e_i 20)) (s_sq (s_as (o_si 4 2) (e_b o_iadd (e_li 2) (e_c (b_2 .eq (e_k (am_cl ShM 11 2 f_X11_stateOf) (a_1 (e_lr 0) (a_1 (e_li 3) (a_1 (e_li 1) a_0)))) (e_i 1)) (e_i 1) (e_i 0)))) (s_inc 4 3 1))))) (s_rt .ireturn (e_li 2))))
noncomputable def f_X11_legibleOf : am_F := am_fn 4 (some .int) g_X11_legibleOf
set_option maxRecDepth 100000 in
theorem sd_X11_legibleOf : am_Sd ShM yX11_legibleOf cX11_legibleOf 4 (some .int) 2 f_X11_legibleOf := am_meth (y := yX11_legibleOf) (ret := (some .int)) x_X11_legibleOf (by decide) (by decide +kernel) (by decide +kernel)
abbrev S_X11_deed : am_S := (ShM, cX11_deed, 3, 3, RX11)
set_option maxRecDepth 100000 in
noncomputable def x_X11_deed : am_SP S_X11_deed := (t_sq (t_k _ _ (ic_V (S := S_X11_deed) sd_X11_find ky_X11_find kv_X11_find (by decide) 202 1132 none) (x_a1 (x_aln 0) x_a0)) (t_rt .ireturn (x_c (c_or (c_not (c_z .ne (x_k _ _ (ic_V (S := S_X11_deed) sd_X11_isStrand ky_X11_isStrand kv_X11_isStrand (by decide) 161 1084 none) (x_a1 (x_aln 0) (x_a1 (x_iln 1) x_a0))))) (c_not (c_z .ne (x_k _ _ (ic_S (S := S_X11_deed) sd_X11_isTwo ky_X11_isTwo ks_X11_isTwo (by decide) 205 1143 none) (x_a1 (x_iln 2) x_a0))))) (x_bp (-2) (-2) (by decide)) (x_c (c_z .eq (x_iln 2)) (x_k _ _ (ic_V (S := S_X11_deed) sd_X11_legibleOf ky_X11_legibleOf kv_X11_legibleOf (by decide) 220 1171 none) (x_a1 (x_aln 0) (x_a1 (x_iln 1) x_a0))) (x_k _ _ (ic_V (S := S_X11_deed) sd_X11_hangsOn ky_X11_hangsOn kv_X11_hangsOn (by decide) 223 1175 none) (x_a1 (x_aln 0) (x_a1 (x_iln 1) x_a0)))))))
noncomputable def g_X11_deed : am_T := (s_sq (s_k (am_cl ShM 11 0 f_X11_find) (a_1 (e_lr 0) a_0)) (s_rt .ireturn (e_c (b_or (b_not (b_z .ne (e_k (am_cl ShM 11 1 f_X11_isStrand) (a_1 (e_lr 0) (a_1 (e_li 1) a_0))))) (b_not (b_z .ne (e_k (am_cs 1 f_X11_isTwo) (a_1 (e_li 2) a_0))))) (e_i (-2)) (e_c (b_z .eq (e_li 2)) (e_k (am_cl ShM 11 1 f_X11_legibleOf) (a_1 (e_lr 0) (a_1 (e_li 1) a_0))) (e_k (am_cl ShM 11 1 f_X11_hangsOn) (a_1 (e_lr 0) (a_1 (e_li 1) a_0)))))))
noncomputable def f_X11_deed : am_F := am_fn 3 (some .int) g_X11_deed
set_option maxRecDepth 100000 in
theorem sd_X11_deed : am_Sd ShM yX11_deed cX11_deed 3 (some .int) 3 f_X11_deed := am_meth (y := yX11_deed) (ret := (some .int)) x_X11_deed (by decide) (by decide +kernel) (by decide +kernel)
abbrev S_X11_isVoid : am_S := (ShM, cX11_isVoid, 6, 1, RX11)
set_option maxRecDepth 100000 in
noncomputable def x_X11_isVoid : am_SP S_X11_isVoid := (t_sq (t_isn 3 (x_iln 2)) (t_sq (t_is 4 (x_ic 0 0 (by decide))) (t_sq (t_bk (t_sq (t_is 5 (x_ic 0 0 (by decide))) (t_lp (c_and (c_2 .lt (x_il 5) (x_bp 8 8 (by decide))) (c_2 .ne (x_iln 3) (x_ic (-1) (-1) (by decide)))) (t_sq (t_sq (t_is 4 (x_c (c_or (c_z .ne (x_il 4)) (c_z .ne (x_k _ _ (ic_S (S := S_X11_isVoid) sd_X11_isIn ky_X11_isIn ks_X11_isIn (by decide) 192 1140 none) (x_a1 (x_ald (x_gf 55 11 19 905 kg_11_19 (x_aln 0)) (x_iln 1)) (x_a1 (x_iln 3) x_a0))))) (x_ic 1 1 (by decide)) (x_ic 0 0 (by decide)))) (t_isn 3 (x_k _ _ (ic_V (S := S_X11_isVoid) sd_X11_hangsOn ky_X11_hangsOn kv_X11_hangsOn (by decide) 223 1175 none) (x_a1 (x_aln 0) (x_a1 (x_iln 3) x_a0))))) (t_inc 5 1 1 (by decide)))))) (t_rt .ireturn (x_il 4)))))
noncomputable def g_X11_isVoid : am_T := (s_sq (s_as (o_si 6 3) (e_li 2)) (s_sq (s_as (o_si 6 4) (e_i 0)) (s_sq (s_bk (s_sq (s_as (o_si 6 5) (e_i 0)) (s_lp (b_and (b_2 .lt (e_li 5) (e_i 8)) (b_2 .ne (e_li 3) (e_i (-1)))) (s_sq (s_sq (s_as (o_si 6 4) (e_c (b_or (b_z .ne (e_li 4)) (b_z .ne (e_k (am_cs 2 f_X11_isIn) (a_1 (e_ald ShM (e_gf ShM 11 19 (e_lr 0)) (e_li 1)) (a_1 (e_li 3) a_0))))) (e_i 1) (e_i 0))) (s_as (o_si 6 3) (e_k (am_cl ShM 11 1 f_X11_hangsOn) (a_1 (e_lr 0) (a_1 (e_li 3) a_0))))) (s_inc 6 5 1))))) (s_rt .ireturn (e_li 4)))))
noncomputable def f_X11_isVoid : am_F := am_fn 6 (some .boolean) g_X11_isVoid
set_option maxRecDepth 100000 in
theorem sd_X11_isVoid : am_Sd ShM yX11_isVoid cX11_isVoid 6 (some .boolean) 1 f_X11_isVoid := am_meth (y := yX11_isVoid) (ret := (some .boolean)) x_X11_isVoid (by decide) (by decide +kernel) (by decide +kernel)
abbrev S_X11_voidsBy : am_S := (ShM, cX11_voidsBy, 4, 2, RX11)
set_option maxRecDepth 100000 in
noncomputable def x_X11_voidsBy : am_SP S_X11_voidsBy := (t_sq (t_isn 2 (x_ic 0 0 (by decide))) (t_sq (t_bk (t_sq (t_isn 3 (x_ic 0 0 (by decide))) (t_lp (c_2 .lt (x_iln 3) (x_gf 127 11 7 893 kg_11_7 (x_aln 0))) (t_sq (t_isn 2 (x_ior (x_iln 2) (x_c (c_z .ne (x_k _ _ (ic_V (S := S_X11_voidsBy) sd_X11_isVoid ky_X11_isVoid kv_X11_isVoid (by decide) 226 1187 none) (x_a1 (x_aln 0) (x_a1 (x_iln 1) (x_a1 (x_iln 3) x_a0))))) (x_ishl (x_ic 1 1 (by decide)) (x_iln 3)) (x_ic 0 0 (by decide))))) (t_inc 3 1 1 (by decide)))))) (t_rt .ireturn (x_iln 2))))
noncomputable def g_X11_voidsBy : am_T := (s_sq (s_as (o_si 4 2) (e_i 0)) (s_sq (s_bk (s_sq (s_as (o_si 4 3) (e_i 0)) (s_lp (b_2 .lt (e_li 3) (e_gf ShM 11 7 (e_lr 0))) (s_sq (s_as (o_si 4 2) (e_b o_ior (e_li 2) (e_c (b_z .ne (e_k (am_cl ShM 11 2 f_X11_isVoid) (a_1 (e_lr 0) (a_1 (e_li 1) (a_1 (e_li 3) a_0))))) (e_b o_ishl (e_i 1) (e_li 3)) (e_i 0)))) (s_inc 4 3 1))))) (s_rt .ireturn (e_li 2))))
noncomputable def f_X11_voidsBy : am_F := am_fn 4 (some .int) g_X11_voidsBy
set_option maxRecDepth 100000 in
theorem sd_X11_voidsBy : am_Sd ShM yX11_voidsBy cX11_voidsBy 4 (some .int) 2 f_X11_voidsBy := am_meth (y := yX11_voidsBy) (ret := (some .int)) x_X11_voidsBy (by decide) (by decide +kernel) (by decide +kernel)
abbrev S_X11_voids : am_S := (ShM, cX11_voids, 2, 3, RX11)
set_option maxRecDepth 100000 in
noncomputable def x_X11_voids : am_SP S_X11_voids := (t_sq (t_k _ _ (ic_V (S := S_X11_voids) sd_X11_find ky_X11_find kv_X11_find (by decide) 202 1132 none) (x_a1 (x_aln 0) x_a0)) (t_rt .ireturn (x_c (c_z .ne (x_k _ _ (ic_S (S := S_X11_voids) sd_X11_isHour ky_X11_isHour ks_X11_isHour (by decide) 169 1097 none) (x_a1 (x_iln 1) x_a0))) (x_k _ _ (ic_V (S := S_X11_voids) sd_X11_voidsBy ky_X11_voidsBy kv_X11_voidsBy (by decide) 229 1183 none) (x_a1 (x_aln 0) (x_a1 (x_iln 1) x_a0))) (x_bp (-2) (-2) (by decide)))))
noncomputable def g_X11_voids : am_T := (s_sq (s_k (am_cl ShM 11 0 f_X11_find) (a_1 (e_lr 0) a_0)) (s_rt .ireturn (e_c (b_z .ne (e_k (am_cs 1 f_X11_isHour) (a_1 (e_li 1) a_0))) (e_k (am_cl ShM 11 1 f_X11_voidsBy) (a_1 (e_lr 0) (a_1 (e_li 1) a_0))) (e_i (-2)))))
noncomputable def f_X11_voids : am_F := am_fn 2 (some .int) g_X11_voids
set_option maxRecDepth 100000 in
theorem sd_X11_voids : am_Sd ShM yX11_voids cX11_voids 2 (some .int) 3 f_X11_voids := am_meth (y := yX11_voids) (ret := (some .int)) x_X11_voids (by decide) (by decide +kernel) (by decide +kernel)
abbrev S_X11_forgedNow : am_S := (ShM, cX11_forgedNow, 5, 0, RX11)
set_option maxRecDepth 100000 in
noncomputable def x_X11_forgedNow : am_SP S_X11_forgedNow := (t_sq (t_isn 1 (x_ic 0 0 (by decide))) (t_sq (t_bk (t_sq (t_isn 2 (x_ic 0 0 (by decide))) (t_lp (c_2 .lt (x_iln 2) (x_gf 127 11 7 893 kg_11_7 (x_aln 0))) (t_sq (t_bk (t_sq (t_isn 3 (x_c (c_z .eq (x_irem (x_ald (x_gf 34 11 10 896 kg_11_10 (x_aln 0)) (x_iln 2)) (x_ic 2 2 (by decide)))) (x_ic 1 1 (by decide)) (x_ic 0 0 (by decide)))) (t_sq (t_bk (t_sq (t_is 4 (x_ic 0 0 (by decide))) (t_lp (c_2 .lt (x_iadd (x_il 4) (x_ic 1 1 (by decide))) (x_ald (x_gf 34 11 10 896 kg_11_10 (x_aln 0)) (x_iln 2))) (t_sq (t_isn 3 (x_c (c_and (c_z .ne (x_iln 3)) (c_2 .eq (x_ald (x_gf 37 11 11 897 kg_11_11 (x_aln 0)) (x_iadd (x_imul (x_bp 6 6 (by decide)) (x_iln 2)) (x_il 4))) (x_ald (x_gf 37 11 11 897 kg_11_11 (x_aln 0)) (x_iadd (x_iadd (x_imul (x_bp 6 6 (by decide)) (x_iln 2)) (x_il 4)) (x_ic 1 1 (by decide)))))) (x_ic 1 1 (by decide)) (x_ic 0 0 (by decide)))) (t_inc 4 2 2 (by decide)))))) (t_isn 1 (x_ior (x_iln 1) (x_c (c_z .ne (x_iln 3)) (x_ishl (x_ic 1 1 (by decide)) (x_iln 2)) (x_ic 0 0 (by decide)))))))) (t_inc 2 1 1 (by decide)))))) (t_rt .ireturn (x_iln 1))))
noncomputable def g_X11_forgedNow : am_T := (s_sq (s_as (o_si 5 1) (e_i 0)) (s_sq (s_bk (s_sq (s_as (o_si 5 2) (e_i 0)) (s_lp (b_2 .lt (e_li 2) (e_gf ShM 11 7 (e_lr 0))) (s_sq (s_bk (s_sq (s_as (o_si 5 3) (e_c (b_z .eq (e_b o_irem (e_ald ShM (e_gf ShM 11 10 (e_lr 0)) (e_li 2)) (e_i 2))) (e_i 1) (e_i 0))) (s_sq (s_bk (s_sq (s_as (o_si 5 4) (e_i 0)) (s_lp (b_2 .lt (e_b o_iadd (e_li 4) (e_i 1)) (e_ald ShM (e_gf ShM 11 10 (e_lr 0)) (e_li 2))) (s_sq (s_as (o_si 5 3) (e_c (b_and (b_z .ne (e_li 3)) (b_2 .eq (e_ald ShM (e_gf ShM 11 11 (e_lr 0)) (e_b o_iadd (e_b o_imul (e_i 6) (e_li 2)) (e_li 4))) (e_ald ShM (e_gf ShM 11 11 (e_lr 0)) (e_b o_iadd (e_b o_iadd (e_b o_imul (e_i 6) (e_li 2)) (e_li 4)) (e_i 1))))) (e_i 1) (e_i 0))) (s_inc 5 4 2))))) (s_as (o_si 5 1) (e_b o_ior (e_li 1) (e_c (b_z .ne (e_li 3)) (e_b o_ishl (e_i 1) (e_li 2)) (e_i 0))))))) (s_inc 5 2 1))))) (s_rt .ireturn (e_li 1))))
noncomputable def f_X11_forgedNow : am_F := am_fn 5 (some .int) g_X11_forgedNow
set_option maxRecDepth 100000 in
theorem sd_X11_forgedNow : am_Sd ShM yX11_forgedNow cX11_forgedNow 5 (some .int) 0 f_X11_forgedNow := am_meth (y := yX11_forgedNow) (ret := (some .int)) x_X11_forgedNow (by decide) (by decide +kernel) (by decide +kernel)
abbrev S_X11_forged : am_S := (ShM, cX11_forged, 1, 3, RX11)
set_option maxRecDepth 100000 in
noncomputable def x_X11_forged : am_SP S_X11_forged := (t_sq (t_k _ _ (ic_V (S := S_X11_forged) sd_X11_find ky_X11_find kv_X11_find (by decide) 202 1132 none) (x_a1 (x_aln 0) x_a0)) (t_rt .ireturn (x_k _ _ (ic_V (S := S_X11_forged) sd_X11_forgedNow ky_X11_forgedNow kv_X11_forgedNow (by decide) 232 1195 none) (x_a1 (x_aln 0) x_a0))))
noncomputable def g_X11_forged : am_T := (s_sq (s_k (am_cl ShM 11 0 f_X11_find) (a_1 (e_lr 0) a_0)) (s_rt .ireturn (e_k (am_cl ShM 11 0 f_X11_forgedNow) (a_1 (e_lr 0) a_0))))
noncomputable def f_X11_forged : am_F := am_fn 1 (some .int) g_X11_forged
set_option maxRecDepth 100000 in
theorem sd_X11_forged : am_Sd ShM yX11_forged cX11_forged 1 (some .int) 3 f_X11_forged := am_meth (y := yX11_forged) (ret := (some .int)) x_X11_forged (by decide) (by decide +kernel) (by decide +kernel)
abbrev S_X11_run : am_S := (ShM, cX11_run, 7, 1, RX11)
set_option maxRecDepth 100000 in
noncomputable def x_X11_run : am_SP S_X11_run := (t_sq (t_isn 3 (x_ic 0 0 (by decide))) (t_sq (t_bk (t_sq (t_is 4 (x_ic 0 0 (by decide))) (t_lp (c_2 .lt (x_il 4) (x_ald (x_gf 34 11 10 896 kg_11_10 (x_aln 0)) (x_iln 1))) (t_sq (t_bk (t_sq (t_is 5 (x_ic 0 0 (by decide))) (t_lp (c_2 .lt (x_il 5) (x_ald (x_gf 34 11 10 896 kg_11_10 (x_aln 0)) (x_iln 2))) (t_sq (t_bk (t_sq (t_is 6 (x_ic 0 0 (by decide))) (t_sq (t_lp (c_and (c_and (c_2 .lt (x_iadd (x_il 4) (x_il 6)) (x_ald (x_gf 34 11 10 896 kg_11_10 (x_aln 0)) (x_iln 1))) (c_2 .lt (x_iadd (x_il 5) (x_il 6)) (x_ald (x_gf 34 11 10 896 kg_11_10 (x_aln 0)) (x_iln 2)))) (c_2 .eq (x_ald (x_gf 37 11 11 897 kg_11_11 (x_aln 0)) (x_iadd (x_iadd (x_imul (x_bp 6 6 (by decide)) (x_iln 1)) (x_il 4)) (x_il 6))) (x_ald (x_gf 37 11 11 897 kg_11_11 (x_aln 0)) (x_iadd (x_iadd (x_imul (x_bp 6 6 (by decide)) (x_iln 2)) (x_il 5)) (x_il 6))))) (t_inc 6 1 1 (by decide))) (t_isn 3 (x_k _ _ (ic_S (S := S_X11_run) sd_X11_greater ky_X11_greater ks_X11_greater (by decide) 235 1211 none) (x_a1 (x_il 6) (x_a1 (x_iln 3) x_a0))))))) (t_inc 5 1 1 (by decide)))))) (t_inc 4 1 1 (by decide)))))) (t_rt .ireturn (x_iln 3))))
noncomputable def g_X11_run : am_T := (s_sq (s_as (o_si 7 3) (e_i 0)) (s_sq (s_bk (s_sq (s_as (o_si 7 4) (e_i 0)) (s_lp (b_2 .lt (e_li 4) (e_ald ShM (e_gf ShM 11 10 (e_lr 0)) (e_li 1))) (s_sq (s_bk (s_sq (s_as (o_si 7 5) (e_i 0)) (s_lp (b_2 .lt (e_li 5) (e_ald ShM (e_gf ShM 11 10 (e_lr 0)) (e_li 2))) (s_sq (s_bk (s_sq (s_as (o_si 7 6) (e_i 0)) (s_sq (s_lp (b_and (b_and (b_2 .lt (e_b o_iadd (e_li 4) (e_li 6)) (e_ald ShM (e_gf ShM 11 10 (e_lr 0)) (e_li 1))) (b_2 .lt (e_b o_iadd (e_li 5) (e_li 6)) (e_ald ShM (e_gf ShM 11 10 (e_lr 0)) (e_li 2)))) (b_2 .eq (e_ald ShM (e_gf ShM 11 11 (e_lr 0)) (e_b o_iadd (e_b o_iadd (e_b o_imul (e_i 6) (e_li 1)) (e_li 4)) (e_li 6))) (e_ald ShM (e_gf ShM 11 11 (e_lr 0)) (e_b o_iadd (e_b o_iadd (e_b o_imul (e_i 6) (e_li 2)) (e_li 5)) (e_li 6))))) (s_inc 7 6 1)) (s_as (o_si 7 3) (e_k (am_cs 2 f_X11_greater) (a_1 (e_li 6) (a_1 (e_li 3) a_0))))))) (s_inc 7 5 1))))) (s_inc 7 4 1))))) (s_rt .ireturn (e_li 3))))
noncomputable def f_X11_run : am_F := am_fn 7 (some .int) g_X11_run
set_option maxRecDepth 100000 in
theorem sd_X11_run : am_Sd ShM yX11_run cX11_run 7 (some .int) 1 f_X11_run := am_meth (y := yX11_run) (ret := (some .int)) x_X11_run (by decide) (by decide +kernel) (by decide +kernel)
abbrev S_X11_tangledNow : am_S := (ShM, cX11_tangledNow, 7, 2, RX11)
set_option maxRecDepth 100000 in
noncomputable def x_X11_tangledNow : am_SP S_X11_tangledNow := (t_sq (t_isn 2 (x_ic 0 0 (by decide))) (t_sq (t_isn 3 (x_ic 0 0 (by decide))) (t_sq (t_bk (t_sq (t_is 4 (x_ic 0 0 (by decide))) (t_lp (c_2 .lt (x_il 4) (x_gf 127 11 7 893 kg_11_7 (x_aln 0))) (t_sq (t_bk (t_sq (t_is 5 (x_iadd (x_il 4) (x_ic 1 1 (by decide)))) (t_lp (c_2 .lt (x_il 5) (x_gf 127 11 7 893 kg_11_7 (x_aln 0))) (t_sq (t_bk (t_sq (t_is 6 (x_k _ _ (ic_V (S := S_X11_tangledNow) sd_X11_run ky_X11_run kv_X11_run (by decide) 238 1207 none) (x_a1 (x_aln 0) (x_a1 (x_il 4) (x_a1 (x_il 5) x_a0))))) (t_sq (t_isn 2 (x_iadd (x_iln 2) (x_c (c_2 .gt (x_il 6) (x_ic 1 1 (by decide))) (x_ic 1 1 (by decide)) (x_ic 0 0 (by decide))))) (t_isn 3 (x_c (c_2 .gt (x_il 6) (x_ic 1 1 (by decide))) (x_k _ _ (ic_S (S := S_X11_tangledNow) sd_X11_greater ky_X11_greater ks_X11_greater (by decide) 235 1211 none) (x_a1 (x_il 6) (x_a1 (x_iln 3) x_a0))) (x_iln 3)))))) (t_inc 5 1 1 (by decide)))))) (t_inc 4 1 1 (by decide)))))) (t_rt .ireturn (x_c (c_z .eq (x_iln 1)) (x_iln 2) (x_iln 3))))))
noncomputable def g_X11_tangledNow : am_T := (s_sq (s_as (o_si 7 2) (e_i 0)) (s_sq (s_as (o_si 7 3) (e_i 0)) (s_sq (s_bk (s_sq (s_as (o_si 7 4) (e_i 0)) (s_lp (b_2 .lt (e_li 4) (e_gf ShM 11 7 (e_lr 0))) (s_sq (s_bk (s_sq (s_as (o_si 7 5) (e_b o_iadd (e_li 4) (e_i 1))) (s_lp (b_2 .lt (e_li 5) (e_gf ShM 11 7 (e_lr 0))) (s_sq (s_bk (s_sq (s_as (o_si 7 6) (e_k (am_cl ShM 11 2 f_X11_run) (a_1 (e_lr 0) (a_1 (e_li 4) (a_1 (e_li 5) a_0))))) (s_sq (s_as (o_si 7 2) (e_b o_iadd (e_li 2) (e_c (b_2 .gt (e_li 6) (e_i 1)) (e_i 1) (e_i 0)))) (s_as (o_si 7 3) (e_c (b_2 .gt (e_li 6) (e_i 1)) (e_k (am_cs 2 f_X11_greater) (a_1 (e_li 6) (a_1 (e_li 3) a_0))) (e_li 3)))))) (s_inc 7 5 1))))) (s_inc 7 4 1))))) (s_rt .ireturn (e_c (b_z .eq (e_li 1)) (e_li 2) (e_li 3))))))
noncomputable def f_X11_tangledNow : am_F := am_fn 7 (some .int) g_X11_tangledNow
set_option maxRecDepth 100000 in
theorem sd_X11_tangledNow : am_Sd ShM yX11_tangledNow cX11_tangledNow 7 (some .int) 2 f_X11_tangledNow := am_meth (y := yX11_tangledNow) (ret := (some .int)) x_X11_tangledNow (by decide) (by decide +kernel) (by decide +kernel)
abbrev S_X11_tangled : am_S := (ShM, cX11_tangled, 2, 3, RX11)
set_option maxRecDepth 100000 in
noncomputable def x_X11_tangled : am_SP S_X11_tangled := (t_sq (t_k _ _ (ic_V (S := S_X11_tangled) sd_X11_find ky_X11_find kv_X11_find (by decide) 202 1132 none) (x_a1 (x_aln 0) x_a0)) (t_rt .ireturn (x_c (c_z .ne (x_k _ _ (ic_S (S := S_X11_tangled) sd_X11_isTwo ky_X11_isTwo ks_X11_isTwo (by decide) 205 1143 none) (x_a1 (x_iln 1) x_a0))) (x_k _ _ (ic_V (S := S_X11_tangled) sd_X11_tangledNow ky_X11_tangledNow kv_X11_tangledNow (by decide) 241 1203 none) (x_a1 (x_aln 0) (x_a1 (x_iln 1) x_a0))) (x_bp (-2) (-2) (by decide)))))
noncomputable def g_X11_tangled : am_T := (s_sq (s_k (am_cl ShM 11 0 f_X11_find) (a_1 (e_lr 0) a_0)) (s_rt .ireturn (e_c (b_z .ne (e_k (am_cs 1 f_X11_isTwo) (a_1 (e_li 1) a_0))) (e_k (am_cl ShM 11 1 f_X11_tangledNow) (a_1 (e_lr 0) (a_1 (e_li 1) a_0))) (e_i (-2)))))
noncomputable def f_X11_tangled : am_F := am_fn 2 (some .int) g_X11_tangled
set_option maxRecDepth 100000 in
theorem sd_X11_tangled : am_Sd ShM yX11_tangled cX11_tangled 2 (some .int) 3 f_X11_tangled := am_meth (y := yX11_tangled) (ret := (some .int)) x_X11_tangled (by decide) (by decide +kernel) (by decide +kernel)
abbrev S_X11_readOn : am_S := (ShM, cX11_readOn, 7, 2, RX11)
set_option maxRecDepth 100000 in
noncomputable def x_X11_readOn : am_SP S_X11_readOn := (t_sq (t_if1 (c_or (c_not (c_z .ne (x_k _ _ (ic_S (S := S_X11_readOn) sd_X11_isHour ky_X11_isHour ks_X11_isHour (by decide) 169 1097 none) (x_a1 (x_iln 1) x_a0)))) (c_not (c_z .ne (x_k _ _ (ic_V (S := S_X11_readOn) sd_X11_isStrand ky_X11_isStrand kv_X11_isStrand (by decide) 161 1084 none) (x_a1 (x_aln 0) (x_a1 (x_iln 3) x_a0)))))) (t_rt .ireturn (x_ic (-1) (-1) (by decide)))) (t_sq (t_is 4 (x_ald (x_gf 49 11 17 903 kg_11_17 (x_aln 0)) (x_iadd (x_imul (x_bp 8 8 (by decide)) (x_iln 1)) (x_iln 3)))) (t_sq (t_is 5 (x_c (c_2 .gt (x_il 4) (x_iln 2)) (x_isub (x_il 4) (x_iln 2)) (x_isub (x_iln 2) (x_il 4)))) (t_sq (t_bk (t_sq (t_is 6 (x_iadd (x_iln 1) (x_il 5))) (t_lp (c_2 .lt (x_il 6) (x_bp 20 20 (by decide))) (t_sq (t_if1 (c_and (c_2 .eq (x_ald (x_gf 49 11 17 903 kg_11_17 (x_aln 0)) (x_iadd (x_imul (x_bp 8 8 (by decide)) (x_il 6)) (x_iln 3))) (x_il 4)) (c_2 .eq (x_k _ _ (ic_V (S := S_X11_readOn) sd_X11_stateOf ky_X11_stateOf kv_X11_stateOf (by decide) 208 1146 none) (x_a1 (x_aln 0) (x_a1 (x_il 6) (x_a1 (x_iln 3) x_a0)))) (x_ic 1 1 (by decide)))) (t_rt .ireturn (x_il 6))) (t_inc 6 1 1 (by decide)))))) (t_rt .ireturn (x_ic (-1) (-1) (by decide)))))))
noncomputable def g_X11_readOn : am_T := (s_sq (s_if (b_or (b_not (b_z .ne (e_k (am_cs 1 f_X11_isHour) (a_1 (e_li 1) a_0)))) (b_not (b_z .ne (e_k (am_cl ShM 11 1 f_X11_isStrand) (a_1 (e_lr 0) (a_1 (e_li 3) a_0)))))) (s_rt .ireturn (e_i (-1))) s_0) (s_sq (s_as (o_si 7 4) (e_ald ShM (e_gf ShM 11 17 (e_lr 0)) (e_b o_iadd (e_b o_imul (e_i 8) (e_li 1)) (e_li 3)))) (s_sq (s_as (o_si 7 5) (e_c (b_2 .gt (e_li 4) (e_li 2)) (e_b o_isub (e_li 4) (e_li 2)) (e_b o_isub (e_li 2) (e_li 4)))) (s_sq (s_bk (s_sq (s_as (o_si 7 6) (e_b o_iadd (e_li 1) (e_li 5))) (s_lp (b_2 .lt (e_li 6) (e_i 20)) (s_sq (s_if (b_and (b_2 .eq (e_ald ShM (e_gf ShM 11 17 (e_lr 0)) (e_b o_iadd (e_b o_imul (e_i 8) (e_li 6)) (e_li 3))) (e_li 4)) (b_2 .eq (e_k (am_cl ShM 11 2 f_X11_stateOf) (a_1 (e_lr 0) (a_1 (e_li 6) (a_1 (e_li 3) a_0)))) (e_i 1))) (s_rt .ireturn (e_li 6)) s_0) (s_inc 7 6 1))))) (s_rt .ireturn (e_i (-1)))))))
noncomputable def f_X11_readOn : am_F := am_fn 7 (some .int) g_X11_readOn
set_option maxRecDepth 100000 in
theorem sd_X11_readOn : am_Sd ShM yX11_readOn cX11_readOn 7 (some .int) 2 f_X11_readOn := am_meth (y := yX11_readOn) (ret := (some .int)) x_X11_readOn (by decide) (by decide +kernel) (by decide +kernel)
abbrev S_X11_goes : am_S := (ShM, cX11_goes, 5, 3, RX11)
set_option maxRecDepth 100000 in
noncomputable def x_X11_goes : am_SP S_X11_goes := (t_sq (t_isn 1 (x_ic 0 0 (by decide))) (t_sq (t_isn 2 (x_c (c_and (c_z .gt (x_gf 141 11 13 899 kg_11_13 (x_aln 0))) (c_z .ne (x_k _ _ (ic_V (S := S_X11_goes) sd_X11_isStrand ky_X11_isStrand kv_X11_isStrand (by decide) 161 1084 none) (x_a1 (x_aln 0) (x_a1 (x_ald (x_gf 43 11 14 900 kg_11_14 (x_aln 0)) (x_ic 0 0 (by decide))) x_a0))))) (x_ald (x_gf 49 11 17 903 kg_11_17 (x_aln 0)) (x_ald (x_gf 43 11 14 900 kg_11_14 (x_aln 0)) (x_ic 0 0 (by decide)))) (x_ic 0 0 (by decide)))) (t_sq (t_isn 3 (x_ic 1 1 (by decide))) (t_sq (t_bk (t_sq (t_is 4 (x_ic 0 0 (by decide))) (t_lp (c_2 .lt (x_il 4) (x_bp 8 8 (by decide))) (t_sq (t_sq (t_ia (x_gf 64 11 23 909 kg_11_23 (x_aln 0)) (x_il 4) (x_c (c_and (c_z .ne (x_iln 3)) (c_2 .lt (x_il 4) (x_gf 141 11 13 899 kg_11_13 (x_aln 0)))) (x_k _ _ (ic_V (S := S_X11_goes) sd_X11_readOn ky_X11_readOn kv_X11_readOn (by decide) 244 1226 none) (x_a1 (x_aln 0) (x_a1 (x_iln 1) (x_a1 (x_iln 2) (x_a1 (x_ald (x_gf 43 11 14 900 kg_11_14 (x_aln 0)) (x_il 4)) x_a0))))) (x_ic (-1) (-1) (by decide)))) (t_sq (t_isn 3 (x_c (c_2 .ne (x_ald (x_gf 64 11 23 909 kg_11_23 (x_aln 0)) (x_il 4)) (x_ic (-1) (-1) (by decide))) (x_ic 1 1 (by decide)) (x_ic 0 0 (by decide)))) (t_if1 (c_z .ne (x_iln 3)) (t_sq (t_isn 2 (x_ald (x_gf 49 11 17 903 kg_11_17 (x_aln 0)) (x_iadd (x_imul (x_bp 8 8 (by decide)) (x_ald (x_gf 64 11 23 909 kg_11_23 (x_aln 0)) (x_il 4))) (x_ald (x_gf 43 11 14 900 kg_11_14 (x_aln 0)) (x_il 4))))) (t_isn 1 (x_iadd (x_ald (x_gf 64 11 23 909 kg_11_23 (x_aln 0)) (x_il 4)) (x_ic 1 1 (by decide)))))))) (t_inc 4 1 1 (by decide)))))) t_rv))))
noncomputable def g_X11_goes : am_T := (s_sq (s_as (o_si 5 1) (e_i 0)) (s_sq (s_as (o_si 5 2) (e_c (b_and (b_z .gt (e_gf ShM 11 13 (e_lr 0))) (b_z .ne (e_k (am_cl ShM 11 1 f_X11_isStrand) (a_1 (e_lr 0) (a_1 (e_ald ShM (e_gf ShM 11 14 (e_lr 0)) (e_i 0)) a_0))))) (e_ald ShM (e_gf ShM 11 17 (e_lr 0)) (e_ald ShM (e_gf ShM 11 14 (e_lr 0)) (e_i 0))) (e_i 0))) (s_sq (s_as (o_si 5 3) (e_i 1)) (s_sq (s_bk (s_sq (s_as (o_si 5 4) (e_i 0)) (s_lp (b_2 .lt (e_li 4) (e_i 8)) (s_sq (s_sq (s_ia ShM (e_gf ShM 11 23 (e_lr 0)) (e_li 4) (e_c (b_and (b_z .ne (e_li 3)) (b_2 .lt (e_li 4) (e_gf ShM 11 13 (e_lr 0)))) (e_k (am_cl ShM 11 3 f_X11_readOn) (a_1 (e_lr 0) (a_1 (e_li 1) (a_1 (e_li 2) (a_1 (e_ald ShM (e_gf ShM 11 14 (e_lr 0)) (e_li 4)) a_0))))) (e_i (-1)))) (s_sq (s_as (o_si 5 3) (e_c (b_2 .ne (e_ald ShM (e_gf ShM 11 23 (e_lr 0)) (e_li 4)) (e_i (-1))) (e_i 1) (e_i 0))) (s_if (b_z .ne (e_li 3)) (s_sq (s_as (o_si 5 2) (e_ald ShM (e_gf ShM 11 17 (e_lr 0)) (e_b o_iadd (e_b o_imul (e_i 8) (e_ald ShM (e_gf ShM 11 23 (e_lr 0)) (e_li 4))) (e_ald ShM (e_gf ShM 11 14 (e_lr 0)) (e_li 4))))) (s_as (o_si 5 1) (e_b o_iadd (e_ald ShM (e_gf ShM 11 23 (e_lr 0)) (e_li 4)) (e_i 1)))) s_0))) (s_inc 5 4 1))))) s_rv))))
noncomputable def f_X11_goes : am_F := am_fn 5 none g_X11_goes
set_option maxRecDepth 100000 in
theorem sd_X11_goes : am_Sd ShM yX11_goes cX11_goes 5 none 3 f_X11_goes := am_meth (y := yX11_goes) (ret := none) x_X11_goes (by decide) (by decide +kernel) (by decide +kernel)
abbrev S_X11_readsOf : am_S := (ShM, cX11_readsOf, 4, 4, RX11)
set_option maxRecDepth 100000 in
noncomputable def x_X11_readsOf : am_SP S_X11_readsOf := (t_sq (t_k _ _ (ic_V (S := S_X11_readsOf) sd_X11_goes ky_X11_goes kv_X11_goes (by decide) 247 1222 none) (x_a1 (x_aln 0) x_a0)) (t_sq (t_isn 2 (x_ic 0 0 (by decide))) (t_sq (t_bk (t_sq (t_isn 3 (x_ic 0 0 (by decide))) (t_lp (c_2 .lt (x_iln 3) (x_bp 8 8 (by decide))) (t_sq (t_isn 2 (x_iadd (x_iln 2) (x_c (c_2 .eq (x_ald (x_gf 64 11 23 909 kg_11_23 (x_aln 0)) (x_iln 3)) (x_ic (-1) (-1) (by decide))) (x_ic 0 0 (by decide)) (x_ic 1 1 (by decide))))) (t_inc 3 1 1 (by decide)))))) (t_rt .ireturn (x_c (c_2 .eq (x_iln 1) (x_bp 8 8 (by decide))) (x_iln 2) (x_ald (x_gf 64 11 23 909 kg_11_23 (x_aln 0)) (x_iln 1)))))))
noncomputable def g_X11_readsOf : am_T := (s_sq (s_k (am_cl ShM 11 0 f_X11_goes) (a_1 (e_lr 0) a_0)) (s_sq (s_as (o_si 4 2) (e_i 0)) (s_sq (s_bk (s_sq (s_as (o_si 4 3) (e_i 0)) (s_lp (b_2 .lt (e_li 3) (e_i 8)) (s_sq (s_as (o_si 4 2) (e_b o_iadd (e_li 2) (e_c (b_2 .eq (e_ald ShM (e_gf ShM 11 23 (e_lr 0)) (e_li 3)) (e_i (-1))) (e_i 0) (e_i 1)))) (s_inc 4 3 1))))) (s_rt .ireturn (e_c (b_2 .eq (e_li 1) (e_i 8)) (e_li 2) (e_ald ShM (e_gf ShM 11 23 (e_lr 0)) (e_li 1)))))))
noncomputable def f_X11_readsOf : am_F := am_fn 4 (some .int) g_X11_readsOf
set_option maxRecDepth 100000 in
theorem sd_X11_readsOf : am_Sd ShM yX11_readsOf cX11_readsOf 4 (some .int) 4 f_X11_readsOf := am_meth (y := yX11_readsOf) (ret := (some .int)) x_X11_readsOf (by decide) (by decide +kernel) (by decide +kernel)
abbrev S_X11_reads : am_S := (ShM, cX11_reads, 2, 5, RX11)
set_option maxRecDepth 100000 in
noncomputable def x_X11_reads : am_SP S_X11_reads := (t_sq (t_k _ _ (ic_V (S := S_X11_reads) sd_X11_find ky_X11_find kv_X11_find (by decide) 202 1132 none) (x_a1 (x_aln 0) x_a0)) (t_rt .ireturn (x_c (c_z .ne (x_k _ _ (ic_S (S := S_X11_reads) sd_X11_in ky_X11_in ks_X11_in (by decide) 93 1003 none) (x_a1 (x_i2l (x_iln 1)) (x_a1 (x_lc 0 0 (by decide)) (x_a1 (x_ldc2 164 8 1088) x_a0))))) (x_k _ _ (ic_V (S := S_X11_reads) sd_X11_readsOf ky_X11_readsOf kv_X11_readsOf (by decide) 250 1218 none) (x_a1 (x_aln 0) (x_a1 (x_iln 1) x_a0))) (x_bp (-2) (-2) (by decide)))))
noncomputable def g_X11_reads : am_T := (s_sq (s_k (am_cl ShM 11 0 f_X11_find) (a_1 (e_lr 0) a_0)) (s_rt .ireturn (e_c (b_z .ne (e_k (am_cs 3 f_X11_in) (a_1 (e_i2l (e_li 1)) (a_1 (e_j 0) (a_1 (e_j 8) a_0))))) (e_k (am_cl ShM 11 1 f_X11_readsOf) (a_1 (e_lr 0) (a_1 (e_li 1) a_0))) (e_i (-2)))))
noncomputable def f_X11_reads : am_F := am_fn 2 (some .int) g_X11_reads
set_option maxRecDepth 100000 in
theorem sd_X11_reads : am_Sd ShM yX11_reads cX11_reads 2 (some .int) 5 f_X11_reads := am_meth (y := yX11_reads) (ret := (some .int)) x_X11_reads (by decide) (by decide +kernel) (by decide +kernel)
abbrev S_X11_nextHour : am_S := (ShM, cX11_nextHour, 4, 3, RX11)
set_option maxRecDepth 100000 in
noncomputable def x_X11_nextHour : am_SP S_X11_nextHour := (t_sq (t_if1 (c_z .eq (x_iln 1)) (t_rt .ireturn (x_k _ _ (ic_V (S := S_X11_nextHour) sd_X11_readOn ky_X11_readOn kv_X11_readOn (by decide) 244 1226 none) (x_a1 (x_aln 0) (x_a1 (x_ic 0 0 (by decide)) (x_a1 (x_ald (x_gf 49 11 17 903 kg_11_17 (x_aln 0)) (x_iln 2)) (x_a1 (x_iln 2) x_a0))))))) (t_sq (t_isn 3 (x_ald (x_gf 70 11 25 911 kg_11_25 (x_aln 0)) (x_isub (x_iln 1) (x_ic 1 1 (by decide))))) (t_rt .ireturn (x_k _ _ (ic_V (S := S_X11_nextHour) sd_X11_readOn ky_X11_readOn kv_X11_readOn (by decide) 244 1226 none) (x_a1 (x_aln 0) (x_a1 (x_iadd (x_iln 3) (x_ic 1 1 (by decide))) (x_a1 (x_ald (x_gf 49 11 17 903 kg_11_17 (x_aln 0)) (x_iadd (x_imul (x_bp 8 8 (by decide)) (x_iln 3)) (x_ald (x_gf 67 11 24 910 kg_11_24 (x_aln 0)) (x_isub (x_iln 1) (x_ic 1 1 (by decide)))))) (x_a1 (x_iln 2) x_a0))))))))
noncomputable def g_X11_nextHour : am_T := (s_sq (s_if (b_z .eq (e_li 1)) (s_rt .ireturn (e_k (am_cl ShM 11 3 f_X11_readOn) (a_1 (e_lr 0) (a_1 (e_i 0) (a_1 (e_ald ShM (e_gf ShM 11 17 (e_lr 0)) (e_li 2)) (a_1 (e_li 2) a_0)))))) s_0) (s_sq (s_as (o_si 4 3) (e_ald ShM (e_gf ShM 11 25 (e_lr 0)) (e_b o_isub (e_li 1) (e_i 1)))) (s_rt .ireturn (e_k (am_cl ShM 11 3 f_X11_readOn) (a_1 (e_lr 0) (a_1 (e_b o_iadd (e_li 3) (e_i 1)) (a_1 (e_ald ShM (e_gf ShM 11 17 (e_lr 0)) (e_b o_iadd (e_b o_imul (e_i 8) (e_li 3)) (e_ald ShM (e_gf ShM 11 24 (e_lr 0)) (e_b o_isub (e_li 1) (e_i 1))))) (a_1 (e_li 2) a_0))))))))
noncomputable def f_X11_nextHour : am_F := am_fn 4 (some .int) g_X11_nextHour
set_option maxRecDepth 100000 in
theorem sd_X11_nextHour : am_Sd ShM yX11_nextHour cX11_nextHour 4 (some .int) 3 f_X11_nextHour := am_meth (y := yX11_nextHour) (ret := (some .int)) x_X11_nextHour (by decide) (by decide +kernel) (by decide +kernel)
abbrev S_X11_keepsTour : am_S := (ShM, cX11_keepsTour, 4, 0, RX11)
set_option maxRecDepth 100000 in
noncomputable def x_X11_keepsTour : am_SP S_X11_keepsTour := (t_sq (t_isn 2 (x_c (c_z .eq (x_iln 1)) (x_ic (-1) (-1) (by decide)) (x_ald (x_gf 70 11 25 911 kg_11_25 (x_aln 0)) (x_isub (x_iln 1) (x_ic 1 1 (by decide)))))) (t_sq (t_if1 (c_or (c_2 .gt (x_iln 1) (x_gf 253 11 27 913 kg_11_27 (x_aln 0))) (c_and (c_2 .eq (x_iln 1) (x_gf 253 11 27 913 kg_11_27 (x_aln 0))) (c_2 .lt (x_iln 2) (x_gf 256 11 28 914 kg_11_28 (x_aln 0))))) (t_sq (t_pf 253 11 27 913 false kp_11_27 (x_aln 0) (x_iln 1)) (t_sq (t_pf 256 11 28 914 false kp_11_28 (x_aln 0) (x_iln 2)) (t_bk (t_sq (t_isn 3 (x_ic 0 0 (by decide))) (t_lp (c_2 .lt (x_iln 3) (x_iln 1)) (t_sq (t_ia (x_gf 73 11 26 912 kg_11_26 (x_aln 0)) (x_iln 3) (x_ald (x_gf 67 11 24 910 kg_11_24 (x_aln 0)) (x_iln 3))) (t_inc 3 1 1 (by decide))))))))) t_rv))
noncomputable def g_X11_keepsTour : am_T := (s_sq (s_as (o_si 4 2) (e_c (b_z .eq (e_li 1)) (e_i (-1)) (e_ald ShM (e_gf ShM 11 25 (e_lr 0)) (e_b o_isub (e_li 1) (e_i 1))))) (s_sq (s_if (b_or (b_2 .gt (e_li 1) (e_gf ShM 11 27 (e_lr 0))) (b_and (b_2 .eq (e_li 1) (e_gf ShM 11 27 (e_lr 0))) (b_2 .lt (e_li 2) (e_gf ShM 11 28 (e_lr 0))))) (s_sq (s_pf ShM 11 27 false (e_lr 0) (e_li 1)) (s_sq (s_pf ShM 11 28 false (e_lr 0) (e_li 2)) (s_bk (s_sq (s_as (o_si 4 3) (e_i 0)) (s_lp (b_2 .lt (e_li 3) (e_li 1)) (s_sq (s_ia ShM (e_gf ShM 11 26 (e_lr 0)) (e_li 3) (e_ald ShM (e_gf ShM 11 24 (e_lr 0)) (e_li 3))) (s_inc 4 3 1))))))) s_0) s_rv))
noncomputable def f_X11_keepsTour : am_F := am_fn 4 none g_X11_keepsTour
set_option maxRecDepth 100000 in
theorem sd_X11_keepsTour : am_Sd ShM yX11_keepsTour cX11_keepsTour 4 none 0 f_X11_keepsTour := am_meth (y := yX11_keepsTour) (ret := none) x_X11_keepsTour (by decide) (by decide +kernel) (by decide +kernel)
abbrev S_X11_findTour : am_S := (ShM, cX11_findTour, 5, 4, RX11)
set_option maxRecDepth 100000 in
noncomputable def x_X11_findTour : am_SP S_X11_findTour := (t_sq (t_pf 253 11 27 913 false kp_11_27 (x_aln 0) (x_ic (-1) (-1) (by decide))) (t_sq (t_pf 256 11 28 914 false kp_11_28 (x_aln 0) (x_ic (-1) (-1) (by decide))) (t_sq (t_k _ _ (ic_V (S := S_X11_findTour) sd_X11_keepsTour ky_X11_keepsTour kv_X11_keepsTour (by decide) 259 1238 none) (x_a1 (x_aln 0) (x_a1 (x_ic 0 0 (by decide)) x_a0))) (t_sq (t_isn 1 (x_ic 0 0 (by decide))) (t_sq (t_isn 2 (x_ic 0 0 (by decide))) (t_sq (t_isn 3 (x_ic 0 0 (by decide))) (t_sq (t_lp (c_z .ge (x_iln 2)) (t_bk (t_sq (t_is 4 (x_c (c_and (c_2 .lt (x_iln 3) (x_gf 127 11 7 893 kg_11_7 (x_aln 0))) (c_not (c_z .ne (x_k _ _ (ic_S (S := S_X11_findTour) sd_X11_isIn ky_X11_isIn ks_X11_isIn (by decide) 192 1140 none) (x_a1 (x_iln 1) (x_a1 (x_iln 3) x_a0)))))) (x_k _ _ (ic_V (S := S_X11_findTour) sd_X11_nextHour ky_X11_nextHour kv_X11_nextHour (by decide) 263 1242 none) (x_a1 (x_aln 0) (x_a1 (x_iln 2) (x_a1 (x_iln 3) x_a0)))) (x_ic (-1) (-1) (by decide)))) (t_if2 (c_2 .ne (x_il 4) (x_ic (-1) (-1) (by decide))) (t_sq (t_ia (x_gf 67 11 24 910 kg_11_24 (x_aln 0)) (x_iln 2) (x_iln 3)) (t_sq (t_ia (x_gf 70 11 25 911 kg_11_25 (x_aln 0)) (x_iln 2) (x_il 4)) (t_sq (t_isn 1 (x_ior (x_iln 1) (x_ishl (x_ic 1 1 (by decide)) (x_iln 3)))) (t_sq (t_inc 2 1 1 (by decide)) (t_sq (t_k _ _ (ic_V (S := S_X11_findTour) sd_X11_keepsTour ky_X11_keepsTour kv_X11_keepsTour (by decide) 259 1238 none) (x_a1 (x_aln 0) (x_a1 (x_iln 2) x_a0))) (t_isn 3 (x_ic 0 0 (by decide)))))))) (t_if2 (c_2 .lt (x_iln 3) (x_gf 127 11 7 893 kg_11_7 (x_aln 0))) (t_inc 3 1 1 (by decide)) (t_sq (t_inc 2 (-1) (-1) (by decide)) (t_if1 (c_z .ge (x_iln 2)) (t_sq (t_isn 1 (x_iand (x_iln 1) (x_ixor (x_ishl (x_ic 1 1 (by decide)) (x_ald (x_gf 67 11 24 910 kg_11_24 (x_aln 0)) (x_iln 2))) (x_ic (-1) (-1) (by decide))))) (t_isn 3 (x_iadd (x_ald (x_gf 67 11 24 910 kg_11_24 (x_aln 0)) (x_iln 2)) (x_ic 1 1 (by decide)))))))))))) t_rv)))))))
noncomputable def g_X11_findTour : am_T := (s_sq (s_pf ShM 11 27 false (e_lr 0) (e_i (-1))) (s_sq (s_pf ShM 11 28 false (e_lr 0) (e_i (-1))) (s_sq (s_k (am_cl ShM 11 1 f_X11_keepsTour) (a_1 (e_lr 0) (a_1 (e_i 0) a_0))) (s_sq (s_as (o_si 5 1) (e_i 0)) (s_sq (s_as (o_si 5 2) (e_i 0)) (s_sq (s_as (o_si 5 3) (e_i 0)) (s_sq (s_lp (b_z .ge (e_li 2)) (s_bk (s_sq (s_as (o_si 5 4) (e_c (b_and (b_2 .lt (e_li 3) (e_gf ShM 11 7 (e_lr 0))) (b_not (b_z .ne (e_k (am_cs 2 f_X11_isIn) (a_1 (e_li 1) (a_1 (e_li 3) a_0)))))) (e_k (am_cl ShM 11 2 f_X11_nextHour) (a_1 (e_lr 0) (a_1 (e_li 2) (a_1 (e_li 3) a_0)))) (e_i (-1)))) (s_if (b_2 .ne (e_li 4) (e_i (-1))) (s_sq (s_ia ShM (e_gf ShM 11 24 (e_lr 0)) (e_li 2) (e_li 3)) (s_sq (s_ia ShM (e_gf ShM 11 25 (e_lr 0)) (e_li 2) (e_li 4)) (s_sq (s_as (o_si 5 1) (e_b o_ior (e_li 1) (e_b o_ishl (e_i 1) (e_li 3)))) (s_sq (s_inc 5 2 1) (s_sq (s_k (am_cl ShM 11 1 f_X11_keepsTour) (a_1 (e_lr 0) (a_1 (e_li 2) a_0))) (s_as (o_si 5 3) (e_i 0))))))) (s_if (b_2 .lt (e_li 3) (e_gf ShM 11 7 (e_lr 0))) (s_inc 5 3 1) (s_sq (s_inc 5 2 (-1)) (s_if (b_z .ge (e_li 2)) (s_sq (s_as (o_si 5 1) (e_b o_iand (e_li 1) (e_b o_ixor (e_b o_ishl (e_i 1) (e_ald ShM (e_gf ShM 11 24 (e_lr 0)) (e_li 2))) (e_i (-1))))) (s_as (o_si 5 3) (e_b o_iadd (e_ald ShM (e_gf ShM 11 24 (e_lr 0)) (e_li 2)) (e_i 1)))) s_0))))))) s_rv)))))))
noncomputable def f_X11_findTour : am_F := am_fn 5 none g_X11_findTour
set_option maxRecDepth 100000 in
theorem sd_X11_findTour : am_Sd ShM yX11_findTour cX11_findTour 5 none 4 f_X11_findTour := am_meth (y := yX11_findTour) (ret := none) x_X11_findTour (by decide) (by decide +kernel) (by decide +kernel)
abbrev S_X11_tourBy : am_S := (ShM, cX11_tourBy, 2, 0, RX11)
set_option maxRecDepth 100000 in
noncomputable def x_X11_tourBy : am_SP S_X11_tourBy := (t_rt .ireturn (x_c (c_z .eq (x_iln 1)) (x_gf 253 11 27 913 kg_11_27 (x_aln 0)) (x_c (c_2 .eq (x_iln 1) (x_ic 1 1 (by decide))) (x_gf 256 11 28 914 kg_11_28 (x_aln 0)) (x_c (c_2 .lt (x_isub (x_iln 1) (x_ic 2 2 (by decide))) (x_gf 253 11 27 913 kg_11_27 (x_aln 0))) (x_ald (x_gf 73 11 26 912 kg_11_26 (x_aln 0)) (x_isub (x_iln 1) (x_ic 2 2 (by decide)))) (x_ic (-1) (-1) (by decide))))))
noncomputable def g_X11_tourBy : am_T := (s_rt .ireturn (e_c (b_z .eq (e_li 1)) (e_gf ShM 11 27 (e_lr 0)) (e_c (b_2 .eq (e_li 1) (e_i 1)) (e_gf ShM 11 28 (e_lr 0)) (e_c (b_2 .lt (e_b o_isub (e_li 1) (e_i 2)) (e_gf ShM 11 27 (e_lr 0))) (e_ald ShM (e_gf ShM 11 26 (e_lr 0)) (e_b o_isub (e_li 1) (e_i 2))) (e_i (-1))))))
noncomputable def f_X11_tourBy : am_F := am_fn 2 (some .int) g_X11_tourBy
set_option maxRecDepth 100000 in
theorem sd_X11_tourBy : am_Sd ShM yX11_tourBy cX11_tourBy 2 (some .int) 0 f_X11_tourBy := am_meth (y := yX11_tourBy) (ret := (some .int)) x_X11_tourBy (by decide) (by decide +kernel) (by decide +kernel)
end
section
/-! methods as forms, by program (gen.py, mkm.py): x_ the form, g_ and f_ the meaning, sd_ the contract -/
abbrev S_X11_tour : am_S := (ShM, cX11_tour, 2, 5, RX11)
set_option maxRecDepth 100000 in
noncomputable def x_X11_tour : am_SP S_X11_tour := (t_sq (t_k _ _ (ic_V (S := S_X11_tour) sd_X11_find ky_X11_find kv_X11_find (by decide) 202 1132 none) (x_a1 (x_aln 0) x_a0)) (t_sq (t_if1 (c_not (c_z .ne (x_k _ _ (ic_S (S := S_X11_tour) sd_X11_in ky_X11_in ks_X11_in (by decide) 93 1003 none) (x_a1 (x_i2l (x_iln 1)) (x_a1 (x_lc 0 0 (by decide)) (x_a1 (x_ldc2 180 9 1114) x_a0)))))) (t_rt .ireturn (x_bp (-2) (-2) (by decide)))) (t_sq (t_k _ _ (ic_V (S := S_X11_tour) sd_X11_findTour ky_X11_findTour kv_X11_findTour (by decide) 266 1234 none) (x_a1 (x_aln 0) x_a0)) (t_rt .ireturn (x_k _ _ (ic_V (S := S_X11_tour) sd_X11_tourBy ky_X11_tourBy kv_X11_tourBy (by decide) 269 1246 none) (x_a1 (x_aln 0) (x_a1 (x_iln 1) x_a0)))))))
noncomputable def g_X11_tour : am_T := (s_sq (s_k (am_cl ShM 11 0 f_X11_find) (a_1 (e_lr 0) a_0)) (s_sq (s_if (b_not (b_z .ne (e_k (am_cs 3 f_X11_in) (a_1 (e_i2l (e_li 1)) (a_1 (e_j 0) (a_1 (e_j 9) a_0)))))) (s_rt .ireturn (e_i (-2))) s_0) (s_sq (s_k (am_cl ShM 11 0 f_X11_findTour) (a_1 (e_lr 0) a_0)) (s_rt .ireturn (e_k (am_cl ShM 11 1 f_X11_tourBy) (a_1 (e_lr 0) (a_1 (e_li 1) a_0)))))))
noncomputable def f_X11_tour : am_F := am_fn 2 (some .int) g_X11_tour
set_option maxRecDepth 100000 in
theorem sd_X11_tour : am_Sd ShM yX11_tour cX11_tour 2 (some .int) 5 f_X11_tour := am_meth (y := yX11_tour) (ret := (some .int)) x_X11_tour (by decide) (by decide +kernel) (by decide +kernel)
abbrev S_X11_hangOf : am_S := (ShM, cX11_hangOf, 8, 1, RX11)
set_option maxRecDepth 100000 in
noncomputable def x_X11_hangOf : am_SP S_X11_hangOf := (t_sq (t_isn 3 (x_ic (-1) (-1) (by decide))) (t_sq (t_is 4 (x_ic (-1) (-1) (by decide))) (t_sq (t_bk (t_sq (t_is 5 (x_ic 0 0 (by decide))) (t_lp (c_2 .lt (x_il 5) (x_bp 10 10 (by decide))) (t_sq (t_bk (t_sq (t_is 6 (x_ic 0 0 (by decide))) (t_sq (t_bk (t_sq (t_is 7 (x_ic 0 0 (by decide))) (t_lp (c_2 .lt (x_il 7) (x_bp 20 20 (by decide))) (t_sq (t_is 6 (x_iadd (x_il 6) (x_c (c_2 .eq (x_k _ _ (ic_V (S := S_X11_hangOf) sd_X11_lies ky_X11_lies kv_X11_lies (by decide) 199 1150 none) (x_a1 (x_aln 0) (x_a1 (x_iln 1) (x_a1 (x_il 5) (x_a1 (x_il 7) x_a0))))) (x_ic 1 1 (by decide))) (x_ic 1 1 (by decide)) (x_ic 0 0 (by decide))))) (t_inc 7 1 1 (by decide)))))) (t_sq (t_isn 3 (x_c (c_2 .gt (x_il 6) (x_il 4)) (x_il 5) (x_iln 3))) (t_is 4 (x_k _ _ (ic_S (S := S_X11_hangOf) sd_X11_greater ky_X11_greater ks_X11_greater (by decide) 235 1211 none) (x_a1 (x_il 6) (x_a1 (x_il 4) x_a0)))))))) (t_inc 5 1 1 (by decide)))))) (t_rt .ireturn (x_c (c_z .eq (x_iln 2)) (x_iln 3) (x_il 4))))))
noncomputable def g_X11_hangOf : am_T := (s_sq (s_as (o_si 8 3) (e_i (-1))) (s_sq (s_as (o_si 8 4) (e_i (-1))) (s_sq (s_bk (s_sq (s_as (o_si 8 5) (e_i 0)) (s_lp (b_2 .lt (e_li 5) (e_i 10)) (s_sq (s_bk (s_sq (s_as (o_si 8 6) (e_i 0)) (s_sq (s_bk (s_sq (s_as (o_si 8 7) (e_i 0)) (s_lp (b_2 .lt (e_li 7) (e_i 20)) (s_sq (s_as (o_si 8 6) (e_b o_iadd (e_li 6) (e_c (b_2 .eq (e_k (am_cl ShM 11 3 f_X11_lies) (a_1 (e_lr 0) (a_1 (e_li 1) (a_1 (e_li 5) (a_1 (e_li 7) a_0))))) (e_i 1)) (e_i 1) (e_i 0)))) (s_inc 8 7 1))))) (s_sq (s_as (o_si 8 3) (e_c (b_2 .gt (e_li 6) (e_li 4)) (e_li 5) (e_li 3))) (s_as (o_si 8 4) (e_k (am_cs 2 f_X11_greater) (a_1 (e_li 6) (a_1 (e_li 4) a_0)))))))) (s_inc 8 5 1))))) (s_rt .ireturn (e_c (b_z .eq (e_li 2)) (e_li 3) (e_li 4))))))
noncomputable def f_X11_hangOf : am_F := am_fn 8 (some .int) g_X11_hangOf
set_option maxRecDepth 100000 in
theorem sd_X11_hangOf : am_Sd ShM yX11_hangOf cX11_hangOf 8 (some .int) 1 f_X11_hangOf := am_meth (y := yX11_hangOf) (ret := (some .int)) x_X11_hangOf (by decide) (by decide +kernel) (by decide +kernel)
abbrev S_X11_hang : am_S := (ShM, cX11_hang, 3, 3, RX11)
set_option maxRecDepth 100000 in
noncomputable def x_X11_hang : am_SP S_X11_hang := (t_sq (t_k _ _ (ic_V (S := S_X11_hang) sd_X11_find ky_X11_find kv_X11_find (by decide) 202 1132 none) (x_a1 (x_aln 0) x_a0)) (t_rt .ireturn (x_c (c_and (c_z .ne (x_k _ _ (ic_S (S := S_X11_hang) sd_X11_in ky_X11_in ks_X11_in (by decide) 93 1003 none) (x_a1 (x_i2l (x_iln 1)) (x_a1 (x_lc 0 0 (by decide)) (x_a1 (x_ldc2 107 2 1006) x_a0))))) (c_z .ne (x_k _ _ (ic_S (S := S_X11_hang) sd_X11_isTwo ky_X11_isTwo ks_X11_isTwo (by decide) 205 1143 none) (x_a1 (x_iln 2) x_a0)))) (x_k _ _ (ic_V (S := S_X11_hang) sd_X11_hangOf ky_X11_hangOf kv_X11_hangOf (by decide) 272 1254 none) (x_a1 (x_aln 0) (x_a1 (x_iln 1) (x_a1 (x_iln 2) x_a0)))) (x_bp (-2) (-2) (by decide)))))
noncomputable def g_X11_hang : am_T := (s_sq (s_k (am_cl ShM 11 0 f_X11_find) (a_1 (e_lr 0) a_0)) (s_rt .ireturn (e_c (b_and (b_z .ne (e_k (am_cs 3 f_X11_in) (a_1 (e_i2l (e_li 1)) (a_1 (e_j 0) (a_1 (e_j 2) a_0))))) (b_z .ne (e_k (am_cs 1 f_X11_isTwo) (a_1 (e_li 2) a_0)))) (e_k (am_cl ShM 11 2 f_X11_hangOf) (a_1 (e_lr 0) (a_1 (e_li 1) (a_1 (e_li 2) a_0)))) (e_i (-2)))))
noncomputable def f_X11_hang : am_F := am_fn 3 (some .int) g_X11_hang
set_option maxRecDepth 100000 in
theorem sd_X11_hang : am_Sd ShM yX11_hang cX11_hang 3 (some .int) 3 f_X11_hang := am_meth (y := yX11_hang) (ret := (some .int)) x_X11_hang (by decide) (by decide +kernel) (by decide +kernel)
abbrev S_X11_isSafe : am_S := (ShM, cX11_isSafe, 3, 2, RX11)
set_option maxRecDepth 100000 in
noncomputable def x_X11_isSafe : am_SP S_X11_isSafe := (t_sq (t_pf 189 11 22 908 false kp_11_22 (x_aln 0) (x_iln 2)) (t_sq (t_k _ _ (ic_V (S := S_X11_isSafe) sd_X11_lives ky_X11_lives kv_X11_lives (by decide) 196 1136 none) (x_a1 (x_aln 0) x_a0)) (t_sq (t_pf 189 11 22 908 false kp_11_22 (x_aln 0) (x_ic 0 0 (by decide))) (t_rt .ireturn (x_c (c_not (c_z .ne (x_k _ _ (ic_V (S := S_X11_isSafe) sd_X11_isVoid ky_X11_isVoid kv_X11_isVoid (by decide) 226 1187 none) (x_a1 (x_aln 0) (x_a1 (x_bp 19 19 (by decide)) (x_a1 (x_iln 1) x_a0)))))) (x_ic 1 1 (by decide)) (x_ic 0 0 (by decide)))))))
noncomputable def g_X11_isSafe : am_T := (s_sq (s_pf ShM 11 22 false (e_lr 0) (e_li 2)) (s_sq (s_k (am_cl ShM 11 0 f_X11_lives) (a_1 (e_lr 0) a_0)) (s_sq (s_pf ShM 11 22 false (e_lr 0) (e_i 0)) (s_rt .ireturn (e_c (b_not (b_z .ne (e_k (am_cl ShM 11 2 f_X11_isVoid) (a_1 (e_lr 0) (a_1 (e_i 19) (a_1 (e_li 1) a_0)))))) (e_i 1) (e_i 0))))))
noncomputable def f_X11_isSafe : am_F := am_fn 3 (some .boolean) g_X11_isSafe
set_option maxRecDepth 100000 in
theorem sd_X11_isSafe : am_Sd ShM yX11_isSafe cX11_isSafe 3 (some .boolean) 2 f_X11_isSafe := am_meth (y := yX11_isSafe) (ret := (some .boolean)) x_X11_isSafe (by decide) (by decide +kernel) (by decide +kernel)
abbrev S_X11_saveOf : am_S := (ShM, cX11_saveOf, 5, 3, RX11)
set_option maxRecDepth 100000 in
noncomputable def x_X11_saveOf : am_SP S_X11_saveOf := (t_sq (t_if1 (c_z .ne (x_k _ _ (ic_V (S := S_X11_saveOf) sd_X11_isSafe ky_X11_isSafe kv_X11_isSafe (by decide) 275 1267 none) (x_a1 (x_aln 0) (x_a1 (x_iln 1) (x_a1 (x_ic 0 0 (by decide)) x_a0))))) (t_rt .ireturn (x_c (c_2 .eq (x_iln 2) (x_ic (-1) (-1) (by decide))) (x_ic 0 0 (by decide)) (x_ic (-1) (-1) (by decide))))) (t_sq (t_bk (t_sq (t_isn 3 (x_ic 0 0 (by decide))) (t_lp (c_2 .lt (x_iln 3) (x_gf 177 11 15 901 kg_11_15 (x_aln 0))) (t_sq (t_if1 (c_z .ne (x_k _ _ (ic_V (S := S_X11_saveOf) sd_X11_isSafe ky_X11_isSafe kv_X11_isSafe (by decide) 275 1267 none) (x_a1 (x_aln 0) (x_a1 (x_iln 1) (x_a1 (x_ishl (x_ic 1 1 (by decide)) (x_iln 3)) x_a0))))) (t_rt .ireturn (x_c (c_2 .eq (x_iln 2) (x_ic (-1) (-1) (by decide))) (x_ic 1 1 (by decide)) (x_c (c_z .eq (x_iln 2)) (x_iln 3) (x_ic (-1) (-1) (by decide)))))) (t_inc 3 1 1 (by decide)))))) (t_sq (t_bk (t_sq (t_isn 3 (x_ic 0 0 (by decide))) (t_lp (c_2 .lt (x_iln 3) (x_gf 177 11 15 901 kg_11_15 (x_aln 0))) (t_sq (t_bk (t_sq (t_is 4 (x_iadd (x_iln 3) (x_ic 1 1 (by decide)))) (t_lp (c_2 .lt (x_il 4) (x_gf 177 11 15 901 kg_11_15 (x_aln 0))) (t_sq (t_if1 (c_z .ne (x_k _ _ (ic_V (S := S_X11_saveOf) sd_X11_isSafe ky_X11_isSafe kv_X11_isSafe (by decide) 275 1267 none) (x_a1 (x_aln 0) (x_a1 (x_iln 1) (x_a1 (x_ior (x_ishl (x_ic 1 1 (by decide)) (x_iln 3)) (x_ishl (x_ic 1 1 (by decide)) (x_il 4))) x_a0))))) (t_rt .ireturn (x_c (c_2 .eq (x_iln 2) (x_ic (-1) (-1) (by decide))) (x_ic 2 2 (by decide)) (x_c (c_z .eq (x_iln 2)) (x_iln 3) (x_il 4))))) (t_inc 4 1 1 (by decide)))))) (t_inc 3 1 1 (by decide)))))) (t_rt .ireturn (x_ic (-1) (-1) (by decide))))))
noncomputable def g_X11_saveOf : am_T := (s_sq (s_if (b_z .ne (e_k (am_cl ShM 11 2 f_X11_isSafe) (a_1 (e_lr 0) (a_1 (e_li 1) (a_1 (e_i 0) a_0))))) (s_rt .ireturn (e_c (b_2 .eq (e_li 2) (e_i (-1))) (e_i 0) (e_i (-1)))) s_0) (s_sq (s_bk (s_sq (s_as (o_si 5 3) (e_i 0)) (s_lp (b_2 .lt (e_li 3) (e_gf ShM 11 15 (e_lr 0))) (s_sq (s_if (b_z .ne (e_k (am_cl ShM 11 2 f_X11_isSafe) (a_1 (e_lr 0) (a_1 (e_li 1) (a_1 (e_b o_ishl (e_i 1) (e_li 3)) a_0))))) (s_rt .ireturn (e_c (b_2 .eq (e_li 2) (e_i (-1))) (e_i 1) (e_c (b_z .eq (e_li 2)) (e_li 3) (e_i (-1))))) s_0) (s_inc 5 3 1))))) (s_sq (s_bk (s_sq (s_as (o_si 5 3) (e_i 0)) (s_lp (b_2 .lt (e_li 3) (e_gf ShM 11 15 (e_lr 0))) (s_sq (s_bk (s_sq (s_as (o_si 5 4) (e_b o_iadd (e_li 3) (e_i 1))) (s_lp (b_2 .lt (e_li 4) (e_gf ShM 11 15 (e_lr 0))) (s_sq (s_if (b_z .ne (e_k (am_cl ShM 11 2 f_X11_isSafe) (a_1 (e_lr 0) (a_1 (e_li 1) (a_1 (e_b o_ior (e_b o_ishl (e_i 1) (e_li 3)) (e_b o_ishl (e_i 1) (e_li 4))) a_0))))) (s_rt .ireturn (e_c (b_2 .eq (e_li 2) (e_i (-1))) (e_i 2) (e_c (b_z .eq (e_li 2)) (e_li 3) (e_li 4)))) s_0) (s_inc 5 4 1))))) (s_inc 5 3 1))))) (s_rt .ireturn (e_i (-1))))))
noncomputable def f_X11_saveOf : am_F := am_fn 5 (some .int) g_X11_saveOf
set_option maxRecDepth 100000 in
theorem sd_X11_saveOf : am_Sd ShM yX11_saveOf cX11_saveOf 5 (some .int) 3 f_X11_saveOf := am_meth (y := yX11_saveOf) (ret := (some .int)) x_X11_saveOf (by decide) (by decide +kernel) (by decide +kernel)
abbrev S_X11_save : am_S := (ShM, cX11_save, 3, 4, RX11)
set_option maxRecDepth 100000 in
noncomputable def x_X11_save : am_SP S_X11_save := (t_sq (t_k _ _ (ic_V (S := S_X11_save) sd_X11_find ky_X11_find kv_X11_find (by decide) 202 1132 none) (x_a1 (x_aln 0) x_a0)) (t_rt .ireturn (x_c (c_and (c_z .ne (x_k _ _ (ic_V (S := S_X11_save) sd_X11_isStrand ky_X11_isStrand kv_X11_isStrand (by decide) 161 1084 none) (x_a1 (x_aln 0) (x_a1 (x_iln 1) x_a0)))) (c_z .ne (x_k _ _ (ic_S (S := S_X11_save) sd_X11_in ky_X11_in ks_X11_in (by decide) 93 1003 none) (x_a1 (x_i2l (x_iln 2)) (x_a1 (x_ldc2 278 (-1) 1262) (x_a1 (x_lc 1 1 (by decide)) x_a0)))))) (x_k _ _ (ic_V (S := S_X11_save) sd_X11_saveOf ky_X11_saveOf kv_X11_saveOf (by decide) 280 1263 none) (x_a1 (x_aln 0) (x_a1 (x_iln 1) (x_a1 (x_iln 2) x_a0)))) (x_bp (-2) (-2) (by decide)))))
noncomputable def g_X11_save : am_T := (s_sq (s_k (am_cl ShM 11 0 f_X11_find) (a_1 (e_lr 0) a_0)) (s_rt .ireturn (e_c (b_and (b_z .ne (e_k (am_cl ShM 11 1 f_X11_isStrand) (a_1 (e_lr 0) (a_1 (e_li 1) a_0)))) (b_z .ne (e_k (am_cs 3 f_X11_in) (a_1 (e_i2l (e_li 2)) (a_1 (e_j (-1)) (a_1 (e_j 1) a_0)))))) (e_k (am_cl ShM 11 2 f_X11_saveOf) (a_1 (e_lr 0) (a_1 (e_li 1) (a_1 (e_li 2) a_0)))) (e_i (-2)))))
noncomputable def f_X11_save : am_F := am_fn 3 (some .int) g_X11_save
set_option maxRecDepth 100000 in
theorem sd_X11_save : am_Sd ShM yX11_save cX11_save 3 (some .int) 4 f_X11_save := am_meth (y := yX11_save) (ret := (some .int)) x_X11_save (by decide) (by decide +kernel) (by decide +kernel)
abbrev S_X11_mayBe : am_S := (ShM, cX11_mayBe, 7, 2, RX11)
set_option maxRecDepth 100000 in
noncomputable def x_X11_mayBe : am_SP S_X11_mayBe := (t_sq (t_is 4 (x_iln 1)) (t_sq (t_bk (t_sq (t_is 5 (x_isub (x_ald (x_gf 34 11 10 896 kg_11_10 (x_aln 0)) (x_iln 3)) (x_ic 1 1 (by decide)))) (t_lp (c_z .ge (x_il 5)) (t_sq (t_sq (t_ia (x_gf 76 11 29 915 kg_11_29 (x_aln 0)) (x_il 5) (x_irem (x_il 4) (x_ic 4 4 (by decide)))) (t_is 4 (x_idiv (x_il 4) (x_ic 4 4 (by decide))))) (t_inc 5 (-1) (-1) (by decide)))))) (t_sq (t_is 5 (x_ic 1 1 (by decide))) (t_sq (t_bk (t_sq (t_is 6 (x_ic 0 0 (by decide))) (t_lp (c_2 .lt (x_il 6) (x_ald (x_gf 34 11 10 896 kg_11_10 (x_aln 0)) (x_iln 3))) (t_sq (t_is 5 (x_c (c_and (c_and (c_z .ne (x_il 5)) (c_or (c_z .ne (x_k _ _ (ic_V (S := S_X11_mayBe) sd_X11_isPopped ky_X11_isPopped kv_X11_isPopped (by decide) 211 1163 none) (x_a1 (x_aln 0) (x_a1 (x_iln 2) (x_a1 (x_iln 3) (x_a1 (x_il 6) x_a0)))))) (c_2 .eq (x_ald (x_gf 76 11 29 915 kg_11_29 (x_aln 0)) (x_il 6)) (x_ald (x_gf 37 11 11 897 kg_11_11 (x_aln 0)) (x_iadd (x_imul (x_bp 6 6 (by decide)) (x_iln 3)) (x_il 6)))))) (c_or (c_z .eq (x_il 6)) (c_2 .ne (x_ald (x_gf 76 11 29 915 kg_11_29 (x_aln 0)) (x_il 6)) (x_ald (x_gf 76 11 29 915 kg_11_29 (x_aln 0)) (x_isub (x_il 6) (x_ic 1 1 (by decide))))))) (x_ic 1 1 (by decide)) (x_ic 0 0 (by decide)))) (t_inc 6 1 1 (by decide)))))) (t_rt .ireturn (x_il 5))))))
noncomputable def g_X11_mayBe : am_T := (s_sq (s_as (o_si 7 4) (e_li 1)) (s_sq (s_bk (s_sq (s_as (o_si 7 5) (e_b o_isub (e_ald ShM (e_gf ShM 11 10 (e_lr 0)) (e_li 3)) (e_i 1))) (s_lp (b_z .ge (e_li 5)) (s_sq (s_sq (s_ia ShM (e_gf ShM 11 29 (e_lr 0)) (e_li 5) (e_b o_irem (e_li 4) (e_i 4))) (s_as (o_si 7 4) (e_b o_idiv (e_li 4) (e_i 4)))) (s_inc 7 5 (-1)))))) (s_sq (s_as (o_si 7 5) (e_i 1)) (s_sq (s_bk (s_sq (s_as (o_si 7 6) (e_i 0)) (s_lp (b_2 .lt (e_li 6) (e_ald ShM (e_gf ShM 11 10 (e_lr 0)) (e_li 3))) (s_sq (s_as (o_si 7 5) (e_c (b_and (b_and (b_z .ne (e_li 5)) (b_or (b_z .ne (e_k (am_cl ShM 11 3 f_X11_isPopped) (a_1 (e_lr 0) (a_1 (e_li 2) (a_1 (e_li 3) (a_1 (e_li 6) a_0)))))) (b_2 .eq (e_ald ShM (e_gf ShM 11 29 (e_lr 0)) (e_li 6)) (e_ald ShM (e_gf ShM 11 11 (e_lr 0)) (e_b o_iadd (e_b o_imul (e_i 6) (e_li 3)) (e_li 6)))))) (b_or (b_z .eq (e_li 6)) (b_2 .ne (e_ald ShM (e_gf ShM 11 29 (e_lr 0)) (e_li 6)) (e_ald ShM (e_gf ShM 11 29 (e_lr 0)) (e_b o_isub (e_li 6) (e_i 1)))))) (e_i 1) (e_i 0))) (s_inc 7 6 1))))) (s_rt .ireturn (e_li 5))))))
noncomputable def f_X11_mayBe : am_F := am_fn 7 (some .boolean) g_X11_mayBe
set_option maxRecDepth 100000 in
theorem sd_X11_mayBe : am_Sd ShM yX11_mayBe cX11_mayBe 7 (some .boolean) 2 f_X11_mayBe := am_meth (y := yX11_mayBe) (ret := (some .boolean)) x_X11_mayBe (by decide) (by decide +kernel) (by decide +kernel)
abbrev S_X11_fillOf : am_S := (ShM, cX11_fillOf, 8, 3, RX11)
set_option maxRecDepth 100000 in
noncomputable def x_X11_fillOf : am_SP S_X11_fillOf := (t_sq (t_is 4 (x_ic 0 0 (by decide))) (t_sq (t_is 5 (x_ishl (x_ic 1 1 (by decide)) (x_imul (x_ic 2 2 (by decide)) (x_ald (x_gf 34 11 10 896 kg_11_10 (x_aln 0)) (x_iln 2))))) (t_sq (t_bk (t_sq (t_is 6 (x_ic 0 0 (by decide))) (t_lp (c_2 .lt (x_il 6) (x_il 5)) (t_sq (t_if1 (c_z .ne (x_k _ _ (ic_V (S := S_X11_fillOf) sd_X11_mayBe ky_X11_mayBe kv_X11_mayBe (by decide) 283 1279 none) (x_a1 (x_aln 0) (x_a1 (x_il 6) (x_a1 (x_iln 1) (x_a1 (x_iln 2) x_a0)))))) (t_sq (t_bk (t_sq (t_is 7 (x_ic 0 0 (by decide))) (t_lp (c_and (c_2 .lt (x_il 7) (x_ald (x_gf 34 11 10 896 kg_11_10 (x_aln 0)) (x_iln 2))) (c_z .eq (x_il 4))) (t_sq (t_ia (x_gf 79 11 30 916 kg_11_30 (x_aln 0)) (x_il 7) (x_ald (x_gf 76 11 29 915 kg_11_29 (x_aln 0)) (x_il 7))) (t_inc 7 1 1 (by decide)))))) (t_inc 4 1 1 (by decide)))) (t_inc 6 1 1 (by decide)))))) (t_rt .ireturn (x_c (c_2 .eq (x_iln 3) (x_ic (-1) (-1) (by decide))) (x_il 4) (x_c (c_and (c_z .gt (x_il 4)) (c_2 .lt (x_iln 3) (x_ald (x_gf 34 11 10 896 kg_11_10 (x_aln 0)) (x_iln 2)))) (x_ald (x_gf 79 11 30 916 kg_11_30 (x_aln 0)) (x_iln 3)) (x_ic (-1) (-1) (by decide))))))))
noncomputable def g_X11_fillOf : am_T := (s_sq (s_as (o_si 8 4) (e_i 0)) (s_sq (s_as (o_si 8 5) (e_b o_ishl (e_i 1) (e_b o_imul (e_i 2) (e_ald ShM (e_gf ShM 11 10 (e_lr 0)) (e_li 2))))) (s_sq (s_bk (s_sq (s_as (o_si 8 6) (e_i 0)) (s_lp (b_2 .lt (e_li 6) (e_li 5)) (s_sq (s_if (b_z .ne (e_k (am_cl ShM 11 3 f_X11_mayBe) (a_1 (e_lr 0) (a_1 (e_li 6) (a_1 (e_li 1) (a_1 (e_li 2) a_0)))))) (s_sq (s_bk (s_sq (s_as (o_si 8 7) (e_i 0)) (s_lp (b_and (b_2 .lt (e_li 7) (e_ald ShM (e_gf ShM 11 10 (e_lr 0)) (e_li 2))) (b_z .eq (e_li 4))) (s_sq (s_ia ShM (e_gf ShM 11 30 (e_lr 0)) (e_li 7) (e_ald ShM (e_gf ShM 11 29 (e_lr 0)) (e_li 7))) (s_inc 8 7 1))))) (s_inc 8 4 1)) s_0) (s_inc 8 6 1))))) (s_rt .ireturn (e_c (b_2 .eq (e_li 3) (e_i (-1))) (e_li 4) (e_c (b_and (b_z .gt (e_li 4)) (b_2 .lt (e_li 3) (e_ald ShM (e_gf ShM 11 10 (e_lr 0)) (e_li 2)))) (e_ald ShM (e_gf ShM 11 30 (e_lr 0)) (e_li 3)) (e_i (-1))))))))
noncomputable def f_X11_fillOf : am_F := am_fn 8 (some .int) g_X11_fillOf
set_option maxRecDepth 100000 in
theorem sd_X11_fillOf : am_Sd ShM yX11_fillOf cX11_fillOf 8 (some .int) 3 f_X11_fillOf := am_meth (y := yX11_fillOf) (ret := (some .int)) x_X11_fillOf (by decide) (by decide +kernel) (by decide +kernel)
abbrev S_X11_fill : am_S := (ShM, cX11_fill, 4, 4, RX11)
set_option maxRecDepth 100000 in
noncomputable def x_X11_fill : am_SP S_X11_fill := (t_sq (t_k _ _ (ic_V (S := S_X11_fill) sd_X11_find ky_X11_find kv_X11_find (by decide) 202 1132 none) (x_a1 (x_aln 0) x_a0)) (t_rt .ireturn (x_c (c_and (c_and (c_z .ne (x_k _ _ (ic_S (S := S_X11_fill) sd_X11_isHour ky_X11_isHour ks_X11_isHour (by decide) 169 1097 none) (x_a1 (x_iln 1) x_a0))) (c_z .ne (x_k _ _ (ic_V (S := S_X11_fill) sd_X11_isStrand ky_X11_isStrand kv_X11_isStrand (by decide) 161 1084 none) (x_a1 (x_aln 0) (x_a1 (x_iln 2) x_a0))))) (c_z .ne (x_k _ _ (ic_S (S := S_X11_fill) sd_X11_in ky_X11_in ks_X11_in (by decide) 93 1003 none) (x_a1 (x_i2l (x_iln 3)) (x_a1 (x_ldc2 278 (-1) 1262) (x_a1 (x_ldc2 215 5 1158) x_a0)))))) (x_k _ _ (ic_V (S := S_X11_fill) sd_X11_fillOf ky_X11_fillOf kv_X11_fillOf (by decide) 286 1275 none) (x_a1 (x_aln 0) (x_a1 (x_iln 1) (x_a1 (x_iln 2) (x_a1 (x_iln 3) x_a0))))) (x_bp (-2) (-2) (by decide)))))
noncomputable def g_X11_fill : am_T := (s_sq (s_k (am_cl ShM 11 0 f_X11_find) (a_1 (e_lr 0) a_0)) (s_rt .ireturn (e_c (b_and (b_and (b_z .ne (e_k (am_cs 1 f_X11_isHour) (a_1 (e_li 1) a_0))) (b_z .ne (e_k (am_cl ShM 11 1 f_X11_isStrand) (a_1 (e_lr 0) (a_1 (e_li 2) a_0))))) (b_z .ne (e_k (am_cs 3 f_X11_in) (a_1 (e_i2l (e_li 3)) (a_1 (e_j (-1)) (a_1 (e_j 5) a_0)))))) (e_k (am_cl ShM 11 3 f_X11_fillOf) (a_1 (e_lr 0) (a_1 (e_li 1) (a_1 (e_li 2) (a_1 (e_li 3) a_0))))) (e_i (-2)))))
noncomputable def f_X11_fill : am_F := am_fn 4 (some .int) g_X11_fill
set_option maxRecDepth 100000 in
theorem sd_X11_fill : am_Sd ShM yX11_fill cX11_fill 4 (some .int) 4 f_X11_fill := am_meth (y := yX11_fill) (ret := (some .int)) x_X11_fill (by decide) (by decide +kernel) (by decide +kernel)
abbrev S_X11_seen : am_S := (ShM, cX11_seen, 4, 2, RX11)
set_option maxRecDepth 100000 in
noncomputable def x_X11_seen : am_SP S_X11_seen := (t_sq (t_if1 (c_or (c_or (c_not (c_z .ne (x_k _ _ (ic_S (S := S_X11_seen) sd_X11_isHour ky_X11_isHour ks_X11_isHour (by decide) 169 1097 none) (x_a1 (x_iln 1) x_a0)))) (c_not (c_z .ne (x_k _ _ (ic_S (S := S_X11_seen) sd_X11_in ky_X11_in ks_X11_in (by decide) 93 1003 none) (x_a1 (x_i2l (x_iln 2)) (x_a1 (x_lc 0 0 (by decide)) (x_a1 (x_ldc2 172 7 1105) x_a0))))))) (c_not (c_z .ne (x_k _ _ (ic_S (S := S_X11_seen) sd_X11_in ky_X11_in ks_X11_in (by decide) 93 1003 none) (x_a1 (x_i2l (x_iln 3)) (x_a1 (x_lc 0 0 (by decide)) (x_a1 (x_ldc2 289 4 1287) x_a0))))))) (t_rt .ireturn (x_bp (-2) (-2) (by decide)))) (t_sq (t_if1 (c_2 .eq (x_gf 291 11 31 917 kg_11_31 (x_aln 0)) (x_bp 8 8 (by decide))) (t_rt .ireturn (x_bp (-4) (-4) (by decide)))) (t_sq (t_ia (x_gf 82 11 32 918 kg_11_32 (x_aln 0)) (x_imul (x_ic 3 3 (by decide)) (x_gf 291 11 31 917 kg_11_31 (x_aln 0))) (x_iln 1)) (t_sq (t_ia (x_gf 82 11 32 918 kg_11_32 (x_aln 0)) (x_iadd (x_imul (x_ic 3 3 (by decide)) (x_gf 291 11 31 917 kg_11_31 (x_aln 0))) (x_ic 1 1 (by decide))) (x_iln 2)) (t_sq (t_ia (x_gf 82 11 32 918 kg_11_32 (x_aln 0)) (x_iadd (x_imul (x_ic 3 3 (by decide)) (x_gf 291 11 31 917 kg_11_31 (x_aln 0))) (x_ic 2 2 (by decide))) (x_iln 3)) (t_sq (t_po 291 11 31 917 917 false kp_11_31 _ _ ib_iadd (x_aln 0) (x_ic 1 1 (by decide))) (t_rt .ireturn (x_gf 291 11 31 917 kg_11_31 (x_aln 0)))))))))
noncomputable def g_X11_seen : am_T := (s_sq (s_if (b_or (b_or (b_not (b_z .ne (e_k (am_cs 1 f_X11_isHour) (a_1 (e_li 1) a_0)))) (b_not (b_z .ne (e_k (am_cs 3 f_X11_in) (a_1 (e_i2l (e_li 2)) (a_1 (e_j 0) (a_1 (e_j 7) a_0))))))) (b_not (b_z .ne (e_k (am_cs 3 f_X11_in) (a_1 (e_i2l (e_li 3)) (a_1 (e_j 0) (a_1 (e_j 4) a_0))))))) (s_rt .ireturn (e_i (-2))) s_0) (s_sq (s_if (b_2 .eq (e_gf ShM 11 31 (e_lr 0)) (e_i 8)) (s_rt .ireturn (e_i (-4))) s_0) (s_sq (s_ia ShM (e_gf ShM 11 32 (e_lr 0)) (e_b o_imul (e_i 3) (e_gf ShM 11 31 (e_lr 0))) (e_li 1)) (s_sq (s_ia ShM (e_gf ShM 11 32 (e_lr 0)) (e_b o_iadd (e_b o_imul (e_i 3) (e_gf ShM 11 31 (e_lr 0))) (e_i 1)) (e_li 2)) (s_sq (s_ia ShM (e_gf ShM 11 32 (e_lr 0)) (e_b o_iadd (e_b o_imul (e_i 3) (e_gf ShM 11 31 (e_lr 0))) (e_i 2)) (e_li 3)) (s_sq (s_po ShM 11 31 false o_iadd (e_lr 0) (e_i 1)) (s_rt .ireturn (e_gf ShM 11 31 (e_lr 0)))))))))
noncomputable def f_X11_seen : am_F := am_fn 4 (some .int) g_X11_seen
set_option maxRecDepth 100000 in
theorem sd_X11_seen : am_Sd ShM yX11_seen cX11_seen 4 (some .int) 2 f_X11_seen := am_meth (y := yX11_seen) (ret := (some .int)) x_X11_seen (by decide) (by decide +kernel) (by decide +kernel)
abbrev S_X11_forget : am_S := (ShM, cX11_forget, 2, 0, RX11)
set_option maxRecDepth 100000 in
noncomputable def x_X11_forget : am_SP S_X11_forget := (t_sq (t_isn 1 (x_gf 291 11 31 917 kg_11_31 (x_aln 0))) (t_sq (t_pf 291 11 31 917 false kp_11_31 (x_aln 0) (x_ic 0 0 (by decide))) (t_rt .ireturn (x_iln 1))))
noncomputable def g_X11_forget : am_T := (s_sq (s_as (o_si 2 1) (e_gf ShM 11 31 (e_lr 0))) (s_sq (s_pf ShM 11 31 false (e_lr 0) (e_i 0)) (s_rt .ireturn (e_li 1))))
noncomputable def f_X11_forget : am_F := am_fn 2 (some .int) g_X11_forget
set_option maxRecDepth 100000 in
theorem sd_X11_forget : am_Sd ShM yX11_forget cX11_forget 2 (some .int) 0 f_X11_forget := am_meth (y := yX11_forget) (ret := (some .int)) x_X11_forget (by decide) (by decide +kernel) (by decide +kernel)
abbrev S_X11_isSeen : am_S := (ShM, cX11_isSeen, 4, 2, RX11)
set_option maxRecDepth 100000 in
noncomputable def x_X11_isSeen : am_SP S_X11_isSeen := (t_sq (t_k _ _ (ic_V (S := S_X11_isSeen) sd_X11_lives ky_X11_lives kv_X11_lives (by decide) 196 1136 none) (x_a1 (x_aln 0) x_a0)) (t_sq (t_isn 1 (x_ic 1 1 (by decide))) (t_sq (t_bk (t_sq (t_isn 2 (x_ic 0 0 (by decide))) (t_lp (c_2 .lt (x_iln 2) (x_gf 291 11 31 917 kg_11_31 (x_aln 0))) (t_sq (t_bk (t_sq (t_isn 3 (x_ald (x_gf 82 11 32 918 kg_11_32 (x_aln 0)) (x_iadd (x_imul (x_ic 3 3 (by decide)) (x_iln 2)) (x_ic 1 1 (by decide))))) (t_isn 1 (x_c (c_and (c_and (c_z .ne (x_iln 1)) (c_z .ne (x_k _ _ (ic_V (S := S_X11_isSeen) sd_X11_isStrand ky_X11_isStrand kv_X11_isStrand (by decide) 161 1084 none) (x_a1 (x_aln 0) (x_a1 (x_iln 3) x_a0))))) (c_2 .eq (x_k _ _ (ic_V (S := S_X11_isSeen) sd_X11_stateOf ky_X11_stateOf kv_X11_stateOf (by decide) 208 1146 none) (x_a1 (x_aln 0) (x_a1 (x_ald (x_gf 82 11 32 918 kg_11_32 (x_aln 0)) (x_imul (x_ic 3 3 (by decide)) (x_iln 2))) (x_a1 (x_iln 3) x_a0)))) (x_ald (x_gf 82 11 32 918 kg_11_32 (x_aln 0)) (x_iadd (x_imul (x_ic 3 3 (by decide)) (x_iln 2)) (x_ic 2 2 (by decide)))))) (x_ic 1 1 (by decide)) (x_ic 0 0 (by decide)))))) (t_inc 2 1 1 (by decide)))))) (t_rt .ireturn (x_iln 1)))))
noncomputable def g_X11_isSeen : am_T := (s_sq (s_k (am_cl ShM 11 0 f_X11_lives) (a_1 (e_lr 0) a_0)) (s_sq (s_as (o_si 4 1) (e_i 1)) (s_sq (s_bk (s_sq (s_as (o_si 4 2) (e_i 0)) (s_lp (b_2 .lt (e_li 2) (e_gf ShM 11 31 (e_lr 0))) (s_sq (s_bk (s_sq (s_as (o_si 4 3) (e_ald ShM (e_gf ShM 11 32 (e_lr 0)) (e_b o_iadd (e_b o_imul (e_i 3) (e_li 2)) (e_i 1)))) (s_as (o_si 4 1) (e_c (b_and (b_and (b_z .ne (e_li 1)) (b_z .ne (e_k (am_cl ShM 11 1 f_X11_isStrand) (a_1 (e_lr 0) (a_1 (e_li 3) a_0))))) (b_2 .eq (e_k (am_cl ShM 11 2 f_X11_stateOf) (a_1 (e_lr 0) (a_1 (e_ald ShM (e_gf ShM 11 32 (e_lr 0)) (e_b o_imul (e_i 3) (e_li 2))) (a_1 (e_li 3) a_0)))) (e_ald ShM (e_gf ShM 11 32 (e_lr 0)) (e_b o_iadd (e_b o_imul (e_i 3) (e_li 2)) (e_i 2))))) (e_i 1) (e_i 0))))) (s_inc 4 2 1))))) (s_rt .ireturn (e_li 1)))))
noncomputable def f_X11_isSeen : am_F := am_fn 4 (some .boolean) g_X11_isSeen
set_option maxRecDepth 100000 in
theorem sd_X11_isSeen : am_Sd ShM yX11_isSeen cX11_isSeen 4 (some .boolean) 2 f_X11_isSeen := am_meth (y := yX11_isSeen) (ret := (some .boolean)) x_X11_isSeen (by decide) (by decide +kernel) (by decide +kernel)
abbrev S_X11_neverNow : am_S := (ShM, cX11_neverNow, 3, 3, RX11)
set_option maxRecDepth 100000 in
noncomputable def x_X11_neverNow : am_SP S_X11_neverNow := (t_sq (t_isn 1 (x_ic 0 0 (by decide))) (t_sq (t_bk (t_sq (t_isn 2 (x_ic 0 0 (by decide))) (t_lp (c_2 .lt (x_iln 2) (x_gf 177 11 15 901 kg_11_15 (x_aln 0))) (t_sq (t_sq (t_pf 189 11 22 908 false kp_11_22 (x_aln 0) (x_ishl (x_ic 1 1 (by decide)) (x_iln 2))) (t_isn 1 (x_ior (x_iln 1) (x_c (c_z .ne (x_k _ _ (ic_V (S := S_X11_neverNow) sd_X11_isSeen ky_X11_isSeen kv_X11_isSeen (by decide) 294 1300 none) (x_a1 (x_aln 0) x_a0))) (x_ishl (x_ic 1 1 (by decide)) (x_iln 2)) (x_ic 0 0 (by decide)))))) (t_inc 2 1 1 (by decide)))))) (t_sq (t_pf 189 11 22 908 false kp_11_22 (x_aln 0) (x_ic 0 0 (by decide))) (t_rt .ireturn (x_iln 1)))))
noncomputable def g_X11_neverNow : am_T := (s_sq (s_as (o_si 3 1) (e_i 0)) (s_sq (s_bk (s_sq (s_as (o_si 3 2) (e_i 0)) (s_lp (b_2 .lt (e_li 2) (e_gf ShM 11 15 (e_lr 0))) (s_sq (s_sq (s_pf ShM 11 22 false (e_lr 0) (e_b o_ishl (e_i 1) (e_li 2))) (s_as (o_si 3 1) (e_b o_ior (e_li 1) (e_c (b_z .ne (e_k (am_cl ShM 11 0 f_X11_isSeen) (a_1 (e_lr 0) a_0))) (e_b o_ishl (e_i 1) (e_li 2)) (e_i 0))))) (s_inc 3 2 1))))) (s_sq (s_pf ShM 11 22 false (e_lr 0) (e_i 0)) (s_rt .ireturn (e_li 1)))))
noncomputable def f_X11_neverNow : am_F := am_fn 3 (some .int) g_X11_neverNow
set_option maxRecDepth 100000 in
theorem sd_X11_neverNow : am_Sd ShM yX11_neverNow cX11_neverNow 3 (some .int) 3 f_X11_neverNow := am_meth (y := yX11_neverNow) (ret := (some .int)) x_X11_neverNow (by decide) (by decide +kernel) (by decide +kernel)
abbrev S_X11_never : am_S := (ShM, cX11_never, 1, 4, RX11)
set_option maxRecDepth 100000 in
noncomputable def x_X11_never : am_SP S_X11_never := (t_sq (t_k _ _ (ic_V (S := S_X11_never) sd_X11_find ky_X11_find kv_X11_find (by decide) 202 1132 none) (x_a1 (x_aln 0) x_a0)) (t_rt .ireturn (x_k _ _ (ic_V (S := S_X11_never) sd_X11_neverNow ky_X11_neverNow kv_X11_neverNow (by decide) 298 1296 none) (x_a1 (x_aln 0) x_a0))))
noncomputable def g_X11_never : am_T := (s_sq (s_k (am_cl ShM 11 0 f_X11_find) (a_1 (e_lr 0) a_0)) (s_rt .ireturn (e_k (am_cl ShM 11 0 f_X11_neverNow) (a_1 (e_lr 0) a_0))))
noncomputable def f_X11_never : am_F := am_fn 1 (some .int) g_X11_never
set_option maxRecDepth 100000 in
theorem sd_X11_never : am_Sd ShM yX11_never cX11_never 1 (some .int) 4 f_X11_never := am_meth (y := yX11_never) (ret := (some .int)) x_X11_never (by decide) (by decide +kernel) (by decide +kernel)
abbrev S_X11_hungOf : am_S := (ShM, cX11_hungOf, 5, 3, RX11)
set_option maxRecDepth 100000 in
noncomputable def x_X11_hungOf : am_SP S_X11_hungOf := (t_sq (t_isn 2 (x_ald (x_gf 28 11 8 894 kg_11_8 (x_aln 0)) (x_iln 1))) (t_sq (t_isn 3 (x_ic 0 0 (by decide))) (t_sq (t_bk (t_sq (t_is 4 (x_ic 0 0 (by decide))) (t_lp (c_2 .lt (x_il 4) (x_bp 10 10 (by decide))) (t_sq (t_sq (t_ia (x_gf 28 11 8 894 kg_11_8 (x_aln 0)) (x_iln 1) (x_il 4)) (t_isn 3 (x_ior (x_iln 3) (x_c (c_z .ne (x_k _ _ (ic_V (S := S_X11_hungOf) sd_X11_isSeen ky_X11_isSeen kv_X11_isSeen (by decide) 294 1300 none) (x_a1 (x_aln 0) x_a0))) (x_ishl (x_ic 1 1 (by decide)) (x_il 4)) (x_ic 0 0 (by decide)))))) (t_inc 4 1 1 (by decide)))))) (t_sq (t_ia (x_gf 28 11 8 894 kg_11_8 (x_aln 0)) (x_iln 1) (x_iln 2)) (t_rt .ireturn (x_iln 3))))))
noncomputable def g_X11_hungOf : am_T := (s_sq (s_as (o_si 5 2) (e_ald ShM (e_gf ShM 11 8 (e_lr 0)) (e_li 1))) (s_sq (s_as (o_si 5 3) (e_i 0)) (s_sq (s_bk (s_sq (s_as (o_si 5 4) (e_i 0)) (s_lp (b_2 .lt (e_li 4) (e_i 10)) (s_sq (s_sq (s_ia ShM (e_gf ShM 11 8 (e_lr 0)) (e_li 1) (e_li 4)) (s_as (o_si 5 3) (e_b o_ior (e_li 3) (e_c (b_z .ne (e_k (am_cl ShM 11 0 f_X11_isSeen) (a_1 (e_lr 0) a_0))) (e_b o_ishl (e_i 1) (e_li 4)) (e_i 0))))) (s_inc 5 4 1))))) (s_sq (s_ia ShM (e_gf ShM 11 8 (e_lr 0)) (e_li 1) (e_li 2)) (s_rt .ireturn (e_li 3))))))
noncomputable def f_X11_hungOf : am_F := am_fn 5 (some .int) g_X11_hungOf
set_option maxRecDepth 100000 in
theorem sd_X11_hungOf : am_Sd ShM yX11_hungOf cX11_hungOf 5 (some .int) 3 f_X11_hungOf := am_meth (y := yX11_hungOf) (ret := (some .int)) x_X11_hungOf (by decide) (by decide +kernel) (by decide +kernel)
abbrev S_X11_sortOf : am_S := (ShM, cX11_sortOf, 5, 3, RX11)
set_option maxRecDepth 100000 in
noncomputable def x_X11_sortOf : am_SP S_X11_sortOf := (t_sq (t_isn 2 (x_ald (x_gf 31 11 9 895 kg_11_9 (x_aln 0)) (x_iln 1))) (t_sq (t_isn 3 (x_ic 0 0 (by decide))) (t_sq (t_bk (t_sq (t_is 4 (x_ic 0 0 (by decide))) (t_lp (c_2 .lt (x_il 4) (x_ic 3 3 (by decide))) (t_sq (t_sq (t_ia (x_gf 31 11 9 895 kg_11_9 (x_aln 0)) (x_iln 1) (x_il 4)) (t_isn 3 (x_ior (x_iln 3) (x_c (c_z .ne (x_k _ _ (ic_V (S := S_X11_sortOf) sd_X11_isSeen ky_X11_isSeen kv_X11_isSeen (by decide) 294 1300 none) (x_a1 (x_aln 0) x_a0))) (x_ishl (x_ic 1 1 (by decide)) (x_il 4)) (x_ic 0 0 (by decide)))))) (t_inc 4 1 1 (by decide)))))) (t_sq (t_ia (x_gf 31 11 9 895 kg_11_9 (x_aln 0)) (x_iln 1) (x_iln 2)) (t_rt .ireturn (x_iln 3))))))
noncomputable def g_X11_sortOf : am_T := (s_sq (s_as (o_si 5 2) (e_ald ShM (e_gf ShM 11 9 (e_lr 0)) (e_li 1))) (s_sq (s_as (o_si 5 3) (e_i 0)) (s_sq (s_bk (s_sq (s_as (o_si 5 4) (e_i 0)) (s_lp (b_2 .lt (e_li 4) (e_i 3)) (s_sq (s_sq (s_ia ShM (e_gf ShM 11 9 (e_lr 0)) (e_li 1) (e_li 4)) (s_as (o_si 5 3) (e_b o_ior (e_li 3) (e_c (b_z .ne (e_k (am_cl ShM 11 0 f_X11_isSeen) (a_1 (e_lr 0) a_0))) (e_b o_ishl (e_i 1) (e_li 4)) (e_i 0))))) (s_inc 5 4 1))))) (s_sq (s_ia ShM (e_gf ShM 11 9 (e_lr 0)) (e_li 1) (e_li 2)) (s_rt .ireturn (e_li 3))))))
noncomputable def f_X11_sortOf : am_F := am_fn 5 (some .int) g_X11_sortOf
set_option maxRecDepth 100000 in
theorem sd_X11_sortOf : am_Sd ShM yX11_sortOf cX11_sortOf 5 (some .int) 3 f_X11_sortOf := am_meth (y := yX11_sortOf) (ret := (some .int)) x_X11_sortOf (by decide) (by decide +kernel) (by decide +kernel)
abbrev S_X11_wasOf : am_S := (ShM, cX11_wasOf, 3, 4, RX11)
set_option maxRecDepth 100000 in
noncomputable def x_X11_wasOf : am_SP S_X11_wasOf := (t_rt .ireturn (x_c (c_z .eq (x_iln 2)) (x_k _ _ (ic_V (S := S_X11_wasOf) sd_X11_hungOf ky_X11_hungOf kv_X11_hungOf (by decide) 301 1312 none) (x_a1 (x_aln 0) (x_a1 (x_iln 1) x_a0))) (x_k _ _ (ic_V (S := S_X11_wasOf) sd_X11_sortOf ky_X11_sortOf kv_X11_sortOf (by decide) 304 1316 none) (x_a1 (x_aln 0) (x_a1 (x_iln 1) x_a0)))))
noncomputable def g_X11_wasOf : am_T := (s_rt .ireturn (e_c (b_z .eq (e_li 2)) (e_k (am_cl ShM 11 1 f_X11_hungOf) (a_1 (e_lr 0) (a_1 (e_li 1) a_0))) (e_k (am_cl ShM 11 1 f_X11_sortOf) (a_1 (e_lr 0) (a_1 (e_li 1) a_0)))))
noncomputable def f_X11_wasOf : am_F := am_fn 3 (some .int) g_X11_wasOf
set_option maxRecDepth 100000 in
theorem sd_X11_wasOf : am_Sd ShM yX11_wasOf cX11_wasOf 3 (some .int) 4 f_X11_wasOf := am_meth (y := yX11_wasOf) (ret := (some .int)) x_X11_wasOf (by decide) (by decide +kernel) (by decide +kernel)
abbrev S_X11_was : am_S := (ShM, cX11_was, 3, 5, RX11)
set_option maxRecDepth 100000 in
noncomputable def x_X11_was : am_SP S_X11_was := (t_sq (t_k _ _ (ic_V (S := S_X11_was) sd_X11_find ky_X11_find kv_X11_find (by decide) 202 1132 none) (x_a1 (x_aln 0) x_a0)) (t_rt .ireturn (x_c (c_and (c_z .ne (x_k _ _ (ic_V (S := S_X11_was) sd_X11_isStrand ky_X11_isStrand kv_X11_isStrand (by decide) 161 1084 none) (x_a1 (x_aln 0) (x_a1 (x_iln 1) x_a0)))) (c_z .ne (x_k _ _ (ic_S (S := S_X11_was) sd_X11_isTwo ky_X11_isTwo ks_X11_isTwo (by decide) 205 1143 none) (x_a1 (x_iln 2) x_a0)))) (x_k _ _ (ic_V (S := S_X11_was) sd_X11_wasOf ky_X11_wasOf kv_X11_wasOf (by decide) 307 1308 none) (x_a1 (x_aln 0) (x_a1 (x_iln 1) (x_a1 (x_iln 2) x_a0)))) (x_bp (-2) (-2) (by decide)))))
noncomputable def g_X11_was : am_T := (s_sq (s_k (am_cl ShM 11 0 f_X11_find) (a_1 (e_lr 0) a_0)) (s_rt .ireturn (e_c (b_and (b_z .ne (e_k (am_cl ShM 11 1 f_X11_isStrand) (a_1 (e_lr 0) (a_1 (e_li 1) a_0)))) (b_z .ne (e_k (am_cs 1 f_X11_isTwo) (a_1 (e_li 2) a_0)))) (e_k (am_cl ShM 11 2 f_X11_wasOf) (a_1 (e_lr 0) (a_1 (e_li 1) (a_1 (e_li 2) a_0)))) (e_i (-2)))))
noncomputable def f_X11_was : am_F := am_fn 3 (some .int) g_X11_was
set_option maxRecDepth 100000 in
theorem sd_X11_was : am_Sd ShM yX11_was cX11_was 3 (some .int) 5 f_X11_was := am_meth (y := yX11_was) (ret := (some .int)) x_X11_was (by decide) (by decide +kernel) (by decide +kernel)
abbrev S_X11_askOf : am_S := (ShM, cX11_askOf, 9, 4, RX11)
set_option maxRecDepth 100000 in
noncomputable def x_X11_askOf : am_SP S_X11_askOf := (t_sq (t_isn 2 (x_k _ _ (ic_V (S := S_X11_askOf) sd_X11_hungOf ky_X11_hungOf kv_X11_hungOf (by decide) 301 1312 none) (x_a1 (x_aln 0) (x_a1 (x_iln 1) x_a0)))) (t_sq (t_isn 3 (x_ald (x_gf 28 11 8 894 kg_11_8 (x_aln 0)) (x_iln 1))) (t_sq (t_bk (t_sq (t_is 4 (x_ic 0 0 (by decide))) (t_lp (c_2 .lt (x_il 4) (x_bp 100 100 (by decide))) (t_sq (t_ia (x_gf 85 11 33 919 kg_11_33 (x_aln 0)) (x_il 4) (x_ic 0 0 (by decide))) (t_inc 4 1 1 (by decide)))))) (t_sq (t_bk (t_sq (t_is 4 (x_ic 0 0 (by decide))) (t_lp (c_2 .lt (x_il 4) (x_bp 10 10 (by decide))) (t_sq (t_if1 (c_z .ne (x_k _ _ (ic_S (S := S_X11_askOf) sd_X11_isIn ky_X11_isIn ks_X11_isIn (by decide) 192 1140 none) (x_a1 (x_iln 2) (x_a1 (x_il 4) x_a0)))) (t_sq (t_ia (x_gf 28 11 8 894 kg_11_8 (x_aln 0)) (x_iln 1) (x_il 4)) (t_sq (t_k _ _ (ic_V (S := S_X11_askOf) sd_X11_lives ky_X11_lives kv_X11_lives (by decide) 196 1136 none) (x_a1 (x_aln 0) x_a0)) (t_bk (t_sq (t_is 5 (x_ic 0 0 (by decide))) (t_lp (c_2 .lt (x_il 5) (x_bp 20 20 (by decide))) (t_sq (t_io _ _ ib_iadd (x_gf 85 11 33 919 kg_11_33 (x_aln 0)) (x_iadd (x_imul (x_ic 5 5 (by decide)) (x_il 5)) (x_k _ _ (ic_V (S := S_X11_askOf) sd_X11_stateOf ky_X11_stateOf kv_X11_stateOf (by decide) 208 1146 none) (x_a1 (x_aln 0) (x_a1 (x_il 5) (x_a1 (x_iln 1) x_a0))))) (x_ic 1 1 (by decide))) (t_inc 5 1 1 (by decide))))))))) (t_inc 4 1 1 (by decide)))))) (t_sq (t_ia (x_gf 28 11 8 894 kg_11_8 (x_aln 0)) (x_iln 1) (x_iln 3)) (t_sq (t_is 4 (x_ic (-1) (-1) (by decide))) (t_sq (t_is 5 (x_ic 0 0 (by decide))) (t_sq (t_bk (t_sq (t_is 6 (x_ic 0 0 (by decide))) (t_lp (c_2 .lt (x_il 6) (x_bp 20 20 (by decide))) (t_sq (t_bk (t_sq (t_is 7 (x_ic 0 0 (by decide))) (t_sq (t_bk (t_sq (t_is 8 (x_ic 0 0 (by decide))) (t_lp (c_2 .lt (x_il 8) (x_ic 5 5 (by decide))) (t_sq (t_is 7 (x_k _ _ (ic_S (S := S_X11_askOf) sd_X11_greater ky_X11_greater ks_X11_greater (by decide) 235 1211 none) (x_a1 (x_ald (x_gf 85 11 33 919 kg_11_33 (x_aln 0)) (x_iadd (x_imul (x_ic 5 5 (by decide)) (x_il 6)) (x_il 8))) (x_a1 (x_il 7) x_a0)))) (t_inc 8 1 1 (by decide)))))) (t_sq (t_is 8 (x_c (c_or (c_2 .eq (x_il 4) (x_ic (-1) (-1) (by decide))) (c_2 .lt (x_il 7) (x_il 5))) (x_ic 1 1 (by decide)) (x_ic 0 0 (by decide)))) (t_sq (t_is 4 (x_c (c_z .ne (x_il 8)) (x_il 6) (x_il 4))) (t_is 5 (x_c (c_z .ne (x_il 8)) (x_il 7) (x_il 5)))))))) (t_inc 6 1 1 (by decide)))))) (t_rt .ireturn (x_il 4))))))))))
noncomputable def g_X11_askOf : am_T := (s_sq (s_as (o_si 9 2) (e_k (am_cl ShM 11 1 f_X11_hungOf) (a_1 (e_lr 0) (a_1 (e_li 1) a_0)))) (s_sq (s_as (o_si 9 3) (e_ald ShM (e_gf ShM 11 8 (e_lr 0)) (e_li 1))) (s_sq (s_bk (s_sq (s_as (o_si 9 4) (e_i 0)) (s_lp (b_2 .lt (e_li 4) (e_i 100)) (s_sq (s_ia ShM (e_gf ShM 11 33 (e_lr 0)) (e_li 4) (e_i 0)) (s_inc 9 4 1))))) (s_sq (s_bk (s_sq (s_as (o_si 9 4) (e_i 0)) (s_lp (b_2 .lt (e_li 4) (e_i 10)) (s_sq (s_if (b_z .ne (e_k (am_cs 2 f_X11_isIn) (a_1 (e_li 2) (a_1 (e_li 4) a_0)))) (s_sq (s_ia ShM (e_gf ShM 11 8 (e_lr 0)) (e_li 1) (e_li 4)) (s_sq (s_k (am_cl ShM 11 0 f_X11_lives) (a_1 (e_lr 0) a_0)) (s_bk (s_sq (s_as (o_si 9 5) (e_i 0)) (s_lp (b_2 .lt (e_li 5) (e_i 20)) (s_sq (s_io ShM o_iadd (e_gf ShM 11 33 (e_lr 0)) (e_b o_iadd (e_b o_imul (e_i 5) (e_li 5)) (e_k (am_cl ShM 11 2 f_X11_stateOf) (a_1 (e_lr 0) (a_1 (e_li 5) (a_1 (e_li 1) a_0))))) (e_i 1)) (s_inc 9 5 1))))))) s_0) (s_inc 9 4 1))))) (s_sq (s_ia ShM (e_gf ShM 11 8 (e_lr 0)) (e_li 1) (e_li 3)) (s_sq (s_as (o_si 9 4) (e_i (-1))) (s_sq (s_as (o_si 9 5) (e_i 0)) (s_sq (s_bk (s_sq (s_as (o_si 9 6) (e_i 0)) (s_lp (b_2 .lt (e_li 6) (e_i 20)) (s_sq (s_bk (s_sq (s_as (o_si 9 7) (e_i 0)) (s_sq (s_bk (s_sq (s_as (o_si 9 8) (e_i 0)) (s_lp (b_2 .lt (e_li 8) (e_i 5)) (s_sq (s_as (o_si 9 7) (e_k (am_cs 2 f_X11_greater) (a_1 (e_ald ShM (e_gf ShM 11 33 (e_lr 0)) (e_b o_iadd (e_b o_imul (e_i 5) (e_li 6)) (e_li 8))) (a_1 (e_li 7) a_0)))) (s_inc 9 8 1))))) (s_sq (s_as (o_si 9 8) (e_c (b_or (b_2 .eq (e_li 4) (e_i (-1))) (b_2 .lt (e_li 7) (e_li 5))) (e_i 1) (e_i 0))) (s_sq (s_as (o_si 9 4) (e_c (b_z .ne (e_li 8)) (e_li 6) (e_li 4))) (s_as (o_si 9 5) (e_c (b_z .ne (e_li 8)) (e_li 7) (e_li 5)))))))) (s_inc 9 6 1))))) (s_rt .ireturn (e_li 4))))))))))
noncomputable def f_X11_askOf : am_F := am_fn 9 (some .int) g_X11_askOf
set_option maxRecDepth 100000 in
theorem sd_X11_askOf : am_Sd ShM yX11_askOf cX11_askOf 9 (some .int) 4 f_X11_askOf := am_meth (y := yX11_askOf) (ret := (some .int)) x_X11_askOf (by decide) (by decide +kernel) (by decide +kernel)
end
section
/-! methods as forms, by program (gen.py, mkm.py): x_ the form, g_ and f_ the meaning, sd_ the contract -/
abbrev S_X11_ask : am_S := (ShM, cX11_ask, 2, 5, RX11)
set_option maxRecDepth 100000 in
noncomputable def x_X11_ask : am_SP S_X11_ask := (t_sq (t_k _ _ (ic_V (S := S_X11_ask) sd_X11_find ky_X11_find kv_X11_find (by decide) 202 1132 none) (x_a1 (x_aln 0) x_a0)) (t_rt .ireturn (x_c (c_z .ne (x_k _ _ (ic_V (S := S_X11_ask) sd_X11_isStrand ky_X11_isStrand kv_X11_isStrand (by decide) 161 1084 none) (x_a1 (x_aln 0) (x_a1 (x_iln 1) x_a0)))) (x_k _ _ (ic_V (S := S_X11_ask) sd_X11_askOf ky_X11_askOf kv_X11_askOf (by decide) 310 1324 none) (x_a1 (x_aln 0) (x_a1 (x_iln 1) x_a0))) (x_bp (-2) (-2) (by decide)))))
noncomputable def g_X11_ask : am_T := (s_sq (s_k (am_cl ShM 11 0 f_X11_find) (a_1 (e_lr 0) a_0)) (s_rt .ireturn (e_c (b_z .ne (e_k (am_cl ShM 11 1 f_X11_isStrand) (a_1 (e_lr 0) (a_1 (e_li 1) a_0)))) (e_k (am_cl ShM 11 1 f_X11_askOf) (a_1 (e_lr 0) (a_1 (e_li 1) a_0))) (e_i (-2)))))
noncomputable def f_X11_ask : am_F := am_fn 2 (some .int) g_X11_ask
set_option maxRecDepth 100000 in
theorem sd_X11_ask : am_Sd ShM yX11_ask cX11_ask 2 (some .int) 5 f_X11_ask := am_meth (y := yX11_ask) (ret := (some .int)) x_X11_ask (by decide) (by decide +kernel) (by decide +kernel)
abbrev S_X11_riskOf : am_S := (ShM, cX11_riskOf, 11, 2, RX11)
set_option maxRecDepth 100000 in
noncomputable def x_X11_riskOf : am_SP S_X11_riskOf := (t_sq (t_ls 5 (x_lc 0 0 (by decide))) (t_sq (t_bk (t_sq (t_is 7 (x_ic 0 0 (by decide))) (t_lp (c_2 .lt (x_il 7) (x_ishl (x_ic 1 1 (by decide)) (x_gf 177 11 15 901 kg_11_15 (x_aln 0)))) (t_sq (t_sq (t_pf 189 11 22 908 false kp_11_22 (x_aln 0) (x_il 7)) (t_sq (t_k _ _ (ic_V (S := S_X11_riskOf) sd_X11_lives ky_X11_lives kv_X11_lives (by decide) 196 1136 none) (x_a1 (x_aln 0) x_a0)) (t_if1 (c_z .ne (x_k _ _ (ic_V (S := S_X11_riskOf) sd_X11_isVoid ky_X11_isVoid kv_X11_isVoid (by decide) 226 1187 none) (x_a1 (x_aln 0) (x_a1 (x_iln 3) (x_a1 (x_iln 2) x_a0))))) (t_bk (t_sq (t_ls 8 (x_lc 1 1 (by decide))) (t_sq (t_bk (t_sq (t_is 10 (x_ic 0 0 (by decide))) (t_lp (c_2 .lt (x_il 10) (x_gf 177 11 15 901 kg_11_15 (x_aln 0))) (t_sq (t_ls 8 (x_lmul (x_ll 8) (x_c (c_z .ne (x_k _ _ (ic_S (S := S_X11_riskOf) sd_X11_isIn ky_X11_isIn ks_X11_isIn (by decide) 192 1140 none) (x_a1 (x_il 7) (x_a1 (x_il 10) x_a0)))) (x_i2l (x_isub (x_bp 16 16 (by decide)) (x_iln 1))) (x_i2l (x_iln 1))))) (t_inc 10 1 1 (by decide)))))) (t_ls 5 (x_ladd (x_ll 5) (x_ll 8))))))))) (t_inc 7 1 1 (by decide)))))) (t_sq (t_pf 189 11 22 908 false kp_11_22 (x_aln 0) (x_ic 0 0 (by decide))) (t_rt .lreturn (x_k _ _ (ic_S (S := S_X11_riskOf) sd_X11_part ky_X11_part ks_X11_part (by decide) 313 1337 none) (x_a1 (x_ll 5) (x_a1 (x_lshl (x_lc 1 1 (by decide)) (x_imul (x_ic 4 4 (by decide)) (x_gf 177 11 15 901 kg_11_15 (x_aln 0)))) (x_a1 (x_il 4) x_a0))))))))
noncomputable def g_X11_riskOf : am_T := (s_sq (s_as (o_sl 11 5) (e_j 0)) (s_sq (s_bk (s_sq (s_as (o_si 11 7) (e_i 0)) (s_lp (b_2 .lt (e_li 7) (e_b o_ishl (e_i 1) (e_gf ShM 11 15 (e_lr 0)))) (s_sq (s_sq (s_pf ShM 11 22 false (e_lr 0) (e_li 7)) (s_sq (s_k (am_cl ShM 11 0 f_X11_lives) (a_1 (e_lr 0) a_0)) (s_if (b_z .ne (e_k (am_cl ShM 11 2 f_X11_isVoid) (a_1 (e_lr 0) (a_1 (e_li 3) (a_1 (e_li 2) a_0))))) (s_bk (s_sq (s_as (o_sl 11 8) (e_j 1)) (s_sq (s_bk (s_sq (s_as (o_si 11 10) (e_i 0)) (s_lp (b_2 .lt (e_li 10) (e_gf ShM 11 15 (e_lr 0))) (s_sq (s_as (o_sl 11 8) (e_b o_lmul (e_ll 8) (e_c (b_z .ne (e_k (am_cs 2 f_X11_isIn) (a_1 (e_li 7) (a_1 (e_li 10) a_0)))) (e_i2l (e_b o_isub (e_i 16) (e_li 1))) (e_i2l (e_li 1))))) (s_inc 11 10 1))))) (s_as (o_sl 11 5) (e_b o_ladd (e_ll 5) (e_ll 8)))))) s_0))) (s_inc 11 7 1))))) (s_sq (s_pf ShM 11 22 false (e_lr 0) (e_i 0)) (s_rt .lreturn (e_k (am_cs 3 f_X11_part) (a_1 (e_ll 5) (a_1 (e_b o_lshl (e_j 1) (e_b o_imul (e_i 4) (e_gf ShM 11 15 (e_lr 0)))) (a_1 (e_li 4) a_0))))))))
noncomputable def f_X11_riskOf : am_F := am_fn 11 (some .long) g_X11_riskOf
set_option maxRecDepth 100000 in
theorem sd_X11_riskOf : am_Sd ShM yX11_riskOf cX11_riskOf 11 (some .long) 2 f_X11_riskOf := am_meth (y := yX11_riskOf) (ret := (some .long)) x_X11_riskOf (by decide) (by decide +kernel) (by decide +kernel)
abbrev S_X11_risk : am_S := (ShM, cX11_risk, 5, 3, RX11)
set_option maxRecDepth 100000 in
noncomputable def x_X11_risk : am_SP S_X11_risk := (t_sq (t_k _ _ (ic_V (S := S_X11_risk) sd_X11_find ky_X11_find kv_X11_find (by decide) 202 1132 none) (x_a1 (x_aln 0) x_a0)) (t_rt .lreturn (x_c (c_and (c_and (c_and (c_z .ne (x_k _ _ (ic_S (S := S_X11_risk) sd_X11_in ky_X11_in ks_X11_in (by decide) 93 1003 none) (x_a1 (x_i2l (x_iln 1)) (x_a1 (x_lc 0 0 (by decide)) (x_a1 (x_ldc2 317 16 1332) x_a0))))) (c_z .ne (x_k _ _ (ic_V (S := S_X11_risk) sd_X11_isStrand ky_X11_isStrand kv_X11_isStrand (by decide) 161 1084 none) (x_a1 (x_aln 0) (x_a1 (x_iln 2) x_a0))))) (c_z .ne (x_k _ _ (ic_S (S := S_X11_risk) sd_X11_isHour ky_X11_isHour ks_X11_isHour (by decide) 169 1097 none) (x_a1 (x_iln 3) x_a0)))) (c_z .ne (x_k _ _ (ic_S (S := S_X11_risk) sd_X11_isTwo ky_X11_isTwo ks_X11_isTwo (by decide) 205 1143 none) (x_a1 (x_il 4) x_a0)))) (x_k _ _ (ic_V (S := S_X11_risk) sd_X11_riskOf ky_X11_riskOf kv_X11_riskOf (by decide) 319 1333 none) (x_a1 (x_aln 0) (x_a1 (x_iln 1) (x_a1 (x_iln 2) (x_a1 (x_iln 3) (x_a1 (x_il 4) x_a0)))))) (x_k _ _ (ic_S (S := S_X11_risk) sd_X11_no ky_X11_no ks_X11_no (by decide) 323 1340 none) (x_a1 (x_bp (-2) (-2) (by decide)) x_a0)))))
noncomputable def g_X11_risk : am_T := (s_sq (s_k (am_cl ShM 11 0 f_X11_find) (a_1 (e_lr 0) a_0)) (s_rt .lreturn (e_c (b_and (b_and (b_and (b_z .ne (e_k (am_cs 3 f_X11_in) (a_1 (e_i2l (e_li 1)) (a_1 (e_j 0) (a_1 (e_j 16) a_0))))) (b_z .ne (e_k (am_cl ShM 11 1 f_X11_isStrand) (a_1 (e_lr 0) (a_1 (e_li 2) a_0))))) (b_z .ne (e_k (am_cs 1 f_X11_isHour) (a_1 (e_li 3) a_0)))) (b_z .ne (e_k (am_cs 1 f_X11_isTwo) (a_1 (e_li 4) a_0)))) (e_k (am_cl ShM 11 4 f_X11_riskOf) (a_1 (e_lr 0) (a_1 (e_li 1) (a_1 (e_li 2) (a_1 (e_li 3) (a_1 (e_li 4) a_0)))))) (e_k (am_cs 1 f_X11_no) (a_1 (e_i (-2)) a_0)))))
noncomputable def f_X11_risk : am_F := am_fn 5 (some .long) g_X11_risk
set_option maxRecDepth 100000 in
theorem sd_X11_risk : am_Sd ShM yX11_risk cX11_risk 5 (some .long) 3 f_X11_risk := am_meth (y := yX11_risk) (ret := (some .long)) x_X11_risk (by decide) (by decide +kernel) (by decide +kernel)
abbrev S_X11_lot : am_S := (ShM, cX11_lot, 2, 0, RX11)
set_option maxRecDepth 100000 in
noncomputable def x_X11_lot : am_SP S_X11_lot := (t_sq (t_pf 328 11 34 920 false kp_11_34 (x_aln 0) (x_iadd (x_imul (x_ldcw 327 1103515245 1356) (x_gf 328 11 34 920 kg_11_34 (x_aln 0))) (x_sp 12345 12345 (by decide)))) (t_rt .ireturn (x_irem (x_iushr (x_gf 328 11 34 920 kg_11_34 (x_aln 0)) (x_bp 16 16 (by decide))) (x_iln 1))))
noncomputable def g_X11_lot : am_T := (s_sq (s_pf ShM 11 34 false (e_lr 0) (e_b o_iadd (e_b o_imul (e_i 1103515245) (e_gf ShM 11 34 (e_lr 0))) (e_i 12345))) (s_rt .ireturn (e_b o_irem (e_b o_iushr (e_gf ShM 11 34 (e_lr 0)) (e_i 16)) (e_li 1))))
noncomputable def f_X11_lot : am_F := am_fn 2 (some .int) g_X11_lot
set_option maxRecDepth 100000 in
theorem sd_X11_lot : am_Sd ShM yX11_lot cX11_lot 2 (some .int) 0 f_X11_lot := am_meth (y := yX11_lot) (ret := (some .int)) x_X11_lot (by decide) (by decide +kernel) (by decide +kernel)
abbrev S_X11_centuryOf : am_S := (ShM, cX11_centuryOf, 9, 5, RX11)
set_option maxRecDepth 100000 in
noncomputable def x_X11_centuryOf : am_SP S_X11_centuryOf := (t_sq (t_is 4 (x_gf 177 11 15 901 kg_11_15 (x_aln 0))) (t_sq (t_bk (t_sq (t_is 5 (x_ic 0 0 (by decide))) (t_lp (c_2 .lt (x_il 5) (x_bp 32 32 (by decide))) (t_sq (t_ia (x_gf 88 11 35 921 kg_11_35 (x_aln 0)) (x_il 5) (x_ald (x_gf 46 11 16 902 kg_11_16 (x_aln 0)) (x_il 5))) (t_inc 5 1 1 (by decide)))))) (t_sq (t_pf 328 11 34 920 false kp_11_34 (x_aln 0) (x_iln 1)) (t_sq (t_pf 177 11 15 901 false kp_11_15 (x_aln 0) (x_ic 0 0 (by decide))) (t_sq (t_bk (t_sq (t_is 5 (x_ic 0 0 (by decide))) (t_lp (c_and (c_2 .lt (x_il 5) (x_iln 2)) (c_z .gt (x_gf 127 11 7 893 kg_11_7 (x_aln 0)))) (t_sq (t_bk (t_sq (t_is 6 (x_k _ _ (ic_V (S := S_X11_centuryOf) sd_X11_lot ky_X11_lot kv_X11_lot (by decide) 331 1352 none) (x_a1 (x_aln 0) (x_a1 (x_ic 3 3 (by decide)) x_a0)))) (t_sq (t_is 7 (x_k _ _ (ic_V (S := S_X11_centuryOf) sd_X11_lot ky_X11_lot kv_X11_lot (by decide) 331 1352 none) (x_a1 (x_aln 0) (x_a1 (x_bp 20 20 (by decide)) x_a0)))) (t_sq (t_is 8 (x_k _ _ (ic_V (S := S_X11_centuryOf) sd_X11_lot ky_X11_lot kv_X11_lot (by decide) 331 1352 none) (x_a1 (x_aln 0) (x_a1 (x_gf 127 11 7 893 kg_11_7 (x_aln 0)) x_a0)))) (t_k _ _ (ic_V (S := S_X11_centuryOf) sd_X11_puts ky_X11_puts kv_X11_puts (by decide) 182 1115 none) (x_a1 (x_aln 0) (x_a1 (x_il 6) (x_a1 (x_il 7) (x_a1 (x_il 8) (x_a1 (x_k _ _ (ic_V (S := S_X11_centuryOf) sd_X11_lot ky_X11_lot kv_X11_lot (by decide) 331 1352 none) (x_a1 (x_aln 0) (x_a1 (x_bp 10 10 (by decide)) x_a0))) x_a0)))))))))) (t_inc 5 1 1 (by decide)))))) (t_sq (t_k _ _ (ic_V (S := S_X11_centuryOf) sd_X11_lives ky_X11_lives kv_X11_lives (by decide) 196 1136 none) (x_a1 (x_aln 0) x_a0)) (t_sq (t_is 5 (x_c (c_z .eq (x_iln 3)) (x_k _ _ (ic_S (S := S_X11_centuryOf) sd_X11_ones ky_X11_ones ks_X11_ones (by decide) 334 1357 none) (x_a1 (x_k _ _ (ic_V (S := S_X11_centuryOf) sd_X11_voidsBy ky_X11_voidsBy kv_X11_voidsBy (by decide) 229 1183 none) (x_a1 (x_aln 0) (x_a1 (x_bp 19 19 (by decide)) x_a0))) x_a0)) (x_k _ _ (ic_V (S := S_X11_centuryOf) sd_X11_readsOf ky_X11_readsOf kv_X11_readsOf (by decide) 250 1218 none) (x_a1 (x_aln 0) (x_a1 (x_bp 8 8 (by decide)) x_a0))))) (t_sq (t_bk (t_sq (t_is 6 (x_ic 0 0 (by decide))) (t_lp (c_2 .lt (x_il 6) (x_bp 32 32 (by decide))) (t_sq (t_ia (x_gf 46 11 16 902 kg_11_16 (x_aln 0)) (x_il 6) (x_ald (x_gf 88 11 35 921 kg_11_35 (x_aln 0)) (x_il 6))) (t_inc 6 1 1 (by decide)))))) (t_sq (t_pf 177 11 15 901 false kp_11_15 (x_aln 0) (x_il 4)) (t_rt .ireturn (x_il 5)))))))))))
noncomputable def g_X11_centuryOf : am_T := (s_sq (s_as (o_si 9 4) (e_gf ShM 11 15 (e_lr 0))) (s_sq (s_bk (s_sq (s_as (o_si 9 5) (e_i 0)) (s_lp (b_2 .lt (e_li 5) (e_i 32)) (s_sq (s_ia ShM (e_gf ShM 11 35 (e_lr 0)) (e_li 5) (e_ald ShM (e_gf ShM 11 16 (e_lr 0)) (e_li 5))) (s_inc 9 5 1))))) (s_sq (s_pf ShM 11 34 false (e_lr 0) (e_li 1)) (s_sq (s_pf ShM 11 15 false (e_lr 0) (e_i 0)) (s_sq (s_bk (s_sq (s_as (o_si 9 5) (e_i 0)) (s_lp (b_and (b_2 .lt (e_li 5) (e_li 2)) (b_z .gt (e_gf ShM 11 7 (e_lr 0)))) (s_sq (s_bk (s_sq (s_as (o_si 9 6) (e_k (am_cl ShM 11 1 f_X11_lot) (a_1 (e_lr 0) (a_1 (e_i 3) a_0)))) (s_sq (s_as (o_si 9 7) (e_k (am_cl ShM 11 1 f_X11_lot) (a_1 (e_lr 0) (a_1 (e_i 20) a_0)))) (s_sq (s_as (o_si 9 8) (e_k (am_cl ShM 11 1 f_X11_lot) (a_1 (e_lr 0) (a_1 (e_gf ShM 11 7 (e_lr 0)) a_0)))) (s_k (am_cl ShM 11 4 f_X11_puts) (a_1 (e_lr 0) (a_1 (e_li 6) (a_1 (e_li 7) (a_1 (e_li 8) (a_1 (e_k (am_cl ShM 11 1 f_X11_lot) (a_1 (e_lr 0) (a_1 (e_i 10) a_0))) a_0)))))))))) (s_inc 9 5 1))))) (s_sq (s_k (am_cl ShM 11 0 f_X11_lives) (a_1 (e_lr 0) a_0)) (s_sq (s_as (o_si 9 5) (e_c (b_z .eq (e_li 3)) (e_k (am_cs 1 f_X11_ones) (a_1 (e_k (am_cl ShM 11 1 f_X11_voidsBy) (a_1 (e_lr 0) (a_1 (e_i 19) a_0))) a_0)) (e_k (am_cl ShM 11 1 f_X11_readsOf) (a_1 (e_lr 0) (a_1 (e_i 8) a_0))))) (s_sq (s_bk (s_sq (s_as (o_si 9 6) (e_i 0)) (s_lp (b_2 .lt (e_li 6) (e_i 32)) (s_sq (s_ia ShM (e_gf ShM 11 16 (e_lr 0)) (e_li 6) (e_ald ShM (e_gf ShM 11 35 (e_lr 0)) (e_li 6))) (s_inc 9 6 1))))) (s_sq (s_pf ShM 11 15 false (e_lr 0) (e_li 4)) (s_rt .ireturn (e_li 5)))))))))))
noncomputable def f_X11_centuryOf : am_F := am_fn 9 (some .int) g_X11_centuryOf
set_option maxRecDepth 100000 in
theorem sd_X11_centuryOf : am_Sd ShM yX11_centuryOf cX11_centuryOf 9 (some .int) 5 f_X11_centuryOf := am_meth (y := yX11_centuryOf) (ret := (some .int)) x_X11_centuryOf (by decide) (by decide +kernel) (by decide +kernel)
abbrev S_X11_century : am_S := (ShM, cX11_century, 4, 6, RX11)
set_option maxRecDepth 100000 in
noncomputable def x_X11_century : am_SP S_X11_century := (t_sq (t_k _ _ (ic_V (S := S_X11_century) sd_X11_find ky_X11_find kv_X11_find (by decide) 202 1132 none) (x_a1 (x_aln 0) x_a0)) (t_rt .ireturn (x_c (c_and (c_z .ne (x_k _ _ (ic_S (S := S_X11_century) sd_X11_in ky_X11_in ks_X11_in (by decide) 93 1003 none) (x_a1 (x_i2l (x_iln 2)) (x_a1 (x_lc 0 0 (by decide)) (x_a1 (x_ldc2 164 8 1088) x_a0))))) (c_z .ne (x_k _ _ (ic_S (S := S_X11_century) sd_X11_isTwo ky_X11_isTwo ks_X11_isTwo (by decide) 205 1143 none) (x_a1 (x_iln 3) x_a0)))) (x_k _ _ (ic_V (S := S_X11_century) sd_X11_centuryOf ky_X11_centuryOf kv_X11_centuryOf (by decide) 337 1348 none) (x_a1 (x_aln 0) (x_a1 (x_iln 1) (x_a1 (x_iln 2) (x_a1 (x_iln 3) x_a0))))) (x_bp (-2) (-2) (by decide)))))
noncomputable def g_X11_century : am_T := (s_sq (s_k (am_cl ShM 11 0 f_X11_find) (a_1 (e_lr 0) a_0)) (s_rt .ireturn (e_c (b_and (b_z .ne (e_k (am_cs 3 f_X11_in) (a_1 (e_i2l (e_li 2)) (a_1 (e_j 0) (a_1 (e_j 8) a_0))))) (b_z .ne (e_k (am_cs 1 f_X11_isTwo) (a_1 (e_li 3) a_0)))) (e_k (am_cl ShM 11 3 f_X11_centuryOf) (a_1 (e_lr 0) (a_1 (e_li 1) (a_1 (e_li 2) (a_1 (e_li 3) a_0))))) (e_i (-2)))))
noncomputable def f_X11_century : am_F := am_fn 4 (some .int) g_X11_century
set_option maxRecDepth 100000 in
theorem sd_X11_century : am_Sd ShM yX11_century cX11_century 4 (some .int) 6 f_X11_century := am_meth (y := yX11_century) (ret := (some .int)) x_X11_century (by decide) (by decide +kernel) (by decide +kernel)
abbrev S_X11_write : am_S := (ShM, cX11_write, 5, 3, RX11)
set_option maxRecDepth 100000 in
noncomputable def x_X11_write : am_SP S_X11_write := (t_sq (t_k _ _ (ic_V (S := S_X11_write) sd_X11_find ky_X11_find kv_X11_find (by decide) 202 1132 none) (x_a1 (x_aln 0) x_a0)) (t_sq (t_if1 (c_or (c_not (c_z .ne (x_k _ _ (ic_V (S := S_X11_write) sd_X11_isStrand ky_X11_isStrand kv_X11_isStrand (by decide) 161 1084 none) (x_a1 (x_aln 0) (x_a1 (x_iln 1) x_a0))))) (c_not (c_z .ne (x_k _ _ (ic_S (S := S_X11_write) sd_X11_isSheet ky_X11_isSheet ks_X11_isSheet (by decide) 103 999 none) (x_a1 (x_iln 2) x_a0))))) (t_rt .ireturn (x_bp (-2) (-2) (by decide)))) (t_sq (t_if1 (c_z .lt (x_ald (x_gf 7 11 0 886 kg_11_0 (x_aln 0)) (x_iln 2))) (t_rt .ireturn (x_k _ _ (ic_V (S := S_X11_write) sd_X11_finds ky_X11_finds kv_X11_finds (by decide) 109 1007 none) (x_a1 (x_aln 0) (x_a1 (x_ic 1 1 (by decide)) x_a0))))) (t_sq (t_isn 3 (x_k _ _ (ic_S (S := S_X11_write) sd_X11_lesser ky_X11_lesser ks_X11_lesser (by decide) 340 1364 none) (x_a1 (x_ald (x_gf 13 11 1 887 kg_11_1 (x_aln 0)) (x_iln 2)) (x_a1 (x_bp 20 20 (by decide)) x_a0)))) (t_sq (t_bk (t_sq (t_is 4 (x_ic 0 0 (by decide))) (t_lp (c_2 .lt (x_il 4) (x_iln 3)) (t_sq (t_ia (x_gf 16 11 2 888 kg_11_2 (x_aln 0)) (x_iadd (x_imul (x_bp 60 60 (by decide)) (x_iln 2)) (x_il 4)) (x_k _ _ (ic_S (S := S_X11_write) sd_X11_cut ky_X11_cut ks_X11_cut (by decide) 117 1023 none) (x_a1 (x_ald (x_gf 7 11 0 886 kg_11_0 (x_aln 0)) (x_iln 2)) (x_a1 (x_k _ _ (ic_V (S := S_X11_write) sd_X11_stateOf ky_X11_stateOf kv_X11_stateOf (by decide) 208 1146 none) (x_a1 (x_aln 0) (x_a1 (x_il 4) (x_a1 (x_iln 1) x_a0)))) x_a0)))) (t_inc 4 1 1 (by decide)))))) (t_rt .ireturn (x_iln 3)))))))
noncomputable def g_X11_write : am_T := (s_sq (s_k (am_cl ShM 11 0 f_X11_find) (a_1 (e_lr 0) a_0)) (s_sq (s_if (b_or (b_not (b_z .ne (e_k (am_cl ShM 11 1 f_X11_isStrand) (a_1 (e_lr 0) (a_1 (e_li 1) a_0))))) (b_not (b_z .ne (e_k (am_cs 1 f_X11_isSheet) (a_1 (e_li 2) a_0))))) (s_rt .ireturn (e_i (-2))) s_0) (s_sq (s_if (b_z .lt (e_ald ShM (e_gf ShM 11 0 (e_lr 0)) (e_li 2))) (s_rt .ireturn (e_k (am_cl ShM 11 1 f_X11_finds) (a_1 (e_lr 0) (a_1 (e_i 1) a_0)))) s_0) (s_sq (s_as (o_si 5 3) (e_k (am_cs 2 f_X11_lesser) (a_1 (e_ald ShM (e_gf ShM 11 1 (e_lr 0)) (e_li 2)) (a_1 (e_i 20) a_0)))) (s_sq (s_bk (s_sq (s_as (o_si 5 4) (e_i 0)) (s_lp (b_2 .lt (e_li 4) (e_li 3)) (s_sq (s_ia ShM (e_gf ShM 11 2 (e_lr 0)) (e_b o_iadd (e_b o_imul (e_i 60) (e_li 2)) (e_li 4)) (e_k (am_cs 2 f_X11_cut) (a_1 (e_ald ShM (e_gf ShM 11 0 (e_lr 0)) (e_li 2)) (a_1 (e_k (am_cl ShM 11 2 f_X11_stateOf) (a_1 (e_lr 0) (a_1 (e_li 4) (a_1 (e_li 1) a_0)))) a_0)))) (s_inc 5 4 1))))) (s_rt .ireturn (e_li 3)))))))
noncomputable def f_X11_write : am_F := am_fn 5 (some .int) g_X11_write
set_option maxRecDepth 100000 in
theorem sd_X11_write : am_Sd ShM yX11_write cX11_write 5 (some .int) 3 f_X11_write := am_meth (y := yX11_write) (ret := (some .int)) x_X11_write (by decide) (by decide +kernel) (by decide +kernel)
abbrev S_X11_count : am_S := (ShM, cX11_count, 2, 5, RX11)
set_option maxRecDepth 100000 in
noncomputable def x_X11_count : am_SP S_X11_count := (t_sq (t_k _ _ (ic_V (S := S_X11_count) sd_X11_find ky_X11_find kv_X11_find (by decide) 202 1132 none) (x_a1 (x_aln 0) x_a0)) (t_sw 0 [0, 1, 2, 2, 2, 3, 4, 5, 6] 7 51 (x_iln 1) [(t_rt .ireturn (x_gf 127 11 7 893 kg_11_7 (x_aln 0))), (t_rt .ireturn (x_gf 141 11 13 899 kg_11_13 (x_aln 0))), (t_rt .ireturn (x_ald (x_gf 25 11 6 892 kg_11_6 (x_aln 0)) (x_isub (x_iln 1) (x_ic 2 2 (by decide))))), (t_rt .ireturn (x_gf 177 11 15 901 kg_11_15 (x_aln 0))), (t_rt .ireturn (x_k _ _ (ic_V (S := S_X11_count) sd_X11_readsOf ky_X11_readsOf kv_X11_readsOf (by decide) 250 1218 none) (x_a1 (x_aln 0) (x_a1 (x_bp 8 8 (by decide)) x_a0)))), (t_rt .ireturn (x_gf 291 11 31 917 kg_11_31 (x_aln 0))), (t_rt .ireturn (x_gf 97 11 4 890 kg_11_4 (x_aln 0))), (t_rt .ireturn (x_bp (-2) (-2) (by decide)))]))
noncomputable def g_X11_count : am_T := (s_sq (s_k (am_cl ShM 11 0 f_X11_find) (a_1 (e_lr 0) a_0)) (s_sw 0 [0, 1, 2, 2, 2, 3, 4, 5, 6] 7 (e_li 1) [(s_rt .ireturn (e_gf ShM 11 7 (e_lr 0))), (s_rt .ireturn (e_gf ShM 11 13 (e_lr 0))), (s_rt .ireturn (e_ald ShM (e_gf ShM 11 6 (e_lr 0)) (e_b o_isub (e_li 1) (e_i 2)))), (s_rt .ireturn (e_gf ShM 11 15 (e_lr 0))), (s_rt .ireturn (e_k (am_cl ShM 11 1 f_X11_readsOf) (a_1 (e_lr 0) (a_1 (e_i 8) a_0)))), (s_rt .ireturn (e_gf ShM 11 31 (e_lr 0))), (s_rt .ireturn (e_gf ShM 11 4 (e_lr 0))), (s_rt .ireturn (e_i (-2)))]))
noncomputable def f_X11_count : am_F := am_fn 2 (some .int) g_X11_count
set_option maxRecDepth 100000 in
theorem sd_X11_count : am_Sd ShM yX11_count cX11_count 2 (some .int) 5 f_X11_count := am_meth (y := yX11_count) (ret := (some .int)) x_X11_count (by decide) (by decide +kernel) (by decide +kernel)
abbrev S_X11_tellsHour : am_S := (ShM, cX11_tellsHour, 7, 4, RX11)
set_option maxRecDepth 100000 in
noncomputable def x_X11_tellsHour : am_SP S_X11_tellsHour := (t_sq (t_ls 5 (x_ladd (x_lmul (x_ldc2 343 31 1376) (x_lln 1)) (x_i2l (x_k _ _ (ic_V (S := S_X11_tellsHour) sd_X11_stateOf ky_X11_stateOf kv_X11_stateOf (by decide) 208 1146 none) (x_a1 (x_aln 0) (x_a1 (x_il 4) (x_a1 (x_iln 3) x_a0))))))) (t_sq (t_ls 5 (x_ladd (x_lmul (x_ldc2 343 31 1376) (x_ll 5)) (x_i2l (x_ald (x_gf 49 11 17 903 kg_11_17 (x_aln 0)) (x_iadd (x_imul (x_bp 8 8 (by decide)) (x_il 4)) (x_iln 3)))))) (t_sq (t_ls 5 (x_ladd (x_lmul (x_ldc2 343 31 1376) (x_ll 5)) (x_i2l (x_k _ _ (ic_V (S := S_X11_tellsHour) sd_X11_saysOf ky_X11_saysOf kv_X11_saysOf (by decide) 217 1159 none) (x_a1 (x_aln 0) (x_a1 (x_il 4) (x_a1 (x_iln 3) (x_a1 (x_ic 0 0 (by decide)) x_a0)))))))) (t_sq (t_ls 5 (x_ladd (x_lmul (x_ldc2 343 31 1376) (x_ll 5)) (x_i2l (x_k _ _ (ic_V (S := S_X11_tellsHour) sd_X11_fillOf ky_X11_fillOf kv_X11_fillOf (by decide) 286 1275 none) (x_a1 (x_aln 0) (x_a1 (x_il 4) (x_a1 (x_iln 3) (x_a1 (x_ic (-1) (-1) (by decide)) x_a0)))))))) (t_rt .lreturn (x_ladd (x_lmul (x_ldc2 343 31 1376) (x_ll 5)) (x_i2l (x_k _ _ (ic_V (S := S_X11_tellsHour) sd_X11_fillOf ky_X11_fillOf kv_X11_fillOf (by decide) 286 1275 none) (x_a1 (x_aln 0) (x_a1 (x_il 4) (x_a1 (x_iln 3) (x_a1 (x_ic 0 0 (by decide)) x_a0))))))))))))
noncomputable def g_X11_tellsHour : am_T := (s_sq (s_as (o_sl 7 5) (e_b o_ladd (e_b o_lmul (e_j 31) (e_ll 1)) (e_i2l (e_k (am_cl ShM 11 2 f_X11_stateOf) (a_1 (e_lr 0) (a_1 (e_li 4) (a_1 (e_li 3) a_0))))))) (s_sq (s_as (o_sl 7 5) (e_b o_ladd (e_b o_lmul (e_j 31) (e_ll 5)) (e_i2l (e_ald ShM (e_gf ShM 11 17 (e_lr 0)) (e_b o_iadd (e_b o_imul (e_i 8) (e_li 4)) (e_li 3)))))) (s_sq (s_as (o_sl 7 5) (e_b o_ladd (e_b o_lmul (e_j 31) (e_ll 5)) (e_i2l (e_k (am_cl ShM 11 3 f_X11_saysOf) (a_1 (e_lr 0) (a_1 (e_li 4) (a_1 (e_li 3) (a_1 (e_i 0) a_0)))))))) (s_sq (s_as (o_sl 7 5) (e_b o_ladd (e_b o_lmul (e_j 31) (e_ll 5)) (e_i2l (e_k (am_cl ShM 11 3 f_X11_fillOf) (a_1 (e_lr 0) (a_1 (e_li 4) (a_1 (e_li 3) (a_1 (e_i (-1)) a_0)))))))) (s_rt .lreturn (e_b o_ladd (e_b o_lmul (e_j 31) (e_ll 5)) (e_i2l (e_k (am_cl ShM 11 3 f_X11_fillOf) (a_1 (e_lr 0) (a_1 (e_li 4) (a_1 (e_li 3) (a_1 (e_i 0) a_0))))))))))))
noncomputable def f_X11_tellsHour : am_F := am_fn 7 (some .long) g_X11_tellsHour
set_option maxRecDepth 100000 in
theorem sd_X11_tellsHour : am_Sd ShM yX11_tellsHour cX11_tellsHour 7 (some .long) 4 f_X11_tellsHour := am_meth (y := yX11_tellsHour) (ret := (some .long)) x_X11_tellsHour (by decide) (by decide +kernel) (by decide +kernel)
abbrev S_X11_tellsStrand : am_S := (ShM, cX11_tellsStrand, 7, 5, RX11)
set_option maxRecDepth 100000 in
noncomputable def x_X11_tellsStrand : am_SP S_X11_tellsStrand := (t_sq (t_k _ _ (ic_V (S := S_X11_tellsStrand) sd_X11_lives ky_X11_lives kv_X11_lives (by decide) 196 1136 none) (x_a1 (x_aln 0) x_a0)) (t_sq (t_ls 4 (x_lln 1)) (t_sq (t_bk (t_sq (t_is 6 (x_ic 0 0 (by decide))) (t_lp (c_2 .lt (x_il 6) (x_bp 9 9 (by decide))) (t_sq (t_ls 4 (x_ladd (x_lmul (x_ldc2 343 31 1376) (x_ll 4)) (x_i2l (x_k _ _ (ic_V (S := S_X11_tellsStrand) sd_X11_strandBy ky_X11_strandBy kv_X11_strandBy (by decide) 166 1089 none) (x_a1 (x_aln 0) (x_a1 (x_iln 3) (x_a1 (x_il 6) x_a0))))))) (t_inc 6 1 1 (by decide)))))) (t_sq (t_ls 4 (x_k _ _ (ic_V (S := S_X11_tellsStrand) sd_X11_tellsHour ky_X11_tellsHour kv_X11_tellsHour (by decide) 345 1382 none) (x_a1 (x_aln 0) (x_a1 (x_k _ _ (ic_V (S := S_X11_tellsStrand) sd_X11_tellsHour ky_X11_tellsHour kv_X11_tellsHour (by decide) 345 1382 none) (x_a1 (x_aln 0) (x_a1 (x_k _ _ (ic_V (S := S_X11_tellsStrand) sd_X11_tellsHour ky_X11_tellsHour kv_X11_tellsHour (by decide) 345 1382 none) (x_a1 (x_aln 0) (x_a1 (x_k _ _ (ic_V (S := S_X11_tellsStrand) sd_X11_tellsHour ky_X11_tellsHour kv_X11_tellsHour (by decide) 345 1382 none) (x_a1 (x_aln 0) (x_a1 (x_ll 4) (x_a1 (x_iln 3) (x_a1 (x_ic 0 0 (by decide)) x_a0))))) (x_a1 (x_iln 3) (x_a1 (x_bp 6 6 (by decide)) x_a0))))) (x_a1 (x_iln 3) (x_a1 (x_bp 12 12 (by decide)) x_a0))))) (x_a1 (x_iln 3) (x_a1 (x_bp 19 19 (by decide)) x_a0)))))) (t_sq (t_ls 4 (x_ladd (x_lmul (x_ldc2 343 31 1376) (x_ll 4)) (x_i2l (x_k _ _ (ic_V (S := S_X11_tellsStrand) sd_X11_legibleOf ky_X11_legibleOf kv_X11_legibleOf (by decide) 220 1171 none) (x_a1 (x_aln 0) (x_a1 (x_iln 3) x_a0)))))) (t_sq (t_ls 4 (x_ladd (x_lmul (x_ldc2 343 31 1376) (x_ll 4)) (x_i2l (x_k _ _ (ic_V (S := S_X11_tellsStrand) sd_X11_hangsOn ky_X11_hangsOn kv_X11_hangsOn (by decide) 223 1175 none) (x_a1 (x_aln 0) (x_a1 (x_iln 3) x_a0)))))) (t_sq (t_ls 4 (x_ladd (x_lmul (x_ldc2 343 31 1376) (x_ll 4)) (x_i2l (x_k _ _ (ic_V (S := S_X11_tellsStrand) sd_X11_saveOf ky_X11_saveOf kv_X11_saveOf (by decide) 280 1263 none) (x_a1 (x_aln 0) (x_a1 (x_iln 3) (x_a1 (x_ic (-1) (-1) (by decide)) x_a0))))))) (t_sq (t_ls 4 (x_ladd (x_lmul (x_ldc2 343 31 1376) (x_ll 4)) (x_i2l (x_k _ _ (ic_V (S := S_X11_tellsStrand) sd_X11_saveOf ky_X11_saveOf kv_X11_saveOf (by decide) 280 1263 none) (x_a1 (x_aln 0) (x_a1 (x_iln 3) (x_a1 (x_ic 0 0 (by decide)) x_a0))))))) (t_sq (t_ls 4 (x_ladd (x_lmul (x_ldc2 343 31 1376) (x_ll 4)) (x_i2l (x_k _ _ (ic_V (S := S_X11_tellsStrand) sd_X11_wasOf ky_X11_wasOf kv_X11_wasOf (by decide) 307 1308 none) (x_a1 (x_aln 0) (x_a1 (x_iln 3) (x_a1 (x_ic 0 0 (by decide)) x_a0))))))) (t_sq (t_ls 4 (x_ladd (x_lmul (x_ldc2 343 31 1376) (x_ll 4)) (x_i2l (x_k _ _ (ic_V (S := S_X11_tellsStrand) sd_X11_wasOf ky_X11_wasOf kv_X11_wasOf (by decide) 307 1308 none) (x_a1 (x_aln 0) (x_a1 (x_iln 3) (x_a1 (x_ic 1 1 (by decide)) x_a0))))))) (t_sq (t_ls 4 (x_ladd (x_lmul (x_ldc2 343 31 1376) (x_ll 4)) (x_i2l (x_k _ _ (ic_V (S := S_X11_tellsStrand) sd_X11_askOf ky_X11_askOf kv_X11_askOf (by decide) 310 1324 none) (x_a1 (x_aln 0) (x_a1 (x_iln 3) x_a0)))))) (t_sq (t_ls 4 (x_ladd (x_lmul (x_ldc2 343 31 1376) (x_ll 4)) (x_k _ _ (ic_V (S := S_X11_tellsStrand) sd_X11_riskOf ky_X11_riskOf kv_X11_riskOf (by decide) 319 1333 none) (x_a1 (x_aln 0) (x_a1 (x_ic 5 5 (by decide)) (x_a1 (x_iln 3) (x_a1 (x_bp 15 15 (by decide)) (x_a1 (x_ic 0 0 (by decide)) x_a0)))))))) (t_rt .lreturn (x_ladd (x_lmul (x_ldc2 343 31 1376) (x_ll 4)) (x_k _ _ (ic_V (S := S_X11_tellsStrand) sd_X11_riskOf ky_X11_riskOf kv_X11_riskOf (by decide) 319 1333 none) (x_a1 (x_aln 0) (x_a1 (x_ic 5 5 (by decide)) (x_a1 (x_iln 3) (x_a1 (x_bp 15 15 (by decide)) (x_a1 (x_ic 1 1 (by decide)) x_a0))))))))))))))))))))
noncomputable def g_X11_tellsStrand : am_T := (s_sq (s_k (am_cl ShM 11 0 f_X11_lives) (a_1 (e_lr 0) a_0)) (s_sq (s_as (o_sl 7 4) (e_ll 1)) (s_sq (s_bk (s_sq (s_as (o_si 7 6) (e_i 0)) (s_lp (b_2 .lt (e_li 6) (e_i 9)) (s_sq (s_as (o_sl 7 4) (e_b o_ladd (e_b o_lmul (e_j 31) (e_ll 4)) (e_i2l (e_k (am_cl ShM 11 2 f_X11_strandBy) (a_1 (e_lr 0) (a_1 (e_li 3) (a_1 (e_li 6) a_0))))))) (s_inc 7 6 1))))) (s_sq (s_as (o_sl 7 4) (e_k (am_cl ShM 11 3 f_X11_tellsHour) (a_1 (e_lr 0) (a_1 (e_k (am_cl ShM 11 3 f_X11_tellsHour) (a_1 (e_lr 0) (a_1 (e_k (am_cl ShM 11 3 f_X11_tellsHour) (a_1 (e_lr 0) (a_1 (e_k (am_cl ShM 11 3 f_X11_tellsHour) (a_1 (e_lr 0) (a_1 (e_ll 4) (a_1 (e_li 3) (a_1 (e_i 0) a_0))))) (a_1 (e_li 3) (a_1 (e_i 6) a_0))))) (a_1 (e_li 3) (a_1 (e_i 12) a_0))))) (a_1 (e_li 3) (a_1 (e_i 19) a_0)))))) (s_sq (s_as (o_sl 7 4) (e_b o_ladd (e_b o_lmul (e_j 31) (e_ll 4)) (e_i2l (e_k (am_cl ShM 11 1 f_X11_legibleOf) (a_1 (e_lr 0) (a_1 (e_li 3) a_0)))))) (s_sq (s_as (o_sl 7 4) (e_b o_ladd (e_b o_lmul (e_j 31) (e_ll 4)) (e_i2l (e_k (am_cl ShM 11 1 f_X11_hangsOn) (a_1 (e_lr 0) (a_1 (e_li 3) a_0)))))) (s_sq (s_as (o_sl 7 4) (e_b o_ladd (e_b o_lmul (e_j 31) (e_ll 4)) (e_i2l (e_k (am_cl ShM 11 2 f_X11_saveOf) (a_1 (e_lr 0) (a_1 (e_li 3) (a_1 (e_i (-1)) a_0))))))) (s_sq (s_as (o_sl 7 4) (e_b o_ladd (e_b o_lmul (e_j 31) (e_ll 4)) (e_i2l (e_k (am_cl ShM 11 2 f_X11_saveOf) (a_1 (e_lr 0) (a_1 (e_li 3) (a_1 (e_i 0) a_0))))))) (s_sq (s_as (o_sl 7 4) (e_b o_ladd (e_b o_lmul (e_j 31) (e_ll 4)) (e_i2l (e_k (am_cl ShM 11 2 f_X11_wasOf) (a_1 (e_lr 0) (a_1 (e_li 3) (a_1 (e_i 0) a_0))))))) (s_sq (s_as (o_sl 7 4) (e_b o_ladd (e_b o_lmul (e_j 31) (e_ll 4)) (e_i2l (e_k (am_cl ShM 11 2 f_X11_wasOf) (a_1 (e_lr 0) (a_1 (e_li 3) (a_1 (e_i 1) a_0))))))) (s_sq (s_as (o_sl 7 4) (e_b o_ladd (e_b o_lmul (e_j 31) (e_ll 4)) (e_i2l (e_k (am_cl ShM 11 1 f_X11_askOf) (a_1 (e_lr 0) (a_1 (e_li 3) a_0)))))) (s_sq (s_as (o_sl 7 4) (e_b o_ladd (e_b o_lmul (e_j 31) (e_ll 4)) (e_k (am_cl ShM 11 4 f_X11_riskOf) (a_1 (e_lr 0) (a_1 (e_i 5) (a_1 (e_li 3) (a_1 (e_i 15) (a_1 (e_i 0) a_0)))))))) (s_rt .lreturn (e_b o_ladd (e_b o_lmul (e_j 31) (e_ll 4)) (e_k (am_cl ShM 11 4 f_X11_riskOf) (a_1 (e_lr 0) (a_1 (e_i 5) (a_1 (e_li 3) (a_1 (e_i 15) (a_1 (e_i 1) a_0))))))))))))))))))))
noncomputable def f_X11_tellsStrand : am_F := am_fn 7 (some .long) g_X11_tellsStrand
set_option maxRecDepth 100000 in
theorem sd_X11_tellsStrand : am_Sd ShM yX11_tellsStrand cX11_tellsStrand 7 (some .long) 5 f_X11_tellsStrand := am_meth (y := yX11_tellsStrand) (ret := (some .long)) x_X11_tellsStrand (by decide) (by decide +kernel) (by decide +kernel)
abbrev S_X11_digest : am_S := (ShM, cX11_digest, 4, 6, RX11)
set_option maxRecDepth 100000 in
noncomputable def x_X11_digest : am_SP S_X11_digest := (t_sq (t_lsn 1 (x_ldc2 349 17 1375)) (t_sq (t_bk (t_sq (t_isn 3 (x_ic 0 0 (by decide))) (t_lp (c_2 .lt (x_iln 3) (x_bp 8 8 (by decide))) (t_sq (t_lsn 1 (x_ladd (x_lmul (x_ldc2 343 31 1376) (x_lln 1)) (x_i2l (x_k _ _ (ic_V (S := S_X11_digest) sd_X11_count ky_X11_count kv_X11_count (by decide) 351 1377 none) (x_a1 (x_aln 0) (x_a1 (x_iln 3) x_a0)))))) (t_inc 3 1 1 (by decide)))))) (t_sq (t_bk (t_sq (t_isn 3 (x_ic 0 0 (by decide))) (t_lp (c_2 .lt (x_iln 3) (x_ic 3 3 (by decide))) (t_sq (t_lsn 1 (x_ladd (x_lmul (x_ldc2 343 31 1376) (x_lln 1)) (x_i2l (x_k _ _ (ic_V (S := S_X11_digest) sd_X11_readsText ky_X11_readsText kv_X11_readsText (by decide) 156 1055 none) (x_a1 (x_aln 0) (x_a1 (x_iln 3) x_a0)))))) (t_inc 3 1 1 (by decide)))))) (t_sq (t_bk (t_sq (t_isn 3 (x_ic 0 0 (by decide))) (t_lp (c_2 .lt (x_iln 3) (x_bp 20 20 (by decide))) (t_sq (t_lsn 1 (x_ladd (x_lmul (x_ldc2 343 31 1376) (x_lln 1)) (x_i2l (x_ald (x_gf 40 11 12 898 kg_11_12 (x_aln 0)) (x_iln 3))))) (t_inc 3 1 1 (by decide)))))) (t_sq (t_bk (t_sq (t_isn 3 (x_ic 0 0 (by decide))) (t_lp (c_2 .lt (x_iln 3) (x_gf 127 11 7 893 kg_11_7 (x_aln 0))) (t_sq (t_lsn 1 (x_k _ _ (ic_V (S := S_X11_digest) sd_X11_tellsStrand ky_X11_tellsStrand kv_X11_tellsStrand (by decide) 354 1378 none) (x_a1 (x_aln 0) (x_a1 (x_lln 1) (x_a1 (x_iln 3) x_a0))))) (t_inc 3 1 1 (by decide)))))) (t_sq (t_k _ _ (ic_V (S := S_X11_digest) sd_X11_lives ky_X11_lives kv_X11_lives (by decide) 196 1136 none) (x_a1 (x_aln 0) x_a0)) (t_sq (t_bk (t_sq (t_isn 3 (x_ic 0 0 (by decide))) (t_lp (c_2 .lt (x_iln 3) (x_bp 8 8 (by decide))) (t_sq (t_sq (t_lsn 1 (x_ladd (x_lmul (x_ldc2 343 31 1376) (x_lln 1)) (x_i2l (x_k _ _ (ic_V (S := S_X11_digest) sd_X11_routeBy ky_X11_routeBy kv_X11_routeBy (by decide) 174 1106 none) (x_a1 (x_aln 0) (x_a1 (x_iln 3) x_a0)))))) (t_lsn 1 (x_ladd (x_lmul (x_ldc2 343 31 1376) (x_lln 1)) (x_i2l (x_k _ _ (ic_V (S := S_X11_digest) sd_X11_readsOf ky_X11_readsOf kv_X11_readsOf (by decide) 250 1218 none) (x_a1 (x_aln 0) (x_a1 (x_iln 3) x_a0))))))) (t_inc 3 1 1 (by decide)))))) (t_sq (t_lsn 1 (x_ladd (x_lmul (x_ldc2 343 31 1376) (x_lln 1)) (x_i2l (x_k _ _ (ic_V (S := S_X11_digest) sd_X11_voidsBy ky_X11_voidsBy kv_X11_voidsBy (by decide) 229 1183 none) (x_a1 (x_aln 0) (x_a1 (x_ic 5 5 (by decide)) x_a0)))))) (t_sq (t_lsn 1 (x_ladd (x_lmul (x_ldc2 343 31 1376) (x_lln 1)) (x_i2l (x_k _ _ (ic_V (S := S_X11_digest) sd_X11_voidsBy ky_X11_voidsBy kv_X11_voidsBy (by decide) 229 1183 none) (x_a1 (x_aln 0) (x_a1 (x_bp 19 19 (by decide)) x_a0)))))) (t_sq (t_lsn 1 (x_ladd (x_lmul (x_ldc2 343 31 1376) (x_lln 1)) (x_i2l (x_k _ _ (ic_V (S := S_X11_digest) sd_X11_forgedNow ky_X11_forgedNow kv_X11_forgedNow (by decide) 232 1195 none) (x_a1 (x_aln 0) x_a0))))) (t_sq (t_lsn 1 (x_ladd (x_lmul (x_ldc2 343 31 1376) (x_lln 1)) (x_i2l (x_k _ _ (ic_V (S := S_X11_digest) sd_X11_tangledNow ky_X11_tangledNow kv_X11_tangledNow (by decide) 241 1203 none) (x_a1 (x_aln 0) (x_a1 (x_ic 0 0 (by decide)) x_a0)))))) (t_sq (t_lsn 1 (x_ladd (x_lmul (x_ldc2 343 31 1376) (x_lln 1)) (x_i2l (x_k _ _ (ic_V (S := S_X11_digest) sd_X11_tangledNow ky_X11_tangledNow kv_X11_tangledNow (by decide) 241 1203 none) (x_a1 (x_aln 0) (x_a1 (x_ic 1 1 (by decide)) x_a0)))))) (t_sq (t_k _ _ (ic_V (S := S_X11_digest) sd_X11_findTour ky_X11_findTour kv_X11_findTour (by decide) 266 1234 none) (x_a1 (x_aln 0) x_a0)) (t_sq (t_bk (t_sq (t_isn 3 (x_ic 0 0 (by decide))) (t_lp (c_2 .lt (x_iln 3) (x_ic 4 4 (by decide))) (t_sq (t_lsn 1 (x_ladd (x_lmul (x_ldc2 343 31 1376) (x_lln 1)) (x_i2l (x_k _ _ (ic_V (S := S_X11_digest) sd_X11_tourBy ky_X11_tourBy kv_X11_tourBy (by decide) 269 1246 none) (x_a1 (x_aln 0) (x_a1 (x_iln 3) x_a0)))))) (t_inc 3 1 1 (by decide)))))) (t_sq (t_bk (t_sq (t_isn 3 (x_ic 0 0 (by decide))) (t_lp (c_2 .lt (x_iln 3) (x_bp 6 6 (by decide))) (t_sq (t_lsn 1 (x_ladd (x_lmul (x_ldc2 343 31 1376) (x_lln 1)) (x_i2l (x_k _ _ (ic_V (S := S_X11_digest) sd_X11_hangOf ky_X11_hangOf kv_X11_hangOf (by decide) 272 1254 none) (x_a1 (x_aln 0) (x_a1 (x_idiv (x_iln 3) (x_ic 2 2 (by decide))) (x_a1 (x_irem (x_iln 3) (x_ic 2 2 (by decide))) x_a0))))))) (t_inc 3 1 1 (by decide)))))) (t_sq (t_lsn 1 (x_ladd (x_lmul (x_ldc2 343 31 1376) (x_lln 1)) (x_i2l (x_k _ _ (ic_V (S := S_X11_digest) sd_X11_neverNow ky_X11_neverNow kv_X11_neverNow (by decide) 298 1296 none) (x_a1 (x_aln 0) x_a0))))) (t_sq (t_lsn 1 (x_ladd (x_lmul (x_ldc2 343 31 1376) (x_lln 1)) (x_i2l (x_k _ _ (ic_V (S := S_X11_digest) sd_X11_centuryOf ky_X11_centuryOf kv_X11_centuryOf (by decide) 337 1348 none) (x_a1 (x_aln 0) (x_a1 (x_bp 7 7 (by decide)) (x_a1 (x_bp 6 6 (by decide)) (x_a1 (x_ic 0 0 (by decide)) x_a0)))))))) (t_rt .lreturn (x_ladd (x_lmul (x_ldc2 343 31 1376) (x_lln 1)) (x_i2l (x_k _ _ (ic_V (S := S_X11_digest) sd_X11_centuryOf ky_X11_centuryOf kv_X11_centuryOf (by decide) 337 1348 none) (x_a1 (x_aln 0) (x_a1 (x_bp 7 7 (by decide)) (x_a1 (x_bp 6 6 (by decide)) (x_a1 (x_ic 1 1 (by decide)) x_a0)))))))))))))))))))))))))
noncomputable def g_X11_digest : am_T := (s_sq (s_as (o_sl 4 1) (e_j 17)) (s_sq (s_bk (s_sq (s_as (o_si 4 3) (e_i 0)) (s_lp (b_2 .lt (e_li 3) (e_i 8)) (s_sq (s_as (o_sl 4 1) (e_b o_ladd (e_b o_lmul (e_j 31) (e_ll 1)) (e_i2l (e_k (am_cl ShM 11 1 f_X11_count) (a_1 (e_lr 0) (a_1 (e_li 3) a_0)))))) (s_inc 4 3 1))))) (s_sq (s_bk (s_sq (s_as (o_si 4 3) (e_i 0)) (s_lp (b_2 .lt (e_li 3) (e_i 3)) (s_sq (s_as (o_sl 4 1) (e_b o_ladd (e_b o_lmul (e_j 31) (e_ll 1)) (e_i2l (e_k (am_cl ShM 11 1 f_X11_readsText) (a_1 (e_lr 0) (a_1 (e_li 3) a_0)))))) (s_inc 4 3 1))))) (s_sq (s_bk (s_sq (s_as (o_si 4 3) (e_i 0)) (s_lp (b_2 .lt (e_li 3) (e_i 20)) (s_sq (s_as (o_sl 4 1) (e_b o_ladd (e_b o_lmul (e_j 31) (e_ll 1)) (e_i2l (e_ald ShM (e_gf ShM 11 12 (e_lr 0)) (e_li 3))))) (s_inc 4 3 1))))) (s_sq (s_bk (s_sq (s_as (o_si 4 3) (e_i 0)) (s_lp (b_2 .lt (e_li 3) (e_gf ShM 11 7 (e_lr 0))) (s_sq (s_as (o_sl 4 1) (e_k (am_cl ShM 11 2 f_X11_tellsStrand) (a_1 (e_lr 0) (a_1 (e_ll 1) (a_1 (e_li 3) a_0))))) (s_inc 4 3 1))))) (s_sq (s_k (am_cl ShM 11 0 f_X11_lives) (a_1 (e_lr 0) a_0)) (s_sq (s_bk (s_sq (s_as (o_si 4 3) (e_i 0)) (s_lp (b_2 .lt (e_li 3) (e_i 8)) (s_sq (s_sq (s_as (o_sl 4 1) (e_b o_ladd (e_b o_lmul (e_j 31) (e_ll 1)) (e_i2l (e_k (am_cl ShM 11 1 f_X11_routeBy) (a_1 (e_lr 0) (a_1 (e_li 3) a_0)))))) (s_as (o_sl 4 1) (e_b o_ladd (e_b o_lmul (e_j 31) (e_ll 1)) (e_i2l (e_k (am_cl ShM 11 1 f_X11_readsOf) (a_1 (e_lr 0) (a_1 (e_li 3) a_0))))))) (s_inc 4 3 1))))) (s_sq (s_as (o_sl 4 1) (e_b o_ladd (e_b o_lmul (e_j 31) (e_ll 1)) (e_i2l (e_k (am_cl ShM 11 1 f_X11_voidsBy) (a_1 (e_lr 0) (a_1 (e_i 5) a_0)))))) (s_sq (s_as (o_sl 4 1) (e_b o_ladd (e_b o_lmul (e_j 31) (e_ll 1)) (e_i2l (e_k (am_cl ShM 11 1 f_X11_voidsBy) (a_1 (e_lr 0) (a_1 (e_i 19) a_0)))))) (s_sq (s_as (o_sl 4 1) (e_b o_ladd (e_b o_lmul (e_j 31) (e_ll 1)) (e_i2l (e_k (am_cl ShM 11 0 f_X11_forgedNow) (a_1 (e_lr 0) a_0))))) (s_sq (s_as (o_sl 4 1) (e_b o_ladd (e_b o_lmul (e_j 31) (e_ll 1)) (e_i2l (e_k (am_cl ShM 11 1 f_X11_tangledNow) (a_1 (e_lr 0) (a_1 (e_i 0) a_0)))))) (s_sq (s_as (o_sl 4 1) (e_b o_ladd (e_b o_lmul (e_j 31) (e_ll 1)) (e_i2l (e_k (am_cl ShM 11 1 f_X11_tangledNow) (a_1 (e_lr 0) (a_1 (e_i 1) a_0)))))) (s_sq (s_k (am_cl ShM 11 0 f_X11_findTour) (a_1 (e_lr 0) a_0)) (s_sq (s_bk (s_sq (s_as (o_si 4 3) (e_i 0)) (s_lp (b_2 .lt (e_li 3) (e_i 4)) (s_sq (s_as (o_sl 4 1) (e_b o_ladd (e_b o_lmul (e_j 31) (e_ll 1)) (e_i2l (e_k (am_cl ShM 11 1 f_X11_tourBy) (a_1 (e_lr 0) (a_1 (e_li 3) a_0)))))) (s_inc 4 3 1))))) (s_sq (s_bk (s_sq (s_as (o_si 4 3) (e_i 0)) (s_lp (b_2 .lt (e_li 3) (e_i 6)) (s_sq (s_as (o_sl 4 1) (e_b o_ladd (e_b o_lmul (e_j 31) (e_ll 1)) (e_i2l (e_k (am_cl ShM 11 2 f_X11_hangOf) (a_1 (e_lr 0) (a_1 (e_b o_idiv (e_li 3) (e_i 2)) (a_1 (e_b o_irem (e_li 3) (e_i 2)) a_0))))))) (s_inc 4 3 1))))) (s_sq (s_as (o_sl 4 1) (e_b o_ladd (e_b o_lmul (e_j 31) (e_ll 1)) (e_i2l (e_k (am_cl ShM 11 0 f_X11_neverNow) (a_1 (e_lr 0) a_0))))) (s_sq (s_as (o_sl 4 1) (e_b o_ladd (e_b o_lmul (e_j 31) (e_ll 1)) (e_i2l (e_k (am_cl ShM 11 3 f_X11_centuryOf) (a_1 (e_lr 0) (a_1 (e_i 7) (a_1 (e_i 6) (a_1 (e_i 0) a_0)))))))) (s_rt .lreturn (e_b o_ladd (e_b o_lmul (e_j 31) (e_ll 1)) (e_i2l (e_k (am_cl ShM 11 3 f_X11_centuryOf) (a_1 (e_lr 0) (a_1 (e_i 7) (a_1 (e_i 6) (a_1 (e_i 1) a_0)))))))))))))))))))))))))
noncomputable def f_X11_digest : am_F := am_fn 4 (some .long) g_X11_digest
set_option maxRecDepth 100000 in
theorem sd_X11_digest : am_Sd ShM yX11_digest cX11_digest 4 (some .long) 6 f_X11_digest := am_meth (y := yX11_digest) (ret := (some .long)) x_X11_digest (by decide) (by decide +kernel) (by decide +kernel)
end
section
-- ===== end of PART A; then your names; then what follows =====
/-! THE CLAIM OUT OF ONE WALK OF THE LAW'S BODY. Your part is whole_start (and what it stands on); all else here is the same for every law, but numbers. -/
def R_law : String := "WrackDeedsLaw"
def lw_P (b : Addr) (xs : List Int32) (args : Array Value) (s : State) : Prop := args = #[.ref b] ∧ s.IntsAt b xs ∧ xs.length ≤ 384 ∧ (Jvm.Cond.and given_1 narrow_1).before args s = true
def lw_Q (_ : Array Value) (s : State) (o : Outcome) (t : State) : Prop := o = .returned (some (.int 1)) ∧ Framed s o t [] 600000 7302250
def lw_Z (below : List Frame) (a : Array Value) (s : State) : State → Prop := fun t => ∃ o, t.status = .running ∧ Ended t below o ∧ lw_Q a s o t
/-- the law's own end, with 1 on the stack, nothing written that was there before, its room as the claim has it -/
theorem lw_ret {p : Program} {l : Launch} {e : Env} {s : State} {m : MethodId} {below : List Frame} {meth : Method} {c : Code} {b : Nat} (hx : p.tables.exec = Jvm.exec) (hb : c.code = code) (hr : meth.sig.returnType = ret) (hlocks : meth.locks = false) {pc : Nat} {H : Heap} {ls : Array Slot} (hdg : decode code pc = .ok (.ireturn, 1)) : W p l e room_1 s m #[Value.ref b] below meth c H [] 600000 7302250 (lw_Z below #[Value.ref b] s) (F0 m pc ls [.int 1]) := by
  intro T hT X
  obtain ⟨fs, hret, hrun, hended, hW, hframe⟩ := X.leave (v := some (.int 1)) (hlocks := hlocks) (fun h => by rw [hr] at h; cases h)
  have hmeth' : T.vm.method? m = some meth := X.method'
  refine ⟨T.setFrames fs, ?_, .returned (some (.int 1)), hrun, hended, rfl, ⟨_, rfl⟩, hW, hframe⟩
  jvm_step X.here [X.here.top, hx, hb, hdg, hmeth', hr, ret, narrow_b1]
  (try refine ⟨rfl, ?_⟩); (try refine ⟨rfl, ?_⟩)
  first | (intro acts; rw [hret _ acts rfl rfl rfl]) | rw [hret _ _ rfl rfl rfl]
  exact Steps.refl _
/-- what holds at the law's entry: the machine, the code, the tables' words (any of lw_tbl by 'hts w (by decide +kernel)'), the script of L ints xs at the cell b, what the Statement gives of the start (any of its parts by flat_of_before) -/
def lw_At (p : Program) (s : State) (m : MethodId) (meth : Method) (c : Code) (b L : Nat) (xs : Nat → Int32) : Prop :=
  p.tables.exec = Jvm.exec ∧ c.code = code ∧ meth.sig.returnType = ret ∧ c.maxLocals = 4 ∧ s.vm.findClass R_law = some m.cls ∧ (∀ w ∈ lw_tbl, w.before #[Value.ref b] s = true) ∧ va_X b L xs s s.heap ∧ b < s.heap.size ∧ meth.locks = false ∧ (Jvm.Cond.and given_1 narrow_1).before #[Value.ref b] s = true
end
section
/-! THE LAW: calls beside another world -/
theorem am_tb_in {w : Jvm.Cond} (h : w ∈ am_tb) : w ∈ lw_tbl := (List.mem_filter.mp h).1
theorem lw_good {y : MethodName} {cc : ByteArray} {n : Nat} {ret : Option FieldType} (h : Jvm.Cond.code y cc n ret ∈ am_tb) : GoodIn lw_tbl (Jvm.Cond.code y cc n ret :: am_tb) := fun w hw => ⟨am_tb_in ((am_good h w hw).1), (am_good h w hw).2⟩
def am_apart (Sh1 Sh2 : List am_SC) (ad1 ad2 : Nat → Nat) : Prop := ∀ i j : Nat, i < Sh1.length → j < Sh2.length → ad1 i ≠ ad2 j
theorem am_wl_in {Sh : List am_SC} {ad : Nat → Nat} {cs : Nat → ClassId} {μ : am_M} {k : Nat} {q : Nat × va_E} (h : (am_wl Sh ad cs μ)[k]? = some q) : k < Sh.length ∧ q.1 = ad k := by
  unfold am_wl at h
  rw [List.getElem?_mapIdx] at h
  cases hs : Sh[k]? with
  | none => rw [hs] at h; simp at h
  | some sc =>
    rw [hs] at h
    have := Option.some.inj h
    rw [← this]
    exact ⟨(List.getElem?_eq_some_iff.mp hs).1, rfl⟩
section LWC
variable {p : Program} {l : Launch} {e : Env} {R : Room} {s : State} {m : MethodId} {args : Array Value} {below : List Frame} {meth : Method} {c : Code} {H : Heap} {locs : List Loc} {nc ns : Nat} {Q : State → Prop}
theorem lw_go {Sh : List am_SC} {D : va_G} {cs : Nat → ClassId} {ad : Nat → Nat} {r : Option AV} {μ' : am_M} {A0 A1 : Nat → Prop} {H0 : Heap} {pc : Nat} {ls : Array Slot} {rest st0 : List Value} {a : Array Value} {free : Addr → Prop}
    (hr : va_Run p l e R s m args below meth c H locs nc ns 0 0 (F0 m pc ls st0) rest (am_Q Sh D cs ad r μ' A1 a) free) (hS : va_S A0 H0 H locs) (hA : ∀ q, A1 q → A0 q) (hf : ∀ q, free q → A0 q)
    (kk : ∀ (H1 : Heap) (locs1 : List Loc), va_P D vwCl (am_wl Sh ad cs μ') H1 → (∀ q : Nat, q < H.size → ¬ A1 q → H1[q]? = H[q]?) → va_S A0 H0 H1 locs1 → W p l e R s m args below meth c H1 locs1 nc ns Q (F0 m (pc + 3) ls ((r.map (am_cv ad)).toList ++ rest))) : W p l e R s m args below meth c H locs nc ns Q (F0 m pc ls st0) := by
  intro T hT X
  obtain ⟨v, st₀, t, T', L, h0, X', hL, e1, e2, ⟨hv, hp, hz, hk⟩, st⟩ := hr T hT X
  cases hv
  rw [h0] at hz hk
  obtain ⟨t2, a1, b1⟩ := kk T'.heap (locs ++ L) (by rw [e1]; exact hp) (fun q h1 h2 => by rw [e1]; exact hk q h1 h2)
    ⟨Nat.le_trans hS.1 (by rw [e1]; exact hz), fun q h1 h2 => by rw [e1, hk q (Nat.lt_of_lt_of_le h1 hS.1) (fun z => h2 (hA q z))]; exact hS.2.1 q h1 h2, fun q hq => by
      rcases List.mem_append.mp hq with h | h
      · exact hS.2.2 q h
      · exact hf _ (hL q h)⟩ T' rfl X'
  exact ⟨t2, st t2 a1, b1⟩
/-- a call on the first cell of one world; the other world stays -/
theorem lw_call {Sh Sh2 : List am_SC} {D : va_G} {cs : Nat → ClassId} {ad ad2 : Nat → Nat} {A : Nat → Prop} {μ μ' μ2 : am_M} {y : MethodName} {cb : ByteArray} {nb n dc ci idx : Nat} {ret : Option FieldType} {f : am_F} {sl : List (Option Nat)} {cc : ByteArray}
    (hO1 : p.tables.exec = Jvm.exec) (hO2 : c.code = cc) (hO3 : c.maxLocals = 4) (hO4 : s.vm.findClass RL = some m.cls) (hts : ∀ w ∈ lw_tbl, w.before args s = true) (hK : va_K D vwCl (am_ty cs) s) (hA : ∀ q : Nat, s.heap.size ≤ q → A q)
    (hM : am_Sd Sh y cb nb ret dc f) (hy : am_Ky y cb nb ret n) (hv : am_KV y ci) (hlk : Jvm.Cond.methodLink RL idx y ∈ lw_tbl) (hdc : dc + 1 ≤ R.frames ∧ 64 * (dc + 1) ≤ R.locals) (hnc : nc ≤ R.cells ∧ ns ≤ R.slots)
    (hap : am_apart Sh Sh2 ad ad2) (hs : Sh[0]? = some (.inr (.inr (ci, sl))))
    (hP : va_P D vwCl (am_wl Sh ad cs μ) H) (hP2 : va_P D vwCl (am_wl Sh2 ad2 cs μ2) H) (hD : va_D A (am_wl Sh ad cs μ)) (hS : va_S A s.heap H locs) {ls : Array Slot} (hls : ls.size = 4) {pc : Nat} (hdg : decode cc pc = .ok (.invokevirtual idx, 3)) {as : List AV} (hn : as.length = n) {st : List Value} (hst : (st.map fun v => v.category).sum ≤ 8) {r : Option AV} (hw : f (vR 0 :: as) μ = some (r, μ'))
    (kk : ∀ (H1 : Heap) (locs1 : List Loc), va_P D vwCl (am_wl Sh ad cs μ') H1 → va_P D vwCl (am_wl Sh2 ad2 cs μ2) H1 → va_S A s.heap H1 locs1 → W p l e R s m args below meth c H1 locs1 nc ns Q (F0 m (pc + 3) ls ((r.map (am_cv ad)).toList ++ st))) :
    W p l e R s m args below meth c H locs nc ns Q (F0 m pc ls ((as.map (am_cv ad)).reverse ++ .ref (ad 0) :: st)) := by
  obtain ⟨k1, k2, k3, k4⟩ := hy
  obtain ⟨v1, v2, T, N, v3⟩ := hv
  have hA1 := am_wl_A hD hS hA
  have hR : (am_rm dc).frames + 1 ≤ R.frames ∧ 8 + (nb + 11) + (am_rm dc).locals ≤ R.locals := by
    refine ⟨hdc.1, ?_⟩
    show 8 + (nb + 11) + 64 * dc ≤ R.locals
    omega
  have hN : ∀ w ∈ am_ne, va_Nw w s := fun w hw => va_Nw.of (am_isN_on (List.mem_filter.mp hw).2) (hts w (List.mem_filter.mp hw).1)
  have hpre := am_pre (av := (vR 0 :: as).map (am_cv ad)) hK hP hD hN
  have hrv : ∃ cellB : Cell, H[ad 0]? = some cellB ∧ cellB.vm.isStatics = false ∧ s.vm.findClass y.cls = some cellB.cls := va_recv (q := (y.cls, T, N)) hK hP v3 (am_wl_get hs)
  have hM' := hM l D cs ad H.size (vR 0 :: as) μ r μ' hw
  have hr := va_runV (e := e) (below := below) (meth := meth) (locs := locs) (cells := nc) (slots := ns) (g := F0 m pc ls ((as.map (am_cv ad)).reverse ++ .ref (ad 0) :: st)) (C := y.cls) (b := ad 0) (As := as.map (am_cv ad)) (rest := st) ⟨hO1, hO2, hO3, hO4, hts⟩ hM' ⟨callB_of n hts (lw_good k1) rfl rfl rfl (hts _ (am_tb_in k2)) (hts _ hlk) k3 hR, hts _ (am_tb_in v1), hts _ (am_tb_in v2)⟩ ⟨am_blind, hrv, hpre⟩ rfl (by rw [List.length_map]; exact hn) hls rfl (lv_room hst) hdg hnc
  refine lw_go hr hS hA1 hA1 (fun H1 locs1 hP1 hk hS1 => kk H1 locs1 hP1 ?_ hS1)
  refine hP2.kept (fun k q hq => hk q.1 (hP2 k q hq).lt ?_)
  rintro (⟨k', e', h'⟩ | h')
  · obtain ⟨a1, a2⟩ := am_wl_in hq
    obtain ⟨b1, b2⟩ := am_wl_in h'
    exact hap k' k b1 a1 (b2.symm.trans a2)
  · have := (hP2 k q hq).lt
    omega
end LWC
end
section
/-! THE LAW'S CASES -/
def lw_W (p : Program) (l : Launch) (e : Env) (s : State) (m : MethodId) (below : List Frame) (meth : Method) (c : Code) (b : Nat) (D : va_G) (cs : Nat → ClassId) (adX adM : Nat → Nat) (nc ns pc : Nat) (st : List Value) (i : Int32) (μX μM : am_M) : Prop :=
  ∀ (H : Heap) (locs : List Loc) (ls : Array Slot), va_P D vwCl (am_wl ShX adX cs μX) H → va_P D vwCl (am_wl ShM adM cs μM) H → va_S (fun q : Nat => s.heap.size ≤ q) s.heap H locs → lv_has ls 4 [(0, .ref b), (1, .ref (adX 0)), (2, .ref (adM 0)), (3, .int i)] → W p l e room_1 s m #[Value.ref b] below meth c H locs nc ns (lw_Z below #[Value.ref b] s) (F0 m pc ls st)
/-- what holds all through the law's loop -/
def lw_C (p : Program) (s : State) (m : MethodId) (meth : Method) (c : Code) (b L : Nat) (xs : Nat → Int32) (D : va_G) (cs : Nat → ClassId) (adX adM : Nat → Nat) (nc ns : Nat) : Prop :=
  lw_At p s m meth c b L xs ∧ L ≤ 384 ∧ va_K D vwCl (am_ty cs) s ∧ va_D (fun q : Nat => s.heap.size ≤ q) (am_wl ShX adX cs (fun _ _ => 0)) ∧ va_D (fun q : Nat => s.heap.size ≤ q) (am_wl ShM adM cs (fun _ _ => 0)) ∧ am_apart ShX ShM adX adM ∧ nc ≤ 600000 ∧ ns ≤ 7302250
theorem am_apart.symm {Sh1 Sh2 : List am_SC} {ad1 ad2 : Nat → Nat} (h : am_apart Sh1 Sh2 ad1 ad2) : am_apart Sh2 Sh1 ad2 ad1 := fun i j hi hj he => h j i hj hi he.symm
def lw_a1 (k : Nat) : List am_I := [(.aload_n 0, 1, none), (.iload_n 3, 1, none), (.iconst (k : Int), 1, none), (.iadd, 1, none), (.iaload, 1, none)]
def lw_ar : List Nat → List am_I
  | [] => []
  | k :: t => lw_a1 k ++ lw_ar t
section LWK
variable {p : Program} {l : Launch} {e : Env} {s : State} {m : MethodId} {below : List Frame} {meth : Method} {c : Code} {b L : Nat} {xs : Nat → Int32} {D : va_G} {cs : Nat → ClassId} {adX adM : Nat → Nat} {nc ns : Nat}
theorem lw_arg (C : lw_C p s m meth c b L xs D cs adX adM nc ns) {k i0 pc : Nat} (hk : i0 + k < L) (hf : am_fit code pc (lw_a1 k)) {st : List Value} {μX μM : am_M} (kk : lw_W p l e s m below meth c b D cs adX adM nc ns (pc + 5) (.int (xs (i0 + k)) :: st) (nI i0) μX μM) : lw_W p l e s m below meth c b D cs adX adM nc ns pc st (nI i0) μX μM := by
  obtain ⟨⟨hx, hb, hr, hml, hown, hts, hX, hbl, hlocks, hgv⟩, hL, hK, hDX, hDM, hap, hnc, hns⟩ := C
  intro H locs ls hPX hPM hS hl
  have hbA : ¬ (fun q : Nat => s.heap.size ≤ q) b := Nat.not_le.mpr hbl
  obtain ⟨f1, -, f2, -, f3, -, f4, -, f5, -, -⟩ := hf
  refine lv_aload_n hx hb f1 rfl (lv_at hl 0 rfl) ?_
  refine lv_iload_n hx hb f2 rfl (lv_at hl 3 rfl) ?_
  refine lv_iconst (v := nI k) hx hb f3 rfl ?_
  refine lv_iadd hx hb f4 ?_
  rw [nI_add]
  have hin : vp_in (nI (i0 + k)) L := vp_in_nI hk (by omega)
  refine va_sld hx hb hX hbl hbA hS hin f5 ?_
  rw [nI_clamp (by omega)]
  exact kk H locs ls hPX hPM hS hl
theorem lw_args (C : lw_C p s m meth c b L xs D cs adX adM nc ns) {i0 : Nat} : ∀ (ks : List Nat) (pc : Nat) (st : List Value) (μX μM : am_M), (∀ k ∈ ks, i0 + k < L) → am_fit code pc (lw_ar ks) → lw_W p l e s m below meth c b D cs adX adM nc ns (pc + am_sz (lw_ar ks)) ((ks.map fun k => Value.int (xs (i0 + k))).reverse ++ st) (nI i0) μX μM → lw_W p l e s m below meth c b D cs adX adM nc ns pc st (nI i0) μX μM := by
  intro ks
  induction ks with
  | nil => intro pc st μX μM _ _ kk; exact kk
  | cons k t ih =>
    intro pc st μX μM hk hf kk
    obtain ⟨h1, h2⟩ := am_fit_app (a := lw_a1 k) hf
    refine lw_arg C (hk k List.mem_cons_self) h1 (ih _ _ μX μM (fun q hq => hk q (List.mem_cons_of_mem _ hq)) h2 ?_)
    have e1 : am_sz (lw_ar (k :: t)) = 5 + am_sz (lw_ar t) := am_sz_app (lw_a1 k) (lw_ar t)
    rw [e1, ← Nat.add_assoc, List.map_cons, List.reverse_cons, List.append_assoc] at kk
    exact kk
/-- the front of a case: both calls with the script's ints -/
def lw_fr (ks : List Nat) (iX qX iM qM : Nat) (yX yM : MethodName) (t : List am_I) : List am_I := [(.aload_n 1, 1, none)] ++ (lw_ar ks ++ ([(.invokevirtual iX, 3, some (qX, .methodLink RL iX yX))] ++ ([(.aload_n 2, 1, none)] ++ (lw_ar ks ++ ([(.invokevirtual iM, 3, some (qM, .methodLink RL iM yM))] ++ t)))))
theorem lw_both (C : lw_C p s m meth c b L xs D cs adX adM nc ns) {i0 pc iX qX iM qM : Nat} {ks : List Nat} (hks : ∀ k ∈ ks, i0 + k < L) {yX yM : MethodName} {t : List am_I} (hf : am_fit code pc (lw_fr ks iX qX iM qM yX yM t))
    {cX cM : ByteArray} {nX nM dX dM : Nat} {rX rM : Option FieldType} {fX fM : am_F} (sX : am_Sd ShX yX cX nX rX dX fX) (sM : am_Sd ShM yM cM nM rM dM fM) (kX : am_Ky yX cX nX rX ks.length) (kM : am_Ky yM cM nM rM ks.length) (vX : am_KV yX 10) (vM : am_KV yM 11) (hdX : dX ≤ 100) (hdM : dM ≤ 100)
    {μX μM μX' μM' : am_M} {v w : AV} (hX : fX (vR 0 :: ks.map fun k => vI (xs (i0 + k))) μX = some (some v, μX')) (hM : fM (vR 0 :: ks.map fun k => vI (xs (i0 + k))) μM = some (some w, μM'))
    (kk : lw_W p l e s m below meth c b D cs adX adM nc ns (pc + (am_sz (lw_fr ks iX qX iM qM yX yM t) - am_sz t)) [am_cv adM w, am_cv adX v] (nI i0) μX' μM') : lw_W p l e s m below meth c b D cs adX adM nc ns pc [] (nI i0) μX μM := by
  obtain ⟨f1, hf⟩ := am_fit_app hf
  obtain ⟨f2, hf⟩ := am_fit_app hf
  obtain ⟨f3, hf⟩ := am_fit_app hf
  obtain ⟨f4, hf⟩ := am_fit_app hf
  obtain ⟨f5, hf⟩ := am_fit_app hf
  obtain ⟨f6, hf⟩ := am_fit_app hf
  have hsz : am_sz (lw_fr ks iX qX iM qM yX yM t) - am_sz t = 1 + (am_sz (lw_ar ks) + (3 + (1 + (am_sz (lw_ar ks) + 3)))) := by
    have : am_sz (lw_fr ks iX qX iM qM yX yM t) = 1 + (am_sz (lw_ar ks) + (3 + (1 + (am_sz (lw_ar ks) + (3 + am_sz t))))) := by
      unfold lw_fr
      rw [am_sz_app, am_sz_app, am_sz_app, am_sz_app, am_sz_app, am_sz_app]
      rfl
    omega
  rw [hsz] at kk
  have C0 := C
  obtain ⟨⟨hx, hb, hr, hml, hown, hts, hXs, hbl, hlocks, hgv⟩, hL, hK, hDX, hDM, hap, hnc, hns⟩ := C
  have e1 : (ks.map fun k => Value.int (xs (i0 + k))) = ((ks.map fun k => vI (xs (i0 + k))).map (am_cv adX)) := by rw [List.map_map]; rfl
  have e2 : (ks.map fun k => Value.int (xs (i0 + k))) = ((ks.map fun k => vI (xs (i0 + k))).map (am_cv adM)) := by rw [List.map_map]; rfl
  have hc : ∀ (ad : Nat → Nat) (v : AV), (am_cv ad v).category ≤ 2 := fun ad v => by rcases lv_cat (am_cv ad v) with h | h <;> omega
  intro H locs ls hPX hPM hS hl
  refine lv_aload_n hx hb f1.1 rfl (lv_at hl 1 rfl) ?_
  refine lw_args C0 ks _ [.ref (adX 0)] μX μM hks f2 ?_ H locs ls hPX hPM hS hl
  intro H locs ls hPX hPM hS hl
  rw [e1]
  refine lw_call (A := fun q : Nat => s.heap.size ≤ q) (st := []) hx hb hml hown hts hK (fun _ h => h) sX kX vX (List.mem_of_getElem? (f3.2.1 _ rfl)) ⟨by show dX + 1 ≤ 2048; omega, by show 64 * (dX + 1) ≤ 84000; omega⟩ ⟨hnc, hns⟩ hap (sl := [some 1, some 3, some 5, some 7, some 14, some 15, some 20, some 25, some 51, some 77, some 79, some 81, some 85, some 90, some 93, none, none]) rfl hPX hPM (am_wl_D hDX) hS hl.1 f3.1 (by rw [List.length_map]) (by decide) hX ?_
  intro H locs hPX hPM hS
  refine lv_aload_n hx hb f4.1 rfl (lv_at hl 2 rfl) ?_
  refine lw_args C0 ks _ (.ref (adM 0) :: [am_cv adX v]) μX' μM hks f5 ?_ H locs ls hPX hPM hS hl
  intro H locs ls hPX hPM hS hl
  rw [e2]
  refine lw_call (A := fun q : Nat => s.heap.size ≤ q) (st := [am_cv adX v]) hx hb hml hown hts hK (fun _ h => h) sM kM vM (List.mem_of_getElem? (f6.2.1 _ rfl)) ⟨by show dM + 1 ≤ 2048; omega, by show 64 * (dM + 1) ≤ 84000; omega⟩ ⟨hnc, hns⟩ hap.symm (sl := [some 1, some 2, some 3, some 4, none, some 5, some 6, none, some 7, some 8, some 9, some 10, some 11, none, some 12, none, some 13, some 14, some 15, some 16, some 17, some 18, none, some 19, some 20, some 21, some 22, none, none, some 23, some 24, none, some 25, some 26, none, some 27]) rfl hPM hPX (am_wl_D hDM) hS hl.1 f6.1 (by rw [List.length_map]) (by have := hc adX v; simp; omega) hM ?_
  intro H locs hPM hPX hS
  have := kk H locs ls hPX hPM hS hl
  rw [show pc + (1 + (am_sz (lw_ar ks) + (3 + (1 + (am_sz (lw_ar ks) + 3))))) = pc + 1 + am_sz (lw_ar ks) + 3 + 1 + am_sz (lw_ar ks) + 3 by omega] at this
  exact this
end LWK
end
section
/-! THE LAW'S LOOP, by program (mklaw.py) -/
/-- one call of both: the same answer, and the memories stay related -/
def lw_Op (Rel : am_M → am_M → Prop) (fX fM : am_F) (n : Nat) : Prop := ∀ (as : List Int32), as.length = n → ∀ (μX μM : am_M), Rel μX μM → ∃ (v : AV) (μX' μM' : am_M), fX (vR 0 :: as.map vI) μX = some (some v, μX') ∧ fM (vR 0 :: as.map vI) μM = some (some v, μM') ∧ Rel μX' μM'
theorem am_fn_int {nL : Nat} {f : am_T} {as : List AV} {μ μ' : am_M} {v : AV} (h : am_fn nL (some .int) f as μ = some (some v, μ')) : ∃ x, v = vI x := by
  have := (am_fn_ok h).2.2
  rcases v with x | x | x | x
  · exact ⟨x, rfl⟩
  · simp [am_nr] at this
  · simp [am_nr] at this
  · simp [am_nr] at this
theorem am_fn_long {nL : Nat} {f : am_T} {as : List AV} {μ μ' : am_M} {v : AV} (h : am_fn nL (some .long) f as μ = some (some v, μ')) : ∃ x, v = vL x := by
  have := (am_fn_ok h).2.2
  rcases v with x | x | x | x
  · simp [am_nr] at this
  · exact ⟨x, rfl⟩
  · simp [am_nr] at this
  · simp [am_nr] at this
theorem lw_cmp0 (x : Int64) : lg_cmp x x = 0 := by
  unfold lg_cmp
  simp
section LWL
variable {p : Program} {l : Launch} {e : Env} {s : State} {m : MethodId} {below : List Frame} {meth : Method} {c : Code} {b L : Nat} {xs : Nat → Int32} {D : va_G} {cs : Nat → ClassId} {adX adM : Nat → Nat} {nc ns : Nat}
theorem lw_caseI (C : lw_C p s m meth c b L xs D cs adX adM nc ns) {i0 pc iX qX iM qM : Nat} {ks : List Nat} (hks : ∀ k ∈ ks, i0 + k < L) {yX yM : MethodName} {off : Int} (hf : am_fit code pc (lw_fr ks iX qX iM qM yX yM [(.if_icmp .eq off, 3, none)])) (ht : ((pc + (am_sz (lw_fr ks iX qX iM qM yX yM [(.if_icmp .eq off, 3, none)]) - 3) : Nat) : Int) + off = (1312 : Nat))
    {cX cM : ByteArray} {nX nM dX dM : Nat} {gX gM : am_T} (sX : am_Sd ShX yX cX nX (some .int) dX (am_fn nX (some .int) gX)) (sM : am_Sd ShM yM cM nM (some .int) dM (am_fn nM (some .int) gM)) (kX : am_Ky yX cX nX (some .int) ks.length) (kM : am_Ky yM cM nM (some .int) ks.length) (vX : am_KV yX 10) (vM : am_KV yM 11) (hdX : dX ≤ 100) (hdM : dM ≤ 100)
    {Rel : am_M → am_M → Prop} (hop : lw_Op Rel (am_fn nX (some .int) gX) (am_fn nM (some .int) gM) ks.length) {μX μM : am_M} (hR : Rel μX μM)
    (kk : ∀ μX' μM', Rel μX' μM' → lw_W p l e s m below meth c b D cs adX adM nc ns 1312 [] (nI i0) μX' μM') : lw_W p l e s m below meth c b D cs adX adM nc ns pc [] (nI i0) μX μM := by
  obtain ⟨v, μX', μM', h1, h2, h3⟩ := hop (ks.map fun k => xs (i0 + k)) (by rw [List.length_map]) μX μM hR
  rw [List.map_map] at h1 h2
  obtain ⟨z, rfl⟩ := am_fn_int h1
  refine lw_both C hks hf sX sM kX kM vX vM hdX hdM h1 h2 ?_
  intro H locs ls hPX hPM hS hl
  have hlast : am_fit code (pc + (am_sz (lw_fr ks iX qX iM qM yX yM [(.if_icmp .eq off, 3, none)]) - 3)) [(.if_icmp .eq off, 3, none)] := by
    have hz : am_sz (lw_fr ks iX qX iM qM yX yM [(.if_icmp .eq off, 3, none)]) - 3 = 1 + (am_sz (lw_ar ks) + (3 + (1 + (am_sz (lw_ar ks) + 3)))) := by
      unfold lw_fr
      rw [am_sz_app, am_sz_app, am_sz_app, am_sz_app, am_sz_app, am_sz_app]
      rfl
    rw [hz]
    have h9 := (am_fit_app (am_fit_app (am_fit_app (am_fit_app (am_fit_app (am_fit_app hf).2).2).2).2).2).2
    rw [show pc + (1 + (am_sz (lw_ar ks) + (3 + (1 + (am_sz (lw_ar ks) + 3))))) = pc + 1 + am_sz (lw_ar ks) + 3 + 1 + am_sz (lw_ar ks) + 3 by omega]
    exact h9
  exact lv_icmp_eq C.1.1 C.1.2.1 hlast.1 (tgt := 1312) ht (fun _ => kk _ _ h3 H locs ls hPX hPM hS hl) (fun h => absurd rfl h)
theorem lw_caseL (C : lw_C p s m meth c b L xs D cs adX adM nc ns) {i0 pc iX qX iM qM : Nat} {ks : List Nat} (hks : ∀ k ∈ ks, i0 + k < L) {yX yM : MethodName} {off : Int} (hf : am_fit code pc (lw_fr ks iX qX iM qM yX yM [(.lcmp, 1, none), (.ifCond .eq off, 3, none)])) (ht : ((pc + (am_sz (lw_fr ks iX qX iM qM yX yM [(.lcmp, 1, none), (.ifCond .eq off, 3, none)]) - 4) + 1 : Nat) : Int) + off = (1312 : Nat))
    {cX cM : ByteArray} {nX nM dX dM : Nat} {gX gM : am_T} (sX : am_Sd ShX yX cX nX (some .long) dX (am_fn nX (some .long) gX)) (sM : am_Sd ShM yM cM nM (some .long) dM (am_fn nM (some .long) gM)) (kX : am_Ky yX cX nX (some .long) ks.length) (kM : am_Ky yM cM nM (some .long) ks.length) (vX : am_KV yX 10) (vM : am_KV yM 11) (hdX : dX ≤ 100) (hdM : dM ≤ 100)
    {Rel : am_M → am_M → Prop} (hop : lw_Op Rel (am_fn nX (some .long) gX) (am_fn nM (some .long) gM) ks.length) {μX μM : am_M} (hR : Rel μX μM)
    (kk : ∀ μX' μM', Rel μX' μM' → lw_W p l e s m below meth c b D cs adX adM nc ns 1312 [] (nI i0) μX' μM') : lw_W p l e s m below meth c b D cs adX adM nc ns pc [] (nI i0) μX μM := by
  obtain ⟨v, μX', μM', h1, h2, h3⟩ := hop (ks.map fun k => xs (i0 + k)) (by rw [List.length_map]) μX μM hR
  rw [List.map_map] at h1 h2
  obtain ⟨z, rfl⟩ := am_fn_long h1
  refine lw_both C hks hf sX sM kX kM vX vM hdX hdM h1 h2 ?_
  intro H locs ls hPX hPM hS hl
  have hlast : am_fit code (pc + (am_sz (lw_fr ks iX qX iM qM yX yM [(.lcmp, 1, none), (.ifCond .eq off, 3, none)]) - 4)) [(.lcmp, 1, none), (.ifCond .eq off, 3, none)] := by
    have hz : am_sz (lw_fr ks iX qX iM qM yX yM [(.lcmp, 1, none), (.ifCond .eq off, 3, none)]) - 4 = 1 + (am_sz (lw_ar ks) + (3 + (1 + (am_sz (lw_ar ks) + 3)))) := by
      unfold lw_fr
      rw [am_sz_app, am_sz_app, am_sz_app, am_sz_app, am_sz_app, am_sz_app]
      rfl
    rw [hz]
    have h9 := (am_fit_app (am_fit_app (am_fit_app (am_fit_app (am_fit_app (am_fit_app hf).2).2).2).2).2).2
    rw [show pc + (1 + (am_sz (lw_ar ks) + (3 + (1 + (am_sz (lw_ar ks) + 3))))) = pc + 1 + am_sz (lw_ar ks) + 3 + 1 + am_sz (lw_ar ks) + 3 by omega]
    exact h9
  refine W.lcmp C.1.1 C.1.2.1 hlast.1 ?_
  rw [lw_cmp0]
  exact lv_if_eq C.1.1 C.1.2.1 hlast.2.2.1 (tgt := 1312) ht (fun _ => kk _ _ h3 H locs ls hPX hPM hS hl) (fun h => absurd rfl h)
end LWL
theorem lf_type : am_fb code 192 (lw_fr [1, 2] 13 413 17 1035 yX10_type yX11_type [(.if_icmp .eq 1092, 3, none)]) = true := by decide +kernel
theorem lf_wipe : am_fb code 225 (lw_fr [1] 18 424 22 1043 yX10_wipe yX11_wipe [(.if_icmp .eq 1069, 3, none)]) = true := by decide +kernel
theorem lf_undo : am_fb code 248 (lw_fr [1] 23 428 26 1047 yX10_undo yX11_undo [(.if_icmp .eq 1046, 3, none)]) = true := by decide +kernel
theorem lf_fault : am_fb code 271 (lw_fr [1] 27 432 30 1051 yX10_fault yX11_fault [(.if_icmp .eq 1023, 3, none)]) = true := by decide +kernel
theorem lf_strand : am_fb code 294 (lw_fr [1, 2] 31 522 34 1080 yX10_strand yX11_strand [(.if_icmp .eq 990, 3, none)]) = true := by decide +kernel
theorem lf_tide : am_fb code 327 (lw_fr [1] 35 531 38 1093 yX10_tide yX11_tide [(.if_icmp .eq 967, 3, none)]) = true := by decide +kernel
theorem lf_route : am_fb code 350 (lw_fr [1] 39 535 42 1101 yX10_route yX11_route [(.if_icmp .eq 944, 3, none)]) = true := by decide +kernel
theorem lf_event : am_fb code 373 (lw_fr [1, 2, 3, 4] 43 539 47 1110 yX10_event yX11_event [(.if_icmp .eq 891, 3, none)]) = true := by decide +kernel
theorem lf_back : am_fb code 426 (lw_fr [] 48 550 52 1119 yX10_back yX11_back [(.if_icmp .eq 878, 3, none)]) = true := by decide +kernel
theorem lf_read : am_fb code 439 (lw_fr [1] 53 554 56 1123 yX10_read yX11_read [(.if_icmp .eq 855, 3, none)]) = true := by decide +kernel
theorem lf_state : am_fb code 462 (lw_fr [1, 2, 3] 57 567 61 1128 yX10_state yX11_state [(.if_icmp .eq 812, 3, none)]) = true := by decide +kernel
theorem lf_says : am_fb code 505 (lw_fr [1, 2, 3] 62 571 65 1154 yX10_says yX11_says [(.if_icmp .eq 769, 3, none)]) = true := by decide +kernel
theorem lf_deed : am_fb code 548 (lw_fr [1, 2] 66 583 69 1167 yX10_deed yX11_deed [(.if_icmp .eq 736, 3, none)]) = true := by decide +kernel
theorem lf_voids : am_fb code 581 (lw_fr [1] 70 591 73 1179 yX10_voids yX11_voids [(.if_icmp .eq 713, 3, none)]) = true := by decide +kernel
theorem lf_forged : am_fb code 604 (lw_fr [] 74 603 77 1191 yX10_forged yX11_forged [(.if_icmp .eq 700, 3, none)]) = true := by decide +kernel
theorem lf_tangled : am_fb code 617 (lw_fr [1] 78 611 81 1199 yX10_tangled yX11_tangled [(.if_icmp .eq 677, 3, none)]) = true := by decide +kernel
theorem lf_reads : am_fb code 640 (lw_fr [1] 82 627 85 1214 yX10_reads yX11_reads [(.if_icmp .eq 654, 3, none)]) = true := by decide +kernel
theorem lf_tour : am_fb code 663 (lw_fr [1] 86 631 89 1230 yX10_tour yX11_tour [(.if_icmp .eq 631, 3, none)]) = true := by decide +kernel
theorem lf_hang : am_fb code 686 (lw_fr [1, 2] 90 659 93 1250 yX10_hang yX11_hang [(.if_icmp .eq 598, 3, none)]) = true := by decide +kernel
theorem lf_save : am_fb code 719 (lw_fr [1, 2] 94 668 97 1258 yX10_save yX11_save [(.if_icmp .eq 565, 3, none)]) = true := by decide +kernel
theorem lf_fill : am_fb code 752 (lw_fr [1, 2, 3] 98 681 101 1271 yX10_fill yX11_fill [(.if_icmp .eq 522, 3, none)]) = true := by decide +kernel
theorem lf_seen : am_fb code 795 (lw_fr [1, 2, 3] 102 714 105 1283 yX10_seen yX11_seen [(.if_icmp .eq 479, 3, none)]) = true := by decide +kernel
theorem lf_forget : am_fb code 838 (lw_fr [] 106 722 109 1288 yX10_forget yX11_forget [(.if_icmp .eq 466, 3, none)]) = true := by decide +kernel
theorem lf_never : am_fb code 851 (lw_fr [] 110 726 113 1292 yX10_never yX11_never [(.if_icmp .eq 453, 3, none)]) = true := by decide +kernel
theorem lf_was : am_fb code 864 (lw_fr [1, 2] 114 740 117 1304 yX10_was yX11_was [(.if_icmp .eq 420, 3, none)]) = true := by decide +kernel
theorem lf_ask : am_fb code 897 (lw_fr [1] 118 752 121 1320 yX10_ask yX11_ask [(.if_icmp .eq 397, 3, none)]) = true := by decide +kernel
theorem lf_risk : am_fb code 920 (lw_fr [1, 2, 3, 4] 122 766 126 1328 yX10_risk yX11_risk [(.lcmp, 1, none), (.ifCond .eq 343, 3, none)]) = true := by decide +kernel
theorem lf_century : am_fb code 974 (lw_fr [1, 2, 3] 127 773 130 1344 yX10_century yX11_century [(.if_icmp .eq 300, 3, none)]) = true := by decide +kernel
theorem lf_sheet : am_fb code 1017 (lw_fr [1, 2, 3] 131 787 134 995 yX10_sheet yX11_sheet [(.if_icmp .eq 257, 3, none)]) = true := by decide +kernel
theorem lf_lose : am_fb code 1060 (lw_fr [1] 135 798 138 1011 yX10_lose yX11_lose [(.if_icmp .eq 234, 3, none)]) = true := by decide +kernel
theorem lf_lay : am_fb code 1083 (lw_fr [1, 2, 3, 4] 139 802 142 1015 yX10_lay yX11_lay [(.if_icmp .eq 181, 3, none)]) = true := by decide +kernel
theorem lf_get : am_fb code 1136 (lw_fr [1, 2, 3] 143 814 146 1026 yX10_get yX11_get [(.if_icmp .eq 138, 3, none)]) = true := by decide +kernel
theorem lf_copy : am_fb code 1179 (lw_fr [1, 2, 3, 4, 5] 147 819 151 1031 yX10_copy yX11_copy [(.if_icmp .eq 75, 3, none)]) = true := by decide +kernel
theorem lf_write : am_fb code 1242 (lw_fr [1, 2] 152 828 155 1360 yX10_write yX11_write [(.if_icmp .eq 42, 3, none)]) = true := by decide +kernel
theorem lf_count : am_fb code 1275 (lw_fr [1] 156 833 159 1367 yX10_count yX11_count [(.if_icmp .eq 19, 3, none)]) = true := by decide +kernel
theorem lf_digest : am_fb code 1298 (lw_fr [] 160 837 164 1371 yX10_digest yX11_digest [(.lcmp, 1, none), (.ifCond .eq 5, 3, none)]) = true := by decide +kernel
def lw_All (Rel : am_M → am_M → Prop) : Prop := lw_Op Rel f_X10_type f_X11_type 2 ∧ lw_Op Rel f_X10_wipe f_X11_wipe 1 ∧ lw_Op Rel f_X10_undo f_X11_undo 1 ∧ lw_Op Rel f_X10_fault f_X11_fault 1 ∧ lw_Op Rel f_X10_strand f_X11_strand 2 ∧ lw_Op Rel f_X10_tide f_X11_tide 1 ∧ lw_Op Rel f_X10_route f_X11_route 1 ∧ lw_Op Rel f_X10_event f_X11_event 4 ∧ lw_Op Rel f_X10_back f_X11_back 0 ∧ lw_Op Rel f_X10_read f_X11_read 1 ∧ lw_Op Rel f_X10_state f_X11_state 3 ∧ lw_Op Rel f_X10_says f_X11_says 3 ∧ lw_Op Rel f_X10_deed f_X11_deed 2 ∧ lw_Op Rel f_X10_voids f_X11_voids 1 ∧ lw_Op Rel f_X10_forged f_X11_forged 0 ∧ lw_Op Rel f_X10_tangled f_X11_tangled 1 ∧ lw_Op Rel f_X10_reads f_X11_reads 1 ∧ lw_Op Rel f_X10_tour f_X11_tour 1 ∧ lw_Op Rel f_X10_hang f_X11_hang 2 ∧ lw_Op Rel f_X10_save f_X11_save 2 ∧ lw_Op Rel f_X10_fill f_X11_fill 3 ∧ lw_Op Rel f_X10_seen f_X11_seen 3 ∧ lw_Op Rel f_X10_forget f_X11_forget 0 ∧ lw_Op Rel f_X10_never f_X11_never 0 ∧ lw_Op Rel f_X10_was f_X11_was 2 ∧ lw_Op Rel f_X10_ask f_X11_ask 1 ∧ lw_Op Rel f_X10_risk f_X11_risk 4 ∧ lw_Op Rel f_X10_century f_X11_century 3 ∧ lw_Op Rel f_X10_sheet f_X11_sheet 3 ∧ lw_Op Rel f_X10_lose f_X11_lose 1 ∧ lw_Op Rel f_X10_lay f_X11_lay 4 ∧ lw_Op Rel f_X10_get f_X11_get 3 ∧ lw_Op Rel f_X10_copy f_X11_copy 5 ∧ lw_Op Rel f_X10_write f_X11_write 2 ∧ lw_Op Rel f_X10_count f_X11_count 1 ∧ lw_Op Rel f_X10_digest f_X11_digest 0
section LWM
variable {p : Program} {l : Launch} {e : Env} {s : State} {m : MethodId} {below : List Frame} {meth : Method} {c : Code} {b L : Nat} {xs : Nat → Int32} {D : va_G} {cs : Nat → ClassId} {adX adM : Nat → Nat} {nc ns : Nat}
def lw_hd : List Nat := [192, 225, 248, 271, 294, 327, 350, 373, 426, 439, 462, 505, 548, 581, 604, 617, 640, 663, 686, 719, 752, 795, 838, 851, 864, 897, 920, 974, 1017, 1060, 1083, 1136, 1179, 1242, 1275, 1298]
theorem lw_cases (C : lw_C p s m meth c b L xs D cs adX adM nc ns) {i0 : Nat} (h5 : i0 + 5 < L) {Rel : am_M → am_M → Prop} (hop : lw_All Rel) {μX μM : am_M} (hR : Rel μX μM) (kk : ∀ μX' μM', Rel μX' μM' → lw_W p l e s m below meth c b D cs adX adM nc ns 1312 [] (nI i0) μX' μM') :
    ∀ k h : Nat, lw_hd[k]? = some h → lw_W p l e s m below meth c b D cs adX adM nc ns h [] (nI i0) μX μM := by
  obtain ⟨h_type, h_wipe, h_undo, h_fault, h_strand, h_tide, h_route, h_event, h_back, h_read, h_state, h_says, h_deed, h_voids, h_forged, h_tangled, h_reads, h_tour, h_hang, h_save, h_fill, h_seen, h_forget, h_never, h_was, h_ask, h_risk, h_century, h_sheet, h_lose, h_lay, h_get, h_copy, h_write, h_count, h_digest⟩ := hop
  have hk : ∀ (n : Nat), n ≤ 5 → ∀ k ∈ (List.range n).map (· + 1), i0 + k < L := by
    intro n hn k hk
    obtain ⟨j, hj, rfl⟩ := List.mem_map.mp hk
    have := List.mem_range.mp hj
    omega
  intro k h hkh
  match k, hkh with
  | 0, e1 => cases e1; exact lw_caseI C (ks := [1, 2]) (fun k hk9 => hk 2 (by decide) k hk9) (am_fb_ok lf_type) (by decide +kernel) sd_X10_type sd_X11_type ky_X10_type ky_X11_type kv_X10_type kv_X11_type (by decide) (by decide) h_type hR kk
  | 1, e1 => cases e1; exact lw_caseI C (ks := [1]) (fun k hk9 => hk 1 (by decide) k hk9) (am_fb_ok lf_wipe) (by decide +kernel) sd_X10_wipe sd_X11_wipe ky_X10_wipe ky_X11_wipe kv_X10_wipe kv_X11_wipe (by decide) (by decide) h_wipe hR kk
  | 2, e1 => cases e1; exact lw_caseI C (ks := [1]) (fun k hk9 => hk 1 (by decide) k hk9) (am_fb_ok lf_undo) (by decide +kernel) sd_X10_undo sd_X11_undo ky_X10_undo ky_X11_undo kv_X10_undo kv_X11_undo (by decide) (by decide) h_undo hR kk
  | 3, e1 => cases e1; exact lw_caseI C (ks := [1]) (fun k hk9 => hk 1 (by decide) k hk9) (am_fb_ok lf_fault) (by decide +kernel) sd_X10_fault sd_X11_fault ky_X10_fault ky_X11_fault kv_X10_fault kv_X11_fault (by decide) (by decide) h_fault hR kk
  | 4, e1 => cases e1; exact lw_caseI C (ks := [1, 2]) (fun k hk9 => hk 2 (by decide) k hk9) (am_fb_ok lf_strand) (by decide +kernel) sd_X10_strand sd_X11_strand ky_X10_strand ky_X11_strand kv_X10_strand kv_X11_strand (by decide) (by decide) h_strand hR kk
  | 5, e1 => cases e1; exact lw_caseI C (ks := [1]) (fun k hk9 => hk 1 (by decide) k hk9) (am_fb_ok lf_tide) (by decide +kernel) sd_X10_tide sd_X11_tide ky_X10_tide ky_X11_tide kv_X10_tide kv_X11_tide (by decide) (by decide) h_tide hR kk
  | 6, e1 => cases e1; exact lw_caseI C (ks := [1]) (fun k hk9 => hk 1 (by decide) k hk9) (am_fb_ok lf_route) (by decide +kernel) sd_X10_route sd_X11_route ky_X10_route ky_X11_route kv_X10_route kv_X11_route (by decide) (by decide) h_route hR kk
  | 7, e1 => cases e1; exact lw_caseI C (ks := [1, 2, 3, 4]) (fun k hk9 => hk 4 (by decide) k hk9) (am_fb_ok lf_event) (by decide +kernel) sd_X10_event sd_X11_event ky_X10_event ky_X11_event kv_X10_event kv_X11_event (by decide) (by decide) h_event hR kk
  | 8, e1 => cases e1; exact lw_caseI C (ks := []) (fun k hk9 => hk 0 (by decide) k hk9) (am_fb_ok lf_back) (by decide +kernel) sd_X10_back sd_X11_back ky_X10_back ky_X11_back kv_X10_back kv_X11_back (by decide) (by decide) h_back hR kk
  | 9, e1 => cases e1; exact lw_caseI C (ks := [1]) (fun k hk9 => hk 1 (by decide) k hk9) (am_fb_ok lf_read) (by decide +kernel) sd_X10_read sd_X11_read ky_X10_read ky_X11_read kv_X10_read kv_X11_read (by decide) (by decide) h_read hR kk
  | 10, e1 => cases e1; exact lw_caseI C (ks := [1, 2, 3]) (fun k hk9 => hk 3 (by decide) k hk9) (am_fb_ok lf_state) (by decide +kernel) sd_X10_state sd_X11_state ky_X10_state ky_X11_state kv_X10_state kv_X11_state (by decide) (by decide) h_state hR kk
  | 11, e1 => cases e1; exact lw_caseI C (ks := [1, 2, 3]) (fun k hk9 => hk 3 (by decide) k hk9) (am_fb_ok lf_says) (by decide +kernel) sd_X10_says sd_X11_says ky_X10_says ky_X11_says kv_X10_says kv_X11_says (by decide) (by decide) h_says hR kk
  | 12, e1 => cases e1; exact lw_caseI C (ks := [1, 2]) (fun k hk9 => hk 2 (by decide) k hk9) (am_fb_ok lf_deed) (by decide +kernel) sd_X10_deed sd_X11_deed ky_X10_deed ky_X11_deed kv_X10_deed kv_X11_deed (by decide) (by decide) h_deed hR kk
  | 13, e1 => cases e1; exact lw_caseI C (ks := [1]) (fun k hk9 => hk 1 (by decide) k hk9) (am_fb_ok lf_voids) (by decide +kernel) sd_X10_voids sd_X11_voids ky_X10_voids ky_X11_voids kv_X10_voids kv_X11_voids (by decide) (by decide) h_voids hR kk
  | 14, e1 => cases e1; exact lw_caseI C (ks := []) (fun k hk9 => hk 0 (by decide) k hk9) (am_fb_ok lf_forged) (by decide +kernel) sd_X10_forged sd_X11_forged ky_X10_forged ky_X11_forged kv_X10_forged kv_X11_forged (by decide) (by decide) h_forged hR kk
  | 15, e1 => cases e1; exact lw_caseI C (ks := [1]) (fun k hk9 => hk 1 (by decide) k hk9) (am_fb_ok lf_tangled) (by decide +kernel) sd_X10_tangled sd_X11_tangled ky_X10_tangled ky_X11_tangled kv_X10_tangled kv_X11_tangled (by decide) (by decide) h_tangled hR kk
  | 16, e1 => cases e1; exact lw_caseI C (ks := [1]) (fun k hk9 => hk 1 (by decide) k hk9) (am_fb_ok lf_reads) (by decide +kernel) sd_X10_reads sd_X11_reads ky_X10_reads ky_X11_reads kv_X10_reads kv_X11_reads (by decide) (by decide) h_reads hR kk
  | 17, e1 => cases e1; exact lw_caseI C (ks := [1]) (fun k hk9 => hk 1 (by decide) k hk9) (am_fb_ok lf_tour) (by decide +kernel) sd_X10_tour sd_X11_tour ky_X10_tour ky_X11_tour kv_X10_tour kv_X11_tour (by decide) (by decide) h_tour hR kk
  | 18, e1 => cases e1; exact lw_caseI C (ks := [1, 2]) (fun k hk9 => hk 2 (by decide) k hk9) (am_fb_ok lf_hang) (by decide +kernel) sd_X10_hang sd_X11_hang ky_X10_hang ky_X11_hang kv_X10_hang kv_X11_hang (by decide) (by decide) h_hang hR kk
  | 19, e1 => cases e1; exact lw_caseI C (ks := [1, 2]) (fun k hk9 => hk 2 (by decide) k hk9) (am_fb_ok lf_save) (by decide +kernel) sd_X10_save sd_X11_save ky_X10_save ky_X11_save kv_X10_save kv_X11_save (by decide) (by decide) h_save hR kk
  | 20, e1 => cases e1; exact lw_caseI C (ks := [1, 2, 3]) (fun k hk9 => hk 3 (by decide) k hk9) (am_fb_ok lf_fill) (by decide +kernel) sd_X10_fill sd_X11_fill ky_X10_fill ky_X11_fill kv_X10_fill kv_X11_fill (by decide) (by decide) h_fill hR kk
  | 21, e1 => cases e1; exact lw_caseI C (ks := [1, 2, 3]) (fun k hk9 => hk 3 (by decide) k hk9) (am_fb_ok lf_seen) (by decide +kernel) sd_X10_seen sd_X11_seen ky_X10_seen ky_X11_seen kv_X10_seen kv_X11_seen (by decide) (by decide) h_seen hR kk
  | 22, e1 => cases e1; exact lw_caseI C (ks := []) (fun k hk9 => hk 0 (by decide) k hk9) (am_fb_ok lf_forget) (by decide +kernel) sd_X10_forget sd_X11_forget ky_X10_forget ky_X11_forget kv_X10_forget kv_X11_forget (by decide) (by decide) h_forget hR kk
  | 23, e1 => cases e1; exact lw_caseI C (ks := []) (fun k hk9 => hk 0 (by decide) k hk9) (am_fb_ok lf_never) (by decide +kernel) sd_X10_never sd_X11_never ky_X10_never ky_X11_never kv_X10_never kv_X11_never (by decide) (by decide) h_never hR kk
  | 24, e1 => cases e1; exact lw_caseI C (ks := [1, 2]) (fun k hk9 => hk 2 (by decide) k hk9) (am_fb_ok lf_was) (by decide +kernel) sd_X10_was sd_X11_was ky_X10_was ky_X11_was kv_X10_was kv_X11_was (by decide) (by decide) h_was hR kk
  | 25, e1 => cases e1; exact lw_caseI C (ks := [1]) (fun k hk9 => hk 1 (by decide) k hk9) (am_fb_ok lf_ask) (by decide +kernel) sd_X10_ask sd_X11_ask ky_X10_ask ky_X11_ask kv_X10_ask kv_X11_ask (by decide) (by decide) h_ask hR kk
  | 26, e1 => cases e1; exact lw_caseL C (ks := [1, 2, 3, 4]) (fun k hk9 => hk 4 (by decide) k hk9) (am_fb_ok lf_risk) (by decide +kernel) sd_X10_risk sd_X11_risk ky_X10_risk ky_X11_risk kv_X10_risk kv_X11_risk (by decide) (by decide) h_risk hR kk
  | 27, e1 => cases e1; exact lw_caseI C (ks := [1, 2, 3]) (fun k hk9 => hk 3 (by decide) k hk9) (am_fb_ok lf_century) (by decide +kernel) sd_X10_century sd_X11_century ky_X10_century ky_X11_century kv_X10_century kv_X11_century (by decide) (by decide) h_century hR kk
  | 28, e1 => cases e1; exact lw_caseI C (ks := [1, 2, 3]) (fun k hk9 => hk 3 (by decide) k hk9) (am_fb_ok lf_sheet) (by decide +kernel) sd_X10_sheet sd_X11_sheet ky_X10_sheet ky_X11_sheet kv_X10_sheet kv_X11_sheet (by decide) (by decide) h_sheet hR kk
  | 29, e1 => cases e1; exact lw_caseI C (ks := [1]) (fun k hk9 => hk 1 (by decide) k hk9) (am_fb_ok lf_lose) (by decide +kernel) sd_X10_lose sd_X11_lose ky_X10_lose ky_X11_lose kv_X10_lose kv_X11_lose (by decide) (by decide) h_lose hR kk
  | 30, e1 => cases e1; exact lw_caseI C (ks := [1, 2, 3, 4]) (fun k hk9 => hk 4 (by decide) k hk9) (am_fb_ok lf_lay) (by decide +kernel) sd_X10_lay sd_X11_lay ky_X10_lay ky_X11_lay kv_X10_lay kv_X11_lay (by decide) (by decide) h_lay hR kk
  | 31, e1 => cases e1; exact lw_caseI C (ks := [1, 2, 3]) (fun k hk9 => hk 3 (by decide) k hk9) (am_fb_ok lf_get) (by decide +kernel) sd_X10_get sd_X11_get ky_X10_get ky_X11_get kv_X10_get kv_X11_get (by decide) (by decide) h_get hR kk
  | 32, e1 => cases e1; exact lw_caseI C (ks := [1, 2, 3, 4, 5]) (fun k hk9 => hk 5 (by decide) k hk9) (am_fb_ok lf_copy) (by decide +kernel) sd_X10_copy sd_X11_copy ky_X10_copy ky_X11_copy kv_X10_copy kv_X11_copy (by decide) (by decide) h_copy hR kk
  | 33, e1 => cases e1; exact lw_caseI C (ks := [1, 2]) (fun k hk9 => hk 2 (by decide) k hk9) (am_fb_ok lf_write) (by decide +kernel) sd_X10_write sd_X11_write ky_X10_write ky_X11_write kv_X10_write kv_X11_write (by decide) (by decide) h_write hR kk
  | 34, e1 => cases e1; exact lw_caseI C (ks := [1]) (fun k hk9 => hk 1 (by decide) k hk9) (am_fb_ok lf_count) (by decide +kernel) sd_X10_count sd_X11_count ky_X10_count ky_X11_count kv_X10_count kv_X11_count (by decide) (by decide) h_count hR kk
  | 35, e1 => cases e1; exact lw_caseL C (ks := []) (fun k hk9 => hk 0 (by decide) k hk9) (am_fb_ok lf_digest) (by decide +kernel) sd_X10_digest sd_X11_digest ky_X10_digest ky_X11_digest kv_X10_digest kv_X11_digest (by decide) (by decide) h_digest hR kk
  | n + 36, e1 => exact absurd e1 (by simp [lw_hd])
theorem lw_d : am_fb code 18 [(.iload_n 3, 1, none), (.aload_n 0, 1, none), (.arraylength, 1, none), (.bipush 6, 2, none), (.isub, 1, none), (.if_icmp .gt 1294, 3, none), (.aload_n 0, 1, none), (.iload_n 3, 1, none), (.iaload, 1, none), (.bipush 63, 2, none), (.iand, 1, none), (.tableswitch 1279 0 35 #[159, 192, 215, 238, 261, 294, 317, 340, 393, 406, 429, 472, 515, 548, 571, 584, 607, 630, 653, 686, 719, 762, 805, 818, 831, 864, 887, 941, 984, 1027, 1050, 1103, 1146, 1209, 1242, 1265], 159, none)] = true := by decide +kernel
theorem lw_d2 : am_fb code 1312 [(.iinc 3 6, 3, none), (.goto (-1297), 3, none), (.iconst 1, 1, none), (.ireturn, 1, none)] = true := by decide +kernel
theorem lw_gt {L i : Nat} (hL : L ≤ 384) (hi : i ≤ 400) : nI L - 6 < nI i ↔ L < i + 6 := by
  have h1 : (nI L - nI 6).toInt = (L : Int) - 6 := pk_sub_toInt (by omega) (by omega)
  have h2 : (nI L - 6 : Int32) = nI L - nI 6 := rfl
  rw [h2, Int32.lt_iff_toInt_lt, h1, nI_toInt (by omega)]
  omega
theorem lw_offs : (#[159, 192, 215, 238, 261, 294, 317, 340, 393, 406, 429, 472, 515, 548, 571, 584, 607, 630, 653, 686, 719, 762, 805, 818, 831, 864, 887, 941, 984, 1027, 1050, 1103, 1146, 1209, 1242, 1265] : Array Int).toList = lw_hd.map (fun h : Nat => (h : Int) - 33) := by decide +kernel
set_option maxHeartbeats 4000000 in
set_option maxRecDepth 100000 in
theorem lw_loop (C : lw_C p s m meth c b L xs D cs adX adM nc ns) {Rel : am_M → am_M → Prop} (hop : lw_All Rel) : ∀ (n j : Nat) (μX μM : am_M), 6 * j ≤ 390 → L < 6 * j + n → Rel μX μM → lw_W p l e s m below meth c b D cs adX adM nc ns 18 [] (nI (6 * j)) μX μM := by
  obtain ⟨⟨hx, hb, hr, hml, hown, hts, hX, hbl, hlocks, hgv⟩, hL, hK, hDX, hDM, hap, hnc, hns⟩ := id C
  have hbA : ¬ (fun q : Nat => s.heap.size ≤ q) b := Nat.not_le.mpr hbl
  obtain ⟨a1, -, a2, -, a3, -, a4, -, a5, -, a6, -, a7, -, a8, -, a9, -, a10, -, a11, -, a12, -, -⟩ := am_fb_ok lw_d
  obtain ⟨b1, -, b2, -, b3, -, b4, -, -⟩ := am_fb_ok lw_d2
  intro n
  induction n with
  | zero =>
    intro j μX μM h1 h2 hR H locs ls hPX hPM hS hl
    refine lv_iload_n hx hb a1 rfl (lv_at hl 3 rfl) ?_
    refine lv_aload_n hx hb a2 rfl (lv_at hl 0 rfl) ?_
    refine va_slen hx hb hX hbl hbA hS a3 ?_
    refine lv_bipush (v := 6) hx hb a4 (by decide) ?_
    refine lv_isub hx hb a5 ?_
    refine lv_icmp_gt (tgt := 1318) hx hb a6 (by decide) (fun c_1 => ?_) (fun c_1 => absurd ((lw_gt hL (by omega)).mpr (by omega)) c_1)
    refine lv_iconst (v := 1) hx hb b3 (by decide) ?_
    refine va_forget (fun q hq => hS.2.2 q hq) ?_
    refine W.widen (k := 600000) (n := 7302250) hnc hns ?_
    exact lw_ret hx hb hr hlocks b4
  | succ n ih =>
    intro j μX μM h1 h2 hR H locs ls hPX hPM hS hl
    refine lv_iload_n hx hb a1 rfl (lv_at hl 3 rfl) ?_
    refine lv_aload_n hx hb a2 rfl (lv_at hl 0 rfl) ?_
    refine va_slen hx hb hX hbl hbA hS a3 ?_
    refine lv_bipush (v := 6) hx hb a4 (by decide) ?_
    refine lv_isub hx hb a5 ?_
    refine lv_icmp_gt (tgt := 1318) hx hb a6 (by decide) (fun c_1 => ?_) (fun c_1 => ?_)
    · refine lv_iconst (v := 1) hx hb b3 (by decide) ?_
      refine va_forget (fun q hq => hS.2.2 q hq) ?_
      refine W.widen (k := 600000) (n := 7302250) hnc hns ?_
      exact lw_ret hx hb hr hlocks b4
    · have h6 : 6 * j + 6 ≤ L := by
        rcases Nat.lt_or_ge L (6 * j + 6) with q | q
        · exact absurd ((lw_gt hL (by omega)).mpr q) c_1
        · exact q
      have kk : ∀ μX' μM', Rel μX' μM' → lw_W p l e s m below meth c b D cs adX adM nc ns 1312 [] (nI (6 * j)) μX' μM' := by
        intro μX' μM' hR' H locs ls hPX hPM hS hl
        refine lv_iinc (v := nI (6 * (j + 1))) (lv' := [(3, .int (nI (6 * (j + 1)))), (0, .ref b), (1, .ref (adX 0)), (2, .ref (adM 0))]) hx hb b1 hl (k := 3) rfl (by show nI (6 * j) + nI 6 = _; rw [nI_add]; rfl) (by decide) rfl (fun ls hl => ?_)
        refine lv_goto (tgt := 18) hx hb b2 (by decide) ?_
        exact ih (j + 1) μX' μM' (by omega) (by omega) hR' H locs ls hPX hPM hS (lv_sub hl [1, 2, 3, 0] rfl)
      refine lv_aload_n hx hb a7 rfl (lv_at hl 0 rfl) ?_
      refine lv_iload_n hx hb a8 rfl (lv_at hl 3 rfl) ?_
      refine va_sld hx hb hX hbl hbA hS (vp_in_nI (show 6 * j < L by omega) (by omega)) a9 ?_
      refine lv_bipush (v := 63) hx hb a10 (by decide) ?_
      refine lv_iand hx hb a11 ?_
      obtain ⟨k, hk, hk2⟩ := pk_andE (xs (nI (6 * j)).toNatClampNeg) (m := 63) 6 (by decide +kernel)
      rw [hk2]
      have hki : (nI k).toInt = (k : Int) := nI_toInt (by omega)
      by_cases h36 : k < 36
      · obtain ⟨h, hh⟩ : ∃ h, lw_hd[k]? = some h := ⟨_, List.getElem?_eq_getElem h36⟩
        have hoff : (#[159, 192, 215, 238, 261, 294, 317, 340, 393, 406, 429, 472, 515, 548, 571, 584, 607, 630, 653, 686, 719, 762, 805, 818, 831, 864, 887, 941, 984, 1027, 1050, 1103, 1146, 1209, 1242, 1265] : Array Int)[k]? = some ((h : Int) - 33) := by
          have h9 : (lw_hd.map (fun h : Nat => (h : Int) - 33))[k]? = some ((h : Int) - 33) := by rw [List.getElem?_map, hh]; rfl
          rw [← Array.getElem?_toList, lw_offs]
          exact h9
        refine lv_tableIn hx hb a12 (by rw [hki]; omega) (by rw [hki]; omega) (off := (h : Int) - 33) (by rw [hki]; simpa using hoff) (tgt := h) (by show ((33 : Nat) : Int) + _ = _; omega) ?_
        exact lw_cases C (by omega) hop hR kk k h hh H locs ls hPX hPM hS hl
      · refine lv_tableOut hx hb a12 (by rw [hki]; omega) (tgt := 1312) (by decide) ?_
        exact kk μX μM hR H locs ls hPX hPM hS hl
end LWM
end
section
/-! CONSTRUCTORS: rows over a world (this) :: R that grows -/
/-- p, l, e, R, s, m, args, below, meth, c, Q, D, cs, A -/
abbrev cw_G : Type := Program × Launch × Env × Room × State × MethodId × Array Value × List Frame × Method × Code × (State → Prop) × va_G × (Nat → ClassId) × (Nat → Prop)
def cw_Ao (U : State) : Prop := va_AO "WrackDeeds$Hanging" U ∧ va_AO "WrackDeeds$Sheet" U
def cw_Ok (cc : ByteArray) (nL : Nat) (own : String) : cw_G → Prop
  | (p, l, e, R, s, m, args, below, meth, c, Q, D, cs, A) => p.tables.exec = Jvm.exec ∧ c.code = cc ∧ c.maxLocals = nL ∧ s.vm.findClass own = some m.cls ∧ (∀ w ∈ am_tb, w.before args s = true) ∧ (∀ w ∈ am_ne, va_Nw w s) ∧ va_K D vwCl (am_ty cs) s ∧ (∀ q : Nat, s.heap.size ≤ q → A q) ∧ meth.name = "<init>" ∧ cw_Ao s ∧ meth.sig.returnType = none ∧ meth.locks = false
def cw_W (nL : Nat) (G : cw_G) (pc : Nat) (lv : List (Nat × Value)) (st : List Value) (ws : va_W) (nc ns : Nat) : Prop := match G with
  | (p, l, e, R, s, m, args, below, meth, c, Q, D, cs, A) => ∀ (H : Heap) (locs : List Loc) (ls : Array Slot), va_P D vwCl ws H → va_D A ws → va_S A s.heap H locs → lv_has ls nL lv → W p l e R s m args below meth c H locs nc ns Q (F0 m pc ls st)
section CWR
variable {cc : ByteArray} {nL : Nat} {own : String} {G : cw_G} {pc nc ns : Nat} {lv : List (Nat × Value)} {st : List Value} {ws R : va_W} {h0 ci : Nat} {fs : List Value}
theorem cr_al (hO : cw_Ok cc nL own G) (n : Fin 4) (k : Nat) {x : Nat} (hk : lv[k]? = some ((n : Nat), .ref x)) (hf : am_fit cc pc [(.aload_n n, 1, none)]) (kk : cw_W nL G (pc + 1) lv (.ref x :: st) ws nc ns) : cw_W nL G pc lv st ws nc ns := by
  obtain ⟨p, l, e, Rm, s, m, args, below, meth, c, Q, D, cs, A⟩ := G
  intro H locs ls hP hD hS hl
  exact lv_aload_n hO.1 hO.2.1 hf.1 rfl (lv_at hl k hk) (kk H locs ls hP hD hS hl)
theorem cr_il (hO : cw_Ok cc nL own G) (n : Fin 4) (k : Nat) {x : Int32} (hk : lv[k]? = some ((n : Nat), .int x)) (hf : am_fit cc pc [(.iload_n n, 1, none)]) (kk : cw_W nL G (pc + 1) lv (.int x :: st) ws nc ns) : cw_W nL G pc lv st ws nc ns := by
  obtain ⟨p, l, e, Rm, s, m, args, below, meth, c, Q, D, cs, A⟩ := G
  intro H locs ls hP hD hS hl
  exact lv_iload_n hO.1 hO.2.1 hf.1 rfl (lv_at hl k hk) (kk H locs ls hP hD hS hl)
theorem cr_ic (hO : cw_Ok cc nL own G) (n : Int) (v : Int32) (hv : Int32.ofInt n = v) (hf : am_fit cc pc [(.iconst n, 1, none)]) (kk : cw_W nL G (pc + 1) lv (.int v :: st) ws nc ns) : cw_W nL G pc lv st ws nc ns := by
  obtain ⟨p, l, e, Rm, s, m, args, below, meth, c, Q, D, cs, A⟩ := G
  intro H locs ls hP hD hS hl
  exact lv_iconst hO.1 hO.2.1 hf.1 hv (kk H locs ls hP hD hS hl)
theorem cr_bp (hO : cw_Ok cc nL own G) (n : Int) (v : Int32) (hv : (Int8.ofInt n).toInt32 = v) (hf : am_fit cc pc [(.bipush n, 2, none)]) (kk : cw_W nL G (pc + 2) lv (.int v :: st) ws nc ns) : cw_W nL G pc lv st ws nc ns := by
  obtain ⟨p, l, e, Rm, s, m, args, below, meth, c, Q, D, cs, A⟩ := G
  intro H locs ls hP hD hS hl
  exact lv_bipush hO.1 hO.2.1 hf.1 hv (kk H locs ls hP hD hS hl)
theorem cr_sp (hO : cw_Ok cc nL own G) (n : Int) (v : Int32) (hv : (Int16.ofInt n).toInt32 = v) (hf : am_fit cc pc [(.sipush n, 3, none)]) (kk : cw_W nL G (pc + 3) lv (.int v :: st) ws nc ns) : cw_W nL G pc lv st ws nc ns := by
  obtain ⟨p, l, e, Rm, s, m, args, below, meth, c, Q, D, cs, A⟩ := G
  intro H locs ls hP hD hS hl
  exact lv_sipush hO.1 hO.2.1 hf.1 hv (kk H locs ls hP hD hS hl)
theorem cr_dup (hO : cw_Ok cc nL own G) {x : Nat} (hf : am_fit cc pc [(.dup, 1, none)]) (kk : cw_W nL G (pc + 1) lv (.ref x :: .ref x :: st) ws nc ns) : cw_W nL G pc lv (.ref x :: st) ws nc ns := by
  obtain ⟨p, l, e, Rm, s, m, args, below, meth, c, Q, D, cs, A⟩ := G
  intro H locs ls hP hD hS hl
  exact lv_dup hO.1 hO.2.1 hf.1 rfl (kk H locs ls hP hD hS hl)
theorem cr_objw : Jvm.Cond.instanceMethod objectInit ∈ am_tb ∧ Jvm.Cond.code objectInit ⟨#[0xb1]⟩ 1 none ∈ am_tb := by decide +kernel
theorem cr_obj (hO : cw_Ok cc nL own G) (idx q : Nat) {x : Nat} (hfr : 1 ≤ G.2.2.2.1.frames) (hlo : 12 ≤ G.2.2.2.1.locals) (hf : am_fit cc pc [(.invokespecial idx, 3, some (q, .methodLink own idx objectInit))]) (kk : cw_W nL G (pc + 3) lv [] ws nc ns) : cw_W nL G pc lv [.ref x] ws nc ns := by
  obtain ⟨p, l, e, Rm, s, m, args, below, meth, c, Q, D, cs, A⟩ := G
  intro H locs ls hP hD hS hl
  exact W.objInit hO.1 hO.2.1 hO.2.2.2.1 (hO.2.2.2.2.1 _ (am_word (hf.2.1 _ rfl) rfl)) (hO.2.2.2.2.1 _ cr_objw.1) (hO.2.2.2.2.1 _ cr_objw.2) rfl (hl.1.trans hO.2.2.1.symm) rfl hf.1 hfr hlo (kk H locs ls hP hD hS hl)
theorem cr_iaw : Jvm.Cond.arrayClass .int ∈ am_tb := by decide +kernel
/-- the class of int rows is one -/
theorem cr_one {D : va_G} {cs : Nat → ClassId} {s : State} {cA : ClassId} (h : va_K D vwCl (am_ty cs ++ [(cA, .int)]) s) : cA = cs 0 := by
  have h1 := (h.2 0 (cs 0, .int) rfl).2
  have h2 := (h.2 3 (cA, .int) rfl).2
  exact (Option.some.inj (h1.symm.trans h2)).symm
theorem cr_oneH {D : va_G} {cs : Nat → ClassId} {s : State} {cA : ClassId} (h : va_K D vwCl (am_ty cs ++ [(cA, .object "WrackDeeds$Hanging")]) s) : cA = cs 1 := by
  obtain ⟨_, _, _, _, _, h1⟩ := (h.2 1 (cs 1, .object "WrackDeeds$Hanging") rfl).2
  obtain ⟨_, _, _, _, _, h2⟩ := (h.2 3 (cA, .object "WrackDeeds$Hanging") rfl).2
  exact (Option.some.inj (h1.symm.trans h2)).symm
theorem cr_oneS {D : va_G} {cs : Nat → ClassId} {s : State} {cA : ClassId} (h : va_K D vwCl (am_ty cs ++ [(cA, .object "WrackDeeds$Sheet")]) s) : cA = cs 2 := by
  obtain ⟨_, _, _, _, _, h1⟩ := (h.2 2 (cs 2, .object "WrackDeeds$Sheet") rfl).2
  obtain ⟨_, _, _, _, _, h2⟩ := (h.2 3 (cA, .object "WrackDeeds$Sheet") rfl).2
  exact (Option.some.inj (h1.symm.trans h2)).symm
abbrev cw_ia (cs : Nat → ClassId) (n : Nat) (f : Nat → Int32) : va_E := .inl (cs 0, n, .inl f)
abbrev cw_qa (cs : Nat → ClassId) (t n : Nat) (f : Nat → Option Nat) : va_E := .inl (cs t, n, .inr (.inr (.inr (.inr f))))
theorem cr_na (hO : cw_Ok cc nL own G) {v : Int32} (N : Nat) (hv : ¬ v < 0) (hN : v.toNatClampNeg = N) (hb : N * 4 ≤ 536870912) (hc : nc + 1 ≤ G.2.2.2.1.cells) (hs : ns + N ≤ G.2.2.2.1.slots) (hf : am_fit cc pc [(.newarray .int, 2, none)]) (kk : ∀ q : Nat, cw_W nL G (pc + 2) lv (.ref q :: st) (ws ++ [(q, cw_ia G.2.2.2.2.2.2.2.2.2.2.2.2.1 N (fun _ => 0))]) (nc + 1) (ns + N)) : cw_W nL G pc lv (.int v :: st) ws nc ns := by
  obtain ⟨p, l, e, Rm, s, m, args, below, meth, c, Q, D, cs, A⟩ := G
  intro H locs ls hP hD hS hl
  refine va_newa (atype := .int) (tys := am_ty cs) (ty := .int) (a0 := (N, .inl (fun _ => 0))) hO.1 hO.2.1 (hO.2.2.2.2.1 _ cr_iaw) rfl hO.2.2.2.2.2.2.1 hP hD hS hO.2.2.2.2.2.2.2.1 (fun _ => rfl) hv hN hb hc hs hf.1 (fun q cA H1 hK1 hP1 hD1 hS1 => ?_)
  have := cr_one hK1
  subst this
  exact kk q H1 locs ls hP1 hD1 hS1 hl
theorem cr_qH (hO : cw_Ok cc nL own G) {v : Int32} (N idx q0 : Nat) (hv : ¬ v < 0) (hN : v.toNatClampNeg = N) (hb : N * 4 ≤ 536870912) (hc : nc + 1 ≤ G.2.2.2.1.cells) (hs : ns + N ≤ G.2.2.2.1.slots) (hf : am_fit cc pc [(.anewarray idx, 3, some (q0, .classLink own idx "WrackDeeds$Hanging"))]) (kk : ∀ q : Nat, cw_W nL G (pc + 3) lv (.ref q :: st) (ws ++ [(q, cw_qa G.2.2.2.2.2.2.2.2.2.2.2.2.1 1 N (fun _ => none))]) (nc + 1) (ns + N)) : cw_W nL G pc lv (.int v :: st) ws nc ns := by
  obtain ⟨p, l, e, Rm, s, m, args, below, meth, c, Q, D, cs, A⟩ := G
  intro H locs ls hP hD hS hl
  refine va_newq (tys := am_ty cs) hO.1 hO.2.1 hO.2.2.2.1 (hO.2.2.2.2.1 _ (am_word (hf.2.1 _ rfl) rfl)) hO.2.2.2.2.2.2.2.2.2.1.1 hO.2.2.2.2.2.2.1 hP hD hS hO.2.2.2.2.2.2.2.1 hv hN hb hc hs hf.1 (fun q cA H1 hK1 hP1 hD1 hS1 => ?_)
  have := cr_oneH hK1
  subst this
  exact kk q H1 locs ls hP1 hD1 hS1 hl
theorem cr_qS (hO : cw_Ok cc nL own G) {v : Int32} (N idx q0 : Nat) (hv : ¬ v < 0) (hN : v.toNatClampNeg = N) (hb : N * 4 ≤ 536870912) (hc : nc + 1 ≤ G.2.2.2.1.cells) (hs : ns + N ≤ G.2.2.2.1.slots) (hf : am_fit cc pc [(.anewarray idx, 3, some (q0, .classLink own idx "WrackDeeds$Sheet"))]) (kk : ∀ q : Nat, cw_W nL G (pc + 3) lv (.ref q :: st) (ws ++ [(q, cw_qa G.2.2.2.2.2.2.2.2.2.2.2.2.1 2 N (fun _ => none))]) (nc + 1) (ns + N)) : cw_W nL G pc lv (.int v :: st) ws nc ns := by
  obtain ⟨p, l, e, Rm, s, m, args, below, meth, c, Q, D, cs, A⟩ := G
  intro H locs ls hP hD hS hl
  refine va_newq (tys := am_ty cs) hO.1 hO.2.1 hO.2.2.2.1 (hO.2.2.2.2.1 _ (am_word (hf.2.1 _ rfl) rfl)) hO.2.2.2.2.2.2.2.2.2.1.2 hO.2.2.2.2.2.2.1 hP hD hS hO.2.2.2.2.2.2.2.1 hv hN hb hc hs hf.1 (fun q cA H1 hK1 hP1 hD1 hS1 => ?_)
  have := cr_oneS hK1
  subst this
  exact kk q H1 locs ls hP1 hD1 hS1 hl
/-- putfield on this -/
theorem cr_pf (hO : cw_Ok cc nL own G) (idx j q : Nat) {v : Value} {ty : FieldType} (hc : vwCl[ci]? = some (am_cn ci)) (hj : j < (am_cn ci).2.2) (hdecl : ((am_cn ci).2.1 j).1 = own) (hd : parseFieldDescriptor ((am_cn ci).2.1 j).2.2.1 = some ty) (hn : narrow ty v = v) (hfit : fits ty v = true) (hl2 : j < fs.length) (hf : am_fit cc pc [(.putfield idx, 3, some (q, am_fl own idx ci j))]) (kk : cw_W nL G (pc + 3) lv st ((h0, .inr (ci, fs.set j v)) :: R) nc ns) : cw_W nL G pc lv (v :: .ref h0 :: st) ((h0, .inr (ci, fs)) :: R) nc ns := by
  obtain ⟨p, l, e, Rm, s, m, args, below, meth, c, Q, D, cs, A⟩ := G
  intro H locs ls hP hD hS hl
  obtain ⟨ty0, hty0⟩ := am_tyk hc
  by_cases hfin : ((am_cn ci).2.1 j).2.2.2 = true
  · exact va_putF (C := (am_cn ci).1) (T := (am_cn ci).2.1) (N := (am_cn ci).2.2) hO.1 hO.2.1 hO.2.2.2.2.1 (am_uwi hc) ty0 hty0 (am_nm hc) hO.2.2.2.1 hO.2.2.2.2.2.2.1 hP hD hS 0 rfl hc j hj (hO.2.2.2.2.1 _ (am_word (hf.2.1 _ rfl) rfl)) (fun _ h9 => h9) hfin hO.2.2.2.2.2.2.2.2.1 hdecl hd hn hfit hl2 hf.1 (fun H1 locs1 hP1 hD1 hS1 => kk H1 locs1 ls hP1 hD1 hS1 hl)
  · exact va_put (C := (am_cn ci).1) (T := (am_cn ci).2.1) (N := (am_cn ci).2.2) hO.1 hO.2.1 hO.2.2.2.2.1 (am_uwi hc) ty0 hty0 (am_nm hc) hO.2.2.2.1 hO.2.2.2.2.2.2.1 hP hD hS 0 rfl hc j hj (hO.2.2.2.2.1 _ (am_word (hf.2.1 _ rfl) rfl)) (fun _ h9 => h9) (by simpa using hfin) hd hn hfit hl2 hf.1 (fun H1 locs1 hP1 hD1 hS1 => kk H1 locs1 ls hP1 hD1 hS1 hl)
theorem cr_gf (hO : cw_Ok cc nL own G) (idx j q : Nat) {v : Value} (hc : vwCl[ci]? = some (am_cn ci)) (hj : j < (am_cn ci).2.2) (hv : fs[j]? = some v) (hf : am_fit cc pc [(.getfield idx, 3, some (q, am_fl own idx ci j))]) (kk : cw_W nL G (pc + 3) lv (v :: st) ((h0, .inr (ci, fs)) :: R) nc ns) : cw_W nL G pc lv (.ref h0 :: st) ((h0, .inr (ci, fs)) :: R) nc ns := by
  obtain ⟨p, l, e, Rm, s, m, args, below, meth, c, Q, D, cs, A⟩ := G
  intro H locs ls hP hD hS hl
  exact va_get (C := (am_cn ci).1) (T := (am_cn ci).2.1) (N := (am_cn ci).2.2) hO.1 hO.2.1 hO.2.2.2.2.1 (am_uwi hc) hO.2.2.2.1 hO.2.2.2.2.2.2.1 hP 0 rfl hc j hj (hO.2.2.2.2.1 _ (am_word (hf.2.1 _ rfl) rfl)) (fun _ h9 => h9) hv hf.1 (kk H locs ls hP hD hS hl)
theorem cr_new (hO : cw_Ok cc nL own G) (idx q0 cj : Nat) (hcj : vwCl[cj]? = some (am_cn cj)) (hi : Jvm.Cond.instantiable (am_cn cj).1 (am_cn cj).2.2 ∈ am_tb) (hini : Jvm.Cond.initialized (am_cn cj).1 ∈ am_tb) (fs0 : List Value) (ty : Nat → FieldType) (hty : ∀ k, k < (am_cn cj).2.2 → parseFieldDescriptor ((am_cn cj).2.1 k).2.2.1 = some (ty k)) (hfs : ∀ j, j < (am_cn cj).2.2 → defaultValue (ty j) = vp_V fs0 j) (hc : nc + 1 ≤ G.2.2.2.1.cells) (hs : ns + (am_cn cj).2.2 ≤ G.2.2.2.1.slots) (hf : am_fit cc pc [(.new idx, 3, some (q0, .classLink own idx (am_cn cj).1))]) (kk : ∀ q : Nat, cw_W nL G (pc + 3) lv (.ref q :: st) (ws ++ [(q, .inr (cj, fs0))]) (nc + 1) (ns + (am_cn cj).2.2)) : cw_W nL G pc lv st ws nc ns := by
  obtain ⟨p, l, e, Rm, s, m, args, below, meth, c, Q, D, cs, A⟩ := G
  intro H locs ls hP hD hS hl
  exact va_new (C := (am_cn cj).1) (T := (am_cn cj).2.1) (N := (am_cn cj).2.2) hO.1 hO.2.1 hO.2.2.2.2.1 (am_uwi hcj) ty hty hO.2.2.2.1 (hO.2.2.2.2.1 _ (am_word (hf.2.1 _ rfl) rfl)) (hO.2.2.2.2.1 _ hi) (hO.2.2.2.2.1 _ hini) hO.2.2.2.2.2.2.1 hP hD hS hO.2.2.2.2.2.2.2.1 hcj hfs hc hs hf.1 (fun q H1 hP1 hD1 hS1 => kk q H1 locs ls hP1 hD1 hS1 hl)
theorem cr_min (hO : cw_Ok cc nL own G) (idx q : Nat) {x y : Int32} (hfr : 1 ≤ G.2.2.2.1.frames) (hlo : 15 ≤ G.2.2.2.1.locals) (hc : nc ≤ G.2.2.2.1.cells) (hs : ns ≤ G.2.2.2.1.slots) {z : Nat} (hf : am_fit cc pc [(.invokestatic idx, 3, some (q, .methodLink own idx Lib.Math.min.name))]) (kk : cw_W nL G (pc + 3) lv [.int (am_min x y), .ref z] ws nc ns) : cw_W nL G pc lv [.int y, .int x, .ref z] ws nc ns := by
  obtain ⟨p, l, e, Rm, s, m, args, below, meth, c, Q, D, cs, A⟩ := G
  intro H locs ls hP hD hS hl
  exact va_mmin (rest := [.ref z]) hO.1 hO.2.1 (hO.2.2.1.trans hl.1.symm) hO.2.2.2.1 (hO.2.2.2.2.1 _ (am_word (hf.2.1 _ rfl) rfl)) (hO.2.2.2.2.1 _ am_mw.2.1) (hO.2.2.2.2.1 _ am_mw.2.2.2.1) (hO.2.2.2.2.1 _ am_mw.2.2.2.2.2.1) hfr (Nat.le_trans (Nat.le_of_ble_eq_true rfl) hlo) hc hs hf.1 (kk H locs ls hP hD hS hl)
theorem cr_ist (hO : cw_Ok cc nL own G) (n : Fin 4) {x : Int32} (hn : (n : Nat) < nL) (hf : am_fit cc pc [(.istore_n n, 1, none)]) (kk : cw_W nL G (pc + 1) (((n : Nat), Value.int x) :: lv.filter (fun q => !(q.1 == (n : Nat)) && !(q.1 + 1 == (n : Nat) && q.2.category == 2))) st ws nc ns) : cw_W nL G pc lv (.int x :: st) ws nc ns := by
  obtain ⟨p, l, e, Rm, s, m, args, below, meth, c, Q, D, cs, A⟩ := G
  intro H locs ls hP hD hS hl
  exact lv_istore_n hO.1 hO.2.1 hf.1 rfl hl hn rfl (fun ls' hl' => kk H locs ls' hP hD hS hl')
theorem cr_inc (hO : cw_Ok cc nL own G) (i k : Nat) (n : Int) {x v : Int32} (hk : lv[k]? = some (i, .int x)) (hv : x + Int32.ofInt n = v) (hn : i < nL) (hf : am_fit cc pc [(.iinc i n, 3, none)]) (kk : cw_W nL G (pc + 3) ((i, Value.int v) :: lv.filter (fun q => !(q.1 == i) && !(q.1 + 1 == i && q.2.category == 2))) st ws nc ns) : cw_W nL G pc lv st ws nc ns := by
  obtain ⟨p, l, e, Rm, s, m, args, below, meth, c, Q, D, cs, A⟩ := G
  intro H locs ls hP hD hS hl
  exact lv_iinc hO.1 hO.2.1 hf.1 hl hk hv hn rfl (fun ls' hl' => kk H locs ls' hP hD hS hl')
theorem cr_goto (hO : cw_Ok cc nL own G) {off : Int} (tgt : Nat) (ht : (pc : Int) + off = (tgt : Int)) (hf : am_fit cc pc [(.goto off, 3, none)]) (kk : cw_W nL G tgt lv st ws nc ns) : cw_W nL G pc lv st ws nc ns := by
  obtain ⟨p, l, e, Rm, s, m, args, below, meth, c, Q, D, cs, A⟩ := G
  intro H locs ls hP hD hS hl
  exact lv_goto hO.1 hO.2.1 hf.1 ht (kk H locs ls hP hD hS hl)
/-- if_icmpge that is decided -/
theorem cr_geT (hO : cw_Ok cc nL own G) {off : Int} {x y : Int32} (tgt : Nat) (h : y ≤ x) (ht : (pc : Int) + off = (tgt : Int)) (hf : am_fit cc pc [(.if_icmp .ge off, 3, none)]) (kk : cw_W nL G tgt lv st ws nc ns) : cw_W nL G pc lv (.int y :: .int x :: st) ws nc ns := by
  obtain ⟨p, l, e, Rm, s, m, args, below, meth, c, Q, D, cs, A⟩ := G
  intro H locs ls hP hD hS hl
  exact lv_icmp_ge hO.1 hO.2.1 hf.1 ht (fun _ => kk H locs ls hP hD hS hl) (fun h9 => absurd h h9)
theorem cr_geF (hO : cw_Ok cc nL own G) {off : Int} {x y : Int32} (tgt : Nat) (h : ¬ y ≤ x) (ht : (pc : Int) + off = (tgt : Int)) (hf : am_fit cc pc [(.if_icmp .ge off, 3, none)]) (kk : cw_W nL G (pc + 3) lv st ws nc ns) : cw_W nL G pc lv (.int y :: .int x :: st) ws nc ns := by
  obtain ⟨p, l, e, Rm, s, m, args, below, meth, c, Q, D, cs, A⟩ := G
  intro H locs ls hP hD hS hl
  exact lv_icmp_ge hO.1 hO.2.1 hf.1 ht (fun h9 => absurd h9 h) (fun _ => kk H locs ls hP hD hS hl)
theorem cr_iast (hO : cw_Ok cc nL own G) (k : Nat) {a n : Nat} {f : Nat → Int32} {i x : Int32} (hk : ws[k]? = some (a, cw_ia G.2.2.2.2.2.2.2.2.2.2.2.2.1 n f)) (hi : vp_in i n) (hf : am_fit cc pc [(.iastore, 1, none)]) (kk : cw_W nL G (pc + 1) lv st (ws.set k (a, cw_ia G.2.2.2.2.2.2.2.2.2.2.2.2.1 n (upd f i.toNatClampNeg x))) nc ns) : cw_W nL G pc lv (.int x :: .int i :: .ref a :: st) ws nc ns := by
  obtain ⟨p, l, e, Rm, s, m, args, below, meth, c, Q, D, cs, A⟩ := G
  intro H locs ls hP hD hS hl
  exact va_iast (tys := am_ty cs) hO.1 hO.2.1 hO.2.2.2.2.2.2.1 hP hD hS k 0 hk rfl hi hf.1 (fun H1 locs1 hP1 hD1 hS1 => kk H1 locs1 ls hP1 hD1 hS1 hl)
theorem cr_qast (hO : cw_Ok cc nL own G) (k kv t cj : Nat) {a n v : Nat} {vs : List Value} {f : Nat → Option Nat} {i : Int32} (ht : (am_ty G.2.2.2.2.2.2.2.2.2.2.2.2.1)[t]? = some (G.2.2.2.2.2.2.2.2.2.2.2.2.1 t, .object (am_cn cj).1)) (hcj : vwCl[cj]? = some (am_cn cj)) (hk : ws[k]? = some (a, cw_qa G.2.2.2.2.2.2.2.2.2.2.2.2.1 t n f)) (hv : ws[kv]? = some (v, .inr (cj, vs))) (hi : vp_in i n) (hf : am_fit cc pc [(.aastore, 1, none)]) (kk : cw_W nL G (pc + 1) lv st (ws.set k (a, cw_qa G.2.2.2.2.2.2.2.2.2.2.2.2.1 t n (va_up f i.toNatClampNeg (some v)))) nc ns) : cw_W nL G pc lv (.ref v :: .int i :: .ref a :: st) ws nc ns := by
  obtain ⟨p, l, e, Rm, s, m, args, below, meth, c, Q, D, cs, A⟩ := G
  intro H locs ls hP hD hS hl
  exact va_astq (tys := am_ty cs) (r := am_cn cj) hO.1 hO.2.1 hO.2.2.2.2.2.2.1 hP hD hS k t kv cj hk ht hv hcj hi hf.1 (fun H1 locs1 hP1 hD1 hS1 => kk H1 locs1 ls hP1 hD1 hS1 hl)
end CWR
/-! a constructor's contract -/
def cw_rm (d mc ms : Nat) : Room := { frames := d, cells := mc, slots := ms, locals := 64 * d }
def cw_Pu (D : va_G) (cs : Nat → ClassId) (sz : Nat) (w0 : va_W) : State → Prop := fun U => U.heap.size = sz ∧ va_P D vwCl w0 U.heap ∧ va_K D vwCl (am_ty cs) U ∧ va_D (fun _ => True) w0 ∧ (∀ w ∈ am_ne, va_Nw w U) ∧ cw_Ao U
def cw_Q (D : va_G) (Post : va_W → Prop) (A : Nat → Prop) : Array Value → State → Outcome → State → Prop := fun _ st o t => o = .returned none ∧ (∃ ws, Post ws ∧ va_P D vwCl ws t.heap ∧ va_D A ws) ∧ va_F A st t
def cw_Sd (y : MethodName) (cc : ByteArray) (nL d mc ms ci : Nat) (fs0 : List Value) (as : List Int32) (Post : (Nat → ClassId) → Nat → va_W → Prop) : Prop :=
  ∀ (l : Launch) (D : va_G) (cs : Nat → ClassId) (q sz : Nat), Met l y (Jvm.Cond.code y cc nL none :: am_tb) (cw_rm d mc ms) (va_Pc (.ref q :: as.map .int) (cw_Pu D cs sz [(q, .inr (ci, fs0))])) (cw_Q D (Post cs q) (va_A [(q, .inr (ci, fs0))] sz)) mc ms (va_A [(q, .inr (ci, fs0))] sz)
theorem cw_Ao.moved {u U : State} (hvm : u.vm.Alike U.vm) (h : cw_Ao u) : cw_Ao U := ⟨va_AO.moved hvm h.1, va_AO.moved hvm h.2⟩
theorem cw_blind {D : va_G} {cs : Nat → ClassId} {sz : Nat} {w0 : va_W} {av : List Value} : FrameBlind (va_Pc av (cw_Pu D cs sz w0)) := by
  intro a U g mk q
  obtain ⟨q0, q1, qP, qK, qD, qN, qA⟩ := q
  exact ⟨q0, q1, qP, va_K.moved (u := U) (U := U.calling g mk a) (Vm.Alike.refl U.vm) qK, qD, fun w hw => va_Nw.same (am_isN_on (List.mem_filter.mp hw).2) (u := U) rfl (qN w hw), cw_Ao.moved (u := U) (U := U.calling g mk a) (Vm.Alike.refl U.vm) qA⟩
theorem va_P_app {D : va_G} {cl : List vw_C} {a b : va_W} {H : Heap} (h : va_P D cl (a ++ b) H) : va_P D cl a H ∧ va_P D cl b H := by
  refine ⟨fun k q hk => h k q ?_, fun k q hk => h (a.length + k) q ?_⟩
  · rw [List.getElem?_append_left (List.getElem?_eq_some_iff.mp hk).1]; exact hk
  · rw [List.getElem?_append_right (by omega), Nat.add_sub_cancel_left]; exact hk
theorem va_D_app {A : Nat → Prop} {a b : va_W} (h : va_D A (a ++ b)) : va_D A a ∧ va_D A b ∧ ∀ (i j : Nat) (p q : Nat × va_E), a[i]? = some p → b[j]? = some q → p.1 ≠ q.1 := by
  have L : ∀ {i : Nat} {p : Nat × va_E}, a[i]? = some p → (a ++ b)[i]? = some p := fun h => by rw [List.getElem?_append_left (List.getElem?_eq_some_iff.mp h).1]; exact h
  have Rr : ∀ {i : Nat} {p : Nat × va_E}, b[i]? = some p → (a ++ b)[a.length + i]? = some p := fun h => by rw [List.getElem?_append_right (by omega), Nat.add_sub_cancel_left]; exact h
  refine ⟨⟨fun i j p q hi hj he => h.1 i j p q (L hi) (L hj) he, fun k q hk => h.2 k q (L hk)⟩, ⟨fun i j p q hi hj he => ?_, fun k q hk => h.2 _ q (Rr hk)⟩, fun i j p q hi hj he => ?_⟩
  · have := h.1 _ _ p q (Rr hi) (Rr hj) he
    omega
  · have h1 := h.1 _ _ p q (L hi) (Rr hj) he
    have h2 := (List.getElem?_eq_some_iff.mp hi).1
    omega
section CWC
variable {cc : ByteArray} {nL : Nat} {own : String} {G : cw_G} {pc nc ns : Nat} {lv : List (Nat × Value)} {st : List Value} {ws : va_W}
/-- a call of a constructor on the cell made last -/
theorem cr_call (hO : cw_Ok cc nL own G) {y : MethodName} {cb : ByteArray} {nb d mc ms cj n : Nat} {fs0 : List Value} {as : List Int32} {Post : (Nat → ClassId) → Nat → va_W → Prop} (hM : cw_Sd y cb nb d mc ms cj fs0 as Post) (hy : am_Ky y cb nb none n) (hin : Jvm.Cond.instanceMethod y ∈ am_tb) (hn : as.length = n) (hy1 : y.name = "<init>") (idx q0 : Nat) (host : Option String) {q : Nat} (hfr : d + 1 ≤ G.2.2.2.1.frames) (hlo : 64 * (d + 1) ≤ G.2.2.2.1.locals) (hc : nc + mc ≤ G.2.2.2.1.cells) (hs : ns + ms ≤ G.2.2.2.1.slots) (hst : (st.map fun v => v.category).sum ≤ 8) (hf : am_fit cc pc [(.invokespecial idx, 3, some (q0, am_lk own idx y host))])
    (kk : ∀ w1 : va_W, Post G.2.2.2.2.2.2.2.2.2.2.2.2.1 q w1 → cw_W nL G (pc + 3) lv st (ws ++ w1) (nc + mc) (ns + ms)) : cw_W nL G pc lv ((as.map Value.int).reverse ++ .ref q :: st) (ws ++ [(q, .inr (cj, fs0))]) nc ns := by
  obtain ⟨p, l, e, Rm, s, m, args, below, meth, c, Q, D, cs, A⟩ := G
  intro H locs ls hP hD hS hl
  obtain ⟨hO1, hO2, hO3, hO4, hO5, hO5n, hO6, hO7, hO8, hO9, hO10⟩ := hO
  obtain ⟨k1, k2, k3, k4⟩ := hy
  obtain ⟨hPa, hPb⟩ := va_P_app hP
  obtain ⟨hDa, hDb, hap⟩ := va_D_app hD
  have hR : (cw_rm d mc ms).frames + 1 ≤ Rm.frames ∧ 8 + (nb + 11) + (cw_rm d mc ms).locals ≤ Rm.locals := by
    refine ⟨hfr, Nat.le_trans ?_ hlo⟩
    show 8 + (nb + 11) + 64 * d ≤ 64 * (d + 1)
    omega
  have hA1 : ∀ x, va_A [(q, .inr (cj, fs0))] H.size x → A x := by
    intro x hx
    rcases hx with ⟨k, e9, h9⟩ | h9
    · exact hDb.2 k (x, e9) h9
    · exact hO7 x (Nat.le_trans hS.1 h9)
  have hM' := hM l D cs q H.size
  have hpre : ∀ U : State, U.heap = H → s.WarmedH U.vm → va_Pc (.ref q :: as.map Value.int) (cw_Pu D cs H.size [(q, .inr (cj, fs0))]) (Value.ref q :: as.map Value.int).toArray U := fun U hU hW => ⟨rfl, by rw [hU], by rw [hU]; exact hPb, va_K.moved hW.alike hO6, hDb.weaken (fun _ _ _ _ => trivial), am_ne_moved hW hO5n, cw_Ao.moved hW.alike hO9⟩
  have hgo : ∀ hr : va_Run p l e Rm s m args below meth c H locs nc ns mc ms (F0 m pc ls ((as.map Value.int).reverse ++ .ref q :: st)) st (cw_Q D (Post cs q) (va_A [(q, .inr (cj, fs0))] H.size) (Value.ref q :: as.map Value.int).toArray) (va_A [(q, .inr (cj, fs0))] H.size), W p l e Rm s m args below meth c H locs nc ns Q (F0 m pc ls ((as.map Value.int).reverse ++ .ref q :: st)) := by
    intro hr T hT X
    obtain ⟨v, st₀, t, T', L, h0, X', hL, e1, e2, ⟨hv, ⟨w1, hpost, hp1, hd1⟩, hz, hk⟩, stp⟩ := hr T hT X
    cases hv
    rw [h0] at hz hk
    have hkeep : va_P D vwCl ws T'.heap := by
      refine hPa.kept (fun k x hx => ?_)
      have hlt := (hPa k x hx).lt
      rw [e1]
      refine hk x.1 hlt ?_
      rintro (⟨k9, e9, h9⟩ | h9)
      · exact hap k k9 x (x.1, e9) hx h9 rfl
      · omega
    have hDw : va_D A (ws ++ w1) := by
      refine va_D.app hDa (hd1.weaken (fun k x _ h => hA1 x.1 h)) (fun i j x y hx hy hxy => ?_)
      have hlt := (hPa i x hx).lt
      have h8 := hd1.2 j y hy
      rw [← hxy] at h8
      rcases h8 with ⟨k9, e9, h9⟩ | h9
      · exact hap i k9 x (x.1, e9) hx h9 rfl
      · omega
    obtain ⟨t2, a1, b1⟩ := kk w1 hpost T'.heap (locs ++ L) ls (hkeep.app (by rw [e1]; exact hp1)) hDw
      ⟨Nat.le_trans hS.1 (by rw [e1]; exact hz), fun x h1 h2 => by rw [e1, hk x (Nat.lt_of_lt_of_le h1 hS.1) (fun z => h2 (hA1 x z))]; exact hS.2.1 x h1 h2, fun x hx => by
        rcases List.mem_append.mp hx with h | h
        · exact hS.2.2 x h
        · exact hA1 _ (hL x h)⟩ hl T' rfl X'
    exact ⟨t2, stp t2 a1, b1⟩
  apply hgo
  cases host with
  | none => exact va_runI (b := q) (As := as.map Value.int) (rest := st) ⟨hO1, hO2, hO3, hO4, hO5⟩ hM' ⟨callB_of n hO5 (am_good k1) rfl rfl rfl (hO5 _ k2) (hO5 _ (am_word (hf.2.1 _ rfl) rfl)) k3 hR, hy1, hO5 _ hin⟩ ⟨cw_blind, hpre⟩ rfl (by rw [List.length_map]; exact hn) hl.1 rfl (lv_room hst) hf.1 ⟨hc, hs⟩
  | some host => exact va_runIN (b := q) (As := as.map Value.int) (rest := st) ⟨hO1, hO2, hO3, hO4, hO5⟩ hM' ⟨va_cnB n hO5 (am_good k1) rfl rfl rfl (hO5n _ (am_wordN (hf.2.1 _ rfl) rfl)) (hO5 _ k2) k3 hR, hy1, hO5 _ hin⟩ ⟨cw_blind, hpre⟩ rfl (by rw [List.length_map]; exact hn) hl.1 rfl (lv_room hst) hf.1 ⟨hc, hs⟩
/-- a constructor's contract out of its walk -/
theorem cw_meth {y : MethodName} {nb d mc ms ci : Nat} {fs0 : List Value} {as : List Int32} {Post : (Nat → ClassId) → Nat → va_W → Prop} (hy : plainName y.cls = true) (hyn : y.name = "<init>") (hlen : 1 + as.length ≤ nb)
    (body : ∀ (G : cw_G) (q : Nat), cw_Ok cc nb y.cls G → G.2.2.2.1 = cw_rm d mc ms → (∀ (pc : Nat) (lv : List (Nat × Value)) (ws : va_W), am_fit cc pc [(.return_, 1, none)] → Post G.2.2.2.2.2.2.2.2.2.2.2.2.1 q ws → cw_W nb G pc lv [] ws mc ms) → cw_W nb G 0 (lv_args 0 (.ref q :: as.map Value.int)) [] [(q, .inr (ci, fs0))] 0 0) : cw_Sd y cc nb d mc ms ci fs0 as Post := by
  intro l D cs q sz
  refine Met.ofW (cc := cc) (maxL := nb) (ret := none) hy rfl ?_
  intro p e s m args below meth c s₁ B hml hv
  obtain ⟨rfl, hsz, hP, hK, hD0, hN, hAo⟩ := hv
  have hx := B.exec
  have hb := B.bytes
  have hrt := B.returns
  have hts := atoms_spec (ws := Jvm.Cond.code y cc nb none :: am_tb) B.pre
  have hown : s.vm.findClass y.cls = some m.cls := findClass_of_methodNamed B.named
  have hlocks := B.notSynchronized
  have hin : meth.name = "<init>" := (name_of_methodNamed B.named B.method).1.trans hyn
  subst hsz
  have hD := hD0.self (sz := s.heap.size)
  generalize hAe : va_A [(q, .inr (ci, fs0))] s.heap.size = A at hD ⊢
  have hA : ∀ q : Nat, s.heap.size ≤ q → A q := fun q h => by rw [← hAe]; exact Or.inr h
  have hS : va_S A s.heap s.heap [] := va_S.rf
  have hsl : ∀ as : List Int32, (lg_sl (as.map Value.int)).length = as.length := by
    intro as
    induction as with
    | nil => rfl
    | cons a t ih =>
      have hc : ∀ (v : Value) (vs : List Value), lg_sl (v :: vs) = (if v.category = 2 then [.val v, .second] else [.val v]) ++ lg_sl vs := fun v vs => by unfold lg_sl; rw [List.flatMap_cons]
      rw [List.map_cons, hc, List.length_append, ih]
      simp [Value.category]
      omega
  have hl := lv_entry (.ref q :: as.map Value.int) (n := nb) (by
    have hc : ∀ (v : Value) (vs : List Value), lg_sl (v :: vs) = (if v.category = 2 then [.val v, .second] else [.val v]) ++ lg_sl vs := fun v vs => by unfold lg_sl; rw [List.flatMap_cons]
    rw [hc, List.length_append, hsl]
    simp [Value.category]
    omega)
  rw [lg_entry_eq]
  generalize (lg_sl (.ref q :: as.map Value.int) ++ List.replicate (nb - (lg_sl (.ref q :: as.map Value.int)).length) Slot.unset).toArray = ls at hl ⊢
  refine body (p, l, e, cw_rm d mc ms, s, m, (.ref q :: as.map Value.int).toArray, below, meth, c, MQ below (cw_Q D (Post cs q) A) (.ref q :: as.map Value.int).toArray s mc ms A, D, cs, A) q ⟨hx, hb, hml, hown, fun w hw => hts w (List.mem_cons_of_mem _ hw), hN, hK, hA, hin, hAo, hrt, hlocks⟩ rfl ?_ s.heap [] ls hP hD hS hl
  intro pc lv ws hf hpost H locs ls hP hD hS hl
  exact W.vret hx hb hrt (fun t ht _ => ⟨rfl, ⟨ws, hpost, by rw [ht]; exact hP, hD⟩, hS.F ht⟩) hS.2.2 hf.1
end CWC
end
section
/-! one turn of 'for (s = 0; s < N; s++) this.row[s] = new C()' -/
theorem cw_mid_get {a b : va_W} {x y : Nat × va_E} : (x :: (a ++ y :: b))[a.length + 1]? = some y := by
  rw [List.getElem?_cons_succ, List.getElem?_append_right (Nat.le_refl _), Nat.sub_self]
  rfl
theorem cw_mid_set {a b : va_W} {x y z : Nat × va_E} : (x :: (a ++ y :: b)).set (a.length + 1) z = x :: (a ++ z :: b) := by
  rw [List.set_cons_succ, List.set_append_right _ _ (Nat.le_refl _), Nat.sub_self]
  rfl
section CWI
variable {cc : ByteArray} {nL : Nat} {own : String} {G : cw_G} {nc ns h0 ci : Nat} {fs : List Value} {W0 W1 : va_W}
def cw_loop (pi : am_I) (idx j q ci iN qN cj iC qC : Nat) (own : String) (y : MethodName) (host : Option String) (gf bk : Int) : List am_I := [(.iload_n 1, 1, none), pi, (.if_icmp .ge gf, 3, none), (.aload_n 0, 1, none), (.getfield idx, 3, some (q, am_fl own idx ci j)), (.iload_n 1, 1, none), (.new iN, 3, some (qN, .classLink own iN (am_cn cj).1)), (.dup, 1, none), (.invokespecial iC, 3, some (qC, am_lk own iC y host)), (.aastore, 1, none), (.iinc 1 1, 3, none), (.goto bk, 3, none)]
theorem cr_iter (hO : cw_Ok cc nL own G) (pc k N : Nat) (pi : am_I) (hpush : ∀ {pc : Nat} {lv : List (Nat × Value)} {st : List Value} {ws : va_W} {nc ns : Nat}, am_fit cc pc [pi] → cw_W nL G (pc + pi.2.1) lv (.int (nI N) :: st) ws nc ns → cw_W nL G pc lv st ws nc ns) (hkN : k < N) (hN : N < 100) (hnL : 1 < nL)
    (idx j q iN qN cj iC qC t : Nat) {y : MethodName} {cb : ByteArray} {nb d mc ms : Nat} {fs0 : List Value} {Post : (Nat → ClassId) → Nat → va_W → Prop} (host : Option String) (gf bk : Int) (hM : cw_Sd y cb nb d mc ms cj fs0 [] Post) (hy : am_Ky y cb nb none 0) (hin : Jvm.Cond.instanceMethod y ∈ am_tb) (hy1 : y.name = "<init>")
    (hc : vwCl[ci]? = some (am_cn ci)) (hj : j < (am_cn ci).2.2) {a : Nat} (hv : fs[j]? = some (.ref a)) (hcj : vwCl[cj]? = some (am_cn cj)) (hi : Jvm.Cond.instantiable (am_cn cj).1 (am_cn cj).2.2 ∈ am_tb) (hini : Jvm.Cond.initialized (am_cn cj).1 ∈ am_tb) (ty : Nat → FieldType) (hty : ∀ k, k < (am_cn cj).2.2 → parseFieldDescriptor ((am_cn cj).2.1 k).2.2.1 = some (ty k)) (hfs : ∀ j, j < (am_cn cj).2.2 → defaultValue (ty j) = vp_V fs0 j)
    (ht : (am_ty G.2.2.2.2.2.2.2.2.2.2.2.2.1)[t]? = some (G.2.2.2.2.2.2.2.2.2.2.2.2.1 t, .object (am_cn cj).1)) (hhead : ∀ cs q w, Post cs q w → ∃ vs w', w = (q, .inr (cj, vs)) :: w')
    (hfr : d + 1 ≤ G.2.2.2.1.frames) (hlo : 64 * (d + 1) ≤ G.2.2.2.1.locals) (hcells : nc + (1 + mc) ≤ G.2.2.2.1.cells) (hslots : ns + ((am_cn cj).2.2 + ms) ≤ G.2.2.2.1.slots) (tg : Nat) (htg : ((pc + (1 + pi.2.1) : Nat) : Int) + gf = (tg : Int)) (hbk : ((pc + (1 + pi.2.1 + 3 + 1 + 3 + 1 + 3 + 1 + 3 + 1 + 3) : Nat) : Int) + bk = (pc : Int))
    (hf : am_fit cc pc (cw_loop pi idx j q ci iN qN cj iC qC own y host gf bk)) {f : Nat → Option Nat}
    (kk : ∀ (x : Nat) (w : va_W), Post G.2.2.2.2.2.2.2.2.2.2.2.2.1 x w → cw_W nL G pc [(1, .int (nI (k + 1))), (0, .ref h0)] [] ((h0, .inr (ci, fs)) :: (W0 ++ (a, cw_qa G.2.2.2.2.2.2.2.2.2.2.2.2.1 t N (va_up f k (some x))) :: (W1 ++ w))) (nc + (1 + mc)) (ns + ((am_cn cj).2.2 + ms))) :
    cw_W nL G pc [(1, .int (nI k)), (0, .ref h0)] [] ((h0, .inr (ci, fs)) :: (W0 ++ (a, cw_qa G.2.2.2.2.2.2.2.2.2.2.2.2.1 t N f) :: W1)) nc ns := by
  obtain ⟨f1, f2, f3⟩ := hf
  obtain ⟨g1, g2, g3⟩ := f3
  obtain ⟨i1, i2, i3⟩ := g3
  obtain ⟨j1, j2, j3⟩ := i3
  obtain ⟨k1, k2, k3⟩ := j3
  obtain ⟨l1, l2, l3⟩ := k3
  obtain ⟨m1, m2, m3⟩ := l3
  obtain ⟨n1, n2, n3⟩ := m3
  obtain ⟨o1, o2, o3⟩ := n3
  obtain ⟨p1, p2, p3⟩ := o3
  obtain ⟨q1, q2, q3⟩ := p3
  obtain ⟨r1, r2, -⟩ := q3
  refine cr_il hO 1 0 rfl ⟨f1, f2, trivial⟩ ?_
  refine hpush ⟨g1, g2, trivial⟩ ?_
  refine cr_geF hO tg (nI_ge hkN (by omega)) (by rw [Nat.add_assoc]; exact htg) ⟨i1, i2, trivial⟩ ?_
  refine cr_al hO 0 1 rfl ⟨j1, j2, trivial⟩ ?_
  refine cr_gf hO idx j q hc hj hv ⟨k1, k2, trivial⟩ ?_
  refine cr_il hO 1 0 rfl ⟨l1, l2, trivial⟩ ?_
  refine cr_new hO iN qN cj hcj hi hini fs0 ty hty hfs (by omega) (by omega) ⟨m1, m2, trivial⟩ (fun x => ?_)
  refine cr_dup hO ⟨n1, n2, trivial⟩ ?_
  refine cr_call hO hM hy hin rfl hy1 iC qC host (st := [.ref x, .int (nI k), .ref a]) hfr hlo (by omega) (by omega) (Nat.le_of_ble_eq_true rfl) ⟨o1, o2, trivial⟩ (fun w hw => ?_)
  obtain ⟨vs, w', rfl⟩ := hhead _ _ _ hw
  have hk2 := kk x _ hw
  have e1 : ((h0, Sum.inr (ci, fs)) :: (W0 ++ (a, cw_qa G.2.2.2.2.2.2.2.2.2.2.2.2.1 t N f) :: W1) : va_W) ++ ((x, Sum.inr (cj, vs)) :: w') = (h0, Sum.inr (ci, fs)) :: (W0 ++ (a, cw_qa G.2.2.2.2.2.2.2.2.2.2.2.2.1 t N f) :: (W1 ++ ((x, Sum.inr (cj, vs)) :: w'))) := by simp
  rw [e1]
  refine cr_qast hO (W0.length + 1) (W0.length + 1 + 1 + W1.length) t cj ht hcj cw_mid_get (vs := vs) ?_ (vp_in_nI hkN (by omega)) ⟨p1, p2, trivial⟩ ?_
  · rw [← e1, List.getElem?_append_right (by simp; omega)]
    have : W0.length + 1 + 1 + W1.length - ((h0, Sum.inr (ci, fs)) :: (W0 ++ (a, cw_qa G.2.2.2.2.2.2.2.2.2.2.2.2.1 t N f) :: W1) : va_W).length = 0 := by simp; omega
    rw [this]
    rfl
  · rw [cw_mid_set, nI_clamp (by omega)]
    refine cr_inc hO 1 0 1 rfl (v := nI (k + 1)) (nI_1 k) hnL ⟨q1, q2, trivial⟩ ?_
    refine cr_goto hO pc (by rw [← hbk]; simp only [Nat.add_assoc]) ⟨r1, r2, trivial⟩ ?_
    rw [show nc + 1 + mc = nc + (1 + mc) by omega, show ns + (am_cn cj).2.2 + ms = ns + ((am_cn cj).2.2 + ms) by omega]
    exact hk2
end CWI
end
section
/-! THE CONSTRUCTORS, by program (mkctor.py) -/
theorem ky_X7_init : am_Ky yX7_init cX7_init 2 none 1 := ⟨am_word (k := 106) (by decide +kernel) rfl, am_word (k := 79) (by decide +kernel) rfl, by decide +kernel, by decide⟩
theorem ki_X7_init : Jvm.Cond.instanceMethod yX7_init ∈ am_tb := am_word (k := 105) (by decide +kernel) rfl
theorem kn_X7_init : Jvm.Cond.instantiable (am_cn 7).1 (am_cn 7).2.2 ∈ am_tb := am_word (k := 103) (by decide +kernel) rfl
theorem kz_X7_init : Jvm.Cond.initialized (am_cn 7).1 ∈ am_tb := am_word (k := 79) (by decide +kernel) rfl
theorem kd_X7_init : ∀ j, j < (am_cn 7).2.2 → defaultValue (tyX7 j) = vp_V [.null, .int 0, .int 0, .int 0] j := by decide +kernel
theorem ky_X0_init : am_Ky yX0_init cX0_init 1 none 0 := ⟨am_word (k := 136) (by decide +kernel) rfl, am_word (k := 81) (by decide +kernel) rfl, by decide +kernel, by decide⟩
theorem ki_X0_init : Jvm.Cond.instanceMethod yX0_init ∈ am_tb := am_word (k := 135) (by decide +kernel) rfl
theorem kn_X0_init : Jvm.Cond.instantiable (am_cn 0).1 (am_cn 0).2.2 ∈ am_tb := am_word (k := 133) (by decide +kernel) rfl
theorem kz_X0_init : Jvm.Cond.initialized (am_cn 0).1 ∈ am_tb := am_word (k := 81) (by decide +kernel) rfl
theorem kd_X0_init : ∀ j, j < (am_cn 0).2.2 → defaultValue (tyX0 j) = vp_V [.int 0, .null, .null, .null, .null, .null, .null, .int 0] j := by decide +kernel
theorem ky_X1_init : am_Ky yX1_init cX1_init 1 none 0 := ⟨am_word (k := 176) (by decide +kernel) rfl, am_word (k := 82) (by decide +kernel) rfl, by decide +kernel, by decide⟩
theorem ki_X1_init : Jvm.Cond.instanceMethod yX1_init ∈ am_tb := am_word (k := 175) (by decide +kernel) rfl
theorem kn_X1_init : Jvm.Cond.instantiable (am_cn 1).1 (am_cn 1).2.2 ∈ am_tb := am_word (k := 173) (by decide +kernel) rfl
theorem kz_X1_init : Jvm.Cond.initialized (am_cn 1).1 ∈ am_tb := am_word (k := 82) (by decide +kernel) rfl
theorem kd_X1_init : ∀ j, j < (am_cn 1).2.2 → defaultValue (tyX1 j) = vp_V [.int 0, .null, .null, .null, .null, .int 0] j := by decide +kernel
theorem ky_X2_init : am_Ky yX2_init cX2_init 1 none 0 := ⟨am_word (k := 324) (by decide +kernel) rfl, am_word (k := 88) (by decide +kernel) rfl, by decide +kernel, by decide⟩
theorem ki_X2_init : Jvm.Cond.instanceMethod yX2_init ∈ am_tb := am_word (k := 323) (by decide +kernel) rfl
theorem kn_X2_init : Jvm.Cond.instantiable (am_cn 2).1 (am_cn 2).2.2 ∈ am_tb := am_word (k := 321) (by decide +kernel) rfl
theorem kz_X2_init : Jvm.Cond.initialized (am_cn 2).1 ∈ am_tb := am_word (k := 88) (by decide +kernel) rfl
theorem kd_X2_init : ∀ j, j < (am_cn 2).2.2 → defaultValue (tyX2 j) = vp_V [.null, .null, .int 0] j := by decide +kernel
theorem ky_X3_init : am_Ky yX3_init cX3_init 1 none 0 := ⟨am_word (k := 215) (by decide +kernel) rfl, am_word (k := 84) (by decide +kernel) rfl, by decide +kernel, by decide⟩
theorem ki_X3_init : Jvm.Cond.instanceMethod yX3_init ∈ am_tb := am_word (k := 214) (by decide +kernel) rfl
theorem kn_X3_init : Jvm.Cond.instantiable (am_cn 3).1 (am_cn 3).2.2 ∈ am_tb := am_word (k := 212) (by decide +kernel) rfl
theorem kz_X3_init : Jvm.Cond.initialized (am_cn 3).1 ∈ am_tb := am_word (k := 84) (by decide +kernel) rfl
theorem kd_X3_init : ∀ j, j < (am_cn 3).2.2 → defaultValue (tyX3 j) = vp_V [.null, .null, .int 0, .int 0, .int 0] j := by decide +kernel
theorem ky_X4_init : am_Ky yX4_init cX4_init 1 none 0 := ⟨am_word (k := 342) (by decide +kernel) rfl, am_word (k := 89) (by decide +kernel) rfl, by decide +kernel, by decide⟩
theorem ki_X4_init : Jvm.Cond.instanceMethod yX4_init ∈ am_tb := am_word (k := 341) (by decide +kernel) rfl
theorem kn_X4_init : Jvm.Cond.instantiable (am_cn 4).1 (am_cn 4).2.2 ∈ am_tb := am_word (k := 339) (by decide +kernel) rfl
theorem kz_X4_init : Jvm.Cond.initialized (am_cn 4).1 ∈ am_tb := am_word (k := 89) (by decide +kernel) rfl
theorem kd_X4_init : ∀ j, j < (am_cn 4).2.2 → defaultValue (tyX4 j) = vp_V [.int 0, .int 0, .int 0, .null] j := by decide +kernel
theorem ky_X6_init : am_Ky yX6_init cX6_init 1 none 0 := ⟨am_word (k := 297) (by decide +kernel) rfl, am_word (k := 87) (by decide +kernel) rfl, by decide +kernel, by decide⟩
theorem ki_X6_init : Jvm.Cond.instanceMethod yX6_init ∈ am_tb := am_word (k := 296) (by decide +kernel) rfl
theorem kn_X6_init : Jvm.Cond.instantiable (am_cn 6).1 (am_cn 6).2.2 ∈ am_tb := am_word (k := 294) (by decide +kernel) rfl
theorem kz_X6_init : Jvm.Cond.initialized (am_cn 6).1 ∈ am_tb := am_word (k := 87) (by decide +kernel) rfl
theorem kd_X6_init : ∀ j, j < (am_cn 6).2.2 → defaultValue (tyX6 j) = vp_V [.int 0, .null, .null, .null, .null] j := by decide +kernel
theorem ky_X8_init : am_Ky yX8_init cX8_init 1 none 0 := ⟨am_word (k := 265) (by decide +kernel) rfl, am_word (k := 86) (by decide +kernel) rfl, by decide +kernel, by decide⟩
theorem ki_X8_init : Jvm.Cond.instanceMethod yX8_init ∈ am_tb := am_word (k := 264) (by decide +kernel) rfl
theorem kn_X8_init : Jvm.Cond.instantiable (am_cn 8).1 (am_cn 8).2.2 ∈ am_tb := am_word (k := 262) (by decide +kernel) rfl
theorem kz_X8_init : Jvm.Cond.initialized (am_cn 8).1 ∈ am_tb := am_word (k := 86) (by decide +kernel) rfl
theorem kd_X8_init : ∀ j, j < (am_cn 8).2.2 → defaultValue (tyX8 j) = vp_V [.int 0, .int 0, .null, .int 0, .null, .null, .int 0] j := by decide +kernel
theorem ky_X9_init : am_Ky yX9_init cX9_init 1 none 0 := ⟨am_word (k := 250) (by decide +kernel) rfl, am_word (k := 85) (by decide +kernel) rfl, by decide +kernel, by decide⟩
theorem ki_X9_init : Jvm.Cond.instanceMethod yX9_init ∈ am_tb := am_word (k := 249) (by decide +kernel) rfl
theorem kn_X9_init : Jvm.Cond.instantiable (am_cn 9).1 (am_cn 9).2.2 ∈ am_tb := am_word (k := 247) (by decide +kernel) rfl
theorem kz_X9_init : Jvm.Cond.initialized (am_cn 9).1 ∈ am_tb := am_word (k := 85) (by decide +kernel) rfl
theorem kd_X9_init : ∀ j, j < (am_cn 9).2.2 → defaultValue (tyX9 j) = vp_V [.int 0, .null] j := by decide +kernel
theorem ky_X5_init : am_Ky yX5_init cX5_init 2 none 0 := ⟨am_word (k := 208) (by decide +kernel) rfl, am_word (k := 83) (by decide +kernel) rfl, by decide +kernel, by decide⟩
theorem ki_X5_init : Jvm.Cond.instanceMethod yX5_init ∈ am_tb := am_word (k := 207) (by decide +kernel) rfl
theorem kn_X5_init : Jvm.Cond.instantiable (am_cn 5).1 (am_cn 5).2.2 ∈ am_tb := am_word (k := 205) (by decide +kernel) rfl
theorem kz_X5_init : Jvm.Cond.initialized (am_cn 5).1 ∈ am_tb := am_word (k := 83) (by decide +kernel) rfl
theorem kd_X5_init : ∀ j, j < (am_cn 5).2.2 → defaultValue (tyX5 j) = vp_V [.null] j := by decide +kernel
theorem ky_X10_init : am_Ky yX10_init cX10_init 2 none 0 := ⟨am_word (k := 98) (by decide +kernel) rfl, am_word (k := 78) (by decide +kernel) rfl, by decide +kernel, by decide⟩
theorem ki_X10_init : Jvm.Cond.instanceMethod yX10_init ∈ am_tb := am_word (k := 97) (by decide +kernel) rfl
theorem kn_X10_init : Jvm.Cond.instantiable (am_cn 10).1 (am_cn 10).2.2 ∈ am_tb := am_word (k := 95) (by decide +kernel) rfl
theorem kz_X10_init : Jvm.Cond.initialized (am_cn 10).1 ∈ am_tb := am_word (k := 78) (by decide +kernel) rfl
theorem kd_X10_init : ∀ j, j < (am_cn 10).2.2 → defaultValue (tyX10 j) = vp_V [.null, .null, .null, .null, .null, .null, .null, .null, .null, .null, .null, .null, .null, .null, .null, .int 0, .int 0] j := by decide +kernel
theorem ky_X11_init : am_Ky yX11_init cX11_init 2 none 0 := ⟨am_word (k := 884) (by decide +kernel) rfl, am_word (k := 90) (by decide +kernel) rfl, by decide +kernel, by decide⟩
theorem ki_X11_init : Jvm.Cond.instanceMethod yX11_init ∈ am_tb := am_word (k := 883) (by decide +kernel) rfl
theorem kn_X11_init : Jvm.Cond.instantiable (am_cn 11).1 (am_cn 11).2.2 ∈ am_tb := am_word (k := 881) (by decide +kernel) rfl
theorem kz_X11_init : Jvm.Cond.initialized (am_cn 11).1 ∈ am_tb := am_word (k := 90) (by decide +kernel) rfl
theorem kd_X11_init : ∀ j, j < (am_cn 11).2.2 → defaultValue (tyX11 j) = vp_V [.null, .null, .null, .null, .int 0, .null, .null, .int 0, .null, .null, .null, .null, .null, .int 0, .null, .int 0, .null, .null, .null, .null, .null, .null, .int 0, .null, .null, .null, .null, .int 0, .int 0, .null, .null, .int 0, .null, .null, .int 0, .null] j := by decide +kernel
def ps_X7_init (p0 : Int32) (cs : Nat → ClassId) (q0 : Nat) (ws : va_W) : Prop := ∃ (a0 : Nat), ws = ((q0, .inr (7, [.ref a0, .int (am_min p0 71), .int 0, .int (-1)])) :: [(a0, cw_ia cs 71 (fun _ => 0))])
theorem hd_X7_init {p0 : Int32} {cs : Nat → ClassId} {q0 : Nat} {w : va_W} (h : ps_X7_init p0 cs q0 w) : ∃ vs w', w = (q0, .inr (7, vs)) :: w' := by
  obtain ⟨_, rfl⟩ := h
  exact ⟨_, _, rfl⟩
set_option maxHeartbeats 8000000 in
set_option maxRecDepth 100000 in
theorem cs_X7_init (p0 : Int32) : cw_Sd yX7_init cX7_init 2 1 1 71 7 [.null, .int 0, .int 0, .int 0] [p0] (ps_X7_init p0) := by
  refine cw_meth (y := yX7_init) (by decide) rfl (Nat.le_of_ble_eq_true rfl) ?_
  intro G q0 hO hR hret
  show cw_W 2 G 0 [(0, .ref q0), (1, .int p0)] [] ((q0, .inr (7, [.null, .int 0, .int 0, .int 0])) :: []) 0 0
  refine cr_al hO 0 0 rfl (am_fb_ok (by decide +kernel)) ?_
  show cw_W 2 G 1 [(0, .ref q0), (1, .int p0)] [.ref q0] ((q0, .inr (7, [.null, .int 0, .int 0, .int 0])) :: []) 0 0
  refine cr_obj hO 3 107 (by rw [hR]; decide) (by rw [hR]; decide) (am_fb_ok (by decide +kernel)) ?_
  show cw_W 2 G 4 [(0, .ref q0), (1, .int p0)] [] ((q0, .inr (7, [.null, .int 0, .int 0, .int 0])) :: []) 0 0
  refine cr_al hO 0 0 rfl (am_fb_ok (by decide +kernel)) ?_
  show cw_W 2 G 5 [(0, .ref q0), (1, .int p0)] [.ref q0] ((q0, .inr (7, [.null, .int 0, .int 0, .int 0])) :: []) 0 0
  refine cr_bp hO 71 71 (by decide) (am_fb_ok (by decide +kernel)) ?_
  show cw_W 2 G 7 [(0, .ref q0), (1, .int p0)] [.int 71, .ref q0] ((q0, .inr (7, [.null, .int 0, .int 0, .int 0])) :: []) 0 0
  refine cr_na hO 71 (by decide) (by decide) (by decide) (by rw [hR]; decide) (by rw [hR]; decide) (am_fb_ok (by decide +kernel)) (fun a0 => ?_)
  show cw_W 2 G 9 [(0, .ref q0), (1, .int p0)] [.ref a0, .ref q0] ((q0, .inr (7, [.null, .int 0, .int 0, .int 0])) :: [(a0, cw_ia G.2.2.2.2.2.2.2.2.2.2.2.2.1 71 (fun _ => 0))]) 1 71
  refine cr_pf hO 9 0 111 (ty := .array .int) rfl (by decide) rfl (by decide +kernel) (by first | rfl | decide) (by first | rfl | decide) (Nat.le_of_ble_eq_true rfl) (am_fb_ok (by decide +kernel)) ?_
  show cw_W 2 G 12 [(0, .ref q0), (1, .int p0)] [] ((q0, .inr (7, [.ref a0, .int 0, .int 0, .int 0])) :: [(a0, cw_ia G.2.2.2.2.2.2.2.2.2.2.2.2.1 71 (fun _ => 0))]) 1 71
  refine cr_al hO 0 0 rfl (am_fb_ok (by decide +kernel)) ?_
  show cw_W 2 G 13 [(0, .ref q0), (1, .int p0)] [.ref q0] ((q0, .inr (7, [.ref a0, .int 0, .int 0, .int 0])) :: [(a0, cw_ia G.2.2.2.2.2.2.2.2.2.2.2.2.1 71 (fun _ => 0))]) 1 71
  refine cr_ic hO (-1) (-1) (by decide) (am_fb_ok (by decide +kernel)) ?_
  show cw_W 2 G 14 [(0, .ref q0), (1, .int p0)] [.int (-1), .ref q0] ((q0, .inr (7, [.ref a0, .int 0, .int 0, .int 0])) :: [(a0, cw_ia G.2.2.2.2.2.2.2.2.2.2.2.2.1 71 (fun _ => 0))]) 1 71
  refine cr_pf hO 15 3 120 (ty := .int) rfl (by decide) rfl (by decide +kernel) (by first | rfl | decide) (by first | rfl | decide) (Nat.le_of_ble_eq_true rfl) (am_fb_ok (by decide +kernel)) ?_
  show cw_W 2 G 17 [(0, .ref q0), (1, .int p0)] [] ((q0, .inr (7, [.ref a0, .int 0, .int 0, .int (-1)])) :: [(a0, cw_ia G.2.2.2.2.2.2.2.2.2.2.2.2.1 71 (fun _ => 0))]) 1 71
  refine cr_al hO 0 0 rfl (am_fb_ok (by decide +kernel)) ?_
  show cw_W 2 G 18 [(0, .ref q0), (1, .int p0)] [.ref q0] ((q0, .inr (7, [.ref a0, .int 0, .int 0, .int (-1)])) :: [(a0, cw_ia G.2.2.2.2.2.2.2.2.2.2.2.2.1 71 (fun _ => 0))]) 1 71
  refine cr_il hO 1 1 rfl (am_fb_ok (by decide +kernel)) ?_
  show cw_W 2 G 19 [(0, .ref q0), (1, .int p0)] [.int p0, .ref q0] ((q0, .inr (7, [.ref a0, .int 0, .int 0, .int (-1)])) :: [(a0, cw_ia G.2.2.2.2.2.2.2.2.2.2.2.2.1 71 (fun _ => 0))]) 1 71
  refine cr_bp hO 71 71 (by decide) (am_fb_ok (by decide +kernel)) ?_
  show cw_W 2 G 21 [(0, .ref q0), (1, .int p0)] [.int 71, .int p0, .ref q0] ((q0, .inr (7, [.ref a0, .int 0, .int 0, .int (-1)])) :: [(a0, cw_ia G.2.2.2.2.2.2.2.2.2.2.2.2.1 71 (fun _ => 0))]) 1 71
  refine cr_min hO 19 108 (by rw [hR]; decide) (by rw [hR]; decide) (by rw [hR]; decide) (by rw [hR]; decide) (am_fb_ok (by decide +kernel)) ?_
  show cw_W 2 G 24 [(0, .ref q0), (1, .int p0)] [.int (am_min p0 71), .ref q0] ((q0, .inr (7, [.ref a0, .int 0, .int 0, .int (-1)])) :: [(a0, cw_ia G.2.2.2.2.2.2.2.2.2.2.2.2.1 71 (fun _ => 0))]) 1 71
  refine cr_pf hO 25 1 115 (ty := .int) rfl (by decide) rfl (by decide +kernel) (by first | rfl | decide) (by first | rfl | decide) (Nat.le_of_ble_eq_true rfl) (am_fb_ok (by decide +kernel)) ?_
  show cw_W 2 G 27 [(0, .ref q0), (1, .int p0)] [] ((q0, .inr (7, [.ref a0, .int (am_min p0 71), .int 0, .int (-1)])) :: [(a0, cw_ia G.2.2.2.2.2.2.2.2.2.2.2.2.1 71 (fun _ => 0))]) 1 71
  exact hret 27 _ _ (am_fb_ok (by decide +kernel)) ⟨a0, rfl⟩
def ps_X0_init (cs : Nat → ClassId) (q0 : Nat) (ws : va_W) : Prop := ∃ (a0 a1 a2 a3 a4 a5 : Nat), ws = ((q0, .inr (0, [.int 0, .ref a0, .ref a1, .ref a2, .ref a3, .ref a4, .ref a5, .int 0])) :: [(a0, cw_ia cs 8 (fun _ => 0)), (a1, cw_ia cs 8 (fun _ => 0)), (a2, cw_ia cs 8 (fun _ => 0)), (a3, cw_ia cs 48 (fun _ => 0)), (a4, cw_ia cs 8 (fun _ => 0)), (a5, cw_ia cs 8 (fun _ => 0))])
theorem hd_X0_init {cs : Nat → ClassId} {q0 : Nat} {w : va_W} (h : ps_X0_init cs q0 w) : ∃ vs w', w = (q0, .inr (0, vs)) :: w' := by
  obtain ⟨_, _, _, _, _, _, rfl⟩ := h
  exact ⟨_, _, rfl⟩
set_option maxHeartbeats 8000000 in
set_option maxRecDepth 100000 in
theorem cs_X0_init : cw_Sd yX0_init cX0_init 1 1 6 88 0 [.int 0, .null, .null, .null, .null, .null, .null, .int 0] [] (ps_X0_init) := by
  refine cw_meth (y := yX0_init) (by decide) rfl (Nat.le_of_ble_eq_true rfl) ?_
  intro G q0 hO hR hret
  show cw_W 1 G 0 [(0, .ref q0)] [] ((q0, .inr (0, [.int 0, .null, .null, .null, .null, .null, .null, .int 0])) :: []) 0 0
  refine cr_al hO 0 0 rfl (am_fb_ok (by decide +kernel)) ?_
  show cw_W 1 G 1 [(0, .ref q0)] [.ref q0] ((q0, .inr (0, [.int 0, .null, .null, .null, .null, .null, .null, .int 0])) :: []) 0 0
  refine cr_obj hO 3 137 (by rw [hR]; decide) (by rw [hR]; decide) (am_fb_ok (by decide +kernel)) ?_
  show cw_W 1 G 4 [(0, .ref q0)] [] ((q0, .inr (0, [.int 0, .null, .null, .null, .null, .null, .null, .int 0])) :: []) 0 0
  refine cr_al hO 0 0 rfl (am_fb_ok (by decide +kernel)) ?_
  show cw_W 1 G 5 [(0, .ref q0)] [.ref q0] ((q0, .inr (0, [.int 0, .null, .null, .null, .null, .null, .null, .int 0])) :: []) 0 0
  refine cr_bp hO 8 8 (by decide) (am_fb_ok (by decide +kernel)) ?_
  show cw_W 1 G 7 [(0, .ref q0)] [.int 8, .ref q0] ((q0, .inr (0, [.int 0, .null, .null, .null, .null, .null, .null, .int 0])) :: []) 0 0
  refine cr_na hO 8 (by decide) (by decide) (by decide) (by rw [hR]; decide) (by rw [hR]; decide) (am_fb_ok (by decide +kernel)) (fun a0 => ?_)
  show cw_W 1 G 9 [(0, .ref q0)] [.ref a0, .ref q0] ((q0, .inr (0, [.int 0, .null, .null, .null, .null, .null, .null, .int 0])) :: [(a0, cw_ia G.2.2.2.2.2.2.2.2.2.2.2.2.1 8 (fun _ => 0))]) 1 8
  refine cr_pf hO 9 1 141 (ty := .array .int) rfl (by decide) rfl (by decide +kernel) (by first | rfl | decide) (by first | rfl | decide) (Nat.le_of_ble_eq_true rfl) (am_fb_ok (by decide +kernel)) ?_
  show cw_W 1 G 12 [(0, .ref q0)] [] ((q0, .inr (0, [.int 0, .ref a0, .null, .null, .null, .null, .null, .int 0])) :: [(a0, cw_ia G.2.2.2.2.2.2.2.2.2.2.2.2.1 8 (fun _ => 0))]) 1 8
  refine cr_al hO 0 0 rfl (am_fb_ok (by decide +kernel)) ?_
  show cw_W 1 G 13 [(0, .ref q0)] [.ref q0] ((q0, .inr (0, [.int 0, .ref a0, .null, .null, .null, .null, .null, .int 0])) :: [(a0, cw_ia G.2.2.2.2.2.2.2.2.2.2.2.2.1 8 (fun _ => 0))]) 1 8
  refine cr_bp hO 8 8 (by decide) (am_fb_ok (by decide +kernel)) ?_
  show cw_W 1 G 15 [(0, .ref q0)] [.int 8, .ref q0] ((q0, .inr (0, [.int 0, .ref a0, .null, .null, .null, .null, .null, .int 0])) :: [(a0, cw_ia G.2.2.2.2.2.2.2.2.2.2.2.2.1 8 (fun _ => 0))]) 1 8
  refine cr_na hO 8 (by decide) (by decide) (by decide) (by rw [hR]; decide) (by rw [hR]; decide) (am_fb_ok (by decide +kernel)) (fun a1 => ?_)
  show cw_W 1 G 17 [(0, .ref q0)] [.ref a1, .ref q0] ((q0, .inr (0, [.int 0, .ref a0, .null, .null, .null, .null, .null, .int 0])) :: [(a0, cw_ia G.2.2.2.2.2.2.2.2.2.2.2.2.1 8 (fun _ => 0)), (a1, cw_ia G.2.2.2.2.2.2.2.2.2.2.2.2.1 8 (fun _ => 0))]) 2 16
  refine cr_pf hO 15 2 144 (ty := .array .int) rfl (by decide) rfl (by decide +kernel) (by first | rfl | decide) (by first | rfl | decide) (Nat.le_of_ble_eq_true rfl) (am_fb_ok (by decide +kernel)) ?_
  show cw_W 1 G 20 [(0, .ref q0)] [] ((q0, .inr (0, [.int 0, .ref a0, .ref a1, .null, .null, .null, .null, .int 0])) :: [(a0, cw_ia G.2.2.2.2.2.2.2.2.2.2.2.2.1 8 (fun _ => 0)), (a1, cw_ia G.2.2.2.2.2.2.2.2.2.2.2.2.1 8 (fun _ => 0))]) 2 16
  refine cr_al hO 0 0 rfl (am_fb_ok (by decide +kernel)) ?_
  show cw_W 1 G 21 [(0, .ref q0)] [.ref q0] ((q0, .inr (0, [.int 0, .ref a0, .ref a1, .null, .null, .null, .null, .int 0])) :: [(a0, cw_ia G.2.2.2.2.2.2.2.2.2.2.2.2.1 8 (fun _ => 0)), (a1, cw_ia G.2.2.2.2.2.2.2.2.2.2.2.2.1 8 (fun _ => 0))]) 2 16
  refine cr_bp hO 8 8 (by decide) (am_fb_ok (by decide +kernel)) ?_
  show cw_W 1 G 23 [(0, .ref q0)] [.int 8, .ref q0] ((q0, .inr (0, [.int 0, .ref a0, .ref a1, .null, .null, .null, .null, .int 0])) :: [(a0, cw_ia G.2.2.2.2.2.2.2.2.2.2.2.2.1 8 (fun _ => 0)), (a1, cw_ia G.2.2.2.2.2.2.2.2.2.2.2.2.1 8 (fun _ => 0))]) 2 16
  refine cr_na hO 8 (by decide) (by decide) (by decide) (by rw [hR]; decide) (by rw [hR]; decide) (am_fb_ok (by decide +kernel)) (fun a2 => ?_)
  show cw_W 1 G 25 [(0, .ref q0)] [.ref a2, .ref q0] ((q0, .inr (0, [.int 0, .ref a0, .ref a1, .null, .null, .null, .null, .int 0])) :: [(a0, cw_ia G.2.2.2.2.2.2.2.2.2.2.2.2.1 8 (fun _ => 0)), (a1, cw_ia G.2.2.2.2.2.2.2.2.2.2.2.2.1 8 (fun _ => 0)), (a2, cw_ia G.2.2.2.2.2.2.2.2.2.2.2.2.1 8 (fun _ => 0))]) 3 24
  refine cr_pf hO 18 3 147 (ty := .array .int) rfl (by decide) rfl (by decide +kernel) (by first | rfl | decide) (by first | rfl | decide) (Nat.le_of_ble_eq_true rfl) (am_fb_ok (by decide +kernel)) ?_
  show cw_W 1 G 28 [(0, .ref q0)] [] ((q0, .inr (0, [.int 0, .ref a0, .ref a1, .ref a2, .null, .null, .null, .int 0])) :: [(a0, cw_ia G.2.2.2.2.2.2.2.2.2.2.2.2.1 8 (fun _ => 0)), (a1, cw_ia G.2.2.2.2.2.2.2.2.2.2.2.2.1 8 (fun _ => 0)), (a2, cw_ia G.2.2.2.2.2.2.2.2.2.2.2.2.1 8 (fun _ => 0))]) 3 24
  refine cr_al hO 0 0 rfl (am_fb_ok (by decide +kernel)) ?_
  show cw_W 1 G 29 [(0, .ref q0)] [.ref q0] ((q0, .inr (0, [.int 0, .ref a0, .ref a1, .ref a2, .null, .null, .null, .int 0])) :: [(a0, cw_ia G.2.2.2.2.2.2.2.2.2.2.2.2.1 8 (fun _ => 0)), (a1, cw_ia G.2.2.2.2.2.2.2.2.2.2.2.2.1 8 (fun _ => 0)), (a2, cw_ia G.2.2.2.2.2.2.2.2.2.2.2.2.1 8 (fun _ => 0))]) 3 24
  refine cr_bp hO 48 48 (by decide) (am_fb_ok (by decide +kernel)) ?_
  show cw_W 1 G 31 [(0, .ref q0)] [.int 48, .ref q0] ((q0, .inr (0, [.int 0, .ref a0, .ref a1, .ref a2, .null, .null, .null, .int 0])) :: [(a0, cw_ia G.2.2.2.2.2.2.2.2.2.2.2.2.1 8 (fun _ => 0)), (a1, cw_ia G.2.2.2.2.2.2.2.2.2.2.2.2.1 8 (fun _ => 0)), (a2, cw_ia G.2.2.2.2.2.2.2.2.2.2.2.2.1 8 (fun _ => 0))]) 3 24
  refine cr_na hO 48 (by decide) (by decide) (by decide) (by rw [hR]; decide) (by rw [hR]; decide) (am_fb_ok (by decide +kernel)) (fun a3 => ?_)
  show cw_W 1 G 33 [(0, .ref q0)] [.ref a3, .ref q0] ((q0, .inr (0, [.int 0, .ref a0, .ref a1, .ref a2, .null, .null, .null, .int 0])) :: [(a0, cw_ia G.2.2.2.2.2.2.2.2.2.2.2.2.1 8 (fun _ => 0)), (a1, cw_ia G.2.2.2.2.2.2.2.2.2.2.2.2.1 8 (fun _ => 0)), (a2, cw_ia G.2.2.2.2.2.2.2.2.2.2.2.2.1 8 (fun _ => 0)), (a3, cw_ia G.2.2.2.2.2.2.2.2.2.2.2.2.1 48 (fun _ => 0))]) 4 72
  refine cr_pf hO 21 4 149 (ty := .array .int) rfl (by decide) rfl (by decide +kernel) (by first | rfl | decide) (by first | rfl | decide) (Nat.le_of_ble_eq_true rfl) (am_fb_ok (by decide +kernel)) ?_
  show cw_W 1 G 36 [(0, .ref q0)] [] ((q0, .inr (0, [.int 0, .ref a0, .ref a1, .ref a2, .ref a3, .null, .null, .int 0])) :: [(a0, cw_ia G.2.2.2.2.2.2.2.2.2.2.2.2.1 8 (fun _ => 0)), (a1, cw_ia G.2.2.2.2.2.2.2.2.2.2.2.2.1 8 (fun _ => 0)), (a2, cw_ia G.2.2.2.2.2.2.2.2.2.2.2.2.1 8 (fun _ => 0)), (a3, cw_ia G.2.2.2.2.2.2.2.2.2.2.2.2.1 48 (fun _ => 0))]) 4 72
  refine cr_al hO 0 0 rfl (am_fb_ok (by decide +kernel)) ?_
  show cw_W 1 G 37 [(0, .ref q0)] [.ref q0] ((q0, .inr (0, [.int 0, .ref a0, .ref a1, .ref a2, .ref a3, .null, .null, .int 0])) :: [(a0, cw_ia G.2.2.2.2.2.2.2.2.2.2.2.2.1 8 (fun _ => 0)), (a1, cw_ia G.2.2.2.2.2.2.2.2.2.2.2.2.1 8 (fun _ => 0)), (a2, cw_ia G.2.2.2.2.2.2.2.2.2.2.2.2.1 8 (fun _ => 0)), (a3, cw_ia G.2.2.2.2.2.2.2.2.2.2.2.2.1 48 (fun _ => 0))]) 4 72
  refine cr_bp hO 8 8 (by decide) (am_fb_ok (by decide +kernel)) ?_
  show cw_W 1 G 39 [(0, .ref q0)] [.int 8, .ref q0] ((q0, .inr (0, [.int 0, .ref a0, .ref a1, .ref a2, .ref a3, .null, .null, .int 0])) :: [(a0, cw_ia G.2.2.2.2.2.2.2.2.2.2.2.2.1 8 (fun _ => 0)), (a1, cw_ia G.2.2.2.2.2.2.2.2.2.2.2.2.1 8 (fun _ => 0)), (a2, cw_ia G.2.2.2.2.2.2.2.2.2.2.2.2.1 8 (fun _ => 0)), (a3, cw_ia G.2.2.2.2.2.2.2.2.2.2.2.2.1 48 (fun _ => 0))]) 4 72
  refine cr_na hO 8 (by decide) (by decide) (by decide) (by rw [hR]; decide) (by rw [hR]; decide) (am_fb_ok (by decide +kernel)) (fun a4 => ?_)
  show cw_W 1 G 41 [(0, .ref q0)] [.ref a4, .ref q0] ((q0, .inr (0, [.int 0, .ref a0, .ref a1, .ref a2, .ref a3, .null, .null, .int 0])) :: [(a0, cw_ia G.2.2.2.2.2.2.2.2.2.2.2.2.1 8 (fun _ => 0)), (a1, cw_ia G.2.2.2.2.2.2.2.2.2.2.2.2.1 8 (fun _ => 0)), (a2, cw_ia G.2.2.2.2.2.2.2.2.2.2.2.2.1 8 (fun _ => 0)), (a3, cw_ia G.2.2.2.2.2.2.2.2.2.2.2.2.1 48 (fun _ => 0)), (a4, cw_ia G.2.2.2.2.2.2.2.2.2.2.2.2.1 8 (fun _ => 0))]) 5 80
  refine cr_pf hO 24 5 150 (ty := .array .int) rfl (by decide) rfl (by decide +kernel) (by first | rfl | decide) (by first | rfl | decide) (Nat.le_of_ble_eq_true rfl) (am_fb_ok (by decide +kernel)) ?_
  show cw_W 1 G 44 [(0, .ref q0)] [] ((q0, .inr (0, [.int 0, .ref a0, .ref a1, .ref a2, .ref a3, .ref a4, .null, .int 0])) :: [(a0, cw_ia G.2.2.2.2.2.2.2.2.2.2.2.2.1 8 (fun _ => 0)), (a1, cw_ia G.2.2.2.2.2.2.2.2.2.2.2.2.1 8 (fun _ => 0)), (a2, cw_ia G.2.2.2.2.2.2.2.2.2.2.2.2.1 8 (fun _ => 0)), (a3, cw_ia G.2.2.2.2.2.2.2.2.2.2.2.2.1 48 (fun _ => 0)), (a4, cw_ia G.2.2.2.2.2.2.2.2.2.2.2.2.1 8 (fun _ => 0))]) 5 80
  refine cr_al hO 0 0 rfl (am_fb_ok (by decide +kernel)) ?_
  show cw_W 1 G 45 [(0, .ref q0)] [.ref q0] ((q0, .inr (0, [.int 0, .ref a0, .ref a1, .ref a2, .ref a3, .ref a4, .null, .int 0])) :: [(a0, cw_ia G.2.2.2.2.2.2.2.2.2.2.2.2.1 8 (fun _ => 0)), (a1, cw_ia G.2.2.2.2.2.2.2.2.2.2.2.2.1 8 (fun _ => 0)), (a2, cw_ia G.2.2.2.2.2.2.2.2.2.2.2.2.1 8 (fun _ => 0)), (a3, cw_ia G.2.2.2.2.2.2.2.2.2.2.2.2.1 48 (fun _ => 0)), (a4, cw_ia G.2.2.2.2.2.2.2.2.2.2.2.2.1 8 (fun _ => 0))]) 5 80
  refine cr_bp hO 8 8 (by decide) (am_fb_ok (by decide +kernel)) ?_
  show cw_W 1 G 47 [(0, .ref q0)] [.int 8, .ref q0] ((q0, .inr (0, [.int 0, .ref a0, .ref a1, .ref a2, .ref a3, .ref a4, .null, .int 0])) :: [(a0, cw_ia G.2.2.2.2.2.2.2.2.2.2.2.2.1 8 (fun _ => 0)), (a1, cw_ia G.2.2.2.2.2.2.2.2.2.2.2.2.1 8 (fun _ => 0)), (a2, cw_ia G.2.2.2.2.2.2.2.2.2.2.2.2.1 8 (fun _ => 0)), (a3, cw_ia G.2.2.2.2.2.2.2.2.2.2.2.2.1 48 (fun _ => 0)), (a4, cw_ia G.2.2.2.2.2.2.2.2.2.2.2.2.1 8 (fun _ => 0))]) 5 80
  refine cr_na hO 8 (by decide) (by decide) (by decide) (by rw [hR]; decide) (by rw [hR]; decide) (am_fb_ok (by decide +kernel)) (fun a5 => ?_)
  show cw_W 1 G 49 [(0, .ref q0)] [.ref a5, .ref q0] ((q0, .inr (0, [.int 0, .ref a0, .ref a1, .ref a2, .ref a3, .ref a4, .null, .int 0])) :: [(a0, cw_ia G.2.2.2.2.2.2.2.2.2.2.2.2.1 8 (fun _ => 0)), (a1, cw_ia G.2.2.2.2.2.2.2.2.2.2.2.2.1 8 (fun _ => 0)), (a2, cw_ia G.2.2.2.2.2.2.2.2.2.2.2.2.1 8 (fun _ => 0)), (a3, cw_ia G.2.2.2.2.2.2.2.2.2.2.2.2.1 48 (fun _ => 0)), (a4, cw_ia G.2.2.2.2.2.2.2.2.2.2.2.2.1 8 (fun _ => 0)), (a5, cw_ia G.2.2.2.2.2.2.2.2.2.2.2.2.1 8 (fun _ => 0))]) 6 88
  refine cr_pf hO 27 6 152 (ty := .array .int) rfl (by decide) rfl (by decide +kernel) (by first | rfl | decide) (by first | rfl | decide) (Nat.le_of_ble_eq_true rfl) (am_fb_ok (by decide +kernel)) ?_
  show cw_W 1 G 52 [(0, .ref q0)] [] ((q0, .inr (0, [.int 0, .ref a0, .ref a1, .ref a2, .ref a3, .ref a4, .ref a5, .int 0])) :: [(a0, cw_ia G.2.2.2.2.2.2.2.2.2.2.2.2.1 8 (fun _ => 0)), (a1, cw_ia G.2.2.2.2.2.2.2.2.2.2.2.2.1 8 (fun _ => 0)), (a2, cw_ia G.2.2.2.2.2.2.2.2.2.2.2.2.1 8 (fun _ => 0)), (a3, cw_ia G.2.2.2.2.2.2.2.2.2.2.2.2.1 48 (fun _ => 0)), (a4, cw_ia G.2.2.2.2.2.2.2.2.2.2.2.2.1 8 (fun _ => 0)), (a5, cw_ia G.2.2.2.2.2.2.2.2.2.2.2.2.1 8 (fun _ => 0))]) 6 88
  exact hret 52 _ _ (am_fb_ok (by decide +kernel)) ⟨a0, a1, a2, a3, a4, a5, rfl⟩
def ps_X1_init (cs : Nat → ClassId) (q0 : Nat) (ws : va_W) : Prop := ∃ (a0 a1 a2 a3 : Nat), ws = ((q0, .inr (1, [.int 0, .ref a0, .ref a1, .ref a2, .ref a3, .int 0])) :: [(a0, cw_ia cs 8 (fun _ => 0)), (a1, cw_ia cs 8 (fun _ => 0)), (a2, cw_ia cs 8 (fun _ => 0)), (a3, cw_ia cs 8 (fun _ => 0))])
theorem hd_X1_init {cs : Nat → ClassId} {q0 : Nat} {w : va_W} (h : ps_X1_init cs q0 w) : ∃ vs w', w = (q0, .inr (1, vs)) :: w' := by
  obtain ⟨_, _, _, _, rfl⟩ := h
  exact ⟨_, _, rfl⟩
set_option maxHeartbeats 8000000 in
set_option maxRecDepth 100000 in
theorem cs_X1_init : cw_Sd yX1_init cX1_init 1 1 4 32 1 [.int 0, .null, .null, .null, .null, .int 0] [] (ps_X1_init) := by
  refine cw_meth (y := yX1_init) (by decide) rfl (Nat.le_of_ble_eq_true rfl) ?_
  intro G q0 hO hR hret
  show cw_W 1 G 0 [(0, .ref q0)] [] ((q0, .inr (1, [.int 0, .null, .null, .null, .null, .int 0])) :: []) 0 0
  refine cr_al hO 0 0 rfl (am_fb_ok (by decide +kernel)) ?_
  show cw_W 1 G 1 [(0, .ref q0)] [.ref q0] ((q0, .inr (1, [.int 0, .null, .null, .null, .null, .int 0])) :: []) 0 0
  refine cr_obj hO 3 177 (by rw [hR]; decide) (by rw [hR]; decide) (am_fb_ok (by decide +kernel)) ?_
  show cw_W 1 G 4 [(0, .ref q0)] [] ((q0, .inr (1, [.int 0, .null, .null, .null, .null, .int 0])) :: []) 0 0
  refine cr_al hO 0 0 rfl (am_fb_ok (by decide +kernel)) ?_
  show cw_W 1 G 5 [(0, .ref q0)] [.ref q0] ((q0, .inr (1, [.int 0, .null, .null, .null, .null, .int 0])) :: []) 0 0
  refine cr_bp hO 8 8 (by decide) (am_fb_ok (by decide +kernel)) ?_
  show cw_W 1 G 7 [(0, .ref q0)] [.int 8, .ref q0] ((q0, .inr (1, [.int 0, .null, .null, .null, .null, .int 0])) :: []) 0 0
  refine cr_na hO 8 (by decide) (by decide) (by decide) (by rw [hR]; decide) (by rw [hR]; decide) (am_fb_ok (by decide +kernel)) (fun a0 => ?_)
  show cw_W 1 G 9 [(0, .ref q0)] [.ref a0, .ref q0] ((q0, .inr (1, [.int 0, .null, .null, .null, .null, .int 0])) :: [(a0, cw_ia G.2.2.2.2.2.2.2.2.2.2.2.2.1 8 (fun _ => 0))]) 1 8
  refine cr_pf hO 9 1 181 (ty := .array .int) rfl (by decide) rfl (by decide +kernel) (by first | rfl | decide) (by first | rfl | decide) (Nat.le_of_ble_eq_true rfl) (am_fb_ok (by decide +kernel)) ?_
  show cw_W 1 G 12 [(0, .ref q0)] [] ((q0, .inr (1, [.int 0, .ref a0, .null, .null, .null, .int 0])) :: [(a0, cw_ia G.2.2.2.2.2.2.2.2.2.2.2.2.1 8 (fun _ => 0))]) 1 8
  refine cr_al hO 0 0 rfl (am_fb_ok (by decide +kernel)) ?_
  show cw_W 1 G 13 [(0, .ref q0)] [.ref q0] ((q0, .inr (1, [.int 0, .ref a0, .null, .null, .null, .int 0])) :: [(a0, cw_ia G.2.2.2.2.2.2.2.2.2.2.2.2.1 8 (fun _ => 0))]) 1 8
  refine cr_bp hO 8 8 (by decide) (am_fb_ok (by decide +kernel)) ?_
  show cw_W 1 G 15 [(0, .ref q0)] [.int 8, .ref q0] ((q0, .inr (1, [.int 0, .ref a0, .null, .null, .null, .int 0])) :: [(a0, cw_ia G.2.2.2.2.2.2.2.2.2.2.2.2.1 8 (fun _ => 0))]) 1 8
  refine cr_na hO 8 (by decide) (by decide) (by decide) (by rw [hR]; decide) (by rw [hR]; decide) (am_fb_ok (by decide +kernel)) (fun a1 => ?_)
  show cw_W 1 G 17 [(0, .ref q0)] [.ref a1, .ref q0] ((q0, .inr (1, [.int 0, .ref a0, .null, .null, .null, .int 0])) :: [(a0, cw_ia G.2.2.2.2.2.2.2.2.2.2.2.2.1 8 (fun _ => 0)), (a1, cw_ia G.2.2.2.2.2.2.2.2.2.2.2.2.1 8 (fun _ => 0))]) 2 16
  refine cr_pf hO 15 2 183 (ty := .array .int) rfl (by decide) rfl (by decide +kernel) (by first | rfl | decide) (by first | rfl | decide) (Nat.le_of_ble_eq_true rfl) (am_fb_ok (by decide +kernel)) ?_
  show cw_W 1 G 20 [(0, .ref q0)] [] ((q0, .inr (1, [.int 0, .ref a0, .ref a1, .null, .null, .int 0])) :: [(a0, cw_ia G.2.2.2.2.2.2.2.2.2.2.2.2.1 8 (fun _ => 0)), (a1, cw_ia G.2.2.2.2.2.2.2.2.2.2.2.2.1 8 (fun _ => 0))]) 2 16
  refine cr_al hO 0 0 rfl (am_fb_ok (by decide +kernel)) ?_
  show cw_W 1 G 21 [(0, .ref q0)] [.ref q0] ((q0, .inr (1, [.int 0, .ref a0, .ref a1, .null, .null, .int 0])) :: [(a0, cw_ia G.2.2.2.2.2.2.2.2.2.2.2.2.1 8 (fun _ => 0)), (a1, cw_ia G.2.2.2.2.2.2.2.2.2.2.2.2.1 8 (fun _ => 0))]) 2 16
  refine cr_bp hO 8 8 (by decide) (am_fb_ok (by decide +kernel)) ?_
  show cw_W 1 G 23 [(0, .ref q0)] [.int 8, .ref q0] ((q0, .inr (1, [.int 0, .ref a0, .ref a1, .null, .null, .int 0])) :: [(a0, cw_ia G.2.2.2.2.2.2.2.2.2.2.2.2.1 8 (fun _ => 0)), (a1, cw_ia G.2.2.2.2.2.2.2.2.2.2.2.2.1 8 (fun _ => 0))]) 2 16
  refine cr_na hO 8 (by decide) (by decide) (by decide) (by rw [hR]; decide) (by rw [hR]; decide) (am_fb_ok (by decide +kernel)) (fun a2 => ?_)
  show cw_W 1 G 25 [(0, .ref q0)] [.ref a2, .ref q0] ((q0, .inr (1, [.int 0, .ref a0, .ref a1, .null, .null, .int 0])) :: [(a0, cw_ia G.2.2.2.2.2.2.2.2.2.2.2.2.1 8 (fun _ => 0)), (a1, cw_ia G.2.2.2.2.2.2.2.2.2.2.2.2.1 8 (fun _ => 0)), (a2, cw_ia G.2.2.2.2.2.2.2.2.2.2.2.2.1 8 (fun _ => 0))]) 3 24
  refine cr_pf hO 18 3 185 (ty := .array .int) rfl (by decide) rfl (by decide +kernel) (by first | rfl | decide) (by first | rfl | decide) (Nat.le_of_ble_eq_true rfl) (am_fb_ok (by decide +kernel)) ?_
  show cw_W 1 G 28 [(0, .ref q0)] [] ((q0, .inr (1, [.int 0, .ref a0, .ref a1, .ref a2, .null, .int 0])) :: [(a0, cw_ia G.2.2.2.2.2.2.2.2.2.2.2.2.1 8 (fun _ => 0)), (a1, cw_ia G.2.2.2.2.2.2.2.2.2.2.2.2.1 8 (fun _ => 0)), (a2, cw_ia G.2.2.2.2.2.2.2.2.2.2.2.2.1 8 (fun _ => 0))]) 3 24
  refine cr_al hO 0 0 rfl (am_fb_ok (by decide +kernel)) ?_
  show cw_W 1 G 29 [(0, .ref q0)] [.ref q0] ((q0, .inr (1, [.int 0, .ref a0, .ref a1, .ref a2, .null, .int 0])) :: [(a0, cw_ia G.2.2.2.2.2.2.2.2.2.2.2.2.1 8 (fun _ => 0)), (a1, cw_ia G.2.2.2.2.2.2.2.2.2.2.2.2.1 8 (fun _ => 0)), (a2, cw_ia G.2.2.2.2.2.2.2.2.2.2.2.2.1 8 (fun _ => 0))]) 3 24
  refine cr_bp hO 8 8 (by decide) (am_fb_ok (by decide +kernel)) ?_
  show cw_W 1 G 31 [(0, .ref q0)] [.int 8, .ref q0] ((q0, .inr (1, [.int 0, .ref a0, .ref a1, .ref a2, .null, .int 0])) :: [(a0, cw_ia G.2.2.2.2.2.2.2.2.2.2.2.2.1 8 (fun _ => 0)), (a1, cw_ia G.2.2.2.2.2.2.2.2.2.2.2.2.1 8 (fun _ => 0)), (a2, cw_ia G.2.2.2.2.2.2.2.2.2.2.2.2.1 8 (fun _ => 0))]) 3 24
  refine cr_na hO 8 (by decide) (by decide) (by decide) (by rw [hR]; decide) (by rw [hR]; decide) (am_fb_ok (by decide +kernel)) (fun a3 => ?_)
  show cw_W 1 G 33 [(0, .ref q0)] [.ref a3, .ref q0] ((q0, .inr (1, [.int 0, .ref a0, .ref a1, .ref a2, .null, .int 0])) :: [(a0, cw_ia G.2.2.2.2.2.2.2.2.2.2.2.2.1 8 (fun _ => 0)), (a1, cw_ia G.2.2.2.2.2.2.2.2.2.2.2.2.1 8 (fun _ => 0)), (a2, cw_ia G.2.2.2.2.2.2.2.2.2.2.2.2.1 8 (fun _ => 0)), (a3, cw_ia G.2.2.2.2.2.2.2.2.2.2.2.2.1 8 (fun _ => 0))]) 4 32
  refine cr_pf hO 21 4 188 (ty := .array .int) rfl (by decide) rfl (by decide +kernel) (by first | rfl | decide) (by first | rfl | decide) (Nat.le_of_ble_eq_true rfl) (am_fb_ok (by decide +kernel)) ?_
  show cw_W 1 G 36 [(0, .ref q0)] [] ((q0, .inr (1, [.int 0, .ref a0, .ref a1, .ref a2, .ref a3, .int 0])) :: [(a0, cw_ia G.2.2.2.2.2.2.2.2.2.2.2.2.1 8 (fun _ => 0)), (a1, cw_ia G.2.2.2.2.2.2.2.2.2.2.2.2.1 8 (fun _ => 0)), (a2, cw_ia G.2.2.2.2.2.2.2.2.2.2.2.2.1 8 (fun _ => 0)), (a3, cw_ia G.2.2.2.2.2.2.2.2.2.2.2.2.1 8 (fun _ => 0))]) 4 32
  exact hret 36 _ _ (am_fb_ok (by decide +kernel)) ⟨a0, a1, a2, a3, rfl⟩
def ps_X2_init (cs : Nat → ClassId) (q0 : Nat) (ws : va_W) : Prop := ∃ (a0 a1 : Nat), ws = ((q0, .inr (2, [.ref a0, .ref a1, .int 0])) :: [(a0, cw_ia cs 6 (fun _ => 0)), (a1, cw_ia cs 24 (fun _ => 0))])
theorem hd_X2_init {cs : Nat → ClassId} {q0 : Nat} {w : va_W} (h : ps_X2_init cs q0 w) : ∃ vs w', w = (q0, .inr (2, vs)) :: w' := by
  obtain ⟨_, _, rfl⟩ := h
  exact ⟨_, _, rfl⟩
set_option maxHeartbeats 8000000 in
set_option maxRecDepth 100000 in
theorem cs_X2_init : cw_Sd yX2_init cX2_init 1 1 2 30 2 [.null, .null, .int 0] [] (ps_X2_init) := by
  refine cw_meth (y := yX2_init) (by decide) rfl (Nat.le_of_ble_eq_true rfl) ?_
  intro G q0 hO hR hret
  show cw_W 1 G 0 [(0, .ref q0)] [] ((q0, .inr (2, [.null, .null, .int 0])) :: []) 0 0
  refine cr_al hO 0 0 rfl (am_fb_ok (by decide +kernel)) ?_
  show cw_W 1 G 1 [(0, .ref q0)] [.ref q0] ((q0, .inr (2, [.null, .null, .int 0])) :: []) 0 0
  refine cr_obj hO 3 325 (by rw [hR]; decide) (by rw [hR]; decide) (am_fb_ok (by decide +kernel)) ?_
  show cw_W 1 G 4 [(0, .ref q0)] [] ((q0, .inr (2, [.null, .null, .int 0])) :: []) 0 0
  refine cr_al hO 0 0 rfl (am_fb_ok (by decide +kernel)) ?_
  show cw_W 1 G 5 [(0, .ref q0)] [.ref q0] ((q0, .inr (2, [.null, .null, .int 0])) :: []) 0 0
  refine cr_bp hO 6 6 (by decide) (am_fb_ok (by decide +kernel)) ?_
  show cw_W 1 G 7 [(0, .ref q0)] [.int 6, .ref q0] ((q0, .inr (2, [.null, .null, .int 0])) :: []) 0 0
  refine cr_na hO 6 (by decide) (by decide) (by decide) (by rw [hR]; decide) (by rw [hR]; decide) (am_fb_ok (by decide +kernel)) (fun a0 => ?_)
  show cw_W 1 G 9 [(0, .ref q0)] [.ref a0, .ref q0] ((q0, .inr (2, [.null, .null, .int 0])) :: [(a0, cw_ia G.2.2.2.2.2.2.2.2.2.2.2.2.1 6 (fun _ => 0))]) 1 6
  refine cr_pf hO 9 0 326 (ty := .array .int) rfl (by decide) rfl (by decide +kernel) (by first | rfl | decide) (by first | rfl | decide) (Nat.le_of_ble_eq_true rfl) (am_fb_ok (by decide +kernel)) ?_
  show cw_W 1 G 12 [(0, .ref q0)] [] ((q0, .inr (2, [.ref a0, .null, .int 0])) :: [(a0, cw_ia G.2.2.2.2.2.2.2.2.2.2.2.2.1 6 (fun _ => 0))]) 1 6
  refine cr_al hO 0 0 rfl (am_fb_ok (by decide +kernel)) ?_
  show cw_W 1 G 13 [(0, .ref q0)] [.ref q0] ((q0, .inr (2, [.ref a0, .null, .int 0])) :: [(a0, cw_ia G.2.2.2.2.2.2.2.2.2.2.2.2.1 6 (fun _ => 0))]) 1 6
  refine cr_bp hO 24 24 (by decide) (am_fb_ok (by decide +kernel)) ?_
  show cw_W 1 G 15 [(0, .ref q0)] [.int 24, .ref q0] ((q0, .inr (2, [.ref a0, .null, .int 0])) :: [(a0, cw_ia G.2.2.2.2.2.2.2.2.2.2.2.2.1 6 (fun _ => 0))]) 1 6
  refine cr_na hO 24 (by decide) (by decide) (by decide) (by rw [hR]; decide) (by rw [hR]; decide) (am_fb_ok (by decide +kernel)) (fun a1 => ?_)
  show cw_W 1 G 17 [(0, .ref q0)] [.ref a1, .ref q0] ((q0, .inr (2, [.ref a0, .null, .int 0])) :: [(a0, cw_ia G.2.2.2.2.2.2.2.2.2.2.2.2.1 6 (fun _ => 0)), (a1, cw_ia G.2.2.2.2.2.2.2.2.2.2.2.2.1 24 (fun _ => 0))]) 2 30
  refine cr_pf hO 15 1 328 (ty := .array .int) rfl (by decide) rfl (by decide +kernel) (by first | rfl | decide) (by first | rfl | decide) (Nat.le_of_ble_eq_true rfl) (am_fb_ok (by decide +kernel)) ?_
  show cw_W 1 G 20 [(0, .ref q0)] [] ((q0, .inr (2, [.ref a0, .ref a1, .int 0])) :: [(a0, cw_ia G.2.2.2.2.2.2.2.2.2.2.2.2.1 6 (fun _ => 0)), (a1, cw_ia G.2.2.2.2.2.2.2.2.2.2.2.2.1 24 (fun _ => 0))]) 2 30
  exact hret 20 _ _ (am_fb_ok (by decide +kernel)) ⟨a0, a1, rfl⟩
def ps_X3_init (cs : Nat → ClassId) (q0 : Nat) (ws : va_W) : Prop := ∃ (a0 a1 : Nat), ws = ((q0, .inr (3, [.ref a0, .ref a1, .int 0, .int 0, .int 0])) :: [(a0, cw_ia cs 20 (fun _ => 0)), (a1, cw_ia cs 20 (fun _ => 0))])
theorem hd_X3_init {cs : Nat → ClassId} {q0 : Nat} {w : va_W} (h : ps_X3_init cs q0 w) : ∃ vs w', w = (q0, .inr (3, vs)) :: w' := by
  obtain ⟨_, _, rfl⟩ := h
  exact ⟨_, _, rfl⟩
set_option maxHeartbeats 8000000 in
set_option maxRecDepth 100000 in
theorem cs_X3_init : cw_Sd yX3_init cX3_init 1 1 2 40 3 [.null, .null, .int 0, .int 0, .int 0] [] (ps_X3_init) := by
  refine cw_meth (y := yX3_init) (by decide) rfl (Nat.le_of_ble_eq_true rfl) ?_
  intro G q0 hO hR hret
  show cw_W 1 G 0 [(0, .ref q0)] [] ((q0, .inr (3, [.null, .null, .int 0, .int 0, .int 0])) :: []) 0 0
  refine cr_al hO 0 0 rfl (am_fb_ok (by decide +kernel)) ?_
  show cw_W 1 G 1 [(0, .ref q0)] [.ref q0] ((q0, .inr (3, [.null, .null, .int 0, .int 0, .int 0])) :: []) 0 0
  refine cr_obj hO 3 216 (by rw [hR]; decide) (by rw [hR]; decide) (am_fb_ok (by decide +kernel)) ?_
  show cw_W 1 G 4 [(0, .ref q0)] [] ((q0, .inr (3, [.null, .null, .int 0, .int 0, .int 0])) :: []) 0 0
  refine cr_al hO 0 0 rfl (am_fb_ok (by decide +kernel)) ?_
  show cw_W 1 G 5 [(0, .ref q0)] [.ref q0] ((q0, .inr (3, [.null, .null, .int 0, .int 0, .int 0])) :: []) 0 0
  refine cr_bp hO 20 20 (by decide) (am_fb_ok (by decide +kernel)) ?_
  show cw_W 1 G 7 [(0, .ref q0)] [.int 20, .ref q0] ((q0, .inr (3, [.null, .null, .int 0, .int 0, .int 0])) :: []) 0 0
  refine cr_na hO 20 (by decide) (by decide) (by decide) (by rw [hR]; decide) (by rw [hR]; decide) (am_fb_ok (by decide +kernel)) (fun a0 => ?_)
  show cw_W 1 G 9 [(0, .ref q0)] [.ref a0, .ref q0] ((q0, .inr (3, [.null, .null, .int 0, .int 0, .int 0])) :: [(a0, cw_ia G.2.2.2.2.2.2.2.2.2.2.2.2.1 20 (fun _ => 0))]) 1 20
  refine cr_pf hO 9 0 217 (ty := .array .int) rfl (by decide) rfl (by decide +kernel) (by first | rfl | decide) (by first | rfl | decide) (Nat.le_of_ble_eq_true rfl) (am_fb_ok (by decide +kernel)) ?_
  show cw_W 1 G 12 [(0, .ref q0)] [] ((q0, .inr (3, [.ref a0, .null, .int 0, .int 0, .int 0])) :: [(a0, cw_ia G.2.2.2.2.2.2.2.2.2.2.2.2.1 20 (fun _ => 0))]) 1 20
  refine cr_al hO 0 0 rfl (am_fb_ok (by decide +kernel)) ?_
  show cw_W 1 G 13 [(0, .ref q0)] [.ref q0] ((q0, .inr (3, [.ref a0, .null, .int 0, .int 0, .int 0])) :: [(a0, cw_ia G.2.2.2.2.2.2.2.2.2.2.2.2.1 20 (fun _ => 0))]) 1 20
  refine cr_bp hO 20 20 (by decide) (am_fb_ok (by decide +kernel)) ?_
  show cw_W 1 G 15 [(0, .ref q0)] [.int 20, .ref q0] ((q0, .inr (3, [.ref a0, .null, .int 0, .int 0, .int 0])) :: [(a0, cw_ia G.2.2.2.2.2.2.2.2.2.2.2.2.1 20 (fun _ => 0))]) 1 20
  refine cr_na hO 20 (by decide) (by decide) (by decide) (by rw [hR]; decide) (by rw [hR]; decide) (am_fb_ok (by decide +kernel)) (fun a1 => ?_)
  show cw_W 1 G 17 [(0, .ref q0)] [.ref a1, .ref q0] ((q0, .inr (3, [.ref a0, .null, .int 0, .int 0, .int 0])) :: [(a0, cw_ia G.2.2.2.2.2.2.2.2.2.2.2.2.1 20 (fun _ => 0)), (a1, cw_ia G.2.2.2.2.2.2.2.2.2.2.2.2.1 20 (fun _ => 0))]) 2 40
  refine cr_pf hO 15 1 222 (ty := .array .int) rfl (by decide) rfl (by decide +kernel) (by first | rfl | decide) (by first | rfl | decide) (Nat.le_of_ble_eq_true rfl) (am_fb_ok (by decide +kernel)) ?_
  show cw_W 1 G 20 [(0, .ref q0)] [] ((q0, .inr (3, [.ref a0, .ref a1, .int 0, .int 0, .int 0])) :: [(a0, cw_ia G.2.2.2.2.2.2.2.2.2.2.2.2.1 20 (fun _ => 0)), (a1, cw_ia G.2.2.2.2.2.2.2.2.2.2.2.2.1 20 (fun _ => 0))]) 2 40
  exact hret 20 _ _ (am_fb_ok (by decide +kernel)) ⟨a0, a1, rfl⟩
def ps_X4_init (cs : Nat → ClassId) (q0 : Nat) (ws : va_W) : Prop := ∃ (a0 : Nat), ws = ((q0, .inr (4, [.int 1, .int 0, .int 0, .ref a0])) :: [(a0, cw_ia cs 60 (fun _ => 0))])
theorem hd_X4_init {cs : Nat → ClassId} {q0 : Nat} {w : va_W} (h : ps_X4_init cs q0 w) : ∃ vs w', w = (q0, .inr (4, vs)) :: w' := by
  obtain ⟨_, rfl⟩ := h
  exact ⟨_, _, rfl⟩
set_option maxHeartbeats 8000000 in
set_option maxRecDepth 100000 in
theorem cs_X4_init : cw_Sd yX4_init cX4_init 1 1 1 60 4 [.int 0, .int 0, .int 0, .null] [] (ps_X4_init) := by
  refine cw_meth (y := yX4_init) (by decide) rfl (Nat.le_of_ble_eq_true rfl) ?_
  intro G q0 hO hR hret
  show cw_W 1 G 0 [(0, .ref q0)] [] ((q0, .inr (4, [.int 0, .int 0, .int 0, .null])) :: []) 0 0
  refine cr_al hO 0 0 rfl (am_fb_ok (by decide +kernel)) ?_
  show cw_W 1 G 1 [(0, .ref q0)] [.ref q0] ((q0, .inr (4, [.int 0, .int 0, .int 0, .null])) :: []) 0 0
  refine cr_obj hO 3 343 (by rw [hR]; decide) (by rw [hR]; decide) (am_fb_ok (by decide +kernel)) ?_
  show cw_W 1 G 4 [(0, .ref q0)] [] ((q0, .inr (4, [.int 0, .int 0, .int 0, .null])) :: []) 0 0
  refine cr_al hO 0 0 rfl (am_fb_ok (by decide +kernel)) ?_
  show cw_W 1 G 5 [(0, .ref q0)] [.ref q0] ((q0, .inr (4, [.int 0, .int 0, .int 0, .null])) :: []) 0 0
  refine cr_ic hO 1 1 (by decide) (am_fb_ok (by decide +kernel)) ?_
  show cw_W 1 G 6 [(0, .ref q0)] [.int 1, .ref q0] ((q0, .inr (4, [.int 0, .int 0, .int 0, .null])) :: []) 0 0
  refine cr_pf hO 9 0 344 (ty := .boolean) rfl (by decide) rfl (by decide +kernel) (by first | rfl | decide) (by first | rfl | decide) (Nat.le_of_ble_eq_true rfl) (am_fb_ok (by decide +kernel)) ?_
  show cw_W 1 G 9 [(0, .ref q0)] [] ((q0, .inr (4, [.int 1, .int 0, .int 0, .null])) :: []) 0 0
  refine cr_al hO 0 0 rfl (am_fb_ok (by decide +kernel)) ?_
  show cw_W 1 G 10 [(0, .ref q0)] [.ref q0] ((q0, .inr (4, [.int 1, .int 0, .int 0, .null])) :: []) 0 0
  refine cr_bp hO 60 60 (by decide) (am_fb_ok (by decide +kernel)) ?_
  show cw_W 1 G 12 [(0, .ref q0)] [.int 60, .ref q0] ((q0, .inr (4, [.int 1, .int 0, .int 0, .null])) :: []) 0 0
  refine cr_na hO 60 (by decide) (by decide) (by decide) (by rw [hR]; decide) (by rw [hR]; decide) (am_fb_ok (by decide +kernel)) (fun a0 => ?_)
  show cw_W 1 G 14 [(0, .ref q0)] [.ref a0, .ref q0] ((q0, .inr (4, [.int 1, .int 0, .int 0, .null])) :: [(a0, cw_ia G.2.2.2.2.2.2.2.2.2.2.2.2.1 60 (fun _ => 0))]) 1 60
  refine cr_pf hO 15 3 350 (ty := .array .int) rfl (by decide) rfl (by decide +kernel) (by first | rfl | decide) (by first | rfl | decide) (Nat.le_of_ble_eq_true rfl) (am_fb_ok (by decide +kernel)) ?_
  show cw_W 1 G 17 [(0, .ref q0)] [] ((q0, .inr (4, [.int 1, .int 0, .int 0, .ref a0])) :: [(a0, cw_ia G.2.2.2.2.2.2.2.2.2.2.2.2.1 60 (fun _ => 0))]) 1 60
  exact hret 17 _ _ (am_fb_ok (by decide +kernel)) ⟨a0, rfl⟩
def ps_X6_init (cs : Nat → ClassId) (q0 : Nat) (ws : va_W) : Prop := ∃ (a0 a1 a2 a3 : Nat), ws = ((q0, .inr (6, [.int 0, .ref a0, .ref a1, .ref a2, .ref a3])) :: [(a0, cw_ia cs 8 (fun _ => 0)), (a1, cw_ia cs 8 (fun _ => 0)), (a2, cw_ia cs 8 (fun _ => 0)), (a3, cw_ia cs 100 (fun _ => 0))])
theorem hd_X6_init {cs : Nat → ClassId} {q0 : Nat} {w : va_W} (h : ps_X6_init cs q0 w) : ∃ vs w', w = (q0, .inr (6, vs)) :: w' := by
  obtain ⟨_, _, _, _, rfl⟩ := h
  exact ⟨_, _, rfl⟩
set_option maxHeartbeats 8000000 in
set_option maxRecDepth 100000 in
theorem cs_X6_init : cw_Sd yX6_init cX6_init 1 1 4 124 6 [.int 0, .null, .null, .null, .null] [] (ps_X6_init) := by
  refine cw_meth (y := yX6_init) (by decide) rfl (Nat.le_of_ble_eq_true rfl) ?_
  intro G q0 hO hR hret
  show cw_W 1 G 0 [(0, .ref q0)] [] ((q0, .inr (6, [.int 0, .null, .null, .null, .null])) :: []) 0 0
  refine cr_al hO 0 0 rfl (am_fb_ok (by decide +kernel)) ?_
  show cw_W 1 G 1 [(0, .ref q0)] [.ref q0] ((q0, .inr (6, [.int 0, .null, .null, .null, .null])) :: []) 0 0
  refine cr_obj hO 3 298 (by rw [hR]; decide) (by rw [hR]; decide) (am_fb_ok (by decide +kernel)) ?_
  show cw_W 1 G 4 [(0, .ref q0)] [] ((q0, .inr (6, [.int 0, .null, .null, .null, .null])) :: []) 0 0
  refine cr_al hO 0 0 rfl (am_fb_ok (by decide +kernel)) ?_
  show cw_W 1 G 5 [(0, .ref q0)] [.ref q0] ((q0, .inr (6, [.int 0, .null, .null, .null, .null])) :: []) 0 0
  refine cr_bp hO 8 8 (by decide) (am_fb_ok (by decide +kernel)) ?_
  show cw_W 1 G 7 [(0, .ref q0)] [.int 8, .ref q0] ((q0, .inr (6, [.int 0, .null, .null, .null, .null])) :: []) 0 0
  refine cr_na hO 8 (by decide) (by decide) (by decide) (by rw [hR]; decide) (by rw [hR]; decide) (am_fb_ok (by decide +kernel)) (fun a0 => ?_)
  show cw_W 1 G 9 [(0, .ref q0)] [.ref a0, .ref q0] ((q0, .inr (6, [.int 0, .null, .null, .null, .null])) :: [(a0, cw_ia G.2.2.2.2.2.2.2.2.2.2.2.2.1 8 (fun _ => 0))]) 1 8
  refine cr_pf hO 9 1 301 (ty := .array .int) rfl (by decide) rfl (by decide +kernel) (by first | rfl | decide) (by first | rfl | decide) (Nat.le_of_ble_eq_true rfl) (am_fb_ok (by decide +kernel)) ?_
  show cw_W 1 G 12 [(0, .ref q0)] [] ((q0, .inr (6, [.int 0, .ref a0, .null, .null, .null])) :: [(a0, cw_ia G.2.2.2.2.2.2.2.2.2.2.2.2.1 8 (fun _ => 0))]) 1 8
  refine cr_al hO 0 0 rfl (am_fb_ok (by decide +kernel)) ?_
  show cw_W 1 G 13 [(0, .ref q0)] [.ref q0] ((q0, .inr (6, [.int 0, .ref a0, .null, .null, .null])) :: [(a0, cw_ia G.2.2.2.2.2.2.2.2.2.2.2.2.1 8 (fun _ => 0))]) 1 8
  refine cr_bp hO 8 8 (by decide) (am_fb_ok (by decide +kernel)) ?_
  show cw_W 1 G 15 [(0, .ref q0)] [.int 8, .ref q0] ((q0, .inr (6, [.int 0, .ref a0, .null, .null, .null])) :: [(a0, cw_ia G.2.2.2.2.2.2.2.2.2.2.2.2.1 8 (fun _ => 0))]) 1 8
  refine cr_na hO 8 (by decide) (by decide) (by decide) (by rw [hR]; decide) (by rw [hR]; decide) (am_fb_ok (by decide +kernel)) (fun a1 => ?_)
  show cw_W 1 G 17 [(0, .ref q0)] [.ref a1, .ref q0] ((q0, .inr (6, [.int 0, .ref a0, .null, .null, .null])) :: [(a0, cw_ia G.2.2.2.2.2.2.2.2.2.2.2.2.1 8 (fun _ => 0)), (a1, cw_ia G.2.2.2.2.2.2.2.2.2.2.2.2.1 8 (fun _ => 0))]) 2 16
  refine cr_pf hO 15 2 303 (ty := .array .int) rfl (by decide) rfl (by decide +kernel) (by first | rfl | decide) (by first | rfl | decide) (Nat.le_of_ble_eq_true rfl) (am_fb_ok (by decide +kernel)) ?_
  show cw_W 1 G 20 [(0, .ref q0)] [] ((q0, .inr (6, [.int 0, .ref a0, .ref a1, .null, .null])) :: [(a0, cw_ia G.2.2.2.2.2.2.2.2.2.2.2.2.1 8 (fun _ => 0)), (a1, cw_ia G.2.2.2.2.2.2.2.2.2.2.2.2.1 8 (fun _ => 0))]) 2 16
  refine cr_al hO 0 0 rfl (am_fb_ok (by decide +kernel)) ?_
  show cw_W 1 G 21 [(0, .ref q0)] [.ref q0] ((q0, .inr (6, [.int 0, .ref a0, .ref a1, .null, .null])) :: [(a0, cw_ia G.2.2.2.2.2.2.2.2.2.2.2.2.1 8 (fun _ => 0)), (a1, cw_ia G.2.2.2.2.2.2.2.2.2.2.2.2.1 8 (fun _ => 0))]) 2 16
  refine cr_bp hO 8 8 (by decide) (am_fb_ok (by decide +kernel)) ?_
  show cw_W 1 G 23 [(0, .ref q0)] [.int 8, .ref q0] ((q0, .inr (6, [.int 0, .ref a0, .ref a1, .null, .null])) :: [(a0, cw_ia G.2.2.2.2.2.2.2.2.2.2.2.2.1 8 (fun _ => 0)), (a1, cw_ia G.2.2.2.2.2.2.2.2.2.2.2.2.1 8 (fun _ => 0))]) 2 16
  refine cr_na hO 8 (by decide) (by decide) (by decide) (by rw [hR]; decide) (by rw [hR]; decide) (am_fb_ok (by decide +kernel)) (fun a2 => ?_)
  show cw_W 1 G 25 [(0, .ref q0)] [.ref a2, .ref q0] ((q0, .inr (6, [.int 0, .ref a0, .ref a1, .null, .null])) :: [(a0, cw_ia G.2.2.2.2.2.2.2.2.2.2.2.2.1 8 (fun _ => 0)), (a1, cw_ia G.2.2.2.2.2.2.2.2.2.2.2.2.1 8 (fun _ => 0)), (a2, cw_ia G.2.2.2.2.2.2.2.2.2.2.2.2.1 8 (fun _ => 0))]) 3 24
  refine cr_pf hO 18 3 305 (ty := .array .int) rfl (by decide) rfl (by decide +kernel) (by first | rfl | decide) (by first | rfl | decide) (Nat.le_of_ble_eq_true rfl) (am_fb_ok (by decide +kernel)) ?_
  show cw_W 1 G 28 [(0, .ref q0)] [] ((q0, .inr (6, [.int 0, .ref a0, .ref a1, .ref a2, .null])) :: [(a0, cw_ia G.2.2.2.2.2.2.2.2.2.2.2.2.1 8 (fun _ => 0)), (a1, cw_ia G.2.2.2.2.2.2.2.2.2.2.2.2.1 8 (fun _ => 0)), (a2, cw_ia G.2.2.2.2.2.2.2.2.2.2.2.2.1 8 (fun _ => 0))]) 3 24
  refine cr_al hO 0 0 rfl (am_fb_ok (by decide +kernel)) ?_
  show cw_W 1 G 29 [(0, .ref q0)] [.ref q0] ((q0, .inr (6, [.int 0, .ref a0, .ref a1, .ref a2, .null])) :: [(a0, cw_ia G.2.2.2.2.2.2.2.2.2.2.2.2.1 8 (fun _ => 0)), (a1, cw_ia G.2.2.2.2.2.2.2.2.2.2.2.2.1 8 (fun _ => 0)), (a2, cw_ia G.2.2.2.2.2.2.2.2.2.2.2.2.1 8 (fun _ => 0))]) 3 24
  refine cr_bp hO 100 100 (by decide) (am_fb_ok (by decide +kernel)) ?_
  show cw_W 1 G 31 [(0, .ref q0)] [.int 100, .ref q0] ((q0, .inr (6, [.int 0, .ref a0, .ref a1, .ref a2, .null])) :: [(a0, cw_ia G.2.2.2.2.2.2.2.2.2.2.2.2.1 8 (fun _ => 0)), (a1, cw_ia G.2.2.2.2.2.2.2.2.2.2.2.2.1 8 (fun _ => 0)), (a2, cw_ia G.2.2.2.2.2.2.2.2.2.2.2.2.1 8 (fun _ => 0))]) 3 24
  refine cr_na hO 100 (by decide) (by decide) (by decide) (by rw [hR]; decide) (by rw [hR]; decide) (am_fb_ok (by decide +kernel)) (fun a3 => ?_)
  show cw_W 1 G 33 [(0, .ref q0)] [.ref a3, .ref q0] ((q0, .inr (6, [.int 0, .ref a0, .ref a1, .ref a2, .null])) :: [(a0, cw_ia G.2.2.2.2.2.2.2.2.2.2.2.2.1 8 (fun _ => 0)), (a1, cw_ia G.2.2.2.2.2.2.2.2.2.2.2.2.1 8 (fun _ => 0)), (a2, cw_ia G.2.2.2.2.2.2.2.2.2.2.2.2.1 8 (fun _ => 0)), (a3, cw_ia G.2.2.2.2.2.2.2.2.2.2.2.2.1 100 (fun _ => 0))]) 4 124
  refine cr_pf hO 21 4 307 (ty := .array .int) rfl (by decide) rfl (by decide +kernel) (by first | rfl | decide) (by first | rfl | decide) (Nat.le_of_ble_eq_true rfl) (am_fb_ok (by decide +kernel)) ?_
  show cw_W 1 G 36 [(0, .ref q0)] [] ((q0, .inr (6, [.int 0, .ref a0, .ref a1, .ref a2, .ref a3])) :: [(a0, cw_ia G.2.2.2.2.2.2.2.2.2.2.2.2.1 8 (fun _ => 0)), (a1, cw_ia G.2.2.2.2.2.2.2.2.2.2.2.2.1 8 (fun _ => 0)), (a2, cw_ia G.2.2.2.2.2.2.2.2.2.2.2.2.1 8 (fun _ => 0)), (a3, cw_ia G.2.2.2.2.2.2.2.2.2.2.2.2.1 100 (fun _ => 0))]) 4 124
  exact hret 36 _ _ (am_fb_ok (by decide +kernel)) ⟨a0, a1, a2, a3, rfl⟩
def ps_X8_init (cs : Nat → ClassId) (q0 : Nat) (ws : va_W) : Prop := ∃ (a0 a1 a2 : Nat), ws = ((q0, .inr (8, [.int 0, .int 0, .ref a0, .int 1, .ref a1, .ref a2, .int 0])) :: [(a0, cw_ia cs 8 (fun _ => 0)), (a1, cw_ia cs 8 (fun _ => 0)), (a2, cw_ia cs 2048 (fun _ => 0))])
theorem hd_X8_init {cs : Nat → ClassId} {q0 : Nat} {w : va_W} (h : ps_X8_init cs q0 w) : ∃ vs w', w = (q0, .inr (8, vs)) :: w' := by
  obtain ⟨_, _, _, rfl⟩ := h
  exact ⟨_, _, rfl⟩
set_option maxHeartbeats 8000000 in
set_option maxRecDepth 100000 in
theorem cs_X8_init : cw_Sd yX8_init cX8_init 1 1 3 2064 8 [.int 0, .int 0, .null, .int 0, .null, .null, .int 0] [] (ps_X8_init) := by
  refine cw_meth (y := yX8_init) (by decide) rfl (Nat.le_of_ble_eq_true rfl) ?_
  intro G q0 hO hR hret
  show cw_W 1 G 0 [(0, .ref q0)] [] ((q0, .inr (8, [.int 0, .int 0, .null, .int 0, .null, .null, .int 0])) :: []) 0 0
  refine cr_al hO 0 0 rfl (am_fb_ok (by decide +kernel)) ?_
  show cw_W 1 G 1 [(0, .ref q0)] [.ref q0] ((q0, .inr (8, [.int 0, .int 0, .null, .int 0, .null, .null, .int 0])) :: []) 0 0
  refine cr_obj hO 3 266 (by rw [hR]; decide) (by rw [hR]; decide) (am_fb_ok (by decide +kernel)) ?_
  show cw_W 1 G 4 [(0, .ref q0)] [] ((q0, .inr (8, [.int 0, .int 0, .null, .int 0, .null, .null, .int 0])) :: []) 0 0
  refine cr_al hO 0 0 rfl (am_fb_ok (by decide +kernel)) ?_
  show cw_W 1 G 5 [(0, .ref q0)] [.ref q0] ((q0, .inr (8, [.int 0, .int 0, .null, .int 0, .null, .null, .int 0])) :: []) 0 0
  refine cr_bp hO 8 8 (by decide) (am_fb_ok (by decide +kernel)) ?_
  show cw_W 1 G 7 [(0, .ref q0)] [.int 8, .ref q0] ((q0, .inr (8, [.int 0, .int 0, .null, .int 0, .null, .null, .int 0])) :: []) 0 0
  refine cr_na hO 8 (by decide) (by decide) (by decide) (by rw [hR]; decide) (by rw [hR]; decide) (am_fb_ok (by decide +kernel)) (fun a0 => ?_)
  show cw_W 1 G 9 [(0, .ref q0)] [.ref a0, .ref q0] ((q0, .inr (8, [.int 0, .int 0, .null, .int 0, .null, .null, .int 0])) :: [(a0, cw_ia G.2.2.2.2.2.2.2.2.2.2.2.2.1 8 (fun _ => 0))]) 1 8
  refine cr_pf hO 9 2 271 (ty := .array .int) rfl (by decide) rfl (by decide +kernel) (by first | rfl | decide) (by first | rfl | decide) (Nat.le_of_ble_eq_true rfl) (am_fb_ok (by decide +kernel)) ?_
  show cw_W 1 G 12 [(0, .ref q0)] [] ((q0, .inr (8, [.int 0, .int 0, .ref a0, .int 0, .null, .null, .int 0])) :: [(a0, cw_ia G.2.2.2.2.2.2.2.2.2.2.2.2.1 8 (fun _ => 0))]) 1 8
  refine cr_al hO 0 0 rfl (am_fb_ok (by decide +kernel)) ?_
  show cw_W 1 G 13 [(0, .ref q0)] [.ref q0] ((q0, .inr (8, [.int 0, .int 0, .ref a0, .int 0, .null, .null, .int 0])) :: [(a0, cw_ia G.2.2.2.2.2.2.2.2.2.2.2.2.1 8 (fun _ => 0))]) 1 8
  refine cr_ic hO 1 1 (by decide) (am_fb_ok (by decide +kernel)) ?_
  show cw_W 1 G 14 [(0, .ref q0)] [.int 1, .ref q0] ((q0, .inr (8, [.int 0, .int 0, .ref a0, .int 0, .null, .null, .int 0])) :: [(a0, cw_ia G.2.2.2.2.2.2.2.2.2.2.2.2.1 8 (fun _ => 0))]) 1 8
  refine cr_pf hO 15 3 273 (ty := .boolean) rfl (by decide) rfl (by decide +kernel) (by first | rfl | decide) (by first | rfl | decide) (Nat.le_of_ble_eq_true rfl) (am_fb_ok (by decide +kernel)) ?_
  show cw_W 1 G 17 [(0, .ref q0)] [] ((q0, .inr (8, [.int 0, .int 0, .ref a0, .int 1, .null, .null, .int 0])) :: [(a0, cw_ia G.2.2.2.2.2.2.2.2.2.2.2.2.1 8 (fun _ => 0))]) 1 8
  refine cr_al hO 0 0 rfl (am_fb_ok (by decide +kernel)) ?_
  show cw_W 1 G 18 [(0, .ref q0)] [.ref q0] ((q0, .inr (8, [.int 0, .int 0, .ref a0, .int 1, .null, .null, .int 0])) :: [(a0, cw_ia G.2.2.2.2.2.2.2.2.2.2.2.2.1 8 (fun _ => 0))]) 1 8
  refine cr_bp hO 8 8 (by decide) (am_fb_ok (by decide +kernel)) ?_
  show cw_W 1 G 20 [(0, .ref q0)] [.int 8, .ref q0] ((q0, .inr (8, [.int 0, .int 0, .ref a0, .int 1, .null, .null, .int 0])) :: [(a0, cw_ia G.2.2.2.2.2.2.2.2.2.2.2.2.1 8 (fun _ => 0))]) 1 8
  refine cr_na hO 8 (by decide) (by decide) (by decide) (by rw [hR]; decide) (by rw [hR]; decide) (am_fb_ok (by decide +kernel)) (fun a1 => ?_)
  show cw_W 1 G 22 [(0, .ref q0)] [.ref a1, .ref q0] ((q0, .inr (8, [.int 0, .int 0, .ref a0, .int 1, .null, .null, .int 0])) :: [(a0, cw_ia G.2.2.2.2.2.2.2.2.2.2.2.2.1 8 (fun _ => 0)), (a1, cw_ia G.2.2.2.2.2.2.2.2.2.2.2.2.1 8 (fun _ => 0))]) 2 16
  refine cr_pf hO 19 4 275 (ty := .array .int) rfl (by decide) rfl (by decide +kernel) (by first | rfl | decide) (by first | rfl | decide) (Nat.le_of_ble_eq_true rfl) (am_fb_ok (by decide +kernel)) ?_
  show cw_W 1 G 25 [(0, .ref q0)] [] ((q0, .inr (8, [.int 0, .int 0, .ref a0, .int 1, .ref a1, .null, .int 0])) :: [(a0, cw_ia G.2.2.2.2.2.2.2.2.2.2.2.2.1 8 (fun _ => 0)), (a1, cw_ia G.2.2.2.2.2.2.2.2.2.2.2.2.1 8 (fun _ => 0))]) 2 16
  refine cr_al hO 0 0 rfl (am_fb_ok (by decide +kernel)) ?_
  show cw_W 1 G 26 [(0, .ref q0)] [.ref q0] ((q0, .inr (8, [.int 0, .int 0, .ref a0, .int 1, .ref a1, .null, .int 0])) :: [(a0, cw_ia G.2.2.2.2.2.2.2.2.2.2.2.2.1 8 (fun _ => 0)), (a1, cw_ia G.2.2.2.2.2.2.2.2.2.2.2.2.1 8 (fun _ => 0))]) 2 16
  refine cr_sp hO 2048 2048 (by decide) (am_fb_ok (by decide +kernel)) ?_
  show cw_W 1 G 29 [(0, .ref q0)] [.int 2048, .ref q0] ((q0, .inr (8, [.int 0, .int 0, .ref a0, .int 1, .ref a1, .null, .int 0])) :: [(a0, cw_ia G.2.2.2.2.2.2.2.2.2.2.2.2.1 8 (fun _ => 0)), (a1, cw_ia G.2.2.2.2.2.2.2.2.2.2.2.2.1 8 (fun _ => 0))]) 2 16
  refine cr_na hO 2048 (by decide) (by decide) (by decide) (by rw [hR]; decide) (by rw [hR]; decide) (am_fb_ok (by decide +kernel)) (fun a2 => ?_)
  show cw_W 1 G 31 [(0, .ref q0)] [.ref a2, .ref q0] ((q0, .inr (8, [.int 0, .int 0, .ref a0, .int 1, .ref a1, .null, .int 0])) :: [(a0, cw_ia G.2.2.2.2.2.2.2.2.2.2.2.2.1 8 (fun _ => 0)), (a1, cw_ia G.2.2.2.2.2.2.2.2.2.2.2.2.1 8 (fun _ => 0)), (a2, cw_ia G.2.2.2.2.2.2.2.2.2.2.2.2.1 2048 (fun _ => 0))]) 3 2064
  refine cr_pf hO 22 5 276 (ty := .array .int) rfl (by decide) rfl (by decide +kernel) (by first | rfl | decide) (by first | rfl | decide) (Nat.le_of_ble_eq_true rfl) (am_fb_ok (by decide +kernel)) ?_
  show cw_W 1 G 34 [(0, .ref q0)] [] ((q0, .inr (8, [.int 0, .int 0, .ref a0, .int 1, .ref a1, .ref a2, .int 0])) :: [(a0, cw_ia G.2.2.2.2.2.2.2.2.2.2.2.2.1 8 (fun _ => 0)), (a1, cw_ia G.2.2.2.2.2.2.2.2.2.2.2.2.1 8 (fun _ => 0)), (a2, cw_ia G.2.2.2.2.2.2.2.2.2.2.2.2.1 2048 (fun _ => 0))]) 3 2064
  exact hret 34 _ _ (am_fb_ok (by decide +kernel)) ⟨a0, a1, a2, rfl⟩
def ps_X9_init (cs : Nat → ClassId) (q0 : Nat) (ws : va_W) : Prop := ∃ (a0 : Nat), ws = ((q0, .inr (9, [.int 0, .ref a0])) :: [(a0, cw_ia cs 8 (fun _ => 0))])
theorem hd_X9_init {cs : Nat → ClassId} {q0 : Nat} {w : va_W} (h : ps_X9_init cs q0 w) : ∃ vs w', w = (q0, .inr (9, vs)) :: w' := by
  obtain ⟨_, rfl⟩ := h
  exact ⟨_, _, rfl⟩
set_option maxHeartbeats 8000000 in
set_option maxRecDepth 100000 in
theorem cs_X9_init : cw_Sd yX9_init cX9_init 1 1 1 8 9 [.int 0, .null] [] (ps_X9_init) := by
  refine cw_meth (y := yX9_init) (by decide) rfl (Nat.le_of_ble_eq_true rfl) ?_
  intro G q0 hO hR hret
  show cw_W 1 G 0 [(0, .ref q0)] [] ((q0, .inr (9, [.int 0, .null])) :: []) 0 0
  refine cr_al hO 0 0 rfl (am_fb_ok (by decide +kernel)) ?_
  show cw_W 1 G 1 [(0, .ref q0)] [.ref q0] ((q0, .inr (9, [.int 0, .null])) :: []) 0 0
  refine cr_obj hO 3 251 (by rw [hR]; decide) (by rw [hR]; decide) (am_fb_ok (by decide +kernel)) ?_
  show cw_W 1 G 4 [(0, .ref q0)] [] ((q0, .inr (9, [.int 0, .null])) :: []) 0 0
  refine cr_al hO 0 0 rfl (am_fb_ok (by decide +kernel)) ?_
  show cw_W 1 G 5 [(0, .ref q0)] [.ref q0] ((q0, .inr (9, [.int 0, .null])) :: []) 0 0
  refine cr_bp hO 8 8 (by decide) (am_fb_ok (by decide +kernel)) ?_
  show cw_W 1 G 7 [(0, .ref q0)] [.int 8, .ref q0] ((q0, .inr (9, [.int 0, .null])) :: []) 0 0
  refine cr_na hO 8 (by decide) (by decide) (by decide) (by rw [hR]; decide) (by rw [hR]; decide) (am_fb_ok (by decide +kernel)) (fun a0 => ?_)
  show cw_W 1 G 9 [(0, .ref q0)] [.ref a0, .ref q0] ((q0, .inr (9, [.int 0, .null])) :: [(a0, cw_ia G.2.2.2.2.2.2.2.2.2.2.2.2.1 8 (fun _ => 0))]) 1 8
  refine cr_pf hO 9 1 254 (ty := .array .int) rfl (by decide) rfl (by decide +kernel) (by first | rfl | decide) (by first | rfl | decide) (Nat.le_of_ble_eq_true rfl) (am_fb_ok (by decide +kernel)) ?_
  show cw_W 1 G 12 [(0, .ref q0)] [] ((q0, .inr (9, [.int 0, .ref a0])) :: [(a0, cw_ia G.2.2.2.2.2.2.2.2.2.2.2.2.1 8 (fun _ => 0))]) 1 8
  exact hret 12 _ _ (am_fb_ok (by decide +kernel)) ⟨a0, rfl⟩
def ps_X5_init (cs : Nat → ClassId) (q0 : Nat) (ws : va_W) : Prop := ∃ (a0 x0 x1 x2 x3 x4 x5 x6 x7 : Nat) (u0 u1 u2 u3 u4 u5 u6 u7 : va_W), ps_X3_init cs x0 u0 ∧ ps_X3_init cs x1 u1 ∧ ps_X3_init cs x2 u2 ∧ ps_X3_init cs x3 u3 ∧ ps_X3_init cs x4 u4 ∧ ps_X3_init cs x5 u5 ∧ ps_X3_init cs x6 u6 ∧ ps_X3_init cs x7 u7 ∧ ws = ((q0, .inr (5, [.ref a0])) :: ([] ++ (a0, cw_qa cs 1 8 (va_up (va_up (va_up (va_up (va_up (va_up (va_up (va_up (fun _ => none) 0 (some x0)) 1 (some x1)) 2 (some x2)) 3 (some x3)) 4 (some x4)) 5 (some x5)) 6 (some x6)) 7 (some x7))) :: ((((((((([] : va_W) ++ u0) ++ u1) ++ u2) ++ u3) ++ u4) ++ u5) ++ u6) ++ u7)))
theorem hd_X5_init {cs : Nat → ClassId} {q0 : Nat} {w : va_W} (h : ps_X5_init cs q0 w) : ∃ vs w', w = (q0, .inr (5, vs)) :: w' := by
  obtain ⟨_, _, _, _, _, _, _, _, _, _, _, _, _, _, _, _, _, _, _, _, _, _, _, _, _, rfl⟩ := h
  exact ⟨_, _, rfl⟩
set_option maxHeartbeats 8000000 in
set_option maxRecDepth 100000 in
theorem cs_X5_init : cw_Sd yX5_init cX5_init 2 2 25 368 5 [.null] [] (ps_X5_init) := by
  refine cw_meth (y := yX5_init) (by decide) rfl (Nat.le_of_ble_eq_true rfl) ?_
  intro G q0 hO hR hret
  show cw_W 2 G 0 [(0, .ref q0)] [] ((q0, .inr (5, [.null])) :: []) 0 0
  refine cr_al hO 0 0 rfl (am_fb_ok (by decide +kernel)) ?_
  show cw_W 2 G 1 [(0, .ref q0)] [.ref q0] ((q0, .inr (5, [.null])) :: []) 0 0
  refine cr_obj hO 3 209 (by rw [hR]; decide) (by rw [hR]; decide) (am_fb_ok (by decide +kernel)) ?_
  show cw_W 2 G 4 [(0, .ref q0)] [] ((q0, .inr (5, [.null])) :: []) 0 0
  refine cr_al hO 0 0 rfl (am_fb_ok (by decide +kernel)) ?_
  show cw_W 2 G 5 [(0, .ref q0)] [.ref q0] ((q0, .inr (5, [.null])) :: []) 0 0
  refine cr_bp hO 8 8 (by decide) (am_fb_ok (by decide +kernel)) ?_
  show cw_W 2 G 7 [(0, .ref q0)] [.int 8, .ref q0] ((q0, .inr (5, [.null])) :: []) 0 0
  refine cr_qH hO 8 9 210 (by decide) (by decide) (by decide) (by rw [hR]; decide) (by rw [hR]; decide) (am_fb_ok (by decide +kernel)) (fun a0 => ?_)
  show cw_W 2 G 10 [(0, .ref q0)] [.ref a0, .ref q0] ((q0, .inr (5, [.null])) :: ([] ++ [(a0, cw_qa G.2.2.2.2.2.2.2.2.2.2.2.2.1 1 8 (fun _ => none))])) 1 8
  refine cr_pf hO 11 0 239 (ty := .array (.object "WrackDeeds$Hanging")) rfl (by decide) rfl (by decide +kernel) (by first | rfl | decide) (by first | rfl | decide) (Nat.le_of_ble_eq_true rfl) (am_fb_ok (by decide +kernel)) ?_
  show cw_W 2 G 13 [(0, .ref q0)] [] ((q0, .inr (5, [.ref a0])) :: ([] ++ [(a0, cw_qa G.2.2.2.2.2.2.2.2.2.2.2.2.1 1 8 (fun _ => none))])) 1 8
  refine cr_ic hO 0 0 (by decide) (am_fb_ok (by decide +kernel)) ?_
  show cw_W 2 G 14 [(0, .ref q0)] [.int 0] ((q0, .inr (5, [.ref a0])) :: ([] ++ [(a0, cw_qa G.2.2.2.2.2.2.2.2.2.2.2.2.1 1 8 (fun _ => none))])) 1 8
  refine cr_ist hO 1 (by decide) (am_fb_ok (by decide +kernel)) ?_
  have hlp : am_fit cX5_init 15 (cw_loop (.bipush 8, 2, none) 11 0 239 5 9 210 3 17 213 RX5 yX3_init (some "WrackDeeds") 22 (-22)) := am_fb_ok (by decide +kernel)
  show cw_W 2 G 15 [(1, .int (nI 0)), (0, .ref q0)] [] ((q0, .inr (5, [.ref a0])) :: ([] ++ (a0, cw_qa G.2.2.2.2.2.2.2.2.2.2.2.2.1 1 8 (fun _ => none)) :: ([] : va_W))) 1 8
  refine cr_iter hO 15 0 8 (.bipush 8, 2, none) (fun hf kk => cr_bp hO 8 (nI 8) (by decide) hf kk) (by decide) (by decide) (by decide) 11 0 239 9 210 3 17 213 1 (some "WrackDeeds") 22 (-22) cs_X3_init ky_X3_init ki_X3_init rfl rfl (by decide) rfl rfl kn_X3_init kz_X3_init tyX3 tyX3_ok kd_X3_init rfl (fun cs q w h => hd_X3_init h) (by rw [hR]; decide) (by rw [hR]; decide) (by rw [hR]; decide) (by rw [hR]; decide) 40 (by decide) (by decide) hlp (fun x0 u0 hu0 => ?_)
  show cw_W 2 G 15 [(1, .int (nI 1)), (0, .ref q0)] [] ((q0, .inr (5, [.ref a0])) :: ([] ++ (a0, cw_qa G.2.2.2.2.2.2.2.2.2.2.2.2.1 1 8 (va_up (fun _ => none) 0 (some x0))) :: (([] : va_W) ++ u0))) 4 53
  refine cr_iter hO 15 1 8 (.bipush 8, 2, none) (fun hf kk => cr_bp hO 8 (nI 8) (by decide) hf kk) (by decide) (by decide) (by decide) 11 0 239 9 210 3 17 213 1 (some "WrackDeeds") 22 (-22) cs_X3_init ky_X3_init ki_X3_init rfl rfl (by decide) rfl rfl kn_X3_init kz_X3_init tyX3 tyX3_ok kd_X3_init rfl (fun cs q w h => hd_X3_init h) (by rw [hR]; decide) (by rw [hR]; decide) (by rw [hR]; decide) (by rw [hR]; decide) 40 (by decide) (by decide) hlp (fun x1 u1 hu1 => ?_)
  show cw_W 2 G 15 [(1, .int (nI 2)), (0, .ref q0)] [] ((q0, .inr (5, [.ref a0])) :: ([] ++ (a0, cw_qa G.2.2.2.2.2.2.2.2.2.2.2.2.1 1 8 (va_up (va_up (fun _ => none) 0 (some x0)) 1 (some x1))) :: ((([] : va_W) ++ u0) ++ u1))) 7 98
  refine cr_iter hO 15 2 8 (.bipush 8, 2, none) (fun hf kk => cr_bp hO 8 (nI 8) (by decide) hf kk) (by decide) (by decide) (by decide) 11 0 239 9 210 3 17 213 1 (some "WrackDeeds") 22 (-22) cs_X3_init ky_X3_init ki_X3_init rfl rfl (by decide) rfl rfl kn_X3_init kz_X3_init tyX3 tyX3_ok kd_X3_init rfl (fun cs q w h => hd_X3_init h) (by rw [hR]; decide) (by rw [hR]; decide) (by rw [hR]; decide) (by rw [hR]; decide) 40 (by decide) (by decide) hlp (fun x2 u2 hu2 => ?_)
  show cw_W 2 G 15 [(1, .int (nI 3)), (0, .ref q0)] [] ((q0, .inr (5, [.ref a0])) :: ([] ++ (a0, cw_qa G.2.2.2.2.2.2.2.2.2.2.2.2.1 1 8 (va_up (va_up (va_up (fun _ => none) 0 (some x0)) 1 (some x1)) 2 (some x2))) :: (((([] : va_W) ++ u0) ++ u1) ++ u2))) 10 143
  refine cr_iter hO 15 3 8 (.bipush 8, 2, none) (fun hf kk => cr_bp hO 8 (nI 8) (by decide) hf kk) (by decide) (by decide) (by decide) 11 0 239 9 210 3 17 213 1 (some "WrackDeeds") 22 (-22) cs_X3_init ky_X3_init ki_X3_init rfl rfl (by decide) rfl rfl kn_X3_init kz_X3_init tyX3 tyX3_ok kd_X3_init rfl (fun cs q w h => hd_X3_init h) (by rw [hR]; decide) (by rw [hR]; decide) (by rw [hR]; decide) (by rw [hR]; decide) 40 (by decide) (by decide) hlp (fun x3 u3 hu3 => ?_)
  show cw_W 2 G 15 [(1, .int (nI 4)), (0, .ref q0)] [] ((q0, .inr (5, [.ref a0])) :: ([] ++ (a0, cw_qa G.2.2.2.2.2.2.2.2.2.2.2.2.1 1 8 (va_up (va_up (va_up (va_up (fun _ => none) 0 (some x0)) 1 (some x1)) 2 (some x2)) 3 (some x3))) :: ((((([] : va_W) ++ u0) ++ u1) ++ u2) ++ u3))) 13 188
  refine cr_iter hO 15 4 8 (.bipush 8, 2, none) (fun hf kk => cr_bp hO 8 (nI 8) (by decide) hf kk) (by decide) (by decide) (by decide) 11 0 239 9 210 3 17 213 1 (some "WrackDeeds") 22 (-22) cs_X3_init ky_X3_init ki_X3_init rfl rfl (by decide) rfl rfl kn_X3_init kz_X3_init tyX3 tyX3_ok kd_X3_init rfl (fun cs q w h => hd_X3_init h) (by rw [hR]; decide) (by rw [hR]; decide) (by rw [hR]; decide) (by rw [hR]; decide) 40 (by decide) (by decide) hlp (fun x4 u4 hu4 => ?_)
  show cw_W 2 G 15 [(1, .int (nI 5)), (0, .ref q0)] [] ((q0, .inr (5, [.ref a0])) :: ([] ++ (a0, cw_qa G.2.2.2.2.2.2.2.2.2.2.2.2.1 1 8 (va_up (va_up (va_up (va_up (va_up (fun _ => none) 0 (some x0)) 1 (some x1)) 2 (some x2)) 3 (some x3)) 4 (some x4))) :: (((((([] : va_W) ++ u0) ++ u1) ++ u2) ++ u3) ++ u4))) 16 233
  refine cr_iter hO 15 5 8 (.bipush 8, 2, none) (fun hf kk => cr_bp hO 8 (nI 8) (by decide) hf kk) (by decide) (by decide) (by decide) 11 0 239 9 210 3 17 213 1 (some "WrackDeeds") 22 (-22) cs_X3_init ky_X3_init ki_X3_init rfl rfl (by decide) rfl rfl kn_X3_init kz_X3_init tyX3 tyX3_ok kd_X3_init rfl (fun cs q w h => hd_X3_init h) (by rw [hR]; decide) (by rw [hR]; decide) (by rw [hR]; decide) (by rw [hR]; decide) 40 (by decide) (by decide) hlp (fun x5 u5 hu5 => ?_)
  show cw_W 2 G 15 [(1, .int (nI 6)), (0, .ref q0)] [] ((q0, .inr (5, [.ref a0])) :: ([] ++ (a0, cw_qa G.2.2.2.2.2.2.2.2.2.2.2.2.1 1 8 (va_up (va_up (va_up (va_up (va_up (va_up (fun _ => none) 0 (some x0)) 1 (some x1)) 2 (some x2)) 3 (some x3)) 4 (some x4)) 5 (some x5))) :: ((((((([] : va_W) ++ u0) ++ u1) ++ u2) ++ u3) ++ u4) ++ u5))) 19 278
  refine cr_iter hO 15 6 8 (.bipush 8, 2, none) (fun hf kk => cr_bp hO 8 (nI 8) (by decide) hf kk) (by decide) (by decide) (by decide) 11 0 239 9 210 3 17 213 1 (some "WrackDeeds") 22 (-22) cs_X3_init ky_X3_init ki_X3_init rfl rfl (by decide) rfl rfl kn_X3_init kz_X3_init tyX3 tyX3_ok kd_X3_init rfl (fun cs q w h => hd_X3_init h) (by rw [hR]; decide) (by rw [hR]; decide) (by rw [hR]; decide) (by rw [hR]; decide) 40 (by decide) (by decide) hlp (fun x6 u6 hu6 => ?_)
  show cw_W 2 G 15 [(1, .int (nI 7)), (0, .ref q0)] [] ((q0, .inr (5, [.ref a0])) :: ([] ++ (a0, cw_qa G.2.2.2.2.2.2.2.2.2.2.2.2.1 1 8 (va_up (va_up (va_up (va_up (va_up (va_up (va_up (fun _ => none) 0 (some x0)) 1 (some x1)) 2 (some x2)) 3 (some x3)) 4 (some x4)) 5 (some x5)) 6 (some x6))) :: (((((((([] : va_W) ++ u0) ++ u1) ++ u2) ++ u3) ++ u4) ++ u5) ++ u6))) 22 323
  refine cr_iter hO 15 7 8 (.bipush 8, 2, none) (fun hf kk => cr_bp hO 8 (nI 8) (by decide) hf kk) (by decide) (by decide) (by decide) 11 0 239 9 210 3 17 213 1 (some "WrackDeeds") 22 (-22) cs_X3_init ky_X3_init ki_X3_init rfl rfl (by decide) rfl rfl kn_X3_init kz_X3_init tyX3 tyX3_ok kd_X3_init rfl (fun cs q w h => hd_X3_init h) (by rw [hR]; decide) (by rw [hR]; decide) (by rw [hR]; decide) (by rw [hR]; decide) 40 (by decide) (by decide) hlp (fun x7 u7 hu7 => ?_)
  show cw_W 2 G 15 [(1, .int (nI 8)), (0, .ref q0)] [] ((q0, .inr (5, [.ref a0])) :: ([] ++ (a0, cw_qa G.2.2.2.2.2.2.2.2.2.2.2.2.1 1 8 (va_up (va_up (va_up (va_up (va_up (va_up (va_up (va_up (fun _ => none) 0 (some x0)) 1 (some x1)) 2 (some x2)) 3 (some x3)) 4 (some x4)) 5 (some x5)) 6 (some x6)) 7 (some x7))) :: ((((((((([] : va_W) ++ u0) ++ u1) ++ u2) ++ u3) ++ u4) ++ u5) ++ u6) ++ u7))) 25 368
  refine cr_il hO 1 0 rfl (am_fb_ok (by decide +kernel)) ?_
  refine cr_bp hO 8 (nI 8) (by decide) (am_fb_ok (by decide +kernel)) ?_
  refine cr_geT (off := 22) hO 40 (by decide) (by decide) (am_fb_ok (by decide +kernel)) ?_
  show cw_W 2 G 40 [(1, .int (nI 8)), (0, .ref q0)] [] ((q0, .inr (5, [.ref a0])) :: ([] ++ (a0, cw_qa G.2.2.2.2.2.2.2.2.2.2.2.2.1 1 8 (va_up (va_up (va_up (va_up (va_up (va_up (va_up (va_up (fun _ => none) 0 (some x0)) 1 (some x1)) 2 (some x2)) 3 (some x3)) 4 (some x4)) 5 (some x5)) 6 (some x6)) 7 (some x7))) :: ((((((((([] : va_W) ++ u0) ++ u1) ++ u2) ++ u3) ++ u4) ++ u5) ++ u6) ++ u7))) 25 368
  exact hret 40 _ _ (am_fb_ok (by decide +kernel)) ⟨a0, x0, x1, x2, x3, x4, x5, x6, x7, u0, u1, u2, u3, u4, u5, u6, u7, hu0, hu1, hu2, hu3, hu4, hu5, hu6, hu7, rfl⟩
def ps_X10_init (cs : Nat → ClassId) (q0 : Nat) (ws : va_W) : Prop := ∃ (a0 a2 a4 a6 a8 a9 a11 a13 a15 a17 a19 a21 a23 a25 a27 x0 x1 x2 x3 : Nat) (w1 w3 w5 w7 w10 w12 w14 w16 w18 w20 w22 w24 w26 u0 u1 u2 u3 : va_W), ps_X7_init 71 cs a0 w1 ∧ ps_X7_init 20 cs a2 w3 ∧ ps_X7_init 8 cs a4 w5 ∧ ps_X0_init cs a6 w7 ∧ ps_X1_init cs a9 w10 ∧ ps_X1_init cs a11 w12 ∧ ps_X5_init cs a13 w14 ∧ ps_X5_init cs a15 w16 ∧ ps_X9_init cs a17 w18 ∧ ps_X9_init cs a19 w20 ∧ ps_X8_init cs a21 w22 ∧ ps_X6_init cs a23 w24 ∧ ps_X2_init cs a25 w26 ∧ ps_X4_init cs x0 u0 ∧ ps_X4_init cs x1 u1 ∧ ps_X4_init cs x2 u2 ∧ ps_X4_init cs x3 u3 ∧ ws = ((q0, .inr (10, [.ref a0, .ref a2, .ref a4, .ref a6, .ref a8, .ref a9, .ref a11, .ref a13, .ref a15, .ref a17, .ref a19, .ref a21, .ref a23, .ref a25, .ref a27, .int 0, .int 1])) :: ((((((((((((((([] ++ w1) ++ w3) ++ w5) ++ w7) ++ [(a8, cw_ia cs 20 (fun _ => 0))]) ++ w10) ++ w12) ++ w14) ++ w16) ++ w18) ++ w20) ++ w22) ++ w24) ++ w26) ++ (a27, cw_qa cs 2 4 (va_up (va_up (va_up (va_up (fun _ => none) 0 (some x0)) 1 (some x1)) 2 (some x2)) 3 (some x3))) :: ((((([] : va_W) ++ u0) ++ u1) ++ u2) ++ u3)))
theorem hd_X10_init {cs : Nat → ClassId} {q0 : Nat} {w : va_W} (h : ps_X10_init cs q0 w) : ∃ vs w', w = (q0, .inr (10, vs)) :: w' := by
  obtain ⟨_, _, _, _, _, _, _, _, _, _, _, _, _, _, _, _, _, _, _, _, _, _, _, _, _, _, _, _, _, _, _, _, _, _, _, _, _, _, _, _, _, _, _, _, _, _, _, _, _, _, _, _, _, rfl⟩ := h
  exact ⟨_, _, rfl⟩
set_option maxHeartbeats 8000000 in
set_option maxRecDepth 100000 in
theorem cs_X10_init : cw_Sd yX10_init cX10_init 2 3 101 3668 10 [.null, .null, .null, .null, .null, .null, .null, .null, .null, .null, .null, .null, .null, .null, .null, .int 0, .int 0] [] (ps_X10_init) := by
  refine cw_meth (y := yX10_init) (by decide) rfl (Nat.le_of_ble_eq_true rfl) ?_
  intro G q0 hO hR hret
  show cw_W 2 G 0 [(0, .ref q0)] [] ((q0, .inr (10, [.null, .null, .null, .null, .null, .null, .null, .null, .null, .null, .null, .null, .null, .null, .null, .int 0, .int 0])) :: []) 0 0
  refine cr_al hO 0 0 rfl (am_fb_ok (by decide +kernel)) ?_
  show cw_W 2 G 1 [(0, .ref q0)] [.ref q0] ((q0, .inr (10, [.null, .null, .null, .null, .null, .null, .null, .null, .null, .null, .null, .null, .null, .null, .null, .int 0, .int 0])) :: []) 0 0
  refine cr_obj hO 5 99 (by rw [hR]; decide) (by rw [hR]; decide) (am_fb_ok (by decide +kernel)) ?_
  show cw_W 2 G 4 [(0, .ref q0)] [] ((q0, .inr (10, [.null, .null, .null, .null, .null, .null, .null, .null, .null, .null, .null, .null, .null, .null, .null, .int 0, .int 0])) :: []) 0 0
  refine cr_al hO 0 0 rfl (am_fb_ok (by decide +kernel)) ?_
  show cw_W 2 G 5 [(0, .ref q0)] [.ref q0] ((q0, .inr (10, [.null, .null, .null, .null, .null, .null, .null, .null, .null, .null, .null, .null, .null, .null, .null, .int 0, .int 0])) :: []) 0 0
  refine cr_new hO 11 102 7 rfl kn_X7_init kz_X7_init [.null, .int 0, .int 0, .int 0] tyX7 tyX7_ok kd_X7_init (by rw [hR]; decide) (by rw [hR]; decide) (am_fb_ok (by decide +kernel)) (fun a0 => ?_)
  refine cr_dup hO (am_fb_ok (by decide +kernel)) ?_
  refine cr_bp hO 71 71 (by decide) (am_fb_ok (by decide +kernel)) ?_
  refine cr_call hO (cs_X7_init 71) ky_X7_init ki_X7_init rfl rfl 13 104 none (as := [71]) (st := [.ref a0, .ref q0]) (by rw [hR]; decide) (by rw [hR]; decide) (by rw [hR]; decide) (by rw [hR]; decide) (Nat.le_of_ble_eq_true rfl) (am_fb_ok (by decide +kernel)) (fun w1 hw1 => ?_)
  show cw_W 2 G 14 [(0, .ref q0)] [.ref a0, .ref q0] ((q0, .inr (10, [.null, .null, .null, .null, .null, .null, .null, .null, .null, .null, .null, .null, .null, .null, .null, .int 0, .int 0])) :: ([] ++ w1)) 2 75
  refine cr_pf hO 16 0 361 (ty := .object "WrackDeeds$Text") rfl (by decide) rfl (by decide +kernel) (by first | rfl | decide) (by first | rfl | decide) (Nat.le_of_ble_eq_true rfl) (am_fb_ok (by decide +kernel)) ?_
  show cw_W 2 G 17 [(0, .ref q0)] [] ((q0, .inr (10, [.ref a0, .null, .null, .null, .null, .null, .null, .null, .null, .null, .null, .null, .null, .null, .null, .int 0, .int 0])) :: ([] ++ w1)) 2 75
  refine cr_al hO 0 0 rfl (am_fb_ok (by decide +kernel)) ?_
  show cw_W 2 G 18 [(0, .ref q0)] [.ref q0] ((q0, .inr (10, [.ref a0, .null, .null, .null, .null, .null, .null, .null, .null, .null, .null, .null, .null, .null, .null, .int 0, .int 0])) :: ([] ++ w1)) 2 75
  refine cr_new hO 11 102 7 rfl kn_X7_init kz_X7_init [.null, .int 0, .int 0, .int 0] tyX7 tyX7_ok kd_X7_init (by rw [hR]; decide) (by rw [hR]; decide) (am_fb_ok (by decide +kernel)) (fun a2 => ?_)
  refine cr_dup hO (am_fb_ok (by decide +kernel)) ?_
  refine cr_bp hO 20 20 (by decide) (am_fb_ok (by decide +kernel)) ?_
  refine cr_call hO (cs_X7_init 20) ky_X7_init ki_X7_init rfl rfl 13 104 none (as := [20]) (st := [.ref a2, .ref q0]) (by rw [hR]; decide) (by rw [hR]; decide) (by rw [hR]; decide) (by rw [hR]; decide) (Nat.le_of_ble_eq_true rfl) (am_fb_ok (by decide +kernel)) (fun w3 hw3 => ?_)
  show cw_W 2 G 27 [(0, .ref q0)] [.ref a2, .ref q0] ((q0, .inr (10, [.ref a0, .null, .null, .null, .null, .null, .null, .null, .null, .null, .null, .null, .null, .null, .null, .int 0, .int 0])) :: (([] ++ w1) ++ w3)) 4 150
  refine cr_pf hO 20 1 362 (ty := .object "WrackDeeds$Text") rfl (by decide) rfl (by decide +kernel) (by first | rfl | decide) (by first | rfl | decide) (Nat.le_of_ble_eq_true rfl) (am_fb_ok (by decide +kernel)) ?_
  show cw_W 2 G 30 [(0, .ref q0)] [] ((q0, .inr (10, [.ref a0, .ref a2, .null, .null, .null, .null, .null, .null, .null, .null, .null, .null, .null, .null, .null, .int 0, .int 0])) :: (([] ++ w1) ++ w3)) 4 150
  refine cr_al hO 0 0 rfl (am_fb_ok (by decide +kernel)) ?_
  show cw_W 2 G 31 [(0, .ref q0)] [.ref q0] ((q0, .inr (10, [.ref a0, .ref a2, .null, .null, .null, .null, .null, .null, .null, .null, .null, .null, .null, .null, .null, .int 0, .int 0])) :: (([] ++ w1) ++ w3)) 4 150
  refine cr_new hO 11 102 7 rfl kn_X7_init kz_X7_init [.null, .int 0, .int 0, .int 0] tyX7 tyX7_ok kd_X7_init (by rw [hR]; decide) (by rw [hR]; decide) (am_fb_ok (by decide +kernel)) (fun a4 => ?_)
  refine cr_dup hO (am_fb_ok (by decide +kernel)) ?_
  refine cr_bp hO 8 8 (by decide) (am_fb_ok (by decide +kernel)) ?_
  refine cr_call hO (cs_X7_init 8) ky_X7_init ki_X7_init rfl rfl 13 104 none (as := [8]) (st := [.ref a4, .ref q0]) (by rw [hR]; decide) (by rw [hR]; decide) (by rw [hR]; decide) (by rw [hR]; decide) (Nat.le_of_ble_eq_true rfl) (am_fb_ok (by decide +kernel)) (fun w5 hw5 => ?_)
  show cw_W 2 G 40 [(0, .ref q0)] [.ref a4, .ref q0] ((q0, .inr (10, [.ref a0, .ref a2, .null, .null, .null, .null, .null, .null, .null, .null, .null, .null, .null, .null, .null, .int 0, .int 0])) :: ((([] ++ w1) ++ w3) ++ w5)) 6 225
  refine cr_pf hO 23 2 363 (ty := .object "WrackDeeds$Text") rfl (by decide) rfl (by decide +kernel) (by first | rfl | decide) (by first | rfl | decide) (Nat.le_of_ble_eq_true rfl) (am_fb_ok (by decide +kernel)) ?_
  show cw_W 2 G 43 [(0, .ref q0)] [] ((q0, .inr (10, [.ref a0, .ref a2, .ref a4, .null, .null, .null, .null, .null, .null, .null, .null, .null, .null, .null, .null, .int 0, .int 0])) :: ((([] ++ w1) ++ w3) ++ w5)) 6 225
  refine cr_al hO 0 0 rfl (am_fb_ok (by decide +kernel)) ?_
  show cw_W 2 G 44 [(0, .ref q0)] [.ref q0] ((q0, .inr (10, [.ref a0, .ref a2, .ref a4, .null, .null, .null, .null, .null, .null, .null, .null, .null, .null, .null, .null, .int 0, .int 0])) :: ((([] ++ w1) ++ w3) ++ w5)) 6 225
  refine cr_new hO 26 132 0 rfl kn_X0_init kz_X0_init [.int 0, .null, .null, .null, .null, .null, .null, .int 0] tyX0 tyX0_ok kd_X0_init (by rw [hR]; decide) (by rw [hR]; decide) (am_fb_ok (by decide +kernel)) (fun a6 => ?_)
  refine cr_dup hO (am_fb_ok (by decide +kernel)) ?_
  refine cr_call hO cs_X0_init ky_X0_init ki_X0_init rfl rfl 28 134 (some "WrackDeeds") (as := []) (st := [.ref a6, .ref q0]) (by rw [hR]; decide) (by rw [hR]; decide) (by rw [hR]; decide) (by rw [hR]; decide) (Nat.le_of_ble_eq_true rfl) (am_fb_ok (by decide +kernel)) (fun w7 hw7 => ?_)
  show cw_W 2 G 51 [(0, .ref q0)] [.ref a6, .ref q0] ((q0, .inr (10, [.ref a0, .ref a2, .ref a4, .null, .null, .null, .null, .null, .null, .null, .null, .null, .null, .null, .null, .int 0, .int 0])) :: (((([] ++ w1) ++ w3) ++ w5) ++ w7)) 13 321
  refine cr_pf hO 29 3 364 (ty := .object "WrackDeeds$Deeds") rfl (by decide) rfl (by decide +kernel) (by first | rfl | decide) (by first | rfl | decide) (Nat.le_of_ble_eq_true rfl) (am_fb_ok (by decide +kernel)) ?_
  show cw_W 2 G 54 [(0, .ref q0)] [] ((q0, .inr (10, [.ref a0, .ref a2, .ref a4, .ref a6, .null, .null, .null, .null, .null, .null, .null, .null, .null, .null, .null, .int 0, .int 0])) :: (((([] ++ w1) ++ w3) ++ w5) ++ w7)) 13 321
  refine cr_al hO 0 0 rfl (am_fb_ok (by decide +kernel)) ?_
  show cw_W 2 G 55 [(0, .ref q0)] [.ref q0] ((q0, .inr (10, [.ref a0, .ref a2, .ref a4, .ref a6, .null, .null, .null, .null, .null, .null, .null, .null, .null, .null, .null, .int 0, .int 0])) :: (((([] ++ w1) ++ w3) ++ w5) ++ w7)) 13 321
  refine cr_bp hO 20 20 (by decide) (am_fb_ok (by decide +kernel)) ?_
  show cw_W 2 G 57 [(0, .ref q0)] [.int 20, .ref q0] ((q0, .inr (10, [.ref a0, .ref a2, .ref a4, .ref a6, .null, .null, .null, .null, .null, .null, .null, .null, .null, .null, .null, .int 0, .int 0])) :: (((([] ++ w1) ++ w3) ++ w5) ++ w7)) 13 321
  refine cr_na hO 20 (by decide) (by decide) (by decide) (by rw [hR]; decide) (by rw [hR]; decide) (am_fb_ok (by decide +kernel)) (fun a8 => ?_)
  show cw_W 2 G 59 [(0, .ref q0)] [.ref a8, .ref q0] ((q0, .inr (10, [.ref a0, .ref a2, .ref a4, .ref a6, .null, .null, .null, .null, .null, .null, .null, .null, .null, .null, .null, .int 0, .int 0])) :: ((((([] ++ w1) ++ w3) ++ w5) ++ w7) ++ [(a8, cw_ia G.2.2.2.2.2.2.2.2.2.2.2.2.1 20 (fun _ => 0))])) 14 341
  refine cr_pf hO 33 4 365 (ty := .array .int) rfl (by decide) rfl (by decide +kernel) (by first | rfl | decide) (by first | rfl | decide) (Nat.le_of_ble_eq_true rfl) (am_fb_ok (by decide +kernel)) ?_
  show cw_W 2 G 62 [(0, .ref q0)] [] ((q0, .inr (10, [.ref a0, .ref a2, .ref a4, .ref a6, .ref a8, .null, .null, .null, .null, .null, .null, .null, .null, .null, .null, .int 0, .int 0])) :: ((((([] ++ w1) ++ w3) ++ w5) ++ w7) ++ [(a8, cw_ia G.2.2.2.2.2.2.2.2.2.2.2.2.1 20 (fun _ => 0))])) 14 341
  refine cr_al hO 0 0 rfl (am_fb_ok (by decide +kernel)) ?_
  show cw_W 2 G 63 [(0, .ref q0)] [.ref q0] ((q0, .inr (10, [.ref a0, .ref a2, .ref a4, .ref a6, .ref a8, .null, .null, .null, .null, .null, .null, .null, .null, .null, .null, .int 0, .int 0])) :: ((((([] ++ w1) ++ w3) ++ w5) ++ w7) ++ [(a8, cw_ia G.2.2.2.2.2.2.2.2.2.2.2.2.1 20 (fun _ => 0))])) 14 341
  refine cr_new hO 37 172 1 rfl kn_X1_init kz_X1_init [.int 0, .null, .null, .null, .null, .int 0] tyX1 tyX1_ok kd_X1_init (by rw [hR]; decide) (by rw [hR]; decide) (am_fb_ok (by decide +kernel)) (fun a9 => ?_)
  refine cr_dup hO (am_fb_ok (by decide +kernel)) ?_
  refine cr_call hO cs_X1_init ky_X1_init ki_X1_init rfl rfl 39 174 (some "WrackDeeds") (as := []) (st := [.ref a9, .ref q0]) (by rw [hR]; decide) (by rw [hR]; decide) (by rw [hR]; decide) (by rw [hR]; decide) (Nat.le_of_ble_eq_true rfl) (am_fb_ok (by decide +kernel)) (fun w10 hw10 => ?_)
  show cw_W 2 G 70 [(0, .ref q0)] [.ref a9, .ref q0] ((q0, .inr (10, [.ref a0, .ref a2, .ref a4, .ref a6, .ref a8, .null, .null, .null, .null, .null, .null, .null, .null, .null, .null, .int 0, .int 0])) :: (((((([] ++ w1) ++ w3) ++ w5) ++ w7) ++ [(a8, cw_ia G.2.2.2.2.2.2.2.2.2.2.2.2.1 20 (fun _ => 0))]) ++ w10)) 19 379
  refine cr_pf hO 40 5 366 (ty := .object "WrackDeeds$Events") rfl (by decide) rfl (by decide +kernel) (by first | rfl | decide) (by first | rfl | decide) (Nat.le_of_ble_eq_true rfl) (am_fb_ok (by decide +kernel)) ?_
  show cw_W 2 G 73 [(0, .ref q0)] [] ((q0, .inr (10, [.ref a0, .ref a2, .ref a4, .ref a6, .ref a8, .ref a9, .null, .null, .null, .null, .null, .null, .null, .null, .null, .int 0, .int 0])) :: (((((([] ++ w1) ++ w3) ++ w5) ++ w7) ++ [(a8, cw_ia G.2.2.2.2.2.2.2.2.2.2.2.2.1 20 (fun _ => 0))]) ++ w10)) 19 379
  refine cr_al hO 0 0 rfl (am_fb_ok (by decide +kernel)) ?_
  show cw_W 2 G 74 [(0, .ref q0)] [.ref q0] ((q0, .inr (10, [.ref a0, .ref a2, .ref a4, .ref a6, .ref a8, .ref a9, .null, .null, .null, .null, .null, .null, .null, .null, .null, .int 0, .int 0])) :: (((((([] ++ w1) ++ w3) ++ w5) ++ w7) ++ [(a8, cw_ia G.2.2.2.2.2.2.2.2.2.2.2.2.1 20 (fun _ => 0))]) ++ w10)) 19 379
  refine cr_new hO 37 172 1 rfl kn_X1_init kz_X1_init [.int 0, .null, .null, .null, .null, .int 0] tyX1 tyX1_ok kd_X1_init (by rw [hR]; decide) (by rw [hR]; decide) (am_fb_ok (by decide +kernel)) (fun a11 => ?_)
  refine cr_dup hO (am_fb_ok (by decide +kernel)) ?_
  refine cr_call hO cs_X1_init ky_X1_init ki_X1_init rfl rfl 39 174 (some "WrackDeeds") (as := []) (st := [.ref a11, .ref q0]) (by rw [hR]; decide) (by rw [hR]; decide) (by rw [hR]; decide) (by rw [hR]; decide) (Nat.le_of_ble_eq_true rfl) (am_fb_ok (by decide +kernel)) (fun w12 hw12 => ?_)
  show cw_W 2 G 81 [(0, .ref q0)] [.ref a11, .ref q0] ((q0, .inr (10, [.ref a0, .ref a2, .ref a4, .ref a6, .ref a8, .ref a9, .null, .null, .null, .null, .null, .null, .null, .null, .null, .int 0, .int 0])) :: ((((((([] ++ w1) ++ w3) ++ w5) ++ w7) ++ [(a8, cw_ia G.2.2.2.2.2.2.2.2.2.2.2.2.1 20 (fun _ => 0))]) ++ w10) ++ w12)) 24 417
  refine cr_pf hO 44 6 367 (ty := .object "WrackDeeds$Events") rfl (by decide) rfl (by decide +kernel) (by first | rfl | decide) (by first | rfl | decide) (Nat.le_of_ble_eq_true rfl) (am_fb_ok (by decide +kernel)) ?_
  show cw_W 2 G 84 [(0, .ref q0)] [] ((q0, .inr (10, [.ref a0, .ref a2, .ref a4, .ref a6, .ref a8, .ref a9, .ref a11, .null, .null, .null, .null, .null, .null, .null, .null, .int 0, .int 0])) :: ((((((([] ++ w1) ++ w3) ++ w5) ++ w7) ++ [(a8, cw_ia G.2.2.2.2.2.2.2.2.2.2.2.2.1 20 (fun _ => 0))]) ++ w10) ++ w12)) 24 417
  refine cr_al hO 0 0 rfl (am_fb_ok (by decide +kernel)) ?_
  show cw_W 2 G 85 [(0, .ref q0)] [.ref q0] ((q0, .inr (10, [.ref a0, .ref a2, .ref a4, .ref a6, .ref a8, .ref a9, .ref a11, .null, .null, .null, .null, .null, .null, .null, .null, .int 0, .int 0])) :: ((((((([] ++ w1) ++ w3) ++ w5) ++ w7) ++ [(a8, cw_ia G.2.2.2.2.2.2.2.2.2.2.2.2.1 20 (fun _ => 0))]) ++ w10) ++ w12)) 24 417
  refine cr_new hO 47 204 5 rfl kn_X5_init kz_X5_init [.null] tyX5 tyX5_ok kd_X5_init (by rw [hR]; decide) (by rw [hR]; decide) (am_fb_ok (by decide +kernel)) (fun a13 => ?_)
  refine cr_dup hO (am_fb_ok (by decide +kernel)) ?_
  refine cr_call hO cs_X5_init ky_X5_init ki_X5_init rfl rfl 49 206 none (as := []) (st := [.ref a13, .ref q0]) (by rw [hR]; decide) (by rw [hR]; decide) (by rw [hR]; decide) (by rw [hR]; decide) (Nat.le_of_ble_eq_true rfl) (am_fb_ok (by decide +kernel)) (fun w14 hw14 => ?_)
  show cw_W 2 G 92 [(0, .ref q0)] [.ref a13, .ref q0] ((q0, .inr (10, [.ref a0, .ref a2, .ref a4, .ref a6, .ref a8, .ref a9, .ref a11, .null, .null, .null, .null, .null, .null, .null, .null, .int 0, .int 0])) :: (((((((([] ++ w1) ++ w3) ++ w5) ++ w7) ++ [(a8, cw_ia G.2.2.2.2.2.2.2.2.2.2.2.2.1 20 (fun _ => 0))]) ++ w10) ++ w12) ++ w14)) 50 786
  refine cr_pf hO 50 7 368 (ty := .object "WrackDeeds$Shore") rfl (by decide) rfl (by decide +kernel) (by first | rfl | decide) (by first | rfl | decide) (Nat.le_of_ble_eq_true rfl) (am_fb_ok (by decide +kernel)) ?_
  show cw_W 2 G 95 [(0, .ref q0)] [] ((q0, .inr (10, [.ref a0, .ref a2, .ref a4, .ref a6, .ref a8, .ref a9, .ref a11, .ref a13, .null, .null, .null, .null, .null, .null, .null, .int 0, .int 0])) :: (((((((([] ++ w1) ++ w3) ++ w5) ++ w7) ++ [(a8, cw_ia G.2.2.2.2.2.2.2.2.2.2.2.2.1 20 (fun _ => 0))]) ++ w10) ++ w12) ++ w14)) 50 786
  refine cr_al hO 0 0 rfl (am_fb_ok (by decide +kernel)) ?_
  show cw_W 2 G 96 [(0, .ref q0)] [.ref q0] ((q0, .inr (10, [.ref a0, .ref a2, .ref a4, .ref a6, .ref a8, .ref a9, .ref a11, .ref a13, .null, .null, .null, .null, .null, .null, .null, .int 0, .int 0])) :: (((((((([] ++ w1) ++ w3) ++ w5) ++ w7) ++ [(a8, cw_ia G.2.2.2.2.2.2.2.2.2.2.2.2.1 20 (fun _ => 0))]) ++ w10) ++ w12) ++ w14)) 50 786
  refine cr_new hO 47 204 5 rfl kn_X5_init kz_X5_init [.null] tyX5 tyX5_ok kd_X5_init (by rw [hR]; decide) (by rw [hR]; decide) (am_fb_ok (by decide +kernel)) (fun a15 => ?_)
  refine cr_dup hO (am_fb_ok (by decide +kernel)) ?_
  refine cr_call hO cs_X5_init ky_X5_init ki_X5_init rfl rfl 49 206 none (as := []) (st := [.ref a15, .ref q0]) (by rw [hR]; decide) (by rw [hR]; decide) (by rw [hR]; decide) (by rw [hR]; decide) (Nat.le_of_ble_eq_true rfl) (am_fb_ok (by decide +kernel)) (fun w16 hw16 => ?_)
  show cw_W 2 G 103 [(0, .ref q0)] [.ref a15, .ref q0] ((q0, .inr (10, [.ref a0, .ref a2, .ref a4, .ref a6, .ref a8, .ref a9, .ref a11, .ref a13, .null, .null, .null, .null, .null, .null, .null, .int 0, .int 0])) :: ((((((((([] ++ w1) ++ w3) ++ w5) ++ w7) ++ [(a8, cw_ia G.2.2.2.2.2.2.2.2.2.2.2.2.1 20 (fun _ => 0))]) ++ w10) ++ w12) ++ w14) ++ w16)) 76 1155
  refine cr_pf hO 54 8 369 (ty := .object "WrackDeeds$Shore") rfl (by decide) rfl (by decide +kernel) (by first | rfl | decide) (by first | rfl | decide) (Nat.le_of_ble_eq_true rfl) (am_fb_ok (by decide +kernel)) ?_
  show cw_W 2 G 106 [(0, .ref q0)] [] ((q0, .inr (10, [.ref a0, .ref a2, .ref a4, .ref a6, .ref a8, .ref a9, .ref a11, .ref a13, .ref a15, .null, .null, .null, .null, .null, .null, .int 0, .int 0])) :: ((((((((([] ++ w1) ++ w3) ++ w5) ++ w7) ++ [(a8, cw_ia G.2.2.2.2.2.2.2.2.2.2.2.2.1 20 (fun _ => 0))]) ++ w10) ++ w12) ++ w14) ++ w16)) 76 1155
  refine cr_al hO 0 0 rfl (am_fb_ok (by decide +kernel)) ?_
  show cw_W 2 G 107 [(0, .ref q0)] [.ref q0] ((q0, .inr (10, [.ref a0, .ref a2, .ref a4, .ref a6, .ref a8, .ref a9, .ref a11, .ref a13, .ref a15, .null, .null, .null, .null, .null, .null, .int 0, .int 0])) :: ((((((((([] ++ w1) ++ w3) ++ w5) ++ w7) ++ [(a8, cw_ia G.2.2.2.2.2.2.2.2.2.2.2.2.1 20 (fun _ => 0))]) ++ w10) ++ w12) ++ w14) ++ w16)) 76 1155
  refine cr_new hO 57 246 9 rfl kn_X9_init kz_X9_init [.int 0, .null] tyX9 tyX9_ok kd_X9_init (by rw [hR]; decide) (by rw [hR]; decide) (am_fb_ok (by decide +kernel)) (fun a17 => ?_)
  refine cr_dup hO (am_fb_ok (by decide +kernel)) ?_
  refine cr_call hO cs_X9_init ky_X9_init ki_X9_init rfl rfl 59 248 (some "WrackDeeds") (as := []) (st := [.ref a17, .ref q0]) (by rw [hR]; decide) (by rw [hR]; decide) (by rw [hR]; decide) (by rw [hR]; decide) (Nat.le_of_ble_eq_true rfl) (am_fb_ok (by decide +kernel)) (fun w18 hw18 => ?_)
  show cw_W 2 G 114 [(0, .ref q0)] [.ref a17, .ref q0] ((q0, .inr (10, [.ref a0, .ref a2, .ref a4, .ref a6, .ref a8, .ref a9, .ref a11, .ref a13, .ref a15, .null, .null, .null, .null, .null, .null, .int 0, .int 0])) :: (((((((((([] ++ w1) ++ w3) ++ w5) ++ w7) ++ [(a8, cw_ia G.2.2.2.2.2.2.2.2.2.2.2.2.1 20 (fun _ => 0))]) ++ w10) ++ w12) ++ w14) ++ w16) ++ w18)) 78 1165
  refine cr_pf hO 60 9 370 (ty := .object "WrackDeeds$Walk") rfl (by decide) rfl (by decide +kernel) (by first | rfl | decide) (by first | rfl | decide) (Nat.le_of_ble_eq_true rfl) (am_fb_ok (by decide +kernel)) ?_
  show cw_W 2 G 117 [(0, .ref q0)] [] ((q0, .inr (10, [.ref a0, .ref a2, .ref a4, .ref a6, .ref a8, .ref a9, .ref a11, .ref a13, .ref a15, .ref a17, .null, .null, .null, .null, .null, .int 0, .int 0])) :: (((((((((([] ++ w1) ++ w3) ++ w5) ++ w7) ++ [(a8, cw_ia G.2.2.2.2.2.2.2.2.2.2.2.2.1 20 (fun _ => 0))]) ++ w10) ++ w12) ++ w14) ++ w16) ++ w18)) 78 1165
  refine cr_al hO 0 0 rfl (am_fb_ok (by decide +kernel)) ?_
  show cw_W 2 G 118 [(0, .ref q0)] [.ref q0] ((q0, .inr (10, [.ref a0, .ref a2, .ref a4, .ref a6, .ref a8, .ref a9, .ref a11, .ref a13, .ref a15, .ref a17, .null, .null, .null, .null, .null, .int 0, .int 0])) :: (((((((((([] ++ w1) ++ w3) ++ w5) ++ w7) ++ [(a8, cw_ia G.2.2.2.2.2.2.2.2.2.2.2.2.1 20 (fun _ => 0))]) ++ w10) ++ w12) ++ w14) ++ w16) ++ w18)) 78 1165
  refine cr_new hO 57 246 9 rfl kn_X9_init kz_X9_init [.int 0, .null] tyX9 tyX9_ok kd_X9_init (by rw [hR]; decide) (by rw [hR]; decide) (am_fb_ok (by decide +kernel)) (fun a19 => ?_)
  refine cr_dup hO (am_fb_ok (by decide +kernel)) ?_
  refine cr_call hO cs_X9_init ky_X9_init ki_X9_init rfl rfl 59 248 (some "WrackDeeds") (as := []) (st := [.ref a19, .ref q0]) (by rw [hR]; decide) (by rw [hR]; decide) (by rw [hR]; decide) (by rw [hR]; decide) (Nat.le_of_ble_eq_true rfl) (am_fb_ok (by decide +kernel)) (fun w20 hw20 => ?_)
  show cw_W 2 G 125 [(0, .ref q0)] [.ref a19, .ref q0] ((q0, .inr (10, [.ref a0, .ref a2, .ref a4, .ref a6, .ref a8, .ref a9, .ref a11, .ref a13, .ref a15, .ref a17, .null, .null, .null, .null, .null, .int 0, .int 0])) :: ((((((((((([] ++ w1) ++ w3) ++ w5) ++ w7) ++ [(a8, cw_ia G.2.2.2.2.2.2.2.2.2.2.2.2.1 20 (fun _ => 0))]) ++ w10) ++ w12) ++ w14) ++ w16) ++ w18) ++ w20)) 80 1175
  refine cr_pf hO 64 10 371 (ty := .object "WrackDeeds$Walk") rfl (by decide) rfl (by decide +kernel) (by first | rfl | decide) (by first | rfl | decide) (Nat.le_of_ble_eq_true rfl) (am_fb_ok (by decide +kernel)) ?_
  show cw_W 2 G 128 [(0, .ref q0)] [] ((q0, .inr (10, [.ref a0, .ref a2, .ref a4, .ref a6, .ref a8, .ref a9, .ref a11, .ref a13, .ref a15, .ref a17, .ref a19, .null, .null, .null, .null, .int 0, .int 0])) :: ((((((((((([] ++ w1) ++ w3) ++ w5) ++ w7) ++ [(a8, cw_ia G.2.2.2.2.2.2.2.2.2.2.2.2.1 20 (fun _ => 0))]) ++ w10) ++ w12) ++ w14) ++ w16) ++ w18) ++ w20)) 80 1175
  refine cr_al hO 0 0 rfl (am_fb_ok (by decide +kernel)) ?_
  show cw_W 2 G 129 [(0, .ref q0)] [.ref q0] ((q0, .inr (10, [.ref a0, .ref a2, .ref a4, .ref a6, .ref a8, .ref a9, .ref a11, .ref a13, .ref a15, .ref a17, .ref a19, .null, .null, .null, .null, .int 0, .int 0])) :: ((((((((((([] ++ w1) ++ w3) ++ w5) ++ w7) ++ [(a8, cw_ia G.2.2.2.2.2.2.2.2.2.2.2.2.1 20 (fun _ => 0))]) ++ w10) ++ w12) ++ w14) ++ w16) ++ w18) ++ w20)) 80 1175
  refine cr_new hO 67 261 8 rfl kn_X8_init kz_X8_init [.int 0, .int 0, .null, .int 0, .null, .null, .int 0] tyX8 tyX8_ok kd_X8_init (by rw [hR]; decide) (by rw [hR]; decide) (am_fb_ok (by decide +kernel)) (fun a21 => ?_)
  refine cr_dup hO (am_fb_ok (by decide +kernel)) ?_
  refine cr_call hO cs_X8_init ky_X8_init ki_X8_init rfl rfl 69 263 (some "WrackDeeds") (as := []) (st := [.ref a21, .ref q0]) (by rw [hR]; decide) (by rw [hR]; decide) (by rw [hR]; decide) (by rw [hR]; decide) (Nat.le_of_ble_eq_true rfl) (am_fb_ok (by decide +kernel)) (fun w22 hw22 => ?_)
  show cw_W 2 G 136 [(0, .ref q0)] [.ref a21, .ref q0] ((q0, .inr (10, [.ref a0, .ref a2, .ref a4, .ref a6, .ref a8, .ref a9, .ref a11, .ref a13, .ref a15, .ref a17, .ref a19, .null, .null, .null, .null, .int 0, .int 0])) :: (((((((((((([] ++ w1) ++ w3) ++ w5) ++ w7) ++ [(a8, cw_ia G.2.2.2.2.2.2.2.2.2.2.2.2.1 20 (fun _ => 0))]) ++ w10) ++ w12) ++ w14) ++ w16) ++ w18) ++ w20) ++ w22)) 84 3246
  refine cr_pf hO 70 11 372 (ty := .object "WrackDeeds$Tour") rfl (by decide) rfl (by decide +kernel) (by first | rfl | decide) (by first | rfl | decide) (Nat.le_of_ble_eq_true rfl) (am_fb_ok (by decide +kernel)) ?_
  show cw_W 2 G 139 [(0, .ref q0)] [] ((q0, .inr (10, [.ref a0, .ref a2, .ref a4, .ref a6, .ref a8, .ref a9, .ref a11, .ref a13, .ref a15, .ref a17, .ref a19, .ref a21, .null, .null, .null, .int 0, .int 0])) :: (((((((((((([] ++ w1) ++ w3) ++ w5) ++ w7) ++ [(a8, cw_ia G.2.2.2.2.2.2.2.2.2.2.2.2.1 20 (fun _ => 0))]) ++ w10) ++ w12) ++ w14) ++ w16) ++ w18) ++ w20) ++ w22)) 84 3246
  refine cr_al hO 0 0 rfl (am_fb_ok (by decide +kernel)) ?_
  show cw_W 2 G 140 [(0, .ref q0)] [.ref q0] ((q0, .inr (10, [.ref a0, .ref a2, .ref a4, .ref a6, .ref a8, .ref a9, .ref a11, .ref a13, .ref a15, .ref a17, .ref a19, .ref a21, .null, .null, .null, .int 0, .int 0])) :: (((((((((((([] ++ w1) ++ w3) ++ w5) ++ w7) ++ [(a8, cw_ia G.2.2.2.2.2.2.2.2.2.2.2.2.1 20 (fun _ => 0))]) ++ w10) ++ w12) ++ w14) ++ w16) ++ w18) ++ w20) ++ w22)) 84 3246
  refine cr_new hO 74 293 6 rfl kn_X6_init kz_X6_init [.int 0, .null, .null, .null, .null] tyX6 tyX6_ok kd_X6_init (by rw [hR]; decide) (by rw [hR]; decide) (am_fb_ok (by decide +kernel)) (fun a23 => ?_)
  refine cr_dup hO (am_fb_ok (by decide +kernel)) ?_
  refine cr_call hO cs_X6_init ky_X6_init ki_X6_init rfl rfl 76 295 (some "WrackDeeds") (as := []) (st := [.ref a23, .ref q0]) (by rw [hR]; decide) (by rw [hR]; decide) (by rw [hR]; decide) (by rw [hR]; decide) (Nat.le_of_ble_eq_true rfl) (am_fb_ok (by decide +kernel)) (fun w24 hw24 => ?_)
  show cw_W 2 G 147 [(0, .ref q0)] [.ref a23, .ref q0] ((q0, .inr (10, [.ref a0, .ref a2, .ref a4, .ref a6, .ref a8, .ref a9, .ref a11, .ref a13, .ref a15, .ref a17, .ref a19, .ref a21, .null, .null, .null, .int 0, .int 0])) :: ((((((((((((([] ++ w1) ++ w3) ++ w5) ++ w7) ++ [(a8, cw_ia G.2.2.2.2.2.2.2.2.2.2.2.2.1 20 (fun _ => 0))]) ++ w10) ++ w12) ++ w14) ++ w16) ++ w18) ++ w20) ++ w22) ++ w24)) 89 3375
  refine cr_pf hO 77 12 373 (ty := .object "WrackDeeds$Sightings") rfl (by decide) rfl (by decide +kernel) (by first | rfl | decide) (by first | rfl | decide) (Nat.le_of_ble_eq_true rfl) (am_fb_ok (by decide +kernel)) ?_
  show cw_W 2 G 150 [(0, .ref q0)] [] ((q0, .inr (10, [.ref a0, .ref a2, .ref a4, .ref a6, .ref a8, .ref a9, .ref a11, .ref a13, .ref a15, .ref a17, .ref a19, .ref a21, .ref a23, .null, .null, .int 0, .int 0])) :: ((((((((((((([] ++ w1) ++ w3) ++ w5) ++ w7) ++ [(a8, cw_ia G.2.2.2.2.2.2.2.2.2.2.2.2.1 20 (fun _ => 0))]) ++ w10) ++ w12) ++ w14) ++ w16) ++ w18) ++ w20) ++ w22) ++ w24)) 89 3375
  refine cr_al hO 0 0 rfl (am_fb_ok (by decide +kernel)) ?_
  show cw_W 2 G 151 [(0, .ref q0)] [.ref q0] ((q0, .inr (10, [.ref a0, .ref a2, .ref a4, .ref a6, .ref a8, .ref a9, .ref a11, .ref a13, .ref a15, .ref a17, .ref a19, .ref a21, .ref a23, .null, .null, .int 0, .int 0])) :: ((((((((((((([] ++ w1) ++ w3) ++ w5) ++ w7) ++ [(a8, cw_ia G.2.2.2.2.2.2.2.2.2.2.2.2.1 20 (fun _ => 0))]) ++ w10) ++ w12) ++ w14) ++ w16) ++ w18) ++ w20) ++ w22) ++ w24)) 89 3375
  refine cr_new hO 81 320 2 rfl kn_X2_init kz_X2_init [.null, .null, .int 0] tyX2 tyX2_ok kd_X2_init (by rw [hR]; decide) (by rw [hR]; decide) (am_fb_ok (by decide +kernel)) (fun a25 => ?_)
  refine cr_dup hO (am_fb_ok (by decide +kernel)) ?_
  refine cr_call hO cs_X2_init ky_X2_init ki_X2_init rfl rfl 83 322 (some "WrackDeeds") (as := []) (st := [.ref a25, .ref q0]) (by rw [hR]; decide) (by rw [hR]; decide) (by rw [hR]; decide) (by rw [hR]; decide) (Nat.le_of_ble_eq_true rfl) (am_fb_ok (by decide +kernel)) (fun w26 hw26 => ?_)
  show cw_W 2 G 158 [(0, .ref q0)] [.ref a25, .ref q0] ((q0, .inr (10, [.ref a0, .ref a2, .ref a4, .ref a6, .ref a8, .ref a9, .ref a11, .ref a13, .ref a15, .ref a17, .ref a19, .ref a21, .ref a23, .null, .null, .int 0, .int 0])) :: (((((((((((((([] ++ w1) ++ w3) ++ w5) ++ w7) ++ [(a8, cw_ia G.2.2.2.2.2.2.2.2.2.2.2.2.1 20 (fun _ => 0))]) ++ w10) ++ w12) ++ w14) ++ w16) ++ w18) ++ w20) ++ w22) ++ w24) ++ w26)) 92 3408
  refine cr_pf hO 84 13 374 (ty := .object "WrackDeeds$Filling") rfl (by decide) rfl (by decide +kernel) (by first | rfl | decide) (by first | rfl | decide) (Nat.le_of_ble_eq_true rfl) (am_fb_ok (by decide +kernel)) ?_
  show cw_W 2 G 161 [(0, .ref q0)] [] ((q0, .inr (10, [.ref a0, .ref a2, .ref a4, .ref a6, .ref a8, .ref a9, .ref a11, .ref a13, .ref a15, .ref a17, .ref a19, .ref a21, .ref a23, .ref a25, .null, .int 0, .int 0])) :: (((((((((((((([] ++ w1) ++ w3) ++ w5) ++ w7) ++ [(a8, cw_ia G.2.2.2.2.2.2.2.2.2.2.2.2.1 20 (fun _ => 0))]) ++ w10) ++ w12) ++ w14) ++ w16) ++ w18) ++ w20) ++ w22) ++ w24) ++ w26)) 92 3408
  refine cr_al hO 0 0 rfl (am_fb_ok (by decide +kernel)) ?_
  show cw_W 2 G 162 [(0, .ref q0)] [.ref q0] ((q0, .inr (10, [.ref a0, .ref a2, .ref a4, .ref a6, .ref a8, .ref a9, .ref a11, .ref a13, .ref a15, .ref a17, .ref a19, .ref a21, .ref a23, .ref a25, .null, .int 0, .int 0])) :: (((((((((((((([] ++ w1) ++ w3) ++ w5) ++ w7) ++ [(a8, cw_ia G.2.2.2.2.2.2.2.2.2.2.2.2.1 20 (fun _ => 0))]) ++ w10) ++ w12) ++ w14) ++ w16) ++ w18) ++ w20) ++ w22) ++ w24) ++ w26)) 92 3408
  refine cr_ic hO 4 4 (by decide) (am_fb_ok (by decide +kernel)) ?_
  show cw_W 2 G 163 [(0, .ref q0)] [.int 4, .ref q0] ((q0, .inr (10, [.ref a0, .ref a2, .ref a4, .ref a6, .ref a8, .ref a9, .ref a11, .ref a13, .ref a15, .ref a17, .ref a19, .ref a21, .ref a23, .ref a25, .null, .int 0, .int 0])) :: (((((((((((((([] ++ w1) ++ w3) ++ w5) ++ w7) ++ [(a8, cw_ia G.2.2.2.2.2.2.2.2.2.2.2.2.1 20 (fun _ => 0))]) ++ w10) ++ w12) ++ w14) ++ w16) ++ w18) ++ w20) ++ w22) ++ w24) ++ w26)) 92 3408
  refine cr_qS hO 4 88 337 (by decide) (by decide) (by decide) (by rw [hR]; decide) (by rw [hR]; decide) (am_fb_ok (by decide +kernel)) (fun a27 => ?_)
  show cw_W 2 G 166 [(0, .ref q0)] [.ref a27, .ref q0] ((q0, .inr (10, [.ref a0, .ref a2, .ref a4, .ref a6, .ref a8, .ref a9, .ref a11, .ref a13, .ref a15, .ref a17, .ref a19, .ref a21, .ref a23, .ref a25, .null, .int 0, .int 0])) :: ((((((((((((((([] ++ w1) ++ w3) ++ w5) ++ w7) ++ [(a8, cw_ia G.2.2.2.2.2.2.2.2.2.2.2.2.1 20 (fun _ => 0))]) ++ w10) ++ w12) ++ w14) ++ w16) ++ w18) ++ w20) ++ w22) ++ w24) ++ w26) ++ [(a27, cw_qa G.2.2.2.2.2.2.2.2.2.2.2.2.1 2 4 (fun _ => none))])) 93 3412
  refine cr_pf hO 90 14 375 (ty := .array (.object "WrackDeeds$Sheet")) rfl (by decide) rfl (by decide +kernel) (by first | rfl | decide) (by first | rfl | decide) (Nat.le_of_ble_eq_true rfl) (am_fb_ok (by decide +kernel)) ?_
  show cw_W 2 G 169 [(0, .ref q0)] [] ((q0, .inr (10, [.ref a0, .ref a2, .ref a4, .ref a6, .ref a8, .ref a9, .ref a11, .ref a13, .ref a15, .ref a17, .ref a19, .ref a21, .ref a23, .ref a25, .ref a27, .int 0, .int 0])) :: ((((((((((((((([] ++ w1) ++ w3) ++ w5) ++ w7) ++ [(a8, cw_ia G.2.2.2.2.2.2.2.2.2.2.2.2.1 20 (fun _ => 0))]) ++ w10) ++ w12) ++ w14) ++ w16) ++ w18) ++ w20) ++ w22) ++ w24) ++ w26) ++ [(a27, cw_qa G.2.2.2.2.2.2.2.2.2.2.2.2.1 2 4 (fun _ => none))])) 93 3412
  refine cr_ic hO 0 0 (by decide) (am_fb_ok (by decide +kernel)) ?_
  show cw_W 2 G 170 [(0, .ref q0)] [.int 0] ((q0, .inr (10, [.ref a0, .ref a2, .ref a4, .ref a6, .ref a8, .ref a9, .ref a11, .ref a13, .ref a15, .ref a17, .ref a19, .ref a21, .ref a23, .ref a25, .ref a27, .int 0, .int 0])) :: ((((((((((((((([] ++ w1) ++ w3) ++ w5) ++ w7) ++ [(a8, cw_ia G.2.2.2.2.2.2.2.2.2.2.2.2.1 20 (fun _ => 0))]) ++ w10) ++ w12) ++ w14) ++ w16) ++ w18) ++ w20) ++ w22) ++ w24) ++ w26) ++ [(a27, cw_qa G.2.2.2.2.2.2.2.2.2.2.2.2.1 2 4 (fun _ => none))])) 93 3412
  refine cr_ist hO 1 (by decide) (am_fb_ok (by decide +kernel)) ?_
  have hlp : am_fit cX10_init 171 (cw_loop (.iconst 4, 1, none) 90 14 375 10 88 337 4 94 340 RX10 yX4_init (some "WrackDeeds") 22 (-21)) := am_fb_ok (by decide +kernel)
  show cw_W 2 G 171 [(1, .int (nI 0)), (0, .ref q0)] [] ((q0, .inr (10, [.ref a0, .ref a2, .ref a4, .ref a6, .ref a8, .ref a9, .ref a11, .ref a13, .ref a15, .ref a17, .ref a19, .ref a21, .ref a23, .ref a25, .ref a27, .int 0, .int 0])) :: ((((((((((((((([] ++ w1) ++ w3) ++ w5) ++ w7) ++ [(a8, cw_ia G.2.2.2.2.2.2.2.2.2.2.2.2.1 20 (fun _ => 0))]) ++ w10) ++ w12) ++ w14) ++ w16) ++ w18) ++ w20) ++ w22) ++ w24) ++ w26) ++ (a27, cw_qa G.2.2.2.2.2.2.2.2.2.2.2.2.1 2 4 (fun _ => none)) :: ([] : va_W))) 93 3412
  refine cr_iter hO 171 0 4 (.iconst 4, 1, none) (fun hf kk => cr_ic hO 4 (nI 4) (by decide) hf kk) (by decide) (by decide) (by decide) 90 14 375 88 337 4 94 340 2 (some "WrackDeeds") 22 (-21) cs_X4_init ky_X4_init ki_X4_init rfl rfl (by decide) rfl rfl kn_X4_init kz_X4_init tyX4 tyX4_ok kd_X4_init rfl (fun cs q w h => hd_X4_init h) (by rw [hR]; decide) (by rw [hR]; decide) (by rw [hR]; decide) (by rw [hR]; decide) 195 (by decide) (by decide) hlp (fun x0 u0 hu0 => ?_)
  show cw_W 2 G 171 [(1, .int (nI 1)), (0, .ref q0)] [] ((q0, .inr (10, [.ref a0, .ref a2, .ref a4, .ref a6, .ref a8, .ref a9, .ref a11, .ref a13, .ref a15, .ref a17, .ref a19, .ref a21, .ref a23, .ref a25, .ref a27, .int 0, .int 0])) :: ((((((((((((((([] ++ w1) ++ w3) ++ w5) ++ w7) ++ [(a8, cw_ia G.2.2.2.2.2.2.2.2.2.2.2.2.1 20 (fun _ => 0))]) ++ w10) ++ w12) ++ w14) ++ w16) ++ w18) ++ w20) ++ w22) ++ w24) ++ w26) ++ (a27, cw_qa G.2.2.2.2.2.2.2.2.2.2.2.2.1 2 4 (va_up (fun _ => none) 0 (some x0))) :: (([] : va_W) ++ u0))) 95 3476
  refine cr_iter hO 171 1 4 (.iconst 4, 1, none) (fun hf kk => cr_ic hO 4 (nI 4) (by decide) hf kk) (by decide) (by decide) (by decide) 90 14 375 88 337 4 94 340 2 (some "WrackDeeds") 22 (-21) cs_X4_init ky_X4_init ki_X4_init rfl rfl (by decide) rfl rfl kn_X4_init kz_X4_init tyX4 tyX4_ok kd_X4_init rfl (fun cs q w h => hd_X4_init h) (by rw [hR]; decide) (by rw [hR]; decide) (by rw [hR]; decide) (by rw [hR]; decide) 195 (by decide) (by decide) hlp (fun x1 u1 hu1 => ?_)
  show cw_W 2 G 171 [(1, .int (nI 2)), (0, .ref q0)] [] ((q0, .inr (10, [.ref a0, .ref a2, .ref a4, .ref a6, .ref a8, .ref a9, .ref a11, .ref a13, .ref a15, .ref a17, .ref a19, .ref a21, .ref a23, .ref a25, .ref a27, .int 0, .int 0])) :: ((((((((((((((([] ++ w1) ++ w3) ++ w5) ++ w7) ++ [(a8, cw_ia G.2.2.2.2.2.2.2.2.2.2.2.2.1 20 (fun _ => 0))]) ++ w10) ++ w12) ++ w14) ++ w16) ++ w18) ++ w20) ++ w22) ++ w24) ++ w26) ++ (a27, cw_qa G.2.2.2.2.2.2.2.2.2.2.2.2.1 2 4 (va_up (va_up (fun _ => none) 0 (some x0)) 1 (some x1))) :: ((([] : va_W) ++ u0) ++ u1))) 97 3540
  refine cr_iter hO 171 2 4 (.iconst 4, 1, none) (fun hf kk => cr_ic hO 4 (nI 4) (by decide) hf kk) (by decide) (by decide) (by decide) 90 14 375 88 337 4 94 340 2 (some "WrackDeeds") 22 (-21) cs_X4_init ky_X4_init ki_X4_init rfl rfl (by decide) rfl rfl kn_X4_init kz_X4_init tyX4 tyX4_ok kd_X4_init rfl (fun cs q w h => hd_X4_init h) (by rw [hR]; decide) (by rw [hR]; decide) (by rw [hR]; decide) (by rw [hR]; decide) 195 (by decide) (by decide) hlp (fun x2 u2 hu2 => ?_)
  show cw_W 2 G 171 [(1, .int (nI 3)), (0, .ref q0)] [] ((q0, .inr (10, [.ref a0, .ref a2, .ref a4, .ref a6, .ref a8, .ref a9, .ref a11, .ref a13, .ref a15, .ref a17, .ref a19, .ref a21, .ref a23, .ref a25, .ref a27, .int 0, .int 0])) :: ((((((((((((((([] ++ w1) ++ w3) ++ w5) ++ w7) ++ [(a8, cw_ia G.2.2.2.2.2.2.2.2.2.2.2.2.1 20 (fun _ => 0))]) ++ w10) ++ w12) ++ w14) ++ w16) ++ w18) ++ w20) ++ w22) ++ w24) ++ w26) ++ (a27, cw_qa G.2.2.2.2.2.2.2.2.2.2.2.2.1 2 4 (va_up (va_up (va_up (fun _ => none) 0 (some x0)) 1 (some x1)) 2 (some x2))) :: (((([] : va_W) ++ u0) ++ u1) ++ u2))) 99 3604
  refine cr_iter hO 171 3 4 (.iconst 4, 1, none) (fun hf kk => cr_ic hO 4 (nI 4) (by decide) hf kk) (by decide) (by decide) (by decide) 90 14 375 88 337 4 94 340 2 (some "WrackDeeds") 22 (-21) cs_X4_init ky_X4_init ki_X4_init rfl rfl (by decide) rfl rfl kn_X4_init kz_X4_init tyX4 tyX4_ok kd_X4_init rfl (fun cs q w h => hd_X4_init h) (by rw [hR]; decide) (by rw [hR]; decide) (by rw [hR]; decide) (by rw [hR]; decide) 195 (by decide) (by decide) hlp (fun x3 u3 hu3 => ?_)
  show cw_W 2 G 171 [(1, .int (nI 4)), (0, .ref q0)] [] ((q0, .inr (10, [.ref a0, .ref a2, .ref a4, .ref a6, .ref a8, .ref a9, .ref a11, .ref a13, .ref a15, .ref a17, .ref a19, .ref a21, .ref a23, .ref a25, .ref a27, .int 0, .int 0])) :: ((((((((((((((([] ++ w1) ++ w3) ++ w5) ++ w7) ++ [(a8, cw_ia G.2.2.2.2.2.2.2.2.2.2.2.2.1 20 (fun _ => 0))]) ++ w10) ++ w12) ++ w14) ++ w16) ++ w18) ++ w20) ++ w22) ++ w24) ++ w26) ++ (a27, cw_qa G.2.2.2.2.2.2.2.2.2.2.2.2.1 2 4 (va_up (va_up (va_up (va_up (fun _ => none) 0 (some x0)) 1 (some x1)) 2 (some x2)) 3 (some x3))) :: ((((([] : va_W) ++ u0) ++ u1) ++ u2) ++ u3))) 101 3668
  refine cr_il hO 1 0 rfl (am_fb_ok (by decide +kernel)) ?_
  refine cr_ic hO 4 (nI 4) (by decide) (am_fb_ok (by decide +kernel)) ?_
  refine cr_geT (off := 22) hO 195 (by decide) (by decide) (am_fb_ok (by decide +kernel)) ?_
  show cw_W 2 G 195 [(1, .int (nI 4)), (0, .ref q0)] [] ((q0, .inr (10, [.ref a0, .ref a2, .ref a4, .ref a6, .ref a8, .ref a9, .ref a11, .ref a13, .ref a15, .ref a17, .ref a19, .ref a21, .ref a23, .ref a25, .ref a27, .int 0, .int 0])) :: ((((((((((((((([] ++ w1) ++ w3) ++ w5) ++ w7) ++ [(a8, cw_ia G.2.2.2.2.2.2.2.2.2.2.2.2.1 20 (fun _ => 0))]) ++ w10) ++ w12) ++ w14) ++ w16) ++ w18) ++ w20) ++ w22) ++ w24) ++ w26) ++ (a27, cw_qa G.2.2.2.2.2.2.2.2.2.2.2.2.1 2 4 (va_up (va_up (va_up (va_up (fun _ => none) 0 (some x0)) 1 (some x1)) 2 (some x2)) 3 (some x3))) :: ((((([] : va_W) ++ u0) ++ u1) ++ u2) ++ u3))) 101 3668
  refine cr_al hO 0 1 rfl (am_fb_ok (by decide +kernel)) ?_
  show cw_W 2 G 196 [(1, .int (nI 4)), (0, .ref q0)] [.ref q0] ((q0, .inr (10, [.ref a0, .ref a2, .ref a4, .ref a6, .ref a8, .ref a9, .ref a11, .ref a13, .ref a15, .ref a17, .ref a19, .ref a21, .ref a23, .ref a25, .ref a27, .int 0, .int 0])) :: ((((((((((((((([] ++ w1) ++ w3) ++ w5) ++ w7) ++ [(a8, cw_ia G.2.2.2.2.2.2.2.2.2.2.2.2.1 20 (fun _ => 0))]) ++ w10) ++ w12) ++ w14) ++ w16) ++ w18) ++ w20) ++ w22) ++ w24) ++ w26) ++ (a27, cw_qa G.2.2.2.2.2.2.2.2.2.2.2.2.1 2 4 (va_up (va_up (va_up (va_up (fun _ => none) 0 (some x0)) 1 (some x1)) 2 (some x2)) 3 (some x3))) :: ((((([] : va_W) ++ u0) ++ u1) ++ u2) ++ u3))) 101 3668
  refine cr_ic hO 0 0 (by decide) (am_fb_ok (by decide +kernel)) ?_
  show cw_W 2 G 197 [(1, .int (nI 4)), (0, .ref q0)] [.int 0, .ref q0] ((q0, .inr (10, [.ref a0, .ref a2, .ref a4, .ref a6, .ref a8, .ref a9, .ref a11, .ref a13, .ref a15, .ref a17, .ref a19, .ref a21, .ref a23, .ref a25, .ref a27, .int 0, .int 0])) :: ((((((((((((((([] ++ w1) ++ w3) ++ w5) ++ w7) ++ [(a8, cw_ia G.2.2.2.2.2.2.2.2.2.2.2.2.1 20 (fun _ => 0))]) ++ w10) ++ w12) ++ w14) ++ w16) ++ w18) ++ w20) ++ w22) ++ w24) ++ w26) ++ (a27, cw_qa G.2.2.2.2.2.2.2.2.2.2.2.2.1 2 4 (va_up (va_up (va_up (va_up (fun _ => none) 0 (some x0)) 1 (some x1)) 2 (some x2)) 3 (some x3))) :: ((((([] : va_W) ++ u0) ++ u1) ++ u2) ++ u3))) 101 3668
  refine cr_pf hO 95 15 376 (ty := .int) rfl (by decide) rfl (by decide +kernel) (by first | rfl | decide) (by first | rfl | decide) (Nat.le_of_ble_eq_true rfl) (am_fb_ok (by decide +kernel)) ?_
  show cw_W 2 G 200 [(1, .int (nI 4)), (0, .ref q0)] [] ((q0, .inr (10, [.ref a0, .ref a2, .ref a4, .ref a6, .ref a8, .ref a9, .ref a11, .ref a13, .ref a15, .ref a17, .ref a19, .ref a21, .ref a23, .ref a25, .ref a27, .int 0, .int 0])) :: ((((((((((((((([] ++ w1) ++ w3) ++ w5) ++ w7) ++ [(a8, cw_ia G.2.2.2.2.2.2.2.2.2.2.2.2.1 20 (fun _ => 0))]) ++ w10) ++ w12) ++ w14) ++ w16) ++ w18) ++ w20) ++ w22) ++ w24) ++ w26) ++ (a27, cw_qa G.2.2.2.2.2.2.2.2.2.2.2.2.1 2 4 (va_up (va_up (va_up (va_up (fun _ => none) 0 (some x0)) 1 (some x1)) 2 (some x2)) 3 (some x3))) :: ((((([] : va_W) ++ u0) ++ u1) ++ u2) ++ u3))) 101 3668
  refine cr_al hO 0 1 rfl (am_fb_ok (by decide +kernel)) ?_
  show cw_W 2 G 201 [(1, .int (nI 4)), (0, .ref q0)] [.ref q0] ((q0, .inr (10, [.ref a0, .ref a2, .ref a4, .ref a6, .ref a8, .ref a9, .ref a11, .ref a13, .ref a15, .ref a17, .ref a19, .ref a21, .ref a23, .ref a25, .ref a27, .int 0, .int 0])) :: ((((((((((((((([] ++ w1) ++ w3) ++ w5) ++ w7) ++ [(a8, cw_ia G.2.2.2.2.2.2.2.2.2.2.2.2.1 20 (fun _ => 0))]) ++ w10) ++ w12) ++ w14) ++ w16) ++ w18) ++ w20) ++ w22) ++ w24) ++ w26) ++ (a27, cw_qa G.2.2.2.2.2.2.2.2.2.2.2.2.1 2 4 (va_up (va_up (va_up (va_up (fun _ => none) 0 (some x0)) 1 (some x1)) 2 (some x2)) 3 (some x3))) :: ((((([] : va_W) ++ u0) ++ u1) ++ u2) ++ u3))) 101 3668
  refine cr_ic hO 1 1 (by decide) (am_fb_ok (by decide +kernel)) ?_
  show cw_W 2 G 202 [(1, .int (nI 4)), (0, .ref q0)] [.int 1, .ref q0] ((q0, .inr (10, [.ref a0, .ref a2, .ref a4, .ref a6, .ref a8, .ref a9, .ref a11, .ref a13, .ref a15, .ref a17, .ref a19, .ref a21, .ref a23, .ref a25, .ref a27, .int 0, .int 0])) :: ((((((((((((((([] ++ w1) ++ w3) ++ w5) ++ w7) ++ [(a8, cw_ia G.2.2.2.2.2.2.2.2.2.2.2.2.1 20 (fun _ => 0))]) ++ w10) ++ w12) ++ w14) ++ w16) ++ w18) ++ w20) ++ w22) ++ w24) ++ w26) ++ (a27, cw_qa G.2.2.2.2.2.2.2.2.2.2.2.2.1 2 4 (va_up (va_up (va_up (va_up (fun _ => none) 0 (some x0)) 1 (some x1)) 2 (some x2)) 3 (some x3))) :: ((((([] : va_W) ++ u0) ++ u1) ++ u2) ++ u3))) 101 3668
  refine cr_pf hO 99 16 377 (ty := .boolean) rfl (by decide) rfl (by decide +kernel) (by first | rfl | decide) (by first | rfl | decide) (Nat.le_of_ble_eq_true rfl) (am_fb_ok (by decide +kernel)) ?_
  show cw_W 2 G 205 [(1, .int (nI 4)), (0, .ref q0)] [] ((q0, .inr (10, [.ref a0, .ref a2, .ref a4, .ref a6, .ref a8, .ref a9, .ref a11, .ref a13, .ref a15, .ref a17, .ref a19, .ref a21, .ref a23, .ref a25, .ref a27, .int 0, .int 1])) :: ((((((((((((((([] ++ w1) ++ w3) ++ w5) ++ w7) ++ [(a8, cw_ia G.2.2.2.2.2.2.2.2.2.2.2.2.1 20 (fun _ => 0))]) ++ w10) ++ w12) ++ w14) ++ w16) ++ w18) ++ w20) ++ w22) ++ w24) ++ w26) ++ (a27, cw_qa G.2.2.2.2.2.2.2.2.2.2.2.2.1 2 4 (va_up (va_up (va_up (va_up (fun _ => none) 0 (some x0)) 1 (some x1)) 2 (some x2)) 3 (some x3))) :: ((((([] : va_W) ++ u0) ++ u1) ++ u2) ++ u3))) 101 3668
  exact hret 205 _ _ (am_fb_ok (by decide +kernel)) ⟨a0, a2, a4, a6, a8, a9, a11, a13, a15, a17, a19, a21, a23, a25, a27, x0, x1, x2, x3, w1, w3, w5, w7, w10, w12, w14, w16, w18, w20, w22, w24, w26, u0, u1, u2, u3, hw1, hw3, hw5, hw7, hw10, hw12, hw14, hw16, hw18, hw20, hw22, hw24, hw26, hu0, hu1, hu2, hu3, rfl⟩
def ps_X11_init (cs : Nat → ClassId) (q0 : Nat) (ws : va_W) : Prop := ∃ (a0 a1 a2 a3 a4 a5 a6 a7 a8 a9 a10 a11 a12 a13 a14 a15 a16 a17 a18 a19 a20 a21 a22 a23 a24 a25 a26 : Nat), ws = ((q0, .inr (11, [.ref a0, .ref a1, .ref a2, .ref a3, .int 0, .ref a4, .ref a5, .int 0, .ref a6, .ref a7, .ref a8, .ref a9, .ref a10, .int 0, .ref a11, .int 0, .ref a12, .ref a13, .ref a14, .ref a15, .ref a16, .ref a17, .int 0, .ref a18, .ref a19, .ref a20, .ref a21, .int 0, .int 0, .ref a22, .ref a23, .int 0, .ref a24, .ref a25, .int 0, .ref a26])) :: [(a0, cw_ia cs 4 (upd (upd (upd (upd (fun _ => 0) (nI 0).toNatClampNeg (-1)) (nI 1).toNatClampNeg (-1)) (nI 2).toNatClampNeg (-1)) (nI 3).toNatClampNeg (-1))), (a1, cw_ia cs 4 (fun _ => 0)), (a2, cw_ia cs 240 (fun _ => 0)), (a3, cw_ia cs 60 (fun _ => 0)), (a4, cw_ia cs 216 (fun _ => 0)), (a5, cw_ia cs 3 (fun _ => 0)), (a6, cw_ia cs 8 (fun _ => 0)), (a7, cw_ia cs 8 (fun _ => 0)), (a8, cw_ia cs 8 (fun _ => 0)), (a9, cw_ia cs 48 (fun _ => 0)), (a10, cw_ia cs 20 (fun _ => 0)), (a11, cw_ia cs 8 (fun _ => 0)), (a12, cw_ia cs 32 (fun _ => 0)), (a13, cw_ia cs 160 (fun _ => 0)), (a14, cw_ia cs 160 (fun _ => 0)), (a15, cw_ia cs 20 (fun _ => 0)), (a16, cw_ia cs 8 (fun _ => 0)), (a17, cw_ia cs 8 (fun _ => 0)), (a18, cw_ia cs 8 (fun _ => 0)), (a19, cw_ia cs 8 (fun _ => 0)), (a20, cw_ia cs 8 (fun _ => 0)), (a21, cw_ia cs 8 (fun _ => 0)), (a22, cw_ia cs 6 (fun _ => 0)), (a23, cw_ia cs 6 (fun _ => 0)), (a24, cw_ia cs 24 (fun _ => 0)), (a25, cw_ia cs 100 (fun _ => 0)), (a26, cw_ia cs 32 (fun _ => 0))])
theorem hd_X11_init {cs : Nat → ClassId} {q0 : Nat} {w : va_W} (h : ps_X11_init cs q0 w) : ∃ vs w', w = (q0, .inr (11, vs)) :: w' := by
  obtain ⟨_, _, _, _, _, _, _, _, _, _, _, _, _, _, _, _, _, _, _, _, _, _, _, _, _, _, _, rfl⟩ := h
  exact ⟨_, _, rfl⟩
set_option maxHeartbeats 8000000 in
set_option maxRecDepth 100000 in
theorem cs_X11_init : cw_Sd yX11_init cX11_init 2 1 27 1215 11 [.null, .null, .null, .null, .int 0, .null, .null, .int 0, .null, .null, .null, .null, .null, .int 0, .null, .int 0, .null, .null, .null, .null, .null, .null, .int 0, .null, .null, .null, .null, .int 0, .int 0, .null, .null, .int 0, .null, .null, .int 0, .null] [] (ps_X11_init) := by
  refine cw_meth (y := yX11_init) (by decide) rfl (Nat.le_of_ble_eq_true rfl) ?_
  intro G q0 hO hR hret
  show cw_W 2 G 0 [(0, .ref q0)] [] ((q0, .inr (11, [.null, .null, .null, .null, .int 0, .null, .null, .int 0, .null, .null, .null, .null, .null, .int 0, .null, .int 0, .null, .null, .null, .null, .null, .null, .int 0, .null, .null, .null, .null, .int 0, .int 0, .null, .null, .int 0, .null, .null, .int 0, .null])) :: []) 0 0
  refine cr_al hO 0 0 rfl (am_fb_ok (by decide +kernel)) ?_
  show cw_W 2 G 1 [(0, .ref q0)] [.ref q0] ((q0, .inr (11, [.null, .null, .null, .null, .int 0, .null, .null, .int 0, .null, .null, .null, .null, .null, .int 0, .null, .int 0, .null, .null, .null, .null, .null, .null, .int 0, .null, .null, .null, .null, .int 0, .int 0, .null, .null, .int 0, .null, .null, .int 0, .null])) :: []) 0 0
  refine cr_obj hO 1 885 (by rw [hR]; decide) (by rw [hR]; decide) (am_fb_ok (by decide +kernel)) ?_
  show cw_W 2 G 4 [(0, .ref q0)] [] ((q0, .inr (11, [.null, .null, .null, .null, .int 0, .null, .null, .int 0, .null, .null, .null, .null, .null, .int 0, .null, .int 0, .null, .null, .null, .null, .null, .null, .int 0, .null, .null, .null, .null, .int 0, .int 0, .null, .null, .int 0, .null, .null, .int 0, .null])) :: []) 0 0
  refine cr_al hO 0 0 rfl (am_fb_ok (by decide +kernel)) ?_
  show cw_W 2 G 5 [(0, .ref q0)] [.ref q0] ((q0, .inr (11, [.null, .null, .null, .null, .int 0, .null, .null, .int 0, .null, .null, .null, .null, .null, .int 0, .null, .int 0, .null, .null, .null, .null, .null, .null, .int 0, .null, .null, .null, .null, .int 0, .int 0, .null, .null, .int 0, .null, .null, .int 0, .null])) :: []) 0 0
  refine cr_ic hO 4 4 (by decide) (am_fb_ok (by decide +kernel)) ?_
  show cw_W 2 G 6 [(0, .ref q0)] [.int 4, .ref q0] ((q0, .inr (11, [.null, .null, .null, .null, .int 0, .null, .null, .int 0, .null, .null, .null, .null, .null, .int 0, .null, .int 0, .null, .null, .null, .null, .null, .null, .int 0, .null, .null, .null, .null, .int 0, .int 0, .null, .null, .int 0, .null, .null, .int 0, .null])) :: []) 0 0
  refine cr_na hO 4 (by decide) (by decide) (by decide) (by rw [hR]; decide) (by rw [hR]; decide) (am_fb_ok (by decide +kernel)) (fun a0 => ?_)
  show cw_W 2 G 8 [(0, .ref q0)] [.ref a0, .ref q0] ((q0, .inr (11, [.null, .null, .null, .null, .int 0, .null, .null, .int 0, .null, .null, .null, .null, .null, .int 0, .null, .int 0, .null, .null, .null, .null, .null, .null, .int 0, .null, .null, .null, .null, .int 0, .int 0, .null, .null, .int 0, .null, .null, .int 0, .null])) :: [(a0, cw_ia G.2.2.2.2.2.2.2.2.2.2.2.2.1 4 (fun _ => 0))]) 1 4
  refine cr_pf hO 7 0 886 (ty := .array .int) rfl (by decide) rfl (by decide +kernel) (by first | rfl | decide) (by first | rfl | decide) (Nat.le_of_ble_eq_true rfl) (am_fb_ok (by decide +kernel)) ?_
  show cw_W 2 G 11 [(0, .ref q0)] [] ((q0, .inr (11, [.ref a0, .null, .null, .null, .int 0, .null, .null, .int 0, .null, .null, .null, .null, .null, .int 0, .null, .int 0, .null, .null, .null, .null, .null, .null, .int 0, .null, .null, .null, .null, .int 0, .int 0, .null, .null, .int 0, .null, .null, .int 0, .null])) :: [(a0, cw_ia G.2.2.2.2.2.2.2.2.2.2.2.2.1 4 (fun _ => 0))]) 1 4
  refine cr_al hO 0 0 rfl (am_fb_ok (by decide +kernel)) ?_
  show cw_W 2 G 12 [(0, .ref q0)] [.ref q0] ((q0, .inr (11, [.ref a0, .null, .null, .null, .int 0, .null, .null, .int 0, .null, .null, .null, .null, .null, .int 0, .null, .int 0, .null, .null, .null, .null, .null, .null, .int 0, .null, .null, .null, .null, .int 0, .int 0, .null, .null, .int 0, .null, .null, .int 0, .null])) :: [(a0, cw_ia G.2.2.2.2.2.2.2.2.2.2.2.2.1 4 (fun _ => 0))]) 1 4
  refine cr_ic hO 4 4 (by decide) (am_fb_ok (by decide +kernel)) ?_
  show cw_W 2 G 13 [(0, .ref q0)] [.int 4, .ref q0] ((q0, .inr (11, [.ref a0, .null, .null, .null, .int 0, .null, .null, .int 0, .null, .null, .null, .null, .null, .int 0, .null, .int 0, .null, .null, .null, .null, .null, .null, .int 0, .null, .null, .null, .null, .int 0, .int 0, .null, .null, .int 0, .null, .null, .int 0, .null])) :: [(a0, cw_ia G.2.2.2.2.2.2.2.2.2.2.2.2.1 4 (fun _ => 0))]) 1 4
  refine cr_na hO 4 (by decide) (by decide) (by decide) (by rw [hR]; decide) (by rw [hR]; decide) (am_fb_ok (by decide +kernel)) (fun a1 => ?_)
  show cw_W 2 G 15 [(0, .ref q0)] [.ref a1, .ref q0] ((q0, .inr (11, [.ref a0, .null, .null, .null, .int 0, .null, .null, .int 0, .null, .null, .null, .null, .null, .int 0, .null, .int 0, .null, .null, .null, .null, .null, .null, .int 0, .null, .null, .null, .null, .int 0, .int 0, .null, .null, .int 0, .null, .null, .int 0, .null])) :: [(a0, cw_ia G.2.2.2.2.2.2.2.2.2.2.2.2.1 4 (fun _ => 0)), (a1, cw_ia G.2.2.2.2.2.2.2.2.2.2.2.2.1 4 (fun _ => 0))]) 2 8
  refine cr_pf hO 13 1 887 (ty := .array .int) rfl (by decide) rfl (by decide +kernel) (by first | rfl | decide) (by first | rfl | decide) (Nat.le_of_ble_eq_true rfl) (am_fb_ok (by decide +kernel)) ?_
  show cw_W 2 G 18 [(0, .ref q0)] [] ((q0, .inr (11, [.ref a0, .ref a1, .null, .null, .int 0, .null, .null, .int 0, .null, .null, .null, .null, .null, .int 0, .null, .int 0, .null, .null, .null, .null, .null, .null, .int 0, .null, .null, .null, .null, .int 0, .int 0, .null, .null, .int 0, .null, .null, .int 0, .null])) :: [(a0, cw_ia G.2.2.2.2.2.2.2.2.2.2.2.2.1 4 (fun _ => 0)), (a1, cw_ia G.2.2.2.2.2.2.2.2.2.2.2.2.1 4 (fun _ => 0))]) 2 8
  refine cr_al hO 0 0 rfl (am_fb_ok (by decide +kernel)) ?_
  show cw_W 2 G 19 [(0, .ref q0)] [.ref q0] ((q0, .inr (11, [.ref a0, .ref a1, .null, .null, .int 0, .null, .null, .int 0, .null, .null, .null, .null, .null, .int 0, .null, .int 0, .null, .null, .null, .null, .null, .null, .int 0, .null, .null, .null, .null, .int 0, .int 0, .null, .null, .int 0, .null, .null, .int 0, .null])) :: [(a0, cw_ia G.2.2.2.2.2.2.2.2.2.2.2.2.1 4 (fun _ => 0)), (a1, cw_ia G.2.2.2.2.2.2.2.2.2.2.2.2.1 4 (fun _ => 0))]) 2 8
  refine cr_sp hO 240 240 (by decide) (am_fb_ok (by decide +kernel)) ?_
  show cw_W 2 G 22 [(0, .ref q0)] [.int 240, .ref q0] ((q0, .inr (11, [.ref a0, .ref a1, .null, .null, .int 0, .null, .null, .int 0, .null, .null, .null, .null, .null, .int 0, .null, .int 0, .null, .null, .null, .null, .null, .null, .int 0, .null, .null, .null, .null, .int 0, .int 0, .null, .null, .int 0, .null, .null, .int 0, .null])) :: [(a0, cw_ia G.2.2.2.2.2.2.2.2.2.2.2.2.1 4 (fun _ => 0)), (a1, cw_ia G.2.2.2.2.2.2.2.2.2.2.2.2.1 4 (fun _ => 0))]) 2 8
  refine cr_na hO 240 (by decide) (by decide) (by decide) (by rw [hR]; decide) (by rw [hR]; decide) (am_fb_ok (by decide +kernel)) (fun a2 => ?_)
  show cw_W 2 G 24 [(0, .ref q0)] [.ref a2, .ref q0] ((q0, .inr (11, [.ref a0, .ref a1, .null, .null, .int 0, .null, .null, .int 0, .null, .null, .null, .null, .null, .int 0, .null, .int 0, .null, .null, .null, .null, .null, .null, .int 0, .null, .null, .null, .null, .int 0, .int 0, .null, .null, .int 0, .null, .null, .int 0, .null])) :: [(a0, cw_ia G.2.2.2.2.2.2.2.2.2.2.2.2.1 4 (fun _ => 0)), (a1, cw_ia G.2.2.2.2.2.2.2.2.2.2.2.2.1 4 (fun _ => 0)), (a2, cw_ia G.2.2.2.2.2.2.2.2.2.2.2.2.1 240 (fun _ => 0))]) 3 248
  refine cr_pf hO 16 2 888 (ty := .array .int) rfl (by decide) rfl (by decide +kernel) (by first | rfl | decide) (by first | rfl | decide) (Nat.le_of_ble_eq_true rfl) (am_fb_ok (by decide +kernel)) ?_
  show cw_W 2 G 27 [(0, .ref q0)] [] ((q0, .inr (11, [.ref a0, .ref a1, .ref a2, .null, .int 0, .null, .null, .int 0, .null, .null, .null, .null, .null, .int 0, .null, .int 0, .null, .null, .null, .null, .null, .null, .int 0, .null, .null, .null, .null, .int 0, .int 0, .null, .null, .int 0, .null, .null, .int 0, .null])) :: [(a0, cw_ia G.2.2.2.2.2.2.2.2.2.2.2.2.1 4 (fun _ => 0)), (a1, cw_ia G.2.2.2.2.2.2.2.2.2.2.2.2.1 4 (fun _ => 0)), (a2, cw_ia G.2.2.2.2.2.2.2.2.2.2.2.2.1 240 (fun _ => 0))]) 3 248
  refine cr_al hO 0 0 rfl (am_fb_ok (by decide +kernel)) ?_
  show cw_W 2 G 28 [(0, .ref q0)] [.ref q0] ((q0, .inr (11, [.ref a0, .ref a1, .ref a2, .null, .int 0, .null, .null, .int 0, .null, .null, .null, .null, .null, .int 0, .null, .int 0, .null, .null, .null, .null, .null, .null, .int 0, .null, .null, .null, .null, .int 0, .int 0, .null, .null, .int 0, .null, .null, .int 0, .null])) :: [(a0, cw_ia G.2.2.2.2.2.2.2.2.2.2.2.2.1 4 (fun _ => 0)), (a1, cw_ia G.2.2.2.2.2.2.2.2.2.2.2.2.1 4 (fun _ => 0)), (a2, cw_ia G.2.2.2.2.2.2.2.2.2.2.2.2.1 240 (fun _ => 0))]) 3 248
  refine cr_bp hO 60 60 (by decide) (am_fb_ok (by decide +kernel)) ?_
  show cw_W 2 G 30 [(0, .ref q0)] [.int 60, .ref q0] ((q0, .inr (11, [.ref a0, .ref a1, .ref a2, .null, .int 0, .null, .null, .int 0, .null, .null, .null, .null, .null, .int 0, .null, .int 0, .null, .null, .null, .null, .null, .null, .int 0, .null, .null, .null, .null, .int 0, .int 0, .null, .null, .int 0, .null, .null, .int 0, .null])) :: [(a0, cw_ia G.2.2.2.2.2.2.2.2.2.2.2.2.1 4 (fun _ => 0)), (a1, cw_ia G.2.2.2.2.2.2.2.2.2.2.2.2.1 4 (fun _ => 0)), (a2, cw_ia G.2.2.2.2.2.2.2.2.2.2.2.2.1 240 (fun _ => 0))]) 3 248
  refine cr_na hO 60 (by decide) (by decide) (by decide) (by rw [hR]; decide) (by rw [hR]; decide) (am_fb_ok (by decide +kernel)) (fun a3 => ?_)
  show cw_W 2 G 32 [(0, .ref q0)] [.ref a3, .ref q0] ((q0, .inr (11, [.ref a0, .ref a1, .ref a2, .null, .int 0, .null, .null, .int 0, .null, .null, .null, .null, .null, .int 0, .null, .int 0, .null, .null, .null, .null, .null, .null, .int 0, .null, .null, .null, .null, .int 0, .int 0, .null, .null, .int 0, .null, .null, .int 0, .null])) :: [(a0, cw_ia G.2.2.2.2.2.2.2.2.2.2.2.2.1 4 (fun _ => 0)), (a1, cw_ia G.2.2.2.2.2.2.2.2.2.2.2.2.1 4 (fun _ => 0)), (a2, cw_ia G.2.2.2.2.2.2.2.2.2.2.2.2.1 240 (fun _ => 0)), (a3, cw_ia G.2.2.2.2.2.2.2.2.2.2.2.2.1 60 (fun _ => 0))]) 4 308
  refine cr_pf hO 19 3 889 (ty := .array .int) rfl (by decide) rfl (by decide +kernel) (by first | rfl | decide) (by first | rfl | decide) (Nat.le_of_ble_eq_true rfl) (am_fb_ok (by decide +kernel)) ?_
  show cw_W 2 G 35 [(0, .ref q0)] [] ((q0, .inr (11, [.ref a0, .ref a1, .ref a2, .ref a3, .int 0, .null, .null, .int 0, .null, .null, .null, .null, .null, .int 0, .null, .int 0, .null, .null, .null, .null, .null, .null, .int 0, .null, .null, .null, .null, .int 0, .int 0, .null, .null, .int 0, .null, .null, .int 0, .null])) :: [(a0, cw_ia G.2.2.2.2.2.2.2.2.2.2.2.2.1 4 (fun _ => 0)), (a1, cw_ia G.2.2.2.2.2.2.2.2.2.2.2.2.1 4 (fun _ => 0)), (a2, cw_ia G.2.2.2.2.2.2.2.2.2.2.2.2.1 240 (fun _ => 0)), (a3, cw_ia G.2.2.2.2.2.2.2.2.2.2.2.2.1 60 (fun _ => 0))]) 4 308
  refine cr_al hO 0 0 rfl (am_fb_ok (by decide +kernel)) ?_
  show cw_W 2 G 36 [(0, .ref q0)] [.ref q0] ((q0, .inr (11, [.ref a0, .ref a1, .ref a2, .ref a3, .int 0, .null, .null, .int 0, .null, .null, .null, .null, .null, .int 0, .null, .int 0, .null, .null, .null, .null, .null, .null, .int 0, .null, .null, .null, .null, .int 0, .int 0, .null, .null, .int 0, .null, .null, .int 0, .null])) :: [(a0, cw_ia G.2.2.2.2.2.2.2.2.2.2.2.2.1 4 (fun _ => 0)), (a1, cw_ia G.2.2.2.2.2.2.2.2.2.2.2.2.1 4 (fun _ => 0)), (a2, cw_ia G.2.2.2.2.2.2.2.2.2.2.2.2.1 240 (fun _ => 0)), (a3, cw_ia G.2.2.2.2.2.2.2.2.2.2.2.2.1 60 (fun _ => 0))]) 4 308
  refine cr_sp hO 216 216 (by decide) (am_fb_ok (by decide +kernel)) ?_
  show cw_W 2 G 39 [(0, .ref q0)] [.int 216, .ref q0] ((q0, .inr (11, [.ref a0, .ref a1, .ref a2, .ref a3, .int 0, .null, .null, .int 0, .null, .null, .null, .null, .null, .int 0, .null, .int 0, .null, .null, .null, .null, .null, .null, .int 0, .null, .null, .null, .null, .int 0, .int 0, .null, .null, .int 0, .null, .null, .int 0, .null])) :: [(a0, cw_ia G.2.2.2.2.2.2.2.2.2.2.2.2.1 4 (fun _ => 0)), (a1, cw_ia G.2.2.2.2.2.2.2.2.2.2.2.2.1 4 (fun _ => 0)), (a2, cw_ia G.2.2.2.2.2.2.2.2.2.2.2.2.1 240 (fun _ => 0)), (a3, cw_ia G.2.2.2.2.2.2.2.2.2.2.2.2.1 60 (fun _ => 0))]) 4 308
  refine cr_na hO 216 (by decide) (by decide) (by decide) (by rw [hR]; decide) (by rw [hR]; decide) (am_fb_ok (by decide +kernel)) (fun a4 => ?_)
  show cw_W 2 G 41 [(0, .ref q0)] [.ref a4, .ref q0] ((q0, .inr (11, [.ref a0, .ref a1, .ref a2, .ref a3, .int 0, .null, .null, .int 0, .null, .null, .null, .null, .null, .int 0, .null, .int 0, .null, .null, .null, .null, .null, .null, .int 0, .null, .null, .null, .null, .int 0, .int 0, .null, .null, .int 0, .null, .null, .int 0, .null])) :: [(a0, cw_ia G.2.2.2.2.2.2.2.2.2.2.2.2.1 4 (fun _ => 0)), (a1, cw_ia G.2.2.2.2.2.2.2.2.2.2.2.2.1 4 (fun _ => 0)), (a2, cw_ia G.2.2.2.2.2.2.2.2.2.2.2.2.1 240 (fun _ => 0)), (a3, cw_ia G.2.2.2.2.2.2.2.2.2.2.2.2.1 60 (fun _ => 0)), (a4, cw_ia G.2.2.2.2.2.2.2.2.2.2.2.2.1 216 (fun _ => 0))]) 5 524
  refine cr_pf hO 22 5 891 (ty := .array .int) rfl (by decide) rfl (by decide +kernel) (by first | rfl | decide) (by first | rfl | decide) (Nat.le_of_ble_eq_true rfl) (am_fb_ok (by decide +kernel)) ?_
  show cw_W 2 G 44 [(0, .ref q0)] [] ((q0, .inr (11, [.ref a0, .ref a1, .ref a2, .ref a3, .int 0, .ref a4, .null, .int 0, .null, .null, .null, .null, .null, .int 0, .null, .int 0, .null, .null, .null, .null, .null, .null, .int 0, .null, .null, .null, .null, .int 0, .int 0, .null, .null, .int 0, .null, .null, .int 0, .null])) :: [(a0, cw_ia G.2.2.2.2.2.2.2.2.2.2.2.2.1 4 (fun _ => 0)), (a1, cw_ia G.2.2.2.2.2.2.2.2.2.2.2.2.1 4 (fun _ => 0)), (a2, cw_ia G.2.2.2.2.2.2.2.2.2.2.2.2.1 240 (fun _ => 0)), (a3, cw_ia G.2.2.2.2.2.2.2.2.2.2.2.2.1 60 (fun _ => 0)), (a4, cw_ia G.2.2.2.2.2.2.2.2.2.2.2.2.1 216 (fun _ => 0))]) 5 524
  refine cr_al hO 0 0 rfl (am_fb_ok (by decide +kernel)) ?_
  show cw_W 2 G 45 [(0, .ref q0)] [.ref q0] ((q0, .inr (11, [.ref a0, .ref a1, .ref a2, .ref a3, .int 0, .ref a4, .null, .int 0, .null, .null, .null, .null, .null, .int 0, .null, .int 0, .null, .null, .null, .null, .null, .null, .int 0, .null, .null, .null, .null, .int 0, .int 0, .null, .null, .int 0, .null, .null, .int 0, .null])) :: [(a0, cw_ia G.2.2.2.2.2.2.2.2.2.2.2.2.1 4 (fun _ => 0)), (a1, cw_ia G.2.2.2.2.2.2.2.2.2.2.2.2.1 4 (fun _ => 0)), (a2, cw_ia G.2.2.2.2.2.2.2.2.2.2.2.2.1 240 (fun _ => 0)), (a3, cw_ia G.2.2.2.2.2.2.2.2.2.2.2.2.1 60 (fun _ => 0)), (a4, cw_ia G.2.2.2.2.2.2.2.2.2.2.2.2.1 216 (fun _ => 0))]) 5 524
  refine cr_ic hO 3 3 (by decide) (am_fb_ok (by decide +kernel)) ?_
  show cw_W 2 G 46 [(0, .ref q0)] [.int 3, .ref q0] ((q0, .inr (11, [.ref a0, .ref a1, .ref a2, .ref a3, .int 0, .ref a4, .null, .int 0, .null, .null, .null, .null, .null, .int 0, .null, .int 0, .null, .null, .null, .null, .null, .null, .int 0, .null, .null, .null, .null, .int 0, .int 0, .null, .null, .int 0, .null, .null, .int 0, .null])) :: [(a0, cw_ia G.2.2.2.2.2.2.2.2.2.2.2.2.1 4 (fun _ => 0)), (a1, cw_ia G.2.2.2.2.2.2.2.2.2.2.2.2.1 4 (fun _ => 0)), (a2, cw_ia G.2.2.2.2.2.2.2.2.2.2.2.2.1 240 (fun _ => 0)), (a3, cw_ia G.2.2.2.2.2.2.2.2.2.2.2.2.1 60 (fun _ => 0)), (a4, cw_ia G.2.2.2.2.2.2.2.2.2.2.2.2.1 216 (fun _ => 0))]) 5 524
  refine cr_na hO 3 (by decide) (by decide) (by decide) (by rw [hR]; decide) (by rw [hR]; decide) (am_fb_ok (by decide +kernel)) (fun a5 => ?_)
  show cw_W 2 G 48 [(0, .ref q0)] [.ref a5, .ref q0] ((q0, .inr (11, [.ref a0, .ref a1, .ref a2, .ref a3, .int 0, .ref a4, .null, .int 0, .null, .null, .null, .null, .null, .int 0, .null, .int 0, .null, .null, .null, .null, .null, .null, .int 0, .null, .null, .null, .null, .int 0, .int 0, .null, .null, .int 0, .null, .null, .int 0, .null])) :: [(a0, cw_ia G.2.2.2.2.2.2.2.2.2.2.2.2.1 4 (fun _ => 0)), (a1, cw_ia G.2.2.2.2.2.2.2.2.2.2.2.2.1 4 (fun _ => 0)), (a2, cw_ia G.2.2.2.2.2.2.2.2.2.2.2.2.1 240 (fun _ => 0)), (a3, cw_ia G.2.2.2.2.2.2.2.2.2.2.2.2.1 60 (fun _ => 0)), (a4, cw_ia G.2.2.2.2.2.2.2.2.2.2.2.2.1 216 (fun _ => 0)), (a5, cw_ia G.2.2.2.2.2.2.2.2.2.2.2.2.1 3 (fun _ => 0))]) 6 527
  refine cr_pf hO 25 6 892 (ty := .array .int) rfl (by decide) rfl (by decide +kernel) (by first | rfl | decide) (by first | rfl | decide) (Nat.le_of_ble_eq_true rfl) (am_fb_ok (by decide +kernel)) ?_
  show cw_W 2 G 51 [(0, .ref q0)] [] ((q0, .inr (11, [.ref a0, .ref a1, .ref a2, .ref a3, .int 0, .ref a4, .ref a5, .int 0, .null, .null, .null, .null, .null, .int 0, .null, .int 0, .null, .null, .null, .null, .null, .null, .int 0, .null, .null, .null, .null, .int 0, .int 0, .null, .null, .int 0, .null, .null, .int 0, .null])) :: [(a0, cw_ia G.2.2.2.2.2.2.2.2.2.2.2.2.1 4 (fun _ => 0)), (a1, cw_ia G.2.2.2.2.2.2.2.2.2.2.2.2.1 4 (fun _ => 0)), (a2, cw_ia G.2.2.2.2.2.2.2.2.2.2.2.2.1 240 (fun _ => 0)), (a3, cw_ia G.2.2.2.2.2.2.2.2.2.2.2.2.1 60 (fun _ => 0)), (a4, cw_ia G.2.2.2.2.2.2.2.2.2.2.2.2.1 216 (fun _ => 0)), (a5, cw_ia G.2.2.2.2.2.2.2.2.2.2.2.2.1 3 (fun _ => 0))]) 6 527
  refine cr_al hO 0 0 rfl (am_fb_ok (by decide +kernel)) ?_
  show cw_W 2 G 52 [(0, .ref q0)] [.ref q0] ((q0, .inr (11, [.ref a0, .ref a1, .ref a2, .ref a3, .int 0, .ref a4, .ref a5, .int 0, .null, .null, .null, .null, .null, .int 0, .null, .int 0, .null, .null, .null, .null, .null, .null, .int 0, .null, .null, .null, .null, .int 0, .int 0, .null, .null, .int 0, .null, .null, .int 0, .null])) :: [(a0, cw_ia G.2.2.2.2.2.2.2.2.2.2.2.2.1 4 (fun _ => 0)), (a1, cw_ia G.2.2.2.2.2.2.2.2.2.2.2.2.1 4 (fun _ => 0)), (a2, cw_ia G.2.2.2.2.2.2.2.2.2.2.2.2.1 240 (fun _ => 0)), (a3, cw_ia G.2.2.2.2.2.2.2.2.2.2.2.2.1 60 (fun _ => 0)), (a4, cw_ia G.2.2.2.2.2.2.2.2.2.2.2.2.1 216 (fun _ => 0)), (a5, cw_ia G.2.2.2.2.2.2.2.2.2.2.2.2.1 3 (fun _ => 0))]) 6 527
  refine cr_bp hO 8 8 (by decide) (am_fb_ok (by decide +kernel)) ?_
  show cw_W 2 G 54 [(0, .ref q0)] [.int 8, .ref q0] ((q0, .inr (11, [.ref a0, .ref a1, .ref a2, .ref a3, .int 0, .ref a4, .ref a5, .int 0, .null, .null, .null, .null, .null, .int 0, .null, .int 0, .null, .null, .null, .null, .null, .null, .int 0, .null, .null, .null, .null, .int 0, .int 0, .null, .null, .int 0, .null, .null, .int 0, .null])) :: [(a0, cw_ia G.2.2.2.2.2.2.2.2.2.2.2.2.1 4 (fun _ => 0)), (a1, cw_ia G.2.2.2.2.2.2.2.2.2.2.2.2.1 4 (fun _ => 0)), (a2, cw_ia G.2.2.2.2.2.2.2.2.2.2.2.2.1 240 (fun _ => 0)), (a3, cw_ia G.2.2.2.2.2.2.2.2.2.2.2.2.1 60 (fun _ => 0)), (a4, cw_ia G.2.2.2.2.2.2.2.2.2.2.2.2.1 216 (fun _ => 0)), (a5, cw_ia G.2.2.2.2.2.2.2.2.2.2.2.2.1 3 (fun _ => 0))]) 6 527
  refine cr_na hO 8 (by decide) (by decide) (by decide) (by rw [hR]; decide) (by rw [hR]; decide) (am_fb_ok (by decide +kernel)) (fun a6 => ?_)
  show cw_W 2 G 56 [(0, .ref q0)] [.ref a6, .ref q0] ((q0, .inr (11, [.ref a0, .ref a1, .ref a2, .ref a3, .int 0, .ref a4, .ref a5, .int 0, .null, .null, .null, .null, .null, .int 0, .null, .int 0, .null, .null, .null, .null, .null, .null, .int 0, .null, .null, .null, .null, .int 0, .int 0, .null, .null, .int 0, .null, .null, .int 0, .null])) :: [(a0, cw_ia G.2.2.2.2.2.2.2.2.2.2.2.2.1 4 (fun _ => 0)), (a1, cw_ia G.2.2.2.2.2.2.2.2.2.2.2.2.1 4 (fun _ => 0)), (a2, cw_ia G.2.2.2.2.2.2.2.2.2.2.2.2.1 240 (fun _ => 0)), (a3, cw_ia G.2.2.2.2.2.2.2.2.2.2.2.2.1 60 (fun _ => 0)), (a4, cw_ia G.2.2.2.2.2.2.2.2.2.2.2.2.1 216 (fun _ => 0)), (a5, cw_ia G.2.2.2.2.2.2.2.2.2.2.2.2.1 3 (fun _ => 0)), (a6, cw_ia G.2.2.2.2.2.2.2.2.2.2.2.2.1 8 (fun _ => 0))]) 7 535
  refine cr_pf hO 28 8 894 (ty := .array .int) rfl (by decide) rfl (by decide +kernel) (by first | rfl | decide) (by first | rfl | decide) (Nat.le_of_ble_eq_true rfl) (am_fb_ok (by decide +kernel)) ?_
  show cw_W 2 G 59 [(0, .ref q0)] [] ((q0, .inr (11, [.ref a0, .ref a1, .ref a2, .ref a3, .int 0, .ref a4, .ref a5, .int 0, .ref a6, .null, .null, .null, .null, .int 0, .null, .int 0, .null, .null, .null, .null, .null, .null, .int 0, .null, .null, .null, .null, .int 0, .int 0, .null, .null, .int 0, .null, .null, .int 0, .null])) :: [(a0, cw_ia G.2.2.2.2.2.2.2.2.2.2.2.2.1 4 (fun _ => 0)), (a1, cw_ia G.2.2.2.2.2.2.2.2.2.2.2.2.1 4 (fun _ => 0)), (a2, cw_ia G.2.2.2.2.2.2.2.2.2.2.2.2.1 240 (fun _ => 0)), (a3, cw_ia G.2.2.2.2.2.2.2.2.2.2.2.2.1 60 (fun _ => 0)), (a4, cw_ia G.2.2.2.2.2.2.2.2.2.2.2.2.1 216 (fun _ => 0)), (a5, cw_ia G.2.2.2.2.2.2.2.2.2.2.2.2.1 3 (fun _ => 0)), (a6, cw_ia G.2.2.2.2.2.2.2.2.2.2.2.2.1 8 (fun _ => 0))]) 7 535
  refine cr_al hO 0 0 rfl (am_fb_ok (by decide +kernel)) ?_
  show cw_W 2 G 60 [(0, .ref q0)] [.ref q0] ((q0, .inr (11, [.ref a0, .ref a1, .ref a2, .ref a3, .int 0, .ref a4, .ref a5, .int 0, .ref a6, .null, .null, .null, .null, .int 0, .null, .int 0, .null, .null, .null, .null, .null, .null, .int 0, .null, .null, .null, .null, .int 0, .int 0, .null, .null, .int 0, .null, .null, .int 0, .null])) :: [(a0, cw_ia G.2.2.2.2.2.2.2.2.2.2.2.2.1 4 (fun _ => 0)), (a1, cw_ia G.2.2.2.2.2.2.2.2.2.2.2.2.1 4 (fun _ => 0)), (a2, cw_ia G.2.2.2.2.2.2.2.2.2.2.2.2.1 240 (fun _ => 0)), (a3, cw_ia G.2.2.2.2.2.2.2.2.2.2.2.2.1 60 (fun _ => 0)), (a4, cw_ia G.2.2.2.2.2.2.2.2.2.2.2.2.1 216 (fun _ => 0)), (a5, cw_ia G.2.2.2.2.2.2.2.2.2.2.2.2.1 3 (fun _ => 0)), (a6, cw_ia G.2.2.2.2.2.2.2.2.2.2.2.2.1 8 (fun _ => 0))]) 7 535
  refine cr_bp hO 8 8 (by decide) (am_fb_ok (by decide +kernel)) ?_
  show cw_W 2 G 62 [(0, .ref q0)] [.int 8, .ref q0] ((q0, .inr (11, [.ref a0, .ref a1, .ref a2, .ref a3, .int 0, .ref a4, .ref a5, .int 0, .ref a6, .null, .null, .null, .null, .int 0, .null, .int 0, .null, .null, .null, .null, .null, .null, .int 0, .null, .null, .null, .null, .int 0, .int 0, .null, .null, .int 0, .null, .null, .int 0, .null])) :: [(a0, cw_ia G.2.2.2.2.2.2.2.2.2.2.2.2.1 4 (fun _ => 0)), (a1, cw_ia G.2.2.2.2.2.2.2.2.2.2.2.2.1 4 (fun _ => 0)), (a2, cw_ia G.2.2.2.2.2.2.2.2.2.2.2.2.1 240 (fun _ => 0)), (a3, cw_ia G.2.2.2.2.2.2.2.2.2.2.2.2.1 60 (fun _ => 0)), (a4, cw_ia G.2.2.2.2.2.2.2.2.2.2.2.2.1 216 (fun _ => 0)), (a5, cw_ia G.2.2.2.2.2.2.2.2.2.2.2.2.1 3 (fun _ => 0)), (a6, cw_ia G.2.2.2.2.2.2.2.2.2.2.2.2.1 8 (fun _ => 0))]) 7 535
  refine cr_na hO 8 (by decide) (by decide) (by decide) (by rw [hR]; decide) (by rw [hR]; decide) (am_fb_ok (by decide +kernel)) (fun a7 => ?_)
  show cw_W 2 G 64 [(0, .ref q0)] [.ref a7, .ref q0] ((q0, .inr (11, [.ref a0, .ref a1, .ref a2, .ref a3, .int 0, .ref a4, .ref a5, .int 0, .ref a6, .null, .null, .null, .null, .int 0, .null, .int 0, .null, .null, .null, .null, .null, .null, .int 0, .null, .null, .null, .null, .int 0, .int 0, .null, .null, .int 0, .null, .null, .int 0, .null])) :: [(a0, cw_ia G.2.2.2.2.2.2.2.2.2.2.2.2.1 4 (fun _ => 0)), (a1, cw_ia G.2.2.2.2.2.2.2.2.2.2.2.2.1 4 (fun _ => 0)), (a2, cw_ia G.2.2.2.2.2.2.2.2.2.2.2.2.1 240 (fun _ => 0)), (a3, cw_ia G.2.2.2.2.2.2.2.2.2.2.2.2.1 60 (fun _ => 0)), (a4, cw_ia G.2.2.2.2.2.2.2.2.2.2.2.2.1 216 (fun _ => 0)), (a5, cw_ia G.2.2.2.2.2.2.2.2.2.2.2.2.1 3 (fun _ => 0)), (a6, cw_ia G.2.2.2.2.2.2.2.2.2.2.2.2.1 8 (fun _ => 0)), (a7, cw_ia G.2.2.2.2.2.2.2.2.2.2.2.2.1 8 (fun _ => 0))]) 8 543
  refine cr_pf hO 31 9 895 (ty := .array .int) rfl (by decide) rfl (by decide +kernel) (by first | rfl | decide) (by first | rfl | decide) (Nat.le_of_ble_eq_true rfl) (am_fb_ok (by decide +kernel)) ?_
  show cw_W 2 G 67 [(0, .ref q0)] [] ((q0, .inr (11, [.ref a0, .ref a1, .ref a2, .ref a3, .int 0, .ref a4, .ref a5, .int 0, .ref a6, .ref a7, .null, .null, .null, .int 0, .null, .int 0, .null, .null, .null, .null, .null, .null, .int 0, .null, .null, .null, .null, .int 0, .int 0, .null, .null, .int 0, .null, .null, .int 0, .null])) :: [(a0, cw_ia G.2.2.2.2.2.2.2.2.2.2.2.2.1 4 (fun _ => 0)), (a1, cw_ia G.2.2.2.2.2.2.2.2.2.2.2.2.1 4 (fun _ => 0)), (a2, cw_ia G.2.2.2.2.2.2.2.2.2.2.2.2.1 240 (fun _ => 0)), (a3, cw_ia G.2.2.2.2.2.2.2.2.2.2.2.2.1 60 (fun _ => 0)), (a4, cw_ia G.2.2.2.2.2.2.2.2.2.2.2.2.1 216 (fun _ => 0)), (a5, cw_ia G.2.2.2.2.2.2.2.2.2.2.2.2.1 3 (fun _ => 0)), (a6, cw_ia G.2.2.2.2.2.2.2.2.2.2.2.2.1 8 (fun _ => 0)), (a7, cw_ia G.2.2.2.2.2.2.2.2.2.2.2.2.1 8 (fun _ => 0))]) 8 543
  refine cr_al hO 0 0 rfl (am_fb_ok (by decide +kernel)) ?_
  show cw_W 2 G 68 [(0, .ref q0)] [.ref q0] ((q0, .inr (11, [.ref a0, .ref a1, .ref a2, .ref a3, .int 0, .ref a4, .ref a5, .int 0, .ref a6, .ref a7, .null, .null, .null, .int 0, .null, .int 0, .null, .null, .null, .null, .null, .null, .int 0, .null, .null, .null, .null, .int 0, .int 0, .null, .null, .int 0, .null, .null, .int 0, .null])) :: [(a0, cw_ia G.2.2.2.2.2.2.2.2.2.2.2.2.1 4 (fun _ => 0)), (a1, cw_ia G.2.2.2.2.2.2.2.2.2.2.2.2.1 4 (fun _ => 0)), (a2, cw_ia G.2.2.2.2.2.2.2.2.2.2.2.2.1 240 (fun _ => 0)), (a3, cw_ia G.2.2.2.2.2.2.2.2.2.2.2.2.1 60 (fun _ => 0)), (a4, cw_ia G.2.2.2.2.2.2.2.2.2.2.2.2.1 216 (fun _ => 0)), (a5, cw_ia G.2.2.2.2.2.2.2.2.2.2.2.2.1 3 (fun _ => 0)), (a6, cw_ia G.2.2.2.2.2.2.2.2.2.2.2.2.1 8 (fun _ => 0)), (a7, cw_ia G.2.2.2.2.2.2.2.2.2.2.2.2.1 8 (fun _ => 0))]) 8 543
  refine cr_bp hO 8 8 (by decide) (am_fb_ok (by decide +kernel)) ?_
  show cw_W 2 G 70 [(0, .ref q0)] [.int 8, .ref q0] ((q0, .inr (11, [.ref a0, .ref a1, .ref a2, .ref a3, .int 0, .ref a4, .ref a5, .int 0, .ref a6, .ref a7, .null, .null, .null, .int 0, .null, .int 0, .null, .null, .null, .null, .null, .null, .int 0, .null, .null, .null, .null, .int 0, .int 0, .null, .null, .int 0, .null, .null, .int 0, .null])) :: [(a0, cw_ia G.2.2.2.2.2.2.2.2.2.2.2.2.1 4 (fun _ => 0)), (a1, cw_ia G.2.2.2.2.2.2.2.2.2.2.2.2.1 4 (fun _ => 0)), (a2, cw_ia G.2.2.2.2.2.2.2.2.2.2.2.2.1 240 (fun _ => 0)), (a3, cw_ia G.2.2.2.2.2.2.2.2.2.2.2.2.1 60 (fun _ => 0)), (a4, cw_ia G.2.2.2.2.2.2.2.2.2.2.2.2.1 216 (fun _ => 0)), (a5, cw_ia G.2.2.2.2.2.2.2.2.2.2.2.2.1 3 (fun _ => 0)), (a6, cw_ia G.2.2.2.2.2.2.2.2.2.2.2.2.1 8 (fun _ => 0)), (a7, cw_ia G.2.2.2.2.2.2.2.2.2.2.2.2.1 8 (fun _ => 0))]) 8 543
  refine cr_na hO 8 (by decide) (by decide) (by decide) (by rw [hR]; decide) (by rw [hR]; decide) (am_fb_ok (by decide +kernel)) (fun a8 => ?_)
  show cw_W 2 G 72 [(0, .ref q0)] [.ref a8, .ref q0] ((q0, .inr (11, [.ref a0, .ref a1, .ref a2, .ref a3, .int 0, .ref a4, .ref a5, .int 0, .ref a6, .ref a7, .null, .null, .null, .int 0, .null, .int 0, .null, .null, .null, .null, .null, .null, .int 0, .null, .null, .null, .null, .int 0, .int 0, .null, .null, .int 0, .null, .null, .int 0, .null])) :: [(a0, cw_ia G.2.2.2.2.2.2.2.2.2.2.2.2.1 4 (fun _ => 0)), (a1, cw_ia G.2.2.2.2.2.2.2.2.2.2.2.2.1 4 (fun _ => 0)), (a2, cw_ia G.2.2.2.2.2.2.2.2.2.2.2.2.1 240 (fun _ => 0)), (a3, cw_ia G.2.2.2.2.2.2.2.2.2.2.2.2.1 60 (fun _ => 0)), (a4, cw_ia G.2.2.2.2.2.2.2.2.2.2.2.2.1 216 (fun _ => 0)), (a5, cw_ia G.2.2.2.2.2.2.2.2.2.2.2.2.1 3 (fun _ => 0)), (a6, cw_ia G.2.2.2.2.2.2.2.2.2.2.2.2.1 8 (fun _ => 0)), (a7, cw_ia G.2.2.2.2.2.2.2.2.2.2.2.2.1 8 (fun _ => 0)), (a8, cw_ia G.2.2.2.2.2.2.2.2.2.2.2.2.1 8 (fun _ => 0))]) 9 551
  refine cr_pf hO 34 10 896 (ty := .array .int) rfl (by decide) rfl (by decide +kernel) (by first | rfl | decide) (by first | rfl | decide) (Nat.le_of_ble_eq_true rfl) (am_fb_ok (by decide +kernel)) ?_
  show cw_W 2 G 75 [(0, .ref q0)] [] ((q0, .inr (11, [.ref a0, .ref a1, .ref a2, .ref a3, .int 0, .ref a4, .ref a5, .int 0, .ref a6, .ref a7, .ref a8, .null, .null, .int 0, .null, .int 0, .null, .null, .null, .null, .null, .null, .int 0, .null, .null, .null, .null, .int 0, .int 0, .null, .null, .int 0, .null, .null, .int 0, .null])) :: [(a0, cw_ia G.2.2.2.2.2.2.2.2.2.2.2.2.1 4 (fun _ => 0)), (a1, cw_ia G.2.2.2.2.2.2.2.2.2.2.2.2.1 4 (fun _ => 0)), (a2, cw_ia G.2.2.2.2.2.2.2.2.2.2.2.2.1 240 (fun _ => 0)), (a3, cw_ia G.2.2.2.2.2.2.2.2.2.2.2.2.1 60 (fun _ => 0)), (a4, cw_ia G.2.2.2.2.2.2.2.2.2.2.2.2.1 216 (fun _ => 0)), (a5, cw_ia G.2.2.2.2.2.2.2.2.2.2.2.2.1 3 (fun _ => 0)), (a6, cw_ia G.2.2.2.2.2.2.2.2.2.2.2.2.1 8 (fun _ => 0)), (a7, cw_ia G.2.2.2.2.2.2.2.2.2.2.2.2.1 8 (fun _ => 0)), (a8, cw_ia G.2.2.2.2.2.2.2.2.2.2.2.2.1 8 (fun _ => 0))]) 9 551
  refine cr_al hO 0 0 rfl (am_fb_ok (by decide +kernel)) ?_
  show cw_W 2 G 76 [(0, .ref q0)] [.ref q0] ((q0, .inr (11, [.ref a0, .ref a1, .ref a2, .ref a3, .int 0, .ref a4, .ref a5, .int 0, .ref a6, .ref a7, .ref a8, .null, .null, .int 0, .null, .int 0, .null, .null, .null, .null, .null, .null, .int 0, .null, .null, .null, .null, .int 0, .int 0, .null, .null, .int 0, .null, .null, .int 0, .null])) :: [(a0, cw_ia G.2.2.2.2.2.2.2.2.2.2.2.2.1 4 (fun _ => 0)), (a1, cw_ia G.2.2.2.2.2.2.2.2.2.2.2.2.1 4 (fun _ => 0)), (a2, cw_ia G.2.2.2.2.2.2.2.2.2.2.2.2.1 240 (fun _ => 0)), (a3, cw_ia G.2.2.2.2.2.2.2.2.2.2.2.2.1 60 (fun _ => 0)), (a4, cw_ia G.2.2.2.2.2.2.2.2.2.2.2.2.1 216 (fun _ => 0)), (a5, cw_ia G.2.2.2.2.2.2.2.2.2.2.2.2.1 3 (fun _ => 0)), (a6, cw_ia G.2.2.2.2.2.2.2.2.2.2.2.2.1 8 (fun _ => 0)), (a7, cw_ia G.2.2.2.2.2.2.2.2.2.2.2.2.1 8 (fun _ => 0)), (a8, cw_ia G.2.2.2.2.2.2.2.2.2.2.2.2.1 8 (fun _ => 0))]) 9 551
  refine cr_bp hO 48 48 (by decide) (am_fb_ok (by decide +kernel)) ?_
  show cw_W 2 G 78 [(0, .ref q0)] [.int 48, .ref q0] ((q0, .inr (11, [.ref a0, .ref a1, .ref a2, .ref a3, .int 0, .ref a4, .ref a5, .int 0, .ref a6, .ref a7, .ref a8, .null, .null, .int 0, .null, .int 0, .null, .null, .null, .null, .null, .null, .int 0, .null, .null, .null, .null, .int 0, .int 0, .null, .null, .int 0, .null, .null, .int 0, .null])) :: [(a0, cw_ia G.2.2.2.2.2.2.2.2.2.2.2.2.1 4 (fun _ => 0)), (a1, cw_ia G.2.2.2.2.2.2.2.2.2.2.2.2.1 4 (fun _ => 0)), (a2, cw_ia G.2.2.2.2.2.2.2.2.2.2.2.2.1 240 (fun _ => 0)), (a3, cw_ia G.2.2.2.2.2.2.2.2.2.2.2.2.1 60 (fun _ => 0)), (a4, cw_ia G.2.2.2.2.2.2.2.2.2.2.2.2.1 216 (fun _ => 0)), (a5, cw_ia G.2.2.2.2.2.2.2.2.2.2.2.2.1 3 (fun _ => 0)), (a6, cw_ia G.2.2.2.2.2.2.2.2.2.2.2.2.1 8 (fun _ => 0)), (a7, cw_ia G.2.2.2.2.2.2.2.2.2.2.2.2.1 8 (fun _ => 0)), (a8, cw_ia G.2.2.2.2.2.2.2.2.2.2.2.2.1 8 (fun _ => 0))]) 9 551
  refine cr_na hO 48 (by decide) (by decide) (by decide) (by rw [hR]; decide) (by rw [hR]; decide) (am_fb_ok (by decide +kernel)) (fun a9 => ?_)
  show cw_W 2 G 80 [(0, .ref q0)] [.ref a9, .ref q0] ((q0, .inr (11, [.ref a0, .ref a1, .ref a2, .ref a3, .int 0, .ref a4, .ref a5, .int 0, .ref a6, .ref a7, .ref a8, .null, .null, .int 0, .null, .int 0, .null, .null, .null, .null, .null, .null, .int 0, .null, .null, .null, .null, .int 0, .int 0, .null, .null, .int 0, .null, .null, .int 0, .null])) :: [(a0, cw_ia G.2.2.2.2.2.2.2.2.2.2.2.2.1 4 (fun _ => 0)), (a1, cw_ia G.2.2.2.2.2.2.2.2.2.2.2.2.1 4 (fun _ => 0)), (a2, cw_ia G.2.2.2.2.2.2.2.2.2.2.2.2.1 240 (fun _ => 0)), (a3, cw_ia G.2.2.2.2.2.2.2.2.2.2.2.2.1 60 (fun _ => 0)), (a4, cw_ia G.2.2.2.2.2.2.2.2.2.2.2.2.1 216 (fun _ => 0)), (a5, cw_ia G.2.2.2.2.2.2.2.2.2.2.2.2.1 3 (fun _ => 0)), (a6, cw_ia G.2.2.2.2.2.2.2.2.2.2.2.2.1 8 (fun _ => 0)), (a7, cw_ia G.2.2.2.2.2.2.2.2.2.2.2.2.1 8 (fun _ => 0)), (a8, cw_ia G.2.2.2.2.2.2.2.2.2.2.2.2.1 8 (fun _ => 0)), (a9, cw_ia G.2.2.2.2.2.2.2.2.2.2.2.2.1 48 (fun _ => 0))]) 10 599
  refine cr_pf hO 37 11 897 (ty := .array .int) rfl (by decide) rfl (by decide +kernel) (by first | rfl | decide) (by first | rfl | decide) (Nat.le_of_ble_eq_true rfl) (am_fb_ok (by decide +kernel)) ?_
  show cw_W 2 G 83 [(0, .ref q0)] [] ((q0, .inr (11, [.ref a0, .ref a1, .ref a2, .ref a3, .int 0, .ref a4, .ref a5, .int 0, .ref a6, .ref a7, .ref a8, .ref a9, .null, .int 0, .null, .int 0, .null, .null, .null, .null, .null, .null, .int 0, .null, .null, .null, .null, .int 0, .int 0, .null, .null, .int 0, .null, .null, .int 0, .null])) :: [(a0, cw_ia G.2.2.2.2.2.2.2.2.2.2.2.2.1 4 (fun _ => 0)), (a1, cw_ia G.2.2.2.2.2.2.2.2.2.2.2.2.1 4 (fun _ => 0)), (a2, cw_ia G.2.2.2.2.2.2.2.2.2.2.2.2.1 240 (fun _ => 0)), (a3, cw_ia G.2.2.2.2.2.2.2.2.2.2.2.2.1 60 (fun _ => 0)), (a4, cw_ia G.2.2.2.2.2.2.2.2.2.2.2.2.1 216 (fun _ => 0)), (a5, cw_ia G.2.2.2.2.2.2.2.2.2.2.2.2.1 3 (fun _ => 0)), (a6, cw_ia G.2.2.2.2.2.2.2.2.2.2.2.2.1 8 (fun _ => 0)), (a7, cw_ia G.2.2.2.2.2.2.2.2.2.2.2.2.1 8 (fun _ => 0)), (a8, cw_ia G.2.2.2.2.2.2.2.2.2.2.2.2.1 8 (fun _ => 0)), (a9, cw_ia G.2.2.2.2.2.2.2.2.2.2.2.2.1 48 (fun _ => 0))]) 10 599
  refine cr_al hO 0 0 rfl (am_fb_ok (by decide +kernel)) ?_
  show cw_W 2 G 84 [(0, .ref q0)] [.ref q0] ((q0, .inr (11, [.ref a0, .ref a1, .ref a2, .ref a3, .int 0, .ref a4, .ref a5, .int 0, .ref a6, .ref a7, .ref a8, .ref a9, .null, .int 0, .null, .int 0, .null, .null, .null, .null, .null, .null, .int 0, .null, .null, .null, .null, .int 0, .int 0, .null, .null, .int 0, .null, .null, .int 0, .null])) :: [(a0, cw_ia G.2.2.2.2.2.2.2.2.2.2.2.2.1 4 (fun _ => 0)), (a1, cw_ia G.2.2.2.2.2.2.2.2.2.2.2.2.1 4 (fun _ => 0)), (a2, cw_ia G.2.2.2.2.2.2.2.2.2.2.2.2.1 240 (fun _ => 0)), (a3, cw_ia G.2.2.2.2.2.2.2.2.2.2.2.2.1 60 (fun _ => 0)), (a4, cw_ia G.2.2.2.2.2.2.2.2.2.2.2.2.1 216 (fun _ => 0)), (a5, cw_ia G.2.2.2.2.2.2.2.2.2.2.2.2.1 3 (fun _ => 0)), (a6, cw_ia G.2.2.2.2.2.2.2.2.2.2.2.2.1 8 (fun _ => 0)), (a7, cw_ia G.2.2.2.2.2.2.2.2.2.2.2.2.1 8 (fun _ => 0)), (a8, cw_ia G.2.2.2.2.2.2.2.2.2.2.2.2.1 8 (fun _ => 0)), (a9, cw_ia G.2.2.2.2.2.2.2.2.2.2.2.2.1 48 (fun _ => 0))]) 10 599
  refine cr_bp hO 20 20 (by decide) (am_fb_ok (by decide +kernel)) ?_
  show cw_W 2 G 86 [(0, .ref q0)] [.int 20, .ref q0] ((q0, .inr (11, [.ref a0, .ref a1, .ref a2, .ref a3, .int 0, .ref a4, .ref a5, .int 0, .ref a6, .ref a7, .ref a8, .ref a9, .null, .int 0, .null, .int 0, .null, .null, .null, .null, .null, .null, .int 0, .null, .null, .null, .null, .int 0, .int 0, .null, .null, .int 0, .null, .null, .int 0, .null])) :: [(a0, cw_ia G.2.2.2.2.2.2.2.2.2.2.2.2.1 4 (fun _ => 0)), (a1, cw_ia G.2.2.2.2.2.2.2.2.2.2.2.2.1 4 (fun _ => 0)), (a2, cw_ia G.2.2.2.2.2.2.2.2.2.2.2.2.1 240 (fun _ => 0)), (a3, cw_ia G.2.2.2.2.2.2.2.2.2.2.2.2.1 60 (fun _ => 0)), (a4, cw_ia G.2.2.2.2.2.2.2.2.2.2.2.2.1 216 (fun _ => 0)), (a5, cw_ia G.2.2.2.2.2.2.2.2.2.2.2.2.1 3 (fun _ => 0)), (a6, cw_ia G.2.2.2.2.2.2.2.2.2.2.2.2.1 8 (fun _ => 0)), (a7, cw_ia G.2.2.2.2.2.2.2.2.2.2.2.2.1 8 (fun _ => 0)), (a8, cw_ia G.2.2.2.2.2.2.2.2.2.2.2.2.1 8 (fun _ => 0)), (a9, cw_ia G.2.2.2.2.2.2.2.2.2.2.2.2.1 48 (fun _ => 0))]) 10 599
  refine cr_na hO 20 (by decide) (by decide) (by decide) (by rw [hR]; decide) (by rw [hR]; decide) (am_fb_ok (by decide +kernel)) (fun a10 => ?_)
  show cw_W 2 G 88 [(0, .ref q0)] [.ref a10, .ref q0] ((q0, .inr (11, [.ref a0, .ref a1, .ref a2, .ref a3, .int 0, .ref a4, .ref a5, .int 0, .ref a6, .ref a7, .ref a8, .ref a9, .null, .int 0, .null, .int 0, .null, .null, .null, .null, .null, .null, .int 0, .null, .null, .null, .null, .int 0, .int 0, .null, .null, .int 0, .null, .null, .int 0, .null])) :: [(a0, cw_ia G.2.2.2.2.2.2.2.2.2.2.2.2.1 4 (fun _ => 0)), (a1, cw_ia G.2.2.2.2.2.2.2.2.2.2.2.2.1 4 (fun _ => 0)), (a2, cw_ia G.2.2.2.2.2.2.2.2.2.2.2.2.1 240 (fun _ => 0)), (a3, cw_ia G.2.2.2.2.2.2.2.2.2.2.2.2.1 60 (fun _ => 0)), (a4, cw_ia G.2.2.2.2.2.2.2.2.2.2.2.2.1 216 (fun _ => 0)), (a5, cw_ia G.2.2.2.2.2.2.2.2.2.2.2.2.1 3 (fun _ => 0)), (a6, cw_ia G.2.2.2.2.2.2.2.2.2.2.2.2.1 8 (fun _ => 0)), (a7, cw_ia G.2.2.2.2.2.2.2.2.2.2.2.2.1 8 (fun _ => 0)), (a8, cw_ia G.2.2.2.2.2.2.2.2.2.2.2.2.1 8 (fun _ => 0)), (a9, cw_ia G.2.2.2.2.2.2.2.2.2.2.2.2.1 48 (fun _ => 0)), (a10, cw_ia G.2.2.2.2.2.2.2.2.2.2.2.2.1 20 (fun _ => 0))]) 11 619
  refine cr_pf hO 40 12 898 (ty := .array .int) rfl (by decide) rfl (by decide +kernel) (by first | rfl | decide) (by first | rfl | decide) (Nat.le_of_ble_eq_true rfl) (am_fb_ok (by decide +kernel)) ?_
  show cw_W 2 G 91 [(0, .ref q0)] [] ((q0, .inr (11, [.ref a0, .ref a1, .ref a2, .ref a3, .int 0, .ref a4, .ref a5, .int 0, .ref a6, .ref a7, .ref a8, .ref a9, .ref a10, .int 0, .null, .int 0, .null, .null, .null, .null, .null, .null, .int 0, .null, .null, .null, .null, .int 0, .int 0, .null, .null, .int 0, .null, .null, .int 0, .null])) :: [(a0, cw_ia G.2.2.2.2.2.2.2.2.2.2.2.2.1 4 (fun _ => 0)), (a1, cw_ia G.2.2.2.2.2.2.2.2.2.2.2.2.1 4 (fun _ => 0)), (a2, cw_ia G.2.2.2.2.2.2.2.2.2.2.2.2.1 240 (fun _ => 0)), (a3, cw_ia G.2.2.2.2.2.2.2.2.2.2.2.2.1 60 (fun _ => 0)), (a4, cw_ia G.2.2.2.2.2.2.2.2.2.2.2.2.1 216 (fun _ => 0)), (a5, cw_ia G.2.2.2.2.2.2.2.2.2.2.2.2.1 3 (fun _ => 0)), (a6, cw_ia G.2.2.2.2.2.2.2.2.2.2.2.2.1 8 (fun _ => 0)), (a7, cw_ia G.2.2.2.2.2.2.2.2.2.2.2.2.1 8 (fun _ => 0)), (a8, cw_ia G.2.2.2.2.2.2.2.2.2.2.2.2.1 8 (fun _ => 0)), (a9, cw_ia G.2.2.2.2.2.2.2.2.2.2.2.2.1 48 (fun _ => 0)), (a10, cw_ia G.2.2.2.2.2.2.2.2.2.2.2.2.1 20 (fun _ => 0))]) 11 619
  refine cr_al hO 0 0 rfl (am_fb_ok (by decide +kernel)) ?_
  show cw_W 2 G 92 [(0, .ref q0)] [.ref q0] ((q0, .inr (11, [.ref a0, .ref a1, .ref a2, .ref a3, .int 0, .ref a4, .ref a5, .int 0, .ref a6, .ref a7, .ref a8, .ref a9, .ref a10, .int 0, .null, .int 0, .null, .null, .null, .null, .null, .null, .int 0, .null, .null, .null, .null, .int 0, .int 0, .null, .null, .int 0, .null, .null, .int 0, .null])) :: [(a0, cw_ia G.2.2.2.2.2.2.2.2.2.2.2.2.1 4 (fun _ => 0)), (a1, cw_ia G.2.2.2.2.2.2.2.2.2.2.2.2.1 4 (fun _ => 0)), (a2, cw_ia G.2.2.2.2.2.2.2.2.2.2.2.2.1 240 (fun _ => 0)), (a3, cw_ia G.2.2.2.2.2.2.2.2.2.2.2.2.1 60 (fun _ => 0)), (a4, cw_ia G.2.2.2.2.2.2.2.2.2.2.2.2.1 216 (fun _ => 0)), (a5, cw_ia G.2.2.2.2.2.2.2.2.2.2.2.2.1 3 (fun _ => 0)), (a6, cw_ia G.2.2.2.2.2.2.2.2.2.2.2.2.1 8 (fun _ => 0)), (a7, cw_ia G.2.2.2.2.2.2.2.2.2.2.2.2.1 8 (fun _ => 0)), (a8, cw_ia G.2.2.2.2.2.2.2.2.2.2.2.2.1 8 (fun _ => 0)), (a9, cw_ia G.2.2.2.2.2.2.2.2.2.2.2.2.1 48 (fun _ => 0)), (a10, cw_ia G.2.2.2.2.2.2.2.2.2.2.2.2.1 20 (fun _ => 0))]) 11 619
  refine cr_bp hO 8 8 (by decide) (am_fb_ok (by decide +kernel)) ?_
  show cw_W 2 G 94 [(0, .ref q0)] [.int 8, .ref q0] ((q0, .inr (11, [.ref a0, .ref a1, .ref a2, .ref a3, .int 0, .ref a4, .ref a5, .int 0, .ref a6, .ref a7, .ref a8, .ref a9, .ref a10, .int 0, .null, .int 0, .null, .null, .null, .null, .null, .null, .int 0, .null, .null, .null, .null, .int 0, .int 0, .null, .null, .int 0, .null, .null, .int 0, .null])) :: [(a0, cw_ia G.2.2.2.2.2.2.2.2.2.2.2.2.1 4 (fun _ => 0)), (a1, cw_ia G.2.2.2.2.2.2.2.2.2.2.2.2.1 4 (fun _ => 0)), (a2, cw_ia G.2.2.2.2.2.2.2.2.2.2.2.2.1 240 (fun _ => 0)), (a3, cw_ia G.2.2.2.2.2.2.2.2.2.2.2.2.1 60 (fun _ => 0)), (a4, cw_ia G.2.2.2.2.2.2.2.2.2.2.2.2.1 216 (fun _ => 0)), (a5, cw_ia G.2.2.2.2.2.2.2.2.2.2.2.2.1 3 (fun _ => 0)), (a6, cw_ia G.2.2.2.2.2.2.2.2.2.2.2.2.1 8 (fun _ => 0)), (a7, cw_ia G.2.2.2.2.2.2.2.2.2.2.2.2.1 8 (fun _ => 0)), (a8, cw_ia G.2.2.2.2.2.2.2.2.2.2.2.2.1 8 (fun _ => 0)), (a9, cw_ia G.2.2.2.2.2.2.2.2.2.2.2.2.1 48 (fun _ => 0)), (a10, cw_ia G.2.2.2.2.2.2.2.2.2.2.2.2.1 20 (fun _ => 0))]) 11 619
  refine cr_na hO 8 (by decide) (by decide) (by decide) (by rw [hR]; decide) (by rw [hR]; decide) (am_fb_ok (by decide +kernel)) (fun a11 => ?_)
  show cw_W 2 G 96 [(0, .ref q0)] [.ref a11, .ref q0] ((q0, .inr (11, [.ref a0, .ref a1, .ref a2, .ref a3, .int 0, .ref a4, .ref a5, .int 0, .ref a6, .ref a7, .ref a8, .ref a9, .ref a10, .int 0, .null, .int 0, .null, .null, .null, .null, .null, .null, .int 0, .null, .null, .null, .null, .int 0, .int 0, .null, .null, .int 0, .null, .null, .int 0, .null])) :: [(a0, cw_ia G.2.2.2.2.2.2.2.2.2.2.2.2.1 4 (fun _ => 0)), (a1, cw_ia G.2.2.2.2.2.2.2.2.2.2.2.2.1 4 (fun _ => 0)), (a2, cw_ia G.2.2.2.2.2.2.2.2.2.2.2.2.1 240 (fun _ => 0)), (a3, cw_ia G.2.2.2.2.2.2.2.2.2.2.2.2.1 60 (fun _ => 0)), (a4, cw_ia G.2.2.2.2.2.2.2.2.2.2.2.2.1 216 (fun _ => 0)), (a5, cw_ia G.2.2.2.2.2.2.2.2.2.2.2.2.1 3 (fun _ => 0)), (a6, cw_ia G.2.2.2.2.2.2.2.2.2.2.2.2.1 8 (fun _ => 0)), (a7, cw_ia G.2.2.2.2.2.2.2.2.2.2.2.2.1 8 (fun _ => 0)), (a8, cw_ia G.2.2.2.2.2.2.2.2.2.2.2.2.1 8 (fun _ => 0)), (a9, cw_ia G.2.2.2.2.2.2.2.2.2.2.2.2.1 48 (fun _ => 0)), (a10, cw_ia G.2.2.2.2.2.2.2.2.2.2.2.2.1 20 (fun _ => 0)), (a11, cw_ia G.2.2.2.2.2.2.2.2.2.2.2.2.1 8 (fun _ => 0))]) 12 627
  refine cr_pf hO 43 14 900 (ty := .array .int) rfl (by decide) rfl (by decide +kernel) (by first | rfl | decide) (by first | rfl | decide) (Nat.le_of_ble_eq_true rfl) (am_fb_ok (by decide +kernel)) ?_
  show cw_W 2 G 99 [(0, .ref q0)] [] ((q0, .inr (11, [.ref a0, .ref a1, .ref a2, .ref a3, .int 0, .ref a4, .ref a5, .int 0, .ref a6, .ref a7, .ref a8, .ref a9, .ref a10, .int 0, .ref a11, .int 0, .null, .null, .null, .null, .null, .null, .int 0, .null, .null, .null, .null, .int 0, .int 0, .null, .null, .int 0, .null, .null, .int 0, .null])) :: [(a0, cw_ia G.2.2.2.2.2.2.2.2.2.2.2.2.1 4 (fun _ => 0)), (a1, cw_ia G.2.2.2.2.2.2.2.2.2.2.2.2.1 4 (fun _ => 0)), (a2, cw_ia G.2.2.2.2.2.2.2.2.2.2.2.2.1 240 (fun _ => 0)), (a3, cw_ia G.2.2.2.2.2.2.2.2.2.2.2.2.1 60 (fun _ => 0)), (a4, cw_ia G.2.2.2.2.2.2.2.2.2.2.2.2.1 216 (fun _ => 0)), (a5, cw_ia G.2.2.2.2.2.2.2.2.2.2.2.2.1 3 (fun _ => 0)), (a6, cw_ia G.2.2.2.2.2.2.2.2.2.2.2.2.1 8 (fun _ => 0)), (a7, cw_ia G.2.2.2.2.2.2.2.2.2.2.2.2.1 8 (fun _ => 0)), (a8, cw_ia G.2.2.2.2.2.2.2.2.2.2.2.2.1 8 (fun _ => 0)), (a9, cw_ia G.2.2.2.2.2.2.2.2.2.2.2.2.1 48 (fun _ => 0)), (a10, cw_ia G.2.2.2.2.2.2.2.2.2.2.2.2.1 20 (fun _ => 0)), (a11, cw_ia G.2.2.2.2.2.2.2.2.2.2.2.2.1 8 (fun _ => 0))]) 12 627
  refine cr_al hO 0 0 rfl (am_fb_ok (by decide +kernel)) ?_
  show cw_W 2 G 100 [(0, .ref q0)] [.ref q0] ((q0, .inr (11, [.ref a0, .ref a1, .ref a2, .ref a3, .int 0, .ref a4, .ref a5, .int 0, .ref a6, .ref a7, .ref a8, .ref a9, .ref a10, .int 0, .ref a11, .int 0, .null, .null, .null, .null, .null, .null, .int 0, .null, .null, .null, .null, .int 0, .int 0, .null, .null, .int 0, .null, .null, .int 0, .null])) :: [(a0, cw_ia G.2.2.2.2.2.2.2.2.2.2.2.2.1 4 (fun _ => 0)), (a1, cw_ia G.2.2.2.2.2.2.2.2.2.2.2.2.1 4 (fun _ => 0)), (a2, cw_ia G.2.2.2.2.2.2.2.2.2.2.2.2.1 240 (fun _ => 0)), (a3, cw_ia G.2.2.2.2.2.2.2.2.2.2.2.2.1 60 (fun _ => 0)), (a4, cw_ia G.2.2.2.2.2.2.2.2.2.2.2.2.1 216 (fun _ => 0)), (a5, cw_ia G.2.2.2.2.2.2.2.2.2.2.2.2.1 3 (fun _ => 0)), (a6, cw_ia G.2.2.2.2.2.2.2.2.2.2.2.2.1 8 (fun _ => 0)), (a7, cw_ia G.2.2.2.2.2.2.2.2.2.2.2.2.1 8 (fun _ => 0)), (a8, cw_ia G.2.2.2.2.2.2.2.2.2.2.2.2.1 8 (fun _ => 0)), (a9, cw_ia G.2.2.2.2.2.2.2.2.2.2.2.2.1 48 (fun _ => 0)), (a10, cw_ia G.2.2.2.2.2.2.2.2.2.2.2.2.1 20 (fun _ => 0)), (a11, cw_ia G.2.2.2.2.2.2.2.2.2.2.2.2.1 8 (fun _ => 0))]) 12 627
  refine cr_bp hO 32 32 (by decide) (am_fb_ok (by decide +kernel)) ?_
  show cw_W 2 G 102 [(0, .ref q0)] [.int 32, .ref q0] ((q0, .inr (11, [.ref a0, .ref a1, .ref a2, .ref a3, .int 0, .ref a4, .ref a5, .int 0, .ref a6, .ref a7, .ref a8, .ref a9, .ref a10, .int 0, .ref a11, .int 0, .null, .null, .null, .null, .null, .null, .int 0, .null, .null, .null, .null, .int 0, .int 0, .null, .null, .int 0, .null, .null, .int 0, .null])) :: [(a0, cw_ia G.2.2.2.2.2.2.2.2.2.2.2.2.1 4 (fun _ => 0)), (a1, cw_ia G.2.2.2.2.2.2.2.2.2.2.2.2.1 4 (fun _ => 0)), (a2, cw_ia G.2.2.2.2.2.2.2.2.2.2.2.2.1 240 (fun _ => 0)), (a3, cw_ia G.2.2.2.2.2.2.2.2.2.2.2.2.1 60 (fun _ => 0)), (a4, cw_ia G.2.2.2.2.2.2.2.2.2.2.2.2.1 216 (fun _ => 0)), (a5, cw_ia G.2.2.2.2.2.2.2.2.2.2.2.2.1 3 (fun _ => 0)), (a6, cw_ia G.2.2.2.2.2.2.2.2.2.2.2.2.1 8 (fun _ => 0)), (a7, cw_ia G.2.2.2.2.2.2.2.2.2.2.2.2.1 8 (fun _ => 0)), (a8, cw_ia G.2.2.2.2.2.2.2.2.2.2.2.2.1 8 (fun _ => 0)), (a9, cw_ia G.2.2.2.2.2.2.2.2.2.2.2.2.1 48 (fun _ => 0)), (a10, cw_ia G.2.2.2.2.2.2.2.2.2.2.2.2.1 20 (fun _ => 0)), (a11, cw_ia G.2.2.2.2.2.2.2.2.2.2.2.2.1 8 (fun _ => 0))]) 12 627
  refine cr_na hO 32 (by decide) (by decide) (by decide) (by rw [hR]; decide) (by rw [hR]; decide) (am_fb_ok (by decide +kernel)) (fun a12 => ?_)
  show cw_W 2 G 104 [(0, .ref q0)] [.ref a12, .ref q0] ((q0, .inr (11, [.ref a0, .ref a1, .ref a2, .ref a3, .int 0, .ref a4, .ref a5, .int 0, .ref a6, .ref a7, .ref a8, .ref a9, .ref a10, .int 0, .ref a11, .int 0, .null, .null, .null, .null, .null, .null, .int 0, .null, .null, .null, .null, .int 0, .int 0, .null, .null, .int 0, .null, .null, .int 0, .null])) :: [(a0, cw_ia G.2.2.2.2.2.2.2.2.2.2.2.2.1 4 (fun _ => 0)), (a1, cw_ia G.2.2.2.2.2.2.2.2.2.2.2.2.1 4 (fun _ => 0)), (a2, cw_ia G.2.2.2.2.2.2.2.2.2.2.2.2.1 240 (fun _ => 0)), (a3, cw_ia G.2.2.2.2.2.2.2.2.2.2.2.2.1 60 (fun _ => 0)), (a4, cw_ia G.2.2.2.2.2.2.2.2.2.2.2.2.1 216 (fun _ => 0)), (a5, cw_ia G.2.2.2.2.2.2.2.2.2.2.2.2.1 3 (fun _ => 0)), (a6, cw_ia G.2.2.2.2.2.2.2.2.2.2.2.2.1 8 (fun _ => 0)), (a7, cw_ia G.2.2.2.2.2.2.2.2.2.2.2.2.1 8 (fun _ => 0)), (a8, cw_ia G.2.2.2.2.2.2.2.2.2.2.2.2.1 8 (fun _ => 0)), (a9, cw_ia G.2.2.2.2.2.2.2.2.2.2.2.2.1 48 (fun _ => 0)), (a10, cw_ia G.2.2.2.2.2.2.2.2.2.2.2.2.1 20 (fun _ => 0)), (a11, cw_ia G.2.2.2.2.2.2.2.2.2.2.2.2.1 8 (fun _ => 0)), (a12, cw_ia G.2.2.2.2.2.2.2.2.2.2.2.2.1 32 (fun _ => 0))]) 13 659
  refine cr_pf hO 46 16 902 (ty := .array .int) rfl (by decide) rfl (by decide +kernel) (by first | rfl | decide) (by first | rfl | decide) (Nat.le_of_ble_eq_true rfl) (am_fb_ok (by decide +kernel)) ?_
  show cw_W 2 G 107 [(0, .ref q0)] [] ((q0, .inr (11, [.ref a0, .ref a1, .ref a2, .ref a3, .int 0, .ref a4, .ref a5, .int 0, .ref a6, .ref a7, .ref a8, .ref a9, .ref a10, .int 0, .ref a11, .int 0, .ref a12, .null, .null, .null, .null, .null, .int 0, .null, .null, .null, .null, .int 0, .int 0, .null, .null, .int 0, .null, .null, .int 0, .null])) :: [(a0, cw_ia G.2.2.2.2.2.2.2.2.2.2.2.2.1 4 (fun _ => 0)), (a1, cw_ia G.2.2.2.2.2.2.2.2.2.2.2.2.1 4 (fun _ => 0)), (a2, cw_ia G.2.2.2.2.2.2.2.2.2.2.2.2.1 240 (fun _ => 0)), (a3, cw_ia G.2.2.2.2.2.2.2.2.2.2.2.2.1 60 (fun _ => 0)), (a4, cw_ia G.2.2.2.2.2.2.2.2.2.2.2.2.1 216 (fun _ => 0)), (a5, cw_ia G.2.2.2.2.2.2.2.2.2.2.2.2.1 3 (fun _ => 0)), (a6, cw_ia G.2.2.2.2.2.2.2.2.2.2.2.2.1 8 (fun _ => 0)), (a7, cw_ia G.2.2.2.2.2.2.2.2.2.2.2.2.1 8 (fun _ => 0)), (a8, cw_ia G.2.2.2.2.2.2.2.2.2.2.2.2.1 8 (fun _ => 0)), (a9, cw_ia G.2.2.2.2.2.2.2.2.2.2.2.2.1 48 (fun _ => 0)), (a10, cw_ia G.2.2.2.2.2.2.2.2.2.2.2.2.1 20 (fun _ => 0)), (a11, cw_ia G.2.2.2.2.2.2.2.2.2.2.2.2.1 8 (fun _ => 0)), (a12, cw_ia G.2.2.2.2.2.2.2.2.2.2.2.2.1 32 (fun _ => 0))]) 13 659
  refine cr_al hO 0 0 rfl (am_fb_ok (by decide +kernel)) ?_
  show cw_W 2 G 108 [(0, .ref q0)] [.ref q0] ((q0, .inr (11, [.ref a0, .ref a1, .ref a2, .ref a3, .int 0, .ref a4, .ref a5, .int 0, .ref a6, .ref a7, .ref a8, .ref a9, .ref a10, .int 0, .ref a11, .int 0, .ref a12, .null, .null, .null, .null, .null, .int 0, .null, .null, .null, .null, .int 0, .int 0, .null, .null, .int 0, .null, .null, .int 0, .null])) :: [(a0, cw_ia G.2.2.2.2.2.2.2.2.2.2.2.2.1 4 (fun _ => 0)), (a1, cw_ia G.2.2.2.2.2.2.2.2.2.2.2.2.1 4 (fun _ => 0)), (a2, cw_ia G.2.2.2.2.2.2.2.2.2.2.2.2.1 240 (fun _ => 0)), (a3, cw_ia G.2.2.2.2.2.2.2.2.2.2.2.2.1 60 (fun _ => 0)), (a4, cw_ia G.2.2.2.2.2.2.2.2.2.2.2.2.1 216 (fun _ => 0)), (a5, cw_ia G.2.2.2.2.2.2.2.2.2.2.2.2.1 3 (fun _ => 0)), (a6, cw_ia G.2.2.2.2.2.2.2.2.2.2.2.2.1 8 (fun _ => 0)), (a7, cw_ia G.2.2.2.2.2.2.2.2.2.2.2.2.1 8 (fun _ => 0)), (a8, cw_ia G.2.2.2.2.2.2.2.2.2.2.2.2.1 8 (fun _ => 0)), (a9, cw_ia G.2.2.2.2.2.2.2.2.2.2.2.2.1 48 (fun _ => 0)), (a10, cw_ia G.2.2.2.2.2.2.2.2.2.2.2.2.1 20 (fun _ => 0)), (a11, cw_ia G.2.2.2.2.2.2.2.2.2.2.2.2.1 8 (fun _ => 0)), (a12, cw_ia G.2.2.2.2.2.2.2.2.2.2.2.2.1 32 (fun _ => 0))]) 13 659
  refine cr_sp hO 160 160 (by decide) (am_fb_ok (by decide +kernel)) ?_
  show cw_W 2 G 111 [(0, .ref q0)] [.int 160, .ref q0] ((q0, .inr (11, [.ref a0, .ref a1, .ref a2, .ref a3, .int 0, .ref a4, .ref a5, .int 0, .ref a6, .ref a7, .ref a8, .ref a9, .ref a10, .int 0, .ref a11, .int 0, .ref a12, .null, .null, .null, .null, .null, .int 0, .null, .null, .null, .null, .int 0, .int 0, .null, .null, .int 0, .null, .null, .int 0, .null])) :: [(a0, cw_ia G.2.2.2.2.2.2.2.2.2.2.2.2.1 4 (fun _ => 0)), (a1, cw_ia G.2.2.2.2.2.2.2.2.2.2.2.2.1 4 (fun _ => 0)), (a2, cw_ia G.2.2.2.2.2.2.2.2.2.2.2.2.1 240 (fun _ => 0)), (a3, cw_ia G.2.2.2.2.2.2.2.2.2.2.2.2.1 60 (fun _ => 0)), (a4, cw_ia G.2.2.2.2.2.2.2.2.2.2.2.2.1 216 (fun _ => 0)), (a5, cw_ia G.2.2.2.2.2.2.2.2.2.2.2.2.1 3 (fun _ => 0)), (a6, cw_ia G.2.2.2.2.2.2.2.2.2.2.2.2.1 8 (fun _ => 0)), (a7, cw_ia G.2.2.2.2.2.2.2.2.2.2.2.2.1 8 (fun _ => 0)), (a8, cw_ia G.2.2.2.2.2.2.2.2.2.2.2.2.1 8 (fun _ => 0)), (a9, cw_ia G.2.2.2.2.2.2.2.2.2.2.2.2.1 48 (fun _ => 0)), (a10, cw_ia G.2.2.2.2.2.2.2.2.2.2.2.2.1 20 (fun _ => 0)), (a11, cw_ia G.2.2.2.2.2.2.2.2.2.2.2.2.1 8 (fun _ => 0)), (a12, cw_ia G.2.2.2.2.2.2.2.2.2.2.2.2.1 32 (fun _ => 0))]) 13 659
  refine cr_na hO 160 (by decide) (by decide) (by decide) (by rw [hR]; decide) (by rw [hR]; decide) (am_fb_ok (by decide +kernel)) (fun a13 => ?_)
  show cw_W 2 G 113 [(0, .ref q0)] [.ref a13, .ref q0] ((q0, .inr (11, [.ref a0, .ref a1, .ref a2, .ref a3, .int 0, .ref a4, .ref a5, .int 0, .ref a6, .ref a7, .ref a8, .ref a9, .ref a10, .int 0, .ref a11, .int 0, .ref a12, .null, .null, .null, .null, .null, .int 0, .null, .null, .null, .null, .int 0, .int 0, .null, .null, .int 0, .null, .null, .int 0, .null])) :: [(a0, cw_ia G.2.2.2.2.2.2.2.2.2.2.2.2.1 4 (fun _ => 0)), (a1, cw_ia G.2.2.2.2.2.2.2.2.2.2.2.2.1 4 (fun _ => 0)), (a2, cw_ia G.2.2.2.2.2.2.2.2.2.2.2.2.1 240 (fun _ => 0)), (a3, cw_ia G.2.2.2.2.2.2.2.2.2.2.2.2.1 60 (fun _ => 0)), (a4, cw_ia G.2.2.2.2.2.2.2.2.2.2.2.2.1 216 (fun _ => 0)), (a5, cw_ia G.2.2.2.2.2.2.2.2.2.2.2.2.1 3 (fun _ => 0)), (a6, cw_ia G.2.2.2.2.2.2.2.2.2.2.2.2.1 8 (fun _ => 0)), (a7, cw_ia G.2.2.2.2.2.2.2.2.2.2.2.2.1 8 (fun _ => 0)), (a8, cw_ia G.2.2.2.2.2.2.2.2.2.2.2.2.1 8 (fun _ => 0)), (a9, cw_ia G.2.2.2.2.2.2.2.2.2.2.2.2.1 48 (fun _ => 0)), (a10, cw_ia G.2.2.2.2.2.2.2.2.2.2.2.2.1 20 (fun _ => 0)), (a11, cw_ia G.2.2.2.2.2.2.2.2.2.2.2.2.1 8 (fun _ => 0)), (a12, cw_ia G.2.2.2.2.2.2.2.2.2.2.2.2.1 32 (fun _ => 0)), (a13, cw_ia G.2.2.2.2.2.2.2.2.2.2.2.2.1 160 (fun _ => 0))]) 14 819
  refine cr_pf hO 49 17 903 (ty := .array .int) rfl (by decide) rfl (by decide +kernel) (by first | rfl | decide) (by first | rfl | decide) (Nat.le_of_ble_eq_true rfl) (am_fb_ok (by decide +kernel)) ?_
  show cw_W 2 G 116 [(0, .ref q0)] [] ((q0, .inr (11, [.ref a0, .ref a1, .ref a2, .ref a3, .int 0, .ref a4, .ref a5, .int 0, .ref a6, .ref a7, .ref a8, .ref a9, .ref a10, .int 0, .ref a11, .int 0, .ref a12, .ref a13, .null, .null, .null, .null, .int 0, .null, .null, .null, .null, .int 0, .int 0, .null, .null, .int 0, .null, .null, .int 0, .null])) :: [(a0, cw_ia G.2.2.2.2.2.2.2.2.2.2.2.2.1 4 (fun _ => 0)), (a1, cw_ia G.2.2.2.2.2.2.2.2.2.2.2.2.1 4 (fun _ => 0)), (a2, cw_ia G.2.2.2.2.2.2.2.2.2.2.2.2.1 240 (fun _ => 0)), (a3, cw_ia G.2.2.2.2.2.2.2.2.2.2.2.2.1 60 (fun _ => 0)), (a4, cw_ia G.2.2.2.2.2.2.2.2.2.2.2.2.1 216 (fun _ => 0)), (a5, cw_ia G.2.2.2.2.2.2.2.2.2.2.2.2.1 3 (fun _ => 0)), (a6, cw_ia G.2.2.2.2.2.2.2.2.2.2.2.2.1 8 (fun _ => 0)), (a7, cw_ia G.2.2.2.2.2.2.2.2.2.2.2.2.1 8 (fun _ => 0)), (a8, cw_ia G.2.2.2.2.2.2.2.2.2.2.2.2.1 8 (fun _ => 0)), (a9, cw_ia G.2.2.2.2.2.2.2.2.2.2.2.2.1 48 (fun _ => 0)), (a10, cw_ia G.2.2.2.2.2.2.2.2.2.2.2.2.1 20 (fun _ => 0)), (a11, cw_ia G.2.2.2.2.2.2.2.2.2.2.2.2.1 8 (fun _ => 0)), (a12, cw_ia G.2.2.2.2.2.2.2.2.2.2.2.2.1 32 (fun _ => 0)), (a13, cw_ia G.2.2.2.2.2.2.2.2.2.2.2.2.1 160 (fun _ => 0))]) 14 819
  refine cr_al hO 0 0 rfl (am_fb_ok (by decide +kernel)) ?_
  show cw_W 2 G 117 [(0, .ref q0)] [.ref q0] ((q0, .inr (11, [.ref a0, .ref a1, .ref a2, .ref a3, .int 0, .ref a4, .ref a5, .int 0, .ref a6, .ref a7, .ref a8, .ref a9, .ref a10, .int 0, .ref a11, .int 0, .ref a12, .ref a13, .null, .null, .null, .null, .int 0, .null, .null, .null, .null, .int 0, .int 0, .null, .null, .int 0, .null, .null, .int 0, .null])) :: [(a0, cw_ia G.2.2.2.2.2.2.2.2.2.2.2.2.1 4 (fun _ => 0)), (a1, cw_ia G.2.2.2.2.2.2.2.2.2.2.2.2.1 4 (fun _ => 0)), (a2, cw_ia G.2.2.2.2.2.2.2.2.2.2.2.2.1 240 (fun _ => 0)), (a3, cw_ia G.2.2.2.2.2.2.2.2.2.2.2.2.1 60 (fun _ => 0)), (a4, cw_ia G.2.2.2.2.2.2.2.2.2.2.2.2.1 216 (fun _ => 0)), (a5, cw_ia G.2.2.2.2.2.2.2.2.2.2.2.2.1 3 (fun _ => 0)), (a6, cw_ia G.2.2.2.2.2.2.2.2.2.2.2.2.1 8 (fun _ => 0)), (a7, cw_ia G.2.2.2.2.2.2.2.2.2.2.2.2.1 8 (fun _ => 0)), (a8, cw_ia G.2.2.2.2.2.2.2.2.2.2.2.2.1 8 (fun _ => 0)), (a9, cw_ia G.2.2.2.2.2.2.2.2.2.2.2.2.1 48 (fun _ => 0)), (a10, cw_ia G.2.2.2.2.2.2.2.2.2.2.2.2.1 20 (fun _ => 0)), (a11, cw_ia G.2.2.2.2.2.2.2.2.2.2.2.2.1 8 (fun _ => 0)), (a12, cw_ia G.2.2.2.2.2.2.2.2.2.2.2.2.1 32 (fun _ => 0)), (a13, cw_ia G.2.2.2.2.2.2.2.2.2.2.2.2.1 160 (fun _ => 0))]) 14 819
  refine cr_sp hO 160 160 (by decide) (am_fb_ok (by decide +kernel)) ?_
  show cw_W 2 G 120 [(0, .ref q0)] [.int 160, .ref q0] ((q0, .inr (11, [.ref a0, .ref a1, .ref a2, .ref a3, .int 0, .ref a4, .ref a5, .int 0, .ref a6, .ref a7, .ref a8, .ref a9, .ref a10, .int 0, .ref a11, .int 0, .ref a12, .ref a13, .null, .null, .null, .null, .int 0, .null, .null, .null, .null, .int 0, .int 0, .null, .null, .int 0, .null, .null, .int 0, .null])) :: [(a0, cw_ia G.2.2.2.2.2.2.2.2.2.2.2.2.1 4 (fun _ => 0)), (a1, cw_ia G.2.2.2.2.2.2.2.2.2.2.2.2.1 4 (fun _ => 0)), (a2, cw_ia G.2.2.2.2.2.2.2.2.2.2.2.2.1 240 (fun _ => 0)), (a3, cw_ia G.2.2.2.2.2.2.2.2.2.2.2.2.1 60 (fun _ => 0)), (a4, cw_ia G.2.2.2.2.2.2.2.2.2.2.2.2.1 216 (fun _ => 0)), (a5, cw_ia G.2.2.2.2.2.2.2.2.2.2.2.2.1 3 (fun _ => 0)), (a6, cw_ia G.2.2.2.2.2.2.2.2.2.2.2.2.1 8 (fun _ => 0)), (a7, cw_ia G.2.2.2.2.2.2.2.2.2.2.2.2.1 8 (fun _ => 0)), (a8, cw_ia G.2.2.2.2.2.2.2.2.2.2.2.2.1 8 (fun _ => 0)), (a9, cw_ia G.2.2.2.2.2.2.2.2.2.2.2.2.1 48 (fun _ => 0)), (a10, cw_ia G.2.2.2.2.2.2.2.2.2.2.2.2.1 20 (fun _ => 0)), (a11, cw_ia G.2.2.2.2.2.2.2.2.2.2.2.2.1 8 (fun _ => 0)), (a12, cw_ia G.2.2.2.2.2.2.2.2.2.2.2.2.1 32 (fun _ => 0)), (a13, cw_ia G.2.2.2.2.2.2.2.2.2.2.2.2.1 160 (fun _ => 0))]) 14 819
  refine cr_na hO 160 (by decide) (by decide) (by decide) (by rw [hR]; decide) (by rw [hR]; decide) (am_fb_ok (by decide +kernel)) (fun a14 => ?_)
  show cw_W 2 G 122 [(0, .ref q0)] [.ref a14, .ref q0] ((q0, .inr (11, [.ref a0, .ref a1, .ref a2, .ref a3, .int 0, .ref a4, .ref a5, .int 0, .ref a6, .ref a7, .ref a8, .ref a9, .ref a10, .int 0, .ref a11, .int 0, .ref a12, .ref a13, .null, .null, .null, .null, .int 0, .null, .null, .null, .null, .int 0, .int 0, .null, .null, .int 0, .null, .null, .int 0, .null])) :: [(a0, cw_ia G.2.2.2.2.2.2.2.2.2.2.2.2.1 4 (fun _ => 0)), (a1, cw_ia G.2.2.2.2.2.2.2.2.2.2.2.2.1 4 (fun _ => 0)), (a2, cw_ia G.2.2.2.2.2.2.2.2.2.2.2.2.1 240 (fun _ => 0)), (a3, cw_ia G.2.2.2.2.2.2.2.2.2.2.2.2.1 60 (fun _ => 0)), (a4, cw_ia G.2.2.2.2.2.2.2.2.2.2.2.2.1 216 (fun _ => 0)), (a5, cw_ia G.2.2.2.2.2.2.2.2.2.2.2.2.1 3 (fun _ => 0)), (a6, cw_ia G.2.2.2.2.2.2.2.2.2.2.2.2.1 8 (fun _ => 0)), (a7, cw_ia G.2.2.2.2.2.2.2.2.2.2.2.2.1 8 (fun _ => 0)), (a8, cw_ia G.2.2.2.2.2.2.2.2.2.2.2.2.1 8 (fun _ => 0)), (a9, cw_ia G.2.2.2.2.2.2.2.2.2.2.2.2.1 48 (fun _ => 0)), (a10, cw_ia G.2.2.2.2.2.2.2.2.2.2.2.2.1 20 (fun _ => 0)), (a11, cw_ia G.2.2.2.2.2.2.2.2.2.2.2.2.1 8 (fun _ => 0)), (a12, cw_ia G.2.2.2.2.2.2.2.2.2.2.2.2.1 32 (fun _ => 0)), (a13, cw_ia G.2.2.2.2.2.2.2.2.2.2.2.2.1 160 (fun _ => 0)), (a14, cw_ia G.2.2.2.2.2.2.2.2.2.2.2.2.1 160 (fun _ => 0))]) 15 979
  refine cr_pf hO 52 18 904 (ty := .array .int) rfl (by decide) rfl (by decide +kernel) (by first | rfl | decide) (by first | rfl | decide) (Nat.le_of_ble_eq_true rfl) (am_fb_ok (by decide +kernel)) ?_
  show cw_W 2 G 125 [(0, .ref q0)] [] ((q0, .inr (11, [.ref a0, .ref a1, .ref a2, .ref a3, .int 0, .ref a4, .ref a5, .int 0, .ref a6, .ref a7, .ref a8, .ref a9, .ref a10, .int 0, .ref a11, .int 0, .ref a12, .ref a13, .ref a14, .null, .null, .null, .int 0, .null, .null, .null, .null, .int 0, .int 0, .null, .null, .int 0, .null, .null, .int 0, .null])) :: [(a0, cw_ia G.2.2.2.2.2.2.2.2.2.2.2.2.1 4 (fun _ => 0)), (a1, cw_ia G.2.2.2.2.2.2.2.2.2.2.2.2.1 4 (fun _ => 0)), (a2, cw_ia G.2.2.2.2.2.2.2.2.2.2.2.2.1 240 (fun _ => 0)), (a3, cw_ia G.2.2.2.2.2.2.2.2.2.2.2.2.1 60 (fun _ => 0)), (a4, cw_ia G.2.2.2.2.2.2.2.2.2.2.2.2.1 216 (fun _ => 0)), (a5, cw_ia G.2.2.2.2.2.2.2.2.2.2.2.2.1 3 (fun _ => 0)), (a6, cw_ia G.2.2.2.2.2.2.2.2.2.2.2.2.1 8 (fun _ => 0)), (a7, cw_ia G.2.2.2.2.2.2.2.2.2.2.2.2.1 8 (fun _ => 0)), (a8, cw_ia G.2.2.2.2.2.2.2.2.2.2.2.2.1 8 (fun _ => 0)), (a9, cw_ia G.2.2.2.2.2.2.2.2.2.2.2.2.1 48 (fun _ => 0)), (a10, cw_ia G.2.2.2.2.2.2.2.2.2.2.2.2.1 20 (fun _ => 0)), (a11, cw_ia G.2.2.2.2.2.2.2.2.2.2.2.2.1 8 (fun _ => 0)), (a12, cw_ia G.2.2.2.2.2.2.2.2.2.2.2.2.1 32 (fun _ => 0)), (a13, cw_ia G.2.2.2.2.2.2.2.2.2.2.2.2.1 160 (fun _ => 0)), (a14, cw_ia G.2.2.2.2.2.2.2.2.2.2.2.2.1 160 (fun _ => 0))]) 15 979
  refine cr_al hO 0 0 rfl (am_fb_ok (by decide +kernel)) ?_
  show cw_W 2 G 126 [(0, .ref q0)] [.ref q0] ((q0, .inr (11, [.ref a0, .ref a1, .ref a2, .ref a3, .int 0, .ref a4, .ref a5, .int 0, .ref a6, .ref a7, .ref a8, .ref a9, .ref a10, .int 0, .ref a11, .int 0, .ref a12, .ref a13, .ref a14, .null, .null, .null, .int 0, .null, .null, .null, .null, .int 0, .int 0, .null, .null, .int 0, .null, .null, .int 0, .null])) :: [(a0, cw_ia G.2.2.2.2.2.2.2.2.2.2.2.2.1 4 (fun _ => 0)), (a1, cw_ia G.2.2.2.2.2.2.2.2.2.2.2.2.1 4 (fun _ => 0)), (a2, cw_ia G.2.2.2.2.2.2.2.2.2.2.2.2.1 240 (fun _ => 0)), (a3, cw_ia G.2.2.2.2.2.2.2.2.2.2.2.2.1 60 (fun _ => 0)), (a4, cw_ia G.2.2.2.2.2.2.2.2.2.2.2.2.1 216 (fun _ => 0)), (a5, cw_ia G.2.2.2.2.2.2.2.2.2.2.2.2.1 3 (fun _ => 0)), (a6, cw_ia G.2.2.2.2.2.2.2.2.2.2.2.2.1 8 (fun _ => 0)), (a7, cw_ia G.2.2.2.2.2.2.2.2.2.2.2.2.1 8 (fun _ => 0)), (a8, cw_ia G.2.2.2.2.2.2.2.2.2.2.2.2.1 8 (fun _ => 0)), (a9, cw_ia G.2.2.2.2.2.2.2.2.2.2.2.2.1 48 (fun _ => 0)), (a10, cw_ia G.2.2.2.2.2.2.2.2.2.2.2.2.1 20 (fun _ => 0)), (a11, cw_ia G.2.2.2.2.2.2.2.2.2.2.2.2.1 8 (fun _ => 0)), (a12, cw_ia G.2.2.2.2.2.2.2.2.2.2.2.2.1 32 (fun _ => 0)), (a13, cw_ia G.2.2.2.2.2.2.2.2.2.2.2.2.1 160 (fun _ => 0)), (a14, cw_ia G.2.2.2.2.2.2.2.2.2.2.2.2.1 160 (fun _ => 0))]) 15 979
  refine cr_bp hO 20 20 (by decide) (am_fb_ok (by decide +kernel)) ?_
  show cw_W 2 G 128 [(0, .ref q0)] [.int 20, .ref q0] ((q0, .inr (11, [.ref a0, .ref a1, .ref a2, .ref a3, .int 0, .ref a4, .ref a5, .int 0, .ref a6, .ref a7, .ref a8, .ref a9, .ref a10, .int 0, .ref a11, .int 0, .ref a12, .ref a13, .ref a14, .null, .null, .null, .int 0, .null, .null, .null, .null, .int 0, .int 0, .null, .null, .int 0, .null, .null, .int 0, .null])) :: [(a0, cw_ia G.2.2.2.2.2.2.2.2.2.2.2.2.1 4 (fun _ => 0)), (a1, cw_ia G.2.2.2.2.2.2.2.2.2.2.2.2.1 4 (fun _ => 0)), (a2, cw_ia G.2.2.2.2.2.2.2.2.2.2.2.2.1 240 (fun _ => 0)), (a3, cw_ia G.2.2.2.2.2.2.2.2.2.2.2.2.1 60 (fun _ => 0)), (a4, cw_ia G.2.2.2.2.2.2.2.2.2.2.2.2.1 216 (fun _ => 0)), (a5, cw_ia G.2.2.2.2.2.2.2.2.2.2.2.2.1 3 (fun _ => 0)), (a6, cw_ia G.2.2.2.2.2.2.2.2.2.2.2.2.1 8 (fun _ => 0)), (a7, cw_ia G.2.2.2.2.2.2.2.2.2.2.2.2.1 8 (fun _ => 0)), (a8, cw_ia G.2.2.2.2.2.2.2.2.2.2.2.2.1 8 (fun _ => 0)), (a9, cw_ia G.2.2.2.2.2.2.2.2.2.2.2.2.1 48 (fun _ => 0)), (a10, cw_ia G.2.2.2.2.2.2.2.2.2.2.2.2.1 20 (fun _ => 0)), (a11, cw_ia G.2.2.2.2.2.2.2.2.2.2.2.2.1 8 (fun _ => 0)), (a12, cw_ia G.2.2.2.2.2.2.2.2.2.2.2.2.1 32 (fun _ => 0)), (a13, cw_ia G.2.2.2.2.2.2.2.2.2.2.2.2.1 160 (fun _ => 0)), (a14, cw_ia G.2.2.2.2.2.2.2.2.2.2.2.2.1 160 (fun _ => 0))]) 15 979
  refine cr_na hO 20 (by decide) (by decide) (by decide) (by rw [hR]; decide) (by rw [hR]; decide) (am_fb_ok (by decide +kernel)) (fun a15 => ?_)
  show cw_W 2 G 130 [(0, .ref q0)] [.ref a15, .ref q0] ((q0, .inr (11, [.ref a0, .ref a1, .ref a2, .ref a3, .int 0, .ref a4, .ref a5, .int 0, .ref a6, .ref a7, .ref a8, .ref a9, .ref a10, .int 0, .ref a11, .int 0, .ref a12, .ref a13, .ref a14, .null, .null, .null, .int 0, .null, .null, .null, .null, .int 0, .int 0, .null, .null, .int 0, .null, .null, .int 0, .null])) :: [(a0, cw_ia G.2.2.2.2.2.2.2.2.2.2.2.2.1 4 (fun _ => 0)), (a1, cw_ia G.2.2.2.2.2.2.2.2.2.2.2.2.1 4 (fun _ => 0)), (a2, cw_ia G.2.2.2.2.2.2.2.2.2.2.2.2.1 240 (fun _ => 0)), (a3, cw_ia G.2.2.2.2.2.2.2.2.2.2.2.2.1 60 (fun _ => 0)), (a4, cw_ia G.2.2.2.2.2.2.2.2.2.2.2.2.1 216 (fun _ => 0)), (a5, cw_ia G.2.2.2.2.2.2.2.2.2.2.2.2.1 3 (fun _ => 0)), (a6, cw_ia G.2.2.2.2.2.2.2.2.2.2.2.2.1 8 (fun _ => 0)), (a7, cw_ia G.2.2.2.2.2.2.2.2.2.2.2.2.1 8 (fun _ => 0)), (a8, cw_ia G.2.2.2.2.2.2.2.2.2.2.2.2.1 8 (fun _ => 0)), (a9, cw_ia G.2.2.2.2.2.2.2.2.2.2.2.2.1 48 (fun _ => 0)), (a10, cw_ia G.2.2.2.2.2.2.2.2.2.2.2.2.1 20 (fun _ => 0)), (a11, cw_ia G.2.2.2.2.2.2.2.2.2.2.2.2.1 8 (fun _ => 0)), (a12, cw_ia G.2.2.2.2.2.2.2.2.2.2.2.2.1 32 (fun _ => 0)), (a13, cw_ia G.2.2.2.2.2.2.2.2.2.2.2.2.1 160 (fun _ => 0)), (a14, cw_ia G.2.2.2.2.2.2.2.2.2.2.2.2.1 160 (fun _ => 0)), (a15, cw_ia G.2.2.2.2.2.2.2.2.2.2.2.2.1 20 (fun _ => 0))]) 16 999
  refine cr_pf hO 55 19 905 (ty := .array .int) rfl (by decide) rfl (by decide +kernel) (by first | rfl | decide) (by first | rfl | decide) (Nat.le_of_ble_eq_true rfl) (am_fb_ok (by decide +kernel)) ?_
  show cw_W 2 G 133 [(0, .ref q0)] [] ((q0, .inr (11, [.ref a0, .ref a1, .ref a2, .ref a3, .int 0, .ref a4, .ref a5, .int 0, .ref a6, .ref a7, .ref a8, .ref a9, .ref a10, .int 0, .ref a11, .int 0, .ref a12, .ref a13, .ref a14, .ref a15, .null, .null, .int 0, .null, .null, .null, .null, .int 0, .int 0, .null, .null, .int 0, .null, .null, .int 0, .null])) :: [(a0, cw_ia G.2.2.2.2.2.2.2.2.2.2.2.2.1 4 (fun _ => 0)), (a1, cw_ia G.2.2.2.2.2.2.2.2.2.2.2.2.1 4 (fun _ => 0)), (a2, cw_ia G.2.2.2.2.2.2.2.2.2.2.2.2.1 240 (fun _ => 0)), (a3, cw_ia G.2.2.2.2.2.2.2.2.2.2.2.2.1 60 (fun _ => 0)), (a4, cw_ia G.2.2.2.2.2.2.2.2.2.2.2.2.1 216 (fun _ => 0)), (a5, cw_ia G.2.2.2.2.2.2.2.2.2.2.2.2.1 3 (fun _ => 0)), (a6, cw_ia G.2.2.2.2.2.2.2.2.2.2.2.2.1 8 (fun _ => 0)), (a7, cw_ia G.2.2.2.2.2.2.2.2.2.2.2.2.1 8 (fun _ => 0)), (a8, cw_ia G.2.2.2.2.2.2.2.2.2.2.2.2.1 8 (fun _ => 0)), (a9, cw_ia G.2.2.2.2.2.2.2.2.2.2.2.2.1 48 (fun _ => 0)), (a10, cw_ia G.2.2.2.2.2.2.2.2.2.2.2.2.1 20 (fun _ => 0)), (a11, cw_ia G.2.2.2.2.2.2.2.2.2.2.2.2.1 8 (fun _ => 0)), (a12, cw_ia G.2.2.2.2.2.2.2.2.2.2.2.2.1 32 (fun _ => 0)), (a13, cw_ia G.2.2.2.2.2.2.2.2.2.2.2.2.1 160 (fun _ => 0)), (a14, cw_ia G.2.2.2.2.2.2.2.2.2.2.2.2.1 160 (fun _ => 0)), (a15, cw_ia G.2.2.2.2.2.2.2.2.2.2.2.2.1 20 (fun _ => 0))]) 16 999
  refine cr_al hO 0 0 rfl (am_fb_ok (by decide +kernel)) ?_
  show cw_W 2 G 134 [(0, .ref q0)] [.ref q0] ((q0, .inr (11, [.ref a0, .ref a1, .ref a2, .ref a3, .int 0, .ref a4, .ref a5, .int 0, .ref a6, .ref a7, .ref a8, .ref a9, .ref a10, .int 0, .ref a11, .int 0, .ref a12, .ref a13, .ref a14, .ref a15, .null, .null, .int 0, .null, .null, .null, .null, .int 0, .int 0, .null, .null, .int 0, .null, .null, .int 0, .null])) :: [(a0, cw_ia G.2.2.2.2.2.2.2.2.2.2.2.2.1 4 (fun _ => 0)), (a1, cw_ia G.2.2.2.2.2.2.2.2.2.2.2.2.1 4 (fun _ => 0)), (a2, cw_ia G.2.2.2.2.2.2.2.2.2.2.2.2.1 240 (fun _ => 0)), (a3, cw_ia G.2.2.2.2.2.2.2.2.2.2.2.2.1 60 (fun _ => 0)), (a4, cw_ia G.2.2.2.2.2.2.2.2.2.2.2.2.1 216 (fun _ => 0)), (a5, cw_ia G.2.2.2.2.2.2.2.2.2.2.2.2.1 3 (fun _ => 0)), (a6, cw_ia G.2.2.2.2.2.2.2.2.2.2.2.2.1 8 (fun _ => 0)), (a7, cw_ia G.2.2.2.2.2.2.2.2.2.2.2.2.1 8 (fun _ => 0)), (a8, cw_ia G.2.2.2.2.2.2.2.2.2.2.2.2.1 8 (fun _ => 0)), (a9, cw_ia G.2.2.2.2.2.2.2.2.2.2.2.2.1 48 (fun _ => 0)), (a10, cw_ia G.2.2.2.2.2.2.2.2.2.2.2.2.1 20 (fun _ => 0)), (a11, cw_ia G.2.2.2.2.2.2.2.2.2.2.2.2.1 8 (fun _ => 0)), (a12, cw_ia G.2.2.2.2.2.2.2.2.2.2.2.2.1 32 (fun _ => 0)), (a13, cw_ia G.2.2.2.2.2.2.2.2.2.2.2.2.1 160 (fun _ => 0)), (a14, cw_ia G.2.2.2.2.2.2.2.2.2.2.2.2.1 160 (fun _ => 0)), (a15, cw_ia G.2.2.2.2.2.2.2.2.2.2.2.2.1 20 (fun _ => 0))]) 16 999
  refine cr_bp hO 8 8 (by decide) (am_fb_ok (by decide +kernel)) ?_
  show cw_W 2 G 136 [(0, .ref q0)] [.int 8, .ref q0] ((q0, .inr (11, [.ref a0, .ref a1, .ref a2, .ref a3, .int 0, .ref a4, .ref a5, .int 0, .ref a6, .ref a7, .ref a8, .ref a9, .ref a10, .int 0, .ref a11, .int 0, .ref a12, .ref a13, .ref a14, .ref a15, .null, .null, .int 0, .null, .null, .null, .null, .int 0, .int 0, .null, .null, .int 0, .null, .null, .int 0, .null])) :: [(a0, cw_ia G.2.2.2.2.2.2.2.2.2.2.2.2.1 4 (fun _ => 0)), (a1, cw_ia G.2.2.2.2.2.2.2.2.2.2.2.2.1 4 (fun _ => 0)), (a2, cw_ia G.2.2.2.2.2.2.2.2.2.2.2.2.1 240 (fun _ => 0)), (a3, cw_ia G.2.2.2.2.2.2.2.2.2.2.2.2.1 60 (fun _ => 0)), (a4, cw_ia G.2.2.2.2.2.2.2.2.2.2.2.2.1 216 (fun _ => 0)), (a5, cw_ia G.2.2.2.2.2.2.2.2.2.2.2.2.1 3 (fun _ => 0)), (a6, cw_ia G.2.2.2.2.2.2.2.2.2.2.2.2.1 8 (fun _ => 0)), (a7, cw_ia G.2.2.2.2.2.2.2.2.2.2.2.2.1 8 (fun _ => 0)), (a8, cw_ia G.2.2.2.2.2.2.2.2.2.2.2.2.1 8 (fun _ => 0)), (a9, cw_ia G.2.2.2.2.2.2.2.2.2.2.2.2.1 48 (fun _ => 0)), (a10, cw_ia G.2.2.2.2.2.2.2.2.2.2.2.2.1 20 (fun _ => 0)), (a11, cw_ia G.2.2.2.2.2.2.2.2.2.2.2.2.1 8 (fun _ => 0)), (a12, cw_ia G.2.2.2.2.2.2.2.2.2.2.2.2.1 32 (fun _ => 0)), (a13, cw_ia G.2.2.2.2.2.2.2.2.2.2.2.2.1 160 (fun _ => 0)), (a14, cw_ia G.2.2.2.2.2.2.2.2.2.2.2.2.1 160 (fun _ => 0)), (a15, cw_ia G.2.2.2.2.2.2.2.2.2.2.2.2.1 20 (fun _ => 0))]) 16 999
  refine cr_na hO 8 (by decide) (by decide) (by decide) (by rw [hR]; decide) (by rw [hR]; decide) (am_fb_ok (by decide +kernel)) (fun a16 => ?_)
  show cw_W 2 G 138 [(0, .ref q0)] [.ref a16, .ref q0] ((q0, .inr (11, [.ref a0, .ref a1, .ref a2, .ref a3, .int 0, .ref a4, .ref a5, .int 0, .ref a6, .ref a7, .ref a8, .ref a9, .ref a10, .int 0, .ref a11, .int 0, .ref a12, .ref a13, .ref a14, .ref a15, .null, .null, .int 0, .null, .null, .null, .null, .int 0, .int 0, .null, .null, .int 0, .null, .null, .int 0, .null])) :: [(a0, cw_ia G.2.2.2.2.2.2.2.2.2.2.2.2.1 4 (fun _ => 0)), (a1, cw_ia G.2.2.2.2.2.2.2.2.2.2.2.2.1 4 (fun _ => 0)), (a2, cw_ia G.2.2.2.2.2.2.2.2.2.2.2.2.1 240 (fun _ => 0)), (a3, cw_ia G.2.2.2.2.2.2.2.2.2.2.2.2.1 60 (fun _ => 0)), (a4, cw_ia G.2.2.2.2.2.2.2.2.2.2.2.2.1 216 (fun _ => 0)), (a5, cw_ia G.2.2.2.2.2.2.2.2.2.2.2.2.1 3 (fun _ => 0)), (a6, cw_ia G.2.2.2.2.2.2.2.2.2.2.2.2.1 8 (fun _ => 0)), (a7, cw_ia G.2.2.2.2.2.2.2.2.2.2.2.2.1 8 (fun _ => 0)), (a8, cw_ia G.2.2.2.2.2.2.2.2.2.2.2.2.1 8 (fun _ => 0)), (a9, cw_ia G.2.2.2.2.2.2.2.2.2.2.2.2.1 48 (fun _ => 0)), (a10, cw_ia G.2.2.2.2.2.2.2.2.2.2.2.2.1 20 (fun _ => 0)), (a11, cw_ia G.2.2.2.2.2.2.2.2.2.2.2.2.1 8 (fun _ => 0)), (a12, cw_ia G.2.2.2.2.2.2.2.2.2.2.2.2.1 32 (fun _ => 0)), (a13, cw_ia G.2.2.2.2.2.2.2.2.2.2.2.2.1 160 (fun _ => 0)), (a14, cw_ia G.2.2.2.2.2.2.2.2.2.2.2.2.1 160 (fun _ => 0)), (a15, cw_ia G.2.2.2.2.2.2.2.2.2.2.2.2.1 20 (fun _ => 0)), (a16, cw_ia G.2.2.2.2.2.2.2.2.2.2.2.2.1 8 (fun _ => 0))]) 17 1007
  refine cr_pf hO 58 20 906 (ty := .array .int) rfl (by decide) rfl (by decide +kernel) (by first | rfl | decide) (by first | rfl | decide) (Nat.le_of_ble_eq_true rfl) (am_fb_ok (by decide +kernel)) ?_
  show cw_W 2 G 141 [(0, .ref q0)] [] ((q0, .inr (11, [.ref a0, .ref a1, .ref a2, .ref a3, .int 0, .ref a4, .ref a5, .int 0, .ref a6, .ref a7, .ref a8, .ref a9, .ref a10, .int 0, .ref a11, .int 0, .ref a12, .ref a13, .ref a14, .ref a15, .ref a16, .null, .int 0, .null, .null, .null, .null, .int 0, .int 0, .null, .null, .int 0, .null, .null, .int 0, .null])) :: [(a0, cw_ia G.2.2.2.2.2.2.2.2.2.2.2.2.1 4 (fun _ => 0)), (a1, cw_ia G.2.2.2.2.2.2.2.2.2.2.2.2.1 4 (fun _ => 0)), (a2, cw_ia G.2.2.2.2.2.2.2.2.2.2.2.2.1 240 (fun _ => 0)), (a3, cw_ia G.2.2.2.2.2.2.2.2.2.2.2.2.1 60 (fun _ => 0)), (a4, cw_ia G.2.2.2.2.2.2.2.2.2.2.2.2.1 216 (fun _ => 0)), (a5, cw_ia G.2.2.2.2.2.2.2.2.2.2.2.2.1 3 (fun _ => 0)), (a6, cw_ia G.2.2.2.2.2.2.2.2.2.2.2.2.1 8 (fun _ => 0)), (a7, cw_ia G.2.2.2.2.2.2.2.2.2.2.2.2.1 8 (fun _ => 0)), (a8, cw_ia G.2.2.2.2.2.2.2.2.2.2.2.2.1 8 (fun _ => 0)), (a9, cw_ia G.2.2.2.2.2.2.2.2.2.2.2.2.1 48 (fun _ => 0)), (a10, cw_ia G.2.2.2.2.2.2.2.2.2.2.2.2.1 20 (fun _ => 0)), (a11, cw_ia G.2.2.2.2.2.2.2.2.2.2.2.2.1 8 (fun _ => 0)), (a12, cw_ia G.2.2.2.2.2.2.2.2.2.2.2.2.1 32 (fun _ => 0)), (a13, cw_ia G.2.2.2.2.2.2.2.2.2.2.2.2.1 160 (fun _ => 0)), (a14, cw_ia G.2.2.2.2.2.2.2.2.2.2.2.2.1 160 (fun _ => 0)), (a15, cw_ia G.2.2.2.2.2.2.2.2.2.2.2.2.1 20 (fun _ => 0)), (a16, cw_ia G.2.2.2.2.2.2.2.2.2.2.2.2.1 8 (fun _ => 0))]) 17 1007
  refine cr_al hO 0 0 rfl (am_fb_ok (by decide +kernel)) ?_
  show cw_W 2 G 142 [(0, .ref q0)] [.ref q0] ((q0, .inr (11, [.ref a0, .ref a1, .ref a2, .ref a3, .int 0, .ref a4, .ref a5, .int 0, .ref a6, .ref a7, .ref a8, .ref a9, .ref a10, .int 0, .ref a11, .int 0, .ref a12, .ref a13, .ref a14, .ref a15, .ref a16, .null, .int 0, .null, .null, .null, .null, .int 0, .int 0, .null, .null, .int 0, .null, .null, .int 0, .null])) :: [(a0, cw_ia G.2.2.2.2.2.2.2.2.2.2.2.2.1 4 (fun _ => 0)), (a1, cw_ia G.2.2.2.2.2.2.2.2.2.2.2.2.1 4 (fun _ => 0)), (a2, cw_ia G.2.2.2.2.2.2.2.2.2.2.2.2.1 240 (fun _ => 0)), (a3, cw_ia G.2.2.2.2.2.2.2.2.2.2.2.2.1 60 (fun _ => 0)), (a4, cw_ia G.2.2.2.2.2.2.2.2.2.2.2.2.1 216 (fun _ => 0)), (a5, cw_ia G.2.2.2.2.2.2.2.2.2.2.2.2.1 3 (fun _ => 0)), (a6, cw_ia G.2.2.2.2.2.2.2.2.2.2.2.2.1 8 (fun _ => 0)), (a7, cw_ia G.2.2.2.2.2.2.2.2.2.2.2.2.1 8 (fun _ => 0)), (a8, cw_ia G.2.2.2.2.2.2.2.2.2.2.2.2.1 8 (fun _ => 0)), (a9, cw_ia G.2.2.2.2.2.2.2.2.2.2.2.2.1 48 (fun _ => 0)), (a10, cw_ia G.2.2.2.2.2.2.2.2.2.2.2.2.1 20 (fun _ => 0)), (a11, cw_ia G.2.2.2.2.2.2.2.2.2.2.2.2.1 8 (fun _ => 0)), (a12, cw_ia G.2.2.2.2.2.2.2.2.2.2.2.2.1 32 (fun _ => 0)), (a13, cw_ia G.2.2.2.2.2.2.2.2.2.2.2.2.1 160 (fun _ => 0)), (a14, cw_ia G.2.2.2.2.2.2.2.2.2.2.2.2.1 160 (fun _ => 0)), (a15, cw_ia G.2.2.2.2.2.2.2.2.2.2.2.2.1 20 (fun _ => 0)), (a16, cw_ia G.2.2.2.2.2.2.2.2.2.2.2.2.1 8 (fun _ => 0))]) 17 1007
  refine cr_bp hO 8 8 (by decide) (am_fb_ok (by decide +kernel)) ?_
  show cw_W 2 G 144 [(0, .ref q0)] [.int 8, .ref q0] ((q0, .inr (11, [.ref a0, .ref a1, .ref a2, .ref a3, .int 0, .ref a4, .ref a5, .int 0, .ref a6, .ref a7, .ref a8, .ref a9, .ref a10, .int 0, .ref a11, .int 0, .ref a12, .ref a13, .ref a14, .ref a15, .ref a16, .null, .int 0, .null, .null, .null, .null, .int 0, .int 0, .null, .null, .int 0, .null, .null, .int 0, .null])) :: [(a0, cw_ia G.2.2.2.2.2.2.2.2.2.2.2.2.1 4 (fun _ => 0)), (a1, cw_ia G.2.2.2.2.2.2.2.2.2.2.2.2.1 4 (fun _ => 0)), (a2, cw_ia G.2.2.2.2.2.2.2.2.2.2.2.2.1 240 (fun _ => 0)), (a3, cw_ia G.2.2.2.2.2.2.2.2.2.2.2.2.1 60 (fun _ => 0)), (a4, cw_ia G.2.2.2.2.2.2.2.2.2.2.2.2.1 216 (fun _ => 0)), (a5, cw_ia G.2.2.2.2.2.2.2.2.2.2.2.2.1 3 (fun _ => 0)), (a6, cw_ia G.2.2.2.2.2.2.2.2.2.2.2.2.1 8 (fun _ => 0)), (a7, cw_ia G.2.2.2.2.2.2.2.2.2.2.2.2.1 8 (fun _ => 0)), (a8, cw_ia G.2.2.2.2.2.2.2.2.2.2.2.2.1 8 (fun _ => 0)), (a9, cw_ia G.2.2.2.2.2.2.2.2.2.2.2.2.1 48 (fun _ => 0)), (a10, cw_ia G.2.2.2.2.2.2.2.2.2.2.2.2.1 20 (fun _ => 0)), (a11, cw_ia G.2.2.2.2.2.2.2.2.2.2.2.2.1 8 (fun _ => 0)), (a12, cw_ia G.2.2.2.2.2.2.2.2.2.2.2.2.1 32 (fun _ => 0)), (a13, cw_ia G.2.2.2.2.2.2.2.2.2.2.2.2.1 160 (fun _ => 0)), (a14, cw_ia G.2.2.2.2.2.2.2.2.2.2.2.2.1 160 (fun _ => 0)), (a15, cw_ia G.2.2.2.2.2.2.2.2.2.2.2.2.1 20 (fun _ => 0)), (a16, cw_ia G.2.2.2.2.2.2.2.2.2.2.2.2.1 8 (fun _ => 0))]) 17 1007
  refine cr_na hO 8 (by decide) (by decide) (by decide) (by rw [hR]; decide) (by rw [hR]; decide) (am_fb_ok (by decide +kernel)) (fun a17 => ?_)
  show cw_W 2 G 146 [(0, .ref q0)] [.ref a17, .ref q0] ((q0, .inr (11, [.ref a0, .ref a1, .ref a2, .ref a3, .int 0, .ref a4, .ref a5, .int 0, .ref a6, .ref a7, .ref a8, .ref a9, .ref a10, .int 0, .ref a11, .int 0, .ref a12, .ref a13, .ref a14, .ref a15, .ref a16, .null, .int 0, .null, .null, .null, .null, .int 0, .int 0, .null, .null, .int 0, .null, .null, .int 0, .null])) :: [(a0, cw_ia G.2.2.2.2.2.2.2.2.2.2.2.2.1 4 (fun _ => 0)), (a1, cw_ia G.2.2.2.2.2.2.2.2.2.2.2.2.1 4 (fun _ => 0)), (a2, cw_ia G.2.2.2.2.2.2.2.2.2.2.2.2.1 240 (fun _ => 0)), (a3, cw_ia G.2.2.2.2.2.2.2.2.2.2.2.2.1 60 (fun _ => 0)), (a4, cw_ia G.2.2.2.2.2.2.2.2.2.2.2.2.1 216 (fun _ => 0)), (a5, cw_ia G.2.2.2.2.2.2.2.2.2.2.2.2.1 3 (fun _ => 0)), (a6, cw_ia G.2.2.2.2.2.2.2.2.2.2.2.2.1 8 (fun _ => 0)), (a7, cw_ia G.2.2.2.2.2.2.2.2.2.2.2.2.1 8 (fun _ => 0)), (a8, cw_ia G.2.2.2.2.2.2.2.2.2.2.2.2.1 8 (fun _ => 0)), (a9, cw_ia G.2.2.2.2.2.2.2.2.2.2.2.2.1 48 (fun _ => 0)), (a10, cw_ia G.2.2.2.2.2.2.2.2.2.2.2.2.1 20 (fun _ => 0)), (a11, cw_ia G.2.2.2.2.2.2.2.2.2.2.2.2.1 8 (fun _ => 0)), (a12, cw_ia G.2.2.2.2.2.2.2.2.2.2.2.2.1 32 (fun _ => 0)), (a13, cw_ia G.2.2.2.2.2.2.2.2.2.2.2.2.1 160 (fun _ => 0)), (a14, cw_ia G.2.2.2.2.2.2.2.2.2.2.2.2.1 160 (fun _ => 0)), (a15, cw_ia G.2.2.2.2.2.2.2.2.2.2.2.2.1 20 (fun _ => 0)), (a16, cw_ia G.2.2.2.2.2.2.2.2.2.2.2.2.1 8 (fun _ => 0)), (a17, cw_ia G.2.2.2.2.2.2.2.2.2.2.2.2.1 8 (fun _ => 0))]) 18 1015
  refine cr_pf hO 61 21 907 (ty := .array .int) rfl (by decide) rfl (by decide +kernel) (by first | rfl | decide) (by first | rfl | decide) (Nat.le_of_ble_eq_true rfl) (am_fb_ok (by decide +kernel)) ?_
  show cw_W 2 G 149 [(0, .ref q0)] [] ((q0, .inr (11, [.ref a0, .ref a1, .ref a2, .ref a3, .int 0, .ref a4, .ref a5, .int 0, .ref a6, .ref a7, .ref a8, .ref a9, .ref a10, .int 0, .ref a11, .int 0, .ref a12, .ref a13, .ref a14, .ref a15, .ref a16, .ref a17, .int 0, .null, .null, .null, .null, .int 0, .int 0, .null, .null, .int 0, .null, .null, .int 0, .null])) :: [(a0, cw_ia G.2.2.2.2.2.2.2.2.2.2.2.2.1 4 (fun _ => 0)), (a1, cw_ia G.2.2.2.2.2.2.2.2.2.2.2.2.1 4 (fun _ => 0)), (a2, cw_ia G.2.2.2.2.2.2.2.2.2.2.2.2.1 240 (fun _ => 0)), (a3, cw_ia G.2.2.2.2.2.2.2.2.2.2.2.2.1 60 (fun _ => 0)), (a4, cw_ia G.2.2.2.2.2.2.2.2.2.2.2.2.1 216 (fun _ => 0)), (a5, cw_ia G.2.2.2.2.2.2.2.2.2.2.2.2.1 3 (fun _ => 0)), (a6, cw_ia G.2.2.2.2.2.2.2.2.2.2.2.2.1 8 (fun _ => 0)), (a7, cw_ia G.2.2.2.2.2.2.2.2.2.2.2.2.1 8 (fun _ => 0)), (a8, cw_ia G.2.2.2.2.2.2.2.2.2.2.2.2.1 8 (fun _ => 0)), (a9, cw_ia G.2.2.2.2.2.2.2.2.2.2.2.2.1 48 (fun _ => 0)), (a10, cw_ia G.2.2.2.2.2.2.2.2.2.2.2.2.1 20 (fun _ => 0)), (a11, cw_ia G.2.2.2.2.2.2.2.2.2.2.2.2.1 8 (fun _ => 0)), (a12, cw_ia G.2.2.2.2.2.2.2.2.2.2.2.2.1 32 (fun _ => 0)), (a13, cw_ia G.2.2.2.2.2.2.2.2.2.2.2.2.1 160 (fun _ => 0)), (a14, cw_ia G.2.2.2.2.2.2.2.2.2.2.2.2.1 160 (fun _ => 0)), (a15, cw_ia G.2.2.2.2.2.2.2.2.2.2.2.2.1 20 (fun _ => 0)), (a16, cw_ia G.2.2.2.2.2.2.2.2.2.2.2.2.1 8 (fun _ => 0)), (a17, cw_ia G.2.2.2.2.2.2.2.2.2.2.2.2.1 8 (fun _ => 0))]) 18 1015
  refine cr_al hO 0 0 rfl (am_fb_ok (by decide +kernel)) ?_
  show cw_W 2 G 150 [(0, .ref q0)] [.ref q0] ((q0, .inr (11, [.ref a0, .ref a1, .ref a2, .ref a3, .int 0, .ref a4, .ref a5, .int 0, .ref a6, .ref a7, .ref a8, .ref a9, .ref a10, .int 0, .ref a11, .int 0, .ref a12, .ref a13, .ref a14, .ref a15, .ref a16, .ref a17, .int 0, .null, .null, .null, .null, .int 0, .int 0, .null, .null, .int 0, .null, .null, .int 0, .null])) :: [(a0, cw_ia G.2.2.2.2.2.2.2.2.2.2.2.2.1 4 (fun _ => 0)), (a1, cw_ia G.2.2.2.2.2.2.2.2.2.2.2.2.1 4 (fun _ => 0)), (a2, cw_ia G.2.2.2.2.2.2.2.2.2.2.2.2.1 240 (fun _ => 0)), (a3, cw_ia G.2.2.2.2.2.2.2.2.2.2.2.2.1 60 (fun _ => 0)), (a4, cw_ia G.2.2.2.2.2.2.2.2.2.2.2.2.1 216 (fun _ => 0)), (a5, cw_ia G.2.2.2.2.2.2.2.2.2.2.2.2.1 3 (fun _ => 0)), (a6, cw_ia G.2.2.2.2.2.2.2.2.2.2.2.2.1 8 (fun _ => 0)), (a7, cw_ia G.2.2.2.2.2.2.2.2.2.2.2.2.1 8 (fun _ => 0)), (a8, cw_ia G.2.2.2.2.2.2.2.2.2.2.2.2.1 8 (fun _ => 0)), (a9, cw_ia G.2.2.2.2.2.2.2.2.2.2.2.2.1 48 (fun _ => 0)), (a10, cw_ia G.2.2.2.2.2.2.2.2.2.2.2.2.1 20 (fun _ => 0)), (a11, cw_ia G.2.2.2.2.2.2.2.2.2.2.2.2.1 8 (fun _ => 0)), (a12, cw_ia G.2.2.2.2.2.2.2.2.2.2.2.2.1 32 (fun _ => 0)), (a13, cw_ia G.2.2.2.2.2.2.2.2.2.2.2.2.1 160 (fun _ => 0)), (a14, cw_ia G.2.2.2.2.2.2.2.2.2.2.2.2.1 160 (fun _ => 0)), (a15, cw_ia G.2.2.2.2.2.2.2.2.2.2.2.2.1 20 (fun _ => 0)), (a16, cw_ia G.2.2.2.2.2.2.2.2.2.2.2.2.1 8 (fun _ => 0)), (a17, cw_ia G.2.2.2.2.2.2.2.2.2.2.2.2.1 8 (fun _ => 0))]) 18 1015
  refine cr_bp hO 8 8 (by decide) (am_fb_ok (by decide +kernel)) ?_
  show cw_W 2 G 152 [(0, .ref q0)] [.int 8, .ref q0] ((q0, .inr (11, [.ref a0, .ref a1, .ref a2, .ref a3, .int 0, .ref a4, .ref a5, .int 0, .ref a6, .ref a7, .ref a8, .ref a9, .ref a10, .int 0, .ref a11, .int 0, .ref a12, .ref a13, .ref a14, .ref a15, .ref a16, .ref a17, .int 0, .null, .null, .null, .null, .int 0, .int 0, .null, .null, .int 0, .null, .null, .int 0, .null])) :: [(a0, cw_ia G.2.2.2.2.2.2.2.2.2.2.2.2.1 4 (fun _ => 0)), (a1, cw_ia G.2.2.2.2.2.2.2.2.2.2.2.2.1 4 (fun _ => 0)), (a2, cw_ia G.2.2.2.2.2.2.2.2.2.2.2.2.1 240 (fun _ => 0)), (a3, cw_ia G.2.2.2.2.2.2.2.2.2.2.2.2.1 60 (fun _ => 0)), (a4, cw_ia G.2.2.2.2.2.2.2.2.2.2.2.2.1 216 (fun _ => 0)), (a5, cw_ia G.2.2.2.2.2.2.2.2.2.2.2.2.1 3 (fun _ => 0)), (a6, cw_ia G.2.2.2.2.2.2.2.2.2.2.2.2.1 8 (fun _ => 0)), (a7, cw_ia G.2.2.2.2.2.2.2.2.2.2.2.2.1 8 (fun _ => 0)), (a8, cw_ia G.2.2.2.2.2.2.2.2.2.2.2.2.1 8 (fun _ => 0)), (a9, cw_ia G.2.2.2.2.2.2.2.2.2.2.2.2.1 48 (fun _ => 0)), (a10, cw_ia G.2.2.2.2.2.2.2.2.2.2.2.2.1 20 (fun _ => 0)), (a11, cw_ia G.2.2.2.2.2.2.2.2.2.2.2.2.1 8 (fun _ => 0)), (a12, cw_ia G.2.2.2.2.2.2.2.2.2.2.2.2.1 32 (fun _ => 0)), (a13, cw_ia G.2.2.2.2.2.2.2.2.2.2.2.2.1 160 (fun _ => 0)), (a14, cw_ia G.2.2.2.2.2.2.2.2.2.2.2.2.1 160 (fun _ => 0)), (a15, cw_ia G.2.2.2.2.2.2.2.2.2.2.2.2.1 20 (fun _ => 0)), (a16, cw_ia G.2.2.2.2.2.2.2.2.2.2.2.2.1 8 (fun _ => 0)), (a17, cw_ia G.2.2.2.2.2.2.2.2.2.2.2.2.1 8 (fun _ => 0))]) 18 1015
  refine cr_na hO 8 (by decide) (by decide) (by decide) (by rw [hR]; decide) (by rw [hR]; decide) (am_fb_ok (by decide +kernel)) (fun a18 => ?_)
  show cw_W 2 G 154 [(0, .ref q0)] [.ref a18, .ref q0] ((q0, .inr (11, [.ref a0, .ref a1, .ref a2, .ref a3, .int 0, .ref a4, .ref a5, .int 0, .ref a6, .ref a7, .ref a8, .ref a9, .ref a10, .int 0, .ref a11, .int 0, .ref a12, .ref a13, .ref a14, .ref a15, .ref a16, .ref a17, .int 0, .null, .null, .null, .null, .int 0, .int 0, .null, .null, .int 0, .null, .null, .int 0, .null])) :: [(a0, cw_ia G.2.2.2.2.2.2.2.2.2.2.2.2.1 4 (fun _ => 0)), (a1, cw_ia G.2.2.2.2.2.2.2.2.2.2.2.2.1 4 (fun _ => 0)), (a2, cw_ia G.2.2.2.2.2.2.2.2.2.2.2.2.1 240 (fun _ => 0)), (a3, cw_ia G.2.2.2.2.2.2.2.2.2.2.2.2.1 60 (fun _ => 0)), (a4, cw_ia G.2.2.2.2.2.2.2.2.2.2.2.2.1 216 (fun _ => 0)), (a5, cw_ia G.2.2.2.2.2.2.2.2.2.2.2.2.1 3 (fun _ => 0)), (a6, cw_ia G.2.2.2.2.2.2.2.2.2.2.2.2.1 8 (fun _ => 0)), (a7, cw_ia G.2.2.2.2.2.2.2.2.2.2.2.2.1 8 (fun _ => 0)), (a8, cw_ia G.2.2.2.2.2.2.2.2.2.2.2.2.1 8 (fun _ => 0)), (a9, cw_ia G.2.2.2.2.2.2.2.2.2.2.2.2.1 48 (fun _ => 0)), (a10, cw_ia G.2.2.2.2.2.2.2.2.2.2.2.2.1 20 (fun _ => 0)), (a11, cw_ia G.2.2.2.2.2.2.2.2.2.2.2.2.1 8 (fun _ => 0)), (a12, cw_ia G.2.2.2.2.2.2.2.2.2.2.2.2.1 32 (fun _ => 0)), (a13, cw_ia G.2.2.2.2.2.2.2.2.2.2.2.2.1 160 (fun _ => 0)), (a14, cw_ia G.2.2.2.2.2.2.2.2.2.2.2.2.1 160 (fun _ => 0)), (a15, cw_ia G.2.2.2.2.2.2.2.2.2.2.2.2.1 20 (fun _ => 0)), (a16, cw_ia G.2.2.2.2.2.2.2.2.2.2.2.2.1 8 (fun _ => 0)), (a17, cw_ia G.2.2.2.2.2.2.2.2.2.2.2.2.1 8 (fun _ => 0)), (a18, cw_ia G.2.2.2.2.2.2.2.2.2.2.2.2.1 8 (fun _ => 0))]) 19 1023
  refine cr_pf hO 64 23 909 (ty := .array .int) rfl (by decide) rfl (by decide +kernel) (by first | rfl | decide) (by first | rfl | decide) (Nat.le_of_ble_eq_true rfl) (am_fb_ok (by decide +kernel)) ?_
  show cw_W 2 G 157 [(0, .ref q0)] [] ((q0, .inr (11, [.ref a0, .ref a1, .ref a2, .ref a3, .int 0, .ref a4, .ref a5, .int 0, .ref a6, .ref a7, .ref a8, .ref a9, .ref a10, .int 0, .ref a11, .int 0, .ref a12, .ref a13, .ref a14, .ref a15, .ref a16, .ref a17, .int 0, .ref a18, .null, .null, .null, .int 0, .int 0, .null, .null, .int 0, .null, .null, .int 0, .null])) :: [(a0, cw_ia G.2.2.2.2.2.2.2.2.2.2.2.2.1 4 (fun _ => 0)), (a1, cw_ia G.2.2.2.2.2.2.2.2.2.2.2.2.1 4 (fun _ => 0)), (a2, cw_ia G.2.2.2.2.2.2.2.2.2.2.2.2.1 240 (fun _ => 0)), (a3, cw_ia G.2.2.2.2.2.2.2.2.2.2.2.2.1 60 (fun _ => 0)), (a4, cw_ia G.2.2.2.2.2.2.2.2.2.2.2.2.1 216 (fun _ => 0)), (a5, cw_ia G.2.2.2.2.2.2.2.2.2.2.2.2.1 3 (fun _ => 0)), (a6, cw_ia G.2.2.2.2.2.2.2.2.2.2.2.2.1 8 (fun _ => 0)), (a7, cw_ia G.2.2.2.2.2.2.2.2.2.2.2.2.1 8 (fun _ => 0)), (a8, cw_ia G.2.2.2.2.2.2.2.2.2.2.2.2.1 8 (fun _ => 0)), (a9, cw_ia G.2.2.2.2.2.2.2.2.2.2.2.2.1 48 (fun _ => 0)), (a10, cw_ia G.2.2.2.2.2.2.2.2.2.2.2.2.1 20 (fun _ => 0)), (a11, cw_ia G.2.2.2.2.2.2.2.2.2.2.2.2.1 8 (fun _ => 0)), (a12, cw_ia G.2.2.2.2.2.2.2.2.2.2.2.2.1 32 (fun _ => 0)), (a13, cw_ia G.2.2.2.2.2.2.2.2.2.2.2.2.1 160 (fun _ => 0)), (a14, cw_ia G.2.2.2.2.2.2.2.2.2.2.2.2.1 160 (fun _ => 0)), (a15, cw_ia G.2.2.2.2.2.2.2.2.2.2.2.2.1 20 (fun _ => 0)), (a16, cw_ia G.2.2.2.2.2.2.2.2.2.2.2.2.1 8 (fun _ => 0)), (a17, cw_ia G.2.2.2.2.2.2.2.2.2.2.2.2.1 8 (fun _ => 0)), (a18, cw_ia G.2.2.2.2.2.2.2.2.2.2.2.2.1 8 (fun _ => 0))]) 19 1023
  refine cr_al hO 0 0 rfl (am_fb_ok (by decide +kernel)) ?_
  show cw_W 2 G 158 [(0, .ref q0)] [.ref q0] ((q0, .inr (11, [.ref a0, .ref a1, .ref a2, .ref a3, .int 0, .ref a4, .ref a5, .int 0, .ref a6, .ref a7, .ref a8, .ref a9, .ref a10, .int 0, .ref a11, .int 0, .ref a12, .ref a13, .ref a14, .ref a15, .ref a16, .ref a17, .int 0, .ref a18, .null, .null, .null, .int 0, .int 0, .null, .null, .int 0, .null, .null, .int 0, .null])) :: [(a0, cw_ia G.2.2.2.2.2.2.2.2.2.2.2.2.1 4 (fun _ => 0)), (a1, cw_ia G.2.2.2.2.2.2.2.2.2.2.2.2.1 4 (fun _ => 0)), (a2, cw_ia G.2.2.2.2.2.2.2.2.2.2.2.2.1 240 (fun _ => 0)), (a3, cw_ia G.2.2.2.2.2.2.2.2.2.2.2.2.1 60 (fun _ => 0)), (a4, cw_ia G.2.2.2.2.2.2.2.2.2.2.2.2.1 216 (fun _ => 0)), (a5, cw_ia G.2.2.2.2.2.2.2.2.2.2.2.2.1 3 (fun _ => 0)), (a6, cw_ia G.2.2.2.2.2.2.2.2.2.2.2.2.1 8 (fun _ => 0)), (a7, cw_ia G.2.2.2.2.2.2.2.2.2.2.2.2.1 8 (fun _ => 0)), (a8, cw_ia G.2.2.2.2.2.2.2.2.2.2.2.2.1 8 (fun _ => 0)), (a9, cw_ia G.2.2.2.2.2.2.2.2.2.2.2.2.1 48 (fun _ => 0)), (a10, cw_ia G.2.2.2.2.2.2.2.2.2.2.2.2.1 20 (fun _ => 0)), (a11, cw_ia G.2.2.2.2.2.2.2.2.2.2.2.2.1 8 (fun _ => 0)), (a12, cw_ia G.2.2.2.2.2.2.2.2.2.2.2.2.1 32 (fun _ => 0)), (a13, cw_ia G.2.2.2.2.2.2.2.2.2.2.2.2.1 160 (fun _ => 0)), (a14, cw_ia G.2.2.2.2.2.2.2.2.2.2.2.2.1 160 (fun _ => 0)), (a15, cw_ia G.2.2.2.2.2.2.2.2.2.2.2.2.1 20 (fun _ => 0)), (a16, cw_ia G.2.2.2.2.2.2.2.2.2.2.2.2.1 8 (fun _ => 0)), (a17, cw_ia G.2.2.2.2.2.2.2.2.2.2.2.2.1 8 (fun _ => 0)), (a18, cw_ia G.2.2.2.2.2.2.2.2.2.2.2.2.1 8 (fun _ => 0))]) 19 1023
  refine cr_bp hO 8 8 (by decide) (am_fb_ok (by decide +kernel)) ?_
  show cw_W 2 G 160 [(0, .ref q0)] [.int 8, .ref q0] ((q0, .inr (11, [.ref a0, .ref a1, .ref a2, .ref a3, .int 0, .ref a4, .ref a5, .int 0, .ref a6, .ref a7, .ref a8, .ref a9, .ref a10, .int 0, .ref a11, .int 0, .ref a12, .ref a13, .ref a14, .ref a15, .ref a16, .ref a17, .int 0, .ref a18, .null, .null, .null, .int 0, .int 0, .null, .null, .int 0, .null, .null, .int 0, .null])) :: [(a0, cw_ia G.2.2.2.2.2.2.2.2.2.2.2.2.1 4 (fun _ => 0)), (a1, cw_ia G.2.2.2.2.2.2.2.2.2.2.2.2.1 4 (fun _ => 0)), (a2, cw_ia G.2.2.2.2.2.2.2.2.2.2.2.2.1 240 (fun _ => 0)), (a3, cw_ia G.2.2.2.2.2.2.2.2.2.2.2.2.1 60 (fun _ => 0)), (a4, cw_ia G.2.2.2.2.2.2.2.2.2.2.2.2.1 216 (fun _ => 0)), (a5, cw_ia G.2.2.2.2.2.2.2.2.2.2.2.2.1 3 (fun _ => 0)), (a6, cw_ia G.2.2.2.2.2.2.2.2.2.2.2.2.1 8 (fun _ => 0)), (a7, cw_ia G.2.2.2.2.2.2.2.2.2.2.2.2.1 8 (fun _ => 0)), (a8, cw_ia G.2.2.2.2.2.2.2.2.2.2.2.2.1 8 (fun _ => 0)), (a9, cw_ia G.2.2.2.2.2.2.2.2.2.2.2.2.1 48 (fun _ => 0)), (a10, cw_ia G.2.2.2.2.2.2.2.2.2.2.2.2.1 20 (fun _ => 0)), (a11, cw_ia G.2.2.2.2.2.2.2.2.2.2.2.2.1 8 (fun _ => 0)), (a12, cw_ia G.2.2.2.2.2.2.2.2.2.2.2.2.1 32 (fun _ => 0)), (a13, cw_ia G.2.2.2.2.2.2.2.2.2.2.2.2.1 160 (fun _ => 0)), (a14, cw_ia G.2.2.2.2.2.2.2.2.2.2.2.2.1 160 (fun _ => 0)), (a15, cw_ia G.2.2.2.2.2.2.2.2.2.2.2.2.1 20 (fun _ => 0)), (a16, cw_ia G.2.2.2.2.2.2.2.2.2.2.2.2.1 8 (fun _ => 0)), (a17, cw_ia G.2.2.2.2.2.2.2.2.2.2.2.2.1 8 (fun _ => 0)), (a18, cw_ia G.2.2.2.2.2.2.2.2.2.2.2.2.1 8 (fun _ => 0))]) 19 1023
  refine cr_na hO 8 (by decide) (by decide) (by decide) (by rw [hR]; decide) (by rw [hR]; decide) (am_fb_ok (by decide +kernel)) (fun a19 => ?_)
  show cw_W 2 G 162 [(0, .ref q0)] [.ref a19, .ref q0] ((q0, .inr (11, [.ref a0, .ref a1, .ref a2, .ref a3, .int 0, .ref a4, .ref a5, .int 0, .ref a6, .ref a7, .ref a8, .ref a9, .ref a10, .int 0, .ref a11, .int 0, .ref a12, .ref a13, .ref a14, .ref a15, .ref a16, .ref a17, .int 0, .ref a18, .null, .null, .null, .int 0, .int 0, .null, .null, .int 0, .null, .null, .int 0, .null])) :: [(a0, cw_ia G.2.2.2.2.2.2.2.2.2.2.2.2.1 4 (fun _ => 0)), (a1, cw_ia G.2.2.2.2.2.2.2.2.2.2.2.2.1 4 (fun _ => 0)), (a2, cw_ia G.2.2.2.2.2.2.2.2.2.2.2.2.1 240 (fun _ => 0)), (a3, cw_ia G.2.2.2.2.2.2.2.2.2.2.2.2.1 60 (fun _ => 0)), (a4, cw_ia G.2.2.2.2.2.2.2.2.2.2.2.2.1 216 (fun _ => 0)), (a5, cw_ia G.2.2.2.2.2.2.2.2.2.2.2.2.1 3 (fun _ => 0)), (a6, cw_ia G.2.2.2.2.2.2.2.2.2.2.2.2.1 8 (fun _ => 0)), (a7, cw_ia G.2.2.2.2.2.2.2.2.2.2.2.2.1 8 (fun _ => 0)), (a8, cw_ia G.2.2.2.2.2.2.2.2.2.2.2.2.1 8 (fun _ => 0)), (a9, cw_ia G.2.2.2.2.2.2.2.2.2.2.2.2.1 48 (fun _ => 0)), (a10, cw_ia G.2.2.2.2.2.2.2.2.2.2.2.2.1 20 (fun _ => 0)), (a11, cw_ia G.2.2.2.2.2.2.2.2.2.2.2.2.1 8 (fun _ => 0)), (a12, cw_ia G.2.2.2.2.2.2.2.2.2.2.2.2.1 32 (fun _ => 0)), (a13, cw_ia G.2.2.2.2.2.2.2.2.2.2.2.2.1 160 (fun _ => 0)), (a14, cw_ia G.2.2.2.2.2.2.2.2.2.2.2.2.1 160 (fun _ => 0)), (a15, cw_ia G.2.2.2.2.2.2.2.2.2.2.2.2.1 20 (fun _ => 0)), (a16, cw_ia G.2.2.2.2.2.2.2.2.2.2.2.2.1 8 (fun _ => 0)), (a17, cw_ia G.2.2.2.2.2.2.2.2.2.2.2.2.1 8 (fun _ => 0)), (a18, cw_ia G.2.2.2.2.2.2.2.2.2.2.2.2.1 8 (fun _ => 0)), (a19, cw_ia G.2.2.2.2.2.2.2.2.2.2.2.2.1 8 (fun _ => 0))]) 20 1031
  refine cr_pf hO 67 24 910 (ty := .array .int) rfl (by decide) rfl (by decide +kernel) (by first | rfl | decide) (by first | rfl | decide) (Nat.le_of_ble_eq_true rfl) (am_fb_ok (by decide +kernel)) ?_
  show cw_W 2 G 165 [(0, .ref q0)] [] ((q0, .inr (11, [.ref a0, .ref a1, .ref a2, .ref a3, .int 0, .ref a4, .ref a5, .int 0, .ref a6, .ref a7, .ref a8, .ref a9, .ref a10, .int 0, .ref a11, .int 0, .ref a12, .ref a13, .ref a14, .ref a15, .ref a16, .ref a17, .int 0, .ref a18, .ref a19, .null, .null, .int 0, .int 0, .null, .null, .int 0, .null, .null, .int 0, .null])) :: [(a0, cw_ia G.2.2.2.2.2.2.2.2.2.2.2.2.1 4 (fun _ => 0)), (a1, cw_ia G.2.2.2.2.2.2.2.2.2.2.2.2.1 4 (fun _ => 0)), (a2, cw_ia G.2.2.2.2.2.2.2.2.2.2.2.2.1 240 (fun _ => 0)), (a3, cw_ia G.2.2.2.2.2.2.2.2.2.2.2.2.1 60 (fun _ => 0)), (a4, cw_ia G.2.2.2.2.2.2.2.2.2.2.2.2.1 216 (fun _ => 0)), (a5, cw_ia G.2.2.2.2.2.2.2.2.2.2.2.2.1 3 (fun _ => 0)), (a6, cw_ia G.2.2.2.2.2.2.2.2.2.2.2.2.1 8 (fun _ => 0)), (a7, cw_ia G.2.2.2.2.2.2.2.2.2.2.2.2.1 8 (fun _ => 0)), (a8, cw_ia G.2.2.2.2.2.2.2.2.2.2.2.2.1 8 (fun _ => 0)), (a9, cw_ia G.2.2.2.2.2.2.2.2.2.2.2.2.1 48 (fun _ => 0)), (a10, cw_ia G.2.2.2.2.2.2.2.2.2.2.2.2.1 20 (fun _ => 0)), (a11, cw_ia G.2.2.2.2.2.2.2.2.2.2.2.2.1 8 (fun _ => 0)), (a12, cw_ia G.2.2.2.2.2.2.2.2.2.2.2.2.1 32 (fun _ => 0)), (a13, cw_ia G.2.2.2.2.2.2.2.2.2.2.2.2.1 160 (fun _ => 0)), (a14, cw_ia G.2.2.2.2.2.2.2.2.2.2.2.2.1 160 (fun _ => 0)), (a15, cw_ia G.2.2.2.2.2.2.2.2.2.2.2.2.1 20 (fun _ => 0)), (a16, cw_ia G.2.2.2.2.2.2.2.2.2.2.2.2.1 8 (fun _ => 0)), (a17, cw_ia G.2.2.2.2.2.2.2.2.2.2.2.2.1 8 (fun _ => 0)), (a18, cw_ia G.2.2.2.2.2.2.2.2.2.2.2.2.1 8 (fun _ => 0)), (a19, cw_ia G.2.2.2.2.2.2.2.2.2.2.2.2.1 8 (fun _ => 0))]) 20 1031
  refine cr_al hO 0 0 rfl (am_fb_ok (by decide +kernel)) ?_
  show cw_W 2 G 166 [(0, .ref q0)] [.ref q0] ((q0, .inr (11, [.ref a0, .ref a1, .ref a2, .ref a3, .int 0, .ref a4, .ref a5, .int 0, .ref a6, .ref a7, .ref a8, .ref a9, .ref a10, .int 0, .ref a11, .int 0, .ref a12, .ref a13, .ref a14, .ref a15, .ref a16, .ref a17, .int 0, .ref a18, .ref a19, .null, .null, .int 0, .int 0, .null, .null, .int 0, .null, .null, .int 0, .null])) :: [(a0, cw_ia G.2.2.2.2.2.2.2.2.2.2.2.2.1 4 (fun _ => 0)), (a1, cw_ia G.2.2.2.2.2.2.2.2.2.2.2.2.1 4 (fun _ => 0)), (a2, cw_ia G.2.2.2.2.2.2.2.2.2.2.2.2.1 240 (fun _ => 0)), (a3, cw_ia G.2.2.2.2.2.2.2.2.2.2.2.2.1 60 (fun _ => 0)), (a4, cw_ia G.2.2.2.2.2.2.2.2.2.2.2.2.1 216 (fun _ => 0)), (a5, cw_ia G.2.2.2.2.2.2.2.2.2.2.2.2.1 3 (fun _ => 0)), (a6, cw_ia G.2.2.2.2.2.2.2.2.2.2.2.2.1 8 (fun _ => 0)), (a7, cw_ia G.2.2.2.2.2.2.2.2.2.2.2.2.1 8 (fun _ => 0)), (a8, cw_ia G.2.2.2.2.2.2.2.2.2.2.2.2.1 8 (fun _ => 0)), (a9, cw_ia G.2.2.2.2.2.2.2.2.2.2.2.2.1 48 (fun _ => 0)), (a10, cw_ia G.2.2.2.2.2.2.2.2.2.2.2.2.1 20 (fun _ => 0)), (a11, cw_ia G.2.2.2.2.2.2.2.2.2.2.2.2.1 8 (fun _ => 0)), (a12, cw_ia G.2.2.2.2.2.2.2.2.2.2.2.2.1 32 (fun _ => 0)), (a13, cw_ia G.2.2.2.2.2.2.2.2.2.2.2.2.1 160 (fun _ => 0)), (a14, cw_ia G.2.2.2.2.2.2.2.2.2.2.2.2.1 160 (fun _ => 0)), (a15, cw_ia G.2.2.2.2.2.2.2.2.2.2.2.2.1 20 (fun _ => 0)), (a16, cw_ia G.2.2.2.2.2.2.2.2.2.2.2.2.1 8 (fun _ => 0)), (a17, cw_ia G.2.2.2.2.2.2.2.2.2.2.2.2.1 8 (fun _ => 0)), (a18, cw_ia G.2.2.2.2.2.2.2.2.2.2.2.2.1 8 (fun _ => 0)), (a19, cw_ia G.2.2.2.2.2.2.2.2.2.2.2.2.1 8 (fun _ => 0))]) 20 1031
  refine cr_bp hO 8 8 (by decide) (am_fb_ok (by decide +kernel)) ?_
  show cw_W 2 G 168 [(0, .ref q0)] [.int 8, .ref q0] ((q0, .inr (11, [.ref a0, .ref a1, .ref a2, .ref a3, .int 0, .ref a4, .ref a5, .int 0, .ref a6, .ref a7, .ref a8, .ref a9, .ref a10, .int 0, .ref a11, .int 0, .ref a12, .ref a13, .ref a14, .ref a15, .ref a16, .ref a17, .int 0, .ref a18, .ref a19, .null, .null, .int 0, .int 0, .null, .null, .int 0, .null, .null, .int 0, .null])) :: [(a0, cw_ia G.2.2.2.2.2.2.2.2.2.2.2.2.1 4 (fun _ => 0)), (a1, cw_ia G.2.2.2.2.2.2.2.2.2.2.2.2.1 4 (fun _ => 0)), (a2, cw_ia G.2.2.2.2.2.2.2.2.2.2.2.2.1 240 (fun _ => 0)), (a3, cw_ia G.2.2.2.2.2.2.2.2.2.2.2.2.1 60 (fun _ => 0)), (a4, cw_ia G.2.2.2.2.2.2.2.2.2.2.2.2.1 216 (fun _ => 0)), (a5, cw_ia G.2.2.2.2.2.2.2.2.2.2.2.2.1 3 (fun _ => 0)), (a6, cw_ia G.2.2.2.2.2.2.2.2.2.2.2.2.1 8 (fun _ => 0)), (a7, cw_ia G.2.2.2.2.2.2.2.2.2.2.2.2.1 8 (fun _ => 0)), (a8, cw_ia G.2.2.2.2.2.2.2.2.2.2.2.2.1 8 (fun _ => 0)), (a9, cw_ia G.2.2.2.2.2.2.2.2.2.2.2.2.1 48 (fun _ => 0)), (a10, cw_ia G.2.2.2.2.2.2.2.2.2.2.2.2.1 20 (fun _ => 0)), (a11, cw_ia G.2.2.2.2.2.2.2.2.2.2.2.2.1 8 (fun _ => 0)), (a12, cw_ia G.2.2.2.2.2.2.2.2.2.2.2.2.1 32 (fun _ => 0)), (a13, cw_ia G.2.2.2.2.2.2.2.2.2.2.2.2.1 160 (fun _ => 0)), (a14, cw_ia G.2.2.2.2.2.2.2.2.2.2.2.2.1 160 (fun _ => 0)), (a15, cw_ia G.2.2.2.2.2.2.2.2.2.2.2.2.1 20 (fun _ => 0)), (a16, cw_ia G.2.2.2.2.2.2.2.2.2.2.2.2.1 8 (fun _ => 0)), (a17, cw_ia G.2.2.2.2.2.2.2.2.2.2.2.2.1 8 (fun _ => 0)), (a18, cw_ia G.2.2.2.2.2.2.2.2.2.2.2.2.1 8 (fun _ => 0)), (a19, cw_ia G.2.2.2.2.2.2.2.2.2.2.2.2.1 8 (fun _ => 0))]) 20 1031
  refine cr_na hO 8 (by decide) (by decide) (by decide) (by rw [hR]; decide) (by rw [hR]; decide) (am_fb_ok (by decide +kernel)) (fun a20 => ?_)
  show cw_W 2 G 170 [(0, .ref q0)] [.ref a20, .ref q0] ((q0, .inr (11, [.ref a0, .ref a1, .ref a2, .ref a3, .int 0, .ref a4, .ref a5, .int 0, .ref a6, .ref a7, .ref a8, .ref a9, .ref a10, .int 0, .ref a11, .int 0, .ref a12, .ref a13, .ref a14, .ref a15, .ref a16, .ref a17, .int 0, .ref a18, .ref a19, .null, .null, .int 0, .int 0, .null, .null, .int 0, .null, .null, .int 0, .null])) :: [(a0, cw_ia G.2.2.2.2.2.2.2.2.2.2.2.2.1 4 (fun _ => 0)), (a1, cw_ia G.2.2.2.2.2.2.2.2.2.2.2.2.1 4 (fun _ => 0)), (a2, cw_ia G.2.2.2.2.2.2.2.2.2.2.2.2.1 240 (fun _ => 0)), (a3, cw_ia G.2.2.2.2.2.2.2.2.2.2.2.2.1 60 (fun _ => 0)), (a4, cw_ia G.2.2.2.2.2.2.2.2.2.2.2.2.1 216 (fun _ => 0)), (a5, cw_ia G.2.2.2.2.2.2.2.2.2.2.2.2.1 3 (fun _ => 0)), (a6, cw_ia G.2.2.2.2.2.2.2.2.2.2.2.2.1 8 (fun _ => 0)), (a7, cw_ia G.2.2.2.2.2.2.2.2.2.2.2.2.1 8 (fun _ => 0)), (a8, cw_ia G.2.2.2.2.2.2.2.2.2.2.2.2.1 8 (fun _ => 0)), (a9, cw_ia G.2.2.2.2.2.2.2.2.2.2.2.2.1 48 (fun _ => 0)), (a10, cw_ia G.2.2.2.2.2.2.2.2.2.2.2.2.1 20 (fun _ => 0)), (a11, cw_ia G.2.2.2.2.2.2.2.2.2.2.2.2.1 8 (fun _ => 0)), (a12, cw_ia G.2.2.2.2.2.2.2.2.2.2.2.2.1 32 (fun _ => 0)), (a13, cw_ia G.2.2.2.2.2.2.2.2.2.2.2.2.1 160 (fun _ => 0)), (a14, cw_ia G.2.2.2.2.2.2.2.2.2.2.2.2.1 160 (fun _ => 0)), (a15, cw_ia G.2.2.2.2.2.2.2.2.2.2.2.2.1 20 (fun _ => 0)), (a16, cw_ia G.2.2.2.2.2.2.2.2.2.2.2.2.1 8 (fun _ => 0)), (a17, cw_ia G.2.2.2.2.2.2.2.2.2.2.2.2.1 8 (fun _ => 0)), (a18, cw_ia G.2.2.2.2.2.2.2.2.2.2.2.2.1 8 (fun _ => 0)), (a19, cw_ia G.2.2.2.2.2.2.2.2.2.2.2.2.1 8 (fun _ => 0)), (a20, cw_ia G.2.2.2.2.2.2.2.2.2.2.2.2.1 8 (fun _ => 0))]) 21 1039
  refine cr_pf hO 70 25 911 (ty := .array .int) rfl (by decide) rfl (by decide +kernel) (by first | rfl | decide) (by first | rfl | decide) (Nat.le_of_ble_eq_true rfl) (am_fb_ok (by decide +kernel)) ?_
  show cw_W 2 G 173 [(0, .ref q0)] [] ((q0, .inr (11, [.ref a0, .ref a1, .ref a2, .ref a3, .int 0, .ref a4, .ref a5, .int 0, .ref a6, .ref a7, .ref a8, .ref a9, .ref a10, .int 0, .ref a11, .int 0, .ref a12, .ref a13, .ref a14, .ref a15, .ref a16, .ref a17, .int 0, .ref a18, .ref a19, .ref a20, .null, .int 0, .int 0, .null, .null, .int 0, .null, .null, .int 0, .null])) :: [(a0, cw_ia G.2.2.2.2.2.2.2.2.2.2.2.2.1 4 (fun _ => 0)), (a1, cw_ia G.2.2.2.2.2.2.2.2.2.2.2.2.1 4 (fun _ => 0)), (a2, cw_ia G.2.2.2.2.2.2.2.2.2.2.2.2.1 240 (fun _ => 0)), (a3, cw_ia G.2.2.2.2.2.2.2.2.2.2.2.2.1 60 (fun _ => 0)), (a4, cw_ia G.2.2.2.2.2.2.2.2.2.2.2.2.1 216 (fun _ => 0)), (a5, cw_ia G.2.2.2.2.2.2.2.2.2.2.2.2.1 3 (fun _ => 0)), (a6, cw_ia G.2.2.2.2.2.2.2.2.2.2.2.2.1 8 (fun _ => 0)), (a7, cw_ia G.2.2.2.2.2.2.2.2.2.2.2.2.1 8 (fun _ => 0)), (a8, cw_ia G.2.2.2.2.2.2.2.2.2.2.2.2.1 8 (fun _ => 0)), (a9, cw_ia G.2.2.2.2.2.2.2.2.2.2.2.2.1 48 (fun _ => 0)), (a10, cw_ia G.2.2.2.2.2.2.2.2.2.2.2.2.1 20 (fun _ => 0)), (a11, cw_ia G.2.2.2.2.2.2.2.2.2.2.2.2.1 8 (fun _ => 0)), (a12, cw_ia G.2.2.2.2.2.2.2.2.2.2.2.2.1 32 (fun _ => 0)), (a13, cw_ia G.2.2.2.2.2.2.2.2.2.2.2.2.1 160 (fun _ => 0)), (a14, cw_ia G.2.2.2.2.2.2.2.2.2.2.2.2.1 160 (fun _ => 0)), (a15, cw_ia G.2.2.2.2.2.2.2.2.2.2.2.2.1 20 (fun _ => 0)), (a16, cw_ia G.2.2.2.2.2.2.2.2.2.2.2.2.1 8 (fun _ => 0)), (a17, cw_ia G.2.2.2.2.2.2.2.2.2.2.2.2.1 8 (fun _ => 0)), (a18, cw_ia G.2.2.2.2.2.2.2.2.2.2.2.2.1 8 (fun _ => 0)), (a19, cw_ia G.2.2.2.2.2.2.2.2.2.2.2.2.1 8 (fun _ => 0)), (a20, cw_ia G.2.2.2.2.2.2.2.2.2.2.2.2.1 8 (fun _ => 0))]) 21 1039
  refine cr_al hO 0 0 rfl (am_fb_ok (by decide +kernel)) ?_
  show cw_W 2 G 174 [(0, .ref q0)] [.ref q0] ((q0, .inr (11, [.ref a0, .ref a1, .ref a2, .ref a3, .int 0, .ref a4, .ref a5, .int 0, .ref a6, .ref a7, .ref a8, .ref a9, .ref a10, .int 0, .ref a11, .int 0, .ref a12, .ref a13, .ref a14, .ref a15, .ref a16, .ref a17, .int 0, .ref a18, .ref a19, .ref a20, .null, .int 0, .int 0, .null, .null, .int 0, .null, .null, .int 0, .null])) :: [(a0, cw_ia G.2.2.2.2.2.2.2.2.2.2.2.2.1 4 (fun _ => 0)), (a1, cw_ia G.2.2.2.2.2.2.2.2.2.2.2.2.1 4 (fun _ => 0)), (a2, cw_ia G.2.2.2.2.2.2.2.2.2.2.2.2.1 240 (fun _ => 0)), (a3, cw_ia G.2.2.2.2.2.2.2.2.2.2.2.2.1 60 (fun _ => 0)), (a4, cw_ia G.2.2.2.2.2.2.2.2.2.2.2.2.1 216 (fun _ => 0)), (a5, cw_ia G.2.2.2.2.2.2.2.2.2.2.2.2.1 3 (fun _ => 0)), (a6, cw_ia G.2.2.2.2.2.2.2.2.2.2.2.2.1 8 (fun _ => 0)), (a7, cw_ia G.2.2.2.2.2.2.2.2.2.2.2.2.1 8 (fun _ => 0)), (a8, cw_ia G.2.2.2.2.2.2.2.2.2.2.2.2.1 8 (fun _ => 0)), (a9, cw_ia G.2.2.2.2.2.2.2.2.2.2.2.2.1 48 (fun _ => 0)), (a10, cw_ia G.2.2.2.2.2.2.2.2.2.2.2.2.1 20 (fun _ => 0)), (a11, cw_ia G.2.2.2.2.2.2.2.2.2.2.2.2.1 8 (fun _ => 0)), (a12, cw_ia G.2.2.2.2.2.2.2.2.2.2.2.2.1 32 (fun _ => 0)), (a13, cw_ia G.2.2.2.2.2.2.2.2.2.2.2.2.1 160 (fun _ => 0)), (a14, cw_ia G.2.2.2.2.2.2.2.2.2.2.2.2.1 160 (fun _ => 0)), (a15, cw_ia G.2.2.2.2.2.2.2.2.2.2.2.2.1 20 (fun _ => 0)), (a16, cw_ia G.2.2.2.2.2.2.2.2.2.2.2.2.1 8 (fun _ => 0)), (a17, cw_ia G.2.2.2.2.2.2.2.2.2.2.2.2.1 8 (fun _ => 0)), (a18, cw_ia G.2.2.2.2.2.2.2.2.2.2.2.2.1 8 (fun _ => 0)), (a19, cw_ia G.2.2.2.2.2.2.2.2.2.2.2.2.1 8 (fun _ => 0)), (a20, cw_ia G.2.2.2.2.2.2.2.2.2.2.2.2.1 8 (fun _ => 0))]) 21 1039
  refine cr_bp hO 8 8 (by decide) (am_fb_ok (by decide +kernel)) ?_
  show cw_W 2 G 176 [(0, .ref q0)] [.int 8, .ref q0] ((q0, .inr (11, [.ref a0, .ref a1, .ref a2, .ref a3, .int 0, .ref a4, .ref a5, .int 0, .ref a6, .ref a7, .ref a8, .ref a9, .ref a10, .int 0, .ref a11, .int 0, .ref a12, .ref a13, .ref a14, .ref a15, .ref a16, .ref a17, .int 0, .ref a18, .ref a19, .ref a20, .null, .int 0, .int 0, .null, .null, .int 0, .null, .null, .int 0, .null])) :: [(a0, cw_ia G.2.2.2.2.2.2.2.2.2.2.2.2.1 4 (fun _ => 0)), (a1, cw_ia G.2.2.2.2.2.2.2.2.2.2.2.2.1 4 (fun _ => 0)), (a2, cw_ia G.2.2.2.2.2.2.2.2.2.2.2.2.1 240 (fun _ => 0)), (a3, cw_ia G.2.2.2.2.2.2.2.2.2.2.2.2.1 60 (fun _ => 0)), (a4, cw_ia G.2.2.2.2.2.2.2.2.2.2.2.2.1 216 (fun _ => 0)), (a5, cw_ia G.2.2.2.2.2.2.2.2.2.2.2.2.1 3 (fun _ => 0)), (a6, cw_ia G.2.2.2.2.2.2.2.2.2.2.2.2.1 8 (fun _ => 0)), (a7, cw_ia G.2.2.2.2.2.2.2.2.2.2.2.2.1 8 (fun _ => 0)), (a8, cw_ia G.2.2.2.2.2.2.2.2.2.2.2.2.1 8 (fun _ => 0)), (a9, cw_ia G.2.2.2.2.2.2.2.2.2.2.2.2.1 48 (fun _ => 0)), (a10, cw_ia G.2.2.2.2.2.2.2.2.2.2.2.2.1 20 (fun _ => 0)), (a11, cw_ia G.2.2.2.2.2.2.2.2.2.2.2.2.1 8 (fun _ => 0)), (a12, cw_ia G.2.2.2.2.2.2.2.2.2.2.2.2.1 32 (fun _ => 0)), (a13, cw_ia G.2.2.2.2.2.2.2.2.2.2.2.2.1 160 (fun _ => 0)), (a14, cw_ia G.2.2.2.2.2.2.2.2.2.2.2.2.1 160 (fun _ => 0)), (a15, cw_ia G.2.2.2.2.2.2.2.2.2.2.2.2.1 20 (fun _ => 0)), (a16, cw_ia G.2.2.2.2.2.2.2.2.2.2.2.2.1 8 (fun _ => 0)), (a17, cw_ia G.2.2.2.2.2.2.2.2.2.2.2.2.1 8 (fun _ => 0)), (a18, cw_ia G.2.2.2.2.2.2.2.2.2.2.2.2.1 8 (fun _ => 0)), (a19, cw_ia G.2.2.2.2.2.2.2.2.2.2.2.2.1 8 (fun _ => 0)), (a20, cw_ia G.2.2.2.2.2.2.2.2.2.2.2.2.1 8 (fun _ => 0))]) 21 1039
  refine cr_na hO 8 (by decide) (by decide) (by decide) (by rw [hR]; decide) (by rw [hR]; decide) (am_fb_ok (by decide +kernel)) (fun a21 => ?_)
  show cw_W 2 G 178 [(0, .ref q0)] [.ref a21, .ref q0] ((q0, .inr (11, [.ref a0, .ref a1, .ref a2, .ref a3, .int 0, .ref a4, .ref a5, .int 0, .ref a6, .ref a7, .ref a8, .ref a9, .ref a10, .int 0, .ref a11, .int 0, .ref a12, .ref a13, .ref a14, .ref a15, .ref a16, .ref a17, .int 0, .ref a18, .ref a19, .ref a20, .null, .int 0, .int 0, .null, .null, .int 0, .null, .null, .int 0, .null])) :: [(a0, cw_ia G.2.2.2.2.2.2.2.2.2.2.2.2.1 4 (fun _ => 0)), (a1, cw_ia G.2.2.2.2.2.2.2.2.2.2.2.2.1 4 (fun _ => 0)), (a2, cw_ia G.2.2.2.2.2.2.2.2.2.2.2.2.1 240 (fun _ => 0)), (a3, cw_ia G.2.2.2.2.2.2.2.2.2.2.2.2.1 60 (fun _ => 0)), (a4, cw_ia G.2.2.2.2.2.2.2.2.2.2.2.2.1 216 (fun _ => 0)), (a5, cw_ia G.2.2.2.2.2.2.2.2.2.2.2.2.1 3 (fun _ => 0)), (a6, cw_ia G.2.2.2.2.2.2.2.2.2.2.2.2.1 8 (fun _ => 0)), (a7, cw_ia G.2.2.2.2.2.2.2.2.2.2.2.2.1 8 (fun _ => 0)), (a8, cw_ia G.2.2.2.2.2.2.2.2.2.2.2.2.1 8 (fun _ => 0)), (a9, cw_ia G.2.2.2.2.2.2.2.2.2.2.2.2.1 48 (fun _ => 0)), (a10, cw_ia G.2.2.2.2.2.2.2.2.2.2.2.2.1 20 (fun _ => 0)), (a11, cw_ia G.2.2.2.2.2.2.2.2.2.2.2.2.1 8 (fun _ => 0)), (a12, cw_ia G.2.2.2.2.2.2.2.2.2.2.2.2.1 32 (fun _ => 0)), (a13, cw_ia G.2.2.2.2.2.2.2.2.2.2.2.2.1 160 (fun _ => 0)), (a14, cw_ia G.2.2.2.2.2.2.2.2.2.2.2.2.1 160 (fun _ => 0)), (a15, cw_ia G.2.2.2.2.2.2.2.2.2.2.2.2.1 20 (fun _ => 0)), (a16, cw_ia G.2.2.2.2.2.2.2.2.2.2.2.2.1 8 (fun _ => 0)), (a17, cw_ia G.2.2.2.2.2.2.2.2.2.2.2.2.1 8 (fun _ => 0)), (a18, cw_ia G.2.2.2.2.2.2.2.2.2.2.2.2.1 8 (fun _ => 0)), (a19, cw_ia G.2.2.2.2.2.2.2.2.2.2.2.2.1 8 (fun _ => 0)), (a20, cw_ia G.2.2.2.2.2.2.2.2.2.2.2.2.1 8 (fun _ => 0)), (a21, cw_ia G.2.2.2.2.2.2.2.2.2.2.2.2.1 8 (fun _ => 0))]) 22 1047
  refine cr_pf hO 73 26 912 (ty := .array .int) rfl (by decide) rfl (by decide +kernel) (by first | rfl | decide) (by first | rfl | decide) (Nat.le_of_ble_eq_true rfl) (am_fb_ok (by decide +kernel)) ?_
  show cw_W 2 G 181 [(0, .ref q0)] [] ((q0, .inr (11, [.ref a0, .ref a1, .ref a2, .ref a3, .int 0, .ref a4, .ref a5, .int 0, .ref a6, .ref a7, .ref a8, .ref a9, .ref a10, .int 0, .ref a11, .int 0, .ref a12, .ref a13, .ref a14, .ref a15, .ref a16, .ref a17, .int 0, .ref a18, .ref a19, .ref a20, .ref a21, .int 0, .int 0, .null, .null, .int 0, .null, .null, .int 0, .null])) :: [(a0, cw_ia G.2.2.2.2.2.2.2.2.2.2.2.2.1 4 (fun _ => 0)), (a1, cw_ia G.2.2.2.2.2.2.2.2.2.2.2.2.1 4 (fun _ => 0)), (a2, cw_ia G.2.2.2.2.2.2.2.2.2.2.2.2.1 240 (fun _ => 0)), (a3, cw_ia G.2.2.2.2.2.2.2.2.2.2.2.2.1 60 (fun _ => 0)), (a4, cw_ia G.2.2.2.2.2.2.2.2.2.2.2.2.1 216 (fun _ => 0)), (a5, cw_ia G.2.2.2.2.2.2.2.2.2.2.2.2.1 3 (fun _ => 0)), (a6, cw_ia G.2.2.2.2.2.2.2.2.2.2.2.2.1 8 (fun _ => 0)), (a7, cw_ia G.2.2.2.2.2.2.2.2.2.2.2.2.1 8 (fun _ => 0)), (a8, cw_ia G.2.2.2.2.2.2.2.2.2.2.2.2.1 8 (fun _ => 0)), (a9, cw_ia G.2.2.2.2.2.2.2.2.2.2.2.2.1 48 (fun _ => 0)), (a10, cw_ia G.2.2.2.2.2.2.2.2.2.2.2.2.1 20 (fun _ => 0)), (a11, cw_ia G.2.2.2.2.2.2.2.2.2.2.2.2.1 8 (fun _ => 0)), (a12, cw_ia G.2.2.2.2.2.2.2.2.2.2.2.2.1 32 (fun _ => 0)), (a13, cw_ia G.2.2.2.2.2.2.2.2.2.2.2.2.1 160 (fun _ => 0)), (a14, cw_ia G.2.2.2.2.2.2.2.2.2.2.2.2.1 160 (fun _ => 0)), (a15, cw_ia G.2.2.2.2.2.2.2.2.2.2.2.2.1 20 (fun _ => 0)), (a16, cw_ia G.2.2.2.2.2.2.2.2.2.2.2.2.1 8 (fun _ => 0)), (a17, cw_ia G.2.2.2.2.2.2.2.2.2.2.2.2.1 8 (fun _ => 0)), (a18, cw_ia G.2.2.2.2.2.2.2.2.2.2.2.2.1 8 (fun _ => 0)), (a19, cw_ia G.2.2.2.2.2.2.2.2.2.2.2.2.1 8 (fun _ => 0)), (a20, cw_ia G.2.2.2.2.2.2.2.2.2.2.2.2.1 8 (fun _ => 0)), (a21, cw_ia G.2.2.2.2.2.2.2.2.2.2.2.2.1 8 (fun _ => 0))]) 22 1047
  refine cr_al hO 0 0 rfl (am_fb_ok (by decide +kernel)) ?_
  show cw_W 2 G 182 [(0, .ref q0)] [.ref q0] ((q0, .inr (11, [.ref a0, .ref a1, .ref a2, .ref a3, .int 0, .ref a4, .ref a5, .int 0, .ref a6, .ref a7, .ref a8, .ref a9, .ref a10, .int 0, .ref a11, .int 0, .ref a12, .ref a13, .ref a14, .ref a15, .ref a16, .ref a17, .int 0, .ref a18, .ref a19, .ref a20, .ref a21, .int 0, .int 0, .null, .null, .int 0, .null, .null, .int 0, .null])) :: [(a0, cw_ia G.2.2.2.2.2.2.2.2.2.2.2.2.1 4 (fun _ => 0)), (a1, cw_ia G.2.2.2.2.2.2.2.2.2.2.2.2.1 4 (fun _ => 0)), (a2, cw_ia G.2.2.2.2.2.2.2.2.2.2.2.2.1 240 (fun _ => 0)), (a3, cw_ia G.2.2.2.2.2.2.2.2.2.2.2.2.1 60 (fun _ => 0)), (a4, cw_ia G.2.2.2.2.2.2.2.2.2.2.2.2.1 216 (fun _ => 0)), (a5, cw_ia G.2.2.2.2.2.2.2.2.2.2.2.2.1 3 (fun _ => 0)), (a6, cw_ia G.2.2.2.2.2.2.2.2.2.2.2.2.1 8 (fun _ => 0)), (a7, cw_ia G.2.2.2.2.2.2.2.2.2.2.2.2.1 8 (fun _ => 0)), (a8, cw_ia G.2.2.2.2.2.2.2.2.2.2.2.2.1 8 (fun _ => 0)), (a9, cw_ia G.2.2.2.2.2.2.2.2.2.2.2.2.1 48 (fun _ => 0)), (a10, cw_ia G.2.2.2.2.2.2.2.2.2.2.2.2.1 20 (fun _ => 0)), (a11, cw_ia G.2.2.2.2.2.2.2.2.2.2.2.2.1 8 (fun _ => 0)), (a12, cw_ia G.2.2.2.2.2.2.2.2.2.2.2.2.1 32 (fun _ => 0)), (a13, cw_ia G.2.2.2.2.2.2.2.2.2.2.2.2.1 160 (fun _ => 0)), (a14, cw_ia G.2.2.2.2.2.2.2.2.2.2.2.2.1 160 (fun _ => 0)), (a15, cw_ia G.2.2.2.2.2.2.2.2.2.2.2.2.1 20 (fun _ => 0)), (a16, cw_ia G.2.2.2.2.2.2.2.2.2.2.2.2.1 8 (fun _ => 0)), (a17, cw_ia G.2.2.2.2.2.2.2.2.2.2.2.2.1 8 (fun _ => 0)), (a18, cw_ia G.2.2.2.2.2.2.2.2.2.2.2.2.1 8 (fun _ => 0)), (a19, cw_ia G.2.2.2.2.2.2.2.2.2.2.2.2.1 8 (fun _ => 0)), (a20, cw_ia G.2.2.2.2.2.2.2.2.2.2.2.2.1 8 (fun _ => 0)), (a21, cw_ia G.2.2.2.2.2.2.2.2.2.2.2.2.1 8 (fun _ => 0))]) 22 1047
  refine cr_bp hO 6 6 (by decide) (am_fb_ok (by decide +kernel)) ?_
  show cw_W 2 G 184 [(0, .ref q0)] [.int 6, .ref q0] ((q0, .inr (11, [.ref a0, .ref a1, .ref a2, .ref a3, .int 0, .ref a4, .ref a5, .int 0, .ref a6, .ref a7, .ref a8, .ref a9, .ref a10, .int 0, .ref a11, .int 0, .ref a12, .ref a13, .ref a14, .ref a15, .ref a16, .ref a17, .int 0, .ref a18, .ref a19, .ref a20, .ref a21, .int 0, .int 0, .null, .null, .int 0, .null, .null, .int 0, .null])) :: [(a0, cw_ia G.2.2.2.2.2.2.2.2.2.2.2.2.1 4 (fun _ => 0)), (a1, cw_ia G.2.2.2.2.2.2.2.2.2.2.2.2.1 4 (fun _ => 0)), (a2, cw_ia G.2.2.2.2.2.2.2.2.2.2.2.2.1 240 (fun _ => 0)), (a3, cw_ia G.2.2.2.2.2.2.2.2.2.2.2.2.1 60 (fun _ => 0)), (a4, cw_ia G.2.2.2.2.2.2.2.2.2.2.2.2.1 216 (fun _ => 0)), (a5, cw_ia G.2.2.2.2.2.2.2.2.2.2.2.2.1 3 (fun _ => 0)), (a6, cw_ia G.2.2.2.2.2.2.2.2.2.2.2.2.1 8 (fun _ => 0)), (a7, cw_ia G.2.2.2.2.2.2.2.2.2.2.2.2.1 8 (fun _ => 0)), (a8, cw_ia G.2.2.2.2.2.2.2.2.2.2.2.2.1 8 (fun _ => 0)), (a9, cw_ia G.2.2.2.2.2.2.2.2.2.2.2.2.1 48 (fun _ => 0)), (a10, cw_ia G.2.2.2.2.2.2.2.2.2.2.2.2.1 20 (fun _ => 0)), (a11, cw_ia G.2.2.2.2.2.2.2.2.2.2.2.2.1 8 (fun _ => 0)), (a12, cw_ia G.2.2.2.2.2.2.2.2.2.2.2.2.1 32 (fun _ => 0)), (a13, cw_ia G.2.2.2.2.2.2.2.2.2.2.2.2.1 160 (fun _ => 0)), (a14, cw_ia G.2.2.2.2.2.2.2.2.2.2.2.2.1 160 (fun _ => 0)), (a15, cw_ia G.2.2.2.2.2.2.2.2.2.2.2.2.1 20 (fun _ => 0)), (a16, cw_ia G.2.2.2.2.2.2.2.2.2.2.2.2.1 8 (fun _ => 0)), (a17, cw_ia G.2.2.2.2.2.2.2.2.2.2.2.2.1 8 (fun _ => 0)), (a18, cw_ia G.2.2.2.2.2.2.2.2.2.2.2.2.1 8 (fun _ => 0)), (a19, cw_ia G.2.2.2.2.2.2.2.2.2.2.2.2.1 8 (fun _ => 0)), (a20, cw_ia G.2.2.2.2.2.2.2.2.2.2.2.2.1 8 (fun _ => 0)), (a21, cw_ia G.2.2.2.2.2.2.2.2.2.2.2.2.1 8 (fun _ => 0))]) 22 1047
  refine cr_na hO 6 (by decide) (by decide) (by decide) (by rw [hR]; decide) (by rw [hR]; decide) (am_fb_ok (by decide +kernel)) (fun a22 => ?_)
  show cw_W 2 G 186 [(0, .ref q0)] [.ref a22, .ref q0] ((q0, .inr (11, [.ref a0, .ref a1, .ref a2, .ref a3, .int 0, .ref a4, .ref a5, .int 0, .ref a6, .ref a7, .ref a8, .ref a9, .ref a10, .int 0, .ref a11, .int 0, .ref a12, .ref a13, .ref a14, .ref a15, .ref a16, .ref a17, .int 0, .ref a18, .ref a19, .ref a20, .ref a21, .int 0, .int 0, .null, .null, .int 0, .null, .null, .int 0, .null])) :: [(a0, cw_ia G.2.2.2.2.2.2.2.2.2.2.2.2.1 4 (fun _ => 0)), (a1, cw_ia G.2.2.2.2.2.2.2.2.2.2.2.2.1 4 (fun _ => 0)), (a2, cw_ia G.2.2.2.2.2.2.2.2.2.2.2.2.1 240 (fun _ => 0)), (a3, cw_ia G.2.2.2.2.2.2.2.2.2.2.2.2.1 60 (fun _ => 0)), (a4, cw_ia G.2.2.2.2.2.2.2.2.2.2.2.2.1 216 (fun _ => 0)), (a5, cw_ia G.2.2.2.2.2.2.2.2.2.2.2.2.1 3 (fun _ => 0)), (a6, cw_ia G.2.2.2.2.2.2.2.2.2.2.2.2.1 8 (fun _ => 0)), (a7, cw_ia G.2.2.2.2.2.2.2.2.2.2.2.2.1 8 (fun _ => 0)), (a8, cw_ia G.2.2.2.2.2.2.2.2.2.2.2.2.1 8 (fun _ => 0)), (a9, cw_ia G.2.2.2.2.2.2.2.2.2.2.2.2.1 48 (fun _ => 0)), (a10, cw_ia G.2.2.2.2.2.2.2.2.2.2.2.2.1 20 (fun _ => 0)), (a11, cw_ia G.2.2.2.2.2.2.2.2.2.2.2.2.1 8 (fun _ => 0)), (a12, cw_ia G.2.2.2.2.2.2.2.2.2.2.2.2.1 32 (fun _ => 0)), (a13, cw_ia G.2.2.2.2.2.2.2.2.2.2.2.2.1 160 (fun _ => 0)), (a14, cw_ia G.2.2.2.2.2.2.2.2.2.2.2.2.1 160 (fun _ => 0)), (a15, cw_ia G.2.2.2.2.2.2.2.2.2.2.2.2.1 20 (fun _ => 0)), (a16, cw_ia G.2.2.2.2.2.2.2.2.2.2.2.2.1 8 (fun _ => 0)), (a17, cw_ia G.2.2.2.2.2.2.2.2.2.2.2.2.1 8 (fun _ => 0)), (a18, cw_ia G.2.2.2.2.2.2.2.2.2.2.2.2.1 8 (fun _ => 0)), (a19, cw_ia G.2.2.2.2.2.2.2.2.2.2.2.2.1 8 (fun _ => 0)), (a20, cw_ia G.2.2.2.2.2.2.2.2.2.2.2.2.1 8 (fun _ => 0)), (a21, cw_ia G.2.2.2.2.2.2.2.2.2.2.2.2.1 8 (fun _ => 0)), (a22, cw_ia G.2.2.2.2.2.2.2.2.2.2.2.2.1 6 (fun _ => 0))]) 23 1053
  refine cr_pf hO 76 29 915 (ty := .array .int) rfl (by decide) rfl (by decide +kernel) (by first | rfl | decide) (by first | rfl | decide) (Nat.le_of_ble_eq_true rfl) (am_fb_ok (by decide +kernel)) ?_
  show cw_W 2 G 189 [(0, .ref q0)] [] ((q0, .inr (11, [.ref a0, .ref a1, .ref a2, .ref a3, .int 0, .ref a4, .ref a5, .int 0, .ref a6, .ref a7, .ref a8, .ref a9, .ref a10, .int 0, .ref a11, .int 0, .ref a12, .ref a13, .ref a14, .ref a15, .ref a16, .ref a17, .int 0, .ref a18, .ref a19, .ref a20, .ref a21, .int 0, .int 0, .ref a22, .null, .int 0, .null, .null, .int 0, .null])) :: [(a0, cw_ia G.2.2.2.2.2.2.2.2.2.2.2.2.1 4 (fun _ => 0)), (a1, cw_ia G.2.2.2.2.2.2.2.2.2.2.2.2.1 4 (fun _ => 0)), (a2, cw_ia G.2.2.2.2.2.2.2.2.2.2.2.2.1 240 (fun _ => 0)), (a3, cw_ia G.2.2.2.2.2.2.2.2.2.2.2.2.1 60 (fun _ => 0)), (a4, cw_ia G.2.2.2.2.2.2.2.2.2.2.2.2.1 216 (fun _ => 0)), (a5, cw_ia G.2.2.2.2.2.2.2.2.2.2.2.2.1 3 (fun _ => 0)), (a6, cw_ia G.2.2.2.2.2.2.2.2.2.2.2.2.1 8 (fun _ => 0)), (a7, cw_ia G.2.2.2.2.2.2.2.2.2.2.2.2.1 8 (fun _ => 0)), (a8, cw_ia G.2.2.2.2.2.2.2.2.2.2.2.2.1 8 (fun _ => 0)), (a9, cw_ia G.2.2.2.2.2.2.2.2.2.2.2.2.1 48 (fun _ => 0)), (a10, cw_ia G.2.2.2.2.2.2.2.2.2.2.2.2.1 20 (fun _ => 0)), (a11, cw_ia G.2.2.2.2.2.2.2.2.2.2.2.2.1 8 (fun _ => 0)), (a12, cw_ia G.2.2.2.2.2.2.2.2.2.2.2.2.1 32 (fun _ => 0)), (a13, cw_ia G.2.2.2.2.2.2.2.2.2.2.2.2.1 160 (fun _ => 0)), (a14, cw_ia G.2.2.2.2.2.2.2.2.2.2.2.2.1 160 (fun _ => 0)), (a15, cw_ia G.2.2.2.2.2.2.2.2.2.2.2.2.1 20 (fun _ => 0)), (a16, cw_ia G.2.2.2.2.2.2.2.2.2.2.2.2.1 8 (fun _ => 0)), (a17, cw_ia G.2.2.2.2.2.2.2.2.2.2.2.2.1 8 (fun _ => 0)), (a18, cw_ia G.2.2.2.2.2.2.2.2.2.2.2.2.1 8 (fun _ => 0)), (a19, cw_ia G.2.2.2.2.2.2.2.2.2.2.2.2.1 8 (fun _ => 0)), (a20, cw_ia G.2.2.2.2.2.2.2.2.2.2.2.2.1 8 (fun _ => 0)), (a21, cw_ia G.2.2.2.2.2.2.2.2.2.2.2.2.1 8 (fun _ => 0)), (a22, cw_ia G.2.2.2.2.2.2.2.2.2.2.2.2.1 6 (fun _ => 0))]) 23 1053
  refine cr_al hO 0 0 rfl (am_fb_ok (by decide +kernel)) ?_
  show cw_W 2 G 190 [(0, .ref q0)] [.ref q0] ((q0, .inr (11, [.ref a0, .ref a1, .ref a2, .ref a3, .int 0, .ref a4, .ref a5, .int 0, .ref a6, .ref a7, .ref a8, .ref a9, .ref a10, .int 0, .ref a11, .int 0, .ref a12, .ref a13, .ref a14, .ref a15, .ref a16, .ref a17, .int 0, .ref a18, .ref a19, .ref a20, .ref a21, .int 0, .int 0, .ref a22, .null, .int 0, .null, .null, .int 0, .null])) :: [(a0, cw_ia G.2.2.2.2.2.2.2.2.2.2.2.2.1 4 (fun _ => 0)), (a1, cw_ia G.2.2.2.2.2.2.2.2.2.2.2.2.1 4 (fun _ => 0)), (a2, cw_ia G.2.2.2.2.2.2.2.2.2.2.2.2.1 240 (fun _ => 0)), (a3, cw_ia G.2.2.2.2.2.2.2.2.2.2.2.2.1 60 (fun _ => 0)), (a4, cw_ia G.2.2.2.2.2.2.2.2.2.2.2.2.1 216 (fun _ => 0)), (a5, cw_ia G.2.2.2.2.2.2.2.2.2.2.2.2.1 3 (fun _ => 0)), (a6, cw_ia G.2.2.2.2.2.2.2.2.2.2.2.2.1 8 (fun _ => 0)), (a7, cw_ia G.2.2.2.2.2.2.2.2.2.2.2.2.1 8 (fun _ => 0)), (a8, cw_ia G.2.2.2.2.2.2.2.2.2.2.2.2.1 8 (fun _ => 0)), (a9, cw_ia G.2.2.2.2.2.2.2.2.2.2.2.2.1 48 (fun _ => 0)), (a10, cw_ia G.2.2.2.2.2.2.2.2.2.2.2.2.1 20 (fun _ => 0)), (a11, cw_ia G.2.2.2.2.2.2.2.2.2.2.2.2.1 8 (fun _ => 0)), (a12, cw_ia G.2.2.2.2.2.2.2.2.2.2.2.2.1 32 (fun _ => 0)), (a13, cw_ia G.2.2.2.2.2.2.2.2.2.2.2.2.1 160 (fun _ => 0)), (a14, cw_ia G.2.2.2.2.2.2.2.2.2.2.2.2.1 160 (fun _ => 0)), (a15, cw_ia G.2.2.2.2.2.2.2.2.2.2.2.2.1 20 (fun _ => 0)), (a16, cw_ia G.2.2.2.2.2.2.2.2.2.2.2.2.1 8 (fun _ => 0)), (a17, cw_ia G.2.2.2.2.2.2.2.2.2.2.2.2.1 8 (fun _ => 0)), (a18, cw_ia G.2.2.2.2.2.2.2.2.2.2.2.2.1 8 (fun _ => 0)), (a19, cw_ia G.2.2.2.2.2.2.2.2.2.2.2.2.1 8 (fun _ => 0)), (a20, cw_ia G.2.2.2.2.2.2.2.2.2.2.2.2.1 8 (fun _ => 0)), (a21, cw_ia G.2.2.2.2.2.2.2.2.2.2.2.2.1 8 (fun _ => 0)), (a22, cw_ia G.2.2.2.2.2.2.2.2.2.2.2.2.1 6 (fun _ => 0))]) 23 1053
  refine cr_bp hO 6 6 (by decide) (am_fb_ok (by decide +kernel)) ?_
  show cw_W 2 G 192 [(0, .ref q0)] [.int 6, .ref q0] ((q0, .inr (11, [.ref a0, .ref a1, .ref a2, .ref a3, .int 0, .ref a4, .ref a5, .int 0, .ref a6, .ref a7, .ref a8, .ref a9, .ref a10, .int 0, .ref a11, .int 0, .ref a12, .ref a13, .ref a14, .ref a15, .ref a16, .ref a17, .int 0, .ref a18, .ref a19, .ref a20, .ref a21, .int 0, .int 0, .ref a22, .null, .int 0, .null, .null, .int 0, .null])) :: [(a0, cw_ia G.2.2.2.2.2.2.2.2.2.2.2.2.1 4 (fun _ => 0)), (a1, cw_ia G.2.2.2.2.2.2.2.2.2.2.2.2.1 4 (fun _ => 0)), (a2, cw_ia G.2.2.2.2.2.2.2.2.2.2.2.2.1 240 (fun _ => 0)), (a3, cw_ia G.2.2.2.2.2.2.2.2.2.2.2.2.1 60 (fun _ => 0)), (a4, cw_ia G.2.2.2.2.2.2.2.2.2.2.2.2.1 216 (fun _ => 0)), (a5, cw_ia G.2.2.2.2.2.2.2.2.2.2.2.2.1 3 (fun _ => 0)), (a6, cw_ia G.2.2.2.2.2.2.2.2.2.2.2.2.1 8 (fun _ => 0)), (a7, cw_ia G.2.2.2.2.2.2.2.2.2.2.2.2.1 8 (fun _ => 0)), (a8, cw_ia G.2.2.2.2.2.2.2.2.2.2.2.2.1 8 (fun _ => 0)), (a9, cw_ia G.2.2.2.2.2.2.2.2.2.2.2.2.1 48 (fun _ => 0)), (a10, cw_ia G.2.2.2.2.2.2.2.2.2.2.2.2.1 20 (fun _ => 0)), (a11, cw_ia G.2.2.2.2.2.2.2.2.2.2.2.2.1 8 (fun _ => 0)), (a12, cw_ia G.2.2.2.2.2.2.2.2.2.2.2.2.1 32 (fun _ => 0)), (a13, cw_ia G.2.2.2.2.2.2.2.2.2.2.2.2.1 160 (fun _ => 0)), (a14, cw_ia G.2.2.2.2.2.2.2.2.2.2.2.2.1 160 (fun _ => 0)), (a15, cw_ia G.2.2.2.2.2.2.2.2.2.2.2.2.1 20 (fun _ => 0)), (a16, cw_ia G.2.2.2.2.2.2.2.2.2.2.2.2.1 8 (fun _ => 0)), (a17, cw_ia G.2.2.2.2.2.2.2.2.2.2.2.2.1 8 (fun _ => 0)), (a18, cw_ia G.2.2.2.2.2.2.2.2.2.2.2.2.1 8 (fun _ => 0)), (a19, cw_ia G.2.2.2.2.2.2.2.2.2.2.2.2.1 8 (fun _ => 0)), (a20, cw_ia G.2.2.2.2.2.2.2.2.2.2.2.2.1 8 (fun _ => 0)), (a21, cw_ia G.2.2.2.2.2.2.2.2.2.2.2.2.1 8 (fun _ => 0)), (a22, cw_ia G.2.2.2.2.2.2.2.2.2.2.2.2.1 6 (fun _ => 0))]) 23 1053
  refine cr_na hO 6 (by decide) (by decide) (by decide) (by rw [hR]; decide) (by rw [hR]; decide) (am_fb_ok (by decide +kernel)) (fun a23 => ?_)
  show cw_W 2 G 194 [(0, .ref q0)] [.ref a23, .ref q0] ((q0, .inr (11, [.ref a0, .ref a1, .ref a2, .ref a3, .int 0, .ref a4, .ref a5, .int 0, .ref a6, .ref a7, .ref a8, .ref a9, .ref a10, .int 0, .ref a11, .int 0, .ref a12, .ref a13, .ref a14, .ref a15, .ref a16, .ref a17, .int 0, .ref a18, .ref a19, .ref a20, .ref a21, .int 0, .int 0, .ref a22, .null, .int 0, .null, .null, .int 0, .null])) :: [(a0, cw_ia G.2.2.2.2.2.2.2.2.2.2.2.2.1 4 (fun _ => 0)), (a1, cw_ia G.2.2.2.2.2.2.2.2.2.2.2.2.1 4 (fun _ => 0)), (a2, cw_ia G.2.2.2.2.2.2.2.2.2.2.2.2.1 240 (fun _ => 0)), (a3, cw_ia G.2.2.2.2.2.2.2.2.2.2.2.2.1 60 (fun _ => 0)), (a4, cw_ia G.2.2.2.2.2.2.2.2.2.2.2.2.1 216 (fun _ => 0)), (a5, cw_ia G.2.2.2.2.2.2.2.2.2.2.2.2.1 3 (fun _ => 0)), (a6, cw_ia G.2.2.2.2.2.2.2.2.2.2.2.2.1 8 (fun _ => 0)), (a7, cw_ia G.2.2.2.2.2.2.2.2.2.2.2.2.1 8 (fun _ => 0)), (a8, cw_ia G.2.2.2.2.2.2.2.2.2.2.2.2.1 8 (fun _ => 0)), (a9, cw_ia G.2.2.2.2.2.2.2.2.2.2.2.2.1 48 (fun _ => 0)), (a10, cw_ia G.2.2.2.2.2.2.2.2.2.2.2.2.1 20 (fun _ => 0)), (a11, cw_ia G.2.2.2.2.2.2.2.2.2.2.2.2.1 8 (fun _ => 0)), (a12, cw_ia G.2.2.2.2.2.2.2.2.2.2.2.2.1 32 (fun _ => 0)), (a13, cw_ia G.2.2.2.2.2.2.2.2.2.2.2.2.1 160 (fun _ => 0)), (a14, cw_ia G.2.2.2.2.2.2.2.2.2.2.2.2.1 160 (fun _ => 0)), (a15, cw_ia G.2.2.2.2.2.2.2.2.2.2.2.2.1 20 (fun _ => 0)), (a16, cw_ia G.2.2.2.2.2.2.2.2.2.2.2.2.1 8 (fun _ => 0)), (a17, cw_ia G.2.2.2.2.2.2.2.2.2.2.2.2.1 8 (fun _ => 0)), (a18, cw_ia G.2.2.2.2.2.2.2.2.2.2.2.2.1 8 (fun _ => 0)), (a19, cw_ia G.2.2.2.2.2.2.2.2.2.2.2.2.1 8 (fun _ => 0)), (a20, cw_ia G.2.2.2.2.2.2.2.2.2.2.2.2.1 8 (fun _ => 0)), (a21, cw_ia G.2.2.2.2.2.2.2.2.2.2.2.2.1 8 (fun _ => 0)), (a22, cw_ia G.2.2.2.2.2.2.2.2.2.2.2.2.1 6 (fun _ => 0)), (a23, cw_ia G.2.2.2.2.2.2.2.2.2.2.2.2.1 6 (fun _ => 0))]) 24 1059
  refine cr_pf hO 79 30 916 (ty := .array .int) rfl (by decide) rfl (by decide +kernel) (by first | rfl | decide) (by first | rfl | decide) (Nat.le_of_ble_eq_true rfl) (am_fb_ok (by decide +kernel)) ?_
  show cw_W 2 G 197 [(0, .ref q0)] [] ((q0, .inr (11, [.ref a0, .ref a1, .ref a2, .ref a3, .int 0, .ref a4, .ref a5, .int 0, .ref a6, .ref a7, .ref a8, .ref a9, .ref a10, .int 0, .ref a11, .int 0, .ref a12, .ref a13, .ref a14, .ref a15, .ref a16, .ref a17, .int 0, .ref a18, .ref a19, .ref a20, .ref a21, .int 0, .int 0, .ref a22, .ref a23, .int 0, .null, .null, .int 0, .null])) :: [(a0, cw_ia G.2.2.2.2.2.2.2.2.2.2.2.2.1 4 (fun _ => 0)), (a1, cw_ia G.2.2.2.2.2.2.2.2.2.2.2.2.1 4 (fun _ => 0)), (a2, cw_ia G.2.2.2.2.2.2.2.2.2.2.2.2.1 240 (fun _ => 0)), (a3, cw_ia G.2.2.2.2.2.2.2.2.2.2.2.2.1 60 (fun _ => 0)), (a4, cw_ia G.2.2.2.2.2.2.2.2.2.2.2.2.1 216 (fun _ => 0)), (a5, cw_ia G.2.2.2.2.2.2.2.2.2.2.2.2.1 3 (fun _ => 0)), (a6, cw_ia G.2.2.2.2.2.2.2.2.2.2.2.2.1 8 (fun _ => 0)), (a7, cw_ia G.2.2.2.2.2.2.2.2.2.2.2.2.1 8 (fun _ => 0)), (a8, cw_ia G.2.2.2.2.2.2.2.2.2.2.2.2.1 8 (fun _ => 0)), (a9, cw_ia G.2.2.2.2.2.2.2.2.2.2.2.2.1 48 (fun _ => 0)), (a10, cw_ia G.2.2.2.2.2.2.2.2.2.2.2.2.1 20 (fun _ => 0)), (a11, cw_ia G.2.2.2.2.2.2.2.2.2.2.2.2.1 8 (fun _ => 0)), (a12, cw_ia G.2.2.2.2.2.2.2.2.2.2.2.2.1 32 (fun _ => 0)), (a13, cw_ia G.2.2.2.2.2.2.2.2.2.2.2.2.1 160 (fun _ => 0)), (a14, cw_ia G.2.2.2.2.2.2.2.2.2.2.2.2.1 160 (fun _ => 0)), (a15, cw_ia G.2.2.2.2.2.2.2.2.2.2.2.2.1 20 (fun _ => 0)), (a16, cw_ia G.2.2.2.2.2.2.2.2.2.2.2.2.1 8 (fun _ => 0)), (a17, cw_ia G.2.2.2.2.2.2.2.2.2.2.2.2.1 8 (fun _ => 0)), (a18, cw_ia G.2.2.2.2.2.2.2.2.2.2.2.2.1 8 (fun _ => 0)), (a19, cw_ia G.2.2.2.2.2.2.2.2.2.2.2.2.1 8 (fun _ => 0)), (a20, cw_ia G.2.2.2.2.2.2.2.2.2.2.2.2.1 8 (fun _ => 0)), (a21, cw_ia G.2.2.2.2.2.2.2.2.2.2.2.2.1 8 (fun _ => 0)), (a22, cw_ia G.2.2.2.2.2.2.2.2.2.2.2.2.1 6 (fun _ => 0)), (a23, cw_ia G.2.2.2.2.2.2.2.2.2.2.2.2.1 6 (fun _ => 0))]) 24 1059
  refine cr_al hO 0 0 rfl (am_fb_ok (by decide +kernel)) ?_
  show cw_W 2 G 198 [(0, .ref q0)] [.ref q0] ((q0, .inr (11, [.ref a0, .ref a1, .ref a2, .ref a3, .int 0, .ref a4, .ref a5, .int 0, .ref a6, .ref a7, .ref a8, .ref a9, .ref a10, .int 0, .ref a11, .int 0, .ref a12, .ref a13, .ref a14, .ref a15, .ref a16, .ref a17, .int 0, .ref a18, .ref a19, .ref a20, .ref a21, .int 0, .int 0, .ref a22, .ref a23, .int 0, .null, .null, .int 0, .null])) :: [(a0, cw_ia G.2.2.2.2.2.2.2.2.2.2.2.2.1 4 (fun _ => 0)), (a1, cw_ia G.2.2.2.2.2.2.2.2.2.2.2.2.1 4 (fun _ => 0)), (a2, cw_ia G.2.2.2.2.2.2.2.2.2.2.2.2.1 240 (fun _ => 0)), (a3, cw_ia G.2.2.2.2.2.2.2.2.2.2.2.2.1 60 (fun _ => 0)), (a4, cw_ia G.2.2.2.2.2.2.2.2.2.2.2.2.1 216 (fun _ => 0)), (a5, cw_ia G.2.2.2.2.2.2.2.2.2.2.2.2.1 3 (fun _ => 0)), (a6, cw_ia G.2.2.2.2.2.2.2.2.2.2.2.2.1 8 (fun _ => 0)), (a7, cw_ia G.2.2.2.2.2.2.2.2.2.2.2.2.1 8 (fun _ => 0)), (a8, cw_ia G.2.2.2.2.2.2.2.2.2.2.2.2.1 8 (fun _ => 0)), (a9, cw_ia G.2.2.2.2.2.2.2.2.2.2.2.2.1 48 (fun _ => 0)), (a10, cw_ia G.2.2.2.2.2.2.2.2.2.2.2.2.1 20 (fun _ => 0)), (a11, cw_ia G.2.2.2.2.2.2.2.2.2.2.2.2.1 8 (fun _ => 0)), (a12, cw_ia G.2.2.2.2.2.2.2.2.2.2.2.2.1 32 (fun _ => 0)), (a13, cw_ia G.2.2.2.2.2.2.2.2.2.2.2.2.1 160 (fun _ => 0)), (a14, cw_ia G.2.2.2.2.2.2.2.2.2.2.2.2.1 160 (fun _ => 0)), (a15, cw_ia G.2.2.2.2.2.2.2.2.2.2.2.2.1 20 (fun _ => 0)), (a16, cw_ia G.2.2.2.2.2.2.2.2.2.2.2.2.1 8 (fun _ => 0)), (a17, cw_ia G.2.2.2.2.2.2.2.2.2.2.2.2.1 8 (fun _ => 0)), (a18, cw_ia G.2.2.2.2.2.2.2.2.2.2.2.2.1 8 (fun _ => 0)), (a19, cw_ia G.2.2.2.2.2.2.2.2.2.2.2.2.1 8 (fun _ => 0)), (a20, cw_ia G.2.2.2.2.2.2.2.2.2.2.2.2.1 8 (fun _ => 0)), (a21, cw_ia G.2.2.2.2.2.2.2.2.2.2.2.2.1 8 (fun _ => 0)), (a22, cw_ia G.2.2.2.2.2.2.2.2.2.2.2.2.1 6 (fun _ => 0)), (a23, cw_ia G.2.2.2.2.2.2.2.2.2.2.2.2.1 6 (fun _ => 0))]) 24 1059
  refine cr_bp hO 24 24 (by decide) (am_fb_ok (by decide +kernel)) ?_
  show cw_W 2 G 200 [(0, .ref q0)] [.int 24, .ref q0] ((q0, .inr (11, [.ref a0, .ref a1, .ref a2, .ref a3, .int 0, .ref a4, .ref a5, .int 0, .ref a6, .ref a7, .ref a8, .ref a9, .ref a10, .int 0, .ref a11, .int 0, .ref a12, .ref a13, .ref a14, .ref a15, .ref a16, .ref a17, .int 0, .ref a18, .ref a19, .ref a20, .ref a21, .int 0, .int 0, .ref a22, .ref a23, .int 0, .null, .null, .int 0, .null])) :: [(a0, cw_ia G.2.2.2.2.2.2.2.2.2.2.2.2.1 4 (fun _ => 0)), (a1, cw_ia G.2.2.2.2.2.2.2.2.2.2.2.2.1 4 (fun _ => 0)), (a2, cw_ia G.2.2.2.2.2.2.2.2.2.2.2.2.1 240 (fun _ => 0)), (a3, cw_ia G.2.2.2.2.2.2.2.2.2.2.2.2.1 60 (fun _ => 0)), (a4, cw_ia G.2.2.2.2.2.2.2.2.2.2.2.2.1 216 (fun _ => 0)), (a5, cw_ia G.2.2.2.2.2.2.2.2.2.2.2.2.1 3 (fun _ => 0)), (a6, cw_ia G.2.2.2.2.2.2.2.2.2.2.2.2.1 8 (fun _ => 0)), (a7, cw_ia G.2.2.2.2.2.2.2.2.2.2.2.2.1 8 (fun _ => 0)), (a8, cw_ia G.2.2.2.2.2.2.2.2.2.2.2.2.1 8 (fun _ => 0)), (a9, cw_ia G.2.2.2.2.2.2.2.2.2.2.2.2.1 48 (fun _ => 0)), (a10, cw_ia G.2.2.2.2.2.2.2.2.2.2.2.2.1 20 (fun _ => 0)), (a11, cw_ia G.2.2.2.2.2.2.2.2.2.2.2.2.1 8 (fun _ => 0)), (a12, cw_ia G.2.2.2.2.2.2.2.2.2.2.2.2.1 32 (fun _ => 0)), (a13, cw_ia G.2.2.2.2.2.2.2.2.2.2.2.2.1 160 (fun _ => 0)), (a14, cw_ia G.2.2.2.2.2.2.2.2.2.2.2.2.1 160 (fun _ => 0)), (a15, cw_ia G.2.2.2.2.2.2.2.2.2.2.2.2.1 20 (fun _ => 0)), (a16, cw_ia G.2.2.2.2.2.2.2.2.2.2.2.2.1 8 (fun _ => 0)), (a17, cw_ia G.2.2.2.2.2.2.2.2.2.2.2.2.1 8 (fun _ => 0)), (a18, cw_ia G.2.2.2.2.2.2.2.2.2.2.2.2.1 8 (fun _ => 0)), (a19, cw_ia G.2.2.2.2.2.2.2.2.2.2.2.2.1 8 (fun _ => 0)), (a20, cw_ia G.2.2.2.2.2.2.2.2.2.2.2.2.1 8 (fun _ => 0)), (a21, cw_ia G.2.2.2.2.2.2.2.2.2.2.2.2.1 8 (fun _ => 0)), (a22, cw_ia G.2.2.2.2.2.2.2.2.2.2.2.2.1 6 (fun _ => 0)), (a23, cw_ia G.2.2.2.2.2.2.2.2.2.2.2.2.1 6 (fun _ => 0))]) 24 1059
  refine cr_na hO 24 (by decide) (by decide) (by decide) (by rw [hR]; decide) (by rw [hR]; decide) (am_fb_ok (by decide +kernel)) (fun a24 => ?_)
  show cw_W 2 G 202 [(0, .ref q0)] [.ref a24, .ref q0] ((q0, .inr (11, [.ref a0, .ref a1, .ref a2, .ref a3, .int 0, .ref a4, .ref a5, .int 0, .ref a6, .ref a7, .ref a8, .ref a9, .ref a10, .int 0, .ref a11, .int 0, .ref a12, .ref a13, .ref a14, .ref a15, .ref a16, .ref a17, .int 0, .ref a18, .ref a19, .ref a20, .ref a21, .int 0, .int 0, .ref a22, .ref a23, .int 0, .null, .null, .int 0, .null])) :: [(a0, cw_ia G.2.2.2.2.2.2.2.2.2.2.2.2.1 4 (fun _ => 0)), (a1, cw_ia G.2.2.2.2.2.2.2.2.2.2.2.2.1 4 (fun _ => 0)), (a2, cw_ia G.2.2.2.2.2.2.2.2.2.2.2.2.1 240 (fun _ => 0)), (a3, cw_ia G.2.2.2.2.2.2.2.2.2.2.2.2.1 60 (fun _ => 0)), (a4, cw_ia G.2.2.2.2.2.2.2.2.2.2.2.2.1 216 (fun _ => 0)), (a5, cw_ia G.2.2.2.2.2.2.2.2.2.2.2.2.1 3 (fun _ => 0)), (a6, cw_ia G.2.2.2.2.2.2.2.2.2.2.2.2.1 8 (fun _ => 0)), (a7, cw_ia G.2.2.2.2.2.2.2.2.2.2.2.2.1 8 (fun _ => 0)), (a8, cw_ia G.2.2.2.2.2.2.2.2.2.2.2.2.1 8 (fun _ => 0)), (a9, cw_ia G.2.2.2.2.2.2.2.2.2.2.2.2.1 48 (fun _ => 0)), (a10, cw_ia G.2.2.2.2.2.2.2.2.2.2.2.2.1 20 (fun _ => 0)), (a11, cw_ia G.2.2.2.2.2.2.2.2.2.2.2.2.1 8 (fun _ => 0)), (a12, cw_ia G.2.2.2.2.2.2.2.2.2.2.2.2.1 32 (fun _ => 0)), (a13, cw_ia G.2.2.2.2.2.2.2.2.2.2.2.2.1 160 (fun _ => 0)), (a14, cw_ia G.2.2.2.2.2.2.2.2.2.2.2.2.1 160 (fun _ => 0)), (a15, cw_ia G.2.2.2.2.2.2.2.2.2.2.2.2.1 20 (fun _ => 0)), (a16, cw_ia G.2.2.2.2.2.2.2.2.2.2.2.2.1 8 (fun _ => 0)), (a17, cw_ia G.2.2.2.2.2.2.2.2.2.2.2.2.1 8 (fun _ => 0)), (a18, cw_ia G.2.2.2.2.2.2.2.2.2.2.2.2.1 8 (fun _ => 0)), (a19, cw_ia G.2.2.2.2.2.2.2.2.2.2.2.2.1 8 (fun _ => 0)), (a20, cw_ia G.2.2.2.2.2.2.2.2.2.2.2.2.1 8 (fun _ => 0)), (a21, cw_ia G.2.2.2.2.2.2.2.2.2.2.2.2.1 8 (fun _ => 0)), (a22, cw_ia G.2.2.2.2.2.2.2.2.2.2.2.2.1 6 (fun _ => 0)), (a23, cw_ia G.2.2.2.2.2.2.2.2.2.2.2.2.1 6 (fun _ => 0)), (a24, cw_ia G.2.2.2.2.2.2.2.2.2.2.2.2.1 24 (fun _ => 0))]) 25 1083
  refine cr_pf hO 82 32 918 (ty := .array .int) rfl (by decide) rfl (by decide +kernel) (by first | rfl | decide) (by first | rfl | decide) (Nat.le_of_ble_eq_true rfl) (am_fb_ok (by decide +kernel)) ?_
  show cw_W 2 G 205 [(0, .ref q0)] [] ((q0, .inr (11, [.ref a0, .ref a1, .ref a2, .ref a3, .int 0, .ref a4, .ref a5, .int 0, .ref a6, .ref a7, .ref a8, .ref a9, .ref a10, .int 0, .ref a11, .int 0, .ref a12, .ref a13, .ref a14, .ref a15, .ref a16, .ref a17, .int 0, .ref a18, .ref a19, .ref a20, .ref a21, .int 0, .int 0, .ref a22, .ref a23, .int 0, .ref a24, .null, .int 0, .null])) :: [(a0, cw_ia G.2.2.2.2.2.2.2.2.2.2.2.2.1 4 (fun _ => 0)), (a1, cw_ia G.2.2.2.2.2.2.2.2.2.2.2.2.1 4 (fun _ => 0)), (a2, cw_ia G.2.2.2.2.2.2.2.2.2.2.2.2.1 240 (fun _ => 0)), (a3, cw_ia G.2.2.2.2.2.2.2.2.2.2.2.2.1 60 (fun _ => 0)), (a4, cw_ia G.2.2.2.2.2.2.2.2.2.2.2.2.1 216 (fun _ => 0)), (a5, cw_ia G.2.2.2.2.2.2.2.2.2.2.2.2.1 3 (fun _ => 0)), (a6, cw_ia G.2.2.2.2.2.2.2.2.2.2.2.2.1 8 (fun _ => 0)), (a7, cw_ia G.2.2.2.2.2.2.2.2.2.2.2.2.1 8 (fun _ => 0)), (a8, cw_ia G.2.2.2.2.2.2.2.2.2.2.2.2.1 8 (fun _ => 0)), (a9, cw_ia G.2.2.2.2.2.2.2.2.2.2.2.2.1 48 (fun _ => 0)), (a10, cw_ia G.2.2.2.2.2.2.2.2.2.2.2.2.1 20 (fun _ => 0)), (a11, cw_ia G.2.2.2.2.2.2.2.2.2.2.2.2.1 8 (fun _ => 0)), (a12, cw_ia G.2.2.2.2.2.2.2.2.2.2.2.2.1 32 (fun _ => 0)), (a13, cw_ia G.2.2.2.2.2.2.2.2.2.2.2.2.1 160 (fun _ => 0)), (a14, cw_ia G.2.2.2.2.2.2.2.2.2.2.2.2.1 160 (fun _ => 0)), (a15, cw_ia G.2.2.2.2.2.2.2.2.2.2.2.2.1 20 (fun _ => 0)), (a16, cw_ia G.2.2.2.2.2.2.2.2.2.2.2.2.1 8 (fun _ => 0)), (a17, cw_ia G.2.2.2.2.2.2.2.2.2.2.2.2.1 8 (fun _ => 0)), (a18, cw_ia G.2.2.2.2.2.2.2.2.2.2.2.2.1 8 (fun _ => 0)), (a19, cw_ia G.2.2.2.2.2.2.2.2.2.2.2.2.1 8 (fun _ => 0)), (a20, cw_ia G.2.2.2.2.2.2.2.2.2.2.2.2.1 8 (fun _ => 0)), (a21, cw_ia G.2.2.2.2.2.2.2.2.2.2.2.2.1 8 (fun _ => 0)), (a22, cw_ia G.2.2.2.2.2.2.2.2.2.2.2.2.1 6 (fun _ => 0)), (a23, cw_ia G.2.2.2.2.2.2.2.2.2.2.2.2.1 6 (fun _ => 0)), (a24, cw_ia G.2.2.2.2.2.2.2.2.2.2.2.2.1 24 (fun _ => 0))]) 25 1083
  refine cr_al hO 0 0 rfl (am_fb_ok (by decide +kernel)) ?_
  show cw_W 2 G 206 [(0, .ref q0)] [.ref q0] ((q0, .inr (11, [.ref a0, .ref a1, .ref a2, .ref a3, .int 0, .ref a4, .ref a5, .int 0, .ref a6, .ref a7, .ref a8, .ref a9, .ref a10, .int 0, .ref a11, .int 0, .ref a12, .ref a13, .ref a14, .ref a15, .ref a16, .ref a17, .int 0, .ref a18, .ref a19, .ref a20, .ref a21, .int 0, .int 0, .ref a22, .ref a23, .int 0, .ref a24, .null, .int 0, .null])) :: [(a0, cw_ia G.2.2.2.2.2.2.2.2.2.2.2.2.1 4 (fun _ => 0)), (a1, cw_ia G.2.2.2.2.2.2.2.2.2.2.2.2.1 4 (fun _ => 0)), (a2, cw_ia G.2.2.2.2.2.2.2.2.2.2.2.2.1 240 (fun _ => 0)), (a3, cw_ia G.2.2.2.2.2.2.2.2.2.2.2.2.1 60 (fun _ => 0)), (a4, cw_ia G.2.2.2.2.2.2.2.2.2.2.2.2.1 216 (fun _ => 0)), (a5, cw_ia G.2.2.2.2.2.2.2.2.2.2.2.2.1 3 (fun _ => 0)), (a6, cw_ia G.2.2.2.2.2.2.2.2.2.2.2.2.1 8 (fun _ => 0)), (a7, cw_ia G.2.2.2.2.2.2.2.2.2.2.2.2.1 8 (fun _ => 0)), (a8, cw_ia G.2.2.2.2.2.2.2.2.2.2.2.2.1 8 (fun _ => 0)), (a9, cw_ia G.2.2.2.2.2.2.2.2.2.2.2.2.1 48 (fun _ => 0)), (a10, cw_ia G.2.2.2.2.2.2.2.2.2.2.2.2.1 20 (fun _ => 0)), (a11, cw_ia G.2.2.2.2.2.2.2.2.2.2.2.2.1 8 (fun _ => 0)), (a12, cw_ia G.2.2.2.2.2.2.2.2.2.2.2.2.1 32 (fun _ => 0)), (a13, cw_ia G.2.2.2.2.2.2.2.2.2.2.2.2.1 160 (fun _ => 0)), (a14, cw_ia G.2.2.2.2.2.2.2.2.2.2.2.2.1 160 (fun _ => 0)), (a15, cw_ia G.2.2.2.2.2.2.2.2.2.2.2.2.1 20 (fun _ => 0)), (a16, cw_ia G.2.2.2.2.2.2.2.2.2.2.2.2.1 8 (fun _ => 0)), (a17, cw_ia G.2.2.2.2.2.2.2.2.2.2.2.2.1 8 (fun _ => 0)), (a18, cw_ia G.2.2.2.2.2.2.2.2.2.2.2.2.1 8 (fun _ => 0)), (a19, cw_ia G.2.2.2.2.2.2.2.2.2.2.2.2.1 8 (fun _ => 0)), (a20, cw_ia G.2.2.2.2.2.2.2.2.2.2.2.2.1 8 (fun _ => 0)), (a21, cw_ia G.2.2.2.2.2.2.2.2.2.2.2.2.1 8 (fun _ => 0)), (a22, cw_ia G.2.2.2.2.2.2.2.2.2.2.2.2.1 6 (fun _ => 0)), (a23, cw_ia G.2.2.2.2.2.2.2.2.2.2.2.2.1 6 (fun _ => 0)), (a24, cw_ia G.2.2.2.2.2.2.2.2.2.2.2.2.1 24 (fun _ => 0))]) 25 1083
  refine cr_bp hO 100 100 (by decide) (am_fb_ok (by decide +kernel)) ?_
  show cw_W 2 G 208 [(0, .ref q0)] [.int 100, .ref q0] ((q0, .inr (11, [.ref a0, .ref a1, .ref a2, .ref a3, .int 0, .ref a4, .ref a5, .int 0, .ref a6, .ref a7, .ref a8, .ref a9, .ref a10, .int 0, .ref a11, .int 0, .ref a12, .ref a13, .ref a14, .ref a15, .ref a16, .ref a17, .int 0, .ref a18, .ref a19, .ref a20, .ref a21, .int 0, .int 0, .ref a22, .ref a23, .int 0, .ref a24, .null, .int 0, .null])) :: [(a0, cw_ia G.2.2.2.2.2.2.2.2.2.2.2.2.1 4 (fun _ => 0)), (a1, cw_ia G.2.2.2.2.2.2.2.2.2.2.2.2.1 4 (fun _ => 0)), (a2, cw_ia G.2.2.2.2.2.2.2.2.2.2.2.2.1 240 (fun _ => 0)), (a3, cw_ia G.2.2.2.2.2.2.2.2.2.2.2.2.1 60 (fun _ => 0)), (a4, cw_ia G.2.2.2.2.2.2.2.2.2.2.2.2.1 216 (fun _ => 0)), (a5, cw_ia G.2.2.2.2.2.2.2.2.2.2.2.2.1 3 (fun _ => 0)), (a6, cw_ia G.2.2.2.2.2.2.2.2.2.2.2.2.1 8 (fun _ => 0)), (a7, cw_ia G.2.2.2.2.2.2.2.2.2.2.2.2.1 8 (fun _ => 0)), (a8, cw_ia G.2.2.2.2.2.2.2.2.2.2.2.2.1 8 (fun _ => 0)), (a9, cw_ia G.2.2.2.2.2.2.2.2.2.2.2.2.1 48 (fun _ => 0)), (a10, cw_ia G.2.2.2.2.2.2.2.2.2.2.2.2.1 20 (fun _ => 0)), (a11, cw_ia G.2.2.2.2.2.2.2.2.2.2.2.2.1 8 (fun _ => 0)), (a12, cw_ia G.2.2.2.2.2.2.2.2.2.2.2.2.1 32 (fun _ => 0)), (a13, cw_ia G.2.2.2.2.2.2.2.2.2.2.2.2.1 160 (fun _ => 0)), (a14, cw_ia G.2.2.2.2.2.2.2.2.2.2.2.2.1 160 (fun _ => 0)), (a15, cw_ia G.2.2.2.2.2.2.2.2.2.2.2.2.1 20 (fun _ => 0)), (a16, cw_ia G.2.2.2.2.2.2.2.2.2.2.2.2.1 8 (fun _ => 0)), (a17, cw_ia G.2.2.2.2.2.2.2.2.2.2.2.2.1 8 (fun _ => 0)), (a18, cw_ia G.2.2.2.2.2.2.2.2.2.2.2.2.1 8 (fun _ => 0)), (a19, cw_ia G.2.2.2.2.2.2.2.2.2.2.2.2.1 8 (fun _ => 0)), (a20, cw_ia G.2.2.2.2.2.2.2.2.2.2.2.2.1 8 (fun _ => 0)), (a21, cw_ia G.2.2.2.2.2.2.2.2.2.2.2.2.1 8 (fun _ => 0)), (a22, cw_ia G.2.2.2.2.2.2.2.2.2.2.2.2.1 6 (fun _ => 0)), (a23, cw_ia G.2.2.2.2.2.2.2.2.2.2.2.2.1 6 (fun _ => 0)), (a24, cw_ia G.2.2.2.2.2.2.2.2.2.2.2.2.1 24 (fun _ => 0))]) 25 1083
  refine cr_na hO 100 (by decide) (by decide) (by decide) (by rw [hR]; decide) (by rw [hR]; decide) (am_fb_ok (by decide +kernel)) (fun a25 => ?_)
  show cw_W 2 G 210 [(0, .ref q0)] [.ref a25, .ref q0] ((q0, .inr (11, [.ref a0, .ref a1, .ref a2, .ref a3, .int 0, .ref a4, .ref a5, .int 0, .ref a6, .ref a7, .ref a8, .ref a9, .ref a10, .int 0, .ref a11, .int 0, .ref a12, .ref a13, .ref a14, .ref a15, .ref a16, .ref a17, .int 0, .ref a18, .ref a19, .ref a20, .ref a21, .int 0, .int 0, .ref a22, .ref a23, .int 0, .ref a24, .null, .int 0, .null])) :: [(a0, cw_ia G.2.2.2.2.2.2.2.2.2.2.2.2.1 4 (fun _ => 0)), (a1, cw_ia G.2.2.2.2.2.2.2.2.2.2.2.2.1 4 (fun _ => 0)), (a2, cw_ia G.2.2.2.2.2.2.2.2.2.2.2.2.1 240 (fun _ => 0)), (a3, cw_ia G.2.2.2.2.2.2.2.2.2.2.2.2.1 60 (fun _ => 0)), (a4, cw_ia G.2.2.2.2.2.2.2.2.2.2.2.2.1 216 (fun _ => 0)), (a5, cw_ia G.2.2.2.2.2.2.2.2.2.2.2.2.1 3 (fun _ => 0)), (a6, cw_ia G.2.2.2.2.2.2.2.2.2.2.2.2.1 8 (fun _ => 0)), (a7, cw_ia G.2.2.2.2.2.2.2.2.2.2.2.2.1 8 (fun _ => 0)), (a8, cw_ia G.2.2.2.2.2.2.2.2.2.2.2.2.1 8 (fun _ => 0)), (a9, cw_ia G.2.2.2.2.2.2.2.2.2.2.2.2.1 48 (fun _ => 0)), (a10, cw_ia G.2.2.2.2.2.2.2.2.2.2.2.2.1 20 (fun _ => 0)), (a11, cw_ia G.2.2.2.2.2.2.2.2.2.2.2.2.1 8 (fun _ => 0)), (a12, cw_ia G.2.2.2.2.2.2.2.2.2.2.2.2.1 32 (fun _ => 0)), (a13, cw_ia G.2.2.2.2.2.2.2.2.2.2.2.2.1 160 (fun _ => 0)), (a14, cw_ia G.2.2.2.2.2.2.2.2.2.2.2.2.1 160 (fun _ => 0)), (a15, cw_ia G.2.2.2.2.2.2.2.2.2.2.2.2.1 20 (fun _ => 0)), (a16, cw_ia G.2.2.2.2.2.2.2.2.2.2.2.2.1 8 (fun _ => 0)), (a17, cw_ia G.2.2.2.2.2.2.2.2.2.2.2.2.1 8 (fun _ => 0)), (a18, cw_ia G.2.2.2.2.2.2.2.2.2.2.2.2.1 8 (fun _ => 0)), (a19, cw_ia G.2.2.2.2.2.2.2.2.2.2.2.2.1 8 (fun _ => 0)), (a20, cw_ia G.2.2.2.2.2.2.2.2.2.2.2.2.1 8 (fun _ => 0)), (a21, cw_ia G.2.2.2.2.2.2.2.2.2.2.2.2.1 8 (fun _ => 0)), (a22, cw_ia G.2.2.2.2.2.2.2.2.2.2.2.2.1 6 (fun _ => 0)), (a23, cw_ia G.2.2.2.2.2.2.2.2.2.2.2.2.1 6 (fun _ => 0)), (a24, cw_ia G.2.2.2.2.2.2.2.2.2.2.2.2.1 24 (fun _ => 0)), (a25, cw_ia G.2.2.2.2.2.2.2.2.2.2.2.2.1 100 (fun _ => 0))]) 26 1183
  refine cr_pf hO 85 33 919 (ty := .array .int) rfl (by decide) rfl (by decide +kernel) (by first | rfl | decide) (by first | rfl | decide) (Nat.le_of_ble_eq_true rfl) (am_fb_ok (by decide +kernel)) ?_
  show cw_W 2 G 213 [(0, .ref q0)] [] ((q0, .inr (11, [.ref a0, .ref a1, .ref a2, .ref a3, .int 0, .ref a4, .ref a5, .int 0, .ref a6, .ref a7, .ref a8, .ref a9, .ref a10, .int 0, .ref a11, .int 0, .ref a12, .ref a13, .ref a14, .ref a15, .ref a16, .ref a17, .int 0, .ref a18, .ref a19, .ref a20, .ref a21, .int 0, .int 0, .ref a22, .ref a23, .int 0, .ref a24, .ref a25, .int 0, .null])) :: [(a0, cw_ia G.2.2.2.2.2.2.2.2.2.2.2.2.1 4 (fun _ => 0)), (a1, cw_ia G.2.2.2.2.2.2.2.2.2.2.2.2.1 4 (fun _ => 0)), (a2, cw_ia G.2.2.2.2.2.2.2.2.2.2.2.2.1 240 (fun _ => 0)), (a3, cw_ia G.2.2.2.2.2.2.2.2.2.2.2.2.1 60 (fun _ => 0)), (a4, cw_ia G.2.2.2.2.2.2.2.2.2.2.2.2.1 216 (fun _ => 0)), (a5, cw_ia G.2.2.2.2.2.2.2.2.2.2.2.2.1 3 (fun _ => 0)), (a6, cw_ia G.2.2.2.2.2.2.2.2.2.2.2.2.1 8 (fun _ => 0)), (a7, cw_ia G.2.2.2.2.2.2.2.2.2.2.2.2.1 8 (fun _ => 0)), (a8, cw_ia G.2.2.2.2.2.2.2.2.2.2.2.2.1 8 (fun _ => 0)), (a9, cw_ia G.2.2.2.2.2.2.2.2.2.2.2.2.1 48 (fun _ => 0)), (a10, cw_ia G.2.2.2.2.2.2.2.2.2.2.2.2.1 20 (fun _ => 0)), (a11, cw_ia G.2.2.2.2.2.2.2.2.2.2.2.2.1 8 (fun _ => 0)), (a12, cw_ia G.2.2.2.2.2.2.2.2.2.2.2.2.1 32 (fun _ => 0)), (a13, cw_ia G.2.2.2.2.2.2.2.2.2.2.2.2.1 160 (fun _ => 0)), (a14, cw_ia G.2.2.2.2.2.2.2.2.2.2.2.2.1 160 (fun _ => 0)), (a15, cw_ia G.2.2.2.2.2.2.2.2.2.2.2.2.1 20 (fun _ => 0)), (a16, cw_ia G.2.2.2.2.2.2.2.2.2.2.2.2.1 8 (fun _ => 0)), (a17, cw_ia G.2.2.2.2.2.2.2.2.2.2.2.2.1 8 (fun _ => 0)), (a18, cw_ia G.2.2.2.2.2.2.2.2.2.2.2.2.1 8 (fun _ => 0)), (a19, cw_ia G.2.2.2.2.2.2.2.2.2.2.2.2.1 8 (fun _ => 0)), (a20, cw_ia G.2.2.2.2.2.2.2.2.2.2.2.2.1 8 (fun _ => 0)), (a21, cw_ia G.2.2.2.2.2.2.2.2.2.2.2.2.1 8 (fun _ => 0)), (a22, cw_ia G.2.2.2.2.2.2.2.2.2.2.2.2.1 6 (fun _ => 0)), (a23, cw_ia G.2.2.2.2.2.2.2.2.2.2.2.2.1 6 (fun _ => 0)), (a24, cw_ia G.2.2.2.2.2.2.2.2.2.2.2.2.1 24 (fun _ => 0)), (a25, cw_ia G.2.2.2.2.2.2.2.2.2.2.2.2.1 100 (fun _ => 0))]) 26 1183
  refine cr_al hO 0 0 rfl (am_fb_ok (by decide +kernel)) ?_
  show cw_W 2 G 214 [(0, .ref q0)] [.ref q0] ((q0, .inr (11, [.ref a0, .ref a1, .ref a2, .ref a3, .int 0, .ref a4, .ref a5, .int 0, .ref a6, .ref a7, .ref a8, .ref a9, .ref a10, .int 0, .ref a11, .int 0, .ref a12, .ref a13, .ref a14, .ref a15, .ref a16, .ref a17, .int 0, .ref a18, .ref a19, .ref a20, .ref a21, .int 0, .int 0, .ref a22, .ref a23, .int 0, .ref a24, .ref a25, .int 0, .null])) :: [(a0, cw_ia G.2.2.2.2.2.2.2.2.2.2.2.2.1 4 (fun _ => 0)), (a1, cw_ia G.2.2.2.2.2.2.2.2.2.2.2.2.1 4 (fun _ => 0)), (a2, cw_ia G.2.2.2.2.2.2.2.2.2.2.2.2.1 240 (fun _ => 0)), (a3, cw_ia G.2.2.2.2.2.2.2.2.2.2.2.2.1 60 (fun _ => 0)), (a4, cw_ia G.2.2.2.2.2.2.2.2.2.2.2.2.1 216 (fun _ => 0)), (a5, cw_ia G.2.2.2.2.2.2.2.2.2.2.2.2.1 3 (fun _ => 0)), (a6, cw_ia G.2.2.2.2.2.2.2.2.2.2.2.2.1 8 (fun _ => 0)), (a7, cw_ia G.2.2.2.2.2.2.2.2.2.2.2.2.1 8 (fun _ => 0)), (a8, cw_ia G.2.2.2.2.2.2.2.2.2.2.2.2.1 8 (fun _ => 0)), (a9, cw_ia G.2.2.2.2.2.2.2.2.2.2.2.2.1 48 (fun _ => 0)), (a10, cw_ia G.2.2.2.2.2.2.2.2.2.2.2.2.1 20 (fun _ => 0)), (a11, cw_ia G.2.2.2.2.2.2.2.2.2.2.2.2.1 8 (fun _ => 0)), (a12, cw_ia G.2.2.2.2.2.2.2.2.2.2.2.2.1 32 (fun _ => 0)), (a13, cw_ia G.2.2.2.2.2.2.2.2.2.2.2.2.1 160 (fun _ => 0)), (a14, cw_ia G.2.2.2.2.2.2.2.2.2.2.2.2.1 160 (fun _ => 0)), (a15, cw_ia G.2.2.2.2.2.2.2.2.2.2.2.2.1 20 (fun _ => 0)), (a16, cw_ia G.2.2.2.2.2.2.2.2.2.2.2.2.1 8 (fun _ => 0)), (a17, cw_ia G.2.2.2.2.2.2.2.2.2.2.2.2.1 8 (fun _ => 0)), (a18, cw_ia G.2.2.2.2.2.2.2.2.2.2.2.2.1 8 (fun _ => 0)), (a19, cw_ia G.2.2.2.2.2.2.2.2.2.2.2.2.1 8 (fun _ => 0)), (a20, cw_ia G.2.2.2.2.2.2.2.2.2.2.2.2.1 8 (fun _ => 0)), (a21, cw_ia G.2.2.2.2.2.2.2.2.2.2.2.2.1 8 (fun _ => 0)), (a22, cw_ia G.2.2.2.2.2.2.2.2.2.2.2.2.1 6 (fun _ => 0)), (a23, cw_ia G.2.2.2.2.2.2.2.2.2.2.2.2.1 6 (fun _ => 0)), (a24, cw_ia G.2.2.2.2.2.2.2.2.2.2.2.2.1 24 (fun _ => 0)), (a25, cw_ia G.2.2.2.2.2.2.2.2.2.2.2.2.1 100 (fun _ => 0))]) 26 1183
  refine cr_bp hO 32 32 (by decide) (am_fb_ok (by decide +kernel)) ?_
  show cw_W 2 G 216 [(0, .ref q0)] [.int 32, .ref q0] ((q0, .inr (11, [.ref a0, .ref a1, .ref a2, .ref a3, .int 0, .ref a4, .ref a5, .int 0, .ref a6, .ref a7, .ref a8, .ref a9, .ref a10, .int 0, .ref a11, .int 0, .ref a12, .ref a13, .ref a14, .ref a15, .ref a16, .ref a17, .int 0, .ref a18, .ref a19, .ref a20, .ref a21, .int 0, .int 0, .ref a22, .ref a23, .int 0, .ref a24, .ref a25, .int 0, .null])) :: [(a0, cw_ia G.2.2.2.2.2.2.2.2.2.2.2.2.1 4 (fun _ => 0)), (a1, cw_ia G.2.2.2.2.2.2.2.2.2.2.2.2.1 4 (fun _ => 0)), (a2, cw_ia G.2.2.2.2.2.2.2.2.2.2.2.2.1 240 (fun _ => 0)), (a3, cw_ia G.2.2.2.2.2.2.2.2.2.2.2.2.1 60 (fun _ => 0)), (a4, cw_ia G.2.2.2.2.2.2.2.2.2.2.2.2.1 216 (fun _ => 0)), (a5, cw_ia G.2.2.2.2.2.2.2.2.2.2.2.2.1 3 (fun _ => 0)), (a6, cw_ia G.2.2.2.2.2.2.2.2.2.2.2.2.1 8 (fun _ => 0)), (a7, cw_ia G.2.2.2.2.2.2.2.2.2.2.2.2.1 8 (fun _ => 0)), (a8, cw_ia G.2.2.2.2.2.2.2.2.2.2.2.2.1 8 (fun _ => 0)), (a9, cw_ia G.2.2.2.2.2.2.2.2.2.2.2.2.1 48 (fun _ => 0)), (a10, cw_ia G.2.2.2.2.2.2.2.2.2.2.2.2.1 20 (fun _ => 0)), (a11, cw_ia G.2.2.2.2.2.2.2.2.2.2.2.2.1 8 (fun _ => 0)), (a12, cw_ia G.2.2.2.2.2.2.2.2.2.2.2.2.1 32 (fun _ => 0)), (a13, cw_ia G.2.2.2.2.2.2.2.2.2.2.2.2.1 160 (fun _ => 0)), (a14, cw_ia G.2.2.2.2.2.2.2.2.2.2.2.2.1 160 (fun _ => 0)), (a15, cw_ia G.2.2.2.2.2.2.2.2.2.2.2.2.1 20 (fun _ => 0)), (a16, cw_ia G.2.2.2.2.2.2.2.2.2.2.2.2.1 8 (fun _ => 0)), (a17, cw_ia G.2.2.2.2.2.2.2.2.2.2.2.2.1 8 (fun _ => 0)), (a18, cw_ia G.2.2.2.2.2.2.2.2.2.2.2.2.1 8 (fun _ => 0)), (a19, cw_ia G.2.2.2.2.2.2.2.2.2.2.2.2.1 8 (fun _ => 0)), (a20, cw_ia G.2.2.2.2.2.2.2.2.2.2.2.2.1 8 (fun _ => 0)), (a21, cw_ia G.2.2.2.2.2.2.2.2.2.2.2.2.1 8 (fun _ => 0)), (a22, cw_ia G.2.2.2.2.2.2.2.2.2.2.2.2.1 6 (fun _ => 0)), (a23, cw_ia G.2.2.2.2.2.2.2.2.2.2.2.2.1 6 (fun _ => 0)), (a24, cw_ia G.2.2.2.2.2.2.2.2.2.2.2.2.1 24 (fun _ => 0)), (a25, cw_ia G.2.2.2.2.2.2.2.2.2.2.2.2.1 100 (fun _ => 0))]) 26 1183
  refine cr_na hO 32 (by decide) (by decide) (by decide) (by rw [hR]; decide) (by rw [hR]; decide) (am_fb_ok (by decide +kernel)) (fun a26 => ?_)
  show cw_W 2 G 218 [(0, .ref q0)] [.ref a26, .ref q0] ((q0, .inr (11, [.ref a0, .ref a1, .ref a2, .ref a3, .int 0, .ref a4, .ref a5, .int 0, .ref a6, .ref a7, .ref a8, .ref a9, .ref a10, .int 0, .ref a11, .int 0, .ref a12, .ref a13, .ref a14, .ref a15, .ref a16, .ref a17, .int 0, .ref a18, .ref a19, .ref a20, .ref a21, .int 0, .int 0, .ref a22, .ref a23, .int 0, .ref a24, .ref a25, .int 0, .null])) :: [(a0, cw_ia G.2.2.2.2.2.2.2.2.2.2.2.2.1 4 (fun _ => 0)), (a1, cw_ia G.2.2.2.2.2.2.2.2.2.2.2.2.1 4 (fun _ => 0)), (a2, cw_ia G.2.2.2.2.2.2.2.2.2.2.2.2.1 240 (fun _ => 0)), (a3, cw_ia G.2.2.2.2.2.2.2.2.2.2.2.2.1 60 (fun _ => 0)), (a4, cw_ia G.2.2.2.2.2.2.2.2.2.2.2.2.1 216 (fun _ => 0)), (a5, cw_ia G.2.2.2.2.2.2.2.2.2.2.2.2.1 3 (fun _ => 0)), (a6, cw_ia G.2.2.2.2.2.2.2.2.2.2.2.2.1 8 (fun _ => 0)), (a7, cw_ia G.2.2.2.2.2.2.2.2.2.2.2.2.1 8 (fun _ => 0)), (a8, cw_ia G.2.2.2.2.2.2.2.2.2.2.2.2.1 8 (fun _ => 0)), (a9, cw_ia G.2.2.2.2.2.2.2.2.2.2.2.2.1 48 (fun _ => 0)), (a10, cw_ia G.2.2.2.2.2.2.2.2.2.2.2.2.1 20 (fun _ => 0)), (a11, cw_ia G.2.2.2.2.2.2.2.2.2.2.2.2.1 8 (fun _ => 0)), (a12, cw_ia G.2.2.2.2.2.2.2.2.2.2.2.2.1 32 (fun _ => 0)), (a13, cw_ia G.2.2.2.2.2.2.2.2.2.2.2.2.1 160 (fun _ => 0)), (a14, cw_ia G.2.2.2.2.2.2.2.2.2.2.2.2.1 160 (fun _ => 0)), (a15, cw_ia G.2.2.2.2.2.2.2.2.2.2.2.2.1 20 (fun _ => 0)), (a16, cw_ia G.2.2.2.2.2.2.2.2.2.2.2.2.1 8 (fun _ => 0)), (a17, cw_ia G.2.2.2.2.2.2.2.2.2.2.2.2.1 8 (fun _ => 0)), (a18, cw_ia G.2.2.2.2.2.2.2.2.2.2.2.2.1 8 (fun _ => 0)), (a19, cw_ia G.2.2.2.2.2.2.2.2.2.2.2.2.1 8 (fun _ => 0)), (a20, cw_ia G.2.2.2.2.2.2.2.2.2.2.2.2.1 8 (fun _ => 0)), (a21, cw_ia G.2.2.2.2.2.2.2.2.2.2.2.2.1 8 (fun _ => 0)), (a22, cw_ia G.2.2.2.2.2.2.2.2.2.2.2.2.1 6 (fun _ => 0)), (a23, cw_ia G.2.2.2.2.2.2.2.2.2.2.2.2.1 6 (fun _ => 0)), (a24, cw_ia G.2.2.2.2.2.2.2.2.2.2.2.2.1 24 (fun _ => 0)), (a25, cw_ia G.2.2.2.2.2.2.2.2.2.2.2.2.1 100 (fun _ => 0)), (a26, cw_ia G.2.2.2.2.2.2.2.2.2.2.2.2.1 32 (fun _ => 0))]) 27 1215
  refine cr_pf hO 88 35 921 (ty := .array .int) rfl (by decide) rfl (by decide +kernel) (by first | rfl | decide) (by first | rfl | decide) (Nat.le_of_ble_eq_true rfl) (am_fb_ok (by decide +kernel)) ?_
  show cw_W 2 G 221 [(0, .ref q0)] [] ((q0, .inr (11, [.ref a0, .ref a1, .ref a2, .ref a3, .int 0, .ref a4, .ref a5, .int 0, .ref a6, .ref a7, .ref a8, .ref a9, .ref a10, .int 0, .ref a11, .int 0, .ref a12, .ref a13, .ref a14, .ref a15, .ref a16, .ref a17, .int 0, .ref a18, .ref a19, .ref a20, .ref a21, .int 0, .int 0, .ref a22, .ref a23, .int 0, .ref a24, .ref a25, .int 0, .ref a26])) :: [(a0, cw_ia G.2.2.2.2.2.2.2.2.2.2.2.2.1 4 (fun _ => 0)), (a1, cw_ia G.2.2.2.2.2.2.2.2.2.2.2.2.1 4 (fun _ => 0)), (a2, cw_ia G.2.2.2.2.2.2.2.2.2.2.2.2.1 240 (fun _ => 0)), (a3, cw_ia G.2.2.2.2.2.2.2.2.2.2.2.2.1 60 (fun _ => 0)), (a4, cw_ia G.2.2.2.2.2.2.2.2.2.2.2.2.1 216 (fun _ => 0)), (a5, cw_ia G.2.2.2.2.2.2.2.2.2.2.2.2.1 3 (fun _ => 0)), (a6, cw_ia G.2.2.2.2.2.2.2.2.2.2.2.2.1 8 (fun _ => 0)), (a7, cw_ia G.2.2.2.2.2.2.2.2.2.2.2.2.1 8 (fun _ => 0)), (a8, cw_ia G.2.2.2.2.2.2.2.2.2.2.2.2.1 8 (fun _ => 0)), (a9, cw_ia G.2.2.2.2.2.2.2.2.2.2.2.2.1 48 (fun _ => 0)), (a10, cw_ia G.2.2.2.2.2.2.2.2.2.2.2.2.1 20 (fun _ => 0)), (a11, cw_ia G.2.2.2.2.2.2.2.2.2.2.2.2.1 8 (fun _ => 0)), (a12, cw_ia G.2.2.2.2.2.2.2.2.2.2.2.2.1 32 (fun _ => 0)), (a13, cw_ia G.2.2.2.2.2.2.2.2.2.2.2.2.1 160 (fun _ => 0)), (a14, cw_ia G.2.2.2.2.2.2.2.2.2.2.2.2.1 160 (fun _ => 0)), (a15, cw_ia G.2.2.2.2.2.2.2.2.2.2.2.2.1 20 (fun _ => 0)), (a16, cw_ia G.2.2.2.2.2.2.2.2.2.2.2.2.1 8 (fun _ => 0)), (a17, cw_ia G.2.2.2.2.2.2.2.2.2.2.2.2.1 8 (fun _ => 0)), (a18, cw_ia G.2.2.2.2.2.2.2.2.2.2.2.2.1 8 (fun _ => 0)), (a19, cw_ia G.2.2.2.2.2.2.2.2.2.2.2.2.1 8 (fun _ => 0)), (a20, cw_ia G.2.2.2.2.2.2.2.2.2.2.2.2.1 8 (fun _ => 0)), (a21, cw_ia G.2.2.2.2.2.2.2.2.2.2.2.2.1 8 (fun _ => 0)), (a22, cw_ia G.2.2.2.2.2.2.2.2.2.2.2.2.1 6 (fun _ => 0)), (a23, cw_ia G.2.2.2.2.2.2.2.2.2.2.2.2.1 6 (fun _ => 0)), (a24, cw_ia G.2.2.2.2.2.2.2.2.2.2.2.2.1 24 (fun _ => 0)), (a25, cw_ia G.2.2.2.2.2.2.2.2.2.2.2.2.1 100 (fun _ => 0)), (a26, cw_ia G.2.2.2.2.2.2.2.2.2.2.2.2.1 32 (fun _ => 0))]) 27 1215
  refine cr_ic hO 0 0 (by decide) (am_fb_ok (by decide +kernel)) ?_
  show cw_W 2 G 222 [(0, .ref q0)] [.int 0] ((q0, .inr (11, [.ref a0, .ref a1, .ref a2, .ref a3, .int 0, .ref a4, .ref a5, .int 0, .ref a6, .ref a7, .ref a8, .ref a9, .ref a10, .int 0, .ref a11, .int 0, .ref a12, .ref a13, .ref a14, .ref a15, .ref a16, .ref a17, .int 0, .ref a18, .ref a19, .ref a20, .ref a21, .int 0, .int 0, .ref a22, .ref a23, .int 0, .ref a24, .ref a25, .int 0, .ref a26])) :: [(a0, cw_ia G.2.2.2.2.2.2.2.2.2.2.2.2.1 4 (fun _ => 0)), (a1, cw_ia G.2.2.2.2.2.2.2.2.2.2.2.2.1 4 (fun _ => 0)), (a2, cw_ia G.2.2.2.2.2.2.2.2.2.2.2.2.1 240 (fun _ => 0)), (a3, cw_ia G.2.2.2.2.2.2.2.2.2.2.2.2.1 60 (fun _ => 0)), (a4, cw_ia G.2.2.2.2.2.2.2.2.2.2.2.2.1 216 (fun _ => 0)), (a5, cw_ia G.2.2.2.2.2.2.2.2.2.2.2.2.1 3 (fun _ => 0)), (a6, cw_ia G.2.2.2.2.2.2.2.2.2.2.2.2.1 8 (fun _ => 0)), (a7, cw_ia G.2.2.2.2.2.2.2.2.2.2.2.2.1 8 (fun _ => 0)), (a8, cw_ia G.2.2.2.2.2.2.2.2.2.2.2.2.1 8 (fun _ => 0)), (a9, cw_ia G.2.2.2.2.2.2.2.2.2.2.2.2.1 48 (fun _ => 0)), (a10, cw_ia G.2.2.2.2.2.2.2.2.2.2.2.2.1 20 (fun _ => 0)), (a11, cw_ia G.2.2.2.2.2.2.2.2.2.2.2.2.1 8 (fun _ => 0)), (a12, cw_ia G.2.2.2.2.2.2.2.2.2.2.2.2.1 32 (fun _ => 0)), (a13, cw_ia G.2.2.2.2.2.2.2.2.2.2.2.2.1 160 (fun _ => 0)), (a14, cw_ia G.2.2.2.2.2.2.2.2.2.2.2.2.1 160 (fun _ => 0)), (a15, cw_ia G.2.2.2.2.2.2.2.2.2.2.2.2.1 20 (fun _ => 0)), (a16, cw_ia G.2.2.2.2.2.2.2.2.2.2.2.2.1 8 (fun _ => 0)), (a17, cw_ia G.2.2.2.2.2.2.2.2.2.2.2.2.1 8 (fun _ => 0)), (a18, cw_ia G.2.2.2.2.2.2.2.2.2.2.2.2.1 8 (fun _ => 0)), (a19, cw_ia G.2.2.2.2.2.2.2.2.2.2.2.2.1 8 (fun _ => 0)), (a20, cw_ia G.2.2.2.2.2.2.2.2.2.2.2.2.1 8 (fun _ => 0)), (a21, cw_ia G.2.2.2.2.2.2.2.2.2.2.2.2.1 8 (fun _ => 0)), (a22, cw_ia G.2.2.2.2.2.2.2.2.2.2.2.2.1 6 (fun _ => 0)), (a23, cw_ia G.2.2.2.2.2.2.2.2.2.2.2.2.1 6 (fun _ => 0)), (a24, cw_ia G.2.2.2.2.2.2.2.2.2.2.2.2.1 24 (fun _ => 0)), (a25, cw_ia G.2.2.2.2.2.2.2.2.2.2.2.2.1 100 (fun _ => 0)), (a26, cw_ia G.2.2.2.2.2.2.2.2.2.2.2.2.1 32 (fun _ => 0))]) 27 1215
  refine cr_ist hO 1 (by decide) (am_fb_ok (by decide +kernel)) ?_
  show cw_W 2 G 223 [(1, .int (nI 0)), (0, .ref q0)] [] ((q0, .inr (11, [.ref a0, .ref a1, .ref a2, .ref a3, .int 0, .ref a4, .ref a5, .int 0, .ref a6, .ref a7, .ref a8, .ref a9, .ref a10, .int 0, .ref a11, .int 0, .ref a12, .ref a13, .ref a14, .ref a15, .ref a16, .ref a17, .int 0, .ref a18, .ref a19, .ref a20, .ref a21, .int 0, .int 0, .ref a22, .ref a23, .int 0, .ref a24, .ref a25, .int 0, .ref a26])) :: [(a0, cw_ia G.2.2.2.2.2.2.2.2.2.2.2.2.1 4 (fun _ => 0)), (a1, cw_ia G.2.2.2.2.2.2.2.2.2.2.2.2.1 4 (fun _ => 0)), (a2, cw_ia G.2.2.2.2.2.2.2.2.2.2.2.2.1 240 (fun _ => 0)), (a3, cw_ia G.2.2.2.2.2.2.2.2.2.2.2.2.1 60 (fun _ => 0)), (a4, cw_ia G.2.2.2.2.2.2.2.2.2.2.2.2.1 216 (fun _ => 0)), (a5, cw_ia G.2.2.2.2.2.2.2.2.2.2.2.2.1 3 (fun _ => 0)), (a6, cw_ia G.2.2.2.2.2.2.2.2.2.2.2.2.1 8 (fun _ => 0)), (a7, cw_ia G.2.2.2.2.2.2.2.2.2.2.2.2.1 8 (fun _ => 0)), (a8, cw_ia G.2.2.2.2.2.2.2.2.2.2.2.2.1 8 (fun _ => 0)), (a9, cw_ia G.2.2.2.2.2.2.2.2.2.2.2.2.1 48 (fun _ => 0)), (a10, cw_ia G.2.2.2.2.2.2.2.2.2.2.2.2.1 20 (fun _ => 0)), (a11, cw_ia G.2.2.2.2.2.2.2.2.2.2.2.2.1 8 (fun _ => 0)), (a12, cw_ia G.2.2.2.2.2.2.2.2.2.2.2.2.1 32 (fun _ => 0)), (a13, cw_ia G.2.2.2.2.2.2.2.2.2.2.2.2.1 160 (fun _ => 0)), (a14, cw_ia G.2.2.2.2.2.2.2.2.2.2.2.2.1 160 (fun _ => 0)), (a15, cw_ia G.2.2.2.2.2.2.2.2.2.2.2.2.1 20 (fun _ => 0)), (a16, cw_ia G.2.2.2.2.2.2.2.2.2.2.2.2.1 8 (fun _ => 0)), (a17, cw_ia G.2.2.2.2.2.2.2.2.2.2.2.2.1 8 (fun _ => 0)), (a18, cw_ia G.2.2.2.2.2.2.2.2.2.2.2.2.1 8 (fun _ => 0)), (a19, cw_ia G.2.2.2.2.2.2.2.2.2.2.2.2.1 8 (fun _ => 0)), (a20, cw_ia G.2.2.2.2.2.2.2.2.2.2.2.2.1 8 (fun _ => 0)), (a21, cw_ia G.2.2.2.2.2.2.2.2.2.2.2.2.1 8 (fun _ => 0)), (a22, cw_ia G.2.2.2.2.2.2.2.2.2.2.2.2.1 6 (fun _ => 0)), (a23, cw_ia G.2.2.2.2.2.2.2.2.2.2.2.2.1 6 (fun _ => 0)), (a24, cw_ia G.2.2.2.2.2.2.2.2.2.2.2.2.1 24 (fun _ => 0)), (a25, cw_ia G.2.2.2.2.2.2.2.2.2.2.2.2.1 100 (fun _ => 0)), (a26, cw_ia G.2.2.2.2.2.2.2.2.2.2.2.2.1 32 (fun _ => 0))]) 27 1215
  refine cr_il hO 1 0 rfl (am_fb_ok (by decide +kernel)) ?_
  refine cr_ic hO 4 (nI 4) (by decide) (am_fb_ok (by decide +kernel)) ?_
  refine cr_geF (off := 16) hO 241 (by decide) (by decide) (am_fb_ok (by decide +kernel)) ?_
  refine cr_al hO 0 1 rfl (am_fb_ok (by decide +kernel)) ?_
  refine cr_gf hO 7 0 886 rfl (by decide) rfl (am_fb_ok (by decide +kernel)) ?_
  refine cr_il hO 1 0 rfl (am_fb_ok (by decide +kernel)) ?_
  refine cr_ic hO (-1) (-1) (by decide) (am_fb_ok (by decide +kernel)) ?_
  refine cr_iast hO 1 rfl (vp_in_nI (show 0 < 4 by decide) (by decide)) (am_fb_ok (by decide +kernel)) ?_
  refine cr_inc hO 1 0 1 rfl (v := nI 1) (by decide) (by decide) (am_fb_ok (by decide +kernel)) ?_
  refine cr_goto (off := -15) hO 223 (by decide) (am_fb_ok (by decide +kernel)) ?_
  show cw_W 2 G 223 [(1, .int (nI 1)), (0, .ref q0)] [] ((q0, .inr (11, [.ref a0, .ref a1, .ref a2, .ref a3, .int 0, .ref a4, .ref a5, .int 0, .ref a6, .ref a7, .ref a8, .ref a9, .ref a10, .int 0, .ref a11, .int 0, .ref a12, .ref a13, .ref a14, .ref a15, .ref a16, .ref a17, .int 0, .ref a18, .ref a19, .ref a20, .ref a21, .int 0, .int 0, .ref a22, .ref a23, .int 0, .ref a24, .ref a25, .int 0, .ref a26])) :: [(a0, cw_ia G.2.2.2.2.2.2.2.2.2.2.2.2.1 4 (upd (fun _ => 0) (nI 0).toNatClampNeg (-1))), (a1, cw_ia G.2.2.2.2.2.2.2.2.2.2.2.2.1 4 (fun _ => 0)), (a2, cw_ia G.2.2.2.2.2.2.2.2.2.2.2.2.1 240 (fun _ => 0)), (a3, cw_ia G.2.2.2.2.2.2.2.2.2.2.2.2.1 60 (fun _ => 0)), (a4, cw_ia G.2.2.2.2.2.2.2.2.2.2.2.2.1 216 (fun _ => 0)), (a5, cw_ia G.2.2.2.2.2.2.2.2.2.2.2.2.1 3 (fun _ => 0)), (a6, cw_ia G.2.2.2.2.2.2.2.2.2.2.2.2.1 8 (fun _ => 0)), (a7, cw_ia G.2.2.2.2.2.2.2.2.2.2.2.2.1 8 (fun _ => 0)), (a8, cw_ia G.2.2.2.2.2.2.2.2.2.2.2.2.1 8 (fun _ => 0)), (a9, cw_ia G.2.2.2.2.2.2.2.2.2.2.2.2.1 48 (fun _ => 0)), (a10, cw_ia G.2.2.2.2.2.2.2.2.2.2.2.2.1 20 (fun _ => 0)), (a11, cw_ia G.2.2.2.2.2.2.2.2.2.2.2.2.1 8 (fun _ => 0)), (a12, cw_ia G.2.2.2.2.2.2.2.2.2.2.2.2.1 32 (fun _ => 0)), (a13, cw_ia G.2.2.2.2.2.2.2.2.2.2.2.2.1 160 (fun _ => 0)), (a14, cw_ia G.2.2.2.2.2.2.2.2.2.2.2.2.1 160 (fun _ => 0)), (a15, cw_ia G.2.2.2.2.2.2.2.2.2.2.2.2.1 20 (fun _ => 0)), (a16, cw_ia G.2.2.2.2.2.2.2.2.2.2.2.2.1 8 (fun _ => 0)), (a17, cw_ia G.2.2.2.2.2.2.2.2.2.2.2.2.1 8 (fun _ => 0)), (a18, cw_ia G.2.2.2.2.2.2.2.2.2.2.2.2.1 8 (fun _ => 0)), (a19, cw_ia G.2.2.2.2.2.2.2.2.2.2.2.2.1 8 (fun _ => 0)), (a20, cw_ia G.2.2.2.2.2.2.2.2.2.2.2.2.1 8 (fun _ => 0)), (a21, cw_ia G.2.2.2.2.2.2.2.2.2.2.2.2.1 8 (fun _ => 0)), (a22, cw_ia G.2.2.2.2.2.2.2.2.2.2.2.2.1 6 (fun _ => 0)), (a23, cw_ia G.2.2.2.2.2.2.2.2.2.2.2.2.1 6 (fun _ => 0)), (a24, cw_ia G.2.2.2.2.2.2.2.2.2.2.2.2.1 24 (fun _ => 0)), (a25, cw_ia G.2.2.2.2.2.2.2.2.2.2.2.2.1 100 (fun _ => 0)), (a26, cw_ia G.2.2.2.2.2.2.2.2.2.2.2.2.1 32 (fun _ => 0))]) 27 1215
  refine cr_il hO 1 0 rfl (am_fb_ok (by decide +kernel)) ?_
  refine cr_ic hO 4 (nI 4) (by decide) (am_fb_ok (by decide +kernel)) ?_
  refine cr_geF (off := 16) hO 241 (by decide) (by decide) (am_fb_ok (by decide +kernel)) ?_
  refine cr_al hO 0 1 rfl (am_fb_ok (by decide +kernel)) ?_
  refine cr_gf hO 7 0 886 rfl (by decide) rfl (am_fb_ok (by decide +kernel)) ?_
  refine cr_il hO 1 0 rfl (am_fb_ok (by decide +kernel)) ?_
  refine cr_ic hO (-1) (-1) (by decide) (am_fb_ok (by decide +kernel)) ?_
  refine cr_iast hO 1 rfl (vp_in_nI (show 1 < 4 by decide) (by decide)) (am_fb_ok (by decide +kernel)) ?_
  refine cr_inc hO 1 0 1 rfl (v := nI 2) (by decide) (by decide) (am_fb_ok (by decide +kernel)) ?_
  refine cr_goto (off := -15) hO 223 (by decide) (am_fb_ok (by decide +kernel)) ?_
  show cw_W 2 G 223 [(1, .int (nI 2)), (0, .ref q0)] [] ((q0, .inr (11, [.ref a0, .ref a1, .ref a2, .ref a3, .int 0, .ref a4, .ref a5, .int 0, .ref a6, .ref a7, .ref a8, .ref a9, .ref a10, .int 0, .ref a11, .int 0, .ref a12, .ref a13, .ref a14, .ref a15, .ref a16, .ref a17, .int 0, .ref a18, .ref a19, .ref a20, .ref a21, .int 0, .int 0, .ref a22, .ref a23, .int 0, .ref a24, .ref a25, .int 0, .ref a26])) :: [(a0, cw_ia G.2.2.2.2.2.2.2.2.2.2.2.2.1 4 (upd (upd (fun _ => 0) (nI 0).toNatClampNeg (-1)) (nI 1).toNatClampNeg (-1))), (a1, cw_ia G.2.2.2.2.2.2.2.2.2.2.2.2.1 4 (fun _ => 0)), (a2, cw_ia G.2.2.2.2.2.2.2.2.2.2.2.2.1 240 (fun _ => 0)), (a3, cw_ia G.2.2.2.2.2.2.2.2.2.2.2.2.1 60 (fun _ => 0)), (a4, cw_ia G.2.2.2.2.2.2.2.2.2.2.2.2.1 216 (fun _ => 0)), (a5, cw_ia G.2.2.2.2.2.2.2.2.2.2.2.2.1 3 (fun _ => 0)), (a6, cw_ia G.2.2.2.2.2.2.2.2.2.2.2.2.1 8 (fun _ => 0)), (a7, cw_ia G.2.2.2.2.2.2.2.2.2.2.2.2.1 8 (fun _ => 0)), (a8, cw_ia G.2.2.2.2.2.2.2.2.2.2.2.2.1 8 (fun _ => 0)), (a9, cw_ia G.2.2.2.2.2.2.2.2.2.2.2.2.1 48 (fun _ => 0)), (a10, cw_ia G.2.2.2.2.2.2.2.2.2.2.2.2.1 20 (fun _ => 0)), (a11, cw_ia G.2.2.2.2.2.2.2.2.2.2.2.2.1 8 (fun _ => 0)), (a12, cw_ia G.2.2.2.2.2.2.2.2.2.2.2.2.1 32 (fun _ => 0)), (a13, cw_ia G.2.2.2.2.2.2.2.2.2.2.2.2.1 160 (fun _ => 0)), (a14, cw_ia G.2.2.2.2.2.2.2.2.2.2.2.2.1 160 (fun _ => 0)), (a15, cw_ia G.2.2.2.2.2.2.2.2.2.2.2.2.1 20 (fun _ => 0)), (a16, cw_ia G.2.2.2.2.2.2.2.2.2.2.2.2.1 8 (fun _ => 0)), (a17, cw_ia G.2.2.2.2.2.2.2.2.2.2.2.2.1 8 (fun _ => 0)), (a18, cw_ia G.2.2.2.2.2.2.2.2.2.2.2.2.1 8 (fun _ => 0)), (a19, cw_ia G.2.2.2.2.2.2.2.2.2.2.2.2.1 8 (fun _ => 0)), (a20, cw_ia G.2.2.2.2.2.2.2.2.2.2.2.2.1 8 (fun _ => 0)), (a21, cw_ia G.2.2.2.2.2.2.2.2.2.2.2.2.1 8 (fun _ => 0)), (a22, cw_ia G.2.2.2.2.2.2.2.2.2.2.2.2.1 6 (fun _ => 0)), (a23, cw_ia G.2.2.2.2.2.2.2.2.2.2.2.2.1 6 (fun _ => 0)), (a24, cw_ia G.2.2.2.2.2.2.2.2.2.2.2.2.1 24 (fun _ => 0)), (a25, cw_ia G.2.2.2.2.2.2.2.2.2.2.2.2.1 100 (fun _ => 0)), (a26, cw_ia G.2.2.2.2.2.2.2.2.2.2.2.2.1 32 (fun _ => 0))]) 27 1215
  refine cr_il hO 1 0 rfl (am_fb_ok (by decide +kernel)) ?_
  refine cr_ic hO 4 (nI 4) (by decide) (am_fb_ok (by decide +kernel)) ?_
  refine cr_geF (off := 16) hO 241 (by decide) (by decide) (am_fb_ok (by decide +kernel)) ?_
  refine cr_al hO 0 1 rfl (am_fb_ok (by decide +kernel)) ?_
  refine cr_gf hO 7 0 886 rfl (by decide) rfl (am_fb_ok (by decide +kernel)) ?_
  refine cr_il hO 1 0 rfl (am_fb_ok (by decide +kernel)) ?_
  refine cr_ic hO (-1) (-1) (by decide) (am_fb_ok (by decide +kernel)) ?_
  refine cr_iast hO 1 rfl (vp_in_nI (show 2 < 4 by decide) (by decide)) (am_fb_ok (by decide +kernel)) ?_
  refine cr_inc hO 1 0 1 rfl (v := nI 3) (by decide) (by decide) (am_fb_ok (by decide +kernel)) ?_
  refine cr_goto (off := -15) hO 223 (by decide) (am_fb_ok (by decide +kernel)) ?_
  show cw_W 2 G 223 [(1, .int (nI 3)), (0, .ref q0)] [] ((q0, .inr (11, [.ref a0, .ref a1, .ref a2, .ref a3, .int 0, .ref a4, .ref a5, .int 0, .ref a6, .ref a7, .ref a8, .ref a9, .ref a10, .int 0, .ref a11, .int 0, .ref a12, .ref a13, .ref a14, .ref a15, .ref a16, .ref a17, .int 0, .ref a18, .ref a19, .ref a20, .ref a21, .int 0, .int 0, .ref a22, .ref a23, .int 0, .ref a24, .ref a25, .int 0, .ref a26])) :: [(a0, cw_ia G.2.2.2.2.2.2.2.2.2.2.2.2.1 4 (upd (upd (upd (fun _ => 0) (nI 0).toNatClampNeg (-1)) (nI 1).toNatClampNeg (-1)) (nI 2).toNatClampNeg (-1))), (a1, cw_ia G.2.2.2.2.2.2.2.2.2.2.2.2.1 4 (fun _ => 0)), (a2, cw_ia G.2.2.2.2.2.2.2.2.2.2.2.2.1 240 (fun _ => 0)), (a3, cw_ia G.2.2.2.2.2.2.2.2.2.2.2.2.1 60 (fun _ => 0)), (a4, cw_ia G.2.2.2.2.2.2.2.2.2.2.2.2.1 216 (fun _ => 0)), (a5, cw_ia G.2.2.2.2.2.2.2.2.2.2.2.2.1 3 (fun _ => 0)), (a6, cw_ia G.2.2.2.2.2.2.2.2.2.2.2.2.1 8 (fun _ => 0)), (a7, cw_ia G.2.2.2.2.2.2.2.2.2.2.2.2.1 8 (fun _ => 0)), (a8, cw_ia G.2.2.2.2.2.2.2.2.2.2.2.2.1 8 (fun _ => 0)), (a9, cw_ia G.2.2.2.2.2.2.2.2.2.2.2.2.1 48 (fun _ => 0)), (a10, cw_ia G.2.2.2.2.2.2.2.2.2.2.2.2.1 20 (fun _ => 0)), (a11, cw_ia G.2.2.2.2.2.2.2.2.2.2.2.2.1 8 (fun _ => 0)), (a12, cw_ia G.2.2.2.2.2.2.2.2.2.2.2.2.1 32 (fun _ => 0)), (a13, cw_ia G.2.2.2.2.2.2.2.2.2.2.2.2.1 160 (fun _ => 0)), (a14, cw_ia G.2.2.2.2.2.2.2.2.2.2.2.2.1 160 (fun _ => 0)), (a15, cw_ia G.2.2.2.2.2.2.2.2.2.2.2.2.1 20 (fun _ => 0)), (a16, cw_ia G.2.2.2.2.2.2.2.2.2.2.2.2.1 8 (fun _ => 0)), (a17, cw_ia G.2.2.2.2.2.2.2.2.2.2.2.2.1 8 (fun _ => 0)), (a18, cw_ia G.2.2.2.2.2.2.2.2.2.2.2.2.1 8 (fun _ => 0)), (a19, cw_ia G.2.2.2.2.2.2.2.2.2.2.2.2.1 8 (fun _ => 0)), (a20, cw_ia G.2.2.2.2.2.2.2.2.2.2.2.2.1 8 (fun _ => 0)), (a21, cw_ia G.2.2.2.2.2.2.2.2.2.2.2.2.1 8 (fun _ => 0)), (a22, cw_ia G.2.2.2.2.2.2.2.2.2.2.2.2.1 6 (fun _ => 0)), (a23, cw_ia G.2.2.2.2.2.2.2.2.2.2.2.2.1 6 (fun _ => 0)), (a24, cw_ia G.2.2.2.2.2.2.2.2.2.2.2.2.1 24 (fun _ => 0)), (a25, cw_ia G.2.2.2.2.2.2.2.2.2.2.2.2.1 100 (fun _ => 0)), (a26, cw_ia G.2.2.2.2.2.2.2.2.2.2.2.2.1 32 (fun _ => 0))]) 27 1215
  refine cr_il hO 1 0 rfl (am_fb_ok (by decide +kernel)) ?_
  refine cr_ic hO 4 (nI 4) (by decide) (am_fb_ok (by decide +kernel)) ?_
  refine cr_geF (off := 16) hO 241 (by decide) (by decide) (am_fb_ok (by decide +kernel)) ?_
  refine cr_al hO 0 1 rfl (am_fb_ok (by decide +kernel)) ?_
  refine cr_gf hO 7 0 886 rfl (by decide) rfl (am_fb_ok (by decide +kernel)) ?_
  refine cr_il hO 1 0 rfl (am_fb_ok (by decide +kernel)) ?_
  refine cr_ic hO (-1) (-1) (by decide) (am_fb_ok (by decide +kernel)) ?_
  refine cr_iast hO 1 rfl (vp_in_nI (show 3 < 4 by decide) (by decide)) (am_fb_ok (by decide +kernel)) ?_
  refine cr_inc hO 1 0 1 rfl (v := nI 4) (by decide) (by decide) (am_fb_ok (by decide +kernel)) ?_
  refine cr_goto (off := -15) hO 223 (by decide) (am_fb_ok (by decide +kernel)) ?_
  show cw_W 2 G 223 [(1, .int (nI 4)), (0, .ref q0)] [] ((q0, .inr (11, [.ref a0, .ref a1, .ref a2, .ref a3, .int 0, .ref a4, .ref a5, .int 0, .ref a6, .ref a7, .ref a8, .ref a9, .ref a10, .int 0, .ref a11, .int 0, .ref a12, .ref a13, .ref a14, .ref a15, .ref a16, .ref a17, .int 0, .ref a18, .ref a19, .ref a20, .ref a21, .int 0, .int 0, .ref a22, .ref a23, .int 0, .ref a24, .ref a25, .int 0, .ref a26])) :: [(a0, cw_ia G.2.2.2.2.2.2.2.2.2.2.2.2.1 4 (upd (upd (upd (upd (fun _ => 0) (nI 0).toNatClampNeg (-1)) (nI 1).toNatClampNeg (-1)) (nI 2).toNatClampNeg (-1)) (nI 3).toNatClampNeg (-1))), (a1, cw_ia G.2.2.2.2.2.2.2.2.2.2.2.2.1 4 (fun _ => 0)), (a2, cw_ia G.2.2.2.2.2.2.2.2.2.2.2.2.1 240 (fun _ => 0)), (a3, cw_ia G.2.2.2.2.2.2.2.2.2.2.2.2.1 60 (fun _ => 0)), (a4, cw_ia G.2.2.2.2.2.2.2.2.2.2.2.2.1 216 (fun _ => 0)), (a5, cw_ia G.2.2.2.2.2.2.2.2.2.2.2.2.1 3 (fun _ => 0)), (a6, cw_ia G.2.2.2.2.2.2.2.2.2.2.2.2.1 8 (fun _ => 0)), (a7, cw_ia G.2.2.2.2.2.2.2.2.2.2.2.2.1 8 (fun _ => 0)), (a8, cw_ia G.2.2.2.2.2.2.2.2.2.2.2.2.1 8 (fun _ => 0)), (a9, cw_ia G.2.2.2.2.2.2.2.2.2.2.2.2.1 48 (fun _ => 0)), (a10, cw_ia G.2.2.2.2.2.2.2.2.2.2.2.2.1 20 (fun _ => 0)), (a11, cw_ia G.2.2.2.2.2.2.2.2.2.2.2.2.1 8 (fun _ => 0)), (a12, cw_ia G.2.2.2.2.2.2.2.2.2.2.2.2.1 32 (fun _ => 0)), (a13, cw_ia G.2.2.2.2.2.2.2.2.2.2.2.2.1 160 (fun _ => 0)), (a14, cw_ia G.2.2.2.2.2.2.2.2.2.2.2.2.1 160 (fun _ => 0)), (a15, cw_ia G.2.2.2.2.2.2.2.2.2.2.2.2.1 20 (fun _ => 0)), (a16, cw_ia G.2.2.2.2.2.2.2.2.2.2.2.2.1 8 (fun _ => 0)), (a17, cw_ia G.2.2.2.2.2.2.2.2.2.2.2.2.1 8 (fun _ => 0)), (a18, cw_ia G.2.2.2.2.2.2.2.2.2.2.2.2.1 8 (fun _ => 0)), (a19, cw_ia G.2.2.2.2.2.2.2.2.2.2.2.2.1 8 (fun _ => 0)), (a20, cw_ia G.2.2.2.2.2.2.2.2.2.2.2.2.1 8 (fun _ => 0)), (a21, cw_ia G.2.2.2.2.2.2.2.2.2.2.2.2.1 8 (fun _ => 0)), (a22, cw_ia G.2.2.2.2.2.2.2.2.2.2.2.2.1 6 (fun _ => 0)), (a23, cw_ia G.2.2.2.2.2.2.2.2.2.2.2.2.1 6 (fun _ => 0)), (a24, cw_ia G.2.2.2.2.2.2.2.2.2.2.2.2.1 24 (fun _ => 0)), (a25, cw_ia G.2.2.2.2.2.2.2.2.2.2.2.2.1 100 (fun _ => 0)), (a26, cw_ia G.2.2.2.2.2.2.2.2.2.2.2.2.1 32 (fun _ => 0))]) 27 1215
  refine cr_il hO 1 0 rfl (am_fb_ok (by decide +kernel)) ?_
  refine cr_ic hO 4 (nI 4) (by decide) (am_fb_ok (by decide +kernel)) ?_
  refine cr_geT (off := 16) hO 241 (by decide) (by decide) (am_fb_ok (by decide +kernel)) ?_
  show cw_W 2 G 241 [(1, .int (nI 4)), (0, .ref q0)] [] ((q0, .inr (11, [.ref a0, .ref a1, .ref a2, .ref a3, .int 0, .ref a4, .ref a5, .int 0, .ref a6, .ref a7, .ref a8, .ref a9, .ref a10, .int 0, .ref a11, .int 0, .ref a12, .ref a13, .ref a14, .ref a15, .ref a16, .ref a17, .int 0, .ref a18, .ref a19, .ref a20, .ref a21, .int 0, .int 0, .ref a22, .ref a23, .int 0, .ref a24, .ref a25, .int 0, .ref a26])) :: [(a0, cw_ia G.2.2.2.2.2.2.2.2.2.2.2.2.1 4 (upd (upd (upd (upd (fun _ => 0) (nI 0).toNatClampNeg (-1)) (nI 1).toNatClampNeg (-1)) (nI 2).toNatClampNeg (-1)) (nI 3).toNatClampNeg (-1))), (a1, cw_ia G.2.2.2.2.2.2.2.2.2.2.2.2.1 4 (fun _ => 0)), (a2, cw_ia G.2.2.2.2.2.2.2.2.2.2.2.2.1 240 (fun _ => 0)), (a3, cw_ia G.2.2.2.2.2.2.2.2.2.2.2.2.1 60 (fun _ => 0)), (a4, cw_ia G.2.2.2.2.2.2.2.2.2.2.2.2.1 216 (fun _ => 0)), (a5, cw_ia G.2.2.2.2.2.2.2.2.2.2.2.2.1 3 (fun _ => 0)), (a6, cw_ia G.2.2.2.2.2.2.2.2.2.2.2.2.1 8 (fun _ => 0)), (a7, cw_ia G.2.2.2.2.2.2.2.2.2.2.2.2.1 8 (fun _ => 0)), (a8, cw_ia G.2.2.2.2.2.2.2.2.2.2.2.2.1 8 (fun _ => 0)), (a9, cw_ia G.2.2.2.2.2.2.2.2.2.2.2.2.1 48 (fun _ => 0)), (a10, cw_ia G.2.2.2.2.2.2.2.2.2.2.2.2.1 20 (fun _ => 0)), (a11, cw_ia G.2.2.2.2.2.2.2.2.2.2.2.2.1 8 (fun _ => 0)), (a12, cw_ia G.2.2.2.2.2.2.2.2.2.2.2.2.1 32 (fun _ => 0)), (a13, cw_ia G.2.2.2.2.2.2.2.2.2.2.2.2.1 160 (fun _ => 0)), (a14, cw_ia G.2.2.2.2.2.2.2.2.2.2.2.2.1 160 (fun _ => 0)), (a15, cw_ia G.2.2.2.2.2.2.2.2.2.2.2.2.1 20 (fun _ => 0)), (a16, cw_ia G.2.2.2.2.2.2.2.2.2.2.2.2.1 8 (fun _ => 0)), (a17, cw_ia G.2.2.2.2.2.2.2.2.2.2.2.2.1 8 (fun _ => 0)), (a18, cw_ia G.2.2.2.2.2.2.2.2.2.2.2.2.1 8 (fun _ => 0)), (a19, cw_ia G.2.2.2.2.2.2.2.2.2.2.2.2.1 8 (fun _ => 0)), (a20, cw_ia G.2.2.2.2.2.2.2.2.2.2.2.2.1 8 (fun _ => 0)), (a21, cw_ia G.2.2.2.2.2.2.2.2.2.2.2.2.1 8 (fun _ => 0)), (a22, cw_ia G.2.2.2.2.2.2.2.2.2.2.2.2.1 6 (fun _ => 0)), (a23, cw_ia G.2.2.2.2.2.2.2.2.2.2.2.2.1 6 (fun _ => 0)), (a24, cw_ia G.2.2.2.2.2.2.2.2.2.2.2.2.1 24 (fun _ => 0)), (a25, cw_ia G.2.2.2.2.2.2.2.2.2.2.2.2.1 100 (fun _ => 0)), (a26, cw_ia G.2.2.2.2.2.2.2.2.2.2.2.2.1 32 (fun _ => 0))]) 27 1215
  exact hret 241 _ _ (am_fb_ok (by decide +kernel)) ⟨a0, a1, a2, a3, a4, a5, a6, a7, a8, a9, a10, a11, a12, a13, a14, a15, a16, a17, a18, a19, a20, a21, a22, a23, a24, a25, a26, rfl⟩
end
section
/-! a world out of its shape, cell by cell -/
def am_mi (ad : Nat → Nat) (f : Nat → Int32) : Nat → List (Option Nat) → List Value
  | _, [] => []
  | j, o :: t => am_sv ad f j o :: am_mi ad f (j + 1) t
theorem am_mi_eq (ad : Nat → Nat) (f : Nat → Int32) : ∀ (sl : List (Option Nat)) (k : Nat), sl.mapIdx (fun i o => am_sv ad f (k + i) o) = am_mi ad f k sl
  | [], k => rfl
  | o :: t, k => by
    rw [List.mapIdx_cons]
    have h := am_mi_eq ad f t (k + 1)
    have e : (fun i o => am_sv ad f (k + (i + 1)) o) = (fun i o => am_sv ad f (k + 1 + i) o) := by
      funext i o
      rw [show k + (i + 1) = k + 1 + i by omega]
    show am_sv ad f (k + 0) o :: List.mapIdx (fun i o => am_sv ad f (k + (i + 1)) o) t = _
    rw [e, h]
    rfl
def am_ce2 (ad : Nat → Nat) (cs : Nat → ClassId) (f : Nat → Int32) : am_SC → va_E
  | .inl n => .inl (cs 0, n, .inl f)
  | .inr (.inl (t, rs)) => .inl (cs t, rs.length, .inr (.inr (.inr (.inr (fun j => (rs[j]?).map ad)))))
  | .inr (.inr (ci, sl)) => .inr (ci, am_mi ad f 0 sl)
theorem am_ce2_eq (ad : Nat → Nat) (cs : Nat → ClassId) (f : Nat → Int32) (sc : am_SC) : am_ce ad cs f sc = am_ce2 ad cs f sc := by
  rcases sc with n | ⟨t, rs⟩ | ⟨ci, sl⟩
  · rfl
  · rfl
  · have := am_mi_eq ad f sl 0
    simp only [Nat.zero_add] at this
    show Sum.inr (ci, sl.mapIdx (am_sv ad f)) = Sum.inr (ci, am_mi ad f 0 sl)
    rw [← this]
def am_wf (ad : Nat → Nat) (cs : Nat → ClassId) (μ : am_M) : Nat → List am_SC → va_W
  | _, [] => []
  | k, sc :: t => (ad k, am_ce2 ad cs (μ k) sc) :: am_wf ad cs μ (k + 1) t
theorem am_wf_eq0 (ad : Nat → Nat) (cs : Nat → ClassId) (μ : am_M) : ∀ (sh : List am_SC) (k : Nat), sh.mapIdx (fun i sc => (ad (k + i), am_ce ad cs (μ (k + i)) sc)) = am_wf ad cs μ k sh
  | [], k => rfl
  | o :: t, k => by
    rw [List.mapIdx_cons]
    have h := am_wf_eq0 ad cs μ t (k + 1)
    have e : (fun i sc => (ad (k + (i + 1)), am_ce ad cs (μ (k + (i + 1))) sc)) = (fun i sc => (ad (k + 1 + i), am_ce ad cs (μ (k + 1 + i)) sc)) := by
      funext i sc
      rw [show k + (i + 1) = k + 1 + i by omega]
    show (ad (k + 0), am_ce ad cs (μ (k + 0)) o) :: List.mapIdx (fun i sc => (ad (k + (i + 1)), am_ce ad cs (μ (k + (i + 1))) sc)) t = _
    rw [e, h, am_ce2_eq]
    rfl
theorem am_wf_eq (Sh : List am_SC) (ad : Nat → Nat) (cs : Nat → ClassId) (μ : am_M) : am_wl Sh ad cs μ = am_wf ad cs μ 0 Sh := by
  have := am_wf_eq0 ad cs μ Sh 0
  simp only [Nat.zero_add] at this
  exact this
end
section
/-! THE MEMORIES BEHIND THE CONSTRUCTORS, by program (mkinit.py) -/
def mX0 : am_M := fun k => if k = 0 then (upd (fun _ => 0) 16 1) else if k = 1 then (upd (upd (fun _ => 0) 1 71) 3 (-1)) else if k = 3 then (upd (upd (fun _ => 0) 1 20) 3 (-1)) else if k = 5 then (upd (upd (fun _ => 0) 1 8) 3 (-1)) else if k = 81 then (upd (fun _ => 0) 3 1) else if k = 94 then (upd (fun _ => 0) 0 1) else if k = 96 then (upd (fun _ => 0) 0 1) else if k = 98 then (upd (fun _ => 0) 0 1) else if k = 100 then (upd (fun _ => 0) 0 1) else fun _ => 0
def mM0 : am_M := fun k => if k = 1 then (upd (upd (upd (upd (fun _ => 0) 0 (-1)) 1 (-1)) 2 (-1)) 3 (-1)) else fun _ => 0
theorem cw_up4 (ad : Nat → Nat) (r0 r1 r2 r3 : Nat) : (va_up (va_up (va_up (va_up (fun _ => none) 0 (some (ad r0))) 1 (some (ad r1))) 2 (some (ad r2))) 3 (some (ad r3))) = fun j => (([r0, r1, r2, r3] : List Nat)[j]?).map ad := by
  funext j
  match j with
  | 0 => rfl
  | 1 => rfl
  | 2 => rfl
  | 3 => rfl
  | n + 4 =>
    unfold va_up
    rw [if_neg (by omega)]
    rw [if_neg (by omega)]
    rw [if_neg (by omega)]
    rw [if_neg (by omega)]
    simp
theorem cw_up8 (ad : Nat → Nat) (r0 r1 r2 r3 r4 r5 r6 r7 : Nat) : (va_up (va_up (va_up (va_up (va_up (va_up (va_up (va_up (fun _ => none) 0 (some (ad r0))) 1 (some (ad r1))) 2 (some (ad r2))) 3 (some (ad r3))) 4 (some (ad r4))) 5 (some (ad r5))) 6 (some (ad r6))) 7 (some (ad r7))) = fun j => (([r0, r1, r2, r3, r4, r5, r6, r7] : List Nat)[j]?).map ad := by
  funext j
  match j with
  | 0 => rfl
  | 1 => rfl
  | 2 => rfl
  | 3 => rfl
  | 4 => rfl
  | 5 => rfl
  | 6 => rfl
  | 7 => rfl
  | n + 8 =>
    unfold va_up
    rw [if_neg (by omega)]
    rw [if_neg (by omega)]
    rw [if_neg (by omega)]
    rw [if_neg (by omega)]
    rw [if_neg (by omega)]
    rw [if_neg (by omega)]
    rw [if_neg (by omega)]
    rw [if_neg (by omega)]
    simp
set_option maxHeartbeats 8000000 in
set_option maxRecDepth 100000 in
theorem in_X11 {cs : Nat → ClassId} {q0 : Nat} {ws : va_W} (h : ps_X11_init cs q0 ws) : ∃ ad : Nat → Nat, ad 0 = q0 ∧ ws = am_wl ShM ad cs mM0 := by
  obtain ⟨z_0, z_1, z_2, z_3, z_4, z_5, z_6, z_7, z_8, z_9, z_10, z_11, z_12, z_13, z_14, z_15, z_16, z_17, z_18, z_19, z_20, z_21, z_22, z_23, z_24, z_25, z_26, rfl⟩ := h
  refine ⟨fun k => ([q0, z_0, z_1, z_2, z_3, z_4, z_5, z_6, z_7, z_8, z_9, z_10, z_11, z_12, z_13, z_14, z_15, z_16, z_17, z_18, z_19, z_20, z_21, z_22, z_23, z_24, z_25, z_26] : List Nat).getD k 0, rfl, ?_⟩
  rw [am_wf_eq]
  rfl
end
