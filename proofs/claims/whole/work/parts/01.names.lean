-- ===== PART A: goes FIRST, ahead of the names: the tables' words, and 'selects' of the private methods out of them =====
/-- a private method of a class that the tables say can be made, by its rows of tables_1 -/
def lw_okq (q : MethodName × Nat) : Prop := (q.1.cls ≠ "java/lang/invoke/MethodHandle" ∧ q.1.cls ≠ "java/lang/invoke/VarHandle") ∧ Cond.instantiable q.1.cls q.2 ∈ tables_1 ∧ Cond.privateMethod q.1 ∈ tables_1 ∧ Cond.instanceMethod q.1 ∈ tables_1
theorem lw_p0 : lw_okq (⟨"WrackDeeds", "textOf", "(I)LWrackDeeds$Text;"⟩, 17) := ⟨⟨by decide +kernel, by decide +kernel⟩, List.mem_of_getElem? (i := 18) (by decide +kernel), List.mem_of_getElem? (i := 344) (by decide +kernel), List.mem_of_getElem? (i := 345) (by decide +kernel)⟩
theorem lw_p1 : lw_okq (⟨"WrackDeeds", "freshen", "()V"⟩, 17) := ⟨⟨by decide +kernel, by decide +kernel⟩, List.mem_of_getElem? (i := 18) (by decide +kernel), List.mem_of_getElem? (i := 360) (by decide +kernel), List.mem_of_getElem? (i := 361) (by decide +kernel)⟩
theorem lw_p2 : lw_okq (⟨"WrackDeeds$Deeds", "takes", "(I)Z"⟩, 8) := ⟨⟨by decide +kernel, by decide +kernel⟩, List.mem_of_getElem? (i := 56) (by decide +kernel), List.mem_of_getElem? (i := 368) (by decide +kernel), List.mem_of_getElem? (i := 369) (by decide +kernel)⟩
theorem lw_p3 : lw_okq (⟨"WrackDeeds$Deeds", "takesFigure", "(I)Z"⟩, 8) := ⟨⟨by decide +kernel, by decide +kernel⟩, List.mem_of_getElem? (i := 56) (by decide +kernel), List.mem_of_getElem? (i := 372) (by decide +kernel), List.mem_of_getElem? (i := 373) (by decide +kernel)⟩
theorem lw_p4 : lw_okq (⟨"WrackDeeds$Deeds", "takesKind", "(I)Z"⟩, 8) := ⟨⟨by decide +kernel, by decide +kernel⟩, List.mem_of_getElem? (i := 56) (by decide +kernel), List.mem_of_getElem? (i := 376) (by decide +kernel), List.mem_of_getElem? (i := 377) (by decide +kernel)⟩
theorem lw_p5 : lw_okq (⟨"WrackDeeds$Deeds", "takesBladder", "(I)Z"⟩, 8) := ⟨⟨by decide +kernel, by decide +kernel⟩, List.mem_of_getElem? (i := 56) (by decide +kernel), List.mem_of_getElem? (i := 380) (by decide +kernel), List.mem_of_getElem? (i := 381) (by decide +kernel)⟩
theorem lw_p6 : lw_okq (⟨"WrackDeeds$Deeds", "onOf", "(I)I"⟩, 8) := ⟨⟨by decide +kernel, by decide +kernel⟩, List.mem_of_getElem? (i := 56) (by decide +kernel), List.mem_of_getElem? (i := 388) (by decide +kernel), List.mem_of_getElem? (i := 389) (by decide +kernel)⟩
theorem lw_p7 : lw_okq (⟨"WrackDeeds$Deeds", "chainOf", "(I)I"⟩, 8) := ⟨⟨by decide +kernel, by decide +kernel⟩, List.mem_of_getElem? (i := 56) (by decide +kernel), List.mem_of_getElem? (i := 396) (by decide +kernel), List.mem_of_getElem? (i := 397) (by decide +kernel)⟩
theorem lw_p8 : lw_okq (⟨"WrackDeeds$Hanging", "suffer", "(II)V"⟩, 5) := ⟨⟨by decide +kernel, by decide +kernel⟩, List.mem_of_getElem? (i := 135) (by decide +kernel), List.mem_of_getElem? (i := 420) (by decide +kernel), List.mem_of_getElem? (i := 421) (by decide +kernel)⟩
theorem lw_p9 : lw_okq (⟨"WrackDeeds", "isStrand", "(I)Z"⟩, 17) := ⟨⟨by decide +kernel, by decide +kernel⟩, List.mem_of_getElem? (i := 18) (by decide +kernel), List.mem_of_getElem? (i := 445) (by decide +kernel), List.mem_of_getElem? (i := 446) (by decide +kernel)⟩
theorem lw_p10 : lw_okq (⟨"WrackDeeds", "finding", "(I)I"⟩, 17) := ⟨⟨by decide +kernel, by decide +kernel⟩, List.mem_of_getElem? (i := 18) (by decide +kernel), List.mem_of_getElem? (i := 477) (by decide +kernel), List.mem_of_getElem? (i := 478) (by decide +kernel)⟩
theorem lw_p11 : lw_okq (⟨"WrackDeeds", "eventFrom", "(LWrackDeeds$Sheet;I)Z"⟩, 17) := ⟨⟨by decide +kernel, by decide +kernel⟩, List.mem_of_getElem? (i := 18) (by decide +kernel), List.mem_of_getElem? (i := 481) (by decide +kernel), List.mem_of_getElem? (i := 482) (by decide +kernel)⟩
theorem lw_p12 : lw_okq (⟨"WrackDeeds", "bladderIn", "(III)I"⟩, 17) := ⟨⟨by decide +kernel, by decide +kernel⟩, List.mem_of_getElem? (i := 18) (by decide +kernel), List.mem_of_getElem? (i := 494) (by decide +kernel), List.mem_of_getElem? (i := 495) (by decide +kernel)⟩
theorem lw_p13 : lw_okq (⟨"WrackDeeds", "voidBits", "(LWrackDeeds$Events;I)I"⟩, 17) := ⟨⟨by decide +kernel, by decide +kernel⟩, List.mem_of_getElem? (i := 18) (by decide +kernel), List.mem_of_getElem? (i := 514) (by decide +kernel), List.mem_of_getElem? (i := 515) (by decide +kernel)⟩
theorem lw_p14 : lw_okq (⟨"WrackDeeds$Deeds", "runFrom", "(IIII)I"⟩, 8) := ⟨⟨by decide +kernel, by decide +kernel⟩, List.mem_of_getElem? (i := 56) (by decide +kernel), List.mem_of_getElem? (i := 538) (by decide +kernel), List.mem_of_getElem? (i := 539) (by decide +kernel)⟩
theorem lw_p15 : lw_okq (⟨"WrackDeeds$Tour", "keepIfBetter", "(II)V"⟩, 7) := ⟨⟨by decide +kernel, by decide +kernel⟩, List.mem_of_getElem? (i := 185) (by decide +kernel), List.mem_of_getElem? (i := 566) (by decide +kernel), List.mem_of_getElem? (i := 567) (by decide +kernel)⟩
def lw_privs_1 : List (MethodName × Nat) := [(⟨"WrackDeeds", "textOf", "(I)LWrackDeeds$Text;"⟩, 17), (⟨"WrackDeeds", "freshen", "()V"⟩, 17), (⟨"WrackDeeds$Deeds", "takes", "(I)Z"⟩, 8), (⟨"WrackDeeds$Deeds", "takesFigure", "(I)Z"⟩, 8), (⟨"WrackDeeds$Deeds", "takesKind", "(I)Z"⟩, 8), (⟨"WrackDeeds$Deeds", "takesBladder", "(I)Z"⟩, 8), (⟨"WrackDeeds$Deeds", "onOf", "(I)I"⟩, 8), (⟨"WrackDeeds$Deeds", "chainOf", "(I)I"⟩, 8), (⟨"WrackDeeds$Hanging", "suffer", "(II)V"⟩, 5), (⟨"WrackDeeds", "isStrand", "(I)Z"⟩, 17), (⟨"WrackDeeds", "finding", "(I)I"⟩, 17), (⟨"WrackDeeds", "eventFrom", "(LWrackDeeds$Sheet;I)Z"⟩, 17), (⟨"WrackDeeds", "bladderIn", "(III)I"⟩, 17), (⟨"WrackDeeds", "voidBits", "(LWrackDeeds$Events;I)I"⟩, 17), (⟨"WrackDeeds$Deeds", "runFrom", "(IIII)I"⟩, 8), (⟨"WrackDeeds$Tour", "keepIfBetter", "(II)V"⟩, 7)]
theorem lw_r1 : ∀ q ∈ lw_privs_1, lw_okq q := List.forall_mem_cons.mpr ⟨lw_p0, List.forall_mem_cons.mpr ⟨lw_p1, List.forall_mem_cons.mpr ⟨lw_p2, List.forall_mem_cons.mpr ⟨lw_p3, List.forall_mem_cons.mpr ⟨lw_p4, List.forall_mem_cons.mpr ⟨lw_p5, List.forall_mem_cons.mpr ⟨lw_p6, List.forall_mem_cons.mpr ⟨lw_p7, List.forall_mem_cons.mpr ⟨lw_p8, List.forall_mem_cons.mpr ⟨lw_p9, List.forall_mem_cons.mpr ⟨lw_p10, List.forall_mem_cons.mpr ⟨lw_p11, List.forall_mem_cons.mpr ⟨lw_p12, List.forall_mem_cons.mpr ⟨lw_p13, List.forall_mem_cons.mpr ⟨lw_p14, List.forall_mem_cons.mpr ⟨lw_p15, fun _ h => absurd h List.not_mem_nil⟩⟩⟩⟩⟩⟩⟩⟩⟩⟩⟩⟩⟩⟩⟩⟩
theorem lw_p16 : lw_okq (⟨"WrackDeeds$Tour", "mayGetBetter", "(II)Z"⟩, 7) := ⟨⟨by decide +kernel, by decide +kernel⟩, List.mem_of_getElem? (i := 185) (by decide +kernel), List.mem_of_getElem? (i := 573) (by decide +kernel), List.mem_of_getElem? (i := 574) (by decide +kernel)⟩
theorem lw_p17 : lw_okq (⟨"WrackDeeds", "legibleHoursAt", "(II)I"⟩, 17) := ⟨⟨by decide +kernel, by decide +kernel⟩, List.mem_of_getElem? (i := 18) (by decide +kernel), List.mem_of_getElem? (i := 581) (by decide +kernel), List.mem_of_getElem? (i := 582) (by decide +kernel)⟩
theorem lw_p18 : lw_okq (⟨"WrackDeeds$Filling", "waysBehind", "(II)I"⟩, 3) := ⟨⟨by decide +kernel, by decide +kernel⟩, List.mem_of_getElem? (i := 244) (by decide +kernel), List.mem_of_getElem? (i := 612) (by decide +kernel), List.mem_of_getElem? (i := 613) (by decide +kernel)⟩
theorem lw_p19 : lw_okq (⟨"WrackDeeds$Filling", "sumBut", "(II)I"⟩, 3) := ⟨⟨by decide +kernel, by decide +kernel⟩, List.mem_of_getElem? (i := 244) (by decide +kernel), List.mem_of_getElem? (i := 616) (by decide +kernel), List.mem_of_getElem? (i := 617) (by decide +kernel)⟩
theorem lw_p20 : lw_okq (⟨"WrackDeeds$Filling", "leastBut", "(II)I"⟩, 3) := ⟨⟨by decide +kernel, by decide +kernel⟩, List.mem_of_getElem? (i := 244) (by decide +kernel), List.mem_of_getElem? (i := 628) (by decide +kernel), List.mem_of_getElem? (i := 629) (by decide +kernel)⟩
theorem lw_p21 : lw_okq (⟨"WrackDeeds", "guessHanging", "(IIII)V"⟩, 17) := ⟨⟨by decide +kernel, by decide +kernel⟩, List.mem_of_getElem? (i := 18) (by decide +kernel), List.mem_of_getElem? (i := 648) (by decide +kernel), List.mem_of_getElem? (i := 649) (by decide +kernel)⟩
theorem lw_p22 : lw_okq (⟨"WrackDeeds", "comesOut", "(I)Z"⟩, 17) := ⟨⟨by decide +kernel, by decide +kernel⟩, List.mem_of_getElem? (i := 18) (by decide +kernel), List.mem_of_getElem? (i := 654) (by decide +kernel), List.mem_of_getElem? (i := 655) (by decide +kernel)⟩
theorem lw_p23 : lw_okq (⟨"WrackDeeds", "hungBits", "(I)I"⟩, 17) := ⟨⟨by decide +kernel, by decide +kernel⟩, List.mem_of_getElem? (i := 18) (by decide +kernel), List.mem_of_getElem? (i := 662) (by decide +kernel), List.mem_of_getElem? (i := 663) (by decide +kernel)⟩
theorem lw_p24 : lw_okq (⟨"WrackDeeds", "sortBits", "(I)I"⟩, 17) := ⟨⟨by decide +kernel, by decide +kernel⟩, List.mem_of_getElem? (i := 18) (by decide +kernel), List.mem_of_getElem? (i := 666) (by decide +kernel), List.mem_of_getElem? (i := 667) (by decide +kernel)⟩
theorem lw_p25 : lw_okq (⟨"WrackDeeds$Events", "lot", "(I)I"⟩, 6) := ⟨⟨by decide +kernel, by decide +kernel⟩, List.mem_of_getElem? (i := 96) (by decide +kernel), List.mem_of_getElem? (i := 699) (by decide +kernel), List.mem_of_getElem? (i := 700) (by decide +kernel)⟩
theorem lw_p26 : lw_okq (⟨"WrackDeeds", "digestTold", "(JI)J"⟩, 17) := ⟨⟨by decide +kernel, by decide +kernel⟩, List.mem_of_getElem? (i := 18) (by decide +kernel), List.mem_of_getElem? (i := 764) (by decide +kernel), List.mem_of_getElem? (i := 765) (by decide +kernel)⟩
theorem lw_p27 : lw_okq (⟨"WrackDeeds", "digestHour", "(JII)J"⟩, 17) := ⟨⟨by decide +kernel, by decide +kernel⟩, List.mem_of_getElem? (i := 18) (by decide +kernel), List.mem_of_getElem? (i := 769) (by decide +kernel), List.mem_of_getElem? (i := 770) (by decide +kernel)⟩
theorem lw_p28 : lw_okq (⟨"WrackDeeds", "digestDeed", "(JI)J"⟩, 17) := ⟨⟨by decide +kernel, by decide +kernel⟩, List.mem_of_getElem? (i := 18) (by decide +kernel), List.mem_of_getElem? (i := 776) (by decide +kernel), List.mem_of_getElem? (i := 777) (by decide +kernel)⟩
theorem lw_p29 : lw_okq (⟨"WrackDeeds", "digestWhole", "(J)J"⟩, 17) := ⟨⟨by decide +kernel, by decide +kernel⟩, List.mem_of_getElem? (i := 18) (by decide +kernel), List.mem_of_getElem? (i := 787) (by decide +kernel), List.mem_of_getElem? (i := 788) (by decide +kernel)⟩
theorem lw_p30 : lw_okq (⟨"WrackDeedsModel", "finds", "(I)I"⟩, 36) := ⟨⟨by decide +kernel, by decide +kernel⟩, List.mem_of_getElem? (i := 798) (by decide +kernel), List.mem_of_getElem? (i := 925) (by decide +kernel), List.mem_of_getElem? (i := 926) (by decide +kernel)⟩
theorem lw_p31 : lw_okq (⟨"WrackDeedsModel", "lacks", "(III)I"⟩, 36) := ⟨⟨by decide +kernel, by decide +kernel⟩, List.mem_of_getElem? (i := 798) (by decide +kernel), List.mem_of_getElem? (i := 937) (by decide +kernel), List.mem_of_getElem? (i := 938) (by decide +kernel)⟩
def lw_privs_2 : List (MethodName × Nat) := [(⟨"WrackDeeds$Tour", "mayGetBetter", "(II)Z"⟩, 7), (⟨"WrackDeeds", "legibleHoursAt", "(II)I"⟩, 17), (⟨"WrackDeeds$Filling", "waysBehind", "(II)I"⟩, 3), (⟨"WrackDeeds$Filling", "sumBut", "(II)I"⟩, 3), (⟨"WrackDeeds$Filling", "leastBut", "(II)I"⟩, 3), (⟨"WrackDeeds", "guessHanging", "(IIII)V"⟩, 17), (⟨"WrackDeeds", "comesOut", "(I)Z"⟩, 17), (⟨"WrackDeeds", "hungBits", "(I)I"⟩, 17), (⟨"WrackDeeds", "sortBits", "(I)I"⟩, 17), (⟨"WrackDeeds$Events", "lot", "(I)I"⟩, 6), (⟨"WrackDeeds", "digestTold", "(JI)J"⟩, 17), (⟨"WrackDeeds", "digestHour", "(JII)J"⟩, 17), (⟨"WrackDeeds", "digestDeed", "(JI)J"⟩, 17), (⟨"WrackDeeds", "digestWhole", "(J)J"⟩, 17), (⟨"WrackDeedsModel", "finds", "(I)I"⟩, 36), (⟨"WrackDeedsModel", "lacks", "(III)I"⟩, 36)]
theorem lw_r2 : ∀ q ∈ lw_privs_2, lw_okq q := List.forall_mem_cons.mpr ⟨lw_p16, List.forall_mem_cons.mpr ⟨lw_p17, List.forall_mem_cons.mpr ⟨lw_p18, List.forall_mem_cons.mpr ⟨lw_p19, List.forall_mem_cons.mpr ⟨lw_p20, List.forall_mem_cons.mpr ⟨lw_p21, List.forall_mem_cons.mpr ⟨lw_p22, List.forall_mem_cons.mpr ⟨lw_p23, List.forall_mem_cons.mpr ⟨lw_p24, List.forall_mem_cons.mpr ⟨lw_p25, List.forall_mem_cons.mpr ⟨lw_p26, List.forall_mem_cons.mpr ⟨lw_p27, List.forall_mem_cons.mpr ⟨lw_p28, List.forall_mem_cons.mpr ⟨lw_p29, List.forall_mem_cons.mpr ⟨lw_p30, List.forall_mem_cons.mpr ⟨lw_p31, fun _ h => absurd h List.not_mem_nil⟩⟩⟩⟩⟩⟩⟩⟩⟩⟩⟩⟩⟩⟩⟩⟩
theorem lw_p32 : lw_okq (⟨"WrackDeedsModel", "readsText", "(I)I"⟩, 36) := ⟨⟨by decide +kernel, by decide +kernel⟩, List.mem_of_getElem? (i := 798) (by decide +kernel), List.mem_of_getElem? (i := 973) (by decide +kernel), List.mem_of_getElem? (i := 974) (by decide +kernel)⟩
theorem lw_p33 : lw_okq (⟨"WrackDeedsModel", "readsStrands", "()I"⟩, 36) := ⟨⟨by decide +kernel, by decide +kernel⟩, List.mem_of_getElem? (i := 798) (by decide +kernel), List.mem_of_getElem? (i := 977) (by decide +kernel), List.mem_of_getElem? (i := 978) (by decide +kernel)⟩
theorem lw_p34 : lw_okq (⟨"WrackDeedsModel", "readsTides", "()I"⟩, 36) := ⟨⟨by decide +kernel, by decide +kernel⟩, List.mem_of_getElem? (i := 798) (by decide +kernel), List.mem_of_getElem? (i := 985) (by decide +kernel), List.mem_of_getElem? (i := 986) (by decide +kernel)⟩
theorem lw_p35 : lw_okq (⟨"WrackDeedsModel", "fives", "()V"⟩, 36) := ⟨⟨by decide +kernel, by decide +kernel⟩, List.mem_of_getElem? (i := 798) (by decide +kernel), List.mem_of_getElem? (i := 989) (by decide +kernel), List.mem_of_getElem? (i := 990) (by decide +kernel)⟩
theorem lw_p36 : lw_okq (⟨"WrackDeedsModel", "readsRoute", "()I"⟩, 36) := ⟨⟨by decide +kernel, by decide +kernel⟩, List.mem_of_getElem? (i := 798) (by decide +kernel), List.mem_of_getElem? (i := 993) (by decide +kernel), List.mem_of_getElem? (i := 994) (by decide +kernel)⟩
theorem lw_p37 : lw_okq (⟨"WrackDeedsModel", "isStrand", "(I)Z"⟩, 36) := ⟨⟨by decide +kernel, by decide +kernel⟩, List.mem_of_getElem? (i := 798) (by decide +kernel), List.mem_of_getElem? (i := 1002) (by decide +kernel), List.mem_of_getElem? (i := 1003) (by decide +kernel)⟩
theorem lw_p38 : lw_okq (⟨"WrackDeedsModel", "strandBy", "(II)I"⟩, 36) := ⟨⟨by decide +kernel, by decide +kernel⟩, List.mem_of_getElem? (i := 798) (by decide +kernel), List.mem_of_getElem? (i := 1007) (by decide +kernel), List.mem_of_getElem? (i := 1008) (by decide +kernel)⟩
theorem lw_p39 : lw_okq (⟨"WrackDeedsModel", "routeBy", "(I)I"⟩, 36) := ⟨⟨by decide +kernel, by decide +kernel⟩, List.mem_of_getElem? (i := 798) (by decide +kernel), List.mem_of_getElem? (i := 1024) (by decide +kernel), List.mem_of_getElem? (i := 1025) (by decide +kernel)⟩
theorem lw_p40 : lw_okq (⟨"WrackDeedsModel", "puts", "(IIII)V"⟩, 36) := ⟨⟨by decide +kernel, by decide +kernel⟩, List.mem_of_getElem? (i := 798) (by decide +kernel), List.mem_of_getElem? (i := 1033) (by decide +kernel), List.mem_of_getElem? (i := 1034) (by decide +kernel)⟩
theorem lw_p41 : lw_okq (⟨"WrackDeedsModel", "find", "()V"⟩, 36) := ⟨⟨by decide +kernel, by decide +kernel⟩, List.mem_of_getElem? (i := 798) (by decide +kernel), List.mem_of_getElem? (i := 1050) (by decide +kernel), List.mem_of_getElem? (i := 1051) (by decide +kernel)⟩
theorem lw_p42 : lw_okq (⟨"WrackDeedsModel", "lives", "()V"⟩, 36) := ⟨⟨by decide +kernel, by decide +kernel⟩, List.mem_of_getElem? (i := 798) (by decide +kernel), List.mem_of_getElem? (i := 1054) (by decide +kernel), List.mem_of_getElem? (i := 1055) (by decide +kernel)⟩
theorem lw_p43 : lw_okq (⟨"WrackDeedsModel", "stateOf", "(II)I"⟩, 36) := ⟨⟨by decide +kernel, by decide +kernel⟩, List.mem_of_getElem? (i := 798) (by decide +kernel), List.mem_of_getElem? (i := 1064) (by decide +kernel), List.mem_of_getElem? (i := 1065) (by decide +kernel)⟩
theorem lw_p44 : lw_okq (⟨"WrackDeedsModel", "lies", "(III)I"⟩, 36) := ⟨⟨by decide +kernel, by decide +kernel⟩, List.mem_of_getElem? (i := 798) (by decide +kernel), List.mem_of_getElem? (i := 1068) (by decide +kernel), List.mem_of_getElem? (i := 1069) (by decide +kernel)⟩
theorem lw_p45 : lw_okq (⟨"WrackDeedsModel", "saysOf", "(III)I"⟩, 36) := ⟨⟨by decide +kernel, by decide +kernel⟩, List.mem_of_getElem? (i := 798) (by decide +kernel), List.mem_of_getElem? (i := 1077) (by decide +kernel), List.mem_of_getElem? (i := 1078) (by decide +kernel)⟩
theorem lw_p46 : lw_okq (⟨"WrackDeedsModel", "isPopped", "(III)Z"⟩, 36) := ⟨⟨by decide +kernel, by decide +kernel⟩, List.mem_of_getElem? (i := 798) (by decide +kernel), List.mem_of_getElem? (i := 1081) (by decide +kernel), List.mem_of_getElem? (i := 1082) (by decide +kernel)⟩
theorem lw_p47 : lw_okq (⟨"WrackDeedsModel", "legibleOf", "(I)I"⟩, 36) := ⟨⟨by decide +kernel, by decide +kernel⟩, List.mem_of_getElem? (i := 798) (by decide +kernel), List.mem_of_getElem? (i := 1089) (by decide +kernel), List.mem_of_getElem? (i := 1090) (by decide +kernel)⟩
def lw_privs_3 : List (MethodName × Nat) := [(⟨"WrackDeedsModel", "readsText", "(I)I"⟩, 36), (⟨"WrackDeedsModel", "readsStrands", "()I"⟩, 36), (⟨"WrackDeedsModel", "readsTides", "()I"⟩, 36), (⟨"WrackDeedsModel", "fives", "()V"⟩, 36), (⟨"WrackDeedsModel", "readsRoute", "()I"⟩, 36), (⟨"WrackDeedsModel", "isStrand", "(I)Z"⟩, 36), (⟨"WrackDeedsModel", "strandBy", "(II)I"⟩, 36), (⟨"WrackDeedsModel", "routeBy", "(I)I"⟩, 36), (⟨"WrackDeedsModel", "puts", "(IIII)V"⟩, 36), (⟨"WrackDeedsModel", "find", "()V"⟩, 36), (⟨"WrackDeedsModel", "lives", "()V"⟩, 36), (⟨"WrackDeedsModel", "stateOf", "(II)I"⟩, 36), (⟨"WrackDeedsModel", "lies", "(III)I"⟩, 36), (⟨"WrackDeedsModel", "saysOf", "(III)I"⟩, 36), (⟨"WrackDeedsModel", "isPopped", "(III)Z"⟩, 36), (⟨"WrackDeedsModel", "legibleOf", "(I)I"⟩, 36)]
theorem lw_r3 : ∀ q ∈ lw_privs_3, lw_okq q := List.forall_mem_cons.mpr ⟨lw_p32, List.forall_mem_cons.mpr ⟨lw_p33, List.forall_mem_cons.mpr ⟨lw_p34, List.forall_mem_cons.mpr ⟨lw_p35, List.forall_mem_cons.mpr ⟨lw_p36, List.forall_mem_cons.mpr ⟨lw_p37, List.forall_mem_cons.mpr ⟨lw_p38, List.forall_mem_cons.mpr ⟨lw_p39, List.forall_mem_cons.mpr ⟨lw_p40, List.forall_mem_cons.mpr ⟨lw_p41, List.forall_mem_cons.mpr ⟨lw_p42, List.forall_mem_cons.mpr ⟨lw_p43, List.forall_mem_cons.mpr ⟨lw_p44, List.forall_mem_cons.mpr ⟨lw_p45, List.forall_mem_cons.mpr ⟨lw_p46, List.forall_mem_cons.mpr ⟨lw_p47, fun _ h => absurd h List.not_mem_nil⟩⟩⟩⟩⟩⟩⟩⟩⟩⟩⟩⟩⟩⟩⟩⟩
theorem lw_p48 : lw_okq (⟨"WrackDeedsModel", "hangsOn", "(I)I"⟩, 36) := ⟨⟨by decide +kernel, by decide +kernel⟩, List.mem_of_getElem? (i := 798) (by decide +kernel), List.mem_of_getElem? (i := 1093) (by decide +kernel), List.mem_of_getElem? (i := 1094) (by decide +kernel)⟩
theorem lw_p49 : lw_okq (⟨"WrackDeedsModel", "voidsBy", "(I)I"⟩, 36) := ⟨⟨by decide +kernel, by decide +kernel⟩, List.mem_of_getElem? (i := 798) (by decide +kernel), List.mem_of_getElem? (i := 1101) (by decide +kernel), List.mem_of_getElem? (i := 1102) (by decide +kernel)⟩
theorem lw_p50 : lw_okq (⟨"WrackDeedsModel", "isVoid", "(II)Z"⟩, 36) := ⟨⟨by decide +kernel, by decide +kernel⟩, List.mem_of_getElem? (i := 798) (by decide +kernel), List.mem_of_getElem? (i := 1105) (by decide +kernel), List.mem_of_getElem? (i := 1106) (by decide +kernel)⟩
theorem lw_p51 : lw_okq (⟨"WrackDeedsModel", "forgedNow", "()I"⟩, 36) := ⟨⟨by decide +kernel, by decide +kernel⟩, List.mem_of_getElem? (i := 798) (by decide +kernel), List.mem_of_getElem? (i := 1113) (by decide +kernel), List.mem_of_getElem? (i := 1114) (by decide +kernel)⟩
theorem lw_p52 : lw_okq (⟨"WrackDeedsModel", "tangledNow", "(I)I"⟩, 36) := ⟨⟨by decide +kernel, by decide +kernel⟩, List.mem_of_getElem? (i := 798) (by decide +kernel), List.mem_of_getElem? (i := 1121) (by decide +kernel), List.mem_of_getElem? (i := 1122) (by decide +kernel)⟩
theorem lw_p53 : lw_okq (⟨"WrackDeedsModel", "run", "(II)I"⟩, 36) := ⟨⟨by decide +kernel, by decide +kernel⟩, List.mem_of_getElem? (i := 798) (by decide +kernel), List.mem_of_getElem? (i := 1125) (by decide +kernel), List.mem_of_getElem? (i := 1126) (by decide +kernel)⟩
theorem lw_p54 : lw_okq (⟨"WrackDeedsModel", "readsOf", "(I)I"⟩, 36) := ⟨⟨by decide +kernel, by decide +kernel⟩, List.mem_of_getElem? (i := 798) (by decide +kernel), List.mem_of_getElem? (i := 1136) (by decide +kernel), List.mem_of_getElem? (i := 1137) (by decide +kernel)⟩
theorem lw_p55 : lw_okq (⟨"WrackDeedsModel", "goes", "()V"⟩, 36) := ⟨⟨by decide +kernel, by decide +kernel⟩, List.mem_of_getElem? (i := 798) (by decide +kernel), List.mem_of_getElem? (i := 1140) (by decide +kernel), List.mem_of_getElem? (i := 1141) (by decide +kernel)⟩
theorem lw_p56 : lw_okq (⟨"WrackDeedsModel", "readOn", "(III)I"⟩, 36) := ⟨⟨by decide +kernel, by decide +kernel⟩, List.mem_of_getElem? (i := 798) (by decide +kernel), List.mem_of_getElem? (i := 1144) (by decide +kernel), List.mem_of_getElem? (i := 1145) (by decide +kernel)⟩
theorem lw_p57 : lw_okq (⟨"WrackDeedsModel", "findTour", "()V"⟩, 36) := ⟨⟨by decide +kernel, by decide +kernel⟩, List.mem_of_getElem? (i := 798) (by decide +kernel), List.mem_of_getElem? (i := 1152) (by decide +kernel), List.mem_of_getElem? (i := 1153) (by decide +kernel)⟩
theorem lw_p58 : lw_okq (⟨"WrackDeedsModel", "keepsTour", "(I)V"⟩, 36) := ⟨⟨by decide +kernel, by decide +kernel⟩, List.mem_of_getElem? (i := 798) (by decide +kernel), List.mem_of_getElem? (i := 1156) (by decide +kernel), List.mem_of_getElem? (i := 1157) (by decide +kernel)⟩
theorem lw_p59 : lw_okq (⟨"WrackDeedsModel", "nextHour", "(II)I"⟩, 36) := ⟨⟨by decide +kernel, by decide +kernel⟩, List.mem_of_getElem? (i := 798) (by decide +kernel), List.mem_of_getElem? (i := 1160) (by decide +kernel), List.mem_of_getElem? (i := 1161) (by decide +kernel)⟩
theorem lw_p60 : lw_okq (⟨"WrackDeedsModel", "tourBy", "(I)I"⟩, 36) := ⟨⟨by decide +kernel, by decide +kernel⟩, List.mem_of_getElem? (i := 798) (by decide +kernel), List.mem_of_getElem? (i := 1164) (by decide +kernel), List.mem_of_getElem? (i := 1165) (by decide +kernel)⟩
theorem lw_p61 : lw_okq (⟨"WrackDeedsModel", "hangOf", "(II)I"⟩, 36) := ⟨⟨by decide +kernel, by decide +kernel⟩, List.mem_of_getElem? (i := 798) (by decide +kernel), List.mem_of_getElem? (i := 1172) (by decide +kernel), List.mem_of_getElem? (i := 1173) (by decide +kernel)⟩
theorem lw_p62 : lw_okq (⟨"WrackDeedsModel", "saveOf", "(II)I"⟩, 36) := ⟨⟨by decide +kernel, by decide +kernel⟩, List.mem_of_getElem? (i := 798) (by decide +kernel), List.mem_of_getElem? (i := 1181) (by decide +kernel), List.mem_of_getElem? (i := 1182) (by decide +kernel)⟩
theorem lw_p63 : lw_okq (⟨"WrackDeedsModel", "isSafe", "(II)Z"⟩, 36) := ⟨⟨by decide +kernel, by decide +kernel⟩, List.mem_of_getElem? (i := 798) (by decide +kernel), List.mem_of_getElem? (i := 1185) (by decide +kernel), List.mem_of_getElem? (i := 1186) (by decide +kernel)⟩
def lw_privs_4 : List (MethodName × Nat) := [(⟨"WrackDeedsModel", "hangsOn", "(I)I"⟩, 36), (⟨"WrackDeedsModel", "voidsBy", "(I)I"⟩, 36), (⟨"WrackDeedsModel", "isVoid", "(II)Z"⟩, 36), (⟨"WrackDeedsModel", "forgedNow", "()I"⟩, 36), (⟨"WrackDeedsModel", "tangledNow", "(I)I"⟩, 36), (⟨"WrackDeedsModel", "run", "(II)I"⟩, 36), (⟨"WrackDeedsModel", "readsOf", "(I)I"⟩, 36), (⟨"WrackDeedsModel", "goes", "()V"⟩, 36), (⟨"WrackDeedsModel", "readOn", "(III)I"⟩, 36), (⟨"WrackDeedsModel", "findTour", "()V"⟩, 36), (⟨"WrackDeedsModel", "keepsTour", "(I)V"⟩, 36), (⟨"WrackDeedsModel", "nextHour", "(II)I"⟩, 36), (⟨"WrackDeedsModel", "tourBy", "(I)I"⟩, 36), (⟨"WrackDeedsModel", "hangOf", "(II)I"⟩, 36), (⟨"WrackDeedsModel", "saveOf", "(II)I"⟩, 36), (⟨"WrackDeedsModel", "isSafe", "(II)Z"⟩, 36)]
theorem lw_r4 : ∀ q ∈ lw_privs_4, lw_okq q := List.forall_mem_cons.mpr ⟨lw_p48, List.forall_mem_cons.mpr ⟨lw_p49, List.forall_mem_cons.mpr ⟨lw_p50, List.forall_mem_cons.mpr ⟨lw_p51, List.forall_mem_cons.mpr ⟨lw_p52, List.forall_mem_cons.mpr ⟨lw_p53, List.forall_mem_cons.mpr ⟨lw_p54, List.forall_mem_cons.mpr ⟨lw_p55, List.forall_mem_cons.mpr ⟨lw_p56, List.forall_mem_cons.mpr ⟨lw_p57, List.forall_mem_cons.mpr ⟨lw_p58, List.forall_mem_cons.mpr ⟨lw_p59, List.forall_mem_cons.mpr ⟨lw_p60, List.forall_mem_cons.mpr ⟨lw_p61, List.forall_mem_cons.mpr ⟨lw_p62, List.forall_mem_cons.mpr ⟨lw_p63, fun _ h => absurd h List.not_mem_nil⟩⟩⟩⟩⟩⟩⟩⟩⟩⟩⟩⟩⟩⟩⟩⟩
theorem lw_p64 : lw_okq (⟨"WrackDeedsModel", "fillOf", "(III)I"⟩, 36) := ⟨⟨by decide +kernel, by decide +kernel⟩, List.mem_of_getElem? (i := 798) (by decide +kernel), List.mem_of_getElem? (i := 1193) (by decide +kernel), List.mem_of_getElem? (i := 1194) (by decide +kernel)⟩
theorem lw_p65 : lw_okq (⟨"WrackDeedsModel", "mayBe", "(III)Z"⟩, 36) := ⟨⟨by decide +kernel, by decide +kernel⟩, List.mem_of_getElem? (i := 798) (by decide +kernel), List.mem_of_getElem? (i := 1197) (by decide +kernel), List.mem_of_getElem? (i := 1198) (by decide +kernel)⟩
theorem lw_p66 : lw_okq (⟨"WrackDeedsModel", "neverNow", "()I"⟩, 36) := ⟨⟨by decide +kernel, by decide +kernel⟩, List.mem_of_getElem? (i := 798) (by decide +kernel), List.mem_of_getElem? (i := 1214) (by decide +kernel), List.mem_of_getElem? (i := 1215) (by decide +kernel)⟩
theorem lw_p67 : lw_okq (⟨"WrackDeedsModel", "isSeen", "()Z"⟩, 36) := ⟨⟨by decide +kernel, by decide +kernel⟩, List.mem_of_getElem? (i := 798) (by decide +kernel), List.mem_of_getElem? (i := 1218) (by decide +kernel), List.mem_of_getElem? (i := 1219) (by decide +kernel)⟩
theorem lw_p68 : lw_okq (⟨"WrackDeedsModel", "wasOf", "(II)I"⟩, 36) := ⟨⟨by decide +kernel, by decide +kernel⟩, List.mem_of_getElem? (i := 798) (by decide +kernel), List.mem_of_getElem? (i := 1226) (by decide +kernel), List.mem_of_getElem? (i := 1227) (by decide +kernel)⟩
theorem lw_p69 : lw_okq (⟨"WrackDeedsModel", "hungOf", "(I)I"⟩, 36) := ⟨⟨by decide +kernel, by decide +kernel⟩, List.mem_of_getElem? (i := 798) (by decide +kernel), List.mem_of_getElem? (i := 1230) (by decide +kernel), List.mem_of_getElem? (i := 1231) (by decide +kernel)⟩
theorem lw_p70 : lw_okq (⟨"WrackDeedsModel", "sortOf", "(I)I"⟩, 36) := ⟨⟨by decide +kernel, by decide +kernel⟩, List.mem_of_getElem? (i := 798) (by decide +kernel), List.mem_of_getElem? (i := 1234) (by decide +kernel), List.mem_of_getElem? (i := 1235) (by decide +kernel)⟩
theorem lw_p71 : lw_okq (⟨"WrackDeedsModel", "askOf", "(I)I"⟩, 36) := ⟨⟨by decide +kernel, by decide +kernel⟩, List.mem_of_getElem? (i := 798) (by decide +kernel), List.mem_of_getElem? (i := 1242) (by decide +kernel), List.mem_of_getElem? (i := 1243) (by decide +kernel)⟩
theorem lw_p72 : lw_okq (⟨"WrackDeedsModel", "riskOf", "(IIII)J"⟩, 36) := ⟨⟨by decide +kernel, by decide +kernel⟩, List.mem_of_getElem? (i := 798) (by decide +kernel), List.mem_of_getElem? (i := 1251) (by decide +kernel), List.mem_of_getElem? (i := 1252) (by decide +kernel)⟩
theorem lw_p73 : lw_okq (⟨"WrackDeedsModel", "centuryOf", "(III)I"⟩, 36) := ⟨⟨by decide +kernel, by decide +kernel⟩, List.mem_of_getElem? (i := 798) (by decide +kernel), List.mem_of_getElem? (i := 1266) (by decide +kernel), List.mem_of_getElem? (i := 1267) (by decide +kernel)⟩
theorem lw_p74 : lw_okq (⟨"WrackDeedsModel", "lot", "(I)I"⟩, 36) := ⟨⟨by decide +kernel, by decide +kernel⟩, List.mem_of_getElem? (i := 798) (by decide +kernel), List.mem_of_getElem? (i := 1270) (by decide +kernel), List.mem_of_getElem? (i := 1271) (by decide +kernel)⟩
theorem lw_p75 : lw_okq (⟨"WrackDeedsModel", "tellsStrand", "(JI)J"⟩, 36) := ⟨⟨by decide +kernel, by decide +kernel⟩, List.mem_of_getElem? (i := 798) (by decide +kernel), List.mem_of_getElem? (i := 1296) (by decide +kernel), List.mem_of_getElem? (i := 1297) (by decide +kernel)⟩
theorem lw_p76 : lw_okq (⟨"WrackDeedsModel", "tellsHour", "(JII)J"⟩, 36) := ⟨⟨by decide +kernel, by decide +kernel⟩, List.mem_of_getElem? (i := 798) (by decide +kernel), List.mem_of_getElem? (i := 1300) (by decide +kernel), List.mem_of_getElem? (i := 1301) (by decide +kernel)⟩
def lw_privs_5 : List (MethodName × Nat) := [(⟨"WrackDeedsModel", "fillOf", "(III)I"⟩, 36), (⟨"WrackDeedsModel", "mayBe", "(III)Z"⟩, 36), (⟨"WrackDeedsModel", "neverNow", "()I"⟩, 36), (⟨"WrackDeedsModel", "isSeen", "()Z"⟩, 36), (⟨"WrackDeedsModel", "wasOf", "(II)I"⟩, 36), (⟨"WrackDeedsModel", "hungOf", "(I)I"⟩, 36), (⟨"WrackDeedsModel", "sortOf", "(I)I"⟩, 36), (⟨"WrackDeedsModel", "askOf", "(I)I"⟩, 36), (⟨"WrackDeedsModel", "riskOf", "(IIII)J"⟩, 36), (⟨"WrackDeedsModel", "centuryOf", "(III)I"⟩, 36), (⟨"WrackDeedsModel", "lot", "(I)I"⟩, 36), (⟨"WrackDeedsModel", "tellsStrand", "(JI)J"⟩, 36), (⟨"WrackDeedsModel", "tellsHour", "(JII)J"⟩, 36)]
theorem lw_r5 : ∀ q ∈ lw_privs_5, lw_okq q := List.forall_mem_cons.mpr ⟨lw_p64, List.forall_mem_cons.mpr ⟨lw_p65, List.forall_mem_cons.mpr ⟨lw_p66, List.forall_mem_cons.mpr ⟨lw_p67, List.forall_mem_cons.mpr ⟨lw_p68, List.forall_mem_cons.mpr ⟨lw_p69, List.forall_mem_cons.mpr ⟨lw_p70, List.forall_mem_cons.mpr ⟨lw_p71, List.forall_mem_cons.mpr ⟨lw_p72, List.forall_mem_cons.mpr ⟨lw_p73, List.forall_mem_cons.mpr ⟨lw_p74, List.forall_mem_cons.mpr ⟨lw_p75, List.forall_mem_cons.mpr ⟨lw_p76, fun _ h => absurd h List.not_mem_nil⟩⟩⟩⟩⟩⟩⟩⟩⟩⟩⟩⟩⟩
def lw_privs : List (MethodName × Nat) := lw_privs_1 ++ (lw_privs_2 ++ (lw_privs_3 ++ (lw_privs_4 ++ (lw_privs_5))))
def lw_tbl : List Cond := k2_sels lw_privs ++ tables_1
theorem lw_privs_ok : ∀ q ∈ lw_privs, lw_okq q := by
  show ∀ q ∈ lw_privs_1 ++ (lw_privs_2 ++ (lw_privs_3 ++ (lw_privs_4 ++ (lw_privs_5)))), lw_okq q
  exact List.forall_mem_append.mpr ⟨lw_r1, List.forall_mem_append.mpr ⟨lw_r2, List.forall_mem_append.mpr ⟨lw_r3, List.forall_mem_append.mpr ⟨lw_r4, lw_r5⟩⟩⟩⟩

/-! ===== BEGIN words of one list among another's, by their places ===== -/
theorem goodIn_r {big : List Cond} (ws : List Cond) (ps : List Nat) (hp : ws = ps.filterMap (fun i => big[i]?)) (h : ws.all goodWord = true) : GoodIn big ws := by
  intro w hw
  have h1 := List.all_eq_true.mp h w hw
  rw [hp] at hw
  obtain ⟨i, -, hi⟩ := List.mem_filterMap.mp hw
  have hm : w ∈ big := by first | exact List.mem_of_getElem? hi | exact List.getElem?_mem hi
  exact ⟨hm, good_of_word h1⟩
theorem goodIn_app {big a b : List Cond} (ha : GoodIn big a) (hb : GoodIn big b) : GoodIn big (a ++ b) := fun w h => (List.mem_append.mp h).elim (ha w) (hb w)
theorem goodIn_ca {big a b : List Cond} {c : Cond} (ha : GoodIn big (c :: a)) (hb : GoodIn big b) : GoodIn big (c :: (a ++ b)) := fun w h => (List.mem_cons.mp h).elim (fun e => ha w (List.mem_cons.mpr (Or.inl e))) (fun h => (List.mem_append.mp h).elim (fun h => ha w (List.mem_cons.mpr (Or.inr h))) (hb w))
theorem goodIn_sub {big ws : List Cond} (hm : ∀ w ∈ ws, w ∈ big) (h : ws.all goodWord = true) : GoodIn big ws := fun w hw => ⟨hm w hw, good_of_word (List.all_eq_true.mp h w hw)⟩
/-! ===== END ===== -/

def RX0 : String := "WrackDeeds$Deeds"
def TX0 : u_T := fun k => match k with
  | 0 => ("WrackDeeds$Deeds", "size", "I", false)
  | 1 => ("WrackDeeds$Deeds", "highs", "[I", true)
  | 2 => ("WrackDeeds$Deeds", "kinds", "[I", true)
  | 3 => ("WrackDeeds$Deeds", "lengths", "[I", true)
  | 4 => ("WrackDeeds$Deeds", "bladders", "[I", true)
  | 5 => ("WrackDeeds$Deeds", "ons", "[I", true)
  | 6 => ("WrackDeeds$Deeds", "chains", "[I", true)
  | _ => ("WrackDeeds$Deeds", "place", "I", false)
def tyX0 : Nat → FieldType := fun k => match k with
  | 0 => .int
  | 1 => .array .int
  | 2 => .array .int
  | 3 => .array .int
  | 4 => .array .int
  | 5 => .array .int
  | 6 => .array .int
  | _ => .int
abbrev wsX00 : List Cond := u_ws RX0 TX0 8
theorem nmX0 : ∀ a, a < 8 → ∀ b, b < 8 → a ≠ b → (TX0 a).2.1 ≠ (TX0 b).2.1 := by decide +kernel
theorem tyX0_ok : ∀ k, k < 8 → parseFieldDescriptor (TX0 k).2.2.1 = some (tyX0 k) := by decide +kernel
abbrev cX0_init : ByteArray := prog_2_method_1_code
def yX0_init : MethodName := ⟨RX0, "<init>", "()V"⟩
abbrev cX0_bladderOf : ByteArray := prog_2_method_2_code
def yX0_bladderOf : MethodName := ⟨RX0, "bladderOf", "(II)I"⟩
abbrev cX0_parse : ByteArray := prog_2_method_3_code
def yX0_parse : MethodName := ⟨RX0, "parse", "(LWrackDeeds$Text;)I"⟩
abbrev cX0_takes : ByteArray := prog_2_method_4_code
def yX0_takes : MethodName := ⟨RX0, "takes", "(I)Z"⟩
abbrev cX0_takesFigure : ByteArray := prog_2_method_5_code
def yX0_takesFigure : MethodName := ⟨RX0, "takesFigure", "(I)Z"⟩
abbrev cX0_takesKind : ByteArray := prog_2_method_6_code
def yX0_takesKind : MethodName := ⟨RX0, "takesKind", "(I)Z"⟩
abbrev cX0_takesBladder : ByteArray := prog_2_method_7_code
def yX0_takesBladder : MethodName := ⟨RX0, "takesBladder", "(I)Z"⟩
abbrev cX0_linkAll : ByteArray := prog_2_method_8_code
def yX0_linkAll : MethodName := ⟨RX0, "linkAll", "()V"⟩
abbrev cX0_onOf : ByteArray := prog_2_method_9_code
def yX0_onOf : MethodName := ⟨RX0, "onOf", "(I)I"⟩
abbrev cX0_chainOf : ByteArray := prog_2_method_10_code
def yX0_chainOf : MethodName := ⟨RX0, "chainOf", "(I)I"⟩
abbrev cX0_inTwos : ByteArray := prog_2_method_11_code
def yX0_inTwos : MethodName := ⟨RX0, "inTwos", "(I)Z"⟩
abbrev cX0_commonRun : ByteArray := prog_2_method_12_code
def yX0_commonRun : MethodName := ⟨RX0, "commonRun", "(II)I"⟩
abbrev cX0_runFrom : ByteArray := prog_2_method_13_code
def yX0_runFrom : MethodName := ⟨RX0, "runFrom", "(IIII)I"⟩
def RX1 : String := "WrackDeeds$Events"
def TX1 : u_T := fun k => match k with
  | 0 => ("WrackDeeds$Events", "size", "I", false)
  | 1 => ("WrackDeeds$Events", "kinds", "[I", true)
  | 2 => ("WrackDeeds$Events", "hours", "[I", true)
  | 3 => ("WrackDeeds$Events", "strands", "[I", true)
  | 4 => ("WrackDeeds$Events", "numbers", "[I", true)
  | _ => ("WrackDeeds$Events", "seed", "I", false)
def tyX1 : Nat → FieldType := fun k => match k with
  | 0 => .int
  | 1 => .array .int
  | 2 => .array .int
  | 3 => .array .int
  | 4 => .array .int
  | _ => .int
abbrev wsX10 : List Cond := u_ws RX1 TX1 6
theorem nmX1 : ∀ a, a < 6 → ∀ b, b < 6 → a ≠ b → (TX1 a).2.1 ≠ (TX1 b).2.1 := by decide +kernel
theorem tyX1_ok : ∀ k, k < 6 → parseFieldDescriptor (TX1 k).2.2.1 = some (tyX1 k) := by decide +kernel
abbrev cX1_init : ByteArray := prog_3_method_1_code
def yX1_init : MethodName := ⟨RX1, "<init>", "()V"⟩
abbrev cX1_tell : ByteArray := prog_3_method_2_code
def yX1_tell : MethodName := ⟨RX1, "tell", "(IIII)V"⟩
abbrev cX1_pops : ByteArray := prog_3_method_3_code
def yX1_pops : MethodName := ⟨RX1, "pops", "(III)Z"⟩
abbrev cX1_herons : ByteArray := prog_3_method_4_code
def yX1_herons : MethodName := ⟨RX1, "herons", "(II)I"⟩
abbrev cX1_draw : ByteArray := prog_3_method_5_code
def yX1_draw : MethodName := ⟨RX1, "draw", "(III)V"⟩
abbrev cX1_lot : ByteArray := prog_3_method_6_code
def yX1_lot : MethodName := ⟨RX1, "lot", "(I)I"⟩
def RX2 : String := "WrackDeeds$Filling"
def TX2 : u_T := fun k => match k with
  | 0 => ("WrackDeeds$Filling", "known", "[I", true)
  | 1 => ("WrackDeeds$Filling", "onward", "[I", true)
  | _ => ("WrackDeeds$Filling", "length", "I", false)
def tyX2 : Nat → FieldType := fun k => match k with
  | 0 => .array .int
  | 1 => .array .int
  | _ => .int
abbrev wsX20 : List Cond := u_ws RX2 TX2 3
theorem nmX2 : ∀ a, a < 3 → ∀ b, b < 3 → a ≠ b → (TX2 a).2.1 ≠ (TX2 b).2.1 := by decide +kernel
theorem tyX2_ok : ∀ k, k < 3 → parseFieldDescriptor (TX2 k).2.2.1 = some (tyX2 k) := by decide +kernel
abbrev cX2_init : ByteArray := prog_4_method_1_code
def yX2_init : MethodName := ⟨RX2, "<init>", "()V"⟩
abbrev cX2_begin : ByteArray := prog_4_method_2_code
def yX2_begin : MethodName := ⟨RX2, "begin", "(I)V"⟩
abbrev cX2_reckon : ByteArray := prog_4_method_3_code
def yX2_reckon : MethodName := ⟨RX2, "reckon", "()V"⟩
abbrev cX2_waysBehind : ByteArray := prog_4_method_4_code
def yX2_waysBehind : MethodName := ⟨RX2, "waysBehind", "(II)I"⟩
abbrev cX2_sumBut : ByteArray := prog_4_method_5_code
def yX2_sumBut : MethodName := ⟨RX2, "sumBut", "(II)I"⟩
abbrev cX2_ways : ByteArray := prog_4_method_6_code
def yX2_ways : MethodName := ⟨RX2, "ways", "()I"⟩
abbrev cX2_leastAt : ByteArray := prog_4_method_7_code
def yX2_leastAt : MethodName := ⟨RX2, "leastAt", "(I)I"⟩
abbrev cX2_leastBut : ByteArray := prog_4_method_8_code
def yX2_leastBut : MethodName := ⟨RX2, "leastBut", "(II)I"⟩
def RX3 : String := "WrackDeeds$Hanging"
def TX3 : u_T := fun k => match k with
  | 0 => ("WrackDeeds$Hanging", "highs", "[I", true)
  | 1 => ("WrackDeeds$Hanging", "states", "[I", true)
  | 2 => ("WrackDeeds$Hanging", "high", "I", false)
  | 3 => ("WrackDeeds$Hanging", "kind", "I", false)
  | _ => ("WrackDeeds$Hanging", "eaten", "Z", false)
def tyX3 : Nat → FieldType := fun k => match k with
  | 0 => .array .int
  | 1 => .array .int
  | 2 => .int
  | 3 => .int
  | _ => .boolean
abbrev wsX30 : List Cond := u_ws RX3 TX3 5
theorem nmX3 : ∀ a, a < 5 → ∀ b, b < 5 → a ≠ b → (TX3 a).2.1 ≠ (TX3 b).2.1 := by decide +kernel
theorem tyX3_ok : ∀ k, k < 5 → parseFieldDescriptor (TX3 k).2.2.1 = some (tyX3 k) := by decide +kernel
abbrev cX3_init : ByteArray := prog_5_method_1_code
def yX3_init : MethodName := ⟨RX3, "<init>", "()V"⟩
abbrev cX3_begin : ByteArray := prog_5_method_2_code
def yX3_begin : MethodName := ⟨RX3, "begin", "(II)V"⟩
abbrev cX3_live : ByteArray := prog_5_method_3_code
def yX3_live : MethodName := ⟨RX3, "live", "(I[ILWrackDeeds$Events;I)V"⟩
abbrev cX3_suffer : ByteArray := prog_5_method_4_code
def yX3_suffer : MethodName := ⟨RX3, "suffer", "(II)V"⟩
abbrev cX3_legibleHours : ByteArray := prog_5_method_5_code
def yX3_legibleHours : MethodName := ⟨RX3, "legibleHours", "()I"⟩
def RX4 : String := "WrackDeeds$Sheet"
def TX4 : u_T := fun k => match k with
  | 0 => ("WrackDeeds$Sheet", "lost", "Z", false)
  | 1 => ("WrackDeeds$Sheet", "form", "I", false)
  | 2 => ("WrackDeeds$Sheet", "size", "I", false)
  | _ => ("WrackDeeds$Sheet", "items", "[I", true)
def tyX4 : Nat → FieldType := fun k => match k with
  | 0 => .boolean
  | 1 => .int
  | 2 => .int
  | _ => .array .int
abbrev wsX40 : List Cond := u_ws RX4 TX4 4
theorem nmX4 : ∀ a, a < 4 → ∀ b, b < 4 → a ≠ b → (TX4 a).2.1 ≠ (TX4 b).2.1 := by decide +kernel
theorem tyX4_ok : ∀ k, k < 4 → parseFieldDescriptor (TX4 k).2.2.1 = some (tyX4 k) := by decide +kernel
abbrev cX4_init : ByteArray := prog_6_method_1_code
def yX4_init : MethodName := ⟨RX4, "<init>", "()V"⟩
abbrev cX4_make : ByteArray := prog_6_method_2_code
def yX4_make : MethodName := ⟨RX4, "make", "(II)V"⟩
abbrev cX4_put : ByteArray := prog_6_method_3_code
def yX4_put : MethodName := ⟨RX4, "put", "(II)V"⟩
abbrev cX4_hasRun : ByteArray := prog_6_method_4_code
def yX4_hasRun : MethodName := ⟨RX4, "hasRun", "(II)Z"⟩
def RX5 : String := "WrackDeeds$Shore"
def TX5 : u_T := fun k => match k with
  | _ => ("WrackDeeds$Shore", "hangings", "[LWrackDeeds$Hanging;", true)
def tyX5 : Nat → FieldType := fun k => match k with
  | _ => .array (.object "WrackDeeds$Hanging")
abbrev wsX50 : List Cond := u_ws RX5 TX5 1
theorem nmX5 : ∀ a, a < 1 → ∀ b, b < 1 → a ≠ b → (TX5 a).2.1 ≠ (TX5 b).2.1 := by decide +kernel
theorem tyX5_ok : ∀ k, k < 1 → parseFieldDescriptor (TX5 k).2.2.1 = some (tyX5 k) := by decide +kernel
abbrev cX5_init : ByteArray := prog_7_method_1_code
def yX5_init : MethodName := ⟨RX5, "<init>", "()V"⟩
abbrev cX5_hangAll : ByteArray := prog_7_method_2_code
def yX5_hangAll : MethodName := ⟨RX5, "hangAll", "(LWrackDeeds$Deeds;[ILWrackDeeds$Events;)V"⟩
abbrev cX5_nextRead : ByteArray := prog_7_method_3_code
def yX5_nextRead : MethodName := ⟨RX5, "nextRead", "(III)I"⟩
def RX6 : String := "WrackDeeds$Sightings"
def TX6 : u_T := fun k => match k with
  | 0 => ("WrackDeeds$Sightings", "size", "I", false)
  | 1 => ("WrackDeeds$Sightings", "hours", "[I", true)
  | 2 => ("WrackDeeds$Sightings", "strands", "[I", true)
  | 3 => ("WrackDeeds$Sightings", "states", "[I", true)
  | _ => ("WrackDeeds$Sightings", "alike", "[I", true)
def tyX6 : Nat → FieldType := fun k => match k with
  | 0 => .int
  | 1 => .array .int
  | 2 => .array .int
  | 3 => .array .int
  | _ => .array .int
abbrev wsX60 : List Cond := u_ws RX6 TX6 5
theorem nmX6 : ∀ a, a < 5 → ∀ b, b < 5 → a ≠ b → (TX6 a).2.1 ≠ (TX6 b).2.1 := by decide +kernel
theorem tyX6_ok : ∀ k, k < 5 → parseFieldDescriptor (TX6 k).2.2.1 = some (tyX6 k) := by decide +kernel
abbrev cX6_init : ByteArray := prog_8_method_1_code
def yX6_init : MethodName := ⟨RX6, "<init>", "()V"⟩
abbrev cX6_tell : ByteArray := prog_8_method_2_code
def yX6_tell : MethodName := ⟨RX6, "tell", "(III)V"⟩
abbrev cX6_addAlike : ByteArray := prog_8_method_3_code
def yX6_addAlike : MethodName := ⟨RX6, "addAlike", "([I)V"⟩
abbrev cX6_mostAlike : ByteArray := prog_8_method_4_code
def yX6_mostAlike : MethodName := ⟨RX6, "mostAlike", "(I)I"⟩
def RX7 : String := "WrackDeeds$Text"
def TX7 : u_T := fun k => match k with
  | 0 => ("WrackDeeds$Text", "bytes", "[I", true)
  | 1 => ("WrackDeeds$Text", "most", "I", true)
  | 2 => ("WrackDeeds$Text", "size", "I", false)
  | _ => ("WrackDeeds$Text", "faultAt", "I", false)
def tyX7 : Nat → FieldType := fun k => match k with
  | 0 => .array .int
  | 1 => .int
  | 2 => .int
  | _ => .int
abbrev wsX70 : List Cond := u_ws RX7 TX7 4
theorem nmX7 : ∀ a, a < 4 → ∀ b, b < 4 → a ≠ b → (TX7 a).2.1 ≠ (TX7 b).2.1 := by decide +kernel
theorem tyX7_ok : ∀ k, k < 4 → parseFieldDescriptor (TX7 k).2.2.1 = some (tyX7 k) := by decide +kernel
abbrev cX7_init : ByteArray := prog_9_method_1_code
def yX7_init : MethodName := ⟨RX7, "<init>", "(I)V"⟩
abbrev cX7_firstBeyond : ByteArray := prog_9_method_2_code
def yX7_firstBeyond : MethodName := ⟨RX7, "firstBeyond", "(II)I"⟩
abbrev cX7_sound : ByteArray := prog_9_method_3_code
def yX7_sound : MethodName := ⟨RX7, "sound", "()I"⟩
def RX8 : String := "WrackDeeds$Tour"
def TX8 : u_T := fun k => match k with
  | 0 => ("WrackDeeds$Tour", "size", "I", false)
  | 1 => ("WrackDeeds$Tour", "lastHour", "I", false)
  | 2 => ("WrackDeeds$Tour", "row", "[I", true)
  | 3 => ("WrackDeeds$Tour", "stale", "Z", false)
  | 4 => ("WrackDeeds$Tour", "tried", "[I", true)
  | 5 => ("WrackDeeds$Tour", "met", "[I", true)
  | _ => ("WrackDeeds$Tour", "strands", "I", false)
def tyX8 : Nat → FieldType := fun k => match k with
  | 0 => .int
  | 1 => .int
  | 2 => .array .int
  | 3 => .boolean
  | 4 => .array .int
  | 5 => .array .int
  | _ => .int
abbrev wsX80 : List Cond := u_ws RX8 TX8 7
theorem nmX8 : ∀ a, a < 7 → ∀ b, b < 7 → a ≠ b → (TX8 a).2.1 ≠ (TX8 b).2.1 := by decide +kernel
theorem tyX8_ok : ∀ k, k < 7 → parseFieldDescriptor (TX8 k).2.2.1 = some (tyX8 k) := by decide +kernel
abbrev cX8_init : ByteArray := prog_10_method_1_code
def yX8_init : MethodName := ⟨RX8, "<init>", "()V"⟩
abbrev cX8_look : ByteArray := prog_10_method_2_code
def yX8_look : MethodName := ⟨RX8, "look", "(LWrackDeeds$Shore;I)V"⟩
abbrev cX8_visit : ByteArray := prog_10_method_3_code
def yX8_visit : MethodName := ⟨RX8, "visit", "(LWrackDeeds$Tour;LWrackDeeds$Shore;IIII)V"⟩
abbrev cX8_mayGetBetter : ByteArray := prog_10_method_4_code
def yX8_mayGetBetter : MethodName := ⟨RX8, "mayGetBetter", "(II)Z"⟩
abbrev cX8_keepIfBetter : ByteArray := prog_10_method_5_code
def yX8_keepIfBetter : MethodName := ⟨RX8, "keepIfBetter", "(II)V"⟩
def RX9 : String := "WrackDeeds$Walk"
def TX9 : u_T := fun k => match k with
  | 0 => ("WrackDeeds$Walk", "size", "I", false)
  | _ => ("WrackDeeds$Walk", "hours", "[I", true)
def tyX9 : Nat → FieldType := fun k => match k with
  | 0 => .int
  | _ => .array .int
abbrev wsX90 : List Cond := u_ws RX9 TX9 2
theorem nmX9 : ∀ a, a < 2 → ∀ b, b < 2 → a ≠ b → (TX9 a).2.1 ≠ (TX9 b).2.1 := by decide +kernel
theorem tyX9_ok : ∀ k, k < 2 → parseFieldDescriptor (TX9 k).2.2.1 = some (tyX9 k) := by decide +kernel
abbrev cX9_init : ByteArray := prog_11_method_1_code
def yX9_init : MethodName := ⟨RX9, "<init>", "()V"⟩
abbrev cX9_go : ByteArray := prog_11_method_2_code
def yX9_go : MethodName := ⟨RX9, "go", "(LWrackDeeds$Shore;ILWrackDeeds$Text;)V"⟩
def RX10 : String := "WrackDeeds"
def TX10 : u_T := fun k => match k with
  | 0 => ("WrackDeeds", "strandText", "LWrackDeeds$Text;", true)
  | 1 => ("WrackDeeds", "tideText", "LWrackDeeds$Text;", true)
  | 2 => ("WrackDeeds", "routeText", "LWrackDeeds$Text;", true)
  | 3 => ("WrackDeeds", "deeds", "LWrackDeeds$Deeds;", true)
  | 4 => ("WrackDeeds", "tides", "[I", true)
  | 5 => ("WrackDeeds", "events", "LWrackDeeds$Events;", true)
  | 6 => ("WrackDeeds", "drawn", "LWrackDeeds$Events;", true)
  | 7 => ("WrackDeeds", "told", "LWrackDeeds$Shore;", true)
  | 8 => ("WrackDeeds", "guessed", "LWrackDeeds$Shore;", true)
  | 9 => ("WrackDeeds", "walk", "LWrackDeeds$Walk;", true)
  | 10 => ("WrackDeeds", "guessedWalk", "LWrackDeeds$Walk;", true)
  | 11 => ("WrackDeeds", "best", "LWrackDeeds$Tour;", true)
  | 12 => ("WrackDeeds", "sightings", "LWrackDeeds$Sightings;", true)
  | 13 => ("WrackDeeds", "filling", "LWrackDeeds$Filling;", true)
  | 14 => ("WrackDeeds", "sheets", "[LWrackDeeds$Sheet;", true)
  | 15 => ("WrackDeeds", "latestFinding", "I", false)
  | _ => ("WrackDeeds", "stale", "Z", false)
def tyX10 : Nat → FieldType := fun k => match k with
  | 0 => .object "WrackDeeds$Text"
  | 1 => .object "WrackDeeds$Text"
  | 2 => .object "WrackDeeds$Text"
  | 3 => .object "WrackDeeds$Deeds"
  | 4 => .array .int
  | 5 => .object "WrackDeeds$Events"
  | 6 => .object "WrackDeeds$Events"
  | 7 => .object "WrackDeeds$Shore"
  | 8 => .object "WrackDeeds$Shore"
  | 9 => .object "WrackDeeds$Walk"
  | 10 => .object "WrackDeeds$Walk"
  | 11 => .object "WrackDeeds$Tour"
  | 12 => .object "WrackDeeds$Sightings"
  | 13 => .object "WrackDeeds$Filling"
  | 14 => .array (.object "WrackDeeds$Sheet")
  | 15 => .int
  | _ => .boolean
abbrev wsX100 : List Cond := u_ws RX10 TX10 17
theorem nmX10 : ∀ a, a < 17 → ∀ b, b < 17 → a ≠ b → (TX10 a).2.1 ≠ (TX10 b).2.1 := by decide +kernel
theorem tyX10_ok : ∀ k, k < 17 → parseFieldDescriptor (TX10 k).2.2.1 = some (tyX10 k) := by decide +kernel
abbrev cX10_init : ByteArray := prog_1_method_1_code
def yX10_init : MethodName := ⟨RX10, "<init>", "()V"⟩
abbrev cX10_type : ByteArray := prog_1_method_2_code
def yX10_type : MethodName := ⟨RX10, "type", "(II)I"⟩
abbrev cX10_wipe : ByteArray := prog_1_method_3_code
def yX10_wipe : MethodName := ⟨RX10, "wipe", "(I)I"⟩
abbrev cX10_undo : ByteArray := prog_1_method_4_code
def yX10_undo : MethodName := ⟨RX10, "undo", "(I)I"⟩
abbrev cX10_fault : ByteArray := prog_1_method_5_code
def yX10_fault : MethodName := ⟨RX10, "fault", "(I)I"⟩
abbrev cX10_strand : ByteArray := prog_1_method_6_code
def yX10_strand : MethodName := ⟨RX10, "strand", "(II)I"⟩
abbrev cX10_tide : ByteArray := prog_1_method_7_code
def yX10_tide : MethodName := ⟨RX10, "tide", "(I)I"⟩
abbrev cX10_route : ByteArray := prog_1_method_8_code
def yX10_route : MethodName := ⟨RX10, "route", "(I)I"⟩
abbrev cX10_event : ByteArray := prog_1_method_9_code
def yX10_event : MethodName := ⟨RX10, "event", "(IIII)I"⟩
abbrev cX10_back : ByteArray := prog_1_method_10_code
def yX10_back : MethodName := ⟨RX10, "back", "()I"⟩
abbrev cX10_read : ByteArray := prog_1_method_11_code
def yX10_read : MethodName := ⟨RX10, "read", "(I)I"⟩
abbrev cX10_state : ByteArray := prog_1_method_12_code
def yX10_state : MethodName := ⟨RX10, "state", "(III)I"⟩
abbrev cX10_says : ByteArray := prog_1_method_13_code
def yX10_says : MethodName := ⟨RX10, "says", "(III)I"⟩
abbrev cX10_deed : ByteArray := prog_1_method_14_code
def yX10_deed : MethodName := ⟨RX10, "deed", "(II)I"⟩
abbrev cX10_voids : ByteArray := prog_1_method_15_code
def yX10_voids : MethodName := ⟨RX10, "voids", "(I)I"⟩
abbrev cX10_forged : ByteArray := prog_1_method_16_code
def yX10_forged : MethodName := ⟨RX10, "forged", "()I"⟩
abbrev cX10_tangled : ByteArray := prog_1_method_17_code
def yX10_tangled : MethodName := ⟨RX10, "tangled", "(I)I"⟩
abbrev cX10_reads : ByteArray := prog_1_method_18_code
def yX10_reads : MethodName := ⟨RX10, "reads", "(I)I"⟩
abbrev cX10_tour : ByteArray := prog_1_method_19_code
def yX10_tour : MethodName := ⟨RX10, "tour", "(I)I"⟩
abbrev cX10_hang : ByteArray := prog_1_method_20_code
def yX10_hang : MethodName := ⟨RX10, "hang", "(II)I"⟩
abbrev cX10_save : ByteArray := prog_1_method_21_code
def yX10_save : MethodName := ⟨RX10, "save", "(II)I"⟩
abbrev cX10_fill : ByteArray := prog_1_method_22_code
def yX10_fill : MethodName := ⟨RX10, "fill", "(III)I"⟩
abbrev cX10_seen : ByteArray := prog_1_method_23_code
def yX10_seen : MethodName := ⟨RX10, "seen", "(III)I"⟩
abbrev cX10_forget : ByteArray := prog_1_method_24_code
def yX10_forget : MethodName := ⟨RX10, "forget", "()I"⟩
abbrev cX10_never : ByteArray := prog_1_method_25_code
def yX10_never : MethodName := ⟨RX10, "never", "()I"⟩
abbrev cX10_was : ByteArray := prog_1_method_26_code
def yX10_was : MethodName := ⟨RX10, "was", "(II)I"⟩
abbrev cX10_ask : ByteArray := prog_1_method_27_code
def yX10_ask : MethodName := ⟨RX10, "ask", "(I)I"⟩
abbrev cX10_risk : ByteArray := prog_1_method_28_code
def yX10_risk : MethodName := ⟨RX10, "risk", "(IIII)J"⟩
abbrev cX10_century : ByteArray := prog_1_method_29_code
def yX10_century : MethodName := ⟨RX10, "century", "(III)I"⟩
abbrev cX10_sheet : ByteArray := prog_1_method_30_code
def yX10_sheet : MethodName := ⟨RX10, "sheet", "(III)I"⟩
abbrev cX10_lose : ByteArray := prog_1_method_31_code
def yX10_lose : MethodName := ⟨RX10, "lose", "(I)I"⟩
abbrev cX10_lay : ByteArray := prog_1_method_32_code
def yX10_lay : MethodName := ⟨RX10, "lay", "(IIII)I"⟩
abbrev cX10_get : ByteArray := prog_1_method_33_code
def yX10_get : MethodName := ⟨RX10, "get", "(III)I"⟩
abbrev cX10_copy : ByteArray := prog_1_method_34_code
def yX10_copy : MethodName := ⟨RX10, "copy", "(IIIII)I"⟩
abbrev cX10_write : ByteArray := prog_1_method_35_code
def yX10_write : MethodName := ⟨RX10, "write", "(II)I"⟩
abbrev cX10_count : ByteArray := prog_1_method_36_code
def yX10_count : MethodName := ⟨RX10, "count", "(I)I"⟩
abbrev cX10_digest : ByteArray := prog_1_method_37_code
def yX10_digest : MethodName := ⟨RX10, "digest", "()J"⟩
abbrev cX10_within : ByteArray := prog_1_method_38_code
def yX10_within : MethodName := ⟨RX10, "within", "(II)Z"⟩
abbrev cX10_mayBeEvent : ByteArray := prog_1_method_39_code
def yX10_mayBeEvent : MethodName := ⟨RX10, "mayBeEvent", "(IIII)Z"⟩
abbrev cX10_bitAt : ByteArray := prog_1_method_40_code
def yX10_bitAt : MethodName := ⟨RX10, "bitAt", "(II)I"⟩
abbrev cX10_stateAt : ByteArray := prog_1_method_41_code
def yX10_stateAt : MethodName := ⟨RX10, "stateAt", "(III)I"⟩
abbrev cX10_textOf : ByteArray := prog_1_method_42_code
def yX10_textOf : MethodName := ⟨RX10, "textOf", "(I)LWrackDeeds$Text;"⟩
abbrev cX10_isStrand : ByteArray := prog_1_method_43_code
def yX10_isStrand : MethodName := ⟨RX10, "isStrand", "(I)Z"⟩
abbrev cX10_finding : ByteArray := prog_1_method_44_code
def yX10_finding : MethodName := ⟨RX10, "finding", "(I)I"⟩
abbrev cX10_freshen : ByteArray := prog_1_method_45_code
def yX10_freshen : MethodName := ⟨RX10, "freshen", "()V"⟩
abbrev cX10_eventFrom : ByteArray := prog_1_method_46_code
def yX10_eventFrom : MethodName := ⟨RX10, "eventFrom", "(LWrackDeeds$Sheet;I)Z"⟩
abbrev cX10_bladderIn : ByteArray := prog_1_method_47_code
def yX10_bladderIn : MethodName := ⟨RX10, "bladderIn", "(III)I"⟩
abbrev cX10_voidBits : ByteArray := prog_1_method_48_code
def yX10_voidBits : MethodName := ⟨RX10, "voidBits", "(LWrackDeeds$Events;I)I"⟩
abbrev cX10_legibleHoursAt : ByteArray := prog_1_method_49_code
def yX10_legibleHoursAt : MethodName := ⟨RX10, "legibleHoursAt", "(II)I"⟩
abbrev cX10_guessHanging : ByteArray := prog_1_method_50_code
def yX10_guessHanging : MethodName := ⟨RX10, "guessHanging", "(IIII)V"⟩
abbrev cX10_comesOut : ByteArray := prog_1_method_51_code
def yX10_comesOut : MethodName := ⟨RX10, "comesOut", "(I)Z"⟩
abbrev cX10_hungBits : ByteArray := prog_1_method_52_code
def yX10_hungBits : MethodName := ⟨RX10, "hungBits", "(I)I"⟩
abbrev cX10_sortBits : ByteArray := prog_1_method_53_code
def yX10_sortBits : MethodName := ⟨RX10, "sortBits", "(I)I"⟩
abbrev cX10_itemFinding : ByteArray := prog_1_method_54_code
def yX10_itemFinding : MethodName := ⟨RX10, "itemFinding", "(LWrackDeeds$Sheet;II)I"⟩
abbrev cX10_digestTold : ByteArray := prog_1_method_55_code
def yX10_digestTold : MethodName := ⟨RX10, "digestTold", "(JI)J"⟩
abbrev cX10_digestHour : ByteArray := prog_1_method_56_code
def yX10_digestHour : MethodName := ⟨RX10, "digestHour", "(JII)J"⟩
abbrev cX10_digestDeed : ByteArray := prog_1_method_57_code
def yX10_digestDeed : MethodName := ⟨RX10, "digestDeed", "(JI)J"⟩
abbrev cX10_digestWhole : ByteArray := prog_1_method_58_code
def yX10_digestWhole : MethodName := ⟨RX10, "digestWhole", "(J)J"⟩
def RX11 : String := "WrackDeedsModel"
def TX11 : u_T := fun k => match k with
  | 0 => ("WrackDeedsModel", "forms", "[I", true)
  | 1 => ("WrackDeedsModel", "sizes", "[I", true)
  | 2 => ("WrackDeedsModel", "items", "[I", true)
  | 3 => ("WrackDeedsModel", "moved", "[I", true)
  | 4 => ("WrackDeedsModel", "latest", "I", false)
  | 5 => ("WrackDeedsModel", "bytes", "[I", true)
  | 6 => ("WrackDeedsModel", "typed", "[I", true)
  | 7 => ("WrackDeedsModel", "strands", "I", false)
  | 8 => ("WrackDeedsModel", "high", "[I", true)
  | 9 => ("WrackDeedsModel", "kind", "[I", true)
  | 10 => ("WrackDeedsModel", "longs", "[I", true)
  | 11 => ("WrackDeedsModel", "bladder", "[I", true)
  | 12 => ("WrackDeedsModel", "tide", "[I", true)
  | 13 => ("WrackDeedsModel", "routes", "I", false)
  | 14 => ("WrackDeedsModel", "route", "[I", true)
  | 15 => ("WrackDeedsModel", "events", "I", false)
  | 16 => ("WrackDeedsModel", "event", "[I", true)
  | 17 => ("WrackDeedsModel", "highBy", "[I", true)
  | 18 => ("WrackDeedsModel", "poppedBy", "[I", true)
  | 19 => ("WrackDeedsModel", "eatenBy", "[I", true)
  | 20 => ("WrackDeedsModel", "highNow", "[I", true)
  | 21 => ("WrackDeedsModel", "poppedNow", "[I", true)
  | 22 => ("WrackDeedsModel", "gone", "I", false)
  | 23 => ("WrackDeedsModel", "readBy", "[I", true)
  | 24 => ("WrackDeedsModel", "tour", "[I", true)
  | 25 => ("WrackDeedsModel", "tourHour", "[I", true)
  | 26 => ("WrackDeedsModel", "bestTour", "[I", true)
  | 27 => ("WrackDeedsModel", "tourMany", "I", false)
  | 28 => ("WrackDeedsModel", "tourLast", "I", false)
  | 29 => ("WrackDeedsModel", "way", "[I", true)
  | 30 => ("WrackDeedsModel", "leastWay", "[I", true)
  | 31 => ("WrackDeedsModel", "sights", "I", false)
  | 32 => ("WrackDeedsModel", "sight", "[I", true)
  | 33 => ("WrackDeedsModel", "alike", "[I", true)
  | 34 => ("WrackDeedsModel", "drawn", "I", false)
  | _ => ("WrackDeedsModel", "told", "[I", true)
def tyX11 : Nat → FieldType := fun k => match k with
  | 0 => .array .int
  | 1 => .array .int
  | 2 => .array .int
  | 3 => .array .int
  | 4 => .int
  | 5 => .array .int
  | 6 => .array .int
  | 7 => .int
  | 8 => .array .int
  | 9 => .array .int
  | 10 => .array .int
  | 11 => .array .int
  | 12 => .array .int
  | 13 => .int
  | 14 => .array .int
  | 15 => .int
  | 16 => .array .int
  | 17 => .array .int
  | 18 => .array .int
  | 19 => .array .int
  | 20 => .array .int
  | 21 => .array .int
  | 22 => .int
  | 23 => .array .int
  | 24 => .array .int
  | 25 => .array .int
  | 26 => .array .int
  | 27 => .int
  | 28 => .int
  | 29 => .array .int
  | 30 => .array .int
  | 31 => .int
  | 32 => .array .int
  | 33 => .array .int
  | 34 => .int
  | _ => .array .int
abbrev wsX110 : List Cond := u_ws RX11 TX11 36
theorem nmX11 : ∀ a, a < 36 → ∀ b, b < 36 → a ≠ b → (TX11 a).2.1 ≠ (TX11 b).2.1 := by decide +kernel
theorem tyX11_ok : ∀ k, k < 36 → parseFieldDescriptor (TX11 k).2.2.1 = some (tyX11 k) := by decide +kernel
abbrev cX11_init : ByteArray := prog_13_method_1_code
def yX11_init : MethodName := ⟨RX11, "<init>", "()V"⟩
abbrev cX11_in : ByteArray := prog_13_method_3_code
def yX11_in : MethodName := ⟨RX11, "in", "(JJJ)Z"⟩
abbrev cX11_no : ByteArray := prog_13_method_4_code
def yX11_no : MethodName := ⟨RX11, "no", "(I)J"⟩
abbrev cX11_isTwo : ByteArray := prog_13_method_5_code
def yX11_isTwo : MethodName := ⟨RX11, "isTwo", "(I)Z"⟩
abbrev cX11_isIn : ByteArray := prog_13_method_6_code
def yX11_isIn : MethodName := ⟨RX11, "isIn", "(II)Z"⟩
abbrev cX11_ones : ByteArray := prog_13_method_7_code
def yX11_ones : MethodName := ⟨RX11, "ones", "(I)I"⟩
abbrev cX11_lesser : ByteArray := prog_13_method_8_code
def yX11_lesser : MethodName := ⟨RX11, "lesser", "(II)I"⟩
abbrev cX11_greater : ByteArray := prog_13_method_9_code
def yX11_greater : MethodName := ⟨RX11, "greater", "(II)I"⟩
abbrev cX11_part : ByteArray := prog_13_method_10_code
def yX11_part : MethodName := ⟨RX11, "part", "(JJI)J"⟩
abbrev cX11_finds : ByteArray := prog_13_method_11_code
def yX11_finds : MethodName := ⟨RX11, "finds", "(I)I"⟩
abbrev cX11_isSheet : ByteArray := prog_13_method_12_code
def yX11_isSheet : MethodName := ⟨RX11, "isSheet", "(I)Z"⟩
abbrev cX11_sheet : ByteArray := prog_13_method_13_code
def yX11_sheet : MethodName := ⟨RX11, "sheet", "(III)I"⟩
abbrev cX11_lose : ByteArray := prog_13_method_14_code
def yX11_lose : MethodName := ⟨RX11, "lose", "(I)I"⟩
abbrev cX11_lacks : ByteArray := prog_13_method_15_code
def yX11_lacks : MethodName := ⟨RX11, "lacks", "(III)I"⟩
abbrev cX11_cut : ByteArray := prog_13_method_16_code
def yX11_cut : MethodName := ⟨RX11, "cut", "(II)I"⟩
abbrev cX11_lay : ByteArray := prog_13_method_17_code
def yX11_lay : MethodName := ⟨RX11, "lay", "(IIII)I"⟩
abbrev cX11_get : ByteArray := prog_13_method_18_code
def yX11_get : MethodName := ⟨RX11, "get", "(III)I"⟩
abbrev cX11_copy : ByteArray := prog_13_method_19_code
def yX11_copy : MethodName := ⟨RX11, "copy", "(IIIII)I"⟩
abbrev cX11_isText : ByteArray := prog_13_method_20_code
def yX11_isText : MethodName := ⟨RX11, "isText", "(I)Z"⟩
abbrev cX11_type : ByteArray := prog_13_method_21_code
def yX11_type : MethodName := ⟨RX11, "type", "(II)I"⟩
abbrev cX11_wipe : ByteArray := prog_13_method_22_code
def yX11_wipe : MethodName := ⟨RX11, "wipe", "(I)I"⟩
abbrev cX11_undo : ByteArray := prog_13_method_23_code
def yX11_undo : MethodName := ⟨RX11, "undo", "(I)I"⟩
abbrev cX11_readsStrands : ByteArray := prog_13_method_24_code
def yX11_readsStrands : MethodName := ⟨RX11, "readsStrands", "()I"⟩
abbrev cX11_fives : ByteArray := prog_13_method_25_code
def yX11_fives : MethodName := ⟨RX11, "fives", "()V"⟩
abbrev cX11_readsTides : ByteArray := prog_13_method_26_code
def yX11_readsTides : MethodName := ⟨RX11, "readsTides", "()I"⟩
abbrev cX11_readsRoute : ByteArray := prog_13_method_27_code
def yX11_readsRoute : MethodName := ⟨RX11, "readsRoute", "()I"⟩
abbrev cX11_readsText : ByteArray := prog_13_method_28_code
def yX11_readsText : MethodName := ⟨RX11, "readsText", "(I)I"⟩
abbrev cX11_fault : ByteArray := prog_13_method_29_code
def yX11_fault : MethodName := ⟨RX11, "fault", "(I)I"⟩
abbrev cX11_isStrand : ByteArray := prog_13_method_30_code
def yX11_isStrand : MethodName := ⟨RX11, "isStrand", "(I)Z"⟩
abbrev cX11_isHour : ByteArray := prog_13_method_31_code
def yX11_isHour : MethodName := ⟨RX11, "isHour", "(I)Z"⟩
abbrev cX11_strandBy : ByteArray := prog_13_method_32_code
def yX11_strandBy : MethodName := ⟨RX11, "strandBy", "(II)I"⟩
abbrev cX11_strand : ByteArray := prog_13_method_33_code
def yX11_strand : MethodName := ⟨RX11, "strand", "(II)I"⟩
abbrev cX11_tide : ByteArray := prog_13_method_34_code
def yX11_tide : MethodName := ⟨RX11, "tide", "(I)I"⟩
abbrev cX11_routeBy : ByteArray := prog_13_method_35_code
def yX11_routeBy : MethodName := ⟨RX11, "routeBy", "(I)I"⟩
abbrev cX11_route : ByteArray := prog_13_method_36_code
def yX11_route : MethodName := ⟨RX11, "route", "(I)I"⟩
abbrev cX11_puts : ByteArray := prog_13_method_37_code
def yX11_puts : MethodName := ⟨RX11, "puts", "(IIII)V"⟩
abbrev cX11_event : ByteArray := prog_13_method_38_code
def yX11_event : MethodName := ⟨RX11, "event", "(IIII)I"⟩
abbrev cX11_back : ByteArray := prog_13_method_39_code
def yX11_back : MethodName := ⟨RX11, "back", "()I"⟩
abbrev cX11_read : ByteArray := prog_13_method_40_code
def yX11_read : MethodName := ⟨RX11, "read", "(I)I"⟩
abbrev cX11_lives : ByteArray := prog_13_method_41_code
def yX11_lives : MethodName := ⟨RX11, "lives", "()V"⟩
abbrev cX11_find : ByteArray := prog_13_method_42_code
def yX11_find : MethodName := ⟨RX11, "find", "()V"⟩
abbrev cX11_lies : ByteArray := prog_13_method_43_code
def yX11_lies : MethodName := ⟨RX11, "lies", "(III)I"⟩
abbrev cX11_stateOf : ByteArray := prog_13_method_44_code
def yX11_stateOf : MethodName := ⟨RX11, "stateOf", "(II)I"⟩
abbrev cX11_state : ByteArray := prog_13_method_45_code
def yX11_state : MethodName := ⟨RX11, "state", "(III)I"⟩
abbrev cX11_isPopped : ByteArray := prog_13_method_46_code
def yX11_isPopped : MethodName := ⟨RX11, "isPopped", "(III)Z"⟩
abbrev cX11_saysOf : ByteArray := prog_13_method_47_code
def yX11_saysOf : MethodName := ⟨RX11, "saysOf", "(III)I"⟩
abbrev cX11_says : ByteArray := prog_13_method_48_code
def yX11_says : MethodName := ⟨RX11, "says", "(III)I"⟩
abbrev cX11_hangsOn : ByteArray := prog_13_method_49_code
def yX11_hangsOn : MethodName := ⟨RX11, "hangsOn", "(I)I"⟩
abbrev cX11_legibleOf : ByteArray := prog_13_method_50_code
def yX11_legibleOf : MethodName := ⟨RX11, "legibleOf", "(I)I"⟩
abbrev cX11_deed : ByteArray := prog_13_method_51_code
def yX11_deed : MethodName := ⟨RX11, "deed", "(II)I"⟩
abbrev cX11_isVoid : ByteArray := prog_13_method_52_code
def yX11_isVoid : MethodName := ⟨RX11, "isVoid", "(II)Z"⟩
abbrev cX11_voidsBy : ByteArray := prog_13_method_53_code
def yX11_voidsBy : MethodName := ⟨RX11, "voidsBy", "(I)I"⟩
abbrev cX11_voids : ByteArray := prog_13_method_54_code
def yX11_voids : MethodName := ⟨RX11, "voids", "(I)I"⟩
abbrev cX11_forgedNow : ByteArray := prog_13_method_55_code
def yX11_forgedNow : MethodName := ⟨RX11, "forgedNow", "()I"⟩
abbrev cX11_forged : ByteArray := prog_13_method_56_code
def yX11_forged : MethodName := ⟨RX11, "forged", "()I"⟩
abbrev cX11_run : ByteArray := prog_13_method_57_code
def yX11_run : MethodName := ⟨RX11, "run", "(II)I"⟩
abbrev cX11_tangledNow : ByteArray := prog_13_method_58_code
def yX11_tangledNow : MethodName := ⟨RX11, "tangledNow", "(I)I"⟩
abbrev cX11_tangled : ByteArray := prog_13_method_59_code
def yX11_tangled : MethodName := ⟨RX11, "tangled", "(I)I"⟩
abbrev cX11_readOn : ByteArray := prog_13_method_60_code
def yX11_readOn : MethodName := ⟨RX11, "readOn", "(III)I"⟩
abbrev cX11_goes : ByteArray := prog_13_method_61_code
def yX11_goes : MethodName := ⟨RX11, "goes", "()V"⟩
abbrev cX11_readsOf : ByteArray := prog_13_method_62_code
def yX11_readsOf : MethodName := ⟨RX11, "readsOf", "(I)I"⟩
abbrev cX11_reads : ByteArray := prog_13_method_63_code
def yX11_reads : MethodName := ⟨RX11, "reads", "(I)I"⟩
abbrev cX11_nextHour : ByteArray := prog_13_method_64_code
def yX11_nextHour : MethodName := ⟨RX11, "nextHour", "(II)I"⟩
abbrev cX11_keepsTour : ByteArray := prog_13_method_65_code
def yX11_keepsTour : MethodName := ⟨RX11, "keepsTour", "(I)V"⟩
abbrev cX11_findTour : ByteArray := prog_13_method_66_code
def yX11_findTour : MethodName := ⟨RX11, "findTour", "()V"⟩
abbrev cX11_tourBy : ByteArray := prog_13_method_67_code
def yX11_tourBy : MethodName := ⟨RX11, "tourBy", "(I)I"⟩
abbrev cX11_tour : ByteArray := prog_13_method_68_code
def yX11_tour : MethodName := ⟨RX11, "tour", "(I)I"⟩
abbrev cX11_hangOf : ByteArray := prog_13_method_69_code
def yX11_hangOf : MethodName := ⟨RX11, "hangOf", "(II)I"⟩
abbrev cX11_hang : ByteArray := prog_13_method_70_code
def yX11_hang : MethodName := ⟨RX11, "hang", "(II)I"⟩
abbrev cX11_isSafe : ByteArray := prog_13_method_71_code
def yX11_isSafe : MethodName := ⟨RX11, "isSafe", "(II)Z"⟩
abbrev cX11_saveOf : ByteArray := prog_13_method_72_code
def yX11_saveOf : MethodName := ⟨RX11, "saveOf", "(II)I"⟩
abbrev cX11_save : ByteArray := prog_13_method_73_code
def yX11_save : MethodName := ⟨RX11, "save", "(II)I"⟩
abbrev cX11_mayBe : ByteArray := prog_13_method_74_code
def yX11_mayBe : MethodName := ⟨RX11, "mayBe", "(III)Z"⟩
abbrev cX11_fillOf : ByteArray := prog_13_method_75_code
def yX11_fillOf : MethodName := ⟨RX11, "fillOf", "(III)I"⟩
abbrev cX11_fill : ByteArray := prog_13_method_76_code
def yX11_fill : MethodName := ⟨RX11, "fill", "(III)I"⟩
abbrev cX11_seen : ByteArray := prog_13_method_77_code
def yX11_seen : MethodName := ⟨RX11, "seen", "(III)I"⟩
abbrev cX11_forget : ByteArray := prog_13_method_78_code
def yX11_forget : MethodName := ⟨RX11, "forget", "()I"⟩
abbrev cX11_isSeen : ByteArray := prog_13_method_79_code
def yX11_isSeen : MethodName := ⟨RX11, "isSeen", "()Z"⟩
abbrev cX11_neverNow : ByteArray := prog_13_method_80_code
def yX11_neverNow : MethodName := ⟨RX11, "neverNow", "()I"⟩
abbrev cX11_never : ByteArray := prog_13_method_81_code
def yX11_never : MethodName := ⟨RX11, "never", "()I"⟩
abbrev cX11_hungOf : ByteArray := prog_13_method_82_code
def yX11_hungOf : MethodName := ⟨RX11, "hungOf", "(I)I"⟩
abbrev cX11_sortOf : ByteArray := prog_13_method_83_code
def yX11_sortOf : MethodName := ⟨RX11, "sortOf", "(I)I"⟩
abbrev cX11_wasOf : ByteArray := prog_13_method_84_code
def yX11_wasOf : MethodName := ⟨RX11, "wasOf", "(II)I"⟩
abbrev cX11_was : ByteArray := prog_13_method_85_code
def yX11_was : MethodName := ⟨RX11, "was", "(II)I"⟩
abbrev cX11_askOf : ByteArray := prog_13_method_86_code
def yX11_askOf : MethodName := ⟨RX11, "askOf", "(I)I"⟩
abbrev cX11_ask : ByteArray := prog_13_method_87_code
def yX11_ask : MethodName := ⟨RX11, "ask", "(I)I"⟩
abbrev cX11_riskOf : ByteArray := prog_13_method_88_code
def yX11_riskOf : MethodName := ⟨RX11, "riskOf", "(IIII)J"⟩
abbrev cX11_risk : ByteArray := prog_13_method_89_code
def yX11_risk : MethodName := ⟨RX11, "risk", "(IIII)J"⟩
abbrev cX11_lot : ByteArray := prog_13_method_90_code
def yX11_lot : MethodName := ⟨RX11, "lot", "(I)I"⟩
abbrev cX11_centuryOf : ByteArray := prog_13_method_91_code
def yX11_centuryOf : MethodName := ⟨RX11, "centuryOf", "(III)I"⟩
abbrev cX11_century : ByteArray := prog_13_method_92_code
def yX11_century : MethodName := ⟨RX11, "century", "(III)I"⟩
abbrev cX11_write : ByteArray := prog_13_method_93_code
def yX11_write : MethodName := ⟨RX11, "write", "(II)I"⟩
abbrev cX11_count : ByteArray := prog_13_method_94_code
def yX11_count : MethodName := ⟨RX11, "count", "(I)I"⟩
abbrev cX11_tellsHour : ByteArray := prog_13_method_95_code
def yX11_tellsHour : MethodName := ⟨RX11, "tellsHour", "(JII)J"⟩
abbrev cX11_tellsStrand : ByteArray := prog_13_method_96_code
def yX11_tellsStrand : MethodName := ⟨RX11, "tellsStrand", "(JI)J"⟩
abbrev cX11_digest : ByteArray := prog_13_method_97_code
def yX11_digest : MethodName := ⟨RX11, "digest", "()J"⟩
def RJ6 : String := "java/lang/Integer"
def TJ6 : u_T := fun k => match k with
  | _ => ("", "", "", false)
def tyJ6 : Nat → FieldType := fun k => match k with
  | _ => .int
abbrev wsJ60 : List Cond := u_ws RJ6 TJ6 0
theorem nmJ6 : ∀ a, a < 0 → ∀ b, b < 0 → a ≠ b → (TJ6 a).2.1 ≠ (TJ6 b).2.1 := by decide +kernel
theorem tyJ6_ok : ∀ k, k < 0 → parseFieldDescriptor (TJ6 k).2.2.1 = some (tyJ6 k) := by decide +kernel
abbrev cJ6_bitCount_0f7a4 : ByteArray := prog_14_method_49_code
def yJ6_bitCount_0f7a4 : MethodName := ⟨RJ6, "bitCount", "(I)I"⟩
def RJ9 : String := "java/lang/Math"
def TJ9 : u_T := fun k => match k with
  | _ => ("", "", "", false)
def tyJ9 : Nat → FieldType := fun k => match k with
  | _ => .int
abbrev wsJ90 : List Cond := u_ws RJ9 TJ9 0
theorem nmJ9 : ∀ a, a < 0 → ∀ b, b < 0 → a ≠ b → (TJ9 a).2.1 ≠ (TJ9 b).2.1 := by decide +kernel
theorem tyJ9_ok : ∀ k, k < 0 → parseFieldDescriptor (TJ9 k).2.2.1 = some (tyJ9 k) := by decide +kernel
abbrev cJ9_abs_0f7a4 : ByteArray := prog_15_method_59_code
def yJ9_abs_0f7a4 : MethodName := ⟨RJ9, "abs", "(I)I"⟩
abbrev cJ9_max_7cf53 : ByteArray := prog_15_method_65_code
def yJ9_max_7cf53 : MethodName := ⟨RJ9, "max", "(II)I"⟩
abbrev cJ9_min_7cf53 : ByteArray := prog_15_method_69_code
def yJ9_min_7cf53 : MethodName := ⟨RJ9, "min", "(II)I"⟩
def RJ10 : String := "java/lang/System"
def TJ10 : u_T := fun k => match k with
  | _ => ("", "", "", false)
def tyJ10 : Nat → FieldType := fun k => match k with
  | _ => .int
abbrev wsJ100 : List Cond := u_ws RJ10 TJ10 0
theorem nmJ10 : ∀ a, a < 0 → ∀ b, b < 0 → a ≠ b → (TJ10 a).2.1 ≠ (TJ10 b).2.1 := by decide +kernel
theorem tyJ10_ok : ∀ k, k < 0 → parseFieldDescriptor (TJ10 k).2.2.1 = some (tyJ10 k) := by decide +kernel
def RJ7 : String := "java/util/Arrays"
def TJ7 : u_T := fun k => match k with
  | _ => ("", "", "", false)
def tyJ7 : Nat → FieldType := fun k => match k with
  | _ => .int
abbrev wsJ70 : List Cond := u_ws RJ7 TJ7 0
theorem nmJ7 : ∀ a, a < 0 → ∀ b, b < 0 → a ≠ b → (TJ7 a).2.1 ≠ (TJ7 b).2.1 := by decide +kernel
theorem tyJ7_ok : ∀ k, k < 0 → parseFieldDescriptor (TJ7 k).2.2.1 = some (tyJ7 k) := by decide +kernel
abbrev cJ7_fill_53178 : ByteArray := prog_17_method_103_code
def yJ7_fill_53178 : MethodName := ⟨RJ7, "fill", "([II)V"⟩
def RL : String := "WrackDeedsLaw"
abbrev cL_law : ByteArray := code
def yL_law : MethodName := ⟨RL, "law", "([I)Z"⟩
abbrev vwCl : List vw_C := [(RX0, TX0, 8), (RX1, TX1, 6), (RX2, TX2, 3), (RX3, TX3, 5), (RX4, TX4, 4), (RX5, TX5, 1), (RX6, TX6, 5), (RX7, TX7, 4), (RX8, TX8, 7), (RX9, TX9, 2), (RX10, TX10, 17), (RX11, TX11, 36)]
