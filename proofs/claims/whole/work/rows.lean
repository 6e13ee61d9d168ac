section
-- ===== PART A: goes FIRST, ahead of the names: the tables' words, and 'selects' of the private methods out of them =====
/-- a private method of a class that the tables say can be made, by its rows of tables_1 -/
def lw_okq (q : MethodName × Nat) : Prop := (q.1.cls ≠ "java/lang/invoke/MethodHandle" ∧ q.1.cls ≠ "java/lang/invoke/VarHandle") ∧ Cond.instantiable q.1.cls q.2 ∈ tables_1 ∧ Cond.privateMethod q.1 ∈ tables_1 ∧ Cond.instanceMethod q.1 ∈ tables_1
theorem lw_p0 : lw_okq (⟨"StampedSlots$History", "dropOldest", "()V"⟩, 2) := ⟨⟨by decide +kernel, by decide +kernel⟩, List.mem_of_getElem? (i := 105) (by decide +kernel), List.mem_of_getElem? (i := 155) (by decide +kernel), List.mem_of_getElem? (i := 156) (by decide +kernel)⟩
theorem lw_p1 : lw_okq (⟨"StampedSlots$State", "fireThing", "(I)I"⟩, 7) := ⟨⟨by decide +kernel, by decide +kernel⟩, List.mem_of_getElem? (i := 26) (by decide +kernel), List.mem_of_getElem? (i := 183) (by decide +kernel), List.mem_of_getElem? (i := 184) (by decide +kernel)⟩
theorem lw_p2 : lw_okq (⟨"StampedSlots$Slots", "giveCells", "(III)V"⟩, 7) := ⟨⟨by decide +kernel, by decide +kernel⟩, List.mem_of_getElem? (i := 32) (by decide +kernel), List.mem_of_getElem? (i := 215) (by decide +kernel), List.mem_of_getElem? (i := 216) (by decide +kernel)⟩
theorem lw_p3 : lw_okq (⟨"StampedSlots$Row", "isEntry", "(I)Z"⟩, 3) := ⟨⟨by decide +kernel, by decide +kernel⟩, List.mem_of_getElem? (i := 61) (by decide +kernel), List.mem_of_getElem? (i := 227) (by decide +kernel), List.mem_of_getElem? (i := 228) (by decide +kernel)⟩
theorem lw_p4 : lw_okq (⟨"StampedSlots$Row", "sweep", "(I)V"⟩, 3) := ⟨⟨by decide +kernel, by decide +kernel⟩, List.mem_of_getElem? (i := 61) (by decide +kernel), List.mem_of_getElem? (i := 231) (by decide +kernel), List.mem_of_getElem? (i := 232) (by decide +kernel)⟩
theorem lw_p5 : lw_okq (⟨"StampedSlots$Row", "delete", "(I)V"⟩, 3) := ⟨⟨by decide +kernel, by decide +kernel⟩, List.mem_of_getElem? (i := 61) (by decide +kernel), List.mem_of_getElem? (i := 239) (by decide +kernel), List.mem_of_getElem? (i := 240) (by decide +kernel)⟩
theorem lw_p6 : lw_okq (⟨"StampedSlots$Slots", "growTo", "(I)V"⟩, 7) := ⟨⟨by decide +kernel, by decide +kernel⟩, List.mem_of_getElem? (i := 32) (by decide +kernel), List.mem_of_getElem? (i := 267) (by decide +kernel), List.mem_of_getElem? (i := 268) (by decide +kernel)⟩
theorem lw_p7 : lw_okq (⟨"StampedSlots$Row", "thingsFrom", "(I)I"⟩, 3) := ⟨⟨by decide +kernel, by decide +kernel⟩, List.mem_of_getElem? (i := 61) (by decide +kernel), List.mem_of_getElem? (i := 381) (by decide +kernel), List.mem_of_getElem? (i := 382) (by decide +kernel)⟩
theorem lw_p8 : lw_okq (⟨"java/lang/Throwable", "fillInStackTrace", "(I)Ljava/lang/Throwable;"⟩, 6) := ⟨⟨by decide +kernel, by decide +kernel⟩, List.mem_of_getElem? (i := 439) (by decide +kernel), List.mem_of_getElem? (i := 437) (by decide +kernel), List.mem_of_getElem? (i := 438) (by decide +kernel)⟩
theorem lw_p9 : lw_okq (⟨"StampedSlots", "hashThings", "(J)J"⟩, 4) := ⟨⟨by decide +kernel, by decide +kernel⟩, List.mem_of_getElem? (i := 18) (by decide +kernel), List.mem_of_getElem? (i := 469) (by decide +kernel), List.mem_of_getElem? (i := 470) (by decide +kernel)⟩
theorem lw_p10 : lw_okq (⟨"StampedSlots", "hashCellsAndWalkers", "(J)J"⟩, 4) := ⟨⟨by decide +kernel, by decide +kernel⟩, List.mem_of_getElem? (i := 18) (by decide +kernel), List.mem_of_getElem? (i := 517) (by decide +kernel), List.mem_of_getElem? (i := 518) (by decide +kernel)⟩
theorem lw_p11 : lw_okq (⟨"StampedSlots$Row", "indexUnder", "(I)I"⟩, 3) := ⟨⟨by decide +kernel, by decide +kernel⟩, List.mem_of_getElem? (i := 61) (by decide +kernel), List.mem_of_getElem? (i := 542) (by decide +kernel), List.mem_of_getElem? (i := 543) (by decide +kernel)⟩
theorem lw_p12 : lw_okq (⟨"StampedSlots$Row", "isThingIn", "(I)Z"⟩, 3) := ⟨⟨by decide +kernel, by decide +kernel⟩, List.mem_of_getElem? (i := 61) (by decide +kernel), List.mem_of_getElem? (i := 547) (by decide +kernel), List.mem_of_getElem? (i := 548) (by decide +kernel)⟩
theorem lw_p13 : lw_okq (⟨"StampedSlots", "hashWhatWouldBe", "(J)J"⟩, 4) := ⟨⟨by decide +kernel, by decide +kernel⟩, List.mem_of_getElem? (i := 18) (by decide +kernel), List.mem_of_getElem? (i := 560) (by decide +kernel), List.mem_of_getElem? (i := 561) (by decide +kernel)⟩
theorem lw_p14 : lw_okq (⟨"StampedSlots", "tryEvents", "(I)I"⟩, 4) := ⟨⟨by decide +kernel, by decide +kernel⟩, List.mem_of_getElem? (i := 18) (by decide +kernel), List.mem_of_getElem? (i := 586) (by decide +kernel), List.mem_of_getElem? (i := 587) (by decide +kernel)⟩
theorem lw_p15 : lw_okq (⟨"StampedSlots", "hashBuffer", "(J)J"⟩, 4) := ⟨⟨by decide +kernel, by decide +kernel⟩, List.mem_of_getElem? (i := 18) (by decide +kernel), List.mem_of_getElem? (i := 603) (by decide +kernel), List.mem_of_getElem? (i := 604) (by decide +kernel)⟩
def lw_privs_1 : List (MethodName × Nat) := [(⟨"StampedSlots$History", "dropOldest", "()V"⟩, 2), (⟨"StampedSlots$State", "fireThing", "(I)I"⟩, 7), (⟨"StampedSlots$Slots", "giveCells", "(III)V"⟩, 7), (⟨"StampedSlots$Row", "isEntry", "(I)Z"⟩, 3), (⟨"StampedSlots$Row", "sweep", "(I)V"⟩, 3), (⟨"StampedSlots$Row", "delete", "(I)V"⟩, 3), (⟨"StampedSlots$Slots", "growTo", "(I)V"⟩, 7), (⟨"StampedSlots$Row", "thingsFrom", "(I)I"⟩, 3), (⟨"java/lang/Throwable", "fillInStackTrace", "(I)Ljava/lang/Throwable;"⟩, 6), (⟨"StampedSlots", "hashThings", "(J)J"⟩, 4), (⟨"StampedSlots", "hashCellsAndWalkers", "(J)J"⟩, 4), (⟨"StampedSlots$Row", "indexUnder", "(I)I"⟩, 3), (⟨"StampedSlots$Row", "isThingIn", "(I)Z"⟩, 3), (⟨"StampedSlots", "hashWhatWouldBe", "(J)J"⟩, 4), (⟨"StampedSlots", "tryEvents", "(I)I"⟩, 4), (⟨"StampedSlots", "hashBuffer", "(J)J"⟩, 4)]
theorem lw_r1 : ∀ q ∈ lw_privs_1, lw_okq q := List.forall_mem_cons.mpr ⟨lw_p0, List.forall_mem_cons.mpr ⟨lw_p1, List.forall_mem_cons.mpr ⟨lw_p2, List.forall_mem_cons.mpr ⟨lw_p3, List.forall_mem_cons.mpr ⟨lw_p4, List.forall_mem_cons.mpr ⟨lw_p5, List.forall_mem_cons.mpr ⟨lw_p6, List.forall_mem_cons.mpr ⟨lw_p7, List.forall_mem_cons.mpr ⟨lw_p8, List.forall_mem_cons.mpr ⟨lw_p9, List.forall_mem_cons.mpr ⟨lw_p10, List.forall_mem_cons.mpr ⟨lw_p11, List.forall_mem_cons.mpr ⟨lw_p12, List.forall_mem_cons.mpr ⟨lw_p13, List.forall_mem_cons.mpr ⟨lw_p14, List.forall_mem_cons.mpr ⟨lw_p15, fun _ h => absurd h List.not_mem_nil⟩⟩⟩⟩⟩⟩⟩⟩⟩⟩⟩⟩⟩⟩⟩⟩
theorem lw_p16 : lw_okq (⟨"StampedSlots$Row", "send", "(II)V"⟩, 3) := ⟨⟨by decide +kernel, by decide +kernel⟩, List.mem_of_getElem? (i := 61) (by decide +kernel), List.mem_of_getElem? (i := 681) (by decide +kernel), List.mem_of_getElem? (i := 682) (by decide +kernel)⟩
theorem lw_p17 : lw_okq (⟨"StampedSlots$Row", "nextThing", "(I)I"⟩, 3) := ⟨⟨by decide +kernel, by decide +kernel⟩, List.mem_of_getElem? (i := 61) (by decide +kernel), List.mem_of_getElem? (i := 696) (by decide +kernel), List.mem_of_getElem? (i := 697) (by decide +kernel)⟩
theorem lw_p18 : lw_okq (⟨"StampedSlots", "putParts", "()I"⟩, 4) := ⟨⟨by decide +kernel, by decide +kernel⟩, List.mem_of_getElem? (i := 18) (by decide +kernel), List.mem_of_getElem? (i := 737) (by decide +kernel), List.mem_of_getElem? (i := 738) (by decide +kernel)⟩
theorem lw_p19 : lw_okq (⟨"StampedSlotsModel", "refuses", "(I)Z"⟩, 11) := ⟨⟨by decide +kernel, by decide +kernel⟩, List.mem_of_getElem? (i := 804) (by decide +kernel), List.mem_of_getElem? (i := 876) (by decide +kernel), List.mem_of_getElem? (i := 877) (by decide +kernel)⟩
theorem lw_p20 : lw_okq (⟨"StampedSlotsModel", "saves", "()V"⟩, 11) := ⟨⟨by decide +kernel, by decide +kernel⟩, List.mem_of_getElem? (i := 804) (by decide +kernel), List.mem_of_getElem? (i := 880) (by decide +kernel), List.mem_of_getElem? (i := 881) (by decide +kernel)⟩
theorem lw_p21 : lw_okq (⟨"StampedSlotsModel", "underHandle", "(I)I"⟩, 11) := ⟨⟨by decide +kernel, by decide +kernel⟩, List.mem_of_getElem? (i := 804) (by decide +kernel), List.mem_of_getElem? (i := 937) (by decide +kernel), List.mem_of_getElem? (i := 938) (by decide +kernel)⟩
theorem lw_p22 : lw_okq (⟨"StampedSlotsModel", "isText", "()Z"⟩, 11) := ⟨⟨by decide +kernel, by decide +kernel⟩, List.mem_of_getElem? (i := 804) (by decide +kernel), List.mem_of_getElem? (i := 980) (by decide +kernel), List.mem_of_getElem? (i := 981) (by decide +kernel)⟩
theorem lw_p23 : lw_okq (⟨"StampedSlotsModel", "isThingTold", "()Z"⟩, 11) := ⟨⟨by decide +kernel, by decide +kernel⟩, List.mem_of_getElem? (i := 804) (by decide +kernel), List.mem_of_getElem? (i := 984) (by decide +kernel), List.mem_of_getElem? (i := 985) (by decide +kernel)⟩
theorem lw_p24 : lw_okq (⟨"StampedSlotsModel", "isNumber", "(III)Z"⟩, 11) := ⟨⟨by decide +kernel, by decide +kernel⟩, List.mem_of_getElem? (i := 804) (by decide +kernel), List.mem_of_getElem? (i := 988) (by decide +kernel), List.mem_of_getElem? (i := 989) (by decide +kernel)⟩
theorem lw_p25 : lw_okq (⟨"StampedSlotsModel", "sees", "(II)Z"⟩, 11) := ⟨⟨by decide +kernel, by decide +kernel⟩, List.mem_of_getElem? (i := 804) (by decide +kernel), List.mem_of_getElem? (i := 992) (by decide +kernel), List.mem_of_getElem? (i := 993) (by decide +kernel)⟩
theorem lw_p26 : lw_okq (⟨"StampedSlotsModel", "takes", "(I)Z"⟩, 11) := ⟨⟨by decide +kernel, by decide +kernel⟩, List.mem_of_getElem? (i := 804) (by decide +kernel), List.mem_of_getElem? (i := 996) (by decide +kernel), List.mem_of_getElem? (i := 997) (by decide +kernel)⟩
theorem lw_p27 : lw_okq (⟨"StampedSlotsModel", "ofThing", "(II)I"⟩, 11) := ⟨⟨by decide +kernel, by decide +kernel⟩, List.mem_of_getElem? (i := 804) (by decide +kernel), List.mem_of_getElem? (i := 1016) (by decide +kernel), List.mem_of_getElem? (i := 1017) (by decide +kernel)⟩
theorem lw_p28 : lw_okq (⟨"StampedSlotsModel", "placeOf", "(I)I"⟩, 11) := ⟨⟨by decide +kernel, by decide +kernel⟩, List.mem_of_getElem? (i := 804) (by decide +kernel), List.mem_of_getElem? (i := 1020) (by decide +kernel), List.mem_of_getElem? (i := 1021) (by decide +kernel)⟩
theorem lw_p29 : lw_okq (⟨"StampedSlotsModel", "ofCell", "(I)I"⟩, 11) := ⟨⟨by decide +kernel, by decide +kernel⟩, List.mem_of_getElem? (i := 804) (by decide +kernel), List.mem_of_getElem? (i := 1032) (by decide +kernel), List.mem_of_getElem? (i := 1033) (by decide +kernel)⟩
theorem lw_p30 : lw_okq (⟨"StampedSlotsModel", "ofWalker", "(II)I"⟩, 11) := ⟨⟨by decide +kernel, by decide +kernel⟩, List.mem_of_getElem? (i := 804) (by decide +kernel), List.mem_of_getElem? (i := 1040) (by decide +kernel), List.mem_of_getElem? (i := 1041) (by decide +kernel)⟩
theorem lw_p31 : lw_okq (⟨"StampedSlotsModel", "behind", "(I)I"⟩, 11) := ⟨⟨by decide +kernel, by decide +kernel⟩, List.mem_of_getElem? (i := 804) (by decide +kernel), List.mem_of_getElem? (i := 1044) (by decide +kernel), List.mem_of_getElem? (i := 1045) (by decide +kernel)⟩
def lw_privs_2 : List (MethodName × Nat) := [(⟨"StampedSlots$Row", "send", "(II)V"⟩, 3), (⟨"StampedSlots$Row", "nextThing", "(I)I"⟩, 3), (⟨"StampedSlots", "putParts", "()I"⟩, 4), (⟨"StampedSlotsModel", "refuses", "(I)Z"⟩, 11), (⟨"StampedSlotsModel", "saves", "()V"⟩, 11), (⟨"StampedSlotsModel", "underHandle", "(I)I"⟩, 11), (⟨"StampedSlotsModel", "isText", "()Z"⟩, 11), (⟨"StampedSlotsModel", "isThingTold", "()Z"⟩, 11), (⟨"StampedSlotsModel", "isNumber", "(III)Z"⟩, 11), (⟨"StampedSlotsModel", "sees", "(II)Z"⟩, 11), (⟨"StampedSlotsModel", "takes", "(I)Z"⟩, 11), (⟨"StampedSlotsModel", "ofThing", "(II)I"⟩, 11), (⟨"StampedSlotsModel", "placeOf", "(I)I"⟩, 11), (⟨"StampedSlotsModel", "ofCell", "(I)I"⟩, 11), (⟨"StampedSlotsModel", "ofWalker", "(II)I"⟩, 11), (⟨"StampedSlotsModel", "behind", "(I)I"⟩, 11)]
theorem lw_r2 : ∀ q ∈ lw_privs_2, lw_okq q := List.forall_mem_cons.mpr ⟨lw_p16, List.forall_mem_cons.mpr ⟨lw_p17, List.forall_mem_cons.mpr ⟨lw_p18, List.forall_mem_cons.mpr ⟨lw_p19, List.forall_mem_cons.mpr ⟨lw_p20, List.forall_mem_cons.mpr ⟨lw_p21, List.forall_mem_cons.mpr ⟨lw_p22, List.forall_mem_cons.mpr ⟨lw_p23, List.forall_mem_cons.mpr ⟨lw_p24, List.forall_mem_cons.mpr ⟨lw_p25, List.forall_mem_cons.mpr ⟨lw_p26, List.forall_mem_cons.mpr ⟨lw_p27, List.forall_mem_cons.mpr ⟨lw_p28, List.forall_mem_cons.mpr ⟨lw_p29, List.forall_mem_cons.mpr ⟨lw_p30, List.forall_mem_cons.mpr ⟨lw_p31, fun _ h => absurd h List.not_mem_nil⟩⟩⟩⟩⟩⟩⟩⟩⟩⟩⟩⟩⟩⟩⟩⟩
theorem lw_p32 : lw_okq (⟨"StampedSlotsModel", "counted", "(I)I"⟩, 11) := ⟨⟨by decide +kernel, by decide +kernel⟩, List.mem_of_getElem? (i := 804) (by decide +kernel), List.mem_of_getElem? (i := 1052) (by decide +kernel), List.mem_of_getElem? (i := 1053) (by decide +kernel)⟩
theorem lw_p33 : lw_okq (⟨"StampedSlotsModel", "used", "()I"⟩, 11) := ⟨⟨by decide +kernel, by decide +kernel⟩, List.mem_of_getElem? (i := 804) (by decide +kernel), List.mem_of_getElem? (i := 1056) (by decide +kernel), List.mem_of_getElem? (i := 1057) (by decide +kernel)⟩
theorem lw_p34 : lw_okq (⟨"StampedSlotsModel", "values", "()I"⟩, 11) := ⟨⟨by decide +kernel, by decide +kernel⟩, List.mem_of_getElem? (i := 804) (by decide +kernel), List.mem_of_getElem? (i := 1060) (by decide +kernel), List.mem_of_getElem? (i := 1061) (by decide +kernel)⟩
theorem lw_p35 : lw_okq (⟨"StampedSlotsModel", "beginsAt", "(I)I"⟩, 11) := ⟨⟨by decide +kernel, by decide +kernel⟩, List.mem_of_getElem? (i := 804) (by decide +kernel), List.mem_of_getElem? (i := 1068) (by decide +kernel), List.mem_of_getElem? (i := 1069) (by decide +kernel)⟩
theorem lw_p36 : lw_okq (⟨"StampedSlotsModel", "longest", "(I)I"⟩, 11) := ⟨⟨by decide +kernel, by decide +kernel⟩, List.mem_of_getElem? (i := 804) (by decide +kernel), List.mem_of_getElem? (i := 1076) (by decide +kernel), List.mem_of_getElem? (i := 1077) (by decide +kernel)⟩
theorem lw_p37 : lw_okq (⟨"StampedSlotsModel", "fired", "(II)I"⟩, 11) := ⟨⟨by decide +kernel, by decide +kernel⟩, List.mem_of_getElem? (i := 804) (by decide +kernel), List.mem_of_getElem? (i := 1084) (by decide +kernel), List.mem_of_getElem? (i := 1085) (by decide +kernel)⟩
theorem lw_p38 : lw_okq (⟨"StampedSlotsModel", "roomFor", "(IZ)I"⟩, 11) := ⟨⟨by decide +kernel, by decide +kernel⟩, List.mem_of_getElem? (i := 804) (by decide +kernel), List.mem_of_getElem? (i := 1092) (by decide +kernel), List.mem_of_getElem? (i := 1093) (by decide +kernel)⟩
theorem lw_p39 : lw_okq (⟨"StampedSlotsModel", "full", "()D"⟩, 11) := ⟨⟨by decide +kernel, by decide +kernel⟩, List.mem_of_getElem? (i := 804) (by decide +kernel), List.mem_of_getElem? (i := 1100) (by decide +kernel), List.mem_of_getElem? (i := 1101) (by decide +kernel)⟩
theorem lw_p40 : lw_okq (⟨"StampedSlotsModel", "mixes", "(J)V"⟩, 11) := ⟨⟨by decide +kernel, by decide +kernel⟩, List.mem_of_getElem? (i := 804) (by decide +kernel), List.mem_of_getElem? (i := 1109) (by decide +kernel), List.mem_of_getElem? (i := 1110) (by decide +kernel)⟩
theorem lw_p41 : lw_okq (⟨"StampedSlotsModel", "mixesRow", "()V"⟩, 11) := ⟨⟨by decide +kernel, by decide +kernel⟩, List.mem_of_getElem? (i := 804) (by decide +kernel), List.mem_of_getElem? (i := 1114) (by decide +kernel), List.mem_of_getElem? (i := 1115) (by decide +kernel)⟩
def lw_privs_3 : List (MethodName × Nat) := [(⟨"StampedSlotsModel", "counted", "(I)I"⟩, 11), (⟨"StampedSlotsModel", "used", "()I"⟩, 11), (⟨"StampedSlotsModel", "values", "()I"⟩, 11), (⟨"StampedSlotsModel", "beginsAt", "(I)I"⟩, 11), (⟨"StampedSlotsModel", "longest", "(I)I"⟩, 11), (⟨"StampedSlotsModel", "fired", "(II)I"⟩, 11), (⟨"StampedSlotsModel", "roomFor", "(IZ)I"⟩, 11), (⟨"StampedSlotsModel", "full", "()D"⟩, 11), (⟨"StampedSlotsModel", "mixes", "(J)V"⟩, 11), (⟨"StampedSlotsModel", "mixesRow", "()V"⟩, 11)]
theorem lw_r3 : ∀ q ∈ lw_privs_3, lw_okq q := List.forall_mem_cons.mpr ⟨lw_p32, List.forall_mem_cons.mpr ⟨lw_p33, List.forall_mem_cons.mpr ⟨lw_p34, List.forall_mem_cons.mpr ⟨lw_p35, List.forall_mem_cons.mpr ⟨lw_p36, List.forall_mem_cons.mpr ⟨lw_p37, List.forall_mem_cons.mpr ⟨lw_p38, List.forall_mem_cons.mpr ⟨lw_p39, List.forall_mem_cons.mpr ⟨lw_p40, List.forall_mem_cons.mpr ⟨lw_p41, fun _ h => absurd h List.not_mem_nil⟩⟩⟩⟩⟩⟩⟩⟩⟩⟩
def lw_privs : List (MethodName × Nat) := lw_privs_1 ++ (lw_privs_2 ++ (lw_privs_3))
def lw_tbl : List Cond := k2_sels lw_privs ++ tables_1
theorem lw_privs_ok : ∀ q ∈ lw_privs, lw_okq q := by
  show ∀ q ∈ lw_privs_1 ++ (lw_privs_2 ++ (lw_privs_3)), lw_okq q
  exact List.forall_mem_append.mpr ⟨lw_r1, List.forall_mem_append.mpr ⟨lw_r2, lw_r3⟩⟩
/-- the streams that the claim lets the run draw from -/
abbrev lw_cs : List Choice := [Jvm.Choice.named "NaN.bits"]
theorem lw_bits : nanBits ∈ lw_cs := by first | decide | exact List.mem_cons_self | simp [lw_cs, nanBits]
-- ===== end of PART A; then your names; then what follows =====
/-! ===== BEGIN exceptions that leave a method, and their catching by the caller (launches without stack traces) ===== -/
section VXA
/-! The laws vx_back, vx_callV, vx_callS, vx_callSW, vx_throw0, vx_throwS follow proofs of the library, with one case more: JvmDerived/Free/Laws.lean (Back.of_free), Shelf42/LK1.lean (callV, callS), Shelf/KitTraced.lean (throwNew0V, throwNewS). -/
/-- where a method has thrown q: the class by its name, the cell, what was written, the world -/
def vx_T (XC : String → State → State → Prop) (st : State) (q : Addr) (t : State) (mc ms : Nat) (free : Addr → Prop) : Prop :=
  ∃ (E : String) (ce : Cell) (L : List Loc), XC E st t ∧ t.heap[q]? = some ce ∧ ce.vm = .none ∧ st.vm.findClass E = some ce.cls ∧ st.WarmedH t.vm ∧ st.sameButNew ({ t with vm := st.vm } : State) L mc ms ∧ ∀ z ∈ L, free z.base
def vx_Q (Qc : Array Value → State → Outcome → State → Prop) (XC : String → State → State → Prop) (mc ms : Nat) (free : Addr → Prop) : Array Value → State → Outcome → State → Prop := fun a st o t =>
  (Qc a st o t ∧ ∃ L, FrameEnd st o t L mc ms ∧ ∀ q ∈ L, free q.base) ∨ ∃ q, o = .threw q ∧ vx_T XC st q t mc ms free
/-- a callee that returns or throws -/
def vx_Met (l : Launch) (y : MethodName) (ws : List Cond) (rm : Room) (Pc : Array Value → State → Prop) (Qc : Array Value → State → Outcome → State → Prop) (XC : String → State → State → Prop) (mc ms : Nat) (free : Addr → Prop) : Prop :=
  MetFree l y (headSpec ws rm) Pc (fun _ _ _ _ _ => True) (vx_Q Qc XC mc ms free)
def vx_Post (XC : String → State → State → Prop) (mc ms : Nat) (free : Addr → Prop) : Pt → Array Value → Addr → Pt → Prop := fun A a q B =>
  ∃ (g : JFrame) (mk : MethodId) (t : State) (L : List Loc) (E : String) (ce : Cell), B.U.heap = t.heap ∧ B.U.vm = t.vm ∧ XC E (A.U.calling g mk a) t ∧ t.heap[q]? = some ce ∧ ce.vm = .none ∧ A.U.vm.findClass E = some ce.cls ∧ B.locs = A.locs ++ L ∧ (∀ z ∈ L, free z.base) ∧ B.cells = A.cells + mc ∧ B.slots = A.slots + ms
def vx_Back (l : Launch) (R : Room) (p : Program) (e : Env) (below : List Frame) (s : State) (sargs : Array Value) (y : MethodName) (len W9 : Nat)
    (Pre : Pt → Array Value → Prop) (Post : Pt → Array Value → Option Value → Pt → Prop) (PostX : Pt → Array Value → Addr → Pt → Prop) : Prop :=
  ∀ (m : MethodId) (meth : Method) (c : Code) (A : Pt) (g : JFrame) (ig : Instr) (mk : MethodId) (a : Array Value),
    Stand p l e R s m sargs below meth c A.U A.locs A.cells A.slots → g.method = m → g.locals.size = c.maxLocals → decode c.code g.pc = .ok (ig, len) →
    2 * g.monitorRoom + (g.stack.map fun v => v.category).sum ≤ W9 → A.U.methodNamed? y = some mk → Pre A a →
    (∃ (v : Option Value) (B : Pt), Stand p l e R s m sargs below meth c B.U B.locs B.cells B.slots ∧ Post A a v B ∧
      Steps p.tables e below (doInvoke e (A.U.setTop g) [] mk a).1 (B.U.setTop { g with pc := g.pc + len, stack := v.toList ++ g.stack })) ∨
    (∃ (q : Addr) (B : Pt), Stand p l e R s m sargs below meth c B.U B.locs B.cells B.slots ∧ PostX A a q B ∧
      Steps p.tables e below (doInvoke e (A.U.setTop g) [] mk a).1 ((B.U.setTop g).pushFrame (.throwing q)))
section Payer
variable {l : Launch} {R : Room} {p : Program} {e : Env} {below : List Frame} {s : State} {sargs : Array Value} {y : MethodName} {len W9 : Nat}
theorem vx_back {ws : List Cond} {rm : Room} {Pc : Array Value → State → Prop} {Qc : Array Value → State → Outcome → State → Prop} {XC : String → State → State → Prop} {mc ms : Nat} {free : Addr → Prop} {bytes : ByteArray} {maxL : Nat} {ret : Option FieldType}
    (hM : vx_Met l y ws rm Pc Qc XC mc ms free) (hblind : FrameBlind Pc) (hrc : rm.cells = mc) (hrs : rm.slots = ms)
    (hframes : rm.frames + 1 ≤ R.frames) (hlocals : W9 + (maxL + 11) + rm.locals ≤ R.locals)
    (hws : ∀ w ∈ ws, ∀ a' U, s.WarmedH U.vm → w.before a' U = true) (hcode : Cond.code y bytes maxL ret ∈ ws) (hinit : ∀ a' U, s.WarmedH U.vm → (Cond.initialized y.cls).before a' U = true) :
    vx_Back l R p e below s sargs y len W9 (PreOf R mc ms Pc) (PostOf Qc mc ms free) (vx_Post XC mc ms free) := by
  intro m meth c A g ig mk a X hg hsize hdg hW hn hp
  have h1 : (headSpec ws rm).pre.before a A.U = true := atoms_intro fun w hw => hws w hw _ _ X.warmed
  have h2 : (Cond.code y bytes maxL ret).before a A.U = true := hws _ hcode _ _ X.warmed
  have h3 : (Cond.initialized y.cls).before a A.U = true := hinit _ _ X.warmed
  have h4 : A.cells + (headSpec ws rm).room.cells ≤ R.cells := by rw [show (headSpec ws rm).room.cells = mc from hrc]; exact hp.1
  have h5 : A.slots + (headSpec ws rm).room.slots ≤ R.slots := by rw [show (headSpec ws rm).room.slots = ms from hrs]; exact hp.2.1
  have hPc : Pc a (A.U.calling g mk a) := hblind _ _ _ _ hp.2.2
  obtain ⟨U, Ls, c0, s0⟩ := A
  dsimp only [Pt.U, Pt.locs, Pt.cells, Pt.slots] at h1 h2 h3 h4 h5 X hn hPc ⊢
  obtain ⟨methY, cY, hmY, hcY, -, hlY, -, -, -, -⟩ := Cond.code_spec hn h2
  obtain ⟨kY, hkY, -⟩ := className_of_methodNamed hn
  have hinitY : kY.init = .initialized := Cond.initialized_spec (findClass_of_methodNamed hn) hkY h3
  have h : At U g.method c below := by rw [hg]; exact X.here
  have hlocals9 : W9 + (maxL + 11) + (headSpec ws rm).room.locals ≤ R.locals := hlocals
  have happ : (headSpec ws rm).appliesLoose y e.platform (U.calling g mk a) = true :=
    Spec.appliesLoose_calling (g := g) h hdg hn hkY hinitY
      (X.room_calling (g := g) (R' := (headSpec ws rm).room) hsize hmY hcY hframes (by rw [hlY]; omega) h4 h5) h1
  obtain ⟨mid, hmid⟩ := h.above
  have hfr : (U.setTop g).frames = (.java g :: mid) ++ below := by rw [State.frames_setTop' g h.top, hmid]; rfl
  obtain ⟨o, s₂, hsteps, -, hend, hq⟩ := Steps.callFree hM p X.admits X.cas X.clock (acts := []) hfr happ hPc trivial
  have hq' : vx_Q Qc XC mc ms free a (U.calling g mk a) o s₂ := hq
  rw [State.frames_setTop' g h.top] at hend
  obtain ⟨g₀, hg0⟩ := Option.isSome_iff_exists.mp h.top
  obtain ⟨r, hr⟩ := State.topJava?_eq_some.mp hg0
  have hr' : (({ U with heap := s₂.heap, slotsUsed := s₂.slotsUsed } : State).setVm s₂.vm).frames = .java g₀ :: r := hr
  rcases hq' with ⟨hqc, L, hfe, hL⟩ | ⟨q, rfl, E, ce, L, hx, hce, hcv, hcl, hW₂, hsm, hL⟩
  · obtain ⟨⟨v, rfl⟩, hW₂, e2, q2, q3, q4, q5, q6⟩ := id hfe
    have e3 : s₂ = ({ (U.calling g mk a).setFrames s₂.frames with heap := s₂.heap, slotsUsed := s₂.slotsUsed } : State).setVm s₂.vm := by
      have : s₂ = ({ s₂ with vm := (U.calling g mk a).vm } : State).setVm s₂.vm := rfl
      rw [e2] at this
      exact this
    obtain ⟨c₂, i₂, len₂, hc₂, hd₂, hf₂⟩ := hend
    have hW' : U.WarmedH s₂.vm := hW₂
    have hcc : c₂ = c := by
      have h1 : s₂.code? g.method = U.code? g.method := by
        rw [State.code?_eq, State.code?_eq, hW'.alike.method?]
      exact Option.some.inj (hc₂.symm.trans (h1.trans h.code))
    subst hcc
    have hlen : len₂ = len := by rw [hdg] at hd₂; cases hd₂; rfl
    subst hlen
    have hs₂ : s₂ = (({ U with heap := s₂.heap, slotsUsed := s₂.slotsUsed } : State).setVm s₂.vm).setTop { g with pc := g.pc + len₂, stack := v.toList ++ g.stack } := by
      refine e3.trans ?_
      rw [hf₂, State.calling_eq h.top, State.setFrames_setFrames, State.setTop_of_frames _ hr', hr]
      rfl
    have hsame : U.sameButNew ({ U with heap := s₂.heap, slotsUsed := s₂.slotsUsed } : State) L mc ms := by
      refine ⟨?_, q2, q3, q4, q5, q6⟩
      obtain ⟨t, ht, -⟩ := State.frames_cons hr
      show ({ U with heap := s₂.heap, slotsUsed := s₂.slotsUsed } : State) = { U.setFrames U.frames with heap := s₂.heap, slotsUsed := s₂.slotsUsed }
      rw [State.setFrames_self ht]
    subst hg
    refine Or.inl ⟨v, ⟨(({ U with heap := s₂.heap, slotsUsed := s₂.slotsUsed } : State).setVm s₂.vm), Ls ++ L, c0 + mc, s0 + ms⟩,
      ⟨X.admits, X.cas, X.clock, X.frames, X.room, X.hears, X.method, X.code, (X.here.setHeapUsed s₂.heap s₂.slotsUsed).setVm hW'.alike, X.tail, State.WarmedH.trans X.warmed hW', X.limits, X.bytes, X.same.trans (hsame.setVm s.vm)⟩,
      ⟨g, mk, s₂, L, rfl, rfl, hqc, rfl, hL, rfl, rfl⟩, ?_⟩
    show Steps p.tables e below _ ((({ U with heap := s₂.heap, slotsUsed := s₂.slotsUsed } : State).setVm s₂.vm).setTop { g with pc := g.pc + len₂, stack := v.toList ++ g.stack })
    rw [← hs₂]
    exact hsteps
  · obtain ⟨e2, q2, q3, q4, q5, q6⟩ := id hsm
    have e3 : s₂ = ({ (U.calling g mk a).setFrames s₂.frames with heap := s₂.heap, slotsUsed := s₂.slotsUsed } : State).setVm s₂.vm := by
      have : s₂ = ({ s₂ with vm := (U.calling g mk a).vm } : State).setVm s₂.vm := rfl
      rw [e2] at this
      exact this
    have hf₂ : s₂.frames = .throwing q :: .java g :: U.frames.tail := hend
    have hW' : U.WarmedH s₂.vm := hW₂
    have hs₂ : s₂ = ((({ U with heap := s₂.heap, slotsUsed := s₂.slotsUsed } : State).setVm s₂.vm).setTop g).pushFrame (.throwing q) := by
      refine e3.trans ?_
      rw [hf₂, State.calling_eq h.top, State.setFrames_setFrames, State.pushFrame, State.frames_setTop _ hr', State.setTop_of_frames _ hr', State.setFrames_setFrames, hr]
      rfl
    have hsame : U.sameButNew ({ U with heap := s₂.heap, slotsUsed := s₂.slotsUsed } : State) L mc ms := by
      refine ⟨?_, q2, q3, q4, q5, q6⟩
      obtain ⟨t, ht, -⟩ := State.frames_cons hr
      show ({ U with heap := s₂.heap, slotsUsed := s₂.slotsUsed } : State) = { U.setFrames U.frames with heap := s₂.heap, slotsUsed := s₂.slotsUsed }
      rw [State.setFrames_self ht]
    subst hg
    refine Or.inr ⟨q, ⟨(({ U with heap := s₂.heap, slotsUsed := s₂.slotsUsed } : State).setVm s₂.vm), Ls ++ L, c0 + mc, s0 + ms⟩,
      ⟨X.admits, X.cas, X.clock, X.frames, X.room, X.hears, X.method, X.code, (X.here.setHeapUsed s₂.heap s₂.slotsUsed).setVm hW'.alike, X.tail, State.WarmedH.trans X.warmed hW', X.limits, X.bytes, X.same.trans (hsame.setVm s.vm)⟩,
      ⟨g, mk, s₂, L, E, ce, rfl, rfl, hx, hce, hcv, hcl, rfl, hL, rfl, rfl⟩, ?_⟩
    show Steps p.tables e below _ (((({ U with heap := s₂.heap, slotsUsed := s₂.slotsUsed } : State).setVm s₂.vm).setTop g).pushFrame (.throwing q))
    rw [← hs₂]
    exact hsteps
end Payer
section Calls
variable {p : Program} {l : Launch} {e : Env} {R : Room} {s : State} {m : MethodId} {args : Array Value} {below : List Frame} {meth : Method} {c : Code} {T : State} {locs : List Loc} {cells slots : Nat}
theorem vx_callV (X : Stand p l e R s m args below meth c T locs cells slots) (hexec : p.tables.exec = Jvm.exec) {own C : String} {index : Nat} {y : MethodName} {bytes : ByteArray} {maxL : Nat} {ret : Option FieldType}
    (hown : s.vm.findClass own = some m.cls) (hlink : (Cond.methodLink own index y).before args s = true) (hinst : (Cond.instanceMethod y).before args s = true) (hsel : (Cond.selects C y y).before args s = true)
    (hcode : (Cond.code y bytes maxL ret).before args s = true) (hy : y.cls ≠ "java/lang/invoke/MethodHandle" ∧ y.cls ≠ "java/lang/invoke/VarHandle")
    {W9 : Nat} {Pre : Pt → Array Value → Prop} {Post : Pt → Array Value → Option Value → Pt → Prop} {PostX : Pt → Array Value → Addr → Pt → Prop} (hK : vx_Back l R p e below s args y 3 W9 Pre Post PostX)
    {b : Addr} {cellB : Cell} (hcell : T.heap[b]? = some cellB) (hobj : cellB.vm.isStatics = false) (hcls : s.vm.findClass C = some cellB.cls)
    {g : JFrame} (hg : g.method = m) (hsize : g.locals.size = c.maxLocals) {argsL rest : List Value} (hlen : ∀ sig, parseMethodDescriptor y.desc = some sig → argsL.length = sig.parameters.length)
    (hstack : g.stack = argsL.reverse ++ .ref b :: rest) (hW : 2 * g.monitorRoom + (rest.map fun v => v.category).sum ≤ W9) (hdg : decode c.code g.pc = .ok (.invokevirtual index, 3))
    (hpre : ∀ vm₁, s.WarmedH vm₁ → Pre ⟨T.setVm vm₁, locs, cells, slots⟩ (Value.ref b :: argsL).toArray) :
    (∃ (v : Option Value) (vm₁ : Vm) (B : Pt), s.WarmedH vm₁ ∧ Stand p l e R s m args below meth c B.U B.locs B.cells B.slots ∧ Post ⟨T.setVm vm₁, locs, cells, slots⟩ (Value.ref b :: argsL).toArray v B ∧
      ∀ target, Steps p.tables e below (B.U.setTop { g with pc := g.pc + 3, stack := v.toList ++ rest }) target → Steps p.tables e below (T.setTop g) target) ∨
    (∃ (q : Addr) (vm₁ : Vm) (B : Pt), s.WarmedH vm₁ ∧ Stand p l e R s m args below meth c B.U B.locs B.cells B.slots ∧ PostX ⟨T.setVm vm₁, locs, cells, slots⟩ (Value.ref b :: argsL).toArray q B ∧
      Steps p.tables e below (T.setTop g) ((B.U.setTop { g with stack := rest }).pushFrame (.throwing q))) := by
  obtain ⟨mk, methM, hnamed, hmethM, hstM, habM⟩ := Cond.instanceMethod_spec hinst
  obtain ⟨methM', cM, hmethM', -, -, -, -, -, -, hsigM⟩ := Cond.code_spec hnamed hcode
  cases hmethM.symm.trans hmethM'
  obtain ⟨c2, r2, m2, q1, q2, q3, q4, kP, hkP, hkPi⟩ := Cond.selects_spec hsel
  cases hcls.symm.trans q1
  cases (State.methodFound?_of_named hnamed hy).symm.trans q2
  cases hnamed.symm.trans q3
  have hselP : selectMethod e.platform s.vm cellB.cls mk = .method mk := by rw [Launch.admits_selectMethod X.admits]; exact q4
  obtain ⟨vm₁, X₁, hstep₁⟩ := X.invokevirtual hexec hown hlink hnamed hmethM hstM hkP hkPi hy (a := b) (cell := cellB) hcell
    (fun z h => by rw [h] at hobj; cases hobj) hselP hmethM habM hkP hkPi (g := g) hg (argsL := argsL) (rest := rest) (hlen _ hsigM) hstack hdg
  rcases hK m meth c ⟨T.setVm vm₁, locs, cells, slots⟩ { g with stack := rest } (.invokevirtual index) mk (Value.ref b :: argsL).toArray X₁ hg hsize hdg hW (X₁.named hnamed) (hpre vm₁ X₁.warmed) with ⟨v, B, X', hpost, hsteps⟩ | ⟨q, B, X', hpost, hsteps⟩
  · exact Or.inl ⟨v, vm₁, B, X₁.warmed, X', hpost, fun target h => hstep₁ _ fun acts => by rw [doInvoke_state]; exact hsteps.trans h⟩
  · exact Or.inr ⟨q, vm₁, B, X₁.warmed, X', hpost, hstep₁ _ fun acts => by rw [doInvoke_state]; exact hsteps⟩
theorem vx_callS (X : Stand p l e R s m args below meth c T locs cells slots) (hexec : p.tables.exec = Jvm.exec) {own : String} {index : Nat} {y : MethodName} {bytes : ByteArray} {maxL : Nat} {ret : Option FieldType}
    (hown : s.vm.findClass own = some m.cls) (hlink : (Cond.methodLink own index y).before args s = true) (hstat : (Cond.static y).before args s = true) (hinit : (Cond.initialized y.cls).before args s = true)
    (hcode : (Cond.code y bytes maxL ret).before args s = true) (hy : y.cls ≠ "java/lang/invoke/MethodHandle" ∧ y.cls ≠ "java/lang/invoke/VarHandle")
    {W9 : Nat} {Pre : Pt → Array Value → Prop} {Post : Pt → Array Value → Option Value → Pt → Prop} {PostX : Pt → Array Value → Addr → Pt → Prop} (hK : vx_Back l R p e below s args y 3 W9 Pre Post PostX)
    {g : JFrame} (hg : g.method = m) (hsize : g.locals.size = c.maxLocals) {argsL rest : List Value} (hlen : ∀ sig, parseMethodDescriptor y.desc = some sig → argsL.length = sig.parameters.length)
    (hstack : g.stack = argsL.reverse ++ rest) (hW : 2 * g.monitorRoom + (rest.map fun v => v.category).sum ≤ W9) (hdg : decode c.code g.pc = .ok (.invokestatic index, 3))
    (hpre : ∀ vm₁, s.WarmedH vm₁ → Pre ⟨T.setVm vm₁, locs, cells, slots⟩ argsL.toArray) :
    (∃ (v : Option Value) (vm₁ : Vm) (B : Pt), s.WarmedH vm₁ ∧ Stand p l e R s m args below meth c B.U B.locs B.cells B.slots ∧ Post ⟨T.setVm vm₁, locs, cells, slots⟩ argsL.toArray v B ∧
      ∀ target, Steps p.tables e below (B.U.setTop { g with pc := g.pc + 3, stack := v.toList ++ rest }) target → Steps p.tables e below (T.setTop g) target) ∨
    (∃ (q : Addr) (vm₁ : Vm) (B : Pt), s.WarmedH vm₁ ∧ Stand p l e R s m args below meth c B.U B.locs B.cells B.slots ∧ PostX ⟨T.setVm vm₁, locs, cells, slots⟩ argsL.toArray q B ∧
      Steps p.tables e below (T.setTop g) ((B.U.setTop { g with stack := rest }).pushFrame (.throwing q))) := by
  obtain ⟨mk, hnamed⟩ := Cond.code_named hcode
  obtain ⟨methM, cM, hmethM, -, -, -, -, -, -, hsigM⟩ := Cond.code_spec hnamed hcode
  have hstatic : methM.isStatic = true := Cond.static_spec hnamed hmethM hstat
  obtain ⟨kP, hkP, -⟩ := className_of_methodNamed hnamed
  have hinitP : kP.init = .initialized := Cond.initialized_spec (findClass_of_methodNamed hnamed) hkP hinit
  obtain ⟨vm₁, X₁, hstep₁⟩ := X.invokestatic hexec hown hlink hnamed hmethM hstatic hkP hinitP hy (g := g) hg (argsL := argsL) (rest := rest) (hlen _ hsigM) hstack hdg
  rcases hK m meth c ⟨T.setVm vm₁, locs, cells, slots⟩ { g with stack := rest } (.invokestatic index) mk argsL.toArray X₁ hg hsize hdg hW (X₁.named hnamed) (hpre vm₁ X₁.warmed) with ⟨v, B, X', hpost, hsteps⟩ | ⟨q, B, X', hpost, hsteps⟩
  · exact Or.inl ⟨v, vm₁, B, X₁.warmed, X', hpost, fun target h => hstep₁ _ fun acts => by rw [doInvoke_state]; exact hsteps.trans h⟩
  · exact Or.inr ⟨q, vm₁, B, X₁.warmed, X', hpost, hstep₁ _ fun acts => by rw [doInvoke_state]; exact hsteps⟩
end Calls
theorem vx_cls {s : State} {T : State} {vm₁ : Vm} {E : String} {k : ClassId} (hW : s.WarmedH vm₁) (h : (T.setVm vm₁).vm.findClass E = some k) : s.vm.findClass E = some k := by
  have h1 : vm₁.findClass E = some k := h
  rw [hW.alike.findClass] at h1
  exact h1
/-- the method's frame g, with q thrown over it -/
def vx_W (p : Program) (l : Launch) (e : Env) (R : Room) (s : State) (m : MethodId) (args : Array Value) (below : List Frame) (meth : Method) (c : Code) (H : Heap) (locs : List Loc) (cells slots : Nat) (Q : State → Prop) (g : JFrame) (q : Addr) : Prop :=
  ∀ T : State, T.heap = H → Stand p l e R s m args below meth c T locs cells slots → ∃ t, Steps p.tables e below ((T.setTop g).pushFrame (.throwing q)) t ∧ Q t
def vx_Run (p : Program) (l : Launch) (e : Env) (R : Room) (s : State) (m : MethodId) (args : Array Value) (below : List Frame) (meth : Method) (c : Code) (H : Heap) (locs : List Loc) (cells slots mc ms : Nat) (g : JFrame) (rest : List Value) (Qa : State → Outcome → State → Prop) (XC : String → State → State → Prop) (free : Addr → Prop) : Prop :=
  ∀ T : State, T.heap = H → Stand p l e R s m args below meth c T locs cells slots →
    (∃ (v : Option Value) (st₀ t T' : State) (L : List Loc), st₀.heap = H ∧ Stand p l e R s m args below meth c T' (locs ++ L) (cells + mc) (slots + ms) ∧ (∀ q ∈ L, free q.base) ∧ T'.heap = t.heap ∧ T'.vm = t.vm ∧ Qa st₀ (.returned v) t ∧
      Goes p e below T g T' { g with pc := g.pc + 3, stack := v.toList ++ rest }) ∨
    (∃ (q : Addr) (st₀ t T' : State) (L : List Loc) (E : String) (ce : Cell), st₀.heap = H ∧ Stand p l e R s m args below meth c T' (locs ++ L) (cells + mc) (slots + ms) ∧ (∀ z ∈ L, free z.base) ∧ T'.heap = t.heap ∧ T'.vm = t.vm ∧ XC E st₀ t ∧ t.heap[q]? = some ce ∧ ce.vm = .none ∧ s.vm.findClass E = some ce.cls ∧
      Steps p.tables e below (T.setTop g) ((T'.setTop { g with stack := rest }).pushFrame (.throwing q)))
def vx_X {S : Type} (px : S → Prop) (B : String → S → State → Prop) (A : Nat → Prop) : String → State → State → Prop := fun E st t => ∃ u : S, px u ∧ B E u t ∧ va_F A st t
section Runs
variable {p : Program} {l : Launch} {e : Env} {R : Room} {s : State} {m : MethodId} {args : Array Value} {below : List Frame} {meth : Method} {c : Code} {H : Heap} {locs : List Loc} {cells slots : Nat}
variable {y : MethodName} {bytes cc : ByteArray} {maxL nL mc ms n index : Nat} {ret : Option FieldType} {ws : List Cond} {rm : Room} {Pc : Array Value → State → Prop} {Qc : Array Value → State → Outcome → State → Prop} {XC : String → State → State → Prop} {free : Addr → Prop} {Ts : List Cond} {own C : String} {b : Addr} {As rest : List Value} {g : JFrame}
theorem vx_callBack (cb : CallB R s args own index y bytes maxL ret ws rm mc ms n) (hM : vx_Met l y ws rm Pc Qc XC mc ms free) (hbl : FrameBlind Pc) : vx_Back l R p e below s args y 3 8 (PreOf R mc ms Pc) (PostOf Qc mc ms free) (vx_Post XC mc ms free) := by
  obtain ⟨hrc, hrs, hfr, hlo, hws, hcw, -, hini, -⟩ := cb
  exact vx_back (bytes := bytes) (maxL := maxL) (ret := ret) hM hbl hrc hrs hfr hlo hws hcw (fun a' U hW => word_at hW (Or.inl (by first | rfl | simp [Cond.onTables, Cond.keeps, Cond.steady])) hini)
theorem vx_runV (S : CallFix p m c cc nL s args Ts own) (hM : vx_Met l y ws rm Pc Qc XC mc ms free) (cw : CallW R s args own C index y bytes maxL ret ws rm mc ms n) (hp : PreV s H C b Pc As)
    (hg : g.method = m) (hn : As.length = n) (hsize : g.locals.size = nL) (hstack : g.stack = As.reverse ++ .ref b :: rest) (hW : 2 * g.monitorRoom + (rest.map fun v => v.category).sum ≤ 8) (hdg : decode cc g.pc = .ok (.invokevirtual index, 3)) (hf : cells + mc ≤ R.cells ∧ slots + ms ≤ R.slots) :
    vx_Run p l e R s m args below meth c H locs cells slots mc ms g rest (Qc (Value.ref b :: As).toArray) XC free := by
  have hK : vx_Back l R p e below s args y 3 8 (PreOf R mc ms Pc) (PostOf Qc mc ms free) (vx_Post XC mc ms free) := vx_callBack cw.1 hM hp.1
  obtain ⟨⟨-, -, -, -, -, -, hcode, -, hy, hlen, hl⟩, hin, hse⟩ := cw
  obtain ⟨hx, hb, hml, ho, -⟩ := S
  obtain ⟨-, ⟨cellB, hcB, hoB, hclB⟩, hPc⟩ := hp
  intro T hT X
  rcases vx_callV X hx (C := C) (bytes := bytes) (maxL := maxL) (ret := ret) ho hl hin hse hcode hy hK (by rw [hT]; exact hcB) hoB hclB hg (hsize.trans hml.symm) (argsL := As) (rest := rest) (fun sig h => hn.trans (hlen sig h)) hstack hW (by rw [hb]; exact hdg)
    (fun vm₁ hW₁ => ⟨hf.1, hf.2, hPc (T.setVm vm₁) hT hW₁⟩) with ⟨v, vm₁, ⟨U', l2, c2, s2⟩, hW₁, X', ⟨g', mk, t, L, e1, e2, hq, h1, hL, h2, h3⟩, st⟩ | ⟨q, vm₁, ⟨U', l2, c2, s2⟩, hW₁, X', ⟨g', mk, t, L, E, ce, e1, e2, hq, hce, hcv, hcl, h1, hL, h2, h3⟩, st⟩
  · dsimp only [Pt.U, Pt.locs, Pt.cells, Pt.slots] at X' e1 e2 h1 h2 h3 st
    subst h1; subst h2; subst h3
    exact Or.inl ⟨v, (T.setVm vm₁).calling g' mk (Value.ref b :: As).toArray, t, U', L, hT, X', hL, e1, e2, hq, st⟩
  · dsimp only [Pt.U, Pt.locs, Pt.cells, Pt.slots] at X' e1 e2 h1 h2 h3 st hcl
    subst h1; subst h2; subst h3
    exact Or.inr ⟨q, (T.setVm vm₁).calling g' mk (Value.ref b :: As).toArray, t, U', L, E, ce, hT, X', hL, e1, e2, hq, hce, hcv, vx_cls hW₁ hcl, st⟩
theorem vx_runS (S : CallFix p m c cc nL s args Ts own) (hM : vx_Met l y ws rm Pc Qc XC mc ms free) (cw : CallB R s args own index y bytes maxL ret ws rm mc ms n ∧ (Cond.static y).before args s = true) (hp : PreS s H Pc As)
    (hg : g.method = m) (hn : As.length = n) (hsize : g.locals.size = nL) (hstack : g.stack = As.reverse ++ rest) (hW : 2 * g.monitorRoom + (rest.map fun v => v.category).sum ≤ 8) (hdg : decode cc g.pc = .ok (.invokestatic index, 3)) (hf : cells + mc ≤ R.cells ∧ slots + ms ≤ R.slots) :
    vx_Run p l e R s m args below meth c H locs cells slots mc ms g rest (Qc As.toArray) XC free := by
  have hK : vx_Back l R p e below s args y 3 8 (PreOf R mc ms Pc) (PostOf Qc mc ms free) (vx_Post XC mc ms free) := vx_callBack cw.1 hM hp.1
  obtain ⟨⟨-, -, -, -, -, -, hcode, hini, hy, hlen, hl⟩, hstt⟩ := cw
  obtain ⟨hx, hb, hml, ho, -⟩ := S
  intro T hT X
  rcases vx_callS X hx (bytes := bytes) (maxL := maxL) (ret := ret) ho hl hstt hini hcode hy hK hg (hsize.trans hml.symm) (argsL := As) (rest := rest) (fun sig h => hn.trans (hlen sig h)) hstack hW (by rw [hb]; exact hdg)
    (fun vm₁ hW₁ => ⟨hf.1, hf.2, hp.2 (T.setVm vm₁) hT hW₁⟩) with ⟨v, vm₁, ⟨U', l2, c2, s2⟩, hW₁, X', ⟨g', mk, t, L, e1, e2, hq, h1, hL, h2, h3⟩, st⟩ | ⟨q, vm₁, ⟨U', l2, c2, s2⟩, hW₁, X', ⟨g', mk, t, L, E, ce, e1, e2, hq, hce, hcv, hcl, h1, hL, h2, h3⟩, st⟩
  · dsimp only [Pt.U, Pt.locs, Pt.cells, Pt.slots] at X' e1 e2 h1 h2 h3 st
    subst h1; subst h2; subst h3
    exact Or.inl ⟨v, (T.setVm vm₁).calling g' mk As.toArray, t, U', L, hT, X', hL, e1, e2, hq, st⟩
  · dsimp only [Pt.U, Pt.locs, Pt.cells, Pt.slots] at X' e1 e2 h1 h2 h3 st hcl
    subst h1; subst h2; subst h3
    exact Or.inr ⟨q, (T.setVm vm₁).calling g' mk As.toArray, t, U', L, E, ce, hT, X', hL, e1, e2, hq, hce, hcv, vx_cls hW₁ hcl, st⟩
end Runs
section Rows
variable {p : Program} {l : Launch} {e : Env} {R : Room} {s : State} {m : MethodId} {args : Array Value} {below : List Frame} {meth : Method} {c : Code} {H : Heap} {locs : List Loc} {cells slots : Nat} {Q : State → Prop}
variable {mc ms : Nat} {free : Addr → Prop} {A0 A1 : Nat → Prop} {H0 : Heap} {a : Array Value} {pc : Nat} {ls : Array Slot} {st0 rest : List Value}
theorem vx_keep {st₀ t T' : State} {L : List Loc} (h0 : st₀.heap = H) (e1 : T'.heap = t.heap) (hS : va_S A0 H0 H locs) (hA : ∀ q, q < H.size → A1 q → A0 q) (hf : ∀ q, free q → A0 q) (hL : ∀ q ∈ L, free q.base) (hF : va_F A1 st₀ t) :
    H.size ≤ T'.heap.size ∧ (∀ q : Nat, q < H.size → ¬ A1 q → T'.heap[q]? = H[q]?) ∧ va_S A0 H0 T'.heap (locs ++ L) := by
  obtain ⟨hz, hk⟩ := hF
  rw [h0] at hz hk
  exact ⟨by rw [e1]; exact hz, fun q h1 h2 => by rw [e1]; exact hk q h1 h2,
    ⟨Nat.le_trans hS.1 (by rw [e1]; exact hz), fun q h1 h2 => by rw [e1, hk q (Nat.lt_of_lt_of_le h1 hS.1) (fun z => h2 (hA q (Nat.lt_of_lt_of_le h1 hS.1) z))]; exact hS.2.1 q h1 h2, fun q hq => by
      rcases List.mem_append.mp hq with h | h
      · exact hS.2.2 q h
      · exact hf _ (hL q h)⟩⟩
theorem vx_calli {S SX : Type} {post : Int32 → S → Prop} {px : SX → Prop} {B : S → State → Prop} {BX : String → SX → State → Prop} {AX : Nat → Prop} (hr : vx_Run p l e R s m args below meth c H locs cells slots mc ms (F0 m pc ls st0) rest (va_Qi post B A1 a) (vx_X px BX AX) free) (hS : va_S A0 H0 H locs) (hA : ∀ q, q < H.size → A1 q → A0 q) (hf : ∀ q, free q → A0 q) (hAX : ∀ q, q < H.size → AX q → A0 q)
    (kx : ∀ (E : String) (ce : Cell) (q9 : Addr) (u : SX) (t : State) (H1 : Heap) (locs1 : List Loc), t.heap = H1 → s.vm.Alike t.vm → px u → BX E u t → H.size ≤ H1.size → (∀ q : Nat, q < H.size → ¬ AX q → H1[q]? = H[q]?) → va_S A0 H0 H1 locs1 → H1[q9]? = some ce → ce.vm = .none → s.vm.findClass E = some ce.cls → vx_W p l e R s m args below meth c H1 locs1 (cells + mc) (slots + ms) Q (F0 m pc ls rest) q9)
    (kk : ∀ (r : Int32) (u : S) (t : State) (H1 : Heap) (locs1 : List Loc), t.heap = H1 → s.vm.Alike t.vm → post r u → B u t → H.size ≤ H1.size → (∀ q : Nat, q < H.size → ¬ A1 q → H1[q]? = H[q]?) → va_S A0 H0 H1 locs1 → W p l e R s m args below meth c H1 locs1 (cells + mc) (slots + ms) Q (F0 m (pc + 3) ls (.int r :: rest))) : W p l e R s m args below meth c H locs cells slots Q (F0 m pc ls st0) := by
  intro T hT X
  rcases hr T hT X with ⟨v, st₀, t, T', L, h0, X', hL, e1, e2, ⟨⟨r, u, hv, hp, hb⟩, hF⟩, st⟩ | ⟨q, st₀, t, T', L, E, ce, h0, X', hL, e1, e2, ⟨u, hp, hb, hF⟩, hce, hcv, hcl, st⟩
  · cases hv
    obtain ⟨k1, k2, k3⟩ := vx_keep h0 e1 hS hA hf hL hF
    obtain ⟨t2, a1, b1⟩ := kk r u t T'.heap (locs ++ L) e1.symm (by rw [← e2]; exact X'.warmed.alike) hp hb k1 k2 k3 T' rfl X'
    exact ⟨t2, st t2 a1, b1⟩
  · obtain ⟨k1, k2, k3⟩ := vx_keep h0 e1 hS hAX hf hL hF
    obtain ⟨t2, a1, b1⟩ := kx E ce q u t T'.heap (locs ++ L) e1.symm (by rw [← e2]; exact X'.warmed.alike) hp hb k1 k2 k3 (by rw [e1]; exact hce) hcv hcl T' rfl X'
    exact ⟨t2, st.trans a1, b1⟩
theorem vx_calll {S SX : Type} {post : Int64 → S → Prop} {px : SX → Prop} {B : S → State → Prop} {BX : String → SX → State → Prop} {AX : Nat → Prop} (hr : vx_Run p l e R s m args below meth c H locs cells slots mc ms (F0 m pc ls st0) rest (va_Ql post B A1 a) (vx_X px BX AX) free) (hS : va_S A0 H0 H locs) (hA : ∀ q, q < H.size → A1 q → A0 q) (hf : ∀ q, free q → A0 q) (hAX : ∀ q, q < H.size → AX q → A0 q)
    (kx : ∀ (E : String) (ce : Cell) (q9 : Addr) (u : SX) (t : State) (H1 : Heap) (locs1 : List Loc), t.heap = H1 → s.vm.Alike t.vm → px u → BX E u t → H.size ≤ H1.size → (∀ q : Nat, q < H.size → ¬ AX q → H1[q]? = H[q]?) → va_S A0 H0 H1 locs1 → H1[q9]? = some ce → ce.vm = .none → s.vm.findClass E = some ce.cls → vx_W p l e R s m args below meth c H1 locs1 (cells + mc) (slots + ms) Q (F0 m pc ls rest) q9)
    (kk : ∀ (r : Int64) (u : S) (t : State) (H1 : Heap) (locs1 : List Loc), t.heap = H1 → s.vm.Alike t.vm → post r u → B u t → H.size ≤ H1.size → (∀ q : Nat, q < H.size → ¬ A1 q → H1[q]? = H[q]?) → va_S A0 H0 H1 locs1 → W p l e R s m args below meth c H1 locs1 (cells + mc) (slots + ms) Q (F0 m (pc + 3) ls (.long r :: rest))) : W p l e R s m args below meth c H locs cells slots Q (F0 m pc ls st0) := by
  intro T hT X
  rcases hr T hT X with ⟨v, st₀, t, T', L, h0, X', hL, e1, e2, ⟨⟨r, u, hv, hp, hb⟩, hF⟩, st⟩ | ⟨q, st₀, t, T', L, E, ce, h0, X', hL, e1, e2, ⟨u, hp, hb, hF⟩, hce, hcv, hcl, st⟩
  · cases hv
    obtain ⟨k1, k2, k3⟩ := vx_keep h0 e1 hS hA hf hL hF
    obtain ⟨t2, a1, b1⟩ := kk r u t T'.heap (locs ++ L) e1.symm (by rw [← e2]; exact X'.warmed.alike) hp hb k1 k2 k3 T' rfl X'
    exact ⟨t2, st t2 a1, b1⟩
  · obtain ⟨k1, k2, k3⟩ := vx_keep h0 e1 hS hAX hf hL hF
    obtain ⟨t2, a1, b1⟩ := kx E ce q u t T'.heap (locs ++ L) e1.symm (by rw [← e2]; exact X'.warmed.alike) hp hb k1 k2 k3 (by rw [e1]; exact hce) hcv hcl T' rfl X'
    exact ⟨t2, st.trans a1, b1⟩
theorem vx_callf {S SX : Type} {post : UInt32 → S → Prop} {px : SX → Prop} {B : S → State → Prop} {BX : String → SX → State → Prop} {AX : Nat → Prop} (hr : vx_Run p l e R s m args below meth c H locs cells slots mc ms (F0 m pc ls st0) rest (va_Qf post B A1 a) (vx_X px BX AX) free) (hS : va_S A0 H0 H locs) (hA : ∀ q, q < H.size → A1 q → A0 q) (hf : ∀ q, free q → A0 q) (hAX : ∀ q, q < H.size → AX q → A0 q)
    (kx : ∀ (E : String) (ce : Cell) (q9 : Addr) (u : SX) (t : State) (H1 : Heap) (locs1 : List Loc), t.heap = H1 → s.vm.Alike t.vm → px u → BX E u t → H.size ≤ H1.size → (∀ q : Nat, q < H.size → ¬ AX q → H1[q]? = H[q]?) → va_S A0 H0 H1 locs1 → H1[q9]? = some ce → ce.vm = .none → s.vm.findClass E = some ce.cls → vx_W p l e R s m args below meth c H1 locs1 (cells + mc) (slots + ms) Q (F0 m pc ls rest) q9)
    (kk : ∀ (r : UInt32) (u : S) (t : State) (H1 : Heap) (locs1 : List Loc), t.heap = H1 → s.vm.Alike t.vm → post r u → B u t → H.size ≤ H1.size → (∀ q : Nat, q < H.size → ¬ A1 q → H1[q]? = H[q]?) → va_S A0 H0 H1 locs1 → W p l e R s m args below meth c H1 locs1 (cells + mc) (slots + ms) Q (F0 m (pc + 3) ls (.float r :: rest))) : W p l e R s m args below meth c H locs cells slots Q (F0 m pc ls st0) := by
  intro T hT X
  rcases hr T hT X with ⟨v, st₀, t, T', L, h0, X', hL, e1, e2, ⟨⟨r, u, hv, hp, hb⟩, hF⟩, st⟩ | ⟨q, st₀, t, T', L, E, ce, h0, X', hL, e1, e2, ⟨u, hp, hb, hF⟩, hce, hcv, hcl, st⟩
  · cases hv
    obtain ⟨k1, k2, k3⟩ := vx_keep h0 e1 hS hA hf hL hF
    obtain ⟨t2, a1, b1⟩ := kk r u t T'.heap (locs ++ L) e1.symm (by rw [← e2]; exact X'.warmed.alike) hp hb k1 k2 k3 T' rfl X'
    exact ⟨t2, st t2 a1, b1⟩
  · obtain ⟨k1, k2, k3⟩ := vx_keep h0 e1 hS hAX hf hL hF
    obtain ⟨t2, a1, b1⟩ := kx E ce q u t T'.heap (locs ++ L) e1.symm (by rw [← e2]; exact X'.warmed.alike) hp hb k1 k2 k3 (by rw [e1]; exact hce) hcv hcl T' rfl X'
    exact ⟨t2, st.trans a1, b1⟩
theorem vx_calld {S SX : Type} {post : UInt64 → S → Prop} {px : SX → Prop} {B : S → State → Prop} {BX : String → SX → State → Prop} {AX : Nat → Prop} (hr : vx_Run p l e R s m args below meth c H locs cells slots mc ms (F0 m pc ls st0) rest (va_Qd post B A1 a) (vx_X px BX AX) free) (hS : va_S A0 H0 H locs) (hA : ∀ q, q < H.size → A1 q → A0 q) (hf : ∀ q, free q → A0 q) (hAX : ∀ q, q < H.size → AX q → A0 q)
    (kx : ∀ (E : String) (ce : Cell) (q9 : Addr) (u : SX) (t : State) (H1 : Heap) (locs1 : List Loc), t.heap = H1 → s.vm.Alike t.vm → px u → BX E u t → H.size ≤ H1.size → (∀ q : Nat, q < H.size → ¬ AX q → H1[q]? = H[q]?) → va_S A0 H0 H1 locs1 → H1[q9]? = some ce → ce.vm = .none → s.vm.findClass E = some ce.cls → vx_W p l e R s m args below meth c H1 locs1 (cells + mc) (slots + ms) Q (F0 m pc ls rest) q9)
    (kk : ∀ (r : UInt64) (u : S) (t : State) (H1 : Heap) (locs1 : List Loc), t.heap = H1 → s.vm.Alike t.vm → post r u → B u t → H.size ≤ H1.size → (∀ q : Nat, q < H.size → ¬ A1 q → H1[q]? = H[q]?) → va_S A0 H0 H1 locs1 → W p l e R s m args below meth c H1 locs1 (cells + mc) (slots + ms) Q (F0 m (pc + 3) ls (.double r :: rest))) : W p l e R s m args below meth c H locs cells slots Q (F0 m pc ls st0) := by
  intro T hT X
  rcases hr T hT X with ⟨v, st₀, t, T', L, h0, X', hL, e1, e2, ⟨⟨r, u, hv, hp, hb⟩, hF⟩, st⟩ | ⟨q, st₀, t, T', L, E, ce, h0, X', hL, e1, e2, ⟨u, hp, hb, hF⟩, hce, hcv, hcl, st⟩
  · cases hv
    obtain ⟨k1, k2, k3⟩ := vx_keep h0 e1 hS hA hf hL hF
    obtain ⟨t2, a1, b1⟩ := kk r u t T'.heap (locs ++ L) e1.symm (by rw [← e2]; exact X'.warmed.alike) hp hb k1 k2 k3 T' rfl X'
    exact ⟨t2, st t2 a1, b1⟩
  · obtain ⟨k1, k2, k3⟩ := vx_keep h0 e1 hS hAX hf hL hF
    obtain ⟨t2, a1, b1⟩ := kx E ce q u t T'.heap (locs ++ L) e1.symm (by rw [← e2]; exact X'.warmed.alike) hp hb k1 k2 k3 (by rw [e1]; exact hce) hcv hcl T' rfl X'
    exact ⟨t2, st.trans a1, b1⟩
theorem vx_callv {S SX : Type} {post : S → Prop} {px : SX → Prop} {B : S → State → Prop} {BX : String → SX → State → Prop} {AX : Nat → Prop} (hr : vx_Run p l e R s m args below meth c H locs cells slots mc ms (F0 m pc ls st0) rest (va_Qv post B A1 a) (vx_X px BX AX) free) (hS : va_S A0 H0 H locs) (hA : ∀ q, q < H.size → A1 q → A0 q) (hf : ∀ q, free q → A0 q) (hAX : ∀ q, q < H.size → AX q → A0 q)
    (kx : ∀ (E : String) (ce : Cell) (q9 : Addr) (u : SX) (t : State) (H1 : Heap) (locs1 : List Loc), t.heap = H1 → s.vm.Alike t.vm → px u → BX E u t → H.size ≤ H1.size → (∀ q : Nat, q < H.size → ¬ AX q → H1[q]? = H[q]?) → va_S A0 H0 H1 locs1 → H1[q9]? = some ce → ce.vm = .none → s.vm.findClass E = some ce.cls → vx_W p l e R s m args below meth c H1 locs1 (cells + mc) (slots + ms) Q (F0 m pc ls rest) q9)
    (kk : ∀ (u : S) (t : State) (H1 : Heap) (locs1 : List Loc), t.heap = H1 → s.vm.Alike t.vm → post u → B u t → H.size ≤ H1.size → (∀ q : Nat, q < H.size → ¬ A1 q → H1[q]? = H[q]?) → va_S A0 H0 H1 locs1 → W p l e R s m args below meth c H1 locs1 (cells + mc) (slots + ms) Q (F0 m (pc + 3) ls (rest))) : W p l e R s m args below meth c H locs cells slots Q (F0 m pc ls st0) := by
  intro T hT X
  rcases hr T hT X with ⟨v, st₀, t, T', L, h0, X', hL, e1, e2, ⟨⟨u, hv, hp, hb⟩, hF⟩, st⟩ | ⟨q, st₀, t, T', L, E, ce, h0, X', hL, e1, e2, ⟨u, hp, hb, hF⟩, hce, hcv, hcl, st⟩
  · cases hv
    obtain ⟨k1, k2, k3⟩ := vx_keep h0 e1 hS hA hf hL hF
    obtain ⟨t2, a1, b1⟩ := kk u t T'.heap (locs ++ L) e1.symm (by rw [← e2]; exact X'.warmed.alike) hp hb k1 k2 k3 T' rfl X'
    exact ⟨t2, st t2 a1, b1⟩
  · obtain ⟨k1, k2, k3⟩ := vx_keep h0 e1 hS hAX hf hL hF
    obtain ⟨t2, a1, b1⟩ := kx E ce q u t T'.heap (locs ++ L) e1.symm (by rw [← e2]; exact X'.warmed.alike) hp hb k1 k2 k3 (by rw [e1]; exact hce) hcv hcl T' rfl X'
    exact ⟨t2, st.trans a1, b1⟩
/-- caught by the row x of this method's table; the rows ahead don't take it -/
theorem vx_catch {own name : String} {E : String} {ce : Cell} {q : Addr} (hown : s.vm.findClass own = some m.cls) (pre : List ExceptionTableEntry) (x : ExceptionTableEntry) (suf : List ExceptionTableEntry) (hsplit : c.exceptionTable.toList = pre ++ x :: suf)
    (hpass : ∀ z ∈ pre, covers z pc = false ∨ (z.catchType ≠ 0 ∧ ∃ nm : String, (Cond.classLink own z.catchType nm).before args s = true ∧ va_Nc E nm s)) (hx : covers x pc = true) (h0 : x.catchType ≠ 0)
    (hlink : (Cond.classLink own x.catchType name).before args s = true) (hcast : (Cond.castable E name).before args s = true) (hcell : H[q]? = some ce) (hv : ce.vm = .none) (hcl : s.vm.findClass E = some ce.cls)
    (kk : W p l e R s m args below meth c H locs cells slots Q (F0 m x.handlerPc ls [.ref q])) : vx_W p l e R s m args below meth c H locs cells slots Q (F0 m pc ls rest) q := by
  intro T hT X
  have hpl : e.platform.magicAccessors = ({} : Platform).magicAccessors := by rw [X.admits.platform]
  obtain ⟨c3, c4, hc3, hc4, hasg⟩ := Cond.castable_spec hcast
  cases Option.some.inj (hc3.symm.trans hcl)
  obtain ⟨c5, hc5, hcl5⟩ := Cond.classLink_spec hown hlink e.platform hpl
  cases Option.some.inj (hc4.symm.trans hc5)
  obtain ⟨vm', X', st⟩ := X.thenCaughtThrough q (g := F0 m pc ls rest) rfl (Steps.refl _) (by rw [hT]; exact hcell) (by rw [hv]; rfl) (by obtain ⟨k9, h9, -⟩ := Vm.findClass_spec hcl; exact ⟨k9, h9⟩) pre x suf hsplit
    (fun z hz => by
      rcases hpass z hz with h | ⟨hz0, nm, hl1, hn1⟩
      · exact Or.inl h
      · obtain ⟨c6, hc6, hcl6⟩ := Cond.classLink_spec hown hl1 e.platform hpl
        obtain ⟨a8, b8, h1, h2, h3⟩ := hn1
        cases Option.some.inj (h1.symm.trans hcl)
        cases Option.some.inj (h2.symm.trans hc6)
        exact Or.inr ⟨hz0, _, hcl6, h3⟩) hx (Or.inr ⟨h0, c4, hcl5, hasg⟩)
  obtain ⟨t, a1, b1⟩ := kk (T.setVm vm') hT X'
  exact ⟨t, st.trans a1, b1⟩
end Rows
section Ends
variable {p : Program} {l : Launch} {e : Env} {R : Room} {s : State} {m : MethodId} {args : Array Value} {below : List Frame} {meth : Method} {c : Code} {H : Heap} {locs : List Loc} {cells slots : Nat} {Q : State → Prop}
variable {mc ms : Nat} {free : Addr → Prop} {A0 A1 : Nat → Prop} {H0 : Heap} {a : Array Value} {ls : Array Slot} {st0 rest : List Value}
variable {Qc : Array Value → State → Outcome → State → Prop} {XC : String → State → State → Prop}
/-- what a body that may throw owes at its end -/
def vx_MQ (below : List Frame) (Qc : Array Value → State → Outcome → State → Prop) (XC : String → State → State → Prop) (a : Array Value) (s : State) (mc ms : Nat) (free : Addr → Prop) : State → Prop := fun t =>
  ∃ o, t.status = .running ∧ Ended t below o ∧ vx_Q Qc XC mc ms free a s o t
theorem vx_ret {g : JFrame} {mc ms : Nat} (k : W p l e R s m args below meth c H locs cells slots (MQ below Qc args s mc ms free) g) : W p l e R s m args below meth c H locs cells slots (vx_MQ below Qc XC args s mc ms free) g := by
  intro T hT X
  obtain ⟨t, a1, o, b1, b2, b3, b4⟩ := k T hT X
  exact ⟨t, a1, o, b1, b2, Or.inl ⟨b3, b4⟩⟩
/-- not caught here: it goes on to the caller -/
theorem vx_widen {g : JFrame} {q : Addr} {k n : Nat} (h1 : cells ≤ k) (h2 : slots ≤ n) (kk : vx_W p l e R s m args below meth c H locs k n Q g q) : vx_W p l e R s m args below meth c H locs cells slots Q g q := fun T hT X => kk T hT (stand_widen X h1 h2)
theorem vx_out {pc : Nat} {E : String} {ce : Cell} {q : Addr} {mc ms : Nat} (hout : ∀ x ∈ c.exceptionTable.toList, covers x pc = false) (hlocks : meth.locks = false) (hcell : H[q]? = some ce) (hv : ce.vm = .none) (hcl : s.vm.findClass E = some ce.cls)
    (hx : ∀ t : State, t.heap = H → s.vm.Alike t.vm → XC E s t) (hf : ∀ z ∈ locs, free z.base) (hc : cells ≤ mc) (hs : slots ≤ ms) :
    vx_W p l e R s m args below meth c H locs cells slots (vx_MQ below Qc XC args s mc ms free) (F0 m pc ls rest) q := by
  intro T hT X
  obtain ⟨st1, hrun, hend, hW, hsm⟩ := X.leaveThrown q (g := F0 m pc ls rest) rfl rfl rfl hout hlocks
  have hcell9 : (T.setFrames (.throwing q :: below)).heap[q]? = some ce := by
    show T.heap[q]? = some ce
    rw [hT]; exact hcell
  exact ⟨_, st1, .threw q, hrun, hend, Or.inr ⟨q, rfl, E, ce, locs, hx _ hT hW.alike, hcell9, hv, hcl, hW, hsm.mono hc hs, hf⟩⟩
theorem vx_frame {U : State} {k n : Nat} (h : s.sameButNew ({ U with vm := s.vm } : State) locs k n) : s.heap.size ≤ U.heap.size ∧ ∀ q : Nat, q < s.heap.size → (∀ z ∈ locs, z.base ≠ q) → U.heap[q]? = s.heap[q]? := by
  obtain ⟨-, h2, -, -, -, h6⟩ := h
  refine ⟨h2, fun q hq hz => ?_⟩
  obtain ⟨c9, e1, e2, e3, e4⟩ := h6 q _ (Array.getElem?_eq_getElem hq)
  have hs : c9.slots = (s.heap[q]).slots := Array.ext_getElem? fun i => e4 i fun hm => hz _ hm rfl
  have h9 : c9 = s.heap[q] := by
    rw [hs] at e2
    exact e2
  have e5 : U.heap[q]? = some c9 := e1
  rw [e5, h9, Array.getElem?_eq_getElem hq]
/-- the words of a throw but the four that speak of the heap -/
def vx_no (w : Cond) : Bool := decide (w ≠ .isRef (.static Bundle.tN "UNASSIGNED_STACK" Bundle.steD)) && decide (w ≠ .isRef (.static Bundle.tN "SUPPRESSED_SENTINEL" Bundle.listD)) && decide (w ≠ .laysStatic Bundle.tN "UNASSIGNED_STACK" Bundle.steD) && decide (w ≠ .laysStatic Bundle.tN "SUPPRESSED_SENTINEL" Bundle.listD)
def vx_at0 (own : String) (ic : Nat) (X : String) (names : List String) : List Cond := (Bundle.ownAtoms0 own ic X names).filter vx_no
def vx_atS (own : String) (ic : Nat) (X : String) (names : List String) : List Cond := (Bundle.ownAtoms own ic X names).filter vx_no
/-- a word that the tables alone decide, or a good one -/
def vx_ot (w : Cond) : Bool := w.onTables || goodWord w
theorem vx_ot_at {args a' : Array Value} {s U : State} {w : Cond} (hW : s.WarmedH U.vm) (hvm : s.vm = U.vm) (hg : vx_ot w = true) (h : w.before args s = true) : w.before a' U = true := by
  simp only [vx_ot, Bool.or_eq_true] at hg
  rcases hg with hg | hg
  · exact va_tabs hg hvm h
  · exact word_at hW (good_of_word hg) h
/-- a list's words: the good ones out of the method's own list, the others by premises of their own -/
theorem vx_hat {args : Array Value} {s : State} {L B : List Cond} (h1 : ∀ w ∈ L.filter goodWord, w.before args s = true) (h2 : ∀ w ∈ L.filter (fun w => !goodWord w), w ∈ B) (h3 : ∀ w ∈ B, w.before args s = true) : ∀ w ∈ L, w.before args s = true := by
  intro w hw
  by_cases g : goodWord w = true
  · exact h1 w (List.mem_filter.mpr ⟨hw, g⟩)
  · refine h3 w (h2 w (List.mem_filter.mpr ⟨hw, ?_⟩))
    show (!goodWord w) = true
    cases hgw : goodWord w
    · rfl
    · exact absurd hgw g
theorem vx_c {args : Array Value} {s : State} {w : Cond} {B : List Cond} (h : w.before args s = true) (t : ∀ w ∈ B, w.before args s = true) : ∀ w' ∈ w :: B, w'.before args s = true := fun w' h' => (List.mem_cons.mp h').elim (fun e => by rw [e]; exact h) (t w')
theorem vx_n {args : Array Value} {s : State} : ∀ w ∈ ([] : List Cond), w.before args s = true := fun _ h => nomatch h
theorem vx_own {args : Array Value} {s : State} {L : List Cond} (h1 : ∀ w ∈ L.filter vx_no, w.before args s = true)
    (hU : (Cond.isRef (.static Bundle.tN "UNASSIGNED_STACK" Bundle.steD)).before args s = true) (hN : (Cond.isRef (.static Bundle.tN "SUPPRESSED_SENTINEL" Bundle.listD)).before args s = true)
    (lU : (Cond.laysStatic Bundle.tN "UNASSIGNED_STACK" Bundle.steD).before args s = true) (lN : (Cond.laysStatic Bundle.tN "SUPPRESSED_SENTINEL" Bundle.listD).before args s = true) : ∀ w ∈ L, w.before args s = true := by
  intro w hw
  by_cases e1 : w = .isRef (.static Bundle.tN "UNASSIGNED_STACK" Bundle.steD)
  · rw [e1]; exact hU
  · by_cases e2 : w = .isRef (.static Bundle.tN "SUPPRESSED_SENTINEL" Bundle.listD)
    · rw [e2]; exact hN
    · by_cases e3 : w = .laysStatic Bundle.tN "UNASSIGNED_STACK" Bundle.steD
      · rw [e3]; exact lU
      · by_cases e4 : w = .laysStatic Bundle.tN "SUPPRESSED_SENTINEL" Bundle.listD
        · rw [e4]; exact lN
        · exact h1 w (List.mem_filter.mpr ⟨hw, by unfold vx_no; rw [decide_eq_true e1, decide_eq_true e2, decide_eq_true e3, decide_eq_true e4]; rfl⟩)
/-- where a static field lies, its class's statics cell in H -/
def vx_L (C n d : String) (A : Nat → Prop) (U : State) (H : Heap) : Prop := ∃ (c : ClassId) (k : Class) (i : Nat) (f : Field) (a : Nat) (cell : Cell), U.vm.findClass C = some c ∧ U.fieldFound? C n d = some (c, k, i, f) ∧ f.isStatic = true ∧ k.statics = some a ∧ H[a]? = some cell ∧ cell.vm.isStatics = true ∧ cell.cls = c ∧ f.slot < cell.slots.size ∧ k.staticTypes[f.slot]? = some f.type ∧ ¬ A a
theorem vx_L.moved {C n d : String} {A : Nat → Prop} {u U : State} {H : Heap} (hvm : u.vm.Alike U.vm) (h : vx_L C n d A u H) : vx_L C n d A U H := by
  obtain ⟨c, k, i, f, a, cell, h1, h2, h3, h4, h5, h6, h7, h8, h9, h10⟩ := h
  obtain ⟨k', hi', he⟩ := State.fieldFound?_setVm hvm h2
  exact ⟨c, k', i, f, a, cell, by rw [hvm.findClass]; exact h1, hi', h3, by rw [he]; exact h4, h5, h6, h7, h8, by rw [he]; exact h9, h10⟩
theorem vx_L.kept {C n d : String} {A : Nat → Prop} {U : State} {H H1 : Heap} (h : vx_L C n d A U H) (hq : ∀ a : Nat, a < H.size → ¬ A a → H1[a]? = H[a]?) : vx_L C n d A U H1 := by
  obtain ⟨c, k, i, f, a, cell, h1, h2, h3, h4, h5, h6, h7, h8, h9, h10⟩ := h
  exact ⟨c, k, i, f, a, cell, h1, h2, h3, h4, by rw [hq a (Array.getElem?_eq_some_iff.mp h5).1 h10]; exact h5, h6, h7, h8, h9, h10⟩
theorem vx_L.narrow {C n d : String} {A B : Nat → Prop} {U : State} {H : Heap} (h : vx_L C n d A U H) (hAB : ∀ q, B q → A q) : vx_L C n d B U H := by
  obtain ⟨c, k, i, f, a, cell, h1, h2, h3, h4, h5, h6, h7, h8, h9, h10⟩ := h
  exact ⟨c, k, i, f, a, cell, h1, h2, h3, h4, h5, h6, h7, h8, h9, fun z => h10 (hAB _ z)⟩
theorem vx_L.word {C n d : String} {A : Nat → Prop} {s : State} {args : Array Value} (h : vx_L C n d A s s.heap) : (Cond.laysStatic C n d).before args s = true := by
  obtain ⟨c, k, i, f, a, cell, h1, h2, h3, h4, h5, h6, h7, h8, h9, -⟩ := h
  show (Cond.laysStatic C n d).holds args s none s [] = true
  exact Cond.laysStatic_of h1 h2 h3 h4 h5 h6 h7 h8 h9
/-- .. and what it holds: null or some reference -/
def vx_Zq (C n d : String) (A : Nat → Prop) (U : State) (H : Heap) : Prop := va_Zq C n d A U H ∧ vx_L C n d A U H
theorem vx_Zq.moved {C n d : String} {A : Nat → Prop} {u U : State} {H : Heap} (hvm : u.vm.Alike U.vm) (h : vx_Zq C n d A u H) : vx_Zq C n d A U H := ⟨va_Zq.moved hvm h.1, vx_L.moved hvm h.2⟩
theorem vx_Zq.kept {C n d : String} {A : Nat → Prop} {U : State} {H H1 : Heap} (h : vx_Zq C n d A U H) (hq : ∀ a : Nat, a < H.size → ¬ A a → H1[a]? = H[a]?) : vx_Zq C n d A U H1 := ⟨va_Zq.kept h.1 hq, vx_L.kept h.2 hq⟩
theorem vx_Zq.narrow {C n d : String} {A B : Nat → Prop} {U : State} {H : Heap} (h : vx_Zq C n d A U H) (hAB : ∀ q, B q → A q) : vx_Zq C n d B U H := ⟨va_Zq.narrow h.1 hAB, vx_L.narrow h.2 hAB⟩
theorem vx_Zqof {args : Array Value} {s : State} {C n d : String} {A : Nat → Prop} (hl : (Cond.laysStatic C n d).before args s = true) (hini : (Cond.initialized C).before args s = true) (h : (Cond.isRef (.static C n d)).before args s = true) (hA : ∀ a : Nat, a < s.heap.size → ¬ A a) : vx_Zq C n d A s s.heap := by
  refine ⟨va_Zqof hl hini h hA, ?_⟩
  obtain ⟨c, k, i, f, a, cell, h1, h2, h3, h4, h5, h6, h7, h8, h9⟩ := Cond.laysStatic_spec hl
  exact ⟨c, k, i, f, a, cell, h1, h2, h3, h4, h5, h6, h7, h8, h9, hA a (Array.getElem?_eq_some_iff.mp h5).1⟩
theorem vx_isRef {C n d : String} {v : Value} {A : Nat → Prop} {s : State} {args : Array Value} (h : va_Z C n d v A s s.heap) (hv : v.isRef = true) : (Cond.isRef (.static C n d)).before args s = true := by
  obtain ⟨cf, kf, fi, f, a, cell, h1, h2, h3, h4, h5, h6, h7, -⟩ := h
  have he : (Term.static C n d).eval args s none [] s = some v := by
    simp [Term.eval, State.fieldNamed?, h1, h2, h4, h5, h6, h7]
  simp only [Cond.before, Cond.holds, Cond.value, he]
  cases v <;> simp_all [Value.isRef]
theorem vx_isRefq {C n d : String} {A : Nat → Prop} {s : State} {args : Array Value} (h : va_Zq C n d A s s.heap) : (Cond.isRef (.static C n d)).before args s = true := by
  rcases h with h | ⟨t, h⟩
  · exact vx_isRef h rfl
  · exact vx_isRef h rfl
/-- the same frame, seen from here: as if the method were called anew in this heap -/
theorem vx_rebase {T : State} (X : Stand p l e R s m args below meth c T locs cells slots) {R' : Room} (hf : R'.frames ≤ R.frames) (hl : R'.locals ≤ R.locals) (hc : cells + R'.cells ≤ R.cells) (hs : slots + R'.slots ≤ R.slots) :
    Stand p l e R' ((T.setVm s.vm).setFrames (.invoking m args :: below)) m args below meth c T [] 0 0 := by
  have htop : (T.setVm s.vm).topJava?.isSome := X.here.top
  have hF : ((T.setVm s.vm).setFrames (.invoking m args :: below)).frames = .invoking m args :: below := State.frames_setFrames _ (State.cur_lt_of_top htop)
  obtain ⟨g₀, hg0⟩ := Option.isSome_iff_exists.mp htop
  obtain ⟨r, hr⟩ := State.topJava?_eq_some.mp hg0
  have hl9 : e.platform.stackLimits (T.setVm s.vm).me = e.platform.stackLimits s.me := X.limits
  have hb9 : (T.setVm s.vm).me.stackBytes = s.me.stackBytes := X.bytes
  refine ⟨X.admits, X.cas, X.clock, hF, ?_, X.hears, X.method, X.code, X.here, X.tail, X.warmed, ?_, ?_, ?_⟩
  · have h := X.room
    have hU : ((T.setVm s.vm).setFrames (.invoking m args :: below)).localsInUse = s.localsInUse := by
      rw [State.localsInUse_invoking hF (meth := meth) (c := c) X.method X.code, State.localsInUse_invoking X.frames X.method X.code]
    simp only [State.hasRoom, Bool.and_eq_true, decide_eq_true_eq] at h ⊢
    obtain ⟨⟨⟨⟨h1, h2, h3, h4, h5, h6⟩, h7⟩, h8⟩, h9⟩ := h
    rw [X.frames, List.length_cons] at h2 h3
    have q1 := X.heapSize
    have q2 := X.used
    simp only [hF, hU, List.length_cons, State.stackLimits_setFrames, State.stackBytes_setFrames, hl9, hb9]
    refine ⟨⟨⟨⟨by omega, by omega, by omega, by omega, by omega, h6⟩, ?_⟩, ?_⟩, X.book⟩
    · show T.heap.size + R'.cells ≤ e.platform.maxCells
      omega
    · show T.slotsUsed + R'.slots ≤ e.platform.maxSlots
      omega
  · rw [State.stackLimits_setFrames]; rfl
  · rw [State.stackBytes_setFrames]; rfl
  · refine ⟨?_, Nat.le_refl _, Nat.le_refl _, ?_, ?_, fun a c9 h9 => ⟨c9, h9, rfl, rfl, fun _ _ => rfl⟩⟩
    · obtain ⟨t, ht, -⟩ := State.frames_cons hr
      show T.setVm s.vm = { ((T.setVm s.vm).setFrames (.invoking m args :: below)).setFrames (T.setVm s.vm).frames with heap := T.heap, slotsUsed := T.slotsUsed }
      rw [State.setFrames_setFrames, State.setFrames_self ht]
      rfl
    · show T.slotsUsed = T.slotsUsed + ((T.heap.toList.drop T.heap.size).map (·.slots.size)).sum
      rw [List.drop_eq_nil_of_le (Nat.le_of_eq Array.length_toList)]
      rfl
    · show ((T.heap.toList.drop T.heap.size).map (·.slots.size)).sum ≤ 0
      rw [List.drop_eq_nil_of_le (Nat.le_of_eq Array.length_toList)]
      exact Nat.le_refl _
/-- 'throw new E()': new; dup; invokespecial; athrow -/
theorem vx_throw0 {cc : ByteArray} {pc : Nat} (hexec : p.tables.exec = Jvm.exec) (hb : c.code = cc) (hl : l.stackTraces = false) {own cls : String} {names : List String} {ik ic mc ms : Nat} {A : Nat → Prop}
    (hown : s.vm.findClass own = some m.cls) (hcls : Bundle.fit cls = true) (hnames : ∀ n ∈ names, Bundle.fit n = true)
    (hk : (Cond.classLink own ik cls).before args s = true) (hini : (Cond.initialized cls).before args s = true) (hat : ∀ w ∈ vx_at0 own ic cls names, w.before args s = true)
    (hgood : ∀ w ∈ Cond.classLink own ik cls :: Cond.initialized cls :: vx_at0 own ic cls names, vx_ot w = true)
    (hU : vx_Zq Bundle.tN "UNASSIGNED_STACK" Bundle.steD A s s.heap) (hN : vx_Zq Bundle.tN "SUPPRESSED_SENTINEL" Bundle.listD A s s.heap) (hS : va_S A s.heap H locs) (hsize : ls.size = c.maxLocals)
    (d0 : decode cc pc = .ok (.new ik, 3)) (d3 : decode cc (pc + 3) = .ok (.dup, 1)) (d4 : decode cc (pc + 4) = .ok (.invokespecial ic, 3)) (d7 : decode cc (pc + 7) = .ok (.athrow, 1))
    (hout : ∀ x ∈ c.exceptionTable.toList, covers x (pc + 7) = false)
    (hRframes : names.length + 3 < R.frames) (hRlocals : (rest.map fun v => v.category).sum + (13 * (names.length + 1) + 42) ≤ R.locals) (hRcells : cells + 1 ≤ R.cells) (hRslots : slots + 6 ≤ R.slots) (hlocks : meth.locks = false)
    (hx : ∀ t : State, s.vm.Alike t.vm → H.size ≤ t.heap.size → (∀ q : Nat, q < H.size → t.heap[q]? = H[q]?) → XC cls s t)
    (hf : ∀ z ∈ locs, free z.base) (hc : cells + 1 ≤ mc) (hs : slots + 6 ≤ ms) :
    W p l e R s m args below meth c H locs cells slots (vx_MQ below Qc XC args s mc ms free) (F0 m pc ls rest) := by
  intro T hT X
  have htr : e.platform.stackTraces = false := (show e.platform.stackTraces = l.stackTraces by rw [X.admits.platform]).trans hl
  have Y := vx_rebase X (R' := { frames := R.frames, locals := R.locals, cells := 1, slots := 6 }) (Nat.le_refl _) (Nat.le_refl _) hRcells hRslots
  obtain ⟨s', hA⟩ : ∃ z, z = (T.setVm s.vm).setFrames (.invoking m args :: below) := ⟨_, rfl⟩
  rw [← hA] at Y
  have hvm : s'.vm = s.vm := by rw [hA]; rfl
  have hhp : s'.heap = H := by rw [hA]; exact hT
  have hW0 : s.WarmedH s'.vm := by rw [hvm]; exact State.WarmedH.refl s
  have hat' : ∀ w ∈ vx_at0 own ic cls names, w.before args s' = true := fun w hw => vx_ot_at hW0 hvm.symm (hgood w (List.mem_cons_of_mem _ (List.mem_cons_of_mem _ hw))) (hat w hw)
  have hk' : (Cond.classLink own ik cls).before args s' = true := vx_ot_at hW0 hvm.symm (hgood _ List.mem_cons_self) hk
  have hini' : (Cond.initialized cls).before args s' = true := vx_ot_at hW0 hvm.symm (hgood _ (List.mem_cons_of_mem _ List.mem_cons_self)) hini
  have hU' : vx_Zq Bundle.tN "UNASSIGNED_STACK" Bundle.steD A s' s'.heap := by rw [hhp]; exact vx_Zq.moved hW0.alike (hU.kept hS.2.1)
  have hN' : vx_Zq Bundle.tN "SUPPRESSED_SENTINEL" Bundle.listD A s' s'.heap := by rw [hhp]; exact vx_Zq.moved hW0.alike (hN.kept hS.2.1)
  have h : ∀ w ∈ Bundle.ownAtoms0 own ic cls names, w.before args s' = true := vx_own hat' (vx_isRefq hU'.1) (vx_isRefq hN'.1) hU'.2.word hN'.2.word
  have hown' : s'.vm.findClass own = some m.cls := by rw [hvm]; exact hown
  have hins : (Cond.instantiable cls 6).before args s' = true := h _ (by simp [Bundle.ownAtoms0])
  obtain ⟨vm₁, cX, kX, hfX, hkX, -, -, X₁, st1⟩ := Y.newCold hexec (own := own) (C := cls) (index := ik) (n := 6) hown' hk' hins hini'
    (g := F0 m pc ls rest) rfl (by rw [hb]; exact d0) (Nat.le_refl _) (Nat.le_refl _)
  generalize hT1 : (T.setVm vm₁).pushCell { cls := cX, slots := kX.instanceTypes.map defaultValue, vm := .none } = T1 at X₁ st1
  have hcat : (Value.ref T.heap.size).category = 1 := rfl
  have hcellA : T1.heap[T.heap.size]? = some (freshCell cX kX) := by rw [← hT1]; exact State.heap_pushCell_size _ _
  have d3' : decode c.code (pc + 3) = .ok (.dup, 1) := by rw [hb]; exact d3
  obtain ⟨U, hsteps, hrun, hend, hW, hsame, ce, hce, hO⟩ := X₁.ctorThrow0 hexec htr (own := own) (cls := cls) (names := names) (ic := ic) hown' hcls hnames h (fun x hx => nomatch hx) hfX hkX hcellA (by rw [hhp, hT]; exact Nat.le_refl _)
    (g := { method := m, pc := pc + 4, locals := ls, stack := .ref T.heap.size :: .ref T.heap.size :: rest, locked := none }) rfl hsize rfl rfl (rest := rest) rfl
    (by rw [hb]; exact d4) (by rw [hb]; exact d7) hout hRframes (by simp only [List.map_cons, List.sum_cons, hcat]; omega) hlocks
  obtain ⟨f1, f2⟩ := vx_frame hsame
  rw [hhp] at f1 f2
  have hWs : s.WarmedH U.vm := State.WarmedH.trans hW0 hW
  have hcl : s.vm.findClass cls = some ce.cls := by
    have h9 := hO.cls
    rw [hvm] at h9
    exact h9
  have hall : s.sameButNew ({ U with vm := s.vm } : State) locs mc ms := by
    subst hA
    obtain ⟨e1, e2⟩ := hsame
    rw [State.setFrames_setFrames] at e1
    have h2 : (T.setVm s.vm).sameButNew ({ U with vm := s.vm } : State) [] (0 + 1) (0 + 6) := ⟨e1, e2⟩
    have h3 := X.same.trans h2
    rw [List.append_nil] at h3
    exact h3.mono hc hs
  refine ⟨U, ?_, .threw T.heap.size, hrun, hend, Or.inr ⟨T.heap.size, rfl, cls, ce, locs, hx U hWs.alike f1 (fun q hq => f2 q hq (fun z hz => nomatch hz)), hce, hO.vm, hcl, hWs, hall, hf⟩⟩
  refine st1 _ ?_
  show Steps p.tables e below (T1.setTop { method := m, pc := pc + 3, locals := ls, stack := .ref T.heap.size :: rest, locked := none }) _
  jvm_step X₁.here [X₁.here.top, hexec, d3', Value.category]
  exact hsteps
/-- 'throw new E("text")': new; dup; ldc; invokespecial; athrow -/
theorem vx_throwS {cc : ByteArray} {pc : Nat} (hexec : p.tables.exec = Jvm.exec) (hb : c.code = cc) (hl : l.stackTraces = false) {own cls text : String} {names : List String} {ik is ic mc ms sa : Nat} {A : Nat → Prop}
    (hown : s.vm.findClass own = some m.cls) (hcls : Bundle.fit cls = true) (hnames : ∀ n ∈ names, Bundle.fit n = true)
    (hk : (Cond.classLink own ik cls).before args s = true) (hini : (Cond.initialized cls).before args s = true) (hstr : vk_R own is text sa s) (hat : ∀ w ∈ vx_atS own ic cls names, w.before args s = true)
    (hgood : ∀ w ∈ Cond.classLink own ik cls :: Cond.initialized cls :: vx_atS own ic cls names, vx_ot w = true)
    (hU : vx_Zq Bundle.tN "UNASSIGNED_STACK" Bundle.steD A s s.heap) (hN : vx_Zq Bundle.tN "SUPPRESSED_SENTINEL" Bundle.listD A s s.heap) (hS : va_S A s.heap H locs) (hsize : ls.size = c.maxLocals)
    (d0 : decode cc pc = .ok (.new ik, 3)) (d3 : decode cc (pc + 3) = .ok (.dup, 1)) (d4 : decode cc (pc + 4) = .ok (.ldc is, 2)) (d6 : decode cc (pc + 6) = .ok (.invokespecial ic, 3)) (d9 : decode cc (pc + 9) = .ok (.athrow, 1))
    (hout : ∀ x ∈ c.exceptionTable.toList, covers x (pc + 9) = false)
    (hRframes : names.length + 3 < R.frames) (hRlocals : (rest.map fun v => v.category).sum + (13 * (names.length + 1) + 43) ≤ R.locals) (hRcells : cells + 1 ≤ R.cells) (hRslots : slots + 6 ≤ R.slots) (hlocks : meth.locks = false)
    (hx : ∀ t : State, s.vm.Alike t.vm → H.size ≤ t.heap.size → (∀ q : Nat, q < H.size → t.heap[q]? = H[q]?) → XC cls s t)
    (hf : ∀ z ∈ locs, free z.base) (hc : cells + 1 ≤ mc) (hs : slots + 6 ≤ ms) :
    W p l e R s m args below meth c H locs cells slots (vx_MQ below Qc XC args s mc ms free) (F0 m pc ls rest) := by
  intro T hT X
  have htr : e.platform.stackTraces = false := (show e.platform.stackTraces = l.stackTraces by rw [X.admits.platform]).trans hl
  have Y := vx_rebase X (R' := { frames := R.frames, locals := R.locals, cells := 1, slots := 6 }) (Nat.le_refl _) (Nat.le_refl _) hRcells hRslots
  obtain ⟨s', hA⟩ : ∃ z, z = (T.setVm s.vm).setFrames (.invoking m args :: below) := ⟨_, rfl⟩
  rw [← hA] at Y
  have hvm : s'.vm = s.vm := by rw [hA]; rfl
  have hhp : s'.heap = H := by rw [hA]; exact hT
  have hW0 : s.WarmedH s'.vm := by rw [hvm]; exact State.WarmedH.refl s
  have hat' : ∀ w ∈ vx_atS own ic cls names, w.before args s' = true := fun w hw => vx_ot_at hW0 hvm.symm (hgood w (List.mem_cons_of_mem _ (List.mem_cons_of_mem _ hw))) (hat w hw)
  have hk' : (Cond.classLink own ik cls).before args s' = true := vx_ot_at hW0 hvm.symm (hgood _ List.mem_cons_self) hk
  have hini' : (Cond.initialized cls).before args s' = true := vx_ot_at hW0 hvm.symm (hgood _ (List.mem_cons_of_mem _ List.mem_cons_self)) hini
  have hU' : vx_Zq Bundle.tN "UNASSIGNED_STACK" Bundle.steD A s' s'.heap := by rw [hhp]; exact vx_Zq.moved hW0.alike (hU.kept hS.2.1)
  have hN' : vx_Zq Bundle.tN "SUPPRESSED_SENTINEL" Bundle.listD A s' s'.heap := by rw [hhp]; exact vx_Zq.moved hW0.alike (hN.kept hS.2.1)
  have h : ∀ w ∈ Bundle.ownAtoms own ic cls names, w.before args s' = true := vx_own hat' (vx_isRefq hU'.1) (vx_isRefq hN'.1) hU'.2.word hN'.2.word
  have hown' : s'.vm.findClass own = some m.cls := by rw [hvm]; exact hown
  have hins : (Cond.instantiable cls 6).before args s' = true := h _ (by simp [Bundle.ownAtoms])
  obtain ⟨vm₁, cX, kX, hfX, hkX, -, -, X₁, st1⟩ := Y.newCold hexec (own := own) (C := cls) (index := ik) (n := 6) hown' hk' hins hini'
    (g := F0 m pc ls rest) rfl (by rw [hb]; exact d0) (Nat.le_refl _) (Nat.le_refl _)
  generalize hT1 : (T.setVm vm₁).pushCell { cls := cX, slots := kX.instanceTypes.map defaultValue, vm := .none } = T1 at X₁ st1
  have hcat : (Value.ref T.heap.size).category = 1 := rfl
  have hcellA : T1.heap[T.heap.size]? = some (freshCell cX kX) := by rw [← hT1]; exact State.heap_pushCell_size _ _
  have d3' : decode c.code (pc + 3) = .ok (.dup, 1) := by rw [hb]; exact d3
  have d4' : decode c.code (pc + 4) = .ok (.ldc is, 2) := by rw [hb]; exact d4
  have hstr' : vk_R own is text sa s' := vk_R.warm hW0 hstr
  obtain ⟨U, hsteps, hrun, hend, hW, hsame, ce, hce, hO⟩ := X₁.ctorThrowS hexec htr (own := own) (cls := cls) (names := names) (ic := ic) hown' hcls hnames h (fun x hx => nomatch hx) hfX hkX hcellA (by rw [hhp, hT]; exact Nat.le_refl _) (msg := .ref sa) rfl
    (g := { method := m, pc := pc + 6, locals := ls, stack := .ref sa :: .ref T.heap.size :: .ref T.heap.size :: rest, locked := none }) rfl hsize rfl rfl (rest := rest) rfl
    (by rw [hb]; exact d6) (by rw [hb]; exact d9) hout hRframes (by simp only [List.map_cons, List.sum_cons, hcat]; omega) hlocks
  obtain ⟨f1, f2⟩ := vx_frame hsame
  rw [hhp] at f1 f2
  have hWs : s.WarmedH U.vm := State.WarmedH.trans hW0 hW
  have hcl : s.vm.findClass cls = some ce.cls := by
    have h9 := hO.cls
    rw [hvm] at h9
    exact h9
  have hall : s.sameButNew ({ U with vm := s.vm } : State) locs mc ms := by
    subst hA
    obtain ⟨e1, e2⟩ := hsame
    rw [State.setFrames_setFrames] at e1
    have h2 : (T.setVm s.vm).sameButNew ({ U with vm := s.vm } : State) [] (0 + 1) (0 + 6) := ⟨e1, e2⟩
    have h3 := X.same.trans h2
    rw [List.append_nil] at h3
    exact h3.mono hc hs
  refine ⟨U, ?_, .threw T.heap.size, hrun, hend, Or.inr ⟨T.heap.size, rfl, cls, ce, locs, hx U hWs.alike f1 (fun q hq => f2 q hq (fun z hz => nomatch hz)), hce, hO.vm, hcl, hWs, hall, hf⟩⟩
  refine st1 _ ?_
  show Steps p.tables e below (T1.setTop { method := m, pc := pc + 3, locals := ls, stack := .ref T.heap.size :: rest, locked := none }) _
  jvm_step X₁.here [X₁.here.top, hexec, d3', Value.category]
  exact X₁.ldcString hexec (own := own) (text := text) (index := is) (a := sa) hown' hstr'.1 hstr'.2
    (g := { method := m, pc := pc + 4, locals := ls, stack := .ref T.heap.size :: .ref T.heap.size :: rest, locked := none }) rfl d4' _ hsteps
/-- 'throw new E("text")', the text by a wide index -/
theorem vx_throwSW {cc : ByteArray} {pc : Nat} (hexec : p.tables.exec = Jvm.exec) (hb : c.code = cc) (hl : l.stackTraces = false) {own cls text : String} {names : List String} {ik is ic mc ms sa : Nat} {A : Nat → Prop}
    (hown : s.vm.findClass own = some m.cls) (hcls : Bundle.fit cls = true) (hnames : ∀ n ∈ names, Bundle.fit n = true)
    (hk : (Cond.classLink own ik cls).before args s = true) (hini : (Cond.initialized cls).before args s = true) (hstr : vk_R own is text sa s) (hat : ∀ w ∈ vx_atS own ic cls names, w.before args s = true)
    (hgood : ∀ w ∈ Cond.classLink own ik cls :: Cond.initialized cls :: vx_atS own ic cls names, vx_ot w = true)
    (hU : vx_Zq Bundle.tN "UNASSIGNED_STACK" Bundle.steD A s s.heap) (hN : vx_Zq Bundle.tN "SUPPRESSED_SENTINEL" Bundle.listD A s s.heap) (hS : va_S A s.heap H locs) (hsize : ls.size = c.maxLocals)
    (d0 : decode cc pc = .ok (.new ik, 3)) (d3 : decode cc (pc + 3) = .ok (.dup, 1)) (d4 : decode cc (pc + 4) = .ok (.ldc_w is, 3)) (d7 : decode cc (pc + 7) = .ok (.invokespecial ic, 3)) (d10 : decode cc (pc + 10) = .ok (.athrow, 1))
    (hout : ∀ x ∈ c.exceptionTable.toList, covers x (pc + 10) = false)
    (hRframes : names.length + 3 < R.frames) (hRlocals : (rest.map fun v => v.category).sum + (13 * (names.length + 1) + 43) ≤ R.locals) (hRcells : cells + 1 ≤ R.cells) (hRslots : slots + 6 ≤ R.slots) (hlocks : meth.locks = false)
    (hx : ∀ t : State, s.vm.Alike t.vm → H.size ≤ t.heap.size → (∀ q : Nat, q < H.size → t.heap[q]? = H[q]?) → XC cls s t)
    (hf : ∀ z ∈ locs, free z.base) (hc : cells + 1 ≤ mc) (hs : slots + 6 ≤ ms) :
    W p l e R s m args below meth c H locs cells slots (vx_MQ below Qc XC args s mc ms free) (F0 m pc ls rest) := by
  intro T hT X
  have htr : e.platform.stackTraces = false := (show e.platform.stackTraces = l.stackTraces by rw [X.admits.platform]).trans hl
  have Y := vx_rebase X (R' := { frames := R.frames, locals := R.locals, cells := 1, slots := 6 }) (Nat.le_refl _) (Nat.le_refl _) hRcells hRslots
  obtain ⟨s', hA⟩ : ∃ z, z = (T.setVm s.vm).setFrames (.invoking m args :: below) := ⟨_, rfl⟩
  rw [← hA] at Y
  have hvm : s'.vm = s.vm := by rw [hA]; rfl
  have hhp : s'.heap = H := by rw [hA]; exact hT
  have hW0 : s.WarmedH s'.vm := by rw [hvm]; exact State.WarmedH.refl s
  have hat' : ∀ w ∈ vx_atS own ic cls names, w.before args s' = true := fun w hw => vx_ot_at hW0 hvm.symm (hgood w (List.mem_cons_of_mem _ (List.mem_cons_of_mem _ hw))) (hat w hw)
  have hk' : (Cond.classLink own ik cls).before args s' = true := vx_ot_at hW0 hvm.symm (hgood _ List.mem_cons_self) hk
  have hini' : (Cond.initialized cls).before args s' = true := vx_ot_at hW0 hvm.symm (hgood _ (List.mem_cons_of_mem _ List.mem_cons_self)) hini
  have hU' : vx_Zq Bundle.tN "UNASSIGNED_STACK" Bundle.steD A s' s'.heap := by rw [hhp]; exact vx_Zq.moved hW0.alike (hU.kept hS.2.1)
  have hN' : vx_Zq Bundle.tN "SUPPRESSED_SENTINEL" Bundle.listD A s' s'.heap := by rw [hhp]; exact vx_Zq.moved hW0.alike (hN.kept hS.2.1)
  have h : ∀ w ∈ Bundle.ownAtoms own ic cls names, w.before args s' = true := vx_own hat' (vx_isRefq hU'.1) (vx_isRefq hN'.1) hU'.2.word hN'.2.word
  have hown' : s'.vm.findClass own = some m.cls := by rw [hvm]; exact hown
  have hins : (Cond.instantiable cls 6).before args s' = true := h _ (by simp [Bundle.ownAtoms])
  obtain ⟨vm₁, cX, kX, hfX, hkX, -, -, X₁, st1⟩ := Y.newCold hexec (own := own) (C := cls) (index := ik) (n := 6) hown' hk' hins hini'
    (g := F0 m pc ls rest) rfl (by rw [hb]; exact d0) (Nat.le_refl _) (Nat.le_refl _)
  generalize hT1 : (T.setVm vm₁).pushCell { cls := cX, slots := kX.instanceTypes.map defaultValue, vm := .none } = T1 at X₁ st1
  have hcat : (Value.ref T.heap.size).category = 1 := rfl
  have hcellA : T1.heap[T.heap.size]? = some (freshCell cX kX) := by rw [← hT1]; exact State.heap_pushCell_size _ _
  have d3' : decode c.code (pc + 3) = .ok (.dup, 1) := by rw [hb]; exact d3
  have d4' : decode c.code (pc + 4) = .ok (.ldc_w is, 3) := by rw [hb]; exact d4
  have hstr' : vk_R own is text sa s' := vk_R.warm hW0 hstr
  obtain ⟨U, hsteps, hrun, hend, hW, hsame, ce, hce, hO⟩ := X₁.ctorThrowS hexec htr (own := own) (cls := cls) (names := names) (ic := ic) hown' hcls hnames h (fun x hx => nomatch hx) hfX hkX hcellA (by rw [hhp, hT]; exact Nat.le_refl _) (msg := .ref sa) rfl
    (g := { method := m, pc := pc + 7, locals := ls, stack := .ref sa :: .ref T.heap.size :: .ref T.heap.size :: rest, locked := none }) rfl hsize rfl rfl (rest := rest) rfl
    (by rw [hb]; exact d7) (by rw [hb]; exact d10) hout hRframes (by simp only [List.map_cons, List.sum_cons, hcat]; omega) hlocks
  obtain ⟨f1, f2⟩ := vx_frame hsame
  rw [hhp] at f1 f2
  have hWs : s.WarmedH U.vm := State.WarmedH.trans hW0 hW
  have hcl : s.vm.findClass cls = some ce.cls := by
    have h9 := hO.cls
    rw [hvm] at h9
    exact h9
  have hall : s.sameButNew ({ U with vm := s.vm } : State) locs mc ms := by
    subst hA
    obtain ⟨e1, e2⟩ := hsame
    rw [State.setFrames_setFrames] at e1
    have h2 : (T.setVm s.vm).sameButNew ({ U with vm := s.vm } : State) [] (0 + 1) (0 + 6) := ⟨e1, e2⟩
    have h3 := X.same.trans h2
    rw [List.append_nil] at h3
    exact h3.mono hc hs
  refine ⟨U, ?_, .threw T.heap.size, hrun, hend, Or.inr ⟨T.heap.size, rfl, cls, ce, locs, hx U hWs.alike f1 (fun q hq => f2 q hq (fun z hz => nomatch hz)), hce, hO.vm, hcl, hWs, hall, hf⟩⟩
  refine st1 _ ?_
  show Steps p.tables e below (T1.setTop { method := m, pc := pc + 3, locals := ls, stack := .ref T.heap.size :: rest, locked := none }) _
  jvm_step X₁.here [X₁.here.top, hexec, d3', Value.category]
  exact X₁.ldcStringW hexec (own := own) (text := text) (index := is) (a := sa) hown' hstr'.1 hstr'.2
    (g := { method := m, pc := pc + 4, locals := ls, stack := .ref T.heap.size :: .ref T.heap.size :: rest, locked := none }) rfl d4' _ hsteps
end Ends
section Bodies
variable {l : Launch}
theorem vx_ofW {y : MethodName} {ws ws' : List Cond} {rm : Room} {Pc : Array Value → State → Prop} {Qc : Array Value → State → Outcome → State → Prop} {XC : String → State → State → Prop} {mc ms : Nat} {free : Addr → Prop} {cc : ByteArray} {maxL : Nat} {ret : Option FieldType}
    (hy : plainName y.cls = true) (hw : ws = Cond.code y cc maxL ret :: ws')
    (body : ∀ p e s m args below meth c s₁, BodyLoose p l y (headSpec ws rm) cc maxL ret e s m args below meth c s₁ → c.maxLocals = maxL → (∀ x ∈ c.exceptionTable.toList, False) → Pc args s →
      W p l e (headSpec ws rm).room s m args below meth c s.heap [] 0 0 (vx_MQ below Qc XC args s mc ms free) (entryFrame m args maxL)) : vx_Met l y ws rm Pc Qc XC mc ms free := by
  refine MetFree.of_bodyS (code := cc) (maxLocals := maxL) (ret := ret) hy ?_ ?_
  · intro args s m h hn
    obtain ⟨meth, c, h1, h2, h3, h4, h5, h6, -, -⟩ := Cond.code_spec hn (atoms_spec (ws := ws) h _ (by rw [hw]; exact List.mem_cons_self))
    exact ⟨meth, c, h1, h2, h3, h4, h5, h6⟩
  · intro p e s m args below meth c s₁ B hml hP _
    have hh0 : s₁.heap = s.heap := by rw [B.state]; rfl
    have ht : ∀ x ∈ c.exceptionTable.toList, False := by
      obtain ⟨meth9, c9, h1, h2, -, -, -, -, h7, -⟩ := Cond.code_spec B.named (atoms_spec (ws := ws) B.pre _ (by rw [hw]; exact List.mem_cons_self))
      cases Option.some.inj (h1.symm.trans B.method)
      cases Option.some.inj (h2.symm.trans (Stand.of_body B).code)
      intro x hx
      rw [Array.isEmpty_iff.mp h7] at hx
      cases hx
    obtain ⟨t, a1, o, b1, b2, b3⟩ := body p e s m args below meth c s₁ B hml ht hP s₁ hh0 (Stand.of_body B)
    exact ⟨t, o, a1, b1, b2, b3⟩
/-- the table of a body with handlers -/
theorem vx_table {p : Program} {x y : MethodName} {S : Spec} {cc bytes : ByteArray} {maxL maxL' : Nat} {ret ret' : Option FieldType} {e : Env} {s s₁ : State} {m : MethodId} {args : Array Value} {below : List Frame} {meth : Method} {c : Code} {hh : List (Nat × Nat × Nat × Nat)}
    (B : BodyLoose p l y S cc maxL ret e s m args below meth c s₁) (h : (Cond.codeWith y bytes maxL' ret' hh).before args s = true) : c.exceptionTable.toList = tableOf hh := by
  obtain ⟨m9, meth9, c9, hn9, h1, h2, -, -, h6, -⟩ := Cond.codeWith_spec h
  cases Option.some.inj (hn9.symm.trans B.named)
  cases Option.some.inj (h1.symm.trans B.method)
  cases Option.some.inj (h2.symm.trans (Stand.of_body B).code)
  rw [← h6, table_eq]
end Bodies
end VXA
/-! ===== END ===== -/
/-! ===== BEGIN a static call of a method with an exception table ===== -/
section VXS
variable {p : Program} {l : Launch} {e : Env} {R : Room} {s : State} {m : MethodId} {args : Array Value} {below : List Frame} {meth : Method} {c : Code} {T : State} {H : Heap} {locs : List Loc} {cells slots : Nat}
abbrev vx_CSW (R : Room) (s : State) (args : Array Value) (own : String) (index : Nat) (y : MethodName) (bytes : ByteArray) (maxL : Nat) (ret : Option FieldType) (hh : List (Nat × Nat × Nat × Nat)) (ws : List Cond) (rm : Room) (mc ms n : Nat) : Prop :=
  (rm.cells = mc ∧ rm.slots = ms ∧ rm.frames + 1 ≤ R.frames ∧ 8 + (maxL + 11) + rm.locals ≤ R.locals ∧ (∀ w ∈ ws, ∀ (a' : Array Value) (U : State), s.WarmedH U.vm → w.before a' U = true) ∧ Cond.codeWith y bytes maxL ret hh ∈ ws) ∧
  (Cond.codeWith y bytes maxL ret hh).before args s = true ∧ (Cond.initialized y.cls).before args s = true ∧ (y.cls ≠ "java/lang/invoke/MethodHandle" ∧ y.cls ≠ "java/lang/invoke/VarHandle") ∧
  (∀ sig, parseMethodDescriptor y.desc = some sig → n = sig.parameters.length) ∧ (Cond.methodLink own index y).before args s = true ∧ (Cond.static y).before args s = true
theorem vx_cwSW {own : String} {index maxL mc ms : Nat} {y : MethodName} {bytes : ByteArray} {ret : Option FieldType} {hh : List (Nat × Nat × Nat × Nat)} {Ts ws ws' : List Cond} {rm : Room} (n : Nat) (ht : ∀ w ∈ Ts, w.before args s = true) (hT : GoodIn Ts (va_wsS own index y ws)) (hw : ws = Cond.codeWith y bytes maxL ret hh :: ws') (hrc : rm.cells = mc) (hrs : rm.slots = ms)
    (hd : y.cls ≠ "java/lang/invoke/MethodHandle" ∧ y.cls ≠ "java/lang/invoke/VarHandle" ∧ (parseMethodDescriptor y.desc).map (fun d => d.parameters.length) = some n) (hR : rm.frames + 1 ≤ R.frames ∧ 8 + (maxL + 11) + rm.locals ≤ R.locals) :
    vx_CSW R s args own index y bytes maxL ret hh ws rm mc ms n := by
  have ok : ∀ w ∈ va_wsS own index y ws, w.before args s = true := fun w h => ht w (hT w h).1
  have hG : GoodIn Ts ws := fun w h => hT w (by unfold va_wsS; exact List.mem_append_right _ h)
  have hc : Cond.codeWith y bytes maxL ret hh ∈ ws := by rw [hw]; exact List.mem_cons_self
  refine ⟨⟨hrc, hrs, hR.1, hR.2, pay_in ht hG, hc⟩, ht _ (hG _ hc).1, ok _ (by simp [va_wsS]), ⟨hd.1, hd.2.1⟩, fun sig h => ?_, ok _ (by simp [va_wsS]), ok _ (by simp [va_wsS])⟩
  have h2 := hd.2.2
  rw [h] at h2
  exact (Option.some.inj h2).symm
theorem vx_callSW (X : Stand p l e R s m args below meth c T locs cells slots) (hexec : p.tables.exec = Jvm.exec) {own : String} {index : Nat} {y : MethodName} {bytes : ByteArray} {maxL : Nat} {ret : Option FieldType} {hh : List (Nat × Nat × Nat × Nat)}
    (hown : s.vm.findClass own = some m.cls) (hlink : (Cond.methodLink own index y).before args s = true) (hstat : (Cond.static y).before args s = true) (hinit : (Cond.initialized y.cls).before args s = true)
    (hcode : (Cond.codeWith y bytes maxL ret hh).before args s = true) (hy : y.cls ≠ "java/lang/invoke/MethodHandle" ∧ y.cls ≠ "java/lang/invoke/VarHandle")
    {W9 : Nat} {Pre : Pt → Array Value → Prop} {Post : Pt → Array Value → Option Value → Pt → Prop} (hK : Back l R p e below s args y 3 W9 Pre Post)
    {g : JFrame} (hg : g.method = m) (hsize : g.locals.size = c.maxLocals) {argsL rest : List Value} (hlen : ∀ sig, parseMethodDescriptor y.desc = some sig → argsL.length = sig.parameters.length)
    (hstack : g.stack = argsL.reverse ++ rest) (hW : 2 * g.monitorRoom + (rest.map fun v => v.category).sum ≤ W9) (hdg : decode c.code g.pc = .ok (.invokestatic index, 3))
    (hpre : ∀ vm₁, s.WarmedH vm₁ → Pre ⟨T.setVm vm₁, locs, cells, slots⟩ argsL.toArray) :
    ∃ (v : Option Value) (vm₁ : Vm) (B : Pt), s.WarmedH vm₁ ∧ Stand p l e R s m args below meth c B.U B.locs B.cells B.slots ∧ Post ⟨T.setVm vm₁, locs, cells, slots⟩ argsL.toArray v B ∧
      ∀ target, Steps p.tables e below (B.U.setTop { g with pc := g.pc + 3, stack := v.toList ++ rest }) target → Steps p.tables e below (T.setTop g) target := by
  obtain ⟨mk, methM, cM, hnamed, hmethM, -, -, -, -, -, -, hsigM⟩ := Cond.codeWith_spec hcode
  have hstatic : methM.isStatic = true := Cond.static_spec hnamed hmethM hstat
  obtain ⟨kP, hkP, -⟩ := className_of_methodNamed hnamed
  have hinitP : kP.init = .initialized := Cond.initialized_spec (findClass_of_methodNamed hnamed) hkP hinit
  obtain ⟨vm₁, X₁, hstep₁⟩ := X.invokestatic hexec hown hlink hnamed hmethM hstatic hkP hinitP hy (g := g) hg (argsL := argsL) (rest := rest) (hlen _ hsigM) hstack hdg
  obtain ⟨v, B, X', hpost, hsteps⟩ := hK m meth c ⟨T.setVm vm₁, locs, cells, slots⟩ { g with stack := rest } (.invokestatic index) mk argsL.toArray X₁ hg hsize hdg hW (X₁.named hnamed) (hpre vm₁ X₁.warmed)
  exact ⟨v, vm₁, B, X₁.warmed, X', hpost, fun target h => hstep₁ _ fun acts => by rw [doInvoke_state]; exact hsteps.trans h⟩
theorem vx_runSW {y : MethodName} {bytes cc : ByteArray} {maxL nL mc ms n index : Nat} {ret : Option FieldType} {hh : List (Nat × Nat × Nat × Nat)} {ws : List Cond} {rm : Room} {Pc : Array Value → State → Prop} {Qc : Array Value → State → Outcome → State → Prop} {free : Addr → Prop} {Ts : List Cond} {own : String} {As rest : List Value} {g : JFrame}
    (S : CallFix p m c cc nL s args Ts own) (hM : Met l y ws rm Pc Qc mc ms free) (cw : vx_CSW R s args own index y bytes maxL ret hh ws rm mc ms n) (hp : PreS s H Pc As)
    (hg : g.method = m) (hn : As.length = n) (hsize : g.locals.size = nL) (hstack : g.stack = As.reverse ++ rest) (hW : 2 * g.monitorRoom + (rest.map fun v => v.category).sum ≤ 8) (hdg : decode cc g.pc = .ok (.invokestatic index, 3)) (hf : cells + mc ≤ R.cells ∧ slots + ms ≤ R.slots) :
    va_Run p l e R s m args below meth c H locs cells slots mc ms g rest (Qc As.toArray) (free) := by
  obtain ⟨⟨hrc, hrs, hfr, hlo, hws, hcw⟩, hcode, hini, hy, hlen, hl, hstt⟩ := cw
  have hK : Back l R p e below s args y 3 8 (PreOf R mc ms Pc) (PostOf Qc mc ms free) := va_backW (hh := hh) (bytes := bytes) (maxL := maxL) (ret := ret) hM hp.1 hrc hrs hfr hlo hws hcw (fun a' U hW => word_at hW (Or.inl (by first | rfl | simp [Cond.onTables, Cond.keeps, Cond.steady])) hini)
  obtain ⟨hx, hb, hml, ho, -⟩ := S
  intro T hT X
  obtain ⟨v, vm₁, ⟨U', l2, c2, s2⟩, hW₁, X', ⟨g', mk, t, L, e1, e2, hq, h1, hL, h2, h3⟩, st⟩ := vx_callSW X hx (hh := hh) (bytes := bytes) (maxL := maxL) (ret := ret) ho hl hstt hini hcode hy hK hg (hsize.trans hml.symm) (argsL := As) (rest := rest) (fun sig h => hn.trans (hlen sig h)) hstack hW (by rw [hb]; exact hdg)
    (fun vm₁ hW₁ => ⟨hf.1, hf.2, hp.2 (T.setVm vm₁) hT hW₁⟩)
  dsimp only [Pt.U, Pt.locs, Pt.cells, Pt.slots] at X' e1 e2 h1 h2 h3 st
  subst h1; subst h2; subst h3
  exact ⟨v, (T.setVm vm₁).calling g' mk As.toArray, t, U', L, hT, X', hL, e1, e2, hq, st⟩
/-- not caught here, past rows that name other classes: it goes on to the caller -/
theorem vx_outP {p : Program} {l : Launch} {e : Env} {R : Room} {s : State} {m : MethodId} {args : Array Value} {below : List Frame} {meth : Method} {c : Code} {H : Heap} {locs : List Loc} {cells slots : Nat} {free : Addr → Prop} {ls : Array Slot} {rest : List Value} {Qc : Array Value → State → Outcome → State → Prop} {XC : String → State → State → Prop}
    {pc : Nat} {own E : String} {ce : Cell} {q : Addr} {mc ms : Nat} (hown : s.vm.findClass own = some m.cls) (hlocks : meth.locks = false)
    (hpass : ∀ z ∈ c.exceptionTable.toList, covers z pc = false ∨ (z.catchType ≠ 0 ∧ ∃ nm : String, (Cond.classLink own z.catchType nm).before args s = true ∧ va_Nc E nm s)) (hcell : H[q]? = some ce) (hv : ce.vm = .none) (hcl : s.vm.findClass E = some ce.cls)
    (hx : ∀ t : State, t.heap = H → s.vm.Alike t.vm → XC E s t) (hf : ∀ z ∈ locs, free z.base) (hc : cells ≤ mc) (hs : slots ≤ ms) :
    vx_W p l e R s m args below meth c H locs cells slots (vx_MQ below Qc XC args s mc ms free) (F0 m pc ls rest) q := by
  intro T hT X
  have hpl : e.platform.magicAccessors = ({} : Platform).magicAccessors := by rw [X.admits.platform]
  obtain ⟨vm', hW', X', st⟩ := X.outThrough hlocks q (g := F0 m pc ls rest) rfl rfl rfl (cell := ce) (by rw [hT]; exact hcell) (by rw [hv]; rfl)
    (by obtain ⟨k9, h9, -⟩ := Vm.findClass_spec hcl; exact ⟨k9, h9⟩) (fun z hz => by
      rcases hpass z hz with h | ⟨hz0, nm, hl1, hn1⟩
      · exact Or.inl h
      · obtain ⟨c6, hc6, hcl6⟩ := Cond.classLink_spec hown hl1 e.platform hpl
        obtain ⟨a8, b8, h1, h2, h3⟩ := hn1
        cases Option.some.inj (h1.symm.trans hcl)
        cases Option.some.inj (h2.symm.trans hc6)
        exact Or.inr ⟨hz0, _, hcl6, h3⟩)
  obtain ⟨g₀, hfr⟩ := X'.frames_eq
  have hcell9 : ((T.setVm vm').setFrames (.throwing q :: below)).heap[q]? = some ce := by
    show T.heap[q]? = some ce
    rw [hT]; exact hcell
  have hend : Ended ((T.setVm vm').setFrames (.throwing q :: below)) below (.threw q) := State.frames_setFrames _ (State.cur_lt_of_frames hfr)
  refine ⟨(T.setVm vm').setFrames (.throwing q :: below), ?_, .threw q, X'.here.running, hend, Or.inr ⟨q, rfl, E, ce, locs, hx _ hT (X'.ends _).1.alike, hcell9, hv, hcl, (X'.ends _).1, (X'.ends _).2.mono hc hs, hf⟩⟩
  rw [X.pushThrowing_eq]
  exact st
/-- a thing of a world lies in the heap -/
theorem vx_lt {D : va_G} {cl : List vw_C} {ws : va_W} {H1 : Heap} (h : va_P D cl ws H1) {k : Nat} {q : Nat × va_E} (hk : ws[k]? = some q) : q.1 < H1.size := (h k q hk).lt
end VXS
/-! ===== END ===== -/
/-! ===== BEGIN methods with a table of their own: called by a name, returning or throwing ===== -/
section VXH
/-! vx_backW, vx_callVX, vx_callSX, vx_callVW, vx_runVW, vx_runVX, vx_runSX, vx_ofWH follow the same proofs as their sisters above (Free/Laws.lean, Shelf42/LK1.lean); vx_outP calls Shelf42/NT130.lean (outThrough). -/
section
variable {l : Launch} {R : Room} {p : Program} {e : Env} {below : List Frame} {s : State} {sargs : Array Value} {y : MethodName} {len W9 : Nat}
theorem vx_backW {ws : List Cond} {rm : Room} {Pc : Array Value → State → Prop} {Qc : Array Value → State → Outcome → State → Prop} {XC : String → State → State → Prop} {mc ms : Nat} {free : Addr → Prop} {bytes : ByteArray} {maxL : Nat} {ret : Option FieldType} {hh : List (Nat × Nat × Nat × Nat)}
    (hM : vx_Met l y ws rm Pc Qc XC mc ms free) (hblind : FrameBlind Pc) (hrc : rm.cells = mc) (hrs : rm.slots = ms)
    (hframes : rm.frames + 1 ≤ R.frames) (hlocals : W9 + (maxL + 11) + rm.locals ≤ R.locals)
    (hws : ∀ w ∈ ws, ∀ a' U, s.WarmedH U.vm → w.before a' U = true) (hcode : Cond.codeWith y bytes maxL ret hh ∈ ws) (hinit : ∀ a' U, s.WarmedH U.vm → (Cond.initialized y.cls).before a' U = true) :
    vx_Back l R p e below s sargs y len W9 (PreOf R mc ms Pc) (PostOf Qc mc ms free) (vx_Post XC mc ms free) := by
  intro m meth c A g ig mk a X hg hsize hdg hW hn hp
  have h1 : (headSpec ws rm).pre.before a A.U = true := atoms_intro fun w hw => hws w hw _ _ X.warmed
  have h2 : (Cond.codeWith y bytes maxL ret hh).before a A.U = true := hws _ hcode _ _ X.warmed
  have h3 : (Cond.initialized y.cls).before a A.U = true := hinit _ _ X.warmed
  have h4 : A.cells + (headSpec ws rm).room.cells ≤ R.cells := by rw [show (headSpec ws rm).room.cells = mc from hrc]; exact hp.1
  have h5 : A.slots + (headSpec ws rm).room.slots ≤ R.slots := by rw [show (headSpec ws rm).room.slots = ms from hrs]; exact hp.2.1
  have hPc : Pc a (A.U.calling g mk a) := hblind _ _ _ _ hp.2.2
  obtain ⟨U, Ls, c0, s0⟩ := A
  dsimp only [Pt.U, Pt.locs, Pt.cells, Pt.slots] at h1 h2 h3 h4 h5 X hn hPc ⊢
  obtain ⟨m9, methY, cY, hn9, hmY, hcY, -, hlY, -⟩ := Cond.codeWith_spec h2
  cases Option.some.inj (hn9.symm.trans hn)
  obtain ⟨kY, hkY, -⟩ := className_of_methodNamed hn
  have hinitY : kY.init = .initialized := Cond.initialized_spec (findClass_of_methodNamed hn) hkY h3
  have h : At U g.method c below := by rw [hg]; exact X.here
  have hlocals9 : W9 + (maxL + 11) + (headSpec ws rm).room.locals ≤ R.locals := hlocals
  have happ : (headSpec ws rm).appliesLoose y e.platform (U.calling g mk a) = true :=
    Spec.appliesLoose_calling (g := g) h hdg hn hkY hinitY
      (X.room_calling (g := g) (R' := (headSpec ws rm).room) hsize hmY hcY hframes (by rw [hlY]; omega) h4 h5) h1
  obtain ⟨mid, hmid⟩ := h.above
  have hfr : (U.setTop g).frames = (.java g :: mid) ++ below := by rw [State.frames_setTop' g h.top, hmid]; rfl
  obtain ⟨o, s₂, hsteps, -, hend, hq⟩ := Steps.callFree hM p X.admits X.cas X.clock (acts := []) hfr happ hPc trivial
  have hq' : vx_Q Qc XC mc ms free a (U.calling g mk a) o s₂ := hq
  rw [State.frames_setTop' g h.top] at hend
  obtain ⟨g₀, hg0⟩ := Option.isSome_iff_exists.mp h.top
  obtain ⟨r, hr⟩ := State.topJava?_eq_some.mp hg0
  have hr' : (({ U with heap := s₂.heap, slotsUsed := s₂.slotsUsed } : State).setVm s₂.vm).frames = .java g₀ :: r := hr
  rcases hq' with ⟨hqc, L, hfe, hL⟩ | ⟨q, rfl, E, ce, L, hx, hce, hcv, hcl, hW₂, hsm, hL⟩
  · obtain ⟨⟨v, rfl⟩, hW₂, e2, q2, q3, q4, q5, q6⟩ := id hfe
    have e3 : s₂ = ({ (U.calling g mk a).setFrames s₂.frames with heap := s₂.heap, slotsUsed := s₂.slotsUsed } : State).setVm s₂.vm := by
      have : s₂ = ({ s₂ with vm := (U.calling g mk a).vm } : State).setVm s₂.vm := rfl
      rw [e2] at this
      exact this
    obtain ⟨c₂, i₂, len₂, hc₂, hd₂, hf₂⟩ := hend
    have hW' : U.WarmedH s₂.vm := hW₂
    have hcc : c₂ = c := by
      have h1 : s₂.code? g.method = U.code? g.method := by
        rw [State.code?_eq, State.code?_eq, hW'.alike.method?]
      exact Option.some.inj (hc₂.symm.trans (h1.trans h.code))
    subst hcc
    have hlen : len₂ = len := by rw [hdg] at hd₂; cases hd₂; rfl
    subst hlen
    have hs₂ : s₂ = (({ U with heap := s₂.heap, slotsUsed := s₂.slotsUsed } : State).setVm s₂.vm).setTop { g with pc := g.pc + len₂, stack := v.toList ++ g.stack } := by
      refine e3.trans ?_
      rw [hf₂, State.calling_eq h.top, State.setFrames_setFrames, State.setTop_of_frames _ hr', hr]
      rfl
    have hsame : U.sameButNew ({ U with heap := s₂.heap, slotsUsed := s₂.slotsUsed } : State) L mc ms := by
      refine ⟨?_, q2, q3, q4, q5, q6⟩
      obtain ⟨t, ht, -⟩ := State.frames_cons hr
      show ({ U with heap := s₂.heap, slotsUsed := s₂.slotsUsed } : State) = { U.setFrames U.frames with heap := s₂.heap, slotsUsed := s₂.slotsUsed }
      rw [State.setFrames_self ht]
    subst hg
    refine Or.inl ⟨v, ⟨(({ U with heap := s₂.heap, slotsUsed := s₂.slotsUsed } : State).setVm s₂.vm), Ls ++ L, c0 + mc, s0 + ms⟩,
      ⟨X.admits, X.cas, X.clock, X.frames, X.room, X.hears, X.method, X.code, (X.here.setHeapUsed s₂.heap s₂.slotsUsed).setVm hW'.alike, X.tail, State.WarmedH.trans X.warmed hW', X.limits, X.bytes, X.same.trans (hsame.setVm s.vm)⟩,
      ⟨g, mk, s₂, L, rfl, rfl, hqc, rfl, hL, rfl, rfl⟩, ?_⟩
    show Steps p.tables e below _ ((({ U with heap := s₂.heap, slotsUsed := s₂.slotsUsed } : State).setVm s₂.vm).setTop { g with pc := g.pc + len₂, stack := v.toList ++ g.stack })
    rw [← hs₂]
    exact hsteps
  · obtain ⟨e2, q2, q3, q4, q5, q6⟩ := id hsm
    have e3 : s₂ = ({ (U.calling g mk a).setFrames s₂.frames with heap := s₂.heap, slotsUsed := s₂.slotsUsed } : State).setVm s₂.vm := by
      have : s₂ = ({ s₂ with vm := (U.calling g mk a).vm } : State).setVm s₂.vm := rfl
      rw [e2] at this
      exact this
    have hf₂ : s₂.frames = .throwing q :: .java g :: U.frames.tail := hend
    have hW' : U.WarmedH s₂.vm := hW₂
    have hs₂ : s₂ = ((({ U with heap := s₂.heap, slotsUsed := s₂.slotsUsed } : State).setVm s₂.vm).setTop g).pushFrame (.throwing q) := by
      refine e3.trans ?_
      rw [hf₂, State.calling_eq h.top, State.setFrames_setFrames, State.pushFrame, State.frames_setTop _ hr', State.setTop_of_frames _ hr', State.setFrames_setFrames, hr]
      rfl
    have hsame : U.sameButNew ({ U with heap := s₂.heap, slotsUsed := s₂.slotsUsed } : State) L mc ms := by
      refine ⟨?_, q2, q3, q4, q5, q6⟩
      obtain ⟨t, ht, -⟩ := State.frames_cons hr
      show ({ U with heap := s₂.heap, slotsUsed := s₂.slotsUsed } : State) = { U.setFrames U.frames with heap := s₂.heap, slotsUsed := s₂.slotsUsed }
      rw [State.setFrames_self ht]
    subst hg
    refine Or.inr ⟨q, ⟨(({ U with heap := s₂.heap, slotsUsed := s₂.slotsUsed } : State).setVm s₂.vm), Ls ++ L, c0 + mc, s0 + ms⟩,
      ⟨X.admits, X.cas, X.clock, X.frames, X.room, X.hears, X.method, X.code, (X.here.setHeapUsed s₂.heap s₂.slotsUsed).setVm hW'.alike, X.tail, State.WarmedH.trans X.warmed hW', X.limits, X.bytes, X.same.trans (hsame.setVm s.vm)⟩,
      ⟨g, mk, s₂, L, E, ce, rfl, rfl, hx, hce, hcv, hcl, rfl, hL, rfl, rfl⟩, ?_⟩
    show Steps p.tables e below _ (((({ U with heap := s₂.heap, slotsUsed := s₂.slotsUsed } : State).setVm s₂.vm).setTop g).pushFrame (.throwing q))
    rw [← hs₂]
    exact hsteps
end
variable {p : Program} {l : Launch} {e : Env} {R : Room} {s : State} {m : MethodId} {args : Array Value} {below : List Frame} {meth : Method} {c : Code} {T : State} {H : Heap} {locs : List Loc} {cells slots : Nat}
theorem vx_callVX (X : Stand p l e R s m args below meth c T locs cells slots) (hexec : p.tables.exec = Jvm.exec) {own C : String} {index : Nat} {y : MethodName} {bytes : ByteArray} {maxL : Nat} {ret : Option FieldType} {hh : List (Nat × Nat × Nat × Nat)}
    (hown : s.vm.findClass own = some m.cls) (hlink : (Cond.methodLink own index y).before args s = true) (hinst : (Cond.instanceMethod y).before args s = true) (hsel : (Cond.selects C y y).before args s = true)
    (hcode : (Cond.codeWith y bytes maxL ret hh).before args s = true) (hy : y.cls ≠ "java/lang/invoke/MethodHandle" ∧ y.cls ≠ "java/lang/invoke/VarHandle")
    {W9 : Nat} {Pre : Pt → Array Value → Prop} {Post : Pt → Array Value → Option Value → Pt → Prop} {PostX : Pt → Array Value → Addr → Pt → Prop} (hK : vx_Back l R p e below s args y 3 W9 Pre Post PostX)
    {b : Addr} {cellB : Cell} (hcell : T.heap[b]? = some cellB) (hobj : cellB.vm.isStatics = false) (hcls : s.vm.findClass C = some cellB.cls)
    {g : JFrame} (hg : g.method = m) (hsize : g.locals.size = c.maxLocals) {argsL rest : List Value} (hlen : ∀ sig, parseMethodDescriptor y.desc = some sig → argsL.length = sig.parameters.length)
    (hstack : g.stack = argsL.reverse ++ .ref b :: rest) (hW : 2 * g.monitorRoom + (rest.map fun v => v.category).sum ≤ W9) (hdg : decode c.code g.pc = .ok (.invokevirtual index, 3))
    (hpre : ∀ vm₁, s.WarmedH vm₁ → Pre ⟨T.setVm vm₁, locs, cells, slots⟩ (Value.ref b :: argsL).toArray) :
    (∃ (v : Option Value) (vm₁ : Vm) (B : Pt), s.WarmedH vm₁ ∧ Stand p l e R s m args below meth c B.U B.locs B.cells B.slots ∧ Post ⟨T.setVm vm₁, locs, cells, slots⟩ (Value.ref b :: argsL).toArray v B ∧
      ∀ target, Steps p.tables e below (B.U.setTop { g with pc := g.pc + 3, stack := v.toList ++ rest }) target → Steps p.tables e below (T.setTop g) target) ∨
    (∃ (q : Addr) (vm₁ : Vm) (B : Pt), s.WarmedH vm₁ ∧ Stand p l e R s m args below meth c B.U B.locs B.cells B.slots ∧ PostX ⟨T.setVm vm₁, locs, cells, slots⟩ (Value.ref b :: argsL).toArray q B ∧
      Steps p.tables e below (T.setTop g) ((B.U.setTop { g with stack := rest }).pushFrame (.throwing q))) := by
  obtain ⟨mk, methM, hnamed, hmethM, hstM, habM⟩ := Cond.instanceMethod_spec hinst
  obtain ⟨m8, methM', cM, hn8, hmethM', -, -, -, -, -, -, hsigM⟩ := Cond.codeWith_spec hcode
  cases Option.some.inj (hn8.symm.trans hnamed)
  cases hmethM.symm.trans hmethM'
  obtain ⟨c2, r2, m2, q1, q2, q3, q4, kP, hkP, hkPi⟩ := Cond.selects_spec hsel
  cases hcls.symm.trans q1
  cases (State.methodFound?_of_named hnamed hy).symm.trans q2
  cases hnamed.symm.trans q3
  have hselP : selectMethod e.platform s.vm cellB.cls mk = .method mk := by rw [Launch.admits_selectMethod X.admits]; exact q4
  obtain ⟨vm₁, X₁, hstep₁⟩ := X.invokevirtual hexec hown hlink hnamed hmethM hstM hkP hkPi hy (a := b) (cell := cellB) hcell
    (fun z h => by rw [h] at hobj; cases hobj) hselP hmethM habM hkP hkPi (g := g) hg (argsL := argsL) (rest := rest) (hlen _ hsigM) hstack hdg
  rcases hK m meth c ⟨T.setVm vm₁, locs, cells, slots⟩ { g with stack := rest } (.invokevirtual index) mk (Value.ref b :: argsL).toArray X₁ hg hsize hdg hW (X₁.named hnamed) (hpre vm₁ X₁.warmed) with ⟨v, B, X', hpost, hsteps⟩ | ⟨q, B, X', hpost, hsteps⟩
  · exact Or.inl ⟨v, vm₁, B, X₁.warmed, X', hpost, fun target h => hstep₁ _ fun acts => by rw [doInvoke_state]; exact hsteps.trans h⟩
  · exact Or.inr ⟨q, vm₁, B, X₁.warmed, X', hpost, hstep₁ _ fun acts => by rw [doInvoke_state]; exact hsteps⟩
theorem vx_callSX (X : Stand p l e R s m args below meth c T locs cells slots) (hexec : p.tables.exec = Jvm.exec) {own : String} {index : Nat} {y : MethodName} {bytes : ByteArray} {maxL : Nat} {ret : Option FieldType} {hh : List (Nat × Nat × Nat × Nat)}
    (hown : s.vm.findClass own = some m.cls) (hlink : (Cond.methodLink own index y).before args s = true) (hstat : (Cond.static y).before args s = true) (hinit : (Cond.initialized y.cls).before args s = true)
    (hcode : (Cond.codeWith y bytes maxL ret hh).before args s = true) (hy : y.cls ≠ "java/lang/invoke/MethodHandle" ∧ y.cls ≠ "java/lang/invoke/VarHandle")
    {W9 : Nat} {Pre : Pt → Array Value → Prop} {Post : Pt → Array Value → Option Value → Pt → Prop} {PostX : Pt → Array Value → Addr → Pt → Prop} (hK : vx_Back l R p e below s args y 3 W9 Pre Post PostX)
    {g : JFrame} (hg : g.method = m) (hsize : g.locals.size = c.maxLocals) {argsL rest : List Value} (hlen : ∀ sig, parseMethodDescriptor y.desc = some sig → argsL.length = sig.parameters.length)
    (hstack : g.stack = argsL.reverse ++ rest) (hW : 2 * g.monitorRoom + (rest.map fun v => v.category).sum ≤ W9) (hdg : decode c.code g.pc = .ok (.invokestatic index, 3))
    (hpre : ∀ vm₁, s.WarmedH vm₁ → Pre ⟨T.setVm vm₁, locs, cells, slots⟩ argsL.toArray) :
    (∃ (v : Option Value) (vm₁ : Vm) (B : Pt), s.WarmedH vm₁ ∧ Stand p l e R s m args below meth c B.U B.locs B.cells B.slots ∧ Post ⟨T.setVm vm₁, locs, cells, slots⟩ argsL.toArray v B ∧
      ∀ target, Steps p.tables e below (B.U.setTop { g with pc := g.pc + 3, stack := v.toList ++ rest }) target → Steps p.tables e below (T.setTop g) target) ∨
    (∃ (q : Addr) (vm₁ : Vm) (B : Pt), s.WarmedH vm₁ ∧ Stand p l e R s m args below meth c B.U B.locs B.cells B.slots ∧ PostX ⟨T.setVm vm₁, locs, cells, slots⟩ argsL.toArray q B ∧
      Steps p.tables e below (T.setTop g) ((B.U.setTop { g with stack := rest }).pushFrame (.throwing q))) := by
  obtain ⟨mk, methM, cM, hnamed, hmethM, -, -, -, -, -, -, hsigM⟩ := Cond.codeWith_spec hcode
  have hstatic : methM.isStatic = true := Cond.static_spec hnamed hmethM hstat
  obtain ⟨kP, hkP, -⟩ := className_of_methodNamed hnamed
  have hinitP : kP.init = .initialized := Cond.initialized_spec (findClass_of_methodNamed hnamed) hkP hinit
  obtain ⟨vm₁, X₁, hstep₁⟩ := X.invokestatic hexec hown hlink hnamed hmethM hstatic hkP hinitP hy (g := g) hg (argsL := argsL) (rest := rest) (hlen _ hsigM) hstack hdg
  rcases hK m meth c ⟨T.setVm vm₁, locs, cells, slots⟩ { g with stack := rest } (.invokestatic index) mk argsL.toArray X₁ hg hsize hdg hW (X₁.named hnamed) (hpre vm₁ X₁.warmed) with ⟨v, B, X', hpost, hsteps⟩ | ⟨q, B, X', hpost, hsteps⟩
  · exact Or.inl ⟨v, vm₁, B, X₁.warmed, X', hpost, fun target h => hstep₁ _ fun acts => by rw [doInvoke_state]; exact hsteps.trans h⟩
  · exact Or.inr ⟨q, vm₁, B, X₁.warmed, X', hpost, hstep₁ _ fun acts => by rw [doInvoke_state]; exact hsteps⟩
theorem vx_callVW (X : Stand p l e R s m args below meth c T locs cells slots) (hexec : p.tables.exec = Jvm.exec) {own C : String} {index : Nat} {y : MethodName} {bytes : ByteArray} {maxL : Nat} {ret : Option FieldType} {hh : List (Nat × Nat × Nat × Nat)}
    (hown : s.vm.findClass own = some m.cls) (hlink : (Cond.methodLink own index y).before args s = true) (hinst : (Cond.instanceMethod y).before args s = true) (hsel : (Cond.selects C y y).before args s = true)
    (hcode : (Cond.codeWith y bytes maxL ret hh).before args s = true) (hy : y.cls ≠ "java/lang/invoke/MethodHandle" ∧ y.cls ≠ "java/lang/invoke/VarHandle")
    {W9 : Nat} {Pre : Pt → Array Value → Prop} {Post : Pt → Array Value → Option Value → Pt → Prop} (hK : Back l R p e below s args y 3 W9 Pre Post)
    {b : Addr} {cellB : Cell} (hcell : T.heap[b]? = some cellB) (hobj : cellB.vm.isStatics = false) (hcls : s.vm.findClass C = some cellB.cls)
    {g : JFrame} (hg : g.method = m) (hsize : g.locals.size = c.maxLocals) {argsL rest : List Value} (hlen : ∀ sig, parseMethodDescriptor y.desc = some sig → argsL.length = sig.parameters.length)
    (hstack : g.stack = argsL.reverse ++ .ref b :: rest) (hW : 2 * g.monitorRoom + (rest.map fun v => v.category).sum ≤ W9) (hdg : decode c.code g.pc = .ok (.invokevirtual index, 3))
    (hpre : ∀ vm₁, s.WarmedH vm₁ → Pre ⟨T.setVm vm₁, locs, cells, slots⟩ (Value.ref b :: argsL).toArray) :
    ∃ (v : Option Value) (vm₁ : Vm) (B : Pt), s.WarmedH vm₁ ∧ Stand p l e R s m args below meth c B.U B.locs B.cells B.slots ∧ Post ⟨T.setVm vm₁, locs, cells, slots⟩ (Value.ref b :: argsL).toArray v B ∧
      ∀ target, Steps p.tables e below (B.U.setTop { g with pc := g.pc + 3, stack := v.toList ++ rest }) target → Steps p.tables e below (T.setTop g) target := by
  obtain ⟨mk, methM, hnamed, hmethM, hstM, habM⟩ := Cond.instanceMethod_spec hinst
  obtain ⟨m8, methM', cM, hn8, hmethM', -, -, -, -, -, -, hsigM⟩ := Cond.codeWith_spec hcode
  cases Option.some.inj (hn8.symm.trans hnamed)
  cases hmethM.symm.trans hmethM'
  obtain ⟨c2, r2, m2, q1, q2, q3, q4, kP, hkP, hkPi⟩ := Cond.selects_spec hsel
  cases hcls.symm.trans q1
  cases (State.methodFound?_of_named hnamed hy).symm.trans q2
  cases hnamed.symm.trans q3
  have hselP : selectMethod e.platform s.vm cellB.cls mk = .method mk := by rw [Launch.admits_selectMethod X.admits]; exact q4
  obtain ⟨vm₁, X₁, hstep₁⟩ := X.invokevirtual hexec hown hlink hnamed hmethM hstM hkP hkPi hy (a := b) (cell := cellB) hcell
    (fun z h => by rw [h] at hobj; cases hobj) hselP hmethM habM hkP hkPi (g := g) hg (argsL := argsL) (rest := rest) (hlen _ hsigM) hstack hdg
  obtain ⟨v, B, X', hpost, hsteps⟩ := hK m meth c ⟨T.setVm vm₁, locs, cells, slots⟩ { g with stack := rest } (.invokevirtual index) mk (Value.ref b :: argsL).toArray X₁ hg hsize hdg hW (X₁.named hnamed) (hpre vm₁ X₁.warmed)
  exact ⟨v, vm₁, B, X₁.warmed, X', hpost, fun target h => hstep₁ _ fun acts => by rw [doInvoke_state]; exact hsteps.trans h⟩
abbrev vx_CVW (R : Room) (s : State) (args : Array Value) (own C : String) (index : Nat) (y : MethodName) (bytes : ByteArray) (maxL : Nat) (ret : Option FieldType) (hh : List (Nat × Nat × Nat × Nat)) (ws : List Cond) (rm : Room) (mc ms n : Nat) : Prop :=
  (rm.cells = mc ∧ rm.slots = ms ∧ rm.frames + 1 ≤ R.frames ∧ 8 + (maxL + 11) + rm.locals ≤ R.locals ∧ (∀ w ∈ ws, ∀ (a' : Array Value) (U : State), s.WarmedH U.vm → w.before a' U = true) ∧ Cond.codeWith y bytes maxL ret hh ∈ ws) ∧
  (Cond.codeWith y bytes maxL ret hh).before args s = true ∧ (Cond.initialized y.cls).before args s = true ∧ (y.cls ≠ "java/lang/invoke/MethodHandle" ∧ y.cls ≠ "java/lang/invoke/VarHandle") ∧
  (∀ sig, parseMethodDescriptor y.desc = some sig → n = sig.parameters.length) ∧ (Cond.methodLink own index y).before args s = true ∧ (Cond.instanceMethod y).before args s = true ∧ (Cond.selects C y y).before args s = true
theorem vx_cwVW {own C : String} {index maxL mc ms : Nat} {y : MethodName} {bytes : ByteArray} {ret : Option FieldType} {hh : List (Nat × Nat × Nat × Nat)} {Ts ws ws' : List Cond} {rm : Room} (n : Nat) (ht : ∀ w ∈ Ts, w.before args s = true) (hT : GoodIn Ts (wsV own index C y ws)) (hw : ws = Cond.codeWith y bytes maxL ret hh :: ws') (hrc : rm.cells = mc) (hrs : rm.slots = ms)
    (hd : y.cls = C ∧ y.cls ≠ "java/lang/invoke/MethodHandle" ∧ y.cls ≠ "java/lang/invoke/VarHandle" ∧ (parseMethodDescriptor y.desc).map (fun d => d.parameters.length) = some n) (hR : rm.frames + 1 ≤ R.frames ∧ 8 + (maxL + 11) + rm.locals ≤ R.locals) :
    vx_CVW R s args own C index y bytes maxL ret hh ws rm mc ms n := by
  obtain ⟨hC, hd⟩ := hd
  subst hC
  have ok : ∀ w ∈ wsV own index y.cls y ws, w.before args s = true := fun w h => ht w (hT w h).1
  have hG : GoodIn Ts ws := fun w h => hT w (by unfold wsV; exact List.mem_append_right _ h)
  have hc : Cond.codeWith y bytes maxL ret hh ∈ ws := by rw [hw]; exact List.mem_cons_self
  refine ⟨⟨hrc, hrs, hR.1, hR.2, pay_in ht hG, hc⟩, ht _ (hG _ hc).1, ok _ (by simp [wsV]), ⟨hd.1, hd.2.1⟩, fun sig h => ?_, ok _ (by simp [wsV]), ok _ (by simp [wsV]), ok _ (by simp [wsV])⟩
  have h2 := hd.2.2
  rw [h] at h2
  exact (Option.some.inj h2).symm
theorem vx_runVW {y : MethodName} {bytes cc : ByteArray} {maxL nL mc ms n index : Nat} {ret : Option FieldType} {hh : List (Nat × Nat × Nat × Nat)} {ws : List Cond} {rm : Room} {Pc : Array Value → State → Prop} {Qc : Array Value → State → Outcome → State → Prop} {free : Addr → Prop} {Ts : List Cond} {own C : String} {b : Addr} {As rest : List Value} {g : JFrame}
    (S : CallFix p m c cc nL s args Ts own) (hM : Met l y ws rm Pc Qc mc ms free) (cw : vx_CVW R s args own C index y bytes maxL ret hh ws rm mc ms n) (hp : PreV s H C b Pc As)
    (hg : g.method = m) (hn : As.length = n) (hsize : g.locals.size = nL) (hstack : g.stack = As.reverse ++ .ref b :: rest) (hW : 2 * g.monitorRoom + (rest.map fun v => v.category).sum ≤ 8) (hdg : decode cc g.pc = .ok (.invokevirtual index, 3)) (hf : cells + mc ≤ R.cells ∧ slots + ms ≤ R.slots) :
    va_Run p l e R s m args below meth c H locs cells slots mc ms g rest (Qc (Value.ref b :: As).toArray) free := by
  obtain ⟨⟨hrc, hrs, hfr, hlo, hws, hcw⟩, hcode, hini, hy, hlen, hl, hin, hse⟩ := cw
  have hK : Back l R p e below s args y 3 8 (PreOf R mc ms Pc) (PostOf Qc mc ms free) := va_backW (hh := hh) (bytes := bytes) (maxL := maxL) (ret := ret) hM hp.1 hrc hrs hfr hlo hws hcw (fun a' U hW => word_at hW (Or.inl (by first | rfl | simp [Cond.onTables, Cond.keeps, Cond.steady])) hini)
  obtain ⟨hx, hb, hml, ho, -⟩ := S
  obtain ⟨-, ⟨cellB, hcB, hoB, hclB⟩, hPc⟩ := hp
  intro T hT X
  obtain ⟨v, vm₁, ⟨U', l2, c2, s2⟩, hW₁, X', ⟨g', mk, t, L, e1, e2, hq, h1, hL, h2, h3⟩, st⟩ := vx_callVW X hx (C := C) (hh := hh) (bytes := bytes) (maxL := maxL) (ret := ret) ho hl hin hse hcode hy hK (by rw [hT]; exact hcB) hoB hclB hg (hsize.trans hml.symm) (argsL := As) (rest := rest) (fun sig h => hn.trans (hlen sig h)) hstack hW (by rw [hb]; exact hdg)
    (fun vm₁ hW₁ => ⟨hf.1, hf.2, hPc (T.setVm vm₁) hT hW₁⟩)
  dsimp only [Pt.U, Pt.locs, Pt.cells, Pt.slots] at X' e1 e2 h1 h2 h3 st
  subst h1; subst h2; subst h3
  exact ⟨v, (T.setVm vm₁).calling g' mk (Value.ref b :: As).toArray, t, U', L, hT, X', hL, e1, e2, hq, st⟩
section
variable {y : MethodName} {bytes cc : ByteArray} {maxL nL mc ms n index : Nat} {ret : Option FieldType} {ws : List Cond} {rm : Room} {Pc : Array Value → State → Prop} {Qc : Array Value → State → Outcome → State → Prop} {XC : String → State → State → Prop} {free : Addr → Prop} {Ts : List Cond} {own C : String} {b : Addr} {As rest : List Value} {g : JFrame}
theorem vx_runVX {hh : List (Nat × Nat × Nat × Nat)} (S : CallFix p m c cc nL s args Ts own) (hM : vx_Met l y ws rm Pc Qc XC mc ms free) (cw : vx_CVW R s args own C index y bytes maxL ret hh ws rm mc ms n) (hp : PreV s H C b Pc As)
    (hg : g.method = m) (hn : As.length = n) (hsize : g.locals.size = nL) (hstack : g.stack = As.reverse ++ .ref b :: rest) (hW : 2 * g.monitorRoom + (rest.map fun v => v.category).sum ≤ 8) (hdg : decode cc g.pc = .ok (.invokevirtual index, 3)) (hf : cells + mc ≤ R.cells ∧ slots + ms ≤ R.slots) :
    vx_Run p l e R s m args below meth c H locs cells slots mc ms g rest (Qc (Value.ref b :: As).toArray) XC free := by
  obtain ⟨⟨hrc, hrs, hfr, hlo, hws, hcw⟩, hcode, hini, hy, hlen, hl, hin, hse⟩ := cw
  have hK : vx_Back l R p e below s args y 3 8 (PreOf R mc ms Pc) (PostOf Qc mc ms free) (vx_Post XC mc ms free) := vx_backW (hh := hh) (bytes := bytes) (maxL := maxL) (ret := ret) hM hp.1 hrc hrs hfr hlo hws hcw (fun a' U hW => word_at hW (Or.inl (by first | rfl | simp [Cond.onTables, Cond.keeps, Cond.steady])) hini)
  obtain ⟨hx, hb, hml, ho, -⟩ := S
  obtain ⟨-, ⟨cellB, hcB, hoB, hclB⟩, hPc⟩ := hp
  intro T hT X
  rcases vx_callVX X hx (C := C) (hh := hh) (bytes := bytes) (maxL := maxL) (ret := ret) ho hl hin hse hcode hy hK (by rw [hT]; exact hcB) hoB hclB hg (hsize.trans hml.symm) (argsL := As) (rest := rest) (fun sig h => hn.trans (hlen sig h)) hstack hW (by rw [hb]; exact hdg)
    (fun vm₁ hW₁ => ⟨hf.1, hf.2, hPc (T.setVm vm₁) hT hW₁⟩) with ⟨v, vm₁, ⟨U', l2, c2, s2⟩, hW₁, X', ⟨g', mk, t, L, e1, e2, hq, h1, hL, h2, h3⟩, st⟩ | ⟨q, vm₁, ⟨U', l2, c2, s2⟩, hW₁, X', ⟨g', mk, t, L, E, ce, e1, e2, hq, hce, hcv, hcl, h1, hL, h2, h3⟩, st⟩
  · dsimp only [Pt.U, Pt.locs, Pt.cells, Pt.slots] at X' e1 e2 h1 h2 h3 st
    subst h1; subst h2; subst h3
    exact Or.inl ⟨v, (T.setVm vm₁).calling g' mk (Value.ref b :: As).toArray, t, U', L, hT, X', hL, e1, e2, hq, st⟩
  · dsimp only [Pt.U, Pt.locs, Pt.cells, Pt.slots] at X' e1 e2 h1 h2 h3 st hcl
    subst h1; subst h2; subst h3
    exact Or.inr ⟨q, (T.setVm vm₁).calling g' mk (Value.ref b :: As).toArray, t, U', L, E, ce, hT, X', hL, e1, e2, hq, hce, hcv, vx_cls hW₁ hcl, st⟩
theorem vx_runSX {hh : List (Nat × Nat × Nat × Nat)} (S : CallFix p m c cc nL s args Ts own) (hM : vx_Met l y ws rm Pc Qc XC mc ms free) (cw : vx_CSW R s args own index y bytes maxL ret hh ws rm mc ms n) (hp : PreS s H Pc As)
    (hg : g.method = m) (hn : As.length = n) (hsize : g.locals.size = nL) (hstack : g.stack = As.reverse ++ rest) (hW : 2 * g.monitorRoom + (rest.map fun v => v.category).sum ≤ 8) (hdg : decode cc g.pc = .ok (.invokestatic index, 3)) (hf : cells + mc ≤ R.cells ∧ slots + ms ≤ R.slots) :
    vx_Run p l e R s m args below meth c H locs cells slots mc ms g rest (Qc As.toArray) XC free := by
  obtain ⟨⟨hrc, hrs, hfr, hlo, hws, hcw⟩, hcode, hini, hy, hlen, hl, hstt⟩ := cw
  have hK : vx_Back l R p e below s args y 3 8 (PreOf R mc ms Pc) (PostOf Qc mc ms free) (vx_Post XC mc ms free) := vx_backW (hh := hh) (bytes := bytes) (maxL := maxL) (ret := ret) hM hp.1 hrc hrs hfr hlo hws hcw (fun a' U hW => word_at hW (Or.inl (by first | rfl | simp [Cond.onTables, Cond.keeps, Cond.steady])) hini)
  obtain ⟨hx, hb, hml, ho, -⟩ := S
  intro T hT X
  rcases vx_callSX X hx (hh := hh) (bytes := bytes) (maxL := maxL) (ret := ret) ho hl hstt hini hcode hy hK hg (hsize.trans hml.symm) (argsL := As) (rest := rest) (fun sig h => hn.trans (hlen sig h)) hstack hW (by rw [hb]; exact hdg)
    (fun vm₁ hW₁ => ⟨hf.1, hf.2, hp.2 (T.setVm vm₁) hT hW₁⟩) with ⟨v, vm₁, ⟨U', l2, c2, s2⟩, hW₁, X', ⟨g', mk, t, L, e1, e2, hq, h1, hL, h2, h3⟩, st⟩ | ⟨q, vm₁, ⟨U', l2, c2, s2⟩, hW₁, X', ⟨g', mk, t, L, E, ce, e1, e2, hq, hce, hcv, hcl, h1, hL, h2, h3⟩, st⟩
  · dsimp only [Pt.U, Pt.locs, Pt.cells, Pt.slots] at X' e1 e2 h1 h2 h3 st
    subst h1; subst h2; subst h3
    exact Or.inl ⟨v, (T.setVm vm₁).calling g' mk As.toArray, t, U', L, hT, X', hL, e1, e2, hq, st⟩
  · dsimp only [Pt.U, Pt.locs, Pt.cells, Pt.slots] at X' e1 e2 h1 h2 h3 st hcl
    subst h1; subst h2; subst h3
    exact Or.inr ⟨q, (T.setVm vm₁).calling g' mk As.toArray, t, U', L, E, ce, hT, X', hL, e1, e2, hq, hce, hcv, vx_cls hW₁ hcl, st⟩
end
end VXH
theorem vx_ofWH {l : Launch} {y : MethodName} {ws ws' : List Cond} {rm : Room} {Pc : Array Value → State → Prop} {Qc : Array Value → State → Outcome → State → Prop} {XC : String → State → State → Prop} {mc ms : Nat} {free : Addr → Prop} {cc : ByteArray} {maxL : Nat} {ret : Option FieldType} {hh : List (Nat × Nat × Nat × Nat)}
    (hy : plainName y.cls = true) (hw : ws = Cond.codeWith y cc maxL ret hh :: ws')
    (body : ∀ p e s m args below meth c s₁, BodyLoose p l y (headSpec ws rm) cc maxL ret e s m args below meth c s₁ → c.maxLocals = maxL → Pc args s →
      W p l e (headSpec ws rm).room s m args below meth c s.heap [] 0 0 (vx_MQ below Qc XC args s mc ms free) (entryFrame m args maxL)) : vx_Met l y ws rm Pc Qc XC mc ms free := by
  refine MetFree.of_bodyS (code := cc) (maxLocals := maxL) (ret := ret) hy ?_ ?_
  · intro args s m h hn
    obtain ⟨m9, meth, c, hn9, h1, h2, h3, h4, -, h5, h6, -⟩ := Cond.codeWith_spec (atoms_spec (ws := ws) h _ (by rw [hw]; exact List.mem_cons_self))
    cases hn.symm.trans hn9
    exact ⟨meth, c, h1, h2, h3, h4, h5, h6⟩
  · intro p e s m args below meth c s₁ B hml hP _
    have hh0 : s₁.heap = s.heap := by rw [B.state]; rfl
    obtain ⟨t, a1, o, b1, b2, b3⟩ := body p e s m args below meth c s₁ B hml hP s₁ hh0 (Stand.of_body B)
    exact ⟨t, o, a1, b1, b2, b3⟩
/-! ===== END ===== -/

def RX0 : String := "StampedSlots$History"
def TX0 : u_T := fun k => match k with
  | 0 => ("StampedSlots$History", "states", "[LStampedSlots$State;", true)
  | _ => ("StampedSlots$History", "length", "I", false)
def tyX0 : Nat → FieldType := fun k => match k with
  | 0 => .array (.object "StampedSlots$State")
  | _ => .int
theorem nmX0 : ∀ a, a < 2 → ∀ b, b < 2 → a ≠ b → (TX0 a).2.1 ≠ (TX0 b).2.1 := by decide +kernel
theorem tyX0_ok : ∀ k, k < 2 → parseFieldDescriptor (TX0 k).2.2.1 = some (tyX0 k) := by decide +kernel
abbrev cX0_init : ByteArray := prog_2_method_1_code
def yX0_init : MethodName := ⟨RX0, "<init>", "()V"⟩
abbrev cX0_size : ByteArray := prog_2_method_2_code
def yX0_size : MethodName := ⟨RX0, "size", "()I"⟩
abbrev cX0_save : ByteArray := prog_2_method_3_code
def yX0_save : MethodName := ⟨RX0, "save", "(LStampedSlots$State;)V"⟩
abbrev cX0_dropOldest : ByteArray := prog_2_method_4_code
def yX0_dropOldest : MethodName := ⟨RX0, "dropOldest", "()V"⟩
abbrev cX0_bringBack : ByteArray := prog_2_method_5_code
def yX0_bringBack : MethodName := ⟨RX0, "bringBack", "(LStampedSlots$State;)V"⟩
def RX1 : String := "StampedSlots$Row"
def TX1 : u_T := fun k => match k with
  | 0 => ("StampedSlots$Row", "length", "I", false)
  | 1 => ("StampedSlots$Row", "entries", "[I", true)
  | _ => ("StampedSlots$Row", "stands", "[I", true)
def tyX1 : Nat → FieldType := fun k => match k with
  | 0 => .int
  | 1 => .array .int
  | _ => .array .int
theorem nmX1 : ∀ a, a < 3 → ∀ b, b < 3 → a ≠ b → (TX1 a).2.1 ≠ (TX1 b).2.1 := by decide +kernel
theorem tyX1_ok : ∀ k, k < 3 → parseFieldDescriptor (TX1 k).2.2.1 = some (tyX1 k) := by decide +kernel
abbrev cX1_init : ByteArray := prog_3_method_1_code
def yX1_init : MethodName := ⟨RX1, "<init>", "()V"⟩
abbrev cX1_copyFrom : ByteArray := prog_3_method_2_code
def yX1_copyFrom : MethodName := ⟨RX1, "copyFrom", "(LStampedSlots$Row;)V"⟩
abbrev cX1_size : ByteArray := prog_3_method_3_code
def yX1_size : MethodName := ⟨RX1, "size", "()I"⟩
abbrev cX1_isEntry : ByteArray := prog_3_method_4_code
def yX1_isEntry : MethodName := ⟨RX1, "isEntry", "(I)Z"⟩
abbrev cX1_isThingIn : ByteArray := prog_3_method_5_code
def yX1_isThingIn : MethodName := ⟨RX1, "isThingIn", "(I)Z"⟩
abbrev cX1_things : ByteArray := prog_3_method_6_code
def yX1_things : MethodName := ⟨RX1, "things", "()I"⟩
abbrev cX1_tombstones : ByteArray := prog_3_method_7_code
def yX1_tombstones : MethodName := ⟨RX1, "tombstones", "()I"⟩
abbrev cX1_thingsFrom : ByteArray := prog_3_method_8_code
def yX1_thingsFrom : MethodName := ⟨RX1, "thingsFrom", "(I)I"⟩
abbrev cX1_thingAtPlace : ByteArray := prog_3_method_9_code
def yX1_thingAtPlace : MethodName := ⟨RX1, "thingAtPlace", "(I)I"⟩
abbrev cX1_placeOf : ByteArray := prog_3_method_10_code
def yX1_placeOf : MethodName := ⟨RX1, "placeOf", "(I)I"⟩
abbrev cX1_indexOf : ByteArray := prog_3_method_11_code
def yX1_indexOf : MethodName := ⟨RX1, "indexOf", "(I)I"⟩
abbrev cX1_list : ByteArray := prog_3_method_12_code
def yX1_list : MethodName := ⟨RX1, "list", "([I)I"⟩
abbrev cX1_insert : ByteArray := prog_3_method_13_code
def yX1_insert : MethodName := ⟨RX1, "insert", "(II)V"⟩
abbrev cX1_delete : ByteArray := prog_3_method_14_code
def yX1_delete : MethodName := ⟨RX1, "delete", "(I)V"⟩
abbrev cX1_bury : ByteArray := prog_3_method_15_code
def yX1_bury : MethodName := ⟨RX1, "bury", "(I)V"⟩
abbrev cX1_sweep : ByteArray := prog_3_method_16_code
def yX1_sweep : MethodName := ⟨RX1, "sweep", "(I)V"⟩
abbrev cX1_rename : ByteArray := prog_3_method_17_code
def yX1_rename : MethodName := ⟨RX1, "rename", "(II)V"⟩
abbrev cX1_walkersOn : ByteArray := prog_3_method_18_code
def yX1_walkersOn : MethodName := ⟨RX1, "walkersOn", "(I)I"⟩
abbrev cX1_standOf : ByteArray := prog_3_method_19_code
def yX1_standOf : MethodName := ⟨RX1, "standOf", "(I)I"⟩
abbrev cX1_thingUnder : ByteArray := prog_3_method_20_code
def yX1_thingUnder : MethodName := ⟨RX1, "thingUnder", "(I)I"⟩
abbrev cX1_thingsBehind : ByteArray := prog_3_method_21_code
def yX1_thingsBehind : MethodName := ⟨RX1, "thingsBehind", "(I)I"⟩
abbrev cX1_sendAhead : ByteArray := prog_3_method_22_code
def yX1_sendAhead : MethodName := ⟨RX1, "sendAhead", "(I)V"⟩
abbrev cX1_sendOn : ByteArray := prog_3_method_23_code
def yX1_sendOn : MethodName := ⟨RX1, "sendOn", "(I)V"⟩
abbrev cX1_indexUnder : ByteArray := prog_3_method_24_code
def yX1_indexUnder : MethodName := ⟨RX1, "indexUnder", "(I)I"⟩
abbrev cX1_nextThing : ByteArray := prog_3_method_25_code
def yX1_nextThing : MethodName := ⟨RX1, "nextThing", "(I)I"⟩
abbrev cX1_send : ByteArray := prog_3_method_26_code
def yX1_send : MethodName := ⟨RX1, "send", "(II)V"⟩
def RX2 : String := "StampedSlots$Slots"
def TX2 : u_T := fun k => match k with
  | 0 => ("StampedSlots$Slots", "cells", "I", false)
  | 1 => ("StampedSlots$Slots", "stamps", "[I", true)
  | 2 => ("StampedSlots$Slots", "owners", "[I", true)
  | 3 => ("StampedSlots$Slots", "sizes", "[I", true)
  | 4 => ("StampedSlots$Slots", "values", "[I", true)
  | 5 => ("StampedSlots$Slots", "kinds", "[I", true)
  | _ => ("StampedSlots$Slots", "fired", "[I", true)
def tyX2 : Nat → FieldType := fun k => match k with
  | 0 => .int
  | 1 => .array .int
  | 2 => .array .int
  | 3 => .array .int
  | 4 => .array .int
  | 5 => .array .int
  | _ => .array .int
theorem nmX2 : ∀ a, a < 7 → ∀ b, b < 7 → a ≠ b → (TX2 a).2.1 ≠ (TX2 b).2.1 := by decide +kernel
theorem tyX2_ok : ∀ k, k < 7 → parseFieldDescriptor (TX2 k).2.2.1 = some (tyX2 k) := by decide +kernel
abbrev cX2_init : ByteArray := prog_4_method_1_code
def yX2_init : MethodName := ⟨RX2, "<init>", "()V"⟩
abbrev cX2_copyFrom : ByteArray := prog_4_method_2_code
def yX2_copyFrom : MethodName := ⟨RX2, "copyFrom", "(LStampedSlots$Slots;)V"⟩
abbrev cX2_isCell : ByteArray := prog_4_method_3_code
def yX2_isCell : MethodName := ⟨RX2, "isCell", "(I)Z"⟩
abbrev cX2_cellsNow : ByteArray := prog_4_method_4_code
def yX2_cellsNow : MethodName := ⟨RX2, "cellsNow", "()I"⟩
abbrev cX2_stampAt : ByteArray := prog_4_method_5_code
def yX2_stampAt : MethodName := ⟨RX2, "stampAt", "(I)I"⟩
abbrev cX2_ownerOf : ByteArray := prog_4_method_6_code
def yX2_ownerOf : MethodName := ⟨RX2, "ownerOf", "(I)I"⟩
abbrev cX2_sizeAt : ByteArray := prog_4_method_7_code
def yX2_sizeAt : MethodName := ⟨RX2, "sizeAt", "(I)I"⟩
abbrev cX2_valueAt : ByteArray := prog_4_method_8_code
def yX2_valueAt : MethodName := ⟨RX2, "valueAt", "(I)I"⟩
abbrev cX2_kindAt : ByteArray := prog_4_method_9_code
def yX2_kindAt : MethodName := ⟨RX2, "kindAt", "(I)I"⟩
abbrev cX2_timesFired : ByteArray := prog_4_method_10_code
def yX2_timesFired : MethodName := ⟨RX2, "timesFired", "(I)I"⟩
abbrev cX2_handleOf : ByteArray := prog_4_method_11_code
def yX2_handleOf : MethodName := ⟨RX2, "handleOf", "(I)I"⟩
abbrev cX2_whyRefused : ByteArray := prog_4_method_12_code
def yX2_whyRefused : MethodName := ⟨RX2, "whyRefused", "(I)I"⟩
abbrev cX2_lowestFor : ByteArray := prog_4_method_13_code
def yX2_lowestFor : MethodName := ⟨RX2, "lowestFor", "(I)I"⟩
abbrev cX2_occupy : ByteArray := prog_4_method_14_code
def yX2_occupy : MethodName := ⟨RX2, "occupy", "(IIII)V"⟩
abbrev cX2_growTo : ByteArray := prog_4_method_15_code
def yX2_growTo : MethodName := ⟨RX2, "growTo", "(I)V"⟩
abbrev cX2_giveCells : ByteArray := prog_4_method_16_code
def yX2_giveCells : MethodName := ⟨RX2, "giveCells", "(III)V"⟩
abbrev cX2_release : ByteArray := prog_4_method_17_code
def yX2_release : MethodName := ⟨RX2, "release", "(I)V"⟩
abbrev cX2_carry : ByteArray := prog_4_method_18_code
def yX2_carry : MethodName := ⟨RX2, "carry", "(II)V"⟩
abbrev cX2_setValue : ByteArray := prog_4_method_19_code
def yX2_setValue : MethodName := ⟨RX2, "setValue", "(II)V"⟩
abbrev cX2_setTimesFired : ByteArray := prog_4_method_20_code
def yX2_setTimesFired : MethodName := ⟨RX2, "setTimesFired", "(II)V"⟩
abbrev cX2_freeCells : ByteArray := prog_4_method_21_code
def yX2_freeCells : MethodName := ⟨RX2, "freeCells", "()I"⟩
abbrev cX2_sumOfValues : ByteArray := prog_4_method_22_code
def yX2_sumOfValues : MethodName := ⟨RX2, "sumOfValues", "()I"⟩
abbrev cX2_roomFor : ByteArray := prog_4_method_23_code
def yX2_roomFor : MethodName := ⟨RX2, "roomFor", "(I)I"⟩
abbrev cX2_longestGap : ByteArray := prog_4_method_24_code
def yX2_longestGap : MethodName := ⟨RX2, "longestGap", "()I"⟩
abbrev cX2_beginOfLongestGap : ByteArray := prog_4_method_25_code
def yX2_beginOfLongestGap : MethodName := ⟨RX2, "beginOfLongestGap", "()I"⟩
def RX3 : String := "StampedSlots$State"
def TX3 : u_T := fun k => match k with
  | 0 => ("StampedSlots$State", "slots", "LStampedSlots$Slots;", true)
  | 1 => ("StampedSlots$State", "row", "LStampedSlots$Row;", true)
  | 2 => ("StampedSlots$State", "toFire", "[I", true)
  | 3 => ("StampedSlots$State", "events", "I", false)
  | 4 => ("StampedSlots$State", "thingsPut", "I", false)
  | 5 => ("StampedSlots$State", "thingsRemoved", "I", false)
  | _ => ("StampedSlots$State", "thingsMoved", "I", false)
def tyX3 : Nat → FieldType := fun k => match k with
  | 0 => .object "StampedSlots$Slots"
  | 1 => .object "StampedSlots$Row"
  | 2 => .array .int
  | 3 => .int
  | 4 => .int
  | 5 => .int
  | _ => .int
theorem nmX3 : ∀ a, a < 7 → ∀ b, b < 7 → a ≠ b → (TX3 a).2.1 ≠ (TX3 b).2.1 := by decide +kernel
theorem tyX3_ok : ∀ k, k < 7 → parseFieldDescriptor (TX3 k).2.2.1 = some (tyX3 k) := by decide +kernel
abbrev cX3_init : ByteArray := prog_5_method_1_code
def yX3_init : MethodName := ⟨RX3, "<init>", "()V"⟩
abbrev cX3_copyFrom : ByteArray := prog_5_method_2_code
def yX3_copyFrom : MethodName := ⟨RX3, "copyFrom", "(LStampedSlots$State;)V"⟩
abbrev cX3_addLast : ByteArray := prog_5_method_3_code
def yX3_addLast : MethodName := ⟨RX3, "addLast", "(III)I"⟩
abbrev cX3_addAt : ByteArray := prog_5_method_4_code
def yX3_addAt : MethodName := ⟨RX3, "addAt", "(IIII)I"⟩
abbrev cX3_drop : ByteArray := prog_5_method_5_code
def yX3_drop : MethodName := ⟨RX3, "drop", "(I)V"⟩
abbrev cX3_fireThings : ByteArray := prog_5_method_6_code
def yX3_fireThings : MethodName := ⟨RX3, "fireThings", "()I"⟩
abbrev cX3_fireThing : ByteArray := prog_5_method_7_code
def yX3_fireThing : MethodName := ⟨RX3, "fireThing", "(I)I"⟩
abbrev cX3_moveThings : ByteArray := prog_5_method_8_code
def yX3_moveThings : MethodName := ⟨RX3, "moveThings", "()I"⟩
def RX4 : String := "StampedSlots$ThingText"
def TX4 : u_T := fun k => match k with
  | 0 => ("StampedSlots$ThingText", "codes", "[I", true)
  | _ => ("StampedSlots$ThingText", "length", "I", false)
def tyX4 : Nat → FieldType := fun k => match k with
  | 0 => .array .int
  | _ => .int
theorem nmX4 : ∀ a, a < 2 → ∀ b, b < 2 → a ≠ b → (TX4 a).2.1 ≠ (TX4 b).2.1 := by decide +kernel
theorem tyX4_ok : ∀ k, k < 2 → parseFieldDescriptor (TX4 k).2.2.1 = some (tyX4 k) := by decide +kernel
abbrev cX4_init : ByteArray := prog_6_method_1_code
def yX4_init : MethodName := ⟨RX4, "<init>", "()V"⟩
abbrev cX4_size : ByteArray := prog_6_method_2_code
def yX4_size : MethodName := ⟨RX4, "size", "()I"⟩
abbrev cX4_isFull : ByteArray := prog_6_method_3_code
def yX4_isFull : MethodName := ⟨RX4, "isFull", "()Z"⟩
abbrev cX4_add : ByteArray := prog_6_method_4_code
def yX4_add : MethodName := ⟨RX4, "add", "(I)V"⟩
abbrev cX4_empty : ByteArray := prog_6_method_5_code
def yX4_empty : MethodName := ⟨RX4, "empty", "()V"⟩
abbrev cX4_codeAt : ByteArray := prog_6_method_6_code
def yX4_codeAt : MethodName := ⟨RX4, "codeAt", "(I)I"⟩
abbrev cX4_indexOf : ByteArray := prog_6_method_7_code
def yX4_indexOf : MethodName := ⟨RX4, "indexOf", "(II)I"⟩
abbrev cX4_numberIn : ByteArray := prog_6_method_8_code
def yX4_numberIn : MethodName := ⟨RX4, "numberIn", "(II)I"⟩
abbrev cX4_firstWrong : ByteArray := prog_6_method_9_code
def yX4_firstWrong : MethodName := ⟨RX4, "firstWrong", "()I"⟩
abbrev cX4_isComplete : ByteArray := prog_6_method_10_code
def yX4_isComplete : MethodName := ⟨RX4, "isComplete", "()Z"⟩
abbrev cX4_stateBehind : ByteArray := prog_6_method_11_code
def yX4_stateBehind : MethodName := ⟨RX4, "stateBehind", "(II)I"⟩
abbrev cX4_firstDigit : ByteArray := prog_6_method_12_code
def yX4_firstDigit : MethodName := ⟨RX4, "firstDigit", "(I)I"⟩
abbrev cX4_laterDigit : ByteArray := prog_6_method_13_code
def yX4_laterDigit : MethodName := ⟨RX4, "laterDigit", "(II)I"⟩
abbrev cX4_behindSize : ByteArray := prog_6_method_14_code
def yX4_behindSize : MethodName := ⟨RX4, "behindSize", "(I)I"⟩
def RX5 : String := "StampedSlots"
def TX5 : u_T := fun k => match k with
  | 0 => ("StampedSlots", "now", "LStampedSlots$State;", true)
  | 1 => ("StampedSlots", "trial", "LStampedSlots$State;", true)
  | 2 => ("StampedSlots", "history", "LStampedSlots$History;", true)
  | _ => ("StampedSlots", "buffer", "LStampedSlots$ThingText;", true)
def tyX5 : Nat → FieldType := fun k => match k with
  | 0 => .object "StampedSlots$State"
  | 1 => .object "StampedSlots$State"
  | 2 => .object "StampedSlots$History"
  | _ => .object "StampedSlots$ThingText"
theorem nmX5 : ∀ a, a < 4 → ∀ b, b < 4 → a ≠ b → (TX5 a).2.1 ≠ (TX5 b).2.1 := by decide +kernel
theorem tyX5_ok : ∀ k, k < 4 → parseFieldDescriptor (TX5 k).2.2.1 = some (tyX5 k) := by decide +kernel
abbrev cX5_init : ByteArray := prog_1_method_1_code
def yX5_init : MethodName := ⟨RX5, "<init>", "()V"⟩
abbrev cX5_put : ByteArray := prog_1_method_2_code
def yX5_put : MethodName := ⟨RX5, "put", "(III)I"⟩
abbrev cX5_putBehind : ByteArray := prog_1_method_3_code
def yX5_putBehind : MethodName := ⟨RX5, "putBehind", "(IIII)I"⟩
abbrev cX5_remove : ByteArray := prog_1_method_4_code
def yX5_remove : MethodName := ⟨RX5, "remove", "(I)I"⟩
abbrev cX5_change : ByteArray := prog_1_method_5_code
def yX5_change : MethodName := ⟨RX5, "change", "(II)I"⟩
abbrev cX5_restart : ByteArray := prog_1_method_6_code
def yX5_restart : MethodName := ⟨RX5, "restart", "(I)I"⟩
abbrev cX5_goOn : ByteArray := prog_1_method_7_code
def yX5_goOn : MethodName := ⟨RX5, "goOn", "(I)I"⟩
abbrev cX5_take : ByteArray := prog_1_method_8_code
def yX5_take : MethodName := ⟨RX5, "take", "(I)I"⟩
abbrev cX5_fire : ByteArray := prog_1_method_9_code
def yX5_fire : MethodName := ⟨RX5, "fire", "()I"⟩
abbrev cX5_together : ByteArray := prog_1_method_10_code
def yX5_together : MethodName := ⟨RX5, "together", "()I"⟩
abbrev cX5_append : ByteArray := prog_1_method_11_code
def yX5_append : MethodName := ⟨RX5, "append", "(I)I"⟩
abbrev cX5_clearBuffer : ByteArray := prog_1_method_12_code
def yX5_clearBuffer : MethodName := ⟨RX5, "clearBuffer", "()I"⟩
abbrev cX5_firstError : ByteArray := prog_1_method_13_code
def yX5_firstError : MethodName := ⟨RX5, "firstError", "()I"⟩
abbrev cX5_putAll : ByteArray := prog_1_method_14_code
def yX5_putAll : MethodName := ⟨RX5, "putAll", "()I"⟩
abbrev cX5_undo : ByteArray := prog_1_method_15_code
def yX5_undo : MethodName := ⟨RX5, "undo", "()I"⟩
abbrev cX5_refusal : ByteArray := prog_1_method_16_code
def yX5_refusal : MethodName := ⟨RX5, "refusal", "(I)I"⟩
abbrev cX5_thing : ByteArray := prog_1_method_17_code
def yX5_thing : MethodName := ⟨RX5, "thing", "(II)I"⟩
abbrev cX5_at : ByteArray := prog_1_method_18_code
def yX5_at : MethodName := ⟨RX5, "at", "(I)I"⟩
abbrev cX5_cell : ByteArray := prog_1_method_19_code
def yX5_cell : MethodName := ⟨RX5, "cell", "(II)I"⟩
abbrev cX5_walker : ByteArray := prog_1_method_20_code
def yX5_walker : MethodName := ⟨RX5, "walker", "(II)I"⟩
abbrev cX5_count : ByteArray := prog_1_method_21_code
def yX5_count : MethodName := ⟨RX5, "count", "(I)I"⟩
abbrev cX5_begins : ByteArray := prog_1_method_22_code
def yX5_begins : MethodName := ⟨RX5, "begins", "(I)I"⟩
abbrev cX5_gap : ByteArray := prog_1_method_23_code
def yX5_gap : MethodName := ⟨RX5, "gap", "(I)I"⟩
abbrev cX5_ifFired : ByteArray := prog_1_method_24_code
def yX5_ifFired : MethodName := ⟨RX5, "ifFired", "(II)I"⟩
abbrev cX5_room : ByteArray := prog_1_method_25_code
def yX5_room : MethodName := ⟨RX5, "room", "(IZ)I"⟩
abbrev cX5_fullness : ByteArray := prog_1_method_26_code
def yX5_fullness : MethodName := ⟨RX5, "fullness", "()D"⟩
abbrev cX5_digest : ByteArray := prog_1_method_27_code
def yX5_digest : MethodName := ⟨RX5, "digest", "()J"⟩
abbrev cX5_hashThings : ByteArray := prog_1_method_28_code
def yX5_hashThings : MethodName := ⟨RX5, "hashThings", "(J)J"⟩
abbrev cX5_hashCellsAndWalkers : ByteArray := prog_1_method_29_code
def yX5_hashCellsAndWalkers : MethodName := ⟨RX5, "hashCellsAndWalkers", "(J)J"⟩
abbrev cX5_hashWhatWouldBe : ByteArray := prog_1_method_30_code
def yX5_hashWhatWouldBe : MethodName := ⟨RX5, "hashWhatWouldBe", "(J)J"⟩
abbrev cX5_tryEvents : ByteArray := prog_1_method_31_code
def yX5_tryEvents : MethodName := ⟨RX5, "tryEvents", "(I)I"⟩
abbrev cX5_hashBuffer : ByteArray := prog_1_method_32_code
def yX5_hashBuffer : MethodName := ⟨RX5, "hashBuffer", "(J)J"⟩
abbrev cX5_bitsOfShare : ByteArray := prog_1_method_33_code
def yX5_bitsOfShare : MethodName := ⟨RX5, "bitsOfShare", "(D)J"⟩
abbrev cX5_putParts : ByteArray := prog_1_method_34_code
def yX5_putParts : MethodName := ⟨RX5, "putParts", "()I"⟩
abbrev cX5_kindOfSign : ByteArray := prog_1_method_35_code
def yX5_kindOfSign : MethodName := ⟨RX5, "kindOfSign", "(I)I"⟩
abbrev cX5_isThing : ByteArray := prog_1_method_36_code
def yX5_isThing : MethodName := ⟨RX5, "isThing", "(III)Z"⟩
abbrev cX5_isValue : ByteArray := prog_1_method_37_code
def yX5_isValue : MethodName := ⟨RX5, "isValue", "(I)Z"⟩
abbrev cX5_isSize : ByteArray := prog_1_method_38_code
def yX5_isSize : MethodName := ⟨RX5, "isSize", "(I)Z"⟩
abbrev cX5_isWalker : ByteArray := prog_1_method_39_code
def yX5_isWalker : MethodName := ⟨RX5, "isWalker", "(I)Z"⟩
def RX6 : String := "StampedSlotsModel"
def TX6 : u_T := fun k => match k with
  | 0 => ("StampedSlotsModel", "thrown", "I", false)
  | 1 => ("StampedSlotsModel", "now", "[I", true)
  | 2 => ("StampedSlotsModel", "then", "[I", true)
  | 3 => ("StampedSlotsModel", "past", "[I", true)
  | 4 => ("StampedSlotsModel", "states", "I", false)
  | 5 => ("StampedSlotsModel", "buffer", "[I", true)
  | 6 => ("StampedSlotsModel", "length", "I", false)
  | 7 => ("StampedSlotsModel", "spot", "I", false)
  | 8 => ("StampedSlotsModel", "told", "[I", true)
  | 9 => ("StampedSlotsModel", "toldMany", "I", false)
  | _ => ("StampedSlotsModel", "hash", "J", false)
def tyX6 : Nat → FieldType := fun k => match k with
  | 0 => .int
  | 1 => .array .int
  | 2 => .array .int
  | 3 => .array .int
  | 4 => .int
  | 5 => .array .int
  | 6 => .int
  | 7 => .int
  | 8 => .array .int
  | 9 => .int
  | _ => .long
theorem nmX6 : ∀ a, a < 11 → ∀ b, b < 11 → a ≠ b → (TX6 a).2.1 ≠ (TX6 b).2.1 := by decide +kernel
theorem tyX6_ok : ∀ k, k < 11 → parseFieldDescriptor (TX6 k).2.2.1 = some (tyX6 k) := by decide +kernel
abbrev cX6_init : ByteArray := prog_8_method_1_code
def yX6_init : MethodName := ⟨RX6, "<init>", "()V"⟩
abbrev cX6_thrown : ByteArray := prog_8_method_2_code
def yX6_thrown : MethodName := ⟨RX6, "thrown", "()I"⟩
abbrev cX6_in : ByteArray := prog_8_method_3_code
def yX6_in : MethodName := ⟨RX6, "in", "(III)Z"⟩
abbrev cX6_refuses : ByteArray := prog_8_method_4_code
def yX6_refuses : MethodName := ⟨RX6, "refuses", "(I)Z"⟩
abbrev cX6_lays : ByteArray := prog_8_method_5_code
def yX6_lays : MethodName := ⟨RX6, "lays", "([II[II)V"⟩
abbrev cX6_saves : ByteArray := prog_8_method_6_code
def yX6_saves : MethodName := ⟨RX6, "saves", "()V"⟩
abbrev cX6_of : ByteArray := prog_8_method_7_code
def yX6_of : MethodName := ⟨RX6, "of", "([III)I"⟩
abbrev cX6_isThing : ByteArray := prog_8_method_8_code
def yX6_isThing : MethodName := ⟨RX6, "isThing", "([II)Z"⟩
abbrev cX6_things : ByteArray := prog_8_method_9_code
def yX6_things : MethodName := ⟨RX6, "things", "([I)I"⟩
abbrev cX6_entryOf : ByteArray := prog_8_method_10_code
def yX6_entryOf : MethodName := ⟨RX6, "entryOf", "([II)I"⟩
abbrev cX6_handleOf : ByteArray := prog_8_method_11_code
def yX6_handleOf : MethodName := ⟨RX6, "handleOf", "([II)I"⟩
abbrev cX6_freeFrom : ByteArray := prog_8_method_12_code
def yX6_freeFrom : MethodName := ⟨RX6, "freeFrom", "([III)I"⟩
abbrev cX6_roomIn : ByteArray := prog_8_method_13_code
def yX6_roomIn : MethodName := ⟨RX6, "roomIn", "([III)I"⟩
abbrev cX6_cellsFor : ByteArray := prog_8_method_14_code
def yX6_cellsFor : MethodName := ⟨RX6, "cellsFor", "([II)I"⟩
abbrev cX6_leaves : ByteArray := prog_8_method_15_code
def yX6_leaves : MethodName := ⟨RX6, "leaves", "([II)V"⟩
abbrev cX6_comes : ByteArray := prog_8_method_16_code
def yX6_comes : MethodName := ⟨RX6, "comes", "([IIIII)I"⟩
abbrev cX6_standing : ByteArray := prog_8_method_17_code
def yX6_standing : MethodName := ⟨RX6, "standing", "([II)I"⟩
abbrev cX6_drops : ByteArray := prog_8_method_18_code
def yX6_drops : MethodName := ⟨RX6, "drops", "([II)V"⟩
abbrev cX6_removes : ByteArray := prog_8_method_19_code
def yX6_removes : MethodName := ⟨RX6, "removes", "([II)Z"⟩
abbrev cX6_walks : ByteArray := prog_8_method_20_code
def yX6_walks : MethodName := ⟨RX6, "walks", "([III)V"⟩
abbrev cX6_nextThing : ByteArray := prog_8_method_21_code
def yX6_nextThing : MethodName := ⟨RX6, "nextThing", "([II)I"⟩
abbrev cX6_whyNot : ByteArray := prog_8_method_22_code
def yX6_whyNot : MethodName := ⟨RX6, "whyNot", "([II)I"⟩
abbrev cX6_isNew : ByteArray := prog_8_method_23_code
def yX6_isNew : MethodName := ⟨RX6, "isNew", "(III)Z"⟩
abbrev cX6_put : ByteArray := prog_8_method_24_code
def yX6_put : MethodName := ⟨RX6, "put", "(III)I"⟩
abbrev cX6_putBehind : ByteArray := prog_8_method_25_code
def yX6_putBehind : MethodName := ⟨RX6, "putBehind", "(IIII)I"⟩
abbrev cX6_remove : ByteArray := prog_8_method_26_code
def yX6_remove : MethodName := ⟨RX6, "remove", "(I)I"⟩
abbrev cX6_change : ByteArray := prog_8_method_27_code
def yX6_change : MethodName := ⟨RX6, "change", "(II)I"⟩
abbrev cX6_isWalker : ByteArray := prog_8_method_28_code
def yX6_isWalker : MethodName := ⟨RX6, "isWalker", "(I)Z"⟩
abbrev cX6_stands : ByteArray := prog_8_method_29_code
def yX6_stands : MethodName := ⟨RX6, "stands", "([II)I"⟩
abbrev cX6_restart : ByteArray := prog_8_method_30_code
def yX6_restart : MethodName := ⟨RX6, "restart", "(I)I"⟩
abbrev cX6_underHandle : ByteArray := prog_8_method_31_code
def yX6_underHandle : MethodName := ⟨RX6, "underHandle", "(I)I"⟩
abbrev cX6_goOn : ByteArray := prog_8_method_32_code
def yX6_goOn : MethodName := ⟨RX6, "goOn", "(I)I"⟩
abbrev cX6_take : ByteArray := prog_8_method_33_code
def yX6_take : MethodName := ⟨RX6, "take", "(I)I"⟩
abbrev cX6_firesOne : ByteArray := prog_8_method_34_code
def yX6_firesOne : MethodName := ⟨RX6, "firesOne", "([II)I"⟩
abbrev cX6_fires : ByteArray := prog_8_method_35_code
def yX6_fires : MethodName := ⟨RX6, "fires", "([I)I"⟩
abbrev cX6_fire : ByteArray := prog_8_method_36_code
def yX6_fire : MethodName := ⟨RX6, "fire", "()I"⟩
abbrev cX6_lowestFrom : ByteArray := prog_8_method_37_code
def yX6_lowestFrom : MethodName := ⟨RX6, "lowestFrom", "([II)I"⟩
abbrev cX6_together : ByteArray := prog_8_method_38_code
def yX6_together : MethodName := ⟨RX6, "together", "()I"⟩
abbrev cX6_append : ByteArray := prog_8_method_39_code
def yX6_append : MethodName := ⟨RX6, "append", "(I)I"⟩
abbrev cX6_clearBuffer : ByteArray := prog_8_method_40_code
def yX6_clearBuffer : MethodName := ⟨RX6, "clearBuffer", "()I"⟩
abbrev cX6_sees : ByteArray := prog_8_method_41_code
def yX6_sees : MethodName := ⟨RX6, "sees", "(II)Z"⟩
abbrev cX6_takes : ByteArray := prog_8_method_42_code
def yX6_takes : MethodName := ⟨RX6, "takes", "(I)Z"⟩
abbrev cX6_isNumber : ByteArray := prog_8_method_43_code
def yX6_isNumber : MethodName := ⟨RX6, "isNumber", "(III)Z"⟩
abbrev cX6_isThingTold : ByteArray := prog_8_method_44_code
def yX6_isThingTold : MethodName := ⟨RX6, "isThingTold", "()Z"⟩
abbrev cX6_isText : ByteArray := prog_8_method_45_code
def yX6_isText : MethodName := ⟨RX6, "isText", "()Z"⟩
abbrev cX6_firstError : ByteArray := prog_8_method_46_code
def yX6_firstError : MethodName := ⟨RX6, "firstError", "()I"⟩
abbrev cX6_putAll : ByteArray := prog_8_method_47_code
def yX6_putAll : MethodName := ⟨RX6, "putAll", "()I"⟩
abbrev cX6_undo : ByteArray := prog_8_method_48_code
def yX6_undo : MethodName := ⟨RX6, "undo", "()I"⟩
abbrev cX6_refusal : ByteArray := prog_8_method_49_code
def yX6_refusal : MethodName := ⟨RX6, "refusal", "(I)I"⟩
abbrev cX6_placeOf : ByteArray := prog_8_method_50_code
def yX6_placeOf : MethodName := ⟨RX6, "placeOf", "(I)I"⟩
abbrev cX6_ofThing : ByteArray := prog_8_method_51_code
def yX6_ofThing : MethodName := ⟨RX6, "ofThing", "(II)I"⟩
abbrev cX6_thing : ByteArray := prog_8_method_52_code
def yX6_thing : MethodName := ⟨RX6, "thing", "(II)I"⟩
abbrev cX6_at : ByteArray := prog_8_method_53_code
def yX6_at : MethodName := ⟨RX6, "at", "(I)I"⟩
abbrev cX6_ofCell : ByteArray := prog_8_method_54_code
def yX6_ofCell : MethodName := ⟨RX6, "ofCell", "(I)I"⟩
abbrev cX6_cell : ByteArray := prog_8_method_55_code
def yX6_cell : MethodName := ⟨RX6, "cell", "(II)I"⟩
abbrev cX6_behind : ByteArray := prog_8_method_56_code
def yX6_behind : MethodName := ⟨RX6, "behind", "(I)I"⟩
abbrev cX6_ofWalker : ByteArray := prog_8_method_57_code
def yX6_ofWalker : MethodName := ⟨RX6, "ofWalker", "(II)I"⟩
abbrev cX6_walker : ByteArray := prog_8_method_58_code
def yX6_walker : MethodName := ⟨RX6, "walker", "(II)I"⟩
abbrev cX6_used : ByteArray := prog_8_method_59_code
def yX6_used : MethodName := ⟨RX6, "used", "()I"⟩
abbrev cX6_values : ByteArray := prog_8_method_60_code
def yX6_values : MethodName := ⟨RX6, "values", "()I"⟩
abbrev cX6_counted : ByteArray := prog_8_method_61_code
def yX6_counted : MethodName := ⟨RX6, "counted", "(I)I"⟩
abbrev cX6_count : ByteArray := prog_8_method_62_code
def yX6_count : MethodName := ⟨RX6, "count", "(I)I"⟩
abbrev cX6_beginsAt : ByteArray := prog_8_method_63_code
def yX6_beginsAt : MethodName := ⟨RX6, "beginsAt", "(I)I"⟩
abbrev cX6_begins : ByteArray := prog_8_method_64_code
def yX6_begins : MethodName := ⟨RX6, "begins", "(I)I"⟩
abbrev cX6_longest : ByteArray := prog_8_method_65_code
def yX6_longest : MethodName := ⟨RX6, "longest", "(I)I"⟩
abbrev cX6_gap : ByteArray := prog_8_method_66_code
def yX6_gap : MethodName := ⟨RX6, "gap", "(I)I"⟩
abbrev cX6_fired : ByteArray := prog_8_method_67_code
def yX6_fired : MethodName := ⟨RX6, "fired", "(II)I"⟩
abbrev cX6_ifFired : ByteArray := prog_8_method_68_code
def yX6_ifFired : MethodName := ⟨RX6, "ifFired", "(II)I"⟩
abbrev cX6_roomFor : ByteArray := prog_8_method_69_code
def yX6_roomFor : MethodName := ⟨RX6, "roomFor", "(IZ)I"⟩
abbrev cX6_room : ByteArray := prog_8_method_70_code
def yX6_room : MethodName := ⟨RX6, "room", "(IZ)I"⟩
abbrev cX6_full : ByteArray := prog_8_method_71_code
def yX6_full : MethodName := ⟨RX6, "full", "()D"⟩
abbrev cX6_fullness : ByteArray := prog_8_method_72_code
def yX6_fullness : MethodName := ⟨RX6, "fullness", "()D"⟩
abbrev cX6_mixes : ByteArray := prog_8_method_73_code
def yX6_mixes : MethodName := ⟨RX6, "mixes", "(J)V"⟩
abbrev cX6_mixesRow : ByteArray := prog_8_method_74_code
def yX6_mixesRow : MethodName := ⟨RX6, "mixesRow", "()V"⟩
abbrev cX6_digest : ByteArray := prog_8_method_75_code
def yX6_digest : MethodName := ⟨RX6, "digest", "()J"⟩
def RJxe99ae : String := "java/lang/Double"
def TJxe99ae : u_T := fun k => match k with
  | _ => ("", "", "", false)
def tyJxe99ae : Nat → FieldType := fun k => match k with
  | _ => .int
theorem nmJxe99ae : ∀ a, a < 0 → ∀ b, b < 0 → a ≠ b → (TJxe99ae a).2.1 ≠ (TJxe99ae b).2.1 := by decide +kernel
theorem tyJxe99ae_ok : ∀ k, k < 0 → parseFieldDescriptor (TJxe99ae k).2.2.1 = some (tyJxe99ae k) := by decide +kernel
abbrev cJxe99ae_isNaN_b9ae7 : ByteArray := prog_9_method_6_code
def yJxe99ae_isNaN_b9ae7 : MethodName := ⟨RJxe99ae, "isNaN", "(D)Z"⟩
abbrev cJxe99ae_doubleToLongBits_ccdee : ByteArray := prog_9_method_23_code
def yJxe99ae_doubleToLongBits_ccdee : MethodName := ⟨RJxe99ae, "doubleToLongBits", "(D)J"⟩
def RJ9 : String := "java/lang/Math"
def TJ9 : u_T := fun k => match k with
  | _ => ("", "", "", false)
def tyJ9 : Nat → FieldType := fun k => match k with
  | _ => .int
theorem nmJ9 : ∀ a, a < 0 → ∀ b, b < 0 → a ≠ b → (TJ9 a).2.1 ≠ (TJ9 b).2.1 := by decide +kernel
theorem tyJ9_ok : ∀ k, k < 0 → parseFieldDescriptor (TJ9 k).2.2.1 = some (tyJ9 k) := by decide +kernel
abbrev cJ9_max_7cf53 : ByteArray := prog_14_method_65_code
def yJ9_max_7cf53 : MethodName := ⟨RJ9, "max", "(II)I"⟩
def RJ0 : String := "java/lang/String"
def TJ0 : u_T := fun k => match k with
  | _ => ("", "", "", false)
def tyJ0 : Nat → FieldType := fun k => match k with
  | _ => .int
theorem nmJ0 : ∀ a, a < 0 → ∀ b, b < 0 → a ≠ b → (TJ0 a).2.1 ≠ (TJ0 b).2.1 := by decide +kernel
theorem tyJ0_ok : ∀ k, k < 0 → parseFieldDescriptor (TJ0 k).2.2.1 = some (tyJ0 k) := by decide +kernel
def RJ10 : String := "java/lang/System"
def TJ10 : u_T := fun k => match k with
  | _ => ("", "", "", false)
def tyJ10 : Nat → FieldType := fun k => match k with
  | _ => .int
theorem nmJ10 : ∀ a, a < 0 → ∀ b, b < 0 → a ≠ b → (TJ10 a).2.1 ≠ (TJ10 b).2.1 := by decide +kernel
theorem tyJ10_ok : ∀ k, k < 0 → parseFieldDescriptor (TJ10 k).2.2.1 = some (tyJ10 k) := by decide +kernel
def RL : String := "StampedSlotsLaw"
abbrev cL_put : ByteArray := method_3_code
def yL_put : MethodName := ⟨RL, "put", "(LStampedSlots;III[J)I"⟩
abbrev cL_putBehind : ByteArray := method_4_code
def yL_putBehind : MethodName := ⟨RL, "putBehind", "(LStampedSlots;IIII[J)I"⟩
abbrev cL_remove : ByteArray := method_5_code
def yL_remove : MethodName := ⟨RL, "remove", "(LStampedSlots;I[J)I"⟩
abbrev cL_change : ByteArray := method_6_code
def yL_change : MethodName := ⟨RL, "change", "(LStampedSlots;II[J)I"⟩
abbrev cL_restart : ByteArray := method_7_code
def yL_restart : MethodName := ⟨RL, "restart", "(LStampedSlots;I[J)I"⟩
abbrev cL_goOn : ByteArray := method_8_code
def yL_goOn : MethodName := ⟨RL, "goOn", "(LStampedSlots;I[J)I"⟩
abbrev cL_take : ByteArray := method_9_code
def yL_take : MethodName := ⟨RL, "take", "(LStampedSlots;I[J)I"⟩
abbrev cL_append : ByteArray := method_10_code
def yL_append : MethodName := ⟨RL, "append", "(LStampedSlots;I[J)I"⟩
abbrev cL_putAll : ByteArray := method_11_code
def yL_putAll : MethodName := ⟨RL, "putAll", "(LStampedSlots;[J)I"⟩
abbrev cL_undo : ByteArray := method_12_code
def yL_undo : MethodName := ⟨RL, "undo", "(LStampedSlots;[J)I"⟩
abbrev cL_thing : ByteArray := method_13_code
def yL_thing : MethodName := ⟨RL, "thing", "(LStampedSlots;II[J)I"⟩
abbrev cL_at : ByteArray := method_14_code
def yL_at : MethodName := ⟨RL, "at", "(LStampedSlots;I[J)I"⟩
abbrev cL_cell : ByteArray := method_15_code
def yL_cell : MethodName := ⟨RL, "cell", "(LStampedSlots;II[J)I"⟩
abbrev cL_walker : ByteArray := method_16_code
def yL_walker : MethodName := ⟨RL, "walker", "(LStampedSlots;II[J)I"⟩
abbrev cL_count : ByteArray := method_17_code
def yL_count : MethodName := ⟨RL, "count", "(LStampedSlots;I[J)I"⟩
abbrev cL_begins : ByteArray := method_18_code
def yL_begins : MethodName := ⟨RL, "begins", "(LStampedSlots;I[J)I"⟩
abbrev cL_gap : ByteArray := method_19_code
def yL_gap : MethodName := ⟨RL, "gap", "(LStampedSlots;I[J)I"⟩
abbrev cL_ifFired : ByteArray := method_20_code
def yL_ifFired : MethodName := ⟨RL, "ifFired", "(LStampedSlots;II[J)I"⟩
abbrev cL_room : ByteArray := method_21_code
def yL_room : MethodName := ⟨RL, "room", "(LStampedSlots;IZ[J)I"⟩
abbrev cL_law : ByteArray := code
def yL_law : MethodName := ⟨RL, "law", "([I)Z"⟩
theorem dX0_init_0 : decode cX0_init 0 = .ok (.aload_n 0, 1) := by decide +kernel
theorem dX0_init_1 : decode cX0_init 1 = .ok (.invokespecial 3, 3) := by decide +kernel
theorem dX0_init_4 : decode cX0_init 4 = .ok (.aload_n 0, 1) := by decide +kernel
theorem dX0_init_5 : decode cX0_init 5 = .ok (.iconst 0, 1) := by decide +kernel
theorem dX0_init_6 : decode cX0_init 6 = .ok (.putfield 9, 3) := by decide +kernel
theorem dX0_init_9 : decode cX0_init 9 = .ok (.aload_n 0, 1) := by decide +kernel
theorem dX0_init_10 : decode cX0_init 10 = .ok (.bipush 6, 2) := by decide +kernel
theorem dX0_init_12 : decode cX0_init 12 = .ok (.anewarray 15, 3) := by decide +kernel
theorem dX0_init_15 : decode cX0_init 15 = .ok (.putfield 17, 3) := by decide +kernel
theorem dX0_init_18 : decode cX0_init 18 = .ok (.iconst 0, 1) := by decide +kernel
theorem dX0_init_19 : decode cX0_init 19 = .ok (.istore_n 1, 1) := by decide +kernel
theorem dX0_init_20 : decode cX0_init 20 = .ok (.iload_n 1, 1) := by decide +kernel
theorem dX0_init_21 : decode cX0_init 21 = .ok (.bipush 6, 2) := by decide +kernel
theorem dX0_init_23 : decode cX0_init 23 = .ok (.if_icmp .ge 22, 3) := by decide +kernel
theorem dX0_init_26 : decode cX0_init 26 = .ok (.aload_n 0, 1) := by decide +kernel
theorem dX0_init_27 : decode cX0_init 27 = .ok (.getfield 17, 3) := by decide +kernel
theorem dX0_init_30 : decode cX0_init 30 = .ok (.iload_n 1, 1) := by decide +kernel
theorem dX0_init_31 : decode cX0_init 31 = .ok (.new 15, 3) := by decide +kernel
theorem dX0_init_34 : decode cX0_init 34 = .ok (.dup, 1) := by decide +kernel
theorem dX0_init_35 : decode cX0_init 35 = .ok (.invokespecial 21, 3) := by decide +kernel
theorem dX0_init_38 : decode cX0_init 38 = .ok (.aastore, 1) := by decide +kernel
theorem dX0_init_39 : decode cX0_init 39 = .ok (.iinc 1 1, 3) := by decide +kernel
theorem dX0_init_42 : decode cX0_init 42 = .ok (.goto (-22), 3) := by decide +kernel
theorem dX0_init_45 : decode cX0_init 45 = .ok (.return_, 1) := by decide +kernel
theorem dX0_size_0 : decode cX0_size 0 = .ok (.aload_n 0, 1) := by decide +kernel
theorem dX0_size_1 : decode cX0_size 1 = .ok (.getfield 9, 3) := by decide +kernel
theorem dX0_size_4 : decode cX0_size 4 = .ok (.ireturn, 1) := by decide +kernel
theorem dX0_save_0 : decode cX0_save 0 = .ok (.aload_n 0, 1) := by decide +kernel
theorem dX0_save_1 : decode cX0_save 1 = .ok (.getfield 9, 3) := by decide +kernel
theorem dX0_save_4 : decode cX0_save 4 = .ok (.bipush 6, 2) := by decide +kernel
theorem dX0_save_6 : decode cX0_save 6 = .ok (.if_icmp .lt 7, 3) := by decide +kernel
theorem dX0_save_9 : decode cX0_save 9 = .ok (.aload_n 0, 1) := by decide +kernel
theorem dX0_save_10 : decode cX0_save 10 = .ok (.invokevirtual 22, 3) := by decide +kernel
theorem dX0_save_13 : decode cX0_save 13 = .ok (.aload_n 0, 1) := by decide +kernel
theorem dX0_save_14 : decode cX0_save 14 = .ok (.getfield 9, 3) := by decide +kernel
theorem dX0_save_17 : decode cX0_save 17 = .ok (.ifCond .lt 12, 3) := by decide +kernel
theorem dX0_save_20 : decode cX0_save 20 = .ok (.aload_n 0, 1) := by decide +kernel
theorem dX0_save_21 : decode cX0_save 21 = .ok (.getfield 9, 3) := by decide +kernel
theorem dX0_save_24 : decode cX0_save 24 = .ok (.bipush 6, 2) := by decide +kernel
theorem dX0_save_26 : decode cX0_save 26 = .ok (.if_icmp .lt 4, 3) := by decide +kernel
theorem dX0_save_29 : decode cX0_save 29 = .ok (.return_, 1) := by decide +kernel
theorem dX0_save_30 : decode cX0_save 30 = .ok (.aload_n 0, 1) := by decide +kernel
theorem dX0_save_31 : decode cX0_save 31 = .ok (.getfield 17, 3) := by decide +kernel
theorem dX0_save_34 : decode cX0_save 34 = .ok (.aload_n 0, 1) := by decide +kernel
theorem dX0_save_35 : decode cX0_save 35 = .ok (.getfield 9, 3) := by decide +kernel
theorem dX0_save_38 : decode cX0_save 38 = .ok (.aaload, 1) := by decide +kernel
theorem dX0_save_39 : decode cX0_save 39 = .ok (.astore_n 2, 1) := by decide +kernel
theorem dX0_save_40 : decode cX0_save 40 = .ok (.aload_n 2, 1) := by decide +kernel
theorem dX0_save_41 : decode cX0_save 41 = .ok (.ifnull 18, 3) := by decide +kernel
theorem dX0_save_44 : decode cX0_save 44 = .ok (.aload_n 2, 1) := by decide +kernel
theorem dX0_save_45 : decode cX0_save 45 = .ok (.aload_n 1, 1) := by decide +kernel
theorem dX0_save_46 : decode cX0_save 46 = .ok (.invokevirtual 25, 3) := by decide +kernel
theorem dX0_save_49 : decode cX0_save 49 = .ok (.aload_n 0, 1) := by decide +kernel
theorem dX0_save_50 : decode cX0_save 50 = .ok (.dup, 1) := by decide +kernel
theorem dX0_save_51 : decode cX0_save 51 = .ok (.getfield 9, 3) := by decide +kernel
theorem dX0_save_54 : decode cX0_save 54 = .ok (.iconst 1, 1) := by decide +kernel
theorem dX0_save_55 : decode cX0_save 55 = .ok (.iadd, 1) := by decide +kernel
theorem dX0_save_56 : decode cX0_save 56 = .ok (.putfield 9, 3) := by decide +kernel
theorem dX0_save_59 : decode cX0_save 59 = .ok (.return_, 1) := by decide +kernel
theorem dX0_dropOldest_0 : decode cX0_dropOldest 0 = .ok (.aload_n 0, 1) := by decide +kernel
theorem dX0_dropOldest_1 : decode cX0_dropOldest 1 = .ok (.getfield 17, 3) := by decide +kernel
theorem dX0_dropOldest_4 : decode cX0_dropOldest 4 = .ok (.iconst 0, 1) := by decide +kernel
theorem dX0_dropOldest_5 : decode cX0_dropOldest 5 = .ok (.aaload, 1) := by decide +kernel
theorem dX0_dropOldest_6 : decode cX0_dropOldest 6 = .ok (.astore_n 1, 1) := by decide +kernel
theorem dX0_dropOldest_7 : decode cX0_dropOldest 7 = .ok (.iconst 1, 1) := by decide +kernel
theorem dX0_dropOldest_8 : decode cX0_dropOldest 8 = .ok (.istore_n 2, 1) := by decide +kernel
theorem dX0_dropOldest_9 : decode cX0_dropOldest 9 = .ok (.iload_n 2, 1) := by decide +kernel
theorem dX0_dropOldest_10 : decode cX0_dropOldest 10 = .ok (.bipush 6, 2) := by decide +kernel
theorem dX0_dropOldest_12 : decode cX0_dropOldest 12 = .ok (.if_icmp .ge 23, 3) := by decide +kernel
theorem dX0_dropOldest_15 : decode cX0_dropOldest 15 = .ok (.aload_n 0, 1) := by decide +kernel
theorem dX0_dropOldest_16 : decode cX0_dropOldest 16 = .ok (.getfield 17, 3) := by decide +kernel
theorem dX0_dropOldest_19 : decode cX0_dropOldest 19 = .ok (.iload_n 2, 1) := by decide +kernel
theorem dX0_dropOldest_20 : decode cX0_dropOldest 20 = .ok (.iconst 1, 1) := by decide +kernel
theorem dX0_dropOldest_21 : decode cX0_dropOldest 21 = .ok (.isub, 1) := by decide +kernel
theorem dX0_dropOldest_22 : decode cX0_dropOldest 22 = .ok (.aload_n 0, 1) := by decide +kernel
theorem dX0_dropOldest_23 : decode cX0_dropOldest 23 = .ok (.getfield 17, 3) := by decide +kernel
theorem dX0_dropOldest_26 : decode cX0_dropOldest 26 = .ok (.iload_n 2, 1) := by decide +kernel
theorem dX0_dropOldest_27 : decode cX0_dropOldest 27 = .ok (.aaload, 1) := by decide +kernel
theorem dX0_dropOldest_28 : decode cX0_dropOldest 28 = .ok (.aastore, 1) := by decide +kernel
theorem dX0_dropOldest_29 : decode cX0_dropOldest 29 = .ok (.iinc 2 1, 3) := by decide +kernel
theorem dX0_dropOldest_32 : decode cX0_dropOldest 32 = .ok (.goto (-23), 3) := by decide +kernel
theorem dX0_dropOldest_35 : decode cX0_dropOldest 35 = .ok (.aload_n 0, 1) := by decide +kernel
theorem dX0_dropOldest_36 : decode cX0_dropOldest 36 = .ok (.getfield 17, 3) := by decide +kernel
theorem dX0_dropOldest_39 : decode cX0_dropOldest 39 = .ok (.iconst 5, 1) := by decide +kernel
theorem dX0_dropOldest_40 : decode cX0_dropOldest 40 = .ok (.aload_n 1, 1) := by decide +kernel
theorem dX0_dropOldest_41 : decode cX0_dropOldest 41 = .ok (.aastore, 1) := by decide +kernel
theorem dX0_dropOldest_42 : decode cX0_dropOldest 42 = .ok (.aload_n 0, 1) := by decide +kernel
theorem dX0_dropOldest_43 : decode cX0_dropOldest 43 = .ok (.iconst 5, 1) := by decide +kernel
theorem dX0_dropOldest_44 : decode cX0_dropOldest 44 = .ok (.putfield 9, 3) := by decide +kernel
theorem dX0_dropOldest_47 : decode cX0_dropOldest 47 = .ok (.return_, 1) := by decide +kernel
theorem dX0_bringBack_0 : decode cX0_bringBack 0 = .ok (.aload_n 0, 1) := by decide +kernel
theorem dX0_bringBack_1 : decode cX0_bringBack 1 = .ok (.getfield 9, 3) := by decide +kernel
theorem dX0_bringBack_4 : decode cX0_bringBack 4 = .ok (.iconst 1, 1) := by decide +kernel
theorem dX0_bringBack_5 : decode cX0_bringBack 5 = .ok (.if_icmp .lt 12, 3) := by decide +kernel
theorem dX0_bringBack_8 : decode cX0_bringBack 8 = .ok (.aload_n 0, 1) := by decide +kernel
theorem dX0_bringBack_9 : decode cX0_bringBack 9 = .ok (.getfield 9, 3) := by decide +kernel
theorem dX0_bringBack_12 : decode cX0_bringBack 12 = .ok (.bipush 6, 2) := by decide +kernel
theorem dX0_bringBack_14 : decode cX0_bringBack 14 = .ok (.if_icmp .le 4, 3) := by decide +kernel
theorem dX0_bringBack_17 : decode cX0_bringBack 17 = .ok (.return_, 1) := by decide +kernel
theorem dX0_bringBack_18 : decode cX0_bringBack 18 = .ok (.aload_n 0, 1) := by decide +kernel
theorem dX0_bringBack_19 : decode cX0_bringBack 19 = .ok (.dup, 1) := by decide +kernel
theorem dX0_bringBack_20 : decode cX0_bringBack 20 = .ok (.getfield 9, 3) := by decide +kernel
theorem dX0_bringBack_23 : decode cX0_bringBack 23 = .ok (.iconst 1, 1) := by decide +kernel
theorem dX0_bringBack_24 : decode cX0_bringBack 24 = .ok (.isub, 1) := by decide +kernel
theorem dX0_bringBack_25 : decode cX0_bringBack 25 = .ok (.putfield 9, 3) := by decide +kernel
theorem dX0_bringBack_28 : decode cX0_bringBack 28 = .ok (.aload_n 0, 1) := by decide +kernel
theorem dX0_bringBack_29 : decode cX0_bringBack 29 = .ok (.getfield 17, 3) := by decide +kernel
theorem dX0_bringBack_32 : decode cX0_bringBack 32 = .ok (.aload_n 0, 1) := by decide +kernel
theorem dX0_bringBack_33 : decode cX0_bringBack 33 = .ok (.getfield 9, 3) := by decide +kernel
theorem dX0_bringBack_36 : decode cX0_bringBack 36 = .ok (.aaload, 1) := by decide +kernel
theorem dX0_bringBack_37 : decode cX0_bringBack 37 = .ok (.astore_n 2, 1) := by decide +kernel
theorem dX0_bringBack_38 : decode cX0_bringBack 38 = .ok (.aload_n 2, 1) := by decide +kernel
theorem dX0_bringBack_39 : decode cX0_bringBack 39 = .ok (.ifnull 8, 3) := by decide +kernel
theorem dX0_bringBack_42 : decode cX0_bringBack 42 = .ok (.aload_n 1, 1) := by decide +kernel
theorem dX0_bringBack_43 : decode cX0_bringBack 43 = .ok (.aload_n 2, 1) := by decide +kernel
theorem dX0_bringBack_44 : decode cX0_bringBack 44 = .ok (.invokevirtual 25, 3) := by decide +kernel
theorem dX0_bringBack_47 : decode cX0_bringBack 47 = .ok (.return_, 1) := by decide +kernel
theorem dX1_init_0 : decode cX1_init 0 = .ok (.aload_n 0, 1) := by decide +kernel
theorem dX1_init_1 : decode cX1_init 1 = .ok (.invokespecial 3, 3) := by decide +kernel
theorem dX1_init_4 : decode cX1_init 4 = .ok (.aload_n 0, 1) := by decide +kernel
theorem dX1_init_5 : decode cX1_init 5 = .ok (.iconst 0, 1) := by decide +kernel
theorem dX1_init_6 : decode cX1_init 6 = .ok (.putfield 9, 3) := by decide +kernel
theorem dX1_init_9 : decode cX1_init 9 = .ok (.aload_n 0, 1) := by decide +kernel
theorem dX1_init_10 : decode cX1_init 10 = .ok (.bipush 68, 2) := by decide +kernel
theorem dX1_init_12 : decode cX1_init 12 = .ok (.newarray .int, 2) := by decide +kernel
theorem dX1_init_14 : decode cX1_init 14 = .ok (.putfield 15, 3) := by decide +kernel
theorem dX1_init_17 : decode cX1_init 17 = .ok (.aload_n 0, 1) := by decide +kernel
theorem dX1_init_18 : decode cX1_init 18 = .ok (.iconst 4, 1) := by decide +kernel
theorem dX1_init_19 : decode cX1_init 19 = .ok (.newarray .int, 2) := by decide +kernel
theorem dX1_init_21 : decode cX1_init 21 = .ok (.putfield 19, 3) := by decide +kernel
theorem dX1_init_24 : decode cX1_init 24 = .ok (.iconst 0, 1) := by decide +kernel
theorem dX1_init_25 : decode cX1_init 25 = .ok (.istore_n 1, 1) := by decide +kernel
theorem dX1_init_26 : decode cX1_init 26 = .ok (.iload_n 1, 1) := by decide +kernel
theorem dX1_init_27 : decode cX1_init 27 = .ok (.iconst 4, 1) := by decide +kernel
theorem dX1_init_28 : decode cX1_init 28 = .ok (.if_icmp .ge 16, 3) := by decide +kernel
theorem dX1_init_31 : decode cX1_init 31 = .ok (.aload_n 0, 1) := by decide +kernel
theorem dX1_init_32 : decode cX1_init 32 = .ok (.getfield 19, 3) := by decide +kernel
theorem dX1_init_35 : decode cX1_init 35 = .ok (.iload_n 1, 1) := by decide +kernel
theorem dX1_init_36 : decode cX1_init 36 = .ok (.iconst (-1), 1) := by decide +kernel
theorem dX1_init_37 : decode cX1_init 37 = .ok (.iastore, 1) := by decide +kernel
theorem dX1_init_38 : decode cX1_init 38 = .ok (.iinc 1 1, 3) := by decide +kernel
theorem dX1_init_41 : decode cX1_init 41 = .ok (.goto (-15), 3) := by decide +kernel
theorem dX1_init_44 : decode cX1_init 44 = .ok (.return_, 1) := by decide +kernel
theorem dX1_copyFrom_0 : decode cX1_copyFrom 0 = .ok (.aload_n 0, 1) := by decide +kernel
theorem dX1_copyFrom_1 : decode cX1_copyFrom 1 = .ok (.aload_n 1, 1) := by decide +kernel
theorem dX1_copyFrom_2 : decode cX1_copyFrom 2 = .ok (.getfield 9, 3) := by decide +kernel
theorem dX1_copyFrom_5 : decode cX1_copyFrom 5 = .ok (.putfield 9, 3) := by decide +kernel
theorem dX1_copyFrom_8 : decode cX1_copyFrom 8 = .ok (.aload_n 1, 1) := by decide +kernel
theorem dX1_copyFrom_9 : decode cX1_copyFrom 9 = .ok (.getfield 15, 3) := by decide +kernel
theorem dX1_copyFrom_12 : decode cX1_copyFrom 12 = .ok (.iconst 0, 1) := by decide +kernel
theorem dX1_copyFrom_13 : decode cX1_copyFrom 13 = .ok (.aload_n 0, 1) := by decide +kernel
theorem dX1_copyFrom_14 : decode cX1_copyFrom 14 = .ok (.getfield 15, 3) := by decide +kernel
theorem dX1_copyFrom_17 : decode cX1_copyFrom 17 = .ok (.iconst 0, 1) := by decide +kernel
theorem dX1_copyFrom_18 : decode cX1_copyFrom 18 = .ok (.bipush 68, 2) := by decide +kernel
theorem dX1_copyFrom_20 : decode cX1_copyFrom 20 = .ok (.invokestatic 22, 3) := by decide +kernel
theorem dX1_copyFrom_23 : decode cX1_copyFrom 23 = .ok (.aload_n 1, 1) := by decide +kernel
theorem dX1_copyFrom_24 : decode cX1_copyFrom 24 = .ok (.getfield 19, 3) := by decide +kernel
theorem dX1_copyFrom_27 : decode cX1_copyFrom 27 = .ok (.iconst 0, 1) := by decide +kernel
theorem dX1_copyFrom_28 : decode cX1_copyFrom 28 = .ok (.aload_n 0, 1) := by decide +kernel
theorem dX1_copyFrom_29 : decode cX1_copyFrom 29 = .ok (.getfield 19, 3) := by decide +kernel
theorem dX1_copyFrom_32 : decode cX1_copyFrom 32 = .ok (.iconst 0, 1) := by decide +kernel
theorem dX1_copyFrom_33 : decode cX1_copyFrom 33 = .ok (.iconst 4, 1) := by decide +kernel
theorem dX1_copyFrom_34 : decode cX1_copyFrom 34 = .ok (.invokestatic 22, 3) := by decide +kernel
theorem dX1_copyFrom_37 : decode cX1_copyFrom 37 = .ok (.return_, 1) := by decide +kernel
theorem dX1_size_0 : decode cX1_size 0 = .ok (.aload_n 0, 1) := by decide +kernel
theorem dX1_size_1 : decode cX1_size 1 = .ok (.getfield 9, 3) := by decide +kernel
theorem dX1_size_4 : decode cX1_size 4 = .ok (.ireturn, 1) := by decide +kernel
theorem dX1_isEntry_0 : decode cX1_isEntry 0 = .ok (.iload_n 1, 1) := by decide +kernel
theorem dX1_isEntry_1 : decode cX1_isEntry 1 = .ok (.ifCond .lt 21, 3) := by decide +kernel
theorem dX1_isEntry_4 : decode cX1_isEntry 4 = .ok (.iload_n 1, 1) := by decide +kernel
theorem dX1_isEntry_5 : decode cX1_isEntry 5 = .ok (.aload_n 0, 1) := by decide +kernel
theorem dX1_isEntry_6 : decode cX1_isEntry 6 = .ok (.getfield 9, 3) := by decide +kernel
theorem dX1_isEntry_9 : decode cX1_isEntry 9 = .ok (.if_icmp .ge 13, 3) := by decide +kernel
theorem dX1_isEntry_12 : decode cX1_isEntry 12 = .ok (.iload_n 1, 1) := by decide +kernel
theorem dX1_isEntry_13 : decode cX1_isEntry 13 = .ok (.bipush 68, 2) := by decide +kernel
theorem dX1_isEntry_15 : decode cX1_isEntry 15 = .ok (.if_icmp .ge 7, 3) := by decide +kernel
theorem dX1_isEntry_18 : decode cX1_isEntry 18 = .ok (.iconst 1, 1) := by decide +kernel
theorem dX1_isEntry_19 : decode cX1_isEntry 19 = .ok (.goto 4, 3) := by decide +kernel
theorem dX1_isEntry_22 : decode cX1_isEntry 22 = .ok (.iconst 0, 1) := by decide +kernel
theorem dX1_isEntry_23 : decode cX1_isEntry 23 = .ok (.ireturn, 1) := by decide +kernel
theorem dX1_isThingIn_0 : decode cX1_isThingIn 0 = .ok (.aload_n 0, 1) := by decide +kernel
theorem dX1_isThingIn_1 : decode cX1_isThingIn 1 = .ok (.iload_n 1, 1) := by decide +kernel
theorem dX1_isThingIn_2 : decode cX1_isThingIn 2 = .ok (.invokevirtual 28, 3) := by decide +kernel
theorem dX1_isThingIn_5 : decode cX1_isThingIn 5 = .ok (.ifCond .eq 17, 3) := by decide +kernel
theorem dX1_isThingIn_8 : decode cX1_isThingIn 8 = .ok (.aload_n 0, 1) := by decide +kernel
theorem dX1_isThingIn_9 : decode cX1_isThingIn 9 = .ok (.getfield 15, 3) := by decide +kernel
theorem dX1_isThingIn_12 : decode cX1_isThingIn 12 = .ok (.iload_n 1, 1) := by decide +kernel
theorem dX1_isThingIn_13 : decode cX1_isThingIn 13 = .ok (.iaload, 1) := by decide +kernel
theorem dX1_isThingIn_14 : decode cX1_isThingIn 14 = .ok (.iconst (-1), 1) := by decide +kernel
theorem dX1_isThingIn_15 : decode cX1_isThingIn 15 = .ok (.if_icmp .eq 7, 3) := by decide +kernel
theorem dX1_isThingIn_18 : decode cX1_isThingIn 18 = .ok (.iconst 1, 1) := by decide +kernel
theorem dX1_isThingIn_19 : decode cX1_isThingIn 19 = .ok (.goto 4, 3) := by decide +kernel
theorem dX1_isThingIn_22 : decode cX1_isThingIn 22 = .ok (.iconst 0, 1) := by decide +kernel
theorem dX1_isThingIn_23 : decode cX1_isThingIn 23 = .ok (.ireturn, 1) := by decide +kernel
theorem dX1_things_0 : decode cX1_things 0 = .ok (.aload_n 0, 1) := by decide +kernel
theorem dX1_things_1 : decode cX1_things 1 = .ok (.iconst 0, 1) := by decide +kernel
theorem dX1_things_2 : decode cX1_things 2 = .ok (.invokevirtual 32, 3) := by decide +kernel
theorem dX1_things_5 : decode cX1_things 5 = .ok (.ireturn, 1) := by decide +kernel
theorem dX1_tombstones_0 : decode cX1_tombstones 0 = .ok (.aload_n 0, 1) := by decide +kernel
theorem dX1_tombstones_1 : decode cX1_tombstones 1 = .ok (.getfield 9, 3) := by decide +kernel
theorem dX1_tombstones_4 : decode cX1_tombstones 4 = .ok (.aload_n 0, 1) := by decide +kernel
theorem dX1_tombstones_5 : decode cX1_tombstones 5 = .ok (.invokevirtual 36, 3) := by decide +kernel
theorem dX1_tombstones_8 : decode cX1_tombstones 8 = .ok (.isub, 1) := by decide +kernel
theorem dX1_tombstones_9 : decode cX1_tombstones 9 = .ok (.ireturn, 1) := by decide +kernel
theorem dX1_thingsFrom_0 : decode cX1_thingsFrom 0 = .ok (.iconst 0, 1) := by decide +kernel
theorem dX1_thingsFrom_1 : decode cX1_thingsFrom 1 = .ok (.istore_n 2, 1) := by decide +kernel
theorem dX1_thingsFrom_2 : decode cX1_thingsFrom 2 = .ok (.iload_n 1, 1) := by decide +kernel
theorem dX1_thingsFrom_3 : decode cX1_thingsFrom 3 = .ok (.iconst 0, 1) := by decide +kernel
theorem dX1_thingsFrom_4 : decode cX1_thingsFrom 4 = .ok (.invokestatic 40, 3) := by decide +kernel
theorem dX1_thingsFrom_7 : decode cX1_thingsFrom 7 = .ok (.istore_n 3, 1) := by decide +kernel
theorem dX1_thingsFrom_8 : decode cX1_thingsFrom 8 = .ok (.iload_n 3, 1) := by decide +kernel
theorem dX1_thingsFrom_9 : decode cX1_thingsFrom 9 = .ok (.aload_n 0, 1) := by decide +kernel
theorem dX1_thingsFrom_10 : decode cX1_thingsFrom 10 = .ok (.getfield 9, 3) := by decide +kernel
theorem dX1_thingsFrom_13 : decode cX1_thingsFrom 13 = .ok (.if_icmp .ge 22, 3) := by decide +kernel
theorem dX1_thingsFrom_16 : decode cX1_thingsFrom 16 = .ok (.aload_n 0, 1) := by decide +kernel
theorem dX1_thingsFrom_17 : decode cX1_thingsFrom 17 = .ok (.getfield 15, 3) := by decide +kernel
theorem dX1_thingsFrom_20 : decode cX1_thingsFrom 20 = .ok (.iload_n 3, 1) := by decide +kernel
theorem dX1_thingsFrom_21 : decode cX1_thingsFrom 21 = .ok (.iaload, 1) := by decide +kernel
theorem dX1_thingsFrom_22 : decode cX1_thingsFrom 22 = .ok (.iconst (-1), 1) := by decide +kernel
theorem dX1_thingsFrom_23 : decode cX1_thingsFrom 23 = .ok (.if_icmp .eq 6, 3) := by decide +kernel
theorem dX1_thingsFrom_26 : decode cX1_thingsFrom 26 = .ok (.iinc 2 1, 3) := by decide +kernel
theorem dX1_thingsFrom_29 : decode cX1_thingsFrom 29 = .ok (.iinc 3 1, 3) := by decide +kernel
theorem dX1_thingsFrom_32 : decode cX1_thingsFrom 32 = .ok (.goto (-24), 3) := by decide +kernel
theorem dX1_thingsFrom_35 : decode cX1_thingsFrom 35 = .ok (.iload_n 2, 1) := by decide +kernel
theorem dX1_thingsFrom_36 : decode cX1_thingsFrom 36 = .ok (.ireturn, 1) := by decide +kernel
theorem dX1_thingAtPlace_0 : decode cX1_thingAtPlace 0 = .ok (.iconst 0, 1) := by decide +kernel
theorem dX1_thingAtPlace_1 : decode cX1_thingAtPlace 1 = .ok (.istore_n 2, 1) := by decide +kernel
theorem dX1_thingAtPlace_2 : decode cX1_thingAtPlace 2 = .ok (.iconst 0, 1) := by decide +kernel
theorem dX1_thingAtPlace_3 : decode cX1_thingAtPlace 3 = .ok (.istore_n 3, 1) := by decide +kernel
theorem dX1_thingAtPlace_4 : decode cX1_thingAtPlace 4 = .ok (.iload_n 3, 1) := by decide +kernel
theorem dX1_thingAtPlace_5 : decode cX1_thingAtPlace 5 = .ok (.aload_n 0, 1) := by decide +kernel
theorem dX1_thingAtPlace_6 : decode cX1_thingAtPlace 6 = .ok (.getfield 9, 3) := by decide +kernel
theorem dX1_thingAtPlace_9 : decode cX1_thingAtPlace 9 = .ok (.if_icmp .ge 34, 3) := by decide +kernel
theorem dX1_thingAtPlace_12 : decode cX1_thingAtPlace 12 = .ok (.aload_n 0, 1) := by decide +kernel
theorem dX1_thingAtPlace_13 : decode cX1_thingAtPlace 13 = .ok (.getfield 15, 3) := by decide +kernel
theorem dX1_thingAtPlace_16 : decode cX1_thingAtPlace 16 = .ok (.iload_n 3, 1) := by decide +kernel
theorem dX1_thingAtPlace_17 : decode cX1_thingAtPlace 17 = .ok (.iaload, 1) := by decide +kernel
theorem dX1_thingAtPlace_18 : decode cX1_thingAtPlace 18 = .ok (.iconst (-1), 1) := by decide +kernel
theorem dX1_thingAtPlace_19 : decode cX1_thingAtPlace 19 = .ok (.if_icmp .eq 18, 3) := by decide +kernel
theorem dX1_thingAtPlace_22 : decode cX1_thingAtPlace 22 = .ok (.iload_n 2, 1) := by decide +kernel
theorem dX1_thingAtPlace_23 : decode cX1_thingAtPlace 23 = .ok (.iload_n 1, 1) := by decide +kernel
theorem dX1_thingAtPlace_24 : decode cX1_thingAtPlace 24 = .ok (.if_icmp .ne 10, 3) := by decide +kernel
theorem dX1_thingAtPlace_27 : decode cX1_thingAtPlace 27 = .ok (.aload_n 0, 1) := by decide +kernel
theorem dX1_thingAtPlace_28 : decode cX1_thingAtPlace 28 = .ok (.getfield 15, 3) := by decide +kernel
theorem dX1_thingAtPlace_31 : decode cX1_thingAtPlace 31 = .ok (.iload_n 3, 1) := by decide +kernel
theorem dX1_thingAtPlace_32 : decode cX1_thingAtPlace 32 = .ok (.iaload, 1) := by decide +kernel
theorem dX1_thingAtPlace_33 : decode cX1_thingAtPlace 33 = .ok (.ireturn, 1) := by decide +kernel
theorem dX1_thingAtPlace_34 : decode cX1_thingAtPlace 34 = .ok (.iinc 2 1, 3) := by decide +kernel
theorem dX1_thingAtPlace_37 : decode cX1_thingAtPlace 37 = .ok (.iinc 3 1, 3) := by decide +kernel
theorem dX1_thingAtPlace_40 : decode cX1_thingAtPlace 40 = .ok (.goto (-36), 3) := by decide +kernel
theorem dX1_thingAtPlace_43 : decode cX1_thingAtPlace 43 = .ok (.iconst (-1), 1) := by decide +kernel
theorem dX1_thingAtPlace_44 : decode cX1_thingAtPlace 44 = .ok (.ireturn, 1) := by decide +kernel
theorem dX1_placeOf_0 : decode cX1_placeOf 0 = .ok (.iconst 0, 1) := by decide +kernel
theorem dX1_placeOf_1 : decode cX1_placeOf 1 = .ok (.istore_n 2, 1) := by decide +kernel
theorem dX1_placeOf_2 : decode cX1_placeOf 2 = .ok (.iconst 0, 1) := by decide +kernel
theorem dX1_placeOf_3 : decode cX1_placeOf 3 = .ok (.istore_n 3, 1) := by decide +kernel
theorem dX1_placeOf_4 : decode cX1_placeOf 4 = .ok (.iload_n 3, 1) := by decide +kernel
theorem dX1_placeOf_5 : decode cX1_placeOf 5 = .ok (.aload_n 0, 1) := by decide +kernel
theorem dX1_placeOf_6 : decode cX1_placeOf 6 = .ok (.getfield 9, 3) := by decide +kernel
theorem dX1_placeOf_9 : decode cX1_placeOf 9 = .ok (.if_icmp .ge 32, 3) := by decide +kernel
theorem dX1_placeOf_12 : decode cX1_placeOf 12 = .ok (.aload_n 0, 1) := by decide +kernel
theorem dX1_placeOf_13 : decode cX1_placeOf 13 = .ok (.getfield 15, 3) := by decide +kernel
theorem dX1_placeOf_16 : decode cX1_placeOf 16 = .ok (.iload_n 3, 1) := by decide +kernel
theorem dX1_placeOf_17 : decode cX1_placeOf 17 = .ok (.iaload, 1) := by decide +kernel
theorem dX1_placeOf_18 : decode cX1_placeOf 18 = .ok (.iload_n 1, 1) := by decide +kernel
theorem dX1_placeOf_19 : decode cX1_placeOf 19 = .ok (.if_icmp .eq 22, 3) := by decide +kernel
theorem dX1_placeOf_22 : decode cX1_placeOf 22 = .ok (.aload_n 0, 1) := by decide +kernel
theorem dX1_placeOf_23 : decode cX1_placeOf 23 = .ok (.getfield 15, 3) := by decide +kernel
theorem dX1_placeOf_26 : decode cX1_placeOf 26 = .ok (.iload_n 3, 1) := by decide +kernel
theorem dX1_placeOf_27 : decode cX1_placeOf 27 = .ok (.iaload, 1) := by decide +kernel
theorem dX1_placeOf_28 : decode cX1_placeOf 28 = .ok (.iconst (-1), 1) := by decide +kernel
theorem dX1_placeOf_29 : decode cX1_placeOf 29 = .ok (.if_icmp .eq 6, 3) := by decide +kernel
theorem dX1_placeOf_32 : decode cX1_placeOf 32 = .ok (.iinc 2 1, 3) := by decide +kernel
theorem dX1_placeOf_35 : decode cX1_placeOf 35 = .ok (.iinc 3 1, 3) := by decide +kernel
theorem dX1_placeOf_38 : decode cX1_placeOf 38 = .ok (.goto (-34), 3) := by decide +kernel
theorem dX1_placeOf_41 : decode cX1_placeOf 41 = .ok (.iload_n 2, 1) := by decide +kernel
theorem dX1_placeOf_42 : decode cX1_placeOf 42 = .ok (.ireturn, 1) := by decide +kernel
theorem dX1_indexOf_0 : decode cX1_indexOf 0 = .ok (.iconst 0, 1) := by decide +kernel
theorem dX1_indexOf_1 : decode cX1_indexOf 1 = .ok (.istore_n 2, 1) := by decide +kernel
theorem dX1_indexOf_2 : decode cX1_indexOf 2 = .ok (.iload_n 2, 1) := by decide +kernel
theorem dX1_indexOf_3 : decode cX1_indexOf 3 = .ok (.aload_n 0, 1) := by decide +kernel
theorem dX1_indexOf_4 : decode cX1_indexOf 4 = .ok (.getfield 9, 3) := by decide +kernel
theorem dX1_indexOf_7 : decode cX1_indexOf 7 = .ok (.if_icmp .ge 21, 3) := by decide +kernel
theorem dX1_indexOf_10 : decode cX1_indexOf 10 = .ok (.aload_n 0, 1) := by decide +kernel
theorem dX1_indexOf_11 : decode cX1_indexOf 11 = .ok (.getfield 15, 3) := by decide +kernel
theorem dX1_indexOf_14 : decode cX1_indexOf 14 = .ok (.iload_n 2, 1) := by decide +kernel
theorem dX1_indexOf_15 : decode cX1_indexOf 15 = .ok (.iaload, 1) := by decide +kernel
theorem dX1_indexOf_16 : decode cX1_indexOf 16 = .ok (.iload_n 1, 1) := by decide +kernel
theorem dX1_indexOf_17 : decode cX1_indexOf 17 = .ok (.if_icmp .ne 5, 3) := by decide +kernel
theorem dX1_indexOf_20 : decode cX1_indexOf 20 = .ok (.iload_n 2, 1) := by decide +kernel
theorem dX1_indexOf_21 : decode cX1_indexOf 21 = .ok (.ireturn, 1) := by decide +kernel
theorem dX1_indexOf_22 : decode cX1_indexOf 22 = .ok (.iinc 2 1, 3) := by decide +kernel
theorem dX1_indexOf_25 : decode cX1_indexOf 25 = .ok (.goto (-23), 3) := by decide +kernel
theorem dX1_indexOf_28 : decode cX1_indexOf 28 = .ok (.aload_n 0, 1) := by decide +kernel
theorem dX1_indexOf_29 : decode cX1_indexOf 29 = .ok (.getfield 9, 3) := by decide +kernel
theorem dX1_indexOf_32 : decode cX1_indexOf 32 = .ok (.ireturn, 1) := by decide +kernel
theorem dX1_list_0 : decode cX1_list 0 = .ok (.iconst 0, 1) := by decide +kernel
theorem dX1_list_1 : decode cX1_list 1 = .ok (.istore_n 2, 1) := by decide +kernel
theorem dX1_list_2 : decode cX1_list 2 = .ok (.iconst 0, 1) := by decide +kernel
theorem dX1_list_3 : decode cX1_list 3 = .ok (.istore_n 3, 1) := by decide +kernel
theorem dX1_list_4 : decode cX1_list 4 = .ok (.iload_n 3, 1) := by decide +kernel
theorem dX1_list_5 : decode cX1_list 5 = .ok (.aload_n 0, 1) := by decide +kernel
theorem dX1_list_6 : decode cX1_list 6 = .ok (.getfield 9, 3) := by decide +kernel
theorem dX1_list_9 : decode cX1_list 9 = .ok (.if_icmp .ge 37, 3) := by decide +kernel
theorem dX1_list_12 : decode cX1_list 12 = .ok (.aload_n 0, 1) := by decide +kernel
theorem dX1_list_13 : decode cX1_list 13 = .ok (.getfield 15, 3) := by decide +kernel
theorem dX1_list_16 : decode cX1_list 16 = .ok (.iload_n 3, 1) := by decide +kernel
theorem dX1_list_17 : decode cX1_list 17 = .ok (.iaload, 1) := by decide +kernel
theorem dX1_list_18 : decode cX1_list 18 = .ok (.iconst (-1), 1) := by decide +kernel
theorem dX1_list_19 : decode cX1_list 19 = .ok (.if_icmp .eq 21, 3) := by decide +kernel
theorem dX1_list_22 : decode cX1_list 22 = .ok (.iload_n 2, 1) := by decide +kernel
theorem dX1_list_23 : decode cX1_list 23 = .ok (.aload_n 1, 1) := by decide +kernel
theorem dX1_list_24 : decode cX1_list 24 = .ok (.arraylength, 1) := by decide +kernel
theorem dX1_list_25 : decode cX1_list 25 = .ok (.if_icmp .ge 15, 3) := by decide +kernel
theorem dX1_list_28 : decode cX1_list 28 = .ok (.aload_n 1, 1) := by decide +kernel
theorem dX1_list_29 : decode cX1_list 29 = .ok (.iload_n 2, 1) := by decide +kernel
theorem dX1_list_30 : decode cX1_list 30 = .ok (.aload_n 0, 1) := by decide +kernel
theorem dX1_list_31 : decode cX1_list 31 = .ok (.getfield 15, 3) := by decide +kernel
theorem dX1_list_34 : decode cX1_list 34 = .ok (.iload_n 3, 1) := by decide +kernel
theorem dX1_list_35 : decode cX1_list 35 = .ok (.iaload, 1) := by decide +kernel
theorem dX1_list_36 : decode cX1_list 36 = .ok (.iastore, 1) := by decide +kernel
theorem dX1_list_37 : decode cX1_list 37 = .ok (.iinc 2 1, 3) := by decide +kernel
theorem dX1_list_40 : decode cX1_list 40 = .ok (.iinc 3 1, 3) := by decide +kernel
theorem dX1_list_43 : decode cX1_list 43 = .ok (.goto (-39), 3) := by decide +kernel
theorem dX1_list_46 : decode cX1_list 46 = .ok (.iload_n 2, 1) := by decide +kernel
theorem dX1_list_47 : decode cX1_list 47 = .ok (.ireturn, 1) := by decide +kernel
theorem dX1_insert_0 : decode cX1_insert 0 = .ok (.iload_n 1, 1) := by decide +kernel
theorem dX1_insert_1 : decode cX1_insert 1 = .ok (.ifCond .lt 20, 3) := by decide +kernel
theorem dX1_insert_4 : decode cX1_insert 4 = .ok (.iload_n 1, 1) := by decide +kernel
theorem dX1_insert_5 : decode cX1_insert 5 = .ok (.aload_n 0, 1) := by decide +kernel
theorem dX1_insert_6 : decode cX1_insert 6 = .ok (.getfield 9, 3) := by decide +kernel
theorem dX1_insert_9 : decode cX1_insert 9 = .ok (.if_icmp .gt 12, 3) := by decide +kernel
theorem dX1_insert_12 : decode cX1_insert 12 = .ok (.aload_n 0, 1) := by decide +kernel
theorem dX1_insert_13 : decode cX1_insert 13 = .ok (.getfield 9, 3) := by decide +kernel
theorem dX1_insert_16 : decode cX1_insert 16 = .ok (.bipush 68, 2) := by decide +kernel
theorem dX1_insert_18 : decode cX1_insert 18 = .ok (.if_icmp .lt 4, 3) := by decide +kernel
theorem dX1_insert_21 : decode cX1_insert 21 = .ok (.return_, 1) := by decide +kernel
theorem dX1_insert_22 : decode cX1_insert 22 = .ok (.aload_n 0, 1) := by decide +kernel
theorem dX1_insert_23 : decode cX1_insert 23 = .ok (.getfield 15, 3) := by decide +kernel
theorem dX1_insert_26 : decode cX1_insert 26 = .ok (.iload_n 1, 1) := by decide +kernel
theorem dX1_insert_27 : decode cX1_insert 27 = .ok (.aload_n 0, 1) := by decide +kernel
theorem dX1_insert_28 : decode cX1_insert 28 = .ok (.getfield 15, 3) := by decide +kernel
theorem dX1_insert_31 : decode cX1_insert 31 = .ok (.iload_n 1, 1) := by decide +kernel
theorem dX1_insert_32 : decode cX1_insert 32 = .ok (.iconst 1, 1) := by decide +kernel
theorem dX1_insert_33 : decode cX1_insert 33 = .ok (.iadd, 1) := by decide +kernel
theorem dX1_insert_34 : decode cX1_insert 34 = .ok (.aload_n 0, 1) := by decide +kernel
theorem dX1_insert_35 : decode cX1_insert 35 = .ok (.getfield 9, 3) := by decide +kernel
theorem dX1_insert_38 : decode cX1_insert 38 = .ok (.iload_n 1, 1) := by decide +kernel
theorem dX1_insert_39 : decode cX1_insert 39 = .ok (.isub, 1) := by decide +kernel
theorem dX1_insert_40 : decode cX1_insert 40 = .ok (.invokestatic 22, 3) := by decide +kernel
theorem dX1_insert_43 : decode cX1_insert 43 = .ok (.aload_n 0, 1) := by decide +kernel
theorem dX1_insert_44 : decode cX1_insert 44 = .ok (.getfield 15, 3) := by decide +kernel
theorem dX1_insert_47 : decode cX1_insert 47 = .ok (.iload_n 1, 1) := by decide +kernel
theorem dX1_insert_48 : decode cX1_insert 48 = .ok (.iload_n 2, 1) := by decide +kernel
theorem dX1_insert_49 : decode cX1_insert 49 = .ok (.iastore, 1) := by decide +kernel
theorem dX1_insert_50 : decode cX1_insert 50 = .ok (.aload_n 0, 1) := by decide +kernel
theorem dX1_insert_51 : decode cX1_insert 51 = .ok (.dup, 1) := by decide +kernel
theorem dX1_insert_52 : decode cX1_insert 52 = .ok (.getfield 9, 3) := by decide +kernel
theorem dX1_insert_55 : decode cX1_insert 55 = .ok (.iconst 1, 1) := by decide +kernel
theorem dX1_insert_56 : decode cX1_insert 56 = .ok (.iadd, 1) := by decide +kernel
theorem dX1_insert_57 : decode cX1_insert 57 = .ok (.putfield 9, 3) := by decide +kernel
theorem dX1_insert_60 : decode cX1_insert 60 = .ok (.iconst 0, 1) := by decide +kernel
theorem dX1_insert_61 : decode cX1_insert 61 = .ok (.istore_n 3, 1) := by decide +kernel
theorem dX1_insert_62 : decode cX1_insert 62 = .ok (.iload_n 3, 1) := by decide +kernel
theorem dX1_insert_63 : decode cX1_insert 63 = .ok (.iconst 4, 1) := by decide +kernel
theorem dX1_insert_64 : decode cX1_insert 64 = .ok (.if_icmp .ge 29, 3) := by decide +kernel
theorem dX1_insert_67 : decode cX1_insert 67 = .ok (.aload_n 0, 1) := by decide +kernel
theorem dX1_insert_68 : decode cX1_insert 68 = .ok (.getfield 19, 3) := by decide +kernel
theorem dX1_insert_71 : decode cX1_insert 71 = .ok (.iload_n 3, 1) := by decide +kernel
theorem dX1_insert_72 : decode cX1_insert 72 = .ok (.iaload, 1) := by decide +kernel
theorem dX1_insert_73 : decode cX1_insert 73 = .ok (.iload_n 1, 1) := by decide +kernel
theorem dX1_insert_74 : decode cX1_insert 74 = .ok (.if_icmp .lt 13, 3) := by decide +kernel
theorem dX1_insert_77 : decode cX1_insert 77 = .ok (.aload_n 0, 1) := by decide +kernel
theorem dX1_insert_78 : decode cX1_insert 78 = .ok (.getfield 19, 3) := by decide +kernel
theorem dX1_insert_81 : decode cX1_insert 81 = .ok (.iload_n 3, 1) := by decide +kernel
theorem dX1_insert_82 : decode cX1_insert 82 = .ok (.dup2, 1) := by decide +kernel
theorem dX1_insert_83 : decode cX1_insert 83 = .ok (.iaload, 1) := by decide +kernel
theorem dX1_insert_84 : decode cX1_insert 84 = .ok (.iconst 1, 1) := by decide +kernel
theorem dX1_insert_85 : decode cX1_insert 85 = .ok (.iadd, 1) := by decide +kernel
theorem dX1_insert_86 : decode cX1_insert 86 = .ok (.iastore, 1) := by decide +kernel
theorem dX1_insert_87 : decode cX1_insert 87 = .ok (.iinc 3 1, 3) := by decide +kernel
theorem dX1_insert_90 : decode cX1_insert 90 = .ok (.goto (-28), 3) := by decide +kernel
theorem dX1_insert_93 : decode cX1_insert 93 = .ok (.return_, 1) := by decide +kernel
theorem dX1_delete_0 : decode cX1_delete 0 = .ok (.aload_n 0, 1) := by decide +kernel
theorem dX1_delete_1 : decode cX1_delete 1 = .ok (.iload_n 1, 1) := by decide +kernel
theorem dX1_delete_2 : decode cX1_delete 2 = .ok (.invokevirtual 28, 3) := by decide +kernel
theorem dX1_delete_5 : decode cX1_delete 5 = .ok (.ifCond .ne 4, 3) := by decide +kernel
theorem dX1_delete_8 : decode cX1_delete 8 = .ok (.return_, 1) := by decide +kernel
theorem dX1_delete_9 : decode cX1_delete 9 = .ok (.aload_n 0, 1) := by decide +kernel
theorem dX1_delete_10 : decode cX1_delete 10 = .ok (.getfield 15, 3) := by decide +kernel
theorem dX1_delete_13 : decode cX1_delete 13 = .ok (.iload_n 1, 1) := by decide +kernel
theorem dX1_delete_14 : decode cX1_delete 14 = .ok (.iconst 1, 1) := by decide +kernel
theorem dX1_delete_15 : decode cX1_delete 15 = .ok (.iadd, 1) := by decide +kernel
theorem dX1_delete_16 : decode cX1_delete 16 = .ok (.aload_n 0, 1) := by decide +kernel
theorem dX1_delete_17 : decode cX1_delete 17 = .ok (.getfield 15, 3) := by decide +kernel
theorem dX1_delete_20 : decode cX1_delete 20 = .ok (.iload_n 1, 1) := by decide +kernel
theorem dX1_delete_21 : decode cX1_delete 21 = .ok (.aload_n 0, 1) := by decide +kernel
theorem dX1_delete_22 : decode cX1_delete 22 = .ok (.getfield 9, 3) := by decide +kernel
theorem dX1_delete_25 : decode cX1_delete 25 = .ok (.iload_n 1, 1) := by decide +kernel
theorem dX1_delete_26 : decode cX1_delete 26 = .ok (.isub, 1) := by decide +kernel
theorem dX1_delete_27 : decode cX1_delete 27 = .ok (.iconst 1, 1) := by decide +kernel
theorem dX1_delete_28 : decode cX1_delete 28 = .ok (.isub, 1) := by decide +kernel
theorem dX1_delete_29 : decode cX1_delete 29 = .ok (.invokestatic 22, 3) := by decide +kernel
theorem dX1_delete_32 : decode cX1_delete 32 = .ok (.aload_n 0, 1) := by decide +kernel
theorem dX1_delete_33 : decode cX1_delete 33 = .ok (.dup, 1) := by decide +kernel
theorem dX1_delete_34 : decode cX1_delete 34 = .ok (.getfield 9, 3) := by decide +kernel
theorem dX1_delete_37 : decode cX1_delete 37 = .ok (.iconst 1, 1) := by decide +kernel
theorem dX1_delete_38 : decode cX1_delete 38 = .ok (.isub, 1) := by decide +kernel
theorem dX1_delete_39 : decode cX1_delete 39 = .ok (.putfield 9, 3) := by decide +kernel
theorem dX1_delete_42 : decode cX1_delete 42 = .ok (.iconst 0, 1) := by decide +kernel
theorem dX1_delete_43 : decode cX1_delete 43 = .ok (.istore_n 2, 1) := by decide +kernel
theorem dX1_delete_44 : decode cX1_delete 44 = .ok (.iload_n 2, 1) := by decide +kernel
theorem dX1_delete_45 : decode cX1_delete 45 = .ok (.iconst 4, 1) := by decide +kernel
theorem dX1_delete_46 : decode cX1_delete 46 = .ok (.if_icmp .ge 29, 3) := by decide +kernel
theorem dX1_delete_49 : decode cX1_delete 49 = .ok (.aload_n 0, 1) := by decide +kernel
theorem dX1_delete_50 : decode cX1_delete 50 = .ok (.getfield 19, 3) := by decide +kernel
theorem dX1_delete_53 : decode cX1_delete 53 = .ok (.iload_n 2, 1) := by decide +kernel
theorem dX1_delete_54 : decode cX1_delete 54 = .ok (.iaload, 1) := by decide +kernel
theorem dX1_delete_55 : decode cX1_delete 55 = .ok (.iload_n 1, 1) := by decide +kernel
theorem dX1_delete_56 : decode cX1_delete 56 = .ok (.if_icmp .le 13, 3) := by decide +kernel
theorem dX1_delete_59 : decode cX1_delete 59 = .ok (.aload_n 0, 1) := by decide +kernel
theorem dX1_delete_60 : decode cX1_delete 60 = .ok (.getfield 19, 3) := by decide +kernel
theorem dX1_delete_63 : decode cX1_delete 63 = .ok (.iload_n 2, 1) := by decide +kernel
theorem dX1_delete_64 : decode cX1_delete 64 = .ok (.dup2, 1) := by decide +kernel
theorem dX1_delete_65 : decode cX1_delete 65 = .ok (.iaload, 1) := by decide +kernel
theorem dX1_delete_66 : decode cX1_delete 66 = .ok (.iconst 1, 1) := by decide +kernel
theorem dX1_delete_67 : decode cX1_delete 67 = .ok (.isub, 1) := by decide +kernel
theorem dX1_delete_68 : decode cX1_delete 68 = .ok (.iastore, 1) := by decide +kernel
theorem dX1_delete_69 : decode cX1_delete 69 = .ok (.iinc 2 1, 3) := by decide +kernel
theorem dX1_delete_72 : decode cX1_delete 72 = .ok (.goto (-28), 3) := by decide +kernel
theorem dX1_delete_75 : decode cX1_delete 75 = .ok (.return_, 1) := by decide +kernel
theorem dX1_bury_0 : decode cX1_bury 0 = .ok (.aload_n 0, 1) := by decide +kernel
theorem dX1_bury_1 : decode cX1_bury 1 = .ok (.iload_n 1, 1) := by decide +kernel
theorem dX1_bury_2 : decode cX1_bury 2 = .ok (.invokevirtual 46, 3) := by decide +kernel
theorem dX1_bury_5 : decode cX1_bury 5 = .ok (.istore_n 2, 1) := by decide +kernel
theorem dX1_bury_6 : decode cX1_bury 6 = .ok (.aload_n 0, 1) := by decide +kernel
theorem dX1_bury_7 : decode cX1_bury 7 = .ok (.iload_n 2, 1) := by decide +kernel
theorem dX1_bury_8 : decode cX1_bury 8 = .ok (.invokevirtual 28, 3) := by decide +kernel
theorem dX1_bury_11 : decode cX1_bury 11 = .ok (.ifCond .eq 15, 3) := by decide +kernel
theorem dX1_bury_14 : decode cX1_bury 14 = .ok (.aload_n 0, 1) := by decide +kernel
theorem dX1_bury_15 : decode cX1_bury 15 = .ok (.getfield 15, 3) := by decide +kernel
theorem dX1_bury_18 : decode cX1_bury 18 = .ok (.iload_n 2, 1) := by decide +kernel
theorem dX1_bury_19 : decode cX1_bury 19 = .ok (.iconst (-1), 1) := by decide +kernel
theorem dX1_bury_20 : decode cX1_bury 20 = .ok (.iastore, 1) := by decide +kernel
theorem dX1_bury_21 : decode cX1_bury 21 = .ok (.aload_n 0, 1) := by decide +kernel
theorem dX1_bury_22 : decode cX1_bury 22 = .ok (.iload_n 2, 1) := by decide +kernel
theorem dX1_bury_23 : decode cX1_bury 23 = .ok (.invokevirtual 49, 3) := by decide +kernel
theorem dX1_bury_26 : decode cX1_bury 26 = .ok (.return_, 1) := by decide +kernel
theorem dX1_sweep_0 : decode cX1_sweep 0 = .ok (.aload_n 0, 1) := by decide +kernel
theorem dX1_sweep_1 : decode cX1_sweep 1 = .ok (.iload_n 1, 1) := by decide +kernel
theorem dX1_sweep_2 : decode cX1_sweep 2 = .ok (.invokevirtual 28, 3) := by decide +kernel
theorem dX1_sweep_5 : decode cX1_sweep 5 = .ok (.ifCond .eq 26, 3) := by decide +kernel
theorem dX1_sweep_8 : decode cX1_sweep 8 = .ok (.aload_n 0, 1) := by decide +kernel
theorem dX1_sweep_9 : decode cX1_sweep 9 = .ok (.getfield 15, 3) := by decide +kernel
theorem dX1_sweep_12 : decode cX1_sweep 12 = .ok (.iload_n 1, 1) := by decide +kernel
theorem dX1_sweep_13 : decode cX1_sweep 13 = .ok (.iaload, 1) := by decide +kernel
theorem dX1_sweep_14 : decode cX1_sweep 14 = .ok (.iconst (-1), 1) := by decide +kernel
theorem dX1_sweep_15 : decode cX1_sweep 15 = .ok (.if_icmp .ne 16, 3) := by decide +kernel
theorem dX1_sweep_18 : decode cX1_sweep 18 = .ok (.aload_n 0, 1) := by decide +kernel
theorem dX1_sweep_19 : decode cX1_sweep 19 = .ok (.iload_n 1, 1) := by decide +kernel
theorem dX1_sweep_20 : decode cX1_sweep 20 = .ok (.invokevirtual 53, 3) := by decide +kernel
theorem dX1_sweep_23 : decode cX1_sweep 23 = .ok (.ifCond .ne 8, 3) := by decide +kernel
theorem dX1_sweep_26 : decode cX1_sweep 26 = .ok (.aload_n 0, 1) := by decide +kernel
theorem dX1_sweep_27 : decode cX1_sweep 27 = .ok (.iload_n 1, 1) := by decide +kernel
theorem dX1_sweep_28 : decode cX1_sweep 28 = .ok (.invokevirtual 56, 3) := by decide +kernel
theorem dX1_sweep_31 : decode cX1_sweep 31 = .ok (.return_, 1) := by decide +kernel
theorem dX1_rename_0 : decode cX1_rename 0 = .ok (.aload_n 0, 1) := by decide +kernel
theorem dX1_rename_1 : decode cX1_rename 1 = .ok (.iload_n 1, 1) := by decide +kernel
theorem dX1_rename_2 : decode cX1_rename 2 = .ok (.invokevirtual 46, 3) := by decide +kernel
theorem dX1_rename_5 : decode cX1_rename 5 = .ok (.istore_n 3, 1) := by decide +kernel
theorem dX1_rename_6 : decode cX1_rename 6 = .ok (.aload_n 0, 1) := by decide +kernel
theorem dX1_rename_7 : decode cX1_rename 7 = .ok (.iload_n 3, 1) := by decide +kernel
theorem dX1_rename_8 : decode cX1_rename 8 = .ok (.invokevirtual 28, 3) := by decide +kernel
theorem dX1_rename_11 : decode cX1_rename 11 = .ok (.ifCond .eq 10, 3) := by decide +kernel
theorem dX1_rename_14 : decode cX1_rename 14 = .ok (.aload_n 0, 1) := by decide +kernel
theorem dX1_rename_15 : decode cX1_rename 15 = .ok (.getfield 15, 3) := by decide +kernel
theorem dX1_rename_18 : decode cX1_rename 18 = .ok (.iload_n 3, 1) := by decide +kernel
theorem dX1_rename_19 : decode cX1_rename 19 = .ok (.iload_n 2, 1) := by decide +kernel
theorem dX1_rename_20 : decode cX1_rename 20 = .ok (.iastore, 1) := by decide +kernel
theorem dX1_rename_21 : decode cX1_rename 21 = .ok (.return_, 1) := by decide +kernel
theorem dX1_walkersOn_0 : decode cX1_walkersOn 0 = .ok (.iconst 0, 1) := by decide +kernel
theorem dX1_walkersOn_1 : decode cX1_walkersOn 1 = .ok (.istore_n 2, 1) := by decide +kernel
theorem dX1_walkersOn_2 : decode cX1_walkersOn 2 = .ok (.iconst 0, 1) := by decide +kernel
theorem dX1_walkersOn_3 : decode cX1_walkersOn 3 = .ok (.istore_n 3, 1) := by decide +kernel
theorem dX1_walkersOn_4 : decode cX1_walkersOn 4 = .ok (.iload_n 3, 1) := by decide +kernel
theorem dX1_walkersOn_5 : decode cX1_walkersOn 5 = .ok (.iconst 4, 1) := by decide +kernel
theorem dX1_walkersOn_6 : decode cX1_walkersOn 6 = .ok (.if_icmp .ge 22, 3) := by decide +kernel
theorem dX1_walkersOn_9 : decode cX1_walkersOn 9 = .ok (.aload_n 0, 1) := by decide +kernel
theorem dX1_walkersOn_10 : decode cX1_walkersOn 10 = .ok (.getfield 19, 3) := by decide +kernel
theorem dX1_walkersOn_13 : decode cX1_walkersOn 13 = .ok (.iload_n 3, 1) := by decide +kernel
theorem dX1_walkersOn_14 : decode cX1_walkersOn 14 = .ok (.iaload, 1) := by decide +kernel
theorem dX1_walkersOn_15 : decode cX1_walkersOn 15 = .ok (.iload_n 1, 1) := by decide +kernel
theorem dX1_walkersOn_16 : decode cX1_walkersOn 16 = .ok (.if_icmp .ne 6, 3) := by decide +kernel
theorem dX1_walkersOn_19 : decode cX1_walkersOn 19 = .ok (.iinc 2 1, 3) := by decide +kernel
theorem dX1_walkersOn_22 : decode cX1_walkersOn 22 = .ok (.iinc 3 1, 3) := by decide +kernel
theorem dX1_walkersOn_25 : decode cX1_walkersOn 25 = .ok (.goto (-21), 3) := by decide +kernel
theorem dX1_walkersOn_28 : decode cX1_walkersOn 28 = .ok (.iload_n 2, 1) := by decide +kernel
theorem dX1_walkersOn_29 : decode cX1_walkersOn 29 = .ok (.ireturn, 1) := by decide +kernel
theorem dX1_standOf_0 : decode cX1_standOf 0 = .ok (.aload_n 0, 1) := by decide +kernel
theorem dX1_standOf_1 : decode cX1_standOf 1 = .ok (.iload_n 1, 1) := by decide +kernel
theorem dX1_standOf_2 : decode cX1_standOf 2 = .ok (.invokevirtual 59, 3) := by decide +kernel
theorem dX1_standOf_5 : decode cX1_standOf 5 = .ok (.istore_n 2, 1) := by decide +kernel
theorem dX1_standOf_6 : decode cX1_standOf 6 = .ok (.iload_n 2, 1) := by decide +kernel
theorem dX1_standOf_7 : decode cX1_standOf 7 = .ok (.bipush (-2), 2) := by decide +kernel
theorem dX1_standOf_9 : decode cX1_standOf 9 = .ok (.if_icmp .ne 5, 3) := by decide +kernel
theorem dX1_standOf_12 : decode cX1_standOf 12 = .ok (.iconst 3, 1) := by decide +kernel
theorem dX1_standOf_13 : decode cX1_standOf 13 = .ok (.ireturn, 1) := by decide +kernel
theorem dX1_standOf_14 : decode cX1_standOf 14 = .ok (.iload_n 2, 1) := by decide +kernel
theorem dX1_standOf_15 : decode cX1_standOf 15 = .ok (.iconst (-1), 1) := by decide +kernel
theorem dX1_standOf_16 : decode cX1_standOf 16 = .ok (.if_icmp .ne 5, 3) := by decide +kernel
theorem dX1_standOf_19 : decode cX1_standOf 19 = .ok (.iconst 0, 1) := by decide +kernel
theorem dX1_standOf_20 : decode cX1_standOf 20 = .ok (.ireturn, 1) := by decide +kernel
theorem dX1_standOf_21 : decode cX1_standOf 21 = .ok (.aload_n 0, 1) := by decide +kernel
theorem dX1_standOf_22 : decode cX1_standOf 22 = .ok (.iload_n 2, 1) := by decide +kernel
theorem dX1_standOf_23 : decode cX1_standOf 23 = .ok (.invokevirtual 62, 3) := by decide +kernel
theorem dX1_standOf_26 : decode cX1_standOf 26 = .ok (.ifCond .eq 7, 3) := by decide +kernel
theorem dX1_standOf_29 : decode cX1_standOf 29 = .ok (.iconst 1, 1) := by decide +kernel
theorem dX1_standOf_30 : decode cX1_standOf 30 = .ok (.goto 4, 3) := by decide +kernel
theorem dX1_standOf_33 : decode cX1_standOf 33 = .ok (.iconst 2, 1) := by decide +kernel
theorem dX1_standOf_34 : decode cX1_standOf 34 = .ok (.ireturn, 1) := by decide +kernel
theorem dX1_thingUnder_0 : decode cX1_thingUnder 0 = .ok (.aload_n 0, 1) := by decide +kernel
theorem dX1_thingUnder_1 : decode cX1_thingUnder 1 = .ok (.iload_n 1, 1) := by decide +kernel
theorem dX1_thingUnder_2 : decode cX1_thingUnder 2 = .ok (.invokevirtual 59, 3) := by decide +kernel
theorem dX1_thingUnder_5 : decode cX1_thingUnder 5 = .ok (.istore_n 2, 1) := by decide +kernel
theorem dX1_thingUnder_6 : decode cX1_thingUnder 6 = .ok (.aload_n 0, 1) := by decide +kernel
theorem dX1_thingUnder_7 : decode cX1_thingUnder 7 = .ok (.iload_n 2, 1) := by decide +kernel
theorem dX1_thingUnder_8 : decode cX1_thingUnder 8 = .ok (.invokevirtual 62, 3) := by decide +kernel
theorem dX1_thingUnder_11 : decode cX1_thingUnder 11 = .ok (.ifCond .eq 12, 3) := by decide +kernel
theorem dX1_thingUnder_14 : decode cX1_thingUnder 14 = .ok (.aload_n 0, 1) := by decide +kernel
theorem dX1_thingUnder_15 : decode cX1_thingUnder 15 = .ok (.getfield 15, 3) := by decide +kernel
theorem dX1_thingUnder_18 : decode cX1_thingUnder 18 = .ok (.iload_n 2, 1) := by decide +kernel
theorem dX1_thingUnder_19 : decode cX1_thingUnder 19 = .ok (.iaload, 1) := by decide +kernel
theorem dX1_thingUnder_20 : decode cX1_thingUnder 20 = .ok (.goto 4, 3) := by decide +kernel
theorem dX1_thingUnder_23 : decode cX1_thingUnder 23 = .ok (.iconst (-1), 1) := by decide +kernel
theorem dX1_thingUnder_24 : decode cX1_thingUnder 24 = .ok (.ireturn, 1) := by decide +kernel
theorem dX1_thingsBehind_0 : decode cX1_thingsBehind 0 = .ok (.aload_n 0, 1) := by decide +kernel
theorem dX1_thingsBehind_1 : decode cX1_thingsBehind 1 = .ok (.iload_n 1, 1) := by decide +kernel
theorem dX1_thingsBehind_2 : decode cX1_thingsBehind 2 = .ok (.invokevirtual 59, 3) := by decide +kernel
theorem dX1_thingsBehind_5 : decode cX1_thingsBehind 5 = .ok (.istore_n 2, 1) := by decide +kernel
theorem dX1_thingsBehind_6 : decode cX1_thingsBehind 6 = .ok (.iload_n 2, 1) := by decide +kernel
theorem dX1_thingsBehind_7 : decode cX1_thingsBehind 7 = .ok (.bipush (-2), 2) := by decide +kernel
theorem dX1_thingsBehind_9 : decode cX1_thingsBehind 9 = .ok (.if_icmp .ne 7, 3) := by decide +kernel
theorem dX1_thingsBehind_12 : decode cX1_thingsBehind 12 = .ok (.iconst 0, 1) := by decide +kernel
theorem dX1_thingsBehind_13 : decode cX1_thingsBehind 13 = .ok (.goto 10, 3) := by decide +kernel
theorem dX1_thingsBehind_16 : decode cX1_thingsBehind 16 = .ok (.aload_n 0, 1) := by decide +kernel
theorem dX1_thingsBehind_17 : decode cX1_thingsBehind 17 = .ok (.iload_n 2, 1) := by decide +kernel
theorem dX1_thingsBehind_18 : decode cX1_thingsBehind 18 = .ok (.iconst 1, 1) := by decide +kernel
theorem dX1_thingsBehind_19 : decode cX1_thingsBehind 19 = .ok (.iadd, 1) := by decide +kernel
theorem dX1_thingsBehind_20 : decode cX1_thingsBehind 20 = .ok (.invokevirtual 32, 3) := by decide +kernel
theorem dX1_thingsBehind_23 : decode cX1_thingsBehind 23 = .ok (.ireturn, 1) := by decide +kernel
theorem dX1_sendAhead_0 : decode cX1_sendAhead 0 = .ok (.aload_n 0, 1) := by decide +kernel
theorem dX1_sendAhead_1 : decode cX1_sendAhead 1 = .ok (.iload_n 1, 1) := by decide +kernel
theorem dX1_sendAhead_2 : decode cX1_sendAhead 2 = .ok (.iconst (-1), 1) := by decide +kernel
theorem dX1_sendAhead_3 : decode cX1_sendAhead 3 = .ok (.invokevirtual 65, 3) := by decide +kernel
theorem dX1_sendAhead_6 : decode cX1_sendAhead 6 = .ok (.return_, 1) := by decide +kernel
theorem dX1_sendOn_0 : decode cX1_sendOn 0 = .ok (.aload_n 0, 1) := by decide +kernel
theorem dX1_sendOn_1 : decode cX1_sendOn 1 = .ok (.iload_n 1, 1) := by decide +kernel
theorem dX1_sendOn_2 : decode cX1_sendOn 2 = .ok (.invokevirtual 59, 3) := by decide +kernel
theorem dX1_sendOn_5 : decode cX1_sendOn 5 = .ok (.istore_n 2, 1) := by decide +kernel
theorem dX1_sendOn_6 : decode cX1_sendOn 6 = .ok (.iload_n 2, 1) := by decide +kernel
theorem dX1_sendOn_7 : decode cX1_sendOn 7 = .ok (.bipush (-2), 2) := by decide +kernel
theorem dX1_sendOn_9 : decode cX1_sendOn 9 = .ok (.if_icmp .eq 15, 3) := by decide +kernel
theorem dX1_sendOn_12 : decode cX1_sendOn 12 = .ok (.aload_n 0, 1) := by decide +kernel
theorem dX1_sendOn_13 : decode cX1_sendOn 13 = .ok (.iload_n 1, 1) := by decide +kernel
theorem dX1_sendOn_14 : decode cX1_sendOn 14 = .ok (.aload_n 0, 1) := by decide +kernel
theorem dX1_sendOn_15 : decode cX1_sendOn 15 = .ok (.iload_n 2, 1) := by decide +kernel
theorem dX1_sendOn_16 : decode cX1_sendOn 16 = .ok (.iconst 1, 1) := by decide +kernel
theorem dX1_sendOn_17 : decode cX1_sendOn 17 = .ok (.iadd, 1) := by decide +kernel
theorem dX1_sendOn_18 : decode cX1_sendOn 18 = .ok (.invokevirtual 69, 3) := by decide +kernel
theorem dX1_sendOn_21 : decode cX1_sendOn 21 = .ok (.invokevirtual 65, 3) := by decide +kernel
theorem dX1_sendOn_24 : decode cX1_sendOn 24 = .ok (.return_, 1) := by decide +kernel
theorem dX1_indexUnder_0 : decode cX1_indexUnder 0 = .ok (.iload_n 1, 1) := by decide +kernel
theorem dX1_indexUnder_1 : decode cX1_indexUnder 1 = .ok (.invokestatic 72, 3) := by decide +kernel
theorem dX1_indexUnder_4 : decode cX1_indexUnder 4 = .ok (.ifCond .eq 12, 3) := by decide +kernel
theorem dX1_indexUnder_7 : decode cX1_indexUnder 7 = .ok (.aload_n 0, 1) := by decide +kernel
theorem dX1_indexUnder_8 : decode cX1_indexUnder 8 = .ok (.getfield 19, 3) := by decide +kernel
theorem dX1_indexUnder_11 : decode cX1_indexUnder 11 = .ok (.iload_n 1, 1) := by decide +kernel
theorem dX1_indexUnder_12 : decode cX1_indexUnder 12 = .ok (.iaload, 1) := by decide +kernel
theorem dX1_indexUnder_13 : decode cX1_indexUnder 13 = .ok (.goto 4, 3) := by decide +kernel
theorem dX1_indexUnder_16 : decode cX1_indexUnder 16 = .ok (.iconst (-1), 1) := by decide +kernel
theorem dX1_indexUnder_17 : decode cX1_indexUnder 17 = .ok (.ireturn, 1) := by decide +kernel
theorem dX1_nextThing_0 : decode cX1_nextThing 0 = .ok (.iload_n 1, 1) := by decide +kernel
theorem dX1_nextThing_1 : decode cX1_nextThing 1 = .ok (.istore_n 2, 1) := by decide +kernel
theorem dX1_nextThing_2 : decode cX1_nextThing 2 = .ok (.iload_n 2, 1) := by decide +kernel
theorem dX1_nextThing_3 : decode cX1_nextThing 3 = .ok (.aload_n 0, 1) := by decide +kernel
theorem dX1_nextThing_4 : decode cX1_nextThing 4 = .ok (.getfield 9, 3) := by decide +kernel
theorem dX1_nextThing_7 : decode cX1_nextThing 7 = .ok (.if_icmp .ge 19, 3) := by decide +kernel
theorem dX1_nextThing_10 : decode cX1_nextThing 10 = .ok (.aload_n 0, 1) := by decide +kernel
theorem dX1_nextThing_11 : decode cX1_nextThing 11 = .ok (.iload_n 2, 1) := by decide +kernel
theorem dX1_nextThing_12 : decode cX1_nextThing 12 = .ok (.invokevirtual 62, 3) := by decide +kernel
theorem dX1_nextThing_15 : decode cX1_nextThing 15 = .ok (.ifCond .eq 5, 3) := by decide +kernel
theorem dX1_nextThing_18 : decode cX1_nextThing 18 = .ok (.iload_n 2, 1) := by decide +kernel
theorem dX1_nextThing_19 : decode cX1_nextThing 19 = .ok (.ireturn, 1) := by decide +kernel
theorem dX1_nextThing_20 : decode cX1_nextThing 20 = .ok (.iinc 2 1, 3) := by decide +kernel
theorem dX1_nextThing_23 : decode cX1_nextThing 23 = .ok (.goto (-21), 3) := by decide +kernel
theorem dX1_nextThing_26 : decode cX1_nextThing 26 = .ok (.bipush (-2), 2) := by decide +kernel
theorem dX1_nextThing_28 : decode cX1_nextThing 28 = .ok (.ireturn, 1) := by decide +kernel
theorem dX1_send_0 : decode cX1_send 0 = .ok (.iload_n 1, 1) := by decide +kernel
theorem dX1_send_1 : decode cX1_send 1 = .ok (.invokestatic 72, 3) := by decide +kernel
theorem dX1_send_4 : decode cX1_send 4 = .ok (.ifCond .eq 22, 3) := by decide +kernel
theorem dX1_send_7 : decode cX1_send 7 = .ok (.aload_n 0, 1) := by decide +kernel
theorem dX1_send_8 : decode cX1_send 8 = .ok (.getfield 19, 3) := by decide +kernel
theorem dX1_send_11 : decode cX1_send 11 = .ok (.iload_n 1, 1) := by decide +kernel
theorem dX1_send_12 : decode cX1_send 12 = .ok (.iaload, 1) := by decide +kernel
theorem dX1_send_13 : decode cX1_send 13 = .ok (.istore_n 3, 1) := by decide +kernel
theorem dX1_send_14 : decode cX1_send 14 = .ok (.aload_n 0, 1) := by decide +kernel
theorem dX1_send_15 : decode cX1_send 15 = .ok (.getfield 19, 3) := by decide +kernel
theorem dX1_send_18 : decode cX1_send 18 = .ok (.iload_n 1, 1) := by decide +kernel
theorem dX1_send_19 : decode cX1_send 19 = .ok (.iload_n 2, 1) := by decide +kernel
theorem dX1_send_20 : decode cX1_send 20 = .ok (.iastore, 1) := by decide +kernel
theorem dX1_send_21 : decode cX1_send 21 = .ok (.aload_n 0, 1) := by decide +kernel
theorem dX1_send_22 : decode cX1_send 22 = .ok (.iload_n 3, 1) := by decide +kernel
theorem dX1_send_23 : decode cX1_send 23 = .ok (.invokevirtual 49, 3) := by decide +kernel
theorem dX1_send_26 : decode cX1_send 26 = .ok (.return_, 1) := by decide +kernel
theorem dX2_init_0 : decode cX2_init 0 = .ok (.aload_n 0, 1) := by decide +kernel
theorem dX2_init_1 : decode cX2_init 1 = .ok (.invokespecial 3, 3) := by decide +kernel
theorem dX2_init_4 : decode cX2_init 4 = .ok (.aload_n 0, 1) := by decide +kernel
theorem dX2_init_5 : decode cX2_init 5 = .ok (.bipush 16, 2) := by decide +kernel
theorem dX2_init_7 : decode cX2_init 7 = .ok (.putfield 9, 3) := by decide +kernel
theorem dX2_init_10 : decode cX2_init 10 = .ok (.aload_n 0, 1) := by decide +kernel
theorem dX2_init_11 : decode cX2_init 11 = .ok (.bipush 64, 2) := by decide +kernel
theorem dX2_init_13 : decode cX2_init 13 = .ok (.newarray .int, 2) := by decide +kernel
theorem dX2_init_15 : decode cX2_init 15 = .ok (.putfield 15, 3) := by decide +kernel
theorem dX2_init_18 : decode cX2_init 18 = .ok (.aload_n 0, 1) := by decide +kernel
theorem dX2_init_19 : decode cX2_init 19 = .ok (.bipush 64, 2) := by decide +kernel
theorem dX2_init_21 : decode cX2_init 21 = .ok (.newarray .int, 2) := by decide +kernel
theorem dX2_init_23 : decode cX2_init 23 = .ok (.putfield 19, 3) := by decide +kernel
theorem dX2_init_26 : decode cX2_init 26 = .ok (.aload_n 0, 1) := by decide +kernel
theorem dX2_init_27 : decode cX2_init 27 = .ok (.bipush 64, 2) := by decide +kernel
theorem dX2_init_29 : decode cX2_init 29 = .ok (.newarray .int, 2) := by decide +kernel
theorem dX2_init_31 : decode cX2_init 31 = .ok (.putfield 22, 3) := by decide +kernel
theorem dX2_init_34 : decode cX2_init 34 = .ok (.aload_n 0, 1) := by decide +kernel
theorem dX2_init_35 : decode cX2_init 35 = .ok (.bipush 64, 2) := by decide +kernel
theorem dX2_init_37 : decode cX2_init 37 = .ok (.newarray .int, 2) := by decide +kernel
theorem dX2_init_39 : decode cX2_init 39 = .ok (.putfield 25, 3) := by decide +kernel
theorem dX2_init_42 : decode cX2_init 42 = .ok (.aload_n 0, 1) := by decide +kernel
theorem dX2_init_43 : decode cX2_init 43 = .ok (.bipush 64, 2) := by decide +kernel
theorem dX2_init_45 : decode cX2_init 45 = .ok (.newarray .int, 2) := by decide +kernel
theorem dX2_init_47 : decode cX2_init 47 = .ok (.putfield 28, 3) := by decide +kernel
theorem dX2_init_50 : decode cX2_init 50 = .ok (.aload_n 0, 1) := by decide +kernel
theorem dX2_init_51 : decode cX2_init 51 = .ok (.bipush 64, 2) := by decide +kernel
theorem dX2_init_53 : decode cX2_init 53 = .ok (.newarray .int, 2) := by decide +kernel
theorem dX2_init_55 : decode cX2_init 55 = .ok (.putfield 31, 3) := by decide +kernel
theorem dX2_init_58 : decode cX2_init 58 = .ok (.iconst 0, 1) := by decide +kernel
theorem dX2_init_59 : decode cX2_init 59 = .ok (.istore_n 1, 1) := by decide +kernel
theorem dX2_init_60 : decode cX2_init 60 = .ok (.iload_n 1, 1) := by decide +kernel
theorem dX2_init_61 : decode cX2_init 61 = .ok (.bipush 64, 2) := by decide +kernel
theorem dX2_init_63 : decode cX2_init 63 = .ok (.if_icmp .ge 16, 3) := by decide +kernel
theorem dX2_init_66 : decode cX2_init 66 = .ok (.aload_n 0, 1) := by decide +kernel
theorem dX2_init_67 : decode cX2_init 67 = .ok (.getfield 19, 3) := by decide +kernel
theorem dX2_init_70 : decode cX2_init 70 = .ok (.iload_n 1, 1) := by decide +kernel
theorem dX2_init_71 : decode cX2_init 71 = .ok (.iconst (-1), 1) := by decide +kernel
theorem dX2_init_72 : decode cX2_init 72 = .ok (.iastore, 1) := by decide +kernel
theorem dX2_init_73 : decode cX2_init 73 = .ok (.iinc 1 1, 3) := by decide +kernel
theorem dX2_init_76 : decode cX2_init 76 = .ok (.goto (-16), 3) := by decide +kernel
theorem dX2_init_79 : decode cX2_init 79 = .ok (.return_, 1) := by decide +kernel
theorem dX2_copyFrom_0 : decode cX2_copyFrom 0 = .ok (.aload_n 0, 1) := by decide +kernel
theorem dX2_copyFrom_1 : decode cX2_copyFrom 1 = .ok (.aload_n 1, 1) := by decide +kernel
theorem dX2_copyFrom_2 : decode cX2_copyFrom 2 = .ok (.getfield 9, 3) := by decide +kernel
theorem dX2_copyFrom_5 : decode cX2_copyFrom 5 = .ok (.putfield 9, 3) := by decide +kernel
theorem dX2_copyFrom_8 : decode cX2_copyFrom 8 = .ok (.aload_n 1, 1) := by decide +kernel
theorem dX2_copyFrom_9 : decode cX2_copyFrom 9 = .ok (.getfield 15, 3) := by decide +kernel
theorem dX2_copyFrom_12 : decode cX2_copyFrom 12 = .ok (.iconst 0, 1) := by decide +kernel
theorem dX2_copyFrom_13 : decode cX2_copyFrom 13 = .ok (.aload_n 0, 1) := by decide +kernel
theorem dX2_copyFrom_14 : decode cX2_copyFrom 14 = .ok (.getfield 15, 3) := by decide +kernel
theorem dX2_copyFrom_17 : decode cX2_copyFrom 17 = .ok (.iconst 0, 1) := by decide +kernel
theorem dX2_copyFrom_18 : decode cX2_copyFrom 18 = .ok (.bipush 64, 2) := by decide +kernel
theorem dX2_copyFrom_20 : decode cX2_copyFrom 20 = .ok (.invokestatic 34, 3) := by decide +kernel
theorem dX2_copyFrom_23 : decode cX2_copyFrom 23 = .ok (.aload_n 1, 1) := by decide +kernel
theorem dX2_copyFrom_24 : decode cX2_copyFrom 24 = .ok (.getfield 19, 3) := by decide +kernel
theorem dX2_copyFrom_27 : decode cX2_copyFrom 27 = .ok (.iconst 0, 1) := by decide +kernel
theorem dX2_copyFrom_28 : decode cX2_copyFrom 28 = .ok (.aload_n 0, 1) := by decide +kernel
theorem dX2_copyFrom_29 : decode cX2_copyFrom 29 = .ok (.getfield 19, 3) := by decide +kernel
theorem dX2_copyFrom_32 : decode cX2_copyFrom 32 = .ok (.iconst 0, 1) := by decide +kernel
theorem dX2_copyFrom_33 : decode cX2_copyFrom 33 = .ok (.bipush 64, 2) := by decide +kernel
theorem dX2_copyFrom_35 : decode cX2_copyFrom 35 = .ok (.invokestatic 34, 3) := by decide +kernel
theorem dX2_copyFrom_38 : decode cX2_copyFrom 38 = .ok (.aload_n 1, 1) := by decide +kernel
theorem dX2_copyFrom_39 : decode cX2_copyFrom 39 = .ok (.getfield 22, 3) := by decide +kernel
theorem dX2_copyFrom_42 : decode cX2_copyFrom 42 = .ok (.iconst 0, 1) := by decide +kernel
theorem dX2_copyFrom_43 : decode cX2_copyFrom 43 = .ok (.aload_n 0, 1) := by decide +kernel
theorem dX2_copyFrom_44 : decode cX2_copyFrom 44 = .ok (.getfield 22, 3) := by decide +kernel
theorem dX2_copyFrom_47 : decode cX2_copyFrom 47 = .ok (.iconst 0, 1) := by decide +kernel
theorem dX2_copyFrom_48 : decode cX2_copyFrom 48 = .ok (.bipush 64, 2) := by decide +kernel
theorem dX2_copyFrom_50 : decode cX2_copyFrom 50 = .ok (.invokestatic 34, 3) := by decide +kernel
theorem dX2_copyFrom_53 : decode cX2_copyFrom 53 = .ok (.aload_n 1, 1) := by decide +kernel
theorem dX2_copyFrom_54 : decode cX2_copyFrom 54 = .ok (.getfield 25, 3) := by decide +kernel
theorem dX2_copyFrom_57 : decode cX2_copyFrom 57 = .ok (.iconst 0, 1) := by decide +kernel
theorem dX2_copyFrom_58 : decode cX2_copyFrom 58 = .ok (.aload_n 0, 1) := by decide +kernel
theorem dX2_copyFrom_59 : decode cX2_copyFrom 59 = .ok (.getfield 25, 3) := by decide +kernel
theorem dX2_copyFrom_62 : decode cX2_copyFrom 62 = .ok (.iconst 0, 1) := by decide +kernel
theorem dX2_copyFrom_63 : decode cX2_copyFrom 63 = .ok (.bipush 64, 2) := by decide +kernel
theorem dX2_copyFrom_65 : decode cX2_copyFrom 65 = .ok (.invokestatic 34, 3) := by decide +kernel
theorem dX2_copyFrom_68 : decode cX2_copyFrom 68 = .ok (.aload_n 1, 1) := by decide +kernel
theorem dX2_copyFrom_69 : decode cX2_copyFrom 69 = .ok (.getfield 28, 3) := by decide +kernel
theorem dX2_copyFrom_72 : decode cX2_copyFrom 72 = .ok (.iconst 0, 1) := by decide +kernel
theorem dX2_copyFrom_73 : decode cX2_copyFrom 73 = .ok (.aload_n 0, 1) := by decide +kernel
theorem dX2_copyFrom_74 : decode cX2_copyFrom 74 = .ok (.getfield 28, 3) := by decide +kernel
theorem dX2_copyFrom_77 : decode cX2_copyFrom 77 = .ok (.iconst 0, 1) := by decide +kernel
theorem dX2_copyFrom_78 : decode cX2_copyFrom 78 = .ok (.bipush 64, 2) := by decide +kernel
theorem dX2_copyFrom_80 : decode cX2_copyFrom 80 = .ok (.invokestatic 34, 3) := by decide +kernel
theorem dX2_copyFrom_83 : decode cX2_copyFrom 83 = .ok (.aload_n 1, 1) := by decide +kernel
theorem dX2_copyFrom_84 : decode cX2_copyFrom 84 = .ok (.getfield 31, 3) := by decide +kernel
theorem dX2_copyFrom_87 : decode cX2_copyFrom 87 = .ok (.iconst 0, 1) := by decide +kernel
theorem dX2_copyFrom_88 : decode cX2_copyFrom 88 = .ok (.aload_n 0, 1) := by decide +kernel
theorem dX2_copyFrom_89 : decode cX2_copyFrom 89 = .ok (.getfield 31, 3) := by decide +kernel
theorem dX2_copyFrom_92 : decode cX2_copyFrom 92 = .ok (.iconst 0, 1) := by decide +kernel
theorem dX2_copyFrom_93 : decode cX2_copyFrom 93 = .ok (.bipush 64, 2) := by decide +kernel
theorem dX2_copyFrom_95 : decode cX2_copyFrom 95 = .ok (.invokestatic 34, 3) := by decide +kernel
theorem dX2_copyFrom_98 : decode cX2_copyFrom 98 = .ok (.return_, 1) := by decide +kernel
theorem dX2_isCell_0 : decode cX2_isCell 0 = .ok (.iload_n 1, 1) := by decide +kernel
theorem dX2_isCell_1 : decode cX2_isCell 1 = .ok (.ifCond .lt 21, 3) := by decide +kernel
theorem dX2_isCell_4 : decode cX2_isCell 4 = .ok (.iload_n 1, 1) := by decide +kernel
theorem dX2_isCell_5 : decode cX2_isCell 5 = .ok (.aload_n 0, 1) := by decide +kernel
theorem dX2_isCell_6 : decode cX2_isCell 6 = .ok (.getfield 9, 3) := by decide +kernel
theorem dX2_isCell_9 : decode cX2_isCell 9 = .ok (.if_icmp .ge 13, 3) := by decide +kernel
theorem dX2_isCell_12 : decode cX2_isCell 12 = .ok (.iload_n 1, 1) := by decide +kernel
theorem dX2_isCell_13 : decode cX2_isCell 13 = .ok (.bipush 64, 2) := by decide +kernel
theorem dX2_isCell_15 : decode cX2_isCell 15 = .ok (.if_icmp .ge 7, 3) := by decide +kernel
theorem dX2_isCell_18 : decode cX2_isCell 18 = .ok (.iconst 1, 1) := by decide +kernel
theorem dX2_isCell_19 : decode cX2_isCell 19 = .ok (.goto 4, 3) := by decide +kernel
theorem dX2_isCell_22 : decode cX2_isCell 22 = .ok (.iconst 0, 1) := by decide +kernel
theorem dX2_isCell_23 : decode cX2_isCell 23 = .ok (.ireturn, 1) := by decide +kernel
theorem dX2_cellsNow_0 : decode cX2_cellsNow 0 = .ok (.aload_n 0, 1) := by decide +kernel
theorem dX2_cellsNow_1 : decode cX2_cellsNow 1 = .ok (.getfield 9, 3) := by decide +kernel
theorem dX2_cellsNow_4 : decode cX2_cellsNow 4 = .ok (.ireturn, 1) := by decide +kernel
theorem dX2_stampAt_0 : decode cX2_stampAt 0 = .ok (.aload_n 0, 1) := by decide +kernel
theorem dX2_stampAt_1 : decode cX2_stampAt 1 = .ok (.iload_n 1, 1) := by decide +kernel
theorem dX2_stampAt_2 : decode cX2_stampAt 2 = .ok (.invokevirtual 40, 3) := by decide +kernel
theorem dX2_stampAt_5 : decode cX2_stampAt 5 = .ok (.ifCond .eq 12, 3) := by decide +kernel
theorem dX2_stampAt_8 : decode cX2_stampAt 8 = .ok (.aload_n 0, 1) := by decide +kernel
theorem dX2_stampAt_9 : decode cX2_stampAt 9 = .ok (.getfield 15, 3) := by decide +kernel
theorem dX2_stampAt_12 : decode cX2_stampAt 12 = .ok (.iload_n 1, 1) := by decide +kernel
theorem dX2_stampAt_13 : decode cX2_stampAt 13 = .ok (.iaload, 1) := by decide +kernel
theorem dX2_stampAt_14 : decode cX2_stampAt 14 = .ok (.goto 4, 3) := by decide +kernel
theorem dX2_stampAt_17 : decode cX2_stampAt 17 = .ok (.iconst 0, 1) := by decide +kernel
theorem dX2_stampAt_18 : decode cX2_stampAt 18 = .ok (.ireturn, 1) := by decide +kernel
theorem dX2_ownerOf_0 : decode cX2_ownerOf 0 = .ok (.aload_n 0, 1) := by decide +kernel
theorem dX2_ownerOf_1 : decode cX2_ownerOf 1 = .ok (.iload_n 1, 1) := by decide +kernel
theorem dX2_ownerOf_2 : decode cX2_ownerOf 2 = .ok (.invokevirtual 40, 3) := by decide +kernel
theorem dX2_ownerOf_5 : decode cX2_ownerOf 5 = .ok (.ifCond .eq 12, 3) := by decide +kernel
theorem dX2_ownerOf_8 : decode cX2_ownerOf 8 = .ok (.aload_n 0, 1) := by decide +kernel
theorem dX2_ownerOf_9 : decode cX2_ownerOf 9 = .ok (.getfield 19, 3) := by decide +kernel
theorem dX2_ownerOf_12 : decode cX2_ownerOf 12 = .ok (.iload_n 1, 1) := by decide +kernel
theorem dX2_ownerOf_13 : decode cX2_ownerOf 13 = .ok (.iaload, 1) := by decide +kernel
theorem dX2_ownerOf_14 : decode cX2_ownerOf 14 = .ok (.goto 4, 3) := by decide +kernel
theorem dX2_ownerOf_17 : decode cX2_ownerOf 17 = .ok (.iconst (-1), 1) := by decide +kernel
theorem dX2_ownerOf_18 : decode cX2_ownerOf 18 = .ok (.ireturn, 1) := by decide +kernel
theorem dX2_sizeAt_0 : decode cX2_sizeAt 0 = .ok (.aload_n 0, 1) := by decide +kernel
theorem dX2_sizeAt_1 : decode cX2_sizeAt 1 = .ok (.iload_n 1, 1) := by decide +kernel
theorem dX2_sizeAt_2 : decode cX2_sizeAt 2 = .ok (.invokevirtual 40, 3) := by decide +kernel
theorem dX2_sizeAt_5 : decode cX2_sizeAt 5 = .ok (.ifCond .eq 12, 3) := by decide +kernel
theorem dX2_sizeAt_8 : decode cX2_sizeAt 8 = .ok (.aload_n 0, 1) := by decide +kernel
theorem dX2_sizeAt_9 : decode cX2_sizeAt 9 = .ok (.getfield 22, 3) := by decide +kernel
theorem dX2_sizeAt_12 : decode cX2_sizeAt 12 = .ok (.iload_n 1, 1) := by decide +kernel
theorem dX2_sizeAt_13 : decode cX2_sizeAt 13 = .ok (.iaload, 1) := by decide +kernel
theorem dX2_sizeAt_14 : decode cX2_sizeAt 14 = .ok (.goto 4, 3) := by decide +kernel
theorem dX2_sizeAt_17 : decode cX2_sizeAt 17 = .ok (.iconst 0, 1) := by decide +kernel
theorem dX2_sizeAt_18 : decode cX2_sizeAt 18 = .ok (.ireturn, 1) := by decide +kernel
theorem dX2_valueAt_0 : decode cX2_valueAt 0 = .ok (.aload_n 0, 1) := by decide +kernel
theorem dX2_valueAt_1 : decode cX2_valueAt 1 = .ok (.iload_n 1, 1) := by decide +kernel
theorem dX2_valueAt_2 : decode cX2_valueAt 2 = .ok (.invokevirtual 40, 3) := by decide +kernel
theorem dX2_valueAt_5 : decode cX2_valueAt 5 = .ok (.ifCond .eq 12, 3) := by decide +kernel
theorem dX2_valueAt_8 : decode cX2_valueAt 8 = .ok (.aload_n 0, 1) := by decide +kernel
theorem dX2_valueAt_9 : decode cX2_valueAt 9 = .ok (.getfield 25, 3) := by decide +kernel
theorem dX2_valueAt_12 : decode cX2_valueAt 12 = .ok (.iload_n 1, 1) := by decide +kernel
theorem dX2_valueAt_13 : decode cX2_valueAt 13 = .ok (.iaload, 1) := by decide +kernel
theorem dX2_valueAt_14 : decode cX2_valueAt 14 = .ok (.goto 4, 3) := by decide +kernel
theorem dX2_valueAt_17 : decode cX2_valueAt 17 = .ok (.iconst 0, 1) := by decide +kernel
theorem dX2_valueAt_18 : decode cX2_valueAt 18 = .ok (.ireturn, 1) := by decide +kernel
theorem dX2_kindAt_0 : decode cX2_kindAt 0 = .ok (.aload_n 0, 1) := by decide +kernel
theorem dX2_kindAt_1 : decode cX2_kindAt 1 = .ok (.iload_n 1, 1) := by decide +kernel
theorem dX2_kindAt_2 : decode cX2_kindAt 2 = .ok (.invokevirtual 40, 3) := by decide +kernel
theorem dX2_kindAt_5 : decode cX2_kindAt 5 = .ok (.ifCond .eq 12, 3) := by decide +kernel
theorem dX2_kindAt_8 : decode cX2_kindAt 8 = .ok (.aload_n 0, 1) := by decide +kernel
theorem dX2_kindAt_9 : decode cX2_kindAt 9 = .ok (.getfield 28, 3) := by decide +kernel
theorem dX2_kindAt_12 : decode cX2_kindAt 12 = .ok (.iload_n 1, 1) := by decide +kernel
theorem dX2_kindAt_13 : decode cX2_kindAt 13 = .ok (.iaload, 1) := by decide +kernel
theorem dX2_kindAt_14 : decode cX2_kindAt 14 = .ok (.goto 4, 3) := by decide +kernel
theorem dX2_kindAt_17 : decode cX2_kindAt 17 = .ok (.iconst 0, 1) := by decide +kernel
theorem dX2_kindAt_18 : decode cX2_kindAt 18 = .ok (.ireturn, 1) := by decide +kernel
theorem dX2_timesFired_0 : decode cX2_timesFired 0 = .ok (.aload_n 0, 1) := by decide +kernel
theorem dX2_timesFired_1 : decode cX2_timesFired 1 = .ok (.iload_n 1, 1) := by decide +kernel
theorem dX2_timesFired_2 : decode cX2_timesFired 2 = .ok (.invokevirtual 40, 3) := by decide +kernel
theorem dX2_timesFired_5 : decode cX2_timesFired 5 = .ok (.ifCond .eq 12, 3) := by decide +kernel
theorem dX2_timesFired_8 : decode cX2_timesFired 8 = .ok (.aload_n 0, 1) := by decide +kernel
theorem dX2_timesFired_9 : decode cX2_timesFired 9 = .ok (.getfield 31, 3) := by decide +kernel
theorem dX2_timesFired_12 : decode cX2_timesFired 12 = .ok (.iload_n 1, 1) := by decide +kernel
theorem dX2_timesFired_13 : decode cX2_timesFired 13 = .ok (.iaload, 1) := by decide +kernel
theorem dX2_timesFired_14 : decode cX2_timesFired 14 = .ok (.goto 4, 3) := by decide +kernel
theorem dX2_timesFired_17 : decode cX2_timesFired 17 = .ok (.iconst 0, 1) := by decide +kernel
theorem dX2_timesFired_18 : decode cX2_timesFired 18 = .ok (.ireturn, 1) := by decide +kernel
theorem dX2_handleOf_0 : decode cX2_handleOf 0 = .ok (.aload_n 0, 1) := by decide +kernel
theorem dX2_handleOf_1 : decode cX2_handleOf 1 = .ok (.iload_n 1, 1) := by decide +kernel
theorem dX2_handleOf_2 : decode cX2_handleOf 2 = .ok (.invokevirtual 40, 3) := by decide +kernel
theorem dX2_handleOf_5 : decode cX2_handleOf 5 = .ok (.ifCond .eq 18, 3) := by decide +kernel
theorem dX2_handleOf_8 : decode cX2_handleOf 8 = .ok (.iload_n 1, 1) := by decide +kernel
theorem dX2_handleOf_9 : decode cX2_handleOf 9 = .ok (.sipush 1000, 3) := by decide +kernel
theorem dX2_handleOf_12 : decode cX2_handleOf 12 = .ok (.imul, 1) := by decide +kernel
theorem dX2_handleOf_13 : decode cX2_handleOf 13 = .ok (.aload_n 0, 1) := by decide +kernel
theorem dX2_handleOf_14 : decode cX2_handleOf 14 = .ok (.getfield 15, 3) := by decide +kernel
theorem dX2_handleOf_17 : decode cX2_handleOf 17 = .ok (.iload_n 1, 1) := by decide +kernel
theorem dX2_handleOf_18 : decode cX2_handleOf 18 = .ok (.iaload, 1) := by decide +kernel
theorem dX2_handleOf_19 : decode cX2_handleOf 19 = .ok (.iadd, 1) := by decide +kernel
theorem dX2_handleOf_20 : decode cX2_handleOf 20 = .ok (.goto 4, 3) := by decide +kernel
theorem dX2_handleOf_23 : decode cX2_handleOf 23 = .ok (.iconst (-1), 1) := by decide +kernel
theorem dX2_handleOf_24 : decode cX2_handleOf 24 = .ok (.ireturn, 1) := by decide +kernel
theorem dX2_whyRefused_0 : decode cX2_whyRefused 0 = .ok (.iload_n 1, 1) := by decide +kernel
theorem dX2_whyRefused_1 : decode cX2_whyRefused 1 = .ok (.ifCond .lt 15, 3) := by decide +kernel
theorem dX2_whyRefused_4 : decode cX2_whyRefused 4 = .ok (.aload_n 0, 1) := by decide +kernel
theorem dX2_whyRefused_5 : decode cX2_whyRefused 5 = .ok (.iload_n 1, 1) := by decide +kernel
theorem dX2_whyRefused_6 : decode cX2_whyRefused 6 = .ok (.sipush 1000, 3) := by decide +kernel
theorem dX2_whyRefused_9 : decode cX2_whyRefused 9 = .ok (.idiv, 1) := by decide +kernel
theorem dX2_whyRefused_10 : decode cX2_whyRefused 10 = .ok (.invokevirtual 40, 3) := by decide +kernel
theorem dX2_whyRefused_13 : decode cX2_whyRefused 13 = .ok (.ifCond .ne 5, 3) := by decide +kernel
theorem dX2_whyRefused_16 : decode cX2_whyRefused 16 = .ok (.iconst 1, 1) := by decide +kernel
theorem dX2_whyRefused_17 : decode cX2_whyRefused 17 = .ok (.ireturn, 1) := by decide +kernel
theorem dX2_whyRefused_18 : decode cX2_whyRefused 18 = .ok (.aload_n 0, 1) := by decide +kernel
theorem dX2_whyRefused_19 : decode cX2_whyRefused 19 = .ok (.iload_n 1, 1) := by decide +kernel
theorem dX2_whyRefused_20 : decode cX2_whyRefused 20 = .ok (.sipush 1000, 3) := by decide +kernel
theorem dX2_whyRefused_23 : decode cX2_whyRefused 23 = .ok (.idiv, 1) := by decide +kernel
theorem dX2_whyRefused_24 : decode cX2_whyRefused 24 = .ok (.invokevirtual 44, 3) := by decide +kernel
theorem dX2_whyRefused_27 : decode cX2_whyRefused 27 = .ok (.iload_n 1, 1) := by decide +kernel
theorem dX2_whyRefused_28 : decode cX2_whyRefused 28 = .ok (.sipush 1000, 3) := by decide +kernel
theorem dX2_whyRefused_31 : decode cX2_whyRefused 31 = .ok (.irem, 1) := by decide +kernel
theorem dX2_whyRefused_32 : decode cX2_whyRefused 32 = .ok (.if_icmp .eq 5, 3) := by decide +kernel
theorem dX2_whyRefused_35 : decode cX2_whyRefused 35 = .ok (.iconst 2, 1) := by decide +kernel
theorem dX2_whyRefused_36 : decode cX2_whyRefused 36 = .ok (.ireturn, 1) := by decide +kernel
theorem dX2_whyRefused_37 : decode cX2_whyRefused 37 = .ok (.aload_n 0, 1) := by decide +kernel
theorem dX2_whyRefused_38 : decode cX2_whyRefused 38 = .ok (.iload_n 1, 1) := by decide +kernel
theorem dX2_whyRefused_39 : decode cX2_whyRefused 39 = .ok (.sipush 1000, 3) := by decide +kernel
theorem dX2_whyRefused_42 : decode cX2_whyRefused 42 = .ok (.idiv, 1) := by decide +kernel
theorem dX2_whyRefused_43 : decode cX2_whyRefused 43 = .ok (.invokevirtual 48, 3) := by decide +kernel
theorem dX2_whyRefused_46 : decode cX2_whyRefused 46 = .ok (.ifCond .ne 7, 3) := by decide +kernel
theorem dX2_whyRefused_49 : decode cX2_whyRefused 49 = .ok (.iconst 3, 1) := by decide +kernel
theorem dX2_whyRefused_50 : decode cX2_whyRefused 50 = .ok (.goto 4, 3) := by decide +kernel
theorem dX2_whyRefused_53 : decode cX2_whyRefused 53 = .ok (.iconst 0, 1) := by decide +kernel
theorem dX2_whyRefused_54 : decode cX2_whyRefused 54 = .ok (.ireturn, 1) := by decide +kernel
theorem dX2_lowestFor_0 : decode cX2_lowestFor 0 = .ok (.iconst 0, 1) := by decide +kernel
theorem dX2_lowestFor_1 : decode cX2_lowestFor 1 = .ok (.istore_n 2, 1) := by decide +kernel
theorem dX2_lowestFor_2 : decode cX2_lowestFor 2 = .ok (.iconst 0, 1) := by decide +kernel
theorem dX2_lowestFor_3 : decode cX2_lowestFor 3 = .ok (.istore_n 3, 1) := by decide +kernel
theorem dX2_lowestFor_4 : decode cX2_lowestFor 4 = .ok (.iload_n 3, 1) := by decide +kernel
theorem dX2_lowestFor_5 : decode cX2_lowestFor 5 = .ok (.bipush 64, 2) := by decide +kernel
theorem dX2_lowestFor_7 : decode cX2_lowestFor 7 = .ok (.if_icmp .ge 38, 3) := by decide +kernel
theorem dX2_lowestFor_10 : decode cX2_lowestFor 10 = .ok (.aload_n 0, 1) := by decide +kernel
theorem dX2_lowestFor_11 : decode cX2_lowestFor 11 = .ok (.getfield 19, 3) := by decide +kernel
theorem dX2_lowestFor_14 : decode cX2_lowestFor 14 = .ok (.iload_n 3, 1) := by decide +kernel
theorem dX2_lowestFor_15 : decode cX2_lowestFor 15 = .ok (.iaload, 1) := by decide +kernel
theorem dX2_lowestFor_16 : decode cX2_lowestFor 16 = .ok (.iconst (-1), 1) := by decide +kernel
theorem dX2_lowestFor_17 : decode cX2_lowestFor 17 = .ok (.if_icmp .ne 9, 3) := by decide +kernel
theorem dX2_lowestFor_20 : decode cX2_lowestFor 20 = .ok (.iload_n 2, 1) := by decide +kernel
theorem dX2_lowestFor_21 : decode cX2_lowestFor 21 = .ok (.iconst 1, 1) := by decide +kernel
theorem dX2_lowestFor_22 : decode cX2_lowestFor 22 = .ok (.iadd, 1) := by decide +kernel
theorem dX2_lowestFor_23 : decode cX2_lowestFor 23 = .ok (.goto 4, 3) := by decide +kernel
theorem dX2_lowestFor_26 : decode cX2_lowestFor 26 = .ok (.iconst 0, 1) := by decide +kernel
theorem dX2_lowestFor_27 : decode cX2_lowestFor 27 = .ok (.istore_n 2, 1) := by decide +kernel
theorem dX2_lowestFor_28 : decode cX2_lowestFor 28 = .ok (.iload_n 2, 1) := by decide +kernel
theorem dX2_lowestFor_29 : decode cX2_lowestFor 29 = .ok (.iload_n 1, 1) := by decide +kernel
theorem dX2_lowestFor_30 : decode cX2_lowestFor 30 = .ok (.if_icmp .ne 9, 3) := by decide +kernel
theorem dX2_lowestFor_33 : decode cX2_lowestFor 33 = .ok (.iload_n 3, 1) := by decide +kernel
theorem dX2_lowestFor_34 : decode cX2_lowestFor 34 = .ok (.iload_n 1, 1) := by decide +kernel
theorem dX2_lowestFor_35 : decode cX2_lowestFor 35 = .ok (.isub, 1) := by decide +kernel
theorem dX2_lowestFor_36 : decode cX2_lowestFor 36 = .ok (.iconst 1, 1) := by decide +kernel
theorem dX2_lowestFor_37 : decode cX2_lowestFor 37 = .ok (.iadd, 1) := by decide +kernel
theorem dX2_lowestFor_38 : decode cX2_lowestFor 38 = .ok (.ireturn, 1) := by decide +kernel
theorem dX2_lowestFor_39 : decode cX2_lowestFor 39 = .ok (.iinc 3 1, 3) := by decide +kernel
theorem dX2_lowestFor_42 : decode cX2_lowestFor 42 = .ok (.goto (-38), 3) := by decide +kernel
theorem dX2_lowestFor_45 : decode cX2_lowestFor 45 = .ok (.iconst (-1), 1) := by decide +kernel
theorem dX2_lowestFor_46 : decode cX2_lowestFor 46 = .ok (.ireturn, 1) := by decide +kernel
theorem dX2_occupy_0 : decode cX2_occupy 0 = .ok (.aload_n 0, 1) := by decide +kernel
theorem dX2_occupy_1 : decode cX2_occupy 1 = .ok (.iload_n 1, 1) := by decide +kernel
theorem dX2_occupy_2 : decode cX2_occupy 2 = .ok (.iload_n 3, 1) := by decide +kernel
theorem dX2_occupy_3 : decode cX2_occupy 3 = .ok (.iadd, 1) := by decide +kernel
theorem dX2_occupy_4 : decode cX2_occupy 4 = .ok (.invokevirtual 51, 3) := by decide +kernel
theorem dX2_occupy_7 : decode cX2_occupy 7 = .ok (.aload_n 0, 1) := by decide +kernel
theorem dX2_occupy_8 : decode cX2_occupy 8 = .ok (.iload_n 1, 1) := by decide +kernel
theorem dX2_occupy_9 : decode cX2_occupy 9 = .ok (.invokevirtual 40, 3) := by decide +kernel
theorem dX2_occupy_12 : decode cX2_occupy 12 = .ok (.ifCond .ne 4, 3) := by decide +kernel
theorem dX2_occupy_15 : decode cX2_occupy 15 = .ok (.return_, 1) := by decide +kernel
theorem dX2_occupy_16 : decode cX2_occupy 16 = .ok (.aload_n 0, 1) := by decide +kernel
theorem dX2_occupy_17 : decode cX2_occupy 17 = .ok (.getfield 22, 3) := by decide +kernel
theorem dX2_occupy_20 : decode cX2_occupy 20 = .ok (.iload_n 1, 1) := by decide +kernel
theorem dX2_occupy_21 : decode cX2_occupy 21 = .ok (.iload_n 3, 1) := by decide +kernel
theorem dX2_occupy_22 : decode cX2_occupy 22 = .ok (.iastore, 1) := by decide +kernel
theorem dX2_occupy_23 : decode cX2_occupy 23 = .ok (.aload_n 0, 1) := by decide +kernel
theorem dX2_occupy_24 : decode cX2_occupy 24 = .ok (.getfield 25, 3) := by decide +kernel
theorem dX2_occupy_27 : decode cX2_occupy 27 = .ok (.iload_n 1, 1) := by decide +kernel
theorem dX2_occupy_28 : decode cX2_occupy 28 = .ok (.iload_n 2, 1) := by decide +kernel
theorem dX2_occupy_29 : decode cX2_occupy 29 = .ok (.iastore, 1) := by decide +kernel
theorem dX2_occupy_30 : decode cX2_occupy 30 = .ok (.aload_n 0, 1) := by decide +kernel
theorem dX2_occupy_31 : decode cX2_occupy 31 = .ok (.getfield 28, 3) := by decide +kernel
theorem dX2_occupy_34 : decode cX2_occupy 34 = .ok (.iload_n 1, 1) := by decide +kernel
theorem dX2_occupy_35 : decode cX2_occupy 35 = .ok (.iload 4, 2) := by decide +kernel
theorem dX2_occupy_37 : decode cX2_occupy 37 = .ok (.iastore, 1) := by decide +kernel
theorem dX2_occupy_38 : decode cX2_occupy 38 = .ok (.aload_n 0, 1) := by decide +kernel
theorem dX2_occupy_39 : decode cX2_occupy 39 = .ok (.getfield 31, 3) := by decide +kernel
theorem dX2_occupy_42 : decode cX2_occupy 42 = .ok (.iload_n 1, 1) := by decide +kernel
theorem dX2_occupy_43 : decode cX2_occupy 43 = .ok (.iconst 0, 1) := by decide +kernel
theorem dX2_occupy_44 : decode cX2_occupy 44 = .ok (.iastore, 1) := by decide +kernel
theorem dX2_occupy_45 : decode cX2_occupy 45 = .ok (.aload_n 0, 1) := by decide +kernel
theorem dX2_occupy_46 : decode cX2_occupy 46 = .ok (.iload_n 1, 1) := by decide +kernel
theorem dX2_occupy_47 : decode cX2_occupy 47 = .ok (.iload_n 3, 1) := by decide +kernel
theorem dX2_occupy_48 : decode cX2_occupy 48 = .ok (.iload_n 1, 1) := by decide +kernel
theorem dX2_occupy_49 : decode cX2_occupy 49 = .ok (.invokevirtual 55, 3) := by decide +kernel
theorem dX2_occupy_52 : decode cX2_occupy 52 = .ok (.return_, 1) := by decide +kernel
theorem dX2_growTo_0 : decode cX2_growTo 0 = .ok (.iconst 0, 1) := by decide +kernel
theorem dX2_growTo_1 : decode cX2_growTo 1 = .ok (.istore_n 2, 1) := by decide +kernel
theorem dX2_growTo_2 : decode cX2_growTo 2 = .ok (.iload_n 2, 1) := by decide +kernel
theorem dX2_growTo_3 : decode cX2_growTo 3 = .ok (.iconst 2, 1) := by decide +kernel
theorem dX2_growTo_4 : decode cX2_growTo 4 = .ok (.if_icmp .ge 36, 3) := by decide +kernel
theorem dX2_growTo_7 : decode cX2_growTo 7 = .ok (.aload_n 0, 1) := by decide +kernel
theorem dX2_growTo_8 : decode cX2_growTo 8 = .ok (.getfield 9, 3) := by decide +kernel
theorem dX2_growTo_11 : decode cX2_growTo 11 = .ok (.iload_n 1, 1) := by decide +kernel
theorem dX2_growTo_12 : decode cX2_growTo 12 = .ok (.if_icmp .ge 22, 3) := by decide +kernel
theorem dX2_growTo_15 : decode cX2_growTo 15 = .ok (.aload_n 0, 1) := by decide +kernel
theorem dX2_growTo_16 : decode cX2_growTo 16 = .ok (.getfield 9, 3) := by decide +kernel
theorem dX2_growTo_19 : decode cX2_growTo 19 = .ok (.bipush 64, 2) := by decide +kernel
theorem dX2_growTo_21 : decode cX2_growTo 21 = .ok (.if_icmp .ge 13, 3) := by decide +kernel
theorem dX2_growTo_24 : decode cX2_growTo 24 = .ok (.aload_n 0, 1) := by decide +kernel
theorem dX2_growTo_25 : decode cX2_growTo 25 = .ok (.iconst 2, 1) := by decide +kernel
theorem dX2_growTo_26 : decode cX2_growTo 26 = .ok (.aload_n 0, 1) := by decide +kernel
theorem dX2_growTo_27 : decode cX2_growTo 27 = .ok (.getfield 9, 3) := by decide +kernel
theorem dX2_growTo_30 : decode cX2_growTo 30 = .ok (.imul, 1) := by decide +kernel
theorem dX2_growTo_31 : decode cX2_growTo 31 = .ok (.putfield 9, 3) := by decide +kernel
theorem dX2_growTo_34 : decode cX2_growTo 34 = .ok (.iinc 2 1, 3) := by decide +kernel
theorem dX2_growTo_37 : decode cX2_growTo 37 = .ok (.goto (-35), 3) := by decide +kernel
theorem dX2_growTo_40 : decode cX2_growTo 40 = .ok (.return_, 1) := by decide +kernel
theorem dX2_giveCells_0 : decode cX2_giveCells 0 = .ok (.iload_n 1, 1) := by decide +kernel
theorem dX2_giveCells_1 : decode cX2_giveCells 1 = .ok (.istore 4, 2) := by decide +kernel
theorem dX2_giveCells_3 : decode cX2_giveCells 3 = .ok (.iload 4, 2) := by decide +kernel
theorem dX2_giveCells_5 : decode cX2_giveCells 5 = .ok (.iload_n 1, 1) := by decide +kernel
theorem dX2_giveCells_6 : decode cX2_giveCells 6 = .ok (.iload_n 2, 1) := by decide +kernel
theorem dX2_giveCells_7 : decode cX2_giveCells 7 = .ok (.iadd, 1) := by decide +kernel
theorem dX2_giveCells_8 : decode cX2_giveCells 8 = .ok (.if_icmp .ge 26, 3) := by decide +kernel
theorem dX2_giveCells_11 : decode cX2_giveCells 11 = .ok (.aload_n 0, 1) := by decide +kernel
theorem dX2_giveCells_12 : decode cX2_giveCells 12 = .ok (.iload 4, 2) := by decide +kernel
theorem dX2_giveCells_14 : decode cX2_giveCells 14 = .ok (.invokevirtual 40, 3) := by decide +kernel
theorem dX2_giveCells_17 : decode cX2_giveCells 17 = .ok (.ifCond .eq 11, 3) := by decide +kernel
theorem dX2_giveCells_20 : decode cX2_giveCells 20 = .ok (.aload_n 0, 1) := by decide +kernel
theorem dX2_giveCells_21 : decode cX2_giveCells 21 = .ok (.getfield 19, 3) := by decide +kernel
theorem dX2_giveCells_24 : decode cX2_giveCells 24 = .ok (.iload 4, 2) := by decide +kernel
theorem dX2_giveCells_26 : decode cX2_giveCells 26 = .ok (.iload_n 3, 1) := by decide +kernel
theorem dX2_giveCells_27 : decode cX2_giveCells 27 = .ok (.iastore, 1) := by decide +kernel
theorem dX2_giveCells_28 : decode cX2_giveCells 28 = .ok (.iinc 4 1, 3) := by decide +kernel
theorem dX2_giveCells_31 : decode cX2_giveCells 31 = .ok (.goto (-28), 3) := by decide +kernel
theorem dX2_giveCells_34 : decode cX2_giveCells 34 = .ok (.return_, 1) := by decide +kernel
theorem dX2_release_0 : decode cX2_release 0 = .ok (.aload_n 0, 1) := by decide +kernel
theorem dX2_release_1 : decode cX2_release 1 = .ok (.iload_n 1, 1) := by decide +kernel
theorem dX2_release_2 : decode cX2_release 2 = .ok (.invokevirtual 40, 3) := by decide +kernel
theorem dX2_release_5 : decode cX2_release 5 = .ok (.ifCond .ne 4, 3) := by decide +kernel
theorem dX2_release_8 : decode cX2_release 8 = .ok (.return_, 1) := by decide +kernel
theorem dX2_release_9 : decode cX2_release 9 = .ok (.aload_n 0, 1) := by decide +kernel
theorem dX2_release_10 : decode cX2_release 10 = .ok (.iload_n 1, 1) := by decide +kernel
theorem dX2_release_11 : decode cX2_release 11 = .ok (.aload_n 0, 1) := by decide +kernel
theorem dX2_release_12 : decode cX2_release 12 = .ok (.getfield 22, 3) := by decide +kernel
theorem dX2_release_15 : decode cX2_release 15 = .ok (.iload_n 1, 1) := by decide +kernel
theorem dX2_release_16 : decode cX2_release 16 = .ok (.iaload, 1) := by decide +kernel
theorem dX2_release_17 : decode cX2_release 17 = .ok (.iconst (-1), 1) := by decide +kernel
theorem dX2_release_18 : decode cX2_release 18 = .ok (.invokevirtual 55, 3) := by decide +kernel
theorem dX2_release_21 : decode cX2_release 21 = .ok (.aload_n 0, 1) := by decide +kernel
theorem dX2_release_22 : decode cX2_release 22 = .ok (.getfield 22, 3) := by decide +kernel
theorem dX2_release_25 : decode cX2_release 25 = .ok (.iload_n 1, 1) := by decide +kernel
theorem dX2_release_26 : decode cX2_release 26 = .ok (.iconst 0, 1) := by decide +kernel
theorem dX2_release_27 : decode cX2_release 27 = .ok (.iastore, 1) := by decide +kernel
theorem dX2_release_28 : decode cX2_release 28 = .ok (.aload_n 0, 1) := by decide +kernel
theorem dX2_release_29 : decode cX2_release 29 = .ok (.getfield 15, 3) := by decide +kernel
theorem dX2_release_32 : decode cX2_release 32 = .ok (.iload_n 1, 1) := by decide +kernel
theorem dX2_release_33 : decode cX2_release 33 = .ok (.aload_n 0, 1) := by decide +kernel
theorem dX2_release_34 : decode cX2_release 34 = .ok (.getfield 15, 3) := by decide +kernel
theorem dX2_release_37 : decode cX2_release 37 = .ok (.iload_n 1, 1) := by decide +kernel
theorem dX2_release_38 : decode cX2_release 38 = .ok (.iaload, 1) := by decide +kernel
theorem dX2_release_39 : decode cX2_release 39 = .ok (.iconst 1, 1) := by decide +kernel
theorem dX2_release_40 : decode cX2_release 40 = .ok (.iadd, 1) := by decide +kernel
theorem dX2_release_41 : decode cX2_release 41 = .ok (.sipush 1000, 3) := by decide +kernel
theorem dX2_release_44 : decode cX2_release 44 = .ok (.irem, 1) := by decide +kernel
theorem dX2_release_45 : decode cX2_release 45 = .ok (.iastore, 1) := by decide +kernel
theorem dX2_release_46 : decode cX2_release 46 = .ok (.return_, 1) := by decide +kernel
theorem dX2_carry_0 : decode cX2_carry 0 = .ok (.aload_n 0, 1) := by decide +kernel
theorem dX2_carry_1 : decode cX2_carry 1 = .ok (.iload_n 1, 1) := by decide +kernel
theorem dX2_carry_2 : decode cX2_carry 2 = .ok (.invokevirtual 59, 3) := by decide +kernel
theorem dX2_carry_5 : decode cX2_carry 5 = .ok (.istore_n 3, 1) := by decide +kernel
theorem dX2_carry_6 : decode cX2_carry 6 = .ok (.aload_n 0, 1) := by decide +kernel
theorem dX2_carry_7 : decode cX2_carry 7 = .ok (.iload_n 1, 1) := by decide +kernel
theorem dX2_carry_8 : decode cX2_carry 8 = .ok (.invokevirtual 48, 3) := by decide +kernel
theorem dX2_carry_11 : decode cX2_carry 11 = .ok (.istore 4, 2) := by decide +kernel
theorem dX2_carry_13 : decode cX2_carry 13 = .ok (.aload_n 0, 1) := by decide +kernel
theorem dX2_carry_14 : decode cX2_carry 14 = .ok (.iload_n 1, 1) := by decide +kernel
theorem dX2_carry_15 : decode cX2_carry 15 = .ok (.invokevirtual 62, 3) := by decide +kernel
theorem dX2_carry_18 : decode cX2_carry 18 = .ok (.istore 5, 2) := by decide +kernel
theorem dX2_carry_20 : decode cX2_carry 20 = .ok (.aload_n 0, 1) := by decide +kernel
theorem dX2_carry_21 : decode cX2_carry 21 = .ok (.iload_n 1, 1) := by decide +kernel
theorem dX2_carry_22 : decode cX2_carry 22 = .ok (.invokevirtual 65, 3) := by decide +kernel
theorem dX2_carry_25 : decode cX2_carry 25 = .ok (.istore 6, 2) := by decide +kernel
theorem dX2_carry_27 : decode cX2_carry 27 = .ok (.aload_n 0, 1) := by decide +kernel
theorem dX2_carry_28 : decode cX2_carry 28 = .ok (.iload_n 1, 1) := by decide +kernel
theorem dX2_carry_29 : decode cX2_carry 29 = .ok (.invokevirtual 68, 3) := by decide +kernel
theorem dX2_carry_32 : decode cX2_carry 32 = .ok (.aload_n 0, 1) := by decide +kernel
theorem dX2_carry_33 : decode cX2_carry 33 = .ok (.iload_n 2, 1) := by decide +kernel
theorem dX2_carry_34 : decode cX2_carry 34 = .ok (.iload_n 3, 1) := by decide +kernel
theorem dX2_carry_35 : decode cX2_carry 35 = .ok (.iload 4, 2) := by decide +kernel
theorem dX2_carry_37 : decode cX2_carry 37 = .ok (.iload 5, 2) := by decide +kernel
theorem dX2_carry_39 : decode cX2_carry 39 = .ok (.invokevirtual 71, 3) := by decide +kernel
theorem dX2_carry_42 : decode cX2_carry 42 = .ok (.aload_n 0, 1) := by decide +kernel
theorem dX2_carry_43 : decode cX2_carry 43 = .ok (.iload_n 2, 1) := by decide +kernel
theorem dX2_carry_44 : decode cX2_carry 44 = .ok (.iload 6, 2) := by decide +kernel
theorem dX2_carry_46 : decode cX2_carry 46 = .ok (.invokevirtual 75, 3) := by decide +kernel
theorem dX2_carry_49 : decode cX2_carry 49 = .ok (.return_, 1) := by decide +kernel
theorem dX2_setValue_0 : decode cX2_setValue 0 = .ok (.aload_n 0, 1) := by decide +kernel
theorem dX2_setValue_1 : decode cX2_setValue 1 = .ok (.iload_n 1, 1) := by decide +kernel
theorem dX2_setValue_2 : decode cX2_setValue 2 = .ok (.invokevirtual 40, 3) := by decide +kernel
theorem dX2_setValue_5 : decode cX2_setValue 5 = .ok (.ifCond .eq 10, 3) := by decide +kernel
theorem dX2_setValue_8 : decode cX2_setValue 8 = .ok (.aload_n 0, 1) := by decide +kernel
theorem dX2_setValue_9 : decode cX2_setValue 9 = .ok (.getfield 25, 3) := by decide +kernel
theorem dX2_setValue_12 : decode cX2_setValue 12 = .ok (.iload_n 1, 1) := by decide +kernel
theorem dX2_setValue_13 : decode cX2_setValue 13 = .ok (.iload_n 2, 1) := by decide +kernel
theorem dX2_setValue_14 : decode cX2_setValue 14 = .ok (.iastore, 1) := by decide +kernel
theorem dX2_setValue_15 : decode cX2_setValue 15 = .ok (.return_, 1) := by decide +kernel
theorem dX2_setTimesFired_0 : decode cX2_setTimesFired 0 = .ok (.aload_n 0, 1) := by decide +kernel
theorem dX2_setTimesFired_1 : decode cX2_setTimesFired 1 = .ok (.iload_n 1, 1) := by decide +kernel
theorem dX2_setTimesFired_2 : decode cX2_setTimesFired 2 = .ok (.invokevirtual 40, 3) := by decide +kernel
theorem dX2_setTimesFired_5 : decode cX2_setTimesFired 5 = .ok (.ifCond .eq 10, 3) := by decide +kernel
theorem dX2_setTimesFired_8 : decode cX2_setTimesFired 8 = .ok (.aload_n 0, 1) := by decide +kernel
theorem dX2_setTimesFired_9 : decode cX2_setTimesFired 9 = .ok (.getfield 31, 3) := by decide +kernel
theorem dX2_setTimesFired_12 : decode cX2_setTimesFired 12 = .ok (.iload_n 1, 1) := by decide +kernel
theorem dX2_setTimesFired_13 : decode cX2_setTimesFired 13 = .ok (.iload_n 2, 1) := by decide +kernel
theorem dX2_setTimesFired_14 : decode cX2_setTimesFired 14 = .ok (.iastore, 1) := by decide +kernel
theorem dX2_setTimesFired_15 : decode cX2_setTimesFired 15 = .ok (.return_, 1) := by decide +kernel
theorem dX2_freeCells_0 : decode cX2_freeCells 0 = .ok (.aload_n 0, 1) := by decide +kernel
theorem dX2_freeCells_1 : decode cX2_freeCells 1 = .ok (.iconst 1, 1) := by decide +kernel
theorem dX2_freeCells_2 : decode cX2_freeCells 2 = .ok (.invokevirtual 79, 3) := by decide +kernel
theorem dX2_freeCells_5 : decode cX2_freeCells 5 = .ok (.ireturn, 1) := by decide +kernel
theorem dX2_sumOfValues_0 : decode cX2_sumOfValues 0 = .ok (.iconst 0, 1) := by decide +kernel
theorem dX2_sumOfValues_1 : decode cX2_sumOfValues 1 = .ok (.istore_n 1, 1) := by decide +kernel
theorem dX2_sumOfValues_2 : decode cX2_sumOfValues 2 = .ok (.iconst 0, 1) := by decide +kernel
theorem dX2_sumOfValues_3 : decode cX2_sumOfValues 3 = .ok (.istore_n 2, 1) := by decide +kernel
theorem dX2_sumOfValues_4 : decode cX2_sumOfValues 4 = .ok (.iload_n 2, 1) := by decide +kernel
theorem dX2_sumOfValues_5 : decode cX2_sumOfValues 5 = .ok (.aload_n 0, 1) := by decide +kernel
theorem dX2_sumOfValues_6 : decode cX2_sumOfValues 6 = .ok (.getfield 9, 3) := by decide +kernel
theorem dX2_sumOfValues_9 : decode cX2_sumOfValues 9 = .ok (.if_icmp .ge 25, 3) := by decide +kernel
theorem dX2_sumOfValues_12 : decode cX2_sumOfValues 12 = .ok (.aload_n 0, 1) := by decide +kernel
theorem dX2_sumOfValues_13 : decode cX2_sumOfValues 13 = .ok (.iload_n 2, 1) := by decide +kernel
theorem dX2_sumOfValues_14 : decode cX2_sumOfValues 14 = .ok (.invokevirtual 48, 3) := by decide +kernel
theorem dX2_sumOfValues_17 : decode cX2_sumOfValues 17 = .ok (.ifCond .le 11, 3) := by decide +kernel
theorem dX2_sumOfValues_20 : decode cX2_sumOfValues 20 = .ok (.iload_n 1, 1) := by decide +kernel
theorem dX2_sumOfValues_21 : decode cX2_sumOfValues 21 = .ok (.aload_n 0, 1) := by decide +kernel
theorem dX2_sumOfValues_22 : decode cX2_sumOfValues 22 = .ok (.iload_n 2, 1) := by decide +kernel
theorem dX2_sumOfValues_23 : decode cX2_sumOfValues 23 = .ok (.invokevirtual 59, 3) := by decide +kernel
theorem dX2_sumOfValues_26 : decode cX2_sumOfValues 26 = .ok (.iadd, 1) := by decide +kernel
theorem dX2_sumOfValues_27 : decode cX2_sumOfValues 27 = .ok (.istore_n 1, 1) := by decide +kernel
theorem dX2_sumOfValues_28 : decode cX2_sumOfValues 28 = .ok (.iinc 2 1, 3) := by decide +kernel
theorem dX2_sumOfValues_31 : decode cX2_sumOfValues 31 = .ok (.goto (-27), 3) := by decide +kernel
theorem dX2_sumOfValues_34 : decode cX2_sumOfValues 34 = .ok (.iload_n 1, 1) := by decide +kernel
theorem dX2_sumOfValues_35 : decode cX2_sumOfValues 35 = .ok (.ireturn, 1) := by decide +kernel
theorem dX2_roomFor_0 : decode cX2_roomFor 0 = .ok (.iconst 0, 1) := by decide +kernel
theorem dX2_roomFor_1 : decode cX2_roomFor 1 = .ok (.istore_n 2, 1) := by decide +kernel
theorem dX2_roomFor_2 : decode cX2_roomFor 2 = .ok (.iconst 0, 1) := by decide +kernel
theorem dX2_roomFor_3 : decode cX2_roomFor 3 = .ok (.istore_n 3, 1) := by decide +kernel
theorem dX2_roomFor_4 : decode cX2_roomFor 4 = .ok (.iconst 0, 1) := by decide +kernel
theorem dX2_roomFor_5 : decode cX2_roomFor 5 = .ok (.istore 4, 2) := by decide +kernel
theorem dX2_roomFor_7 : decode cX2_roomFor 7 = .ok (.iload 4, 2) := by decide +kernel
theorem dX2_roomFor_9 : decode cX2_roomFor 9 = .ok (.aload_n 0, 1) := by decide +kernel
theorem dX2_roomFor_10 : decode cX2_roomFor 10 = .ok (.getfield 9, 3) := by decide +kernel
theorem dX2_roomFor_13 : decode cX2_roomFor 13 = .ok (.if_icmp .ge 37, 3) := by decide +kernel
theorem dX2_roomFor_16 : decode cX2_roomFor 16 = .ok (.aload_n 0, 1) := by decide +kernel
theorem dX2_roomFor_17 : decode cX2_roomFor 17 = .ok (.iload 4, 2) := by decide +kernel
theorem dX2_roomFor_19 : decode cX2_roomFor 19 = .ok (.invokevirtual 82, 3) := by decide +kernel
theorem dX2_roomFor_22 : decode cX2_roomFor 22 = .ok (.iconst (-1), 1) := by decide +kernel
theorem dX2_roomFor_23 : decode cX2_roomFor 23 = .ok (.if_icmp .ne 9, 3) := by decide +kernel
theorem dX2_roomFor_26 : decode cX2_roomFor 26 = .ok (.iload_n 3, 1) := by decide +kernel
theorem dX2_roomFor_27 : decode cX2_roomFor 27 = .ok (.iconst 1, 1) := by decide +kernel
theorem dX2_roomFor_28 : decode cX2_roomFor 28 = .ok (.iadd, 1) := by decide +kernel
theorem dX2_roomFor_29 : decode cX2_roomFor 29 = .ok (.goto 4, 3) := by decide +kernel
theorem dX2_roomFor_32 : decode cX2_roomFor 32 = .ok (.iconst 0, 1) := by decide +kernel
theorem dX2_roomFor_33 : decode cX2_roomFor 33 = .ok (.istore_n 3, 1) := by decide +kernel
theorem dX2_roomFor_34 : decode cX2_roomFor 34 = .ok (.iload_n 3, 1) := by decide +kernel
theorem dX2_roomFor_35 : decode cX2_roomFor 35 = .ok (.iload_n 1, 1) := by decide +kernel
theorem dX2_roomFor_36 : decode cX2_roomFor 36 = .ok (.if_icmp .ne 8, 3) := by decide +kernel
theorem dX2_roomFor_39 : decode cX2_roomFor 39 = .ok (.iinc 2 1, 3) := by decide +kernel
theorem dX2_roomFor_42 : decode cX2_roomFor 42 = .ok (.iconst 0, 1) := by decide +kernel
theorem dX2_roomFor_43 : decode cX2_roomFor 43 = .ok (.istore_n 3, 1) := by decide +kernel
theorem dX2_roomFor_44 : decode cX2_roomFor 44 = .ok (.iinc 4 1, 3) := by decide +kernel
theorem dX2_roomFor_47 : decode cX2_roomFor 47 = .ok (.goto (-40), 3) := by decide +kernel
theorem dX2_roomFor_50 : decode cX2_roomFor 50 = .ok (.iload_n 2, 1) := by decide +kernel
theorem dX2_roomFor_51 : decode cX2_roomFor 51 = .ok (.ireturn, 1) := by decide +kernel
theorem dX2_longestGap_0 : decode cX2_longestGap 0 = .ok (.iconst 0, 1) := by decide +kernel
theorem dX2_longestGap_1 : decode cX2_longestGap 1 = .ok (.istore_n 1, 1) := by decide +kernel
theorem dX2_longestGap_2 : decode cX2_longestGap 2 = .ok (.iconst 0, 1) := by decide +kernel
theorem dX2_longestGap_3 : decode cX2_longestGap 3 = .ok (.istore_n 2, 1) := by decide +kernel
theorem dX2_longestGap_4 : decode cX2_longestGap 4 = .ok (.iconst 0, 1) := by decide +kernel
theorem dX2_longestGap_5 : decode cX2_longestGap 5 = .ok (.istore_n 3, 1) := by decide +kernel
theorem dX2_longestGap_6 : decode cX2_longestGap 6 = .ok (.iload_n 3, 1) := by decide +kernel
theorem dX2_longestGap_7 : decode cX2_longestGap 7 = .ok (.aload_n 0, 1) := by decide +kernel
theorem dX2_longestGap_8 : decode cX2_longestGap 8 = .ok (.getfield 9, 3) := by decide +kernel
theorem dX2_longestGap_11 : decode cX2_longestGap 11 = .ok (.if_icmp .ge 32, 3) := by decide +kernel
theorem dX2_longestGap_14 : decode cX2_longestGap 14 = .ok (.aload_n 0, 1) := by decide +kernel
theorem dX2_longestGap_15 : decode cX2_longestGap 15 = .ok (.iload_n 3, 1) := by decide +kernel
theorem dX2_longestGap_16 : decode cX2_longestGap 16 = .ok (.invokevirtual 82, 3) := by decide +kernel
theorem dX2_longestGap_19 : decode cX2_longestGap 19 = .ok (.iconst (-1), 1) := by decide +kernel
theorem dX2_longestGap_20 : decode cX2_longestGap 20 = .ok (.if_icmp .ne 9, 3) := by decide +kernel
theorem dX2_longestGap_23 : decode cX2_longestGap 23 = .ok (.iload_n 2, 1) := by decide +kernel
theorem dX2_longestGap_24 : decode cX2_longestGap 24 = .ok (.iconst 1, 1) := by decide +kernel
theorem dX2_longestGap_25 : decode cX2_longestGap 25 = .ok (.iadd, 1) := by decide +kernel
theorem dX2_longestGap_26 : decode cX2_longestGap 26 = .ok (.goto 4, 3) := by decide +kernel
theorem dX2_longestGap_29 : decode cX2_longestGap 29 = .ok (.iconst 0, 1) := by decide +kernel
theorem dX2_longestGap_30 : decode cX2_longestGap 30 = .ok (.istore_n 2, 1) := by decide +kernel
theorem dX2_longestGap_31 : decode cX2_longestGap 31 = .ok (.iload_n 1, 1) := by decide +kernel
theorem dX2_longestGap_32 : decode cX2_longestGap 32 = .ok (.iload_n 2, 1) := by decide +kernel
theorem dX2_longestGap_33 : decode cX2_longestGap 33 = .ok (.invokestatic 85, 3) := by decide +kernel
theorem dX2_longestGap_36 : decode cX2_longestGap 36 = .ok (.istore_n 1, 1) := by decide +kernel
theorem dX2_longestGap_37 : decode cX2_longestGap 37 = .ok (.iinc 3 1, 3) := by decide +kernel
theorem dX2_longestGap_40 : decode cX2_longestGap 40 = .ok (.goto (-34), 3) := by decide +kernel
theorem dX2_longestGap_43 : decode cX2_longestGap 43 = .ok (.iload_n 1, 1) := by decide +kernel
theorem dX2_longestGap_44 : decode cX2_longestGap 44 = .ok (.ireturn, 1) := by decide +kernel
theorem dX2_beginOfLongestGap_0 : decode cX2_beginOfLongestGap 0 = .ok (.iconst 0, 1) := by decide +kernel
theorem dX2_beginOfLongestGap_1 : decode cX2_beginOfLongestGap 1 = .ok (.istore_n 1, 1) := by decide +kernel
theorem dX2_beginOfLongestGap_2 : decode cX2_beginOfLongestGap 2 = .ok (.iconst (-1), 1) := by decide +kernel
theorem dX2_beginOfLongestGap_3 : decode cX2_beginOfLongestGap 3 = .ok (.istore_n 2, 1) := by decide +kernel
theorem dX2_beginOfLongestGap_4 : decode cX2_beginOfLongestGap 4 = .ok (.iconst 0, 1) := by decide +kernel
theorem dX2_beginOfLongestGap_5 : decode cX2_beginOfLongestGap 5 = .ok (.istore_n 3, 1) := by decide +kernel
theorem dX2_beginOfLongestGap_6 : decode cX2_beginOfLongestGap 6 = .ok (.iconst 0, 1) := by decide +kernel
theorem dX2_beginOfLongestGap_7 : decode cX2_beginOfLongestGap 7 = .ok (.istore 4, 2) := by decide +kernel
theorem dX2_beginOfLongestGap_9 : decode cX2_beginOfLongestGap 9 = .ok (.iload 4, 2) := by decide +kernel
theorem dX2_beginOfLongestGap_11 : decode cX2_beginOfLongestGap 11 = .ok (.aload_n 0, 1) := by decide +kernel
theorem dX2_beginOfLongestGap_12 : decode cX2_beginOfLongestGap 12 = .ok (.getfield 9, 3) := by decide +kernel
theorem dX2_beginOfLongestGap_15 : decode cX2_beginOfLongestGap 15 = .ok (.if_icmp .ge 41, 3) := by decide +kernel
theorem dX2_beginOfLongestGap_18 : decode cX2_beginOfLongestGap 18 = .ok (.aload_n 0, 1) := by decide +kernel
theorem dX2_beginOfLongestGap_19 : decode cX2_beginOfLongestGap 19 = .ok (.iload 4, 2) := by decide +kernel
theorem dX2_beginOfLongestGap_21 : decode cX2_beginOfLongestGap 21 = .ok (.invokevirtual 82, 3) := by decide +kernel
theorem dX2_beginOfLongestGap_24 : decode cX2_beginOfLongestGap 24 = .ok (.iconst (-1), 1) := by decide +kernel
theorem dX2_beginOfLongestGap_25 : decode cX2_beginOfLongestGap 25 = .ok (.if_icmp .ne 9, 3) := by decide +kernel
theorem dX2_beginOfLongestGap_28 : decode cX2_beginOfLongestGap 28 = .ok (.iload_n 3, 1) := by decide +kernel
theorem dX2_beginOfLongestGap_29 : decode cX2_beginOfLongestGap 29 = .ok (.iconst 1, 1) := by decide +kernel
theorem dX2_beginOfLongestGap_30 : decode cX2_beginOfLongestGap 30 = .ok (.iadd, 1) := by decide +kernel
theorem dX2_beginOfLongestGap_31 : decode cX2_beginOfLongestGap 31 = .ok (.goto 4, 3) := by decide +kernel
theorem dX2_beginOfLongestGap_34 : decode cX2_beginOfLongestGap 34 = .ok (.iconst 0, 1) := by decide +kernel
theorem dX2_beginOfLongestGap_35 : decode cX2_beginOfLongestGap 35 = .ok (.istore_n 3, 1) := by decide +kernel
theorem dX2_beginOfLongestGap_36 : decode cX2_beginOfLongestGap 36 = .ok (.iload_n 3, 1) := by decide +kernel
theorem dX2_beginOfLongestGap_37 : decode cX2_beginOfLongestGap 37 = .ok (.iload_n 1, 1) := by decide +kernel
theorem dX2_beginOfLongestGap_38 : decode cX2_beginOfLongestGap 38 = .ok (.if_icmp .le 12, 3) := by decide +kernel
theorem dX2_beginOfLongestGap_41 : decode cX2_beginOfLongestGap 41 = .ok (.iload_n 3, 1) := by decide +kernel
theorem dX2_beginOfLongestGap_42 : decode cX2_beginOfLongestGap 42 = .ok (.istore_n 1, 1) := by decide +kernel
theorem dX2_beginOfLongestGap_43 : decode cX2_beginOfLongestGap 43 = .ok (.iload 4, 2) := by decide +kernel
theorem dX2_beginOfLongestGap_45 : decode cX2_beginOfLongestGap 45 = .ok (.iload_n 3, 1) := by decide +kernel
theorem dX2_beginOfLongestGap_46 : decode cX2_beginOfLongestGap 46 = .ok (.isub, 1) := by decide +kernel
theorem dX2_beginOfLongestGap_47 : decode cX2_beginOfLongestGap 47 = .ok (.iconst 1, 1) := by decide +kernel
theorem dX2_beginOfLongestGap_48 : decode cX2_beginOfLongestGap 48 = .ok (.iadd, 1) := by decide +kernel
theorem dX2_beginOfLongestGap_49 : decode cX2_beginOfLongestGap 49 = .ok (.istore_n 2, 1) := by decide +kernel
theorem dX2_beginOfLongestGap_50 : decode cX2_beginOfLongestGap 50 = .ok (.iinc 4 1, 3) := by decide +kernel
theorem dX2_beginOfLongestGap_53 : decode cX2_beginOfLongestGap 53 = .ok (.goto (-44), 3) := by decide +kernel
theorem dX2_beginOfLongestGap_56 : decode cX2_beginOfLongestGap 56 = .ok (.iload_n 2, 1) := by decide +kernel
theorem dX2_beginOfLongestGap_57 : decode cX2_beginOfLongestGap 57 = .ok (.ireturn, 1) := by decide +kernel
theorem dX3_init_0 : decode cX3_init 0 = .ok (.aload_n 0, 1) := by decide +kernel
theorem dX3_init_1 : decode cX3_init 1 = .ok (.invokespecial 3, 3) := by decide +kernel
theorem dX3_init_4 : decode cX3_init 4 = .ok (.aload_n 0, 1) := by decide +kernel
theorem dX3_init_5 : decode cX3_init 5 = .ok (.new 9, 3) := by decide +kernel
theorem dX3_init_8 : decode cX3_init 8 = .ok (.dup, 1) := by decide +kernel
theorem dX3_init_9 : decode cX3_init 9 = .ok (.invokespecial 11, 3) := by decide +kernel
theorem dX3_init_12 : decode cX3_init 12 = .ok (.putfield 12, 3) := by decide +kernel
theorem dX3_init_15 : decode cX3_init 15 = .ok (.aload_n 0, 1) := by decide +kernel
theorem dX3_init_16 : decode cX3_init 16 = .ok (.new 18, 3) := by decide +kernel
theorem dX3_init_19 : decode cX3_init 19 = .ok (.dup, 1) := by decide +kernel
theorem dX3_init_20 : decode cX3_init 20 = .ok (.invokespecial 20, 3) := by decide +kernel
theorem dX3_init_23 : decode cX3_init 23 = .ok (.putfield 21, 3) := by decide +kernel
theorem dX3_init_26 : decode cX3_init 26 = .ok (.aload_n 0, 1) := by decide +kernel
theorem dX3_init_27 : decode cX3_init 27 = .ok (.bipush 64, 2) := by decide +kernel
theorem dX3_init_29 : decode cX3_init 29 = .ok (.newarray .int, 2) := by decide +kernel
theorem dX3_init_31 : decode cX3_init 31 = .ok (.putfield 25, 3) := by decide +kernel
theorem dX3_init_34 : decode cX3_init 34 = .ok (.return_, 1) := by decide +kernel
theorem dX3_copyFrom_0 : decode cX3_copyFrom 0 = .ok (.aload_n 0, 1) := by decide +kernel
theorem dX3_copyFrom_1 : decode cX3_copyFrom 1 = .ok (.getfield 12, 3) := by decide +kernel
theorem dX3_copyFrom_4 : decode cX3_copyFrom 4 = .ok (.aload_n 1, 1) := by decide +kernel
theorem dX3_copyFrom_5 : decode cX3_copyFrom 5 = .ok (.getfield 12, 3) := by decide +kernel
theorem dX3_copyFrom_8 : decode cX3_copyFrom 8 = .ok (.invokevirtual 29, 3) := by decide +kernel
theorem dX3_copyFrom_11 : decode cX3_copyFrom 11 = .ok (.aload_n 0, 1) := by decide +kernel
theorem dX3_copyFrom_12 : decode cX3_copyFrom 12 = .ok (.getfield 21, 3) := by decide +kernel
theorem dX3_copyFrom_15 : decode cX3_copyFrom 15 = .ok (.aload_n 1, 1) := by decide +kernel
theorem dX3_copyFrom_16 : decode cX3_copyFrom 16 = .ok (.getfield 21, 3) := by decide +kernel
theorem dX3_copyFrom_19 : decode cX3_copyFrom 19 = .ok (.invokevirtual 33, 3) := by decide +kernel
theorem dX3_copyFrom_22 : decode cX3_copyFrom 22 = .ok (.aload_n 0, 1) := by decide +kernel
theorem dX3_copyFrom_23 : decode cX3_copyFrom 23 = .ok (.aload_n 1, 1) := by decide +kernel
theorem dX3_copyFrom_24 : decode cX3_copyFrom 24 = .ok (.getfield 36, 3) := by decide +kernel
theorem dX3_copyFrom_27 : decode cX3_copyFrom 27 = .ok (.putfield 36, 3) := by decide +kernel
theorem dX3_copyFrom_30 : decode cX3_copyFrom 30 = .ok (.aload_n 0, 1) := by decide +kernel
theorem dX3_copyFrom_31 : decode cX3_copyFrom 31 = .ok (.aload_n 1, 1) := by decide +kernel
theorem dX3_copyFrom_32 : decode cX3_copyFrom 32 = .ok (.getfield 40, 3) := by decide +kernel
theorem dX3_copyFrom_35 : decode cX3_copyFrom 35 = .ok (.putfield 40, 3) := by decide +kernel
theorem dX3_copyFrom_38 : decode cX3_copyFrom 38 = .ok (.aload_n 0, 1) := by decide +kernel
theorem dX3_copyFrom_39 : decode cX3_copyFrom 39 = .ok (.aload_n 1, 1) := by decide +kernel
theorem dX3_copyFrom_40 : decode cX3_copyFrom 40 = .ok (.getfield 43, 3) := by decide +kernel
theorem dX3_copyFrom_43 : decode cX3_copyFrom 43 = .ok (.putfield 43, 3) := by decide +kernel
theorem dX3_copyFrom_46 : decode cX3_copyFrom 46 = .ok (.aload_n 0, 1) := by decide +kernel
theorem dX3_copyFrom_47 : decode cX3_copyFrom 47 = .ok (.aload_n 1, 1) := by decide +kernel
theorem dX3_copyFrom_48 : decode cX3_copyFrom 48 = .ok (.getfield 46, 3) := by decide +kernel
theorem dX3_copyFrom_51 : decode cX3_copyFrom 51 = .ok (.putfield 46, 3) := by decide +kernel
theorem dX3_copyFrom_54 : decode cX3_copyFrom 54 = .ok (.return_, 1) := by decide +kernel
theorem dX3_addLast_0 : decode cX3_addLast 0 = .ok (.aload_n 0, 1) := by decide +kernel
theorem dX3_addLast_1 : decode cX3_addLast 1 = .ok (.aload_n 0, 1) := by decide +kernel
theorem dX3_addLast_2 : decode cX3_addLast 2 = .ok (.getfield 21, 3) := by decide +kernel
theorem dX3_addLast_5 : decode cX3_addLast 5 = .ok (.invokevirtual 49, 3) := by decide +kernel
theorem dX3_addLast_8 : decode cX3_addLast 8 = .ok (.iload_n 1, 1) := by decide +kernel
theorem dX3_addLast_9 : decode cX3_addLast 9 = .ok (.iload_n 2, 1) := by decide +kernel
theorem dX3_addLast_10 : decode cX3_addLast 10 = .ok (.iload_n 3, 1) := by decide +kernel
theorem dX3_addLast_11 : decode cX3_addLast 11 = .ok (.invokevirtual 53, 3) := by decide +kernel
theorem dX3_addLast_14 : decode cX3_addLast 14 = .ok (.ireturn, 1) := by decide +kernel
theorem dX3_addAt_0 : decode cX3_addAt 0 = .ok (.aload_n 0, 1) := by decide +kernel
theorem dX3_addAt_1 : decode cX3_addAt 1 = .ok (.getfield 12, 3) := by decide +kernel
theorem dX3_addAt_4 : decode cX3_addAt 4 = .ok (.iload_n 3, 1) := by decide +kernel
theorem dX3_addAt_5 : decode cX3_addAt 5 = .ok (.invokevirtual 57, 3) := by decide +kernel
theorem dX3_addAt_8 : decode cX3_addAt 8 = .ok (.istore 5, 2) := by decide +kernel
theorem dX3_addAt_10 : decode cX3_addAt 10 = .ok (.iload 5, 2) := by decide +kernel
theorem dX3_addAt_12 : decode cX3_addAt 12 = .ok (.iconst (-1), 1) := by decide +kernel
theorem dX3_addAt_13 : decode cX3_addAt 13 = .ok (.if_icmp .eq 36, 3) := by decide +kernel
theorem dX3_addAt_16 : decode cX3_addAt 16 = .ok (.aload_n 0, 1) := by decide +kernel
theorem dX3_addAt_17 : decode cX3_addAt 17 = .ok (.getfield 12, 3) := by decide +kernel
theorem dX3_addAt_20 : decode cX3_addAt 20 = .ok (.iload 5, 2) := by decide +kernel
theorem dX3_addAt_22 : decode cX3_addAt 22 = .ok (.iload_n 2, 1) := by decide +kernel
theorem dX3_addAt_23 : decode cX3_addAt 23 = .ok (.iload_n 3, 1) := by decide +kernel
theorem dX3_addAt_24 : decode cX3_addAt 24 = .ok (.iload 4, 2) := by decide +kernel
theorem dX3_addAt_26 : decode cX3_addAt 26 = .ok (.invokevirtual 61, 3) := by decide +kernel
theorem dX3_addAt_29 : decode cX3_addAt 29 = .ok (.aload_n 0, 1) := by decide +kernel
theorem dX3_addAt_30 : decode cX3_addAt 30 = .ok (.getfield 21, 3) := by decide +kernel
theorem dX3_addAt_33 : decode cX3_addAt 33 = .ok (.iload_n 1, 1) := by decide +kernel
theorem dX3_addAt_34 : decode cX3_addAt 34 = .ok (.iload 5, 2) := by decide +kernel
theorem dX3_addAt_36 : decode cX3_addAt 36 = .ok (.invokevirtual 65, 3) := by decide +kernel
theorem dX3_addAt_39 : decode cX3_addAt 39 = .ok (.aload_n 0, 1) := by decide +kernel
theorem dX3_addAt_40 : decode cX3_addAt 40 = .ok (.dup, 1) := by decide +kernel
theorem dX3_addAt_41 : decode cX3_addAt 41 = .ok (.getfield 40, 3) := by decide +kernel
theorem dX3_addAt_44 : decode cX3_addAt 44 = .ok (.iconst 1, 1) := by decide +kernel
theorem dX3_addAt_45 : decode cX3_addAt 45 = .ok (.iadd, 1) := by decide +kernel
theorem dX3_addAt_46 : decode cX3_addAt 46 = .ok (.putfield 40, 3) := by decide +kernel
theorem dX3_addAt_49 : decode cX3_addAt 49 = .ok (.iload 5, 2) := by decide +kernel
theorem dX3_addAt_51 : decode cX3_addAt 51 = .ok (.ireturn, 1) := by decide +kernel
theorem dX3_drop_0 : decode cX3_drop 0 = .ok (.aload_n 0, 1) := by decide +kernel
theorem dX3_drop_1 : decode cX3_drop 1 = .ok (.getfield 12, 3) := by decide +kernel
theorem dX3_drop_4 : decode cX3_drop 4 = .ok (.iload_n 1, 1) := by decide +kernel
theorem dX3_drop_5 : decode cX3_drop 5 = .ok (.invokevirtual 69, 3) := by decide +kernel
theorem dX3_drop_8 : decode cX3_drop 8 = .ok (.aload_n 0, 1) := by decide +kernel
theorem dX3_drop_9 : decode cX3_drop 9 = .ok (.getfield 21, 3) := by decide +kernel
theorem dX3_drop_12 : decode cX3_drop 12 = .ok (.iload_n 1, 1) := by decide +kernel
theorem dX3_drop_13 : decode cX3_drop 13 = .ok (.invokevirtual 73, 3) := by decide +kernel
theorem dX3_drop_16 : decode cX3_drop 16 = .ok (.aload_n 0, 1) := by decide +kernel
theorem dX3_drop_17 : decode cX3_drop 17 = .ok (.dup, 1) := by decide +kernel
theorem dX3_drop_18 : decode cX3_drop 18 = .ok (.getfield 43, 3) := by decide +kernel
theorem dX3_drop_21 : decode cX3_drop 21 = .ok (.iconst 1, 1) := by decide +kernel
theorem dX3_drop_22 : decode cX3_drop 22 = .ok (.iadd, 1) := by decide +kernel
theorem dX3_drop_23 : decode cX3_drop 23 = .ok (.putfield 43, 3) := by decide +kernel
theorem dX3_drop_26 : decode cX3_drop 26 = .ok (.return_, 1) := by decide +kernel
theorem dX3_fireThings_0 : decode cX3_fireThings 0 = .ok (.aload_n 0, 1) := by decide +kernel
theorem dX3_fireThings_1 : decode cX3_fireThings 1 = .ok (.getfield 21, 3) := by decide +kernel
theorem dX3_fireThings_4 : decode cX3_fireThings 4 = .ok (.aload_n 0, 1) := by decide +kernel
theorem dX3_fireThings_5 : decode cX3_fireThings 5 = .ok (.getfield 25, 3) := by decide +kernel
theorem dX3_fireThings_8 : decode cX3_fireThings 8 = .ok (.invokevirtual 76, 3) := by decide +kernel
theorem dX3_fireThings_11 : decode cX3_fireThings 11 = .ok (.istore_n 1, 1) := by decide +kernel
theorem dX3_fireThings_12 : decode cX3_fireThings 12 = .ok (.iconst 0, 1) := by decide +kernel
theorem dX3_fireThings_13 : decode cX3_fireThings 13 = .ok (.istore_n 2, 1) := by decide +kernel
theorem dX3_fireThings_14 : decode cX3_fireThings 14 = .ok (.iconst 0, 1) := by decide +kernel
theorem dX3_fireThings_15 : decode cX3_fireThings 15 = .ok (.istore_n 3, 1) := by decide +kernel
theorem dX3_fireThings_16 : decode cX3_fireThings 16 = .ok (.iload_n 3, 1) := by decide +kernel
theorem dX3_fireThings_17 : decode cX3_fireThings 17 = .ok (.iload_n 1, 1) := by decide +kernel
theorem dX3_fireThings_18 : decode cX3_fireThings 18 = .ok (.if_icmp .ge 22, 3) := by decide +kernel
theorem dX3_fireThings_21 : decode cX3_fireThings 21 = .ok (.iload_n 2, 1) := by decide +kernel
theorem dX3_fireThings_22 : decode cX3_fireThings 22 = .ok (.aload_n 0, 1) := by decide +kernel
theorem dX3_fireThings_23 : decode cX3_fireThings 23 = .ok (.aload_n 0, 1) := by decide +kernel
theorem dX3_fireThings_24 : decode cX3_fireThings 24 = .ok (.getfield 25, 3) := by decide +kernel
theorem dX3_fireThings_27 : decode cX3_fireThings 27 = .ok (.iload_n 3, 1) := by decide +kernel
theorem dX3_fireThings_28 : decode cX3_fireThings 28 = .ok (.iaload, 1) := by decide +kernel
theorem dX3_fireThings_29 : decode cX3_fireThings 29 = .ok (.invokevirtual 80, 3) := by decide +kernel
theorem dX3_fireThings_32 : decode cX3_fireThings 32 = .ok (.iadd, 1) := by decide +kernel
theorem dX3_fireThings_33 : decode cX3_fireThings 33 = .ok (.istore_n 2, 1) := by decide +kernel
theorem dX3_fireThings_34 : decode cX3_fireThings 34 = .ok (.iinc 3 1, 3) := by decide +kernel
theorem dX3_fireThings_37 : decode cX3_fireThings 37 = .ok (.goto (-21), 3) := by decide +kernel
theorem dX3_fireThings_40 : decode cX3_fireThings 40 = .ok (.aload_n 0, 1) := by decide +kernel
theorem dX3_fireThings_41 : decode cX3_fireThings 41 = .ok (.dup, 1) := by decide +kernel
theorem dX3_fireThings_42 : decode cX3_fireThings 42 = .ok (.getfield 36, 3) := by decide +kernel
theorem dX3_fireThings_45 : decode cX3_fireThings 45 = .ok (.iconst 1, 1) := by decide +kernel
theorem dX3_fireThings_46 : decode cX3_fireThings 46 = .ok (.iadd, 1) := by decide +kernel
theorem dX3_fireThings_47 : decode cX3_fireThings 47 = .ok (.putfield 36, 3) := by decide +kernel
theorem dX3_fireThings_50 : decode cX3_fireThings 50 = .ok (.iload_n 2, 1) := by decide +kernel
theorem dX3_fireThings_51 : decode cX3_fireThings 51 = .ok (.ireturn, 1) := by decide +kernel
theorem dX3_fireThing_0 : decode cX3_fireThing 0 = .ok (.aload_n 0, 1) := by decide +kernel
theorem dX3_fireThing_1 : decode cX3_fireThing 1 = .ok (.getfield 12, 3) := by decide +kernel
theorem dX3_fireThing_4 : decode cX3_fireThing 4 = .ok (.iload_n 1, 1) := by decide +kernel
theorem dX3_fireThing_5 : decode cX3_fireThing 5 = .ok (.invokevirtual 83, 3) := by decide +kernel
theorem dX3_fireThing_8 : decode cX3_fireThing 8 = .ok (.istore_n 2, 1) := by decide +kernel
theorem dX3_fireThing_9 : decode cX3_fireThing 9 = .ok (.aload_n 0, 1) := by decide +kernel
theorem dX3_fireThing_10 : decode cX3_fireThing 10 = .ok (.getfield 12, 3) := by decide +kernel
theorem dX3_fireThing_13 : decode cX3_fireThing 13 = .ok (.iload_n 1, 1) := by decide +kernel
theorem dX3_fireThing_14 : decode cX3_fireThing 14 = .ok (.invokevirtual 86, 3) := by decide +kernel
theorem dX3_fireThing_17 : decode cX3_fireThing 17 = .ok (.istore_n 3, 1) := by decide +kernel
theorem dX3_fireThing_18 : decode cX3_fireThing 18 = .ok (.aload_n 0, 1) := by decide +kernel
theorem dX3_fireThing_19 : decode cX3_fireThing 19 = .ok (.getfield 12, 3) := by decide +kernel
theorem dX3_fireThing_22 : decode cX3_fireThing 22 = .ok (.iload_n 1, 1) := by decide +kernel
theorem dX3_fireThing_23 : decode cX3_fireThing 23 = .ok (.aload_n 0, 1) := by decide +kernel
theorem dX3_fireThing_24 : decode cX3_fireThing 24 = .ok (.getfield 12, 3) := by decide +kernel
theorem dX3_fireThing_27 : decode cX3_fireThing 27 = .ok (.iload_n 1, 1) := by decide +kernel
theorem dX3_fireThing_28 : decode cX3_fireThing 28 = .ok (.invokevirtual 89, 3) := by decide +kernel
theorem dX3_fireThing_31 : decode cX3_fireThing 31 = .ok (.iconst 1, 1) := by decide +kernel
theorem dX3_fireThing_32 : decode cX3_fireThing 32 = .ok (.iadd, 1) := by decide +kernel
theorem dX3_fireThing_33 : decode cX3_fireThing 33 = .ok (.invokevirtual 92, 3) := by decide +kernel
theorem dX3_fireThing_36 : decode cX3_fireThing 36 = .ok (.iload_n 3, 1) := by decide +kernel
theorem dX3_fireThing_37 : decode cX3_fireThing 37 = .ok (.iconst 1, 1) := by decide +kernel
theorem dX3_fireThing_38 : decode cX3_fireThing 38 = .ok (.if_icmp .ne 11, 3) := by decide +kernel
theorem dX3_fireThing_41 : decode cX3_fireThing 41 = .ok (.aload_n 0, 1) := by decide +kernel
theorem dX3_fireThing_42 : decode cX3_fireThing 42 = .ok (.iload_n 1, 1) := by decide +kernel
theorem dX3_fireThing_43 : decode cX3_fireThing 43 = .ok (.invokevirtual 95, 3) := by decide +kernel
theorem dX3_fireThing_46 : decode cX3_fireThing 46 = .ok (.goto 23, 3) := by decide +kernel
theorem dX3_fireThing_49 : decode cX3_fireThing 49 = .ok (.iload_n 3, 1) := by decide +kernel
theorem dX3_fireThing_50 : decode cX3_fireThing 50 = .ok (.iconst 2, 1) := by decide +kernel
theorem dX3_fireThing_51 : decode cX3_fireThing 51 = .ok (.if_icmp .ne 18, 3) := by decide +kernel
theorem dX3_fireThing_54 : decode cX3_fireThing 54 = .ok (.aload_n 0, 1) := by decide +kernel
theorem dX3_fireThing_55 : decode cX3_fireThing 55 = .ok (.iload_n 2, 1) := by decide +kernel
theorem dX3_fireThing_56 : decode cX3_fireThing 56 = .ok (.aload_n 0, 1) := by decide +kernel
theorem dX3_fireThing_57 : decode cX3_fireThing 57 = .ok (.getfield 12, 3) := by decide +kernel
theorem dX3_fireThing_60 : decode cX3_fireThing 60 = .ok (.iload_n 1, 1) := by decide +kernel
theorem dX3_fireThing_61 : decode cX3_fireThing 61 = .ok (.invokevirtual 98, 3) := by decide +kernel
theorem dX3_fireThing_64 : decode cX3_fireThing 64 = .ok (.iconst 0, 1) := by decide +kernel
theorem dX3_fireThing_65 : decode cX3_fireThing 65 = .ok (.invokevirtual 101, 3) := by decide +kernel
theorem dX3_fireThing_68 : decode cX3_fireThing 68 = .ok (.pop, 1) := by decide +kernel
theorem dX3_fireThing_69 : decode cX3_fireThing 69 = .ok (.iload_n 2, 1) := by decide +kernel
theorem dX3_fireThing_70 : decode cX3_fireThing 70 = .ok (.ireturn, 1) := by decide +kernel
theorem dX3_moveThings_0 : decode cX3_moveThings 0 = .ok (.iconst 0, 1) := by decide +kernel
theorem dX3_moveThings_1 : decode cX3_moveThings 1 = .ok (.istore_n 1, 1) := by decide +kernel
theorem dX3_moveThings_2 : decode cX3_moveThings 2 = .ok (.iconst 0, 1) := by decide +kernel
theorem dX3_moveThings_3 : decode cX3_moveThings 3 = .ok (.istore_n 2, 1) := by decide +kernel
theorem dX3_moveThings_4 : decode cX3_moveThings 4 = .ok (.aload_n 0, 1) := by decide +kernel
theorem dX3_moveThings_5 : decode cX3_moveThings 5 = .ok (.getfield 12, 3) := by decide +kernel
theorem dX3_moveThings_8 : decode cX3_moveThings 8 = .ok (.invokevirtual 105, 3) := by decide +kernel
theorem dX3_moveThings_11 : decode cX3_moveThings 11 = .ok (.istore_n 3, 1) := by decide +kernel
theorem dX3_moveThings_12 : decode cX3_moveThings 12 = .ok (.iconst 0, 1) := by decide +kernel
theorem dX3_moveThings_13 : decode cX3_moveThings 13 = .ok (.istore 4, 2) := by decide +kernel
theorem dX3_moveThings_15 : decode cX3_moveThings 15 = .ok (.iload 4, 2) := by decide +kernel
theorem dX3_moveThings_17 : decode cX3_moveThings 17 = .ok (.iload_n 3, 1) := by decide +kernel
theorem dX3_moveThings_18 : decode cX3_moveThings 18 = .ok (.if_icmp .ge 59, 3) := by decide +kernel
theorem dX3_moveThings_21 : decode cX3_moveThings 21 = .ok (.aload_n 0, 1) := by decide +kernel
theorem dX3_moveThings_22 : decode cX3_moveThings 22 = .ok (.getfield 12, 3) := by decide +kernel
theorem dX3_moveThings_25 : decode cX3_moveThings 25 = .ok (.iload 4, 2) := by decide +kernel
theorem dX3_moveThings_27 : decode cX3_moveThings 27 = .ok (.invokevirtual 98, 3) := by decide +kernel
theorem dX3_moveThings_30 : decode cX3_moveThings 30 = .ok (.istore 5, 2) := by decide +kernel
theorem dX3_moveThings_32 : decode cX3_moveThings 32 = .ok (.iload 5, 2) := by decide +kernel
theorem dX3_moveThings_34 : decode cX3_moveThings 34 = .ok (.ifCond .le 32, 3) := by decide +kernel
theorem dX3_moveThings_37 : decode cX3_moveThings 37 = .ok (.iload 4, 2) := by decide +kernel
theorem dX3_moveThings_39 : decode cX3_moveThings 39 = .ok (.iload_n 2, 1) := by decide +kernel
theorem dX3_moveThings_40 : decode cX3_moveThings 40 = .ok (.if_icmp .eq 26, 3) := by decide +kernel
theorem dX3_moveThings_43 : decode cX3_moveThings 43 = .ok (.aload_n 0, 1) := by decide +kernel
theorem dX3_moveThings_44 : decode cX3_moveThings 44 = .ok (.getfield 12, 3) := by decide +kernel
theorem dX3_moveThings_47 : decode cX3_moveThings 47 = .ok (.iload 4, 2) := by decide +kernel
theorem dX3_moveThings_49 : decode cX3_moveThings 49 = .ok (.iload_n 2, 1) := by decide +kernel
theorem dX3_moveThings_50 : decode cX3_moveThings 50 = .ok (.invokevirtual 108, 3) := by decide +kernel
theorem dX3_moveThings_53 : decode cX3_moveThings 53 = .ok (.aload_n 0, 1) := by decide +kernel
theorem dX3_moveThings_54 : decode cX3_moveThings 54 = .ok (.getfield 21, 3) := by decide +kernel
theorem dX3_moveThings_57 : decode cX3_moveThings 57 = .ok (.iload 4, 2) := by decide +kernel
theorem dX3_moveThings_59 : decode cX3_moveThings 59 = .ok (.iload_n 2, 1) := by decide +kernel
theorem dX3_moveThings_60 : decode cX3_moveThings 60 = .ok (.invokevirtual 111, 3) := by decide +kernel
theorem dX3_moveThings_63 : decode cX3_moveThings 63 = .ok (.iinc 1 1, 3) := by decide +kernel
theorem dX3_moveThings_66 : decode cX3_moveThings 66 = .ok (.iload_n 2, 1) := by decide +kernel
theorem dX3_moveThings_67 : decode cX3_moveThings 67 = .ok (.iload 5, 2) := by decide +kernel
theorem dX3_moveThings_69 : decode cX3_moveThings 69 = .ok (.iadd, 1) := by decide +kernel
theorem dX3_moveThings_70 : decode cX3_moveThings 70 = .ok (.istore_n 2, 1) := by decide +kernel
theorem dX3_moveThings_71 : decode cX3_moveThings 71 = .ok (.iinc 4 1, 3) := by decide +kernel
theorem dX3_moveThings_74 : decode cX3_moveThings 74 = .ok (.goto (-59), 3) := by decide +kernel
theorem dX3_moveThings_77 : decode cX3_moveThings 77 = .ok (.aload_n 0, 1) := by decide +kernel
theorem dX3_moveThings_78 : decode cX3_moveThings 78 = .ok (.dup, 1) := by decide +kernel
theorem dX3_moveThings_79 : decode cX3_moveThings 79 = .ok (.getfield 46, 3) := by decide +kernel
theorem dX3_moveThings_82 : decode cX3_moveThings 82 = .ok (.iload_n 1, 1) := by decide +kernel
theorem dX3_moveThings_83 : decode cX3_moveThings 83 = .ok (.iadd, 1) := by decide +kernel
theorem dX3_moveThings_84 : decode cX3_moveThings 84 = .ok (.putfield 46, 3) := by decide +kernel
theorem dX3_moveThings_87 : decode cX3_moveThings 87 = .ok (.iload_n 1, 1) := by decide +kernel
theorem dX3_moveThings_88 : decode cX3_moveThings 88 = .ok (.ireturn, 1) := by decide +kernel
theorem dX4_init_0 : decode cX4_init 0 = .ok (.aload_n 0, 1) := by decide +kernel
theorem dX4_init_1 : decode cX4_init 1 = .ok (.invokespecial 3, 3) := by decide +kernel
theorem dX4_init_4 : decode cX4_init 4 = .ok (.aload_n 0, 1) := by decide +kernel
theorem dX4_init_5 : decode cX4_init 5 = .ok (.bipush 60, 2) := by decide +kernel
theorem dX4_init_7 : decode cX4_init 7 = .ok (.newarray .int, 2) := by decide +kernel
theorem dX4_init_9 : decode cX4_init 9 = .ok (.putfield 9, 3) := by decide +kernel
theorem dX4_init_12 : decode cX4_init 12 = .ok (.aload_n 0, 1) := by decide +kernel
theorem dX4_init_13 : decode cX4_init 13 = .ok (.iconst 0, 1) := by decide +kernel
theorem dX4_init_14 : decode cX4_init 14 = .ok (.putfield 15, 3) := by decide +kernel
theorem dX4_init_17 : decode cX4_init 17 = .ok (.return_, 1) := by decide +kernel
theorem dX4_size_0 : decode cX4_size 0 = .ok (.aload_n 0, 1) := by decide +kernel
theorem dX4_size_1 : decode cX4_size 1 = .ok (.getfield 15, 3) := by decide +kernel
theorem dX4_size_4 : decode cX4_size 4 = .ok (.ireturn, 1) := by decide +kernel
theorem dX4_isFull_0 : decode cX4_isFull 0 = .ok (.aload_n 0, 1) := by decide +kernel
theorem dX4_isFull_1 : decode cX4_isFull 1 = .ok (.getfield 15, 3) := by decide +kernel
theorem dX4_isFull_4 : decode cX4_isFull 4 = .ok (.bipush 60, 2) := by decide +kernel
theorem dX4_isFull_6 : decode cX4_isFull 6 = .ok (.if_icmp .lt 7, 3) := by decide +kernel
theorem dX4_isFull_9 : decode cX4_isFull 9 = .ok (.iconst 1, 1) := by decide +kernel
theorem dX4_isFull_10 : decode cX4_isFull 10 = .ok (.goto 4, 3) := by decide +kernel
theorem dX4_isFull_13 : decode cX4_isFull 13 = .ok (.iconst 0, 1) := by decide +kernel
theorem dX4_isFull_14 : decode cX4_isFull 14 = .ok (.ireturn, 1) := by decide +kernel
theorem dX4_add_0 : decode cX4_add 0 = .ok (.aload_n 0, 1) := by decide +kernel
theorem dX4_add_1 : decode cX4_add 1 = .ok (.getfield 15, 3) := by decide +kernel
theorem dX4_add_4 : decode cX4_add 4 = .ok (.ifCond .lt 32, 3) := by decide +kernel
theorem dX4_add_7 : decode cX4_add 7 = .ok (.aload_n 0, 1) := by decide +kernel
theorem dX4_add_8 : decode cX4_add 8 = .ok (.getfield 15, 3) := by decide +kernel
theorem dX4_add_11 : decode cX4_add 11 = .ok (.bipush 60, 2) := by decide +kernel
theorem dX4_add_13 : decode cX4_add 13 = .ok (.if_icmp .ge 23, 3) := by decide +kernel
theorem dX4_add_16 : decode cX4_add 16 = .ok (.aload_n 0, 1) := by decide +kernel
theorem dX4_add_17 : decode cX4_add 17 = .ok (.getfield 9, 3) := by decide +kernel
theorem dX4_add_20 : decode cX4_add 20 = .ok (.aload_n 0, 1) := by decide +kernel
theorem dX4_add_21 : decode cX4_add 21 = .ok (.getfield 15, 3) := by decide +kernel
theorem dX4_add_24 : decode cX4_add 24 = .ok (.iload_n 1, 1) := by decide +kernel
theorem dX4_add_25 : decode cX4_add 25 = .ok (.iastore, 1) := by decide +kernel
theorem dX4_add_26 : decode cX4_add 26 = .ok (.aload_n 0, 1) := by decide +kernel
theorem dX4_add_27 : decode cX4_add 27 = .ok (.dup, 1) := by decide +kernel
theorem dX4_add_28 : decode cX4_add 28 = .ok (.getfield 15, 3) := by decide +kernel
theorem dX4_add_31 : decode cX4_add 31 = .ok (.iconst 1, 1) := by decide +kernel
theorem dX4_add_32 : decode cX4_add 32 = .ok (.iadd, 1) := by decide +kernel
theorem dX4_add_33 : decode cX4_add 33 = .ok (.putfield 15, 3) := by decide +kernel
theorem dX4_add_36 : decode cX4_add 36 = .ok (.return_, 1) := by decide +kernel
theorem dX4_empty_0 : decode cX4_empty 0 = .ok (.aload_n 0, 1) := by decide +kernel
theorem dX4_empty_1 : decode cX4_empty 1 = .ok (.iconst 0, 1) := by decide +kernel
theorem dX4_empty_2 : decode cX4_empty 2 = .ok (.putfield 15, 3) := by decide +kernel
theorem dX4_empty_5 : decode cX4_empty 5 = .ok (.return_, 1) := by decide +kernel
theorem dX4_codeAt_0 : decode cX4_codeAt 0 = .ok (.iload_n 1, 1) := by decide +kernel
theorem dX4_codeAt_1 : decode cX4_codeAt 1 = .ok (.ifCond .lt 26, 3) := by decide +kernel
theorem dX4_codeAt_4 : decode cX4_codeAt 4 = .ok (.iload_n 1, 1) := by decide +kernel
theorem dX4_codeAt_5 : decode cX4_codeAt 5 = .ok (.aload_n 0, 1) := by decide +kernel
theorem dX4_codeAt_6 : decode cX4_codeAt 6 = .ok (.getfield 15, 3) := by decide +kernel
theorem dX4_codeAt_9 : decode cX4_codeAt 9 = .ok (.if_icmp .ge 18, 3) := by decide +kernel
theorem dX4_codeAt_12 : decode cX4_codeAt 12 = .ok (.iload_n 1, 1) := by decide +kernel
theorem dX4_codeAt_13 : decode cX4_codeAt 13 = .ok (.bipush 60, 2) := by decide +kernel
theorem dX4_codeAt_15 : decode cX4_codeAt 15 = .ok (.if_icmp .ge 12, 3) := by decide +kernel
theorem dX4_codeAt_18 : decode cX4_codeAt 18 = .ok (.aload_n 0, 1) := by decide +kernel
theorem dX4_codeAt_19 : decode cX4_codeAt 19 = .ok (.getfield 9, 3) := by decide +kernel
theorem dX4_codeAt_22 : decode cX4_codeAt 22 = .ok (.iload_n 1, 1) := by decide +kernel
theorem dX4_codeAt_23 : decode cX4_codeAt 23 = .ok (.iaload, 1) := by decide +kernel
theorem dX4_codeAt_24 : decode cX4_codeAt 24 = .ok (.goto 4, 3) := by decide +kernel
theorem dX4_codeAt_27 : decode cX4_codeAt 27 = .ok (.iconst 0, 1) := by decide +kernel
theorem dX4_codeAt_28 : decode cX4_codeAt 28 = .ok (.ireturn, 1) := by decide +kernel
theorem dX4_indexOf_0 : decode cX4_indexOf 0 = .ok (.iload_n 2, 1) := by decide +kernel
theorem dX4_indexOf_1 : decode cX4_indexOf 1 = .ok (.istore_n 3, 1) := by decide +kernel
theorem dX4_indexOf_2 : decode cX4_indexOf 2 = .ok (.iload_n 3, 1) := by decide +kernel
theorem dX4_indexOf_3 : decode cX4_indexOf 3 = .ok (.aload_n 0, 1) := by decide +kernel
theorem dX4_indexOf_4 : decode cX4_indexOf 4 = .ok (.getfield 15, 3) := by decide +kernel
theorem dX4_indexOf_7 : decode cX4_indexOf 7 = .ok (.if_icmp .ge 20, 3) := by decide +kernel
theorem dX4_indexOf_10 : decode cX4_indexOf 10 = .ok (.aload_n 0, 1) := by decide +kernel
theorem dX4_indexOf_11 : decode cX4_indexOf 11 = .ok (.iload_n 3, 1) := by decide +kernel
theorem dX4_indexOf_12 : decode cX4_indexOf 12 = .ok (.invokevirtual 19, 3) := by decide +kernel
theorem dX4_indexOf_15 : decode cX4_indexOf 15 = .ok (.iload_n 1, 1) := by decide +kernel
theorem dX4_indexOf_16 : decode cX4_indexOf 16 = .ok (.if_icmp .ne 5, 3) := by decide +kernel
theorem dX4_indexOf_19 : decode cX4_indexOf 19 = .ok (.iload_n 3, 1) := by decide +kernel
theorem dX4_indexOf_20 : decode cX4_indexOf 20 = .ok (.ireturn, 1) := by decide +kernel
theorem dX4_indexOf_21 : decode cX4_indexOf 21 = .ok (.iinc 3 1, 3) := by decide +kernel
theorem dX4_indexOf_24 : decode cX4_indexOf 24 = .ok (.goto (-22), 3) := by decide +kernel
theorem dX4_indexOf_27 : decode cX4_indexOf 27 = .ok (.aload_n 0, 1) := by decide +kernel
theorem dX4_indexOf_28 : decode cX4_indexOf 28 = .ok (.getfield 15, 3) := by decide +kernel
theorem dX4_indexOf_31 : decode cX4_indexOf 31 = .ok (.ireturn, 1) := by decide +kernel
theorem dX4_numberIn_0 : decode cX4_numberIn 0 = .ok (.iconst 0, 1) := by decide +kernel
theorem dX4_numberIn_1 : decode cX4_numberIn 1 = .ok (.istore_n 3, 1) := by decide +kernel
theorem dX4_numberIn_2 : decode cX4_numberIn 2 = .ok (.iload_n 1, 1) := by decide +kernel
theorem dX4_numberIn_3 : decode cX4_numberIn 3 = .ok (.istore 4, 2) := by decide +kernel
theorem dX4_numberIn_5 : decode cX4_numberIn 5 = .ok (.iload 4, 2) := by decide +kernel
theorem dX4_numberIn_7 : decode cX4_numberIn 7 = .ok (.iload_n 2, 1) := by decide +kernel
theorem dX4_numberIn_8 : decode cX4_numberIn 8 = .ok (.if_icmp .ge 33, 3) := by decide +kernel
theorem dX4_numberIn_11 : decode cX4_numberIn 11 = .ok (.iload 4, 2) := by decide +kernel
theorem dX4_numberIn_13 : decode cX4_numberIn 13 = .ok (.aload_n 0, 1) := by decide +kernel
theorem dX4_numberIn_14 : decode cX4_numberIn 14 = .ok (.getfield 15, 3) := by decide +kernel
theorem dX4_numberIn_17 : decode cX4_numberIn 17 = .ok (.if_icmp .ge 24, 3) := by decide +kernel
theorem dX4_numberIn_20 : decode cX4_numberIn 20 = .ok (.bipush 10, 2) := by decide +kernel
theorem dX4_numberIn_22 : decode cX4_numberIn 22 = .ok (.iload_n 3, 1) := by decide +kernel
theorem dX4_numberIn_23 : decode cX4_numberIn 23 = .ok (.imul, 1) := by decide +kernel
theorem dX4_numberIn_24 : decode cX4_numberIn 24 = .ok (.aload_n 0, 1) := by decide +kernel
theorem dX4_numberIn_25 : decode cX4_numberIn 25 = .ok (.iload 4, 2) := by decide +kernel
theorem dX4_numberIn_27 : decode cX4_numberIn 27 = .ok (.invokevirtual 19, 3) := by decide +kernel
theorem dX4_numberIn_30 : decode cX4_numberIn 30 = .ok (.iadd, 1) := by decide +kernel
theorem dX4_numberIn_31 : decode cX4_numberIn 31 = .ok (.bipush 48, 2) := by decide +kernel
theorem dX4_numberIn_33 : decode cX4_numberIn 33 = .ok (.isub, 1) := by decide +kernel
theorem dX4_numberIn_34 : decode cX4_numberIn 34 = .ok (.istore_n 3, 1) := by decide +kernel
theorem dX4_numberIn_35 : decode cX4_numberIn 35 = .ok (.iinc 4 1, 3) := by decide +kernel
theorem dX4_numberIn_38 : decode cX4_numberIn 38 = .ok (.goto (-33), 3) := by decide +kernel
theorem dX4_numberIn_41 : decode cX4_numberIn 41 = .ok (.iload_n 3, 1) := by decide +kernel
theorem dX4_numberIn_42 : decode cX4_numberIn 42 = .ok (.ireturn, 1) := by decide +kernel
theorem dX4_firstWrong_0 : decode cX4_firstWrong 0 = .ok (.iconst 0, 1) := by decide +kernel
theorem dX4_firstWrong_1 : decode cX4_firstWrong 1 = .ok (.istore_n 1, 1) := by decide +kernel
theorem dX4_firstWrong_2 : decode cX4_firstWrong 2 = .ok (.iconst 0, 1) := by decide +kernel
theorem dX4_firstWrong_3 : decode cX4_firstWrong 3 = .ok (.istore_n 2, 1) := by decide +kernel
theorem dX4_firstWrong_4 : decode cX4_firstWrong 4 = .ok (.iload_n 2, 1) := by decide +kernel
theorem dX4_firstWrong_5 : decode cX4_firstWrong 5 = .ok (.aload_n 0, 1) := by decide +kernel
theorem dX4_firstWrong_6 : decode cX4_firstWrong 6 = .ok (.getfield 15, 3) := by decide +kernel
theorem dX4_firstWrong_9 : decode cX4_firstWrong 9 = .ok (.if_icmp .ge 26, 3) := by decide +kernel
theorem dX4_firstWrong_12 : decode cX4_firstWrong 12 = .ok (.iload_n 1, 1) := by decide +kernel
theorem dX4_firstWrong_13 : decode cX4_firstWrong 13 = .ok (.aload_n 0, 1) := by decide +kernel
theorem dX4_firstWrong_14 : decode cX4_firstWrong 14 = .ok (.iload_n 2, 1) := by decide +kernel
theorem dX4_firstWrong_15 : decode cX4_firstWrong 15 = .ok (.invokevirtual 19, 3) := by decide +kernel
theorem dX4_firstWrong_18 : decode cX4_firstWrong 18 = .ok (.invokestatic 23, 3) := by decide +kernel
theorem dX4_firstWrong_21 : decode cX4_firstWrong 21 = .ok (.istore_n 1, 1) := by decide +kernel
theorem dX4_firstWrong_22 : decode cX4_firstWrong 22 = .ok (.iload_n 1, 1) := by decide +kernel
theorem dX4_firstWrong_23 : decode cX4_firstWrong 23 = .ok (.iconst (-1), 1) := by decide +kernel
theorem dX4_firstWrong_24 : decode cX4_firstWrong 24 = .ok (.if_icmp .ne 5, 3) := by decide +kernel
theorem dX4_firstWrong_27 : decode cX4_firstWrong 27 = .ok (.iload_n 2, 1) := by decide +kernel
theorem dX4_firstWrong_28 : decode cX4_firstWrong 28 = .ok (.ireturn, 1) := by decide +kernel
theorem dX4_firstWrong_29 : decode cX4_firstWrong 29 = .ok (.iinc 2 1, 3) := by decide +kernel
theorem dX4_firstWrong_32 : decode cX4_firstWrong 32 = .ok (.goto (-28), 3) := by decide +kernel
theorem dX4_firstWrong_35 : decode cX4_firstWrong 35 = .ok (.aload_n 0, 1) := by decide +kernel
theorem dX4_firstWrong_36 : decode cX4_firstWrong 36 = .ok (.getfield 15, 3) := by decide +kernel
theorem dX4_firstWrong_39 : decode cX4_firstWrong 39 = .ok (.ireturn, 1) := by decide +kernel
theorem dX4_isComplete_0 : decode cX4_isComplete 0 = .ok (.iconst 0, 1) := by decide +kernel
theorem dX4_isComplete_1 : decode cX4_isComplete 1 = .ok (.istore_n 1, 1) := by decide +kernel
theorem dX4_isComplete_2 : decode cX4_isComplete 2 = .ok (.iconst 0, 1) := by decide +kernel
theorem dX4_isComplete_3 : decode cX4_isComplete 3 = .ok (.istore_n 2, 1) := by decide +kernel
theorem dX4_isComplete_4 : decode cX4_isComplete 4 = .ok (.iload_n 2, 1) := by decide +kernel
theorem dX4_isComplete_5 : decode cX4_isComplete 5 = .ok (.aload_n 0, 1) := by decide +kernel
theorem dX4_isComplete_6 : decode cX4_isComplete 6 = .ok (.getfield 15, 3) := by decide +kernel
theorem dX4_isComplete_9 : decode cX4_isComplete 9 = .ok (.if_icmp .ge 19, 3) := by decide +kernel
theorem dX4_isComplete_12 : decode cX4_isComplete 12 = .ok (.iload_n 1, 1) := by decide +kernel
theorem dX4_isComplete_13 : decode cX4_isComplete 13 = .ok (.aload_n 0, 1) := by decide +kernel
theorem dX4_isComplete_14 : decode cX4_isComplete 14 = .ok (.iload_n 2, 1) := by decide +kernel
theorem dX4_isComplete_15 : decode cX4_isComplete 15 = .ok (.invokevirtual 19, 3) := by decide +kernel
theorem dX4_isComplete_18 : decode cX4_isComplete 18 = .ok (.invokestatic 23, 3) := by decide +kernel
theorem dX4_isComplete_21 : decode cX4_isComplete 21 = .ok (.istore_n 1, 1) := by decide +kernel
theorem dX4_isComplete_22 : decode cX4_isComplete 22 = .ok (.iinc 2 1, 3) := by decide +kernel
theorem dX4_isComplete_25 : decode cX4_isComplete 25 = .ok (.goto (-21), 3) := by decide +kernel
theorem dX4_isComplete_28 : decode cX4_isComplete 28 = .ok (.iload_n 1, 1) := by decide +kernel
theorem dX4_isComplete_29 : decode cX4_isComplete 29 = .ok (.bipush 6, 2) := by decide +kernel
theorem dX4_isComplete_31 : decode cX4_isComplete 31 = .ok (.if_icmp .eq 9, 3) := by decide +kernel
theorem dX4_isComplete_34 : decode cX4_isComplete 34 = .ok (.iload_n 1, 1) := by decide +kernel
theorem dX4_isComplete_35 : decode cX4_isComplete 35 = .ok (.bipush 7, 2) := by decide +kernel
theorem dX4_isComplete_37 : decode cX4_isComplete 37 = .ok (.if_icmp .ne 7, 3) := by decide +kernel
theorem dX4_isComplete_40 : decode cX4_isComplete 40 = .ok (.iconst 1, 1) := by decide +kernel
theorem dX4_isComplete_41 : decode cX4_isComplete 41 = .ok (.goto 4, 3) := by decide +kernel
theorem dX4_isComplete_44 : decode cX4_isComplete 44 = .ok (.iconst 0, 1) := by decide +kernel
theorem dX4_isComplete_45 : decode cX4_isComplete 45 = .ok (.ireturn, 1) := by decide +kernel
theorem dX4_stateBehind_0 : decode cX4_stateBehind 0 = .ok (.iload_n 0, 1) := by decide +kernel
theorem dX4_stateBehind_1 : decode cX4_stateBehind 1 = .ok (.tableswitch 112 0 7 #[47, 52, 64, 70, 52, 76, 95, 100], 47) := by decide +kernel
theorem dX4_stateBehind_48 : decode cX4_stateBehind 48 = .ok (.iload_n 1, 1) := by decide +kernel
theorem dX4_stateBehind_49 : decode cX4_stateBehind 49 = .ok (.invokestatic 27, 3) := by decide +kernel
theorem dX4_stateBehind_52 : decode cX4_stateBehind 52 = .ok (.ireturn, 1) := by decide +kernel
theorem dX4_stateBehind_53 : decode cX4_stateBehind 53 = .ok (.iload_n 1, 1) := by decide +kernel
theorem dX4_stateBehind_54 : decode cX4_stateBehind 54 = .ok (.bipush 42, 2) := by decide +kernel
theorem dX4_stateBehind_56 : decode cX4_stateBehind 56 = .ok (.if_icmp .ne 7, 3) := by decide +kernel
theorem dX4_stateBehind_59 : decode cX4_stateBehind 59 = .ok (.iconst 5, 1) := by decide +kernel
theorem dX4_stateBehind_60 : decode cX4_stateBehind 60 = .ok (.goto 4, 3) := by decide +kernel
theorem dX4_stateBehind_63 : decode cX4_stateBehind 63 = .ok (.iconst (-1), 1) := by decide +kernel
theorem dX4_stateBehind_64 : decode cX4_stateBehind 64 = .ok (.ireturn, 1) := by decide +kernel
theorem dX4_stateBehind_65 : decode cX4_stateBehind 65 = .ok (.iload_n 1, 1) := by decide +kernel
theorem dX4_stateBehind_66 : decode cX4_stateBehind 66 = .ok (.iconst 3, 1) := by decide +kernel
theorem dX4_stateBehind_67 : decode cX4_stateBehind 67 = .ok (.invokestatic 30, 3) := by decide +kernel
theorem dX4_stateBehind_70 : decode cX4_stateBehind 70 = .ok (.ireturn, 1) := by decide +kernel
theorem dX4_stateBehind_71 : decode cX4_stateBehind 71 = .ok (.iload_n 1, 1) := by decide +kernel
theorem dX4_stateBehind_72 : decode cX4_stateBehind 72 = .ok (.iconst 4, 1) := by decide +kernel
theorem dX4_stateBehind_73 : decode cX4_stateBehind 73 = .ok (.invokestatic 30, 3) := by decide +kernel
theorem dX4_stateBehind_76 : decode cX4_stateBehind 76 = .ok (.ireturn, 1) := by decide +kernel
theorem dX4_stateBehind_77 : decode cX4_stateBehind 77 = .ok (.iload_n 1, 1) := by decide +kernel
theorem dX4_stateBehind_78 : decode cX4_stateBehind 78 = .ok (.bipush 49, 2) := by decide +kernel
theorem dX4_stateBehind_80 : decode cX4_stateBehind 80 = .ok (.if_icmp .lt 14, 3) := by decide +kernel
theorem dX4_stateBehind_83 : decode cX4_stateBehind 83 = .ok (.iload_n 1, 1) := by decide +kernel
theorem dX4_stateBehind_84 : decode cX4_stateBehind 84 = .ok (.bipush 52, 2) := by decide +kernel
theorem dX4_stateBehind_86 : decode cX4_stateBehind 86 = .ok (.if_icmp .gt 8, 3) := by decide +kernel
theorem dX4_stateBehind_89 : decode cX4_stateBehind 89 = .ok (.bipush 6, 2) := by decide +kernel
theorem dX4_stateBehind_91 : decode cX4_stateBehind 91 = .ok (.goto 4, 3) := by decide +kernel
theorem dX4_stateBehind_94 : decode cX4_stateBehind 94 = .ok (.iconst (-1), 1) := by decide +kernel
theorem dX4_stateBehind_95 : decode cX4_stateBehind 95 = .ok (.ireturn, 1) := by decide +kernel
theorem dX4_stateBehind_96 : decode cX4_stateBehind 96 = .ok (.iload_n 1, 1) := by decide +kernel
theorem dX4_stateBehind_97 : decode cX4_stateBehind 97 = .ok (.invokestatic 33, 3) := by decide +kernel
theorem dX4_stateBehind_100 : decode cX4_stateBehind 100 = .ok (.ireturn, 1) := by decide +kernel
theorem dX4_stateBehind_101 : decode cX4_stateBehind 101 = .ok (.iload_n 1, 1) := by decide +kernel
theorem dX4_stateBehind_102 : decode cX4_stateBehind 102 = .ok (.bipush 44, 2) := by decide +kernel
theorem dX4_stateBehind_104 : decode cX4_stateBehind 104 = .ok (.if_icmp .ne 7, 3) := by decide +kernel
theorem dX4_stateBehind_107 : decode cX4_stateBehind 107 = .ok (.iconst 0, 1) := by decide +kernel
theorem dX4_stateBehind_108 : decode cX4_stateBehind 108 = .ok (.goto 4, 3) := by decide +kernel
theorem dX4_stateBehind_111 : decode cX4_stateBehind 111 = .ok (.iconst (-1), 1) := by decide +kernel
theorem dX4_stateBehind_112 : decode cX4_stateBehind 112 = .ok (.ireturn, 1) := by decide +kernel
theorem dX4_stateBehind_113 : decode cX4_stateBehind 113 = .ok (.iconst (-1), 1) := by decide +kernel
theorem dX4_stateBehind_114 : decode cX4_stateBehind 114 = .ok (.ireturn, 1) := by decide +kernel
theorem dX4_firstDigit_0 : decode cX4_firstDigit 0 = .ok (.iload_n 0, 1) := by decide +kernel
theorem dX4_firstDigit_1 : decode cX4_firstDigit 1 = .ok (.bipush 48, 2) := by decide +kernel
theorem dX4_firstDigit_3 : decode cX4_firstDigit 3 = .ok (.if_icmp .ne 5, 3) := by decide +kernel
theorem dX4_firstDigit_6 : decode cX4_firstDigit 6 = .ok (.iconst 1, 1) := by decide +kernel
theorem dX4_firstDigit_7 : decode cX4_firstDigit 7 = .ok (.ireturn, 1) := by decide +kernel
theorem dX4_firstDigit_8 : decode cX4_firstDigit 8 = .ok (.iload_n 0, 1) := by decide +kernel
theorem dX4_firstDigit_9 : decode cX4_firstDigit 9 = .ok (.bipush 49, 2) := by decide +kernel
theorem dX4_firstDigit_11 : decode cX4_firstDigit 11 = .ok (.if_icmp .lt 13, 3) := by decide +kernel
theorem dX4_firstDigit_14 : decode cX4_firstDigit 14 = .ok (.iload_n 0, 1) := by decide +kernel
theorem dX4_firstDigit_15 : decode cX4_firstDigit 15 = .ok (.bipush 57, 2) := by decide +kernel
theorem dX4_firstDigit_17 : decode cX4_firstDigit 17 = .ok (.if_icmp .gt 7, 3) := by decide +kernel
theorem dX4_firstDigit_20 : decode cX4_firstDigit 20 = .ok (.iconst 2, 1) := by decide +kernel
theorem dX4_firstDigit_21 : decode cX4_firstDigit 21 = .ok (.goto 4, 3) := by decide +kernel
theorem dX4_firstDigit_24 : decode cX4_firstDigit 24 = .ok (.iconst (-1), 1) := by decide +kernel
theorem dX4_firstDigit_25 : decode cX4_firstDigit 25 = .ok (.ireturn, 1) := by decide +kernel
theorem dX4_laterDigit_0 : decode cX4_laterDigit 0 = .ok (.iload_n 0, 1) := by decide +kernel
theorem dX4_laterDigit_1 : decode cX4_laterDigit 1 = .ok (.bipush 42, 2) := by decide +kernel
theorem dX4_laterDigit_3 : decode cX4_laterDigit 3 = .ok (.if_icmp .ne 5, 3) := by decide +kernel
theorem dX4_laterDigit_6 : decode cX4_laterDigit 6 = .ok (.iconst 5, 1) := by decide +kernel
theorem dX4_laterDigit_7 : decode cX4_laterDigit 7 = .ok (.ireturn, 1) := by decide +kernel
theorem dX4_laterDigit_8 : decode cX4_laterDigit 8 = .ok (.iload_n 0, 1) := by decide +kernel
theorem dX4_laterDigit_9 : decode cX4_laterDigit 9 = .ok (.bipush 48, 2) := by decide +kernel
theorem dX4_laterDigit_11 : decode cX4_laterDigit 11 = .ok (.if_icmp .lt 13, 3) := by decide +kernel
theorem dX4_laterDigit_14 : decode cX4_laterDigit 14 = .ok (.iload_n 0, 1) := by decide +kernel
theorem dX4_laterDigit_15 : decode cX4_laterDigit 15 = .ok (.bipush 57, 2) := by decide +kernel
theorem dX4_laterDigit_17 : decode cX4_laterDigit 17 = .ok (.if_icmp .gt 7, 3) := by decide +kernel
theorem dX4_laterDigit_20 : decode cX4_laterDigit 20 = .ok (.iload_n 1, 1) := by decide +kernel
theorem dX4_laterDigit_21 : decode cX4_laterDigit 21 = .ok (.goto 4, 3) := by decide +kernel
theorem dX4_laterDigit_24 : decode cX4_laterDigit 24 = .ok (.iconst (-1), 1) := by decide +kernel
theorem dX4_laterDigit_25 : decode cX4_laterDigit 25 = .ok (.ireturn, 1) := by decide +kernel
theorem dX4_behindSize_0 : decode cX4_behindSize 0 = .ok (.iload_n 0, 1) := by decide +kernel
theorem dX4_behindSize_1 : decode cX4_behindSize 1 = .ok (.bipush 44, 2) := by decide +kernel
theorem dX4_behindSize_3 : decode cX4_behindSize 3 = .ok (.if_icmp .ne 5, 3) := by decide +kernel
theorem dX4_behindSize_6 : decode cX4_behindSize 6 = .ok (.iconst 0, 1) := by decide +kernel
theorem dX4_behindSize_7 : decode cX4_behindSize 7 = .ok (.ireturn, 1) := by decide +kernel
theorem dX4_behindSize_8 : decode cX4_behindSize 8 = .ok (.iload_n 0, 1) := by decide +kernel
theorem dX4_behindSize_9 : decode cX4_behindSize 9 = .ok (.bipush 33, 2) := by decide +kernel
theorem dX4_behindSize_11 : decode cX4_behindSize 11 = .ok (.if_icmp .eq 9, 3) := by decide +kernel
theorem dX4_behindSize_14 : decode cX4_behindSize 14 = .ok (.iload_n 0, 1) := by decide +kernel
theorem dX4_behindSize_15 : decode cX4_behindSize 15 = .ok (.bipush 43, 2) := by decide +kernel
theorem dX4_behindSize_17 : decode cX4_behindSize 17 = .ok (.if_icmp .ne 8, 3) := by decide +kernel
theorem dX4_behindSize_20 : decode cX4_behindSize 20 = .ok (.bipush 7, 2) := by decide +kernel
theorem dX4_behindSize_22 : decode cX4_behindSize 22 = .ok (.goto 4, 3) := by decide +kernel
theorem dX4_behindSize_25 : decode cX4_behindSize 25 = .ok (.iconst (-1), 1) := by decide +kernel
theorem dX4_behindSize_26 : decode cX4_behindSize 26 = .ok (.ireturn, 1) := by decide +kernel
theorem dX5_init_0 : decode cX5_init 0 = .ok (.aload_n 0, 1) := by decide +kernel
theorem dX5_init_1 : decode cX5_init 1 = .ok (.invokespecial 1, 3) := by decide +kernel
theorem dX5_init_4 : decode cX5_init 4 = .ok (.aload_n 0, 1) := by decide +kernel
theorem dX5_init_5 : decode cX5_init 5 = .ok (.new 7, 3) := by decide +kernel
theorem dX5_init_8 : decode cX5_init 8 = .ok (.dup, 1) := by decide +kernel
theorem dX5_init_9 : decode cX5_init 9 = .ok (.invokespecial 9, 3) := by decide +kernel
theorem dX5_init_12 : decode cX5_init 12 = .ok (.putfield 10, 3) := by decide +kernel
theorem dX5_init_15 : decode cX5_init 15 = .ok (.aload_n 0, 1) := by decide +kernel
theorem dX5_init_16 : decode cX5_init 16 = .ok (.new 7, 3) := by decide +kernel
theorem dX5_init_19 : decode cX5_init 19 = .ok (.dup, 1) := by decide +kernel
theorem dX5_init_20 : decode cX5_init 20 = .ok (.invokespecial 9, 3) := by decide +kernel
theorem dX5_init_23 : decode cX5_init 23 = .ok (.putfield 16, 3) := by decide +kernel
theorem dX5_init_26 : decode cX5_init 26 = .ok (.aload_n 0, 1) := by decide +kernel
theorem dX5_init_27 : decode cX5_init 27 = .ok (.new 19, 3) := by decide +kernel
theorem dX5_init_30 : decode cX5_init 30 = .ok (.dup, 1) := by decide +kernel
theorem dX5_init_31 : decode cX5_init 31 = .ok (.invokespecial 21, 3) := by decide +kernel
theorem dX5_init_34 : decode cX5_init 34 = .ok (.putfield 22, 3) := by decide +kernel
theorem dX5_init_37 : decode cX5_init 37 = .ok (.aload_n 0, 1) := by decide +kernel
theorem dX5_init_38 : decode cX5_init 38 = .ok (.new 26, 3) := by decide +kernel
theorem dX5_init_41 : decode cX5_init 41 = .ok (.dup, 1) := by decide +kernel
theorem dX5_init_42 : decode cX5_init 42 = .ok (.invokespecial 28, 3) := by decide +kernel
theorem dX5_init_45 : decode cX5_init 45 = .ok (.putfield 29, 3) := by decide +kernel
theorem dX5_init_48 : decode cX5_init 48 = .ok (.return_, 1) := by decide +kernel
theorem dX5_put_0 : decode cX5_put 0 = .ok (.iload_n 1, 1) := by decide +kernel
theorem dX5_put_1 : decode cX5_put 1 = .ok (.iload_n 2, 1) := by decide +kernel
theorem dX5_put_2 : decode cX5_put 2 = .ok (.iload_n 3, 1) := by decide +kernel
theorem dX5_put_3 : decode cX5_put 3 = .ok (.invokestatic 33, 3) := by decide +kernel
theorem dX5_put_6 : decode cX5_put 6 = .ok (.ifCond .ne 13, 3) := by decide +kernel
theorem dX5_put_9 : decode cX5_put 9 = .ok (.new 37, 3) := by decide +kernel
theorem dX5_put_12 : decode cX5_put 12 = .ok (.dup, 1) := by decide +kernel
theorem dX5_put_13 : decode cX5_put 13 = .ok (.ldc 39, 2) := by decide +kernel
theorem dX5_put_15 : decode cX5_put 15 = .ok (.invokespecial 41, 3) := by decide +kernel
theorem dX5_put_18 : decode cX5_put 18 = .ok (.athrow, 1) := by decide +kernel
theorem dX5_put_19 : decode cX5_put 19 = .ok (.aload_n 0, 1) := by decide +kernel
theorem dX5_put_20 : decode cX5_put 20 = .ok (.getfield 10, 3) := by decide +kernel
theorem dX5_put_23 : decode cX5_put 23 = .ok (.getfield 44, 3) := by decide +kernel
theorem dX5_put_26 : decode cX5_put 26 = .ok (.iload_n 2, 1) := by decide +kernel
theorem dX5_put_27 : decode cX5_put 27 = .ok (.invokevirtual 48, 3) := by decide +kernel
theorem dX5_put_30 : decode cX5_put 30 = .ok (.iconst (-1), 1) := by decide +kernel
theorem dX5_put_31 : decode cX5_put 31 = .ok (.if_icmp .ne 13, 3) := by decide +kernel
theorem dX5_put_34 : decode cX5_put 34 = .ok (.new 54, 3) := by decide +kernel
theorem dX5_put_37 : decode cX5_put 37 = .ok (.dup, 1) := by decide +kernel
theorem dX5_put_38 : decode cX5_put 38 = .ok (.ldc 56, 2) := by decide +kernel
theorem dX5_put_40 : decode cX5_put 40 = .ok (.invokespecial 58, 3) := by decide +kernel
theorem dX5_put_43 : decode cX5_put 43 = .ok (.athrow, 1) := by decide +kernel
theorem dX5_put_44 : decode cX5_put 44 = .ok (.aload_n 0, 1) := by decide +kernel
theorem dX5_put_45 : decode cX5_put 45 = .ok (.getfield 22, 3) := by decide +kernel
theorem dX5_put_48 : decode cX5_put 48 = .ok (.aload_n 0, 1) := by decide +kernel
theorem dX5_put_49 : decode cX5_put 49 = .ok (.getfield 10, 3) := by decide +kernel
theorem dX5_put_52 : decode cX5_put 52 = .ok (.invokevirtual 59, 3) := by decide +kernel
theorem dX5_put_55 : decode cX5_put 55 = .ok (.aload_n 0, 1) := by decide +kernel
theorem dX5_put_56 : decode cX5_put 56 = .ok (.getfield 10, 3) := by decide +kernel
theorem dX5_put_59 : decode cX5_put 59 = .ok (.getfield 44, 3) := by decide +kernel
theorem dX5_put_62 : decode cX5_put 62 = .ok (.aload_n 0, 1) := by decide +kernel
theorem dX5_put_63 : decode cX5_put 63 = .ok (.getfield 10, 3) := by decide +kernel
theorem dX5_put_66 : decode cX5_put 66 = .ok (.iload_n 1, 1) := by decide +kernel
theorem dX5_put_67 : decode cX5_put 67 = .ok (.iload_n 2, 1) := by decide +kernel
theorem dX5_put_68 : decode cX5_put 68 = .ok (.iload_n 3, 1) := by decide +kernel
theorem dX5_put_69 : decode cX5_put 69 = .ok (.invokevirtual 63, 3) := by decide +kernel
theorem dX5_put_72 : decode cX5_put 72 = .ok (.invokevirtual 67, 3) := by decide +kernel
theorem dX5_put_75 : decode cX5_put 75 = .ok (.ireturn, 1) := by decide +kernel
theorem dX5_putBehind_0 : decode cX5_putBehind 0 = .ok (.aload_n 0, 1) := by decide +kernel
theorem dX5_putBehind_1 : decode cX5_putBehind 1 = .ok (.getfield 10, 3) := by decide +kernel
theorem dX5_putBehind_4 : decode cX5_putBehind 4 = .ok (.getfield 44, 3) := by decide +kernel
theorem dX5_putBehind_7 : decode cX5_putBehind 7 = .ok (.iload_n 1, 1) := by decide +kernel
theorem dX5_putBehind_8 : decode cX5_putBehind 8 = .ok (.invokevirtual 70, 3) := by decide +kernel
theorem dX5_putBehind_11 : decode cX5_putBehind 11 = .ok (.ifCond .eq 13, 3) := by decide +kernel
theorem dX5_putBehind_14 : decode cX5_putBehind 14 = .ok (.new 73, 3) := by decide +kernel
theorem dX5_putBehind_17 : decode cX5_putBehind 17 = .ok (.dup, 1) := by decide +kernel
theorem dX5_putBehind_18 : decode cX5_putBehind 18 = .ok (.ldc 75, 2) := by decide +kernel
theorem dX5_putBehind_20 : decode cX5_putBehind 20 = .ok (.invokespecial 77, 3) := by decide +kernel
theorem dX5_putBehind_23 : decode cX5_putBehind 23 = .ok (.athrow, 1) := by decide +kernel
theorem dX5_putBehind_24 : decode cX5_putBehind 24 = .ok (.iload_n 2, 1) := by decide +kernel
theorem dX5_putBehind_25 : decode cX5_putBehind 25 = .ok (.iload_n 3, 1) := by decide +kernel
theorem dX5_putBehind_26 : decode cX5_putBehind 26 = .ok (.iload 4, 2) := by decide +kernel
theorem dX5_putBehind_28 : decode cX5_putBehind 28 = .ok (.invokestatic 33, 3) := by decide +kernel
theorem dX5_putBehind_31 : decode cX5_putBehind 31 = .ok (.ifCond .ne 13, 3) := by decide +kernel
theorem dX5_putBehind_34 : decode cX5_putBehind 34 = .ok (.new 37, 3) := by decide +kernel
theorem dX5_putBehind_37 : decode cX5_putBehind 37 = .ok (.dup, 1) := by decide +kernel
theorem dX5_putBehind_38 : decode cX5_putBehind 38 = .ok (.ldc 39, 2) := by decide +kernel
theorem dX5_putBehind_40 : decode cX5_putBehind 40 = .ok (.invokespecial 41, 3) := by decide +kernel
theorem dX5_putBehind_43 : decode cX5_putBehind 43 = .ok (.athrow, 1) := by decide +kernel
theorem dX5_putBehind_44 : decode cX5_putBehind 44 = .ok (.aload_n 0, 1) := by decide +kernel
theorem dX5_putBehind_45 : decode cX5_putBehind 45 = .ok (.getfield 10, 3) := by decide +kernel
theorem dX5_putBehind_48 : decode cX5_putBehind 48 = .ok (.getfield 44, 3) := by decide +kernel
theorem dX5_putBehind_51 : decode cX5_putBehind 51 = .ok (.iload_n 3, 1) := by decide +kernel
theorem dX5_putBehind_52 : decode cX5_putBehind 52 = .ok (.invokevirtual 48, 3) := by decide +kernel
theorem dX5_putBehind_55 : decode cX5_putBehind 55 = .ok (.iconst (-1), 1) := by decide +kernel
theorem dX5_putBehind_56 : decode cX5_putBehind 56 = .ok (.if_icmp .ne 13, 3) := by decide +kernel
theorem dX5_putBehind_59 : decode cX5_putBehind 59 = .ok (.new 54, 3) := by decide +kernel
theorem dX5_putBehind_62 : decode cX5_putBehind 62 = .ok (.dup, 1) := by decide +kernel
theorem dX5_putBehind_63 : decode cX5_putBehind 63 = .ok (.ldc 56, 2) := by decide +kernel
theorem dX5_putBehind_65 : decode cX5_putBehind 65 = .ok (.invokespecial 58, 3) := by decide +kernel
theorem dX5_putBehind_68 : decode cX5_putBehind 68 = .ok (.athrow, 1) := by decide +kernel
theorem dX5_putBehind_69 : decode cX5_putBehind 69 = .ok (.aload_n 0, 1) := by decide +kernel
theorem dX5_putBehind_70 : decode cX5_putBehind 70 = .ok (.getfield 22, 3) := by decide +kernel
theorem dX5_putBehind_73 : decode cX5_putBehind 73 = .ok (.aload_n 0, 1) := by decide +kernel
theorem dX5_putBehind_74 : decode cX5_putBehind 74 = .ok (.getfield 10, 3) := by decide +kernel
theorem dX5_putBehind_77 : decode cX5_putBehind 77 = .ok (.invokevirtual 59, 3) := by decide +kernel
theorem dX5_putBehind_80 : decode cX5_putBehind 80 = .ok (.aload_n 0, 1) := by decide +kernel
theorem dX5_putBehind_81 : decode cX5_putBehind 81 = .ok (.getfield 10, 3) := by decide +kernel
theorem dX5_putBehind_84 : decode cX5_putBehind 84 = .ok (.getfield 78, 3) := by decide +kernel
theorem dX5_putBehind_87 : decode cX5_putBehind 87 = .ok (.iload_n 1, 1) := by decide +kernel
theorem dX5_putBehind_88 : decode cX5_putBehind 88 = .ok (.sipush 1000, 3) := by decide +kernel
theorem dX5_putBehind_91 : decode cX5_putBehind 91 = .ok (.idiv, 1) := by decide +kernel
theorem dX5_putBehind_92 : decode cX5_putBehind 92 = .ok (.invokevirtual 82, 3) := by decide +kernel
theorem dX5_putBehind_95 : decode cX5_putBehind 95 = .ok (.iconst 1, 1) := by decide +kernel
theorem dX5_putBehind_96 : decode cX5_putBehind 96 = .ok (.iadd, 1) := by decide +kernel
theorem dX5_putBehind_97 : decode cX5_putBehind 97 = .ok (.istore 5, 2) := by decide +kernel
theorem dX5_putBehind_99 : decode cX5_putBehind 99 = .ok (.aload_n 0, 1) := by decide +kernel
theorem dX5_putBehind_100 : decode cX5_putBehind 100 = .ok (.getfield 10, 3) := by decide +kernel
theorem dX5_putBehind_103 : decode cX5_putBehind 103 = .ok (.getfield 44, 3) := by decide +kernel
theorem dX5_putBehind_106 : decode cX5_putBehind 106 = .ok (.aload_n 0, 1) := by decide +kernel
theorem dX5_putBehind_107 : decode cX5_putBehind 107 = .ok (.getfield 10, 3) := by decide +kernel
theorem dX5_putBehind_110 : decode cX5_putBehind 110 = .ok (.iload 5, 2) := by decide +kernel
theorem dX5_putBehind_112 : decode cX5_putBehind 112 = .ok (.iload_n 2, 1) := by decide +kernel
theorem dX5_putBehind_113 : decode cX5_putBehind 113 = .ok (.iload_n 3, 1) := by decide +kernel
theorem dX5_putBehind_114 : decode cX5_putBehind 114 = .ok (.iload 4, 2) := by decide +kernel
theorem dX5_putBehind_116 : decode cX5_putBehind 116 = .ok (.invokevirtual 87, 3) := by decide +kernel
theorem dX5_putBehind_119 : decode cX5_putBehind 119 = .ok (.invokevirtual 67, 3) := by decide +kernel
theorem dX5_putBehind_122 : decode cX5_putBehind 122 = .ok (.ireturn, 1) := by decide +kernel
theorem dX5_remove_0 : decode cX5_remove 0 = .ok (.aload_n 0, 1) := by decide +kernel
theorem dX5_remove_1 : decode cX5_remove 1 = .ok (.getfield 10, 3) := by decide +kernel
theorem dX5_remove_4 : decode cX5_remove 4 = .ok (.getfield 44, 3) := by decide +kernel
theorem dX5_remove_7 : decode cX5_remove 7 = .ok (.iload_n 1, 1) := by decide +kernel
theorem dX5_remove_8 : decode cX5_remove 8 = .ok (.invokevirtual 70, 3) := by decide +kernel
theorem dX5_remove_11 : decode cX5_remove 11 = .ok (.ifCond .eq 13, 3) := by decide +kernel
theorem dX5_remove_14 : decode cX5_remove 14 = .ok (.new 73, 3) := by decide +kernel
theorem dX5_remove_17 : decode cX5_remove 17 = .ok (.dup, 1) := by decide +kernel
theorem dX5_remove_18 : decode cX5_remove 18 = .ok (.ldc 75, 2) := by decide +kernel
theorem dX5_remove_20 : decode cX5_remove 20 = .ok (.invokespecial 77, 3) := by decide +kernel
theorem dX5_remove_23 : decode cX5_remove 23 = .ok (.athrow, 1) := by decide +kernel
theorem dX5_remove_24 : decode cX5_remove 24 = .ok (.iload_n 1, 1) := by decide +kernel
theorem dX5_remove_25 : decode cX5_remove 25 = .ok (.sipush 1000, 3) := by decide +kernel
theorem dX5_remove_28 : decode cX5_remove 28 = .ok (.idiv, 1) := by decide +kernel
theorem dX5_remove_29 : decode cX5_remove 29 = .ok (.istore_n 2, 1) := by decide +kernel
theorem dX5_remove_30 : decode cX5_remove 30 = .ok (.aload_n 0, 1) := by decide +kernel
theorem dX5_remove_31 : decode cX5_remove 31 = .ok (.getfield 10, 3) := by decide +kernel
theorem dX5_remove_34 : decode cX5_remove 34 = .ok (.getfield 44, 3) := by decide +kernel
theorem dX5_remove_37 : decode cX5_remove 37 = .ok (.iload_n 2, 1) := by decide +kernel
theorem dX5_remove_38 : decode cX5_remove 38 = .ok (.invokevirtual 91, 3) := by decide +kernel
theorem dX5_remove_41 : decode cX5_remove 41 = .ok (.istore_n 3, 1) := by decide +kernel
theorem dX5_remove_42 : decode cX5_remove 42 = .ok (.aload_n 0, 1) := by decide +kernel
theorem dX5_remove_43 : decode cX5_remove 43 = .ok (.getfield 22, 3) := by decide +kernel
theorem dX5_remove_46 : decode cX5_remove 46 = .ok (.aload_n 0, 1) := by decide +kernel
theorem dX5_remove_47 : decode cX5_remove 47 = .ok (.getfield 10, 3) := by decide +kernel
theorem dX5_remove_50 : decode cX5_remove 50 = .ok (.invokevirtual 59, 3) := by decide +kernel
theorem dX5_remove_53 : decode cX5_remove 53 = .ok (.aload_n 0, 1) := by decide +kernel
theorem dX5_remove_54 : decode cX5_remove 54 = .ok (.getfield 10, 3) := by decide +kernel
theorem dX5_remove_57 : decode cX5_remove 57 = .ok (.iload_n 2, 1) := by decide +kernel
theorem dX5_remove_58 : decode cX5_remove 58 = .ok (.invokevirtual 94, 3) := by decide +kernel
theorem dX5_remove_61 : decode cX5_remove 61 = .ok (.iload_n 3, 1) := by decide +kernel
theorem dX5_remove_62 : decode cX5_remove 62 = .ok (.ireturn, 1) := by decide +kernel
theorem dX5_change_0 : decode cX5_change 0 = .ok (.aload_n 0, 1) := by decide +kernel
theorem dX5_change_1 : decode cX5_change 1 = .ok (.getfield 10, 3) := by decide +kernel
theorem dX5_change_4 : decode cX5_change 4 = .ok (.getfield 44, 3) := by decide +kernel
theorem dX5_change_7 : decode cX5_change 7 = .ok (.iload_n 1, 1) := by decide +kernel
theorem dX5_change_8 : decode cX5_change 8 = .ok (.invokevirtual 70, 3) := by decide +kernel
theorem dX5_change_11 : decode cX5_change 11 = .ok (.ifCond .eq 13, 3) := by decide +kernel
theorem dX5_change_14 : decode cX5_change 14 = .ok (.new 73, 3) := by decide +kernel
theorem dX5_change_17 : decode cX5_change 17 = .ok (.dup, 1) := by decide +kernel
theorem dX5_change_18 : decode cX5_change 18 = .ok (.ldc 75, 2) := by decide +kernel
theorem dX5_change_20 : decode cX5_change 20 = .ok (.invokespecial 77, 3) := by decide +kernel
theorem dX5_change_23 : decode cX5_change 23 = .ok (.athrow, 1) := by decide +kernel
theorem dX5_change_24 : decode cX5_change 24 = .ok (.iload_n 2, 1) := by decide +kernel
theorem dX5_change_25 : decode cX5_change 25 = .ok (.invokestatic 98, 3) := by decide +kernel
theorem dX5_change_28 : decode cX5_change 28 = .ok (.ifCond .ne 13, 3) := by decide +kernel
theorem dX5_change_31 : decode cX5_change 31 = .ok (.new 37, 3) := by decide +kernel
theorem dX5_change_34 : decode cX5_change 34 = .ok (.dup, 1) := by decide +kernel
theorem dX5_change_35 : decode cX5_change 35 = .ok (.ldc 102, 2) := by decide +kernel
theorem dX5_change_37 : decode cX5_change 37 = .ok (.invokespecial 41, 3) := by decide +kernel
theorem dX5_change_40 : decode cX5_change 40 = .ok (.athrow, 1) := by decide +kernel
theorem dX5_change_41 : decode cX5_change 41 = .ok (.iload_n 1, 1) := by decide +kernel
theorem dX5_change_42 : decode cX5_change 42 = .ok (.sipush 1000, 3) := by decide +kernel
theorem dX5_change_45 : decode cX5_change 45 = .ok (.idiv, 1) := by decide +kernel
theorem dX5_change_46 : decode cX5_change 46 = .ok (.istore_n 3, 1) := by decide +kernel
theorem dX5_change_47 : decode cX5_change 47 = .ok (.aload_n 0, 1) := by decide +kernel
theorem dX5_change_48 : decode cX5_change 48 = .ok (.getfield 10, 3) := by decide +kernel
theorem dX5_change_51 : decode cX5_change 51 = .ok (.getfield 44, 3) := by decide +kernel
theorem dX5_change_54 : decode cX5_change 54 = .ok (.iload_n 3, 1) := by decide +kernel
theorem dX5_change_55 : decode cX5_change 55 = .ok (.invokevirtual 91, 3) := by decide +kernel
theorem dX5_change_58 : decode cX5_change 58 = .ok (.istore 4, 2) := by decide +kernel
theorem dX5_change_60 : decode cX5_change 60 = .ok (.aload_n 0, 1) := by decide +kernel
theorem dX5_change_61 : decode cX5_change 61 = .ok (.getfield 22, 3) := by decide +kernel
theorem dX5_change_64 : decode cX5_change 64 = .ok (.aload_n 0, 1) := by decide +kernel
theorem dX5_change_65 : decode cX5_change 65 = .ok (.getfield 10, 3) := by decide +kernel
theorem dX5_change_68 : decode cX5_change 68 = .ok (.invokevirtual 59, 3) := by decide +kernel
theorem dX5_change_71 : decode cX5_change 71 = .ok (.aload_n 0, 1) := by decide +kernel
theorem dX5_change_72 : decode cX5_change 72 = .ok (.getfield 10, 3) := by decide +kernel
theorem dX5_change_75 : decode cX5_change 75 = .ok (.getfield 44, 3) := by decide +kernel
theorem dX5_change_78 : decode cX5_change 78 = .ok (.iload_n 3, 1) := by decide +kernel
theorem dX5_change_79 : decode cX5_change 79 = .ok (.iload_n 2, 1) := by decide +kernel
theorem dX5_change_80 : decode cX5_change 80 = .ok (.invokevirtual 104, 3) := by decide +kernel
theorem dX5_change_83 : decode cX5_change 83 = .ok (.iload 4, 2) := by decide +kernel
theorem dX5_change_85 : decode cX5_change 85 = .ok (.ireturn, 1) := by decide +kernel
theorem dX5_restart_0 : decode cX5_restart 0 = .ok (.iload_n 1, 1) := by decide +kernel
theorem dX5_restart_1 : decode cX5_restart 1 = .ok (.invokestatic 108, 3) := by decide +kernel
theorem dX5_restart_4 : decode cX5_restart 4 = .ok (.ifCond .ne 13, 3) := by decide +kernel
theorem dX5_restart_7 : decode cX5_restart 7 = .ok (.new 73, 3) := by decide +kernel
theorem dX5_restart_10 : decode cX5_restart 10 = .ok (.dup, 1) := by decide +kernel
theorem dX5_restart_11 : decode cX5_restart 11 = .ok (.ldc 111, 2) := by decide +kernel
theorem dX5_restart_13 : decode cX5_restart 13 = .ok (.invokespecial 77, 3) := by decide +kernel
theorem dX5_restart_16 : decode cX5_restart 16 = .ok (.athrow, 1) := by decide +kernel
theorem dX5_restart_17 : decode cX5_restart 17 = .ok (.aload_n 0, 1) := by decide +kernel
theorem dX5_restart_18 : decode cX5_restart 18 = .ok (.getfield 10, 3) := by decide +kernel
theorem dX5_restart_21 : decode cX5_restart 21 = .ok (.getfield 78, 3) := by decide +kernel
theorem dX5_restart_24 : decode cX5_restart 24 = .ok (.iload_n 1, 1) := by decide +kernel
theorem dX5_restart_25 : decode cX5_restart 25 = .ok (.invokevirtual 113, 3) := by decide +kernel
theorem dX5_restart_28 : decode cX5_restart 28 = .ok (.istore_n 2, 1) := by decide +kernel
theorem dX5_restart_29 : decode cX5_restart 29 = .ok (.aload_n 0, 1) := by decide +kernel
theorem dX5_restart_30 : decode cX5_restart 30 = .ok (.getfield 22, 3) := by decide +kernel
theorem dX5_restart_33 : decode cX5_restart 33 = .ok (.aload_n 0, 1) := by decide +kernel
theorem dX5_restart_34 : decode cX5_restart 34 = .ok (.getfield 10, 3) := by decide +kernel
theorem dX5_restart_37 : decode cX5_restart 37 = .ok (.invokevirtual 59, 3) := by decide +kernel
theorem dX5_restart_40 : decode cX5_restart 40 = .ok (.aload_n 0, 1) := by decide +kernel
theorem dX5_restart_41 : decode cX5_restart 41 = .ok (.getfield 10, 3) := by decide +kernel
theorem dX5_restart_44 : decode cX5_restart 44 = .ok (.getfield 78, 3) := by decide +kernel
theorem dX5_restart_47 : decode cX5_restart 47 = .ok (.iload_n 1, 1) := by decide +kernel
theorem dX5_restart_48 : decode cX5_restart 48 = .ok (.invokevirtual 116, 3) := by decide +kernel
theorem dX5_restart_51 : decode cX5_restart 51 = .ok (.iload_n 2, 1) := by decide +kernel
theorem dX5_restart_52 : decode cX5_restart 52 = .ok (.ireturn, 1) := by decide +kernel
theorem dX5_goOn_0 : decode cX5_goOn 0 = .ok (.iload_n 1, 1) := by decide +kernel
theorem dX5_goOn_1 : decode cX5_goOn 1 = .ok (.invokestatic 108, 3) := by decide +kernel
theorem dX5_goOn_4 : decode cX5_goOn 4 = .ok (.ifCond .ne 13, 3) := by decide +kernel
theorem dX5_goOn_7 : decode cX5_goOn 7 = .ok (.new 73, 3) := by decide +kernel
theorem dX5_goOn_10 : decode cX5_goOn 10 = .ok (.dup, 1) := by decide +kernel
theorem dX5_goOn_11 : decode cX5_goOn 11 = .ok (.ldc 111, 2) := by decide +kernel
theorem dX5_goOn_13 : decode cX5_goOn 13 = .ok (.invokespecial 77, 3) := by decide +kernel
theorem dX5_goOn_16 : decode cX5_goOn 16 = .ok (.athrow, 1) := by decide +kernel
theorem dX5_goOn_17 : decode cX5_goOn 17 = .ok (.aload_n 0, 1) := by decide +kernel
theorem dX5_goOn_18 : decode cX5_goOn 18 = .ok (.getfield 22, 3) := by decide +kernel
theorem dX5_goOn_21 : decode cX5_goOn 21 = .ok (.aload_n 0, 1) := by decide +kernel
theorem dX5_goOn_22 : decode cX5_goOn 22 = .ok (.getfield 10, 3) := by decide +kernel
theorem dX5_goOn_25 : decode cX5_goOn 25 = .ok (.invokevirtual 59, 3) := by decide +kernel
theorem dX5_goOn_28 : decode cX5_goOn 28 = .ok (.aload_n 0, 1) := by decide +kernel
theorem dX5_goOn_29 : decode cX5_goOn 29 = .ok (.getfield 10, 3) := by decide +kernel
theorem dX5_goOn_32 : decode cX5_goOn 32 = .ok (.getfield 78, 3) := by decide +kernel
theorem dX5_goOn_35 : decode cX5_goOn 35 = .ok (.iload_n 1, 1) := by decide +kernel
theorem dX5_goOn_36 : decode cX5_goOn 36 = .ok (.invokevirtual 119, 3) := by decide +kernel
theorem dX5_goOn_39 : decode cX5_goOn 39 = .ok (.aload_n 0, 1) := by decide +kernel
theorem dX5_goOn_40 : decode cX5_goOn 40 = .ok (.getfield 10, 3) := by decide +kernel
theorem dX5_goOn_43 : decode cX5_goOn 43 = .ok (.getfield 44, 3) := by decide +kernel
theorem dX5_goOn_46 : decode cX5_goOn 46 = .ok (.aload_n 0, 1) := by decide +kernel
theorem dX5_goOn_47 : decode cX5_goOn 47 = .ok (.getfield 10, 3) := by decide +kernel
theorem dX5_goOn_50 : decode cX5_goOn 50 = .ok (.getfield 78, 3) := by decide +kernel
theorem dX5_goOn_53 : decode cX5_goOn 53 = .ok (.iload_n 1, 1) := by decide +kernel
theorem dX5_goOn_54 : decode cX5_goOn 54 = .ok (.invokevirtual 122, 3) := by decide +kernel
theorem dX5_goOn_57 : decode cX5_goOn 57 = .ok (.invokevirtual 67, 3) := by decide +kernel
theorem dX5_goOn_60 : decode cX5_goOn 60 = .ok (.ireturn, 1) := by decide +kernel
theorem dX5_take_0 : decode cX5_take 0 = .ok (.iload_n 1, 1) := by decide +kernel
theorem dX5_take_1 : decode cX5_take 1 = .ok (.invokestatic 108, 3) := by decide +kernel
theorem dX5_take_4 : decode cX5_take 4 = .ok (.ifCond .ne 13, 3) := by decide +kernel
theorem dX5_take_7 : decode cX5_take 7 = .ok (.new 73, 3) := by decide +kernel
theorem dX5_take_10 : decode cX5_take 10 = .ok (.dup, 1) := by decide +kernel
theorem dX5_take_11 : decode cX5_take 11 = .ok (.ldc 111, 2) := by decide +kernel
theorem dX5_take_13 : decode cX5_take 13 = .ok (.invokespecial 77, 3) := by decide +kernel
theorem dX5_take_16 : decode cX5_take 16 = .ok (.athrow, 1) := by decide +kernel
theorem dX5_take_17 : decode cX5_take 17 = .ok (.aload_n 0, 1) := by decide +kernel
theorem dX5_take_18 : decode cX5_take 18 = .ok (.getfield 10, 3) := by decide +kernel
theorem dX5_take_21 : decode cX5_take 21 = .ok (.getfield 78, 3) := by decide +kernel
theorem dX5_take_24 : decode cX5_take 24 = .ok (.iload_n 1, 1) := by decide +kernel
theorem dX5_take_25 : decode cX5_take 25 = .ok (.invokevirtual 122, 3) := by decide +kernel
theorem dX5_take_28 : decode cX5_take 28 = .ok (.istore_n 2, 1) := by decide +kernel
theorem dX5_take_29 : decode cX5_take 29 = .ok (.iload_n 2, 1) := by decide +kernel
theorem dX5_take_30 : decode cX5_take 30 = .ok (.iconst (-1), 1) := by decide +kernel
theorem dX5_take_31 : decode cX5_take 31 = .ok (.if_icmp .ne 13, 3) := by decide +kernel
theorem dX5_take_34 : decode cX5_take 34 = .ok (.new 54, 3) := by decide +kernel
theorem dX5_take_37 : decode cX5_take 37 = .ok (.dup, 1) := by decide +kernel
theorem dX5_take_38 : decode cX5_take 38 = .ok (.ldc 125, 2) := by decide +kernel
theorem dX5_take_40 : decode cX5_take 40 = .ok (.invokespecial 58, 3) := by decide +kernel
theorem dX5_take_43 : decode cX5_take 43 = .ok (.athrow, 1) := by decide +kernel
theorem dX5_take_44 : decode cX5_take 44 = .ok (.aload_n 0, 1) := by decide +kernel
theorem dX5_take_45 : decode cX5_take 45 = .ok (.getfield 10, 3) := by decide +kernel
theorem dX5_take_48 : decode cX5_take 48 = .ok (.getfield 44, 3) := by decide +kernel
theorem dX5_take_51 : decode cX5_take 51 = .ok (.iload_n 2, 1) := by decide +kernel
theorem dX5_take_52 : decode cX5_take 52 = .ok (.invokevirtual 91, 3) := by decide +kernel
theorem dX5_take_55 : decode cX5_take 55 = .ok (.istore_n 3, 1) := by decide +kernel
theorem dX5_take_56 : decode cX5_take 56 = .ok (.aload_n 0, 1) := by decide +kernel
theorem dX5_take_57 : decode cX5_take 57 = .ok (.getfield 22, 3) := by decide +kernel
theorem dX5_take_60 : decode cX5_take 60 = .ok (.aload_n 0, 1) := by decide +kernel
theorem dX5_take_61 : decode cX5_take 61 = .ok (.getfield 10, 3) := by decide +kernel
theorem dX5_take_64 : decode cX5_take 64 = .ok (.invokevirtual 59, 3) := by decide +kernel
theorem dX5_take_67 : decode cX5_take 67 = .ok (.aload_n 0, 1) := by decide +kernel
theorem dX5_take_68 : decode cX5_take 68 = .ok (.getfield 10, 3) := by decide +kernel
theorem dX5_take_71 : decode cX5_take 71 = .ok (.iload_n 2, 1) := by decide +kernel
theorem dX5_take_72 : decode cX5_take 72 = .ok (.invokevirtual 94, 3) := by decide +kernel
theorem dX5_take_75 : decode cX5_take 75 = .ok (.iload_n 3, 1) := by decide +kernel
theorem dX5_take_76 : decode cX5_take 76 = .ok (.ireturn, 1) := by decide +kernel
theorem dX5_fire_0 : decode cX5_fire 0 = .ok (.aload_n 0, 1) := by decide +kernel
theorem dX5_fire_1 : decode cX5_fire 1 = .ok (.getfield 22, 3) := by decide +kernel
theorem dX5_fire_4 : decode cX5_fire 4 = .ok (.aload_n 0, 1) := by decide +kernel
theorem dX5_fire_5 : decode cX5_fire 5 = .ok (.getfield 10, 3) := by decide +kernel
theorem dX5_fire_8 : decode cX5_fire 8 = .ok (.invokevirtual 59, 3) := by decide +kernel
theorem dX5_fire_11 : decode cX5_fire 11 = .ok (.aload_n 0, 1) := by decide +kernel
theorem dX5_fire_12 : decode cX5_fire 12 = .ok (.getfield 10, 3) := by decide +kernel
theorem dX5_fire_15 : decode cX5_fire 15 = .ok (.invokevirtual 127, 3) := by decide +kernel
theorem dX5_fire_18 : decode cX5_fire 18 = .ok (.ireturn, 1) := by decide +kernel
theorem dX5_together_0 : decode cX5_together 0 = .ok (.aload_n 0, 1) := by decide +kernel
theorem dX5_together_1 : decode cX5_together 1 = .ok (.getfield 22, 3) := by decide +kernel
theorem dX5_together_4 : decode cX5_together 4 = .ok (.aload_n 0, 1) := by decide +kernel
theorem dX5_together_5 : decode cX5_together 5 = .ok (.getfield 10, 3) := by decide +kernel
theorem dX5_together_8 : decode cX5_together 8 = .ok (.invokevirtual 59, 3) := by decide +kernel
theorem dX5_together_11 : decode cX5_together 11 = .ok (.aload_n 0, 1) := by decide +kernel
theorem dX5_together_12 : decode cX5_together 12 = .ok (.getfield 10, 3) := by decide +kernel
theorem dX5_together_15 : decode cX5_together 15 = .ok (.invokevirtual 131, 3) := by decide +kernel
theorem dX5_together_18 : decode cX5_together 18 = .ok (.ireturn, 1) := by decide +kernel
theorem dX5_append_0 : decode cX5_append 0 = .ok (.iload_n 1, 1) := by decide +kernel
theorem dX5_append_1 : decode cX5_append 1 = .ok (.bipush 33, 2) := by decide +kernel
theorem dX5_append_3 : decode cX5_append 3 = .ok (.if_icmp .lt 9, 3) := by decide +kernel
theorem dX5_append_6 : decode cX5_append 6 = .ok (.iload_n 1, 1) := by decide +kernel
theorem dX5_append_7 : decode cX5_append 7 = .ok (.bipush 126, 2) := by decide +kernel
theorem dX5_append_9 : decode cX5_append 9 = .ok (.if_icmp .le 13, 3) := by decide +kernel
theorem dX5_append_12 : decode cX5_append 12 = .ok (.new 37, 3) := by decide +kernel
theorem dX5_append_15 : decode cX5_append 15 = .ok (.dup, 1) := by decide +kernel
theorem dX5_append_16 : decode cX5_append 16 = .ok (.ldc 134, 2) := by decide +kernel
theorem dX5_append_18 : decode cX5_append 18 = .ok (.invokespecial 41, 3) := by decide +kernel
theorem dX5_append_21 : decode cX5_append 21 = .ok (.athrow, 1) := by decide +kernel
theorem dX5_append_22 : decode cX5_append 22 = .ok (.aload_n 0, 1) := by decide +kernel
theorem dX5_append_23 : decode cX5_append 23 = .ok (.getfield 29, 3) := by decide +kernel
theorem dX5_append_26 : decode cX5_append 26 = .ok (.invokevirtual 136, 3) := by decide +kernel
theorem dX5_append_29 : decode cX5_append 29 = .ok (.ifCond .eq 13, 3) := by decide +kernel
theorem dX5_append_32 : decode cX5_append 32 = .ok (.new 54, 3) := by decide +kernel
theorem dX5_append_35 : decode cX5_append 35 = .ok (.dup, 1) := by decide +kernel
theorem dX5_append_36 : decode cX5_append 36 = .ok (.ldc 140, 2) := by decide +kernel
theorem dX5_append_38 : decode cX5_append 38 = .ok (.invokespecial 58, 3) := by decide +kernel
theorem dX5_append_41 : decode cX5_append 41 = .ok (.athrow, 1) := by decide +kernel
theorem dX5_append_42 : decode cX5_append 42 = .ok (.aload_n 0, 1) := by decide +kernel
theorem dX5_append_43 : decode cX5_append 43 = .ok (.getfield 29, 3) := by decide +kernel
theorem dX5_append_46 : decode cX5_append 46 = .ok (.iload_n 1, 1) := by decide +kernel
theorem dX5_append_47 : decode cX5_append 47 = .ok (.invokevirtual 142, 3) := by decide +kernel
theorem dX5_append_50 : decode cX5_append 50 = .ok (.aload_n 0, 1) := by decide +kernel
theorem dX5_append_51 : decode cX5_append 51 = .ok (.getfield 29, 3) := by decide +kernel
theorem dX5_append_54 : decode cX5_append 54 = .ok (.invokevirtual 145, 3) := by decide +kernel
theorem dX5_append_57 : decode cX5_append 57 = .ok (.ireturn, 1) := by decide +kernel
theorem dX5_clearBuffer_0 : decode cX5_clearBuffer 0 = .ok (.aload_n 0, 1) := by decide +kernel
theorem dX5_clearBuffer_1 : decode cX5_clearBuffer 1 = .ok (.getfield 29, 3) := by decide +kernel
theorem dX5_clearBuffer_4 : decode cX5_clearBuffer 4 = .ok (.invokevirtual 145, 3) := by decide +kernel
theorem dX5_clearBuffer_7 : decode cX5_clearBuffer 7 = .ok (.istore_n 1, 1) := by decide +kernel
theorem dX5_clearBuffer_8 : decode cX5_clearBuffer 8 = .ok (.aload_n 0, 1) := by decide +kernel
theorem dX5_clearBuffer_9 : decode cX5_clearBuffer 9 = .ok (.getfield 29, 3) := by decide +kernel
theorem dX5_clearBuffer_12 : decode cX5_clearBuffer 12 = .ok (.invokevirtual 148, 3) := by decide +kernel
theorem dX5_clearBuffer_15 : decode cX5_clearBuffer 15 = .ok (.iload_n 1, 1) := by decide +kernel
theorem dX5_clearBuffer_16 : decode cX5_clearBuffer 16 = .ok (.ireturn, 1) := by decide +kernel
theorem dX5_firstError_0 : decode cX5_firstError 0 = .ok (.aload_n 0, 1) := by decide +kernel
theorem dX5_firstError_1 : decode cX5_firstError 1 = .ok (.getfield 29, 3) := by decide +kernel
theorem dX5_firstError_4 : decode cX5_firstError 4 = .ok (.invokevirtual 151, 3) := by decide +kernel
theorem dX5_firstError_7 : decode cX5_firstError 7 = .ok (.ireturn, 1) := by decide +kernel
theorem dX5_putAll_0 : decode cX5_putAll 0 = .ok (.aload_n 0, 1) := by decide +kernel
theorem dX5_putAll_1 : decode cX5_putAll 1 = .ok (.getfield 29, 3) := by decide +kernel
theorem dX5_putAll_4 : decode cX5_putAll 4 = .ok (.invokevirtual 154, 3) := by decide +kernel
theorem dX5_putAll_7 : decode cX5_putAll 7 = .ok (.ifCond .ne 13, 3) := by decide +kernel
theorem dX5_putAll_10 : decode cX5_putAll 10 = .ok (.new 37, 3) := by decide +kernel
theorem dX5_putAll_13 : decode cX5_putAll 13 = .ok (.dup, 1) := by decide +kernel
theorem dX5_putAll_14 : decode cX5_putAll 14 = .ok (.ldc 157, 2) := by decide +kernel
theorem dX5_putAll_16 : decode cX5_putAll 16 = .ok (.invokespecial 41, 3) := by decide +kernel
theorem dX5_putAll_19 : decode cX5_putAll 19 = .ok (.athrow, 1) := by decide +kernel
theorem dX5_putAll_20 : decode cX5_putAll 20 = .ok (.aload_n 0, 1) := by decide +kernel
theorem dX5_putAll_21 : decode cX5_putAll 21 = .ok (.getfield 22, 3) := by decide +kernel
theorem dX5_putAll_24 : decode cX5_putAll 24 = .ok (.aload_n 0, 1) := by decide +kernel
theorem dX5_putAll_25 : decode cX5_putAll 25 = .ok (.getfield 10, 3) := by decide +kernel
theorem dX5_putAll_28 : decode cX5_putAll 28 = .ok (.invokevirtual 59, 3) := by decide +kernel
theorem dX5_putAll_31 : decode cX5_putAll 31 = .ok (.aload_n 0, 1) := by decide +kernel
theorem dX5_putAll_32 : decode cX5_putAll 32 = .ok (.invokevirtual 159, 3) := by decide +kernel
theorem dX5_putAll_35 : decode cX5_putAll 35 = .ok (.istore_n 1, 1) := by decide +kernel
theorem dX5_putAll_36 : decode cX5_putAll 36 = .ok (.aload_n 0, 1) := by decide +kernel
theorem dX5_putAll_37 : decode cX5_putAll 37 = .ok (.getfield 29, 3) := by decide +kernel
theorem dX5_putAll_40 : decode cX5_putAll 40 = .ok (.invokevirtual 148, 3) := by decide +kernel
theorem dX5_putAll_43 : decode cX5_putAll 43 = .ok (.iload_n 1, 1) := by decide +kernel
theorem dX5_putAll_44 : decode cX5_putAll 44 = .ok (.ireturn, 1) := by decide +kernel
theorem dX5_undo_0 : decode cX5_undo 0 = .ok (.aload_n 0, 1) := by decide +kernel
theorem dX5_undo_1 : decode cX5_undo 1 = .ok (.getfield 22, 3) := by decide +kernel
theorem dX5_undo_4 : decode cX5_undo 4 = .ok (.invokevirtual 162, 3) := by decide +kernel
theorem dX5_undo_7 : decode cX5_undo 7 = .ok (.ifCond .ne 13, 3) := by decide +kernel
theorem dX5_undo_10 : decode cX5_undo 10 = .ok (.new 54, 3) := by decide +kernel
theorem dX5_undo_13 : decode cX5_undo 13 = .ok (.dup, 1) := by decide +kernel
theorem dX5_undo_14 : decode cX5_undo 14 = .ok (.ldc 163, 2) := by decide +kernel
theorem dX5_undo_16 : decode cX5_undo 16 = .ok (.invokespecial 58, 3) := by decide +kernel
theorem dX5_undo_19 : decode cX5_undo 19 = .ok (.athrow, 1) := by decide +kernel
theorem dX5_undo_20 : decode cX5_undo 20 = .ok (.aload_n 0, 1) := by decide +kernel
theorem dX5_undo_21 : decode cX5_undo 21 = .ok (.getfield 22, 3) := by decide +kernel
theorem dX5_undo_24 : decode cX5_undo 24 = .ok (.aload_n 0, 1) := by decide +kernel
theorem dX5_undo_25 : decode cX5_undo 25 = .ok (.getfield 10, 3) := by decide +kernel
theorem dX5_undo_28 : decode cX5_undo 28 = .ok (.invokevirtual 165, 3) := by decide +kernel
theorem dX5_undo_31 : decode cX5_undo 31 = .ok (.aload_n 0, 1) := by decide +kernel
theorem dX5_undo_32 : decode cX5_undo 32 = .ok (.getfield 22, 3) := by decide +kernel
theorem dX5_undo_35 : decode cX5_undo 35 = .ok (.invokevirtual 162, 3) := by decide +kernel
theorem dX5_undo_38 : decode cX5_undo 38 = .ok (.ireturn, 1) := by decide +kernel
theorem dX5_refusal_0 : decode cX5_refusal 0 = .ok (.aload_n 0, 1) := by decide +kernel
theorem dX5_refusal_1 : decode cX5_refusal 1 = .ok (.getfield 10, 3) := by decide +kernel
theorem dX5_refusal_4 : decode cX5_refusal 4 = .ok (.getfield 44, 3) := by decide +kernel
theorem dX5_refusal_7 : decode cX5_refusal 7 = .ok (.iload_n 1, 1) := by decide +kernel
theorem dX5_refusal_8 : decode cX5_refusal 8 = .ok (.invokevirtual 70, 3) := by decide +kernel
theorem dX5_refusal_11 : decode cX5_refusal 11 = .ok (.ireturn, 1) := by decide +kernel
theorem dX5_thing_0 : decode cX5_thing 0 = .ok (.aload_n 0, 1) := by decide +kernel
theorem dX5_thing_1 : decode cX5_thing 1 = .ok (.getfield 10, 3) := by decide +kernel
theorem dX5_thing_4 : decode cX5_thing 4 = .ok (.getfield 44, 3) := by decide +kernel
theorem dX5_thing_7 : decode cX5_thing 7 = .ok (.iload_n 1, 1) := by decide +kernel
theorem dX5_thing_8 : decode cX5_thing 8 = .ok (.invokevirtual 70, 3) := by decide +kernel
theorem dX5_thing_11 : decode cX5_thing 11 = .ok (.ifCond .eq 13, 3) := by decide +kernel
theorem dX5_thing_14 : decode cX5_thing 14 = .ok (.new 73, 3) := by decide +kernel
theorem dX5_thing_17 : decode cX5_thing 17 = .ok (.dup, 1) := by decide +kernel
theorem dX5_thing_18 : decode cX5_thing 18 = .ok (.ldc 75, 2) := by decide +kernel
theorem dX5_thing_20 : decode cX5_thing 20 = .ok (.invokespecial 77, 3) := by decide +kernel
theorem dX5_thing_23 : decode cX5_thing 23 = .ok (.athrow, 1) := by decide +kernel
theorem dX5_thing_24 : decode cX5_thing 24 = .ok (.iload_n 1, 1) := by decide +kernel
theorem dX5_thing_25 : decode cX5_thing 25 = .ok (.sipush 1000, 3) := by decide +kernel
theorem dX5_thing_28 : decode cX5_thing 28 = .ok (.idiv, 1) := by decide +kernel
theorem dX5_thing_29 : decode cX5_thing 29 = .ok (.istore_n 3, 1) := by decide +kernel
theorem dX5_thing_30 : decode cX5_thing 30 = .ok (.iload_n 2, 1) := by decide +kernel
theorem dX5_thing_31 : decode cX5_thing 31 = .ok (.tableswitch 119 0 5 #[37, 49, 61, 73, 85, 97], 37) := by decide +kernel
theorem dX5_thing_68 : decode cX5_thing 68 = .ok (.aload_n 0, 1) := by decide +kernel
theorem dX5_thing_69 : decode cX5_thing 69 = .ok (.getfield 10, 3) := by decide +kernel
theorem dX5_thing_72 : decode cX5_thing 72 = .ok (.getfield 44, 3) := by decide +kernel
theorem dX5_thing_75 : decode cX5_thing 75 = .ok (.iload_n 3, 1) := by decide +kernel
theorem dX5_thing_76 : decode cX5_thing 76 = .ok (.invokevirtual 91, 3) := by decide +kernel
theorem dX5_thing_79 : decode cX5_thing 79 = .ok (.ireturn, 1) := by decide +kernel
theorem dX5_thing_80 : decode cX5_thing 80 = .ok (.aload_n 0, 1) := by decide +kernel
theorem dX5_thing_81 : decode cX5_thing 81 = .ok (.getfield 10, 3) := by decide +kernel
theorem dX5_thing_84 : decode cX5_thing 84 = .ok (.getfield 44, 3) := by decide +kernel
theorem dX5_thing_87 : decode cX5_thing 87 = .ok (.iload_n 3, 1) := by decide +kernel
theorem dX5_thing_88 : decode cX5_thing 88 = .ok (.invokevirtual 168, 3) := by decide +kernel
theorem dX5_thing_91 : decode cX5_thing 91 = .ok (.ireturn, 1) := by decide +kernel
theorem dX5_thing_92 : decode cX5_thing 92 = .ok (.aload_n 0, 1) := by decide +kernel
theorem dX5_thing_93 : decode cX5_thing 93 = .ok (.getfield 10, 3) := by decide +kernel
theorem dX5_thing_96 : decode cX5_thing 96 = .ok (.getfield 44, 3) := by decide +kernel
theorem dX5_thing_99 : decode cX5_thing 99 = .ok (.iload_n 3, 1) := by decide +kernel
theorem dX5_thing_100 : decode cX5_thing 100 = .ok (.invokevirtual 171, 3) := by decide +kernel
theorem dX5_thing_103 : decode cX5_thing 103 = .ok (.ireturn, 1) := by decide +kernel
theorem dX5_thing_104 : decode cX5_thing 104 = .ok (.aload_n 0, 1) := by decide +kernel
theorem dX5_thing_105 : decode cX5_thing 105 = .ok (.getfield 10, 3) := by decide +kernel
theorem dX5_thing_108 : decode cX5_thing 108 = .ok (.getfield 44, 3) := by decide +kernel
theorem dX5_thing_111 : decode cX5_thing 111 = .ok (.iload_n 3, 1) := by decide +kernel
theorem dX5_thing_112 : decode cX5_thing 112 = .ok (.invokevirtual 174, 3) := by decide +kernel
theorem dX5_thing_115 : decode cX5_thing 115 = .ok (.ireturn, 1) := by decide +kernel
theorem dX5_thing_116 : decode cX5_thing 116 = .ok (.aload_n 0, 1) := by decide +kernel
theorem dX5_thing_117 : decode cX5_thing 117 = .ok (.getfield 10, 3) := by decide +kernel
theorem dX5_thing_120 : decode cX5_thing 120 = .ok (.getfield 78, 3) := by decide +kernel
theorem dX5_thing_123 : decode cX5_thing 123 = .ok (.iload_n 3, 1) := by decide +kernel
theorem dX5_thing_124 : decode cX5_thing 124 = .ok (.invokevirtual 177, 3) := by decide +kernel
theorem dX5_thing_127 : decode cX5_thing 127 = .ok (.ireturn, 1) := by decide +kernel
theorem dX5_thing_128 : decode cX5_thing 128 = .ok (.aload_n 0, 1) := by decide +kernel
theorem dX5_thing_129 : decode cX5_thing 129 = .ok (.getfield 10, 3) := by decide +kernel
theorem dX5_thing_132 : decode cX5_thing 132 = .ok (.getfield 78, 3) := by decide +kernel
theorem dX5_thing_135 : decode cX5_thing 135 = .ok (.aload_n 0, 1) := by decide +kernel
theorem dX5_thing_136 : decode cX5_thing 136 = .ok (.getfield 10, 3) := by decide +kernel
theorem dX5_thing_139 : decode cX5_thing 139 = .ok (.getfield 78, 3) := by decide +kernel
theorem dX5_thing_142 : decode cX5_thing 142 = .ok (.iload_n 3, 1) := by decide +kernel
theorem dX5_thing_143 : decode cX5_thing 143 = .ok (.invokevirtual 82, 3) := by decide +kernel
theorem dX5_thing_146 : decode cX5_thing 146 = .ok (.invokevirtual 180, 3) := by decide +kernel
theorem dX5_thing_149 : decode cX5_thing 149 = .ok (.ireturn, 1) := by decide +kernel
theorem dX5_thing_150 : decode cX5_thing 150 = .ok (.new 37, 3) := by decide +kernel
theorem dX5_thing_153 : decode cX5_thing 153 = .ok (.dup, 1) := by decide +kernel
theorem dX5_thing_154 : decode cX5_thing 154 = .ok (.ldc 183, 2) := by decide +kernel
theorem dX5_thing_156 : decode cX5_thing 156 = .ok (.invokespecial 41, 3) := by decide +kernel
theorem dX5_thing_159 : decode cX5_thing 159 = .ok (.athrow, 1) := by decide +kernel
theorem dX5_at_0 : decode cX5_at 0 = .ok (.iload_n 1, 1) := by decide +kernel
theorem dX5_at_1 : decode cX5_at 1 = .ok (.ifCond .ge 13, 3) := by decide +kernel
theorem dX5_at_4 : decode cX5_at 4 = .ok (.new 37, 3) := by decide +kernel
theorem dX5_at_7 : decode cX5_at 7 = .ok (.dup, 1) := by decide +kernel
theorem dX5_at_8 : decode cX5_at 8 = .ok (.ldc 185, 2) := by decide +kernel
theorem dX5_at_10 : decode cX5_at 10 = .ok (.invokespecial 41, 3) := by decide +kernel
theorem dX5_at_13 : decode cX5_at 13 = .ok (.athrow, 1) := by decide +kernel
theorem dX5_at_14 : decode cX5_at 14 = .ok (.aload_n 0, 1) := by decide +kernel
theorem dX5_at_15 : decode cX5_at 15 = .ok (.getfield 10, 3) := by decide +kernel
theorem dX5_at_18 : decode cX5_at 18 = .ok (.getfield 44, 3) := by decide +kernel
theorem dX5_at_21 : decode cX5_at 21 = .ok (.aload_n 0, 1) := by decide +kernel
theorem dX5_at_22 : decode cX5_at 22 = .ok (.getfield 10, 3) := by decide +kernel
theorem dX5_at_25 : decode cX5_at 25 = .ok (.getfield 78, 3) := by decide +kernel
theorem dX5_at_28 : decode cX5_at 28 = .ok (.iload_n 1, 1) := by decide +kernel
theorem dX5_at_29 : decode cX5_at 29 = .ok (.invokevirtual 187, 3) := by decide +kernel
theorem dX5_at_32 : decode cX5_at 32 = .ok (.invokevirtual 67, 3) := by decide +kernel
theorem dX5_at_35 : decode cX5_at 35 = .ok (.ireturn, 1) := by decide +kernel
theorem dX5_cell_0 : decode cX5_cell 0 = .ok (.aload_n 0, 1) := by decide +kernel
theorem dX5_cell_1 : decode cX5_cell 1 = .ok (.getfield 10, 3) := by decide +kernel
theorem dX5_cell_4 : decode cX5_cell 4 = .ok (.getfield 44, 3) := by decide +kernel
theorem dX5_cell_7 : decode cX5_cell 7 = .ok (.iload_n 1, 1) := by decide +kernel
theorem dX5_cell_8 : decode cX5_cell 8 = .ok (.invokevirtual 190, 3) := by decide +kernel
theorem dX5_cell_11 : decode cX5_cell 11 = .ok (.ifCond .ne 13, 3) := by decide +kernel
theorem dX5_cell_14 : decode cX5_cell 14 = .ok (.new 73, 3) := by decide +kernel
theorem dX5_cell_17 : decode cX5_cell 17 = .ok (.dup, 1) := by decide +kernel
theorem dX5_cell_18 : decode cX5_cell 18 = .ok (.ldc 193, 2) := by decide +kernel
theorem dX5_cell_20 : decode cX5_cell 20 = .ok (.invokespecial 77, 3) := by decide +kernel
theorem dX5_cell_23 : decode cX5_cell 23 = .ok (.athrow, 1) := by decide +kernel
theorem dX5_cell_24 : decode cX5_cell 24 = .ok (.iload_n 2, 1) := by decide +kernel
theorem dX5_cell_25 : decode cX5_cell 25 = .ok (.lookupswitch 61 #[(0, 27), (1, 39)], 27) := by decide +kernel
theorem dX5_cell_52 : decode cX5_cell 52 = .ok (.aload_n 0, 1) := by decide +kernel
theorem dX5_cell_53 : decode cX5_cell 53 = .ok (.getfield 10, 3) := by decide +kernel
theorem dX5_cell_56 : decode cX5_cell 56 = .ok (.getfield 44, 3) := by decide +kernel
theorem dX5_cell_59 : decode cX5_cell 59 = .ok (.iload_n 1, 1) := by decide +kernel
theorem dX5_cell_60 : decode cX5_cell 60 = .ok (.invokevirtual 195, 3) := by decide +kernel
theorem dX5_cell_63 : decode cX5_cell 63 = .ok (.ireturn, 1) := by decide +kernel
theorem dX5_cell_64 : decode cX5_cell 64 = .ok (.aload_n 0, 1) := by decide +kernel
theorem dX5_cell_65 : decode cX5_cell 65 = .ok (.getfield 10, 3) := by decide +kernel
theorem dX5_cell_68 : decode cX5_cell 68 = .ok (.getfield 44, 3) := by decide +kernel
theorem dX5_cell_71 : decode cX5_cell 71 = .ok (.aload_n 0, 1) := by decide +kernel
theorem dX5_cell_72 : decode cX5_cell 72 = .ok (.getfield 10, 3) := by decide +kernel
theorem dX5_cell_75 : decode cX5_cell 75 = .ok (.getfield 44, 3) := by decide +kernel
theorem dX5_cell_78 : decode cX5_cell 78 = .ok (.iload_n 1, 1) := by decide +kernel
theorem dX5_cell_79 : decode cX5_cell 79 = .ok (.invokevirtual 198, 3) := by decide +kernel
theorem dX5_cell_82 : decode cX5_cell 82 = .ok (.invokevirtual 67, 3) := by decide +kernel
theorem dX5_cell_85 : decode cX5_cell 85 = .ok (.ireturn, 1) := by decide +kernel
theorem dX5_cell_86 : decode cX5_cell 86 = .ok (.new 37, 3) := by decide +kernel
theorem dX5_cell_89 : decode cX5_cell 89 = .ok (.dup, 1) := by decide +kernel
theorem dX5_cell_90 : decode cX5_cell 90 = .ok (.ldc 201, 2) := by decide +kernel
theorem dX5_cell_92 : decode cX5_cell 92 = .ok (.invokespecial 41, 3) := by decide +kernel
theorem dX5_cell_95 : decode cX5_cell 95 = .ok (.athrow, 1) := by decide +kernel
theorem dX5_walker_0 : decode cX5_walker 0 = .ok (.iload_n 1, 1) := by decide +kernel
theorem dX5_walker_1 : decode cX5_walker 1 = .ok (.invokestatic 108, 3) := by decide +kernel
theorem dX5_walker_4 : decode cX5_walker 4 = .ok (.ifCond .ne 13, 3) := by decide +kernel
theorem dX5_walker_7 : decode cX5_walker 7 = .ok (.new 73, 3) := by decide +kernel
theorem dX5_walker_10 : decode cX5_walker 10 = .ok (.dup, 1) := by decide +kernel
theorem dX5_walker_11 : decode cX5_walker 11 = .ok (.ldc 111, 2) := by decide +kernel
theorem dX5_walker_13 : decode cX5_walker 13 = .ok (.invokespecial 77, 3) := by decide +kernel
theorem dX5_walker_16 : decode cX5_walker 16 = .ok (.athrow, 1) := by decide +kernel
theorem dX5_walker_17 : decode cX5_walker 17 = .ok (.iload_n 2, 1) := by decide +kernel
theorem dX5_walker_18 : decode cX5_walker 18 = .ok (.tableswitch 72 0 2 #[26, 38, 60], 26) := by decide +kernel
theorem dX5_walker_44 : decode cX5_walker 44 = .ok (.aload_n 0, 1) := by decide +kernel
theorem dX5_walker_45 : decode cX5_walker 45 = .ok (.getfield 10, 3) := by decide +kernel
theorem dX5_walker_48 : decode cX5_walker 48 = .ok (.getfield 78, 3) := by decide +kernel
theorem dX5_walker_51 : decode cX5_walker 51 = .ok (.iload_n 1, 1) := by decide +kernel
theorem dX5_walker_52 : decode cX5_walker 52 = .ok (.invokevirtual 113, 3) := by decide +kernel
theorem dX5_walker_55 : decode cX5_walker 55 = .ok (.ireturn, 1) := by decide +kernel
theorem dX5_walker_56 : decode cX5_walker 56 = .ok (.aload_n 0, 1) := by decide +kernel
theorem dX5_walker_57 : decode cX5_walker 57 = .ok (.getfield 10, 3) := by decide +kernel
theorem dX5_walker_60 : decode cX5_walker 60 = .ok (.getfield 44, 3) := by decide +kernel
theorem dX5_walker_63 : decode cX5_walker 63 = .ok (.aload_n 0, 1) := by decide +kernel
theorem dX5_walker_64 : decode cX5_walker 64 = .ok (.getfield 10, 3) := by decide +kernel
theorem dX5_walker_67 : decode cX5_walker 67 = .ok (.getfield 78, 3) := by decide +kernel
theorem dX5_walker_70 : decode cX5_walker 70 = .ok (.iload_n 1, 1) := by decide +kernel
theorem dX5_walker_71 : decode cX5_walker 71 = .ok (.invokevirtual 122, 3) := by decide +kernel
theorem dX5_walker_74 : decode cX5_walker 74 = .ok (.invokevirtual 67, 3) := by decide +kernel
theorem dX5_walker_77 : decode cX5_walker 77 = .ok (.ireturn, 1) := by decide +kernel
theorem dX5_walker_78 : decode cX5_walker 78 = .ok (.aload_n 0, 1) := by decide +kernel
theorem dX5_walker_79 : decode cX5_walker 79 = .ok (.getfield 10, 3) := by decide +kernel
theorem dX5_walker_82 : decode cX5_walker 82 = .ok (.getfield 78, 3) := by decide +kernel
theorem dX5_walker_85 : decode cX5_walker 85 = .ok (.iload_n 1, 1) := by decide +kernel
theorem dX5_walker_86 : decode cX5_walker 86 = .ok (.invokevirtual 203, 3) := by decide +kernel
theorem dX5_walker_89 : decode cX5_walker 89 = .ok (.ireturn, 1) := by decide +kernel
theorem dX5_walker_90 : decode cX5_walker 90 = .ok (.new 37, 3) := by decide +kernel
theorem dX5_walker_93 : decode cX5_walker 93 = .ok (.dup, 1) := by decide +kernel
theorem dX5_walker_94 : decode cX5_walker 94 = .ok (.ldc 206, 2) := by decide +kernel
theorem dX5_walker_96 : decode cX5_walker 96 = .ok (.invokespecial 41, 3) := by decide +kernel
theorem dX5_walker_99 : decode cX5_walker 99 = .ok (.athrow, 1) := by decide +kernel
theorem dX5_count_0 : decode cX5_count 0 = .ok (.iload_n 1, 1) := by decide +kernel
theorem dX5_count_1 : decode cX5_count 1 = .ok (.tableswitch 150 0 9 #[55, 66, 77, 88, 99, 110, 118, 126, 134, 142], 55) := by decide +kernel
theorem dX5_count_56 : decode cX5_count 56 = .ok (.aload_n 0, 1) := by decide +kernel
theorem dX5_count_57 : decode cX5_count 57 = .ok (.getfield 10, 3) := by decide +kernel
theorem dX5_count_60 : decode cX5_count 60 = .ok (.getfield 78, 3) := by decide +kernel
theorem dX5_count_63 : decode cX5_count 63 = .ok (.invokevirtual 208, 3) := by decide +kernel
theorem dX5_count_66 : decode cX5_count 66 = .ok (.ireturn, 1) := by decide +kernel
theorem dX5_count_67 : decode cX5_count 67 = .ok (.aload_n 0, 1) := by decide +kernel
theorem dX5_count_68 : decode cX5_count 68 = .ok (.getfield 10, 3) := by decide +kernel
theorem dX5_count_71 : decode cX5_count 71 = .ok (.getfield 78, 3) := by decide +kernel
theorem dX5_count_74 : decode cX5_count 74 = .ok (.invokevirtual 211, 3) := by decide +kernel
theorem dX5_count_77 : decode cX5_count 77 = .ok (.ireturn, 1) := by decide +kernel
theorem dX5_count_78 : decode cX5_count 78 = .ok (.aload_n 0, 1) := by decide +kernel
theorem dX5_count_79 : decode cX5_count 79 = .ok (.getfield 10, 3) := by decide +kernel
theorem dX5_count_82 : decode cX5_count 82 = .ok (.getfield 44, 3) := by decide +kernel
theorem dX5_count_85 : decode cX5_count 85 = .ok (.invokevirtual 214, 3) := by decide +kernel
theorem dX5_count_88 : decode cX5_count 88 = .ok (.ireturn, 1) := by decide +kernel
theorem dX5_count_89 : decode cX5_count 89 = .ok (.aload_n 0, 1) := by decide +kernel
theorem dX5_count_90 : decode cX5_count 90 = .ok (.getfield 10, 3) := by decide +kernel
theorem dX5_count_93 : decode cX5_count 93 = .ok (.getfield 44, 3) := by decide +kernel
theorem dX5_count_96 : decode cX5_count 96 = .ok (.invokevirtual 217, 3) := by decide +kernel
theorem dX5_count_99 : decode cX5_count 99 = .ok (.ireturn, 1) := by decide +kernel
theorem dX5_count_100 : decode cX5_count 100 = .ok (.aload_n 0, 1) := by decide +kernel
theorem dX5_count_101 : decode cX5_count 101 = .ok (.getfield 10, 3) := by decide +kernel
theorem dX5_count_104 : decode cX5_count 104 = .ok (.getfield 44, 3) := by decide +kernel
theorem dX5_count_107 : decode cX5_count 107 = .ok (.invokevirtual 220, 3) := by decide +kernel
theorem dX5_count_110 : decode cX5_count 110 = .ok (.ireturn, 1) := by decide +kernel
theorem dX5_count_111 : decode cX5_count 111 = .ok (.aload_n 0, 1) := by decide +kernel
theorem dX5_count_112 : decode cX5_count 112 = .ok (.getfield 10, 3) := by decide +kernel
theorem dX5_count_115 : decode cX5_count 115 = .ok (.getfield 223, 3) := by decide +kernel
theorem dX5_count_118 : decode cX5_count 118 = .ok (.ireturn, 1) := by decide +kernel
theorem dX5_count_119 : decode cX5_count 119 = .ok (.aload_n 0, 1) := by decide +kernel
theorem dX5_count_120 : decode cX5_count 120 = .ok (.getfield 10, 3) := by decide +kernel
theorem dX5_count_123 : decode cX5_count 123 = .ok (.getfield 227, 3) := by decide +kernel
theorem dX5_count_126 : decode cX5_count 126 = .ok (.ireturn, 1) := by decide +kernel
theorem dX5_count_127 : decode cX5_count 127 = .ok (.aload_n 0, 1) := by decide +kernel
theorem dX5_count_128 : decode cX5_count 128 = .ok (.getfield 10, 3) := by decide +kernel
theorem dX5_count_131 : decode cX5_count 131 = .ok (.getfield 230, 3) := by decide +kernel
theorem dX5_count_134 : decode cX5_count 134 = .ok (.ireturn, 1) := by decide +kernel
theorem dX5_count_135 : decode cX5_count 135 = .ok (.aload_n 0, 1) := by decide +kernel
theorem dX5_count_136 : decode cX5_count 136 = .ok (.getfield 10, 3) := by decide +kernel
theorem dX5_count_139 : decode cX5_count 139 = .ok (.getfield 233, 3) := by decide +kernel
theorem dX5_count_142 : decode cX5_count 142 = .ok (.ireturn, 1) := by decide +kernel
theorem dX5_count_143 : decode cX5_count 143 = .ok (.aload_n 0, 1) := by decide +kernel
theorem dX5_count_144 : decode cX5_count 144 = .ok (.getfield 22, 3) := by decide +kernel
theorem dX5_count_147 : decode cX5_count 147 = .ok (.invokevirtual 162, 3) := by decide +kernel
theorem dX5_count_150 : decode cX5_count 150 = .ok (.ireturn, 1) := by decide +kernel
theorem dX5_count_151 : decode cX5_count 151 = .ok (.new 37, 3) := by decide +kernel
theorem dX5_count_154 : decode cX5_count 154 = .ok (.dup, 1) := by decide +kernel
theorem dX5_count_155 : decode cX5_count 155 = .ok (.ldc 236, 2) := by decide +kernel
theorem dX5_count_157 : decode cX5_count 157 = .ok (.invokespecial 41, 3) := by decide +kernel
theorem dX5_count_160 : decode cX5_count 160 = .ok (.athrow, 1) := by decide +kernel
theorem dX5_begins_0 : decode cX5_begins 0 = .ok (.iload_n 1, 1) := by decide +kernel
theorem dX5_begins_1 : decode cX5_begins 1 = .ok (.invokestatic 238, 3) := by decide +kernel
theorem dX5_begins_4 : decode cX5_begins 4 = .ok (.ifCond .ne 13, 3) := by decide +kernel
theorem dX5_begins_7 : decode cX5_begins 7 = .ok (.new 37, 3) := by decide +kernel
theorem dX5_begins_10 : decode cX5_begins 10 = .ok (.dup, 1) := by decide +kernel
theorem dX5_begins_11 : decode cX5_begins 11 = .ok (.ldc 241, 2) := by decide +kernel
theorem dX5_begins_13 : decode cX5_begins 13 = .ok (.invokespecial 41, 3) := by decide +kernel
theorem dX5_begins_16 : decode cX5_begins 16 = .ok (.athrow, 1) := by decide +kernel
theorem dX5_begins_17 : decode cX5_begins 17 = .ok (.aload_n 0, 1) := by decide +kernel
theorem dX5_begins_18 : decode cX5_begins 18 = .ok (.getfield 10, 3) := by decide +kernel
theorem dX5_begins_21 : decode cX5_begins 21 = .ok (.getfield 44, 3) := by decide +kernel
theorem dX5_begins_24 : decode cX5_begins 24 = .ok (.iload_n 1, 1) := by decide +kernel
theorem dX5_begins_25 : decode cX5_begins 25 = .ok (.invokevirtual 48, 3) := by decide +kernel
theorem dX5_begins_28 : decode cX5_begins 28 = .ok (.ireturn, 1) := by decide +kernel
theorem dX5_gap_0 : decode cX5_gap 0 = .ok (.iload_n 1, 1) := by decide +kernel
theorem dX5_gap_1 : decode cX5_gap 1 = .ok (.lookupswitch 49 #[(0, 27), (1, 38)], 27) := by decide +kernel
theorem dX5_gap_28 : decode cX5_gap 28 = .ok (.aload_n 0, 1) := by decide +kernel
theorem dX5_gap_29 : decode cX5_gap 29 = .ok (.getfield 10, 3) := by decide +kernel
theorem dX5_gap_32 : decode cX5_gap 32 = .ok (.getfield 44, 3) := by decide +kernel
theorem dX5_gap_35 : decode cX5_gap 35 = .ok (.invokevirtual 243, 3) := by decide +kernel
theorem dX5_gap_38 : decode cX5_gap 38 = .ok (.ireturn, 1) := by decide +kernel
theorem dX5_gap_39 : decode cX5_gap 39 = .ok (.aload_n 0, 1) := by decide +kernel
theorem dX5_gap_40 : decode cX5_gap 40 = .ok (.getfield 10, 3) := by decide +kernel
theorem dX5_gap_43 : decode cX5_gap 43 = .ok (.getfield 44, 3) := by decide +kernel
theorem dX5_gap_46 : decode cX5_gap 46 = .ok (.invokevirtual 246, 3) := by decide +kernel
theorem dX5_gap_49 : decode cX5_gap 49 = .ok (.ireturn, 1) := by decide +kernel
theorem dX5_gap_50 : decode cX5_gap 50 = .ok (.new 37, 3) := by decide +kernel
theorem dX5_gap_53 : decode cX5_gap 53 = .ok (.dup, 1) := by decide +kernel
theorem dX5_gap_54 : decode cX5_gap 54 = .ok (.ldc 201, 2) := by decide +kernel
theorem dX5_gap_56 : decode cX5_gap 56 = .ok (.invokespecial 41, 3) := by decide +kernel
theorem dX5_gap_59 : decode cX5_gap 59 = .ok (.athrow, 1) := by decide +kernel
theorem dX5_ifFired_0 : decode cX5_ifFired 0 = .ok (.iload_n 1, 1) := by decide +kernel
theorem dX5_ifFired_1 : decode cX5_ifFired 1 = .ok (.iconst 1, 1) := by decide +kernel
theorem dX5_ifFired_2 : decode cX5_ifFired 2 = .ok (.if_icmp .lt 18, 3) := by decide +kernel
theorem dX5_ifFired_5 : decode cX5_ifFired 5 = .ok (.iload_n 1, 1) := by decide +kernel
theorem dX5_ifFired_6 : decode cX5_ifFired 6 = .ok (.bipush 9, 2) := by decide +kernel
theorem dX5_ifFired_8 : decode cX5_ifFired 8 = .ok (.if_icmp .gt 12, 3) := by decide +kernel
theorem dX5_ifFired_11 : decode cX5_ifFired 11 = .ok (.iload_n 2, 1) := by decide +kernel
theorem dX5_ifFired_12 : decode cX5_ifFired 12 = .ok (.ifCond .lt 8, 3) := by decide +kernel
theorem dX5_ifFired_15 : decode cX5_ifFired 15 = .ok (.iload_n 2, 1) := by decide +kernel
theorem dX5_ifFired_16 : decode cX5_ifFired 16 = .ok (.iconst 2, 1) := by decide +kernel
theorem dX5_ifFired_17 : decode cX5_ifFired 17 = .ok (.if_icmp .le 13, 3) := by decide +kernel
theorem dX5_ifFired_20 : decode cX5_ifFired 20 = .ok (.new 37, 3) := by decide +kernel
theorem dX5_ifFired_23 : decode cX5_ifFired 23 = .ok (.dup, 1) := by decide +kernel
theorem dX5_ifFired_24 : decode cX5_ifFired 24 = .ok (.ldc 249, 2) := by decide +kernel
theorem dX5_ifFired_26 : decode cX5_ifFired 26 = .ok (.invokespecial 41, 3) := by decide +kernel
theorem dX5_ifFired_29 : decode cX5_ifFired 29 = .ok (.athrow, 1) := by decide +kernel
theorem dX5_ifFired_30 : decode cX5_ifFired 30 = .ok (.aload_n 0, 1) := by decide +kernel
theorem dX5_ifFired_31 : decode cX5_ifFired 31 = .ok (.iload_n 1, 1) := by decide +kernel
theorem dX5_ifFired_32 : decode cX5_ifFired 32 = .ok (.invokevirtual 251, 3) := by decide +kernel
theorem dX5_ifFired_35 : decode cX5_ifFired 35 = .ok (.istore_n 3, 1) := by decide +kernel
theorem dX5_ifFired_36 : decode cX5_ifFired 36 = .ok (.iload_n 2, 1) := by decide +kernel
theorem dX5_ifFired_37 : decode cX5_ifFired 37 = .ok (.ifCond .ne 5, 3) := by decide +kernel
theorem dX5_ifFired_40 : decode cX5_ifFired 40 = .ok (.iload_n 3, 1) := by decide +kernel
theorem dX5_ifFired_41 : decode cX5_ifFired 41 = .ok (.ireturn, 1) := by decide +kernel
theorem dX5_ifFired_42 : decode cX5_ifFired 42 = .ok (.iload_n 2, 1) := by decide +kernel
theorem dX5_ifFired_43 : decode cX5_ifFired 43 = .ok (.iconst 1, 1) := by decide +kernel
theorem dX5_ifFired_44 : decode cX5_ifFired 44 = .ok (.if_icmp .ne 16, 3) := by decide +kernel
theorem dX5_ifFired_47 : decode cX5_ifFired 47 = .ok (.aload_n 0, 1) := by decide +kernel
theorem dX5_ifFired_48 : decode cX5_ifFired 48 = .ok (.getfield 16, 3) := by decide +kernel
theorem dX5_ifFired_51 : decode cX5_ifFired 51 = .ok (.getfield 78, 3) := by decide +kernel
theorem dX5_ifFired_54 : decode cX5_ifFired 54 = .ok (.invokevirtual 208, 3) := by decide +kernel
theorem dX5_ifFired_57 : decode cX5_ifFired 57 = .ok (.goto 13, 3) := by decide +kernel
theorem dX5_ifFired_60 : decode cX5_ifFired 60 = .ok (.aload_n 0, 1) := by decide +kernel
theorem dX5_ifFired_61 : decode cX5_ifFired 61 = .ok (.getfield 16, 3) := by decide +kernel
theorem dX5_ifFired_64 : decode cX5_ifFired 64 = .ok (.getfield 44, 3) := by decide +kernel
theorem dX5_ifFired_67 : decode cX5_ifFired 67 = .ok (.invokevirtual 214, 3) := by decide +kernel
theorem dX5_ifFired_70 : decode cX5_ifFired 70 = .ok (.ireturn, 1) := by decide +kernel
theorem dX5_room_0 : decode cX5_room 0 = .ok (.iload_n 1, 1) := by decide +kernel
theorem dX5_room_1 : decode cX5_room 1 = .ok (.invokestatic 238, 3) := by decide +kernel
theorem dX5_room_4 : decode cX5_room 4 = .ok (.ifCond .ne 13, 3) := by decide +kernel
theorem dX5_room_7 : decode cX5_room 7 = .ok (.new 37, 3) := by decide +kernel
theorem dX5_room_10 : decode cX5_room 10 = .ok (.dup, 1) := by decide +kernel
theorem dX5_room_11 : decode cX5_room 11 = .ok (.ldc 241, 2) := by decide +kernel
theorem dX5_room_13 : decode cX5_room 13 = .ok (.invokespecial 41, 3) := by decide +kernel
theorem dX5_room_16 : decode cX5_room 16 = .ok (.athrow, 1) := by decide +kernel
theorem dX5_room_17 : decode cX5_room 17 = .ok (.iload_n 2, 1) := by decide +kernel
theorem dX5_room_18 : decode cX5_room 18 = .ok (.ifCond .eq 18, 3) := by decide +kernel
theorem dX5_room_21 : decode cX5_room 21 = .ok (.aload_n 0, 1) := by decide +kernel
theorem dX5_room_22 : decode cX5_room 22 = .ok (.getfield 10, 3) := by decide +kernel
theorem dX5_room_25 : decode cX5_room 25 = .ok (.getfield 44, 3) := by decide +kernel
theorem dX5_room_28 : decode cX5_room 28 = .ok (.invokevirtual 217, 3) := by decide +kernel
theorem dX5_room_31 : decode cX5_room 31 = .ok (.iload_n 1, 1) := by decide +kernel
theorem dX5_room_32 : decode cX5_room 32 = .ok (.idiv, 1) := by decide +kernel
theorem dX5_room_33 : decode cX5_room 33 = .ok (.goto 14, 3) := by decide +kernel
theorem dX5_room_36 : decode cX5_room 36 = .ok (.aload_n 0, 1) := by decide +kernel
theorem dX5_room_37 : decode cX5_room 37 = .ok (.getfield 10, 3) := by decide +kernel
theorem dX5_room_40 : decode cX5_room 40 = .ok (.getfield 44, 3) := by decide +kernel
theorem dX5_room_43 : decode cX5_room 43 = .ok (.iload_n 1, 1) := by decide +kernel
theorem dX5_room_44 : decode cX5_room 44 = .ok (.invokevirtual 254, 3) := by decide +kernel
theorem dX5_room_47 : decode cX5_room 47 = .ok (.ireturn, 1) := by decide +kernel
theorem dX5_fullness_0 : decode cX5_fullness 0 = .ok (.aload_n 0, 1) := by decide +kernel
theorem dX5_fullness_1 : decode cX5_fullness 1 = .ok (.getfield 10, 3) := by decide +kernel
theorem dX5_fullness_4 : decode cX5_fullness 4 = .ok (.getfield 44, 3) := by decide +kernel
theorem dX5_fullness_7 : decode cX5_fullness 7 = .ok (.invokevirtual 214, 3) := by decide +kernel
theorem dX5_fullness_10 : decode cX5_fullness 10 = .ok (.istore_n 1, 1) := by decide +kernel
theorem dX5_fullness_11 : decode cX5_fullness 11 = .ok (.iload_n 1, 1) := by decide +kernel
theorem dX5_fullness_12 : decode cX5_fullness 12 = .ok (.aload_n 0, 1) := by decide +kernel
theorem dX5_fullness_13 : decode cX5_fullness 13 = .ok (.getfield 10, 3) := by decide +kernel
theorem dX5_fullness_16 : decode cX5_fullness 16 = .ok (.getfield 44, 3) := by decide +kernel
theorem dX5_fullness_19 : decode cX5_fullness 19 = .ok (.invokevirtual 217, 3) := by decide +kernel
theorem dX5_fullness_22 : decode cX5_fullness 22 = .ok (.isub, 1) := by decide +kernel
theorem dX5_fullness_23 : decode cX5_fullness 23 = .ok (.i2d, 1) := by decide +kernel
theorem dX5_fullness_24 : decode cX5_fullness 24 = .ok (.iload_n 1, 1) := by decide +kernel
theorem dX5_fullness_25 : decode cX5_fullness 25 = .ok (.i2d, 1) := by decide +kernel
theorem dX5_fullness_26 : decode cX5_fullness 26 = .ok (.ddiv, 1) := by decide +kernel
theorem dX5_fullness_27 : decode cX5_fullness 27 = .ok (.dreturn, 1) := by decide +kernel
theorem dX5_digest_0 : decode cX5_digest 0 = .ok (.ldc2_w 257, 3) := by decide +kernel
theorem dX5_digest_3 : decode cX5_digest 3 = .ok (.lstore_n 1, 1) := by decide +kernel
theorem dX5_digest_4 : decode cX5_digest 4 = .ok (.iconst 0, 1) := by decide +kernel
theorem dX5_digest_5 : decode cX5_digest 5 = .ok (.istore_n 3, 1) := by decide +kernel
theorem dX5_digest_6 : decode cX5_digest 6 = .ok (.iload_n 3, 1) := by decide +kernel
theorem dX5_digest_7 : decode cX5_digest 7 = .ok (.bipush 9, 2) := by decide +kernel
theorem dX5_digest_9 : decode cX5_digest 9 = .ok (.if_icmp .gt 22, 3) := by decide +kernel
theorem dX5_digest_12 : decode cX5_digest 12 = .ok (.ldc2_w 259, 3) := by decide +kernel
theorem dX5_digest_15 : decode cX5_digest 15 = .ok (.lload_n 1, 1) := by decide +kernel
theorem dX5_digest_16 : decode cX5_digest 16 = .ok (.lmul, 1) := by decide +kernel
theorem dX5_digest_17 : decode cX5_digest 17 = .ok (.aload_n 0, 1) := by decide +kernel
theorem dX5_digest_18 : decode cX5_digest 18 = .ok (.iload_n 3, 1) := by decide +kernel
theorem dX5_digest_19 : decode cX5_digest 19 = .ok (.invokevirtual 261, 3) := by decide +kernel
theorem dX5_digest_22 : decode cX5_digest 22 = .ok (.i2l, 1) := by decide +kernel
theorem dX5_digest_23 : decode cX5_digest 23 = .ok (.ladd, 1) := by decide +kernel
theorem dX5_digest_24 : decode cX5_digest 24 = .ok (.lstore_n 1, 1) := by decide +kernel
theorem dX5_digest_25 : decode cX5_digest 25 = .ok (.iinc 3 1, 3) := by decide +kernel
theorem dX5_digest_28 : decode cX5_digest 28 = .ok (.goto (-22), 3) := by decide +kernel
theorem dX5_digest_31 : decode cX5_digest 31 = .ok (.aload_n 0, 1) := by decide +kernel
theorem dX5_digest_32 : decode cX5_digest 32 = .ok (.lload_n 1, 1) := by decide +kernel
theorem dX5_digest_33 : decode cX5_digest 33 = .ok (.invokevirtual 264, 3) := by decide +kernel
theorem dX5_digest_36 : decode cX5_digest 36 = .ok (.lstore_n 1, 1) := by decide +kernel
theorem dX5_digest_37 : decode cX5_digest 37 = .ok (.aload_n 0, 1) := by decide +kernel
theorem dX5_digest_38 : decode cX5_digest 38 = .ok (.lload_n 1, 1) := by decide +kernel
theorem dX5_digest_39 : decode cX5_digest 39 = .ok (.invokevirtual 268, 3) := by decide +kernel
theorem dX5_digest_42 : decode cX5_digest 42 = .ok (.lstore_n 1, 1) := by decide +kernel
theorem dX5_digest_43 : decode cX5_digest 43 = .ok (.aload_n 0, 1) := by decide +kernel
theorem dX5_digest_44 : decode cX5_digest 44 = .ok (.lload_n 1, 1) := by decide +kernel
theorem dX5_digest_45 : decode cX5_digest 45 = .ok (.invokevirtual 271, 3) := by decide +kernel
theorem dX5_digest_48 : decode cX5_digest 48 = .ok (.lstore_n 1, 1) := by decide +kernel
theorem dX5_digest_49 : decode cX5_digest 49 = .ok (.aload_n 0, 1) := by decide +kernel
theorem dX5_digest_50 : decode cX5_digest 50 = .ok (.lload_n 1, 1) := by decide +kernel
theorem dX5_digest_51 : decode cX5_digest 51 = .ok (.invokevirtual 274, 3) := by decide +kernel
theorem dX5_digest_54 : decode cX5_digest 54 = .ok (.lreturn, 1) := by decide +kernel
theorem dX5_hashThings_0 : decode cX5_hashThings 0 = .ok (.lload_n 1, 1) := by decide +kernel
theorem dX5_hashThings_1 : decode cX5_hashThings 1 = .ok (.lstore_n 3, 1) := by decide +kernel
theorem dX5_hashThings_2 : decode cX5_hashThings 2 = .ok (.aload_n 0, 1) := by decide +kernel
theorem dX5_hashThings_3 : decode cX5_hashThings 3 = .ok (.getfield 10, 3) := by decide +kernel
theorem dX5_hashThings_6 : decode cX5_hashThings 6 = .ok (.getfield 78, 3) := by decide +kernel
theorem dX5_hashThings_9 : decode cX5_hashThings 9 = .ok (.invokevirtual 208, 3) := by decide +kernel
theorem dX5_hashThings_12 : decode cX5_hashThings 12 = .ok (.istore 5, 2) := by decide +kernel
theorem dX5_hashThings_14 : decode cX5_hashThings 14 = .ok (.iconst 0, 1) := by decide +kernel
theorem dX5_hashThings_15 : decode cX5_hashThings 15 = .ok (.istore 6, 2) := by decide +kernel
theorem dX5_hashThings_17 : decode cX5_hashThings 17 = .ok (.iload 6, 2) := by decide +kernel
theorem dX5_hashThings_19 : decode cX5_hashThings 19 = .ok (.iload 5, 2) := by decide +kernel
theorem dX5_hashThings_21 : decode cX5_hashThings 21 = .ok (.if_icmp .ge 58, 3) := by decide +kernel
theorem dX5_hashThings_24 : decode cX5_hashThings 24 = .ok (.aload_n 0, 1) := by decide +kernel
theorem dX5_hashThings_25 : decode cX5_hashThings 25 = .ok (.iload 6, 2) := by decide +kernel
theorem dX5_hashThings_27 : decode cX5_hashThings 27 = .ok (.invokevirtual 277, 3) := by decide +kernel
theorem dX5_hashThings_30 : decode cX5_hashThings 30 = .ok (.istore 7, 2) := by decide +kernel
theorem dX5_hashThings_32 : decode cX5_hashThings 32 = .ok (.ldc2_w 259, 3) := by decide +kernel
theorem dX5_hashThings_35 : decode cX5_hashThings 35 = .ok (.lload_n 3, 1) := by decide +kernel
theorem dX5_hashThings_36 : decode cX5_hashThings 36 = .ok (.lmul, 1) := by decide +kernel
theorem dX5_hashThings_37 : decode cX5_hashThings 37 = .ok (.iload 7, 2) := by decide +kernel
theorem dX5_hashThings_39 : decode cX5_hashThings 39 = .ok (.i2l, 1) := by decide +kernel
theorem dX5_hashThings_40 : decode cX5_hashThings 40 = .ok (.ladd, 1) := by decide +kernel
theorem dX5_hashThings_41 : decode cX5_hashThings 41 = .ok (.lstore_n 3, 1) := by decide +kernel
theorem dX5_hashThings_42 : decode cX5_hashThings 42 = .ok (.iconst 0, 1) := by decide +kernel
theorem dX5_hashThings_43 : decode cX5_hashThings 43 = .ok (.istore 8, 2) := by decide +kernel
theorem dX5_hashThings_45 : decode cX5_hashThings 45 = .ok (.iload 8, 2) := by decide +kernel
theorem dX5_hashThings_47 : decode cX5_hashThings 47 = .ok (.iconst 5, 1) := by decide +kernel
theorem dX5_hashThings_48 : decode cX5_hashThings 48 = .ok (.if_icmp .gt 25, 3) := by decide +kernel
theorem dX5_hashThings_51 : decode cX5_hashThings 51 = .ok (.ldc2_w 259, 3) := by decide +kernel
theorem dX5_hashThings_54 : decode cX5_hashThings 54 = .ok (.lload_n 3, 1) := by decide +kernel
theorem dX5_hashThings_55 : decode cX5_hashThings 55 = .ok (.lmul, 1) := by decide +kernel
theorem dX5_hashThings_56 : decode cX5_hashThings 56 = .ok (.aload_n 0, 1) := by decide +kernel
theorem dX5_hashThings_57 : decode cX5_hashThings 57 = .ok (.iload 7, 2) := by decide +kernel
theorem dX5_hashThings_59 : decode cX5_hashThings 59 = .ok (.iload 8, 2) := by decide +kernel
theorem dX5_hashThings_61 : decode cX5_hashThings 61 = .ok (.invokevirtual 280, 3) := by decide +kernel
theorem dX5_hashThings_64 : decode cX5_hashThings 64 = .ok (.i2l, 1) := by decide +kernel
theorem dX5_hashThings_65 : decode cX5_hashThings 65 = .ok (.ladd, 1) := by decide +kernel
theorem dX5_hashThings_66 : decode cX5_hashThings 66 = .ok (.lstore_n 3, 1) := by decide +kernel
theorem dX5_hashThings_67 : decode cX5_hashThings 67 = .ok (.iinc 8 1, 3) := by decide +kernel
theorem dX5_hashThings_70 : decode cX5_hashThings 70 = .ok (.goto (-25), 3) := by decide +kernel
theorem dX5_hashThings_73 : decode cX5_hashThings 73 = .ok (.iinc 6 1, 3) := by decide +kernel
theorem dX5_hashThings_76 : decode cX5_hashThings 76 = .ok (.goto (-59), 3) := by decide +kernel
theorem dX5_hashThings_79 : decode cX5_hashThings 79 = .ok (.lload_n 3, 1) := by decide +kernel
theorem dX5_hashThings_80 : decode cX5_hashThings 80 = .ok (.lreturn, 1) := by decide +kernel
theorem dX5_hashCellsAndWalkers_0 : decode cX5_hashCellsAndWalkers 0 = .ok (.lload_n 1, 1) := by decide +kernel
theorem dX5_hashCellsAndWalkers_1 : decode cX5_hashCellsAndWalkers 1 = .ok (.lstore_n 3, 1) := by decide +kernel
theorem dX5_hashCellsAndWalkers_2 : decode cX5_hashCellsAndWalkers 2 = .ok (.aload_n 0, 1) := by decide +kernel
theorem dX5_hashCellsAndWalkers_3 : decode cX5_hashCellsAndWalkers 3 = .ok (.getfield 10, 3) := by decide +kernel
theorem dX5_hashCellsAndWalkers_6 : decode cX5_hashCellsAndWalkers 6 = .ok (.getfield 44, 3) := by decide +kernel
theorem dX5_hashCellsAndWalkers_9 : decode cX5_hashCellsAndWalkers 9 = .ok (.invokevirtual 214, 3) := by decide +kernel
theorem dX5_hashCellsAndWalkers_12 : decode cX5_hashCellsAndWalkers 12 = .ok (.istore 5, 2) := by decide +kernel
theorem dX5_hashCellsAndWalkers_14 : decode cX5_hashCellsAndWalkers 14 = .ok (.iconst 0, 1) := by decide +kernel
theorem dX5_hashCellsAndWalkers_15 : decode cX5_hashCellsAndWalkers 15 = .ok (.istore 6, 2) := by decide +kernel
theorem dX5_hashCellsAndWalkers_17 : decode cX5_hashCellsAndWalkers 17 = .ok (.iload 6, 2) := by decide +kernel
theorem dX5_hashCellsAndWalkers_19 : decode cX5_hashCellsAndWalkers 19 = .ok (.iload 5, 2) := by decide +kernel
theorem dX5_hashCellsAndWalkers_21 : decode cX5_hashCellsAndWalkers 21 = .ok (.if_icmp .ge 39, 3) := by decide +kernel
theorem dX5_hashCellsAndWalkers_24 : decode cX5_hashCellsAndWalkers 24 = .ok (.ldc2_w 259, 3) := by decide +kernel
theorem dX5_hashCellsAndWalkers_27 : decode cX5_hashCellsAndWalkers 27 = .ok (.lload_n 3, 1) := by decide +kernel
theorem dX5_hashCellsAndWalkers_28 : decode cX5_hashCellsAndWalkers 28 = .ok (.lmul, 1) := by decide +kernel
theorem dX5_hashCellsAndWalkers_29 : decode cX5_hashCellsAndWalkers 29 = .ok (.aload_n 0, 1) := by decide +kernel
theorem dX5_hashCellsAndWalkers_30 : decode cX5_hashCellsAndWalkers 30 = .ok (.iload 6, 2) := by decide +kernel
theorem dX5_hashCellsAndWalkers_32 : decode cX5_hashCellsAndWalkers 32 = .ok (.iconst 0, 1) := by decide +kernel
theorem dX5_hashCellsAndWalkers_33 : decode cX5_hashCellsAndWalkers 33 = .ok (.invokevirtual 284, 3) := by decide +kernel
theorem dX5_hashCellsAndWalkers_36 : decode cX5_hashCellsAndWalkers 36 = .ok (.i2l, 1) := by decide +kernel
theorem dX5_hashCellsAndWalkers_37 : decode cX5_hashCellsAndWalkers 37 = .ok (.ladd, 1) := by decide +kernel
theorem dX5_hashCellsAndWalkers_38 : decode cX5_hashCellsAndWalkers 38 = .ok (.lstore_n 3, 1) := by decide +kernel
theorem dX5_hashCellsAndWalkers_39 : decode cX5_hashCellsAndWalkers 39 = .ok (.ldc2_w 259, 3) := by decide +kernel
theorem dX5_hashCellsAndWalkers_42 : decode cX5_hashCellsAndWalkers 42 = .ok (.lload_n 3, 1) := by decide +kernel
theorem dX5_hashCellsAndWalkers_43 : decode cX5_hashCellsAndWalkers 43 = .ok (.lmul, 1) := by decide +kernel
theorem dX5_hashCellsAndWalkers_44 : decode cX5_hashCellsAndWalkers 44 = .ok (.aload_n 0, 1) := by decide +kernel
theorem dX5_hashCellsAndWalkers_45 : decode cX5_hashCellsAndWalkers 45 = .ok (.iload 6, 2) := by decide +kernel
theorem dX5_hashCellsAndWalkers_47 : decode cX5_hashCellsAndWalkers 47 = .ok (.iconst 1, 1) := by decide +kernel
theorem dX5_hashCellsAndWalkers_48 : decode cX5_hashCellsAndWalkers 48 = .ok (.invokevirtual 284, 3) := by decide +kernel
theorem dX5_hashCellsAndWalkers_51 : decode cX5_hashCellsAndWalkers 51 = .ok (.i2l, 1) := by decide +kernel
theorem dX5_hashCellsAndWalkers_52 : decode cX5_hashCellsAndWalkers 52 = .ok (.ladd, 1) := by decide +kernel
theorem dX5_hashCellsAndWalkers_53 : decode cX5_hashCellsAndWalkers 53 = .ok (.lstore_n 3, 1) := by decide +kernel
theorem dX5_hashCellsAndWalkers_54 : decode cX5_hashCellsAndWalkers 54 = .ok (.iinc 6 1, 3) := by decide +kernel
theorem dX5_hashCellsAndWalkers_57 : decode cX5_hashCellsAndWalkers 57 = .ok (.goto (-40), 3) := by decide +kernel
theorem dX5_hashCellsAndWalkers_60 : decode cX5_hashCellsAndWalkers 60 = .ok (.iconst 0, 1) := by decide +kernel
theorem dX5_hashCellsAndWalkers_61 : decode cX5_hashCellsAndWalkers 61 = .ok (.istore 6, 2) := by decide +kernel
theorem dX5_hashCellsAndWalkers_63 : decode cX5_hashCellsAndWalkers 63 = .ok (.iload 6, 2) := by decide +kernel
theorem dX5_hashCellsAndWalkers_65 : decode cX5_hashCellsAndWalkers 65 = .ok (.iconst 4, 1) := by decide +kernel
theorem dX5_hashCellsAndWalkers_66 : decode cX5_hashCellsAndWalkers 66 = .ok (.if_icmp .ge 40, 3) := by decide +kernel
theorem dX5_hashCellsAndWalkers_69 : decode cX5_hashCellsAndWalkers 69 = .ok (.iconst 0, 1) := by decide +kernel
theorem dX5_hashCellsAndWalkers_70 : decode cX5_hashCellsAndWalkers 70 = .ok (.istore 7, 2) := by decide +kernel
theorem dX5_hashCellsAndWalkers_72 : decode cX5_hashCellsAndWalkers 72 = .ok (.iload 7, 2) := by decide +kernel
theorem dX5_hashCellsAndWalkers_74 : decode cX5_hashCellsAndWalkers 74 = .ok (.iconst 2, 1) := by decide +kernel
theorem dX5_hashCellsAndWalkers_75 : decode cX5_hashCellsAndWalkers 75 = .ok (.if_icmp .gt 25, 3) := by decide +kernel
theorem dX5_hashCellsAndWalkers_78 : decode cX5_hashCellsAndWalkers 78 = .ok (.ldc2_w 259, 3) := by decide +kernel
theorem dX5_hashCellsAndWalkers_81 : decode cX5_hashCellsAndWalkers 81 = .ok (.lload_n 3, 1) := by decide +kernel
theorem dX5_hashCellsAndWalkers_82 : decode cX5_hashCellsAndWalkers 82 = .ok (.lmul, 1) := by decide +kernel
theorem dX5_hashCellsAndWalkers_83 : decode cX5_hashCellsAndWalkers 83 = .ok (.aload_n 0, 1) := by decide +kernel
theorem dX5_hashCellsAndWalkers_84 : decode cX5_hashCellsAndWalkers 84 = .ok (.iload 6, 2) := by decide +kernel
theorem dX5_hashCellsAndWalkers_86 : decode cX5_hashCellsAndWalkers 86 = .ok (.iload 7, 2) := by decide +kernel
theorem dX5_hashCellsAndWalkers_88 : decode cX5_hashCellsAndWalkers 88 = .ok (.invokevirtual 287, 3) := by decide +kernel
theorem dX5_hashCellsAndWalkers_91 : decode cX5_hashCellsAndWalkers 91 = .ok (.i2l, 1) := by decide +kernel
theorem dX5_hashCellsAndWalkers_92 : decode cX5_hashCellsAndWalkers 92 = .ok (.ladd, 1) := by decide +kernel
theorem dX5_hashCellsAndWalkers_93 : decode cX5_hashCellsAndWalkers 93 = .ok (.lstore_n 3, 1) := by decide +kernel
theorem dX5_hashCellsAndWalkers_94 : decode cX5_hashCellsAndWalkers 94 = .ok (.iinc 7 1, 3) := by decide +kernel
theorem dX5_hashCellsAndWalkers_97 : decode cX5_hashCellsAndWalkers 97 = .ok (.goto (-25), 3) := by decide +kernel
theorem dX5_hashCellsAndWalkers_100 : decode cX5_hashCellsAndWalkers 100 = .ok (.iinc 6 1, 3) := by decide +kernel
theorem dX5_hashCellsAndWalkers_103 : decode cX5_hashCellsAndWalkers 103 = .ok (.goto (-40), 3) := by decide +kernel
theorem dX5_hashCellsAndWalkers_106 : decode cX5_hashCellsAndWalkers 106 = .ok (.lload_n 3, 1) := by decide +kernel
theorem dX5_hashCellsAndWalkers_107 : decode cX5_hashCellsAndWalkers 107 = .ok (.lreturn, 1) := by decide +kernel
theorem dX5_hashWhatWouldBe_0 : decode cX5_hashWhatWouldBe 0 = .ok (.lload_n 1, 1) := by decide +kernel
theorem dX5_hashWhatWouldBe_1 : decode cX5_hashWhatWouldBe 1 = .ok (.lstore_n 3, 1) := by decide +kernel
theorem dX5_hashWhatWouldBe_2 : decode cX5_hashWhatWouldBe 2 = .ok (.iconst 1, 1) := by decide +kernel
theorem dX5_hashWhatWouldBe_3 : decode cX5_hashWhatWouldBe 3 = .ok (.istore 5, 2) := by decide +kernel
theorem dX5_hashWhatWouldBe_5 : decode cX5_hashWhatWouldBe 5 = .ok (.iload 5, 2) := by decide +kernel
theorem dX5_hashWhatWouldBe_7 : decode cX5_hashWhatWouldBe 7 = .ok (.iconst 4, 1) := by decide +kernel
theorem dX5_hashWhatWouldBe_8 : decode cX5_hashWhatWouldBe 8 = .ok (.if_icmp .gt 23, 3) := by decide +kernel
theorem dX5_hashWhatWouldBe_11 : decode cX5_hashWhatWouldBe 11 = .ok (.ldc2_w 259, 3) := by decide +kernel
theorem dX5_hashWhatWouldBe_14 : decode cX5_hashWhatWouldBe 14 = .ok (.lload_n 3, 1) := by decide +kernel
theorem dX5_hashWhatWouldBe_15 : decode cX5_hashWhatWouldBe 15 = .ok (.lmul, 1) := by decide +kernel
theorem dX5_hashWhatWouldBe_16 : decode cX5_hashWhatWouldBe 16 = .ok (.aload_n 0, 1) := by decide +kernel
theorem dX5_hashWhatWouldBe_17 : decode cX5_hashWhatWouldBe 17 = .ok (.iload 5, 2) := by decide +kernel
theorem dX5_hashWhatWouldBe_19 : decode cX5_hashWhatWouldBe 19 = .ok (.invokevirtual 290, 3) := by decide +kernel
theorem dX5_hashWhatWouldBe_22 : decode cX5_hashWhatWouldBe 22 = .ok (.i2l, 1) := by decide +kernel
theorem dX5_hashWhatWouldBe_23 : decode cX5_hashWhatWouldBe 23 = .ok (.ladd, 1) := by decide +kernel
theorem dX5_hashWhatWouldBe_24 : decode cX5_hashWhatWouldBe 24 = .ok (.lstore_n 3, 1) := by decide +kernel
theorem dX5_hashWhatWouldBe_25 : decode cX5_hashWhatWouldBe 25 = .ok (.iinc 5 1, 3) := by decide +kernel
theorem dX5_hashWhatWouldBe_28 : decode cX5_hashWhatWouldBe 28 = .ok (.goto (-23), 3) := by decide +kernel
theorem dX5_hashWhatWouldBe_31 : decode cX5_hashWhatWouldBe 31 = .ok (.ldc2_w 259, 3) := by decide +kernel
theorem dX5_hashWhatWouldBe_34 : decode cX5_hashWhatWouldBe 34 = .ok (.lload_n 3, 1) := by decide +kernel
theorem dX5_hashWhatWouldBe_35 : decode cX5_hashWhatWouldBe 35 = .ok (.lmul, 1) := by decide +kernel
theorem dX5_hashWhatWouldBe_36 : decode cX5_hashWhatWouldBe 36 = .ok (.aload_n 0, 1) := by decide +kernel
theorem dX5_hashWhatWouldBe_37 : decode cX5_hashWhatWouldBe 37 = .ok (.iconst 0, 1) := by decide +kernel
theorem dX5_hashWhatWouldBe_38 : decode cX5_hashWhatWouldBe 38 = .ok (.invokevirtual 293, 3) := by decide +kernel
theorem dX5_hashWhatWouldBe_41 : decode cX5_hashWhatWouldBe 41 = .ok (.i2l, 1) := by decide +kernel
theorem dX5_hashWhatWouldBe_42 : decode cX5_hashWhatWouldBe 42 = .ok (.ladd, 1) := by decide +kernel
theorem dX5_hashWhatWouldBe_43 : decode cX5_hashWhatWouldBe 43 = .ok (.lstore_n 3, 1) := by decide +kernel
theorem dX5_hashWhatWouldBe_44 : decode cX5_hashWhatWouldBe 44 = .ok (.ldc2_w 259, 3) := by decide +kernel
theorem dX5_hashWhatWouldBe_47 : decode cX5_hashWhatWouldBe 47 = .ok (.lload_n 3, 1) := by decide +kernel
theorem dX5_hashWhatWouldBe_48 : decode cX5_hashWhatWouldBe 48 = .ok (.lmul, 1) := by decide +kernel
theorem dX5_hashWhatWouldBe_49 : decode cX5_hashWhatWouldBe 49 = .ok (.aload_n 0, 1) := by decide +kernel
theorem dX5_hashWhatWouldBe_50 : decode cX5_hashWhatWouldBe 50 = .ok (.iconst 1, 1) := by decide +kernel
theorem dX5_hashWhatWouldBe_51 : decode cX5_hashWhatWouldBe 51 = .ok (.invokevirtual 293, 3) := by decide +kernel
theorem dX5_hashWhatWouldBe_54 : decode cX5_hashWhatWouldBe 54 = .ok (.i2l, 1) := by decide +kernel
theorem dX5_hashWhatWouldBe_55 : decode cX5_hashWhatWouldBe 55 = .ok (.ladd, 1) := by decide +kernel
theorem dX5_hashWhatWouldBe_56 : decode cX5_hashWhatWouldBe 56 = .ok (.lstore_n 3, 1) := by decide +kernel
theorem dX5_hashWhatWouldBe_57 : decode cX5_hashWhatWouldBe 57 = .ok (.ldc2_w 259, 3) := by decide +kernel
theorem dX5_hashWhatWouldBe_60 : decode cX5_hashWhatWouldBe 60 = .ok (.lload_n 3, 1) := by decide +kernel
theorem dX5_hashWhatWouldBe_61 : decode cX5_hashWhatWouldBe 61 = .ok (.lmul, 1) := by decide +kernel
theorem dX5_hashWhatWouldBe_62 : decode cX5_hashWhatWouldBe 62 = .ok (.aload_n 0, 1) := by decide +kernel
theorem dX5_hashWhatWouldBe_63 : decode cX5_hashWhatWouldBe 63 = .ok (.iconst 2, 1) := by decide +kernel
theorem dX5_hashWhatWouldBe_64 : decode cX5_hashWhatWouldBe 64 = .ok (.invokevirtual 251, 3) := by decide +kernel
theorem dX5_hashWhatWouldBe_67 : decode cX5_hashWhatWouldBe 67 = .ok (.i2l, 1) := by decide +kernel
theorem dX5_hashWhatWouldBe_68 : decode cX5_hashWhatWouldBe 68 = .ok (.ladd, 1) := by decide +kernel
theorem dX5_hashWhatWouldBe_69 : decode cX5_hashWhatWouldBe 69 = .ok (.lstore_n 3, 1) := by decide +kernel
theorem dX5_hashWhatWouldBe_70 : decode cX5_hashWhatWouldBe 70 = .ok (.ldc2_w 259, 3) := by decide +kernel
theorem dX5_hashWhatWouldBe_73 : decode cX5_hashWhatWouldBe 73 = .ok (.lload_n 3, 1) := by decide +kernel
theorem dX5_hashWhatWouldBe_74 : decode cX5_hashWhatWouldBe 74 = .ok (.lmul, 1) := by decide +kernel
theorem dX5_hashWhatWouldBe_75 : decode cX5_hashWhatWouldBe 75 = .ok (.aload_n 0, 1) := by decide +kernel
theorem dX5_hashWhatWouldBe_76 : decode cX5_hashWhatWouldBe 76 = .ok (.getfield 16, 3) := by decide +kernel
theorem dX5_hashWhatWouldBe_79 : decode cX5_hashWhatWouldBe 79 = .ok (.getfield 78, 3) := by decide +kernel
theorem dX5_hashWhatWouldBe_82 : decode cX5_hashWhatWouldBe 82 = .ok (.invokevirtual 208, 3) := by decide +kernel
theorem dX5_hashWhatWouldBe_85 : decode cX5_hashWhatWouldBe 85 = .ok (.i2l, 1) := by decide +kernel
theorem dX5_hashWhatWouldBe_86 : decode cX5_hashWhatWouldBe 86 = .ok (.ladd, 1) := by decide +kernel
theorem dX5_hashWhatWouldBe_87 : decode cX5_hashWhatWouldBe 87 = .ok (.lstore_n 3, 1) := by decide +kernel
theorem dX5_hashWhatWouldBe_88 : decode cX5_hashWhatWouldBe 88 = .ok (.ldc2_w 259, 3) := by decide +kernel
theorem dX5_hashWhatWouldBe_91 : decode cX5_hashWhatWouldBe 91 = .ok (.lload_n 3, 1) := by decide +kernel
theorem dX5_hashWhatWouldBe_92 : decode cX5_hashWhatWouldBe 92 = .ok (.lmul, 1) := by decide +kernel
theorem dX5_hashWhatWouldBe_93 : decode cX5_hashWhatWouldBe 93 = .ok (.aload_n 0, 1) := by decide +kernel
theorem dX5_hashWhatWouldBe_94 : decode cX5_hashWhatWouldBe 94 = .ok (.getfield 16, 3) := by decide +kernel
theorem dX5_hashWhatWouldBe_97 : decode cX5_hashWhatWouldBe 97 = .ok (.getfield 44, 3) := by decide +kernel
theorem dX5_hashWhatWouldBe_100 : decode cX5_hashWhatWouldBe 100 = .ok (.invokevirtual 214, 3) := by decide +kernel
theorem dX5_hashWhatWouldBe_103 : decode cX5_hashWhatWouldBe 103 = .ok (.i2l, 1) := by decide +kernel
theorem dX5_hashWhatWouldBe_104 : decode cX5_hashWhatWouldBe 104 = .ok (.ladd, 1) := by decide +kernel
theorem dX5_hashWhatWouldBe_105 : decode cX5_hashWhatWouldBe 105 = .ok (.lstore_n 3, 1) := by decide +kernel
theorem dX5_hashWhatWouldBe_106 : decode cX5_hashWhatWouldBe 106 = .ok (.iconst 1, 1) := by decide +kernel
theorem dX5_hashWhatWouldBe_107 : decode cX5_hashWhatWouldBe 107 = .ok (.istore 5, 2) := by decide +kernel
theorem dX5_hashWhatWouldBe_109 : decode cX5_hashWhatWouldBe 109 = .ok (.iload 5, 2) := by decide +kernel
theorem dX5_hashWhatWouldBe_111 : decode cX5_hashWhatWouldBe 111 = .ok (.iconst 4, 1) := by decide +kernel
theorem dX5_hashWhatWouldBe_112 : decode cX5_hashWhatWouldBe 112 = .ok (.if_icmp .gt 39, 3) := by decide +kernel
theorem dX5_hashWhatWouldBe_115 : decode cX5_hashWhatWouldBe 115 = .ok (.ldc2_w 259, 3) := by decide +kernel
theorem dX5_hashWhatWouldBe_118 : decode cX5_hashWhatWouldBe 118 = .ok (.lload_n 3, 1) := by decide +kernel
theorem dX5_hashWhatWouldBe_119 : decode cX5_hashWhatWouldBe 119 = .ok (.lmul, 1) := by decide +kernel
theorem dX5_hashWhatWouldBe_120 : decode cX5_hashWhatWouldBe 120 = .ok (.aload_n 0, 1) := by decide +kernel
theorem dX5_hashWhatWouldBe_121 : decode cX5_hashWhatWouldBe 121 = .ok (.iload 5, 2) := by decide +kernel
theorem dX5_hashWhatWouldBe_123 : decode cX5_hashWhatWouldBe 123 = .ok (.iconst 0, 1) := by decide +kernel
theorem dX5_hashWhatWouldBe_124 : decode cX5_hashWhatWouldBe 124 = .ok (.invokevirtual 296, 3) := by decide +kernel
theorem dX5_hashWhatWouldBe_127 : decode cX5_hashWhatWouldBe 127 = .ok (.i2l, 1) := by decide +kernel
theorem dX5_hashWhatWouldBe_128 : decode cX5_hashWhatWouldBe 128 = .ok (.ladd, 1) := by decide +kernel
theorem dX5_hashWhatWouldBe_129 : decode cX5_hashWhatWouldBe 129 = .ok (.lstore_n 3, 1) := by decide +kernel
theorem dX5_hashWhatWouldBe_130 : decode cX5_hashWhatWouldBe 130 = .ok (.ldc2_w 259, 3) := by decide +kernel
theorem dX5_hashWhatWouldBe_133 : decode cX5_hashWhatWouldBe 133 = .ok (.lload_n 3, 1) := by decide +kernel
theorem dX5_hashWhatWouldBe_134 : decode cX5_hashWhatWouldBe 134 = .ok (.lmul, 1) := by decide +kernel
theorem dX5_hashWhatWouldBe_135 : decode cX5_hashWhatWouldBe 135 = .ok (.aload_n 0, 1) := by decide +kernel
theorem dX5_hashWhatWouldBe_136 : decode cX5_hashWhatWouldBe 136 = .ok (.iload 5, 2) := by decide +kernel
theorem dX5_hashWhatWouldBe_138 : decode cX5_hashWhatWouldBe 138 = .ok (.iconst 1, 1) := by decide +kernel
theorem dX5_hashWhatWouldBe_139 : decode cX5_hashWhatWouldBe 139 = .ok (.invokevirtual 296, 3) := by decide +kernel
theorem dX5_hashWhatWouldBe_142 : decode cX5_hashWhatWouldBe 142 = .ok (.i2l, 1) := by decide +kernel
theorem dX5_hashWhatWouldBe_143 : decode cX5_hashWhatWouldBe 143 = .ok (.ladd, 1) := by decide +kernel
theorem dX5_hashWhatWouldBe_144 : decode cX5_hashWhatWouldBe 144 = .ok (.lstore_n 3, 1) := by decide +kernel
theorem dX5_hashWhatWouldBe_145 : decode cX5_hashWhatWouldBe 145 = .ok (.iinc 5 1, 3) := by decide +kernel
theorem dX5_hashWhatWouldBe_148 : decode cX5_hashWhatWouldBe 148 = .ok (.goto (-39), 3) := by decide +kernel
theorem dX5_hashWhatWouldBe_151 : decode cX5_hashWhatWouldBe 151 = .ok (.ldc2_w 259, 3) := by decide +kernel
theorem dX5_hashWhatWouldBe_154 : decode cX5_hashWhatWouldBe 154 = .ok (.lload_n 3, 1) := by decide +kernel
theorem dX5_hashWhatWouldBe_155 : decode cX5_hashWhatWouldBe 155 = .ok (.lmul, 1) := by decide +kernel
theorem dX5_hashWhatWouldBe_156 : decode cX5_hashWhatWouldBe 156 = .ok (.aload_n 0, 1) := by decide +kernel
theorem dX5_hashWhatWouldBe_157 : decode cX5_hashWhatWouldBe 157 = .ok (.invokevirtual 300, 3) := by decide +kernel
theorem dX5_hashWhatWouldBe_160 : decode cX5_hashWhatWouldBe 160 = .ok (.invokestatic 304, 3) := by decide +kernel
theorem dX5_hashWhatWouldBe_163 : decode cX5_hashWhatWouldBe 163 = .ok (.ladd, 1) := by decide +kernel
theorem dX5_hashWhatWouldBe_164 : decode cX5_hashWhatWouldBe 164 = .ok (.lreturn, 1) := by decide +kernel
theorem dX5_tryEvents_0 : decode cX5_tryEvents 0 = .ok (.aload_n 0, 1) := by decide +kernel
theorem dX5_tryEvents_1 : decode cX5_tryEvents 1 = .ok (.getfield 16, 3) := by decide +kernel
theorem dX5_tryEvents_4 : decode cX5_tryEvents 4 = .ok (.aload_n 0, 1) := by decide +kernel
theorem dX5_tryEvents_5 : decode cX5_tryEvents 5 = .ok (.getfield 10, 3) := by decide +kernel
theorem dX5_tryEvents_8 : decode cX5_tryEvents 8 = .ok (.invokevirtual 308, 3) := by decide +kernel
theorem dX5_tryEvents_11 : decode cX5_tryEvents 11 = .ok (.iconst 0, 1) := by decide +kernel
theorem dX5_tryEvents_12 : decode cX5_tryEvents 12 = .ok (.istore_n 2, 1) := by decide +kernel
theorem dX5_tryEvents_13 : decode cX5_tryEvents 13 = .ok (.iconst 0, 1) := by decide +kernel
theorem dX5_tryEvents_14 : decode cX5_tryEvents 14 = .ok (.istore_n 3, 1) := by decide +kernel
theorem dX5_tryEvents_15 : decode cX5_tryEvents 15 = .ok (.iload_n 3, 1) := by decide +kernel
theorem dX5_tryEvents_16 : decode cX5_tryEvents 16 = .ok (.iload_n 1, 1) := by decide +kernel
theorem dX5_tryEvents_17 : decode cX5_tryEvents 17 = .ok (.if_icmp .ge 19, 3) := by decide +kernel
theorem dX5_tryEvents_20 : decode cX5_tryEvents 20 = .ok (.iload_n 2, 1) := by decide +kernel
theorem dX5_tryEvents_21 : decode cX5_tryEvents 21 = .ok (.aload_n 0, 1) := by decide +kernel
theorem dX5_tryEvents_22 : decode cX5_tryEvents 22 = .ok (.getfield 16, 3) := by decide +kernel
theorem dX5_tryEvents_25 : decode cX5_tryEvents 25 = .ok (.invokevirtual 127, 3) := by decide +kernel
theorem dX5_tryEvents_28 : decode cX5_tryEvents 28 = .ok (.iadd, 1) := by decide +kernel
theorem dX5_tryEvents_29 : decode cX5_tryEvents 29 = .ok (.istore_n 2, 1) := by decide +kernel
theorem dX5_tryEvents_30 : decode cX5_tryEvents 30 = .ok (.iinc 3 1, 3) := by decide +kernel
theorem dX5_tryEvents_33 : decode cX5_tryEvents 33 = .ok (.goto (-18), 3) := by decide +kernel
theorem dX5_tryEvents_36 : decode cX5_tryEvents 36 = .ok (.iload_n 2, 1) := by decide +kernel
theorem dX5_tryEvents_37 : decode cX5_tryEvents 37 = .ok (.ireturn, 1) := by decide +kernel
theorem dX5_hashBuffer_0 : decode cX5_hashBuffer 0 = .ok (.aload_n 0, 1) := by decide +kernel
theorem dX5_hashBuffer_1 : decode cX5_hashBuffer 1 = .ok (.getfield 29, 3) := by decide +kernel
theorem dX5_hashBuffer_4 : decode cX5_hashBuffer 4 = .ok (.invokevirtual 145, 3) := by decide +kernel
theorem dX5_hashBuffer_7 : decode cX5_hashBuffer 7 = .ok (.istore_n 3, 1) := by decide +kernel
theorem dX5_hashBuffer_8 : decode cX5_hashBuffer 8 = .ok (.ldc2_w 259, 3) := by decide +kernel
theorem dX5_hashBuffer_11 : decode cX5_hashBuffer 11 = .ok (.lload_n 1, 1) := by decide +kernel
theorem dX5_hashBuffer_12 : decode cX5_hashBuffer 12 = .ok (.lmul, 1) := by decide +kernel
theorem dX5_hashBuffer_13 : decode cX5_hashBuffer 13 = .ok (.iload_n 3, 1) := by decide +kernel
theorem dX5_hashBuffer_14 : decode cX5_hashBuffer 14 = .ok (.i2l, 1) := by decide +kernel
theorem dX5_hashBuffer_15 : decode cX5_hashBuffer 15 = .ok (.ladd, 1) := by decide +kernel
theorem dX5_hashBuffer_16 : decode cX5_hashBuffer 16 = .ok (.lstore 4, 2) := by decide +kernel
theorem dX5_hashBuffer_18 : decode cX5_hashBuffer 18 = .ok (.iconst 0, 1) := by decide +kernel
theorem dX5_hashBuffer_19 : decode cX5_hashBuffer 19 = .ok (.istore 6, 2) := by decide +kernel
theorem dX5_hashBuffer_21 : decode cX5_hashBuffer 21 = .ok (.iload 6, 2) := by decide +kernel
theorem dX5_hashBuffer_23 : decode cX5_hashBuffer 23 = .ok (.iload_n 3, 1) := by decide +kernel
theorem dX5_hashBuffer_24 : decode cX5_hashBuffer 24 = .ok (.if_icmp .ge 28, 3) := by decide +kernel
theorem dX5_hashBuffer_27 : decode cX5_hashBuffer 27 = .ok (.ldc2_w 259, 3) := by decide +kernel
theorem dX5_hashBuffer_30 : decode cX5_hashBuffer 30 = .ok (.lload 4, 2) := by decide +kernel
theorem dX5_hashBuffer_32 : decode cX5_hashBuffer 32 = .ok (.lmul, 1) := by decide +kernel
theorem dX5_hashBuffer_33 : decode cX5_hashBuffer 33 = .ok (.aload_n 0, 1) := by decide +kernel
theorem dX5_hashBuffer_34 : decode cX5_hashBuffer 34 = .ok (.getfield 29, 3) := by decide +kernel
theorem dX5_hashBuffer_37 : decode cX5_hashBuffer 37 = .ok (.iload 6, 2) := by decide +kernel
theorem dX5_hashBuffer_39 : decode cX5_hashBuffer 39 = .ok (.invokevirtual 311, 3) := by decide +kernel
theorem dX5_hashBuffer_42 : decode cX5_hashBuffer 42 = .ok (.i2l, 1) := by decide +kernel
theorem dX5_hashBuffer_43 : decode cX5_hashBuffer 43 = .ok (.ladd, 1) := by decide +kernel
theorem dX5_hashBuffer_44 : decode cX5_hashBuffer 44 = .ok (.lstore 4, 2) := by decide +kernel
theorem dX5_hashBuffer_46 : decode cX5_hashBuffer 46 = .ok (.iinc 6 1, 3) := by decide +kernel
theorem dX5_hashBuffer_49 : decode cX5_hashBuffer 49 = .ok (.goto (-28), 3) := by decide +kernel
theorem dX5_hashBuffer_52 : decode cX5_hashBuffer 52 = .ok (.lload 4, 2) := by decide +kernel
theorem dX5_hashBuffer_54 : decode cX5_hashBuffer 54 = .ok (.lreturn, 1) := by decide +kernel
theorem dX5_bitsOfShare_0 : decode cX5_bitsOfShare 0 = .ok (.dload_n 0, 1) := by decide +kernel
theorem dX5_bitsOfShare_1 : decode cX5_bitsOfShare 1 = .ok (.dconst 0, 1) := by decide +kernel
theorem dX5_bitsOfShare_2 : decode cX5_bitsOfShare 2 = .ok (.dcmp .g, 1) := by decide +kernel
theorem dX5_bitsOfShare_3 : decode cX5_bitsOfShare 3 = .ok (.ifCond .gt 5, 3) := by decide +kernel
theorem dX5_bitsOfShare_6 : decode cX5_bitsOfShare 6 = .ok (.lconst 0, 1) := by decide +kernel
theorem dX5_bitsOfShare_7 : decode cX5_bitsOfShare 7 = .ok (.lreturn, 1) := by decide +kernel
theorem dX5_bitsOfShare_8 : decode cX5_bitsOfShare 8 = .ok (.dload_n 0, 1) := by decide +kernel
theorem dX5_bitsOfShare_9 : decode cX5_bitsOfShare 9 = .ok (.dstore_n 2, 1) := by decide +kernel
theorem dX5_bitsOfShare_10 : decode cX5_bitsOfShare 10 = .ok (.ldc2_w 314, 3) := by decide +kernel
theorem dX5_bitsOfShare_13 : decode cX5_bitsOfShare 13 = .ok (.lstore 4, 2) := by decide +kernel
theorem dX5_bitsOfShare_15 : decode cX5_bitsOfShare 15 = .ok (.iconst 0, 1) := by decide +kernel
theorem dX5_bitsOfShare_16 : decode cX5_bitsOfShare 16 = .ok (.istore 6, 2) := by decide +kernel
theorem dX5_bitsOfShare_18 : decode cX5_bitsOfShare 18 = .ok (.iload 6, 2) := by decide +kernel
theorem dX5_bitsOfShare_20 : decode cX5_bitsOfShare 20 = .ok (.bipush 6, 2) := by decide +kernel
theorem dX5_bitsOfShare_22 : decode cX5_bitsOfShare 22 = .ok (.if_icmp .ge 27, 3) := by decide +kernel
theorem dX5_bitsOfShare_25 : decode cX5_bitsOfShare 25 = .ok (.dload_n 2, 1) := by decide +kernel
theorem dX5_bitsOfShare_26 : decode cX5_bitsOfShare 26 = .ok (.dconst 1, 1) := by decide +kernel
theorem dX5_bitsOfShare_27 : decode cX5_bitsOfShare 27 = .ok (.dcmp .g, 1) := by decide +kernel
theorem dX5_bitsOfShare_28 : decode cX5_bitsOfShare 28 = .ok (.ifCond .ge 21, 3) := by decide +kernel
theorem dX5_bitsOfShare_31 : decode cX5_bitsOfShare 31 = .ok (.dload_n 2, 1) := by decide +kernel
theorem dX5_bitsOfShare_32 : decode cX5_bitsOfShare 32 = .ok (.ldc2_w 316, 3) := by decide +kernel
theorem dX5_bitsOfShare_35 : decode cX5_bitsOfShare 35 = .ok (.dmul, 1) := by decide +kernel
theorem dX5_bitsOfShare_36 : decode cX5_bitsOfShare 36 = .ok (.dstore_n 2, 1) := by decide +kernel
theorem dX5_bitsOfShare_37 : decode cX5_bitsOfShare 37 = .ok (.lload 4, 2) := by decide +kernel
theorem dX5_bitsOfShare_39 : decode cX5_bitsOfShare 39 = .ok (.lconst 1, 1) := by decide +kernel
theorem dX5_bitsOfShare_40 : decode cX5_bitsOfShare 40 = .ok (.lsub, 1) := by decide +kernel
theorem dX5_bitsOfShare_41 : decode cX5_bitsOfShare 41 = .ok (.lstore 4, 2) := by decide +kernel
theorem dX5_bitsOfShare_43 : decode cX5_bitsOfShare 43 = .ok (.iinc 6 1, 3) := by decide +kernel
theorem dX5_bitsOfShare_46 : decode cX5_bitsOfShare 46 = .ok (.goto (-28), 3) := by decide +kernel
theorem dX5_bitsOfShare_49 : decode cX5_bitsOfShare 49 = .ok (.lload 4, 2) := by decide +kernel
theorem dX5_bitsOfShare_51 : decode cX5_bitsOfShare 51 = .ok (.bipush 52, 2) := by decide +kernel
theorem dX5_bitsOfShare_53 : decode cX5_bitsOfShare 53 = .ok (.lshl, 1) := by decide +kernel
theorem dX5_bitsOfShare_54 : decode cX5_bitsOfShare 54 = .ok (.dload_n 2, 1) := by decide +kernel
theorem dX5_bitsOfShare_55 : decode cX5_bitsOfShare 55 = .ok (.dconst 1, 1) := by decide +kernel
theorem dX5_bitsOfShare_56 : decode cX5_bitsOfShare 56 = .ok (.dsub, 1) := by decide +kernel
theorem dX5_bitsOfShare_57 : decode cX5_bitsOfShare 57 = .ok (.ldc2_w 318, 3) := by decide +kernel
theorem dX5_bitsOfShare_60 : decode cX5_bitsOfShare 60 = .ok (.dmul, 1) := by decide +kernel
theorem dX5_bitsOfShare_61 : decode cX5_bitsOfShare 61 = .ok (.d2l, 1) := by decide +kernel
theorem dX5_bitsOfShare_62 : decode cX5_bitsOfShare 62 = .ok (.ladd, 1) := by decide +kernel
theorem dX5_bitsOfShare_63 : decode cX5_bitsOfShare 63 = .ok (.lreturn, 1) := by decide +kernel
theorem dX5_putParts_0 : decode cX5_putParts 0 = .ok (.iconst 0, 1) := by decide +kernel
theorem dX5_putParts_1 : decode cX5_putParts 1 = .ok (.istore_n 1, 1) := by decide +kernel
theorem dX5_putParts_2 : decode cX5_putParts 2 = .ok (.aload_n 0, 1) := by decide +kernel
theorem dX5_putParts_3 : decode cX5_putParts 3 = .ok (.getfield 29, 3) := by decide +kernel
theorem dX5_putParts_6 : decode cX5_putParts 6 = .ok (.invokevirtual 145, 3) := by decide +kernel
theorem dX5_putParts_9 : decode cX5_putParts 9 = .ok (.istore_n 2, 1) := by decide +kernel
theorem dX5_putParts_10 : decode cX5_putParts 10 = .ok (.iconst 0, 1) := by decide +kernel
theorem dX5_putParts_11 : decode cX5_putParts 11 = .ok (.istore_n 3, 1) := by decide +kernel
theorem dX5_putParts_12 : decode cX5_putParts 12 = .ok (.iconst 0, 1) := by decide +kernel
theorem dX5_putParts_13 : decode cX5_putParts 13 = .ok (.istore 4, 2) := by decide +kernel
theorem dX5_putParts_15 : decode cX5_putParts 15 = .ok (.iload 4, 2) := by decide +kernel
theorem dX5_putParts_17 : decode cX5_putParts 17 = .ok (.bipush 60, 2) := by decide +kernel
theorem dX5_putParts_19 : decode cX5_putParts 19 = .ok (.if_icmp .ge 104, 3) := by decide +kernel
theorem dX5_putParts_22 : decode cX5_putParts 22 = .ok (.iload_n 3, 1) := by decide +kernel
theorem dX5_putParts_23 : decode cX5_putParts 23 = .ok (.iload_n 2, 1) := by decide +kernel
theorem dX5_putParts_24 : decode cX5_putParts 24 = .ok (.if_icmp .ge 99, 3) := by decide +kernel
theorem dX5_putParts_27 : decode cX5_putParts 27 = .ok (.aload_n 0, 1) := by decide +kernel
theorem dX5_putParts_28 : decode cX5_putParts 28 = .ok (.getfield 29, 3) := by decide +kernel
theorem dX5_putParts_31 : decode cX5_putParts 31 = .ok (.bipush 42, 2) := by decide +kernel
theorem dX5_putParts_33 : decode cX5_putParts 33 = .ok (.iload_n 3, 1) := by decide +kernel
theorem dX5_putParts_34 : decode cX5_putParts 34 = .ok (.invokevirtual 320, 3) := by decide +kernel
theorem dX5_putParts_37 : decode cX5_putParts 37 = .ok (.istore 5, 2) := by decide +kernel
theorem dX5_putParts_39 : decode cX5_putParts 39 = .ok (.aload_n 0, 1) := by decide +kernel
theorem dX5_putParts_40 : decode cX5_putParts 40 = .ok (.getfield 29, 3) := by decide +kernel
theorem dX5_putParts_43 : decode cX5_putParts 43 = .ok (.bipush 44, 2) := by decide +kernel
theorem dX5_putParts_45 : decode cX5_putParts 45 = .ok (.iload_n 3, 1) := by decide +kernel
theorem dX5_putParts_46 : decode cX5_putParts 46 = .ok (.invokevirtual 320, 3) := by decide +kernel
theorem dX5_putParts_49 : decode cX5_putParts 49 = .ok (.istore 6, 2) := by decide +kernel
theorem dX5_putParts_51 : decode cX5_putParts 51 = .ok (.aload_n 0, 1) := by decide +kernel
theorem dX5_putParts_52 : decode cX5_putParts 52 = .ok (.getfield 29, 3) := by decide +kernel
theorem dX5_putParts_55 : decode cX5_putParts 55 = .ok (.iload_n 3, 1) := by decide +kernel
theorem dX5_putParts_56 : decode cX5_putParts 56 = .ok (.iload 5, 2) := by decide +kernel
theorem dX5_putParts_58 : decode cX5_putParts 58 = .ok (.invokevirtual 322, 3) := by decide +kernel
theorem dX5_putParts_61 : decode cX5_putParts 61 = .ok (.istore 7, 2) := by decide +kernel
theorem dX5_putParts_63 : decode cX5_putParts 63 = .ok (.aload_n 0, 1) := by decide +kernel
theorem dX5_putParts_64 : decode cX5_putParts 64 = .ok (.getfield 29, 3) := by decide +kernel
theorem dX5_putParts_67 : decode cX5_putParts 67 = .ok (.iload 5, 2) := by decide +kernel
theorem dX5_putParts_69 : decode cX5_putParts 69 = .ok (.iconst 1, 1) := by decide +kernel
theorem dX5_putParts_70 : decode cX5_putParts 70 = .ok (.iadd, 1) := by decide +kernel
theorem dX5_putParts_71 : decode cX5_putParts 71 = .ok (.iload 5, 2) := by decide +kernel
theorem dX5_putParts_73 : decode cX5_putParts 73 = .ok (.iconst 2, 1) := by decide +kernel
theorem dX5_putParts_74 : decode cX5_putParts 74 = .ok (.iadd, 1) := by decide +kernel
theorem dX5_putParts_75 : decode cX5_putParts 75 = .ok (.invokevirtual 322, 3) := by decide +kernel
theorem dX5_putParts_78 : decode cX5_putParts 78 = .ok (.istore 8, 2) := by decide +kernel
theorem dX5_putParts_80 : decode cX5_putParts 80 = .ok (.aload_n 0, 1) := by decide +kernel
theorem dX5_putParts_81 : decode cX5_putParts 81 = .ok (.getfield 10, 3) := by decide +kernel
theorem dX5_putParts_84 : decode cX5_putParts 84 = .ok (.iload 7, 2) := by decide +kernel
theorem dX5_putParts_86 : decode cX5_putParts 86 = .ok (.iload 8, 2) := by decide +kernel
theorem dX5_putParts_88 : decode cX5_putParts 88 = .ok (.aload_n 0, 1) := by decide +kernel
theorem dX5_putParts_89 : decode cX5_putParts 89 = .ok (.getfield 29, 3) := by decide +kernel
theorem dX5_putParts_92 : decode cX5_putParts 92 = .ok (.iload 6, 2) := by decide +kernel
theorem dX5_putParts_94 : decode cX5_putParts 94 = .ok (.iconst 1, 1) := by decide +kernel
theorem dX5_putParts_95 : decode cX5_putParts 95 = .ok (.isub, 1) := by decide +kernel
theorem dX5_putParts_96 : decode cX5_putParts 96 = .ok (.invokevirtual 311, 3) := by decide +kernel
theorem dX5_putParts_99 : decode cX5_putParts 99 = .ok (.invokestatic 325, 3) := by decide +kernel
theorem dX5_putParts_102 : decode cX5_putParts 102 = .ok (.invokevirtual 63, 3) := by decide +kernel
theorem dX5_putParts_105 : decode cX5_putParts 105 = .ok (.iconst (-1), 1) := by decide +kernel
theorem dX5_putParts_106 : decode cX5_putParts 106 = .ok (.if_icmp .eq 6, 3) := by decide +kernel
theorem dX5_putParts_109 : decode cX5_putParts 109 = .ok (.iinc 1 1, 3) := by decide +kernel
theorem dX5_putParts_112 : decode cX5_putParts 112 = .ok (.iload 6, 2) := by decide +kernel
theorem dX5_putParts_114 : decode cX5_putParts 114 = .ok (.iconst 1, 1) := by decide +kernel
theorem dX5_putParts_115 : decode cX5_putParts 115 = .ok (.iadd, 1) := by decide +kernel
theorem dX5_putParts_116 : decode cX5_putParts 116 = .ok (.istore_n 3, 1) := by decide +kernel
theorem dX5_putParts_117 : decode cX5_putParts 117 = .ok (.iinc 4 1, 3) := by decide +kernel
theorem dX5_putParts_120 : decode cX5_putParts 120 = .ok (.goto (-105), 3) := by decide +kernel
theorem dX5_putParts_123 : decode cX5_putParts 123 = .ok (.iload_n 1, 1) := by decide +kernel
theorem dX5_putParts_124 : decode cX5_putParts 124 = .ok (.ireturn, 1) := by decide +kernel
theorem dX5_kindOfSign_0 : decode cX5_kindOfSign 0 = .ok (.iload_n 0, 1) := by decide +kernel
theorem dX5_kindOfSign_1 : decode cX5_kindOfSign 1 = .ok (.bipush 33, 2) := by decide +kernel
theorem dX5_kindOfSign_3 : decode cX5_kindOfSign 3 = .ok (.if_icmp .ne 5, 3) := by decide +kernel
theorem dX5_kindOfSign_6 : decode cX5_kindOfSign 6 = .ok (.iconst 1, 1) := by decide +kernel
theorem dX5_kindOfSign_7 : decode cX5_kindOfSign 7 = .ok (.ireturn, 1) := by decide +kernel
theorem dX5_kindOfSign_8 : decode cX5_kindOfSign 8 = .ok (.iload_n 0, 1) := by decide +kernel
theorem dX5_kindOfSign_9 : decode cX5_kindOfSign 9 = .ok (.bipush 43, 2) := by decide +kernel
theorem dX5_kindOfSign_11 : decode cX5_kindOfSign 11 = .ok (.if_icmp .ne 7, 3) := by decide +kernel
theorem dX5_kindOfSign_14 : decode cX5_kindOfSign 14 = .ok (.iconst 2, 1) := by decide +kernel
theorem dX5_kindOfSign_15 : decode cX5_kindOfSign 15 = .ok (.goto 4, 3) := by decide +kernel
theorem dX5_kindOfSign_18 : decode cX5_kindOfSign 18 = .ok (.iconst 0, 1) := by decide +kernel
theorem dX5_kindOfSign_19 : decode cX5_kindOfSign 19 = .ok (.ireturn, 1) := by decide +kernel
theorem dX5_isThing_0 : decode cX5_isThing 0 = .ok (.iload_n 0, 1) := by decide +kernel
theorem dX5_isThing_1 : decode cX5_isThing 1 = .ok (.invokestatic 98, 3) := by decide +kernel
theorem dX5_isThing_4 : decode cX5_isThing 4 = .ok (.ifCond .eq 23, 3) := by decide +kernel
theorem dX5_isThing_7 : decode cX5_isThing 7 = .ok (.iload_n 1, 1) := by decide +kernel
theorem dX5_isThing_8 : decode cX5_isThing 8 = .ok (.invokestatic 238, 3) := by decide +kernel
theorem dX5_isThing_11 : decode cX5_isThing 11 = .ok (.ifCond .eq 16, 3) := by decide +kernel
theorem dX5_isThing_14 : decode cX5_isThing 14 = .ok (.iload_n 2, 1) := by decide +kernel
theorem dX5_isThing_15 : decode cX5_isThing 15 = .ok (.ifCond .lt 12, 3) := by decide +kernel
theorem dX5_isThing_18 : decode cX5_isThing 18 = .ok (.iload_n 2, 1) := by decide +kernel
theorem dX5_isThing_19 : decode cX5_isThing 19 = .ok (.iconst 2, 1) := by decide +kernel
theorem dX5_isThing_20 : decode cX5_isThing 20 = .ok (.if_icmp .gt 7, 3) := by decide +kernel
theorem dX5_isThing_23 : decode cX5_isThing 23 = .ok (.iconst 1, 1) := by decide +kernel
theorem dX5_isThing_24 : decode cX5_isThing 24 = .ok (.goto 4, 3) := by decide +kernel
theorem dX5_isThing_27 : decode cX5_isThing 27 = .ok (.iconst 0, 1) := by decide +kernel
theorem dX5_isThing_28 : decode cX5_isThing 28 = .ok (.ireturn, 1) := by decide +kernel
theorem dX5_isValue_0 : decode cX5_isValue 0 = .ok (.iload_n 0, 1) := by decide +kernel
theorem dX5_isValue_1 : decode cX5_isValue 1 = .ok (.ifCond .lt 14, 3) := by decide +kernel
theorem dX5_isValue_4 : decode cX5_isValue 4 = .ok (.iload_n 0, 1) := by decide +kernel
theorem dX5_isValue_5 : decode cX5_isValue 5 = .ok (.sipush 999, 3) := by decide +kernel
theorem dX5_isValue_8 : decode cX5_isValue 8 = .ok (.if_icmp .gt 7, 3) := by decide +kernel
theorem dX5_isValue_11 : decode cX5_isValue 11 = .ok (.iconst 1, 1) := by decide +kernel
theorem dX5_isValue_12 : decode cX5_isValue 12 = .ok (.goto 4, 3) := by decide +kernel
theorem dX5_isValue_15 : decode cX5_isValue 15 = .ok (.iconst 0, 1) := by decide +kernel
theorem dX5_isValue_16 : decode cX5_isValue 16 = .ok (.ireturn, 1) := by decide +kernel
theorem dX5_isSize_0 : decode cX5_isSize 0 = .ok (.iload_n 0, 1) := by decide +kernel
theorem dX5_isSize_1 : decode cX5_isSize 1 = .ok (.iconst 1, 1) := by decide +kernel
theorem dX5_isSize_2 : decode cX5_isSize 2 = .ok (.if_icmp .lt 12, 3) := by decide +kernel
theorem dX5_isSize_5 : decode cX5_isSize 5 = .ok (.iload_n 0, 1) := by decide +kernel
theorem dX5_isSize_6 : decode cX5_isSize 6 = .ok (.iconst 4, 1) := by decide +kernel
theorem dX5_isSize_7 : decode cX5_isSize 7 = .ok (.if_icmp .gt 7, 3) := by decide +kernel
theorem dX5_isSize_10 : decode cX5_isSize 10 = .ok (.iconst 1, 1) := by decide +kernel
theorem dX5_isSize_11 : decode cX5_isSize 11 = .ok (.goto 4, 3) := by decide +kernel
theorem dX5_isSize_14 : decode cX5_isSize 14 = .ok (.iconst 0, 1) := by decide +kernel
theorem dX5_isSize_15 : decode cX5_isSize 15 = .ok (.ireturn, 1) := by decide +kernel
theorem dX5_isWalker_0 : decode cX5_isWalker 0 = .ok (.iload_n 0, 1) := by decide +kernel
theorem dX5_isWalker_1 : decode cX5_isWalker 1 = .ok (.ifCond .lt 12, 3) := by decide +kernel
theorem dX5_isWalker_4 : decode cX5_isWalker 4 = .ok (.iload_n 0, 1) := by decide +kernel
theorem dX5_isWalker_5 : decode cX5_isWalker 5 = .ok (.iconst 4, 1) := by decide +kernel
theorem dX5_isWalker_6 : decode cX5_isWalker 6 = .ok (.if_icmp .ge 7, 3) := by decide +kernel
theorem dX5_isWalker_9 : decode cX5_isWalker 9 = .ok (.iconst 1, 1) := by decide +kernel
theorem dX5_isWalker_10 : decode cX5_isWalker 10 = .ok (.goto 4, 3) := by decide +kernel
theorem dX5_isWalker_13 : decode cX5_isWalker 13 = .ok (.iconst 0, 1) := by decide +kernel
theorem dX5_isWalker_14 : decode cX5_isWalker 14 = .ok (.ireturn, 1) := by decide +kernel
theorem dX6_init_0 : decode cX6_init 0 = .ok (.aload_n 0, 1) := by decide +kernel
theorem dX6_init_1 : decode cX6_init 1 = .ok (.invokespecial 1, 3) := by decide +kernel
theorem dX6_init_4 : decode cX6_init 4 = .ok (.aload_n 0, 1) := by decide +kernel
theorem dX6_init_5 : decode cX6_init 5 = .ok (.sipush 414, 3) := by decide +kernel
theorem dX6_init_8 : decode cX6_init 8 = .ok (.newarray .int, 2) := by decide +kernel
theorem dX6_init_10 : decode cX6_init 10 = .ok (.putfield 7, 3) := by decide +kernel
theorem dX6_init_13 : decode cX6_init 13 = .ok (.aload_n 0, 1) := by decide +kernel
theorem dX6_init_14 : decode cX6_init 14 = .ok (.sipush 414, 3) := by decide +kernel
theorem dX6_init_17 : decode cX6_init 17 = .ok (.newarray .int, 2) := by decide +kernel
theorem dX6_init_19 : decode cX6_init 19 = .ok (.putfield 13, 3) := by decide +kernel
theorem dX6_init_22 : decode cX6_init 22 = .ok (.aload_n 0, 1) := by decide +kernel
theorem dX6_init_23 : decode cX6_init 23 = .ok (.sipush 2484, 3) := by decide +kernel
theorem dX6_init_26 : decode cX6_init 26 = .ok (.newarray .int, 2) := by decide +kernel
theorem dX6_init_28 : decode cX6_init 28 = .ok (.putfield 16, 3) := by decide +kernel
theorem dX6_init_31 : decode cX6_init 31 = .ok (.aload_n 0, 1) := by decide +kernel
theorem dX6_init_32 : decode cX6_init 32 = .ok (.bipush 60, 2) := by decide +kernel
theorem dX6_init_34 : decode cX6_init 34 = .ok (.newarray .int, 2) := by decide +kernel
theorem dX6_init_36 : decode cX6_init 36 = .ok (.putfield 19, 3) := by decide +kernel
theorem dX6_init_39 : decode cX6_init 39 = .ok (.aload_n 0, 1) := by decide +kernel
theorem dX6_init_40 : decode cX6_init 40 = .ok (.bipush 63, 2) := by decide +kernel
theorem dX6_init_42 : decode cX6_init 42 = .ok (.newarray .int, 2) := by decide +kernel
theorem dX6_init_44 : decode cX6_init 44 = .ok (.putfield 22, 3) := by decide +kernel
theorem dX6_init_47 : decode cX6_init 47 = .ok (.aload_n 0, 1) := by decide +kernel
theorem dX6_init_48 : decode cX6_init 48 = .ok (.getfield 7, 3) := by decide +kernel
theorem dX6_init_51 : decode cX6_init 51 = .ok (.iconst 0, 1) := by decide +kernel
theorem dX6_init_52 : decode cX6_init 52 = .ok (.bipush 16, 2) := by decide +kernel
theorem dX6_init_54 : decode cX6_init 54 = .ok (.iastore, 1) := by decide +kernel
theorem dX6_init_55 : decode cX6_init 55 = .ok (.iconst 0, 1) := by decide +kernel
theorem dX6_init_56 : decode cX6_init 56 = .ok (.istore_n 1, 1) := by decide +kernel
theorem dX6_init_57 : decode cX6_init 57 = .ok (.iload_n 1, 1) := by decide +kernel
theorem dX6_init_58 : decode cX6_init 58 = .ok (.iconst 4, 1) := by decide +kernel
theorem dX6_init_59 : decode cX6_init 59 = .ok (.if_icmp .ge 20, 3) := by decide +kernel
theorem dX6_init_62 : decode cX6_init 62 = .ok (.aload_n 0, 1) := by decide +kernel
theorem dX6_init_63 : decode cX6_init 63 = .ok (.getfield 7, 3) := by decide +kernel
theorem dX6_init_66 : decode cX6_init 66 = .ok (.sipush 410, 3) := by decide +kernel
theorem dX6_init_69 : decode cX6_init 69 = .ok (.iload_n 1, 1) := by decide +kernel
theorem dX6_init_70 : decode cX6_init 70 = .ok (.iadd, 1) := by decide +kernel
theorem dX6_init_71 : decode cX6_init 71 = .ok (.iconst (-1), 1) := by decide +kernel
theorem dX6_init_72 : decode cX6_init 72 = .ok (.iastore, 1) := by decide +kernel
theorem dX6_init_73 : decode cX6_init 73 = .ok (.iinc 1 1, 3) := by decide +kernel
theorem dX6_init_76 : decode cX6_init 76 = .ok (.goto (-19), 3) := by decide +kernel
theorem dX6_init_79 : decode cX6_init 79 = .ok (.return_, 1) := by decide +kernel
theorem dX6_thrown_0 : decode cX6_thrown 0 = .ok (.aload_n 0, 1) := by decide +kernel
theorem dX6_thrown_1 : decode cX6_thrown 1 = .ok (.getfield 25, 3) := by decide +kernel
theorem dX6_thrown_4 : decode cX6_thrown 4 = .ok (.ireturn, 1) := by decide +kernel
theorem dX6_in_0 : decode cX6_in 0 = .ok (.iload_n 0, 1) := by decide +kernel
theorem dX6_in_1 : decode cX6_in 1 = .ok (.iload_n 1, 1) := by decide +kernel
theorem dX6_in_2 : decode cX6_in 2 = .ok (.if_icmp .lt 12, 3) := by decide +kernel
theorem dX6_in_5 : decode cX6_in 5 = .ok (.iload_n 0, 1) := by decide +kernel
theorem dX6_in_6 : decode cX6_in 6 = .ok (.iload_n 2, 1) := by decide +kernel
theorem dX6_in_7 : decode cX6_in 7 = .ok (.if_icmp .gt 7, 3) := by decide +kernel
theorem dX6_in_10 : decode cX6_in 10 = .ok (.iconst 1, 1) := by decide +kernel
theorem dX6_in_11 : decode cX6_in 11 = .ok (.goto 4, 3) := by decide +kernel
theorem dX6_in_14 : decode cX6_in 14 = .ok (.iconst 0, 1) := by decide +kernel
theorem dX6_in_15 : decode cX6_in 15 = .ok (.ireturn, 1) := by decide +kernel
theorem dX6_refuses_0 : decode cX6_refuses 0 = .ok (.aload_n 0, 1) := by decide +kernel
theorem dX6_refuses_1 : decode cX6_refuses 1 = .ok (.iload_n 1, 1) := by decide +kernel
theorem dX6_refuses_2 : decode cX6_refuses 2 = .ok (.putfield 25, 3) := by decide +kernel
theorem dX6_refuses_5 : decode cX6_refuses 5 = .ok (.iload_n 1, 1) := by decide +kernel
theorem dX6_refuses_6 : decode cX6_refuses 6 = .ok (.ifCond .le 7, 3) := by decide +kernel
theorem dX6_refuses_9 : decode cX6_refuses 9 = .ok (.iconst 1, 1) := by decide +kernel
theorem dX6_refuses_10 : decode cX6_refuses 10 = .ok (.goto 4, 3) := by decide +kernel
theorem dX6_refuses_13 : decode cX6_refuses 13 = .ok (.iconst 0, 1) := by decide +kernel
theorem dX6_refuses_14 : decode cX6_refuses 14 = .ok (.ireturn, 1) := by decide +kernel
theorem dX6_lays_0 : decode cX6_lays 0 = .ok (.iconst 0, 1) := by decide +kernel
theorem dX6_lays_1 : decode cX6_lays 1 = .ok (.istore 4, 2) := by decide +kernel
theorem dX6_lays_3 : decode cX6_lays 3 = .ok (.iload 4, 2) := by decide +kernel
theorem dX6_lays_5 : decode cX6_lays 5 = .ok (.sipush 414, 3) := by decide +kernel
theorem dX6_lays_8 : decode cX6_lays 8 = .ok (.if_icmp .ge 21, 3) := by decide +kernel
theorem dX6_lays_11 : decode cX6_lays 11 = .ok (.aload_n 2, 1) := by decide +kernel
theorem dX6_lays_12 : decode cX6_lays 12 = .ok (.iload_n 3, 1) := by decide +kernel
theorem dX6_lays_13 : decode cX6_lays 13 = .ok (.iload 4, 2) := by decide +kernel
theorem dX6_lays_15 : decode cX6_lays 15 = .ok (.iadd, 1) := by decide +kernel
theorem dX6_lays_16 : decode cX6_lays 16 = .ok (.aload_n 0, 1) := by decide +kernel
theorem dX6_lays_17 : decode cX6_lays 17 = .ok (.iload_n 1, 1) := by decide +kernel
theorem dX6_lays_18 : decode cX6_lays 18 = .ok (.iload 4, 2) := by decide +kernel
theorem dX6_lays_20 : decode cX6_lays 20 = .ok (.iadd, 1) := by decide +kernel
theorem dX6_lays_21 : decode cX6_lays 21 = .ok (.iaload, 1) := by decide +kernel
theorem dX6_lays_22 : decode cX6_lays 22 = .ok (.iastore, 1) := by decide +kernel
theorem dX6_lays_23 : decode cX6_lays 23 = .ok (.iinc 4 1, 3) := by decide +kernel
theorem dX6_lays_26 : decode cX6_lays 26 = .ok (.goto (-23), 3) := by decide +kernel
theorem dX6_lays_29 : decode cX6_lays 29 = .ok (.return_, 1) := by decide +kernel
theorem dX6_saves_0 : decode cX6_saves 0 = .ok (.aload_n 0, 1) := by decide +kernel
theorem dX6_saves_1 : decode cX6_saves 1 = .ok (.getfield 29, 3) := by decide +kernel
theorem dX6_saves_4 : decode cX6_saves 4 = .ok (.bipush 6, 2) := by decide +kernel
theorem dX6_saves_6 : decode cX6_saves 6 = .ok (.if_icmp .ne 44, 3) := by decide +kernel
theorem dX6_saves_9 : decode cX6_saves 9 = .ok (.iconst 0, 1) := by decide +kernel
theorem dX6_saves_10 : decode cX6_saves 10 = .ok (.istore_n 1, 1) := by decide +kernel
theorem dX6_saves_11 : decode cX6_saves 11 = .ok (.iload_n 1, 1) := by decide +kernel
theorem dX6_saves_12 : decode cX6_saves 12 = .ok (.sipush 2070, 3) := by decide +kernel
theorem dX6_saves_15 : decode cX6_saves 15 = .ok (.if_icmp .ge 25, 3) := by decide +kernel
theorem dX6_saves_18 : decode cX6_saves 18 = .ok (.aload_n 0, 1) := by decide +kernel
theorem dX6_saves_19 : decode cX6_saves 19 = .ok (.getfield 16, 3) := by decide +kernel
theorem dX6_saves_22 : decode cX6_saves 22 = .ok (.iload_n 1, 1) := by decide +kernel
theorem dX6_saves_23 : decode cX6_saves 23 = .ok (.aload_n 0, 1) := by decide +kernel
theorem dX6_saves_24 : decode cX6_saves 24 = .ok (.getfield 16, 3) := by decide +kernel
theorem dX6_saves_27 : decode cX6_saves 27 = .ok (.iload_n 1, 1) := by decide +kernel
theorem dX6_saves_28 : decode cX6_saves 28 = .ok (.sipush 414, 3) := by decide +kernel
theorem dX6_saves_31 : decode cX6_saves 31 = .ok (.iadd, 1) := by decide +kernel
theorem dX6_saves_32 : decode cX6_saves 32 = .ok (.iaload, 1) := by decide +kernel
theorem dX6_saves_33 : decode cX6_saves 33 = .ok (.iastore, 1) := by decide +kernel
theorem dX6_saves_34 : decode cX6_saves 34 = .ok (.iinc 1 1, 3) := by decide +kernel
theorem dX6_saves_37 : decode cX6_saves 37 = .ok (.goto (-26), 3) := by decide +kernel
theorem dX6_saves_40 : decode cX6_saves 40 = .ok (.aload_n 0, 1) := by decide +kernel
theorem dX6_saves_41 : decode cX6_saves 41 = .ok (.dup, 1) := by decide +kernel
theorem dX6_saves_42 : decode cX6_saves 42 = .ok (.getfield 29, 3) := by decide +kernel
theorem dX6_saves_45 : decode cX6_saves 45 = .ok (.iconst 1, 1) := by decide +kernel
theorem dX6_saves_46 : decode cX6_saves 46 = .ok (.isub, 1) := by decide +kernel
theorem dX6_saves_47 : decode cX6_saves 47 = .ok (.putfield 29, 3) := by decide +kernel
theorem dX6_saves_50 : decode cX6_saves 50 = .ok (.aload_n 0, 1) := by decide +kernel
theorem dX6_saves_51 : decode cX6_saves 51 = .ok (.getfield 7, 3) := by decide +kernel
theorem dX6_saves_54 : decode cX6_saves 54 = .ok (.iconst 0, 1) := by decide +kernel
theorem dX6_saves_55 : decode cX6_saves 55 = .ok (.aload_n 0, 1) := by decide +kernel
theorem dX6_saves_56 : decode cX6_saves 56 = .ok (.getfield 16, 3) := by decide +kernel
theorem dX6_saves_59 : decode cX6_saves 59 = .ok (.sipush 414, 3) := by decide +kernel
theorem dX6_saves_62 : decode cX6_saves 62 = .ok (.aload_n 0, 1) := by decide +kernel
theorem dX6_saves_63 : decode cX6_saves 63 = .ok (.getfield 29, 3) := by decide +kernel
theorem dX6_saves_66 : decode cX6_saves 66 = .ok (.imul, 1) := by decide +kernel
theorem dX6_saves_67 : decode cX6_saves 67 = .ok (.invokestatic 32, 3) := by decide +kernel
theorem dX6_saves_70 : decode cX6_saves 70 = .ok (.aload_n 0, 1) := by decide +kernel
theorem dX6_saves_71 : decode cX6_saves 71 = .ok (.dup, 1) := by decide +kernel
theorem dX6_saves_72 : decode cX6_saves 72 = .ok (.getfield 29, 3) := by decide +kernel
theorem dX6_saves_75 : decode cX6_saves 75 = .ok (.iconst 1, 1) := by decide +kernel
theorem dX6_saves_76 : decode cX6_saves 76 = .ok (.iadd, 1) := by decide +kernel
theorem dX6_saves_77 : decode cX6_saves 77 = .ok (.putfield 29, 3) := by decide +kernel
theorem dX6_saves_80 : decode cX6_saves 80 = .ok (.return_, 1) := by decide +kernel
theorem dX6_of_0 : decode cX6_of 0 = .ok (.aload_n 0, 1) := by decide +kernel
theorem dX6_of_1 : decode cX6_of 1 = .ok (.bipush 70, 2) := by decide +kernel
theorem dX6_of_3 : decode cX6_of 3 = .ok (.iconst 5, 1) := by decide +kernel
theorem dX6_of_4 : decode cX6_of 4 = .ok (.iload_n 1, 1) := by decide +kernel
theorem dX6_of_5 : decode cX6_of 5 = .ok (.imul, 1) := by decide +kernel
theorem dX6_of_6 : decode cX6_of 6 = .ok (.iadd, 1) := by decide +kernel
theorem dX6_of_7 : decode cX6_of 7 = .ok (.iload_n 2, 1) := by decide +kernel
theorem dX6_of_8 : decode cX6_of 8 = .ok (.iadd, 1) := by decide +kernel
theorem dX6_of_9 : decode cX6_of 9 = .ok (.iaload, 1) := by decide +kernel
theorem dX6_of_10 : decode cX6_of 10 = .ok (.ireturn, 1) := by decide +kernel
theorem dX6_isThing_0 : decode cX6_isThing 0 = .ok (.aload_n 0, 1) := by decide +kernel
theorem dX6_isThing_1 : decode cX6_isThing 1 = .ok (.iload_n 1, 1) := by decide +kernel
theorem dX6_isThing_2 : decode cX6_isThing 2 = .ok (.iconst 0, 1) := by decide +kernel
theorem dX6_isThing_3 : decode cX6_isThing 3 = .ok (.invokestatic 36, 3) := by decide +kernel
theorem dX6_isThing_6 : decode cX6_isThing 6 = .ok (.iconst (-1), 1) := by decide +kernel
theorem dX6_isThing_7 : decode cX6_isThing 7 = .ok (.if_icmp .eq 7, 3) := by decide +kernel
theorem dX6_isThing_10 : decode cX6_isThing 10 = .ok (.iconst 1, 1) := by decide +kernel
theorem dX6_isThing_11 : decode cX6_isThing 11 = .ok (.goto 4, 3) := by decide +kernel
theorem dX6_isThing_14 : decode cX6_isThing 14 = .ok (.iconst 0, 1) := by decide +kernel
theorem dX6_isThing_15 : decode cX6_isThing 15 = .ok (.ireturn, 1) := by decide +kernel
theorem dX6_things_0 : decode cX6_things 0 = .ok (.iconst 0, 1) := by decide +kernel
theorem dX6_things_1 : decode cX6_things 1 = .ok (.istore_n 1, 1) := by decide +kernel
theorem dX6_things_2 : decode cX6_things 2 = .ok (.iconst 0, 1) := by decide +kernel
theorem dX6_things_3 : decode cX6_things 3 = .ok (.istore_n 2, 1) := by decide +kernel
theorem dX6_things_4 : decode cX6_things 4 = .ok (.iload_n 2, 1) := by decide +kernel
theorem dX6_things_5 : decode cX6_things 5 = .ok (.aload_n 0, 1) := by decide +kernel
theorem dX6_things_6 : decode cX6_things 6 = .ok (.iconst 1, 1) := by decide +kernel
theorem dX6_things_7 : decode cX6_things 7 = .ok (.iaload, 1) := by decide +kernel
theorem dX6_things_8 : decode cX6_things 8 = .ok (.if_icmp .ge 25, 3) := by decide +kernel
theorem dX6_things_11 : decode cX6_things 11 = .ok (.iload_n 1, 1) := by decide +kernel
theorem dX6_things_12 : decode cX6_things 12 = .ok (.aload_n 0, 1) := by decide +kernel
theorem dX6_things_13 : decode cX6_things 13 = .ok (.iload_n 2, 1) := by decide +kernel
theorem dX6_things_14 : decode cX6_things 14 = .ok (.invokestatic 40, 3) := by decide +kernel
theorem dX6_things_17 : decode cX6_things 17 = .ok (.ifCond .eq 7, 3) := by decide +kernel
theorem dX6_things_20 : decode cX6_things 20 = .ok (.iconst 1, 1) := by decide +kernel
theorem dX6_things_21 : decode cX6_things 21 = .ok (.goto 4, 3) := by decide +kernel
theorem dX6_things_24 : decode cX6_things 24 = .ok (.iconst 0, 1) := by decide +kernel
theorem dX6_things_25 : decode cX6_things 25 = .ok (.iadd, 1) := by decide +kernel
theorem dX6_things_26 : decode cX6_things 26 = .ok (.istore_n 1, 1) := by decide +kernel
theorem dX6_things_27 : decode cX6_things 27 = .ok (.iinc 2 1, 3) := by decide +kernel
theorem dX6_things_30 : decode cX6_things 30 = .ok (.goto (-26), 3) := by decide +kernel
theorem dX6_things_33 : decode cX6_things 33 = .ok (.iload_n 1, 1) := by decide +kernel
theorem dX6_things_34 : decode cX6_things 34 = .ok (.ireturn, 1) := by decide +kernel
theorem dX6_entryOf_0 : decode cX6_entryOf 0 = .ok (.iconst 0, 1) := by decide +kernel
theorem dX6_entryOf_1 : decode cX6_entryOf 1 = .ok (.istore_n 2, 1) := by decide +kernel
theorem dX6_entryOf_2 : decode cX6_entryOf 2 = .ok (.iload_n 2, 1) := by decide +kernel
theorem dX6_entryOf_3 : decode cX6_entryOf 3 = .ok (.aload_n 0, 1) := by decide +kernel
theorem dX6_entryOf_4 : decode cX6_entryOf 4 = .ok (.iconst 1, 1) := by decide +kernel
theorem dX6_entryOf_5 : decode cX6_entryOf 5 = .ok (.iaload, 1) := by decide +kernel
theorem dX6_entryOf_6 : decode cX6_entryOf 6 = .ok (.if_icmp .ge 47, 3) := by decide +kernel
theorem dX6_entryOf_9 : decode cX6_entryOf 9 = .ok (.aload_n 0, 1) := by decide +kernel
theorem dX6_entryOf_10 : decode cX6_entryOf 10 = .ok (.iload_n 2, 1) := by decide +kernel
theorem dX6_entryOf_11 : decode cX6_entryOf 11 = .ok (.invokestatic 40, 3) := by decide +kernel
theorem dX6_entryOf_14 : decode cX6_entryOf 14 = .ok (.ifCond .eq 33, 3) := by decide +kernel
theorem dX6_entryOf_17 : decode cX6_entryOf 17 = .ok (.iload_n 1, 1) := by decide +kernel
theorem dX6_entryOf_18 : decode cX6_entryOf 18 = .ok (.aload_n 0, 1) := by decide +kernel
theorem dX6_entryOf_19 : decode cX6_entryOf 19 = .ok (.iload_n 2, 1) := by decide +kernel
theorem dX6_entryOf_20 : decode cX6_entryOf 20 = .ok (.iconst 0, 1) := by decide +kernel
theorem dX6_entryOf_21 : decode cX6_entryOf 21 = .ok (.invokestatic 36, 3) := by decide +kernel
theorem dX6_entryOf_24 : decode cX6_entryOf 24 = .ok (.aload_n 0, 1) := by decide +kernel
theorem dX6_entryOf_25 : decode cX6_entryOf 25 = .ok (.iload_n 2, 1) := by decide +kernel
theorem dX6_entryOf_26 : decode cX6_entryOf 26 = .ok (.iconst 0, 1) := by decide +kernel
theorem dX6_entryOf_27 : decode cX6_entryOf 27 = .ok (.invokestatic 36, 3) := by decide +kernel
theorem dX6_entryOf_30 : decode cX6_entryOf 30 = .ok (.aload_n 0, 1) := by decide +kernel
theorem dX6_entryOf_31 : decode cX6_entryOf 31 = .ok (.iload_n 2, 1) := by decide +kernel
theorem dX6_entryOf_32 : decode cX6_entryOf 32 = .ok (.iconst 1, 1) := by decide +kernel
theorem dX6_entryOf_33 : decode cX6_entryOf 33 = .ok (.invokestatic 36, 3) := by decide +kernel
theorem dX6_entryOf_36 : decode cX6_entryOf 36 = .ok (.iadd, 1) := by decide +kernel
theorem dX6_entryOf_37 : decode cX6_entryOf 37 = .ok (.iconst 1, 1) := by decide +kernel
theorem dX6_entryOf_38 : decode cX6_entryOf 38 = .ok (.isub, 1) := by decide +kernel
theorem dX6_entryOf_39 : decode cX6_entryOf 39 = .ok (.invokestatic 44, 3) := by decide +kernel
theorem dX6_entryOf_42 : decode cX6_entryOf 42 = .ok (.ifCond .eq 5, 3) := by decide +kernel
theorem dX6_entryOf_45 : decode cX6_entryOf 45 = .ok (.iload_n 2, 1) := by decide +kernel
theorem dX6_entryOf_46 : decode cX6_entryOf 46 = .ok (.ireturn, 1) := by decide +kernel
theorem dX6_entryOf_47 : decode cX6_entryOf 47 = .ok (.iinc 2 1, 3) := by decide +kernel
theorem dX6_entryOf_50 : decode cX6_entryOf 50 = .ok (.goto (-48), 3) := by decide +kernel
theorem dX6_entryOf_53 : decode cX6_entryOf 53 = .ok (.iconst (-1), 1) := by decide +kernel
theorem dX6_entryOf_54 : decode cX6_entryOf 54 = .ok (.ireturn, 1) := by decide +kernel
theorem dX6_handleOf_0 : decode cX6_handleOf 0 = .ok (.sipush 1000, 3) := by decide +kernel
theorem dX6_handleOf_3 : decode cX6_handleOf 3 = .ok (.aload_n 0, 1) := by decide +kernel
theorem dX6_handleOf_4 : decode cX6_handleOf 4 = .ok (.iload_n 1, 1) := by decide +kernel
theorem dX6_handleOf_5 : decode cX6_handleOf 5 = .ok (.iconst 0, 1) := by decide +kernel
theorem dX6_handleOf_6 : decode cX6_handleOf 6 = .ok (.invokestatic 36, 3) := by decide +kernel
theorem dX6_handleOf_9 : decode cX6_handleOf 9 = .ok (.imul, 1) := by decide +kernel
theorem dX6_handleOf_10 : decode cX6_handleOf 10 = .ok (.aload_n 0, 1) := by decide +kernel
theorem dX6_handleOf_11 : decode cX6_handleOf 11 = .ok (.bipush 6, 2) := by decide +kernel
theorem dX6_handleOf_13 : decode cX6_handleOf 13 = .ok (.aload_n 0, 1) := by decide +kernel
theorem dX6_handleOf_14 : decode cX6_handleOf 14 = .ok (.iload_n 1, 1) := by decide +kernel
theorem dX6_handleOf_15 : decode cX6_handleOf 15 = .ok (.iconst 0, 1) := by decide +kernel
theorem dX6_handleOf_16 : decode cX6_handleOf 16 = .ok (.invokestatic 36, 3) := by decide +kernel
theorem dX6_handleOf_19 : decode cX6_handleOf 19 = .ok (.iadd, 1) := by decide +kernel
theorem dX6_handleOf_20 : decode cX6_handleOf 20 = .ok (.iaload, 1) := by decide +kernel
theorem dX6_handleOf_21 : decode cX6_handleOf 21 = .ok (.iadd, 1) := by decide +kernel
theorem dX6_handleOf_22 : decode cX6_handleOf 22 = .ok (.ireturn, 1) := by decide +kernel
theorem dX6_freeFrom_0 : decode cX6_freeFrom 0 = .ok (.iconst 0, 1) := by decide +kernel
theorem dX6_freeFrom_1 : decode cX6_freeFrom 1 = .ok (.istore_n 3, 1) := by decide +kernel
theorem dX6_freeFrom_2 : decode cX6_freeFrom 2 = .ok (.iload_n 1, 1) := by decide +kernel
theorem dX6_freeFrom_3 : decode cX6_freeFrom 3 = .ok (.iload_n 3, 1) := by decide +kernel
theorem dX6_freeFrom_4 : decode cX6_freeFrom 4 = .ok (.iadd, 1) := by decide +kernel
theorem dX6_freeFrom_5 : decode cX6_freeFrom 5 = .ok (.iload_n 2, 1) := by decide +kernel
theorem dX6_freeFrom_6 : decode cX6_freeFrom 6 = .ok (.if_icmp .ge 20, 3) := by decide +kernel
theorem dX6_freeFrom_9 : decode cX6_freeFrom 9 = .ok (.aload_n 0, 1) := by decide +kernel
theorem dX6_freeFrom_10 : decode cX6_freeFrom 10 = .ok (.iload_n 1, 1) := by decide +kernel
theorem dX6_freeFrom_11 : decode cX6_freeFrom 11 = .ok (.iload_n 3, 1) := by decide +kernel
theorem dX6_freeFrom_12 : decode cX6_freeFrom 12 = .ok (.iadd, 1) := by decide +kernel
theorem dX6_freeFrom_13 : decode cX6_freeFrom 13 = .ok (.invokestatic 48, 3) := by decide +kernel
theorem dX6_freeFrom_16 : decode cX6_freeFrom 16 = .ok (.iconst (-1), 1) := by decide +kernel
theorem dX6_freeFrom_17 : decode cX6_freeFrom 17 = .ok (.if_icmp .ne 9, 3) := by decide +kernel
theorem dX6_freeFrom_20 : decode cX6_freeFrom 20 = .ok (.iinc 3 1, 3) := by decide +kernel
theorem dX6_freeFrom_23 : decode cX6_freeFrom 23 = .ok (.goto (-21), 3) := by decide +kernel
theorem dX6_freeFrom_26 : decode cX6_freeFrom 26 = .ok (.iload_n 3, 1) := by decide +kernel
theorem dX6_freeFrom_27 : decode cX6_freeFrom 27 = .ok (.ireturn, 1) := by decide +kernel
theorem dX6_roomIn_0 : decode cX6_roomIn 0 = .ok (.iconst 0, 1) := by decide +kernel
theorem dX6_roomIn_1 : decode cX6_roomIn 1 = .ok (.istore_n 3, 1) := by decide +kernel
theorem dX6_roomIn_2 : decode cX6_roomIn 2 = .ok (.iload_n 3, 1) := by decide +kernel
theorem dX6_roomIn_3 : decode cX6_roomIn 3 = .ok (.iload_n 1, 1) := by decide +kernel
theorem dX6_roomIn_4 : decode cX6_roomIn 4 = .ok (.iadd, 1) := by decide +kernel
theorem dX6_roomIn_5 : decode cX6_roomIn 5 = .ok (.iload_n 2, 1) := by decide +kernel
theorem dX6_roomIn_6 : decode cX6_roomIn 6 = .ok (.if_icmp .gt 21, 3) := by decide +kernel
theorem dX6_roomIn_9 : decode cX6_roomIn 9 = .ok (.aload_n 0, 1) := by decide +kernel
theorem dX6_roomIn_10 : decode cX6_roomIn 10 = .ok (.iload_n 3, 1) := by decide +kernel
theorem dX6_roomIn_11 : decode cX6_roomIn 11 = .ok (.iload_n 2, 1) := by decide +kernel
theorem dX6_roomIn_12 : decode cX6_roomIn 12 = .ok (.invokestatic 52, 3) := by decide +kernel
theorem dX6_roomIn_15 : decode cX6_roomIn 15 = .ok (.iload_n 1, 1) := by decide +kernel
theorem dX6_roomIn_16 : decode cX6_roomIn 16 = .ok (.if_icmp .lt 5, 3) := by decide +kernel
theorem dX6_roomIn_19 : decode cX6_roomIn 19 = .ok (.iload_n 3, 1) := by decide +kernel
theorem dX6_roomIn_20 : decode cX6_roomIn 20 = .ok (.ireturn, 1) := by decide +kernel
theorem dX6_roomIn_21 : decode cX6_roomIn 21 = .ok (.iinc 3 1, 3) := by decide +kernel
theorem dX6_roomIn_24 : decode cX6_roomIn 24 = .ok (.goto (-22), 3) := by decide +kernel
theorem dX6_roomIn_27 : decode cX6_roomIn 27 = .ok (.iconst (-1), 1) := by decide +kernel
theorem dX6_roomIn_28 : decode cX6_roomIn 28 = .ok (.ireturn, 1) := by decide +kernel
theorem dX6_cellsFor_0 : decode cX6_cellsFor 0 = .ok (.aload_n 0, 1) := by decide +kernel
theorem dX6_cellsFor_1 : decode cX6_cellsFor 1 = .ok (.iconst 0, 1) := by decide +kernel
theorem dX6_cellsFor_2 : decode cX6_cellsFor 2 = .ok (.iaload, 1) := by decide +kernel
theorem dX6_cellsFor_3 : decode cX6_cellsFor 3 = .ok (.istore_n 2, 1) := by decide +kernel
theorem dX6_cellsFor_4 : decode cX6_cellsFor 4 = .ok (.iload_n 2, 1) := by decide +kernel
theorem dX6_cellsFor_5 : decode cX6_cellsFor 5 = .ok (.bipush 64, 2) := by decide +kernel
theorem dX6_cellsFor_7 : decode cX6_cellsFor 7 = .ok (.if_icmp .ge 20, 3) := by decide +kernel
theorem dX6_cellsFor_10 : decode cX6_cellsFor 10 = .ok (.aload_n 0, 1) := by decide +kernel
theorem dX6_cellsFor_11 : decode cX6_cellsFor 11 = .ok (.iload_n 1, 1) := by decide +kernel
theorem dX6_cellsFor_12 : decode cX6_cellsFor 12 = .ok (.iload_n 2, 1) := by decide +kernel
theorem dX6_cellsFor_13 : decode cX6_cellsFor 13 = .ok (.invokestatic 55, 3) := by decide +kernel
theorem dX6_cellsFor_16 : decode cX6_cellsFor 16 = .ok (.iconst (-1), 1) := by decide +kernel
theorem dX6_cellsFor_17 : decode cX6_cellsFor 17 = .ok (.if_icmp .ne 10, 3) := by decide +kernel
theorem dX6_cellsFor_20 : decode cX6_cellsFor 20 = .ok (.iload_n 2, 1) := by decide +kernel
theorem dX6_cellsFor_21 : decode cX6_cellsFor 21 = .ok (.iconst 2, 1) := by decide +kernel
theorem dX6_cellsFor_22 : decode cX6_cellsFor 22 = .ok (.imul, 1) := by decide +kernel
theorem dX6_cellsFor_23 : decode cX6_cellsFor 23 = .ok (.istore_n 2, 1) := by decide +kernel
theorem dX6_cellsFor_24 : decode cX6_cellsFor 24 = .ok (.goto (-20), 3) := by decide +kernel
theorem dX6_cellsFor_27 : decode cX6_cellsFor 27 = .ok (.aload_n 0, 1) := by decide +kernel
theorem dX6_cellsFor_28 : decode cX6_cellsFor 28 = .ok (.iload_n 1, 1) := by decide +kernel
theorem dX6_cellsFor_29 : decode cX6_cellsFor 29 = .ok (.iload_n 2, 1) := by decide +kernel
theorem dX6_cellsFor_30 : decode cX6_cellsFor 30 = .ok (.invokestatic 55, 3) := by decide +kernel
theorem dX6_cellsFor_33 : decode cX6_cellsFor 33 = .ok (.iconst (-1), 1) := by decide +kernel
theorem dX6_cellsFor_34 : decode cX6_cellsFor 34 = .ok (.if_icmp .ne 7, 3) := by decide +kernel
theorem dX6_cellsFor_37 : decode cX6_cellsFor 37 = .ok (.iconst (-1), 1) := by decide +kernel
theorem dX6_cellsFor_38 : decode cX6_cellsFor 38 = .ok (.goto 4, 3) := by decide +kernel
theorem dX6_cellsFor_41 : decode cX6_cellsFor 41 = .ok (.iload_n 2, 1) := by decide +kernel
theorem dX6_cellsFor_42 : decode cX6_cellsFor 42 = .ok (.ireturn, 1) := by decide +kernel
theorem dX6_leaves_0 : decode cX6_leaves 0 = .ok (.aload_n 0, 1) := by decide +kernel
theorem dX6_leaves_1 : decode cX6_leaves 1 = .ok (.bipush 6, 2) := by decide +kernel
theorem dX6_leaves_3 : decode cX6_leaves 3 = .ok (.iload_n 1, 1) := by decide +kernel
theorem dX6_leaves_4 : decode cX6_leaves 4 = .ok (.iadd, 1) := by decide +kernel
theorem dX6_leaves_5 : decode cX6_leaves 5 = .ok (.aload_n 0, 1) := by decide +kernel
theorem dX6_leaves_6 : decode cX6_leaves 6 = .ok (.bipush 6, 2) := by decide +kernel
theorem dX6_leaves_8 : decode cX6_leaves 8 = .ok (.iload_n 1, 1) := by decide +kernel
theorem dX6_leaves_9 : decode cX6_leaves 9 = .ok (.iadd, 1) := by decide +kernel
theorem dX6_leaves_10 : decode cX6_leaves 10 = .ok (.iaload, 1) := by decide +kernel
theorem dX6_leaves_11 : decode cX6_leaves 11 = .ok (.iconst 1, 1) := by decide +kernel
theorem dX6_leaves_12 : decode cX6_leaves 12 = .ok (.iadd, 1) := by decide +kernel
theorem dX6_leaves_13 : decode cX6_leaves 13 = .ok (.sipush 1000, 3) := by decide +kernel
theorem dX6_leaves_16 : decode cX6_leaves 16 = .ok (.irem, 1) := by decide +kernel
theorem dX6_leaves_17 : decode cX6_leaves 17 = .ok (.iastore, 1) := by decide +kernel
theorem dX6_leaves_18 : decode cX6_leaves 18 = .ok (.return_, 1) := by decide +kernel
theorem dX6_comes_0 : decode cX6_comes 0 = .ok (.aload_n 0, 1) := by decide +kernel
theorem dX6_comes_1 : decode cX6_comes 1 = .ok (.iload_n 3, 1) := by decide +kernel
theorem dX6_comes_2 : decode cX6_comes 2 = .ok (.invokestatic 58, 3) := by decide +kernel
theorem dX6_comes_5 : decode cX6_comes 5 = .ok (.istore 5, 2) := by decide +kernel
theorem dX6_comes_7 : decode cX6_comes 7 = .ok (.iload 5, 2) := by decide +kernel
theorem dX6_comes_9 : decode cX6_comes 9 = .ok (.iconst (-1), 1) := by decide +kernel
theorem dX6_comes_10 : decode cX6_comes 10 = .ok (.if_icmp .ne 5, 3) := by decide +kernel
theorem dX6_comes_13 : decode cX6_comes 13 = .ok (.iconst (-1), 1) := by decide +kernel
theorem dX6_comes_14 : decode cX6_comes 14 = .ok (.ireturn, 1) := by decide +kernel
theorem dX6_comes_15 : decode cX6_comes 15 = .ok (.aload_n 0, 1) := by decide +kernel
theorem dX6_comes_16 : decode cX6_comes 16 = .ok (.iload_n 3, 1) := by decide +kernel
theorem dX6_comes_17 : decode cX6_comes 17 = .ok (.iload 5, 2) := by decide +kernel
theorem dX6_comes_19 : decode cX6_comes 19 = .ok (.invokestatic 55, 3) := by decide +kernel
theorem dX6_comes_22 : decode cX6_comes 22 = .ok (.istore 6, 2) := by decide +kernel
theorem dX6_comes_24 : decode cX6_comes 24 = .ok (.aload_n 0, 1) := by decide +kernel
theorem dX6_comes_25 : decode cX6_comes 25 = .ok (.iconst 0, 1) := by decide +kernel
theorem dX6_comes_26 : decode cX6_comes 26 = .ok (.iload 5, 2) := by decide +kernel
theorem dX6_comes_28 : decode cX6_comes 28 = .ok (.iastore, 1) := by decide +kernel
theorem dX6_comes_29 : decode cX6_comes 29 = .ok (.iconst 5, 1) := by decide +kernel
theorem dX6_comes_30 : decode cX6_comes 30 = .ok (.aload_n 0, 1) := by decide +kernel
theorem dX6_comes_31 : decode cX6_comes 31 = .ok (.iconst 1, 1) := by decide +kernel
theorem dX6_comes_32 : decode cX6_comes 32 = .ok (.iaload, 1) := by decide +kernel
theorem dX6_comes_33 : decode cX6_comes 33 = .ok (.imul, 1) := by decide +kernel
theorem dX6_comes_34 : decode cX6_comes 34 = .ok (.iconst 1, 1) := by decide +kernel
theorem dX6_comes_35 : decode cX6_comes 35 = .ok (.isub, 1) := by decide +kernel
theorem dX6_comes_36 : decode cX6_comes 36 = .ok (.istore 7, 2) := by decide +kernel
theorem dX6_comes_38 : decode cX6_comes 38 = .ok (.iload 7, 2) := by decide +kernel
theorem dX6_comes_40 : decode cX6_comes 40 = .ok (.iconst 5, 1) := by decide +kernel
theorem dX6_comes_41 : decode cX6_comes 41 = .ok (.iload_n 1, 1) := by decide +kernel
theorem dX6_comes_42 : decode cX6_comes 42 = .ok (.imul, 1) := by decide +kernel
theorem dX6_comes_43 : decode cX6_comes 43 = .ok (.if_icmp .lt 25, 3) := by decide +kernel
theorem dX6_comes_46 : decode cX6_comes 46 = .ok (.aload_n 0, 1) := by decide +kernel
theorem dX6_comes_47 : decode cX6_comes 47 = .ok (.bipush 70, 2) := by decide +kernel
theorem dX6_comes_49 : decode cX6_comes 49 = .ok (.iload 7, 2) := by decide +kernel
theorem dX6_comes_51 : decode cX6_comes 51 = .ok (.iadd, 1) := by decide +kernel
theorem dX6_comes_52 : decode cX6_comes 52 = .ok (.iconst 5, 1) := by decide +kernel
theorem dX6_comes_53 : decode cX6_comes 53 = .ok (.iadd, 1) := by decide +kernel
theorem dX6_comes_54 : decode cX6_comes 54 = .ok (.aload_n 0, 1) := by decide +kernel
theorem dX6_comes_55 : decode cX6_comes 55 = .ok (.bipush 70, 2) := by decide +kernel
theorem dX6_comes_57 : decode cX6_comes 57 = .ok (.iload 7, 2) := by decide +kernel
theorem dX6_comes_59 : decode cX6_comes 59 = .ok (.iadd, 1) := by decide +kernel
theorem dX6_comes_60 : decode cX6_comes 60 = .ok (.iaload, 1) := by decide +kernel
theorem dX6_comes_61 : decode cX6_comes 61 = .ok (.iastore, 1) := by decide +kernel
theorem dX6_comes_62 : decode cX6_comes 62 = .ok (.iinc 7 (-1), 3) := by decide +kernel
theorem dX6_comes_65 : decode cX6_comes 65 = .ok (.goto (-27), 3) := by decide +kernel
theorem dX6_comes_68 : decode cX6_comes 68 = .ok (.bipush 70, 2) := by decide +kernel
theorem dX6_comes_70 : decode cX6_comes 70 = .ok (.iconst 5, 1) := by decide +kernel
theorem dX6_comes_71 : decode cX6_comes 71 = .ok (.iload_n 1, 1) := by decide +kernel
theorem dX6_comes_72 : decode cX6_comes 72 = .ok (.imul, 1) := by decide +kernel
theorem dX6_comes_73 : decode cX6_comes 73 = .ok (.iadd, 1) := by decide +kernel
theorem dX6_comes_74 : decode cX6_comes 74 = .ok (.istore 7, 2) := by decide +kernel
theorem dX6_comes_76 : decode cX6_comes 76 = .ok (.aload_n 0, 1) := by decide +kernel
theorem dX6_comes_77 : decode cX6_comes 77 = .ok (.iload 7, 2) := by decide +kernel
theorem dX6_comes_79 : decode cX6_comes 79 = .ok (.iconst 0, 1) := by decide +kernel
theorem dX6_comes_80 : decode cX6_comes 80 = .ok (.iadd, 1) := by decide +kernel
theorem dX6_comes_81 : decode cX6_comes 81 = .ok (.iload 6, 2) := by decide +kernel
theorem dX6_comes_83 : decode cX6_comes 83 = .ok (.iastore, 1) := by decide +kernel
theorem dX6_comes_84 : decode cX6_comes 84 = .ok (.aload_n 0, 1) := by decide +kernel
theorem dX6_comes_85 : decode cX6_comes 85 = .ok (.iload 7, 2) := by decide +kernel
theorem dX6_comes_87 : decode cX6_comes 87 = .ok (.iconst 1, 1) := by decide +kernel
theorem dX6_comes_88 : decode cX6_comes 88 = .ok (.iadd, 1) := by decide +kernel
theorem dX6_comes_89 : decode cX6_comes 89 = .ok (.iload_n 3, 1) := by decide +kernel
theorem dX6_comes_90 : decode cX6_comes 90 = .ok (.iastore, 1) := by decide +kernel
theorem dX6_comes_91 : decode cX6_comes 91 = .ok (.aload_n 0, 1) := by decide +kernel
theorem dX6_comes_92 : decode cX6_comes 92 = .ok (.iload 7, 2) := by decide +kernel
theorem dX6_comes_94 : decode cX6_comes 94 = .ok (.iconst 2, 1) := by decide +kernel
theorem dX6_comes_95 : decode cX6_comes 95 = .ok (.iadd, 1) := by decide +kernel
theorem dX6_comes_96 : decode cX6_comes 96 = .ok (.iload_n 2, 1) := by decide +kernel
theorem dX6_comes_97 : decode cX6_comes 97 = .ok (.iastore, 1) := by decide +kernel
theorem dX6_comes_98 : decode cX6_comes 98 = .ok (.aload_n 0, 1) := by decide +kernel
theorem dX6_comes_99 : decode cX6_comes 99 = .ok (.iload 7, 2) := by decide +kernel
theorem dX6_comes_101 : decode cX6_comes 101 = .ok (.iconst 3, 1) := by decide +kernel
theorem dX6_comes_102 : decode cX6_comes 102 = .ok (.iadd, 1) := by decide +kernel
theorem dX6_comes_103 : decode cX6_comes 103 = .ok (.iload 4, 2) := by decide +kernel
theorem dX6_comes_105 : decode cX6_comes 105 = .ok (.iastore, 1) := by decide +kernel
theorem dX6_comes_106 : decode cX6_comes 106 = .ok (.aload_n 0, 1) := by decide +kernel
theorem dX6_comes_107 : decode cX6_comes 107 = .ok (.iload 7, 2) := by decide +kernel
theorem dX6_comes_109 : decode cX6_comes 109 = .ok (.iconst 4, 1) := by decide +kernel
theorem dX6_comes_110 : decode cX6_comes 110 = .ok (.iadd, 1) := by decide +kernel
theorem dX6_comes_111 : decode cX6_comes 111 = .ok (.iconst 0, 1) := by decide +kernel
theorem dX6_comes_112 : decode cX6_comes 112 = .ok (.iastore, 1) := by decide +kernel
theorem dX6_comes_113 : decode cX6_comes 113 = .ok (.aload_n 0, 1) := by decide +kernel
theorem dX6_comes_114 : decode cX6_comes 114 = .ok (.iconst 1, 1) := by decide +kernel
theorem dX6_comes_115 : decode cX6_comes 115 = .ok (.dup2, 1) := by decide +kernel
theorem dX6_comes_116 : decode cX6_comes 116 = .ok (.iaload, 1) := by decide +kernel
theorem dX6_comes_117 : decode cX6_comes 117 = .ok (.iconst 1, 1) := by decide +kernel
theorem dX6_comes_118 : decode cX6_comes 118 = .ok (.iadd, 1) := by decide +kernel
theorem dX6_comes_119 : decode cX6_comes 119 = .ok (.iastore, 1) := by decide +kernel
theorem dX6_comes_120 : decode cX6_comes 120 = .ok (.aload_n 0, 1) := by decide +kernel
theorem dX6_comes_121 : decode cX6_comes 121 = .ok (.iconst 3, 1) := by decide +kernel
theorem dX6_comes_122 : decode cX6_comes 122 = .ok (.dup2, 1) := by decide +kernel
theorem dX6_comes_123 : decode cX6_comes 123 = .ok (.iaload, 1) := by decide +kernel
theorem dX6_comes_124 : decode cX6_comes 124 = .ok (.iconst 1, 1) := by decide +kernel
theorem dX6_comes_125 : decode cX6_comes 125 = .ok (.iadd, 1) := by decide +kernel
theorem dX6_comes_126 : decode cX6_comes 126 = .ok (.iastore, 1) := by decide +kernel
theorem dX6_comes_127 : decode cX6_comes 127 = .ok (.iconst 0, 1) := by decide +kernel
theorem dX6_comes_128 : decode cX6_comes 128 = .ok (.istore 8, 2) := by decide +kernel
theorem dX6_comes_130 : decode cX6_comes 130 = .ok (.iload 8, 2) := by decide +kernel
theorem dX6_comes_132 : decode cX6_comes 132 = .ok (.iconst 4, 1) := by decide +kernel
theorem dX6_comes_133 : decode cX6_comes 133 = .ok (.if_icmp .ge 50, 3) := by decide +kernel
theorem dX6_comes_136 : decode cX6_comes 136 = .ok (.aload_n 0, 1) := by decide +kernel
theorem dX6_comes_137 : decode cX6_comes 137 = .ok (.sipush 410, 3) := by decide +kernel
theorem dX6_comes_140 : decode cX6_comes 140 = .ok (.iload 8, 2) := by decide +kernel
theorem dX6_comes_142 : decode cX6_comes 142 = .ok (.iadd, 1) := by decide +kernel
theorem dX6_comes_143 : decode cX6_comes 143 = .ok (.dup2, 1) := by decide +kernel
theorem dX6_comes_144 : decode cX6_comes 144 = .ok (.iaload, 1) := by decide +kernel
theorem dX6_comes_145 : decode cX6_comes 145 = .ok (.aload_n 0, 1) := by decide +kernel
theorem dX6_comes_146 : decode cX6_comes 146 = .ok (.sipush 410, 3) := by decide +kernel
theorem dX6_comes_149 : decode cX6_comes 149 = .ok (.iload 8, 2) := by decide +kernel
theorem dX6_comes_151 : decode cX6_comes 151 = .ok (.iadd, 1) := by decide +kernel
theorem dX6_comes_152 : decode cX6_comes 152 = .ok (.iaload, 1) := by decide +kernel
theorem dX6_comes_153 : decode cX6_comes 153 = .ok (.iload_n 1, 1) := by decide +kernel
theorem dX6_comes_154 : decode cX6_comes 154 = .ok (.if_icmp .lt 20, 3) := by decide +kernel
theorem dX6_comes_157 : decode cX6_comes 157 = .ok (.aload_n 0, 1) := by decide +kernel
theorem dX6_comes_158 : decode cX6_comes 158 = .ok (.sipush 410, 3) := by decide +kernel
theorem dX6_comes_161 : decode cX6_comes 161 = .ok (.iload 8, 2) := by decide +kernel
theorem dX6_comes_163 : decode cX6_comes 163 = .ok (.iadd, 1) := by decide +kernel
theorem dX6_comes_164 : decode cX6_comes 164 = .ok (.iaload, 1) := by decide +kernel
theorem dX6_comes_165 : decode cX6_comes 165 = .ok (.bipush 99, 2) := by decide +kernel
theorem dX6_comes_167 : decode cX6_comes 167 = .ok (.if_icmp .eq 7, 3) := by decide +kernel
theorem dX6_comes_170 : decode cX6_comes 170 = .ok (.iconst 1, 1) := by decide +kernel
theorem dX6_comes_171 : decode cX6_comes 171 = .ok (.goto 4, 3) := by decide +kernel
theorem dX6_comes_174 : decode cX6_comes 174 = .ok (.iconst 0, 1) := by decide +kernel
theorem dX6_comes_175 : decode cX6_comes 175 = .ok (.iadd, 1) := by decide +kernel
theorem dX6_comes_176 : decode cX6_comes 176 = .ok (.iastore, 1) := by decide +kernel
theorem dX6_comes_177 : decode cX6_comes 177 = .ok (.iinc 8 1, 3) := by decide +kernel
theorem dX6_comes_180 : decode cX6_comes 180 = .ok (.goto (-50), 3) := by decide +kernel
theorem dX6_comes_183 : decode cX6_comes 183 = .ok (.iload 6, 2) := by decide +kernel
theorem dX6_comes_185 : decode cX6_comes 185 = .ok (.ireturn, 1) := by decide +kernel
theorem dX6_standing_0 : decode cX6_standing 0 = .ok (.iconst 0, 1) := by decide +kernel
theorem dX6_standing_1 : decode cX6_standing 1 = .ok (.istore_n 2, 1) := by decide +kernel
theorem dX6_standing_2 : decode cX6_standing 2 = .ok (.iconst 0, 1) := by decide +kernel
theorem dX6_standing_3 : decode cX6_standing 3 = .ok (.istore_n 3, 1) := by decide +kernel
theorem dX6_standing_4 : decode cX6_standing 4 = .ok (.iload_n 3, 1) := by decide +kernel
theorem dX6_standing_5 : decode cX6_standing 5 = .ok (.iconst 4, 1) := by decide +kernel
theorem dX6_standing_6 : decode cX6_standing 6 = .ok (.if_icmp .ge 28, 3) := by decide +kernel
theorem dX6_standing_9 : decode cX6_standing 9 = .ok (.iload_n 2, 1) := by decide +kernel
theorem dX6_standing_10 : decode cX6_standing 10 = .ok (.aload_n 0, 1) := by decide +kernel
theorem dX6_standing_11 : decode cX6_standing 11 = .ok (.sipush 410, 3) := by decide +kernel
theorem dX6_standing_14 : decode cX6_standing 14 = .ok (.iload_n 3, 1) := by decide +kernel
theorem dX6_standing_15 : decode cX6_standing 15 = .ok (.iadd, 1) := by decide +kernel
theorem dX6_standing_16 : decode cX6_standing 16 = .ok (.iaload, 1) := by decide +kernel
theorem dX6_standing_17 : decode cX6_standing 17 = .ok (.iload_n 1, 1) := by decide +kernel
theorem dX6_standing_18 : decode cX6_standing 18 = .ok (.if_icmp .ne 7, 3) := by decide +kernel
theorem dX6_standing_21 : decode cX6_standing 21 = .ok (.iconst 1, 1) := by decide +kernel
theorem dX6_standing_22 : decode cX6_standing 22 = .ok (.goto 4, 3) := by decide +kernel
theorem dX6_standing_25 : decode cX6_standing 25 = .ok (.iconst 0, 1) := by decide +kernel
theorem dX6_standing_26 : decode cX6_standing 26 = .ok (.iadd, 1) := by decide +kernel
theorem dX6_standing_27 : decode cX6_standing 27 = .ok (.istore_n 2, 1) := by decide +kernel
theorem dX6_standing_28 : decode cX6_standing 28 = .ok (.iinc 3 1, 3) := by decide +kernel
theorem dX6_standing_31 : decode cX6_standing 31 = .ok (.goto (-27), 3) := by decide +kernel
theorem dX6_standing_34 : decode cX6_standing 34 = .ok (.iload_n 2, 1) := by decide +kernel
theorem dX6_standing_35 : decode cX6_standing 35 = .ok (.ireturn, 1) := by decide +kernel
theorem dX6_drops_0 : decode cX6_drops 0 = .ok (.aload_n 0, 1) := by decide +kernel
theorem dX6_drops_1 : decode cX6_drops 1 = .ok (.iconst 1, 1) := by decide +kernel
theorem dX6_drops_2 : decode cX6_drops 2 = .ok (.dup2, 1) := by decide +kernel
theorem dX6_drops_3 : decode cX6_drops 3 = .ok (.iaload, 1) := by decide +kernel
theorem dX6_drops_4 : decode cX6_drops 4 = .ok (.iconst 1, 1) := by decide +kernel
theorem dX6_drops_5 : decode cX6_drops 5 = .ok (.isub, 1) := by decide +kernel
theorem dX6_drops_6 : decode cX6_drops 6 = .ok (.iastore, 1) := by decide +kernel
theorem dX6_drops_7 : decode cX6_drops 7 = .ok (.iconst 5, 1) := by decide +kernel
theorem dX6_drops_8 : decode cX6_drops 8 = .ok (.iload_n 1, 1) := by decide +kernel
theorem dX6_drops_9 : decode cX6_drops 9 = .ok (.imul, 1) := by decide +kernel
theorem dX6_drops_10 : decode cX6_drops 10 = .ok (.istore_n 2, 1) := by decide +kernel
theorem dX6_drops_11 : decode cX6_drops 11 = .ok (.iload_n 2, 1) := by decide +kernel
theorem dX6_drops_12 : decode cX6_drops 12 = .ok (.iconst 5, 1) := by decide +kernel
theorem dX6_drops_13 : decode cX6_drops 13 = .ok (.aload_n 0, 1) := by decide +kernel
theorem dX6_drops_14 : decode cX6_drops 14 = .ok (.iconst 1, 1) := by decide +kernel
theorem dX6_drops_15 : decode cX6_drops 15 = .ok (.iaload, 1) := by decide +kernel
theorem dX6_drops_16 : decode cX6_drops 16 = .ok (.imul, 1) := by decide +kernel
theorem dX6_drops_17 : decode cX6_drops 17 = .ok (.if_icmp .ge 23, 3) := by decide +kernel
theorem dX6_drops_20 : decode cX6_drops 20 = .ok (.aload_n 0, 1) := by decide +kernel
theorem dX6_drops_21 : decode cX6_drops 21 = .ok (.bipush 70, 2) := by decide +kernel
theorem dX6_drops_23 : decode cX6_drops 23 = .ok (.iload_n 2, 1) := by decide +kernel
theorem dX6_drops_24 : decode cX6_drops 24 = .ok (.iadd, 1) := by decide +kernel
theorem dX6_drops_25 : decode cX6_drops 25 = .ok (.aload_n 0, 1) := by decide +kernel
theorem dX6_drops_26 : decode cX6_drops 26 = .ok (.bipush 70, 2) := by decide +kernel
theorem dX6_drops_28 : decode cX6_drops 28 = .ok (.iload_n 2, 1) := by decide +kernel
theorem dX6_drops_29 : decode cX6_drops 29 = .ok (.iadd, 1) := by decide +kernel
theorem dX6_drops_30 : decode cX6_drops 30 = .ok (.iconst 5, 1) := by decide +kernel
theorem dX6_drops_31 : decode cX6_drops 31 = .ok (.iadd, 1) := by decide +kernel
theorem dX6_drops_32 : decode cX6_drops 32 = .ok (.iaload, 1) := by decide +kernel
theorem dX6_drops_33 : decode cX6_drops 33 = .ok (.iastore, 1) := by decide +kernel
theorem dX6_drops_34 : decode cX6_drops 34 = .ok (.iinc 2 1, 3) := by decide +kernel
theorem dX6_drops_37 : decode cX6_drops 37 = .ok (.goto (-26), 3) := by decide +kernel
theorem dX6_drops_40 : decode cX6_drops 40 = .ok (.iconst 0, 1) := by decide +kernel
theorem dX6_drops_41 : decode cX6_drops 41 = .ok (.istore_n 2, 1) := by decide +kernel
theorem dX6_drops_42 : decode cX6_drops 42 = .ok (.iload_n 2, 1) := by decide +kernel
theorem dX6_drops_43 : decode cX6_drops 43 = .ok (.iconst 5, 1) := by decide +kernel
theorem dX6_drops_44 : decode cX6_drops 44 = .ok (.if_icmp .ge 22, 3) := by decide +kernel
theorem dX6_drops_47 : decode cX6_drops 47 = .ok (.aload_n 0, 1) := by decide +kernel
theorem dX6_drops_48 : decode cX6_drops 48 = .ok (.bipush 70, 2) := by decide +kernel
theorem dX6_drops_50 : decode cX6_drops 50 = .ok (.iconst 5, 1) := by decide +kernel
theorem dX6_drops_51 : decode cX6_drops 51 = .ok (.aload_n 0, 1) := by decide +kernel
theorem dX6_drops_52 : decode cX6_drops 52 = .ok (.iconst 1, 1) := by decide +kernel
theorem dX6_drops_53 : decode cX6_drops 53 = .ok (.iaload, 1) := by decide +kernel
theorem dX6_drops_54 : decode cX6_drops 54 = .ok (.imul, 1) := by decide +kernel
theorem dX6_drops_55 : decode cX6_drops 55 = .ok (.iadd, 1) := by decide +kernel
theorem dX6_drops_56 : decode cX6_drops 56 = .ok (.iload_n 2, 1) := by decide +kernel
theorem dX6_drops_57 : decode cX6_drops 57 = .ok (.iadd, 1) := by decide +kernel
theorem dX6_drops_58 : decode cX6_drops 58 = .ok (.iconst 0, 1) := by decide +kernel
theorem dX6_drops_59 : decode cX6_drops 59 = .ok (.iastore, 1) := by decide +kernel
theorem dX6_drops_60 : decode cX6_drops 60 = .ok (.iinc 2 1, 3) := by decide +kernel
theorem dX6_drops_63 : decode cX6_drops 63 = .ok (.goto (-21), 3) := by decide +kernel
theorem dX6_drops_66 : decode cX6_drops 66 = .ok (.iconst 0, 1) := by decide +kernel
theorem dX6_drops_67 : decode cX6_drops 67 = .ok (.istore_n 2, 1) := by decide +kernel
theorem dX6_drops_68 : decode cX6_drops 68 = .ok (.iload_n 2, 1) := by decide +kernel
theorem dX6_drops_69 : decode cX6_drops 69 = .ok (.iconst 4, 1) := by decide +kernel
theorem dX6_drops_70 : decode cX6_drops 70 = .ok (.if_icmp .ge 47, 3) := by decide +kernel
theorem dX6_drops_73 : decode cX6_drops 73 = .ok (.aload_n 0, 1) := by decide +kernel
theorem dX6_drops_74 : decode cX6_drops 74 = .ok (.sipush 410, 3) := by decide +kernel
theorem dX6_drops_77 : decode cX6_drops 77 = .ok (.iload_n 2, 1) := by decide +kernel
theorem dX6_drops_78 : decode cX6_drops 78 = .ok (.iadd, 1) := by decide +kernel
theorem dX6_drops_79 : decode cX6_drops 79 = .ok (.dup2, 1) := by decide +kernel
theorem dX6_drops_80 : decode cX6_drops 80 = .ok (.iaload, 1) := by decide +kernel
theorem dX6_drops_81 : decode cX6_drops 81 = .ok (.aload_n 0, 1) := by decide +kernel
theorem dX6_drops_82 : decode cX6_drops 82 = .ok (.sipush 410, 3) := by decide +kernel
theorem dX6_drops_85 : decode cX6_drops 85 = .ok (.iload_n 2, 1) := by decide +kernel
theorem dX6_drops_86 : decode cX6_drops 86 = .ok (.iadd, 1) := by decide +kernel
theorem dX6_drops_87 : decode cX6_drops 87 = .ok (.iaload, 1) := by decide +kernel
theorem dX6_drops_88 : decode cX6_drops 88 = .ok (.iload_n 1, 1) := by decide +kernel
theorem dX6_drops_89 : decode cX6_drops 89 = .ok (.if_icmp .le 19, 3) := by decide +kernel
theorem dX6_drops_92 : decode cX6_drops 92 = .ok (.aload_n 0, 1) := by decide +kernel
theorem dX6_drops_93 : decode cX6_drops 93 = .ok (.sipush 410, 3) := by decide +kernel
theorem dX6_drops_96 : decode cX6_drops 96 = .ok (.iload_n 2, 1) := by decide +kernel
theorem dX6_drops_97 : decode cX6_drops 97 = .ok (.iadd, 1) := by decide +kernel
theorem dX6_drops_98 : decode cX6_drops 98 = .ok (.iaload, 1) := by decide +kernel
theorem dX6_drops_99 : decode cX6_drops 99 = .ok (.bipush 99, 2) := by decide +kernel
theorem dX6_drops_101 : decode cX6_drops 101 = .ok (.if_icmp .eq 7, 3) := by decide +kernel
theorem dX6_drops_104 : decode cX6_drops 104 = .ok (.iconst 1, 1) := by decide +kernel
theorem dX6_drops_105 : decode cX6_drops 105 = .ok (.goto 4, 3) := by decide +kernel
theorem dX6_drops_108 : decode cX6_drops 108 = .ok (.iconst 0, 1) := by decide +kernel
theorem dX6_drops_109 : decode cX6_drops 109 = .ok (.isub, 1) := by decide +kernel
theorem dX6_drops_110 : decode cX6_drops 110 = .ok (.iastore, 1) := by decide +kernel
theorem dX6_drops_111 : decode cX6_drops 111 = .ok (.iinc 2 1, 3) := by decide +kernel
theorem dX6_drops_114 : decode cX6_drops 114 = .ok (.goto (-46), 3) := by decide +kernel
theorem dX6_drops_117 : decode cX6_drops 117 = .ok (.return_, 1) := by decide +kernel
theorem dX6_removes_0 : decode cX6_removes 0 = .ok (.aload_n 0, 1) := by decide +kernel
theorem dX6_removes_1 : decode cX6_removes 1 = .ok (.aload_n 0, 1) := by decide +kernel
theorem dX6_removes_2 : decode cX6_removes 2 = .ok (.iload_n 1, 1) := by decide +kernel
theorem dX6_removes_3 : decode cX6_removes 3 = .ok (.iconst 0, 1) := by decide +kernel
theorem dX6_removes_4 : decode cX6_removes 4 = .ok (.invokestatic 36, 3) := by decide +kernel
theorem dX6_removes_7 : decode cX6_removes 7 = .ok (.invokestatic 61, 3) := by decide +kernel
theorem dX6_removes_10 : decode cX6_removes 10 = .ok (.aload_n 0, 1) := by decide +kernel
theorem dX6_removes_11 : decode cX6_removes 11 = .ok (.iconst 4, 1) := by decide +kernel
theorem dX6_removes_12 : decode cX6_removes 12 = .ok (.dup2, 1) := by decide +kernel
theorem dX6_removes_13 : decode cX6_removes 13 = .ok (.iaload, 1) := by decide +kernel
theorem dX6_removes_14 : decode cX6_removes 14 = .ok (.iconst 1, 1) := by decide +kernel
theorem dX6_removes_15 : decode cX6_removes 15 = .ok (.iadd, 1) := by decide +kernel
theorem dX6_removes_16 : decode cX6_removes 16 = .ok (.iastore, 1) := by decide +kernel
theorem dX6_removes_17 : decode cX6_removes 17 = .ok (.aload_n 0, 1) := by decide +kernel
theorem dX6_removes_18 : decode cX6_removes 18 = .ok (.iload_n 1, 1) := by decide +kernel
theorem dX6_removes_19 : decode cX6_removes 19 = .ok (.invokestatic 65, 3) := by decide +kernel
theorem dX6_removes_22 : decode cX6_removes 22 = .ok (.ifCond .ne 10, 3) := by decide +kernel
theorem dX6_removes_25 : decode cX6_removes 25 = .ok (.aload_n 0, 1) := by decide +kernel
theorem dX6_removes_26 : decode cX6_removes 26 = .ok (.iload_n 1, 1) := by decide +kernel
theorem dX6_removes_27 : decode cX6_removes 27 = .ok (.invokestatic 68, 3) := by decide +kernel
theorem dX6_removes_30 : decode cX6_removes 30 = .ok (.iconst 0, 1) := by decide +kernel
theorem dX6_removes_31 : decode cX6_removes 31 = .ok (.ireturn, 1) := by decide +kernel
theorem dX6_removes_32 : decode cX6_removes 32 = .ok (.iconst 0, 1) := by decide +kernel
theorem dX6_removes_33 : decode cX6_removes 33 = .ok (.istore_n 2, 1) := by decide +kernel
theorem dX6_removes_34 : decode cX6_removes 34 = .ok (.iload_n 2, 1) := by decide +kernel
theorem dX6_removes_35 : decode cX6_removes 35 = .ok (.iconst 5, 1) := by decide +kernel
theorem dX6_removes_36 : decode cX6_removes 36 = .ok (.if_icmp .ge 28, 3) := by decide +kernel
theorem dX6_removes_39 : decode cX6_removes 39 = .ok (.aload_n 0, 1) := by decide +kernel
theorem dX6_removes_40 : decode cX6_removes 40 = .ok (.bipush 70, 2) := by decide +kernel
theorem dX6_removes_42 : decode cX6_removes 42 = .ok (.iconst 5, 1) := by decide +kernel
theorem dX6_removes_43 : decode cX6_removes 43 = .ok (.iload_n 1, 1) := by decide +kernel
theorem dX6_removes_44 : decode cX6_removes 44 = .ok (.imul, 1) := by decide +kernel
theorem dX6_removes_45 : decode cX6_removes 45 = .ok (.iadd, 1) := by decide +kernel
theorem dX6_removes_46 : decode cX6_removes 46 = .ok (.iload_n 2, 1) := by decide +kernel
theorem dX6_removes_47 : decode cX6_removes 47 = .ok (.iadd, 1) := by decide +kernel
theorem dX6_removes_48 : decode cX6_removes 48 = .ok (.iload_n 2, 1) := by decide +kernel
theorem dX6_removes_49 : decode cX6_removes 49 = .ok (.ifCond .ne 7, 3) := by decide +kernel
theorem dX6_removes_52 : decode cX6_removes 52 = .ok (.iconst (-1), 1) := by decide +kernel
theorem dX6_removes_53 : decode cX6_removes 53 = .ok (.goto 4, 3) := by decide +kernel
theorem dX6_removes_56 : decode cX6_removes 56 = .ok (.iconst 0, 1) := by decide +kernel
theorem dX6_removes_57 : decode cX6_removes 57 = .ok (.iastore, 1) := by decide +kernel
theorem dX6_removes_58 : decode cX6_removes 58 = .ok (.iinc 2 1, 3) := by decide +kernel
theorem dX6_removes_61 : decode cX6_removes 61 = .ok (.goto (-27), 3) := by decide +kernel
theorem dX6_removes_64 : decode cX6_removes 64 = .ok (.iconst 1, 1) := by decide +kernel
theorem dX6_removes_65 : decode cX6_removes 65 = .ok (.ireturn, 1) := by decide +kernel
theorem dX6_walks_0 : decode cX6_walks 0 = .ok (.aload_n 0, 1) := by decide +kernel
theorem dX6_walks_1 : decode cX6_walks 1 = .ok (.sipush 410, 3) := by decide +kernel
theorem dX6_walks_4 : decode cX6_walks 4 = .ok (.iload_n 1, 1) := by decide +kernel
theorem dX6_walks_5 : decode cX6_walks 5 = .ok (.iadd, 1) := by decide +kernel
theorem dX6_walks_6 : decode cX6_walks 6 = .ok (.iaload, 1) := by decide +kernel
theorem dX6_walks_7 : decode cX6_walks 7 = .ok (.istore_n 3, 1) := by decide +kernel
theorem dX6_walks_8 : decode cX6_walks 8 = .ok (.aload_n 0, 1) := by decide +kernel
theorem dX6_walks_9 : decode cX6_walks 9 = .ok (.sipush 410, 3) := by decide +kernel
theorem dX6_walks_12 : decode cX6_walks 12 = .ok (.iload_n 1, 1) := by decide +kernel
theorem dX6_walks_13 : decode cX6_walks 13 = .ok (.iadd, 1) := by decide +kernel
theorem dX6_walks_14 : decode cX6_walks 14 = .ok (.iload_n 2, 1) := by decide +kernel
theorem dX6_walks_15 : decode cX6_walks 15 = .ok (.iastore, 1) := by decide +kernel
theorem dX6_walks_16 : decode cX6_walks 16 = .ok (.iload_n 3, 1) := by decide +kernel
theorem dX6_walks_17 : decode cX6_walks 17 = .ok (.iconst 0, 1) := by decide +kernel
theorem dX6_walks_18 : decode cX6_walks 18 = .ok (.aload_n 0, 1) := by decide +kernel
theorem dX6_walks_19 : decode cX6_walks 19 = .ok (.iconst 1, 1) := by decide +kernel
theorem dX6_walks_20 : decode cX6_walks 20 = .ok (.iaload, 1) := by decide +kernel
theorem dX6_walks_21 : decode cX6_walks 21 = .ok (.iconst 1, 1) := by decide +kernel
theorem dX6_walks_22 : decode cX6_walks 22 = .ok (.isub, 1) := by decide +kernel
theorem dX6_walks_23 : decode cX6_walks 23 = .ok (.invokestatic 44, 3) := by decide +kernel
theorem dX6_walks_26 : decode cX6_walks 26 = .ok (.ifCond .eq 24, 3) := by decide +kernel
theorem dX6_walks_29 : decode cX6_walks 29 = .ok (.aload_n 0, 1) := by decide +kernel
theorem dX6_walks_30 : decode cX6_walks 30 = .ok (.iload_n 3, 1) := by decide +kernel
theorem dX6_walks_31 : decode cX6_walks 31 = .ok (.invokestatic 40, 3) := by decide +kernel
theorem dX6_walks_34 : decode cX6_walks 34 = .ok (.ifCond .ne 16, 3) := by decide +kernel
theorem dX6_walks_37 : decode cX6_walks 37 = .ok (.aload_n 0, 1) := by decide +kernel
theorem dX6_walks_38 : decode cX6_walks 38 = .ok (.iload_n 3, 1) := by decide +kernel
theorem dX6_walks_39 : decode cX6_walks 39 = .ok (.invokestatic 65, 3) := by decide +kernel
theorem dX6_walks_42 : decode cX6_walks 42 = .ok (.ifCond .ne 8, 3) := by decide +kernel
theorem dX6_walks_45 : decode cX6_walks 45 = .ok (.aload_n 0, 1) := by decide +kernel
theorem dX6_walks_46 : decode cX6_walks 46 = .ok (.iload_n 3, 1) := by decide +kernel
theorem dX6_walks_47 : decode cX6_walks 47 = .ok (.invokestatic 68, 3) := by decide +kernel
theorem dX6_walks_50 : decode cX6_walks 50 = .ok (.return_, 1) := by decide +kernel
theorem dX6_nextThing_0 : decode cX6_nextThing 0 = .ok (.iload_n 1, 1) := by decide +kernel
theorem dX6_nextThing_1 : decode cX6_nextThing 1 = .ok (.bipush 99, 2) := by decide +kernel
theorem dX6_nextThing_3 : decode cX6_nextThing 3 = .ok (.if_icmp .ne 9, 3) := by decide +kernel
theorem dX6_nextThing_6 : decode cX6_nextThing 6 = .ok (.aload_n 0, 1) := by decide +kernel
theorem dX6_nextThing_7 : decode cX6_nextThing 7 = .ok (.iconst 1, 1) := by decide +kernel
theorem dX6_nextThing_8 : decode cX6_nextThing 8 = .ok (.iaload, 1) := by decide +kernel
theorem dX6_nextThing_9 : decode cX6_nextThing 9 = .ok (.goto 6, 3) := by decide +kernel
theorem dX6_nextThing_12 : decode cX6_nextThing 12 = .ok (.iload_n 1, 1) := by decide +kernel
theorem dX6_nextThing_13 : decode cX6_nextThing 13 = .ok (.iconst 1, 1) := by decide +kernel
theorem dX6_nextThing_14 : decode cX6_nextThing 14 = .ok (.iadd, 1) := by decide +kernel
theorem dX6_nextThing_15 : decode cX6_nextThing 15 = .ok (.istore_n 2, 1) := by decide +kernel
theorem dX6_nextThing_16 : decode cX6_nextThing 16 = .ok (.iload_n 2, 1) := by decide +kernel
theorem dX6_nextThing_17 : decode cX6_nextThing 17 = .ok (.aload_n 0, 1) := by decide +kernel
theorem dX6_nextThing_18 : decode cX6_nextThing 18 = .ok (.iconst 1, 1) := by decide +kernel
theorem dX6_nextThing_19 : decode cX6_nextThing 19 = .ok (.iaload, 1) := by decide +kernel
theorem dX6_nextThing_20 : decode cX6_nextThing 20 = .ok (.if_icmp .ge 17, 3) := by decide +kernel
theorem dX6_nextThing_23 : decode cX6_nextThing 23 = .ok (.aload_n 0, 1) := by decide +kernel
theorem dX6_nextThing_24 : decode cX6_nextThing 24 = .ok (.iload_n 2, 1) := by decide +kernel
theorem dX6_nextThing_25 : decode cX6_nextThing 25 = .ok (.invokestatic 40, 3) := by decide +kernel
theorem dX6_nextThing_28 : decode cX6_nextThing 28 = .ok (.ifCond .ne 9, 3) := by decide +kernel
theorem dX6_nextThing_31 : decode cX6_nextThing 31 = .ok (.iinc 2 1, 3) := by decide +kernel
theorem dX6_nextThing_34 : decode cX6_nextThing 34 = .ok (.goto (-18), 3) := by decide +kernel
theorem dX6_nextThing_37 : decode cX6_nextThing 37 = .ok (.iload_n 2, 1) := by decide +kernel
theorem dX6_nextThing_38 : decode cX6_nextThing 38 = .ok (.aload_n 0, 1) := by decide +kernel
theorem dX6_nextThing_39 : decode cX6_nextThing 39 = .ok (.iconst 1, 1) := by decide +kernel
theorem dX6_nextThing_40 : decode cX6_nextThing 40 = .ok (.iaload, 1) := by decide +kernel
theorem dX6_nextThing_41 : decode cX6_nextThing 41 = .ok (.if_icmp .ge 7, 3) := by decide +kernel
theorem dX6_nextThing_44 : decode cX6_nextThing 44 = .ok (.iload_n 2, 1) := by decide +kernel
theorem dX6_nextThing_45 : decode cX6_nextThing 45 = .ok (.goto 5, 3) := by decide +kernel
theorem dX6_nextThing_48 : decode cX6_nextThing 48 = .ok (.bipush 99, 2) := by decide +kernel
theorem dX6_nextThing_50 : decode cX6_nextThing 50 = .ok (.ireturn, 1) := by decide +kernel
theorem dX6_whyNot_0 : decode cX6_whyNot 0 = .ok (.iload_n 1, 1) := by decide +kernel
theorem dX6_whyNot_1 : decode cX6_whyNot 1 = .ok (.ifCond .lt 14, 3) := by decide +kernel
theorem dX6_whyNot_4 : decode cX6_whyNot 4 = .ok (.iload_n 1, 1) := by decide +kernel
theorem dX6_whyNot_5 : decode cX6_whyNot 5 = .ok (.sipush 1000, 3) := by decide +kernel
theorem dX6_whyNot_8 : decode cX6_whyNot 8 = .ok (.idiv, 1) := by decide +kernel
theorem dX6_whyNot_9 : decode cX6_whyNot 9 = .ok (.aload_n 0, 1) := by decide +kernel
theorem dX6_whyNot_10 : decode cX6_whyNot 10 = .ok (.iconst 0, 1) := by decide +kernel
theorem dX6_whyNot_11 : decode cX6_whyNot 11 = .ok (.iaload, 1) := by decide +kernel
theorem dX6_whyNot_12 : decode cX6_whyNot 12 = .ok (.if_icmp .lt 5, 3) := by decide +kernel
theorem dX6_whyNot_15 : decode cX6_whyNot 15 = .ok (.iconst 1, 1) := by decide +kernel
theorem dX6_whyNot_16 : decode cX6_whyNot 16 = .ok (.ireturn, 1) := by decide +kernel
theorem dX6_whyNot_17 : decode cX6_whyNot 17 = .ok (.iload_n 1, 1) := by decide +kernel
theorem dX6_whyNot_18 : decode cX6_whyNot 18 = .ok (.sipush 1000, 3) := by decide +kernel
theorem dX6_whyNot_21 : decode cX6_whyNot 21 = .ok (.idiv, 1) := by decide +kernel
theorem dX6_whyNot_22 : decode cX6_whyNot 22 = .ok (.istore_n 2, 1) := by decide +kernel
theorem dX6_whyNot_23 : decode cX6_whyNot 23 = .ok (.aload_n 0, 1) := by decide +kernel
theorem dX6_whyNot_24 : decode cX6_whyNot 24 = .ok (.bipush 6, 2) := by decide +kernel
theorem dX6_whyNot_26 : decode cX6_whyNot 26 = .ok (.iload_n 2, 1) := by decide +kernel
theorem dX6_whyNot_27 : decode cX6_whyNot 27 = .ok (.iadd, 1) := by decide +kernel
theorem dX6_whyNot_28 : decode cX6_whyNot 28 = .ok (.iaload, 1) := by decide +kernel
theorem dX6_whyNot_29 : decode cX6_whyNot 29 = .ok (.iload_n 1, 1) := by decide +kernel
theorem dX6_whyNot_30 : decode cX6_whyNot 30 = .ok (.sipush 1000, 3) := by decide +kernel
theorem dX6_whyNot_33 : decode cX6_whyNot 33 = .ok (.irem, 1) := by decide +kernel
theorem dX6_whyNot_34 : decode cX6_whyNot 34 = .ok (.if_icmp .eq 5, 3) := by decide +kernel
theorem dX6_whyNot_37 : decode cX6_whyNot 37 = .ok (.iconst 2, 1) := by decide +kernel
theorem dX6_whyNot_38 : decode cX6_whyNot 38 = .ok (.ireturn, 1) := by decide +kernel
theorem dX6_whyNot_39 : decode cX6_whyNot 39 = .ok (.aload_n 0, 1) := by decide +kernel
theorem dX6_whyNot_40 : decode cX6_whyNot 40 = .ok (.iload_n 2, 1) := by decide +kernel
theorem dX6_whyNot_41 : decode cX6_whyNot 41 = .ok (.invokestatic 48, 3) := by decide +kernel
theorem dX6_whyNot_44 : decode cX6_whyNot 44 = .ok (.istore_n 3, 1) := by decide +kernel
theorem dX6_whyNot_45 : decode cX6_whyNot 45 = .ok (.iload_n 3, 1) := by decide +kernel
theorem dX6_whyNot_46 : decode cX6_whyNot 46 = .ok (.iconst (-1), 1) := by decide +kernel
theorem dX6_whyNot_47 : decode cX6_whyNot 47 = .ok (.if_icmp .eq 13, 3) := by decide +kernel
theorem dX6_whyNot_50 : decode cX6_whyNot 50 = .ok (.aload_n 0, 1) := by decide +kernel
theorem dX6_whyNot_51 : decode cX6_whyNot 51 = .ok (.iload_n 3, 1) := by decide +kernel
theorem dX6_whyNot_52 : decode cX6_whyNot 52 = .ok (.iconst 0, 1) := by decide +kernel
theorem dX6_whyNot_53 : decode cX6_whyNot 53 = .ok (.invokestatic 36, 3) := by decide +kernel
theorem dX6_whyNot_56 : decode cX6_whyNot 56 = .ok (.iload_n 2, 1) := by decide +kernel
theorem dX6_whyNot_57 : decode cX6_whyNot 57 = .ok (.if_icmp .eq 7, 3) := by decide +kernel
theorem dX6_whyNot_60 : decode cX6_whyNot 60 = .ok (.iconst 3, 1) := by decide +kernel
theorem dX6_whyNot_61 : decode cX6_whyNot 61 = .ok (.goto 4, 3) := by decide +kernel
theorem dX6_whyNot_64 : decode cX6_whyNot 64 = .ok (.iconst 0, 1) := by decide +kernel
theorem dX6_whyNot_65 : decode cX6_whyNot 65 = .ok (.ireturn, 1) := by decide +kernel
theorem dX6_isNew_0 : decode cX6_isNew 0 = .ok (.iload_n 0, 1) := by decide +kernel
theorem dX6_isNew_1 : decode cX6_isNew 1 = .ok (.iconst 0, 1) := by decide +kernel
theorem dX6_isNew_2 : decode cX6_isNew 2 = .ok (.sipush 999, 3) := by decide +kernel
theorem dX6_isNew_5 : decode cX6_isNew 5 = .ok (.invokestatic 44, 3) := by decide +kernel
theorem dX6_isNew_8 : decode cX6_isNew 8 = .ok (.ifCond .eq 25, 3) := by decide +kernel
theorem dX6_isNew_11 : decode cX6_isNew 11 = .ok (.iload_n 1, 1) := by decide +kernel
theorem dX6_isNew_12 : decode cX6_isNew 12 = .ok (.iconst 1, 1) := by decide +kernel
theorem dX6_isNew_13 : decode cX6_isNew 13 = .ok (.iconst 4, 1) := by decide +kernel
theorem dX6_isNew_14 : decode cX6_isNew 14 = .ok (.invokestatic 44, 3) := by decide +kernel
theorem dX6_isNew_17 : decode cX6_isNew 17 = .ok (.ifCond .eq 16, 3) := by decide +kernel
theorem dX6_isNew_20 : decode cX6_isNew 20 = .ok (.iload_n 2, 1) := by decide +kernel
theorem dX6_isNew_21 : decode cX6_isNew 21 = .ok (.iconst 0, 1) := by decide +kernel
theorem dX6_isNew_22 : decode cX6_isNew 22 = .ok (.iconst 2, 1) := by decide +kernel
theorem dX6_isNew_23 : decode cX6_isNew 23 = .ok (.invokestatic 44, 3) := by decide +kernel
theorem dX6_isNew_26 : decode cX6_isNew 26 = .ok (.ifCond .eq 7, 3) := by decide +kernel
theorem dX6_isNew_29 : decode cX6_isNew 29 = .ok (.iconst 1, 1) := by decide +kernel
theorem dX6_isNew_30 : decode cX6_isNew 30 = .ok (.goto 4, 3) := by decide +kernel
theorem dX6_isNew_33 : decode cX6_isNew 33 = .ok (.iconst 0, 1) := by decide +kernel
theorem dX6_isNew_34 : decode cX6_isNew 34 = .ok (.ireturn, 1) := by decide +kernel
theorem dX6_put_0 : decode cX6_put 0 = .ok (.aload_n 0, 1) := by decide +kernel
theorem dX6_put_1 : decode cX6_put 1 = .ok (.iload_n 1, 1) := by decide +kernel
theorem dX6_put_2 : decode cX6_put 2 = .ok (.iload_n 2, 1) := by decide +kernel
theorem dX6_put_3 : decode cX6_put 3 = .ok (.iload_n 3, 1) := by decide +kernel
theorem dX6_put_4 : decode cX6_put 4 = .ok (.invokestatic 71, 3) := by decide +kernel
theorem dX6_put_7 : decode cX6_put 7 = .ok (.ifCond .ne 7, 3) := by decide +kernel
theorem dX6_put_10 : decode cX6_put 10 = .ok (.iconst 1, 1) := by decide +kernel
theorem dX6_put_11 : decode cX6_put 11 = .ok (.goto 20, 3) := by decide +kernel
theorem dX6_put_14 : decode cX6_put 14 = .ok (.aload_n 0, 1) := by decide +kernel
theorem dX6_put_15 : decode cX6_put 15 = .ok (.getfield 7, 3) := by decide +kernel
theorem dX6_put_18 : decode cX6_put 18 = .ok (.iload_n 2, 1) := by decide +kernel
theorem dX6_put_19 : decode cX6_put 19 = .ok (.invokestatic 58, 3) := by decide +kernel
theorem dX6_put_22 : decode cX6_put 22 = .ok (.iconst (-1), 1) := by decide +kernel
theorem dX6_put_23 : decode cX6_put 23 = .ok (.if_icmp .ne 7, 3) := by decide +kernel
theorem dX6_put_26 : decode cX6_put 26 = .ok (.iconst 2, 1) := by decide +kernel
theorem dX6_put_27 : decode cX6_put 27 = .ok (.goto 4, 3) := by decide +kernel
theorem dX6_put_30 : decode cX6_put 30 = .ok (.iconst 0, 1) := by decide +kernel
theorem dX6_put_31 : decode cX6_put 31 = .ok (.invokevirtual 74, 3) := by decide +kernel
theorem dX6_put_34 : decode cX6_put 34 = .ok (.ifCond .eq 5, 3) := by decide +kernel
theorem dX6_put_37 : decode cX6_put 37 = .ok (.iconst 0, 1) := by decide +kernel
theorem dX6_put_38 : decode cX6_put 38 = .ok (.ireturn, 1) := by decide +kernel
theorem dX6_put_39 : decode cX6_put 39 = .ok (.aload_n 0, 1) := by decide +kernel
theorem dX6_put_40 : decode cX6_put 40 = .ok (.invokevirtual 78, 3) := by decide +kernel
theorem dX6_put_43 : decode cX6_put 43 = .ok (.aload_n 0, 1) := by decide +kernel
theorem dX6_put_44 : decode cX6_put 44 = .ok (.getfield 7, 3) := by decide +kernel
theorem dX6_put_47 : decode cX6_put 47 = .ok (.iconst 1, 1) := by decide +kernel
theorem dX6_put_48 : decode cX6_put 48 = .ok (.iaload, 1) := by decide +kernel
theorem dX6_put_49 : decode cX6_put 49 = .ok (.istore 4, 2) := by decide +kernel
theorem dX6_put_51 : decode cX6_put 51 = .ok (.aload_n 0, 1) := by decide +kernel
theorem dX6_put_52 : decode cX6_put 52 = .ok (.getfield 7, 3) := by decide +kernel
theorem dX6_put_55 : decode cX6_put 55 = .ok (.iload 4, 2) := by decide +kernel
theorem dX6_put_57 : decode cX6_put 57 = .ok (.iload_n 1, 1) := by decide +kernel
theorem dX6_put_58 : decode cX6_put 58 = .ok (.iload_n 2, 1) := by decide +kernel
theorem dX6_put_59 : decode cX6_put 59 = .ok (.iload_n 3, 1) := by decide +kernel
theorem dX6_put_60 : decode cX6_put 60 = .ok (.invokestatic 81, 3) := by decide +kernel
theorem dX6_put_63 : decode cX6_put 63 = .ok (.istore 5, 2) := by decide +kernel
theorem dX6_put_65 : decode cX6_put 65 = .ok (.sipush 1000, 3) := by decide +kernel
theorem dX6_put_68 : decode cX6_put 68 = .ok (.iload 5, 2) := by decide +kernel
theorem dX6_put_70 : decode cX6_put 70 = .ok (.imul, 1) := by decide +kernel
theorem dX6_put_71 : decode cX6_put 71 = .ok (.aload_n 0, 1) := by decide +kernel
theorem dX6_put_72 : decode cX6_put 72 = .ok (.getfield 7, 3) := by decide +kernel
theorem dX6_put_75 : decode cX6_put 75 = .ok (.bipush 6, 2) := by decide +kernel
theorem dX6_put_77 : decode cX6_put 77 = .ok (.iload 5, 2) := by decide +kernel
theorem dX6_put_79 : decode cX6_put 79 = .ok (.iadd, 1) := by decide +kernel
theorem dX6_put_80 : decode cX6_put 80 = .ok (.iaload, 1) := by decide +kernel
theorem dX6_put_81 : decode cX6_put 81 = .ok (.iadd, 1) := by decide +kernel
theorem dX6_put_82 : decode cX6_put 82 = .ok (.ireturn, 1) := by decide +kernel
theorem dX6_putBehind_0 : decode cX6_putBehind 0 = .ok (.aload_n 0, 1) := by decide +kernel
theorem dX6_putBehind_1 : decode cX6_putBehind 1 = .ok (.aload_n 0, 1) := by decide +kernel
theorem dX6_putBehind_2 : decode cX6_putBehind 2 = .ok (.getfield 7, 3) := by decide +kernel
theorem dX6_putBehind_5 : decode cX6_putBehind 5 = .ok (.iload_n 1, 1) := by decide +kernel
theorem dX6_putBehind_6 : decode cX6_putBehind 6 = .ok (.invokestatic 85, 3) := by decide +kernel
theorem dX6_putBehind_9 : decode cX6_putBehind 9 = .ok (.ifCond .eq 7, 3) := by decide +kernel
theorem dX6_putBehind_12 : decode cX6_putBehind 12 = .ok (.iconst 1, 1) := by decide +kernel
theorem dX6_putBehind_13 : decode cX6_putBehind 13 = .ok (.goto 34, 3) := by decide +kernel
theorem dX6_putBehind_16 : decode cX6_putBehind 16 = .ok (.iload_n 2, 1) := by decide +kernel
theorem dX6_putBehind_17 : decode cX6_putBehind 17 = .ok (.iload_n 3, 1) := by decide +kernel
theorem dX6_putBehind_18 : decode cX6_putBehind 18 = .ok (.iload 4, 2) := by decide +kernel
theorem dX6_putBehind_20 : decode cX6_putBehind 20 = .ok (.invokestatic 71, 3) := by decide +kernel
theorem dX6_putBehind_23 : decode cX6_putBehind 23 = .ok (.ifCond .ne 7, 3) := by decide +kernel
theorem dX6_putBehind_26 : decode cX6_putBehind 26 = .ok (.iconst 2, 1) := by decide +kernel
theorem dX6_putBehind_27 : decode cX6_putBehind 27 = .ok (.goto 20, 3) := by decide +kernel
theorem dX6_putBehind_30 : decode cX6_putBehind 30 = .ok (.aload_n 0, 1) := by decide +kernel
theorem dX6_putBehind_31 : decode cX6_putBehind 31 = .ok (.getfield 7, 3) := by decide +kernel
theorem dX6_putBehind_34 : decode cX6_putBehind 34 = .ok (.iload_n 3, 1) := by decide +kernel
theorem dX6_putBehind_35 : decode cX6_putBehind 35 = .ok (.invokestatic 58, 3) := by decide +kernel
theorem dX6_putBehind_38 : decode cX6_putBehind 38 = .ok (.iconst (-1), 1) := by decide +kernel
theorem dX6_putBehind_39 : decode cX6_putBehind 39 = .ok (.if_icmp .ne 7, 3) := by decide +kernel
theorem dX6_putBehind_42 : decode cX6_putBehind 42 = .ok (.iconst 3, 1) := by decide +kernel
theorem dX6_putBehind_43 : decode cX6_putBehind 43 = .ok (.goto 4, 3) := by decide +kernel
theorem dX6_putBehind_46 : decode cX6_putBehind 46 = .ok (.iconst 0, 1) := by decide +kernel
theorem dX6_putBehind_47 : decode cX6_putBehind 47 = .ok (.invokevirtual 74, 3) := by decide +kernel
theorem dX6_putBehind_50 : decode cX6_putBehind 50 = .ok (.ifCond .eq 5, 3) := by decide +kernel
theorem dX6_putBehind_53 : decode cX6_putBehind 53 = .ok (.iconst 0, 1) := by decide +kernel
theorem dX6_putBehind_54 : decode cX6_putBehind 54 = .ok (.ireturn, 1) := by decide +kernel
theorem dX6_putBehind_55 : decode cX6_putBehind 55 = .ok (.aload_n 0, 1) := by decide +kernel
theorem dX6_putBehind_56 : decode cX6_putBehind 56 = .ok (.invokevirtual 78, 3) := by decide +kernel
theorem dX6_putBehind_59 : decode cX6_putBehind 59 = .ok (.aload_n 0, 1) := by decide +kernel
theorem dX6_putBehind_60 : decode cX6_putBehind 60 = .ok (.getfield 7, 3) := by decide +kernel
theorem dX6_putBehind_63 : decode cX6_putBehind 63 = .ok (.aload_n 0, 1) := by decide +kernel
theorem dX6_putBehind_64 : decode cX6_putBehind 64 = .ok (.getfield 7, 3) := by decide +kernel
theorem dX6_putBehind_67 : decode cX6_putBehind 67 = .ok (.iload_n 1, 1) := by decide +kernel
theorem dX6_putBehind_68 : decode cX6_putBehind 68 = .ok (.sipush 1000, 3) := by decide +kernel
theorem dX6_putBehind_71 : decode cX6_putBehind 71 = .ok (.idiv, 1) := by decide +kernel
theorem dX6_putBehind_72 : decode cX6_putBehind 72 = .ok (.invokestatic 48, 3) := by decide +kernel
theorem dX6_putBehind_75 : decode cX6_putBehind 75 = .ok (.iconst 1, 1) := by decide +kernel
theorem dX6_putBehind_76 : decode cX6_putBehind 76 = .ok (.iadd, 1) := by decide +kernel
theorem dX6_putBehind_77 : decode cX6_putBehind 77 = .ok (.iload_n 2, 1) := by decide +kernel
theorem dX6_putBehind_78 : decode cX6_putBehind 78 = .ok (.iload_n 3, 1) := by decide +kernel
theorem dX6_putBehind_79 : decode cX6_putBehind 79 = .ok (.iload 4, 2) := by decide +kernel
theorem dX6_putBehind_81 : decode cX6_putBehind 81 = .ok (.invokestatic 81, 3) := by decide +kernel
theorem dX6_putBehind_84 : decode cX6_putBehind 84 = .ok (.istore 5, 2) := by decide +kernel
theorem dX6_putBehind_86 : decode cX6_putBehind 86 = .ok (.sipush 1000, 3) := by decide +kernel
theorem dX6_putBehind_89 : decode cX6_putBehind 89 = .ok (.iload 5, 2) := by decide +kernel
theorem dX6_putBehind_91 : decode cX6_putBehind 91 = .ok (.imul, 1) := by decide +kernel
theorem dX6_putBehind_92 : decode cX6_putBehind 92 = .ok (.aload_n 0, 1) := by decide +kernel
theorem dX6_putBehind_93 : decode cX6_putBehind 93 = .ok (.getfield 7, 3) := by decide +kernel
theorem dX6_putBehind_96 : decode cX6_putBehind 96 = .ok (.bipush 6, 2) := by decide +kernel
theorem dX6_putBehind_98 : decode cX6_putBehind 98 = .ok (.iload 5, 2) := by decide +kernel
theorem dX6_putBehind_100 : decode cX6_putBehind 100 = .ok (.iadd, 1) := by decide +kernel
theorem dX6_putBehind_101 : decode cX6_putBehind 101 = .ok (.iaload, 1) := by decide +kernel
theorem dX6_putBehind_102 : decode cX6_putBehind 102 = .ok (.iadd, 1) := by decide +kernel
theorem dX6_putBehind_103 : decode cX6_putBehind 103 = .ok (.ireturn, 1) := by decide +kernel
theorem dX6_remove_0 : decode cX6_remove 0 = .ok (.aload_n 0, 1) := by decide +kernel
theorem dX6_remove_1 : decode cX6_remove 1 = .ok (.aload_n 0, 1) := by decide +kernel
theorem dX6_remove_2 : decode cX6_remove 2 = .ok (.getfield 7, 3) := by decide +kernel
theorem dX6_remove_5 : decode cX6_remove 5 = .ok (.iload_n 1, 1) := by decide +kernel
theorem dX6_remove_6 : decode cX6_remove 6 = .ok (.invokestatic 85, 3) := by decide +kernel
theorem dX6_remove_9 : decode cX6_remove 9 = .ok (.ifCond .eq 7, 3) := by decide +kernel
theorem dX6_remove_12 : decode cX6_remove 12 = .ok (.iconst 1, 1) := by decide +kernel
theorem dX6_remove_13 : decode cX6_remove 13 = .ok (.goto 4, 3) := by decide +kernel
theorem dX6_remove_16 : decode cX6_remove 16 = .ok (.iconst 0, 1) := by decide +kernel
theorem dX6_remove_17 : decode cX6_remove 17 = .ok (.invokevirtual 74, 3) := by decide +kernel
theorem dX6_remove_20 : decode cX6_remove 20 = .ok (.ifCond .eq 5, 3) := by decide +kernel
theorem dX6_remove_23 : decode cX6_remove 23 = .ok (.iconst 0, 1) := by decide +kernel
theorem dX6_remove_24 : decode cX6_remove 24 = .ok (.ireturn, 1) := by decide +kernel
theorem dX6_remove_25 : decode cX6_remove 25 = .ok (.aload_n 0, 1) := by decide +kernel
theorem dX6_remove_26 : decode cX6_remove 26 = .ok (.invokevirtual 78, 3) := by decide +kernel
theorem dX6_remove_29 : decode cX6_remove 29 = .ok (.aload_n 0, 1) := by decide +kernel
theorem dX6_remove_30 : decode cX6_remove 30 = .ok (.getfield 7, 3) := by decide +kernel
theorem dX6_remove_33 : decode cX6_remove 33 = .ok (.iload_n 1, 1) := by decide +kernel
theorem dX6_remove_34 : decode cX6_remove 34 = .ok (.sipush 1000, 3) := by decide +kernel
theorem dX6_remove_37 : decode cX6_remove 37 = .ok (.idiv, 1) := by decide +kernel
theorem dX6_remove_38 : decode cX6_remove 38 = .ok (.invokestatic 48, 3) := by decide +kernel
theorem dX6_remove_41 : decode cX6_remove 41 = .ok (.istore_n 2, 1) := by decide +kernel
theorem dX6_remove_42 : decode cX6_remove 42 = .ok (.aload_n 0, 1) := by decide +kernel
theorem dX6_remove_43 : decode cX6_remove 43 = .ok (.getfield 7, 3) := by decide +kernel
theorem dX6_remove_46 : decode cX6_remove 46 = .ok (.iload_n 2, 1) := by decide +kernel
theorem dX6_remove_47 : decode cX6_remove 47 = .ok (.iconst 2, 1) := by decide +kernel
theorem dX6_remove_48 : decode cX6_remove 48 = .ok (.invokestatic 36, 3) := by decide +kernel
theorem dX6_remove_51 : decode cX6_remove 51 = .ok (.istore_n 3, 1) := by decide +kernel
theorem dX6_remove_52 : decode cX6_remove 52 = .ok (.aload_n 0, 1) := by decide +kernel
theorem dX6_remove_53 : decode cX6_remove 53 = .ok (.getfield 7, 3) := by decide +kernel
theorem dX6_remove_56 : decode cX6_remove 56 = .ok (.iload_n 2, 1) := by decide +kernel
theorem dX6_remove_57 : decode cX6_remove 57 = .ok (.invokestatic 88, 3) := by decide +kernel
theorem dX6_remove_60 : decode cX6_remove 60 = .ok (.ifCond .eq 7, 3) := by decide +kernel
theorem dX6_remove_63 : decode cX6_remove 63 = .ok (.iload_n 3, 1) := by decide +kernel
theorem dX6_remove_64 : decode cX6_remove 64 = .ok (.goto 4, 3) := by decide +kernel
theorem dX6_remove_67 : decode cX6_remove 67 = .ok (.iload_n 3, 1) := by decide +kernel
theorem dX6_remove_68 : decode cX6_remove 68 = .ok (.ireturn, 1) := by decide +kernel
theorem dX6_change_0 : decode cX6_change 0 = .ok (.aload_n 0, 1) := by decide +kernel
theorem dX6_change_1 : decode cX6_change 1 = .ok (.aload_n 0, 1) := by decide +kernel
theorem dX6_change_2 : decode cX6_change 2 = .ok (.getfield 7, 3) := by decide +kernel
theorem dX6_change_5 : decode cX6_change 5 = .ok (.iload_n 1, 1) := by decide +kernel
theorem dX6_change_6 : decode cX6_change 6 = .ok (.invokestatic 85, 3) := by decide +kernel
theorem dX6_change_9 : decode cX6_change 9 = .ok (.ifCond .eq 7, 3) := by decide +kernel
theorem dX6_change_12 : decode cX6_change 12 = .ok (.iconst 1, 1) := by decide +kernel
theorem dX6_change_13 : decode cX6_change 13 = .ok (.goto 19, 3) := by decide +kernel
theorem dX6_change_16 : decode cX6_change 16 = .ok (.iload_n 2, 1) := by decide +kernel
theorem dX6_change_17 : decode cX6_change 17 = .ok (.iconst 0, 1) := by decide +kernel
theorem dX6_change_18 : decode cX6_change 18 = .ok (.sipush 999, 3) := by decide +kernel
theorem dX6_change_21 : decode cX6_change 21 = .ok (.invokestatic 44, 3) := by decide +kernel
theorem dX6_change_24 : decode cX6_change 24 = .ok (.ifCond .ne 7, 3) := by decide +kernel
theorem dX6_change_27 : decode cX6_change 27 = .ok (.iconst 2, 1) := by decide +kernel
theorem dX6_change_28 : decode cX6_change 28 = .ok (.goto 4, 3) := by decide +kernel
theorem dX6_change_31 : decode cX6_change 31 = .ok (.iconst 0, 1) := by decide +kernel
theorem dX6_change_32 : decode cX6_change 32 = .ok (.invokevirtual 74, 3) := by decide +kernel
theorem dX6_change_35 : decode cX6_change 35 = .ok (.ifCond .eq 5, 3) := by decide +kernel
theorem dX6_change_38 : decode cX6_change 38 = .ok (.iconst 0, 1) := by decide +kernel
theorem dX6_change_39 : decode cX6_change 39 = .ok (.ireturn, 1) := by decide +kernel
theorem dX6_change_40 : decode cX6_change 40 = .ok (.aload_n 0, 1) := by decide +kernel
theorem dX6_change_41 : decode cX6_change 41 = .ok (.invokevirtual 78, 3) := by decide +kernel
theorem dX6_change_44 : decode cX6_change 44 = .ok (.bipush 70, 2) := by decide +kernel
theorem dX6_change_46 : decode cX6_change 46 = .ok (.iconst 5, 1) := by decide +kernel
theorem dX6_change_47 : decode cX6_change 47 = .ok (.aload_n 0, 1) := by decide +kernel
theorem dX6_change_48 : decode cX6_change 48 = .ok (.getfield 7, 3) := by decide +kernel
theorem dX6_change_51 : decode cX6_change 51 = .ok (.iload_n 1, 1) := by decide +kernel
theorem dX6_change_52 : decode cX6_change 52 = .ok (.sipush 1000, 3) := by decide +kernel
theorem dX6_change_55 : decode cX6_change 55 = .ok (.idiv, 1) := by decide +kernel
theorem dX6_change_56 : decode cX6_change 56 = .ok (.invokestatic 48, 3) := by decide +kernel
theorem dX6_change_59 : decode cX6_change 59 = .ok (.imul, 1) := by decide +kernel
theorem dX6_change_60 : decode cX6_change 60 = .ok (.iadd, 1) := by decide +kernel
theorem dX6_change_61 : decode cX6_change 61 = .ok (.iconst 2, 1) := by decide +kernel
theorem dX6_change_62 : decode cX6_change 62 = .ok (.iadd, 1) := by decide +kernel
theorem dX6_change_63 : decode cX6_change 63 = .ok (.istore_n 3, 1) := by decide +kernel
theorem dX6_change_64 : decode cX6_change 64 = .ok (.aload_n 0, 1) := by decide +kernel
theorem dX6_change_65 : decode cX6_change 65 = .ok (.getfield 7, 3) := by decide +kernel
theorem dX6_change_68 : decode cX6_change 68 = .ok (.iload_n 3, 1) := by decide +kernel
theorem dX6_change_69 : decode cX6_change 69 = .ok (.iaload, 1) := by decide +kernel
theorem dX6_change_70 : decode cX6_change 70 = .ok (.istore 4, 2) := by decide +kernel
theorem dX6_change_72 : decode cX6_change 72 = .ok (.aload_n 0, 1) := by decide +kernel
theorem dX6_change_73 : decode cX6_change 73 = .ok (.getfield 7, 3) := by decide +kernel
theorem dX6_change_76 : decode cX6_change 76 = .ok (.iload_n 3, 1) := by decide +kernel
theorem dX6_change_77 : decode cX6_change 77 = .ok (.iload_n 2, 1) := by decide +kernel
theorem dX6_change_78 : decode cX6_change 78 = .ok (.iastore, 1) := by decide +kernel
theorem dX6_change_79 : decode cX6_change 79 = .ok (.iload 4, 2) := by decide +kernel
theorem dX6_change_81 : decode cX6_change 81 = .ok (.ireturn, 1) := by decide +kernel
theorem dX6_isWalker_0 : decode cX6_isWalker 0 = .ok (.iload_n 0, 1) := by decide +kernel
theorem dX6_isWalker_1 : decode cX6_isWalker 1 = .ok (.iconst 0, 1) := by decide +kernel
theorem dX6_isWalker_2 : decode cX6_isWalker 2 = .ok (.iconst 3, 1) := by decide +kernel
theorem dX6_isWalker_3 : decode cX6_isWalker 3 = .ok (.invokestatic 44, 3) := by decide +kernel
theorem dX6_isWalker_6 : decode cX6_isWalker 6 = .ok (.ireturn, 1) := by decide +kernel
theorem dX6_stands_0 : decode cX6_stands 0 = .ok (.aload_n 0, 1) := by decide +kernel
theorem dX6_stands_1 : decode cX6_stands 1 = .ok (.sipush 410, 3) := by decide +kernel
theorem dX6_stands_4 : decode cX6_stands 4 = .ok (.iload_n 1, 1) := by decide +kernel
theorem dX6_stands_5 : decode cX6_stands 5 = .ok (.iadd, 1) := by decide +kernel
theorem dX6_stands_6 : decode cX6_stands 6 = .ok (.iaload, 1) := by decide +kernel
theorem dX6_stands_7 : decode cX6_stands 7 = .ok (.istore_n 2, 1) := by decide +kernel
theorem dX6_stands_8 : decode cX6_stands 8 = .ok (.iload_n 2, 1) := by decide +kernel
theorem dX6_stands_9 : decode cX6_stands 9 = .ok (.ifCond .ge 7, 3) := by decide +kernel
theorem dX6_stands_12 : decode cX6_stands 12 = .ok (.iconst 0, 1) := by decide +kernel
theorem dX6_stands_13 : decode cX6_stands 13 = .ok (.goto 26, 3) := by decide +kernel
theorem dX6_stands_16 : decode cX6_stands 16 = .ok (.iload_n 2, 1) := by decide +kernel
theorem dX6_stands_17 : decode cX6_stands 17 = .ok (.bipush 99, 2) := by decide +kernel
theorem dX6_stands_19 : decode cX6_stands 19 = .ok (.if_icmp .ne 7, 3) := by decide +kernel
theorem dX6_stands_22 : decode cX6_stands 22 = .ok (.iconst 3, 1) := by decide +kernel
theorem dX6_stands_23 : decode cX6_stands 23 = .ok (.goto 16, 3) := by decide +kernel
theorem dX6_stands_26 : decode cX6_stands 26 = .ok (.aload_n 0, 1) := by decide +kernel
theorem dX6_stands_27 : decode cX6_stands 27 = .ok (.iload_n 2, 1) := by decide +kernel
theorem dX6_stands_28 : decode cX6_stands 28 = .ok (.invokestatic 40, 3) := by decide +kernel
theorem dX6_stands_31 : decode cX6_stands 31 = .ok (.ifCond .eq 7, 3) := by decide +kernel
theorem dX6_stands_34 : decode cX6_stands 34 = .ok (.iconst 1, 1) := by decide +kernel
theorem dX6_stands_35 : decode cX6_stands 35 = .ok (.goto 4, 3) := by decide +kernel
theorem dX6_stands_38 : decode cX6_stands 38 = .ok (.iconst 2, 1) := by decide +kernel
theorem dX6_stands_39 : decode cX6_stands 39 = .ok (.ireturn, 1) := by decide +kernel
theorem dX6_restart_0 : decode cX6_restart 0 = .ok (.aload_n 0, 1) := by decide +kernel
theorem dX6_restart_1 : decode cX6_restart 1 = .ok (.iload_n 1, 1) := by decide +kernel
theorem dX6_restart_2 : decode cX6_restart 2 = .ok (.invokestatic 91, 3) := by decide +kernel
theorem dX6_restart_5 : decode cX6_restart 5 = .ok (.ifCond .eq 7, 3) := by decide +kernel
theorem dX6_restart_8 : decode cX6_restart 8 = .ok (.iconst 0, 1) := by decide +kernel
theorem dX6_restart_9 : decode cX6_restart 9 = .ok (.goto 4, 3) := by decide +kernel
theorem dX6_restart_12 : decode cX6_restart 12 = .ok (.iconst 1, 1) := by decide +kernel
theorem dX6_restart_13 : decode cX6_restart 13 = .ok (.invokevirtual 74, 3) := by decide +kernel
theorem dX6_restart_16 : decode cX6_restart 16 = .ok (.ifCond .eq 5, 3) := by decide +kernel
theorem dX6_restart_19 : decode cX6_restart 19 = .ok (.iconst 0, 1) := by decide +kernel
theorem dX6_restart_20 : decode cX6_restart 20 = .ok (.ireturn, 1) := by decide +kernel
theorem dX6_restart_21 : decode cX6_restart 21 = .ok (.aload_n 0, 1) := by decide +kernel
theorem dX6_restart_22 : decode cX6_restart 22 = .ok (.invokevirtual 78, 3) := by decide +kernel
theorem dX6_restart_25 : decode cX6_restart 25 = .ok (.aload_n 0, 1) := by decide +kernel
theorem dX6_restart_26 : decode cX6_restart 26 = .ok (.getfield 7, 3) := by decide +kernel
theorem dX6_restart_29 : decode cX6_restart 29 = .ok (.iload_n 1, 1) := by decide +kernel
theorem dX6_restart_30 : decode cX6_restart 30 = .ok (.invokestatic 94, 3) := by decide +kernel
theorem dX6_restart_33 : decode cX6_restart 33 = .ok (.istore_n 2, 1) := by decide +kernel
theorem dX6_restart_34 : decode cX6_restart 34 = .ok (.aload_n 0, 1) := by decide +kernel
theorem dX6_restart_35 : decode cX6_restart 35 = .ok (.getfield 7, 3) := by decide +kernel
theorem dX6_restart_38 : decode cX6_restart 38 = .ok (.iload_n 1, 1) := by decide +kernel
theorem dX6_restart_39 : decode cX6_restart 39 = .ok (.iconst (-1), 1) := by decide +kernel
theorem dX6_restart_40 : decode cX6_restart 40 = .ok (.invokestatic 97, 3) := by decide +kernel
theorem dX6_restart_43 : decode cX6_restart 43 = .ok (.iload_n 2, 1) := by decide +kernel
theorem dX6_restart_44 : decode cX6_restart 44 = .ok (.ireturn, 1) := by decide +kernel
theorem dX6_underHandle_0 : decode cX6_underHandle 0 = .ok (.aload_n 0, 1) := by decide +kernel
theorem dX6_underHandle_1 : decode cX6_underHandle 1 = .ok (.getfield 7, 3) := by decide +kernel
theorem dX6_underHandle_4 : decode cX6_underHandle 4 = .ok (.iload_n 1, 1) := by decide +kernel
theorem dX6_underHandle_5 : decode cX6_underHandle 5 = .ok (.invokestatic 94, 3) := by decide +kernel
theorem dX6_underHandle_8 : decode cX6_underHandle 8 = .ok (.iconst 1, 1) := by decide +kernel
theorem dX6_underHandle_9 : decode cX6_underHandle 9 = .ok (.if_icmp .ne 23, 3) := by decide +kernel
theorem dX6_underHandle_12 : decode cX6_underHandle 12 = .ok (.aload_n 0, 1) := by decide +kernel
theorem dX6_underHandle_13 : decode cX6_underHandle 13 = .ok (.getfield 7, 3) := by decide +kernel
theorem dX6_underHandle_16 : decode cX6_underHandle 16 = .ok (.aload_n 0, 1) := by decide +kernel
theorem dX6_underHandle_17 : decode cX6_underHandle 17 = .ok (.getfield 7, 3) := by decide +kernel
theorem dX6_underHandle_20 : decode cX6_underHandle 20 = .ok (.sipush 410, 3) := by decide +kernel
theorem dX6_underHandle_23 : decode cX6_underHandle 23 = .ok (.iload_n 1, 1) := by decide +kernel
theorem dX6_underHandle_24 : decode cX6_underHandle 24 = .ok (.iadd, 1) := by decide +kernel
theorem dX6_underHandle_25 : decode cX6_underHandle 25 = .ok (.iaload, 1) := by decide +kernel
theorem dX6_underHandle_26 : decode cX6_underHandle 26 = .ok (.invokestatic 101, 3) := by decide +kernel
theorem dX6_underHandle_29 : decode cX6_underHandle 29 = .ok (.goto 4, 3) := by decide +kernel
theorem dX6_underHandle_32 : decode cX6_underHandle 32 = .ok (.iconst (-1), 1) := by decide +kernel
theorem dX6_underHandle_33 : decode cX6_underHandle 33 = .ok (.ireturn, 1) := by decide +kernel
theorem dX6_goOn_0 : decode cX6_goOn 0 = .ok (.aload_n 0, 1) := by decide +kernel
theorem dX6_goOn_1 : decode cX6_goOn 1 = .ok (.iload_n 1, 1) := by decide +kernel
theorem dX6_goOn_2 : decode cX6_goOn 2 = .ok (.invokestatic 91, 3) := by decide +kernel
theorem dX6_goOn_5 : decode cX6_goOn 5 = .ok (.ifCond .eq 7, 3) := by decide +kernel
theorem dX6_goOn_8 : decode cX6_goOn 8 = .ok (.iconst 0, 1) := by decide +kernel
theorem dX6_goOn_9 : decode cX6_goOn 9 = .ok (.goto 4, 3) := by decide +kernel
theorem dX6_goOn_12 : decode cX6_goOn 12 = .ok (.iconst 1, 1) := by decide +kernel
theorem dX6_goOn_13 : decode cX6_goOn 13 = .ok (.invokevirtual 74, 3) := by decide +kernel
theorem dX6_goOn_16 : decode cX6_goOn 16 = .ok (.ifCond .eq 5, 3) := by decide +kernel
theorem dX6_goOn_19 : decode cX6_goOn 19 = .ok (.iconst 0, 1) := by decide +kernel
theorem dX6_goOn_20 : decode cX6_goOn 20 = .ok (.ireturn, 1) := by decide +kernel
theorem dX6_goOn_21 : decode cX6_goOn 21 = .ok (.aload_n 0, 1) := by decide +kernel
theorem dX6_goOn_22 : decode cX6_goOn 22 = .ok (.invokevirtual 78, 3) := by decide +kernel
theorem dX6_goOn_25 : decode cX6_goOn 25 = .ok (.aload_n 0, 1) := by decide +kernel
theorem dX6_goOn_26 : decode cX6_goOn 26 = .ok (.getfield 7, 3) := by decide +kernel
theorem dX6_goOn_29 : decode cX6_goOn 29 = .ok (.iload_n 1, 1) := by decide +kernel
theorem dX6_goOn_30 : decode cX6_goOn 30 = .ok (.aload_n 0, 1) := by decide +kernel
theorem dX6_goOn_31 : decode cX6_goOn 31 = .ok (.getfield 7, 3) := by decide +kernel
theorem dX6_goOn_34 : decode cX6_goOn 34 = .ok (.aload_n 0, 1) := by decide +kernel
theorem dX6_goOn_35 : decode cX6_goOn 35 = .ok (.getfield 7, 3) := by decide +kernel
theorem dX6_goOn_38 : decode cX6_goOn 38 = .ok (.sipush 410, 3) := by decide +kernel
theorem dX6_goOn_41 : decode cX6_goOn 41 = .ok (.iload_n 1, 1) := by decide +kernel
theorem dX6_goOn_42 : decode cX6_goOn 42 = .ok (.iadd, 1) := by decide +kernel
theorem dX6_goOn_43 : decode cX6_goOn 43 = .ok (.iaload, 1) := by decide +kernel
theorem dX6_goOn_44 : decode cX6_goOn 44 = .ok (.invokestatic 104, 3) := by decide +kernel
theorem dX6_goOn_47 : decode cX6_goOn 47 = .ok (.invokestatic 97, 3) := by decide +kernel
theorem dX6_goOn_50 : decode cX6_goOn 50 = .ok (.aload_n 0, 1) := by decide +kernel
theorem dX6_goOn_51 : decode cX6_goOn 51 = .ok (.iload_n 1, 1) := by decide +kernel
theorem dX6_goOn_52 : decode cX6_goOn 52 = .ok (.invokevirtual 107, 3) := by decide +kernel
theorem dX6_goOn_55 : decode cX6_goOn 55 = .ok (.ireturn, 1) := by decide +kernel
theorem dX6_take_0 : decode cX6_take 0 = .ok (.aload_n 0, 1) := by decide +kernel
theorem dX6_take_1 : decode cX6_take 1 = .ok (.iload_n 1, 1) := by decide +kernel
theorem dX6_take_2 : decode cX6_take 2 = .ok (.invokestatic 91, 3) := by decide +kernel
theorem dX6_take_5 : decode cX6_take 5 = .ok (.ifCond .ne 7, 3) := by decide +kernel
theorem dX6_take_8 : decode cX6_take 8 = .ok (.iconst 1, 1) := by decide +kernel
theorem dX6_take_9 : decode cX6_take 9 = .ok (.goto 20, 3) := by decide +kernel
theorem dX6_take_12 : decode cX6_take 12 = .ok (.aload_n 0, 1) := by decide +kernel
theorem dX6_take_13 : decode cX6_take 13 = .ok (.getfield 7, 3) := by decide +kernel
theorem dX6_take_16 : decode cX6_take 16 = .ok (.iload_n 1, 1) := by decide +kernel
theorem dX6_take_17 : decode cX6_take 17 = .ok (.invokestatic 94, 3) := by decide +kernel
theorem dX6_take_20 : decode cX6_take 20 = .ok (.iconst 1, 1) := by decide +kernel
theorem dX6_take_21 : decode cX6_take 21 = .ok (.if_icmp .eq 7, 3) := by decide +kernel
theorem dX6_take_24 : decode cX6_take 24 = .ok (.iconst 2, 1) := by decide +kernel
theorem dX6_take_25 : decode cX6_take 25 = .ok (.goto 4, 3) := by decide +kernel
theorem dX6_take_28 : decode cX6_take 28 = .ok (.iconst 0, 1) := by decide +kernel
theorem dX6_take_29 : decode cX6_take 29 = .ok (.invokevirtual 74, 3) := by decide +kernel
theorem dX6_take_32 : decode cX6_take 32 = .ok (.ifCond .eq 5, 3) := by decide +kernel
theorem dX6_take_35 : decode cX6_take 35 = .ok (.iconst 0, 1) := by decide +kernel
theorem dX6_take_36 : decode cX6_take 36 = .ok (.ireturn, 1) := by decide +kernel
theorem dX6_take_37 : decode cX6_take 37 = .ok (.aload_n 0, 1) := by decide +kernel
theorem dX6_take_38 : decode cX6_take 38 = .ok (.invokevirtual 78, 3) := by decide +kernel
theorem dX6_take_41 : decode cX6_take 41 = .ok (.aload_n 0, 1) := by decide +kernel
theorem dX6_take_42 : decode cX6_take 42 = .ok (.getfield 7, 3) := by decide +kernel
theorem dX6_take_45 : decode cX6_take 45 = .ok (.sipush 410, 3) := by decide +kernel
theorem dX6_take_48 : decode cX6_take 48 = .ok (.iload_n 1, 1) := by decide +kernel
theorem dX6_take_49 : decode cX6_take 49 = .ok (.iadd, 1) := by decide +kernel
theorem dX6_take_50 : decode cX6_take 50 = .ok (.iaload, 1) := by decide +kernel
theorem dX6_take_51 : decode cX6_take 51 = .ok (.istore_n 2, 1) := by decide +kernel
theorem dX6_take_52 : decode cX6_take 52 = .ok (.aload_n 0, 1) := by decide +kernel
theorem dX6_take_53 : decode cX6_take 53 = .ok (.getfield 7, 3) := by decide +kernel
theorem dX6_take_56 : decode cX6_take 56 = .ok (.iload_n 2, 1) := by decide +kernel
theorem dX6_take_57 : decode cX6_take 57 = .ok (.iconst 2, 1) := by decide +kernel
theorem dX6_take_58 : decode cX6_take 58 = .ok (.invokestatic 36, 3) := by decide +kernel
theorem dX6_take_61 : decode cX6_take 61 = .ok (.istore_n 3, 1) := by decide +kernel
theorem dX6_take_62 : decode cX6_take 62 = .ok (.aload_n 0, 1) := by decide +kernel
theorem dX6_take_63 : decode cX6_take 63 = .ok (.getfield 7, 3) := by decide +kernel
theorem dX6_take_66 : decode cX6_take 66 = .ok (.iload_n 2, 1) := by decide +kernel
theorem dX6_take_67 : decode cX6_take 67 = .ok (.invokestatic 88, 3) := by decide +kernel
theorem dX6_take_70 : decode cX6_take 70 = .ok (.ifCond .eq 7, 3) := by decide +kernel
theorem dX6_take_73 : decode cX6_take 73 = .ok (.iload_n 3, 1) := by decide +kernel
theorem dX6_take_74 : decode cX6_take 74 = .ok (.goto 4, 3) := by decide +kernel
theorem dX6_take_77 : decode cX6_take 77 = .ok (.iload_n 3, 1) := by decide +kernel
theorem dX6_take_78 : decode cX6_take 78 = .ok (.ireturn, 1) := by decide +kernel
theorem dX6_firesOne_0 : decode cX6_firesOne 0 = .ok (.aload_n 0, 1) := by decide +kernel
theorem dX6_firesOne_1 : decode cX6_firesOne 1 = .ok (.bipush 70, 2) := by decide +kernel
theorem dX6_firesOne_3 : decode cX6_firesOne 3 = .ok (.iconst 5, 1) := by decide +kernel
theorem dX6_firesOne_4 : decode cX6_firesOne 4 = .ok (.iload_n 1, 1) := by decide +kernel
theorem dX6_firesOne_5 : decode cX6_firesOne 5 = .ok (.imul, 1) := by decide +kernel
theorem dX6_firesOne_6 : decode cX6_firesOne 6 = .ok (.iadd, 1) := by decide +kernel
theorem dX6_firesOne_7 : decode cX6_firesOne 7 = .ok (.iconst 4, 1) := by decide +kernel
theorem dX6_firesOne_8 : decode cX6_firesOne 8 = .ok (.iadd, 1) := by decide +kernel
theorem dX6_firesOne_9 : decode cX6_firesOne 9 = .ok (.dup2, 1) := by decide +kernel
theorem dX6_firesOne_10 : decode cX6_firesOne 10 = .ok (.iaload, 1) := by decide +kernel
theorem dX6_firesOne_11 : decode cX6_firesOne 11 = .ok (.iconst 1, 1) := by decide +kernel
theorem dX6_firesOne_12 : decode cX6_firesOne 12 = .ok (.iadd, 1) := by decide +kernel
theorem dX6_firesOne_13 : decode cX6_firesOne 13 = .ok (.iastore, 1) := by decide +kernel
theorem dX6_firesOne_14 : decode cX6_firesOne 14 = .ok (.aload_n 0, 1) := by decide +kernel
theorem dX6_firesOne_15 : decode cX6_firesOne 15 = .ok (.iload_n 1, 1) := by decide +kernel
theorem dX6_firesOne_16 : decode cX6_firesOne 16 = .ok (.iconst 3, 1) := by decide +kernel
theorem dX6_firesOne_17 : decode cX6_firesOne 17 = .ok (.invokestatic 36, 3) := by decide +kernel
theorem dX6_firesOne_20 : decode cX6_firesOne 20 = .ok (.iconst 1, 1) := by decide +kernel
theorem dX6_firesOne_21 : decode cX6_firesOne 21 = .ok (.if_icmp .ne 19, 3) := by decide +kernel
theorem dX6_firesOne_24 : decode cX6_firesOne 24 = .ok (.aload_n 0, 1) := by decide +kernel
theorem dX6_firesOne_25 : decode cX6_firesOne 25 = .ok (.iload_n 1, 1) := by decide +kernel
theorem dX6_firesOne_26 : decode cX6_firesOne 26 = .ok (.invokestatic 88, 3) := by decide +kernel
theorem dX6_firesOne_29 : decode cX6_firesOne 29 = .ok (.ifCond .eq 9, 3) := by decide +kernel
theorem dX6_firesOne_32 : decode cX6_firesOne 32 = .ok (.iload_n 1, 1) := by decide +kernel
theorem dX6_firesOne_33 : decode cX6_firesOne 33 = .ok (.iconst 1, 1) := by decide +kernel
theorem dX6_firesOne_34 : decode cX6_firesOne 34 = .ok (.iadd, 1) := by decide +kernel
theorem dX6_firesOne_35 : decode cX6_firesOne 35 = .ok (.goto 4, 3) := by decide +kernel
theorem dX6_firesOne_38 : decode cX6_firesOne 38 = .ok (.iload_n 1, 1) := by decide +kernel
theorem dX6_firesOne_39 : decode cX6_firesOne 39 = .ok (.ireturn, 1) := by decide +kernel
theorem dX6_firesOne_40 : decode cX6_firesOne 40 = .ok (.aload_n 0, 1) := by decide +kernel
theorem dX6_firesOne_41 : decode cX6_firesOne 41 = .ok (.iload_n 1, 1) := by decide +kernel
theorem dX6_firesOne_42 : decode cX6_firesOne 42 = .ok (.iconst 3, 1) := by decide +kernel
theorem dX6_firesOne_43 : decode cX6_firesOne 43 = .ok (.invokestatic 36, 3) := by decide +kernel
theorem dX6_firesOne_46 : decode cX6_firesOne 46 = .ok (.iconst 2, 1) := by decide +kernel
theorem dX6_firesOne_47 : decode cX6_firesOne 47 = .ok (.if_icmp .ne 26, 3) := by decide +kernel
theorem dX6_firesOne_50 : decode cX6_firesOne 50 = .ok (.aload_n 0, 1) := by decide +kernel
theorem dX6_firesOne_51 : decode cX6_firesOne 51 = .ok (.aload_n 0, 1) := by decide +kernel
theorem dX6_firesOne_52 : decode cX6_firesOne 52 = .ok (.iconst 1, 1) := by decide +kernel
theorem dX6_firesOne_53 : decode cX6_firesOne 53 = .ok (.iaload, 1) := by decide +kernel
theorem dX6_firesOne_54 : decode cX6_firesOne 54 = .ok (.aload_n 0, 1) := by decide +kernel
theorem dX6_firesOne_55 : decode cX6_firesOne 55 = .ok (.iload_n 1, 1) := by decide +kernel
theorem dX6_firesOne_56 : decode cX6_firesOne 56 = .ok (.iconst 2, 1) := by decide +kernel
theorem dX6_firesOne_57 : decode cX6_firesOne 57 = .ok (.invokestatic 36, 3) := by decide +kernel
theorem dX6_firesOne_60 : decode cX6_firesOne 60 = .ok (.aload_n 0, 1) := by decide +kernel
theorem dX6_firesOne_61 : decode cX6_firesOne 61 = .ok (.iload_n 1, 1) := by decide +kernel
theorem dX6_firesOne_62 : decode cX6_firesOne 62 = .ok (.iconst 1, 1) := by decide +kernel
theorem dX6_firesOne_63 : decode cX6_firesOne 63 = .ok (.invokestatic 36, 3) := by decide +kernel
theorem dX6_firesOne_66 : decode cX6_firesOne 66 = .ok (.iconst 0, 1) := by decide +kernel
theorem dX6_firesOne_67 : decode cX6_firesOne 67 = .ok (.invokestatic 81, 3) := by decide +kernel
theorem dX6_firesOne_70 : decode cX6_firesOne 70 = .ok (.goto 4, 3) := by decide +kernel
theorem dX6_firesOne_73 : decode cX6_firesOne 73 = .ok (.iconst 0, 1) := by decide +kernel
theorem dX6_firesOne_74 : decode cX6_firesOne 74 = .ok (.istore_n 2, 1) := by decide +kernel
theorem dX6_firesOne_75 : decode cX6_firesOne 75 = .ok (.iload_n 2, 1) := by decide +kernel
theorem dX6_firesOne_76 : decode cX6_firesOne 76 = .ok (.iconst (-1), 1) := by decide +kernel
theorem dX6_firesOne_77 : decode cX6_firesOne 77 = .ok (.if_icmp .ge 7, 3) := by decide +kernel
theorem dX6_firesOne_80 : decode cX6_firesOne 80 = .ok (.iload_n 1, 1) := by decide +kernel
theorem dX6_firesOne_81 : decode cX6_firesOne 81 = .ok (.goto 6, 3) := by decide +kernel
theorem dX6_firesOne_84 : decode cX6_firesOne 84 = .ok (.iload_n 1, 1) := by decide +kernel
theorem dX6_firesOne_85 : decode cX6_firesOne 85 = .ok (.iconst 1, 1) := by decide +kernel
theorem dX6_firesOne_86 : decode cX6_firesOne 86 = .ok (.iadd, 1) := by decide +kernel
theorem dX6_firesOne_87 : decode cX6_firesOne 87 = .ok (.ireturn, 1) := by decide +kernel
theorem dX6_fires_0 : decode cX6_fires 0 = .ok (.aload_n 0, 1) := by decide +kernel
theorem dX6_fires_1 : decode cX6_fires 1 = .ok (.invokestatic 111, 3) := by decide +kernel
theorem dX6_fires_4 : decode cX6_fires 4 = .ok (.istore_n 1, 1) := by decide +kernel
theorem dX6_fires_5 : decode cX6_fires 5 = .ok (.iconst 0, 1) := by decide +kernel
theorem dX6_fires_6 : decode cX6_fires 6 = .ok (.istore_n 2, 1) := by decide +kernel
theorem dX6_fires_7 : decode cX6_fires 7 = .ok (.iconst 0, 1) := by decide +kernel
theorem dX6_fires_8 : decode cX6_fires 8 = .ok (.istore_n 3, 1) := by decide +kernel
theorem dX6_fires_9 : decode cX6_fires 9 = .ok (.iload_n 1, 1) := by decide +kernel
theorem dX6_fires_10 : decode cX6_fires 10 = .ok (.ifCond .le 38, 3) := by decide +kernel
theorem dX6_fires_13 : decode cX6_fires 13 = .ok (.aload_n 0, 1) := by decide +kernel
theorem dX6_fires_14 : decode cX6_fires 14 = .ok (.iload_n 3, 1) := by decide +kernel
theorem dX6_fires_15 : decode cX6_fires 15 = .ok (.invokestatic 40, 3) := by decide +kernel
theorem dX6_fires_18 : decode cX6_fires 18 = .ok (.ifCond .eq 24, 3) := by decide +kernel
theorem dX6_fires_21 : decode cX6_fires 21 = .ok (.iload_n 2, 1) := by decide +kernel
theorem dX6_fires_22 : decode cX6_fires 22 = .ok (.aload_n 0, 1) := by decide +kernel
theorem dX6_fires_23 : decode cX6_fires 23 = .ok (.iload_n 3, 1) := by decide +kernel
theorem dX6_fires_24 : decode cX6_fires 24 = .ok (.iconst 2, 1) := by decide +kernel
theorem dX6_fires_25 : decode cX6_fires 25 = .ok (.invokestatic 36, 3) := by decide +kernel
theorem dX6_fires_28 : decode cX6_fires 28 = .ok (.iadd, 1) := by decide +kernel
theorem dX6_fires_29 : decode cX6_fires 29 = .ok (.istore_n 2, 1) := by decide +kernel
theorem dX6_fires_30 : decode cX6_fires 30 = .ok (.aload_n 0, 1) := by decide +kernel
theorem dX6_fires_31 : decode cX6_fires 31 = .ok (.iload_n 3, 1) := by decide +kernel
theorem dX6_fires_32 : decode cX6_fires 32 = .ok (.invokestatic 115, 3) := by decide +kernel
theorem dX6_fires_35 : decode cX6_fires 35 = .ok (.istore_n 3, 1) := by decide +kernel
theorem dX6_fires_36 : decode cX6_fires 36 = .ok (.iinc 1 (-1), 3) := by decide +kernel
theorem dX6_fires_39 : decode cX6_fires 39 = .ok (.goto (-30), 3) := by decide +kernel
theorem dX6_fires_42 : decode cX6_fires 42 = .ok (.iinc 3 1, 3) := by decide +kernel
theorem dX6_fires_45 : decode cX6_fires 45 = .ok (.goto (-36), 3) := by decide +kernel
theorem dX6_fires_48 : decode cX6_fires 48 = .ok (.aload_n 0, 1) := by decide +kernel
theorem dX6_fires_49 : decode cX6_fires 49 = .ok (.iconst 2, 1) := by decide +kernel
theorem dX6_fires_50 : decode cX6_fires 50 = .ok (.dup2, 1) := by decide +kernel
theorem dX6_fires_51 : decode cX6_fires 51 = .ok (.iaload, 1) := by decide +kernel
theorem dX6_fires_52 : decode cX6_fires 52 = .ok (.iconst 1, 1) := by decide +kernel
theorem dX6_fires_53 : decode cX6_fires 53 = .ok (.iadd, 1) := by decide +kernel
theorem dX6_fires_54 : decode cX6_fires 54 = .ok (.iastore, 1) := by decide +kernel
theorem dX6_fires_55 : decode cX6_fires 55 = .ok (.iload_n 2, 1) := by decide +kernel
theorem dX6_fires_56 : decode cX6_fires 56 = .ok (.ireturn, 1) := by decide +kernel
theorem dX6_fire_0 : decode cX6_fire 0 = .ok (.aload_n 0, 1) := by decide +kernel
theorem dX6_fire_1 : decode cX6_fire 1 = .ok (.iconst 0, 1) := by decide +kernel
theorem dX6_fire_2 : decode cX6_fire 2 = .ok (.putfield 25, 3) := by decide +kernel
theorem dX6_fire_5 : decode cX6_fire 5 = .ok (.aload_n 0, 1) := by decide +kernel
theorem dX6_fire_6 : decode cX6_fire 6 = .ok (.invokevirtual 78, 3) := by decide +kernel
theorem dX6_fire_9 : decode cX6_fire 9 = .ok (.aload_n 0, 1) := by decide +kernel
theorem dX6_fire_10 : decode cX6_fire 10 = .ok (.getfield 7, 3) := by decide +kernel
theorem dX6_fire_13 : decode cX6_fire 13 = .ok (.invokestatic 118, 3) := by decide +kernel
theorem dX6_fire_16 : decode cX6_fire 16 = .ok (.ireturn, 1) := by decide +kernel
theorem dX6_lowestFrom_0 : decode cX6_lowestFrom 0 = .ok (.iconst (-1), 1) := by decide +kernel
theorem dX6_lowestFrom_1 : decode cX6_lowestFrom 1 = .ok (.istore_n 2, 1) := by decide +kernel
theorem dX6_lowestFrom_2 : decode cX6_lowestFrom 2 = .ok (.iconst 0, 1) := by decide +kernel
theorem dX6_lowestFrom_3 : decode cX6_lowestFrom 3 = .ok (.istore_n 3, 1) := by decide +kernel
theorem dX6_lowestFrom_4 : decode cX6_lowestFrom 4 = .ok (.iload_n 3, 1) := by decide +kernel
theorem dX6_lowestFrom_5 : decode cX6_lowestFrom 5 = .ok (.aload_n 0, 1) := by decide +kernel
theorem dX6_lowestFrom_6 : decode cX6_lowestFrom 6 = .ok (.iconst 1, 1) := by decide +kernel
theorem dX6_lowestFrom_7 : decode cX6_lowestFrom 7 = .ok (.iaload, 1) := by decide +kernel
theorem dX6_lowestFrom_8 : decode cX6_lowestFrom 8 = .ok (.if_icmp .ge 65, 3) := by decide +kernel
theorem dX6_lowestFrom_11 : decode cX6_lowestFrom 11 = .ok (.aload_n 0, 1) := by decide +kernel
theorem dX6_lowestFrom_12 : decode cX6_lowestFrom 12 = .ok (.iload_n 3, 1) := by decide +kernel
theorem dX6_lowestFrom_13 : decode cX6_lowestFrom 13 = .ok (.invokestatic 40, 3) := by decide +kernel
theorem dX6_lowestFrom_16 : decode cX6_lowestFrom 16 = .ok (.ifCond .eq 17, 3) := by decide +kernel
theorem dX6_lowestFrom_19 : decode cX6_lowestFrom 19 = .ok (.aload_n 0, 1) := by decide +kernel
theorem dX6_lowestFrom_20 : decode cX6_lowestFrom 20 = .ok (.iload_n 3, 1) := by decide +kernel
theorem dX6_lowestFrom_21 : decode cX6_lowestFrom 21 = .ok (.iconst 0, 1) := by decide +kernel
theorem dX6_lowestFrom_22 : decode cX6_lowestFrom 22 = .ok (.invokestatic 36, 3) := by decide +kernel
theorem dX6_lowestFrom_25 : decode cX6_lowestFrom 25 = .ok (.iload_n 1, 1) := by decide +kernel
theorem dX6_lowestFrom_26 : decode cX6_lowestFrom 26 = .ok (.if_icmp .lt 7, 3) := by decide +kernel
theorem dX6_lowestFrom_29 : decode cX6_lowestFrom 29 = .ok (.iconst 1, 1) := by decide +kernel
theorem dX6_lowestFrom_30 : decode cX6_lowestFrom 30 = .ok (.goto 4, 3) := by decide +kernel
theorem dX6_lowestFrom_33 : decode cX6_lowestFrom 33 = .ok (.iconst 0, 1) := by decide +kernel
theorem dX6_lowestFrom_34 : decode cX6_lowestFrom 34 = .ok (.istore 4, 2) := by decide +kernel
theorem dX6_lowestFrom_36 : decode cX6_lowestFrom 36 = .ok (.iload 4, 2) := by decide +kernel
theorem dX6_lowestFrom_38 : decode cX6_lowestFrom 38 = .ok (.ifCond .eq 27, 3) := by decide +kernel
theorem dX6_lowestFrom_41 : decode cX6_lowestFrom 41 = .ok (.iload_n 2, 1) := by decide +kernel
theorem dX6_lowestFrom_42 : decode cX6_lowestFrom 42 = .ok (.iconst (-1), 1) := by decide +kernel
theorem dX6_lowestFrom_43 : decode cX6_lowestFrom 43 = .ok (.if_icmp .eq 18, 3) := by decide +kernel
theorem dX6_lowestFrom_46 : decode cX6_lowestFrom 46 = .ok (.aload_n 0, 1) := by decide +kernel
theorem dX6_lowestFrom_47 : decode cX6_lowestFrom 47 = .ok (.iload_n 3, 1) := by decide +kernel
theorem dX6_lowestFrom_48 : decode cX6_lowestFrom 48 = .ok (.iconst 0, 1) := by decide +kernel
theorem dX6_lowestFrom_49 : decode cX6_lowestFrom 49 = .ok (.invokestatic 36, 3) := by decide +kernel
theorem dX6_lowestFrom_52 : decode cX6_lowestFrom 52 = .ok (.aload_n 0, 1) := by decide +kernel
theorem dX6_lowestFrom_53 : decode cX6_lowestFrom 53 = .ok (.iload_n 2, 1) := by decide +kernel
theorem dX6_lowestFrom_54 : decode cX6_lowestFrom 54 = .ok (.iconst 0, 1) := by decide +kernel
theorem dX6_lowestFrom_55 : decode cX6_lowestFrom 55 = .ok (.invokestatic 36, 3) := by decide +kernel
theorem dX6_lowestFrom_58 : decode cX6_lowestFrom 58 = .ok (.if_icmp .ge 7, 3) := by decide +kernel
theorem dX6_lowestFrom_61 : decode cX6_lowestFrom 61 = .ok (.iload_n 3, 1) := by decide +kernel
theorem dX6_lowestFrom_62 : decode cX6_lowestFrom 62 = .ok (.goto 4, 3) := by decide +kernel
theorem dX6_lowestFrom_65 : decode cX6_lowestFrom 65 = .ok (.iload_n 2, 1) := by decide +kernel
theorem dX6_lowestFrom_66 : decode cX6_lowestFrom 66 = .ok (.istore_n 2, 1) := by decide +kernel
theorem dX6_lowestFrom_67 : decode cX6_lowestFrom 67 = .ok (.iinc 3 1, 3) := by decide +kernel
theorem dX6_lowestFrom_70 : decode cX6_lowestFrom 70 = .ok (.goto (-66), 3) := by decide +kernel
theorem dX6_lowestFrom_73 : decode cX6_lowestFrom 73 = .ok (.iload_n 2, 1) := by decide +kernel
theorem dX6_lowestFrom_74 : decode cX6_lowestFrom 74 = .ok (.ireturn, 1) := by decide +kernel
theorem dX6_together_0 : decode cX6_together 0 = .ok (.aload_n 0, 1) := by decide +kernel
theorem dX6_together_1 : decode cX6_together 1 = .ok (.iconst 0, 1) := by decide +kernel
theorem dX6_together_2 : decode cX6_together 2 = .ok (.putfield 25, 3) := by decide +kernel
theorem dX6_together_5 : decode cX6_together 5 = .ok (.aload_n 0, 1) := by decide +kernel
theorem dX6_together_6 : decode cX6_together 6 = .ok (.invokevirtual 78, 3) := by decide +kernel
theorem dX6_together_9 : decode cX6_together 9 = .ok (.iconst 0, 1) := by decide +kernel
theorem dX6_together_10 : decode cX6_together 10 = .ok (.istore_n 1, 1) := by decide +kernel
theorem dX6_together_11 : decode cX6_together 11 = .ok (.iconst 0, 1) := by decide +kernel
theorem dX6_together_12 : decode cX6_together 12 = .ok (.istore_n 2, 1) := by decide +kernel
theorem dX6_together_13 : decode cX6_together 13 = .ok (.aload_n 0, 1) := by decide +kernel
theorem dX6_together_14 : decode cX6_together 14 = .ok (.getfield 7, 3) := by decide +kernel
theorem dX6_together_17 : decode cX6_together 17 = .ok (.iconst 0, 1) := by decide +kernel
theorem dX6_together_18 : decode cX6_together 18 = .ok (.invokestatic 121, 3) := by decide +kernel
theorem dX6_together_21 : decode cX6_together 21 = .ok (.istore_n 3, 1) := by decide +kernel
theorem dX6_together_22 : decode cX6_together 22 = .ok (.iload_n 3, 1) := by decide +kernel
theorem dX6_together_23 : decode cX6_together 23 = .ok (.iconst (-1), 1) := by decide +kernel
theorem dX6_together_24 : decode cX6_together 24 = .ok (.if_icmp .eq 70, 3) := by decide +kernel
theorem dX6_together_27 : decode cX6_together 27 = .ok (.aload_n 0, 1) := by decide +kernel
theorem dX6_together_28 : decode cX6_together 28 = .ok (.getfield 7, 3) := by decide +kernel
theorem dX6_together_31 : decode cX6_together 31 = .ok (.iload_n 3, 1) := by decide +kernel
theorem dX6_together_32 : decode cX6_together 32 = .ok (.iconst 0, 1) := by decide +kernel
theorem dX6_together_33 : decode cX6_together 33 = .ok (.invokestatic 36, 3) := by decide +kernel
theorem dX6_together_36 : decode cX6_together 36 = .ok (.istore 4, 2) := by decide +kernel
theorem dX6_together_38 : decode cX6_together 38 = .ok (.iload 4, 2) := by decide +kernel
theorem dX6_together_40 : decode cX6_together 40 = .ok (.iload_n 2, 1) := by decide +kernel
theorem dX6_together_41 : decode cX6_together 41 = .ok (.if_icmp .eq 29, 3) := by decide +kernel
theorem dX6_together_44 : decode cX6_together 44 = .ok (.aload_n 0, 1) := by decide +kernel
theorem dX6_together_45 : decode cX6_together 45 = .ok (.getfield 7, 3) := by decide +kernel
theorem dX6_together_48 : decode cX6_together 48 = .ok (.iload 4, 2) := by decide +kernel
theorem dX6_together_50 : decode cX6_together 50 = .ok (.invokestatic 61, 3) := by decide +kernel
theorem dX6_together_53 : decode cX6_together 53 = .ok (.aload_n 0, 1) := by decide +kernel
theorem dX6_together_54 : decode cX6_together 54 = .ok (.getfield 7, 3) := by decide +kernel
theorem dX6_together_57 : decode cX6_together 57 = .ok (.bipush 70, 2) := by decide +kernel
theorem dX6_together_59 : decode cX6_together 59 = .ok (.iconst 5, 1) := by decide +kernel
theorem dX6_together_60 : decode cX6_together 60 = .ok (.iload_n 3, 1) := by decide +kernel
theorem dX6_together_61 : decode cX6_together 61 = .ok (.imul, 1) := by decide +kernel
theorem dX6_together_62 : decode cX6_together 62 = .ok (.iadd, 1) := by decide +kernel
theorem dX6_together_63 : decode cX6_together 63 = .ok (.iconst 0, 1) := by decide +kernel
theorem dX6_together_64 : decode cX6_together 64 = .ok (.iadd, 1) := by decide +kernel
theorem dX6_together_65 : decode cX6_together 65 = .ok (.iload_n 2, 1) := by decide +kernel
theorem dX6_together_66 : decode cX6_together 66 = .ok (.iastore, 1) := by decide +kernel
theorem dX6_together_67 : decode cX6_together 67 = .ok (.iinc 1 1, 3) := by decide +kernel
theorem dX6_together_70 : decode cX6_together 70 = .ok (.iload_n 2, 1) := by decide +kernel
theorem dX6_together_71 : decode cX6_together 71 = .ok (.aload_n 0, 1) := by decide +kernel
theorem dX6_together_72 : decode cX6_together 72 = .ok (.getfield 7, 3) := by decide +kernel
theorem dX6_together_75 : decode cX6_together 75 = .ok (.iload_n 3, 1) := by decide +kernel
theorem dX6_together_76 : decode cX6_together 76 = .ok (.iconst 1, 1) := by decide +kernel
theorem dX6_together_77 : decode cX6_together 77 = .ok (.invokestatic 36, 3) := by decide +kernel
theorem dX6_together_80 : decode cX6_together 80 = .ok (.iadd, 1) := by decide +kernel
theorem dX6_together_81 : decode cX6_together 81 = .ok (.istore_n 2, 1) := by decide +kernel
theorem dX6_together_82 : decode cX6_together 82 = .ok (.aload_n 0, 1) := by decide +kernel
theorem dX6_together_83 : decode cX6_together 83 = .ok (.getfield 7, 3) := by decide +kernel
theorem dX6_together_86 : decode cX6_together 86 = .ok (.iload_n 2, 1) := by decide +kernel
theorem dX6_together_87 : decode cX6_together 87 = .ok (.invokestatic 121, 3) := by decide +kernel
theorem dX6_together_90 : decode cX6_together 90 = .ok (.istore_n 3, 1) := by decide +kernel
theorem dX6_together_91 : decode cX6_together 91 = .ok (.goto (-69), 3) := by decide +kernel
theorem dX6_together_94 : decode cX6_together 94 = .ok (.aload_n 0, 1) := by decide +kernel
theorem dX6_together_95 : decode cX6_together 95 = .ok (.getfield 7, 3) := by decide +kernel
theorem dX6_together_98 : decode cX6_together 98 = .ok (.iconst 5, 1) := by decide +kernel
theorem dX6_together_99 : decode cX6_together 99 = .ok (.dup2, 1) := by decide +kernel
theorem dX6_together_100 : decode cX6_together 100 = .ok (.iaload, 1) := by decide +kernel
theorem dX6_together_101 : decode cX6_together 101 = .ok (.iload_n 1, 1) := by decide +kernel
theorem dX6_together_102 : decode cX6_together 102 = .ok (.iadd, 1) := by decide +kernel
theorem dX6_together_103 : decode cX6_together 103 = .ok (.iastore, 1) := by decide +kernel
theorem dX6_together_104 : decode cX6_together 104 = .ok (.iload_n 1, 1) := by decide +kernel
theorem dX6_together_105 : decode cX6_together 105 = .ok (.ireturn, 1) := by decide +kernel
theorem dX6_append_0 : decode cX6_append 0 = .ok (.aload_n 0, 1) := by decide +kernel
theorem dX6_append_1 : decode cX6_append 1 = .ok (.iload_n 1, 1) := by decide +kernel
theorem dX6_append_2 : decode cX6_append 2 = .ok (.bipush 33, 2) := by decide +kernel
theorem dX6_append_4 : decode cX6_append 4 = .ok (.bipush 126, 2) := by decide +kernel
theorem dX6_append_6 : decode cX6_append 6 = .ok (.invokestatic 44, 3) := by decide +kernel
theorem dX6_append_9 : decode cX6_append 9 = .ok (.ifCond .ne 7, 3) := by decide +kernel
theorem dX6_append_12 : decode cX6_append 12 = .ok (.iconst 1, 1) := by decide +kernel
theorem dX6_append_13 : decode cX6_append 13 = .ok (.goto 17, 3) := by decide +kernel
theorem dX6_append_16 : decode cX6_append 16 = .ok (.aload_n 0, 1) := by decide +kernel
theorem dX6_append_17 : decode cX6_append 17 = .ok (.getfield 124, 3) := by decide +kernel
theorem dX6_append_20 : decode cX6_append 20 = .ok (.bipush 60, 2) := by decide +kernel
theorem dX6_append_22 : decode cX6_append 22 = .ok (.if_icmp .ne 7, 3) := by decide +kernel
theorem dX6_append_25 : decode cX6_append 25 = .ok (.iconst 2, 1) := by decide +kernel
theorem dX6_append_26 : decode cX6_append 26 = .ok (.goto 4, 3) := by decide +kernel
theorem dX6_append_29 : decode cX6_append 29 = .ok (.iconst 0, 1) := by decide +kernel
theorem dX6_append_30 : decode cX6_append 30 = .ok (.invokevirtual 74, 3) := by decide +kernel
theorem dX6_append_33 : decode cX6_append 33 = .ok (.ifCond .eq 5, 3) := by decide +kernel
theorem dX6_append_36 : decode cX6_append 36 = .ok (.iconst 0, 1) := by decide +kernel
theorem dX6_append_37 : decode cX6_append 37 = .ok (.ireturn, 1) := by decide +kernel
theorem dX6_append_38 : decode cX6_append 38 = .ok (.aload_n 0, 1) := by decide +kernel
theorem dX6_append_39 : decode cX6_append 39 = .ok (.getfield 19, 3) := by decide +kernel
theorem dX6_append_42 : decode cX6_append 42 = .ok (.aload_n 0, 1) := by decide +kernel
theorem dX6_append_43 : decode cX6_append 43 = .ok (.getfield 124, 3) := by decide +kernel
theorem dX6_append_46 : decode cX6_append 46 = .ok (.iload_n 1, 1) := by decide +kernel
theorem dX6_append_47 : decode cX6_append 47 = .ok (.iastore, 1) := by decide +kernel
theorem dX6_append_48 : decode cX6_append 48 = .ok (.aload_n 0, 1) := by decide +kernel
theorem dX6_append_49 : decode cX6_append 49 = .ok (.dup, 1) := by decide +kernel
theorem dX6_append_50 : decode cX6_append 50 = .ok (.getfield 124, 3) := by decide +kernel
theorem dX6_append_53 : decode cX6_append 53 = .ok (.iconst 1, 1) := by decide +kernel
theorem dX6_append_54 : decode cX6_append 54 = .ok (.iadd, 1) := by decide +kernel
theorem dX6_append_55 : decode cX6_append 55 = .ok (.putfield 124, 3) := by decide +kernel
theorem dX6_append_58 : decode cX6_append 58 = .ok (.aload_n 0, 1) := by decide +kernel
theorem dX6_append_59 : decode cX6_append 59 = .ok (.getfield 124, 3) := by decide +kernel
theorem dX6_append_62 : decode cX6_append 62 = .ok (.ireturn, 1) := by decide +kernel
theorem dX6_clearBuffer_0 : decode cX6_clearBuffer 0 = .ok (.aload_n 0, 1) := by decide +kernel
theorem dX6_clearBuffer_1 : decode cX6_clearBuffer 1 = .ok (.iconst 0, 1) := by decide +kernel
theorem dX6_clearBuffer_2 : decode cX6_clearBuffer 2 = .ok (.putfield 25, 3) := by decide +kernel
theorem dX6_clearBuffer_5 : decode cX6_clearBuffer 5 = .ok (.aload_n 0, 1) := by decide +kernel
theorem dX6_clearBuffer_6 : decode cX6_clearBuffer 6 = .ok (.getfield 124, 3) := by decide +kernel
theorem dX6_clearBuffer_9 : decode cX6_clearBuffer 9 = .ok (.istore_n 1, 1) := by decide +kernel
theorem dX6_clearBuffer_10 : decode cX6_clearBuffer 10 = .ok (.aload_n 0, 1) := by decide +kernel
theorem dX6_clearBuffer_11 : decode cX6_clearBuffer 11 = .ok (.iconst 0, 1) := by decide +kernel
theorem dX6_clearBuffer_12 : decode cX6_clearBuffer 12 = .ok (.putfield 124, 3) := by decide +kernel
theorem dX6_clearBuffer_15 : decode cX6_clearBuffer 15 = .ok (.iload_n 1, 1) := by decide +kernel
theorem dX6_clearBuffer_16 : decode cX6_clearBuffer 16 = .ok (.ireturn, 1) := by decide +kernel
theorem dX6_sees_0 : decode cX6_sees 0 = .ok (.aload_n 0, 1) := by decide +kernel
theorem dX6_sees_1 : decode cX6_sees 1 = .ok (.getfield 127, 3) := by decide +kernel
theorem dX6_sees_4 : decode cX6_sees 4 = .ok (.aload_n 0, 1) := by decide +kernel
theorem dX6_sees_5 : decode cX6_sees 5 = .ok (.getfield 124, 3) := by decide +kernel
theorem dX6_sees_8 : decode cX6_sees 8 = .ok (.if_icmp .ge 24, 3) := by decide +kernel
theorem dX6_sees_11 : decode cX6_sees 11 = .ok (.aload_n 0, 1) := by decide +kernel
theorem dX6_sees_12 : decode cX6_sees 12 = .ok (.getfield 19, 3) := by decide +kernel
theorem dX6_sees_15 : decode cX6_sees 15 = .ok (.aload_n 0, 1) := by decide +kernel
theorem dX6_sees_16 : decode cX6_sees 16 = .ok (.getfield 127, 3) := by decide +kernel
theorem dX6_sees_19 : decode cX6_sees 19 = .ok (.iaload, 1) := by decide +kernel
theorem dX6_sees_20 : decode cX6_sees 20 = .ok (.iload_n 1, 1) := by decide +kernel
theorem dX6_sees_21 : decode cX6_sees 21 = .ok (.iload_n 2, 1) := by decide +kernel
theorem dX6_sees_22 : decode cX6_sees 22 = .ok (.invokestatic 44, 3) := by decide +kernel
theorem dX6_sees_25 : decode cX6_sees 25 = .ok (.ifCond .eq 7, 3) := by decide +kernel
theorem dX6_sees_28 : decode cX6_sees 28 = .ok (.iconst 1, 1) := by decide +kernel
theorem dX6_sees_29 : decode cX6_sees 29 = .ok (.goto 4, 3) := by decide +kernel
theorem dX6_sees_32 : decode cX6_sees 32 = .ok (.iconst 0, 1) := by decide +kernel
theorem dX6_sees_33 : decode cX6_sees 33 = .ok (.ireturn, 1) := by decide +kernel
theorem dX6_takes_0 : decode cX6_takes 0 = .ok (.aload_n 0, 1) := by decide +kernel
theorem dX6_takes_1 : decode cX6_takes 1 = .ok (.iload_n 1, 1) := by decide +kernel
theorem dX6_takes_2 : decode cX6_takes 2 = .ok (.iload_n 1, 1) := by decide +kernel
theorem dX6_takes_3 : decode cX6_takes 3 = .ok (.invokevirtual 130, 3) := by decide +kernel
theorem dX6_takes_6 : decode cX6_takes 6 = .ok (.istore_n 2, 1) := by decide +kernel
theorem dX6_takes_7 : decode cX6_takes 7 = .ok (.aload_n 0, 1) := by decide +kernel
theorem dX6_takes_8 : decode cX6_takes 8 = .ok (.dup, 1) := by decide +kernel
theorem dX6_takes_9 : decode cX6_takes 9 = .ok (.getfield 127, 3) := by decide +kernel
theorem dX6_takes_12 : decode cX6_takes 12 = .ok (.iload_n 2, 1) := by decide +kernel
theorem dX6_takes_13 : decode cX6_takes 13 = .ok (.ifCond .eq 7, 3) := by decide +kernel
theorem dX6_takes_16 : decode cX6_takes 16 = .ok (.iconst 1, 1) := by decide +kernel
theorem dX6_takes_17 : decode cX6_takes 17 = .ok (.goto 4, 3) := by decide +kernel
theorem dX6_takes_20 : decode cX6_takes 20 = .ok (.iconst 0, 1) := by decide +kernel
theorem dX6_takes_21 : decode cX6_takes 21 = .ok (.iadd, 1) := by decide +kernel
theorem dX6_takes_22 : decode cX6_takes 22 = .ok (.putfield 127, 3) := by decide +kernel
theorem dX6_takes_25 : decode cX6_takes 25 = .ok (.iload_n 2, 1) := by decide +kernel
theorem dX6_takes_26 : decode cX6_takes 26 = .ok (.ireturn, 1) := by decide +kernel
theorem dX6_isNumber_0 : decode cX6_isNumber 0 = .ok (.aload_n 0, 1) := by decide +kernel
theorem dX6_isNumber_1 : decode cX6_isNumber 1 = .ok (.bipush 48, 2) := by decide +kernel
theorem dX6_isNumber_3 : decode cX6_isNumber 3 = .ok (.iload_n 2, 1) := by decide +kernel
theorem dX6_isNumber_4 : decode cX6_isNumber 4 = .ok (.iadd, 1) := by decide +kernel
theorem dX6_isNumber_5 : decode cX6_isNumber 5 = .ok (.bipush 48, 2) := by decide +kernel
theorem dX6_isNumber_7 : decode cX6_isNumber 7 = .ok (.iload_n 3, 1) := by decide +kernel
theorem dX6_isNumber_8 : decode cX6_isNumber 8 = .ok (.bipush 9, 2) := by decide +kernel
theorem dX6_isNumber_10 : decode cX6_isNumber 10 = .ok (.if_icmp .ge 7, 3) := by decide +kernel
theorem dX6_isNumber_13 : decode cX6_isNumber 13 = .ok (.iload_n 3, 1) := by decide +kernel
theorem dX6_isNumber_14 : decode cX6_isNumber 14 = .ok (.goto 5, 3) := by decide +kernel
theorem dX6_isNumber_17 : decode cX6_isNumber 17 = .ok (.bipush 9, 2) := by decide +kernel
theorem dX6_isNumber_19 : decode cX6_isNumber 19 = .ok (.iadd, 1) := by decide +kernel
theorem dX6_isNumber_20 : decode cX6_isNumber 20 = .ok (.invokevirtual 130, 3) := by decide +kernel
theorem dX6_isNumber_23 : decode cX6_isNumber 23 = .ok (.ifCond .ne 5, 3) := by decide +kernel
theorem dX6_isNumber_26 : decode cX6_isNumber 26 = .ok (.iconst 0, 1) := by decide +kernel
theorem dX6_isNumber_27 : decode cX6_isNumber 27 = .ok (.ireturn, 1) := by decide +kernel
theorem dX6_isNumber_28 : decode cX6_isNumber 28 = .ok (.aload_n 0, 1) := by decide +kernel
theorem dX6_isNumber_29 : decode cX6_isNumber 29 = .ok (.getfield 19, 3) := by decide +kernel
theorem dX6_isNumber_32 : decode cX6_isNumber 32 = .ok (.aload_n 0, 1) := by decide +kernel
theorem dX6_isNumber_33 : decode cX6_isNumber 33 = .ok (.getfield 127, 3) := by decide +kernel
theorem dX6_isNumber_36 : decode cX6_isNumber 36 = .ok (.iaload, 1) := by decide +kernel
theorem dX6_isNumber_37 : decode cX6_isNumber 37 = .ok (.bipush 48, 2) := by decide +kernel
theorem dX6_isNumber_39 : decode cX6_isNumber 39 = .ok (.isub, 1) := by decide +kernel
theorem dX6_isNumber_40 : decode cX6_isNumber 40 = .ok (.istore 4, 2) := by decide +kernel
theorem dX6_isNumber_42 : decode cX6_isNumber 42 = .ok (.aload_n 0, 1) := by decide +kernel
theorem dX6_isNumber_43 : decode cX6_isNumber 43 = .ok (.dup, 1) := by decide +kernel
theorem dX6_isNumber_44 : decode cX6_isNumber 44 = .ok (.getfield 127, 3) := by decide +kernel
theorem dX6_isNumber_47 : decode cX6_isNumber 47 = .ok (.iconst 1, 1) := by decide +kernel
theorem dX6_isNumber_48 : decode cX6_isNumber 48 = .ok (.iadd, 1) := by decide +kernel
theorem dX6_isNumber_49 : decode cX6_isNumber 49 = .ok (.putfield 127, 3) := by decide +kernel
theorem dX6_isNumber_52 : decode cX6_isNumber 52 = .ok (.iload 4, 2) := by decide +kernel
theorem dX6_isNumber_54 : decode cX6_isNumber 54 = .ok (.ifCond .le 69, 3) := by decide +kernel
theorem dX6_isNumber_57 : decode cX6_isNumber 57 = .ok (.aload_n 0, 1) := by decide +kernel
theorem dX6_isNumber_58 : decode cX6_isNumber 58 = .ok (.bipush 48, 2) := by decide +kernel
theorem dX6_isNumber_60 : decode cX6_isNumber 60 = .ok (.bipush 57, 2) := by decide +kernel
theorem dX6_isNumber_62 : decode cX6_isNumber 62 = .ok (.invokevirtual 130, 3) := by decide +kernel
theorem dX6_isNumber_65 : decode cX6_isNumber 65 = .ok (.ifCond .eq 58, 3) := by decide +kernel
theorem dX6_isNumber_68 : decode cX6_isNumber 68 = .ok (.bipush 10, 2) := by decide +kernel
theorem dX6_isNumber_70 : decode cX6_isNumber 70 = .ok (.iload 4, 2) := by decide +kernel
theorem dX6_isNumber_72 : decode cX6_isNumber 72 = .ok (.imul, 1) := by decide +kernel
theorem dX6_isNumber_73 : decode cX6_isNumber 73 = .ok (.aload_n 0, 1) := by decide +kernel
theorem dX6_isNumber_74 : decode cX6_isNumber 74 = .ok (.getfield 19, 3) := by decide +kernel
theorem dX6_isNumber_77 : decode cX6_isNumber 77 = .ok (.aload_n 0, 1) := by decide +kernel
theorem dX6_isNumber_78 : decode cX6_isNumber 78 = .ok (.getfield 127, 3) := by decide +kernel
theorem dX6_isNumber_81 : decode cX6_isNumber 81 = .ok (.iaload, 1) := by decide +kernel
theorem dX6_isNumber_82 : decode cX6_isNumber 82 = .ok (.iadd, 1) := by decide +kernel
theorem dX6_isNumber_83 : decode cX6_isNumber 83 = .ok (.bipush 48, 2) := by decide +kernel
theorem dX6_isNumber_85 : decode cX6_isNumber 85 = .ok (.isub, 1) := by decide +kernel
theorem dX6_isNumber_86 : decode cX6_isNumber 86 = .ok (.iload_n 3, 1) := by decide +kernel
theorem dX6_isNumber_87 : decode cX6_isNumber 87 = .ok (.if_icmp .gt 36, 3) := by decide +kernel
theorem dX6_isNumber_90 : decode cX6_isNumber 90 = .ok (.bipush 10, 2) := by decide +kernel
theorem dX6_isNumber_92 : decode cX6_isNumber 92 = .ok (.iload 4, 2) := by decide +kernel
theorem dX6_isNumber_94 : decode cX6_isNumber 94 = .ok (.imul, 1) := by decide +kernel
theorem dX6_isNumber_95 : decode cX6_isNumber 95 = .ok (.aload_n 0, 1) := by decide +kernel
theorem dX6_isNumber_96 : decode cX6_isNumber 96 = .ok (.getfield 19, 3) := by decide +kernel
theorem dX6_isNumber_99 : decode cX6_isNumber 99 = .ok (.aload_n 0, 1) := by decide +kernel
theorem dX6_isNumber_100 : decode cX6_isNumber 100 = .ok (.getfield 127, 3) := by decide +kernel
theorem dX6_isNumber_103 : decode cX6_isNumber 103 = .ok (.iaload, 1) := by decide +kernel
theorem dX6_isNumber_104 : decode cX6_isNumber 104 = .ok (.iadd, 1) := by decide +kernel
theorem dX6_isNumber_105 : decode cX6_isNumber 105 = .ok (.bipush 48, 2) := by decide +kernel
theorem dX6_isNumber_107 : decode cX6_isNumber 107 = .ok (.isub, 1) := by decide +kernel
theorem dX6_isNumber_108 : decode cX6_isNumber 108 = .ok (.istore 4, 2) := by decide +kernel
theorem dX6_isNumber_110 : decode cX6_isNumber 110 = .ok (.aload_n 0, 1) := by decide +kernel
theorem dX6_isNumber_111 : decode cX6_isNumber 111 = .ok (.dup, 1) := by decide +kernel
theorem dX6_isNumber_112 : decode cX6_isNumber 112 = .ok (.getfield 127, 3) := by decide +kernel
theorem dX6_isNumber_115 : decode cX6_isNumber 115 = .ok (.iconst 1, 1) := by decide +kernel
theorem dX6_isNumber_116 : decode cX6_isNumber 116 = .ok (.iadd, 1) := by decide +kernel
theorem dX6_isNumber_117 : decode cX6_isNumber 117 = .ok (.putfield 127, 3) := by decide +kernel
theorem dX6_isNumber_120 : decode cX6_isNumber 120 = .ok (.goto (-68), 3) := by decide +kernel
theorem dX6_isNumber_123 : decode cX6_isNumber 123 = .ok (.aload_n 0, 1) := by decide +kernel
theorem dX6_isNumber_124 : decode cX6_isNumber 124 = .ok (.getfield 22, 3) := by decide +kernel
theorem dX6_isNumber_127 : decode cX6_isNumber 127 = .ok (.iconst 3, 1) := by decide +kernel
theorem dX6_isNumber_128 : decode cX6_isNumber 128 = .ok (.aload_n 0, 1) := by decide +kernel
theorem dX6_isNumber_129 : decode cX6_isNumber 129 = .ok (.getfield 134, 3) := by decide +kernel
theorem dX6_isNumber_132 : decode cX6_isNumber 132 = .ok (.imul, 1) := by decide +kernel
theorem dX6_isNumber_133 : decode cX6_isNumber 133 = .ok (.iload_n 1, 1) := by decide +kernel
theorem dX6_isNumber_134 : decode cX6_isNumber 134 = .ok (.iadd, 1) := by decide +kernel
theorem dX6_isNumber_135 : decode cX6_isNumber 135 = .ok (.iload 4, 2) := by decide +kernel
theorem dX6_isNumber_137 : decode cX6_isNumber 137 = .ok (.iastore, 1) := by decide +kernel
theorem dX6_isNumber_138 : decode cX6_isNumber 138 = .ok (.iconst 1, 1) := by decide +kernel
theorem dX6_isNumber_139 : decode cX6_isNumber 139 = .ok (.ireturn, 1) := by decide +kernel
theorem dX6_isThingTold_0 : decode cX6_isThingTold 0 = .ok (.aload_n 0, 1) := by decide +kernel
theorem dX6_isThingTold_1 : decode cX6_isThingTold 1 = .ok (.iconst 0, 1) := by decide +kernel
theorem dX6_isThingTold_2 : decode cX6_isThingTold 2 = .ok (.iconst 0, 1) := by decide +kernel
theorem dX6_isThingTold_3 : decode cX6_isThingTold 3 = .ok (.sipush 999, 3) := by decide +kernel
theorem dX6_isThingTold_6 : decode cX6_isThingTold 6 = .ok (.invokevirtual 137, 3) := by decide +kernel
theorem dX6_isThingTold_9 : decode cX6_isThingTold 9 = .ok (.ifCond .eq 22, 3) := by decide +kernel
theorem dX6_isThingTold_12 : decode cX6_isThingTold 12 = .ok (.aload_n 0, 1) := by decide +kernel
theorem dX6_isThingTold_13 : decode cX6_isThingTold 13 = .ok (.bipush 42, 2) := by decide +kernel
theorem dX6_isThingTold_15 : decode cX6_isThingTold 15 = .ok (.invokevirtual 140, 3) := by decide +kernel
theorem dX6_isThingTold_18 : decode cX6_isThingTold 18 = .ok (.ifCond .eq 13, 3) := by decide +kernel
theorem dX6_isThingTold_21 : decode cX6_isThingTold 21 = .ok (.aload_n 0, 1) := by decide +kernel
theorem dX6_isThingTold_22 : decode cX6_isThingTold 22 = .ok (.iconst 1, 1) := by decide +kernel
theorem dX6_isThingTold_23 : decode cX6_isThingTold 23 = .ok (.iconst 1, 1) := by decide +kernel
theorem dX6_isThingTold_24 : decode cX6_isThingTold 24 = .ok (.iconst 4, 1) := by decide +kernel
theorem dX6_isThingTold_25 : decode cX6_isThingTold 25 = .ok (.invokevirtual 137, 3) := by decide +kernel
theorem dX6_isThingTold_28 : decode cX6_isThingTold 28 = .ok (.ifCond .ne 5, 3) := by decide +kernel
theorem dX6_isThingTold_31 : decode cX6_isThingTold 31 = .ok (.iconst 0, 1) := by decide +kernel
theorem dX6_isThingTold_32 : decode cX6_isThingTold 32 = .ok (.ireturn, 1) := by decide +kernel
theorem dX6_isThingTold_33 : decode cX6_isThingTold 33 = .ok (.aload_n 0, 1) := by decide +kernel
theorem dX6_isThingTold_34 : decode cX6_isThingTold 34 = .ok (.getfield 22, 3) := by decide +kernel
theorem dX6_isThingTold_37 : decode cX6_isThingTold 37 = .ok (.iconst 3, 1) := by decide +kernel
theorem dX6_isThingTold_38 : decode cX6_isThingTold 38 = .ok (.aload_n 0, 1) := by decide +kernel
theorem dX6_isThingTold_39 : decode cX6_isThingTold 39 = .ok (.getfield 134, 3) := by decide +kernel
theorem dX6_isThingTold_42 : decode cX6_isThingTold 42 = .ok (.imul, 1) := by decide +kernel
theorem dX6_isThingTold_43 : decode cX6_isThingTold 43 = .ok (.iconst 2, 1) := by decide +kernel
theorem dX6_isThingTold_44 : decode cX6_isThingTold 44 = .ok (.iadd, 1) := by decide +kernel
theorem dX6_isThingTold_45 : decode cX6_isThingTold 45 = .ok (.aload_n 0, 1) := by decide +kernel
theorem dX6_isThingTold_46 : decode cX6_isThingTold 46 = .ok (.bipush 33, 2) := by decide +kernel
theorem dX6_isThingTold_48 : decode cX6_isThingTold 48 = .ok (.invokevirtual 140, 3) := by decide +kernel
theorem dX6_isThingTold_51 : decode cX6_isThingTold 51 = .ok (.ifCond .eq 7, 3) := by decide +kernel
theorem dX6_isThingTold_54 : decode cX6_isThingTold 54 = .ok (.iconst 1, 1) := by decide +kernel
theorem dX6_isThingTold_55 : decode cX6_isThingTold 55 = .ok (.goto 17, 3) := by decide +kernel
theorem dX6_isThingTold_58 : decode cX6_isThingTold 58 = .ok (.aload_n 0, 1) := by decide +kernel
theorem dX6_isThingTold_59 : decode cX6_isThingTold 59 = .ok (.bipush 43, 2) := by decide +kernel
theorem dX6_isThingTold_61 : decode cX6_isThingTold 61 = .ok (.invokevirtual 140, 3) := by decide +kernel
theorem dX6_isThingTold_64 : decode cX6_isThingTold 64 = .ok (.ifCond .eq 7, 3) := by decide +kernel
theorem dX6_isThingTold_67 : decode cX6_isThingTold 67 = .ok (.iconst 2, 1) := by decide +kernel
theorem dX6_isThingTold_68 : decode cX6_isThingTold 68 = .ok (.goto 4, 3) := by decide +kernel
theorem dX6_isThingTold_71 : decode cX6_isThingTold 71 = .ok (.iconst 0, 1) := by decide +kernel
theorem dX6_isThingTold_72 : decode cX6_isThingTold 72 = .ok (.iastore, 1) := by decide +kernel
theorem dX6_isThingTold_73 : decode cX6_isThingTold 73 = .ok (.iconst 1, 1) := by decide +kernel
theorem dX6_isThingTold_74 : decode cX6_isThingTold 74 = .ok (.ireturn, 1) := by decide +kernel
theorem dX6_isText_0 : decode cX6_isText 0 = .ok (.aload_n 0, 1) := by decide +kernel
theorem dX6_isText_1 : decode cX6_isText 1 = .ok (.iconst 0, 1) := by decide +kernel
theorem dX6_isText_2 : decode cX6_isText 2 = .ok (.putfield 127, 3) := by decide +kernel
theorem dX6_isText_5 : decode cX6_isText 5 = .ok (.aload_n 0, 1) := by decide +kernel
theorem dX6_isText_6 : decode cX6_isText 6 = .ok (.iconst 0, 1) := by decide +kernel
theorem dX6_isText_7 : decode cX6_isText 7 = .ok (.putfield 134, 3) := by decide +kernel
theorem dX6_isText_10 : decode cX6_isText 10 = .ok (.iconst 1, 1) := by decide +kernel
theorem dX6_isText_11 : decode cX6_isText 11 = .ok (.istore_n 1, 1) := by decide +kernel
theorem dX6_isText_12 : decode cX6_isText 12 = .ok (.iload_n 1, 1) := by decide +kernel
theorem dX6_isText_13 : decode cX6_isText 13 = .ok (.ifCond .eq 32, 3) := by decide +kernel
theorem dX6_isText_16 : decode cX6_isText 16 = .ok (.aload_n 0, 1) := by decide +kernel
theorem dX6_isText_17 : decode cX6_isText 17 = .ok (.invokevirtual 143, 3) := by decide +kernel
theorem dX6_isText_20 : decode cX6_isText 20 = .ok (.ifCond .ne 5, 3) := by decide +kernel
theorem dX6_isText_23 : decode cX6_isText 23 = .ok (.iconst 0, 1) := by decide +kernel
theorem dX6_isText_24 : decode cX6_isText 24 = .ok (.ireturn, 1) := by decide +kernel
theorem dX6_isText_25 : decode cX6_isText 25 = .ok (.aload_n 0, 1) := by decide +kernel
theorem dX6_isText_26 : decode cX6_isText 26 = .ok (.dup, 1) := by decide +kernel
theorem dX6_isText_27 : decode cX6_isText 27 = .ok (.getfield 134, 3) := by decide +kernel
theorem dX6_isText_30 : decode cX6_isText 30 = .ok (.iconst 1, 1) := by decide +kernel
theorem dX6_isText_31 : decode cX6_isText 31 = .ok (.iadd, 1) := by decide +kernel
theorem dX6_isText_32 : decode cX6_isText 32 = .ok (.putfield 134, 3) := by decide +kernel
theorem dX6_isText_35 : decode cX6_isText 35 = .ok (.aload_n 0, 1) := by decide +kernel
theorem dX6_isText_36 : decode cX6_isText 36 = .ok (.bipush 44, 2) := by decide +kernel
theorem dX6_isText_38 : decode cX6_isText 38 = .ok (.invokevirtual 140, 3) := by decide +kernel
theorem dX6_isText_41 : decode cX6_isText 41 = .ok (.istore_n 1, 1) := by decide +kernel
theorem dX6_isText_42 : decode cX6_isText 42 = .ok (.goto (-30), 3) := by decide +kernel
theorem dX6_isText_45 : decode cX6_isText 45 = .ok (.aload_n 0, 1) := by decide +kernel
theorem dX6_isText_46 : decode cX6_isText 46 = .ok (.getfield 127, 3) := by decide +kernel
theorem dX6_isText_49 : decode cX6_isText 49 = .ok (.aload_n 0, 1) := by decide +kernel
theorem dX6_isText_50 : decode cX6_isText 50 = .ok (.getfield 124, 3) := by decide +kernel
theorem dX6_isText_53 : decode cX6_isText 53 = .ok (.if_icmp .ne 7, 3) := by decide +kernel
theorem dX6_isText_56 : decode cX6_isText 56 = .ok (.iconst 1, 1) := by decide +kernel
theorem dX6_isText_57 : decode cX6_isText 57 = .ok (.goto 4, 3) := by decide +kernel
theorem dX6_isText_60 : decode cX6_isText 60 = .ok (.iconst 0, 1) := by decide +kernel
theorem dX6_isText_61 : decode cX6_isText 61 = .ok (.ireturn, 1) := by decide +kernel
theorem dX6_firstError_0 : decode cX6_firstError 0 = .ok (.aload_n 0, 1) := by decide +kernel
theorem dX6_firstError_1 : decode cX6_firstError 1 = .ok (.iconst 0, 1) := by decide +kernel
theorem dX6_firstError_2 : decode cX6_firstError 2 = .ok (.putfield 25, 3) := by decide +kernel
theorem dX6_firstError_5 : decode cX6_firstError 5 = .ok (.aload_n 0, 1) := by decide +kernel
theorem dX6_firstError_6 : decode cX6_firstError 6 = .ok (.invokevirtual 147, 3) := by decide +kernel
theorem dX6_firstError_9 : decode cX6_firstError 9 = .ok (.ifCond .eq 10, 3) := by decide +kernel
theorem dX6_firstError_12 : decode cX6_firstError 12 = .ok (.aload_n 0, 1) := by decide +kernel
theorem dX6_firstError_13 : decode cX6_firstError 13 = .ok (.getfield 124, 3) := by decide +kernel
theorem dX6_firstError_16 : decode cX6_firstError 16 = .ok (.goto 7, 3) := by decide +kernel
theorem dX6_firstError_19 : decode cX6_firstError 19 = .ok (.aload_n 0, 1) := by decide +kernel
theorem dX6_firstError_20 : decode cX6_firstError 20 = .ok (.getfield 127, 3) := by decide +kernel
theorem dX6_firstError_23 : decode cX6_firstError 23 = .ok (.ireturn, 1) := by decide +kernel
theorem dX6_putAll_0 : decode cX6_putAll 0 = .ok (.aload_n 0, 1) := by decide +kernel
theorem dX6_putAll_1 : decode cX6_putAll 1 = .ok (.aload_n 0, 1) := by decide +kernel
theorem dX6_putAll_2 : decode cX6_putAll 2 = .ok (.invokevirtual 147, 3) := by decide +kernel
theorem dX6_putAll_5 : decode cX6_putAll 5 = .ok (.ifCond .eq 7, 3) := by decide +kernel
theorem dX6_putAll_8 : decode cX6_putAll 8 = .ok (.iconst 0, 1) := by decide +kernel
theorem dX6_putAll_9 : decode cX6_putAll 9 = .ok (.goto 4, 3) := by decide +kernel
theorem dX6_putAll_12 : decode cX6_putAll 12 = .ok (.iconst 1, 1) := by decide +kernel
theorem dX6_putAll_13 : decode cX6_putAll 13 = .ok (.invokevirtual 74, 3) := by decide +kernel
theorem dX6_putAll_16 : decode cX6_putAll 16 = .ok (.ifCond .eq 5, 3) := by decide +kernel
theorem dX6_putAll_19 : decode cX6_putAll 19 = .ok (.iconst 0, 1) := by decide +kernel
theorem dX6_putAll_20 : decode cX6_putAll 20 = .ok (.ireturn, 1) := by decide +kernel
theorem dX6_putAll_21 : decode cX6_putAll 21 = .ok (.aload_n 0, 1) := by decide +kernel
theorem dX6_putAll_22 : decode cX6_putAll 22 = .ok (.invokevirtual 78, 3) := by decide +kernel
theorem dX6_putAll_25 : decode cX6_putAll 25 = .ok (.iconst 0, 1) := by decide +kernel
theorem dX6_putAll_26 : decode cX6_putAll 26 = .ok (.istore_n 1, 1) := by decide +kernel
theorem dX6_putAll_27 : decode cX6_putAll 27 = .ok (.iconst 0, 1) := by decide +kernel
theorem dX6_putAll_28 : decode cX6_putAll 28 = .ok (.istore_n 2, 1) := by decide +kernel
theorem dX6_putAll_29 : decode cX6_putAll 29 = .ok (.iload_n 2, 1) := by decide +kernel
theorem dX6_putAll_30 : decode cX6_putAll 30 = .ok (.aload_n 0, 1) := by decide +kernel
theorem dX6_putAll_31 : decode cX6_putAll 31 = .ok (.getfield 134, 3) := by decide +kernel
theorem dX6_putAll_34 : decode cX6_putAll 34 = .ok (.if_icmp .ge 62, 3) := by decide +kernel
theorem dX6_putAll_37 : decode cX6_putAll 37 = .ok (.iload_n 1, 1) := by decide +kernel
theorem dX6_putAll_38 : decode cX6_putAll 38 = .ok (.aload_n 0, 1) := by decide +kernel
theorem dX6_putAll_39 : decode cX6_putAll 39 = .ok (.getfield 7, 3) := by decide +kernel
theorem dX6_putAll_42 : decode cX6_putAll 42 = .ok (.aload_n 0, 1) := by decide +kernel
theorem dX6_putAll_43 : decode cX6_putAll 43 = .ok (.getfield 7, 3) := by decide +kernel
theorem dX6_putAll_46 : decode cX6_putAll 46 = .ok (.iconst 1, 1) := by decide +kernel
theorem dX6_putAll_47 : decode cX6_putAll 47 = .ok (.iaload, 1) := by decide +kernel
theorem dX6_putAll_48 : decode cX6_putAll 48 = .ok (.aload_n 0, 1) := by decide +kernel
theorem dX6_putAll_49 : decode cX6_putAll 49 = .ok (.getfield 22, 3) := by decide +kernel
theorem dX6_putAll_52 : decode cX6_putAll 52 = .ok (.iconst 3, 1) := by decide +kernel
theorem dX6_putAll_53 : decode cX6_putAll 53 = .ok (.iload_n 2, 1) := by decide +kernel
theorem dX6_putAll_54 : decode cX6_putAll 54 = .ok (.imul, 1) := by decide +kernel
theorem dX6_putAll_55 : decode cX6_putAll 55 = .ok (.iaload, 1) := by decide +kernel
theorem dX6_putAll_56 : decode cX6_putAll 56 = .ok (.aload_n 0, 1) := by decide +kernel
theorem dX6_putAll_57 : decode cX6_putAll 57 = .ok (.getfield 22, 3) := by decide +kernel
theorem dX6_putAll_60 : decode cX6_putAll 60 = .ok (.iconst 3, 1) := by decide +kernel
theorem dX6_putAll_61 : decode cX6_putAll 61 = .ok (.iload_n 2, 1) := by decide +kernel
theorem dX6_putAll_62 : decode cX6_putAll 62 = .ok (.imul, 1) := by decide +kernel
theorem dX6_putAll_63 : decode cX6_putAll 63 = .ok (.iconst 1, 1) := by decide +kernel
theorem dX6_putAll_64 : decode cX6_putAll 64 = .ok (.iadd, 1) := by decide +kernel
theorem dX6_putAll_65 : decode cX6_putAll 65 = .ok (.iaload, 1) := by decide +kernel
theorem dX6_putAll_66 : decode cX6_putAll 66 = .ok (.aload_n 0, 1) := by decide +kernel
theorem dX6_putAll_67 : decode cX6_putAll 67 = .ok (.getfield 22, 3) := by decide +kernel
theorem dX6_putAll_70 : decode cX6_putAll 70 = .ok (.iconst 3, 1) := by decide +kernel
theorem dX6_putAll_71 : decode cX6_putAll 71 = .ok (.iload_n 2, 1) := by decide +kernel
theorem dX6_putAll_72 : decode cX6_putAll 72 = .ok (.imul, 1) := by decide +kernel
theorem dX6_putAll_73 : decode cX6_putAll 73 = .ok (.iconst 2, 1) := by decide +kernel
theorem dX6_putAll_74 : decode cX6_putAll 74 = .ok (.iadd, 1) := by decide +kernel
theorem dX6_putAll_75 : decode cX6_putAll 75 = .ok (.iaload, 1) := by decide +kernel
theorem dX6_putAll_76 : decode cX6_putAll 76 = .ok (.invokestatic 81, 3) := by decide +kernel
theorem dX6_putAll_79 : decode cX6_putAll 79 = .ok (.iconst (-1), 1) := by decide +kernel
theorem dX6_putAll_80 : decode cX6_putAll 80 = .ok (.if_icmp .ne 7, 3) := by decide +kernel
theorem dX6_putAll_83 : decode cX6_putAll 83 = .ok (.iconst 0, 1) := by decide +kernel
theorem dX6_putAll_84 : decode cX6_putAll 84 = .ok (.goto 4, 3) := by decide +kernel
theorem dX6_putAll_87 : decode cX6_putAll 87 = .ok (.iconst 1, 1) := by decide +kernel
theorem dX6_putAll_88 : decode cX6_putAll 88 = .ok (.iadd, 1) := by decide +kernel
theorem dX6_putAll_89 : decode cX6_putAll 89 = .ok (.istore_n 1, 1) := by decide +kernel
theorem dX6_putAll_90 : decode cX6_putAll 90 = .ok (.iinc 2 1, 3) := by decide +kernel
theorem dX6_putAll_93 : decode cX6_putAll 93 = .ok (.goto (-64), 3) := by decide +kernel
theorem dX6_putAll_96 : decode cX6_putAll 96 = .ok (.aload_n 0, 1) := by decide +kernel
theorem dX6_putAll_97 : decode cX6_putAll 97 = .ok (.iconst 0, 1) := by decide +kernel
theorem dX6_putAll_98 : decode cX6_putAll 98 = .ok (.putfield 124, 3) := by decide +kernel
theorem dX6_putAll_101 : decode cX6_putAll 101 = .ok (.iload_n 1, 1) := by decide +kernel
theorem dX6_putAll_102 : decode cX6_putAll 102 = .ok (.ireturn, 1) := by decide +kernel
theorem dX6_undo_0 : decode cX6_undo 0 = .ok (.aload_n 0, 1) := by decide +kernel
theorem dX6_undo_1 : decode cX6_undo 1 = .ok (.aload_n 0, 1) := by decide +kernel
theorem dX6_undo_2 : decode cX6_undo 2 = .ok (.getfield 29, 3) := by decide +kernel
theorem dX6_undo_5 : decode cX6_undo 5 = .ok (.ifCond .ne 7, 3) := by decide +kernel
theorem dX6_undo_8 : decode cX6_undo 8 = .ok (.iconst 1, 1) := by decide +kernel
theorem dX6_undo_9 : decode cX6_undo 9 = .ok (.goto 4, 3) := by decide +kernel
theorem dX6_undo_12 : decode cX6_undo 12 = .ok (.iconst 0, 1) := by decide +kernel
theorem dX6_undo_13 : decode cX6_undo 13 = .ok (.invokevirtual 74, 3) := by decide +kernel
theorem dX6_undo_16 : decode cX6_undo 16 = .ok (.ifCond .eq 5, 3) := by decide +kernel
theorem dX6_undo_19 : decode cX6_undo 19 = .ok (.iconst 0, 1) := by decide +kernel
theorem dX6_undo_20 : decode cX6_undo 20 = .ok (.ireturn, 1) := by decide +kernel
theorem dX6_undo_21 : decode cX6_undo 21 = .ok (.aload_n 0, 1) := by decide +kernel
theorem dX6_undo_22 : decode cX6_undo 22 = .ok (.dup, 1) := by decide +kernel
theorem dX6_undo_23 : decode cX6_undo 23 = .ok (.getfield 29, 3) := by decide +kernel
theorem dX6_undo_26 : decode cX6_undo 26 = .ok (.iconst 1, 1) := by decide +kernel
theorem dX6_undo_27 : decode cX6_undo 27 = .ok (.isub, 1) := by decide +kernel
theorem dX6_undo_28 : decode cX6_undo 28 = .ok (.putfield 29, 3) := by decide +kernel
theorem dX6_undo_31 : decode cX6_undo 31 = .ok (.aload_n 0, 1) := by decide +kernel
theorem dX6_undo_32 : decode cX6_undo 32 = .ok (.getfield 16, 3) := by decide +kernel
theorem dX6_undo_35 : decode cX6_undo 35 = .ok (.sipush 414, 3) := by decide +kernel
theorem dX6_undo_38 : decode cX6_undo 38 = .ok (.aload_n 0, 1) := by decide +kernel
theorem dX6_undo_39 : decode cX6_undo 39 = .ok (.getfield 29, 3) := by decide +kernel
theorem dX6_undo_42 : decode cX6_undo 42 = .ok (.imul, 1) := by decide +kernel
theorem dX6_undo_43 : decode cX6_undo 43 = .ok (.aload_n 0, 1) := by decide +kernel
theorem dX6_undo_44 : decode cX6_undo 44 = .ok (.getfield 7, 3) := by decide +kernel
theorem dX6_undo_47 : decode cX6_undo 47 = .ok (.iconst 0, 1) := by decide +kernel
theorem dX6_undo_48 : decode cX6_undo 48 = .ok (.invokestatic 32, 3) := by decide +kernel
theorem dX6_undo_51 : decode cX6_undo 51 = .ok (.aload_n 0, 1) := by decide +kernel
theorem dX6_undo_52 : decode cX6_undo 52 = .ok (.getfield 29, 3) := by decide +kernel
theorem dX6_undo_55 : decode cX6_undo 55 = .ok (.ireturn, 1) := by decide +kernel
theorem dX6_refusal_0 : decode cX6_refusal 0 = .ok (.aload_n 0, 1) := by decide +kernel
theorem dX6_refusal_1 : decode cX6_refusal 1 = .ok (.iconst 0, 1) := by decide +kernel
theorem dX6_refusal_2 : decode cX6_refusal 2 = .ok (.putfield 25, 3) := by decide +kernel
theorem dX6_refusal_5 : decode cX6_refusal 5 = .ok (.aload_n 0, 1) := by decide +kernel
theorem dX6_refusal_6 : decode cX6_refusal 6 = .ok (.getfield 7, 3) := by decide +kernel
theorem dX6_refusal_9 : decode cX6_refusal 9 = .ok (.iload_n 1, 1) := by decide +kernel
theorem dX6_refusal_10 : decode cX6_refusal 10 = .ok (.invokestatic 85, 3) := by decide +kernel
theorem dX6_refusal_13 : decode cX6_refusal 13 = .ok (.ireturn, 1) := by decide +kernel
theorem dX6_placeOf_0 : decode cX6_placeOf 0 = .ok (.iconst 0, 1) := by decide +kernel
theorem dX6_placeOf_1 : decode cX6_placeOf 1 = .ok (.istore_n 2, 1) := by decide +kernel
theorem dX6_placeOf_2 : decode cX6_placeOf 2 = .ok (.iconst 0, 1) := by decide +kernel
theorem dX6_placeOf_3 : decode cX6_placeOf 3 = .ok (.istore_n 3, 1) := by decide +kernel
theorem dX6_placeOf_4 : decode cX6_placeOf 4 = .ok (.iload_n 3, 1) := by decide +kernel
theorem dX6_placeOf_5 : decode cX6_placeOf 5 = .ok (.iload_n 1, 1) := by decide +kernel
theorem dX6_placeOf_6 : decode cX6_placeOf 6 = .ok (.if_icmp .ge 28, 3) := by decide +kernel
theorem dX6_placeOf_9 : decode cX6_placeOf 9 = .ok (.iload_n 2, 1) := by decide +kernel
theorem dX6_placeOf_10 : decode cX6_placeOf 10 = .ok (.aload_n 0, 1) := by decide +kernel
theorem dX6_placeOf_11 : decode cX6_placeOf 11 = .ok (.getfield 7, 3) := by decide +kernel
theorem dX6_placeOf_14 : decode cX6_placeOf 14 = .ok (.iload_n 3, 1) := by decide +kernel
theorem dX6_placeOf_15 : decode cX6_placeOf 15 = .ok (.invokestatic 40, 3) := by decide +kernel
theorem dX6_placeOf_18 : decode cX6_placeOf 18 = .ok (.ifCond .eq 7, 3) := by decide +kernel
theorem dX6_placeOf_21 : decode cX6_placeOf 21 = .ok (.iconst 1, 1) := by decide +kernel
theorem dX6_placeOf_22 : decode cX6_placeOf 22 = .ok (.goto 4, 3) := by decide +kernel
theorem dX6_placeOf_25 : decode cX6_placeOf 25 = .ok (.iconst 0, 1) := by decide +kernel
theorem dX6_placeOf_26 : decode cX6_placeOf 26 = .ok (.iadd, 1) := by decide +kernel
theorem dX6_placeOf_27 : decode cX6_placeOf 27 = .ok (.istore_n 2, 1) := by decide +kernel
theorem dX6_placeOf_28 : decode cX6_placeOf 28 = .ok (.iinc 3 1, 3) := by decide +kernel
theorem dX6_placeOf_31 : decode cX6_placeOf 31 = .ok (.goto (-27), 3) := by decide +kernel
theorem dX6_placeOf_34 : decode cX6_placeOf 34 = .ok (.iload_n 2, 1) := by decide +kernel
theorem dX6_placeOf_35 : decode cX6_placeOf 35 = .ok (.ireturn, 1) := by decide +kernel
theorem dX6_ofThing_0 : decode cX6_ofThing 0 = .ok (.iload_n 2, 1) := by decide +kernel
theorem dX6_ofThing_1 : decode cX6_ofThing 1 = .ok (.tableswitch 81 0 4 #[35, 45, 55, 65, 75], 35) := by decide +kernel
theorem dX6_ofThing_36 : decode cX6_ofThing 36 = .ok (.aload_n 0, 1) := by decide +kernel
theorem dX6_ofThing_37 : decode cX6_ofThing 37 = .ok (.getfield 7, 3) := by decide +kernel
theorem dX6_ofThing_40 : decode cX6_ofThing 40 = .ok (.iload_n 1, 1) := by decide +kernel
theorem dX6_ofThing_41 : decode cX6_ofThing 41 = .ok (.iconst 2, 1) := by decide +kernel
theorem dX6_ofThing_42 : decode cX6_ofThing 42 = .ok (.invokestatic 36, 3) := by decide +kernel
theorem dX6_ofThing_45 : decode cX6_ofThing 45 = .ok (.ireturn, 1) := by decide +kernel
theorem dX6_ofThing_46 : decode cX6_ofThing 46 = .ok (.aload_n 0, 1) := by decide +kernel
theorem dX6_ofThing_47 : decode cX6_ofThing 47 = .ok (.getfield 7, 3) := by decide +kernel
theorem dX6_ofThing_50 : decode cX6_ofThing 50 = .ok (.iload_n 1, 1) := by decide +kernel
theorem dX6_ofThing_51 : decode cX6_ofThing 51 = .ok (.iconst 1, 1) := by decide +kernel
theorem dX6_ofThing_52 : decode cX6_ofThing 52 = .ok (.invokestatic 36, 3) := by decide +kernel
theorem dX6_ofThing_55 : decode cX6_ofThing 55 = .ok (.ireturn, 1) := by decide +kernel
theorem dX6_ofThing_56 : decode cX6_ofThing 56 = .ok (.aload_n 0, 1) := by decide +kernel
theorem dX6_ofThing_57 : decode cX6_ofThing 57 = .ok (.getfield 7, 3) := by decide +kernel
theorem dX6_ofThing_60 : decode cX6_ofThing 60 = .ok (.iload_n 1, 1) := by decide +kernel
theorem dX6_ofThing_61 : decode cX6_ofThing 61 = .ok (.iconst 3, 1) := by decide +kernel
theorem dX6_ofThing_62 : decode cX6_ofThing 62 = .ok (.invokestatic 36, 3) := by decide +kernel
theorem dX6_ofThing_65 : decode cX6_ofThing 65 = .ok (.ireturn, 1) := by decide +kernel
theorem dX6_ofThing_66 : decode cX6_ofThing 66 = .ok (.aload_n 0, 1) := by decide +kernel
theorem dX6_ofThing_67 : decode cX6_ofThing 67 = .ok (.getfield 7, 3) := by decide +kernel
theorem dX6_ofThing_70 : decode cX6_ofThing 70 = .ok (.iload_n 1, 1) := by decide +kernel
theorem dX6_ofThing_71 : decode cX6_ofThing 71 = .ok (.iconst 4, 1) := by decide +kernel
theorem dX6_ofThing_72 : decode cX6_ofThing 72 = .ok (.invokestatic 36, 3) := by decide +kernel
theorem dX6_ofThing_75 : decode cX6_ofThing 75 = .ok (.ireturn, 1) := by decide +kernel
theorem dX6_ofThing_76 : decode cX6_ofThing 76 = .ok (.aload_n 0, 1) := by decide +kernel
theorem dX6_ofThing_77 : decode cX6_ofThing 77 = .ok (.iload_n 1, 1) := by decide +kernel
theorem dX6_ofThing_78 : decode cX6_ofThing 78 = .ok (.invokevirtual 150, 3) := by decide +kernel
theorem dX6_ofThing_81 : decode cX6_ofThing 81 = .ok (.ireturn, 1) := by decide +kernel
theorem dX6_ofThing_82 : decode cX6_ofThing 82 = .ok (.aload_n 0, 1) := by decide +kernel
theorem dX6_ofThing_83 : decode cX6_ofThing 83 = .ok (.getfield 7, 3) := by decide +kernel
theorem dX6_ofThing_86 : decode cX6_ofThing 86 = .ok (.iload_n 1, 1) := by decide +kernel
theorem dX6_ofThing_87 : decode cX6_ofThing 87 = .ok (.invokestatic 65, 3) := by decide +kernel
theorem dX6_ofThing_90 : decode cX6_ofThing 90 = .ok (.ireturn, 1) := by decide +kernel
theorem dX6_thing_0 : decode cX6_thing 0 = .ok (.aload_n 0, 1) := by decide +kernel
theorem dX6_thing_1 : decode cX6_thing 1 = .ok (.aload_n 0, 1) := by decide +kernel
theorem dX6_thing_2 : decode cX6_thing 2 = .ok (.getfield 7, 3) := by decide +kernel
theorem dX6_thing_5 : decode cX6_thing 5 = .ok (.iload_n 1, 1) := by decide +kernel
theorem dX6_thing_6 : decode cX6_thing 6 = .ok (.invokestatic 85, 3) := by decide +kernel
theorem dX6_thing_9 : decode cX6_thing 9 = .ok (.ifCond .eq 7, 3) := by decide +kernel
theorem dX6_thing_12 : decode cX6_thing 12 = .ok (.iconst 1, 1) := by decide +kernel
theorem dX6_thing_13 : decode cX6_thing 13 = .ok (.goto 17, 3) := by decide +kernel
theorem dX6_thing_16 : decode cX6_thing 16 = .ok (.iload_n 2, 1) := by decide +kernel
theorem dX6_thing_17 : decode cX6_thing 17 = .ok (.iconst 0, 1) := by decide +kernel
theorem dX6_thing_18 : decode cX6_thing 18 = .ok (.iconst 5, 1) := by decide +kernel
theorem dX6_thing_19 : decode cX6_thing 19 = .ok (.invokestatic 44, 3) := by decide +kernel
theorem dX6_thing_22 : decode cX6_thing 22 = .ok (.ifCond .ne 7, 3) := by decide +kernel
theorem dX6_thing_25 : decode cX6_thing 25 = .ok (.iconst 2, 1) := by decide +kernel
theorem dX6_thing_26 : decode cX6_thing 26 = .ok (.goto 4, 3) := by decide +kernel
theorem dX6_thing_29 : decode cX6_thing 29 = .ok (.iconst 0, 1) := by decide +kernel
theorem dX6_thing_30 : decode cX6_thing 30 = .ok (.invokevirtual 74, 3) := by decide +kernel
theorem dX6_thing_33 : decode cX6_thing 33 = .ok (.ifCond .eq 5, 3) := by decide +kernel
theorem dX6_thing_36 : decode cX6_thing 36 = .ok (.iconst 0, 1) := by decide +kernel
theorem dX6_thing_37 : decode cX6_thing 37 = .ok (.ireturn, 1) := by decide +kernel
theorem dX6_thing_38 : decode cX6_thing 38 = .ok (.aload_n 0, 1) := by decide +kernel
theorem dX6_thing_39 : decode cX6_thing 39 = .ok (.aload_n 0, 1) := by decide +kernel
theorem dX6_thing_40 : decode cX6_thing 40 = .ok (.getfield 7, 3) := by decide +kernel
theorem dX6_thing_43 : decode cX6_thing 43 = .ok (.iload_n 1, 1) := by decide +kernel
theorem dX6_thing_44 : decode cX6_thing 44 = .ok (.sipush 1000, 3) := by decide +kernel
theorem dX6_thing_47 : decode cX6_thing 47 = .ok (.idiv, 1) := by decide +kernel
theorem dX6_thing_48 : decode cX6_thing 48 = .ok (.invokestatic 48, 3) := by decide +kernel
theorem dX6_thing_51 : decode cX6_thing 51 = .ok (.iload_n 2, 1) := by decide +kernel
theorem dX6_thing_52 : decode cX6_thing 52 = .ok (.invokevirtual 153, 3) := by decide +kernel
theorem dX6_thing_55 : decode cX6_thing 55 = .ok (.ireturn, 1) := by decide +kernel
theorem dX6_at_0 : decode cX6_at 0 = .ok (.aload_n 0, 1) := by decide +kernel
theorem dX6_at_1 : decode cX6_at 1 = .ok (.iload_n 1, 1) := by decide +kernel
theorem dX6_at_2 : decode cX6_at 2 = .ok (.ifCond .ge 7, 3) := by decide +kernel
theorem dX6_at_5 : decode cX6_at 5 = .ok (.iconst 1, 1) := by decide +kernel
theorem dX6_at_6 : decode cX6_at 6 = .ok (.goto 4, 3) := by decide +kernel
theorem dX6_at_9 : decode cX6_at 9 = .ok (.iconst 0, 1) := by decide +kernel
theorem dX6_at_10 : decode cX6_at 10 = .ok (.invokevirtual 74, 3) := by decide +kernel
theorem dX6_at_13 : decode cX6_at 13 = .ok (.ifCond .eq 5, 3) := by decide +kernel
theorem dX6_at_16 : decode cX6_at 16 = .ok (.iconst 0, 1) := by decide +kernel
theorem dX6_at_17 : decode cX6_at 17 = .ok (.ireturn, 1) := by decide +kernel
theorem dX6_at_18 : decode cX6_at 18 = .ok (.iconst 0, 1) := by decide +kernel
theorem dX6_at_19 : decode cX6_at 19 = .ok (.istore_n 2, 1) := by decide +kernel
theorem dX6_at_20 : decode cX6_at 20 = .ok (.iload_n 2, 1) := by decide +kernel
theorem dX6_at_21 : decode cX6_at 21 = .ok (.aload_n 0, 1) := by decide +kernel
theorem dX6_at_22 : decode cX6_at 22 = .ok (.getfield 7, 3) := by decide +kernel
theorem dX6_at_25 : decode cX6_at 25 = .ok (.iconst 1, 1) := by decide +kernel
theorem dX6_at_26 : decode cX6_at 26 = .ok (.iaload, 1) := by decide +kernel
theorem dX6_at_27 : decode cX6_at 27 = .ok (.if_icmp .ge 38, 3) := by decide +kernel
theorem dX6_at_30 : decode cX6_at 30 = .ok (.aload_n 0, 1) := by decide +kernel
theorem dX6_at_31 : decode cX6_at 31 = .ok (.getfield 7, 3) := by decide +kernel
theorem dX6_at_34 : decode cX6_at 34 = .ok (.iload_n 2, 1) := by decide +kernel
theorem dX6_at_35 : decode cX6_at 35 = .ok (.invokestatic 40, 3) := by decide +kernel
theorem dX6_at_38 : decode cX6_at 38 = .ok (.ifCond .eq 21, 3) := by decide +kernel
theorem dX6_at_41 : decode cX6_at 41 = .ok (.aload_n 0, 1) := by decide +kernel
theorem dX6_at_42 : decode cX6_at 42 = .ok (.iload_n 2, 1) := by decide +kernel
theorem dX6_at_43 : decode cX6_at 43 = .ok (.invokevirtual 150, 3) := by decide +kernel
theorem dX6_at_46 : decode cX6_at 46 = .ok (.iload_n 1, 1) := by decide +kernel
theorem dX6_at_47 : decode cX6_at 47 = .ok (.if_icmp .ne 12, 3) := by decide +kernel
theorem dX6_at_50 : decode cX6_at 50 = .ok (.aload_n 0, 1) := by decide +kernel
theorem dX6_at_51 : decode cX6_at 51 = .ok (.getfield 7, 3) := by decide +kernel
theorem dX6_at_54 : decode cX6_at 54 = .ok (.iload_n 2, 1) := by decide +kernel
theorem dX6_at_55 : decode cX6_at 55 = .ok (.invokestatic 101, 3) := by decide +kernel
theorem dX6_at_58 : decode cX6_at 58 = .ok (.ireturn, 1) := by decide +kernel
theorem dX6_at_59 : decode cX6_at 59 = .ok (.iinc 2 1, 3) := by decide +kernel
theorem dX6_at_62 : decode cX6_at 62 = .ok (.goto (-42), 3) := by decide +kernel
theorem dX6_at_65 : decode cX6_at 65 = .ok (.iconst (-1), 1) := by decide +kernel
theorem dX6_at_66 : decode cX6_at 66 = .ok (.ireturn, 1) := by decide +kernel
theorem dX6_ofCell_0 : decode cX6_ofCell 0 = .ok (.aload_n 0, 1) := by decide +kernel
theorem dX6_ofCell_1 : decode cX6_ofCell 1 = .ok (.getfield 7, 3) := by decide +kernel
theorem dX6_ofCell_4 : decode cX6_ofCell 4 = .ok (.iload_n 1, 1) := by decide +kernel
theorem dX6_ofCell_5 : decode cX6_ofCell 5 = .ok (.invokestatic 48, 3) := by decide +kernel
theorem dX6_ofCell_8 : decode cX6_ofCell 8 = .ok (.istore_n 2, 1) := by decide +kernel
theorem dX6_ofCell_9 : decode cX6_ofCell 9 = .ok (.iload_n 2, 1) := by decide +kernel
theorem dX6_ofCell_10 : decode cX6_ofCell 10 = .ok (.iconst (-1), 1) := by decide +kernel
theorem dX6_ofCell_11 : decode cX6_ofCell 11 = .ok (.if_icmp .ne 7, 3) := by decide +kernel
theorem dX6_ofCell_14 : decode cX6_ofCell 14 = .ok (.iconst (-1), 1) := by decide +kernel
theorem dX6_ofCell_15 : decode cX6_ofCell 15 = .ok (.goto 11, 3) := by decide +kernel
theorem dX6_ofCell_18 : decode cX6_ofCell 18 = .ok (.aload_n 0, 1) := by decide +kernel
theorem dX6_ofCell_19 : decode cX6_ofCell 19 = .ok (.getfield 7, 3) := by decide +kernel
theorem dX6_ofCell_22 : decode cX6_ofCell 22 = .ok (.iload_n 2, 1) := by decide +kernel
theorem dX6_ofCell_23 : decode cX6_ofCell 23 = .ok (.invokestatic 101, 3) := by decide +kernel
theorem dX6_ofCell_26 : decode cX6_ofCell 26 = .ok (.ireturn, 1) := by decide +kernel
theorem dX6_cell_0 : decode cX6_cell 0 = .ok (.aload_n 0, 1) := by decide +kernel
theorem dX6_cell_1 : decode cX6_cell 1 = .ok (.iload_n 1, 1) := by decide +kernel
theorem dX6_cell_2 : decode cX6_cell 2 = .ok (.iconst 0, 1) := by decide +kernel
theorem dX6_cell_3 : decode cX6_cell 3 = .ok (.aload_n 0, 1) := by decide +kernel
theorem dX6_cell_4 : decode cX6_cell 4 = .ok (.getfield 7, 3) := by decide +kernel
theorem dX6_cell_7 : decode cX6_cell 7 = .ok (.iconst 0, 1) := by decide +kernel
theorem dX6_cell_8 : decode cX6_cell 8 = .ok (.iaload, 1) := by decide +kernel
theorem dX6_cell_9 : decode cX6_cell 9 = .ok (.iconst 1, 1) := by decide +kernel
theorem dX6_cell_10 : decode cX6_cell 10 = .ok (.isub, 1) := by decide +kernel
theorem dX6_cell_11 : decode cX6_cell 11 = .ok (.invokestatic 44, 3) := by decide +kernel
theorem dX6_cell_14 : decode cX6_cell 14 = .ok (.ifCond .ne 7, 3) := by decide +kernel
theorem dX6_cell_17 : decode cX6_cell 17 = .ok (.iconst 1, 1) := by decide +kernel
theorem dX6_cell_18 : decode cX6_cell 18 = .ok (.goto 17, 3) := by decide +kernel
theorem dX6_cell_21 : decode cX6_cell 21 = .ok (.iload_n 2, 1) := by decide +kernel
theorem dX6_cell_22 : decode cX6_cell 22 = .ok (.iconst 0, 1) := by decide +kernel
theorem dX6_cell_23 : decode cX6_cell 23 = .ok (.iconst 1, 1) := by decide +kernel
theorem dX6_cell_24 : decode cX6_cell 24 = .ok (.invokestatic 44, 3) := by decide +kernel
theorem dX6_cell_27 : decode cX6_cell 27 = .ok (.ifCond .ne 7, 3) := by decide +kernel
theorem dX6_cell_30 : decode cX6_cell 30 = .ok (.iconst 2, 1) := by decide +kernel
theorem dX6_cell_31 : decode cX6_cell 31 = .ok (.goto 4, 3) := by decide +kernel
theorem dX6_cell_34 : decode cX6_cell 34 = .ok (.iconst 0, 1) := by decide +kernel
theorem dX6_cell_35 : decode cX6_cell 35 = .ok (.invokevirtual 74, 3) := by decide +kernel
theorem dX6_cell_38 : decode cX6_cell 38 = .ok (.ifCond .eq 5, 3) := by decide +kernel
theorem dX6_cell_41 : decode cX6_cell 41 = .ok (.iconst 0, 1) := by decide +kernel
theorem dX6_cell_42 : decode cX6_cell 42 = .ok (.ireturn, 1) := by decide +kernel
theorem dX6_cell_43 : decode cX6_cell 43 = .ok (.iload_n 2, 1) := by decide +kernel
theorem dX6_cell_44 : decode cX6_cell 44 = .ok (.ifCond .ne 15, 3) := by decide +kernel
theorem dX6_cell_47 : decode cX6_cell 47 = .ok (.aload_n 0, 1) := by decide +kernel
theorem dX6_cell_48 : decode cX6_cell 48 = .ok (.getfield 7, 3) := by decide +kernel
theorem dX6_cell_51 : decode cX6_cell 51 = .ok (.bipush 6, 2) := by decide +kernel
theorem dX6_cell_53 : decode cX6_cell 53 = .ok (.iload_n 1, 1) := by decide +kernel
theorem dX6_cell_54 : decode cX6_cell 54 = .ok (.iadd, 1) := by decide +kernel
theorem dX6_cell_55 : decode cX6_cell 55 = .ok (.iaload, 1) := by decide +kernel
theorem dX6_cell_56 : decode cX6_cell 56 = .ok (.goto 8, 3) := by decide +kernel
theorem dX6_cell_59 : decode cX6_cell 59 = .ok (.aload_n 0, 1) := by decide +kernel
theorem dX6_cell_60 : decode cX6_cell 60 = .ok (.iload_n 1, 1) := by decide +kernel
theorem dX6_cell_61 : decode cX6_cell 61 = .ok (.invokevirtual 157, 3) := by decide +kernel
theorem dX6_cell_64 : decode cX6_cell 64 = .ok (.ireturn, 1) := by decide +kernel
theorem dX6_behind_0 : decode cX6_behind 0 = .ok (.aload_n 0, 1) := by decide +kernel
theorem dX6_behind_1 : decode cX6_behind 1 = .ok (.getfield 7, 3) := by decide +kernel
theorem dX6_behind_4 : decode cX6_behind 4 = .ok (.sipush 410, 3) := by decide +kernel
theorem dX6_behind_7 : decode cX6_behind 7 = .ok (.iload_n 1, 1) := by decide +kernel
theorem dX6_behind_8 : decode cX6_behind 8 = .ok (.iadd, 1) := by decide +kernel
theorem dX6_behind_9 : decode cX6_behind 9 = .ok (.iaload, 1) := by decide +kernel
theorem dX6_behind_10 : decode cX6_behind 10 = .ok (.istore_n 2, 1) := by decide +kernel
theorem dX6_behind_11 : decode cX6_behind 11 = .ok (.iload_n 2, 1) := by decide +kernel
theorem dX6_behind_12 : decode cX6_behind 12 = .ok (.bipush 99, 2) := by decide +kernel
theorem dX6_behind_14 : decode cX6_behind 14 = .ok (.if_icmp .ne 7, 3) := by decide +kernel
theorem dX6_behind_17 : decode cX6_behind 17 = .ok (.iconst 0, 1) := by decide +kernel
theorem dX6_behind_18 : decode cX6_behind 18 = .ok (.goto 26, 3) := by decide +kernel
theorem dX6_behind_21 : decode cX6_behind 21 = .ok (.aload_n 0, 1) := by decide +kernel
theorem dX6_behind_22 : decode cX6_behind 22 = .ok (.getfield 7, 3) := by decide +kernel
theorem dX6_behind_25 : decode cX6_behind 25 = .ok (.invokestatic 111, 3) := by decide +kernel
theorem dX6_behind_28 : decode cX6_behind 28 = .ok (.aload_n 0, 1) := by decide +kernel
theorem dX6_behind_29 : decode cX6_behind 29 = .ok (.iload_n 2, 1) := by decide +kernel
theorem dX6_behind_30 : decode cX6_behind 30 = .ok (.ifCond .ge 7, 3) := by decide +kernel
theorem dX6_behind_33 : decode cX6_behind 33 = .ok (.iconst 0, 1) := by decide +kernel
theorem dX6_behind_34 : decode cX6_behind 34 = .ok (.goto 6, 3) := by decide +kernel
theorem dX6_behind_37 : decode cX6_behind 37 = .ok (.iload_n 2, 1) := by decide +kernel
theorem dX6_behind_38 : decode cX6_behind 38 = .ok (.iconst 1, 1) := by decide +kernel
theorem dX6_behind_39 : decode cX6_behind 39 = .ok (.iadd, 1) := by decide +kernel
theorem dX6_behind_40 : decode cX6_behind 40 = .ok (.invokevirtual 150, 3) := by decide +kernel
theorem dX6_behind_43 : decode cX6_behind 43 = .ok (.isub, 1) := by decide +kernel
theorem dX6_behind_44 : decode cX6_behind 44 = .ok (.ireturn, 1) := by decide +kernel
theorem dX6_ofWalker_0 : decode cX6_ofWalker 0 = .ok (.iload_n 2, 1) := by decide +kernel
theorem dX6_ofWalker_1 : decode cX6_ofWalker 1 = .ok (.ifCond .ne 14, 3) := by decide +kernel
theorem dX6_ofWalker_4 : decode cX6_ofWalker 4 = .ok (.aload_n 0, 1) := by decide +kernel
theorem dX6_ofWalker_5 : decode cX6_ofWalker 5 = .ok (.getfield 7, 3) := by decide +kernel
theorem dX6_ofWalker_8 : decode cX6_ofWalker 8 = .ok (.iload_n 1, 1) := by decide +kernel
theorem dX6_ofWalker_9 : decode cX6_ofWalker 9 = .ok (.invokestatic 94, 3) := by decide +kernel
theorem dX6_ofWalker_12 : decode cX6_ofWalker 12 = .ok (.goto 21, 3) := by decide +kernel
theorem dX6_ofWalker_15 : decode cX6_ofWalker 15 = .ok (.iload_n 2, 1) := by decide +kernel
theorem dX6_ofWalker_16 : decode cX6_ofWalker 16 = .ok (.iconst 1, 1) := by decide +kernel
theorem dX6_ofWalker_17 : decode cX6_ofWalker 17 = .ok (.if_icmp .ne 11, 3) := by decide +kernel
theorem dX6_ofWalker_20 : decode cX6_ofWalker 20 = .ok (.aload_n 0, 1) := by decide +kernel
theorem dX6_ofWalker_21 : decode cX6_ofWalker 21 = .ok (.iload_n 1, 1) := by decide +kernel
theorem dX6_ofWalker_22 : decode cX6_ofWalker 22 = .ok (.invokevirtual 107, 3) := by decide +kernel
theorem dX6_ofWalker_25 : decode cX6_ofWalker 25 = .ok (.goto 8, 3) := by decide +kernel
theorem dX6_ofWalker_28 : decode cX6_ofWalker 28 = .ok (.aload_n 0, 1) := by decide +kernel
theorem dX6_ofWalker_29 : decode cX6_ofWalker 29 = .ok (.iload_n 1, 1) := by decide +kernel
theorem dX6_ofWalker_30 : decode cX6_ofWalker 30 = .ok (.invokevirtual 160, 3) := by decide +kernel
theorem dX6_ofWalker_33 : decode cX6_ofWalker 33 = .ok (.ireturn, 1) := by decide +kernel
theorem dX6_walker_0 : decode cX6_walker 0 = .ok (.aload_n 0, 1) := by decide +kernel
theorem dX6_walker_1 : decode cX6_walker 1 = .ok (.iload_n 1, 1) := by decide +kernel
theorem dX6_walker_2 : decode cX6_walker 2 = .ok (.invokestatic 91, 3) := by decide +kernel
theorem dX6_walker_5 : decode cX6_walker 5 = .ok (.ifCond .ne 7, 3) := by decide +kernel
theorem dX6_walker_8 : decode cX6_walker 8 = .ok (.iconst 1, 1) := by decide +kernel
theorem dX6_walker_9 : decode cX6_walker 9 = .ok (.goto 17, 3) := by decide +kernel
theorem dX6_walker_12 : decode cX6_walker 12 = .ok (.iload_n 2, 1) := by decide +kernel
theorem dX6_walker_13 : decode cX6_walker 13 = .ok (.iconst 0, 1) := by decide +kernel
theorem dX6_walker_14 : decode cX6_walker 14 = .ok (.iconst 2, 1) := by decide +kernel
theorem dX6_walker_15 : decode cX6_walker 15 = .ok (.invokestatic 44, 3) := by decide +kernel
theorem dX6_walker_18 : decode cX6_walker 18 = .ok (.ifCond .ne 7, 3) := by decide +kernel
theorem dX6_walker_21 : decode cX6_walker 21 = .ok (.iconst 2, 1) := by decide +kernel
theorem dX6_walker_22 : decode cX6_walker 22 = .ok (.goto 4, 3) := by decide +kernel
theorem dX6_walker_25 : decode cX6_walker 25 = .ok (.iconst 0, 1) := by decide +kernel
theorem dX6_walker_26 : decode cX6_walker 26 = .ok (.invokevirtual 74, 3) := by decide +kernel
theorem dX6_walker_29 : decode cX6_walker 29 = .ok (.ifCond .eq 7, 3) := by decide +kernel
theorem dX6_walker_32 : decode cX6_walker 32 = .ok (.iconst 0, 1) := by decide +kernel
theorem dX6_walker_33 : decode cX6_walker 33 = .ok (.goto 9, 3) := by decide +kernel
theorem dX6_walker_36 : decode cX6_walker 36 = .ok (.aload_n 0, 1) := by decide +kernel
theorem dX6_walker_37 : decode cX6_walker 37 = .ok (.iload_n 1, 1) := by decide +kernel
theorem dX6_walker_38 : decode cX6_walker 38 = .ok (.iload_n 2, 1) := by decide +kernel
theorem dX6_walker_39 : decode cX6_walker 39 = .ok (.invokevirtual 163, 3) := by decide +kernel
theorem dX6_walker_42 : decode cX6_walker 42 = .ok (.ireturn, 1) := by decide +kernel
theorem dX6_used_0 : decode cX6_used 0 = .ok (.iconst 0, 1) := by decide +kernel
theorem dX6_used_1 : decode cX6_used 1 = .ok (.istore_n 1, 1) := by decide +kernel
theorem dX6_used_2 : decode cX6_used 2 = .ok (.iconst 0, 1) := by decide +kernel
theorem dX6_used_3 : decode cX6_used 3 = .ok (.istore_n 2, 1) := by decide +kernel
theorem dX6_used_4 : decode cX6_used 4 = .ok (.iload_n 2, 1) := by decide +kernel
theorem dX6_used_5 : decode cX6_used 5 = .ok (.aload_n 0, 1) := by decide +kernel
theorem dX6_used_6 : decode cX6_used 6 = .ok (.getfield 7, 3) := by decide +kernel
theorem dX6_used_9 : decode cX6_used 9 = .ok (.iconst 1, 1) := by decide +kernel
theorem dX6_used_10 : decode cX6_used 10 = .ok (.iaload, 1) := by decide +kernel
theorem dX6_used_11 : decode cX6_used 11 = .ok (.if_icmp .ge 21, 3) := by decide +kernel
theorem dX6_used_14 : decode cX6_used 14 = .ok (.iload_n 1, 1) := by decide +kernel
theorem dX6_used_15 : decode cX6_used 15 = .ok (.aload_n 0, 1) := by decide +kernel
theorem dX6_used_16 : decode cX6_used 16 = .ok (.getfield 7, 3) := by decide +kernel
theorem dX6_used_19 : decode cX6_used 19 = .ok (.iload_n 2, 1) := by decide +kernel
theorem dX6_used_20 : decode cX6_used 20 = .ok (.iconst 1, 1) := by decide +kernel
theorem dX6_used_21 : decode cX6_used 21 = .ok (.invokestatic 36, 3) := by decide +kernel
theorem dX6_used_24 : decode cX6_used 24 = .ok (.iadd, 1) := by decide +kernel
theorem dX6_used_25 : decode cX6_used 25 = .ok (.istore_n 1, 1) := by decide +kernel
theorem dX6_used_26 : decode cX6_used 26 = .ok (.iinc 2 1, 3) := by decide +kernel
theorem dX6_used_29 : decode cX6_used 29 = .ok (.goto (-25), 3) := by decide +kernel
theorem dX6_used_32 : decode cX6_used 32 = .ok (.iload_n 1, 1) := by decide +kernel
theorem dX6_used_33 : decode cX6_used 33 = .ok (.ireturn, 1) := by decide +kernel
theorem dX6_values_0 : decode cX6_values 0 = .ok (.iconst 0, 1) := by decide +kernel
theorem dX6_values_1 : decode cX6_values 1 = .ok (.istore_n 1, 1) := by decide +kernel
theorem dX6_values_2 : decode cX6_values 2 = .ok (.iconst 0, 1) := by decide +kernel
theorem dX6_values_3 : decode cX6_values 3 = .ok (.istore_n 2, 1) := by decide +kernel
theorem dX6_values_4 : decode cX6_values 4 = .ok (.iload_n 2, 1) := by decide +kernel
theorem dX6_values_5 : decode cX6_values 5 = .ok (.aload_n 0, 1) := by decide +kernel
theorem dX6_values_6 : decode cX6_values 6 = .ok (.getfield 7, 3) := by decide +kernel
theorem dX6_values_9 : decode cX6_values 9 = .ok (.iconst 1, 1) := by decide +kernel
theorem dX6_values_10 : decode cX6_values 10 = .ok (.iaload, 1) := by decide +kernel
theorem dX6_values_11 : decode cX6_values 11 = .ok (.if_icmp .ge 21, 3) := by decide +kernel
theorem dX6_values_14 : decode cX6_values 14 = .ok (.iload_n 1, 1) := by decide +kernel
theorem dX6_values_15 : decode cX6_values 15 = .ok (.aload_n 0, 1) := by decide +kernel
theorem dX6_values_16 : decode cX6_values 16 = .ok (.getfield 7, 3) := by decide +kernel
theorem dX6_values_19 : decode cX6_values 19 = .ok (.iload_n 2, 1) := by decide +kernel
theorem dX6_values_20 : decode cX6_values 20 = .ok (.iconst 2, 1) := by decide +kernel
theorem dX6_values_21 : decode cX6_values 21 = .ok (.invokestatic 36, 3) := by decide +kernel
theorem dX6_values_24 : decode cX6_values 24 = .ok (.iadd, 1) := by decide +kernel
theorem dX6_values_25 : decode cX6_values 25 = .ok (.istore_n 1, 1) := by decide +kernel
theorem dX6_values_26 : decode cX6_values 26 = .ok (.iinc 2 1, 3) := by decide +kernel
theorem dX6_values_29 : decode cX6_values 29 = .ok (.goto (-25), 3) := by decide +kernel
theorem dX6_values_32 : decode cX6_values 32 = .ok (.iload_n 1, 1) := by decide +kernel
theorem dX6_values_33 : decode cX6_values 33 = .ok (.ireturn, 1) := by decide +kernel
theorem dX6_counted_0 : decode cX6_counted 0 = .ok (.iload_n 1, 1) := by decide +kernel
theorem dX6_counted_1 : decode cX6_counted 1 = .ok (.tableswitch 109 0 8 #[51, 59, 74, 81, 93, 98, 98, 98, 98], 51) := by decide +kernel
theorem dX6_counted_52 : decode cX6_counted 52 = .ok (.aload_n 0, 1) := by decide +kernel
theorem dX6_counted_53 : decode cX6_counted 53 = .ok (.getfield 7, 3) := by decide +kernel
theorem dX6_counted_56 : decode cX6_counted 56 = .ok (.invokestatic 111, 3) := by decide +kernel
theorem dX6_counted_59 : decode cX6_counted 59 = .ok (.ireturn, 1) := by decide +kernel
theorem dX6_counted_60 : decode cX6_counted 60 = .ok (.aload_n 0, 1) := by decide +kernel
theorem dX6_counted_61 : decode cX6_counted 61 = .ok (.getfield 7, 3) := by decide +kernel
theorem dX6_counted_64 : decode cX6_counted 64 = .ok (.iconst 1, 1) := by decide +kernel
theorem dX6_counted_65 : decode cX6_counted 65 = .ok (.iaload, 1) := by decide +kernel
theorem dX6_counted_66 : decode cX6_counted 66 = .ok (.aload_n 0, 1) := by decide +kernel
theorem dX6_counted_67 : decode cX6_counted 67 = .ok (.getfield 7, 3) := by decide +kernel
theorem dX6_counted_70 : decode cX6_counted 70 = .ok (.invokestatic 111, 3) := by decide +kernel
theorem dX6_counted_73 : decode cX6_counted 73 = .ok (.isub, 1) := by decide +kernel
theorem dX6_counted_74 : decode cX6_counted 74 = .ok (.ireturn, 1) := by decide +kernel
theorem dX6_counted_75 : decode cX6_counted 75 = .ok (.aload_n 0, 1) := by decide +kernel
theorem dX6_counted_76 : decode cX6_counted 76 = .ok (.getfield 7, 3) := by decide +kernel
theorem dX6_counted_79 : decode cX6_counted 79 = .ok (.iconst 0, 1) := by decide +kernel
theorem dX6_counted_80 : decode cX6_counted 80 = .ok (.iaload, 1) := by decide +kernel
theorem dX6_counted_81 : decode cX6_counted 81 = .ok (.ireturn, 1) := by decide +kernel
theorem dX6_counted_82 : decode cX6_counted 82 = .ok (.aload_n 0, 1) := by decide +kernel
theorem dX6_counted_83 : decode cX6_counted 83 = .ok (.getfield 7, 3) := by decide +kernel
theorem dX6_counted_86 : decode cX6_counted 86 = .ok (.iconst 0, 1) := by decide +kernel
theorem dX6_counted_87 : decode cX6_counted 87 = .ok (.iaload, 1) := by decide +kernel
theorem dX6_counted_88 : decode cX6_counted 88 = .ok (.aload_n 0, 1) := by decide +kernel
theorem dX6_counted_89 : decode cX6_counted 89 = .ok (.invokevirtual 166, 3) := by decide +kernel
theorem dX6_counted_92 : decode cX6_counted 92 = .ok (.isub, 1) := by decide +kernel
theorem dX6_counted_93 : decode cX6_counted 93 = .ok (.ireturn, 1) := by decide +kernel
theorem dX6_counted_94 : decode cX6_counted 94 = .ok (.aload_n 0, 1) := by decide +kernel
theorem dX6_counted_95 : decode cX6_counted 95 = .ok (.invokevirtual 170, 3) := by decide +kernel
theorem dX6_counted_98 : decode cX6_counted 98 = .ok (.ireturn, 1) := by decide +kernel
theorem dX6_counted_99 : decode cX6_counted 99 = .ok (.aload_n 0, 1) := by decide +kernel
theorem dX6_counted_100 : decode cX6_counted 100 = .ok (.getfield 7, 3) := by decide +kernel
theorem dX6_counted_103 : decode cX6_counted 103 = .ok (.iconst 2, 1) := by decide +kernel
theorem dX6_counted_104 : decode cX6_counted 104 = .ok (.iload_n 1, 1) := by decide +kernel
theorem dX6_counted_105 : decode cX6_counted 105 = .ok (.iadd, 1) := by decide +kernel
theorem dX6_counted_106 : decode cX6_counted 106 = .ok (.iconst 5, 1) := by decide +kernel
theorem dX6_counted_107 : decode cX6_counted 107 = .ok (.isub, 1) := by decide +kernel
theorem dX6_counted_108 : decode cX6_counted 108 = .ok (.iaload, 1) := by decide +kernel
theorem dX6_counted_109 : decode cX6_counted 109 = .ok (.ireturn, 1) := by decide +kernel
theorem dX6_counted_110 : decode cX6_counted 110 = .ok (.aload_n 0, 1) := by decide +kernel
theorem dX6_counted_111 : decode cX6_counted 111 = .ok (.getfield 29, 3) := by decide +kernel
theorem dX6_counted_114 : decode cX6_counted 114 = .ok (.ireturn, 1) := by decide +kernel
theorem dX6_count_0 : decode cX6_count 0 = .ok (.aload_n 0, 1) := by decide +kernel
theorem dX6_count_1 : decode cX6_count 1 = .ok (.iload_n 1, 1) := by decide +kernel
theorem dX6_count_2 : decode cX6_count 2 = .ok (.iconst 0, 1) := by decide +kernel
theorem dX6_count_3 : decode cX6_count 3 = .ok (.bipush 9, 2) := by decide +kernel
theorem dX6_count_5 : decode cX6_count 5 = .ok (.invokestatic 44, 3) := by decide +kernel
theorem dX6_count_8 : decode cX6_count 8 = .ok (.ifCond .eq 7, 3) := by decide +kernel
theorem dX6_count_11 : decode cX6_count 11 = .ok (.iconst 0, 1) := by decide +kernel
theorem dX6_count_12 : decode cX6_count 12 = .ok (.goto 4, 3) := by decide +kernel
theorem dX6_count_15 : decode cX6_count 15 = .ok (.iconst 1, 1) := by decide +kernel
theorem dX6_count_16 : decode cX6_count 16 = .ok (.invokevirtual 74, 3) := by decide +kernel
theorem dX6_count_19 : decode cX6_count 19 = .ok (.ifCond .eq 7, 3) := by decide +kernel
theorem dX6_count_22 : decode cX6_count 22 = .ok (.iconst 0, 1) := by decide +kernel
theorem dX6_count_23 : decode cX6_count 23 = .ok (.goto 8, 3) := by decide +kernel
theorem dX6_count_26 : decode cX6_count 26 = .ok (.aload_n 0, 1) := by decide +kernel
theorem dX6_count_27 : decode cX6_count 27 = .ok (.iload_n 1, 1) := by decide +kernel
theorem dX6_count_28 : decode cX6_count 28 = .ok (.invokevirtual 173, 3) := by decide +kernel
theorem dX6_count_31 : decode cX6_count 31 = .ok (.ireturn, 1) := by decide +kernel
theorem dX6_beginsAt_0 : decode cX6_beginsAt 0 = .ok (.aload_n 0, 1) := by decide +kernel
theorem dX6_beginsAt_1 : decode cX6_beginsAt 1 = .ok (.getfield 7, 3) := by decide +kernel
theorem dX6_beginsAt_4 : decode cX6_beginsAt 4 = .ok (.iload_n 1, 1) := by decide +kernel
theorem dX6_beginsAt_5 : decode cX6_beginsAt 5 = .ok (.invokestatic 58, 3) := by decide +kernel
theorem dX6_beginsAt_8 : decode cX6_beginsAt 8 = .ok (.istore_n 2, 1) := by decide +kernel
theorem dX6_beginsAt_9 : decode cX6_beginsAt 9 = .ok (.iload_n 2, 1) := by decide +kernel
theorem dX6_beginsAt_10 : decode cX6_beginsAt 10 = .ok (.iconst (-1), 1) := by decide +kernel
theorem dX6_beginsAt_11 : decode cX6_beginsAt 11 = .ok (.if_icmp .ne 7, 3) := by decide +kernel
theorem dX6_beginsAt_14 : decode cX6_beginsAt 14 = .ok (.iconst (-1), 1) := by decide +kernel
theorem dX6_beginsAt_15 : decode cX6_beginsAt 15 = .ok (.goto 12, 3) := by decide +kernel
theorem dX6_beginsAt_18 : decode cX6_beginsAt 18 = .ok (.aload_n 0, 1) := by decide +kernel
theorem dX6_beginsAt_19 : decode cX6_beginsAt 19 = .ok (.getfield 7, 3) := by decide +kernel
theorem dX6_beginsAt_22 : decode cX6_beginsAt 22 = .ok (.iload_n 1, 1) := by decide +kernel
theorem dX6_beginsAt_23 : decode cX6_beginsAt 23 = .ok (.iload_n 2, 1) := by decide +kernel
theorem dX6_beginsAt_24 : decode cX6_beginsAt 24 = .ok (.invokestatic 55, 3) := by decide +kernel
theorem dX6_beginsAt_27 : decode cX6_beginsAt 27 = .ok (.ireturn, 1) := by decide +kernel
theorem dX6_begins_0 : decode cX6_begins 0 = .ok (.aload_n 0, 1) := by decide +kernel
theorem dX6_begins_1 : decode cX6_begins 1 = .ok (.iload_n 1, 1) := by decide +kernel
theorem dX6_begins_2 : decode cX6_begins 2 = .ok (.iconst 1, 1) := by decide +kernel
theorem dX6_begins_3 : decode cX6_begins 3 = .ok (.iconst 4, 1) := by decide +kernel
theorem dX6_begins_4 : decode cX6_begins 4 = .ok (.invokestatic 44, 3) := by decide +kernel
theorem dX6_begins_7 : decode cX6_begins 7 = .ok (.ifCond .eq 7, 3) := by decide +kernel
theorem dX6_begins_10 : decode cX6_begins 10 = .ok (.iconst 0, 1) := by decide +kernel
theorem dX6_begins_11 : decode cX6_begins 11 = .ok (.goto 4, 3) := by decide +kernel
theorem dX6_begins_14 : decode cX6_begins 14 = .ok (.iconst 1, 1) := by decide +kernel
theorem dX6_begins_15 : decode cX6_begins 15 = .ok (.invokevirtual 74, 3) := by decide +kernel
theorem dX6_begins_18 : decode cX6_begins 18 = .ok (.ifCond .eq 7, 3) := by decide +kernel
theorem dX6_begins_21 : decode cX6_begins 21 = .ok (.iconst 0, 1) := by decide +kernel
theorem dX6_begins_22 : decode cX6_begins 22 = .ok (.goto 8, 3) := by decide +kernel
theorem dX6_begins_25 : decode cX6_begins 25 = .ok (.aload_n 0, 1) := by decide +kernel
theorem dX6_begins_26 : decode cX6_begins 26 = .ok (.iload_n 1, 1) := by decide +kernel
theorem dX6_begins_27 : decode cX6_begins 27 = .ok (.invokevirtual 176, 3) := by decide +kernel
theorem dX6_begins_30 : decode cX6_begins 30 = .ok (.ireturn, 1) := by decide +kernel
theorem dX6_longest_0 : decode cX6_longest 0 = .ok (.iconst (-1), 1) := by decide +kernel
theorem dX6_longest_1 : decode cX6_longest 1 = .ok (.istore_n 2, 1) := by decide +kernel
theorem dX6_longest_2 : decode cX6_longest 2 = .ok (.iconst 0, 1) := by decide +kernel
theorem dX6_longest_3 : decode cX6_longest 3 = .ok (.istore_n 3, 1) := by decide +kernel
theorem dX6_longest_4 : decode cX6_longest 4 = .ok (.iconst 0, 1) := by decide +kernel
theorem dX6_longest_5 : decode cX6_longest 5 = .ok (.istore 4, 2) := by decide +kernel
theorem dX6_longest_7 : decode cX6_longest 7 = .ok (.iload 4, 2) := by decide +kernel
theorem dX6_longest_9 : decode cX6_longest 9 = .ok (.aload_n 0, 1) := by decide +kernel
theorem dX6_longest_10 : decode cX6_longest 10 = .ok (.getfield 7, 3) := by decide +kernel
theorem dX6_longest_13 : decode cX6_longest 13 = .ok (.iconst 0, 1) := by decide +kernel
theorem dX6_longest_14 : decode cX6_longest 14 = .ok (.iaload, 1) := by decide +kernel
theorem dX6_longest_15 : decode cX6_longest 15 = .ok (.if_icmp .ge 52, 3) := by decide +kernel
theorem dX6_longest_18 : decode cX6_longest 18 = .ok (.aload_n 0, 1) := by decide +kernel
theorem dX6_longest_19 : decode cX6_longest 19 = .ok (.getfield 7, 3) := by decide +kernel
theorem dX6_longest_22 : decode cX6_longest 22 = .ok (.iload 4, 2) := by decide +kernel
theorem dX6_longest_24 : decode cX6_longest 24 = .ok (.aload_n 0, 1) := by decide +kernel
theorem dX6_longest_25 : decode cX6_longest 25 = .ok (.getfield 7, 3) := by decide +kernel
theorem dX6_longest_28 : decode cX6_longest 28 = .ok (.iconst 0, 1) := by decide +kernel
theorem dX6_longest_29 : decode cX6_longest 29 = .ok (.iaload, 1) := by decide +kernel
theorem dX6_longest_30 : decode cX6_longest 30 = .ok (.invokestatic 52, 3) := by decide +kernel
theorem dX6_longest_33 : decode cX6_longest 33 = .ok (.istore 5, 2) := by decide +kernel
theorem dX6_longest_35 : decode cX6_longest 35 = .ok (.iload 5, 2) := by decide +kernel
theorem dX6_longest_37 : decode cX6_longest 37 = .ok (.iload_n 3, 1) := by decide +kernel
theorem dX6_longest_38 : decode cX6_longest 38 = .ok (.if_icmp .le 8, 3) := by decide +kernel
theorem dX6_longest_41 : decode cX6_longest 41 = .ok (.iload 4, 2) := by decide +kernel
theorem dX6_longest_43 : decode cX6_longest 43 = .ok (.goto 4, 3) := by decide +kernel
theorem dX6_longest_46 : decode cX6_longest 46 = .ok (.iload_n 2, 1) := by decide +kernel
theorem dX6_longest_47 : decode cX6_longest 47 = .ok (.istore_n 2, 1) := by decide +kernel
theorem dX6_longest_48 : decode cX6_longest 48 = .ok (.iload 5, 2) := by decide +kernel
theorem dX6_longest_50 : decode cX6_longest 50 = .ok (.iload_n 3, 1) := by decide +kernel
theorem dX6_longest_51 : decode cX6_longest 51 = .ok (.if_icmp .le 8, 3) := by decide +kernel
theorem dX6_longest_54 : decode cX6_longest 54 = .ok (.iload 5, 2) := by decide +kernel
theorem dX6_longest_56 : decode cX6_longest 56 = .ok (.goto 4, 3) := by decide +kernel
theorem dX6_longest_59 : decode cX6_longest 59 = .ok (.iload_n 3, 1) := by decide +kernel
theorem dX6_longest_60 : decode cX6_longest 60 = .ok (.istore_n 3, 1) := by decide +kernel
theorem dX6_longest_61 : decode cX6_longest 61 = .ok (.iinc 4 1, 3) := by decide +kernel
theorem dX6_longest_64 : decode cX6_longest 64 = .ok (.goto (-57), 3) := by decide +kernel
theorem dX6_longest_67 : decode cX6_longest 67 = .ok (.iload_n 1, 1) := by decide +kernel
theorem dX6_longest_68 : decode cX6_longest 68 = .ok (.ifCond .ne 7, 3) := by decide +kernel
theorem dX6_longest_71 : decode cX6_longest 71 = .ok (.iload_n 3, 1) := by decide +kernel
theorem dX6_longest_72 : decode cX6_longest 72 = .ok (.goto 4, 3) := by decide +kernel
theorem dX6_longest_75 : decode cX6_longest 75 = .ok (.iload_n 2, 1) := by decide +kernel
theorem dX6_longest_76 : decode cX6_longest 76 = .ok (.ireturn, 1) := by decide +kernel
theorem dX6_gap_0 : decode cX6_gap 0 = .ok (.aload_n 0, 1) := by decide +kernel
theorem dX6_gap_1 : decode cX6_gap 1 = .ok (.iload_n 1, 1) := by decide +kernel
theorem dX6_gap_2 : decode cX6_gap 2 = .ok (.iconst 0, 1) := by decide +kernel
theorem dX6_gap_3 : decode cX6_gap 3 = .ok (.iconst 1, 1) := by decide +kernel
theorem dX6_gap_4 : decode cX6_gap 4 = .ok (.invokestatic 44, 3) := by decide +kernel
theorem dX6_gap_7 : decode cX6_gap 7 = .ok (.ifCond .eq 7, 3) := by decide +kernel
theorem dX6_gap_10 : decode cX6_gap 10 = .ok (.iconst 0, 1) := by decide +kernel
theorem dX6_gap_11 : decode cX6_gap 11 = .ok (.goto 4, 3) := by decide +kernel
theorem dX6_gap_14 : decode cX6_gap 14 = .ok (.iconst 1, 1) := by decide +kernel
theorem dX6_gap_15 : decode cX6_gap 15 = .ok (.invokevirtual 74, 3) := by decide +kernel
theorem dX6_gap_18 : decode cX6_gap 18 = .ok (.ifCond .eq 7, 3) := by decide +kernel
theorem dX6_gap_21 : decode cX6_gap 21 = .ok (.iconst 0, 1) := by decide +kernel
theorem dX6_gap_22 : decode cX6_gap 22 = .ok (.goto 8, 3) := by decide +kernel
theorem dX6_gap_25 : decode cX6_gap 25 = .ok (.aload_n 0, 1) := by decide +kernel
theorem dX6_gap_26 : decode cX6_gap 26 = .ok (.iload_n 1, 1) := by decide +kernel
theorem dX6_gap_27 : decode cX6_gap 27 = .ok (.invokevirtual 179, 3) := by decide +kernel
theorem dX6_gap_30 : decode cX6_gap 30 = .ok (.ireturn, 1) := by decide +kernel
theorem dX6_fired_0 : decode cX6_fired 0 = .ok (.aload_n 0, 1) := by decide +kernel
theorem dX6_fired_1 : decode cX6_fired 1 = .ok (.getfield 7, 3) := by decide +kernel
theorem dX6_fired_4 : decode cX6_fired 4 = .ok (.iconst 0, 1) := by decide +kernel
theorem dX6_fired_5 : decode cX6_fired 5 = .ok (.aload_n 0, 1) := by decide +kernel
theorem dX6_fired_6 : decode cX6_fired 6 = .ok (.getfield 13, 3) := by decide +kernel
theorem dX6_fired_9 : decode cX6_fired 9 = .ok (.iconst 0, 1) := by decide +kernel
theorem dX6_fired_10 : decode cX6_fired 10 = .ok (.invokestatic 32, 3) := by decide +kernel
theorem dX6_fired_13 : decode cX6_fired 13 = .ok (.iconst 0, 1) := by decide +kernel
theorem dX6_fired_14 : decode cX6_fired 14 = .ok (.istore_n 3, 1) := by decide +kernel
theorem dX6_fired_15 : decode cX6_fired 15 = .ok (.iconst 0, 1) := by decide +kernel
theorem dX6_fired_16 : decode cX6_fired 16 = .ok (.istore 4, 2) := by decide +kernel
theorem dX6_fired_18 : decode cX6_fired 18 = .ok (.iload 4, 2) := by decide +kernel
theorem dX6_fired_20 : decode cX6_fired 20 = .ok (.iload_n 1, 1) := by decide +kernel
theorem dX6_fired_21 : decode cX6_fired 21 = .ok (.if_icmp .ge 19, 3) := by decide +kernel
theorem dX6_fired_24 : decode cX6_fired 24 = .ok (.iload_n 3, 1) := by decide +kernel
theorem dX6_fired_25 : decode cX6_fired 25 = .ok (.aload_n 0, 1) := by decide +kernel
theorem dX6_fired_26 : decode cX6_fired 26 = .ok (.getfield 13, 3) := by decide +kernel
theorem dX6_fired_29 : decode cX6_fired 29 = .ok (.invokestatic 118, 3) := by decide +kernel
theorem dX6_fired_32 : decode cX6_fired 32 = .ok (.iadd, 1) := by decide +kernel
theorem dX6_fired_33 : decode cX6_fired 33 = .ok (.istore_n 3, 1) := by decide +kernel
theorem dX6_fired_34 : decode cX6_fired 34 = .ok (.iinc 4 1, 3) := by decide +kernel
theorem dX6_fired_37 : decode cX6_fired 37 = .ok (.goto (-19), 3) := by decide +kernel
theorem dX6_fired_40 : decode cX6_fired 40 = .ok (.iload_n 2, 1) := by decide +kernel
theorem dX6_fired_41 : decode cX6_fired 41 = .ok (.ifCond .ne 7, 3) := by decide +kernel
theorem dX6_fired_44 : decode cX6_fired 44 = .ok (.iload_n 3, 1) := by decide +kernel
theorem dX6_fired_45 : decode cX6_fired 45 = .ok (.goto 24, 3) := by decide +kernel
theorem dX6_fired_48 : decode cX6_fired 48 = .ok (.iload_n 2, 1) := by decide +kernel
theorem dX6_fired_49 : decode cX6_fired 49 = .ok (.iconst 1, 1) := by decide +kernel
theorem dX6_fired_50 : decode cX6_fired 50 = .ok (.if_icmp .ne 13, 3) := by decide +kernel
theorem dX6_fired_53 : decode cX6_fired 53 = .ok (.aload_n 0, 1) := by decide +kernel
theorem dX6_fired_54 : decode cX6_fired 54 = .ok (.getfield 13, 3) := by decide +kernel
theorem dX6_fired_57 : decode cX6_fired 57 = .ok (.invokestatic 111, 3) := by decide +kernel
theorem dX6_fired_60 : decode cX6_fired 60 = .ok (.goto 9, 3) := by decide +kernel
theorem dX6_fired_63 : decode cX6_fired 63 = .ok (.aload_n 0, 1) := by decide +kernel
theorem dX6_fired_64 : decode cX6_fired 64 = .ok (.getfield 13, 3) := by decide +kernel
theorem dX6_fired_67 : decode cX6_fired 67 = .ok (.iconst 0, 1) := by decide +kernel
theorem dX6_fired_68 : decode cX6_fired 68 = .ok (.iaload, 1) := by decide +kernel
theorem dX6_fired_69 : decode cX6_fired 69 = .ok (.ireturn, 1) := by decide +kernel
theorem dX6_ifFired_0 : decode cX6_ifFired 0 = .ok (.aload_n 0, 1) := by decide +kernel
theorem dX6_ifFired_1 : decode cX6_ifFired 1 = .ok (.iload_n 1, 1) := by decide +kernel
theorem dX6_ifFired_2 : decode cX6_ifFired 2 = .ok (.iconst 1, 1) := by decide +kernel
theorem dX6_ifFired_3 : decode cX6_ifFired 3 = .ok (.bipush 9, 2) := by decide +kernel
theorem dX6_ifFired_5 : decode cX6_ifFired 5 = .ok (.invokestatic 44, 3) := by decide +kernel
theorem dX6_ifFired_8 : decode cX6_ifFired 8 = .ok (.ifCond .eq 16, 3) := by decide +kernel
theorem dX6_ifFired_11 : decode cX6_ifFired 11 = .ok (.iload_n 2, 1) := by decide +kernel
theorem dX6_ifFired_12 : decode cX6_ifFired 12 = .ok (.iconst 0, 1) := by decide +kernel
theorem dX6_ifFired_13 : decode cX6_ifFired 13 = .ok (.iconst 2, 1) := by decide +kernel
theorem dX6_ifFired_14 : decode cX6_ifFired 14 = .ok (.invokestatic 44, 3) := by decide +kernel
theorem dX6_ifFired_17 : decode cX6_ifFired 17 = .ok (.ifCond .eq 7, 3) := by decide +kernel
theorem dX6_ifFired_20 : decode cX6_ifFired 20 = .ok (.iconst 0, 1) := by decide +kernel
theorem dX6_ifFired_21 : decode cX6_ifFired 21 = .ok (.goto 4, 3) := by decide +kernel
theorem dX6_ifFired_24 : decode cX6_ifFired 24 = .ok (.iconst 1, 1) := by decide +kernel
theorem dX6_ifFired_25 : decode cX6_ifFired 25 = .ok (.invokevirtual 74, 3) := by decide +kernel
theorem dX6_ifFired_28 : decode cX6_ifFired 28 = .ok (.ifCond .eq 7, 3) := by decide +kernel
theorem dX6_ifFired_31 : decode cX6_ifFired 31 = .ok (.iconst 0, 1) := by decide +kernel
theorem dX6_ifFired_32 : decode cX6_ifFired 32 = .ok (.goto 9, 3) := by decide +kernel
theorem dX6_ifFired_35 : decode cX6_ifFired 35 = .ok (.aload_n 0, 1) := by decide +kernel
theorem dX6_ifFired_36 : decode cX6_ifFired 36 = .ok (.iload_n 1, 1) := by decide +kernel
theorem dX6_ifFired_37 : decode cX6_ifFired 37 = .ok (.iload_n 2, 1) := by decide +kernel
theorem dX6_ifFired_38 : decode cX6_ifFired 38 = .ok (.invokevirtual 182, 3) := by decide +kernel
theorem dX6_ifFired_41 : decode cX6_ifFired 41 = .ok (.ireturn, 1) := by decide +kernel
theorem dX6_roomFor_0 : decode cX6_roomFor 0 = .ok (.iload_n 2, 1) := by decide +kernel
theorem dX6_roomFor_1 : decode cX6_roomFor 1 = .ok (.ifCond .eq 17, 3) := by decide +kernel
theorem dX6_roomFor_4 : decode cX6_roomFor 4 = .ok (.aload_n 0, 1) := by decide +kernel
theorem dX6_roomFor_5 : decode cX6_roomFor 5 = .ok (.getfield 7, 3) := by decide +kernel
theorem dX6_roomFor_8 : decode cX6_roomFor 8 = .ok (.iconst 0, 1) := by decide +kernel
theorem dX6_roomFor_9 : decode cX6_roomFor 9 = .ok (.iaload, 1) := by decide +kernel
theorem dX6_roomFor_10 : decode cX6_roomFor 10 = .ok (.aload_n 0, 1) := by decide +kernel
theorem dX6_roomFor_11 : decode cX6_roomFor 11 = .ok (.invokevirtual 166, 3) := by decide +kernel
theorem dX6_roomFor_14 : decode cX6_roomFor 14 = .ok (.isub, 1) := by decide +kernel
theorem dX6_roomFor_15 : decode cX6_roomFor 15 = .ok (.iload_n 1, 1) := by decide +kernel
theorem dX6_roomFor_16 : decode cX6_roomFor 16 = .ok (.idiv, 1) := by decide +kernel
theorem dX6_roomFor_17 : decode cX6_roomFor 17 = .ok (.ireturn, 1) := by decide +kernel
theorem dX6_roomFor_18 : decode cX6_roomFor 18 = .ok (.iconst 0, 1) := by decide +kernel
theorem dX6_roomFor_19 : decode cX6_roomFor 19 = .ok (.istore_n 3, 1) := by decide +kernel
theorem dX6_roomFor_20 : decode cX6_roomFor 20 = .ok (.iconst 0, 1) := by decide +kernel
theorem dX6_roomFor_21 : decode cX6_roomFor 21 = .ok (.istore 4, 2) := by decide +kernel
theorem dX6_roomFor_23 : decode cX6_roomFor 23 = .ok (.iload 4, 2) := by decide +kernel
theorem dX6_roomFor_25 : decode cX6_roomFor 25 = .ok (.aload_n 0, 1) := by decide +kernel
theorem dX6_roomFor_26 : decode cX6_roomFor 26 = .ok (.getfield 7, 3) := by decide +kernel
theorem dX6_roomFor_29 : decode cX6_roomFor 29 = .ok (.iconst 0, 1) := by decide +kernel
theorem dX6_roomFor_30 : decode cX6_roomFor 30 = .ok (.iaload, 1) := by decide +kernel
theorem dX6_roomFor_31 : decode cX6_roomFor 31 = .ok (.if_icmp .ge 39, 3) := by decide +kernel
theorem dX6_roomFor_34 : decode cX6_roomFor 34 = .ok (.aload_n 0, 1) := by decide +kernel
theorem dX6_roomFor_35 : decode cX6_roomFor 35 = .ok (.getfield 7, 3) := by decide +kernel
theorem dX6_roomFor_38 : decode cX6_roomFor 38 = .ok (.iload 4, 2) := by decide +kernel
theorem dX6_roomFor_40 : decode cX6_roomFor 40 = .ok (.aload_n 0, 1) := by decide +kernel
theorem dX6_roomFor_41 : decode cX6_roomFor 41 = .ok (.getfield 7, 3) := by decide +kernel
theorem dX6_roomFor_44 : decode cX6_roomFor 44 = .ok (.iconst 0, 1) := by decide +kernel
theorem dX6_roomFor_45 : decode cX6_roomFor 45 = .ok (.iaload, 1) := by decide +kernel
theorem dX6_roomFor_46 : decode cX6_roomFor 46 = .ok (.invokestatic 52, 3) := by decide +kernel
theorem dX6_roomFor_49 : decode cX6_roomFor 49 = .ok (.istore 5, 2) := by decide +kernel
theorem dX6_roomFor_51 : decode cX6_roomFor 51 = .ok (.iload_n 3, 1) := by decide +kernel
theorem dX6_roomFor_52 : decode cX6_roomFor 52 = .ok (.iload 5, 2) := by decide +kernel
theorem dX6_roomFor_54 : decode cX6_roomFor 54 = .ok (.iload_n 1, 1) := by decide +kernel
theorem dX6_roomFor_55 : decode cX6_roomFor 55 = .ok (.idiv, 1) := by decide +kernel
theorem dX6_roomFor_56 : decode cX6_roomFor 56 = .ok (.iadd, 1) := by decide +kernel
theorem dX6_roomFor_57 : decode cX6_roomFor 57 = .ok (.istore_n 3, 1) := by decide +kernel
theorem dX6_roomFor_58 : decode cX6_roomFor 58 = .ok (.iload 4, 2) := by decide +kernel
theorem dX6_roomFor_60 : decode cX6_roomFor 60 = .ok (.iload 5, 2) := by decide +kernel
theorem dX6_roomFor_62 : decode cX6_roomFor 62 = .ok (.iconst 1, 1) := by decide +kernel
theorem dX6_roomFor_63 : decode cX6_roomFor 63 = .ok (.iadd, 1) := by decide +kernel
theorem dX6_roomFor_64 : decode cX6_roomFor 64 = .ok (.iadd, 1) := by decide +kernel
theorem dX6_roomFor_65 : decode cX6_roomFor 65 = .ok (.istore 4, 2) := by decide +kernel
theorem dX6_roomFor_67 : decode cX6_roomFor 67 = .ok (.goto (-44), 3) := by decide +kernel
theorem dX6_roomFor_70 : decode cX6_roomFor 70 = .ok (.iload_n 3, 1) := by decide +kernel
theorem dX6_roomFor_71 : decode cX6_roomFor 71 = .ok (.ireturn, 1) := by decide +kernel
theorem dX6_room_0 : decode cX6_room 0 = .ok (.aload_n 0, 1) := by decide +kernel
theorem dX6_room_1 : decode cX6_room 1 = .ok (.iload_n 1, 1) := by decide +kernel
theorem dX6_room_2 : decode cX6_room 2 = .ok (.iconst 1, 1) := by decide +kernel
theorem dX6_room_3 : decode cX6_room 3 = .ok (.iconst 4, 1) := by decide +kernel
theorem dX6_room_4 : decode cX6_room 4 = .ok (.invokestatic 44, 3) := by decide +kernel
theorem dX6_room_7 : decode cX6_room 7 = .ok (.ifCond .eq 7, 3) := by decide +kernel
theorem dX6_room_10 : decode cX6_room 10 = .ok (.iconst 0, 1) := by decide +kernel
theorem dX6_room_11 : decode cX6_room 11 = .ok (.goto 4, 3) := by decide +kernel
theorem dX6_room_14 : decode cX6_room 14 = .ok (.iconst 1, 1) := by decide +kernel
theorem dX6_room_15 : decode cX6_room 15 = .ok (.invokevirtual 74, 3) := by decide +kernel
theorem dX6_room_18 : decode cX6_room 18 = .ok (.ifCond .eq 7, 3) := by decide +kernel
theorem dX6_room_21 : decode cX6_room 21 = .ok (.iconst 0, 1) := by decide +kernel
theorem dX6_room_22 : decode cX6_room 22 = .ok (.goto 9, 3) := by decide +kernel
theorem dX6_room_25 : decode cX6_room 25 = .ok (.aload_n 0, 1) := by decide +kernel
theorem dX6_room_26 : decode cX6_room 26 = .ok (.iload_n 1, 1) := by decide +kernel
theorem dX6_room_27 : decode cX6_room 27 = .ok (.iload_n 2, 1) := by decide +kernel
theorem dX6_room_28 : decode cX6_room 28 = .ok (.invokevirtual 185, 3) := by decide +kernel
theorem dX6_room_31 : decode cX6_room 31 = .ok (.ireturn, 1) := by decide +kernel
theorem dX6_full_0 : decode cX6_full 0 = .ok (.aload_n 0, 1) := by decide +kernel
theorem dX6_full_1 : decode cX6_full 1 = .ok (.invokevirtual 166, 3) := by decide +kernel
theorem dX6_full_4 : decode cX6_full 4 = .ok (.i2d, 1) := by decide +kernel
theorem dX6_full_5 : decode cX6_full 5 = .ok (.dstore_n 1, 1) := by decide +kernel
theorem dX6_full_6 : decode cX6_full 6 = .ok (.dload_n 1, 1) := by decide +kernel
theorem dX6_full_7 : decode cX6_full 7 = .ok (.aload_n 0, 1) := by decide +kernel
theorem dX6_full_8 : decode cX6_full 8 = .ok (.getfield 7, 3) := by decide +kernel
theorem dX6_full_11 : decode cX6_full 11 = .ok (.iconst 0, 1) := by decide +kernel
theorem dX6_full_12 : decode cX6_full 12 = .ok (.iaload, 1) := by decide +kernel
theorem dX6_full_13 : decode cX6_full 13 = .ok (.i2d, 1) := by decide +kernel
theorem dX6_full_14 : decode cX6_full 14 = .ok (.ddiv, 1) := by decide +kernel
theorem dX6_full_15 : decode cX6_full 15 = .ok (.dreturn, 1) := by decide +kernel
theorem dX6_fullness_0 : decode cX6_fullness 0 = .ok (.aload_n 0, 1) := by decide +kernel
theorem dX6_fullness_1 : decode cX6_fullness 1 = .ok (.iconst 0, 1) := by decide +kernel
theorem dX6_fullness_2 : decode cX6_fullness 2 = .ok (.putfield 25, 3) := by decide +kernel
theorem dX6_fullness_5 : decode cX6_fullness 5 = .ok (.aload_n 0, 1) := by decide +kernel
theorem dX6_fullness_6 : decode cX6_fullness 6 = .ok (.invokevirtual 189, 3) := by decide +kernel
theorem dX6_fullness_9 : decode cX6_fullness 9 = .ok (.dreturn, 1) := by decide +kernel
theorem dX6_mixes_0 : decode cX6_mixes 0 = .ok (.aload_n 0, 1) := by decide +kernel
theorem dX6_mixes_1 : decode cX6_mixes 1 = .ok (.ldc2_w 193, 3) := by decide +kernel
theorem dX6_mixes_4 : decode cX6_mixes 4 = .ok (.aload_n 0, 1) := by decide +kernel
theorem dX6_mixes_5 : decode cX6_mixes 5 = .ok (.getfield 195, 3) := by decide +kernel
theorem dX6_mixes_8 : decode cX6_mixes 8 = .ok (.lmul, 1) := by decide +kernel
theorem dX6_mixes_9 : decode cX6_mixes 9 = .ok (.lload_n 1, 1) := by decide +kernel
theorem dX6_mixes_10 : decode cX6_mixes 10 = .ok (.ladd, 1) := by decide +kernel
theorem dX6_mixes_11 : decode cX6_mixes 11 = .ok (.putfield 195, 3) := by decide +kernel
theorem dX6_mixes_14 : decode cX6_mixes 14 = .ok (.return_, 1) := by decide +kernel
theorem dX6_mixesRow_0 : decode cX6_mixesRow 0 = .ok (.iconst 0, 1) := by decide +kernel
theorem dX6_mixesRow_1 : decode cX6_mixesRow 1 = .ok (.istore_n 1, 1) := by decide +kernel
theorem dX6_mixesRow_2 : decode cX6_mixesRow 2 = .ok (.iload_n 1, 1) := by decide +kernel
theorem dX6_mixesRow_3 : decode cX6_mixesRow 3 = .ok (.aload_n 0, 1) := by decide +kernel
theorem dX6_mixesRow_4 : decode cX6_mixesRow 4 = .ok (.getfield 7, 3) := by decide +kernel
theorem dX6_mixesRow_7 : decode cX6_mixesRow 7 = .ok (.iconst 1, 1) := by decide +kernel
theorem dX6_mixesRow_8 : decode cX6_mixesRow 8 = .ok (.iaload, 1) := by decide +kernel
theorem dX6_mixesRow_9 : decode cX6_mixesRow 9 = .ok (.if_icmp .ge 58, 3) := by decide +kernel
theorem dX6_mixesRow_12 : decode cX6_mixesRow 12 = .ok (.aload_n 0, 1) := by decide +kernel
theorem dX6_mixesRow_13 : decode cX6_mixesRow 13 = .ok (.getfield 7, 3) := by decide +kernel
theorem dX6_mixesRow_16 : decode cX6_mixesRow 16 = .ok (.iload_n 1, 1) := by decide +kernel
theorem dX6_mixesRow_17 : decode cX6_mixesRow 17 = .ok (.invokestatic 40, 3) := by decide +kernel
theorem dX6_mixesRow_20 : decode cX6_mixesRow 20 = .ok (.ifCond .eq 41, 3) := by decide +kernel
theorem dX6_mixesRow_23 : decode cX6_mixesRow 23 = .ok (.aload_n 0, 1) := by decide +kernel
theorem dX6_mixesRow_24 : decode cX6_mixesRow 24 = .ok (.aload_n 0, 1) := by decide +kernel
theorem dX6_mixesRow_25 : decode cX6_mixesRow 25 = .ok (.getfield 7, 3) := by decide +kernel
theorem dX6_mixesRow_28 : decode cX6_mixesRow 28 = .ok (.iload_n 1, 1) := by decide +kernel
theorem dX6_mixesRow_29 : decode cX6_mixesRow 29 = .ok (.invokestatic 101, 3) := by decide +kernel
theorem dX6_mixesRow_32 : decode cX6_mixesRow 32 = .ok (.i2l, 1) := by decide +kernel
theorem dX6_mixesRow_33 : decode cX6_mixesRow 33 = .ok (.invokevirtual 199, 3) := by decide +kernel
theorem dX6_mixesRow_36 : decode cX6_mixesRow 36 = .ok (.iconst 0, 1) := by decide +kernel
theorem dX6_mixesRow_37 : decode cX6_mixesRow 37 = .ok (.istore_n 2, 1) := by decide +kernel
theorem dX6_mixesRow_38 : decode cX6_mixesRow 38 = .ok (.iload_n 2, 1) := by decide +kernel
theorem dX6_mixesRow_39 : decode cX6_mixesRow 39 = .ok (.bipush 6, 2) := by decide +kernel
theorem dX6_mixesRow_41 : decode cX6_mixesRow 41 = .ok (.if_icmp .ge 20, 3) := by decide +kernel
theorem dX6_mixesRow_44 : decode cX6_mixesRow 44 = .ok (.aload_n 0, 1) := by decide +kernel
theorem dX6_mixesRow_45 : decode cX6_mixesRow 45 = .ok (.aload_n 0, 1) := by decide +kernel
theorem dX6_mixesRow_46 : decode cX6_mixesRow 46 = .ok (.iload_n 1, 1) := by decide +kernel
theorem dX6_mixesRow_47 : decode cX6_mixesRow 47 = .ok (.iload_n 2, 1) := by decide +kernel
theorem dX6_mixesRow_48 : decode cX6_mixesRow 48 = .ok (.invokevirtual 153, 3) := by decide +kernel
theorem dX6_mixesRow_51 : decode cX6_mixesRow 51 = .ok (.i2l, 1) := by decide +kernel
theorem dX6_mixesRow_52 : decode cX6_mixesRow 52 = .ok (.invokevirtual 199, 3) := by decide +kernel
theorem dX6_mixesRow_55 : decode cX6_mixesRow 55 = .ok (.iinc 2 1, 3) := by decide +kernel
theorem dX6_mixesRow_58 : decode cX6_mixesRow 58 = .ok (.goto (-20), 3) := by decide +kernel
theorem dX6_mixesRow_61 : decode cX6_mixesRow 61 = .ok (.iinc 1 1, 3) := by decide +kernel
theorem dX6_mixesRow_64 : decode cX6_mixesRow 64 = .ok (.goto (-62), 3) := by decide +kernel
theorem dX6_mixesRow_67 : decode cX6_mixesRow 67 = .ok (.iconst 0, 1) := by decide +kernel
theorem dX6_mixesRow_68 : decode cX6_mixesRow 68 = .ok (.istore_n 1, 1) := by decide +kernel
theorem dX6_mixesRow_69 : decode cX6_mixesRow 69 = .ok (.iload_n 1, 1) := by decide +kernel
theorem dX6_mixesRow_70 : decode cX6_mixesRow 70 = .ok (.aload_n 0, 1) := by decide +kernel
theorem dX6_mixesRow_71 : decode cX6_mixesRow 71 = .ok (.getfield 7, 3) := by decide +kernel
theorem dX6_mixesRow_74 : decode cX6_mixesRow 74 = .ok (.iconst 0, 1) := by decide +kernel
theorem dX6_mixesRow_75 : decode cX6_mixesRow 75 = .ok (.iaload, 1) := by decide +kernel
theorem dX6_mixesRow_76 : decode cX6_mixesRow 76 = .ok (.if_icmp .ge 33, 3) := by decide +kernel
theorem dX6_mixesRow_79 : decode cX6_mixesRow 79 = .ok (.aload_n 0, 1) := by decide +kernel
theorem dX6_mixesRow_80 : decode cX6_mixesRow 80 = .ok (.aload_n 0, 1) := by decide +kernel
theorem dX6_mixesRow_81 : decode cX6_mixesRow 81 = .ok (.getfield 7, 3) := by decide +kernel
theorem dX6_mixesRow_84 : decode cX6_mixesRow 84 = .ok (.bipush 6, 2) := by decide +kernel
theorem dX6_mixesRow_86 : decode cX6_mixesRow 86 = .ok (.iload_n 1, 1) := by decide +kernel
theorem dX6_mixesRow_87 : decode cX6_mixesRow 87 = .ok (.iadd, 1) := by decide +kernel
theorem dX6_mixesRow_88 : decode cX6_mixesRow 88 = .ok (.iaload, 1) := by decide +kernel
theorem dX6_mixesRow_89 : decode cX6_mixesRow 89 = .ok (.i2l, 1) := by decide +kernel
theorem dX6_mixesRow_90 : decode cX6_mixesRow 90 = .ok (.invokevirtual 199, 3) := by decide +kernel
theorem dX6_mixesRow_93 : decode cX6_mixesRow 93 = .ok (.aload_n 0, 1) := by decide +kernel
theorem dX6_mixesRow_94 : decode cX6_mixesRow 94 = .ok (.aload_n 0, 1) := by decide +kernel
theorem dX6_mixesRow_95 : decode cX6_mixesRow 95 = .ok (.iload_n 1, 1) := by decide +kernel
theorem dX6_mixesRow_96 : decode cX6_mixesRow 96 = .ok (.invokevirtual 157, 3) := by decide +kernel
theorem dX6_mixesRow_99 : decode cX6_mixesRow 99 = .ok (.i2l, 1) := by decide +kernel
theorem dX6_mixesRow_100 : decode cX6_mixesRow 100 = .ok (.invokevirtual 199, 3) := by decide +kernel
theorem dX6_mixesRow_103 : decode cX6_mixesRow 103 = .ok (.iinc 1 1, 3) := by decide +kernel
theorem dX6_mixesRow_106 : decode cX6_mixesRow 106 = .ok (.goto (-37), 3) := by decide +kernel
theorem dX6_mixesRow_109 : decode cX6_mixesRow 109 = .ok (.iconst 0, 1) := by decide +kernel
theorem dX6_mixesRow_110 : decode cX6_mixesRow 110 = .ok (.istore_n 1, 1) := by decide +kernel
theorem dX6_mixesRow_111 : decode cX6_mixesRow 111 = .ok (.iload_n 1, 1) := by decide +kernel
theorem dX6_mixesRow_112 : decode cX6_mixesRow 112 = .ok (.bipush 12, 2) := by decide +kernel
theorem dX6_mixesRow_114 : decode cX6_mixesRow 114 = .ok (.if_icmp .ge 24, 3) := by decide +kernel
theorem dX6_mixesRow_117 : decode cX6_mixesRow 117 = .ok (.aload_n 0, 1) := by decide +kernel
theorem dX6_mixesRow_118 : decode cX6_mixesRow 118 = .ok (.aload_n 0, 1) := by decide +kernel
theorem dX6_mixesRow_119 : decode cX6_mixesRow 119 = .ok (.iload_n 1, 1) := by decide +kernel
theorem dX6_mixesRow_120 : decode cX6_mixesRow 120 = .ok (.iconst 3, 1) := by decide +kernel
theorem dX6_mixesRow_121 : decode cX6_mixesRow 121 = .ok (.idiv, 1) := by decide +kernel
theorem dX6_mixesRow_122 : decode cX6_mixesRow 122 = .ok (.iload_n 1, 1) := by decide +kernel
theorem dX6_mixesRow_123 : decode cX6_mixesRow 123 = .ok (.iconst 3, 1) := by decide +kernel
theorem dX6_mixesRow_124 : decode cX6_mixesRow 124 = .ok (.irem, 1) := by decide +kernel
theorem dX6_mixesRow_125 : decode cX6_mixesRow 125 = .ok (.invokevirtual 163, 3) := by decide +kernel
theorem dX6_mixesRow_128 : decode cX6_mixesRow 128 = .ok (.i2l, 1) := by decide +kernel
theorem dX6_mixesRow_129 : decode cX6_mixesRow 129 = .ok (.invokevirtual 199, 3) := by decide +kernel
theorem dX6_mixesRow_132 : decode cX6_mixesRow 132 = .ok (.iinc 1 1, 3) := by decide +kernel
theorem dX6_mixesRow_135 : decode cX6_mixesRow 135 = .ok (.goto (-24), 3) := by decide +kernel
theorem dX6_mixesRow_138 : decode cX6_mixesRow 138 = .ok (.return_, 1) := by decide +kernel
theorem dX6_digest_0 : decode cX6_digest 0 = .ok (.aload_n 0, 1) := by decide +kernel
theorem dX6_digest_1 : decode cX6_digest 1 = .ok (.iconst 0, 1) := by decide +kernel
theorem dX6_digest_2 : decode cX6_digest 2 = .ok (.putfield 25, 3) := by decide +kernel
theorem dX6_digest_5 : decode cX6_digest 5 = .ok (.aload_n 0, 1) := by decide +kernel
theorem dX6_digest_6 : decode cX6_digest 6 = .ok (.ldc2_w 203, 3) := by decide +kernel
theorem dX6_digest_9 : decode cX6_digest 9 = .ok (.putfield 195, 3) := by decide +kernel
theorem dX6_digest_12 : decode cX6_digest 12 = .ok (.iconst 0, 1) := by decide +kernel
theorem dX6_digest_13 : decode cX6_digest 13 = .ok (.istore_n 1, 1) := by decide +kernel
theorem dX6_digest_14 : decode cX6_digest 14 = .ok (.iload_n 1, 1) := by decide +kernel
theorem dX6_digest_15 : decode cX6_digest 15 = .ok (.bipush 10, 2) := by decide +kernel
theorem dX6_digest_17 : decode cX6_digest 17 = .ok (.if_icmp .ge 19, 3) := by decide +kernel
theorem dX6_digest_20 : decode cX6_digest 20 = .ok (.aload_n 0, 1) := by decide +kernel
theorem dX6_digest_21 : decode cX6_digest 21 = .ok (.aload_n 0, 1) := by decide +kernel
theorem dX6_digest_22 : decode cX6_digest 22 = .ok (.iload_n 1, 1) := by decide +kernel
theorem dX6_digest_23 : decode cX6_digest 23 = .ok (.invokevirtual 173, 3) := by decide +kernel
theorem dX6_digest_26 : decode cX6_digest 26 = .ok (.i2l, 1) := by decide +kernel
theorem dX6_digest_27 : decode cX6_digest 27 = .ok (.invokevirtual 199, 3) := by decide +kernel
theorem dX6_digest_30 : decode cX6_digest 30 = .ok (.iinc 1 1, 3) := by decide +kernel
theorem dX6_digest_33 : decode cX6_digest 33 = .ok (.goto (-19), 3) := by decide +kernel
theorem dX6_digest_36 : decode cX6_digest 36 = .ok (.aload_n 0, 1) := by decide +kernel
theorem dX6_digest_37 : decode cX6_digest 37 = .ok (.invokevirtual 205, 3) := by decide +kernel
theorem dX6_digest_40 : decode cX6_digest 40 = .ok (.iconst 1, 1) := by decide +kernel
theorem dX6_digest_41 : decode cX6_digest 41 = .ok (.istore_n 1, 1) := by decide +kernel
theorem dX6_digest_42 : decode cX6_digest 42 = .ok (.iload_n 1, 1) := by decide +kernel
theorem dX6_digest_43 : decode cX6_digest 43 = .ok (.iconst 5, 1) := by decide +kernel
theorem dX6_digest_44 : decode cX6_digest 44 = .ok (.if_icmp .ge 19, 3) := by decide +kernel
theorem dX6_digest_47 : decode cX6_digest 47 = .ok (.aload_n 0, 1) := by decide +kernel
theorem dX6_digest_48 : decode cX6_digest 48 = .ok (.aload_n 0, 1) := by decide +kernel
theorem dX6_digest_49 : decode cX6_digest 49 = .ok (.iload_n 1, 1) := by decide +kernel
theorem dX6_digest_50 : decode cX6_digest 50 = .ok (.invokevirtual 176, 3) := by decide +kernel
theorem dX6_digest_53 : decode cX6_digest 53 = .ok (.i2l, 1) := by decide +kernel
theorem dX6_digest_54 : decode cX6_digest 54 = .ok (.invokevirtual 199, 3) := by decide +kernel
theorem dX6_digest_57 : decode cX6_digest 57 = .ok (.iinc 1 1, 3) := by decide +kernel
theorem dX6_digest_60 : decode cX6_digest 60 = .ok (.goto (-18), 3) := by decide +kernel
theorem dX6_digest_63 : decode cX6_digest 63 = .ok (.aload_n 0, 1) := by decide +kernel
theorem dX6_digest_64 : decode cX6_digest 64 = .ok (.aload_n 0, 1) := by decide +kernel
theorem dX6_digest_65 : decode cX6_digest 65 = .ok (.iconst 0, 1) := by decide +kernel
theorem dX6_digest_66 : decode cX6_digest 66 = .ok (.invokevirtual 179, 3) := by decide +kernel
theorem dX6_digest_69 : decode cX6_digest 69 = .ok (.i2l, 1) := by decide +kernel
theorem dX6_digest_70 : decode cX6_digest 70 = .ok (.invokevirtual 199, 3) := by decide +kernel
theorem dX6_digest_73 : decode cX6_digest 73 = .ok (.aload_n 0, 1) := by decide +kernel
theorem dX6_digest_74 : decode cX6_digest 74 = .ok (.aload_n 0, 1) := by decide +kernel
theorem dX6_digest_75 : decode cX6_digest 75 = .ok (.iconst 1, 1) := by decide +kernel
theorem dX6_digest_76 : decode cX6_digest 76 = .ok (.invokevirtual 179, 3) := by decide +kernel
theorem dX6_digest_79 : decode cX6_digest 79 = .ok (.i2l, 1) := by decide +kernel
theorem dX6_digest_80 : decode cX6_digest 80 = .ok (.invokevirtual 199, 3) := by decide +kernel
theorem dX6_digest_83 : decode cX6_digest 83 = .ok (.iconst 0, 1) := by decide +kernel
theorem dX6_digest_84 : decode cX6_digest 84 = .ok (.istore_n 1, 1) := by decide +kernel
theorem dX6_digest_85 : decode cX6_digest 85 = .ok (.iload_n 1, 1) := by decide +kernel
theorem dX6_digest_86 : decode cX6_digest 86 = .ok (.iconst 3, 1) := by decide +kernel
theorem dX6_digest_87 : decode cX6_digest 87 = .ok (.if_icmp .ge 20, 3) := by decide +kernel
theorem dX6_digest_90 : decode cX6_digest 90 = .ok (.aload_n 0, 1) := by decide +kernel
theorem dX6_digest_91 : decode cX6_digest 91 = .ok (.aload_n 0, 1) := by decide +kernel
theorem dX6_digest_92 : decode cX6_digest 92 = .ok (.iconst 2, 1) := by decide +kernel
theorem dX6_digest_93 : decode cX6_digest 93 = .ok (.iload_n 1, 1) := by decide +kernel
theorem dX6_digest_94 : decode cX6_digest 94 = .ok (.invokevirtual 182, 3) := by decide +kernel
theorem dX6_digest_97 : decode cX6_digest 97 = .ok (.i2l, 1) := by decide +kernel
theorem dX6_digest_98 : decode cX6_digest 98 = .ok (.invokevirtual 199, 3) := by decide +kernel
theorem dX6_digest_101 : decode cX6_digest 101 = .ok (.iinc 1 1, 3) := by decide +kernel
theorem dX6_digest_104 : decode cX6_digest 104 = .ok (.goto (-19), 3) := by decide +kernel
theorem dX6_digest_107 : decode cX6_digest 107 = .ok (.iconst 1, 1) := by decide +kernel
theorem dX6_digest_108 : decode cX6_digest 108 = .ok (.istore_n 1, 1) := by decide +kernel
theorem dX6_digest_109 : decode cX6_digest 109 = .ok (.iload_n 1, 1) := by decide +kernel
theorem dX6_digest_110 : decode cX6_digest 110 = .ok (.iconst 5, 1) := by decide +kernel
theorem dX6_digest_111 : decode cX6_digest 111 = .ok (.if_icmp .ge 31, 3) := by decide +kernel
theorem dX6_digest_114 : decode cX6_digest 114 = .ok (.aload_n 0, 1) := by decide +kernel
theorem dX6_digest_115 : decode cX6_digest 115 = .ok (.aload_n 0, 1) := by decide +kernel
theorem dX6_digest_116 : decode cX6_digest 116 = .ok (.iload_n 1, 1) := by decide +kernel
theorem dX6_digest_117 : decode cX6_digest 117 = .ok (.iconst 0, 1) := by decide +kernel
theorem dX6_digest_118 : decode cX6_digest 118 = .ok (.invokevirtual 185, 3) := by decide +kernel
theorem dX6_digest_121 : decode cX6_digest 121 = .ok (.i2l, 1) := by decide +kernel
theorem dX6_digest_122 : decode cX6_digest 122 = .ok (.invokevirtual 199, 3) := by decide +kernel
theorem dX6_digest_125 : decode cX6_digest 125 = .ok (.aload_n 0, 1) := by decide +kernel
theorem dX6_digest_126 : decode cX6_digest 126 = .ok (.aload_n 0, 1) := by decide +kernel
theorem dX6_digest_127 : decode cX6_digest 127 = .ok (.iload_n 1, 1) := by decide +kernel
theorem dX6_digest_128 : decode cX6_digest 128 = .ok (.iconst 1, 1) := by decide +kernel
theorem dX6_digest_129 : decode cX6_digest 129 = .ok (.invokevirtual 185, 3) := by decide +kernel
theorem dX6_digest_132 : decode cX6_digest 132 = .ok (.i2l, 1) := by decide +kernel
theorem dX6_digest_133 : decode cX6_digest 133 = .ok (.invokevirtual 199, 3) := by decide +kernel
theorem dX6_digest_136 : decode cX6_digest 136 = .ok (.iinc 1 1, 3) := by decide +kernel
theorem dX6_digest_139 : decode cX6_digest 139 = .ok (.goto (-30), 3) := by decide +kernel
theorem dX6_digest_142 : decode cX6_digest 142 = .ok (.aload_n 0, 1) := by decide +kernel
theorem dX6_digest_143 : decode cX6_digest 143 = .ok (.aload_n 0, 1) := by decide +kernel
theorem dX6_digest_144 : decode cX6_digest 144 = .ok (.invokevirtual 189, 3) := by decide +kernel
theorem dX6_digest_147 : decode cX6_digest 147 = .ok (.invokestatic 208, 3) := by decide +kernel
theorem dX6_digest_150 : decode cX6_digest 150 = .ok (.invokevirtual 199, 3) := by decide +kernel
theorem dX6_digest_153 : decode cX6_digest 153 = .ok (.aload_n 0, 1) := by decide +kernel
theorem dX6_digest_154 : decode cX6_digest 154 = .ok (.aload_n 0, 1) := by decide +kernel
theorem dX6_digest_155 : decode cX6_digest 155 = .ok (.getfield 124, 3) := by decide +kernel
theorem dX6_digest_158 : decode cX6_digest 158 = .ok (.i2l, 1) := by decide +kernel
theorem dX6_digest_159 : decode cX6_digest 159 = .ok (.invokevirtual 199, 3) := by decide +kernel
theorem dX6_digest_162 : decode cX6_digest 162 = .ok (.iconst 0, 1) := by decide +kernel
theorem dX6_digest_163 : decode cX6_digest 163 = .ok (.istore_n 1, 1) := by decide +kernel
theorem dX6_digest_164 : decode cX6_digest 164 = .ok (.iload_n 1, 1) := by decide +kernel
theorem dX6_digest_165 : decode cX6_digest 165 = .ok (.aload_n 0, 1) := by decide +kernel
theorem dX6_digest_166 : decode cX6_digest 166 = .ok (.getfield 124, 3) := by decide +kernel
theorem dX6_digest_169 : decode cX6_digest 169 = .ok (.if_icmp .ge 20, 3) := by decide +kernel
theorem dX6_digest_172 : decode cX6_digest 172 = .ok (.aload_n 0, 1) := by decide +kernel
theorem dX6_digest_173 : decode cX6_digest 173 = .ok (.aload_n 0, 1) := by decide +kernel
theorem dX6_digest_174 : decode cX6_digest 174 = .ok (.getfield 19, 3) := by decide +kernel
theorem dX6_digest_177 : decode cX6_digest 177 = .ok (.iload_n 1, 1) := by decide +kernel
theorem dX6_digest_178 : decode cX6_digest 178 = .ok (.iaload, 1) := by decide +kernel
theorem dX6_digest_179 : decode cX6_digest 179 = .ok (.i2l, 1) := by decide +kernel
theorem dX6_digest_180 : decode cX6_digest 180 = .ok (.invokevirtual 199, 3) := by decide +kernel
theorem dX6_digest_183 : decode cX6_digest 183 = .ok (.iinc 1 1, 3) := by decide +kernel
theorem dX6_digest_186 : decode cX6_digest 186 = .ok (.goto (-22), 3) := by decide +kernel
theorem dX6_digest_189 : decode cX6_digest 189 = .ok (.aload_n 0, 1) := by decide +kernel
theorem dX6_digest_190 : decode cX6_digest 190 = .ok (.getfield 195, 3) := by decide +kernel
theorem dX6_digest_193 : decode cX6_digest 193 = .ok (.lreturn, 1) := by decide +kernel
theorem dJxe99ae_isNaN_b9ae7_0 : decode cJxe99ae_isNaN_b9ae7 0 = .ok (.dload_n 0, 1) := by decide +kernel
theorem dJxe99ae_isNaN_b9ae7_1 : decode cJxe99ae_isNaN_b9ae7 1 = .ok (.dload_n 0, 1) := by decide +kernel
theorem dJxe99ae_isNaN_b9ae7_2 : decode cJxe99ae_isNaN_b9ae7 2 = .ok (.dcmp .l, 1) := by decide +kernel
theorem dJxe99ae_isNaN_b9ae7_3 : decode cJxe99ae_isNaN_b9ae7 3 = .ok (.ifCond .eq 7, 3) := by decide +kernel
theorem dJxe99ae_isNaN_b9ae7_6 : decode cJxe99ae_isNaN_b9ae7 6 = .ok (.iconst 1, 1) := by decide +kernel
theorem dJxe99ae_isNaN_b9ae7_7 : decode cJxe99ae_isNaN_b9ae7 7 = .ok (.goto 4, 3) := by decide +kernel
theorem dJxe99ae_isNaN_b9ae7_10 : decode cJxe99ae_isNaN_b9ae7 10 = .ok (.iconst 0, 1) := by decide +kernel
theorem dJxe99ae_isNaN_b9ae7_11 : decode cJxe99ae_isNaN_b9ae7 11 = .ok (.ireturn, 1) := by decide +kernel
theorem dJxe99ae_doubleToLongBits_ccdee_0 : decode cJxe99ae_doubleToLongBits_ccdee 0 = .ok (.dload_n 0, 1) := by decide +kernel
theorem dJxe99ae_doubleToLongBits_ccdee_1 : decode cJxe99ae_doubleToLongBits_ccdee 1 = .ok (.invokestatic 122, 3) := by decide +kernel
theorem dJxe99ae_doubleToLongBits_ccdee_4 : decode cJxe99ae_doubleToLongBits_ccdee 4 = .ok (.ifCond .ne 8, 3) := by decide +kernel
theorem dJxe99ae_doubleToLongBits_ccdee_7 : decode cJxe99ae_doubleToLongBits_ccdee 7 = .ok (.dload_n 0, 1) := by decide +kernel
theorem dJxe99ae_doubleToLongBits_ccdee_8 : decode cJxe99ae_doubleToLongBits_ccdee 8 = .ok (.invokestatic 134, 3) := by decide +kernel
theorem dJxe99ae_doubleToLongBits_ccdee_11 : decode cJxe99ae_doubleToLongBits_ccdee 11 = .ok (.lreturn, 1) := by decide +kernel
theorem dJxe99ae_doubleToLongBits_ccdee_12 : decode cJxe99ae_doubleToLongBits_ccdee 12 = .ok (.ldc2_w 137, 3) := by decide +kernel
theorem dJxe99ae_doubleToLongBits_ccdee_15 : decode cJxe99ae_doubleToLongBits_ccdee 15 = .ok (.lreturn, 1) := by decide +kernel
theorem dJ9_max_7cf53_0 : decode cJ9_max_7cf53 0 = .ok (.iload_n 0, 1) := by decide +kernel
theorem dJ9_max_7cf53_1 : decode cJ9_max_7cf53 1 = .ok (.iload_n 1, 1) := by decide +kernel
theorem dJ9_max_7cf53_2 : decode cJ9_max_7cf53 2 = .ok (.if_icmp .lt 7, 3) := by decide +kernel
theorem dJ9_max_7cf53_5 : decode cJ9_max_7cf53 5 = .ok (.iload_n 0, 1) := by decide +kernel
theorem dJ9_max_7cf53_6 : decode cJ9_max_7cf53 6 = .ok (.goto 4, 3) := by decide +kernel
theorem dJ9_max_7cf53_9 : decode cJ9_max_7cf53 9 = .ok (.iload_n 1, 1) := by decide +kernel
theorem dJ9_max_7cf53_10 : decode cJ9_max_7cf53 10 = .ok (.ireturn, 1) := by decide +kernel
theorem dL_put_0 : decode cL_put 0 = .ok (.aload 4, 2) := by decide +kernel
theorem dL_put_2 : decode cL_put 2 = .ok (.iconst 0, 1) := by decide +kernel
theorem dL_put_3 : decode cL_put 3 = .ok (.aload_n 0, 1) := by decide +kernel
theorem dL_put_4 : decode cL_put 4 = .ok (.iload_n 1, 1) := by decide +kernel
theorem dL_put_5 : decode cL_put 5 = .ok (.iload_n 2, 1) := by decide +kernel
theorem dL_put_6 : decode cL_put 6 = .ok (.iload_n 3, 1) := by decide +kernel
theorem dL_put_7 : decode cL_put 7 = .ok (.invokevirtual 7, 3) := by decide +kernel
theorem dL_put_10 : decode cL_put 10 = .ok (.i2l, 1) := by decide +kernel
theorem dL_put_11 : decode cL_put 11 = .ok (.lastore, 1) := by decide +kernel
theorem dL_put_12 : decode cL_put 12 = .ok (.goto 11, 3) := by decide +kernel
theorem dL_put_15 : decode cL_put 15 = .ok (.astore 5, 2) := by decide +kernel
theorem dL_put_17 : decode cL_put 17 = .ok (.iconst 1, 1) := by decide +kernel
theorem dL_put_18 : decode cL_put 18 = .ok (.ireturn, 1) := by decide +kernel
theorem dL_put_19 : decode cL_put 19 = .ok (.astore 5, 2) := by decide +kernel
theorem dL_put_21 : decode cL_put 21 = .ok (.iconst 2, 1) := by decide +kernel
theorem dL_put_22 : decode cL_put 22 = .ok (.ireturn, 1) := by decide +kernel
theorem dL_put_23 : decode cL_put 23 = .ok (.iconst 0, 1) := by decide +kernel
theorem dL_put_24 : decode cL_put 24 = .ok (.ireturn, 1) := by decide +kernel
theorem dL_putBehind_0 : decode cL_putBehind 0 = .ok (.aload 5, 2) := by decide +kernel
theorem dL_putBehind_2 : decode cL_putBehind 2 = .ok (.iconst 0, 1) := by decide +kernel
theorem dL_putBehind_3 : decode cL_putBehind 3 = .ok (.aload_n 0, 1) := by decide +kernel
theorem dL_putBehind_4 : decode cL_putBehind 4 = .ok (.iload_n 1, 1) := by decide +kernel
theorem dL_putBehind_5 : decode cL_putBehind 5 = .ok (.iload_n 2, 1) := by decide +kernel
theorem dL_putBehind_6 : decode cL_putBehind 6 = .ok (.iload_n 3, 1) := by decide +kernel
theorem dL_putBehind_7 : decode cL_putBehind 7 = .ok (.iload 4, 2) := by decide +kernel
theorem dL_putBehind_9 : decode cL_putBehind 9 = .ok (.invokevirtual 17, 3) := by decide +kernel
theorem dL_putBehind_12 : decode cL_putBehind 12 = .ok (.i2l, 1) := by decide +kernel
theorem dL_putBehind_13 : decode cL_putBehind 13 = .ok (.lastore, 1) := by decide +kernel
theorem dL_putBehind_14 : decode cL_putBehind 14 = .ok (.goto 15, 3) := by decide +kernel
theorem dL_putBehind_17 : decode cL_putBehind 17 = .ok (.astore 6, 2) := by decide +kernel
theorem dL_putBehind_19 : decode cL_putBehind 19 = .ok (.iconst 1, 1) := by decide +kernel
theorem dL_putBehind_20 : decode cL_putBehind 20 = .ok (.ireturn, 1) := by decide +kernel
theorem dL_putBehind_21 : decode cL_putBehind 21 = .ok (.astore 6, 2) := by decide +kernel
theorem dL_putBehind_23 : decode cL_putBehind 23 = .ok (.iconst 2, 1) := by decide +kernel
theorem dL_putBehind_24 : decode cL_putBehind 24 = .ok (.ireturn, 1) := by decide +kernel
theorem dL_putBehind_25 : decode cL_putBehind 25 = .ok (.astore 6, 2) := by decide +kernel
theorem dL_putBehind_27 : decode cL_putBehind 27 = .ok (.iconst 3, 1) := by decide +kernel
theorem dL_putBehind_28 : decode cL_putBehind 28 = .ok (.ireturn, 1) := by decide +kernel
theorem dL_putBehind_29 : decode cL_putBehind 29 = .ok (.iconst 0, 1) := by decide +kernel
theorem dL_putBehind_30 : decode cL_putBehind 30 = .ok (.ireturn, 1) := by decide +kernel
theorem dL_remove_0 : decode cL_remove 0 = .ok (.aload_n 2, 1) := by decide +kernel
theorem dL_remove_1 : decode cL_remove 1 = .ok (.iconst 0, 1) := by decide +kernel
theorem dL_remove_2 : decode cL_remove 2 = .ok (.aload_n 0, 1) := by decide +kernel
theorem dL_remove_3 : decode cL_remove 3 = .ok (.iload_n 1, 1) := by decide +kernel
theorem dL_remove_4 : decode cL_remove 4 = .ok (.invokevirtual 23, 3) := by decide +kernel
theorem dL_remove_7 : decode cL_remove 7 = .ok (.i2l, 1) := by decide +kernel
theorem dL_remove_8 : decode cL_remove 8 = .ok (.lastore, 1) := by decide +kernel
theorem dL_remove_9 : decode cL_remove 9 = .ok (.goto 6, 3) := by decide +kernel
theorem dL_remove_12 : decode cL_remove 12 = .ok (.astore_n 3, 1) := by decide +kernel
theorem dL_remove_13 : decode cL_remove 13 = .ok (.iconst 1, 1) := by decide +kernel
theorem dL_remove_14 : decode cL_remove 14 = .ok (.ireturn, 1) := by decide +kernel
theorem dL_remove_15 : decode cL_remove 15 = .ok (.iconst 0, 1) := by decide +kernel
theorem dL_remove_16 : decode cL_remove 16 = .ok (.ireturn, 1) := by decide +kernel
theorem dL_change_0 : decode cL_change 0 = .ok (.aload_n 3, 1) := by decide +kernel
theorem dL_change_1 : decode cL_change 1 = .ok (.iconst 0, 1) := by decide +kernel
theorem dL_change_2 : decode cL_change 2 = .ok (.aload_n 0, 1) := by decide +kernel
theorem dL_change_3 : decode cL_change 3 = .ok (.iload_n 1, 1) := by decide +kernel
theorem dL_change_4 : decode cL_change 4 = .ok (.iload_n 2, 1) := by decide +kernel
theorem dL_change_5 : decode cL_change 5 = .ok (.invokevirtual 27, 3) := by decide +kernel
theorem dL_change_8 : decode cL_change 8 = .ok (.i2l, 1) := by decide +kernel
theorem dL_change_9 : decode cL_change 9 = .ok (.lastore, 1) := by decide +kernel
theorem dL_change_10 : decode cL_change 10 = .ok (.goto 11, 3) := by decide +kernel
theorem dL_change_13 : decode cL_change 13 = .ok (.astore 4, 2) := by decide +kernel
theorem dL_change_15 : decode cL_change 15 = .ok (.iconst 1, 1) := by decide +kernel
theorem dL_change_16 : decode cL_change 16 = .ok (.ireturn, 1) := by decide +kernel
theorem dL_change_17 : decode cL_change 17 = .ok (.astore 4, 2) := by decide +kernel
theorem dL_change_19 : decode cL_change 19 = .ok (.iconst 2, 1) := by decide +kernel
theorem dL_change_20 : decode cL_change 20 = .ok (.ireturn, 1) := by decide +kernel
theorem dL_change_21 : decode cL_change 21 = .ok (.iconst 0, 1) := by decide +kernel
theorem dL_change_22 : decode cL_change 22 = .ok (.ireturn, 1) := by decide +kernel
theorem dL_restart_0 : decode cL_restart 0 = .ok (.aload_n 2, 1) := by decide +kernel
theorem dL_restart_1 : decode cL_restart 1 = .ok (.iconst 0, 1) := by decide +kernel
theorem dL_restart_2 : decode cL_restart 2 = .ok (.aload_n 0, 1) := by decide +kernel
theorem dL_restart_3 : decode cL_restart 3 = .ok (.iload_n 1, 1) := by decide +kernel
theorem dL_restart_4 : decode cL_restart 4 = .ok (.invokevirtual 31, 3) := by decide +kernel
theorem dL_restart_7 : decode cL_restart 7 = .ok (.i2l, 1) := by decide +kernel
theorem dL_restart_8 : decode cL_restart 8 = .ok (.lastore, 1) := by decide +kernel
theorem dL_restart_9 : decode cL_restart 9 = .ok (.goto 6, 3) := by decide +kernel
theorem dL_restart_12 : decode cL_restart 12 = .ok (.astore_n 3, 1) := by decide +kernel
theorem dL_restart_13 : decode cL_restart 13 = .ok (.iconst 1, 1) := by decide +kernel
theorem dL_restart_14 : decode cL_restart 14 = .ok (.ireturn, 1) := by decide +kernel
theorem dL_restart_15 : decode cL_restart 15 = .ok (.iconst 0, 1) := by decide +kernel
theorem dL_restart_16 : decode cL_restart 16 = .ok (.ireturn, 1) := by decide +kernel
theorem dL_goOn_0 : decode cL_goOn 0 = .ok (.aload_n 2, 1) := by decide +kernel
theorem dL_goOn_1 : decode cL_goOn 1 = .ok (.iconst 0, 1) := by decide +kernel
theorem dL_goOn_2 : decode cL_goOn 2 = .ok (.aload_n 0, 1) := by decide +kernel
theorem dL_goOn_3 : decode cL_goOn 3 = .ok (.iload_n 1, 1) := by decide +kernel
theorem dL_goOn_4 : decode cL_goOn 4 = .ok (.invokevirtual 34, 3) := by decide +kernel
theorem dL_goOn_7 : decode cL_goOn 7 = .ok (.i2l, 1) := by decide +kernel
theorem dL_goOn_8 : decode cL_goOn 8 = .ok (.lastore, 1) := by decide +kernel
theorem dL_goOn_9 : decode cL_goOn 9 = .ok (.goto 6, 3) := by decide +kernel
theorem dL_goOn_12 : decode cL_goOn 12 = .ok (.astore_n 3, 1) := by decide +kernel
theorem dL_goOn_13 : decode cL_goOn 13 = .ok (.iconst 1, 1) := by decide +kernel
theorem dL_goOn_14 : decode cL_goOn 14 = .ok (.ireturn, 1) := by decide +kernel
theorem dL_goOn_15 : decode cL_goOn 15 = .ok (.iconst 0, 1) := by decide +kernel
theorem dL_goOn_16 : decode cL_goOn 16 = .ok (.ireturn, 1) := by decide +kernel
theorem dL_take_0 : decode cL_take 0 = .ok (.aload_n 2, 1) := by decide +kernel
theorem dL_take_1 : decode cL_take 1 = .ok (.iconst 0, 1) := by decide +kernel
theorem dL_take_2 : decode cL_take 2 = .ok (.aload_n 0, 1) := by decide +kernel
theorem dL_take_3 : decode cL_take 3 = .ok (.iload_n 1, 1) := by decide +kernel
theorem dL_take_4 : decode cL_take 4 = .ok (.invokevirtual 37, 3) := by decide +kernel
theorem dL_take_7 : decode cL_take 7 = .ok (.i2l, 1) := by decide +kernel
theorem dL_take_8 : decode cL_take 8 = .ok (.lastore, 1) := by decide +kernel
theorem dL_take_9 : decode cL_take 9 = .ok (.goto 9, 3) := by decide +kernel
theorem dL_take_12 : decode cL_take 12 = .ok (.astore_n 3, 1) := by decide +kernel
theorem dL_take_13 : decode cL_take 13 = .ok (.iconst 1, 1) := by decide +kernel
theorem dL_take_14 : decode cL_take 14 = .ok (.ireturn, 1) := by decide +kernel
theorem dL_take_15 : decode cL_take 15 = .ok (.astore_n 3, 1) := by decide +kernel
theorem dL_take_16 : decode cL_take 16 = .ok (.iconst 2, 1) := by decide +kernel
theorem dL_take_17 : decode cL_take 17 = .ok (.ireturn, 1) := by decide +kernel
theorem dL_take_18 : decode cL_take 18 = .ok (.iconst 0, 1) := by decide +kernel
theorem dL_take_19 : decode cL_take 19 = .ok (.ireturn, 1) := by decide +kernel
theorem dL_append_0 : decode cL_append 0 = .ok (.aload_n 2, 1) := by decide +kernel
theorem dL_append_1 : decode cL_append 1 = .ok (.iconst 0, 1) := by decide +kernel
theorem dL_append_2 : decode cL_append 2 = .ok (.aload_n 0, 1) := by decide +kernel
theorem dL_append_3 : decode cL_append 3 = .ok (.iload_n 1, 1) := by decide +kernel
theorem dL_append_4 : decode cL_append 4 = .ok (.invokevirtual 40, 3) := by decide +kernel
theorem dL_append_7 : decode cL_append 7 = .ok (.i2l, 1) := by decide +kernel
theorem dL_append_8 : decode cL_append 8 = .ok (.lastore, 1) := by decide +kernel
theorem dL_append_9 : decode cL_append 9 = .ok (.goto 9, 3) := by decide +kernel
theorem dL_append_12 : decode cL_append 12 = .ok (.astore_n 3, 1) := by decide +kernel
theorem dL_append_13 : decode cL_append 13 = .ok (.iconst 1, 1) := by decide +kernel
theorem dL_append_14 : decode cL_append 14 = .ok (.ireturn, 1) := by decide +kernel
theorem dL_append_15 : decode cL_append 15 = .ok (.astore_n 3, 1) := by decide +kernel
theorem dL_append_16 : decode cL_append 16 = .ok (.iconst 2, 1) := by decide +kernel
theorem dL_append_17 : decode cL_append 17 = .ok (.ireturn, 1) := by decide +kernel
theorem dL_append_18 : decode cL_append 18 = .ok (.iconst 0, 1) := by decide +kernel
theorem dL_append_19 : decode cL_append 19 = .ok (.ireturn, 1) := by decide +kernel
theorem dL_putAll_0 : decode cL_putAll 0 = .ok (.aload_n 1, 1) := by decide +kernel
theorem dL_putAll_1 : decode cL_putAll 1 = .ok (.iconst 0, 1) := by decide +kernel
theorem dL_putAll_2 : decode cL_putAll 2 = .ok (.aload_n 0, 1) := by decide +kernel
theorem dL_putAll_3 : decode cL_putAll 3 = .ok (.invokevirtual 43, 3) := by decide +kernel
theorem dL_putAll_6 : decode cL_putAll 6 = .ok (.i2l, 1) := by decide +kernel
theorem dL_putAll_7 : decode cL_putAll 7 = .ok (.lastore, 1) := by decide +kernel
theorem dL_putAll_8 : decode cL_putAll 8 = .ok (.goto 6, 3) := by decide +kernel
theorem dL_putAll_11 : decode cL_putAll 11 = .ok (.astore_n 2, 1) := by decide +kernel
theorem dL_putAll_12 : decode cL_putAll 12 = .ok (.iconst 1, 1) := by decide +kernel
theorem dL_putAll_13 : decode cL_putAll 13 = .ok (.ireturn, 1) := by decide +kernel
theorem dL_putAll_14 : decode cL_putAll 14 = .ok (.iconst 0, 1) := by decide +kernel
theorem dL_putAll_15 : decode cL_putAll 15 = .ok (.ireturn, 1) := by decide +kernel
theorem dL_undo_0 : decode cL_undo 0 = .ok (.aload_n 1, 1) := by decide +kernel
theorem dL_undo_1 : decode cL_undo 1 = .ok (.iconst 0, 1) := by decide +kernel
theorem dL_undo_2 : decode cL_undo 2 = .ok (.aload_n 0, 1) := by decide +kernel
theorem dL_undo_3 : decode cL_undo 3 = .ok (.invokevirtual 47, 3) := by decide +kernel
theorem dL_undo_6 : decode cL_undo 6 = .ok (.i2l, 1) := by decide +kernel
theorem dL_undo_7 : decode cL_undo 7 = .ok (.lastore, 1) := by decide +kernel
theorem dL_undo_8 : decode cL_undo 8 = .ok (.goto 6, 3) := by decide +kernel
theorem dL_undo_11 : decode cL_undo 11 = .ok (.astore_n 2, 1) := by decide +kernel
theorem dL_undo_12 : decode cL_undo 12 = .ok (.iconst 1, 1) := by decide +kernel
theorem dL_undo_13 : decode cL_undo 13 = .ok (.ireturn, 1) := by decide +kernel
theorem dL_undo_14 : decode cL_undo 14 = .ok (.iconst 0, 1) := by decide +kernel
theorem dL_undo_15 : decode cL_undo 15 = .ok (.ireturn, 1) := by decide +kernel
theorem dL_thing_0 : decode cL_thing 0 = .ok (.aload_n 3, 1) := by decide +kernel
theorem dL_thing_1 : decode cL_thing 1 = .ok (.iconst 0, 1) := by decide +kernel
theorem dL_thing_2 : decode cL_thing 2 = .ok (.aload_n 0, 1) := by decide +kernel
theorem dL_thing_3 : decode cL_thing 3 = .ok (.iload_n 1, 1) := by decide +kernel
theorem dL_thing_4 : decode cL_thing 4 = .ok (.iload_n 2, 1) := by decide +kernel
theorem dL_thing_5 : decode cL_thing 5 = .ok (.invokevirtual 50, 3) := by decide +kernel
theorem dL_thing_8 : decode cL_thing 8 = .ok (.i2l, 1) := by decide +kernel
theorem dL_thing_9 : decode cL_thing 9 = .ok (.lastore, 1) := by decide +kernel
theorem dL_thing_10 : decode cL_thing 10 = .ok (.goto 11, 3) := by decide +kernel
theorem dL_thing_13 : decode cL_thing 13 = .ok (.astore 4, 2) := by decide +kernel
theorem dL_thing_15 : decode cL_thing 15 = .ok (.iconst 1, 1) := by decide +kernel
theorem dL_thing_16 : decode cL_thing 16 = .ok (.ireturn, 1) := by decide +kernel
theorem dL_thing_17 : decode cL_thing 17 = .ok (.astore 4, 2) := by decide +kernel
theorem dL_thing_19 : decode cL_thing 19 = .ok (.iconst 2, 1) := by decide +kernel
theorem dL_thing_20 : decode cL_thing 20 = .ok (.ireturn, 1) := by decide +kernel
theorem dL_thing_21 : decode cL_thing 21 = .ok (.iconst 0, 1) := by decide +kernel
theorem dL_thing_22 : decode cL_thing 22 = .ok (.ireturn, 1) := by decide +kernel
theorem dL_at_0 : decode cL_at 0 = .ok (.aload_n 2, 1) := by decide +kernel
theorem dL_at_1 : decode cL_at 1 = .ok (.iconst 0, 1) := by decide +kernel
theorem dL_at_2 : decode cL_at 2 = .ok (.aload_n 0, 1) := by decide +kernel
theorem dL_at_3 : decode cL_at 3 = .ok (.iload_n 1, 1) := by decide +kernel
theorem dL_at_4 : decode cL_at 4 = .ok (.invokevirtual 53, 3) := by decide +kernel
theorem dL_at_7 : decode cL_at 7 = .ok (.i2l, 1) := by decide +kernel
theorem dL_at_8 : decode cL_at 8 = .ok (.lastore, 1) := by decide +kernel
theorem dL_at_9 : decode cL_at 9 = .ok (.goto 6, 3) := by decide +kernel
theorem dL_at_12 : decode cL_at 12 = .ok (.astore_n 3, 1) := by decide +kernel
theorem dL_at_13 : decode cL_at 13 = .ok (.iconst 1, 1) := by decide +kernel
theorem dL_at_14 : decode cL_at 14 = .ok (.ireturn, 1) := by decide +kernel
theorem dL_at_15 : decode cL_at 15 = .ok (.iconst 0, 1) := by decide +kernel
theorem dL_at_16 : decode cL_at 16 = .ok (.ireturn, 1) := by decide +kernel
theorem dL_cell_0 : decode cL_cell 0 = .ok (.aload_n 3, 1) := by decide +kernel
theorem dL_cell_1 : decode cL_cell 1 = .ok (.iconst 0, 1) := by decide +kernel
theorem dL_cell_2 : decode cL_cell 2 = .ok (.aload_n 0, 1) := by decide +kernel
theorem dL_cell_3 : decode cL_cell 3 = .ok (.iload_n 1, 1) := by decide +kernel
theorem dL_cell_4 : decode cL_cell 4 = .ok (.iload_n 2, 1) := by decide +kernel
theorem dL_cell_5 : decode cL_cell 5 = .ok (.invokevirtual 56, 3) := by decide +kernel
theorem dL_cell_8 : decode cL_cell 8 = .ok (.i2l, 1) := by decide +kernel
theorem dL_cell_9 : decode cL_cell 9 = .ok (.lastore, 1) := by decide +kernel
theorem dL_cell_10 : decode cL_cell 10 = .ok (.goto 11, 3) := by decide +kernel
theorem dL_cell_13 : decode cL_cell 13 = .ok (.astore 4, 2) := by decide +kernel
theorem dL_cell_15 : decode cL_cell 15 = .ok (.iconst 1, 1) := by decide +kernel
theorem dL_cell_16 : decode cL_cell 16 = .ok (.ireturn, 1) := by decide +kernel
theorem dL_cell_17 : decode cL_cell 17 = .ok (.astore 4, 2) := by decide +kernel
theorem dL_cell_19 : decode cL_cell 19 = .ok (.iconst 2, 1) := by decide +kernel
theorem dL_cell_20 : decode cL_cell 20 = .ok (.ireturn, 1) := by decide +kernel
theorem dL_cell_21 : decode cL_cell 21 = .ok (.iconst 0, 1) := by decide +kernel
theorem dL_cell_22 : decode cL_cell 22 = .ok (.ireturn, 1) := by decide +kernel
theorem dL_walker_0 : decode cL_walker 0 = .ok (.aload_n 3, 1) := by decide +kernel
theorem dL_walker_1 : decode cL_walker 1 = .ok (.iconst 0, 1) := by decide +kernel
theorem dL_walker_2 : decode cL_walker 2 = .ok (.aload_n 0, 1) := by decide +kernel
theorem dL_walker_3 : decode cL_walker 3 = .ok (.iload_n 1, 1) := by decide +kernel
theorem dL_walker_4 : decode cL_walker 4 = .ok (.iload_n 2, 1) := by decide +kernel
theorem dL_walker_5 : decode cL_walker 5 = .ok (.invokevirtual 59, 3) := by decide +kernel
theorem dL_walker_8 : decode cL_walker 8 = .ok (.i2l, 1) := by decide +kernel
theorem dL_walker_9 : decode cL_walker 9 = .ok (.lastore, 1) := by decide +kernel
theorem dL_walker_10 : decode cL_walker 10 = .ok (.goto 11, 3) := by decide +kernel
theorem dL_walker_13 : decode cL_walker 13 = .ok (.astore 4, 2) := by decide +kernel
theorem dL_walker_15 : decode cL_walker 15 = .ok (.iconst 1, 1) := by decide +kernel
theorem dL_walker_16 : decode cL_walker 16 = .ok (.ireturn, 1) := by decide +kernel
theorem dL_walker_17 : decode cL_walker 17 = .ok (.astore 4, 2) := by decide +kernel
theorem dL_walker_19 : decode cL_walker 19 = .ok (.iconst 2, 1) := by decide +kernel
theorem dL_walker_20 : decode cL_walker 20 = .ok (.ireturn, 1) := by decide +kernel
theorem dL_walker_21 : decode cL_walker 21 = .ok (.iconst 0, 1) := by decide +kernel
theorem dL_walker_22 : decode cL_walker 22 = .ok (.ireturn, 1) := by decide +kernel
theorem dL_count_0 : decode cL_count 0 = .ok (.aload_n 2, 1) := by decide +kernel
theorem dL_count_1 : decode cL_count 1 = .ok (.iconst 0, 1) := by decide +kernel
theorem dL_count_2 : decode cL_count 2 = .ok (.aload_n 0, 1) := by decide +kernel
theorem dL_count_3 : decode cL_count 3 = .ok (.iload_n 1, 1) := by decide +kernel
theorem dL_count_4 : decode cL_count 4 = .ok (.invokevirtual 62, 3) := by decide +kernel
theorem dL_count_7 : decode cL_count 7 = .ok (.i2l, 1) := by decide +kernel
theorem dL_count_8 : decode cL_count 8 = .ok (.lastore, 1) := by decide +kernel
theorem dL_count_9 : decode cL_count 9 = .ok (.goto 6, 3) := by decide +kernel
theorem dL_count_12 : decode cL_count 12 = .ok (.astore_n 3, 1) := by decide +kernel
theorem dL_count_13 : decode cL_count 13 = .ok (.iconst 1, 1) := by decide +kernel
theorem dL_count_14 : decode cL_count 14 = .ok (.ireturn, 1) := by decide +kernel
theorem dL_count_15 : decode cL_count 15 = .ok (.iconst 0, 1) := by decide +kernel
theorem dL_count_16 : decode cL_count 16 = .ok (.ireturn, 1) := by decide +kernel
theorem dL_begins_0 : decode cL_begins 0 = .ok (.aload_n 2, 1) := by decide +kernel
theorem dL_begins_1 : decode cL_begins 1 = .ok (.iconst 0, 1) := by decide +kernel
theorem dL_begins_2 : decode cL_begins 2 = .ok (.aload_n 0, 1) := by decide +kernel
theorem dL_begins_3 : decode cL_begins 3 = .ok (.iload_n 1, 1) := by decide +kernel
theorem dL_begins_4 : decode cL_begins 4 = .ok (.invokevirtual 65, 3) := by decide +kernel
theorem dL_begins_7 : decode cL_begins 7 = .ok (.i2l, 1) := by decide +kernel
theorem dL_begins_8 : decode cL_begins 8 = .ok (.lastore, 1) := by decide +kernel
theorem dL_begins_9 : decode cL_begins 9 = .ok (.goto 6, 3) := by decide +kernel
theorem dL_begins_12 : decode cL_begins 12 = .ok (.astore_n 3, 1) := by decide +kernel
theorem dL_begins_13 : decode cL_begins 13 = .ok (.iconst 1, 1) := by decide +kernel
theorem dL_begins_14 : decode cL_begins 14 = .ok (.ireturn, 1) := by decide +kernel
theorem dL_begins_15 : decode cL_begins 15 = .ok (.iconst 0, 1) := by decide +kernel
theorem dL_begins_16 : decode cL_begins 16 = .ok (.ireturn, 1) := by decide +kernel
theorem dL_gap_0 : decode cL_gap 0 = .ok (.aload_n 2, 1) := by decide +kernel
theorem dL_gap_1 : decode cL_gap 1 = .ok (.iconst 0, 1) := by decide +kernel
theorem dL_gap_2 : decode cL_gap 2 = .ok (.aload_n 0, 1) := by decide +kernel
theorem dL_gap_3 : decode cL_gap 3 = .ok (.iload_n 1, 1) := by decide +kernel
theorem dL_gap_4 : decode cL_gap 4 = .ok (.invokevirtual 68, 3) := by decide +kernel
theorem dL_gap_7 : decode cL_gap 7 = .ok (.i2l, 1) := by decide +kernel
theorem dL_gap_8 : decode cL_gap 8 = .ok (.lastore, 1) := by decide +kernel
theorem dL_gap_9 : decode cL_gap 9 = .ok (.goto 6, 3) := by decide +kernel
theorem dL_gap_12 : decode cL_gap 12 = .ok (.astore_n 3, 1) := by decide +kernel
theorem dL_gap_13 : decode cL_gap 13 = .ok (.iconst 1, 1) := by decide +kernel
theorem dL_gap_14 : decode cL_gap 14 = .ok (.ireturn, 1) := by decide +kernel
theorem dL_gap_15 : decode cL_gap 15 = .ok (.iconst 0, 1) := by decide +kernel
theorem dL_gap_16 : decode cL_gap 16 = .ok (.ireturn, 1) := by decide +kernel
theorem dL_ifFired_0 : decode cL_ifFired 0 = .ok (.aload_n 3, 1) := by decide +kernel
theorem dL_ifFired_1 : decode cL_ifFired 1 = .ok (.iconst 0, 1) := by decide +kernel
theorem dL_ifFired_2 : decode cL_ifFired 2 = .ok (.aload_n 0, 1) := by decide +kernel
theorem dL_ifFired_3 : decode cL_ifFired 3 = .ok (.iload_n 1, 1) := by decide +kernel
theorem dL_ifFired_4 : decode cL_ifFired 4 = .ok (.iload_n 2, 1) := by decide +kernel
theorem dL_ifFired_5 : decode cL_ifFired 5 = .ok (.invokevirtual 71, 3) := by decide +kernel
theorem dL_ifFired_8 : decode cL_ifFired 8 = .ok (.i2l, 1) := by decide +kernel
theorem dL_ifFired_9 : decode cL_ifFired 9 = .ok (.lastore, 1) := by decide +kernel
theorem dL_ifFired_10 : decode cL_ifFired 10 = .ok (.goto 7, 3) := by decide +kernel
theorem dL_ifFired_13 : decode cL_ifFired 13 = .ok (.astore 4, 2) := by decide +kernel
theorem dL_ifFired_15 : decode cL_ifFired 15 = .ok (.iconst 1, 1) := by decide +kernel
theorem dL_ifFired_16 : decode cL_ifFired 16 = .ok (.ireturn, 1) := by decide +kernel
theorem dL_ifFired_17 : decode cL_ifFired 17 = .ok (.iconst 0, 1) := by decide +kernel
theorem dL_ifFired_18 : decode cL_ifFired 18 = .ok (.ireturn, 1) := by decide +kernel
theorem dL_room_0 : decode cL_room 0 = .ok (.aload_n 3, 1) := by decide +kernel
theorem dL_room_1 : decode cL_room 1 = .ok (.iconst 0, 1) := by decide +kernel
theorem dL_room_2 : decode cL_room 2 = .ok (.aload_n 0, 1) := by decide +kernel
theorem dL_room_3 : decode cL_room 3 = .ok (.iload_n 1, 1) := by decide +kernel
theorem dL_room_4 : decode cL_room 4 = .ok (.iload_n 2, 1) := by decide +kernel
theorem dL_room_5 : decode cL_room 5 = .ok (.invokevirtual 74, 3) := by decide +kernel
theorem dL_room_8 : decode cL_room 8 = .ok (.i2l, 1) := by decide +kernel
theorem dL_room_9 : decode cL_room 9 = .ok (.lastore, 1) := by decide +kernel
theorem dL_room_10 : decode cL_room 10 = .ok (.goto 7, 3) := by decide +kernel
theorem dL_room_13 : decode cL_room 13 = .ok (.astore 4, 2) := by decide +kernel
theorem dL_room_15 : decode cL_room 15 = .ok (.iconst 1, 1) := by decide +kernel
theorem dL_room_16 : decode cL_room 16 = .ok (.ireturn, 1) := by decide +kernel
theorem dL_room_17 : decode cL_room 17 = .ok (.iconst 0, 1) := by decide +kernel
theorem dL_room_18 : decode cL_room 18 = .ok (.ireturn, 1) := by decide +kernel
theorem dL_law_0 : decode cL_law 0 = .ok (.new 8, 3) := by decide +kernel
theorem dL_law_3 : decode cL_law 3 = .ok (.dup, 1) := by decide +kernel
theorem dL_law_4 : decode cL_law 4 = .ok (.invokespecial 78, 3) := by decide +kernel
theorem dL_law_7 : decode cL_law 7 = .ok (.astore_n 1, 1) := by decide +kernel
theorem dL_law_8 : decode cL_law 8 = .ok (.new 79, 3) := by decide +kernel
theorem dL_law_11 : decode cL_law 11 = .ok (.dup, 1) := by decide +kernel
theorem dL_law_12 : decode cL_law 12 = .ok (.invokespecial 81, 3) := by decide +kernel
theorem dL_law_15 : decode cL_law 15 = .ok (.astore_n 2, 1) := by decide +kernel
theorem dL_law_16 : decode cL_law 16 = .ok (.iconst 1, 1) := by decide +kernel
theorem dL_law_17 : decode cL_law 17 = .ok (.newarray .long, 2) := by decide +kernel
theorem dL_law_19 : decode cL_law 19 = .ok (.astore_n 3, 1) := by decide +kernel
theorem dL_law_20 : decode cL_law 20 = .ok (.iconst 0, 1) := by decide +kernel
theorem dL_law_21 : decode cL_law 21 = .ok (.istore 4, 2) := by decide +kernel
theorem dL_law_23 : decode cL_law 23 = .ok (.iload 4, 2) := by decide +kernel
theorem dL_law_25 : decode cL_law 25 = .ok (.aload_n 0, 1) := by decide +kernel
theorem dL_law_26 : decode cL_law 26 = .ok (.arraylength, 1) := by decide +kernel
theorem dL_law_27 : decode cL_law 27 = .ok (.iconst 5, 1) := by decide +kernel
theorem dL_law_28 : decode cL_law 28 = .ok (.isub, 1) := by decide +kernel
theorem dL_law_29 : decode cL_law 29 = .ok (.if_icmp .gt 1453, 3) := by decide +kernel
theorem dL_law_32 : decode cL_law 32 = .ok (.aload_n 0, 1) := by decide +kernel
theorem dL_law_33 : decode cL_law 33 = .ok (.iload 4, 2) := by decide +kernel
theorem dL_law_35 : decode cL_law 35 = .ok (.iaload, 1) := by decide +kernel
theorem dL_law_36 : decode cL_law 36 = .ok (.bipush 31, 2) := by decide +kernel
theorem dL_law_38 : decode cL_law 38 = .ok (.iand, 1) := by decide +kernel
theorem dL_law_39 : decode cL_law 39 = .ok (.tableswitch 1437 0 25 #[117, 197, 289, 345, 413, 469, 525, 581, 594, 607, 663, 676, 689, 733, 777, 802, 870, 926, 994, 1062, 1118, 1174, 1230, 1298, 1382, 1423], 117) := by decide +kernel
theorem dL_law_156 : decode cL_law 156 = .ok (.aload_n 1, 1) := by decide +kernel
theorem dL_law_157 : decode cL_law 157 = .ok (.aload_n 0, 1) := by decide +kernel
theorem dL_law_158 : decode cL_law 158 = .ok (.iload 4, 2) := by decide +kernel
theorem dL_law_160 : decode cL_law 160 = .ok (.iconst 1, 1) := by decide +kernel
theorem dL_law_161 : decode cL_law 161 = .ok (.iadd, 1) := by decide +kernel
theorem dL_law_162 : decode cL_law 162 = .ok (.iaload, 1) := by decide +kernel
theorem dL_law_163 : decode cL_law 163 = .ok (.aload_n 0, 1) := by decide +kernel
theorem dL_law_164 : decode cL_law 164 = .ok (.iload 4, 2) := by decide +kernel
theorem dL_law_166 : decode cL_law 166 = .ok (.iconst 2, 1) := by decide +kernel
theorem dL_law_167 : decode cL_law 167 = .ok (.iadd, 1) := by decide +kernel
theorem dL_law_168 : decode cL_law 168 = .ok (.iaload, 1) := by decide +kernel
theorem dL_law_169 : decode cL_law 169 = .ok (.aload_n 0, 1) := by decide +kernel
theorem dL_law_170 : decode cL_law 170 = .ok (.iload 4, 2) := by decide +kernel
theorem dL_law_172 : decode cL_law 172 = .ok (.iconst 3, 1) := by decide +kernel
theorem dL_law_173 : decode cL_law 173 = .ok (.iadd, 1) := by decide +kernel
theorem dL_law_174 : decode cL_law 174 = .ok (.iaload, 1) := by decide +kernel
theorem dL_law_175 : decode cL_law 175 = .ok (.aload_n 3, 1) := by decide +kernel
theorem dL_law_176 : decode cL_law 176 = .ok (.invokestatic 82, 3) := by decide +kernel
theorem dL_law_179 : decode cL_law 179 = .ok (.istore 5, 2) := by decide +kernel
theorem dL_law_181 : decode cL_law 181 = .ok (.aload_n 2, 1) := by decide +kernel
theorem dL_law_182 : decode cL_law 182 = .ok (.aload_n 0, 1) := by decide +kernel
theorem dL_law_183 : decode cL_law 183 = .ok (.iload 4, 2) := by decide +kernel
theorem dL_law_185 : decode cL_law 185 = .ok (.iconst 1, 1) := by decide +kernel
theorem dL_law_186 : decode cL_law 186 = .ok (.iadd, 1) := by decide +kernel
theorem dL_law_187 : decode cL_law 187 = .ok (.iaload, 1) := by decide +kernel
theorem dL_law_188 : decode cL_law 188 = .ok (.aload_n 0, 1) := by decide +kernel
theorem dL_law_189 : decode cL_law 189 = .ok (.iload 4, 2) := by decide +kernel
theorem dL_law_191 : decode cL_law 191 = .ok (.iconst 2, 1) := by decide +kernel
theorem dL_law_192 : decode cL_law 192 = .ok (.iadd, 1) := by decide +kernel
theorem dL_law_193 : decode cL_law 193 = .ok (.iaload, 1) := by decide +kernel
theorem dL_law_194 : decode cL_law 194 = .ok (.aload_n 0, 1) := by decide +kernel
theorem dL_law_195 : decode cL_law 195 = .ok (.iload 4, 2) := by decide +kernel
theorem dL_law_197 : decode cL_law 197 = .ok (.iconst 3, 1) := by decide +kernel
theorem dL_law_198 : decode cL_law 198 = .ok (.iadd, 1) := by decide +kernel
theorem dL_law_199 : decode cL_law 199 = .ok (.iaload, 1) := by decide +kernel
theorem dL_law_200 : decode cL_law 200 = .ok (.invokevirtual 87, 3) := by decide +kernel
theorem dL_law_203 : decode cL_law 203 = .ok (.istore 6, 2) := by decide +kernel
theorem dL_law_205 : decode cL_law 205 = .ok (.aload_n 2, 1) := by decide +kernel
theorem dL_law_206 : decode cL_law 206 = .ok (.invokevirtual 88, 3) := by decide +kernel
theorem dL_law_209 : decode cL_law 209 = .ok (.iload 5, 2) := by decide +kernel
theorem dL_law_211 : decode cL_law 211 = .ok (.if_icmp .eq 5, 3) := by decide +kernel
theorem dL_law_214 : decode cL_law 214 = .ok (.iconst 0, 1) := by decide +kernel
theorem dL_law_215 : decode cL_law 215 = .ok (.ireturn, 1) := by decide +kernel
theorem dL_law_216 : decode cL_law 216 = .ok (.iload 5, 2) := by decide +kernel
theorem dL_law_218 : decode cL_law 218 = .ok (.ifCond .ne 15, 3) := by decide +kernel
theorem dL_law_221 : decode cL_law 221 = .ok (.aload_n 3, 1) := by decide +kernel
theorem dL_law_222 : decode cL_law 222 = .ok (.iconst 0, 1) := by decide +kernel
theorem dL_law_223 : decode cL_law 223 = .ok (.laload, 1) := by decide +kernel
theorem dL_law_224 : decode cL_law 224 = .ok (.iload 6, 2) := by decide +kernel
theorem dL_law_226 : decode cL_law 226 = .ok (.i2l, 1) := by decide +kernel
theorem dL_law_227 : decode cL_law 227 = .ok (.lcmp, 1) := by decide +kernel
theorem dL_law_228 : decode cL_law 228 = .ok (.ifCond .eq 5, 3) := by decide +kernel
theorem dL_law_231 : decode cL_law 231 = .ok (.iconst 0, 1) := by decide +kernel
theorem dL_law_232 : decode cL_law 232 = .ok (.ireturn, 1) := by decide +kernel
theorem dL_law_233 : decode cL_law 233 = .ok (.goto 1243, 3) := by decide +kernel
theorem dL_law_236 : decode cL_law 236 = .ok (.aload_n 1, 1) := by decide +kernel
theorem dL_law_237 : decode cL_law 237 = .ok (.aload_n 0, 1) := by decide +kernel
theorem dL_law_238 : decode cL_law 238 = .ok (.iload 4, 2) := by decide +kernel
theorem dL_law_240 : decode cL_law 240 = .ok (.iconst 1, 1) := by decide +kernel
theorem dL_law_241 : decode cL_law 241 = .ok (.iadd, 1) := by decide +kernel
theorem dL_law_242 : decode cL_law 242 = .ok (.iaload, 1) := by decide +kernel
theorem dL_law_243 : decode cL_law 243 = .ok (.aload_n 0, 1) := by decide +kernel
theorem dL_law_244 : decode cL_law 244 = .ok (.iload 4, 2) := by decide +kernel
theorem dL_law_246 : decode cL_law 246 = .ok (.iconst 2, 1) := by decide +kernel
theorem dL_law_247 : decode cL_law 247 = .ok (.iadd, 1) := by decide +kernel
theorem dL_law_248 : decode cL_law 248 = .ok (.iaload, 1) := by decide +kernel
theorem dL_law_249 : decode cL_law 249 = .ok (.aload_n 0, 1) := by decide +kernel
theorem dL_law_250 : decode cL_law 250 = .ok (.iload 4, 2) := by decide +kernel
theorem dL_law_252 : decode cL_law 252 = .ok (.iconst 3, 1) := by decide +kernel
theorem dL_law_253 : decode cL_law 253 = .ok (.iadd, 1) := by decide +kernel
theorem dL_law_254 : decode cL_law 254 = .ok (.iaload, 1) := by decide +kernel
theorem dL_law_255 : decode cL_law 255 = .ok (.aload_n 0, 1) := by decide +kernel
theorem dL_law_256 : decode cL_law 256 = .ok (.iload 4, 2) := by decide +kernel
theorem dL_law_258 : decode cL_law 258 = .ok (.iconst 4, 1) := by decide +kernel
theorem dL_law_259 : decode cL_law 259 = .ok (.iadd, 1) := by decide +kernel
theorem dL_law_260 : decode cL_law 260 = .ok (.iaload, 1) := by decide +kernel
theorem dL_law_261 : decode cL_law 261 = .ok (.aload_n 3, 1) := by decide +kernel
theorem dL_law_262 : decode cL_law 262 = .ok (.invokestatic 91, 3) := by decide +kernel
theorem dL_law_265 : decode cL_law 265 = .ok (.istore 5, 2) := by decide +kernel
theorem dL_law_267 : decode cL_law 267 = .ok (.aload_n 2, 1) := by decide +kernel
theorem dL_law_268 : decode cL_law 268 = .ok (.aload_n 0, 1) := by decide +kernel
theorem dL_law_269 : decode cL_law 269 = .ok (.iload 4, 2) := by decide +kernel
theorem dL_law_271 : decode cL_law 271 = .ok (.iconst 1, 1) := by decide +kernel
theorem dL_law_272 : decode cL_law 272 = .ok (.iadd, 1) := by decide +kernel
theorem dL_law_273 : decode cL_law 273 = .ok (.iaload, 1) := by decide +kernel
theorem dL_law_274 : decode cL_law 274 = .ok (.aload_n 0, 1) := by decide +kernel
theorem dL_law_275 : decode cL_law 275 = .ok (.iload 4, 2) := by decide +kernel
theorem dL_law_277 : decode cL_law 277 = .ok (.iconst 2, 1) := by decide +kernel
theorem dL_law_278 : decode cL_law 278 = .ok (.iadd, 1) := by decide +kernel
theorem dL_law_279 : decode cL_law 279 = .ok (.iaload, 1) := by decide +kernel
theorem dL_law_280 : decode cL_law 280 = .ok (.aload_n 0, 1) := by decide +kernel
theorem dL_law_281 : decode cL_law 281 = .ok (.iload 4, 2) := by decide +kernel
theorem dL_law_283 : decode cL_law 283 = .ok (.iconst 3, 1) := by decide +kernel
theorem dL_law_284 : decode cL_law 284 = .ok (.iadd, 1) := by decide +kernel
theorem dL_law_285 : decode cL_law 285 = .ok (.iaload, 1) := by decide +kernel
theorem dL_law_286 : decode cL_law 286 = .ok (.aload_n 0, 1) := by decide +kernel
theorem dL_law_287 : decode cL_law 287 = .ok (.iload 4, 2) := by decide +kernel
theorem dL_law_289 : decode cL_law 289 = .ok (.iconst 4, 1) := by decide +kernel
theorem dL_law_290 : decode cL_law 290 = .ok (.iadd, 1) := by decide +kernel
theorem dL_law_291 : decode cL_law 291 = .ok (.iaload, 1) := by decide +kernel
theorem dL_law_292 : decode cL_law 292 = .ok (.invokevirtual 94, 3) := by decide +kernel
theorem dL_law_295 : decode cL_law 295 = .ok (.istore 6, 2) := by decide +kernel
theorem dL_law_297 : decode cL_law 297 = .ok (.aload_n 2, 1) := by decide +kernel
theorem dL_law_298 : decode cL_law 298 = .ok (.invokevirtual 88, 3) := by decide +kernel
theorem dL_law_301 : decode cL_law 301 = .ok (.iload 5, 2) := by decide +kernel
theorem dL_law_303 : decode cL_law 303 = .ok (.if_icmp .eq 5, 3) := by decide +kernel
theorem dL_law_306 : decode cL_law 306 = .ok (.iconst 0, 1) := by decide +kernel
theorem dL_law_307 : decode cL_law 307 = .ok (.ireturn, 1) := by decide +kernel
theorem dL_law_308 : decode cL_law 308 = .ok (.iload 5, 2) := by decide +kernel
theorem dL_law_310 : decode cL_law 310 = .ok (.ifCond .ne 15, 3) := by decide +kernel
theorem dL_law_313 : decode cL_law 313 = .ok (.aload_n 3, 1) := by decide +kernel
theorem dL_law_314 : decode cL_law 314 = .ok (.iconst 0, 1) := by decide +kernel
theorem dL_law_315 : decode cL_law 315 = .ok (.laload, 1) := by decide +kernel
theorem dL_law_316 : decode cL_law 316 = .ok (.iload 6, 2) := by decide +kernel
theorem dL_law_318 : decode cL_law 318 = .ok (.i2l, 1) := by decide +kernel
theorem dL_law_319 : decode cL_law 319 = .ok (.lcmp, 1) := by decide +kernel
theorem dL_law_320 : decode cL_law 320 = .ok (.ifCond .eq 5, 3) := by decide +kernel
theorem dL_law_323 : decode cL_law 323 = .ok (.iconst 0, 1) := by decide +kernel
theorem dL_law_324 : decode cL_law 324 = .ok (.ireturn, 1) := by decide +kernel
theorem dL_law_325 : decode cL_law 325 = .ok (.goto 1151, 3) := by decide +kernel
theorem dL_law_328 : decode cL_law 328 = .ok (.aload_n 1, 1) := by decide +kernel
theorem dL_law_329 : decode cL_law 329 = .ok (.aload_n 0, 1) := by decide +kernel
theorem dL_law_330 : decode cL_law 330 = .ok (.iload 4, 2) := by decide +kernel
theorem dL_law_332 : decode cL_law 332 = .ok (.iconst 1, 1) := by decide +kernel
theorem dL_law_333 : decode cL_law 333 = .ok (.iadd, 1) := by decide +kernel
theorem dL_law_334 : decode cL_law 334 = .ok (.iaload, 1) := by decide +kernel
theorem dL_law_335 : decode cL_law 335 = .ok (.aload_n 3, 1) := by decide +kernel
theorem dL_law_336 : decode cL_law 336 = .ok (.invokestatic 95, 3) := by decide +kernel
theorem dL_law_339 : decode cL_law 339 = .ok (.istore 5, 2) := by decide +kernel
theorem dL_law_341 : decode cL_law 341 = .ok (.aload_n 2, 1) := by decide +kernel
theorem dL_law_342 : decode cL_law 342 = .ok (.aload_n 0, 1) := by decide +kernel
theorem dL_law_343 : decode cL_law 343 = .ok (.iload 4, 2) := by decide +kernel
theorem dL_law_345 : decode cL_law 345 = .ok (.iconst 1, 1) := by decide +kernel
theorem dL_law_346 : decode cL_law 346 = .ok (.iadd, 1) := by decide +kernel
theorem dL_law_347 : decode cL_law 347 = .ok (.iaload, 1) := by decide +kernel
theorem dL_law_348 : decode cL_law 348 = .ok (.invokevirtual 98, 3) := by decide +kernel
theorem dL_law_351 : decode cL_law 351 = .ok (.istore 6, 2) := by decide +kernel
theorem dL_law_353 : decode cL_law 353 = .ok (.aload_n 2, 1) := by decide +kernel
theorem dL_law_354 : decode cL_law 354 = .ok (.invokevirtual 88, 3) := by decide +kernel
theorem dL_law_357 : decode cL_law 357 = .ok (.iload 5, 2) := by decide +kernel
theorem dL_law_359 : decode cL_law 359 = .ok (.if_icmp .eq 5, 3) := by decide +kernel
theorem dL_law_362 : decode cL_law 362 = .ok (.iconst 0, 1) := by decide +kernel
theorem dL_law_363 : decode cL_law 363 = .ok (.ireturn, 1) := by decide +kernel
theorem dL_law_364 : decode cL_law 364 = .ok (.iload 5, 2) := by decide +kernel
theorem dL_law_366 : decode cL_law 366 = .ok (.ifCond .ne 15, 3) := by decide +kernel
theorem dL_law_369 : decode cL_law 369 = .ok (.aload_n 3, 1) := by decide +kernel
theorem dL_law_370 : decode cL_law 370 = .ok (.iconst 0, 1) := by decide +kernel
theorem dL_law_371 : decode cL_law 371 = .ok (.laload, 1) := by decide +kernel
theorem dL_law_372 : decode cL_law 372 = .ok (.iload 6, 2) := by decide +kernel
theorem dL_law_374 : decode cL_law 374 = .ok (.i2l, 1) := by decide +kernel
theorem dL_law_375 : decode cL_law 375 = .ok (.lcmp, 1) := by decide +kernel
theorem dL_law_376 : decode cL_law 376 = .ok (.ifCond .eq 5, 3) := by decide +kernel
theorem dL_law_379 : decode cL_law 379 = .ok (.iconst 0, 1) := by decide +kernel
theorem dL_law_380 : decode cL_law 380 = .ok (.ireturn, 1) := by decide +kernel
theorem dL_law_381 : decode cL_law 381 = .ok (.goto 1095, 3) := by decide +kernel
theorem dL_law_384 : decode cL_law 384 = .ok (.aload_n 1, 1) := by decide +kernel
theorem dL_law_385 : decode cL_law 385 = .ok (.aload_n 0, 1) := by decide +kernel
theorem dL_law_386 : decode cL_law 386 = .ok (.iload 4, 2) := by decide +kernel
theorem dL_law_388 : decode cL_law 388 = .ok (.iconst 1, 1) := by decide +kernel
theorem dL_law_389 : decode cL_law 389 = .ok (.iadd, 1) := by decide +kernel
theorem dL_law_390 : decode cL_law 390 = .ok (.iaload, 1) := by decide +kernel
theorem dL_law_391 : decode cL_law 391 = .ok (.aload_n 0, 1) := by decide +kernel
theorem dL_law_392 : decode cL_law 392 = .ok (.iload 4, 2) := by decide +kernel
theorem dL_law_394 : decode cL_law 394 = .ok (.iconst 2, 1) := by decide +kernel
theorem dL_law_395 : decode cL_law 395 = .ok (.iadd, 1) := by decide +kernel
theorem dL_law_396 : decode cL_law 396 = .ok (.iaload, 1) := by decide +kernel
theorem dL_law_397 : decode cL_law 397 = .ok (.aload_n 3, 1) := by decide +kernel
theorem dL_law_398 : decode cL_law 398 = .ok (.invokestatic 99, 3) := by decide +kernel
theorem dL_law_401 : decode cL_law 401 = .ok (.istore 5, 2) := by decide +kernel
theorem dL_law_403 : decode cL_law 403 = .ok (.aload_n 2, 1) := by decide +kernel
theorem dL_law_404 : decode cL_law 404 = .ok (.aload_n 0, 1) := by decide +kernel
theorem dL_law_405 : decode cL_law 405 = .ok (.iload 4, 2) := by decide +kernel
theorem dL_law_407 : decode cL_law 407 = .ok (.iconst 1, 1) := by decide +kernel
theorem dL_law_408 : decode cL_law 408 = .ok (.iadd, 1) := by decide +kernel
theorem dL_law_409 : decode cL_law 409 = .ok (.iaload, 1) := by decide +kernel
theorem dL_law_410 : decode cL_law 410 = .ok (.aload_n 0, 1) := by decide +kernel
theorem dL_law_411 : decode cL_law 411 = .ok (.iload 4, 2) := by decide +kernel
theorem dL_law_413 : decode cL_law 413 = .ok (.iconst 2, 1) := by decide +kernel
theorem dL_law_414 : decode cL_law 414 = .ok (.iadd, 1) := by decide +kernel
theorem dL_law_415 : decode cL_law 415 = .ok (.iaload, 1) := by decide +kernel
theorem dL_law_416 : decode cL_law 416 = .ok (.invokevirtual 102, 3) := by decide +kernel
theorem dL_law_419 : decode cL_law 419 = .ok (.istore 6, 2) := by decide +kernel
theorem dL_law_421 : decode cL_law 421 = .ok (.aload_n 2, 1) := by decide +kernel
theorem dL_law_422 : decode cL_law 422 = .ok (.invokevirtual 88, 3) := by decide +kernel
theorem dL_law_425 : decode cL_law 425 = .ok (.iload 5, 2) := by decide +kernel
theorem dL_law_427 : decode cL_law 427 = .ok (.if_icmp .eq 5, 3) := by decide +kernel
theorem dL_law_430 : decode cL_law 430 = .ok (.iconst 0, 1) := by decide +kernel
theorem dL_law_431 : decode cL_law 431 = .ok (.ireturn, 1) := by decide +kernel
theorem dL_law_432 : decode cL_law 432 = .ok (.iload 5, 2) := by decide +kernel
theorem dL_law_434 : decode cL_law 434 = .ok (.ifCond .ne 15, 3) := by decide +kernel
theorem dL_law_437 : decode cL_law 437 = .ok (.aload_n 3, 1) := by decide +kernel
theorem dL_law_438 : decode cL_law 438 = .ok (.iconst 0, 1) := by decide +kernel
theorem dL_law_439 : decode cL_law 439 = .ok (.laload, 1) := by decide +kernel
theorem dL_law_440 : decode cL_law 440 = .ok (.iload 6, 2) := by decide +kernel
theorem dL_law_442 : decode cL_law 442 = .ok (.i2l, 1) := by decide +kernel
theorem dL_law_443 : decode cL_law 443 = .ok (.lcmp, 1) := by decide +kernel
theorem dL_law_444 : decode cL_law 444 = .ok (.ifCond .eq 5, 3) := by decide +kernel
theorem dL_law_447 : decode cL_law 447 = .ok (.iconst 0, 1) := by decide +kernel
theorem dL_law_448 : decode cL_law 448 = .ok (.ireturn, 1) := by decide +kernel
theorem dL_law_449 : decode cL_law 449 = .ok (.goto 1027, 3) := by decide +kernel
theorem dL_law_452 : decode cL_law 452 = .ok (.aload_n 1, 1) := by decide +kernel
theorem dL_law_453 : decode cL_law 453 = .ok (.aload_n 0, 1) := by decide +kernel
theorem dL_law_454 : decode cL_law 454 = .ok (.iload 4, 2) := by decide +kernel
theorem dL_law_456 : decode cL_law 456 = .ok (.iconst 1, 1) := by decide +kernel
theorem dL_law_457 : decode cL_law 457 = .ok (.iadd, 1) := by decide +kernel
theorem dL_law_458 : decode cL_law 458 = .ok (.iaload, 1) := by decide +kernel
theorem dL_law_459 : decode cL_law 459 = .ok (.aload_n 3, 1) := by decide +kernel
theorem dL_law_460 : decode cL_law 460 = .ok (.invokestatic 103, 3) := by decide +kernel
theorem dL_law_463 : decode cL_law 463 = .ok (.istore 5, 2) := by decide +kernel
theorem dL_law_465 : decode cL_law 465 = .ok (.aload_n 2, 1) := by decide +kernel
theorem dL_law_466 : decode cL_law 466 = .ok (.aload_n 0, 1) := by decide +kernel
theorem dL_law_467 : decode cL_law 467 = .ok (.iload 4, 2) := by decide +kernel
theorem dL_law_469 : decode cL_law 469 = .ok (.iconst 1, 1) := by decide +kernel
theorem dL_law_470 : decode cL_law 470 = .ok (.iadd, 1) := by decide +kernel
theorem dL_law_471 : decode cL_law 471 = .ok (.iaload, 1) := by decide +kernel
theorem dL_law_472 : decode cL_law 472 = .ok (.invokevirtual 105, 3) := by decide +kernel
theorem dL_law_475 : decode cL_law 475 = .ok (.istore 6, 2) := by decide +kernel
theorem dL_law_477 : decode cL_law 477 = .ok (.aload_n 2, 1) := by decide +kernel
theorem dL_law_478 : decode cL_law 478 = .ok (.invokevirtual 88, 3) := by decide +kernel
theorem dL_law_481 : decode cL_law 481 = .ok (.iload 5, 2) := by decide +kernel
theorem dL_law_483 : decode cL_law 483 = .ok (.if_icmp .eq 5, 3) := by decide +kernel
theorem dL_law_486 : decode cL_law 486 = .ok (.iconst 0, 1) := by decide +kernel
theorem dL_law_487 : decode cL_law 487 = .ok (.ireturn, 1) := by decide +kernel
theorem dL_law_488 : decode cL_law 488 = .ok (.iload 5, 2) := by decide +kernel
theorem dL_law_490 : decode cL_law 490 = .ok (.ifCond .ne 15, 3) := by decide +kernel
theorem dL_law_493 : decode cL_law 493 = .ok (.aload_n 3, 1) := by decide +kernel
theorem dL_law_494 : decode cL_law 494 = .ok (.iconst 0, 1) := by decide +kernel
theorem dL_law_495 : decode cL_law 495 = .ok (.laload, 1) := by decide +kernel
theorem dL_law_496 : decode cL_law 496 = .ok (.iload 6, 2) := by decide +kernel
theorem dL_law_498 : decode cL_law 498 = .ok (.i2l, 1) := by decide +kernel
theorem dL_law_499 : decode cL_law 499 = .ok (.lcmp, 1) := by decide +kernel
theorem dL_law_500 : decode cL_law 500 = .ok (.ifCond .eq 5, 3) := by decide +kernel
theorem dL_law_503 : decode cL_law 503 = .ok (.iconst 0, 1) := by decide +kernel
theorem dL_law_504 : decode cL_law 504 = .ok (.ireturn, 1) := by decide +kernel
theorem dL_law_505 : decode cL_law 505 = .ok (.goto 971, 3) := by decide +kernel
theorem dL_law_508 : decode cL_law 508 = .ok (.aload_n 1, 1) := by decide +kernel
theorem dL_law_509 : decode cL_law 509 = .ok (.aload_n 0, 1) := by decide +kernel
theorem dL_law_510 : decode cL_law 510 = .ok (.iload 4, 2) := by decide +kernel
theorem dL_law_512 : decode cL_law 512 = .ok (.iconst 1, 1) := by decide +kernel
theorem dL_law_513 : decode cL_law 513 = .ok (.iadd, 1) := by decide +kernel
theorem dL_law_514 : decode cL_law 514 = .ok (.iaload, 1) := by decide +kernel
theorem dL_law_515 : decode cL_law 515 = .ok (.aload_n 3, 1) := by decide +kernel
theorem dL_law_516 : decode cL_law 516 = .ok (.invokestatic 106, 3) := by decide +kernel
theorem dL_law_519 : decode cL_law 519 = .ok (.istore 5, 2) := by decide +kernel
theorem dL_law_521 : decode cL_law 521 = .ok (.aload_n 2, 1) := by decide +kernel
theorem dL_law_522 : decode cL_law 522 = .ok (.aload_n 0, 1) := by decide +kernel
theorem dL_law_523 : decode cL_law 523 = .ok (.iload 4, 2) := by decide +kernel
theorem dL_law_525 : decode cL_law 525 = .ok (.iconst 1, 1) := by decide +kernel
theorem dL_law_526 : decode cL_law 526 = .ok (.iadd, 1) := by decide +kernel
theorem dL_law_527 : decode cL_law 527 = .ok (.iaload, 1) := by decide +kernel
theorem dL_law_528 : decode cL_law 528 = .ok (.invokevirtual 108, 3) := by decide +kernel
theorem dL_law_531 : decode cL_law 531 = .ok (.istore 6, 2) := by decide +kernel
theorem dL_law_533 : decode cL_law 533 = .ok (.aload_n 2, 1) := by decide +kernel
theorem dL_law_534 : decode cL_law 534 = .ok (.invokevirtual 88, 3) := by decide +kernel
theorem dL_law_537 : decode cL_law 537 = .ok (.iload 5, 2) := by decide +kernel
theorem dL_law_539 : decode cL_law 539 = .ok (.if_icmp .eq 5, 3) := by decide +kernel
theorem dL_law_542 : decode cL_law 542 = .ok (.iconst 0, 1) := by decide +kernel
theorem dL_law_543 : decode cL_law 543 = .ok (.ireturn, 1) := by decide +kernel
theorem dL_law_544 : decode cL_law 544 = .ok (.iload 5, 2) := by decide +kernel
theorem dL_law_546 : decode cL_law 546 = .ok (.ifCond .ne 15, 3) := by decide +kernel
theorem dL_law_549 : decode cL_law 549 = .ok (.aload_n 3, 1) := by decide +kernel
theorem dL_law_550 : decode cL_law 550 = .ok (.iconst 0, 1) := by decide +kernel
theorem dL_law_551 : decode cL_law 551 = .ok (.laload, 1) := by decide +kernel
theorem dL_law_552 : decode cL_law 552 = .ok (.iload 6, 2) := by decide +kernel
theorem dL_law_554 : decode cL_law 554 = .ok (.i2l, 1) := by decide +kernel
theorem dL_law_555 : decode cL_law 555 = .ok (.lcmp, 1) := by decide +kernel
theorem dL_law_556 : decode cL_law 556 = .ok (.ifCond .eq 5, 3) := by decide +kernel
theorem dL_law_559 : decode cL_law 559 = .ok (.iconst 0, 1) := by decide +kernel
theorem dL_law_560 : decode cL_law 560 = .ok (.ireturn, 1) := by decide +kernel
theorem dL_law_561 : decode cL_law 561 = .ok (.goto 915, 3) := by decide +kernel
theorem dL_law_564 : decode cL_law 564 = .ok (.aload_n 1, 1) := by decide +kernel
theorem dL_law_565 : decode cL_law 565 = .ok (.aload_n 0, 1) := by decide +kernel
theorem dL_law_566 : decode cL_law 566 = .ok (.iload 4, 2) := by decide +kernel
theorem dL_law_568 : decode cL_law 568 = .ok (.iconst 1, 1) := by decide +kernel
theorem dL_law_569 : decode cL_law 569 = .ok (.iadd, 1) := by decide +kernel
theorem dL_law_570 : decode cL_law 570 = .ok (.iaload, 1) := by decide +kernel
theorem dL_law_571 : decode cL_law 571 = .ok (.aload_n 3, 1) := by decide +kernel
theorem dL_law_572 : decode cL_law 572 = .ok (.invokestatic 109, 3) := by decide +kernel
theorem dL_law_575 : decode cL_law 575 = .ok (.istore 5, 2) := by decide +kernel
theorem dL_law_577 : decode cL_law 577 = .ok (.aload_n 2, 1) := by decide +kernel
theorem dL_law_578 : decode cL_law 578 = .ok (.aload_n 0, 1) := by decide +kernel
theorem dL_law_579 : decode cL_law 579 = .ok (.iload 4, 2) := by decide +kernel
theorem dL_law_581 : decode cL_law 581 = .ok (.iconst 1, 1) := by decide +kernel
theorem dL_law_582 : decode cL_law 582 = .ok (.iadd, 1) := by decide +kernel
theorem dL_law_583 : decode cL_law 583 = .ok (.iaload, 1) := by decide +kernel
theorem dL_law_584 : decode cL_law 584 = .ok (.invokevirtual 111, 3) := by decide +kernel
theorem dL_law_587 : decode cL_law 587 = .ok (.istore 6, 2) := by decide +kernel
theorem dL_law_589 : decode cL_law 589 = .ok (.aload_n 2, 1) := by decide +kernel
theorem dL_law_590 : decode cL_law 590 = .ok (.invokevirtual 88, 3) := by decide +kernel
theorem dL_law_593 : decode cL_law 593 = .ok (.iload 5, 2) := by decide +kernel
theorem dL_law_595 : decode cL_law 595 = .ok (.if_icmp .eq 5, 3) := by decide +kernel
theorem dL_law_598 : decode cL_law 598 = .ok (.iconst 0, 1) := by decide +kernel
theorem dL_law_599 : decode cL_law 599 = .ok (.ireturn, 1) := by decide +kernel
theorem dL_law_600 : decode cL_law 600 = .ok (.iload 5, 2) := by decide +kernel
theorem dL_law_602 : decode cL_law 602 = .ok (.ifCond .ne 15, 3) := by decide +kernel
theorem dL_law_605 : decode cL_law 605 = .ok (.aload_n 3, 1) := by decide +kernel
theorem dL_law_606 : decode cL_law 606 = .ok (.iconst 0, 1) := by decide +kernel
theorem dL_law_607 : decode cL_law 607 = .ok (.laload, 1) := by decide +kernel
theorem dL_law_608 : decode cL_law 608 = .ok (.iload 6, 2) := by decide +kernel
theorem dL_law_610 : decode cL_law 610 = .ok (.i2l, 1) := by decide +kernel
theorem dL_law_611 : decode cL_law 611 = .ok (.lcmp, 1) := by decide +kernel
theorem dL_law_612 : decode cL_law 612 = .ok (.ifCond .eq 5, 3) := by decide +kernel
theorem dL_law_615 : decode cL_law 615 = .ok (.iconst 0, 1) := by decide +kernel
theorem dL_law_616 : decode cL_law 616 = .ok (.ireturn, 1) := by decide +kernel
theorem dL_law_617 : decode cL_law 617 = .ok (.goto 859, 3) := by decide +kernel
theorem dL_law_620 : decode cL_law 620 = .ok (.aload_n 1, 1) := by decide +kernel
theorem dL_law_621 : decode cL_law 621 = .ok (.invokevirtual 112, 3) := by decide +kernel
theorem dL_law_624 : decode cL_law 624 = .ok (.aload_n 2, 1) := by decide +kernel
theorem dL_law_625 : decode cL_law 625 = .ok (.invokevirtual 115, 3) := by decide +kernel
theorem dL_law_628 : decode cL_law 628 = .ok (.if_icmp .eq 848, 3) := by decide +kernel
theorem dL_law_631 : decode cL_law 631 = .ok (.iconst 0, 1) := by decide +kernel
theorem dL_law_632 : decode cL_law 632 = .ok (.ireturn, 1) := by decide +kernel
theorem dL_law_633 : decode cL_law 633 = .ok (.aload_n 1, 1) := by decide +kernel
theorem dL_law_634 : decode cL_law 634 = .ok (.invokevirtual 116, 3) := by decide +kernel
theorem dL_law_637 : decode cL_law 637 = .ok (.aload_n 2, 1) := by decide +kernel
theorem dL_law_638 : decode cL_law 638 = .ok (.invokevirtual 119, 3) := by decide +kernel
theorem dL_law_641 : decode cL_law 641 = .ok (.if_icmp .eq 835, 3) := by decide +kernel
theorem dL_law_644 : decode cL_law 644 = .ok (.iconst 0, 1) := by decide +kernel
theorem dL_law_645 : decode cL_law 645 = .ok (.ireturn, 1) := by decide +kernel
theorem dL_law_646 : decode cL_law 646 = .ok (.aload_n 1, 1) := by decide +kernel
theorem dL_law_647 : decode cL_law 647 = .ok (.aload_n 0, 1) := by decide +kernel
theorem dL_law_648 : decode cL_law 648 = .ok (.iload 4, 2) := by decide +kernel
theorem dL_law_650 : decode cL_law 650 = .ok (.iconst 1, 1) := by decide +kernel
theorem dL_law_651 : decode cL_law 651 = .ok (.iadd, 1) := by decide +kernel
theorem dL_law_652 : decode cL_law 652 = .ok (.iaload, 1) := by decide +kernel
theorem dL_law_653 : decode cL_law 653 = .ok (.aload_n 3, 1) := by decide +kernel
theorem dL_law_654 : decode cL_law 654 = .ok (.invokestatic 120, 3) := by decide +kernel
theorem dL_law_657 : decode cL_law 657 = .ok (.istore 5, 2) := by decide +kernel
theorem dL_law_659 : decode cL_law 659 = .ok (.aload_n 2, 1) := by decide +kernel
theorem dL_law_660 : decode cL_law 660 = .ok (.aload_n 0, 1) := by decide +kernel
theorem dL_law_661 : decode cL_law 661 = .ok (.iload 4, 2) := by decide +kernel
theorem dL_law_663 : decode cL_law 663 = .ok (.iconst 1, 1) := by decide +kernel
theorem dL_law_664 : decode cL_law 664 = .ok (.iadd, 1) := by decide +kernel
theorem dL_law_665 : decode cL_law 665 = .ok (.iaload, 1) := by decide +kernel
theorem dL_law_666 : decode cL_law 666 = .ok (.invokevirtual 122, 3) := by decide +kernel
theorem dL_law_669 : decode cL_law 669 = .ok (.istore 6, 2) := by decide +kernel
theorem dL_law_671 : decode cL_law 671 = .ok (.aload_n 2, 1) := by decide +kernel
theorem dL_law_672 : decode cL_law 672 = .ok (.invokevirtual 88, 3) := by decide +kernel
theorem dL_law_675 : decode cL_law 675 = .ok (.iload 5, 2) := by decide +kernel
theorem dL_law_677 : decode cL_law 677 = .ok (.if_icmp .eq 5, 3) := by decide +kernel
theorem dL_law_680 : decode cL_law 680 = .ok (.iconst 0, 1) := by decide +kernel
theorem dL_law_681 : decode cL_law 681 = .ok (.ireturn, 1) := by decide +kernel
theorem dL_law_682 : decode cL_law 682 = .ok (.iload 5, 2) := by decide +kernel
theorem dL_law_684 : decode cL_law 684 = .ok (.ifCond .ne 15, 3) := by decide +kernel
theorem dL_law_687 : decode cL_law 687 = .ok (.aload_n 3, 1) := by decide +kernel
theorem dL_law_688 : decode cL_law 688 = .ok (.iconst 0, 1) := by decide +kernel
theorem dL_law_689 : decode cL_law 689 = .ok (.laload, 1) := by decide +kernel
theorem dL_law_690 : decode cL_law 690 = .ok (.iload 6, 2) := by decide +kernel
theorem dL_law_692 : decode cL_law 692 = .ok (.i2l, 1) := by decide +kernel
theorem dL_law_693 : decode cL_law 693 = .ok (.lcmp, 1) := by decide +kernel
theorem dL_law_694 : decode cL_law 694 = .ok (.ifCond .eq 5, 3) := by decide +kernel
theorem dL_law_697 : decode cL_law 697 = .ok (.iconst 0, 1) := by decide +kernel
theorem dL_law_698 : decode cL_law 698 = .ok (.ireturn, 1) := by decide +kernel
theorem dL_law_699 : decode cL_law 699 = .ok (.goto 777, 3) := by decide +kernel
theorem dL_law_702 : decode cL_law 702 = .ok (.aload_n 1, 1) := by decide +kernel
theorem dL_law_703 : decode cL_law 703 = .ok (.invokevirtual 123, 3) := by decide +kernel
theorem dL_law_706 : decode cL_law 706 = .ok (.aload_n 2, 1) := by decide +kernel
theorem dL_law_707 : decode cL_law 707 = .ok (.invokevirtual 126, 3) := by decide +kernel
theorem dL_law_710 : decode cL_law 710 = .ok (.if_icmp .eq 766, 3) := by decide +kernel
theorem dL_law_713 : decode cL_law 713 = .ok (.iconst 0, 1) := by decide +kernel
theorem dL_law_714 : decode cL_law 714 = .ok (.ireturn, 1) := by decide +kernel
theorem dL_law_715 : decode cL_law 715 = .ok (.aload_n 1, 1) := by decide +kernel
theorem dL_law_716 : decode cL_law 716 = .ok (.invokevirtual 127, 3) := by decide +kernel
theorem dL_law_719 : decode cL_law 719 = .ok (.aload_n 2, 1) := by decide +kernel
theorem dL_law_720 : decode cL_law 720 = .ok (.invokevirtual 130, 3) := by decide +kernel
theorem dL_law_723 : decode cL_law 723 = .ok (.if_icmp .eq 753, 3) := by decide +kernel
theorem dL_law_726 : decode cL_law 726 = .ok (.iconst 0, 1) := by decide +kernel
theorem dL_law_727 : decode cL_law 727 = .ok (.ireturn, 1) := by decide +kernel
theorem dL_law_728 : decode cL_law 728 = .ok (.aload_n 1, 1) := by decide +kernel
theorem dL_law_729 : decode cL_law 729 = .ok (.aload_n 3, 1) := by decide +kernel
theorem dL_law_730 : decode cL_law 730 = .ok (.invokestatic 131, 3) := by decide +kernel
theorem dL_law_733 : decode cL_law 733 = .ok (.istore 5, 2) := by decide +kernel
theorem dL_law_735 : decode cL_law 735 = .ok (.aload_n 2, 1) := by decide +kernel
theorem dL_law_736 : decode cL_law 736 = .ok (.invokevirtual 134, 3) := by decide +kernel
theorem dL_law_739 : decode cL_law 739 = .ok (.istore 6, 2) := by decide +kernel
theorem dL_law_741 : decode cL_law 741 = .ok (.aload_n 2, 1) := by decide +kernel
theorem dL_law_742 : decode cL_law 742 = .ok (.invokevirtual 88, 3) := by decide +kernel
theorem dL_law_745 : decode cL_law 745 = .ok (.iload 5, 2) := by decide +kernel
theorem dL_law_747 : decode cL_law 747 = .ok (.if_icmp .eq 5, 3) := by decide +kernel
theorem dL_law_750 : decode cL_law 750 = .ok (.iconst 0, 1) := by decide +kernel
theorem dL_law_751 : decode cL_law 751 = .ok (.ireturn, 1) := by decide +kernel
theorem dL_law_752 : decode cL_law 752 = .ok (.iload 5, 2) := by decide +kernel
theorem dL_law_754 : decode cL_law 754 = .ok (.ifCond .ne 15, 3) := by decide +kernel
theorem dL_law_757 : decode cL_law 757 = .ok (.aload_n 3, 1) := by decide +kernel
theorem dL_law_758 : decode cL_law 758 = .ok (.iconst 0, 1) := by decide +kernel
theorem dL_law_759 : decode cL_law 759 = .ok (.laload, 1) := by decide +kernel
theorem dL_law_760 : decode cL_law 760 = .ok (.iload 6, 2) := by decide +kernel
theorem dL_law_762 : decode cL_law 762 = .ok (.i2l, 1) := by decide +kernel
theorem dL_law_763 : decode cL_law 763 = .ok (.lcmp, 1) := by decide +kernel
theorem dL_law_764 : decode cL_law 764 = .ok (.ifCond .eq 5, 3) := by decide +kernel
theorem dL_law_767 : decode cL_law 767 = .ok (.iconst 0, 1) := by decide +kernel
theorem dL_law_768 : decode cL_law 768 = .ok (.ireturn, 1) := by decide +kernel
theorem dL_law_769 : decode cL_law 769 = .ok (.goto 707, 3) := by decide +kernel
theorem dL_law_772 : decode cL_law 772 = .ok (.aload_n 1, 1) := by decide +kernel
theorem dL_law_773 : decode cL_law 773 = .ok (.aload_n 3, 1) := by decide +kernel
theorem dL_law_774 : decode cL_law 774 = .ok (.invokestatic 135, 3) := by decide +kernel
theorem dL_law_777 : decode cL_law 777 = .ok (.istore 5, 2) := by decide +kernel
theorem dL_law_779 : decode cL_law 779 = .ok (.aload_n 2, 1) := by decide +kernel
theorem dL_law_780 : decode cL_law 780 = .ok (.invokevirtual 137, 3) := by decide +kernel
theorem dL_law_783 : decode cL_law 783 = .ok (.istore 6, 2) := by decide +kernel
theorem dL_law_785 : decode cL_law 785 = .ok (.aload_n 2, 1) := by decide +kernel
theorem dL_law_786 : decode cL_law 786 = .ok (.invokevirtual 88, 3) := by decide +kernel
theorem dL_law_789 : decode cL_law 789 = .ok (.iload 5, 2) := by decide +kernel
theorem dL_law_791 : decode cL_law 791 = .ok (.if_icmp .eq 5, 3) := by decide +kernel
theorem dL_law_794 : decode cL_law 794 = .ok (.iconst 0, 1) := by decide +kernel
theorem dL_law_795 : decode cL_law 795 = .ok (.ireturn, 1) := by decide +kernel
theorem dL_law_796 : decode cL_law 796 = .ok (.iload 5, 2) := by decide +kernel
theorem dL_law_798 : decode cL_law 798 = .ok (.ifCond .ne 15, 3) := by decide +kernel
theorem dL_law_801 : decode cL_law 801 = .ok (.aload_n 3, 1) := by decide +kernel
theorem dL_law_802 : decode cL_law 802 = .ok (.iconst 0, 1) := by decide +kernel
theorem dL_law_803 : decode cL_law 803 = .ok (.laload, 1) := by decide +kernel
theorem dL_law_804 : decode cL_law 804 = .ok (.iload 6, 2) := by decide +kernel
theorem dL_law_806 : decode cL_law 806 = .ok (.i2l, 1) := by decide +kernel
theorem dL_law_807 : decode cL_law 807 = .ok (.lcmp, 1) := by decide +kernel
theorem dL_law_808 : decode cL_law 808 = .ok (.ifCond .eq 5, 3) := by decide +kernel
theorem dL_law_811 : decode cL_law 811 = .ok (.iconst 0, 1) := by decide +kernel
theorem dL_law_812 : decode cL_law 812 = .ok (.ireturn, 1) := by decide +kernel
theorem dL_law_813 : decode cL_law 813 = .ok (.goto 663, 3) := by decide +kernel
theorem dL_law_816 : decode cL_law 816 = .ok (.aload_n 1, 1) := by decide +kernel
theorem dL_law_817 : decode cL_law 817 = .ok (.aload_n 0, 1) := by decide +kernel
theorem dL_law_818 : decode cL_law 818 = .ok (.iload 4, 2) := by decide +kernel
theorem dL_law_820 : decode cL_law 820 = .ok (.iconst 1, 1) := by decide +kernel
theorem dL_law_821 : decode cL_law 821 = .ok (.iadd, 1) := by decide +kernel
theorem dL_law_822 : decode cL_law 822 = .ok (.iaload, 1) := by decide +kernel
theorem dL_law_823 : decode cL_law 823 = .ok (.invokevirtual 138, 3) := by decide +kernel
theorem dL_law_826 : decode cL_law 826 = .ok (.aload_n 2, 1) := by decide +kernel
theorem dL_law_827 : decode cL_law 827 = .ok (.aload_n 0, 1) := by decide +kernel
theorem dL_law_828 : decode cL_law 828 = .ok (.iload 4, 2) := by decide +kernel
theorem dL_law_830 : decode cL_law 830 = .ok (.iconst 1, 1) := by decide +kernel
theorem dL_law_831 : decode cL_law 831 = .ok (.iadd, 1) := by decide +kernel
theorem dL_law_832 : decode cL_law 832 = .ok (.iaload, 1) := by decide +kernel
theorem dL_law_833 : decode cL_law 833 = .ok (.invokevirtual 141, 3) := by decide +kernel
theorem dL_law_836 : decode cL_law 836 = .ok (.if_icmp .eq 640, 3) := by decide +kernel
theorem dL_law_839 : decode cL_law 839 = .ok (.iconst 0, 1) := by decide +kernel
theorem dL_law_840 : decode cL_law 840 = .ok (.ireturn, 1) := by decide +kernel
theorem dL_law_841 : decode cL_law 841 = .ok (.aload_n 1, 1) := by decide +kernel
theorem dL_law_842 : decode cL_law 842 = .ok (.aload_n 0, 1) := by decide +kernel
theorem dL_law_843 : decode cL_law 843 = .ok (.iload 4, 2) := by decide +kernel
theorem dL_law_845 : decode cL_law 845 = .ok (.iconst 1, 1) := by decide +kernel
theorem dL_law_846 : decode cL_law 846 = .ok (.iadd, 1) := by decide +kernel
theorem dL_law_847 : decode cL_law 847 = .ok (.iaload, 1) := by decide +kernel
theorem dL_law_848 : decode cL_law 848 = .ok (.aload_n 0, 1) := by decide +kernel
theorem dL_law_849 : decode cL_law 849 = .ok (.iload 4, 2) := by decide +kernel
theorem dL_law_851 : decode cL_law 851 = .ok (.iconst 2, 1) := by decide +kernel
theorem dL_law_852 : decode cL_law 852 = .ok (.iadd, 1) := by decide +kernel
theorem dL_law_853 : decode cL_law 853 = .ok (.iaload, 1) := by decide +kernel
theorem dL_law_854 : decode cL_law 854 = .ok (.aload_n 3, 1) := by decide +kernel
theorem dL_law_855 : decode cL_law 855 = .ok (.invokestatic 142, 3) := by decide +kernel
theorem dL_law_858 : decode cL_law 858 = .ok (.istore 5, 2) := by decide +kernel
theorem dL_law_860 : decode cL_law 860 = .ok (.aload_n 2, 1) := by decide +kernel
theorem dL_law_861 : decode cL_law 861 = .ok (.aload_n 0, 1) := by decide +kernel
theorem dL_law_862 : decode cL_law 862 = .ok (.iload 4, 2) := by decide +kernel
theorem dL_law_864 : decode cL_law 864 = .ok (.iconst 1, 1) := by decide +kernel
theorem dL_law_865 : decode cL_law 865 = .ok (.iadd, 1) := by decide +kernel
theorem dL_law_866 : decode cL_law 866 = .ok (.iaload, 1) := by decide +kernel
theorem dL_law_867 : decode cL_law 867 = .ok (.aload_n 0, 1) := by decide +kernel
theorem dL_law_868 : decode cL_law 868 = .ok (.iload 4, 2) := by decide +kernel
theorem dL_law_870 : decode cL_law 870 = .ok (.iconst 2, 1) := by decide +kernel
theorem dL_law_871 : decode cL_law 871 = .ok (.iadd, 1) := by decide +kernel
theorem dL_law_872 : decode cL_law 872 = .ok (.iaload, 1) := by decide +kernel
theorem dL_law_873 : decode cL_law 873 = .ok (.invokevirtual 144, 3) := by decide +kernel
theorem dL_law_876 : decode cL_law 876 = .ok (.istore 6, 2) := by decide +kernel
theorem dL_law_878 : decode cL_law 878 = .ok (.aload_n 2, 1) := by decide +kernel
theorem dL_law_879 : decode cL_law 879 = .ok (.invokevirtual 88, 3) := by decide +kernel
theorem dL_law_882 : decode cL_law 882 = .ok (.iload 5, 2) := by decide +kernel
theorem dL_law_884 : decode cL_law 884 = .ok (.if_icmp .eq 5, 3) := by decide +kernel
theorem dL_law_887 : decode cL_law 887 = .ok (.iconst 0, 1) := by decide +kernel
theorem dL_law_888 : decode cL_law 888 = .ok (.ireturn, 1) := by decide +kernel
theorem dL_law_889 : decode cL_law 889 = .ok (.iload 5, 2) := by decide +kernel
theorem dL_law_891 : decode cL_law 891 = .ok (.ifCond .ne 15, 3) := by decide +kernel
theorem dL_law_894 : decode cL_law 894 = .ok (.aload_n 3, 1) := by decide +kernel
theorem dL_law_895 : decode cL_law 895 = .ok (.iconst 0, 1) := by decide +kernel
theorem dL_law_896 : decode cL_law 896 = .ok (.laload, 1) := by decide +kernel
theorem dL_law_897 : decode cL_law 897 = .ok (.iload 6, 2) := by decide +kernel
theorem dL_law_899 : decode cL_law 899 = .ok (.i2l, 1) := by decide +kernel
theorem dL_law_900 : decode cL_law 900 = .ok (.lcmp, 1) := by decide +kernel
theorem dL_law_901 : decode cL_law 901 = .ok (.ifCond .eq 5, 3) := by decide +kernel
theorem dL_law_904 : decode cL_law 904 = .ok (.iconst 0, 1) := by decide +kernel
theorem dL_law_905 : decode cL_law 905 = .ok (.ireturn, 1) := by decide +kernel
theorem dL_law_906 : decode cL_law 906 = .ok (.goto 570, 3) := by decide +kernel
theorem dL_law_909 : decode cL_law 909 = .ok (.aload_n 1, 1) := by decide +kernel
theorem dL_law_910 : decode cL_law 910 = .ok (.aload_n 0, 1) := by decide +kernel
theorem dL_law_911 : decode cL_law 911 = .ok (.iload 4, 2) := by decide +kernel
theorem dL_law_913 : decode cL_law 913 = .ok (.iconst 1, 1) := by decide +kernel
theorem dL_law_914 : decode cL_law 914 = .ok (.iadd, 1) := by decide +kernel
theorem dL_law_915 : decode cL_law 915 = .ok (.iaload, 1) := by decide +kernel
theorem dL_law_916 : decode cL_law 916 = .ok (.aload_n 3, 1) := by decide +kernel
theorem dL_law_917 : decode cL_law 917 = .ok (.invokestatic 145, 3) := by decide +kernel
theorem dL_law_920 : decode cL_law 920 = .ok (.istore 5, 2) := by decide +kernel
theorem dL_law_922 : decode cL_law 922 = .ok (.aload_n 2, 1) := by decide +kernel
theorem dL_law_923 : decode cL_law 923 = .ok (.aload_n 0, 1) := by decide +kernel
theorem dL_law_924 : decode cL_law 924 = .ok (.iload 4, 2) := by decide +kernel
theorem dL_law_926 : decode cL_law 926 = .ok (.iconst 1, 1) := by decide +kernel
theorem dL_law_927 : decode cL_law 927 = .ok (.iadd, 1) := by decide +kernel
theorem dL_law_928 : decode cL_law 928 = .ok (.iaload, 1) := by decide +kernel
theorem dL_law_929 : decode cL_law 929 = .ok (.invokevirtual 147, 3) := by decide +kernel
theorem dL_law_932 : decode cL_law 932 = .ok (.istore 6, 2) := by decide +kernel
theorem dL_law_934 : decode cL_law 934 = .ok (.aload_n 2, 1) := by decide +kernel
theorem dL_law_935 : decode cL_law 935 = .ok (.invokevirtual 88, 3) := by decide +kernel
theorem dL_law_938 : decode cL_law 938 = .ok (.iload 5, 2) := by decide +kernel
theorem dL_law_940 : decode cL_law 940 = .ok (.if_icmp .eq 5, 3) := by decide +kernel
theorem dL_law_943 : decode cL_law 943 = .ok (.iconst 0, 1) := by decide +kernel
theorem dL_law_944 : decode cL_law 944 = .ok (.ireturn, 1) := by decide +kernel
theorem dL_law_945 : decode cL_law 945 = .ok (.iload 5, 2) := by decide +kernel
theorem dL_law_947 : decode cL_law 947 = .ok (.ifCond .ne 15, 3) := by decide +kernel
theorem dL_law_950 : decode cL_law 950 = .ok (.aload_n 3, 1) := by decide +kernel
theorem dL_law_951 : decode cL_law 951 = .ok (.iconst 0, 1) := by decide +kernel
theorem dL_law_952 : decode cL_law 952 = .ok (.laload, 1) := by decide +kernel
theorem dL_law_953 : decode cL_law 953 = .ok (.iload 6, 2) := by decide +kernel
theorem dL_law_955 : decode cL_law 955 = .ok (.i2l, 1) := by decide +kernel
theorem dL_law_956 : decode cL_law 956 = .ok (.lcmp, 1) := by decide +kernel
theorem dL_law_957 : decode cL_law 957 = .ok (.ifCond .eq 5, 3) := by decide +kernel
theorem dL_law_960 : decode cL_law 960 = .ok (.iconst 0, 1) := by decide +kernel
theorem dL_law_961 : decode cL_law 961 = .ok (.ireturn, 1) := by decide +kernel
theorem dL_law_962 : decode cL_law 962 = .ok (.goto 514, 3) := by decide +kernel
theorem dL_law_965 : decode cL_law 965 = .ok (.aload_n 1, 1) := by decide +kernel
theorem dL_law_966 : decode cL_law 966 = .ok (.aload_n 0, 1) := by decide +kernel
theorem dL_law_967 : decode cL_law 967 = .ok (.iload 4, 2) := by decide +kernel
theorem dL_law_969 : decode cL_law 969 = .ok (.iconst 1, 1) := by decide +kernel
theorem dL_law_970 : decode cL_law 970 = .ok (.iadd, 1) := by decide +kernel
theorem dL_law_971 : decode cL_law 971 = .ok (.iaload, 1) := by decide +kernel
theorem dL_law_972 : decode cL_law 972 = .ok (.aload_n 0, 1) := by decide +kernel
theorem dL_law_973 : decode cL_law 973 = .ok (.iload 4, 2) := by decide +kernel
theorem dL_law_975 : decode cL_law 975 = .ok (.iconst 2, 1) := by decide +kernel
theorem dL_law_976 : decode cL_law 976 = .ok (.iadd, 1) := by decide +kernel
theorem dL_law_977 : decode cL_law 977 = .ok (.iaload, 1) := by decide +kernel
theorem dL_law_978 : decode cL_law 978 = .ok (.aload_n 3, 1) := by decide +kernel
theorem dL_law_979 : decode cL_law 979 = .ok (.invokestatic 148, 3) := by decide +kernel
theorem dL_law_982 : decode cL_law 982 = .ok (.istore 5, 2) := by decide +kernel
theorem dL_law_984 : decode cL_law 984 = .ok (.aload_n 2, 1) := by decide +kernel
theorem dL_law_985 : decode cL_law 985 = .ok (.aload_n 0, 1) := by decide +kernel
theorem dL_law_986 : decode cL_law 986 = .ok (.iload 4, 2) := by decide +kernel
theorem dL_law_988 : decode cL_law 988 = .ok (.iconst 1, 1) := by decide +kernel
theorem dL_law_989 : decode cL_law 989 = .ok (.iadd, 1) := by decide +kernel
theorem dL_law_990 : decode cL_law 990 = .ok (.iaload, 1) := by decide +kernel
theorem dL_law_991 : decode cL_law 991 = .ok (.aload_n 0, 1) := by decide +kernel
theorem dL_law_992 : decode cL_law 992 = .ok (.iload 4, 2) := by decide +kernel
theorem dL_law_994 : decode cL_law 994 = .ok (.iconst 2, 1) := by decide +kernel
theorem dL_law_995 : decode cL_law 995 = .ok (.iadd, 1) := by decide +kernel
theorem dL_law_996 : decode cL_law 996 = .ok (.iaload, 1) := by decide +kernel
theorem dL_law_997 : decode cL_law 997 = .ok (.invokevirtual 150, 3) := by decide +kernel
theorem dL_law_1000 : decode cL_law 1000 = .ok (.istore 6, 2) := by decide +kernel
theorem dL_law_1002 : decode cL_law 1002 = .ok (.aload_n 2, 1) := by decide +kernel
theorem dL_law_1003 : decode cL_law 1003 = .ok (.invokevirtual 88, 3) := by decide +kernel
theorem dL_law_1006 : decode cL_law 1006 = .ok (.iload 5, 2) := by decide +kernel
theorem dL_law_1008 : decode cL_law 1008 = .ok (.if_icmp .eq 5, 3) := by decide +kernel
theorem dL_law_1011 : decode cL_law 1011 = .ok (.iconst 0, 1) := by decide +kernel
theorem dL_law_1012 : decode cL_law 1012 = .ok (.ireturn, 1) := by decide +kernel
theorem dL_law_1013 : decode cL_law 1013 = .ok (.iload 5, 2) := by decide +kernel
theorem dL_law_1015 : decode cL_law 1015 = .ok (.ifCond .ne 15, 3) := by decide +kernel
theorem dL_law_1018 : decode cL_law 1018 = .ok (.aload_n 3, 1) := by decide +kernel
theorem dL_law_1019 : decode cL_law 1019 = .ok (.iconst 0, 1) := by decide +kernel
theorem dL_law_1020 : decode cL_law 1020 = .ok (.laload, 1) := by decide +kernel
theorem dL_law_1021 : decode cL_law 1021 = .ok (.iload 6, 2) := by decide +kernel
theorem dL_law_1023 : decode cL_law 1023 = .ok (.i2l, 1) := by decide +kernel
theorem dL_law_1024 : decode cL_law 1024 = .ok (.lcmp, 1) := by decide +kernel
theorem dL_law_1025 : decode cL_law 1025 = .ok (.ifCond .eq 5, 3) := by decide +kernel
theorem dL_law_1028 : decode cL_law 1028 = .ok (.iconst 0, 1) := by decide +kernel
theorem dL_law_1029 : decode cL_law 1029 = .ok (.ireturn, 1) := by decide +kernel
theorem dL_law_1030 : decode cL_law 1030 = .ok (.goto 446, 3) := by decide +kernel
theorem dL_law_1033 : decode cL_law 1033 = .ok (.aload_n 1, 1) := by decide +kernel
theorem dL_law_1034 : decode cL_law 1034 = .ok (.aload_n 0, 1) := by decide +kernel
theorem dL_law_1035 : decode cL_law 1035 = .ok (.iload 4, 2) := by decide +kernel
theorem dL_law_1037 : decode cL_law 1037 = .ok (.iconst 1, 1) := by decide +kernel
theorem dL_law_1038 : decode cL_law 1038 = .ok (.iadd, 1) := by decide +kernel
theorem dL_law_1039 : decode cL_law 1039 = .ok (.iaload, 1) := by decide +kernel
theorem dL_law_1040 : decode cL_law 1040 = .ok (.aload_n 0, 1) := by decide +kernel
theorem dL_law_1041 : decode cL_law 1041 = .ok (.iload 4, 2) := by decide +kernel
theorem dL_law_1043 : decode cL_law 1043 = .ok (.iconst 2, 1) := by decide +kernel
theorem dL_law_1044 : decode cL_law 1044 = .ok (.iadd, 1) := by decide +kernel
theorem dL_law_1045 : decode cL_law 1045 = .ok (.iaload, 1) := by decide +kernel
theorem dL_law_1046 : decode cL_law 1046 = .ok (.aload_n 3, 1) := by decide +kernel
theorem dL_law_1047 : decode cL_law 1047 = .ok (.invokestatic 151, 3) := by decide +kernel
theorem dL_law_1050 : decode cL_law 1050 = .ok (.istore 5, 2) := by decide +kernel
theorem dL_law_1052 : decode cL_law 1052 = .ok (.aload_n 2, 1) := by decide +kernel
theorem dL_law_1053 : decode cL_law 1053 = .ok (.aload_n 0, 1) := by decide +kernel
theorem dL_law_1054 : decode cL_law 1054 = .ok (.iload 4, 2) := by decide +kernel
theorem dL_law_1056 : decode cL_law 1056 = .ok (.iconst 1, 1) := by decide +kernel
theorem dL_law_1057 : decode cL_law 1057 = .ok (.iadd, 1) := by decide +kernel
theorem dL_law_1058 : decode cL_law 1058 = .ok (.iaload, 1) := by decide +kernel
theorem dL_law_1059 : decode cL_law 1059 = .ok (.aload_n 0, 1) := by decide +kernel
theorem dL_law_1060 : decode cL_law 1060 = .ok (.iload 4, 2) := by decide +kernel
theorem dL_law_1062 : decode cL_law 1062 = .ok (.iconst 2, 1) := by decide +kernel
theorem dL_law_1063 : decode cL_law 1063 = .ok (.iadd, 1) := by decide +kernel
theorem dL_law_1064 : decode cL_law 1064 = .ok (.iaload, 1) := by decide +kernel
theorem dL_law_1065 : decode cL_law 1065 = .ok (.invokevirtual 153, 3) := by decide +kernel
theorem dL_law_1068 : decode cL_law 1068 = .ok (.istore 6, 2) := by decide +kernel
theorem dL_law_1070 : decode cL_law 1070 = .ok (.aload_n 2, 1) := by decide +kernel
theorem dL_law_1071 : decode cL_law 1071 = .ok (.invokevirtual 88, 3) := by decide +kernel
theorem dL_law_1074 : decode cL_law 1074 = .ok (.iload 5, 2) := by decide +kernel
theorem dL_law_1076 : decode cL_law 1076 = .ok (.if_icmp .eq 5, 3) := by decide +kernel
theorem dL_law_1079 : decode cL_law 1079 = .ok (.iconst 0, 1) := by decide +kernel
theorem dL_law_1080 : decode cL_law 1080 = .ok (.ireturn, 1) := by decide +kernel
theorem dL_law_1081 : decode cL_law 1081 = .ok (.iload 5, 2) := by decide +kernel
theorem dL_law_1083 : decode cL_law 1083 = .ok (.ifCond .ne 15, 3) := by decide +kernel
theorem dL_law_1086 : decode cL_law 1086 = .ok (.aload_n 3, 1) := by decide +kernel
theorem dL_law_1087 : decode cL_law 1087 = .ok (.iconst 0, 1) := by decide +kernel
theorem dL_law_1088 : decode cL_law 1088 = .ok (.laload, 1) := by decide +kernel
theorem dL_law_1089 : decode cL_law 1089 = .ok (.iload 6, 2) := by decide +kernel
theorem dL_law_1091 : decode cL_law 1091 = .ok (.i2l, 1) := by decide +kernel
theorem dL_law_1092 : decode cL_law 1092 = .ok (.lcmp, 1) := by decide +kernel
theorem dL_law_1093 : decode cL_law 1093 = .ok (.ifCond .eq 5, 3) := by decide +kernel
theorem dL_law_1096 : decode cL_law 1096 = .ok (.iconst 0, 1) := by decide +kernel
theorem dL_law_1097 : decode cL_law 1097 = .ok (.ireturn, 1) := by decide +kernel
theorem dL_law_1098 : decode cL_law 1098 = .ok (.goto 378, 3) := by decide +kernel
theorem dL_law_1101 : decode cL_law 1101 = .ok (.aload_n 1, 1) := by decide +kernel
theorem dL_law_1102 : decode cL_law 1102 = .ok (.aload_n 0, 1) := by decide +kernel
theorem dL_law_1103 : decode cL_law 1103 = .ok (.iload 4, 2) := by decide +kernel
theorem dL_law_1105 : decode cL_law 1105 = .ok (.iconst 1, 1) := by decide +kernel
theorem dL_law_1106 : decode cL_law 1106 = .ok (.iadd, 1) := by decide +kernel
theorem dL_law_1107 : decode cL_law 1107 = .ok (.iaload, 1) := by decide +kernel
theorem dL_law_1108 : decode cL_law 1108 = .ok (.aload_n 3, 1) := by decide +kernel
theorem dL_law_1109 : decode cL_law 1109 = .ok (.invokestatic 154, 3) := by decide +kernel
theorem dL_law_1112 : decode cL_law 1112 = .ok (.istore 5, 2) := by decide +kernel
theorem dL_law_1114 : decode cL_law 1114 = .ok (.aload_n 2, 1) := by decide +kernel
theorem dL_law_1115 : decode cL_law 1115 = .ok (.aload_n 0, 1) := by decide +kernel
theorem dL_law_1116 : decode cL_law 1116 = .ok (.iload 4, 2) := by decide +kernel
theorem dL_law_1118 : decode cL_law 1118 = .ok (.iconst 1, 1) := by decide +kernel
theorem dL_law_1119 : decode cL_law 1119 = .ok (.iadd, 1) := by decide +kernel
theorem dL_law_1120 : decode cL_law 1120 = .ok (.iaload, 1) := by decide +kernel
theorem dL_law_1121 : decode cL_law 1121 = .ok (.invokevirtual 156, 3) := by decide +kernel
theorem dL_law_1124 : decode cL_law 1124 = .ok (.istore 6, 2) := by decide +kernel
theorem dL_law_1126 : decode cL_law 1126 = .ok (.aload_n 2, 1) := by decide +kernel
theorem dL_law_1127 : decode cL_law 1127 = .ok (.invokevirtual 88, 3) := by decide +kernel
theorem dL_law_1130 : decode cL_law 1130 = .ok (.iload 5, 2) := by decide +kernel
theorem dL_law_1132 : decode cL_law 1132 = .ok (.if_icmp .eq 5, 3) := by decide +kernel
theorem dL_law_1135 : decode cL_law 1135 = .ok (.iconst 0, 1) := by decide +kernel
theorem dL_law_1136 : decode cL_law 1136 = .ok (.ireturn, 1) := by decide +kernel
theorem dL_law_1137 : decode cL_law 1137 = .ok (.iload 5, 2) := by decide +kernel
theorem dL_law_1139 : decode cL_law 1139 = .ok (.ifCond .ne 15, 3) := by decide +kernel
theorem dL_law_1142 : decode cL_law 1142 = .ok (.aload_n 3, 1) := by decide +kernel
theorem dL_law_1143 : decode cL_law 1143 = .ok (.iconst 0, 1) := by decide +kernel
theorem dL_law_1144 : decode cL_law 1144 = .ok (.laload, 1) := by decide +kernel
theorem dL_law_1145 : decode cL_law 1145 = .ok (.iload 6, 2) := by decide +kernel
theorem dL_law_1147 : decode cL_law 1147 = .ok (.i2l, 1) := by decide +kernel
theorem dL_law_1148 : decode cL_law 1148 = .ok (.lcmp, 1) := by decide +kernel
theorem dL_law_1149 : decode cL_law 1149 = .ok (.ifCond .eq 5, 3) := by decide +kernel
theorem dL_law_1152 : decode cL_law 1152 = .ok (.iconst 0, 1) := by decide +kernel
theorem dL_law_1153 : decode cL_law 1153 = .ok (.ireturn, 1) := by decide +kernel
theorem dL_law_1154 : decode cL_law 1154 = .ok (.goto 322, 3) := by decide +kernel
theorem dL_law_1157 : decode cL_law 1157 = .ok (.aload_n 1, 1) := by decide +kernel
theorem dL_law_1158 : decode cL_law 1158 = .ok (.aload_n 0, 1) := by decide +kernel
theorem dL_law_1159 : decode cL_law 1159 = .ok (.iload 4, 2) := by decide +kernel
theorem dL_law_1161 : decode cL_law 1161 = .ok (.iconst 1, 1) := by decide +kernel
theorem dL_law_1162 : decode cL_law 1162 = .ok (.iadd, 1) := by decide +kernel
theorem dL_law_1163 : decode cL_law 1163 = .ok (.iaload, 1) := by decide +kernel
theorem dL_law_1164 : decode cL_law 1164 = .ok (.aload_n 3, 1) := by decide +kernel
theorem dL_law_1165 : decode cL_law 1165 = .ok (.invokestatic 157, 3) := by decide +kernel
theorem dL_law_1168 : decode cL_law 1168 = .ok (.istore 5, 2) := by decide +kernel
theorem dL_law_1170 : decode cL_law 1170 = .ok (.aload_n 2, 1) := by decide +kernel
theorem dL_law_1171 : decode cL_law 1171 = .ok (.aload_n 0, 1) := by decide +kernel
theorem dL_law_1172 : decode cL_law 1172 = .ok (.iload 4, 2) := by decide +kernel
theorem dL_law_1174 : decode cL_law 1174 = .ok (.iconst 1, 1) := by decide +kernel
theorem dL_law_1175 : decode cL_law 1175 = .ok (.iadd, 1) := by decide +kernel
theorem dL_law_1176 : decode cL_law 1176 = .ok (.iaload, 1) := by decide +kernel
theorem dL_law_1177 : decode cL_law 1177 = .ok (.invokevirtual 159, 3) := by decide +kernel
theorem dL_law_1180 : decode cL_law 1180 = .ok (.istore 6, 2) := by decide +kernel
theorem dL_law_1182 : decode cL_law 1182 = .ok (.aload_n 2, 1) := by decide +kernel
theorem dL_law_1183 : decode cL_law 1183 = .ok (.invokevirtual 88, 3) := by decide +kernel
theorem dL_law_1186 : decode cL_law 1186 = .ok (.iload 5, 2) := by decide +kernel
theorem dL_law_1188 : decode cL_law 1188 = .ok (.if_icmp .eq 5, 3) := by decide +kernel
theorem dL_law_1191 : decode cL_law 1191 = .ok (.iconst 0, 1) := by decide +kernel
theorem dL_law_1192 : decode cL_law 1192 = .ok (.ireturn, 1) := by decide +kernel
theorem dL_law_1193 : decode cL_law 1193 = .ok (.iload 5, 2) := by decide +kernel
theorem dL_law_1195 : decode cL_law 1195 = .ok (.ifCond .ne 15, 3) := by decide +kernel
theorem dL_law_1198 : decode cL_law 1198 = .ok (.aload_n 3, 1) := by decide +kernel
theorem dL_law_1199 : decode cL_law 1199 = .ok (.iconst 0, 1) := by decide +kernel
theorem dL_law_1200 : decode cL_law 1200 = .ok (.laload, 1) := by decide +kernel
theorem dL_law_1201 : decode cL_law 1201 = .ok (.iload 6, 2) := by decide +kernel
theorem dL_law_1203 : decode cL_law 1203 = .ok (.i2l, 1) := by decide +kernel
theorem dL_law_1204 : decode cL_law 1204 = .ok (.lcmp, 1) := by decide +kernel
theorem dL_law_1205 : decode cL_law 1205 = .ok (.ifCond .eq 5, 3) := by decide +kernel
theorem dL_law_1208 : decode cL_law 1208 = .ok (.iconst 0, 1) := by decide +kernel
theorem dL_law_1209 : decode cL_law 1209 = .ok (.ireturn, 1) := by decide +kernel
theorem dL_law_1210 : decode cL_law 1210 = .ok (.goto 266, 3) := by decide +kernel
theorem dL_law_1213 : decode cL_law 1213 = .ok (.aload_n 1, 1) := by decide +kernel
theorem dL_law_1214 : decode cL_law 1214 = .ok (.aload_n 0, 1) := by decide +kernel
theorem dL_law_1215 : decode cL_law 1215 = .ok (.iload 4, 2) := by decide +kernel
theorem dL_law_1217 : decode cL_law 1217 = .ok (.iconst 1, 1) := by decide +kernel
theorem dL_law_1218 : decode cL_law 1218 = .ok (.iadd, 1) := by decide +kernel
theorem dL_law_1219 : decode cL_law 1219 = .ok (.iaload, 1) := by decide +kernel
theorem dL_law_1220 : decode cL_law 1220 = .ok (.aload_n 3, 1) := by decide +kernel
theorem dL_law_1221 : decode cL_law 1221 = .ok (.invokestatic 160, 3) := by decide +kernel
theorem dL_law_1224 : decode cL_law 1224 = .ok (.istore 5, 2) := by decide +kernel
theorem dL_law_1226 : decode cL_law 1226 = .ok (.aload_n 2, 1) := by decide +kernel
theorem dL_law_1227 : decode cL_law 1227 = .ok (.aload_n 0, 1) := by decide +kernel
theorem dL_law_1228 : decode cL_law 1228 = .ok (.iload 4, 2) := by decide +kernel
theorem dL_law_1230 : decode cL_law 1230 = .ok (.iconst 1, 1) := by decide +kernel
theorem dL_law_1231 : decode cL_law 1231 = .ok (.iadd, 1) := by decide +kernel
theorem dL_law_1232 : decode cL_law 1232 = .ok (.iaload, 1) := by decide +kernel
theorem dL_law_1233 : decode cL_law 1233 = .ok (.invokevirtual 162, 3) := by decide +kernel
theorem dL_law_1236 : decode cL_law 1236 = .ok (.istore 6, 2) := by decide +kernel
theorem dL_law_1238 : decode cL_law 1238 = .ok (.aload_n 2, 1) := by decide +kernel
theorem dL_law_1239 : decode cL_law 1239 = .ok (.invokevirtual 88, 3) := by decide +kernel
theorem dL_law_1242 : decode cL_law 1242 = .ok (.iload 5, 2) := by decide +kernel
theorem dL_law_1244 : decode cL_law 1244 = .ok (.if_icmp .eq 5, 3) := by decide +kernel
theorem dL_law_1247 : decode cL_law 1247 = .ok (.iconst 0, 1) := by decide +kernel
theorem dL_law_1248 : decode cL_law 1248 = .ok (.ireturn, 1) := by decide +kernel
theorem dL_law_1249 : decode cL_law 1249 = .ok (.iload 5, 2) := by decide +kernel
theorem dL_law_1251 : decode cL_law 1251 = .ok (.ifCond .ne 15, 3) := by decide +kernel
theorem dL_law_1254 : decode cL_law 1254 = .ok (.aload_n 3, 1) := by decide +kernel
theorem dL_law_1255 : decode cL_law 1255 = .ok (.iconst 0, 1) := by decide +kernel
theorem dL_law_1256 : decode cL_law 1256 = .ok (.laload, 1) := by decide +kernel
theorem dL_law_1257 : decode cL_law 1257 = .ok (.iload 6, 2) := by decide +kernel
theorem dL_law_1259 : decode cL_law 1259 = .ok (.i2l, 1) := by decide +kernel
theorem dL_law_1260 : decode cL_law 1260 = .ok (.lcmp, 1) := by decide +kernel
theorem dL_law_1261 : decode cL_law 1261 = .ok (.ifCond .eq 5, 3) := by decide +kernel
theorem dL_law_1264 : decode cL_law 1264 = .ok (.iconst 0, 1) := by decide +kernel
theorem dL_law_1265 : decode cL_law 1265 = .ok (.ireturn, 1) := by decide +kernel
theorem dL_law_1266 : decode cL_law 1266 = .ok (.goto 210, 3) := by decide +kernel
theorem dL_law_1269 : decode cL_law 1269 = .ok (.aload_n 1, 1) := by decide +kernel
theorem dL_law_1270 : decode cL_law 1270 = .ok (.aload_n 0, 1) := by decide +kernel
theorem dL_law_1271 : decode cL_law 1271 = .ok (.iload 4, 2) := by decide +kernel
theorem dL_law_1273 : decode cL_law 1273 = .ok (.iconst 1, 1) := by decide +kernel
theorem dL_law_1274 : decode cL_law 1274 = .ok (.iadd, 1) := by decide +kernel
theorem dL_law_1275 : decode cL_law 1275 = .ok (.iaload, 1) := by decide +kernel
theorem dL_law_1276 : decode cL_law 1276 = .ok (.aload_n 0, 1) := by decide +kernel
theorem dL_law_1277 : decode cL_law 1277 = .ok (.iload 4, 2) := by decide +kernel
theorem dL_law_1279 : decode cL_law 1279 = .ok (.iconst 2, 1) := by decide +kernel
theorem dL_law_1280 : decode cL_law 1280 = .ok (.iadd, 1) := by decide +kernel
theorem dL_law_1281 : decode cL_law 1281 = .ok (.iaload, 1) := by decide +kernel
theorem dL_law_1282 : decode cL_law 1282 = .ok (.aload_n 3, 1) := by decide +kernel
theorem dL_law_1283 : decode cL_law 1283 = .ok (.invokestatic 163, 3) := by decide +kernel
theorem dL_law_1286 : decode cL_law 1286 = .ok (.istore 5, 2) := by decide +kernel
theorem dL_law_1288 : decode cL_law 1288 = .ok (.aload_n 2, 1) := by decide +kernel
theorem dL_law_1289 : decode cL_law 1289 = .ok (.aload_n 0, 1) := by decide +kernel
theorem dL_law_1290 : decode cL_law 1290 = .ok (.iload 4, 2) := by decide +kernel
theorem dL_law_1292 : decode cL_law 1292 = .ok (.iconst 1, 1) := by decide +kernel
theorem dL_law_1293 : decode cL_law 1293 = .ok (.iadd, 1) := by decide +kernel
theorem dL_law_1294 : decode cL_law 1294 = .ok (.iaload, 1) := by decide +kernel
theorem dL_law_1295 : decode cL_law 1295 = .ok (.aload_n 0, 1) := by decide +kernel
theorem dL_law_1296 : decode cL_law 1296 = .ok (.iload 4, 2) := by decide +kernel
theorem dL_law_1298 : decode cL_law 1298 = .ok (.iconst 2, 1) := by decide +kernel
theorem dL_law_1299 : decode cL_law 1299 = .ok (.iadd, 1) := by decide +kernel
theorem dL_law_1300 : decode cL_law 1300 = .ok (.iaload, 1) := by decide +kernel
theorem dL_law_1301 : decode cL_law 1301 = .ok (.invokevirtual 165, 3) := by decide +kernel
theorem dL_law_1304 : decode cL_law 1304 = .ok (.istore 6, 2) := by decide +kernel
theorem dL_law_1306 : decode cL_law 1306 = .ok (.aload_n 2, 1) := by decide +kernel
theorem dL_law_1307 : decode cL_law 1307 = .ok (.invokevirtual 88, 3) := by decide +kernel
theorem dL_law_1310 : decode cL_law 1310 = .ok (.iload 5, 2) := by decide +kernel
theorem dL_law_1312 : decode cL_law 1312 = .ok (.if_icmp .eq 5, 3) := by decide +kernel
theorem dL_law_1315 : decode cL_law 1315 = .ok (.iconst 0, 1) := by decide +kernel
theorem dL_law_1316 : decode cL_law 1316 = .ok (.ireturn, 1) := by decide +kernel
theorem dL_law_1317 : decode cL_law 1317 = .ok (.iload 5, 2) := by decide +kernel
theorem dL_law_1319 : decode cL_law 1319 = .ok (.ifCond .ne 15, 3) := by decide +kernel
theorem dL_law_1322 : decode cL_law 1322 = .ok (.aload_n 3, 1) := by decide +kernel
theorem dL_law_1323 : decode cL_law 1323 = .ok (.iconst 0, 1) := by decide +kernel
theorem dL_law_1324 : decode cL_law 1324 = .ok (.laload, 1) := by decide +kernel
theorem dL_law_1325 : decode cL_law 1325 = .ok (.iload 6, 2) := by decide +kernel
theorem dL_law_1327 : decode cL_law 1327 = .ok (.i2l, 1) := by decide +kernel
theorem dL_law_1328 : decode cL_law 1328 = .ok (.lcmp, 1) := by decide +kernel
theorem dL_law_1329 : decode cL_law 1329 = .ok (.ifCond .eq 5, 3) := by decide +kernel
theorem dL_law_1332 : decode cL_law 1332 = .ok (.iconst 0, 1) := by decide +kernel
theorem dL_law_1333 : decode cL_law 1333 = .ok (.ireturn, 1) := by decide +kernel
theorem dL_law_1334 : decode cL_law 1334 = .ok (.goto 142, 3) := by decide +kernel
theorem dL_law_1337 : decode cL_law 1337 = .ok (.aload_n 1, 1) := by decide +kernel
theorem dL_law_1338 : decode cL_law 1338 = .ok (.aload_n 0, 1) := by decide +kernel
theorem dL_law_1339 : decode cL_law 1339 = .ok (.iload 4, 2) := by decide +kernel
theorem dL_law_1341 : decode cL_law 1341 = .ok (.iconst 1, 1) := by decide +kernel
theorem dL_law_1342 : decode cL_law 1342 = .ok (.iadd, 1) := by decide +kernel
theorem dL_law_1343 : decode cL_law 1343 = .ok (.iaload, 1) := by decide +kernel
theorem dL_law_1344 : decode cL_law 1344 = .ok (.aload_n 0, 1) := by decide +kernel
theorem dL_law_1345 : decode cL_law 1345 = .ok (.iload 4, 2) := by decide +kernel
theorem dL_law_1347 : decode cL_law 1347 = .ok (.iconst 2, 1) := by decide +kernel
theorem dL_law_1348 : decode cL_law 1348 = .ok (.iadd, 1) := by decide +kernel
theorem dL_law_1349 : decode cL_law 1349 = .ok (.iaload, 1) := by decide +kernel
theorem dL_law_1350 : decode cL_law 1350 = .ok (.ifCond .eq 7, 3) := by decide +kernel
theorem dL_law_1353 : decode cL_law 1353 = .ok (.iconst 1, 1) := by decide +kernel
theorem dL_law_1354 : decode cL_law 1354 = .ok (.goto 4, 3) := by decide +kernel
theorem dL_law_1357 : decode cL_law 1357 = .ok (.iconst 0, 1) := by decide +kernel
theorem dL_law_1358 : decode cL_law 1358 = .ok (.aload_n 3, 1) := by decide +kernel
theorem dL_law_1359 : decode cL_law 1359 = .ok (.invokestatic 166, 3) := by decide +kernel
theorem dL_law_1362 : decode cL_law 1362 = .ok (.istore 5, 2) := by decide +kernel
theorem dL_law_1364 : decode cL_law 1364 = .ok (.aload_n 2, 1) := by decide +kernel
theorem dL_law_1365 : decode cL_law 1365 = .ok (.aload_n 0, 1) := by decide +kernel
theorem dL_law_1366 : decode cL_law 1366 = .ok (.iload 4, 2) := by decide +kernel
theorem dL_law_1368 : decode cL_law 1368 = .ok (.iconst 1, 1) := by decide +kernel
theorem dL_law_1369 : decode cL_law 1369 = .ok (.iadd, 1) := by decide +kernel
theorem dL_law_1370 : decode cL_law 1370 = .ok (.iaload, 1) := by decide +kernel
theorem dL_law_1371 : decode cL_law 1371 = .ok (.aload_n 0, 1) := by decide +kernel
theorem dL_law_1372 : decode cL_law 1372 = .ok (.iload 4, 2) := by decide +kernel
theorem dL_law_1374 : decode cL_law 1374 = .ok (.iconst 2, 1) := by decide +kernel
theorem dL_law_1375 : decode cL_law 1375 = .ok (.iadd, 1) := by decide +kernel
theorem dL_law_1376 : decode cL_law 1376 = .ok (.iaload, 1) := by decide +kernel
theorem dL_law_1377 : decode cL_law 1377 = .ok (.ifCond .eq 7, 3) := by decide +kernel
theorem dL_law_1380 : decode cL_law 1380 = .ok (.iconst 1, 1) := by decide +kernel
theorem dL_law_1381 : decode cL_law 1381 = .ok (.goto 4, 3) := by decide +kernel
theorem dL_law_1384 : decode cL_law 1384 = .ok (.iconst 0, 1) := by decide +kernel
theorem dL_law_1385 : decode cL_law 1385 = .ok (.invokevirtual 169, 3) := by decide +kernel
theorem dL_law_1388 : decode cL_law 1388 = .ok (.istore 6, 2) := by decide +kernel
theorem dL_law_1390 : decode cL_law 1390 = .ok (.aload_n 2, 1) := by decide +kernel
theorem dL_law_1391 : decode cL_law 1391 = .ok (.invokevirtual 88, 3) := by decide +kernel
theorem dL_law_1394 : decode cL_law 1394 = .ok (.iload 5, 2) := by decide +kernel
theorem dL_law_1396 : decode cL_law 1396 = .ok (.if_icmp .eq 5, 3) := by decide +kernel
theorem dL_law_1399 : decode cL_law 1399 = .ok (.iconst 0, 1) := by decide +kernel
theorem dL_law_1400 : decode cL_law 1400 = .ok (.ireturn, 1) := by decide +kernel
theorem dL_law_1401 : decode cL_law 1401 = .ok (.iload 5, 2) := by decide +kernel
theorem dL_law_1403 : decode cL_law 1403 = .ok (.ifCond .ne 15, 3) := by decide +kernel
theorem dL_law_1406 : decode cL_law 1406 = .ok (.aload_n 3, 1) := by decide +kernel
theorem dL_law_1407 : decode cL_law 1407 = .ok (.iconst 0, 1) := by decide +kernel
theorem dL_law_1408 : decode cL_law 1408 = .ok (.laload, 1) := by decide +kernel
theorem dL_law_1409 : decode cL_law 1409 = .ok (.iload 6, 2) := by decide +kernel
theorem dL_law_1411 : decode cL_law 1411 = .ok (.i2l, 1) := by decide +kernel
theorem dL_law_1412 : decode cL_law 1412 = .ok (.lcmp, 1) := by decide +kernel
theorem dL_law_1413 : decode cL_law 1413 = .ok (.ifCond .eq 5, 3) := by decide +kernel
theorem dL_law_1416 : decode cL_law 1416 = .ok (.iconst 0, 1) := by decide +kernel
theorem dL_law_1417 : decode cL_law 1417 = .ok (.ireturn, 1) := by decide +kernel
theorem dL_law_1418 : decode cL_law 1418 = .ok (.goto 58, 3) := by decide +kernel
theorem dL_law_1421 : decode cL_law 1421 = .ok (.aload_n 1, 1) := by decide +kernel
theorem dL_law_1422 : decode cL_law 1422 = .ok (.invokevirtual 170, 3) := by decide +kernel
theorem dL_law_1425 : decode cL_law 1425 = .ok (.dstore 5, 2) := by decide +kernel
theorem dL_law_1427 : decode cL_law 1427 = .ok (.aload_n 2, 1) := by decide +kernel
theorem dL_law_1428 : decode cL_law 1428 = .ok (.invokevirtual 174, 3) := by decide +kernel
theorem dL_law_1431 : decode cL_law 1431 = .ok (.dstore 7, 2) := by decide +kernel
theorem dL_law_1433 : decode cL_law 1433 = .ok (.dload 5, 2) := by decide +kernel
theorem dL_law_1435 : decode cL_law 1435 = .ok (.dload 7, 2) := by decide +kernel
theorem dL_law_1437 : decode cL_law 1437 = .ok (.dcmp .l, 1) := by decide +kernel
theorem dL_law_1438 : decode cL_law 1438 = .ok (.ifCond .eq 21, 3) := by decide +kernel
theorem dL_law_1441 : decode cL_law 1441 = .ok (.dload 5, 2) := by decide +kernel
theorem dL_law_1443 : decode cL_law 1443 = .ok (.dload 5, 2) := by decide +kernel
theorem dL_law_1445 : decode cL_law 1445 = .ok (.dcmp .l, 1) := by decide +kernel
theorem dL_law_1446 : decode cL_law 1446 = .ok (.ifCond .eq 11, 3) := by decide +kernel
theorem dL_law_1449 : decode cL_law 1449 = .ok (.dload 7, 2) := by decide +kernel
theorem dL_law_1451 : decode cL_law 1451 = .ok (.dload 7, 2) := by decide +kernel
theorem dL_law_1453 : decode cL_law 1453 = .ok (.dcmp .l, 1) := by decide +kernel
theorem dL_law_1454 : decode cL_law 1454 = .ok (.ifCond .ne 5, 3) := by decide +kernel
theorem dL_law_1457 : decode cL_law 1457 = .ok (.iconst 0, 1) := by decide +kernel
theorem dL_law_1458 : decode cL_law 1458 = .ok (.ireturn, 1) := by decide +kernel
theorem dL_law_1459 : decode cL_law 1459 = .ok (.goto 17, 3) := by decide +kernel
theorem dL_law_1462 : decode cL_law 1462 = .ok (.aload_n 1, 1) := by decide +kernel
theorem dL_law_1463 : decode cL_law 1463 = .ok (.invokevirtual 175, 3) := by decide +kernel
theorem dL_law_1466 : decode cL_law 1466 = .ok (.aload_n 2, 1) := by decide +kernel
theorem dL_law_1467 : decode cL_law 1467 = .ok (.invokevirtual 179, 3) := by decide +kernel
theorem dL_law_1470 : decode cL_law 1470 = .ok (.lcmp, 1) := by decide +kernel
theorem dL_law_1471 : decode cL_law 1471 = .ok (.ifCond .eq 5, 3) := by decide +kernel
theorem dL_law_1474 : decode cL_law 1474 = .ok (.iconst 0, 1) := by decide +kernel
theorem dL_law_1475 : decode cL_law 1475 = .ok (.ireturn, 1) := by decide +kernel
theorem dL_law_1476 : decode cL_law 1476 = .ok (.iinc 4 5, 3) := by decide +kernel
theorem dL_law_1479 : decode cL_law 1479 = .ok (.goto (-1456), 3) := by decide +kernel
theorem dL_law_1482 : decode cL_law 1482 = .ok (.iconst 1, 1) := by decide +kernel
theorem dL_law_1483 : decode cL_law 1483 = .ok (.ireturn, 1) := by decide +kernel
abbrev vwCl : List vw_C := [(RX0, TX0, 2), (RX1, TX1, 3), (RX2, TX2, 7), (RX3, TX3, 7), (RX4, TX4, 2), (RX5, TX5, 4), (RX6, TX6, 11)]
end
section
/-! The good words of the claim's tables in one list; each that a row names, by its place. -/
def B0 : List Cond := lw_tbl.filter goodWord
theorem B0_of {w : Cond} (h : w ∈ lw_tbl) (g : goodWord w = true) : w ∈ B0 := List.mem_filter.mpr ⟨h, g⟩
theorem B0_t (i : Nat) {w : Cond} (h : tables_1[i]? = some w) (g : goodWord w = true) : w ∈ B0 := B0_of (List.mem_append_right _ (List.mem_of_getElem? h)) g
theorem B0_s (i : Nat) {w : Cond} (h : (k2_sels lw_privs)[i]? = some w) (g : goodWord w = true) : w ∈ B0 := B0_of (List.mem_append_left _ (List.mem_of_getElem? h)) g
theorem B0_l {ws : List Cond} (h : ws.all (fun w => decide (w ∈ lw_tbl) && goodWord w) = true) : ∀ w ∈ ws, w ∈ B0 := by
  intro w hw
  have h1 := List.all_eq_true.mp h w hw
  simp only [Bool.and_eq_true, decide_eq_true_eq] at h1
  exact B0_of h1.1 h1.2
theorem B0_good {w : Cond} (h : w ∈ B0) : goodWord w = true := (List.mem_filter.mp h).2
theorem B0_tbl {w : Cond} (h : w ∈ B0) : w ∈ lw_tbl := (List.mem_filter.mp h).1
abbrev wsX00 : List Cond := u_ws RX0 TX0 2
abbrev wsX10 : List Cond := u_ws RX1 TX1 3
abbrev wsX20 : List Cond := u_ws RX2 TX2 7
abbrev wsX30 : List Cond := u_ws RX3 TX3 7
abbrev wsX40 : List Cond := u_ws RX4 TX4 2
abbrev wsX50 : List Cond := u_ws RX5 TX5 4
abbrev wsX60 : List Cond := u_ws RX6 TX6 11
theorem q0 : Cond.initialized RL ∈ B0 := B0_t 0 (by decide +kernel) (by decide +kernel)
theorem q1 : Cond.initialized RX5 ∈ B0 := B0_t 1 (by decide +kernel) (by decide +kernel)
theorem q2 : Cond.initialized RX3 ∈ B0 := B0_t 2 (by decide +kernel) (by decide +kernel)
theorem q3 : Cond.initialized RX2 ∈ B0 := B0_t 3 (by decide +kernel) (by decide +kernel)
theorem q4 : Cond.initialized RX1 ∈ B0 := B0_t 4 (by decide +kernel) (by decide +kernel)
theorem q5 : Cond.initialized RX0 ∈ B0 := B0_t 5 (by decide +kernel) (by decide +kernel)
theorem q6 : Cond.initialized RX4 ∈ B0 := B0_t 6 (by decide +kernel) (by decide +kernel)
theorem q7 : Cond.initialized RX6 ∈ B0 := B0_t 7 (by decide +kernel) (by decide +kernel)
theorem q8 : Cond.initialized "java/lang/Throwable" ∈ B0 := B0_t 8 (by decide +kernel) (by decide +kernel)
theorem q9 : Cond.initialized "java/lang/Exception" ∈ B0 := B0_t 9 (by decide +kernel) (by decide +kernel)
theorem q10 : Cond.initialized "java/lang/RuntimeException" ∈ B0 := B0_t 10 (by decide +kernel) (by decide +kernel)
theorem q11 : Cond.initialized "java/lang/IllegalArgumentException" ∈ B0 := B0_t 11 (by decide +kernel) (by decide +kernel)
theorem q12 : Cond.initialized "java/lang/IllegalStateException" ∈ B0 := B0_t 12 (by decide +kernel) (by decide +kernel)
theorem q13 : Cond.initialized RJ10 ∈ B0 := B0_t 13 (by decide +kernel) (by decide +kernel)
theorem q14 : Cond.initialized "java/lang/IndexOutOfBoundsException" ∈ B0 := B0_t 14 (by decide +kernel) (by decide +kernel)
theorem q15 : Cond.initialized RJ9 ∈ B0 := B0_t 15 (by decide +kernel) (by decide +kernel)
theorem q16 : Cond.initialized RJxe99ae ∈ B0 := B0_t 16 (by decide +kernel) (by decide +kernel)
theorem q17 : Cond.classLink RL 8 RX5 ∈ B0 := B0_t 17 (by decide +kernel) (by decide +kernel)
theorem q18 : Cond.instantiable RX5 4 ∈ B0 := B0_t 18 (by decide +kernel) (by decide +kernel)
theorem q19 : Cond.methodLink RL 78 yX5_init ∈ B0 := B0_t 19 (by decide +kernel) (by decide +kernel)
theorem q20 : Cond.instanceMethod yX5_init ∈ B0 := B0_t 20 (by decide +kernel) (by decide +kernel)
theorem q21 : Cond.code yX5_init cX5_init 1 none ∈ B0 := B0_t 21 (by decide +kernel) (by decide +kernel)
theorem q22 : Cond.methodLink RX5 1 ⟨"java/lang/Object", "<init>", "()V"⟩ ∈ B0 := B0_t 22 (by decide +kernel) (by decide +kernel)
theorem q23 : Cond.instanceMethod ⟨"java/lang/Object", "<init>", "()V"⟩ ∈ B0 := B0_t 23 (by decide +kernel) (by decide +kernel)
theorem q25 : Cond.classLink RX5 7 RX3 ∈ B0 := B0_t 25 (by decide +kernel) (by decide +kernel)
theorem q26 : Cond.instantiable RX3 7 ∈ B0 := B0_t 26 (by decide +kernel) (by decide +kernel)
theorem q27 : Cond.methodLink RX5 9 yX3_init ∈ B0 := B0_t 27 (by decide +kernel) (by decide +kernel)
theorem q28 : Cond.instanceMethod yX3_init ∈ B0 := B0_t 28 (by decide +kernel) (by decide +kernel)
theorem q29 : Cond.code yX3_init cX3_init 1 none ∈ B0 := B0_t 29 (by decide +kernel) (by decide +kernel)
theorem q30 : Cond.methodLink RX3 3 ⟨"java/lang/Object", "<init>", "()V"⟩ ∈ B0 := B0_t 30 (by decide +kernel) (by decide +kernel)
theorem q31 : Cond.classLink RX3 9 RX2 ∈ B0 := B0_t 31 (by decide +kernel) (by decide +kernel)
theorem q32 : Cond.instantiable RX2 7 ∈ B0 := B0_t 32 (by decide +kernel) (by decide +kernel)
theorem q33 : Cond.methodLink RX3 11 yX2_init ∈ B0 := B0_t 33 (by decide +kernel) (by decide +kernel)
theorem q34 : Cond.instanceMethod yX2_init ∈ B0 := B0_t 34 (by decide +kernel) (by decide +kernel)
theorem q35 : Cond.code yX2_init cX2_init 2 none ∈ B0 := B0_t 35 (by decide +kernel) (by decide +kernel)
theorem q36 : Cond.methodLink RX2 3 ⟨"java/lang/Object", "<init>", "()V"⟩ ∈ B0 := B0_t 36 (by decide +kernel) (by decide +kernel)
theorem q37 : Cond.fieldLink RX2 9 RX2 "cells" "I" ∈ B0 := B0_t 37 (by decide +kernel) (by decide +kernel)
theorem q38 : Cond.fieldLink RX2 15 RX2 "stamps" "[I" ∈ B0 := B0_t 38 (by decide +kernel) (by decide +kernel)
theorem q39 : Cond.fieldLink RX2 19 RX2 "owners" "[I" ∈ B0 := B0_t 39 (by decide +kernel) (by decide +kernel)
theorem q40 : Cond.fieldLink RX2 22 RX2 "sizes" "[I" ∈ B0 := B0_t 40 (by decide +kernel) (by decide +kernel)
theorem q41 : Cond.fieldLink RX2 25 RX2 "values" "[I" ∈ B0 := B0_t 41 (by decide +kernel) (by decide +kernel)
theorem q42 : Cond.fieldLink RX2 28 RX2 "kinds" "[I" ∈ B0 := B0_t 42 (by decide +kernel) (by decide +kernel)
theorem q43 : Cond.fieldLink RX2 31 RX2 "fired" "[I" ∈ B0 := B0_t 43 (by decide +kernel) (by decide +kernel)
theorem q59 : Cond.arrayClass .int ∈ B0 := B0_t 59 (by decide +kernel) (by decide +kernel)
theorem q60 : Cond.classLink RX3 18 RX1 ∈ B0 := B0_t 60 (by decide +kernel) (by decide +kernel)
theorem q61 : Cond.instantiable RX1 3 ∈ B0 := B0_t 61 (by decide +kernel) (by decide +kernel)
theorem q62 : Cond.methodLink RX3 20 yX1_init ∈ B0 := B0_t 62 (by decide +kernel) (by decide +kernel)
theorem q63 : Cond.instanceMethod yX1_init ∈ B0 := B0_t 63 (by decide +kernel) (by decide +kernel)
theorem q64 : Cond.code yX1_init cX1_init 2 none ∈ B0 := B0_t 64 (by decide +kernel) (by decide +kernel)
theorem q65 : Cond.methodLink RX1 3 ⟨"java/lang/Object", "<init>", "()V"⟩ ∈ B0 := B0_t 65 (by decide +kernel) (by decide +kernel)
theorem q66 : Cond.fieldLink RX1 9 RX1 "length" "I" ∈ B0 := B0_t 66 (by decide +kernel) (by decide +kernel)
theorem q67 : Cond.fieldLink RX1 15 RX1 "entries" "[I" ∈ B0 := B0_t 67 (by decide +kernel) (by decide +kernel)
theorem q68 : Cond.fieldLink RX1 19 RX1 "stands" "[I" ∈ B0 := B0_t 68 (by decide +kernel) (by decide +kernel)
theorem q76 : Cond.fieldLink RX3 12 RX3 "slots" "LStampedSlots$Slots;" ∈ B0 := B0_t 76 (by decide +kernel) (by decide +kernel)
theorem q78 : Cond.fieldLink RX3 21 RX3 "row" "LStampedSlots$Row;" ∈ B0 := B0_t 78 (by decide +kernel) (by decide +kernel)
theorem q80 : Cond.fieldLink RX3 25 RX3 "toFire" "[I" ∈ B0 := B0_t 80 (by decide +kernel) (by decide +kernel)
theorem q81 : Cond.fieldLink RX3 36 RX3 "events" "I" ∈ B0 := B0_t 81 (by decide +kernel) (by decide +kernel)
theorem q83 : Cond.fieldLink RX3 40 RX3 "thingsPut" "I" ∈ B0 := B0_t 83 (by decide +kernel) (by decide +kernel)
theorem q85 : Cond.fieldLink RX3 43 RX3 "thingsRemoved" "I" ∈ B0 := B0_t 85 (by decide +kernel) (by decide +kernel)
theorem q87 : Cond.fieldLink RX3 46 RX3 "thingsMoved" "I" ∈ B0 := B0_t 87 (by decide +kernel) (by decide +kernel)
theorem q104 : Cond.classLink RX5 19 RX0 ∈ B0 := B0_t 104 (by decide +kernel) (by decide +kernel)
theorem q105 : Cond.instantiable RX0 2 ∈ B0 := B0_t 105 (by decide +kernel) (by decide +kernel)
theorem q106 : Cond.methodLink RX5 21 yX0_init ∈ B0 := B0_t 106 (by decide +kernel) (by decide +kernel)
theorem q107 : Cond.instanceMethod yX0_init ∈ B0 := B0_t 107 (by decide +kernel) (by decide +kernel)
theorem q108 : Cond.code yX0_init cX0_init 2 none ∈ B0 := B0_t 108 (by decide +kernel) (by decide +kernel)
theorem q109 : Cond.methodLink RX0 3 ⟨"java/lang/Object", "<init>", "()V"⟩ ∈ B0 := B0_t 109 (by decide +kernel) (by decide +kernel)
theorem q110 : Cond.classLink RX0 15 RX3 ∈ B0 := B0_t 110 (by decide +kernel) (by decide +kernel)
theorem q112 : Cond.methodLink RX0 21 yX3_init ∈ B0 := B0_t 112 (by decide +kernel) (by decide +kernel)
theorem q113 : Cond.fieldLink RX0 17 RX0 "states" "[LStampedSlots$State;" ∈ B0 := B0_t 113 (by decide +kernel) (by decide +kernel)
theorem q114 : Cond.fieldLink RX0 9 RX0 "length" "I" ∈ B0 := B0_t 114 (by decide +kernel) (by decide +kernel)
theorem q120 : Cond.classLink RX5 26 RX4 ∈ B0 := B0_t 120 (by decide +kernel) (by decide +kernel)
theorem q121 : Cond.instantiable RX4 2 ∈ B0 := B0_t 121 (by decide +kernel) (by decide +kernel)
theorem q122 : Cond.methodLink RX5 28 yX4_init ∈ B0 := B0_t 122 (by decide +kernel) (by decide +kernel)
theorem q123 : Cond.instanceMethod yX4_init ∈ B0 := B0_t 123 (by decide +kernel) (by decide +kernel)
theorem q124 : Cond.code yX4_init cX4_init 1 none ∈ B0 := B0_t 124 (by decide +kernel) (by decide +kernel)
theorem q125 : Cond.methodLink RX4 3 ⟨"java/lang/Object", "<init>", "()V"⟩ ∈ B0 := B0_t 125 (by decide +kernel) (by decide +kernel)
theorem q126 : Cond.fieldLink RX4 9 RX4 "codes" "[I" ∈ B0 := B0_t 126 (by decide +kernel) (by decide +kernel)
theorem q127 : Cond.fieldLink RX4 15 RX4 "length" "I" ∈ B0 := B0_t 127 (by decide +kernel) (by decide +kernel)
theorem q133 : Cond.fieldLink RX5 10 RX5 "now" "LStampedSlots$State;" ∈ B0 := B0_t 133 (by decide +kernel) (by decide +kernel)
theorem q134 : Cond.fieldLink RX5 16 RX5 "trial" "LStampedSlots$State;" ∈ B0 := B0_t 134 (by decide +kernel) (by decide +kernel)
theorem q135 : Cond.fieldLink RX5 22 RX5 "history" "LStampedSlots$History;" ∈ B0 := B0_t 135 (by decide +kernel) (by decide +kernel)
theorem q136 : Cond.fieldLink RX5 29 RX5 "buffer" "LStampedSlots$ThingText;" ∈ B0 := B0_t 136 (by decide +kernel) (by decide +kernel)
theorem q146 : Cond.methodLink RL 112 yX5_fire ∈ B0 := B0_t 146 (by decide +kernel) (by decide +kernel)
theorem q147 : Cond.instanceMethod yX5_fire ∈ B0 := B0_t 147 (by decide +kernel) (by decide +kernel)
theorem q148 : Cond.selects RX5 yX5_fire yX5_fire ∈ B0 := B0_t 148 (by decide +kernel) (by decide +kernel)
theorem q149 : Cond.code yX5_fire cX5_fire 1 (some .int) ∈ B0 := B0_t 149 (by decide +kernel) (by decide +kernel)
theorem q150 : Cond.methodLink RX5 59 yX0_save ∈ B0 := B0_t 150 (by decide +kernel) (by decide +kernel)
theorem q151 : Cond.instanceMethod yX0_save ∈ B0 := B0_t 151 (by decide +kernel) (by decide +kernel)
theorem q152 : Cond.selects RX0 yX0_save yX0_save ∈ B0 := B0_t 152 (by decide +kernel) (by decide +kernel)
theorem q153 : Cond.code yX0_save cX0_save 3 none ∈ B0 := B0_t 153 (by decide +kernel) (by decide +kernel)
theorem q154 : Cond.methodLink RX0 22 yX0_dropOldest ∈ B0 := B0_t 154 (by decide +kernel) (by decide +kernel)
theorem q156 : Cond.instanceMethod yX0_dropOldest ∈ B0 := B0_t 156 (by decide +kernel) (by decide +kernel)
theorem q157 : Cond.code yX0_dropOldest cX0_dropOldest 3 none ∈ B0 := B0_t 157 (by decide +kernel) (by decide +kernel)
theorem q158 : Cond.methodLink RX0 25 yX3_copyFrom ∈ B0 := B0_t 158 (by decide +kernel) (by decide +kernel)
theorem q159 : Cond.instanceMethod yX3_copyFrom ∈ B0 := B0_t 159 (by decide +kernel) (by decide +kernel)
theorem q160 : Cond.selects RX3 yX3_copyFrom yX3_copyFrom ∈ B0 := B0_t 160 (by decide +kernel) (by decide +kernel)
theorem q161 : Cond.code yX3_copyFrom cX3_copyFrom 2 none ∈ B0 := B0_t 161 (by decide +kernel) (by decide +kernel)
theorem q162 : Cond.methodLink RX3 29 yX2_copyFrom ∈ B0 := B0_t 162 (by decide +kernel) (by decide +kernel)
theorem q163 : Cond.instanceMethod yX2_copyFrom ∈ B0 := B0_t 163 (by decide +kernel) (by decide +kernel)
theorem q164 : Cond.selects RX2 yX2_copyFrom yX2_copyFrom ∈ B0 := B0_t 164 (by decide +kernel) (by decide +kernel)
theorem q165 : Cond.code yX2_copyFrom cX2_copyFrom 2 none ∈ B0 := B0_t 165 (by decide +kernel) (by decide +kernel)
theorem q166 : Cond.methodLink RX2 34 ⟨RJ10, "arraycopy", "(Ljava/lang/Object;ILjava/lang/Object;II)V"⟩ ∈ B0 := B0_t 166 (by decide +kernel) (by decide +kernel)
theorem q167 : Cond.static ⟨RJ10, "arraycopy", "(Ljava/lang/Object;ILjava/lang/Object;II)V"⟩ ∈ B0 := B0_t 167 (by decide +kernel) (by decide +kernel)
theorem q168 : Cond.native ⟨RJ10, "arraycopy", "(Ljava/lang/Object;ILjava/lang/Object;II)V"⟩ ∈ B0 := B0_t 168 (by decide +kernel) (by decide +kernel)
theorem q169 : Cond.methodLink RX3 33 yX1_copyFrom ∈ B0 := B0_t 169 (by decide +kernel) (by decide +kernel)
theorem q170 : Cond.instanceMethod yX1_copyFrom ∈ B0 := B0_t 170 (by decide +kernel) (by decide +kernel)
theorem q171 : Cond.selects RX1 yX1_copyFrom yX1_copyFrom ∈ B0 := B0_t 171 (by decide +kernel) (by decide +kernel)
theorem q172 : Cond.code yX1_copyFrom cX1_copyFrom 2 none ∈ B0 := B0_t 172 (by decide +kernel) (by decide +kernel)
theorem q173 : Cond.methodLink RX1 22 ⟨RJ10, "arraycopy", "(Ljava/lang/Object;ILjava/lang/Object;II)V"⟩ ∈ B0 := B0_t 173 (by decide +kernel) (by decide +kernel)
theorem q174 : Cond.methodLink RX5 127 yX3_fireThings ∈ B0 := B0_t 174 (by decide +kernel) (by decide +kernel)
theorem q175 : Cond.instanceMethod yX3_fireThings ∈ B0 := B0_t 175 (by decide +kernel) (by decide +kernel)
theorem q176 : Cond.selects RX3 yX3_fireThings yX3_fireThings ∈ B0 := B0_t 176 (by decide +kernel) (by decide +kernel)
theorem q177 : Cond.code yX3_fireThings cX3_fireThings 4 (some .int) ∈ B0 := B0_t 177 (by decide +kernel) (by decide +kernel)
theorem q178 : Cond.methodLink RX3 76 yX1_list ∈ B0 := B0_t 178 (by decide +kernel) (by decide +kernel)
theorem q179 : Cond.instanceMethod yX1_list ∈ B0 := B0_t 179 (by decide +kernel) (by decide +kernel)
theorem q180 : Cond.selects RX1 yX1_list yX1_list ∈ B0 := B0_t 180 (by decide +kernel) (by decide +kernel)
theorem q181 : Cond.code yX1_list cX1_list 4 (some .int) ∈ B0 := B0_t 181 (by decide +kernel) (by decide +kernel)
theorem q182 : Cond.methodLink RX3 80 yX3_fireThing ∈ B0 := B0_t 182 (by decide +kernel) (by decide +kernel)
theorem q184 : Cond.instanceMethod yX3_fireThing ∈ B0 := B0_t 184 (by decide +kernel) (by decide +kernel)
theorem q185 : Cond.code yX3_fireThing cX3_fireThing 4 (some .int) ∈ B0 := B0_t 185 (by decide +kernel) (by decide +kernel)
theorem q186 : Cond.methodLink RX3 83 yX2_valueAt ∈ B0 := B0_t 186 (by decide +kernel) (by decide +kernel)
theorem q187 : Cond.instanceMethod yX2_valueAt ∈ B0 := B0_t 187 (by decide +kernel) (by decide +kernel)
theorem q188 : Cond.selects RX2 yX2_valueAt yX2_valueAt ∈ B0 := B0_t 188 (by decide +kernel) (by decide +kernel)
theorem q189 : Cond.code yX2_valueAt cX2_valueAt 2 (some .int) ∈ B0 := B0_t 189 (by decide +kernel) (by decide +kernel)
theorem q190 : Cond.methodLink RX2 40 yX2_isCell ∈ B0 := B0_t 190 (by decide +kernel) (by decide +kernel)
theorem q191 : Cond.instanceMethod yX2_isCell ∈ B0 := B0_t 191 (by decide +kernel) (by decide +kernel)
theorem q192 : Cond.selects RX2 yX2_isCell yX2_isCell ∈ B0 := B0_t 192 (by decide +kernel) (by decide +kernel)
theorem q193 : Cond.code yX2_isCell cX2_isCell 2 (some .boolean) ∈ B0 := B0_t 193 (by decide +kernel) (by decide +kernel)
theorem q194 : Cond.methodLink RX3 86 yX2_kindAt ∈ B0 := B0_t 194 (by decide +kernel) (by decide +kernel)
theorem q195 : Cond.instanceMethod yX2_kindAt ∈ B0 := B0_t 195 (by decide +kernel) (by decide +kernel)
theorem q196 : Cond.selects RX2 yX2_kindAt yX2_kindAt ∈ B0 := B0_t 196 (by decide +kernel) (by decide +kernel)
theorem q197 : Cond.code yX2_kindAt cX2_kindAt 2 (some .int) ∈ B0 := B0_t 197 (by decide +kernel) (by decide +kernel)
theorem q198 : Cond.methodLink RX3 89 yX2_timesFired ∈ B0 := B0_t 198 (by decide +kernel) (by decide +kernel)
theorem q199 : Cond.instanceMethod yX2_timesFired ∈ B0 := B0_t 199 (by decide +kernel) (by decide +kernel)
theorem q200 : Cond.selects RX2 yX2_timesFired yX2_timesFired ∈ B0 := B0_t 200 (by decide +kernel) (by decide +kernel)
theorem q201 : Cond.code yX2_timesFired cX2_timesFired 2 (some .int) ∈ B0 := B0_t 201 (by decide +kernel) (by decide +kernel)
theorem q202 : Cond.methodLink RX3 92 yX2_setTimesFired ∈ B0 := B0_t 202 (by decide +kernel) (by decide +kernel)
theorem q203 : Cond.instanceMethod yX2_setTimesFired ∈ B0 := B0_t 203 (by decide +kernel) (by decide +kernel)
theorem q204 : Cond.selects RX2 yX2_setTimesFired yX2_setTimesFired ∈ B0 := B0_t 204 (by decide +kernel) (by decide +kernel)
theorem q205 : Cond.code yX2_setTimesFired cX2_setTimesFired 3 none ∈ B0 := B0_t 205 (by decide +kernel) (by decide +kernel)
theorem q206 : Cond.methodLink RX3 95 yX3_drop ∈ B0 := B0_t 206 (by decide +kernel) (by decide +kernel)
theorem q207 : Cond.instanceMethod yX3_drop ∈ B0 := B0_t 207 (by decide +kernel) (by decide +kernel)
theorem q208 : Cond.selects RX3 yX3_drop yX3_drop ∈ B0 := B0_t 208 (by decide +kernel) (by decide +kernel)
theorem q209 : Cond.code yX3_drop cX3_drop 2 none ∈ B0 := B0_t 209 (by decide +kernel) (by decide +kernel)
theorem q210 : Cond.methodLink RX3 69 yX2_release ∈ B0 := B0_t 210 (by decide +kernel) (by decide +kernel)
theorem q211 : Cond.instanceMethod yX2_release ∈ B0 := B0_t 211 (by decide +kernel) (by decide +kernel)
theorem q212 : Cond.selects RX2 yX2_release yX2_release ∈ B0 := B0_t 212 (by decide +kernel) (by decide +kernel)
theorem q213 : Cond.code yX2_release cX2_release 2 none ∈ B0 := B0_t 213 (by decide +kernel) (by decide +kernel)
theorem q214 : Cond.methodLink RX2 55 yX2_giveCells ∈ B0 := B0_t 214 (by decide +kernel) (by decide +kernel)
theorem q216 : Cond.instanceMethod yX2_giveCells ∈ B0 := B0_t 216 (by decide +kernel) (by decide +kernel)
theorem q217 : Cond.code yX2_giveCells cX2_giveCells 5 none ∈ B0 := B0_t 217 (by decide +kernel) (by decide +kernel)
theorem q218 : Cond.methodLink RX3 73 yX1_bury ∈ B0 := B0_t 218 (by decide +kernel) (by decide +kernel)
theorem q219 : Cond.instanceMethod yX1_bury ∈ B0 := B0_t 219 (by decide +kernel) (by decide +kernel)
theorem q220 : Cond.selects RX1 yX1_bury yX1_bury ∈ B0 := B0_t 220 (by decide +kernel) (by decide +kernel)
theorem q221 : Cond.code yX1_bury cX1_bury 3 none ∈ B0 := B0_t 221 (by decide +kernel) (by decide +kernel)
theorem q222 : Cond.methodLink RX1 46 yX1_indexOf ∈ B0 := B0_t 222 (by decide +kernel) (by decide +kernel)
theorem q223 : Cond.instanceMethod yX1_indexOf ∈ B0 := B0_t 223 (by decide +kernel) (by decide +kernel)
theorem q224 : Cond.selects RX1 yX1_indexOf yX1_indexOf ∈ B0 := B0_t 224 (by decide +kernel) (by decide +kernel)
theorem q225 : Cond.code yX1_indexOf cX1_indexOf 3 (some .int) ∈ B0 := B0_t 225 (by decide +kernel) (by decide +kernel)
theorem q226 : Cond.methodLink RX1 28 yX1_isEntry ∈ B0 := B0_t 226 (by decide +kernel) (by decide +kernel)
theorem q228 : Cond.instanceMethod yX1_isEntry ∈ B0 := B0_t 228 (by decide +kernel) (by decide +kernel)
theorem q229 : Cond.code yX1_isEntry cX1_isEntry 2 (some .boolean) ∈ B0 := B0_t 229 (by decide +kernel) (by decide +kernel)
theorem q230 : Cond.methodLink RX1 49 yX1_sweep ∈ B0 := B0_t 230 (by decide +kernel) (by decide +kernel)
theorem q232 : Cond.instanceMethod yX1_sweep ∈ B0 := B0_t 232 (by decide +kernel) (by decide +kernel)
theorem q233 : Cond.code yX1_sweep cX1_sweep 2 none ∈ B0 := B0_t 233 (by decide +kernel) (by decide +kernel)
theorem q234 : Cond.methodLink RX1 53 yX1_walkersOn ∈ B0 := B0_t 234 (by decide +kernel) (by decide +kernel)
theorem q235 : Cond.instanceMethod yX1_walkersOn ∈ B0 := B0_t 235 (by decide +kernel) (by decide +kernel)
theorem q236 : Cond.selects RX1 yX1_walkersOn yX1_walkersOn ∈ B0 := B0_t 236 (by decide +kernel) (by decide +kernel)
theorem q237 : Cond.code yX1_walkersOn cX1_walkersOn 4 (some .int) ∈ B0 := B0_t 237 (by decide +kernel) (by decide +kernel)
theorem q238 : Cond.methodLink RX1 56 yX1_delete ∈ B0 := B0_t 238 (by decide +kernel) (by decide +kernel)
theorem q240 : Cond.instanceMethod yX1_delete ∈ B0 := B0_t 240 (by decide +kernel) (by decide +kernel)
theorem q241 : Cond.code yX1_delete cX1_delete 3 none ∈ B0 := B0_t 241 (by decide +kernel) (by decide +kernel)
theorem q242 : Cond.methodLink RX3 98 yX2_sizeAt ∈ B0 := B0_t 242 (by decide +kernel) (by decide +kernel)
theorem q243 : Cond.instanceMethod yX2_sizeAt ∈ B0 := B0_t 243 (by decide +kernel) (by decide +kernel)
theorem q244 : Cond.selects RX2 yX2_sizeAt yX2_sizeAt ∈ B0 := B0_t 244 (by decide +kernel) (by decide +kernel)
theorem q245 : Cond.code yX2_sizeAt cX2_sizeAt 2 (some .int) ∈ B0 := B0_t 245 (by decide +kernel) (by decide +kernel)
theorem q246 : Cond.methodLink RX3 101 yX3_addLast ∈ B0 := B0_t 246 (by decide +kernel) (by decide +kernel)
theorem q247 : Cond.instanceMethod yX3_addLast ∈ B0 := B0_t 247 (by decide +kernel) (by decide +kernel)
theorem q248 : Cond.selects RX3 yX3_addLast yX3_addLast ∈ B0 := B0_t 248 (by decide +kernel) (by decide +kernel)
theorem q249 : Cond.code yX3_addLast cX3_addLast 4 (some .int) ∈ B0 := B0_t 249 (by decide +kernel) (by decide +kernel)
theorem q250 : Cond.methodLink RX3 49 yX1_size ∈ B0 := B0_t 250 (by decide +kernel) (by decide +kernel)
theorem q251 : Cond.instanceMethod yX1_size ∈ B0 := B0_t 251 (by decide +kernel) (by decide +kernel)
theorem q252 : Cond.selects RX1 yX1_size yX1_size ∈ B0 := B0_t 252 (by decide +kernel) (by decide +kernel)
theorem q253 : Cond.code yX1_size cX1_size 1 (some .int) ∈ B0 := B0_t 253 (by decide +kernel) (by decide +kernel)
theorem q254 : Cond.methodLink RX3 53 yX3_addAt ∈ B0 := B0_t 254 (by decide +kernel) (by decide +kernel)
theorem q255 : Cond.instanceMethod yX3_addAt ∈ B0 := B0_t 255 (by decide +kernel) (by decide +kernel)
theorem q256 : Cond.selects RX3 yX3_addAt yX3_addAt ∈ B0 := B0_t 256 (by decide +kernel) (by decide +kernel)
theorem q257 : Cond.code yX3_addAt cX3_addAt 6 (some .int) ∈ B0 := B0_t 257 (by decide +kernel) (by decide +kernel)
theorem q258 : Cond.methodLink RX3 57 yX2_lowestFor ∈ B0 := B0_t 258 (by decide +kernel) (by decide +kernel)
theorem q259 : Cond.instanceMethod yX2_lowestFor ∈ B0 := B0_t 259 (by decide +kernel) (by decide +kernel)
theorem q260 : Cond.selects RX2 yX2_lowestFor yX2_lowestFor ∈ B0 := B0_t 260 (by decide +kernel) (by decide +kernel)
theorem q261 : Cond.code yX2_lowestFor cX2_lowestFor 4 (some .int) ∈ B0 := B0_t 261 (by decide +kernel) (by decide +kernel)
theorem q262 : Cond.methodLink RX3 61 yX2_occupy ∈ B0 := B0_t 262 (by decide +kernel) (by decide +kernel)
theorem q263 : Cond.instanceMethod yX2_occupy ∈ B0 := B0_t 263 (by decide +kernel) (by decide +kernel)
theorem q264 : Cond.selects RX2 yX2_occupy yX2_occupy ∈ B0 := B0_t 264 (by decide +kernel) (by decide +kernel)
theorem q265 : Cond.code yX2_occupy cX2_occupy 5 none ∈ B0 := B0_t 265 (by decide +kernel) (by decide +kernel)
theorem q266 : Cond.methodLink RX2 51 yX2_growTo ∈ B0 := B0_t 266 (by decide +kernel) (by decide +kernel)
theorem q268 : Cond.instanceMethod yX2_growTo ∈ B0 := B0_t 268 (by decide +kernel) (by decide +kernel)
theorem q269 : Cond.code yX2_growTo cX2_growTo 3 none ∈ B0 := B0_t 269 (by decide +kernel) (by decide +kernel)
theorem q270 : Cond.methodLink RX3 65 yX1_insert ∈ B0 := B0_t 270 (by decide +kernel) (by decide +kernel)
theorem q271 : Cond.instanceMethod yX1_insert ∈ B0 := B0_t 271 (by decide +kernel) (by decide +kernel)
theorem q272 : Cond.selects RX1 yX1_insert yX1_insert ∈ B0 := B0_t 272 (by decide +kernel) (by decide +kernel)
theorem q273 : Cond.code yX1_insert cX1_insert 4 none ∈ B0 := B0_t 273 (by decide +kernel) (by decide +kernel)
theorem q274 : Cond.methodLink RL 116 yX5_together ∈ B0 := B0_t 274 (by decide +kernel) (by decide +kernel)
theorem q275 : Cond.instanceMethod yX5_together ∈ B0 := B0_t 275 (by decide +kernel) (by decide +kernel)
theorem q276 : Cond.selects RX5 yX5_together yX5_together ∈ B0 := B0_t 276 (by decide +kernel) (by decide +kernel)
theorem q277 : Cond.code yX5_together cX5_together 1 (some .int) ∈ B0 := B0_t 277 (by decide +kernel) (by decide +kernel)
theorem q278 : Cond.methodLink RX5 131 yX3_moveThings ∈ B0 := B0_t 278 (by decide +kernel) (by decide +kernel)
theorem q279 : Cond.instanceMethod yX3_moveThings ∈ B0 := B0_t 279 (by decide +kernel) (by decide +kernel)
theorem q280 : Cond.selects RX3 yX3_moveThings yX3_moveThings ∈ B0 := B0_t 280 (by decide +kernel) (by decide +kernel)
theorem q281 : Cond.code yX3_moveThings cX3_moveThings 6 (some .int) ∈ B0 := B0_t 281 (by decide +kernel) (by decide +kernel)
theorem q282 : Cond.methodLink RX3 105 yX2_cellsNow ∈ B0 := B0_t 282 (by decide +kernel) (by decide +kernel)
theorem q283 : Cond.instanceMethod yX2_cellsNow ∈ B0 := B0_t 283 (by decide +kernel) (by decide +kernel)
theorem q284 : Cond.selects RX2 yX2_cellsNow yX2_cellsNow ∈ B0 := B0_t 284 (by decide +kernel) (by decide +kernel)
theorem q285 : Cond.code yX2_cellsNow cX2_cellsNow 1 (some .int) ∈ B0 := B0_t 285 (by decide +kernel) (by decide +kernel)
theorem q286 : Cond.methodLink RX3 108 yX2_carry ∈ B0 := B0_t 286 (by decide +kernel) (by decide +kernel)
theorem q287 : Cond.instanceMethod yX2_carry ∈ B0 := B0_t 287 (by decide +kernel) (by decide +kernel)
theorem q288 : Cond.selects RX2 yX2_carry yX2_carry ∈ B0 := B0_t 288 (by decide +kernel) (by decide +kernel)
theorem q289 : Cond.code yX2_carry cX2_carry 7 none ∈ B0 := B0_t 289 (by decide +kernel) (by decide +kernel)
theorem q290 : Cond.methodLink RX2 59 yX2_valueAt ∈ B0 := B0_t 290 (by decide +kernel) (by decide +kernel)
theorem q291 : Cond.methodLink RX2 48 yX2_sizeAt ∈ B0 := B0_t 291 (by decide +kernel) (by decide +kernel)
theorem q292 : Cond.methodLink RX2 62 yX2_kindAt ∈ B0 := B0_t 292 (by decide +kernel) (by decide +kernel)
theorem q293 : Cond.methodLink RX2 65 yX2_timesFired ∈ B0 := B0_t 293 (by decide +kernel) (by decide +kernel)
theorem q294 : Cond.methodLink RX2 68 yX2_release ∈ B0 := B0_t 294 (by decide +kernel) (by decide +kernel)
theorem q295 : Cond.methodLink RX2 71 yX2_occupy ∈ B0 := B0_t 295 (by decide +kernel) (by decide +kernel)
theorem q296 : Cond.methodLink RX2 75 yX2_setTimesFired ∈ B0 := B0_t 296 (by decide +kernel) (by decide +kernel)
theorem q297 : Cond.methodLink RX3 111 yX1_rename ∈ B0 := B0_t 297 (by decide +kernel) (by decide +kernel)
theorem q298 : Cond.instanceMethod yX1_rename ∈ B0 := B0_t 298 (by decide +kernel) (by decide +kernel)
theorem q299 : Cond.selects RX1 yX1_rename yX1_rename ∈ B0 := B0_t 299 (by decide +kernel) (by decide +kernel)
theorem q300 : Cond.code yX1_rename cX1_rename 4 none ∈ B0 := B0_t 300 (by decide +kernel) (by decide +kernel)
theorem q301 : Cond.methodLink RL 123 yX5_clearBuffer ∈ B0 := B0_t 301 (by decide +kernel) (by decide +kernel)
theorem q302 : Cond.instanceMethod yX5_clearBuffer ∈ B0 := B0_t 302 (by decide +kernel) (by decide +kernel)
theorem q303 : Cond.selects RX5 yX5_clearBuffer yX5_clearBuffer ∈ B0 := B0_t 303 (by decide +kernel) (by decide +kernel)
theorem q304 : Cond.code yX5_clearBuffer cX5_clearBuffer 2 (some .int) ∈ B0 := B0_t 304 (by decide +kernel) (by decide +kernel)
theorem q305 : Cond.methodLink RX5 145 yX4_size ∈ B0 := B0_t 305 (by decide +kernel) (by decide +kernel)
theorem q306 : Cond.instanceMethod yX4_size ∈ B0 := B0_t 306 (by decide +kernel) (by decide +kernel)
theorem q307 : Cond.selects RX4 yX4_size yX4_size ∈ B0 := B0_t 307 (by decide +kernel) (by decide +kernel)
theorem q308 : Cond.code yX4_size cX4_size 1 (some .int) ∈ B0 := B0_t 308 (by decide +kernel) (by decide +kernel)
theorem q309 : Cond.methodLink RX5 148 yX4_empty ∈ B0 := B0_t 309 (by decide +kernel) (by decide +kernel)
theorem q310 : Cond.instanceMethod yX4_empty ∈ B0 := B0_t 310 (by decide +kernel) (by decide +kernel)
theorem q311 : Cond.selects RX4 yX4_empty yX4_empty ∈ B0 := B0_t 311 (by decide +kernel) (by decide +kernel)
theorem q312 : Cond.code yX4_empty cX4_empty 1 none ∈ B0 := B0_t 312 (by decide +kernel) (by decide +kernel)
theorem q313 : Cond.methodLink RL 127 yX5_firstError ∈ B0 := B0_t 313 (by decide +kernel) (by decide +kernel)
theorem q314 : Cond.instanceMethod yX5_firstError ∈ B0 := B0_t 314 (by decide +kernel) (by decide +kernel)
theorem q315 : Cond.selects RX5 yX5_firstError yX5_firstError ∈ B0 := B0_t 315 (by decide +kernel) (by decide +kernel)
theorem q316 : Cond.code yX5_firstError cX5_firstError 1 (some .int) ∈ B0 := B0_t 316 (by decide +kernel) (by decide +kernel)
theorem q317 : Cond.methodLink RX5 151 yX4_firstWrong ∈ B0 := B0_t 317 (by decide +kernel) (by decide +kernel)
theorem q318 : Cond.instanceMethod yX4_firstWrong ∈ B0 := B0_t 318 (by decide +kernel) (by decide +kernel)
theorem q319 : Cond.selects RX4 yX4_firstWrong yX4_firstWrong ∈ B0 := B0_t 319 (by decide +kernel) (by decide +kernel)
theorem q320 : Cond.code yX4_firstWrong cX4_firstWrong 3 (some .int) ∈ B0 := B0_t 320 (by decide +kernel) (by decide +kernel)
theorem q321 : Cond.methodLink RX4 19 yX4_codeAt ∈ B0 := B0_t 321 (by decide +kernel) (by decide +kernel)
theorem q322 : Cond.instanceMethod yX4_codeAt ∈ B0 := B0_t 322 (by decide +kernel) (by decide +kernel)
theorem q323 : Cond.selects RX4 yX4_codeAt yX4_codeAt ∈ B0 := B0_t 323 (by decide +kernel) (by decide +kernel)
theorem q324 : Cond.code yX4_codeAt cX4_codeAt 2 (some .int) ∈ B0 := B0_t 324 (by decide +kernel) (by decide +kernel)
theorem q325 : Cond.methodLink RX4 23 yX4_stateBehind ∈ B0 := B0_t 325 (by decide +kernel) (by decide +kernel)
theorem q326 : Cond.static yX4_stateBehind ∈ B0 := B0_t 326 (by decide +kernel) (by decide +kernel)
theorem q327 : Cond.code yX4_stateBehind cX4_stateBehind 2 (some .int) ∈ B0 := B0_t 327 (by decide +kernel) (by decide +kernel)
theorem q328 : Cond.methodLink RX4 27 yX4_firstDigit ∈ B0 := B0_t 328 (by decide +kernel) (by decide +kernel)
theorem q329 : Cond.static yX4_firstDigit ∈ B0 := B0_t 329 (by decide +kernel) (by decide +kernel)
theorem q330 : Cond.code yX4_firstDigit cX4_firstDigit 1 (some .int) ∈ B0 := B0_t 330 (by decide +kernel) (by decide +kernel)
theorem q331 : Cond.methodLink RX4 30 yX4_laterDigit ∈ B0 := B0_t 331 (by decide +kernel) (by decide +kernel)
theorem q332 : Cond.static yX4_laterDigit ∈ B0 := B0_t 332 (by decide +kernel) (by decide +kernel)
theorem q333 : Cond.code yX4_laterDigit cX4_laterDigit 2 (some .int) ∈ B0 := B0_t 333 (by decide +kernel) (by decide +kernel)
theorem q334 : Cond.methodLink RX4 33 yX4_behindSize ∈ B0 := B0_t 334 (by decide +kernel) (by decide +kernel)
theorem q335 : Cond.static yX4_behindSize ∈ B0 := B0_t 335 (by decide +kernel) (by decide +kernel)
theorem q336 : Cond.code yX4_behindSize cX4_behindSize 1 (some .int) ∈ B0 := B0_t 336 (by decide +kernel) (by decide +kernel)
theorem q337 : Cond.methodLink RL 138 yX5_refusal ∈ B0 := B0_t 337 (by decide +kernel) (by decide +kernel)
theorem q338 : Cond.instanceMethod yX5_refusal ∈ B0 := B0_t 338 (by decide +kernel) (by decide +kernel)
theorem q339 : Cond.selects RX5 yX5_refusal yX5_refusal ∈ B0 := B0_t 339 (by decide +kernel) (by decide +kernel)
theorem q340 : Cond.code yX5_refusal cX5_refusal 2 (some .int) ∈ B0 := B0_t 340 (by decide +kernel) (by decide +kernel)
theorem q341 : Cond.methodLink RX5 70 yX2_whyRefused ∈ B0 := B0_t 341 (by decide +kernel) (by decide +kernel)
theorem q342 : Cond.instanceMethod yX2_whyRefused ∈ B0 := B0_t 342 (by decide +kernel) (by decide +kernel)
theorem q343 : Cond.selects RX2 yX2_whyRefused yX2_whyRefused ∈ B0 := B0_t 343 (by decide +kernel) (by decide +kernel)
theorem q344 : Cond.code yX2_whyRefused cX2_whyRefused 2 (some .int) ∈ B0 := B0_t 344 (by decide +kernel) (by decide +kernel)
theorem q345 : Cond.methodLink RX2 44 yX2_stampAt ∈ B0 := B0_t 345 (by decide +kernel) (by decide +kernel)
theorem q346 : Cond.instanceMethod yX2_stampAt ∈ B0 := B0_t 346 (by decide +kernel) (by decide +kernel)
theorem q347 : Cond.selects RX2 yX2_stampAt yX2_stampAt ∈ B0 := B0_t 347 (by decide +kernel) (by decide +kernel)
theorem q348 : Cond.code yX2_stampAt cX2_stampAt 2 (some .int) ∈ B0 := B0_t 348 (by decide +kernel) (by decide +kernel)
theorem q349 : Cond.methodLink RL 170 yX5_fullness ∈ B0 := B0_t 349 (by decide +kernel) (by decide +kernel)
theorem q350 : Cond.instanceMethod yX5_fullness ∈ B0 := B0_t 350 (by decide +kernel) (by decide +kernel)
theorem q351 : Cond.selects RX5 yX5_fullness yX5_fullness ∈ B0 := B0_t 351 (by decide +kernel) (by decide +kernel)
theorem q352 : Cond.code yX5_fullness cX5_fullness 2 (some .double) ∈ B0 := B0_t 352 (by decide +kernel) (by decide +kernel)
theorem q353 : Cond.methodLink RX5 214 yX2_cellsNow ∈ B0 := B0_t 353 (by decide +kernel) (by decide +kernel)
theorem q354 : Cond.methodLink RX5 217 yX2_freeCells ∈ B0 := B0_t 354 (by decide +kernel) (by decide +kernel)
theorem q355 : Cond.instanceMethod yX2_freeCells ∈ B0 := B0_t 355 (by decide +kernel) (by decide +kernel)
theorem q356 : Cond.selects RX2 yX2_freeCells yX2_freeCells ∈ B0 := B0_t 356 (by decide +kernel) (by decide +kernel)
theorem q357 : Cond.code yX2_freeCells cX2_freeCells 1 (some .int) ∈ B0 := B0_t 357 (by decide +kernel) (by decide +kernel)
theorem q358 : Cond.methodLink RX2 79 yX2_roomFor ∈ B0 := B0_t 358 (by decide +kernel) (by decide +kernel)
theorem q359 : Cond.instanceMethod yX2_roomFor ∈ B0 := B0_t 359 (by decide +kernel) (by decide +kernel)
theorem q360 : Cond.selects RX2 yX2_roomFor yX2_roomFor ∈ B0 := B0_t 360 (by decide +kernel) (by decide +kernel)
theorem q361 : Cond.code yX2_roomFor cX2_roomFor 5 (some .int) ∈ B0 := B0_t 361 (by decide +kernel) (by decide +kernel)
theorem q362 : Cond.methodLink RX2 82 yX2_ownerOf ∈ B0 := B0_t 362 (by decide +kernel) (by decide +kernel)
theorem q363 : Cond.instanceMethod yX2_ownerOf ∈ B0 := B0_t 363 (by decide +kernel) (by decide +kernel)
theorem q364 : Cond.selects RX2 yX2_ownerOf yX2_ownerOf ∈ B0 := B0_t 364 (by decide +kernel) (by decide +kernel)
theorem q365 : Cond.code yX2_ownerOf cX2_ownerOf 2 (some .int) ∈ B0 := B0_t 365 (by decide +kernel) (by decide +kernel)
theorem q366 : Cond.methodLink RL 175 yX5_digest ∈ B0 := B0_t 366 (by decide +kernel) (by decide +kernel)
theorem q367 : Cond.instanceMethod yX5_digest ∈ B0 := B0_t 367 (by decide +kernel) (by decide +kernel)
theorem q368 : Cond.selects RX5 yX5_digest yX5_digest ∈ B0 := B0_t 368 (by decide +kernel) (by decide +kernel)
theorem q369 : Cond.code yX5_digest cX5_digest 4 (some .long) ∈ B0 := B0_t 369 (by decide +kernel) (by decide +kernel)
theorem q370 : Cond.constantLong RX5 257 (3251 : Int64) ∈ B0 := B0_t 370 (by decide +kernel) (by decide +kernel)
theorem q371 : Cond.constantLong RX5 259 (31 : Int64) ∈ B0 := B0_t 371 (by decide +kernel) (by decide +kernel)
theorem q372 : Cond.methodLink RX5 261 yX5_count ∈ B0 := B0_t 372 (by decide +kernel) (by decide +kernel)
theorem q373 : Cond.instanceMethod yX5_count ∈ B0 := B0_t 373 (by decide +kernel) (by decide +kernel)
theorem q374 : Cond.selects RX5 yX5_count yX5_count ∈ B0 := B0_t 374 (by decide +kernel) (by decide +kernel)
theorem q375 : Cond.code yX5_count cX5_count 2 (some .int) ∈ B0 := B0_t 375 (by decide +kernel) (by decide +kernel)
theorem q376 : Cond.methodLink RX5 208 yX1_things ∈ B0 := B0_t 376 (by decide +kernel) (by decide +kernel)
theorem q377 : Cond.instanceMethod yX1_things ∈ B0 := B0_t 377 (by decide +kernel) (by decide +kernel)
theorem q378 : Cond.selects RX1 yX1_things yX1_things ∈ B0 := B0_t 378 (by decide +kernel) (by decide +kernel)
theorem q379 : Cond.code yX1_things cX1_things 1 (some .int) ∈ B0 := B0_t 379 (by decide +kernel) (by decide +kernel)
theorem q380 : Cond.methodLink RX1 32 yX1_thingsFrom ∈ B0 := B0_t 380 (by decide +kernel) (by decide +kernel)
theorem q382 : Cond.instanceMethod yX1_thingsFrom ∈ B0 := B0_t 382 (by decide +kernel) (by decide +kernel)
theorem q383 : Cond.code yX1_thingsFrom cX1_thingsFrom 4 (some .int) ∈ B0 := B0_t 383 (by decide +kernel) (by decide +kernel)
theorem q384 : Cond.methodLink RX1 40 yJ9_max_7cf53 ∈ B0 := B0_t 384 (by decide +kernel) (by decide +kernel)
theorem q385 : Cond.static yJ9_max_7cf53 ∈ B0 := B0_t 385 (by decide +kernel) (by decide +kernel)
theorem q387 : Cond.methodLink RX5 211 yX1_tombstones ∈ B0 := B0_t 387 (by decide +kernel) (by decide +kernel)
theorem q388 : Cond.instanceMethod yX1_tombstones ∈ B0 := B0_t 388 (by decide +kernel) (by decide +kernel)
theorem q389 : Cond.selects RX1 yX1_tombstones yX1_tombstones ∈ B0 := B0_t 389 (by decide +kernel) (by decide +kernel)
theorem q390 : Cond.code yX1_tombstones cX1_tombstones 1 (some .int) ∈ B0 := B0_t 390 (by decide +kernel) (by decide +kernel)
theorem q391 : Cond.methodLink RX1 36 yX1_things ∈ B0 := B0_t 391 (by decide +kernel) (by decide +kernel)
theorem q392 : Cond.methodLink RX5 220 yX2_sumOfValues ∈ B0 := B0_t 392 (by decide +kernel) (by decide +kernel)
theorem q393 : Cond.instanceMethod yX2_sumOfValues ∈ B0 := B0_t 393 (by decide +kernel) (by decide +kernel)
theorem q394 : Cond.selects RX2 yX2_sumOfValues yX2_sumOfValues ∈ B0 := B0_t 394 (by decide +kernel) (by decide +kernel)
theorem q395 : Cond.code yX2_sumOfValues cX2_sumOfValues 3 (some .int) ∈ B0 := B0_t 395 (by decide +kernel) (by decide +kernel)
theorem q396 : Cond.methodLink RX5 162 yX0_size ∈ B0 := B0_t 396 (by decide +kernel) (by decide +kernel)
theorem q397 : Cond.instanceMethod yX0_size ∈ B0 := B0_t 397 (by decide +kernel) (by decide +kernel)
theorem q398 : Cond.selects RX0 yX0_size yX0_size ∈ B0 := B0_t 398 (by decide +kernel) (by decide +kernel)
theorem q399 : Cond.code yX0_size cX0_size 1 (some .int) ∈ B0 := B0_t 399 (by decide +kernel) (by decide +kernel)
theorem q400 : Cond.classLink RX5 37 "java/lang/IllegalArgumentException" ∈ B0 := B0_t 400 (by decide +kernel) (by decide +kernel)
theorem q421 : Cond.fieldLink "java/lang/Throwable" 198 "java/lang/Throwable" "backtrace" "Ljava/lang/Object;" ∈ B0 := B0_t 421 (by decide +kernel) (by decide +kernel)
theorem q426 : Cond.fieldLink "java/lang/Throwable" 13 "java/lang/Throwable" "UNASSIGNED_STACK" "[Ljava/lang/StackTraceElement;" ∈ B0 := B0_t 426 (by decide +kernel) (by decide +kernel)
theorem q428 : Cond.fieldLink "java/lang/Throwable" 20 "java/lang/Throwable" "SUPPRESSED_SENTINEL" "Ljava/util/List;" ∈ B0 := B0_t 428 (by decide +kernel) (by decide +kernel)
theorem q440 : Cond.native ⟨"java/lang/Throwable", "fillInStackTrace", "(I)Ljava/lang/Throwable;"⟩ ∈ B0 := B0_t 440 (by decide +kernel) (by decide +kernel)
theorem q454 : Cond.fieldLink "java/lang/Throwable" 198 "java/lang/Throwable" "backtrace" "Ljava/lang/Object;" ∈ B0 := B0_t 454 (by decide +kernel) (by decide +kernel)
theorem q455 : Cond.fieldLink "java/lang/Throwable" 31 "java/lang/Throwable" "detailMessage" "Ljava/lang/String;" ∈ B0 := B0_t 455 (by decide +kernel) (by decide +kernel)
theorem q456 : Cond.fieldLink "java/lang/Throwable" 7 "java/lang/Throwable" "cause" "Ljava/lang/Throwable;" ∈ B0 := B0_t 456 (by decide +kernel) (by decide +kernel)
theorem q457 : Cond.fieldLink "java/lang/Throwable" 17 "java/lang/Throwable" "stackTrace" "[Ljava/lang/StackTraceElement;" ∈ B0 := B0_t 457 (by decide +kernel) (by decide +kernel)
theorem q458 : Cond.fieldLink "java/lang/Throwable" 24 "java/lang/Throwable" "suppressedExceptions" "Ljava/util/List;" ∈ B0 := B0_t 458 (by decide +kernel) (by decide +kernel)
theorem q467 : Cond.arrayClass .byte ∈ B0 := B0_t 467 (by decide +kernel) (by decide +kernel)
theorem q468 : Cond.methodLink RX5 264 yX5_hashThings ∈ B0 := B0_t 468 (by decide +kernel) (by decide +kernel)
theorem q470 : Cond.instanceMethod yX5_hashThings ∈ B0 := B0_t 470 (by decide +kernel) (by decide +kernel)
theorem q471 : Cond.code yX5_hashThings cX5_hashThings 9 (some .long) ∈ B0 := B0_t 471 (by decide +kernel) (by decide +kernel)
theorem q472 : Cond.methodLink RX5 277 yX5_at ∈ B0 := B0_t 472 (by decide +kernel) (by decide +kernel)
theorem q473 : Cond.instanceMethod yX5_at ∈ B0 := B0_t 473 (by decide +kernel) (by decide +kernel)
theorem q474 : Cond.selects RX5 yX5_at yX5_at ∈ B0 := B0_t 474 (by decide +kernel) (by decide +kernel)
theorem q475 : Cond.code yX5_at cX5_at 2 (some .int) ∈ B0 := B0_t 475 (by decide +kernel) (by decide +kernel)
theorem q477 : Cond.methodLink RX5 187 yX1_thingAtPlace ∈ B0 := B0_t 477 (by decide +kernel) (by decide +kernel)
theorem q478 : Cond.instanceMethod yX1_thingAtPlace ∈ B0 := B0_t 478 (by decide +kernel) (by decide +kernel)
theorem q479 : Cond.selects RX1 yX1_thingAtPlace yX1_thingAtPlace ∈ B0 := B0_t 479 (by decide +kernel) (by decide +kernel)
theorem q480 : Cond.code yX1_thingAtPlace cX1_thingAtPlace 4 (some .int) ∈ B0 := B0_t 480 (by decide +kernel) (by decide +kernel)
theorem q481 : Cond.methodLink RX5 67 yX2_handleOf ∈ B0 := B0_t 481 (by decide +kernel) (by decide +kernel)
theorem q482 : Cond.instanceMethod yX2_handleOf ∈ B0 := B0_t 482 (by decide +kernel) (by decide +kernel)
theorem q483 : Cond.selects RX2 yX2_handleOf yX2_handleOf ∈ B0 := B0_t 483 (by decide +kernel) (by decide +kernel)
theorem q484 : Cond.code yX2_handleOf cX2_handleOf 2 (some .int) ∈ B0 := B0_t 484 (by decide +kernel) (by decide +kernel)
theorem q485 : Cond.methodLink RX5 280 yX5_thing ∈ B0 := B0_t 485 (by decide +kernel) (by decide +kernel)
theorem q486 : Cond.instanceMethod yX5_thing ∈ B0 := B0_t 486 (by decide +kernel) (by decide +kernel)
theorem q487 : Cond.selects RX5 yX5_thing yX5_thing ∈ B0 := B0_t 487 (by decide +kernel) (by decide +kernel)
theorem q488 : Cond.code yX5_thing cX5_thing 4 (some .int) ∈ B0 := B0_t 488 (by decide +kernel) (by decide +kernel)
theorem q489 : Cond.classLink RX5 73 "java/lang/IndexOutOfBoundsException" ∈ B0 := B0_t 489 (by decide +kernel) (by decide +kernel)
theorem q505 : Cond.methodLink RX5 91 yX2_valueAt ∈ B0 := B0_t 505 (by decide +kernel) (by decide +kernel)
theorem q506 : Cond.methodLink RX5 168 yX2_sizeAt ∈ B0 := B0_t 506 (by decide +kernel) (by decide +kernel)
theorem q507 : Cond.methodLink RX5 171 yX2_kindAt ∈ B0 := B0_t 507 (by decide +kernel) (by decide +kernel)
theorem q508 : Cond.methodLink RX5 174 yX2_timesFired ∈ B0 := B0_t 508 (by decide +kernel) (by decide +kernel)
theorem q509 : Cond.methodLink RX5 177 yX1_placeOf ∈ B0 := B0_t 509 (by decide +kernel) (by decide +kernel)
theorem q510 : Cond.instanceMethod yX1_placeOf ∈ B0 := B0_t 510 (by decide +kernel) (by decide +kernel)
theorem q511 : Cond.selects RX1 yX1_placeOf yX1_placeOf ∈ B0 := B0_t 511 (by decide +kernel) (by decide +kernel)
theorem q512 : Cond.code yX1_placeOf cX1_placeOf 4 (some .int) ∈ B0 := B0_t 512 (by decide +kernel) (by decide +kernel)
theorem q513 : Cond.methodLink RX5 82 yX1_indexOf ∈ B0 := B0_t 513 (by decide +kernel) (by decide +kernel)
theorem q514 : Cond.methodLink RX5 180 yX1_walkersOn ∈ B0 := B0_t 514 (by decide +kernel) (by decide +kernel)
theorem q516 : Cond.methodLink RX5 268 yX5_hashCellsAndWalkers ∈ B0 := B0_t 516 (by decide +kernel) (by decide +kernel)
theorem q518 : Cond.instanceMethod yX5_hashCellsAndWalkers ∈ B0 := B0_t 518 (by decide +kernel) (by decide +kernel)
theorem q519 : Cond.code yX5_hashCellsAndWalkers cX5_hashCellsAndWalkers 8 (some .long) ∈ B0 := B0_t 519 (by decide +kernel) (by decide +kernel)
theorem q520 : Cond.methodLink RX5 284 yX5_cell ∈ B0 := B0_t 520 (by decide +kernel) (by decide +kernel)
theorem q521 : Cond.instanceMethod yX5_cell ∈ B0 := B0_t 521 (by decide +kernel) (by decide +kernel)
theorem q522 : Cond.selects RX5 yX5_cell yX5_cell ∈ B0 := B0_t 522 (by decide +kernel) (by decide +kernel)
theorem q523 : Cond.code yX5_cell cX5_cell 3 (some .int) ∈ B0 := B0_t 523 (by decide +kernel) (by decide +kernel)
theorem q524 : Cond.methodLink RX5 190 yX2_isCell ∈ B0 := B0_t 524 (by decide +kernel) (by decide +kernel)
theorem q526 : Cond.methodLink RX5 195 yX2_stampAt ∈ B0 := B0_t 526 (by decide +kernel) (by decide +kernel)
theorem q527 : Cond.methodLink RX5 198 yX2_ownerOf ∈ B0 := B0_t 527 (by decide +kernel) (by decide +kernel)
theorem q529 : Cond.methodLink RX5 287 yX5_walker ∈ B0 := B0_t 529 (by decide +kernel) (by decide +kernel)
theorem q530 : Cond.instanceMethod yX5_walker ∈ B0 := B0_t 530 (by decide +kernel) (by decide +kernel)
theorem q531 : Cond.selects RX5 yX5_walker yX5_walker ∈ B0 := B0_t 531 (by decide +kernel) (by decide +kernel)
theorem q532 : Cond.code yX5_walker cX5_walker 3 (some .int) ∈ B0 := B0_t 532 (by decide +kernel) (by decide +kernel)
theorem q533 : Cond.methodLink RX5 108 yX5_isWalker ∈ B0 := B0_t 533 (by decide +kernel) (by decide +kernel)
theorem q534 : Cond.static yX5_isWalker ∈ B0 := B0_t 534 (by decide +kernel) (by decide +kernel)
theorem q535 : Cond.code yX5_isWalker cX5_isWalker 1 (some .boolean) ∈ B0 := B0_t 535 (by decide +kernel) (by decide +kernel)
theorem q537 : Cond.methodLink RX5 113 yX1_standOf ∈ B0 := B0_t 537 (by decide +kernel) (by decide +kernel)
theorem q538 : Cond.instanceMethod yX1_standOf ∈ B0 := B0_t 538 (by decide +kernel) (by decide +kernel)
theorem q539 : Cond.selects RX1 yX1_standOf yX1_standOf ∈ B0 := B0_t 539 (by decide +kernel) (by decide +kernel)
theorem q540 : Cond.code yX1_standOf cX1_standOf 3 (some .int) ∈ B0 := B0_t 540 (by decide +kernel) (by decide +kernel)
theorem q541 : Cond.methodLink RX1 59 yX1_indexUnder ∈ B0 := B0_t 541 (by decide +kernel) (by decide +kernel)
theorem q543 : Cond.instanceMethod yX1_indexUnder ∈ B0 := B0_t 543 (by decide +kernel) (by decide +kernel)
theorem q544 : Cond.code yX1_indexUnder cX1_indexUnder 2 (some .int) ∈ B0 := B0_t 544 (by decide +kernel) (by decide +kernel)
theorem q546 : Cond.methodLink RX1 62 yX1_isThingIn ∈ B0 := B0_t 546 (by decide +kernel) (by decide +kernel)
theorem q548 : Cond.instanceMethod yX1_isThingIn ∈ B0 := B0_t 548 (by decide +kernel) (by decide +kernel)
theorem q549 : Cond.code yX1_isThingIn cX1_isThingIn 2 (some .boolean) ∈ B0 := B0_t 549 (by decide +kernel) (by decide +kernel)
theorem q550 : Cond.methodLink RX5 122 yX1_thingUnder ∈ B0 := B0_t 550 (by decide +kernel) (by decide +kernel)
theorem q551 : Cond.instanceMethod yX1_thingUnder ∈ B0 := B0_t 551 (by decide +kernel) (by decide +kernel)
theorem q552 : Cond.selects RX1 yX1_thingUnder yX1_thingUnder ∈ B0 := B0_t 552 (by decide +kernel) (by decide +kernel)
theorem q553 : Cond.code yX1_thingUnder cX1_thingUnder 3 (some .int) ∈ B0 := B0_t 553 (by decide +kernel) (by decide +kernel)
theorem q554 : Cond.methodLink RX5 203 yX1_thingsBehind ∈ B0 := B0_t 554 (by decide +kernel) (by decide +kernel)
theorem q555 : Cond.instanceMethod yX1_thingsBehind ∈ B0 := B0_t 555 (by decide +kernel) (by decide +kernel)
theorem q556 : Cond.selects RX1 yX1_thingsBehind yX1_thingsBehind ∈ B0 := B0_t 556 (by decide +kernel) (by decide +kernel)
theorem q557 : Cond.code yX1_thingsBehind cX1_thingsBehind 3 (some .int) ∈ B0 := B0_t 557 (by decide +kernel) (by decide +kernel)
theorem q559 : Cond.methodLink RX5 271 yX5_hashWhatWouldBe ∈ B0 := B0_t 559 (by decide +kernel) (by decide +kernel)
theorem q561 : Cond.instanceMethod yX5_hashWhatWouldBe ∈ B0 := B0_t 561 (by decide +kernel) (by decide +kernel)
theorem q562 : Cond.code yX5_hashWhatWouldBe cX5_hashWhatWouldBe 6 (some .long) ∈ B0 := B0_t 562 (by decide +kernel) (by decide +kernel)
theorem q563 : Cond.methodLink RX5 290 yX5_begins ∈ B0 := B0_t 563 (by decide +kernel) (by decide +kernel)
theorem q564 : Cond.instanceMethod yX5_begins ∈ B0 := B0_t 564 (by decide +kernel) (by decide +kernel)
theorem q565 : Cond.selects RX5 yX5_begins yX5_begins ∈ B0 := B0_t 565 (by decide +kernel) (by decide +kernel)
theorem q566 : Cond.code yX5_begins cX5_begins 2 (some .int) ∈ B0 := B0_t 566 (by decide +kernel) (by decide +kernel)
theorem q567 : Cond.methodLink RX5 238 yX5_isSize ∈ B0 := B0_t 567 (by decide +kernel) (by decide +kernel)
theorem q568 : Cond.static yX5_isSize ∈ B0 := B0_t 568 (by decide +kernel) (by decide +kernel)
theorem q569 : Cond.code yX5_isSize cX5_isSize 1 (some .boolean) ∈ B0 := B0_t 569 (by decide +kernel) (by decide +kernel)
theorem q571 : Cond.methodLink RX5 48 yX2_lowestFor ∈ B0 := B0_t 571 (by decide +kernel) (by decide +kernel)
theorem q572 : Cond.methodLink RX5 293 yX5_gap ∈ B0 := B0_t 572 (by decide +kernel) (by decide +kernel)
theorem q573 : Cond.instanceMethod yX5_gap ∈ B0 := B0_t 573 (by decide +kernel) (by decide +kernel)
theorem q574 : Cond.selects RX5 yX5_gap yX5_gap ∈ B0 := B0_t 574 (by decide +kernel) (by decide +kernel)
theorem q575 : Cond.code yX5_gap cX5_gap 2 (some .int) ∈ B0 := B0_t 575 (by decide +kernel) (by decide +kernel)
theorem q576 : Cond.methodLink RX5 243 yX2_longestGap ∈ B0 := B0_t 576 (by decide +kernel) (by decide +kernel)
theorem q577 : Cond.instanceMethod yX2_longestGap ∈ B0 := B0_t 577 (by decide +kernel) (by decide +kernel)
theorem q578 : Cond.selects RX2 yX2_longestGap yX2_longestGap ∈ B0 := B0_t 578 (by decide +kernel) (by decide +kernel)
theorem q579 : Cond.code yX2_longestGap cX2_longestGap 4 (some .int) ∈ B0 := B0_t 579 (by decide +kernel) (by decide +kernel)
theorem q580 : Cond.methodLink RX2 85 yJ9_max_7cf53 ∈ B0 := B0_t 580 (by decide +kernel) (by decide +kernel)
theorem q581 : Cond.methodLink RX5 246 yX2_beginOfLongestGap ∈ B0 := B0_t 581 (by decide +kernel) (by decide +kernel)
theorem q582 : Cond.instanceMethod yX2_beginOfLongestGap ∈ B0 := B0_t 582 (by decide +kernel) (by decide +kernel)
theorem q583 : Cond.selects RX2 yX2_beginOfLongestGap yX2_beginOfLongestGap ∈ B0 := B0_t 583 (by decide +kernel) (by decide +kernel)
theorem q584 : Cond.code yX2_beginOfLongestGap cX2_beginOfLongestGap 5 (some .int) ∈ B0 := B0_t 584 (by decide +kernel) (by decide +kernel)
theorem q585 : Cond.methodLink RX5 251 yX5_tryEvents ∈ B0 := B0_t 585 (by decide +kernel) (by decide +kernel)
theorem q587 : Cond.instanceMethod yX5_tryEvents ∈ B0 := B0_t 587 (by decide +kernel) (by decide +kernel)
theorem q588 : Cond.code yX5_tryEvents cX5_tryEvents 4 (some .int) ∈ B0 := B0_t 588 (by decide +kernel) (by decide +kernel)
theorem q589 : Cond.methodLink RX5 308 yX3_copyFrom ∈ B0 := B0_t 589 (by decide +kernel) (by decide +kernel)
theorem q590 : Cond.methodLink RX5 296 yX5_room ∈ B0 := B0_t 590 (by decide +kernel) (by decide +kernel)
theorem q591 : Cond.instanceMethod yX5_room ∈ B0 := B0_t 591 (by decide +kernel) (by decide +kernel)
theorem q592 : Cond.selects RX5 yX5_room yX5_room ∈ B0 := B0_t 592 (by decide +kernel) (by decide +kernel)
theorem q593 : Cond.code yX5_room cX5_room 3 (some .int) ∈ B0 := B0_t 593 (by decide +kernel) (by decide +kernel)
theorem q594 : Cond.methodLink RX5 254 yX2_roomFor ∈ B0 := B0_t 594 (by decide +kernel) (by decide +kernel)
theorem q595 : Cond.methodLink RX5 300 yX5_fullness ∈ B0 := B0_t 595 (by decide +kernel) (by decide +kernel)
theorem q596 : Cond.methodLink RX5 304 yX5_bitsOfShare ∈ B0 := B0_t 596 (by decide +kernel) (by decide +kernel)
theorem q597 : Cond.static yX5_bitsOfShare ∈ B0 := B0_t 597 (by decide +kernel) (by decide +kernel)
theorem q598 : Cond.code yX5_bitsOfShare cX5_bitsOfShare 7 (some .long) ∈ B0 := B0_t 598 (by decide +kernel) (by decide +kernel)
theorem q599 : Cond.constantLong RX5 314 (1023 : Int64) ∈ B0 := B0_t 599 (by decide +kernel) (by decide +kernel)
theorem q600 : Cond.constantDouble RX5 316 (4611686018427387904 : UInt64) ∈ B0 := B0_t 600 (by decide +kernel) (by decide +kernel)
theorem q601 : Cond.constantDouble RX5 318 (4841369599423283200 : UInt64) ∈ B0 := B0_t 601 (by decide +kernel) (by decide +kernel)
theorem q602 : Cond.methodLink RX5 274 yX5_hashBuffer ∈ B0 := B0_t 602 (by decide +kernel) (by decide +kernel)
theorem q604 : Cond.instanceMethod yX5_hashBuffer ∈ B0 := B0_t 604 (by decide +kernel) (by decide +kernel)
theorem q605 : Cond.code yX5_hashBuffer cX5_hashBuffer 7 (some .long) ∈ B0 := B0_t 605 (by decide +kernel) (by decide +kernel)
theorem q606 : Cond.methodLink RX5 311 yX4_codeAt ∈ B0 := B0_t 606 (by decide +kernel) (by decide +kernel)
theorem q607 : Cond.methodLink RL 82 yL_put ∈ B0 := B0_t 607 (by decide +kernel) (by decide +kernel)
theorem q608 : Cond.static yL_put ∈ B0 := B0_t 608 (by decide +kernel) (by decide +kernel)
theorem q609 : Cond.codeWith yL_put cL_put 6 (some .int) [(0, 12, 15, 13), (0, 12, 19, 15)] ∈ B0 := B0_t 609 (by decide +kernel) (by decide +kernel)
theorem q610 : Cond.classLink RL 13 "java/lang/IllegalArgumentException" ∈ B0 := B0_t 610 (by decide +kernel) (by decide +kernel)
theorem q611 : Cond.classLink RL 15 "java/lang/IllegalStateException" ∈ B0 := B0_t 611 (by decide +kernel) (by decide +kernel)
theorem q612 : Cond.methodLink RL 7 yX5_put ∈ B0 := B0_t 612 (by decide +kernel) (by decide +kernel)
theorem q613 : Cond.instanceMethod yX5_put ∈ B0 := B0_t 613 (by decide +kernel) (by decide +kernel)
theorem q614 : Cond.selects RX5 yX5_put yX5_put ∈ B0 := B0_t 614 (by decide +kernel) (by decide +kernel)
theorem q615 : Cond.code yX5_put cX5_put 4 (some .int) ∈ B0 := B0_t 615 (by decide +kernel) (by decide +kernel)
theorem q616 : Cond.methodLink RX5 33 yX5_isThing ∈ B0 := B0_t 616 (by decide +kernel) (by decide +kernel)
theorem q617 : Cond.static yX5_isThing ∈ B0 := B0_t 617 (by decide +kernel) (by decide +kernel)
theorem q618 : Cond.code yX5_isThing cX5_isThing 3 (some .boolean) ∈ B0 := B0_t 618 (by decide +kernel) (by decide +kernel)
theorem q619 : Cond.methodLink RX5 98 yX5_isValue ∈ B0 := B0_t 619 (by decide +kernel) (by decide +kernel)
theorem q620 : Cond.static yX5_isValue ∈ B0 := B0_t 620 (by decide +kernel) (by decide +kernel)
theorem q621 : Cond.code yX5_isValue cX5_isValue 1 (some .boolean) ∈ B0 := B0_t 621 (by decide +kernel) (by decide +kernel)
theorem q623 : Cond.classLink RX5 54 "java/lang/IllegalStateException" ∈ B0 := B0_t 623 (by decide +kernel) (by decide +kernel)
theorem q639 : Cond.methodLink RX5 63 yX3_addLast ∈ B0 := B0_t 639 (by decide +kernel) (by decide +kernel)
theorem q640 : Cond.methodLink RL 91 yL_putBehind ∈ B0 := B0_t 640 (by decide +kernel) (by decide +kernel)
theorem q641 : Cond.static yL_putBehind ∈ B0 := B0_t 641 (by decide +kernel) (by decide +kernel)
theorem q642 : Cond.codeWith yL_putBehind cL_putBehind 7 (some .int) [(0, 14, 17, 21), (0, 14, 21, 13), (0, 14, 25, 15)] ∈ B0 := B0_t 642 (by decide +kernel) (by decide +kernel)
theorem q643 : Cond.classLink RL 21 "java/lang/IndexOutOfBoundsException" ∈ B0 := B0_t 643 (by decide +kernel) (by decide +kernel)
theorem q644 : Cond.methodLink RL 17 yX5_putBehind ∈ B0 := B0_t 644 (by decide +kernel) (by decide +kernel)
theorem q645 : Cond.instanceMethod yX5_putBehind ∈ B0 := B0_t 645 (by decide +kernel) (by decide +kernel)
theorem q646 : Cond.selects RX5 yX5_putBehind yX5_putBehind ∈ B0 := B0_t 646 (by decide +kernel) (by decide +kernel)
theorem q647 : Cond.code yX5_putBehind cX5_putBehind 6 (some .int) ∈ B0 := B0_t 647 (by decide +kernel) (by decide +kernel)
theorem q648 : Cond.methodLink RX5 87 yX3_addAt ∈ B0 := B0_t 648 (by decide +kernel) (by decide +kernel)
theorem q649 : Cond.methodLink RL 95 yL_remove ∈ B0 := B0_t 649 (by decide +kernel) (by decide +kernel)
theorem q650 : Cond.static yL_remove ∈ B0 := B0_t 650 (by decide +kernel) (by decide +kernel)
theorem q651 : Cond.codeWith yL_remove cL_remove 4 (some .int) [(0, 9, 12, 21)] ∈ B0 := B0_t 651 (by decide +kernel) (by decide +kernel)
theorem q652 : Cond.methodLink RL 23 yX5_remove ∈ B0 := B0_t 652 (by decide +kernel) (by decide +kernel)
theorem q653 : Cond.instanceMethod yX5_remove ∈ B0 := B0_t 653 (by decide +kernel) (by decide +kernel)
theorem q654 : Cond.selects RX5 yX5_remove yX5_remove ∈ B0 := B0_t 654 (by decide +kernel) (by decide +kernel)
theorem q655 : Cond.code yX5_remove cX5_remove 4 (some .int) ∈ B0 := B0_t 655 (by decide +kernel) (by decide +kernel)
theorem q656 : Cond.methodLink RX5 94 yX3_drop ∈ B0 := B0_t 656 (by decide +kernel) (by decide +kernel)
theorem q657 : Cond.methodLink RL 99 yL_change ∈ B0 := B0_t 657 (by decide +kernel) (by decide +kernel)
theorem q658 : Cond.static yL_change ∈ B0 := B0_t 658 (by decide +kernel) (by decide +kernel)
theorem q659 : Cond.codeWith yL_change cL_change 5 (some .int) [(0, 10, 13, 21), (0, 10, 17, 13)] ∈ B0 := B0_t 659 (by decide +kernel) (by decide +kernel)
theorem q660 : Cond.methodLink RL 27 yX5_change ∈ B0 := B0_t 660 (by decide +kernel) (by decide +kernel)
theorem q661 : Cond.instanceMethod yX5_change ∈ B0 := B0_t 661 (by decide +kernel) (by decide +kernel)
theorem q662 : Cond.selects RX5 yX5_change yX5_change ∈ B0 := B0_t 662 (by decide +kernel) (by decide +kernel)
theorem q663 : Cond.code yX5_change cX5_change 5 (some .int) ∈ B0 := B0_t 663 (by decide +kernel) (by decide +kernel)
theorem q665 : Cond.methodLink RX5 104 yX2_setValue ∈ B0 := B0_t 665 (by decide +kernel) (by decide +kernel)
theorem q666 : Cond.instanceMethod yX2_setValue ∈ B0 := B0_t 666 (by decide +kernel) (by decide +kernel)
theorem q667 : Cond.selects RX2 yX2_setValue yX2_setValue ∈ B0 := B0_t 667 (by decide +kernel) (by decide +kernel)
theorem q668 : Cond.code yX2_setValue cX2_setValue 3 none ∈ B0 := B0_t 668 (by decide +kernel) (by decide +kernel)
theorem q669 : Cond.methodLink RL 103 yL_restart ∈ B0 := B0_t 669 (by decide +kernel) (by decide +kernel)
theorem q670 : Cond.static yL_restart ∈ B0 := B0_t 670 (by decide +kernel) (by decide +kernel)
theorem q671 : Cond.codeWith yL_restart cL_restart 4 (some .int) [(0, 9, 12, 21)] ∈ B0 := B0_t 671 (by decide +kernel) (by decide +kernel)
theorem q672 : Cond.methodLink RL 31 yX5_restart ∈ B0 := B0_t 672 (by decide +kernel) (by decide +kernel)
theorem q673 : Cond.instanceMethod yX5_restart ∈ B0 := B0_t 673 (by decide +kernel) (by decide +kernel)
theorem q674 : Cond.selects RX5 yX5_restart yX5_restart ∈ B0 := B0_t 674 (by decide +kernel) (by decide +kernel)
theorem q675 : Cond.code yX5_restart cX5_restart 3 (some .int) ∈ B0 := B0_t 675 (by decide +kernel) (by decide +kernel)
theorem q676 : Cond.methodLink RX5 116 yX1_sendAhead ∈ B0 := B0_t 676 (by decide +kernel) (by decide +kernel)
theorem q677 : Cond.instanceMethod yX1_sendAhead ∈ B0 := B0_t 677 (by decide +kernel) (by decide +kernel)
theorem q678 : Cond.selects RX1 yX1_sendAhead yX1_sendAhead ∈ B0 := B0_t 678 (by decide +kernel) (by decide +kernel)
theorem q679 : Cond.code yX1_sendAhead cX1_sendAhead 2 none ∈ B0 := B0_t 679 (by decide +kernel) (by decide +kernel)
theorem q680 : Cond.methodLink RX1 65 yX1_send ∈ B0 := B0_t 680 (by decide +kernel) (by decide +kernel)
theorem q682 : Cond.instanceMethod yX1_send ∈ B0 := B0_t 682 (by decide +kernel) (by decide +kernel)
theorem q683 : Cond.code yX1_send cX1_send 4 none ∈ B0 := B0_t 683 (by decide +kernel) (by decide +kernel)
theorem q684 : Cond.methodLink RL 106 yL_goOn ∈ B0 := B0_t 684 (by decide +kernel) (by decide +kernel)
theorem q685 : Cond.static yL_goOn ∈ B0 := B0_t 685 (by decide +kernel) (by decide +kernel)
theorem q686 : Cond.codeWith yL_goOn cL_goOn 4 (some .int) [(0, 9, 12, 21)] ∈ B0 := B0_t 686 (by decide +kernel) (by decide +kernel)
theorem q687 : Cond.methodLink RL 34 yX5_goOn ∈ B0 := B0_t 687 (by decide +kernel) (by decide +kernel)
theorem q688 : Cond.instanceMethod yX5_goOn ∈ B0 := B0_t 688 (by decide +kernel) (by decide +kernel)
theorem q689 : Cond.selects RX5 yX5_goOn yX5_goOn ∈ B0 := B0_t 689 (by decide +kernel) (by decide +kernel)
theorem q690 : Cond.code yX5_goOn cX5_goOn 2 (some .int) ∈ B0 := B0_t 690 (by decide +kernel) (by decide +kernel)
theorem q691 : Cond.methodLink RX5 119 yX1_sendOn ∈ B0 := B0_t 691 (by decide +kernel) (by decide +kernel)
theorem q692 : Cond.instanceMethod yX1_sendOn ∈ B0 := B0_t 692 (by decide +kernel) (by decide +kernel)
theorem q693 : Cond.selects RX1 yX1_sendOn yX1_sendOn ∈ B0 := B0_t 693 (by decide +kernel) (by decide +kernel)
theorem q694 : Cond.code yX1_sendOn cX1_sendOn 3 none ∈ B0 := B0_t 694 (by decide +kernel) (by decide +kernel)
theorem q695 : Cond.methodLink RX1 69 yX1_nextThing ∈ B0 := B0_t 695 (by decide +kernel) (by decide +kernel)
theorem q697 : Cond.instanceMethod yX1_nextThing ∈ B0 := B0_t 697 (by decide +kernel) (by decide +kernel)
theorem q698 : Cond.code yX1_nextThing cX1_nextThing 3 (some .int) ∈ B0 := B0_t 698 (by decide +kernel) (by decide +kernel)
theorem q699 : Cond.methodLink RL 109 yL_take ∈ B0 := B0_t 699 (by decide +kernel) (by decide +kernel)
theorem q700 : Cond.static yL_take ∈ B0 := B0_t 700 (by decide +kernel) (by decide +kernel)
theorem q701 : Cond.codeWith yL_take cL_take 4 (some .int) [(0, 9, 12, 21), (0, 9, 15, 15)] ∈ B0 := B0_t 701 (by decide +kernel) (by decide +kernel)
theorem q702 : Cond.methodLink RL 37 yX5_take ∈ B0 := B0_t 702 (by decide +kernel) (by decide +kernel)
theorem q703 : Cond.instanceMethod yX5_take ∈ B0 := B0_t 703 (by decide +kernel) (by decide +kernel)
theorem q704 : Cond.selects RX5 yX5_take yX5_take ∈ B0 := B0_t 704 (by decide +kernel) (by decide +kernel)
theorem q705 : Cond.code yX5_take cX5_take 4 (some .int) ∈ B0 := B0_t 705 (by decide +kernel) (by decide +kernel)
theorem q707 : Cond.methodLink RL 120 yL_append ∈ B0 := B0_t 707 (by decide +kernel) (by decide +kernel)
theorem q708 : Cond.static yL_append ∈ B0 := B0_t 708 (by decide +kernel) (by decide +kernel)
theorem q709 : Cond.codeWith yL_append cL_append 4 (some .int) [(0, 9, 12, 13), (0, 9, 15, 15)] ∈ B0 := B0_t 709 (by decide +kernel) (by decide +kernel)
theorem q710 : Cond.methodLink RL 40 yX5_append ∈ B0 := B0_t 710 (by decide +kernel) (by decide +kernel)
theorem q711 : Cond.instanceMethod yX5_append ∈ B0 := B0_t 711 (by decide +kernel) (by decide +kernel)
theorem q712 : Cond.selects RX5 yX5_append yX5_append ∈ B0 := B0_t 712 (by decide +kernel) (by decide +kernel)
theorem q713 : Cond.code yX5_append cX5_append 2 (some .int) ∈ B0 := B0_t 713 (by decide +kernel) (by decide +kernel)
theorem q715 : Cond.methodLink RX5 136 yX4_isFull ∈ B0 := B0_t 715 (by decide +kernel) (by decide +kernel)
theorem q716 : Cond.instanceMethod yX4_isFull ∈ B0 := B0_t 716 (by decide +kernel) (by decide +kernel)
theorem q717 : Cond.selects RX4 yX4_isFull yX4_isFull ∈ B0 := B0_t 717 (by decide +kernel) (by decide +kernel)
theorem q718 : Cond.code yX4_isFull cX4_isFull 1 (some .boolean) ∈ B0 := B0_t 718 (by decide +kernel) (by decide +kernel)
theorem q720 : Cond.methodLink RX5 142 yX4_add ∈ B0 := B0_t 720 (by decide +kernel) (by decide +kernel)
theorem q721 : Cond.instanceMethod yX4_add ∈ B0 := B0_t 721 (by decide +kernel) (by decide +kernel)
theorem q722 : Cond.selects RX4 yX4_add yX4_add ∈ B0 := B0_t 722 (by decide +kernel) (by decide +kernel)
theorem q723 : Cond.code yX4_add cX4_add 2 none ∈ B0 := B0_t 723 (by decide +kernel) (by decide +kernel)
theorem q724 : Cond.methodLink RL 131 yL_putAll ∈ B0 := B0_t 724 (by decide +kernel) (by decide +kernel)
theorem q725 : Cond.static yL_putAll ∈ B0 := B0_t 725 (by decide +kernel) (by decide +kernel)
theorem q726 : Cond.codeWith yL_putAll cL_putAll 3 (some .int) [(0, 8, 11, 13)] ∈ B0 := B0_t 726 (by decide +kernel) (by decide +kernel)
theorem q727 : Cond.methodLink RL 43 yX5_putAll ∈ B0 := B0_t 727 (by decide +kernel) (by decide +kernel)
theorem q728 : Cond.instanceMethod yX5_putAll ∈ B0 := B0_t 728 (by decide +kernel) (by decide +kernel)
theorem q729 : Cond.selects RX5 yX5_putAll yX5_putAll ∈ B0 := B0_t 729 (by decide +kernel) (by decide +kernel)
theorem q730 : Cond.code yX5_putAll cX5_putAll 2 (some .int) ∈ B0 := B0_t 730 (by decide +kernel) (by decide +kernel)
theorem q731 : Cond.methodLink RX5 154 yX4_isComplete ∈ B0 := B0_t 731 (by decide +kernel) (by decide +kernel)
theorem q732 : Cond.instanceMethod yX4_isComplete ∈ B0 := B0_t 732 (by decide +kernel) (by decide +kernel)
theorem q733 : Cond.selects RX4 yX4_isComplete yX4_isComplete ∈ B0 := B0_t 733 (by decide +kernel) (by decide +kernel)
theorem q734 : Cond.code yX4_isComplete cX4_isComplete 3 (some .boolean) ∈ B0 := B0_t 734 (by decide +kernel) (by decide +kernel)
theorem q736 : Cond.methodLink RX5 159 yX5_putParts ∈ B0 := B0_t 736 (by decide +kernel) (by decide +kernel)
theorem q738 : Cond.instanceMethod yX5_putParts ∈ B0 := B0_t 738 (by decide +kernel) (by decide +kernel)
theorem q739 : Cond.code yX5_putParts cX5_putParts 9 (some .int) ∈ B0 := B0_t 739 (by decide +kernel) (by decide +kernel)
theorem q740 : Cond.methodLink RX5 320 yX4_indexOf ∈ B0 := B0_t 740 (by decide +kernel) (by decide +kernel)
theorem q741 : Cond.instanceMethod yX4_indexOf ∈ B0 := B0_t 741 (by decide +kernel) (by decide +kernel)
theorem q742 : Cond.selects RX4 yX4_indexOf yX4_indexOf ∈ B0 := B0_t 742 (by decide +kernel) (by decide +kernel)
theorem q743 : Cond.code yX4_indexOf cX4_indexOf 4 (some .int) ∈ B0 := B0_t 743 (by decide +kernel) (by decide +kernel)
theorem q744 : Cond.methodLink RX5 322 yX4_numberIn ∈ B0 := B0_t 744 (by decide +kernel) (by decide +kernel)
theorem q745 : Cond.instanceMethod yX4_numberIn ∈ B0 := B0_t 745 (by decide +kernel) (by decide +kernel)
theorem q746 : Cond.selects RX4 yX4_numberIn yX4_numberIn ∈ B0 := B0_t 746 (by decide +kernel) (by decide +kernel)
theorem q747 : Cond.code yX4_numberIn cX4_numberIn 5 (some .int) ∈ B0 := B0_t 747 (by decide +kernel) (by decide +kernel)
theorem q748 : Cond.methodLink RX5 325 yX5_kindOfSign ∈ B0 := B0_t 748 (by decide +kernel) (by decide +kernel)
theorem q749 : Cond.static yX5_kindOfSign ∈ B0 := B0_t 749 (by decide +kernel) (by decide +kernel)
theorem q750 : Cond.code yX5_kindOfSign cX5_kindOfSign 1 (some .int) ∈ B0 := B0_t 750 (by decide +kernel) (by decide +kernel)
theorem q751 : Cond.methodLink RL 135 yL_undo ∈ B0 := B0_t 751 (by decide +kernel) (by decide +kernel)
theorem q752 : Cond.static yL_undo ∈ B0 := B0_t 752 (by decide +kernel) (by decide +kernel)
theorem q753 : Cond.codeWith yL_undo cL_undo 3 (some .int) [(0, 8, 11, 15)] ∈ B0 := B0_t 753 (by decide +kernel) (by decide +kernel)
theorem q754 : Cond.methodLink RL 47 yX5_undo ∈ B0 := B0_t 754 (by decide +kernel) (by decide +kernel)
theorem q755 : Cond.instanceMethod yX5_undo ∈ B0 := B0_t 755 (by decide +kernel) (by decide +kernel)
theorem q756 : Cond.selects RX5 yX5_undo yX5_undo ∈ B0 := B0_t 756 (by decide +kernel) (by decide +kernel)
theorem q757 : Cond.code yX5_undo cX5_undo 1 (some .int) ∈ B0 := B0_t 757 (by decide +kernel) (by decide +kernel)
theorem q759 : Cond.methodLink RX5 165 yX0_bringBack ∈ B0 := B0_t 759 (by decide +kernel) (by decide +kernel)
theorem q760 : Cond.instanceMethod yX0_bringBack ∈ B0 := B0_t 760 (by decide +kernel) (by decide +kernel)
theorem q761 : Cond.selects RX0 yX0_bringBack yX0_bringBack ∈ B0 := B0_t 761 (by decide +kernel) (by decide +kernel)
theorem q762 : Cond.code yX0_bringBack cX0_bringBack 3 none ∈ B0 := B0_t 762 (by decide +kernel) (by decide +kernel)
theorem q763 : Cond.methodLink RL 142 yL_thing ∈ B0 := B0_t 763 (by decide +kernel) (by decide +kernel)
theorem q764 : Cond.static yL_thing ∈ B0 := B0_t 764 (by decide +kernel) (by decide +kernel)
theorem q765 : Cond.codeWith yL_thing cL_thing 5 (some .int) [(0, 10, 13, 21), (0, 10, 17, 13)] ∈ B0 := B0_t 765 (by decide +kernel) (by decide +kernel)
theorem q766 : Cond.methodLink RL 50 yX5_thing ∈ B0 := B0_t 766 (by decide +kernel) (by decide +kernel)
theorem q767 : Cond.methodLink RL 145 yL_at ∈ B0 := B0_t 767 (by decide +kernel) (by decide +kernel)
theorem q768 : Cond.static yL_at ∈ B0 := B0_t 768 (by decide +kernel) (by decide +kernel)
theorem q769 : Cond.codeWith yL_at cL_at 4 (some .int) [(0, 9, 12, 13)] ∈ B0 := B0_t 769 (by decide +kernel) (by decide +kernel)
theorem q770 : Cond.methodLink RL 53 yX5_at ∈ B0 := B0_t 770 (by decide +kernel) (by decide +kernel)
theorem q771 : Cond.methodLink RL 148 yL_cell ∈ B0 := B0_t 771 (by decide +kernel) (by decide +kernel)
theorem q772 : Cond.static yL_cell ∈ B0 := B0_t 772 (by decide +kernel) (by decide +kernel)
theorem q773 : Cond.codeWith yL_cell cL_cell 5 (some .int) [(0, 10, 13, 21), (0, 10, 17, 13)] ∈ B0 := B0_t 773 (by decide +kernel) (by decide +kernel)
theorem q774 : Cond.methodLink RL 56 yX5_cell ∈ B0 := B0_t 774 (by decide +kernel) (by decide +kernel)
theorem q775 : Cond.methodLink RL 151 yL_walker ∈ B0 := B0_t 775 (by decide +kernel) (by decide +kernel)
theorem q776 : Cond.static yL_walker ∈ B0 := B0_t 776 (by decide +kernel) (by decide +kernel)
theorem q777 : Cond.codeWith yL_walker cL_walker 5 (some .int) [(0, 10, 13, 21), (0, 10, 17, 13)] ∈ B0 := B0_t 777 (by decide +kernel) (by decide +kernel)
theorem q778 : Cond.methodLink RL 59 yX5_walker ∈ B0 := B0_t 778 (by decide +kernel) (by decide +kernel)
theorem q779 : Cond.methodLink RL 154 yL_count ∈ B0 := B0_t 779 (by decide +kernel) (by decide +kernel)
theorem q780 : Cond.static yL_count ∈ B0 := B0_t 780 (by decide +kernel) (by decide +kernel)
theorem q781 : Cond.codeWith yL_count cL_count 4 (some .int) [(0, 9, 12, 13)] ∈ B0 := B0_t 781 (by decide +kernel) (by decide +kernel)
theorem q782 : Cond.methodLink RL 62 yX5_count ∈ B0 := B0_t 782 (by decide +kernel) (by decide +kernel)
theorem q783 : Cond.methodLink RL 157 yL_begins ∈ B0 := B0_t 783 (by decide +kernel) (by decide +kernel)
theorem q784 : Cond.static yL_begins ∈ B0 := B0_t 784 (by decide +kernel) (by decide +kernel)
theorem q785 : Cond.codeWith yL_begins cL_begins 4 (some .int) [(0, 9, 12, 13)] ∈ B0 := B0_t 785 (by decide +kernel) (by decide +kernel)
theorem q786 : Cond.methodLink RL 65 yX5_begins ∈ B0 := B0_t 786 (by decide +kernel) (by decide +kernel)
theorem q787 : Cond.methodLink RL 160 yL_gap ∈ B0 := B0_t 787 (by decide +kernel) (by decide +kernel)
theorem q788 : Cond.static yL_gap ∈ B0 := B0_t 788 (by decide +kernel) (by decide +kernel)
theorem q789 : Cond.codeWith yL_gap cL_gap 4 (some .int) [(0, 9, 12, 13)] ∈ B0 := B0_t 789 (by decide +kernel) (by decide +kernel)
theorem q790 : Cond.methodLink RL 68 yX5_gap ∈ B0 := B0_t 790 (by decide +kernel) (by decide +kernel)
theorem q791 : Cond.methodLink RL 163 yL_ifFired ∈ B0 := B0_t 791 (by decide +kernel) (by decide +kernel)
theorem q792 : Cond.static yL_ifFired ∈ B0 := B0_t 792 (by decide +kernel) (by decide +kernel)
theorem q793 : Cond.codeWith yL_ifFired cL_ifFired 5 (some .int) [(0, 10, 13, 13)] ∈ B0 := B0_t 793 (by decide +kernel) (by decide +kernel)
theorem q794 : Cond.methodLink RL 71 yX5_ifFired ∈ B0 := B0_t 794 (by decide +kernel) (by decide +kernel)
theorem q795 : Cond.instanceMethod yX5_ifFired ∈ B0 := B0_t 795 (by decide +kernel) (by decide +kernel)
theorem q796 : Cond.selects RX5 yX5_ifFired yX5_ifFired ∈ B0 := B0_t 796 (by decide +kernel) (by decide +kernel)
theorem q797 : Cond.code yX5_ifFired cX5_ifFired 4 (some .int) ∈ B0 := B0_t 797 (by decide +kernel) (by decide +kernel)
theorem q799 : Cond.methodLink RL 166 yL_room ∈ B0 := B0_t 799 (by decide +kernel) (by decide +kernel)
theorem q800 : Cond.static yL_room ∈ B0 := B0_t 800 (by decide +kernel) (by decide +kernel)
theorem q801 : Cond.codeWith yL_room cL_room 5 (some .int) [(0, 10, 13, 13)] ∈ B0 := B0_t 801 (by decide +kernel) (by decide +kernel)
theorem q802 : Cond.methodLink RL 74 yX5_room ∈ B0 := B0_t 802 (by decide +kernel) (by decide +kernel)
theorem q803 : Cond.classLink RL 79 RX6 ∈ B0 := B0_t 803 (by decide +kernel) (by decide +kernel)
theorem q804 : Cond.instantiable RX6 11 ∈ B0 := B0_t 804 (by decide +kernel) (by decide +kernel)
theorem q805 : Cond.methodLink RL 81 yX6_init ∈ B0 := B0_t 805 (by decide +kernel) (by decide +kernel)
theorem q806 : Cond.instanceMethod yX6_init ∈ B0 := B0_t 806 (by decide +kernel) (by decide +kernel)
theorem q807 : Cond.code yX6_init cX6_init 2 none ∈ B0 := B0_t 807 (by decide +kernel) (by decide +kernel)
theorem q808 : Cond.methodLink RX6 1 ⟨"java/lang/Object", "<init>", "()V"⟩ ∈ B0 := B0_t 808 (by decide +kernel) (by decide +kernel)
theorem q809 : Cond.fieldLink RX6 25 RX6 "thrown" "I" ∈ B0 := B0_t 809 (by decide +kernel) (by decide +kernel)
theorem q810 : Cond.fieldLink RX6 7 RX6 "now" "[I" ∈ B0 := B0_t 810 (by decide +kernel) (by decide +kernel)
theorem q811 : Cond.fieldLink RX6 13 RX6 "then" "[I" ∈ B0 := B0_t 811 (by decide +kernel) (by decide +kernel)
theorem q812 : Cond.fieldLink RX6 16 RX6 "past" "[I" ∈ B0 := B0_t 812 (by decide +kernel) (by decide +kernel)
theorem q813 : Cond.fieldLink RX6 29 RX6 "states" "I" ∈ B0 := B0_t 813 (by decide +kernel) (by decide +kernel)
theorem q814 : Cond.fieldLink RX6 19 RX6 "buffer" "[I" ∈ B0 := B0_t 814 (by decide +kernel) (by decide +kernel)
theorem q815 : Cond.fieldLink RX6 124 RX6 "length" "I" ∈ B0 := B0_t 815 (by decide +kernel) (by decide +kernel)
theorem q816 : Cond.fieldLink RX6 127 RX6 "spot" "I" ∈ B0 := B0_t 816 (by decide +kernel) (by decide +kernel)
theorem q817 : Cond.fieldLink RX6 22 RX6 "told" "[I" ∈ B0 := B0_t 817 (by decide +kernel) (by decide +kernel)
theorem q818 : Cond.fieldLink RX6 134 RX6 "toldMany" "I" ∈ B0 := B0_t 818 (by decide +kernel) (by decide +kernel)
theorem q819 : Cond.fieldLink RX6 195 RX6 "hash" "J" ∈ B0 := B0_t 819 (by decide +kernel) (by decide +kernel)
theorem q843 : Cond.methodLink RL 88 yX6_thrown ∈ B0 := B0_t 843 (by decide +kernel) (by decide +kernel)
theorem q844 : Cond.instanceMethod yX6_thrown ∈ B0 := B0_t 844 (by decide +kernel) (by decide +kernel)
theorem q845 : Cond.selects RX6 yX6_thrown yX6_thrown ∈ B0 := B0_t 845 (by decide +kernel) (by decide +kernel)
theorem q846 : Cond.code yX6_thrown cX6_thrown 1 (some .int) ∈ B0 := B0_t 846 (by decide +kernel) (by decide +kernel)
theorem q847 : Cond.methodLink RL 87 yX6_put ∈ B0 := B0_t 847 (by decide +kernel) (by decide +kernel)
theorem q848 : Cond.instanceMethod yX6_put ∈ B0 := B0_t 848 (by decide +kernel) (by decide +kernel)
theorem q849 : Cond.selects RX6 yX6_put yX6_put ∈ B0 := B0_t 849 (by decide +kernel) (by decide +kernel)
theorem q850 : Cond.code yX6_put cX6_put 6 (some .int) ∈ B0 := B0_t 850 (by decide +kernel) (by decide +kernel)
theorem q851 : Cond.methodLink RX6 71 yX6_isNew ∈ B0 := B0_t 851 (by decide +kernel) (by decide +kernel)
theorem q852 : Cond.static yX6_isNew ∈ B0 := B0_t 852 (by decide +kernel) (by decide +kernel)
theorem q853 : Cond.code yX6_isNew cX6_isNew 3 (some .boolean) ∈ B0 := B0_t 853 (by decide +kernel) (by decide +kernel)
theorem q854 : Cond.methodLink RX6 44 yX6_in ∈ B0 := B0_t 854 (by decide +kernel) (by decide +kernel)
theorem q855 : Cond.static yX6_in ∈ B0 := B0_t 855 (by decide +kernel) (by decide +kernel)
theorem q856 : Cond.code yX6_in cX6_in 3 (some .boolean) ∈ B0 := B0_t 856 (by decide +kernel) (by decide +kernel)
theorem q857 : Cond.methodLink RX6 58 yX6_cellsFor ∈ B0 := B0_t 857 (by decide +kernel) (by decide +kernel)
theorem q858 : Cond.static yX6_cellsFor ∈ B0 := B0_t 858 (by decide +kernel) (by decide +kernel)
theorem q859 : Cond.code yX6_cellsFor cX6_cellsFor 3 (some .int) ∈ B0 := B0_t 859 (by decide +kernel) (by decide +kernel)
theorem q860 : Cond.methodLink RX6 55 yX6_roomIn ∈ B0 := B0_t 860 (by decide +kernel) (by decide +kernel)
theorem q861 : Cond.static yX6_roomIn ∈ B0 := B0_t 861 (by decide +kernel) (by decide +kernel)
theorem q862 : Cond.code yX6_roomIn cX6_roomIn 4 (some .int) ∈ B0 := B0_t 862 (by decide +kernel) (by decide +kernel)
theorem q863 : Cond.methodLink RX6 52 yX6_freeFrom ∈ B0 := B0_t 863 (by decide +kernel) (by decide +kernel)
theorem q864 : Cond.static yX6_freeFrom ∈ B0 := B0_t 864 (by decide +kernel) (by decide +kernel)
theorem q865 : Cond.code yX6_freeFrom cX6_freeFrom 4 (some .int) ∈ B0 := B0_t 865 (by decide +kernel) (by decide +kernel)
theorem q866 : Cond.methodLink RX6 48 yX6_entryOf ∈ B0 := B0_t 866 (by decide +kernel) (by decide +kernel)
theorem q867 : Cond.static yX6_entryOf ∈ B0 := B0_t 867 (by decide +kernel) (by decide +kernel)
theorem q868 : Cond.code yX6_entryOf cX6_entryOf 3 (some .int) ∈ B0 := B0_t 868 (by decide +kernel) (by decide +kernel)
theorem q869 : Cond.methodLink RX6 40 yX6_isThing ∈ B0 := B0_t 869 (by decide +kernel) (by decide +kernel)
theorem q870 : Cond.static yX6_isThing ∈ B0 := B0_t 870 (by decide +kernel) (by decide +kernel)
theorem q871 : Cond.code yX6_isThing cX6_isThing 2 (some .boolean) ∈ B0 := B0_t 871 (by decide +kernel) (by decide +kernel)
theorem q872 : Cond.methodLink RX6 36 yX6_of ∈ B0 := B0_t 872 (by decide +kernel) (by decide +kernel)
theorem q873 : Cond.static yX6_of ∈ B0 := B0_t 873 (by decide +kernel) (by decide +kernel)
theorem q874 : Cond.code yX6_of cX6_of 3 (some .int) ∈ B0 := B0_t 874 (by decide +kernel) (by decide +kernel)
theorem q875 : Cond.methodLink RX6 74 yX6_refuses ∈ B0 := B0_t 875 (by decide +kernel) (by decide +kernel)
theorem q877 : Cond.instanceMethod yX6_refuses ∈ B0 := B0_t 877 (by decide +kernel) (by decide +kernel)
theorem q878 : Cond.code yX6_refuses cX6_refuses 2 (some .boolean) ∈ B0 := B0_t 878 (by decide +kernel) (by decide +kernel)
theorem q879 : Cond.methodLink RX6 78 yX6_saves ∈ B0 := B0_t 879 (by decide +kernel) (by decide +kernel)
theorem q881 : Cond.instanceMethod yX6_saves ∈ B0 := B0_t 881 (by decide +kernel) (by decide +kernel)
theorem q882 : Cond.code yX6_saves cX6_saves 2 none ∈ B0 := B0_t 882 (by decide +kernel) (by decide +kernel)
theorem q883 : Cond.methodLink RX6 32 yX6_lays ∈ B0 := B0_t 883 (by decide +kernel) (by decide +kernel)
theorem q884 : Cond.static yX6_lays ∈ B0 := B0_t 884 (by decide +kernel) (by decide +kernel)
theorem q885 : Cond.code yX6_lays cX6_lays 5 none ∈ B0 := B0_t 885 (by decide +kernel) (by decide +kernel)
theorem q886 : Cond.methodLink RX6 81 yX6_comes ∈ B0 := B0_t 886 (by decide +kernel) (by decide +kernel)
theorem q887 : Cond.static yX6_comes ∈ B0 := B0_t 887 (by decide +kernel) (by decide +kernel)
theorem q888 : Cond.code yX6_comes cX6_comes 9 (some .int) ∈ B0 := B0_t 888 (by decide +kernel) (by decide +kernel)
theorem q889 : Cond.methodLink RL 94 yX6_putBehind ∈ B0 := B0_t 889 (by decide +kernel) (by decide +kernel)
theorem q890 : Cond.instanceMethod yX6_putBehind ∈ B0 := B0_t 890 (by decide +kernel) (by decide +kernel)
theorem q891 : Cond.selects RX6 yX6_putBehind yX6_putBehind ∈ B0 := B0_t 891 (by decide +kernel) (by decide +kernel)
theorem q892 : Cond.code yX6_putBehind cX6_putBehind 6 (some .int) ∈ B0 := B0_t 892 (by decide +kernel) (by decide +kernel)
theorem q893 : Cond.methodLink RX6 85 yX6_whyNot ∈ B0 := B0_t 893 (by decide +kernel) (by decide +kernel)
theorem q894 : Cond.static yX6_whyNot ∈ B0 := B0_t 894 (by decide +kernel) (by decide +kernel)
theorem q895 : Cond.code yX6_whyNot cX6_whyNot 4 (some .int) ∈ B0 := B0_t 895 (by decide +kernel) (by decide +kernel)
theorem q896 : Cond.methodLink RL 98 yX6_remove ∈ B0 := B0_t 896 (by decide +kernel) (by decide +kernel)
theorem q897 : Cond.instanceMethod yX6_remove ∈ B0 := B0_t 897 (by decide +kernel) (by decide +kernel)
theorem q898 : Cond.selects RX6 yX6_remove yX6_remove ∈ B0 := B0_t 898 (by decide +kernel) (by decide +kernel)
theorem q899 : Cond.code yX6_remove cX6_remove 4 (some .int) ∈ B0 := B0_t 899 (by decide +kernel) (by decide +kernel)
theorem q900 : Cond.methodLink RX6 88 yX6_removes ∈ B0 := B0_t 900 (by decide +kernel) (by decide +kernel)
theorem q901 : Cond.static yX6_removes ∈ B0 := B0_t 901 (by decide +kernel) (by decide +kernel)
theorem q902 : Cond.code yX6_removes cX6_removes 3 (some .boolean) ∈ B0 := B0_t 902 (by decide +kernel) (by decide +kernel)
theorem q903 : Cond.methodLink RX6 61 yX6_leaves ∈ B0 := B0_t 903 (by decide +kernel) (by decide +kernel)
theorem q904 : Cond.static yX6_leaves ∈ B0 := B0_t 904 (by decide +kernel) (by decide +kernel)
theorem q905 : Cond.code yX6_leaves cX6_leaves 2 none ∈ B0 := B0_t 905 (by decide +kernel) (by decide +kernel)
theorem q906 : Cond.methodLink RX6 65 yX6_standing ∈ B0 := B0_t 906 (by decide +kernel) (by decide +kernel)
theorem q907 : Cond.static yX6_standing ∈ B0 := B0_t 907 (by decide +kernel) (by decide +kernel)
theorem q908 : Cond.code yX6_standing cX6_standing 4 (some .int) ∈ B0 := B0_t 908 (by decide +kernel) (by decide +kernel)
theorem q909 : Cond.methodLink RX6 68 yX6_drops ∈ B0 := B0_t 909 (by decide +kernel) (by decide +kernel)
theorem q910 : Cond.static yX6_drops ∈ B0 := B0_t 910 (by decide +kernel) (by decide +kernel)
theorem q911 : Cond.code yX6_drops cX6_drops 3 none ∈ B0 := B0_t 911 (by decide +kernel) (by decide +kernel)
theorem q912 : Cond.methodLink RL 102 yX6_change ∈ B0 := B0_t 912 (by decide +kernel) (by decide +kernel)
theorem q913 : Cond.instanceMethod yX6_change ∈ B0 := B0_t 913 (by decide +kernel) (by decide +kernel)
theorem q914 : Cond.selects RX6 yX6_change yX6_change ∈ B0 := B0_t 914 (by decide +kernel) (by decide +kernel)
theorem q915 : Cond.code yX6_change cX6_change 5 (some .int) ∈ B0 := B0_t 915 (by decide +kernel) (by decide +kernel)
theorem q916 : Cond.methodLink RL 105 yX6_restart ∈ B0 := B0_t 916 (by decide +kernel) (by decide +kernel)
theorem q917 : Cond.instanceMethod yX6_restart ∈ B0 := B0_t 917 (by decide +kernel) (by decide +kernel)
theorem q918 : Cond.selects RX6 yX6_restart yX6_restart ∈ B0 := B0_t 918 (by decide +kernel) (by decide +kernel)
theorem q919 : Cond.code yX6_restart cX6_restart 3 (some .int) ∈ B0 := B0_t 919 (by decide +kernel) (by decide +kernel)
theorem q920 : Cond.methodLink RX6 91 yX6_isWalker ∈ B0 := B0_t 920 (by decide +kernel) (by decide +kernel)
theorem q921 : Cond.static yX6_isWalker ∈ B0 := B0_t 921 (by decide +kernel) (by decide +kernel)
theorem q922 : Cond.code yX6_isWalker cX6_isWalker 1 (some .boolean) ∈ B0 := B0_t 922 (by decide +kernel) (by decide +kernel)
theorem q923 : Cond.methodLink RX6 94 yX6_stands ∈ B0 := B0_t 923 (by decide +kernel) (by decide +kernel)
theorem q924 : Cond.static yX6_stands ∈ B0 := B0_t 924 (by decide +kernel) (by decide +kernel)
theorem q925 : Cond.code yX6_stands cX6_stands 3 (some .int) ∈ B0 := B0_t 925 (by decide +kernel) (by decide +kernel)
theorem q926 : Cond.methodLink RX6 97 yX6_walks ∈ B0 := B0_t 926 (by decide +kernel) (by decide +kernel)
theorem q927 : Cond.static yX6_walks ∈ B0 := B0_t 927 (by decide +kernel) (by decide +kernel)
theorem q928 : Cond.code yX6_walks cX6_walks 4 none ∈ B0 := B0_t 928 (by decide +kernel) (by decide +kernel)
theorem q929 : Cond.methodLink RL 108 yX6_goOn ∈ B0 := B0_t 929 (by decide +kernel) (by decide +kernel)
theorem q930 : Cond.instanceMethod yX6_goOn ∈ B0 := B0_t 930 (by decide +kernel) (by decide +kernel)
theorem q931 : Cond.selects RX6 yX6_goOn yX6_goOn ∈ B0 := B0_t 931 (by decide +kernel) (by decide +kernel)
theorem q932 : Cond.code yX6_goOn cX6_goOn 2 (some .int) ∈ B0 := B0_t 932 (by decide +kernel) (by decide +kernel)
theorem q933 : Cond.methodLink RX6 104 yX6_nextThing ∈ B0 := B0_t 933 (by decide +kernel) (by decide +kernel)
theorem q934 : Cond.static yX6_nextThing ∈ B0 := B0_t 934 (by decide +kernel) (by decide +kernel)
theorem q935 : Cond.code yX6_nextThing cX6_nextThing 3 (some .int) ∈ B0 := B0_t 935 (by decide +kernel) (by decide +kernel)
theorem q936 : Cond.methodLink RX6 107 yX6_underHandle ∈ B0 := B0_t 936 (by decide +kernel) (by decide +kernel)
theorem q938 : Cond.instanceMethod yX6_underHandle ∈ B0 := B0_t 938 (by decide +kernel) (by decide +kernel)
theorem q939 : Cond.code yX6_underHandle cX6_underHandle 2 (some .int) ∈ B0 := B0_t 939 (by decide +kernel) (by decide +kernel)
theorem q940 : Cond.methodLink RX6 101 yX6_handleOf ∈ B0 := B0_t 940 (by decide +kernel) (by decide +kernel)
theorem q941 : Cond.static yX6_handleOf ∈ B0 := B0_t 941 (by decide +kernel) (by decide +kernel)
theorem q942 : Cond.code yX6_handleOf cX6_handleOf 2 (some .int) ∈ B0 := B0_t 942 (by decide +kernel) (by decide +kernel)
theorem q943 : Cond.methodLink RL 111 yX6_take ∈ B0 := B0_t 943 (by decide +kernel) (by decide +kernel)
theorem q944 : Cond.instanceMethod yX6_take ∈ B0 := B0_t 944 (by decide +kernel) (by decide +kernel)
theorem q945 : Cond.selects RX6 yX6_take yX6_take ∈ B0 := B0_t 945 (by decide +kernel) (by decide +kernel)
theorem q946 : Cond.code yX6_take cX6_take 4 (some .int) ∈ B0 := B0_t 946 (by decide +kernel) (by decide +kernel)
theorem q947 : Cond.methodLink RL 115 yX6_fire ∈ B0 := B0_t 947 (by decide +kernel) (by decide +kernel)
theorem q948 : Cond.instanceMethod yX6_fire ∈ B0 := B0_t 948 (by decide +kernel) (by decide +kernel)
theorem q949 : Cond.selects RX6 yX6_fire yX6_fire ∈ B0 := B0_t 949 (by decide +kernel) (by decide +kernel)
theorem q950 : Cond.code yX6_fire cX6_fire 1 (some .int) ∈ B0 := B0_t 950 (by decide +kernel) (by decide +kernel)
theorem q951 : Cond.methodLink RX6 118 yX6_fires ∈ B0 := B0_t 951 (by decide +kernel) (by decide +kernel)
theorem q952 : Cond.static yX6_fires ∈ B0 := B0_t 952 (by decide +kernel) (by decide +kernel)
theorem q953 : Cond.code yX6_fires cX6_fires 4 (some .int) ∈ B0 := B0_t 953 (by decide +kernel) (by decide +kernel)
theorem q954 : Cond.methodLink RX6 111 yX6_things ∈ B0 := B0_t 954 (by decide +kernel) (by decide +kernel)
theorem q955 : Cond.static yX6_things ∈ B0 := B0_t 955 (by decide +kernel) (by decide +kernel)
theorem q956 : Cond.code yX6_things cX6_things 3 (some .int) ∈ B0 := B0_t 956 (by decide +kernel) (by decide +kernel)
theorem q957 : Cond.methodLink RX6 115 yX6_firesOne ∈ B0 := B0_t 957 (by decide +kernel) (by decide +kernel)
theorem q958 : Cond.static yX6_firesOne ∈ B0 := B0_t 958 (by decide +kernel) (by decide +kernel)
theorem q959 : Cond.code yX6_firesOne cX6_firesOne 3 (some .int) ∈ B0 := B0_t 959 (by decide +kernel) (by decide +kernel)
theorem q960 : Cond.methodLink RL 119 yX6_together ∈ B0 := B0_t 960 (by decide +kernel) (by decide +kernel)
theorem q961 : Cond.instanceMethod yX6_together ∈ B0 := B0_t 961 (by decide +kernel) (by decide +kernel)
theorem q962 : Cond.selects RX6 yX6_together yX6_together ∈ B0 := B0_t 962 (by decide +kernel) (by decide +kernel)
theorem q963 : Cond.code yX6_together cX6_together 5 (some .int) ∈ B0 := B0_t 963 (by decide +kernel) (by decide +kernel)
theorem q964 : Cond.methodLink RX6 121 yX6_lowestFrom ∈ B0 := B0_t 964 (by decide +kernel) (by decide +kernel)
theorem q965 : Cond.static yX6_lowestFrom ∈ B0 := B0_t 965 (by decide +kernel) (by decide +kernel)
theorem q966 : Cond.code yX6_lowestFrom cX6_lowestFrom 5 (some .int) ∈ B0 := B0_t 966 (by decide +kernel) (by decide +kernel)
theorem q967 : Cond.methodLink RL 122 yX6_append ∈ B0 := B0_t 967 (by decide +kernel) (by decide +kernel)
theorem q968 : Cond.instanceMethod yX6_append ∈ B0 := B0_t 968 (by decide +kernel) (by decide +kernel)
theorem q969 : Cond.selects RX6 yX6_append yX6_append ∈ B0 := B0_t 969 (by decide +kernel) (by decide +kernel)
theorem q970 : Cond.code yX6_append cX6_append 2 (some .int) ∈ B0 := B0_t 970 (by decide +kernel) (by decide +kernel)
theorem q971 : Cond.methodLink RL 126 yX6_clearBuffer ∈ B0 := B0_t 971 (by decide +kernel) (by decide +kernel)
theorem q972 : Cond.instanceMethod yX6_clearBuffer ∈ B0 := B0_t 972 (by decide +kernel) (by decide +kernel)
theorem q973 : Cond.selects RX6 yX6_clearBuffer yX6_clearBuffer ∈ B0 := B0_t 973 (by decide +kernel) (by decide +kernel)
theorem q974 : Cond.code yX6_clearBuffer cX6_clearBuffer 2 (some .int) ∈ B0 := B0_t 974 (by decide +kernel) (by decide +kernel)
theorem q975 : Cond.methodLink RL 130 yX6_firstError ∈ B0 := B0_t 975 (by decide +kernel) (by decide +kernel)
theorem q976 : Cond.instanceMethod yX6_firstError ∈ B0 := B0_t 976 (by decide +kernel) (by decide +kernel)
theorem q977 : Cond.selects RX6 yX6_firstError yX6_firstError ∈ B0 := B0_t 977 (by decide +kernel) (by decide +kernel)
theorem q978 : Cond.code yX6_firstError cX6_firstError 1 (some .int) ∈ B0 := B0_t 978 (by decide +kernel) (by decide +kernel)
theorem q979 : Cond.methodLink RX6 147 yX6_isText ∈ B0 := B0_t 979 (by decide +kernel) (by decide +kernel)
theorem q981 : Cond.instanceMethod yX6_isText ∈ B0 := B0_t 981 (by decide +kernel) (by decide +kernel)
theorem q982 : Cond.code yX6_isText cX6_isText 2 (some .boolean) ∈ B0 := B0_t 982 (by decide +kernel) (by decide +kernel)
theorem q983 : Cond.methodLink RX6 143 yX6_isThingTold ∈ B0 := B0_t 983 (by decide +kernel) (by decide +kernel)
theorem q985 : Cond.instanceMethod yX6_isThingTold ∈ B0 := B0_t 985 (by decide +kernel) (by decide +kernel)
theorem q986 : Cond.code yX6_isThingTold cX6_isThingTold 1 (some .boolean) ∈ B0 := B0_t 986 (by decide +kernel) (by decide +kernel)
theorem q987 : Cond.methodLink RX6 137 yX6_isNumber ∈ B0 := B0_t 987 (by decide +kernel) (by decide +kernel)
theorem q989 : Cond.instanceMethod yX6_isNumber ∈ B0 := B0_t 989 (by decide +kernel) (by decide +kernel)
theorem q990 : Cond.code yX6_isNumber cX6_isNumber 5 (some .boolean) ∈ B0 := B0_t 990 (by decide +kernel) (by decide +kernel)
theorem q991 : Cond.methodLink RX6 130 yX6_sees ∈ B0 := B0_t 991 (by decide +kernel) (by decide +kernel)
theorem q993 : Cond.instanceMethod yX6_sees ∈ B0 := B0_t 993 (by decide +kernel) (by decide +kernel)
theorem q994 : Cond.code yX6_sees cX6_sees 3 (some .boolean) ∈ B0 := B0_t 994 (by decide +kernel) (by decide +kernel)
theorem q995 : Cond.methodLink RX6 140 yX6_takes ∈ B0 := B0_t 995 (by decide +kernel) (by decide +kernel)
theorem q997 : Cond.instanceMethod yX6_takes ∈ B0 := B0_t 997 (by decide +kernel) (by decide +kernel)
theorem q998 : Cond.code yX6_takes cX6_takes 3 (some .boolean) ∈ B0 := B0_t 998 (by decide +kernel) (by decide +kernel)
theorem q999 : Cond.methodLink RL 134 yX6_putAll ∈ B0 := B0_t 999 (by decide +kernel) (by decide +kernel)
theorem q1000 : Cond.instanceMethod yX6_putAll ∈ B0 := B0_t 1000 (by decide +kernel) (by decide +kernel)
theorem q1001 : Cond.selects RX6 yX6_putAll yX6_putAll ∈ B0 := B0_t 1001 (by decide +kernel) (by decide +kernel)
theorem q1002 : Cond.code yX6_putAll cX6_putAll 3 (some .int) ∈ B0 := B0_t 1002 (by decide +kernel) (by decide +kernel)
theorem q1003 : Cond.methodLink RL 137 yX6_undo ∈ B0 := B0_t 1003 (by decide +kernel) (by decide +kernel)
theorem q1004 : Cond.instanceMethod yX6_undo ∈ B0 := B0_t 1004 (by decide +kernel) (by decide +kernel)
theorem q1005 : Cond.selects RX6 yX6_undo yX6_undo ∈ B0 := B0_t 1005 (by decide +kernel) (by decide +kernel)
theorem q1006 : Cond.code yX6_undo cX6_undo 1 (some .int) ∈ B0 := B0_t 1006 (by decide +kernel) (by decide +kernel)
theorem q1007 : Cond.methodLink RL 141 yX6_refusal ∈ B0 := B0_t 1007 (by decide +kernel) (by decide +kernel)
theorem q1008 : Cond.instanceMethod yX6_refusal ∈ B0 := B0_t 1008 (by decide +kernel) (by decide +kernel)
theorem q1009 : Cond.selects RX6 yX6_refusal yX6_refusal ∈ B0 := B0_t 1009 (by decide +kernel) (by decide +kernel)
theorem q1010 : Cond.code yX6_refusal cX6_refusal 2 (some .int) ∈ B0 := B0_t 1010 (by decide +kernel) (by decide +kernel)
theorem q1011 : Cond.methodLink RL 144 yX6_thing ∈ B0 := B0_t 1011 (by decide +kernel) (by decide +kernel)
theorem q1012 : Cond.instanceMethod yX6_thing ∈ B0 := B0_t 1012 (by decide +kernel) (by decide +kernel)
theorem q1013 : Cond.selects RX6 yX6_thing yX6_thing ∈ B0 := B0_t 1013 (by decide +kernel) (by decide +kernel)
theorem q1014 : Cond.code yX6_thing cX6_thing 3 (some .int) ∈ B0 := B0_t 1014 (by decide +kernel) (by decide +kernel)
theorem q1015 : Cond.methodLink RX6 153 yX6_ofThing ∈ B0 := B0_t 1015 (by decide +kernel) (by decide +kernel)
theorem q1017 : Cond.instanceMethod yX6_ofThing ∈ B0 := B0_t 1017 (by decide +kernel) (by decide +kernel)
theorem q1018 : Cond.code yX6_ofThing cX6_ofThing 3 (some .int) ∈ B0 := B0_t 1018 (by decide +kernel) (by decide +kernel)
theorem q1019 : Cond.methodLink RX6 150 yX6_placeOf ∈ B0 := B0_t 1019 (by decide +kernel) (by decide +kernel)
theorem q1021 : Cond.instanceMethod yX6_placeOf ∈ B0 := B0_t 1021 (by decide +kernel) (by decide +kernel)
theorem q1022 : Cond.code yX6_placeOf cX6_placeOf 4 (some .int) ∈ B0 := B0_t 1022 (by decide +kernel) (by decide +kernel)
theorem q1023 : Cond.methodLink RL 147 yX6_at ∈ B0 := B0_t 1023 (by decide +kernel) (by decide +kernel)
theorem q1024 : Cond.instanceMethod yX6_at ∈ B0 := B0_t 1024 (by decide +kernel) (by decide +kernel)
theorem q1025 : Cond.selects RX6 yX6_at yX6_at ∈ B0 := B0_t 1025 (by decide +kernel) (by decide +kernel)
theorem q1026 : Cond.code yX6_at cX6_at 3 (some .int) ∈ B0 := B0_t 1026 (by decide +kernel) (by decide +kernel)
theorem q1027 : Cond.methodLink RL 150 yX6_cell ∈ B0 := B0_t 1027 (by decide +kernel) (by decide +kernel)
theorem q1028 : Cond.instanceMethod yX6_cell ∈ B0 := B0_t 1028 (by decide +kernel) (by decide +kernel)
theorem q1029 : Cond.selects RX6 yX6_cell yX6_cell ∈ B0 := B0_t 1029 (by decide +kernel) (by decide +kernel)
theorem q1030 : Cond.code yX6_cell cX6_cell 3 (some .int) ∈ B0 := B0_t 1030 (by decide +kernel) (by decide +kernel)
theorem q1031 : Cond.methodLink RX6 157 yX6_ofCell ∈ B0 := B0_t 1031 (by decide +kernel) (by decide +kernel)
theorem q1033 : Cond.instanceMethod yX6_ofCell ∈ B0 := B0_t 1033 (by decide +kernel) (by decide +kernel)
theorem q1034 : Cond.code yX6_ofCell cX6_ofCell 3 (some .int) ∈ B0 := B0_t 1034 (by decide +kernel) (by decide +kernel)
theorem q1035 : Cond.methodLink RL 153 yX6_walker ∈ B0 := B0_t 1035 (by decide +kernel) (by decide +kernel)
theorem q1036 : Cond.instanceMethod yX6_walker ∈ B0 := B0_t 1036 (by decide +kernel) (by decide +kernel)
theorem q1037 : Cond.selects RX6 yX6_walker yX6_walker ∈ B0 := B0_t 1037 (by decide +kernel) (by decide +kernel)
theorem q1038 : Cond.code yX6_walker cX6_walker 3 (some .int) ∈ B0 := B0_t 1038 (by decide +kernel) (by decide +kernel)
theorem q1039 : Cond.methodLink RX6 163 yX6_ofWalker ∈ B0 := B0_t 1039 (by decide +kernel) (by decide +kernel)
theorem q1041 : Cond.instanceMethod yX6_ofWalker ∈ B0 := B0_t 1041 (by decide +kernel) (by decide +kernel)
theorem q1042 : Cond.code yX6_ofWalker cX6_ofWalker 3 (some .int) ∈ B0 := B0_t 1042 (by decide +kernel) (by decide +kernel)
theorem q1043 : Cond.methodLink RX6 160 yX6_behind ∈ B0 := B0_t 1043 (by decide +kernel) (by decide +kernel)
theorem q1045 : Cond.instanceMethod yX6_behind ∈ B0 := B0_t 1045 (by decide +kernel) (by decide +kernel)
theorem q1046 : Cond.code yX6_behind cX6_behind 3 (some .int) ∈ B0 := B0_t 1046 (by decide +kernel) (by decide +kernel)
theorem q1047 : Cond.methodLink RL 156 yX6_count ∈ B0 := B0_t 1047 (by decide +kernel) (by decide +kernel)
theorem q1048 : Cond.instanceMethod yX6_count ∈ B0 := B0_t 1048 (by decide +kernel) (by decide +kernel)
theorem q1049 : Cond.selects RX6 yX6_count yX6_count ∈ B0 := B0_t 1049 (by decide +kernel) (by decide +kernel)
theorem q1050 : Cond.code yX6_count cX6_count 2 (some .int) ∈ B0 := B0_t 1050 (by decide +kernel) (by decide +kernel)
theorem q1051 : Cond.methodLink RX6 173 yX6_counted ∈ B0 := B0_t 1051 (by decide +kernel) (by decide +kernel)
theorem q1053 : Cond.instanceMethod yX6_counted ∈ B0 := B0_t 1053 (by decide +kernel) (by decide +kernel)
theorem q1054 : Cond.code yX6_counted cX6_counted 2 (some .int) ∈ B0 := B0_t 1054 (by decide +kernel) (by decide +kernel)
theorem q1055 : Cond.methodLink RX6 166 yX6_used ∈ B0 := B0_t 1055 (by decide +kernel) (by decide +kernel)
theorem q1057 : Cond.instanceMethod yX6_used ∈ B0 := B0_t 1057 (by decide +kernel) (by decide +kernel)
theorem q1058 : Cond.code yX6_used cX6_used 3 (some .int) ∈ B0 := B0_t 1058 (by decide +kernel) (by decide +kernel)
theorem q1059 : Cond.methodLink RX6 170 yX6_values ∈ B0 := B0_t 1059 (by decide +kernel) (by decide +kernel)
theorem q1061 : Cond.instanceMethod yX6_values ∈ B0 := B0_t 1061 (by decide +kernel) (by decide +kernel)
theorem q1062 : Cond.code yX6_values cX6_values 3 (some .int) ∈ B0 := B0_t 1062 (by decide +kernel) (by decide +kernel)
theorem q1063 : Cond.methodLink RL 159 yX6_begins ∈ B0 := B0_t 1063 (by decide +kernel) (by decide +kernel)
theorem q1064 : Cond.instanceMethod yX6_begins ∈ B0 := B0_t 1064 (by decide +kernel) (by decide +kernel)
theorem q1065 : Cond.selects RX6 yX6_begins yX6_begins ∈ B0 := B0_t 1065 (by decide +kernel) (by decide +kernel)
theorem q1066 : Cond.code yX6_begins cX6_begins 2 (some .int) ∈ B0 := B0_t 1066 (by decide +kernel) (by decide +kernel)
theorem q1067 : Cond.methodLink RX6 176 yX6_beginsAt ∈ B0 := B0_t 1067 (by decide +kernel) (by decide +kernel)
theorem q1069 : Cond.instanceMethod yX6_beginsAt ∈ B0 := B0_t 1069 (by decide +kernel) (by decide +kernel)
theorem q1070 : Cond.code yX6_beginsAt cX6_beginsAt 3 (some .int) ∈ B0 := B0_t 1070 (by decide +kernel) (by decide +kernel)
theorem q1071 : Cond.methodLink RL 162 yX6_gap ∈ B0 := B0_t 1071 (by decide +kernel) (by decide +kernel)
theorem q1072 : Cond.instanceMethod yX6_gap ∈ B0 := B0_t 1072 (by decide +kernel) (by decide +kernel)
theorem q1073 : Cond.selects RX6 yX6_gap yX6_gap ∈ B0 := B0_t 1073 (by decide +kernel) (by decide +kernel)
theorem q1074 : Cond.code yX6_gap cX6_gap 2 (some .int) ∈ B0 := B0_t 1074 (by decide +kernel) (by decide +kernel)
theorem q1075 : Cond.methodLink RX6 179 yX6_longest ∈ B0 := B0_t 1075 (by decide +kernel) (by decide +kernel)
theorem q1077 : Cond.instanceMethod yX6_longest ∈ B0 := B0_t 1077 (by decide +kernel) (by decide +kernel)
theorem q1078 : Cond.code yX6_longest cX6_longest 6 (some .int) ∈ B0 := B0_t 1078 (by decide +kernel) (by decide +kernel)
theorem q1079 : Cond.methodLink RL 165 yX6_ifFired ∈ B0 := B0_t 1079 (by decide +kernel) (by decide +kernel)
theorem q1080 : Cond.instanceMethod yX6_ifFired ∈ B0 := B0_t 1080 (by decide +kernel) (by decide +kernel)
theorem q1081 : Cond.selects RX6 yX6_ifFired yX6_ifFired ∈ B0 := B0_t 1081 (by decide +kernel) (by decide +kernel)
theorem q1082 : Cond.code yX6_ifFired cX6_ifFired 3 (some .int) ∈ B0 := B0_t 1082 (by decide +kernel) (by decide +kernel)
theorem q1083 : Cond.methodLink RX6 182 yX6_fired ∈ B0 := B0_t 1083 (by decide +kernel) (by decide +kernel)
theorem q1085 : Cond.instanceMethod yX6_fired ∈ B0 := B0_t 1085 (by decide +kernel) (by decide +kernel)
theorem q1086 : Cond.code yX6_fired cX6_fired 5 (some .int) ∈ B0 := B0_t 1086 (by decide +kernel) (by decide +kernel)
theorem q1087 : Cond.methodLink RL 169 yX6_room ∈ B0 := B0_t 1087 (by decide +kernel) (by decide +kernel)
theorem q1088 : Cond.instanceMethod yX6_room ∈ B0 := B0_t 1088 (by decide +kernel) (by decide +kernel)
theorem q1089 : Cond.selects RX6 yX6_room yX6_room ∈ B0 := B0_t 1089 (by decide +kernel) (by decide +kernel)
theorem q1090 : Cond.code yX6_room cX6_room 3 (some .int) ∈ B0 := B0_t 1090 (by decide +kernel) (by decide +kernel)
theorem q1091 : Cond.methodLink RX6 185 yX6_roomFor ∈ B0 := B0_t 1091 (by decide +kernel) (by decide +kernel)
theorem q1093 : Cond.instanceMethod yX6_roomFor ∈ B0 := B0_t 1093 (by decide +kernel) (by decide +kernel)
theorem q1094 : Cond.code yX6_roomFor cX6_roomFor 6 (some .int) ∈ B0 := B0_t 1094 (by decide +kernel) (by decide +kernel)
theorem q1095 : Cond.methodLink RL 174 yX6_fullness ∈ B0 := B0_t 1095 (by decide +kernel) (by decide +kernel)
theorem q1096 : Cond.instanceMethod yX6_fullness ∈ B0 := B0_t 1096 (by decide +kernel) (by decide +kernel)
theorem q1097 : Cond.selects RX6 yX6_fullness yX6_fullness ∈ B0 := B0_t 1097 (by decide +kernel) (by decide +kernel)
theorem q1098 : Cond.code yX6_fullness cX6_fullness 1 (some .double) ∈ B0 := B0_t 1098 (by decide +kernel) (by decide +kernel)
theorem q1099 : Cond.methodLink RX6 189 yX6_full ∈ B0 := B0_t 1099 (by decide +kernel) (by decide +kernel)
theorem q1101 : Cond.instanceMethod yX6_full ∈ B0 := B0_t 1101 (by decide +kernel) (by decide +kernel)
theorem q1102 : Cond.code yX6_full cX6_full 3 (some .double) ∈ B0 := B0_t 1102 (by decide +kernel) (by decide +kernel)
theorem q1103 : Cond.methodLink RL 179 yX6_digest ∈ B0 := B0_t 1103 (by decide +kernel) (by decide +kernel)
theorem q1104 : Cond.instanceMethod yX6_digest ∈ B0 := B0_t 1104 (by decide +kernel) (by decide +kernel)
theorem q1105 : Cond.selects RX6 yX6_digest yX6_digest ∈ B0 := B0_t 1105 (by decide +kernel) (by decide +kernel)
theorem q1106 : Cond.code yX6_digest cX6_digest 2 (some .long) ∈ B0 := B0_t 1106 (by decide +kernel) (by decide +kernel)
theorem q1107 : Cond.constantLong RX6 203 (3251 : Int64) ∈ B0 := B0_t 1107 (by decide +kernel) (by decide +kernel)
theorem q1108 : Cond.methodLink RX6 199 yX6_mixes ∈ B0 := B0_t 1108 (by decide +kernel) (by decide +kernel)
theorem q1110 : Cond.instanceMethod yX6_mixes ∈ B0 := B0_t 1110 (by decide +kernel) (by decide +kernel)
theorem q1111 : Cond.code yX6_mixes cX6_mixes 3 none ∈ B0 := B0_t 1111 (by decide +kernel) (by decide +kernel)
theorem q1112 : Cond.constantLong RX6 193 (31 : Int64) ∈ B0 := B0_t 1112 (by decide +kernel) (by decide +kernel)
theorem q1113 : Cond.methodLink RX6 205 yX6_mixesRow ∈ B0 := B0_t 1113 (by decide +kernel) (by decide +kernel)
theorem q1115 : Cond.instanceMethod yX6_mixesRow ∈ B0 := B0_t 1115 (by decide +kernel) (by decide +kernel)
theorem q1116 : Cond.code yX6_mixesRow cX6_mixesRow 3 none ∈ B0 := B0_t 1116 (by decide +kernel) (by decide +kernel)
theorem q1117 : Cond.methodLink RX6 208 yJxe99ae_doubleToLongBits_ccdee ∈ B0 := B0_t 1117 (by decide +kernel) (by decide +kernel)
theorem q1118 : Cond.static yJxe99ae_doubleToLongBits_ccdee ∈ B0 := B0_t 1118 (by decide +kernel) (by decide +kernel)
theorem q1121 : Cond.static yJxe99ae_isNaN_b9ae7 ∈ B0 := B0_t 1121 (by decide +kernel) (by decide +kernel)
theorem q1124 : Cond.static ⟨RJxe99ae, "doubleToRawLongBits", "(D)J"⟩ ∈ B0 := B0_t 1124 (by decide +kernel) (by decide +kernel)
theorem q1125 : Cond.native ⟨RJxe99ae, "doubleToRawLongBits", "(D)J"⟩ ∈ B0 := B0_t 1125 (by decide +kernel) (by decide +kernel)
theorem q1126 : Cond.constantLong RJxe99ae 137 (9221120237041090560 : Int64) ∈ B0 := B0_t 1126 (by decide +kernel) (by decide +kernel)
theorem q1127 : Cond.arrayClass .long ∈ B0 := B0_t 1127 (by decide +kernel) (by decide +kernel)
theorem qs0 : Cond.selects RX0 yX0_dropOldest yX0_dropOldest ∈ B0 := B0_s 0 (by decide +kernel) (by decide +kernel)
theorem qs1 : Cond.selects RX3 yX3_fireThing yX3_fireThing ∈ B0 := B0_s 1 (by decide +kernel) (by decide +kernel)
theorem qs2 : Cond.selects RX2 yX2_giveCells yX2_giveCells ∈ B0 := B0_s 2 (by decide +kernel) (by decide +kernel)
theorem qs3 : Cond.selects RX1 yX1_isEntry yX1_isEntry ∈ B0 := B0_s 3 (by decide +kernel) (by decide +kernel)
theorem qs4 : Cond.selects RX1 yX1_sweep yX1_sweep ∈ B0 := B0_s 4 (by decide +kernel) (by decide +kernel)
theorem qs5 : Cond.selects RX1 yX1_delete yX1_delete ∈ B0 := B0_s 5 (by decide +kernel) (by decide +kernel)
theorem qs6 : Cond.selects RX2 yX2_growTo yX2_growTo ∈ B0 := B0_s 6 (by decide +kernel) (by decide +kernel)
theorem qs7 : Cond.selects RX1 yX1_thingsFrom yX1_thingsFrom ∈ B0 := B0_s 7 (by decide +kernel) (by decide +kernel)
theorem qs9 : Cond.selects RX5 yX5_hashThings yX5_hashThings ∈ B0 := B0_s 9 (by decide +kernel) (by decide +kernel)
theorem qs10 : Cond.selects RX5 yX5_hashCellsAndWalkers yX5_hashCellsAndWalkers ∈ B0 := B0_s 10 (by decide +kernel) (by decide +kernel)
theorem qs11 : Cond.selects RX1 yX1_indexUnder yX1_indexUnder ∈ B0 := B0_s 11 (by decide +kernel) (by decide +kernel)
theorem qs12 : Cond.selects RX1 yX1_isThingIn yX1_isThingIn ∈ B0 := B0_s 12 (by decide +kernel) (by decide +kernel)
theorem qs13 : Cond.selects RX5 yX5_hashWhatWouldBe yX5_hashWhatWouldBe ∈ B0 := B0_s 13 (by decide +kernel) (by decide +kernel)
theorem qs14 : Cond.selects RX5 yX5_tryEvents yX5_tryEvents ∈ B0 := B0_s 14 (by decide +kernel) (by decide +kernel)
theorem qs15 : Cond.selects RX5 yX5_hashBuffer yX5_hashBuffer ∈ B0 := B0_s 15 (by decide +kernel) (by decide +kernel)
theorem qs16 : Cond.selects RX1 yX1_send yX1_send ∈ B0 := B0_s 16 (by decide +kernel) (by decide +kernel)
theorem qs17 : Cond.selects RX1 yX1_nextThing yX1_nextThing ∈ B0 := B0_s 17 (by decide +kernel) (by decide +kernel)
theorem qs18 : Cond.selects RX5 yX5_putParts yX5_putParts ∈ B0 := B0_s 18 (by decide +kernel) (by decide +kernel)
theorem qs19 : Cond.selects RX6 yX6_refuses yX6_refuses ∈ B0 := B0_s 19 (by decide +kernel) (by decide +kernel)
theorem qs20 : Cond.selects RX6 yX6_saves yX6_saves ∈ B0 := B0_s 20 (by decide +kernel) (by decide +kernel)
theorem qs21 : Cond.selects RX6 yX6_underHandle yX6_underHandle ∈ B0 := B0_s 21 (by decide +kernel) (by decide +kernel)
theorem qs22 : Cond.selects RX6 yX6_isText yX6_isText ∈ B0 := B0_s 22 (by decide +kernel) (by decide +kernel)
theorem qs23 : Cond.selects RX6 yX6_isThingTold yX6_isThingTold ∈ B0 := B0_s 23 (by decide +kernel) (by decide +kernel)
theorem qs24 : Cond.selects RX6 yX6_isNumber yX6_isNumber ∈ B0 := B0_s 24 (by decide +kernel) (by decide +kernel)
theorem qs25 : Cond.selects RX6 yX6_sees yX6_sees ∈ B0 := B0_s 25 (by decide +kernel) (by decide +kernel)
theorem qs26 : Cond.selects RX6 yX6_takes yX6_takes ∈ B0 := B0_s 26 (by decide +kernel) (by decide +kernel)
theorem qs27 : Cond.selects RX6 yX6_ofThing yX6_ofThing ∈ B0 := B0_s 27 (by decide +kernel) (by decide +kernel)
theorem qs28 : Cond.selects RX6 yX6_placeOf yX6_placeOf ∈ B0 := B0_s 28 (by decide +kernel) (by decide +kernel)
theorem qs29 : Cond.selects RX6 yX6_ofCell yX6_ofCell ∈ B0 := B0_s 29 (by decide +kernel) (by decide +kernel)
theorem qs30 : Cond.selects RX6 yX6_ofWalker yX6_ofWalker ∈ B0 := B0_s 30 (by decide +kernel) (by decide +kernel)
theorem qs31 : Cond.selects RX6 yX6_behind yX6_behind ∈ B0 := B0_s 31 (by decide +kernel) (by decide +kernel)
theorem qs32 : Cond.selects RX6 yX6_counted yX6_counted ∈ B0 := B0_s 32 (by decide +kernel) (by decide +kernel)
theorem qs33 : Cond.selects RX6 yX6_used yX6_used ∈ B0 := B0_s 33 (by decide +kernel) (by decide +kernel)
theorem qs34 : Cond.selects RX6 yX6_values yX6_values ∈ B0 := B0_s 34 (by decide +kernel) (by decide +kernel)
theorem qs35 : Cond.selects RX6 yX6_beginsAt yX6_beginsAt ∈ B0 := B0_s 35 (by decide +kernel) (by decide +kernel)
theorem qs36 : Cond.selects RX6 yX6_longest yX6_longest ∈ B0 := B0_s 36 (by decide +kernel) (by decide +kernel)
theorem qs37 : Cond.selects RX6 yX6_fired yX6_fired ∈ B0 := B0_s 37 (by decide +kernel) (by decide +kernel)
theorem qs38 : Cond.selects RX6 yX6_roomFor yX6_roomFor ∈ B0 := B0_s 38 (by decide +kernel) (by decide +kernel)
theorem qs39 : Cond.selects RX6 yX6_full yX6_full ∈ B0 := B0_s 39 (by decide +kernel) (by decide +kernel)
theorem qs40 : Cond.selects RX6 yX6_mixes yX6_mixes ∈ B0 := B0_s 40 (by decide +kernel) (by decide +kernel)
theorem qs41 : Cond.selects RX6 yX6_mixesRow yX6_mixesRow ∈ B0 := B0_s 41 (by decide +kernel) (by decide +kernel)
theorem in0 : ∀ w ∈ wsX00, w ∈ B0 := B0_l (by decide +kernel)
theorem in1 : ∀ w ∈ wsX10, w ∈ B0 := B0_l (by decide +kernel)
theorem in2 : ∀ w ∈ wsX20, w ∈ B0 := B0_l (by decide +kernel)
theorem in3 : ∀ w ∈ wsX30, w ∈ B0 := B0_l (by decide +kernel)
theorem in4 : ∀ w ∈ wsX40, w ∈ B0 := B0_l (by decide +kernel)
theorem in5 : ∀ w ∈ wsX50, w ∈ B0 := B0_l (by decide +kernel)
theorem in6 : ∀ w ∈ wsX60, w ∈ B0 := B0_l (by decide +kernel)
end
section
/-! My own words over the kit's rows: what holds all through a method, worlds, and the calls. -/
abbrev TYS (I J O : ClassId) : List (ClassId × FieldType) := [(I, .int), (J, .long), (O, .object RX3)]
/-- what the tables say of classes and arrays: it holds in every state of the run -/
def XK (D : va_G) (I J O : ClassId) (U : State) : Prop := va_K D vwCl (TYS I J O) U ∧ va_AO RX3 U ∧ va_Nw (.fieldLinkNest RX5 44 RX3 "slots" "LStampedSlots$Slots;" RX5) U ∧ va_Nw (.fieldLinkNest RX5 78 RX3 "row" "LStampedSlots$Row;" RX5) U ∧ va_Nw (.fieldLinkNest RX5 223 RX3 "events" "I" RX5) U ∧ va_Nw (.fieldLinkNest RX5 227 RX3 "thingsPut" "I" RX5) U ∧ va_Nw (.fieldLinkNest RX5 230 RX3 "thingsRemoved" "I" RX5) U ∧ va_Nw (.fieldLinkNest RX5 233 RX3 "thingsMoved" "I" RX5) U ∧ va_Nw (.methodLinkNest RX1 72 yX5_isWalker RX5) U
theorem XK.warm {D : va_G} {I J O : ClassId} {s U : State} (hW : s.WarmedH U.vm) (h : XK D I J O s) : XK D I J O U := by
  obtain ⟨hK, hA, h0, h1, h2, h3, h4, h5, h6⟩ := h
  exact ⟨va_K.moved hW.alike hK, va_AO.moved hW.alike hA, va_Nw.warmF hW h0, va_Nw.warmF hW h1, va_Nw.warmF hW h2, va_Nw.warmF hW h3, va_Nw.warmF hW h4, va_Nw.warmF hW h5, va_Nw.warmM hW h6⟩
theorem XK.calling {D : va_G} {I J O : ClassId} {U : State} {g : JFrame} {mk : MethodId} {a : Array Value} (h : XK D I J O U) : XK D I J O (U.calling g mk a) := by
  obtain ⟨hK, hA, h0, h1, h2, h3, h4, h5, h6⟩ := h
  exact ⟨va_K.moved (u := U) (U := U.calling g mk a) (Vm.Alike.refl U.vm) hK, va_AO.moved (u := U) (U := U.calling g mk a) (Vm.Alike.refl U.vm) hA, va_Nw.same rfl rfl h0, va_Nw.same rfl rfl h1, va_Nw.same rfl rfl h2, va_Nw.same rfl rfl h3, va_Nw.same rfl rfl h4, va_Nw.same rfl rfl h5, va_Nw.same rfl rfl h6⟩
/-- what holds all through a method's body -/
def fx (p : Program) (s : State) (m : MethodId) (args : Array Value) (meth : Method) (c : Code) (cc : ByteArray) (own : String) (nL : Nat) (rt : Option FieldType) (D : va_G) (I J O : ClassId) : Prop :=
  p.tables.exec = Jvm.exec ∧ c.code = cc ∧ c.maxLocals = nL ∧ s.vm.findClass own = some m.cls ∧ (∀ w ∈ B0, w.before args s = true) ∧ XK D I J O s ∧ meth.sig.returnType = rt ∧ meth.locks = false
/-- the heap holds the world ws, apart from all else; what was written since H0 lies in A -/
def fy (D : va_G) (A : Nat → Prop) (H0 H : Heap) (locs : List Loc) (ws : va_W) : Prop := va_P D vwCl ws H ∧ va_D A ws ∧ va_S A H0 H locs ∧ ∀ q, H0.size ≤ q → A q
theorem fy.sub {D : va_G} {A : Nat → Prop} {H0 H : Heap} {locs : List Loc} {ws ws' : va_W} (h : fy D A H0 H locs ws) (is : List Nat) (hn : va_nd is = true) (hs : is.map (fun i => ws[i]?) = ws'.map some) : fy D A H0 H locs ws' := by
  refine ⟨fun k q hq => ?_, h.2.1.sub is hn hs, h.2.2.1, h.2.2.2⟩
  have h1 : (is.map (fun i => ws[i]?))[k]? = some (some q) := by rw [hs, List.getElem?_map, hq]; rfl
  rw [List.getElem?_map] at h1
  cases hi : is[k]? with
  | none => rw [hi] at h1; cases h1
  | some i => rw [hi] at h1; exact h.1 i q (Option.some.inj h1)
theorem fy.part {D : va_G} {A : Nat → Prop} {H0 H : Heap} {locs : List Loc} {X X' pl : va_W} (h : fy D A H0 H locs (X ++ pl)) (is : List Nat) (hn : va_nd is = true) (hs : is.map (fun i => X[i]?) = X'.map some) : fy D A H0 H locs (X' ++ pl) :=
  ⟨h.1.part is hs, h.2.1.part is hn hs, h.2.2.1, h.2.2.2⟩
theorem x_pick {D : va_G} {X wc pl : va_W} {H : Heap} (h : va_P D vwCl (X ++ pl) H) (is : List Nat) (hs : is.map (fun i => X[i]?) = wc.map some) : va_P D vwCl wc H := by
  intro k q hq
  have h1 : (is.map (fun i => X[i]?))[k]? = some (some q) := by rw [hs, List.getElem?_map, hq]; rfl
  rw [List.getElem?_map] at h1
  cases hi : is[k]? with
  | none => rw [hi] at h1; cases h1
  | some i =>
    rw [hi] at h1
    have h2 : X[i]? = some q := Option.some.inj h1
    exact h i q (by rw [List.getElem?_append_left (List.getElem?_eq_some_iff.mp h2).1]; exact h2)
theorem x_none {D : va_G} {H : Heap} : va_P D vwCl [] H := fun k q h => nomatch h
theorem x_pick0 {D : va_G} {X wc : va_W} {H : Heap} (h : va_P D vwCl X H) (is : List Nat) (hs : is.map (fun i => X[i]?) = wc.map some) : va_P D vwCl wc H :=
  x_pick (pl := []) (by rw [List.append_nil]; exact h) is hs
/-- the places is of a list -/
def x_sel (X : va_W) (is : List Nat) : va_W := is.filterMap (fun i => X[i]?)
theorem x_lastpl {D : va_G} {X pl : va_W} {H : Heap} (h : va_P D vwCl (X ++ pl) H) : va_P D vwCl pl H := by
  intro k q hq
  exact h (X.length + k) q (by rw [List.getElem?_append_right (by omega)]; rw [show X.length + k - X.length = k by omega]; exact hq)
/-- the words of a method that is called -/
def yV (y : MethodName) (cc : ByteArray) (maxL : Nat) (rt : Option FieldType) (n : Nat) : Prop := Cond.code y cc maxL rt ∈ B0 ∧ Cond.initialized y.cls ∈ B0 ∧ Cond.instanceMethod y ∈ B0 ∧ Cond.selects y.cls y y ∈ B0 ∧ y.cls ≠ "java/lang/invoke/MethodHandle" ∧ y.cls ≠ "java/lang/invoke/VarHandle" ∧ (parseMethodDescriptor y.desc).map (fun d => d.parameters.length) = some n
def yS (y : MethodName) (cc : ByteArray) (maxL : Nat) (rt : Option FieldType) (n : Nat) : Prop := Cond.code y cc maxL rt ∈ B0 ∧ Cond.initialized y.cls ∈ B0 ∧ Cond.static y ∈ B0 ∧ y.cls ≠ "java/lang/invoke/MethodHandle" ∧ y.cls ≠ "java/lang/invoke/VarHandle" ∧ (parseMethodDescriptor y.desc).map (fun d => d.parameters.length) = some n
def yI (y : MethodName) (cc : ByteArray) (maxL : Nat) (n : Nat) : Prop := Cond.code y cc maxL none ∈ B0 ∧ Cond.initialized y.cls ∈ B0 ∧ Cond.instanceMethod y ∈ B0 ∧ y.name = "<init>" ∧ y.cls ≠ "java/lang/invoke/MethodHandle" ∧ y.cls ≠ "java/lang/invoke/VarHandle" ∧ (parseMethodDescriptor y.desc).map (fun d => d.parameters.length) = some n
theorem B0_in {w : Cond} (h : w ∈ B0) : GoodIn B0 (w :: B0) := fun v hv => by
  rcases List.mem_cons.mp hv with rfl | hv
  · exact ⟨h, good_of_word (B0_good h)⟩
  · exact ⟨hv, good_of_word (B0_good hv)⟩
theorem B0_V {own C : String} {idx : Nat} {y : MethodName} {w : Cond} (h1 : Cond.methodLink own idx y ∈ B0) (h2 : Cond.instanceMethod y ∈ B0) (h3 : Cond.selects C y y ∈ B0) (h4 : Cond.initialized C ∈ B0) (h : w ∈ B0) : GoodIn B0 (wsV own idx C y (w :: B0)) := fun v hv => by
  simp only [wsV, List.cons_append, List.nil_append, List.mem_cons] at hv
  rcases hv with rfl | rfl | rfl | rfl | rfl | hv
  · exact ⟨h1, good_of_word (B0_good h1)⟩
  · exact ⟨h2, good_of_word (B0_good h2)⟩
  · exact ⟨h3, good_of_word (B0_good h3)⟩
  · exact ⟨h4, good_of_word (B0_good h4)⟩
  · exact ⟨h, good_of_word (B0_good h)⟩
  · exact ⟨hv, good_of_word (B0_good hv)⟩
theorem B0_S {own : String} {idx : Nat} {y : MethodName} {w : Cond} (h1 : Cond.methodLink own idx y ∈ B0) (h2 : Cond.static y ∈ B0) (h4 : Cond.initialized y.cls ∈ B0) (h : w ∈ B0) : GoodIn B0 (va_wsS own idx y (w :: B0)) := fun v hv => by
  simp only [va_wsS, List.cons_append, List.nil_append, List.mem_cons] at hv
  rcases hv with rfl | rfl | rfl | rfl | hv
  · exact ⟨h1, good_of_word (B0_good h1)⟩
  · exact ⟨h2, good_of_word (B0_good h2)⟩
  · exact ⟨h4, good_of_word (B0_good h4)⟩
  · exact ⟨h, good_of_word (B0_good h)⟩
  · exact ⟨hv, good_of_word (B0_good hv)⟩
/-- the words of a method's own list: its code, and B0 -/
abbrev wsB (y : MethodName) (cc : ByteArray) (maxL : Nat) (rt : Option FieldType) : List Cond := Cond.code y cc maxL rt :: B0
abbrev rmB (fr lo mc ms : Nat) : Room := { frames := fr, cells := mc, slots := ms, locals := lo }
/-- a contract of a method that only reads -/
abbrev pcR (D : va_G) (I J O : ClassId) (As : List Value) (ws : va_W) : Array Value → State → Prop := va_Pc As (fun U => va_P D vwCl ws U.heap ∧ XK D I J O U)
abbrev mR (l : Launch) (y : MethodName) (cc : ByteArray) (maxL : Nat) (rt : Option FieldType) (fr lo : Nat) (D : va_G) (I J O : ClassId) (As : List Value) (ws : va_W) (Qc : Array Value → State → Outcome → State → Prop) : Prop :=
  Met l y (wsB y cc maxL rt) (rmB fr lo 0 0) (pcR D I J O As ws) Qc 0 0 (fun _ => False)
/-- a contract of a method that writes into its world ws -/
abbrev pcM (D : va_G) (I J O : ClassId) (sz : Nat) (As : List Value) (ws : va_W) : Array Value → State → Prop := va_Pc As (fun U => U.heap.size = sz ∧ va_P D vwCl ws U.heap ∧ XK D I J O U ∧ va_D (fun _ => True) ws)
abbrev mM (l : Launch) (y : MethodName) (cc : ByteArray) (maxL : Nat) (rt : Option FieldType) (fr lo mc ms : Nat) (D : va_G) (I J O : ClassId) (sz : Nat) (As : List Value) (ws : va_W) (Qc : Array Value → State → Outcome → State → Prop) : Prop :=
  Met l y (wsB y cc maxL rt) (rmB fr lo mc ms) (pcM D I J O sz As ws) Qc mc ms (va_A ws sz)
abbrev bM {S : Type} (D : va_G) (sz : Nat) (ws : va_W) (w1 : S → va_W) : S → State → Prop := fun u t => va_P D vwCl (w1 u) t.heap ∧ va_D (va_A ws sz) (w1 u)
abbrev qMi {S : Type} (D : va_G) (sz : Nat) (ws : va_W) (r : Int32) (w1 : S → va_W) := va_Qi (fun (x : Int32) (_ : S) => x = r) (bM D sz ws w1) (va_A ws sz)
abbrev qMl {S : Type} (D : va_G) (sz : Nat) (ws : va_W) (r : Int64) (w1 : S → va_W) := va_Ql (fun (x : Int64) (_ : S) => x = r) (bM D sz ws w1) (va_A ws sz)
abbrev qMv {S : Type} (D : va_G) (sz : Nat) (ws : va_W) (w1 : S → va_W) := va_Qv (fun (_ : S) => True) (bM D sz ws w1) (va_A ws sz)
abbrev qRi (r : Int32) := vp_Si (fun x : Int32 => x = r)
abbrev qRl (r : Int64) := vp_Sl (fun x : Int64 => x = r)
abbrev qRd (r : UInt64) := vp_Sd (fun x : UInt64 => x = r)
theorem blR {D : va_G} {I J O : ClassId} {As : List Value} {ws : va_W} : FrameBlind (pcR D I J O As ws) := fun _ _ _ _ q => ⟨q.1, q.2.1, q.2.2.calling⟩
theorem blM {D : va_G} {I J O : ClassId} {sz : Nat} {As : List Value} {ws : va_W} : FrameBlind (pcM D I J O sz As ws) := fun _ _ _ _ q => ⟨q.1, q.2.1, q.2.2.1, q.2.2.2.1.calling, q.2.2.2.2⟩
theorem mR_open {l : Launch} {y : MethodName} {cc : ByteArray} {maxL : Nat} {rt : Option FieldType} {fr lo : Nat} {D : va_G} {I J O : ClassId} {As : List Value} {ws : va_W} {Qc : Array Value → State → Outcome → State → Prop} {own : String} (ho : y.cls = own) (hy : plainName y.cls = true) (hn : (lg_sl As).length ≤ maxL)
    (body : ∀ (p : Program) (e : Env) (s : State) (m : MethodId) (below : List Frame) (meth : Method) (c : Code) (ls : Array Slot), fx p s m As.toArray meth c cc own maxL rt D I J O → va_P D vwCl ws s.heap → lv_has ls maxL (lv_args 0 As) →
      W p l e (rmB fr lo 0 0) s m As.toArray below meth c s.heap [] 0 0 (MQ below Qc As.toArray s 0 0 (fun _ => False)) (F0 m 0 ls [])) : mR l y cc maxL rt fr lo D I J O As ws Qc := by
  subst ho
  refine Met.ofW (cc := cc) (maxL := maxL) (ret := rt) hy rfl ?_
  intro p e s m args below meth c s₁ B hml hv
  obtain ⟨rfl, hP, hK⟩ := hv
  have hts := atoms_spec (ws := wsB y cc maxL rt) B.pre
  rw [lg_entry_eq]
  exact body p e s m below meth c _ ⟨B.exec, B.bytes, hml, findClass_of_methodNamed B.named, fun w h => hts w (List.mem_cons_of_mem _ h), hK, B.returns, B.notSynchronized⟩ hP (lv_entry As hn)
theorem mM_open {l : Launch} {y : MethodName} {cc : ByteArray} {maxL : Nat} {rt : Option FieldType} {fr lo mc ms : Nat} {D : va_G} {I J O : ClassId} {sz : Nat} {As : List Value} {ws : va_W} {Qc : Array Value → State → Outcome → State → Prop} {own : String} (ho : y.cls = own) (hy : plainName y.cls = true) (hn : (lg_sl As).length ≤ maxL)
    (body : ∀ (p : Program) (e : Env) (s : State) (m : MethodId) (below : List Frame) (meth : Method) (c : Code) (ls : Array Slot), fx p s m As.toArray meth c cc own maxL rt D I J O → meth.name = y.name → s.heap.size = sz → fy D (va_A ws sz) s.heap s.heap [] ws → lv_has ls maxL (lv_args 0 As) →
      W p l e (rmB fr lo mc ms) s m As.toArray below meth c s.heap [] 0 0 (MQ below Qc As.toArray s mc ms (va_A ws sz)) (F0 m 0 ls [])) : mM l y cc maxL rt fr lo mc ms D I J O sz As ws Qc := by
  subst ho
  refine Met.ofW (cc := cc) (maxL := maxL) (ret := rt) hy rfl ?_
  intro p e s m args below meth c s₁ B hml hv
  obtain ⟨rfl, hsz, hP, hK, hD0⟩ := hv
  have hts := atoms_spec (ws := wsB y cc maxL rt) B.pre
  rw [lg_entry_eq]
  exact body p e s m below meth c _ ⟨B.exec, B.bytes, hml, findClass_of_methodNamed B.named, fun w h => hts w (List.mem_cons_of_mem _ h), hK, B.returns, B.notSynchronized⟩ (name_of_methodNamed B.named B.method).1 hsz ⟨hP, hD0.self, va_S.rf, fun q h => Or.inr (by rw [← hsz]; exact h)⟩ (lv_entry As hn)
section
variable {p : Program} {l : Launch} {e : Env} {R : Room} {s : State} {m : MethodId} {args : Array Value} {below : List Frame} {meth : Method} {c : Code} {H H0 : Heap} {locs : List Loc} {cells slots : Nat} {Q : State → Prop} {pc : Nat} {ls : Array Slot} {rest : List Value} {cc : ByteArray} {own : String} {nL : Nat} {rt : Option FieldType} {D : va_G} {I J O : ClassId} {A : Nat → Prop} {a : Nat}
theorem x_get (E : fx p s m args meth c cc own nL rt D I J O) {ws : va_W} (hP : va_P D vwCl ws H) (q0 : Nat) {ci : Nat} {fs : List Value} (he : ws[q0]? = some (a, .inr (ci, fs))) {C : String} {T : u_T} {N : Nat} (hc : vwCl[ci]? = some (C, T, N)) (hin : ∀ w ∈ u_ws C T N, w ∈ B0) {index : Nat} (k : Nat) (hk : k < N) (hlink : Cond.fieldLink own index C (T k).2.1 (T k).2.2.1 ∈ B0) (hsame : (T k).1 = C) {v : Value} (hv : fs[k]? = some v) (hdg : decode cc pc = .ok (.getfield index, 3))
    (kk : W p l e R s m args below meth c H locs cells slots Q (F0 m (pc + 3) ls (v :: rest))) : W p l e R s m args below meth c H locs cells slots Q (F0 m pc ls (.ref a :: rest)) :=
  va_get E.1 E.2.1 E.2.2.2.2.1 hin E.2.2.2.1 E.2.2.2.2.2.1.1 hP q0 he hc k hk (E.2.2.2.2.1 _ hlink) (by rw [hsame]; exact fun _ h => h) hv hdg kk
theorem x_getN (E : fx p s m args meth c cc own nL rt D I J O) {ws : va_W} (hP : va_P D vwCl ws H) (q0 : Nat) {ci : Nat} {fs : List Value} (he : ws[q0]? = some (a, .inr (ci, fs))) {C host : String} {T : u_T} {N : Nat} (hc : vwCl[ci]? = some (C, T, N)) (hin : ∀ w ∈ u_ws C T N, w ∈ B0) {index : Nat} (k : Nat) (hk : k < N) (hlink : va_Nw (.fieldLinkNest own index C (T k).2.1 (T k).2.2.1 host) s) (hsame : (T k).1 = C) {v : Value} (hv : fs[k]? = some v) (hdg : decode cc pc = .ok (.getfield index, 3))
    (kk : W p l e R s m args below meth c H locs cells slots Q (F0 m (pc + 3) ls (v :: rest))) : W p l e R s m args below meth c H locs cells slots Q (F0 m pc ls (.ref a :: rest)) :=
  va_getN E.1 E.2.1 E.2.2.2.2.1 hin E.2.2.2.1 E.2.2.2.2.2.1.1 hP q0 he hc k hk (va_Nw.use rfl hlink) (by rw [hsame]; exact fun _ h => h) hv hdg kk
theorem x_put (E : fx p s m args meth c cc own nL rt D I J O) {ws : va_W} (hw : fy D A H0 H locs ws) (q0 : Nat) {ci : Nat} {fs : List Value} (he : ws[q0]? = some (a, .inr (ci, fs))) {C : String} {T : u_T} {N : Nat} (hc : vwCl[ci]? = some (C, T, N)) (hin : ∀ w ∈ u_ws C T N, w ∈ B0) {ty0 : Nat → FieldType} (hty : ∀ k, k < N → parseFieldDescriptor (T k).2.2.1 = some (ty0 k)) (hnm : ∀ a, a < N → ∀ b, b < N → a ≠ b → (T a).2.1 ≠ (T b).2.1) {index : Nat} (k : Nat) (hk : k < N) (hlink : Cond.fieldLink own index C (T k).2.1 (T k).2.2.1 ∈ B0) (hsame : (T k).1 = C) (hfin : (T k).2.2.2 = false) {v : Value} (hn : narrow (ty0 k) v = v) (hfit : fits (ty0 k) v = true) (hl : k < fs.length) (hdg : decode cc pc = .ok (.putfield index, 3))
    (kk : ∀ (H1 : Heap) (locs1 : List Loc), fy D A H0 H1 locs1 (ws.set q0 (a, .inr (ci, fs.set k v))) → W p l e R s m args below meth c H1 locs1 cells slots Q (F0 m (pc + 3) ls rest)) : W p l e R s m args below meth c H locs cells slots Q (F0 m pc ls (v :: .ref a :: rest)) :=
  va_put E.1 E.2.1 E.2.2.2.2.1 hin ty0 hty hnm E.2.2.2.1 E.2.2.2.2.2.1.1 hw.1 hw.2.1 hw.2.2.1 q0 he hc k hk (E.2.2.2.2.1 _ hlink) (by rw [hsame]; exact fun _ h => h) hfin (hty k hk) hn hfit hl hdg (fun H1 locs1 h1 h2 h3 => kk H1 locs1 ⟨h1, h2, h3, hw.2.2.2⟩)
theorem x_putF (E : fx p s m args meth c cc own nL rt D I J O) {ws : va_W} (hw : fy D A H0 H locs ws) (q0 : Nat) {ci : Nat} {fs : List Value} (he : ws[q0]? = some (a, .inr (ci, fs))) {T : u_T} {N : Nat} (hc : vwCl[ci]? = some (own, T, N)) (hin : ∀ w ∈ u_ws own T N, w ∈ B0) {ty0 : Nat → FieldType} (hty : ∀ k, k < N → parseFieldDescriptor (T k).2.2.1 = some (ty0 k)) (hnm : ∀ a, a < N → ∀ b, b < N → a ≠ b → (T a).2.1 ≠ (T b).2.1) {index : Nat} (k : Nat) (hk : k < N) (hlink : Cond.fieldLink own index own (T k).2.1 (T k).2.2.1 ∈ B0) (hsame : (T k).1 = own) (hfin : (T k).2.2.2 = true) (hin2 : meth.name = "<init>") {v : Value} (hn : narrow (ty0 k) v = v) (hfit : fits (ty0 k) v = true) (hl : k < fs.length) (hdg : decode cc pc = .ok (.putfield index, 3))
    (kk : ∀ (H1 : Heap) (locs1 : List Loc), fy D A H0 H1 locs1 (ws.set q0 (a, .inr (ci, fs.set k v))) → W p l e R s m args below meth c H1 locs1 cells slots Q (F0 m (pc + 3) ls rest)) : W p l e R s m args below meth c H locs cells slots Q (F0 m pc ls (v :: .ref a :: rest)) :=
  va_putF E.1 E.2.1 E.2.2.2.2.1 hin ty0 hty hnm E.2.2.2.1 E.2.2.2.2.2.1.1 hw.1 hw.2.1 hw.2.2.1 q0 he hc k hk (E.2.2.2.2.1 _ hlink) (by rw [hsame]; exact fun _ h => h) hfin hin2 hsame (hty k hk) hn hfit hl hdg (fun H1 locs1 h1 h2 h3 => kk H1 locs1 ⟨h1, h2, h3, hw.2.2.2⟩)
theorem x_ald (E : fx p s m args meth c cc own nL rt D I J O) {ws : va_W} (hP : va_P D vwCl ws H) (q0 : Nat) {n : Nat} {f : Nat → Int32} (ha : ws[q0]? = some (a, .inl (I, n, .inl f))) {i : Int32} (hin : vp_in i n) (hdg : decode cc pc = .ok (.iaload, 1))
    (kk : W p l e R s m args below meth c H locs cells slots Q (F0 m (pc + 1) ls (.int (f i.toNatClampNeg) :: rest))) : W p l e R s m args below meth c H locs cells slots Q (F0 m pc ls (.int i :: .ref a :: rest)) :=
  va_iald E.1 E.2.1 E.2.2.2.2.2.1.1 hP q0 0 ha rfl hin hdg kk
theorem x_ast (E : fx p s m args meth c cc own nL rt D I J O) {ws : va_W} (hw : fy D A H0 H locs ws) (q0 : Nat) {n : Nat} {f : Nat → Int32} (ha : ws[q0]? = some (a, .inl (I, n, .inl f))) {i x : Int32} (hin : vp_in i n) (hdg : decode cc pc = .ok (.iastore, 1))
    (kk : ∀ (H1 : Heap) (locs1 : List Loc), fy D A H0 H1 locs1 (ws.set q0 (a, .inl (I, n, .inl (upd f i.toNatClampNeg x)))) → W p l e R s m args below meth c H1 locs1 cells slots Q (F0 m (pc + 1) ls rest)) : W p l e R s m args below meth c H locs cells slots Q (F0 m pc ls (.int x :: .int i :: .ref a :: rest)) :=
  va_iast E.1 E.2.1 E.2.2.2.2.2.1.1 hw.1 hw.2.1 hw.2.2.1 q0 0 ha rfl hin hdg (fun H1 locs1 h1 h2 h3 => kk H1 locs1 ⟨h1, h2, h3, hw.2.2.2⟩)
theorem x_last (E : fx p s m args meth c cc own nL rt D I J O) {ws : va_W} (hw : fy D A H0 H locs ws) (q0 : Nat) {n : Nat} {f : Nat → Int64} (ha : ws[q0]? = some (a, .inl (J, n, .inr (.inl f)))) {i : Int32} {x : Int64} (hin : vp_in i n) (hdg : decode cc pc = .ok (.lastore, 1))
    (kk : ∀ (H1 : Heap) (locs1 : List Loc), fy D A H0 H1 locs1 (ws.set q0 (a, .inl (J, n, .inr (.inl (vp_updL f i.toNatClampNeg x))))) → W p l e R s m args below meth c H1 locs1 cells slots Q (F0 m (pc + 1) ls rest)) : W p l e R s m args below meth c H locs cells slots Q (F0 m pc ls (.long x :: .int i :: .ref a :: rest)) :=
  va_last E.1 E.2.1 E.2.2.2.2.2.1.1 hw.1 hw.2.1 hw.2.2.1 q0 1 ha rfl hin hdg (fun H1 locs1 h1 h2 h3 => kk H1 locs1 ⟨h1, h2, h3, hw.2.2.2⟩)
theorem x_lald (E : fx p s m args meth c cc own nL rt D I J O) {ws : va_W} (hP : va_P D vwCl ws H) (q0 : Nat) {n : Nat} {f : Nat → Int64} (ha : ws[q0]? = some (a, .inl (J, n, .inr (.inl f)))) {i : Int32} (hin : vp_in i n) (hdg : decode cc pc = .ok (.laload, 1))
    (kk : W p l e R s m args below meth c H locs cells slots Q (F0 m (pc + 1) ls (.long (f i.toNatClampNeg) :: rest))) : W p l e R s m args below meth c H locs cells slots Q (F0 m pc ls (.int i :: .ref a :: rest)) :=
  va_lald E.1 E.2.1 E.2.2.2.2.2.1.1 hP q0 1 ha rfl hin hdg kk
theorem x_alen (E : fx p s m args meth c cc own nL rt D I J O) {ws : va_W} (hP : va_P D vwCl ws H) (q0 : Nat) {x : vp_A} (ha : ws[q0]? = some (a, .inl (I, x))) {v : Int32} (hv : Int32.ofNat x.1 = v) (hdg : decode cc pc = .ok (.arraylength, 1))
    (kk : W p l e R s m args below meth c H locs cells slots Q (F0 m (pc + 1) ls (.int v :: rest))) : W p l e R s m args below meth c H locs cells slots Q (F0 m pc ls (.ref a :: rest)) :=
  va_alen E.1 E.2.1 E.2.2.2.2.2.1.1 hP q0 0 ha rfl hv hdg kk
theorem x_aldq (E : fx p s m args meth c cc own nL rt D I J O) {ws : va_W} (hP : va_P D vwCl ws H) (q0 : Nat) {n : Nat} {f : Nat → Option Nat} (ha : ws[q0]? = some (a, .inl (O, n, .inr (.inr (.inr (.inr f)))))) {i : Int32} (hin : vp_in i n) (hdg : decode cc pc = .ok (.aaload, 1))
    (kk : W p l e R s m args below meth c H locs cells slots Q (F0 m (pc + 1) ls (va_rf (f i.toNatClampNeg) :: rest))) : W p l e R s m args below meth c H locs cells slots Q (F0 m pc ls (.int i :: .ref a :: rest)) :=
  va_aldq E.1 E.2.1 E.2.2.2.2.2.1.1 hP q0 2 ha rfl hin hdg kk
theorem x_astq (E : fx p s m args meth c cc own nL rt D I J O) {ws : va_W} (hw : fy D A H0 H locs ws) (q0 qk : Nat) {n v : Nat} {vs : List Value} {f : Nat → Option Nat} (ha : ws[q0]? = some (a, .inl (O, n, .inr (.inr (.inr (.inr f)))))) (hv : ws[qk]? = some (v, .inr (3, vs))) {i : Int32} (hin : vp_in i n) (hdg : decode cc pc = .ok (.aastore, 1))
    (kk : ∀ (H1 : Heap) (locs1 : List Loc), fy D A H0 H1 locs1 (ws.set q0 (a, .inl (O, n, .inr (.inr (.inr (.inr (va_up f i.toNatClampNeg (some v)))))))) → W p l e R s m args below meth c H1 locs1 cells slots Q (F0 m (pc + 1) ls rest)) : W p l e R s m args below meth c H locs cells slots Q (F0 m pc ls (.ref v :: .int i :: .ref a :: rest)) :=
  va_astq E.1 E.2.1 E.2.2.2.2.2.1.1 hw.1 hw.2.1 hw.2.2.1 q0 2 qk 3 (r := (RX3, TX3, 7)) ha rfl hv rfl hin hdg (fun H1 locs1 h1 h2 h3 => kk H1 locs1 ⟨h1, h2, h3, hw.2.2.2⟩)
theorem x_copy (E : fx p s m args meth c cc own nL rt D I J O) (hsz : ls.size = nL) {index : Nat} (hlink : Cond.methodLink own index arraycopyName ∈ B0) (hnat : Cond.native arraycopyName ∈ B0) (hstat : Cond.static arraycopyName ∈ B0) (hini : Cond.initialized "java/lang/System" ∈ B0) {ws : va_W} (hw : fy D A H0 H locs ws) (q0 q1 : Nat) {a0 : Nat} {n0 n1 : Nat} {f g : Nat → Int32} (ha0 : ws[q0]? = some (a0, .inl (I, n0, .inl f))) (ha1 : ws[q1]? = some (a, .inl (I, n1, .inl g)))
    {sp dp n : Int32} (hin : ¬ sp < 0 ∧ ¬ dp < 0 ∧ ¬ n < 0 ∧ sp.toNatClampNeg + n.toNatClampNeg ≤ n0 ∧ dp.toNatClampNeg + n.toNatClampNeg ≤ n1) (hframes : 1 ≤ R.frames) (hlocals : (rest.map fun v => v.category).sum + (nativeFrameWords "java/lang/System" "arraycopy" 5 + 11) ≤ R.locals) (hdg : decode cc pc = .ok (.invokestatic index, 3))
    (kk : ∀ (H1 : Heap) (locs1 : List Loc), fy D A H0 H1 locs1 (ws.set q1 (a, .inl (I, n1, .inl (va_cpy f g sp.toNatClampNeg dp.toNatClampNeg n.toNatClampNeg)))) → W p l e R s m args below meth c H1 locs1 cells slots Q (F0 m (pc + 3) ls rest)) : W p l e R s m args below meth c H locs cells slots Q (F0 m pc ls (.int n :: .int dp :: .ref a :: .int sp :: .ref a0 :: rest)) :=
  va_copyi E.1 E.2.1 (E.2.2.1.trans hsz.symm) E.2.2.2.1 (E.2.2.2.2.1 _ hlink) (E.2.2.2.2.1 _ hnat) (E.2.2.2.2.1 _ hstat) (E.2.2.2.2.1 _ hini) E.2.2.2.2.2.1.1 hw.1 hw.2.1 hw.2.2.1 q0 q1 0 0 (ty := .int) ha0 ha1 rfl rfl rfl hin.1 hin.2.1 hin.2.2.1 hin.2.2.2.1 hin.2.2.2.2 (fun _ _ => rfl) hframes hlocals hdg (fun H1 locs1 h1 h2 h3 => kk H1 locs1 ⟨h1, h2, h3, hw.2.2.2⟩)
theorem x_max (E : fx p s m args meth c cc own nL rt D I J O) (hsz : ls.size = nL) {index : Nat} (hlink : Cond.methodLink own index Lib.Math.max.name ∈ B0) (hstat : Cond.static Lib.Math.max.name ∈ B0) (hini : Cond.initialized "java/lang/Math" ∈ B0) (hcode : Cond.code Lib.Math.max.name Lib.Math.max.code 2 (some .int) ∈ B0) (hframes : 1 ≤ R.frames) (hlocals : (rest.map fun v => v.category).sum + 13 ≤ R.locals) (hc : cells ≤ R.cells) (hs : slots ≤ R.slots) {x y : Int32} (hdg : decode cc pc = .ok (.invokestatic index, 3))
    (kk : W p l e R s m args below meth c H locs cells slots Q (F0 m (pc + 3) ls (.int (if x < y then y else x) :: rest))) : W p l e R s m args below meth c H locs cells slots Q (F0 m pc ls (.int y :: .int x :: rest)) :=
  va_mmax E.1 E.2.1 (E.2.2.1.trans hsz.symm) E.2.2.2.1 (E.2.2.2.2.1 _ hlink) (E.2.2.2.2.1 _ hstat) (E.2.2.2.2.1 _ hini) (E.2.2.2.2.1 _ hcode) hframes hlocals hc hs hdg kk
-- runs of a call
variable {y : MethodName} {yc : ByteArray} {yL n : Nat} {yt : Option FieldType} {fr lo mc ms : Nat} {Pc : Array Value → State → Prop} {Qc : Array Value → State → Outcome → State → Prop} {free : Addr → Prop} {b : Addr} {As : List Value} {st0 : List Value} {index : Nat}
theorem x_rV (E : fx p s m args meth c cc own nL rt D I J O) (hM : Met l y (wsB y yc yL yt) (rmB fr lo mc ms) Pc Qc mc ms free) (hbl : FrameBlind Pc) (hrc : ∃ cellB : Cell, H[b]? = some cellB ∧ cellB.vm.isStatics = false ∧ s.vm.findClass y.cls = some cellB.cls) (hPc : ∀ U : State, U.heap = H → s.WarmedH U.vm → Pc (Value.ref b :: As).toArray U) (ok : yV y yc yL yt n) (hml : Cond.methodLink own index y ∈ B0)
    (hn : As.length = n) (hsz : ls.size = nL) (hst : st0 = As.reverse ++ .ref b :: rest) (hro : (rest.map fun v => v.category).sum ≤ 8) (hR : fr + 1 ≤ R.frames ∧ 8 + (yL + 11) + lo ≤ R.locals) (hf : cells + mc ≤ R.cells ∧ slots + ms ≤ R.slots) (hdg : decode cc pc = .ok (.invokevirtual index, 3)) :
    va_Run p l e R s m args below meth c H locs cells slots mc ms (F0 m pc ls st0) rest (Qc (Value.ref b :: As).toArray) free :=
  va_runV ⟨E.1, E.2.1, E.2.2.1, E.2.2.2.1, E.2.2.2.2.1⟩ hM (cwV n E.2.2.2.2.1 (B0_V hml ok.2.2.1 ok.2.2.2.1 ok.2.1 ok.1) rfl rfl rfl ⟨rfl, ok.2.2.2.2⟩ hR) ⟨hbl, hrc, hPc⟩ rfl hn hsz hst (lv_room hro) hdg hf
theorem x_rS (E : fx p s m args meth c cc own nL rt D I J O) (hM : Met l y (wsB y yc yL yt) (rmB fr lo mc ms) Pc Qc mc ms free) (hbl : FrameBlind Pc) (hPc : ∀ U : State, U.heap = H → s.WarmedH U.vm → Pc As.toArray U) (ok : yS y yc yL yt n) (hml : Cond.methodLink own index y ∈ B0)
    (hn : As.length = n) (hsz : ls.size = nL) (hst : st0 = As.reverse ++ rest) (hro : (rest.map fun v => v.category).sum ≤ 8) (hR : fr + 1 ≤ R.frames ∧ 8 + (yL + 11) + lo ≤ R.locals) (hf : cells + mc ≤ R.cells ∧ slots + ms ≤ R.slots) (hdg : decode cc pc = .ok (.invokestatic index, 3)) :
    va_Run p l e R s m args below meth c H locs cells slots mc ms (F0 m pc ls st0) rest (Qc As.toArray) free :=
  va_runS ⟨E.1, E.2.1, E.2.2.1, E.2.2.2.1, E.2.2.2.2.1⟩ hM (va_cwS n E.2.2.2.2.1 (B0_S hml ok.2.2.1 ok.2.1 ok.1) rfl rfl rfl ok.2.2.2 hR) ⟨hbl, hPc⟩ rfl hn hsz hst (lv_room hro) hdg hf
theorem x_rSN {host : String} (E : fx p s m args meth c cc own nL rt D I J O) (hM : Met l y (wsB y yc yL yt) (rmB fr lo mc ms) Pc Qc mc ms free) (hbl : FrameBlind Pc) (hPc : ∀ U : State, U.heap = H → s.WarmedH U.vm → Pc As.toArray U) (ok : yS y yc yL yt n) (hml : va_Nw (.methodLinkNest own index y host) s)
    (hn : As.length = n) (hsz : ls.size = nL) (hst : st0 = As.reverse ++ rest) (hro : (rest.map fun v => v.category).sum ≤ 8) (hR : fr + 1 ≤ R.frames ∧ 8 + (yL + 11) + lo ≤ R.locals) (hf : cells + mc ≤ R.cells ∧ slots + ms ≤ R.slots) (hdg : decode cc pc = .ok (.invokestatic index, 3)) :
    va_Run p l e R s m args below meth c H locs cells slots mc ms (F0 m pc ls st0) rest (Qc As.toArray) free :=
  va_runSN ⟨E.1, E.2.1, E.2.2.1, E.2.2.2.1, E.2.2.2.2.1⟩ hM ⟨va_cnB n E.2.2.2.2.1 (B0_in ok.1) rfl rfl rfl hml (E.2.2.2.2.1 _ ok.2.1) ok.2.2.2 hR, E.2.2.2.2.1 _ ok.2.2.1, trivial⟩ ⟨hbl, hPc⟩ rfl hn hsz hst (lv_room hro) hdg hf
theorem x_rI (E : fx p s m args meth c cc own nL rt D I J O) (hM : Met l y (wsB y yc yL none) (rmB fr lo mc ms) Pc Qc mc ms free) (hbl : FrameBlind Pc) (hPc : ∀ U : State, U.heap = H → s.WarmedH U.vm → Pc (Value.ref b :: As).toArray U) (ok : yI y yc yL n) (hml : Cond.methodLink own index y ∈ B0)
    (hn : As.length = n) (hsz : ls.size = nL) (hst : st0 = As.reverse ++ .ref b :: rest) (hro : (rest.map fun v => v.category).sum ≤ 8) (hR : fr + 1 ≤ R.frames ∧ 8 + (yL + 11) + lo ≤ R.locals) (hf : cells + mc ≤ R.cells ∧ slots + ms ≤ R.slots) (hdg : decode cc pc = .ok (.invokespecial index, 3)) :
    va_Run p l e R s m args below meth c H locs cells slots mc ms (F0 m pc ls st0) rest (Qc (Value.ref b :: As).toArray) free :=
  va_runI ⟨E.1, E.2.1, E.2.2.1, E.2.2.2.1, E.2.2.2.2.1⟩ hM (cwI n E.2.2.2.2.1 (B0_in ok.1) rfl rfl rfl (E.2.2.2.2.1 _ ok.2.1) (E.2.2.2.2.1 _ hml) (E.2.2.2.2.1 _ ok.2.2.1) ok.2.2.2.1 ok.2.2.2.2 hR) ⟨hbl, hPc⟩ rfl hn hsz hst (lv_room hro) hdg hf
theorem x_recv (E : fx p s m args meth c cc own nL rt D I J O) {ws : va_W} (hP : va_P D vwCl ws H) (q0 ci : Nat) {q : vw_C} {fs : List Value} {C : String} (hc : vwCl[ci]? = some q) (he : ws[q0]? = some (b, .inr (ci, fs))) (hC : q.1 = C) : ∃ cellB : Cell, H[b]? = some cellB ∧ cellB.vm.isStatics = false ∧ s.vm.findClass C = some cellB.cls := by
  subst hC
  exact va_recv E.2.2.2.2.2.1.1 hP hc he
theorem x_pcR (E : fx p s m args meth c cc own nL rt D I J O) {wc : va_W} (hP : va_P D vwCl wc H) {Bs : List Value} : ∀ U : State, U.heap = H → s.WarmedH U.vm → pcR D I J O Bs wc Bs.toArray U := fun U hU hW => ⟨rfl, by rw [hU]; exact hP, E.2.2.2.2.2.1.warm hW⟩
theorem x_pcM (E : fx p s m args meth c cc own nL rt D I J O) {wc : va_W} (hP : va_P D vwCl wc H) (hD : va_D A wc) {Bs : List Value} : ∀ U : State, U.heap = H → s.WarmedH U.vm → pcM D I J O H.size Bs wc Bs.toArray U := fun U hU hW => ⟨rfl, by rw [hU], by rw [hU]; exact hP, E.2.2.2.2.2.1.warm hW, hD.weaken (fun _ _ _ _ => trivial)⟩
-- what a reader answers
theorem x_ci {r : Int32} {av : Array Value} (hr : va_Run p l e R s m args below meth c H locs cells slots 0 0 (F0 m pc ls st0) rest (qRi r av) (fun _ => False))
    (kk : W p l e R s m args below meth c H locs cells slots Q (F0 m (pc + 3) ls (.int r :: rest))) : W p l e R s m args below meth c H locs cells slots Q (F0 m pc ls st0) := by
  refine vp_callSi (post := fun x => x = r) (a := av) (fun T hT X => ?_) (fun x hx => by rw [hx]; exact kk)
  obtain ⟨v, st₀, t, T', L, h0, X', hL, e1, -, hq, st⟩ := hr T hT X
  exact ⟨v, st₀, t, T', L, h0, X', hL, e1, hq, st⟩
theorem x_cl {r : Int64} {av : Array Value} (hr : va_Run p l e R s m args below meth c H locs cells slots 0 0 (F0 m pc ls st0) rest (qRl r av) (fun _ => False))
    (kk : W p l e R s m args below meth c H locs cells slots Q (F0 m (pc + 3) ls (.long r :: rest))) : W p l e R s m args below meth c H locs cells slots Q (F0 m pc ls st0) := by
  refine vp_callSl (post := fun x => x = r) (a := av) (fun T hT X => ?_) (fun x hx => by rw [hx]; exact kk)
  obtain ⟨v, st₀, t, T', L, h0, X', hL, e1, -, hq, st⟩ := hr T hT X
  exact ⟨v, st₀, t, T', L, h0, X', hL, e1, hq, st⟩
theorem x_cd {r : UInt64} {av : Array Value} (hr : va_Run p l e R s m args below meth c H locs cells slots 0 0 (F0 m pc ls st0) rest (qRd r av) (fun _ => False))
    (kk : W p l e R s m args below meth c H locs cells slots Q (F0 m (pc + 3) ls (.double r :: rest))) : W p l e R s m args below meth c H locs cells slots Q (F0 m pc ls st0) := by
  refine vp_callSd (post := fun x => x = r) (a := av) (fun T hT X => ?_) (fun x hx => by rw [hx]; exact kk)
  obtain ⟨v, st₀, t, T', L, h0, X', hL, e1, -, hq, st⟩ := hr T hT X
  exact ⟨v, st₀, t, T', L, h0, X', hL, e1, hq, st⟩
-- what a writer leaves: its world anew, the rest as it was
theorem x_free {X pl wc pc9 : va_W} (hw : fy D A H0 H locs (X ++ pl)) (is : List Nat) (hC : is.map (fun i => X[i]?) = wc.map some) (hp : pc9 = [] ∨ pc9 = pl) : ∀ q, va_A (wc ++ pc9) H.size q → A q := by
  intro q h
  rcases h with ⟨k, e, h⟩ | h
  · rcases hp with rfl | rfl
    · have h1 : (wc ++ pl)[k]? = some (q, e) := by
        rw [List.append_nil] at h
        rw [List.getElem?_append_left (List.getElem?_eq_some_iff.mp h).1]
        exact h
      exact hw.2.1.2 _ (q, e) (va_part is hC k (q, e) h1)
    · exact hw.2.1.2 _ (q, e) (va_part is hC k (q, e) h)
  · exact hw.2.2.2 q (Nat.le_trans hw.2.2.1.1 h)
theorem x_freeQ {X pl wc : va_W} (hw : fy D A H0 H locs (X ++ pl)) (is : List Nat) (hC : is.map (fun i => X[i]?) = wc.map some) : ∀ q, va_A wc H.size q → A q := by
  have h := x_free hw is hC (Or.inl rfl)
  rw [List.append_nil] at h
  exact h
theorem x_pcMQ (E : fx p s m args meth c cc own nL rt D I J O) {X pl wc : va_W} (hw : fy D A H0 H locs (X ++ pl)) (is : List Nat) (hn : va_nd is = true) (hC : is.map (fun i => X[i]?) = wc.map some) {Bs : List Value} : ∀ U : State, U.heap = H → s.WarmedH U.vm → pcM D I J O H.size Bs wc Bs.toArray U :=
  x_pcM E (x_pick hw.1 is hC) (by have h := hw.2.1.part is hn hC; exact ⟨fun i j x y hx hy => h.1 i j x y (by rw [List.getElem?_append_left (List.getElem?_eq_some_iff.mp hx).1]; exact hx) (by rw [List.getElem?_append_left (List.getElem?_eq_some_iff.mp hy).1]; exact hy), fun k q hk => h.2 k q (by rw [List.getElem?_append_left (List.getElem?_eq_some_iff.mp hk).1]; exact hk)⟩ : va_D A wc)
theorem x_pcMQ0 (E : fx p s m args meth c cc own nL rt D I J O) {X wc : va_W} (hw : fy D A H0 H locs X) (is : List Nat) (hn : va_nd is = true) (hC : is.map (fun i => X[i]?) = wc.map some) {Bs : List Value} : ∀ U : State, U.heap = H → s.WarmedH U.vm → pcM D I J O H.size Bs wc Bs.toArray U :=
  x_pcMQ (pl := []) E (by rw [List.append_nil]; exact hw) is hn hC
theorem x_pcMP (E : fx p s m args meth c cc own nL rt D I J O) {X pl wc : va_W} (hw : fy D A H0 H locs (X ++ pl)) (is : List Nat) (hn : va_nd is = true) (hC : is.map (fun i => X[i]?) = wc.map some) {Bs : List Value} : ∀ U : State, U.heap = H → s.WarmedH U.vm → pcM D I J O H.size Bs (wc ++ pl) Bs.toArray U :=
  x_pcM E (hw.1.part is hC) (hw.2.1.part is hn hC)
theorem x_mi {S : Type} {w1 : S → va_W} {X pl wc : va_W} {r : Int32} {av : Array Value} (hw : fy D A H0 H locs (X ++ pl)) (is ir : List Nat) (hC : is.map (fun i => X[i]?) = wc.map some) (hRr : ir.map (fun i => X[i]?) = (x_sel X ir).map some) (hnd : va_nd ir = true) (hdis : ∀ i ∈ ir, i ∉ is) (pm : List Nat) (hpn : va_nd pm = true) (X' : S → va_W) (hX : ∀ u, pm.map (fun i => (x_sel X ir ++ w1 u)[i]?) = (X' u).map some)
    (hr : va_Run p l e R s m args below meth c H locs cells slots mc ms (F0 m pc ls st0) rest (qMi D H.size wc r w1 av) (va_A wc H.size))
    (kk : ∀ (u : S) (H1 : Heap) (locs1 : List Loc), fy D A H0 H1 locs1 (X' u ++ pl) → W p l e R s m args below meth c H1 locs1 (cells + mc) (slots + ms) Q (F0 m (pc + 3) ls (.int r :: rest))) : W p l e R s m args below meth c H locs cells slots Q (F0 m pc ls st0) := by
  have hF := x_freeQ hw is hC
  refine va_calli hr hw.2.2.1 (fun q _ h => hF q h) hF (fun x u t H1 locs1 ht hvm hx hB hz hk hS => ?_)
  obtain ⟨hP1, hD1⟩ := hB
  rw [ht] at hP1
  obtain ⟨hP, hD⟩ := va_joinQ hw.1 hw.2.1 is ir hC hRr hnd hdis hk hF hP1 hD1
  rw [hx]
  exact kk u H1 locs1 (fy.part (show fy D A H0 H1 locs1 ((x_sel X ir ++ w1 u) ++ pl) from ⟨hP, hD, hS, hw.2.2.2⟩) pm hpn (hX u))
theorem x_mi0 {S : Type} {w1 : S → va_W} {X wc : va_W} {r : Int32} {av : Array Value} (hw : fy D A H0 H locs X) (is ir : List Nat) (hC : is.map (fun i => X[i]?) = wc.map some) (hRr : ir.map (fun i => X[i]?) = (x_sel X ir).map some) (hnd : va_nd ir = true) (hdis : ∀ i ∈ ir, i ∉ is) (pm : List Nat) (hpn : va_nd pm = true) (X' : S → va_W) (hX : ∀ u, pm.map (fun i => (x_sel X ir ++ w1 u)[i]?) = (X' u).map some)
    (hr : va_Run p l e R s m args below meth c H locs cells slots mc ms (F0 m pc ls st0) rest (qMi D H.size wc r w1 av) (va_A wc H.size))
    (kk : ∀ (u : S) (H1 : Heap) (locs1 : List Loc), fy D A H0 H1 locs1 (X' u) → W p l e R s m args below meth c H1 locs1 (cells + mc) (slots + ms) Q (F0 m (pc + 3) ls (.int r :: rest))) : W p l e R s m args below meth c H locs cells slots Q (F0 m pc ls st0) :=
  x_mi (pl := []) (by rw [List.append_nil]; exact hw) is ir hC hRr hnd hdis pm hpn X' hX hr (fun u H1 locs1 h => kk u H1 locs1 (by rw [List.append_nil] at h; exact h))
/-- the same, where the callee's world has the opaque tail too -/
theorem x_miP {S : Type} {rx pl1 : S → va_W} {X pl wc : va_W} {r : Int32} {av : Array Value} (hw : fy D A H0 H locs (X ++ pl)) (is ir : List Nat) (hC : is.map (fun i => X[i]?) = wc.map some) (hRr : ir.map (fun i => X[i]?) = (x_sel X ir).map some) (hnd : va_nd ir = true) (hdis : ∀ i ∈ ir, i ∉ is) (pm : List Nat) (hpn : va_nd pm = true) (X' : S → va_W) (hX : ∀ u, pm.map (fun i => (x_sel X ir ++ rx u)[i]?) = (X' u).map some)
    (hr : va_Run p l e R s m args below meth c H locs cells slots mc ms (F0 m pc ls st0) rest (qMi D H.size (wc ++ pl) r (fun u => rx u ++ pl1 u) av) (va_A (wc ++ pl) H.size))
    (kk : ∀ (u : S) (H1 : Heap) (locs1 : List Loc), fy D A H0 H1 locs1 (X' u ++ pl1 u) → W p l e R s m args below meth c H1 locs1 (cells + mc) (slots + ms) Q (F0 m (pc + 3) ls (.int r :: rest))) : W p l e R s m args below meth c H locs cells slots Q (F0 m pc ls st0) := by
  have hF := x_free hw is hC (Or.inr rfl)
  refine va_calli hr hw.2.2.1 (fun q _ h => hF q h) hF (fun x u t H1 locs1 ht hvm hx hB hz hk hS => ?_)
  obtain ⟨hP1, hD1⟩ := hB
  rw [ht] at hP1
  obtain ⟨hP, hD⟩ := va_joinP hw.1 hw.2.1 is ir hC hRr hnd hdis hk hF hP1 hD1
  rw [hx]
  exact kk u H1 locs1 (fy.part (show fy D A H0 H1 locs1 ((x_sel X ir ++ rx u) ++ pl1 u) from ⟨hP, hD, hS, hw.2.2.2⟩) pm hpn (hX u))
theorem x_ml {S : Type} {w1 : S → va_W} {X pl wc : va_W} {r : Int64} {av : Array Value} (hw : fy D A H0 H locs (X ++ pl)) (is ir : List Nat) (hC : is.map (fun i => X[i]?) = wc.map some) (hRr : ir.map (fun i => X[i]?) = (x_sel X ir).map some) (hnd : va_nd ir = true) (hdis : ∀ i ∈ ir, i ∉ is) (pm : List Nat) (hpn : va_nd pm = true) (X' : S → va_W) (hX : ∀ u, pm.map (fun i => (x_sel X ir ++ w1 u)[i]?) = (X' u).map some)
    (hr : va_Run p l e R s m args below meth c H locs cells slots mc ms (F0 m pc ls st0) rest (qMl D H.size wc r w1 av) (va_A wc H.size))
    (kk : ∀ (u : S) (H1 : Heap) (locs1 : List Loc), fy D A H0 H1 locs1 (X' u ++ pl) → W p l e R s m args below meth c H1 locs1 (cells + mc) (slots + ms) Q (F0 m (pc + 3) ls (.long r :: rest))) : W p l e R s m args below meth c H locs cells slots Q (F0 m pc ls st0) := by
  have hF := x_freeQ hw is hC
  refine va_calll hr hw.2.2.1 (fun q _ h => hF q h) hF (fun x u t H1 locs1 ht hvm hx hB hz hk hS => ?_)
  obtain ⟨hP1, hD1⟩ := hB
  rw [ht] at hP1
  obtain ⟨hP, hD⟩ := va_joinQ hw.1 hw.2.1 is ir hC hRr hnd hdis hk hF hP1 hD1
  rw [hx]
  exact kk u H1 locs1 (fy.part (show fy D A H0 H1 locs1 ((x_sel X ir ++ w1 u) ++ pl) from ⟨hP, hD, hS, hw.2.2.2⟩) pm hpn (hX u))
theorem x_ml0 {S : Type} {w1 : S → va_W} {X wc : va_W} {r : Int64} {av : Array Value} (hw : fy D A H0 H locs X) (is ir : List Nat) (hC : is.map (fun i => X[i]?) = wc.map some) (hRr : ir.map (fun i => X[i]?) = (x_sel X ir).map some) (hnd : va_nd ir = true) (hdis : ∀ i ∈ ir, i ∉ is) (pm : List Nat) (hpn : va_nd pm = true) (X' : S → va_W) (hX : ∀ u, pm.map (fun i => (x_sel X ir ++ w1 u)[i]?) = (X' u).map some)
    (hr : va_Run p l e R s m args below meth c H locs cells slots mc ms (F0 m pc ls st0) rest (qMl D H.size wc r w1 av) (va_A wc H.size))
    (kk : ∀ (u : S) (H1 : Heap) (locs1 : List Loc), fy D A H0 H1 locs1 (X' u) → W p l e R s m args below meth c H1 locs1 (cells + mc) (slots + ms) Q (F0 m (pc + 3) ls (.long r :: rest))) : W p l e R s m args below meth c H locs cells slots Q (F0 m pc ls st0) :=
  x_ml (pl := []) (by rw [List.append_nil]; exact hw) is ir hC hRr hnd hdis pm hpn X' hX hr (fun u H1 locs1 h => kk u H1 locs1 (by rw [List.append_nil] at h; exact h))
/-- the same, where the callee's world has the opaque tail too -/
theorem x_mlP {S : Type} {rx pl1 : S → va_W} {X pl wc : va_W} {r : Int64} {av : Array Value} (hw : fy D A H0 H locs (X ++ pl)) (is ir : List Nat) (hC : is.map (fun i => X[i]?) = wc.map some) (hRr : ir.map (fun i => X[i]?) = (x_sel X ir).map some) (hnd : va_nd ir = true) (hdis : ∀ i ∈ ir, i ∉ is) (pm : List Nat) (hpn : va_nd pm = true) (X' : S → va_W) (hX : ∀ u, pm.map (fun i => (x_sel X ir ++ rx u)[i]?) = (X' u).map some)
    (hr : va_Run p l e R s m args below meth c H locs cells slots mc ms (F0 m pc ls st0) rest (qMl D H.size (wc ++ pl) r (fun u => rx u ++ pl1 u) av) (va_A (wc ++ pl) H.size))
    (kk : ∀ (u : S) (H1 : Heap) (locs1 : List Loc), fy D A H0 H1 locs1 (X' u ++ pl1 u) → W p l e R s m args below meth c H1 locs1 (cells + mc) (slots + ms) Q (F0 m (pc + 3) ls (.long r :: rest))) : W p l e R s m args below meth c H locs cells slots Q (F0 m pc ls st0) := by
  have hF := x_free hw is hC (Or.inr rfl)
  refine va_calll hr hw.2.2.1 (fun q _ h => hF q h) hF (fun x u t H1 locs1 ht hvm hx hB hz hk hS => ?_)
  obtain ⟨hP1, hD1⟩ := hB
  rw [ht] at hP1
  obtain ⟨hP, hD⟩ := va_joinP hw.1 hw.2.1 is ir hC hRr hnd hdis hk hF hP1 hD1
  rw [hx]
  exact kk u H1 locs1 (fy.part (show fy D A H0 H1 locs1 ((x_sel X ir ++ rx u) ++ pl1 u) from ⟨hP, hD, hS, hw.2.2.2⟩) pm hpn (hX u))
theorem x_mv {S : Type} {w1 : S → va_W} {X pl wc : va_W} {av : Array Value} (hw : fy D A H0 H locs (X ++ pl)) (is ir : List Nat) (hC : is.map (fun i => X[i]?) = wc.map some) (hRr : ir.map (fun i => X[i]?) = (x_sel X ir).map some) (hnd : va_nd ir = true) (hdis : ∀ i ∈ ir, i ∉ is) (pm : List Nat) (hpn : va_nd pm = true) (X' : S → va_W) (hX : ∀ u, pm.map (fun i => (x_sel X ir ++ w1 u)[i]?) = (X' u).map some)
    (hr : va_Run p l e R s m args below meth c H locs cells slots mc ms (F0 m pc ls st0) rest (qMv D H.size wc w1 av) (va_A wc H.size))
    (kk : ∀ (u : S) (H1 : Heap) (locs1 : List Loc), fy D A H0 H1 locs1 (X' u ++ pl) → W p l e R s m args below meth c H1 locs1 (cells + mc) (slots + ms) Q (F0 m (pc + 3) ls rest)) : W p l e R s m args below meth c H locs cells slots Q (F0 m pc ls st0) := by
  have hF := x_freeQ hw is hC
  refine va_callv hr hw.2.2.1 (fun q _ h => hF q h) hF (fun u t H1 locs1 ht hvm hx hB hz hk hS => ?_)
  obtain ⟨hP1, hD1⟩ := hB
  rw [ht] at hP1
  obtain ⟨hP, hD⟩ := va_joinQ hw.1 hw.2.1 is ir hC hRr hnd hdis hk hF hP1 hD1
  exact kk u H1 locs1 (fy.part (show fy D A H0 H1 locs1 ((x_sel X ir ++ w1 u) ++ pl) from ⟨hP, hD, hS, hw.2.2.2⟩) pm hpn (hX u))
theorem x_mv0 {S : Type} {w1 : S → va_W} {X wc : va_W} {av : Array Value} (hw : fy D A H0 H locs X) (is ir : List Nat) (hC : is.map (fun i => X[i]?) = wc.map some) (hRr : ir.map (fun i => X[i]?) = (x_sel X ir).map some) (hnd : va_nd ir = true) (hdis : ∀ i ∈ ir, i ∉ is) (pm : List Nat) (hpn : va_nd pm = true) (X' : S → va_W) (hX : ∀ u, pm.map (fun i => (x_sel X ir ++ w1 u)[i]?) = (X' u).map some)
    (hr : va_Run p l e R s m args below meth c H locs cells slots mc ms (F0 m pc ls st0) rest (qMv D H.size wc w1 av) (va_A wc H.size))
    (kk : ∀ (u : S) (H1 : Heap) (locs1 : List Loc), fy D A H0 H1 locs1 (X' u) → W p l e R s m args below meth c H1 locs1 (cells + mc) (slots + ms) Q (F0 m (pc + 3) ls rest)) : W p l e R s m args below meth c H locs cells slots Q (F0 m pc ls st0) :=
  x_mv (pl := []) (by rw [List.append_nil]; exact hw) is ir hC hRr hnd hdis pm hpn X' hX hr (fun u H1 locs1 h => kk u H1 locs1 (by rw [List.append_nil] at h; exact h))
/-- the same, where the callee's world has the opaque tail too -/
theorem x_mvP {S : Type} {rx pl1 : S → va_W} {X pl wc : va_W} {av : Array Value} (hw : fy D A H0 H locs (X ++ pl)) (is ir : List Nat) (hC : is.map (fun i => X[i]?) = wc.map some) (hRr : ir.map (fun i => X[i]?) = (x_sel X ir).map some) (hnd : va_nd ir = true) (hdis : ∀ i ∈ ir, i ∉ is) (pm : List Nat) (hpn : va_nd pm = true) (X' : S → va_W) (hX : ∀ u, pm.map (fun i => (x_sel X ir ++ rx u)[i]?) = (X' u).map some)
    (hr : va_Run p l e R s m args below meth c H locs cells slots mc ms (F0 m pc ls st0) rest (qMv D H.size (wc ++ pl) (fun u => rx u ++ pl1 u) av) (va_A (wc ++ pl) H.size))
    (kk : ∀ (u : S) (H1 : Heap) (locs1 : List Loc), fy D A H0 H1 locs1 (X' u ++ pl1 u) → W p l e R s m args below meth c H1 locs1 (cells + mc) (slots + ms) Q (F0 m (pc + 3) ls rest)) : W p l e R s m args below meth c H locs cells slots Q (F0 m pc ls st0) := by
  have hF := x_free hw is hC (Or.inr rfl)
  refine va_callv hr hw.2.2.1 (fun q _ h => hF q h) hF (fun u t H1 locs1 ht hvm hx hB hz hk hS => ?_)
  obtain ⟨hP1, hD1⟩ := hB
  rw [ht] at hP1
  obtain ⟨hP, hD⟩ := va_joinP hw.1 hw.2.1 is ir hC hRr hnd hdis hk hF hP1 hD1
  exact kk u H1 locs1 (fy.part (show fy D A H0 H1 locs1 ((x_sel X ir ++ rx u) ++ pl1 u) from ⟨hP, hD, hS, hw.2.2.2⟩) pm hpn (hX u))
-- ends
theorem x_iR (E : fx p s m args meth c cc own nL (some .int) D I J O) {r x : Int32} (hx : x = r) (hdg : decode cc pc = .ok (.ireturn, 1)) : W p l e R s m args below meth c s.heap [] cells slots (MQ below (qRi r) args s cells slots (fun _ => False)) (F0 m pc ls [.int x]) :=
  W.iret E.1 E.2.1 E.2.2.2.2.2.2.1 (fun t ht _ => ⟨x, rfl, hx, ht⟩) (fun q h => nomatch h) hdg E.2.2.2.2.2.2.2
theorem x_zR (E : fx p s m args meth c cc own nL (some .boolean) D I J O) {r x : Int32} (hz : x = 0 ∨ x = 1) (hx : x = r) (hdg : decode cc pc = .ok (.ireturn, 1)) : W p l e R s m args below meth c s.heap [] cells slots (MQ below (qRi r) args s cells slots (fun _ => False)) (F0 m pc ls [.int x]) :=
  W.zret E.1 E.2.1 E.2.2.2.2.2.2.1 (by rcases hz with rfl | rfl <;> rfl) (fun t ht _ => ⟨x, rfl, hx, ht⟩) (fun q h => nomatch h) hdg E.2.2.2.2.2.2.2
theorem x_lR (E : fx p s m args meth c cc own nL (some .long) D I J O) {r x : Int64} (hx : x = r) (hdg : decode cc pc = .ok (.lreturn, 1)) : W p l e R s m args below meth c s.heap [] cells slots (MQ below (qRl r) args s cells slots (fun _ => False)) (F0 m pc ls [.long x]) :=
  W.lret E.1 E.2.1 E.2.2.2.2.2.2.1 (fun t ht _ => ⟨x, rfl, hx, ht⟩) (fun q h => nomatch h) hdg E.2.2.2.2.2.2.2
theorem x_dR (E : fx p s m args meth c cc own nL (some .double) D I J O) {r x : UInt64} (hx : x = r) (hdg : decode cc pc = .ok (.dreturn, 1)) : W p l e R s m args below meth c s.heap [] cells slots (MQ below (qRd r) args s cells slots (fun _ => False)) (F0 m pc ls [.double x]) :=
  W.dret E.1 E.2.1 E.2.2.2.2.2.2.1 (fun t ht _ => ⟨x, rfl, hx, ht⟩) (fun q h => nomatch h) hdg E.2.2.2.2.2.2.2
theorem x_iM {S : Type} {w1 : S → va_W} {ws : va_W} {sz : Nat} (E : fx p s m args meth c cc own nL (some .int) D I J O) (u : S) (hw : fy D (va_A ws sz) s.heap H locs (w1 u)) {r x : Int32} (hx : x = r) (hdg : decode cc pc = .ok (.ireturn, 1)) : W p l e R s m args below meth c H locs cells slots (MQ below (qMi D sz ws r w1) args s cells slots (va_A ws sz)) (F0 m pc ls [.int x]) :=
  W.iret E.1 E.2.1 E.2.2.2.2.2.2.1 (fun t ht _ => ⟨⟨x, u, rfl, hx, by rw [ht]; exact hw.1, hw.2.1⟩, hw.2.2.1.F ht⟩) hw.2.2.1.2.2 hdg E.2.2.2.2.2.2.2
theorem x_zM {S : Type} {w1 : S → va_W} {ws : va_W} {sz : Nat} (E : fx p s m args meth c cc own nL (some .boolean) D I J O) (u : S) (hw : fy D (va_A ws sz) s.heap H locs (w1 u)) {r x : Int32} (hz : x = 0 ∨ x = 1) (hx : x = r) (hdg : decode cc pc = .ok (.ireturn, 1)) : W p l e R s m args below meth c H locs cells slots (MQ below (qMi D sz ws r w1) args s cells slots (va_A ws sz)) (F0 m pc ls [.int x]) :=
  W.zret E.1 E.2.1 E.2.2.2.2.2.2.1 (by rcases hz with rfl | rfl <;> rfl) (fun t ht _ => ⟨⟨x, u, rfl, hx, by rw [ht]; exact hw.1, hw.2.1⟩, hw.2.2.1.F ht⟩) hw.2.2.1.2.2 hdg E.2.2.2.2.2.2.2
theorem x_lM {S : Type} {w1 : S → va_W} {ws : va_W} {sz : Nat} (E : fx p s m args meth c cc own nL (some .long) D I J O) (u : S) (hw : fy D (va_A ws sz) s.heap H locs (w1 u)) {r x : Int64} (hx : x = r) (hdg : decode cc pc = .ok (.lreturn, 1)) : W p l e R s m args below meth c H locs cells slots (MQ below (qMl D sz ws r w1) args s cells slots (va_A ws sz)) (F0 m pc ls [.long x]) :=
  W.lret E.1 E.2.1 E.2.2.2.2.2.2.1 (fun t ht _ => ⟨⟨x, u, rfl, hx, by rw [ht]; exact hw.1, hw.2.1⟩, hw.2.2.1.F ht⟩) hw.2.2.1.2.2 hdg E.2.2.2.2.2.2.2
theorem x_vM {S : Type} {w1 : S → va_W} {ws : va_W} {sz : Nat} (E : fx p s m args meth c cc own nL none D I J O) (u : S) (hw : fy D (va_A ws sz) s.heap H locs (w1 u)) (hdg : decode cc pc = .ok (.return_, 1)) : W p l e R s m args below meth c H locs cells slots (MQ below (qMv D sz ws w1) args s cells slots (va_A ws sz)) (F0 m pc ls []) :=
  W.vret E.1 E.2.1 E.2.2.2.2.2.2.1 (fun t ht _ => ⟨⟨u, rfl, trivial, by rw [ht]; exact hw.1, hw.2.1⟩, hw.2.2.1.F ht⟩) hw.2.2.1.2.2 hdg E.2.2.2.2.2.2.2
-- what is made
theorem x_newi (E : fx p s m args meth c cc own nL rt D I J O) (hac : Cond.arrayClass .int ∈ B0) {ws : va_W} (hw : fy D A H0 H locs ws) {v : Int32} {N : Nat} (hn : ¬ v < 0) (hN : v.toNatClampNeg = N) (hby : N * componentBytes .int ≤ 536870912) (hc : cells + 1 ≤ R.cells) (hs : slots + N ≤ R.slots) (hdg : decode cc pc = .ok (.newarray .int, 2))
    (kk : ∀ (q : Nat) (H1 : Heap), fy D A H0 H1 locs (ws ++ [(q, .inl (I, N, .inl (fun _ => 0)))]) → W p l e R s m args below meth c H1 locs (cells + 1) (slots + N) Q (F0 m (pc + 2) ls (.ref q :: rest))) : W p l e R s m args below meth c H locs cells slots Q (F0 m pc ls (.int v :: rest)) := by
  refine va_newa (atype := .int) (ty := .int) (a0 := (N, .inl (fun _ => 0))) E.1 E.2.1 (E.2.2.2.2.1 _ hac) rfl E.2.2.2.2.2.1.1 hw.1 hw.2.1 hw.2.2.1 hw.2.2.2 (fun cA => rfl) hn hN hby hc hs hdg (fun q cA H1 hK hP hD hS => ?_)
  have h1 : s.vm.findClass ("[" ++ (FieldType.int).toString) = some cA := (hK.2 3 (cA, .int) rfl).2
  have h2 : s.vm.findClass ("[" ++ (FieldType.int).toString) = some I := (E.2.2.2.2.2.1.1.2 0 (I, .int) rfl).2
  have h3 : cA = I := Option.some.inj (h1.symm.trans h2)
  subst h3
  exact kk q H1 ⟨hP, hD, hS, hw.2.2.2⟩
theorem x_newl (E : fx p s m args meth c cc own nL rt D I J O) (hac : Cond.arrayClass .long ∈ B0) {ws : va_W} (hw : fy D A H0 H locs ws) {v : Int32} {N : Nat} (hn : ¬ v < 0) (hN : v.toNatClampNeg = N) (hby : N * componentBytes .long ≤ 536870912) (hc : cells + 1 ≤ R.cells) (hs : slots + N ≤ R.slots) (hdg : decode cc pc = .ok (.newarray .long, 2))
    (kk : ∀ (q : Nat) (H1 : Heap), fy D A H0 H1 locs (ws ++ [(q, .inl (J, N, .inr (.inl (fun _ => 0))))]) → W p l e R s m args below meth c H1 locs (cells + 1) (slots + N) Q (F0 m (pc + 2) ls (.ref q :: rest))) : W p l e R s m args below meth c H locs cells slots Q (F0 m pc ls (.int v :: rest)) := by
  refine va_newa (atype := .long) (ty := .long) (a0 := (N, .inr (.inl (fun _ => 0)))) E.1 E.2.1 (E.2.2.2.2.1 _ hac) rfl E.2.2.2.2.2.1.1 hw.1 hw.2.1 hw.2.2.1 hw.2.2.2 (fun cA => rfl) hn hN hby hc hs hdg (fun q cA H1 hK hP hD hS => ?_)
  have h1 : s.vm.findClass ("[" ++ (FieldType.long).toString) = some cA := (hK.2 3 (cA, .long) rfl).2
  have h2 : s.vm.findClass ("[" ++ (FieldType.long).toString) = some J := (E.2.2.2.2.2.1.1.2 1 (J, .long) rfl).2
  have h3 : cA = J := Option.some.inj (h1.symm.trans h2)
  subst h3
  exact kk q H1 ⟨hP, hD, hS, hw.2.2.2⟩
theorem x_newo (E : fx p s m args meth c cc own nL rt D I J O) (hcl : Cond.classLink own index RX3 ∈ B0) {ws : va_W} (hw : fy D A H0 H locs ws) {v : Int32} {N : Nat} (hn : ¬ v < 0) (hN : v.toNatClampNeg = N) (hby : N * 4 ≤ 536870912) (hc : cells + 1 ≤ R.cells) (hs : slots + N ≤ R.slots) (hdg : decode cc pc = .ok (.anewarray index, 3))
    (kk : ∀ (q : Nat) (H1 : Heap), fy D A H0 H1 locs (ws ++ [(q, .inl (O, N, .inr (.inr (.inr (.inr (fun _ => none))))))]) → W p l e R s m args below meth c H1 locs (cells + 1) (slots + N) Q (F0 m (pc + 3) ls (.ref q :: rest))) : W p l e R s m args below meth c H locs cells slots Q (F0 m pc ls (.int v :: rest)) := by
  refine va_newq (C := RX3) E.1 E.2.1 E.2.2.2.1 (E.2.2.2.2.1 _ hcl) E.2.2.2.2.2.1.2.1 E.2.2.2.2.2.1.1 hw.1 hw.2.1 hw.2.2.1 hw.2.2.2 hn hN hby hc hs hdg (fun q cA H1 hK hP hD hS => ?_)
  obtain ⟨-, -, -, -, -, h1⟩ := (hK.2 3 (cA, .object RX3) rfl).2
  obtain ⟨-, -, -, -, -, h2⟩ := (E.2.2.2.2.2.1.1.2 2 (O, .object RX3) rfl).2
  have h3 : cA = O := Option.some.inj (h1.symm.trans h2)
  subst h3
  exact kk q H1 ⟨hP, hD, hS, hw.2.2.2⟩
theorem x_new (E : fx p s m args meth c cc own nL rt D I J O) {ws : va_W} (hw : fy D A H0 H locs ws) {C : String} {T : u_T} {N ci : Nat} (hc0 : vwCl[ci]? = some (C, T, N)) (hin : ∀ w ∈ u_ws C T N, w ∈ B0) {ty : Nat → FieldType} (hty : ∀ k, k < N → parseFieldDescriptor (T k).2.2.1 = some (ty k)) (hcl : Cond.classLink own index C ∈ B0) (hinst : Cond.instantiable C N ∈ B0) (hini : Cond.initialized C ∈ B0) {fs : List Value} (hfs : ∀ j, j < N → defaultValue (ty j) = vp_V fs j) (hc : cells + 1 ≤ R.cells) (hs : slots + N ≤ R.slots) (hdg : decode cc pc = .ok (.new index, 3))
    (kk : ∀ (q : Nat) (H1 : Heap), fy D A H0 H1 locs (ws ++ [(q, .inr (ci, fs))]) → W p l e R s m args below meth c H1 locs (cells + 1) (slots + N) Q (F0 m (pc + 3) ls (.ref q :: rest))) : W p l e R s m args below meth c H locs cells slots Q (F0 m pc ls rest) :=
  va_new E.1 E.2.1 E.2.2.2.2.1 hin ty hty E.2.2.2.1 (E.2.2.2.2.1 _ hcl) (E.2.2.2.2.1 _ hinst) (E.2.2.2.2.1 _ hini) E.2.2.2.2.2.1.1 hw.1 hw.2.1 hw.2.2.1 hw.2.2.2 hc0 hfs hc hs hdg (fun q H1 hP hD hS => kk q H1 ⟨hP, hD, hS, hw.2.2.2⟩)
theorem x_objI (E : fx p s m args meth c cc own nL rt D I J O) (hsz : ls.size = nL) (hlink : Cond.methodLink own index objectInit ∈ B0) (hinst : Cond.instanceMethod objectInit ∈ B0) (hcode : Cond.code objectInit object_method_1_code 1 none ∈ B0) (hcats : (rest.map fun v => v.category).sum + 12 ≤ R.locals) (hfr : 1 ≤ R.frames) (hdg : decode cc pc = .ok (.invokespecial index, 3))
    (kk : W p l e R s m args below meth c H locs cells slots Q (F0 m (pc + 3) ls rest)) : W p l e R s m args below meth c H locs cells slots Q (F0 m pc ls (.ref a :: rest)) :=
  W.objInit (g := F0 m pc ls (.ref a :: rest)) E.1 E.2.1 E.2.2.2.1 (E.2.2.2.2.1 _ hlink) (E.2.2.2.2.1 _ hinst) (E.2.2.2.2.1 _ hcode) rfl (by rw [E.2.2.1]; exact hsz) rfl hdg hfr (by simpa [JFrame.monitorRoom] using hcats) kk
end
end
section
/-! The pure side: what an object holds, as tuples; guards; and the worlds that hold them. -/
abbrev Fn := Nat → Int32
abbrev FnL := Nat → Int64
/-- Slots: cells, stamps, owners, sizes, values, kinds, fired -/
abbrev SlC := Int32 × Fn × Fn × Fn × Fn × Fn × Fn
/-- Row: length, entries, stands -/
abbrev RwC := Int32 × Fn × Fn
/-- State: slots, row, toFire, events, thingsPut, thingsRemoved, thingsMoved -/
abbrev StC := SlC × RwC × Fn × Int32 × Int32 × Int32 × Int32
/-- ThingText: codes, length -/
abbrev TxC := Fn × Int32
/-- History: the saved states by their places, length -/
abbrev HiC := (Nat → StC) × Int32
/-- StampedSlots: now, trial, history, buffer -/
abbrev ClC := StC × StC × HiC × TxC
/-- the model: thrown, now, then, past, states, buffer, length, spot, told, toldMany, hash -/
abbrev MdC := Int32 × Fn × Fn × Fn × Int32 × Fn × Int32 × Int32 × Fn × Int32 × Int64
/-- how often a loop may turn -/
def FU : Nat := 6000
def gi {α : Type} (i : Int32) (n : Nat) (k : Option α) : Option α := if ¬ (i < 0 ∨ n ≤ i.toNatClampNeg) then k else none
def gd {α : Type} (y : Int32) (k : Option α) : Option α := if ¬ y = 0 then k else none
def gz {α : Type} (v : Int32) (k : Option α) : Option α := if v = 0 ∨ v = 1 then k else none
def gf {α : Type} (x : UInt64) (k : Option α) : Option α := if x &&& 0x7fffffffffffffff ≤ 0x7ff0000000000000 then k else none
def gcp {α : Type} (sp dp n : Int32) (n0 n1 : Nat) (k : Option α) : Option α := if ¬ sp < 0 ∧ ¬ dp < 0 ∧ ¬ n < 0 ∧ sp.toNatClampNeg + n.toNatClampNeg ≤ n0 ∧ dp.toNatClampNeg + n.toNatClampNeg ≤ n1 then k else none
/-- what a call that may throw returns -/
def rt {α β : Type} (o : Option (Nat ⊕ α)) (k : α → Option β) : Option β := match o with
  | some (.inr v) => k v
  | _ => none
/-- .. and what is done where it throws -/
def ct {α β : Type} (o : Option (Nat ⊕ α)) (k : α → Option β) (x : Nat → Option β) : Option β := match o with
  | some (.inr v) => k v
  | some (.inl n) => x n
  | none => none
section
variable {α β : Type} {o : β}
theorem gi_s {i : Int32} {n : Nat} {k : Option β} (h : gi i n k = some o) : vp_in i n ∧ k = some o := by
  unfold gi at h
  by_cases c : ¬ (i < 0 ∨ n ≤ i.toNatClampNeg)
  · rw [if_pos c] at h; exact ⟨c, h⟩
  · rw [if_neg c] at h; cases h
theorem gd_s {y : Int32} {k : Option β} (h : gd y k = some o) : ¬ y = 0 ∧ k = some o := by
  unfold gd at h
  by_cases c : ¬ y = 0
  · rw [if_pos c] at h; exact ⟨c, h⟩
  · rw [if_neg c] at h; cases h
theorem gz_s {y : Int32} {k : Option β} (h : gz y k = some o) : (y = 0 ∨ y = 1) ∧ k = some o := by
  unfold gz at h
  by_cases c : y = 0 ∨ y = 1
  · rw [if_pos c] at h; exact ⟨c, h⟩
  · rw [if_neg c] at h; cases h
theorem gf_s {x : UInt64} {k : Option β} (h : gf x k = some o) : vf_n64 x ∧ k = some o := by
  unfold gf at h
  by_cases c : x &&& 0x7fffffffffffffff ≤ 0x7ff0000000000000
  · rw [if_pos c] at h; exact ⟨c, h⟩
  · rw [if_neg c] at h; cases h
theorem gcp_s {sp dp n : Int32} {n0 n1 : Nat} {k : Option β} (h : gcp sp dp n n0 n1 k = some o) : (¬ sp < 0 ∧ ¬ dp < 0 ∧ ¬ n < 0 ∧ sp.toNatClampNeg + n.toNatClampNeg ≤ n0 ∧ dp.toNatClampNeg + n.toNatClampNeg ≤ n1) ∧ k = some o := by
  unfold gcp at h
  by_cases c : ¬ sp < 0 ∧ ¬ dp < 0 ∧ ¬ n < 0 ∧ sp.toNatClampNeg + n.toNatClampNeg ≤ n0 ∧ dp.toNatClampNeg + n.toNatClampNeg ≤ n1
  · rw [if_pos c] at h; exact ⟨c, h⟩
  · rw [if_neg c] at h; cases h
theorem bd_s {r : Option α} {k : α → Option β} (h : Option.bind r k = some o) : ∃ v, r = some v ∧ k v = some o := by
  cases r with
  | none => cases h
  | some v => exact ⟨v, rfl, h⟩
theorem rt_s {r : Option (Nat ⊕ α)} {k : α → Option β} (h : rt r k = some o) : ∃ v, r = some (.inr v) ∧ k v = some o := by
  cases r with
  | none => cases h
  | some v => cases v with
    | inl n => cases h
    | inr v => exact ⟨v, rfl, h⟩
end
-- switches
theorem sw_out {x : Int32} {lo hi : Int} (h : ∀ k : Int, lo ≤ k → k ≤ hi → x.toInt ≠ k) : x.toInt < lo ∨ hi < x.toInt := by
  rcases Int.lt_or_le x.toInt lo with q | q
  · exact Or.inl q
  · rcases Int.lt_or_le hi x.toInt with r | r
    · exact Or.inr r
    · exact absurd rfl (h x.toInt q r)
-- worlds
section
variable (I J O : ClassId)
abbrev wAr (a : Nat) (n : Nat) (f : Fn) : va_W := [(a, .inl (I, n, .inl f))]
abbrev wLo (a : Nat) (n : Nat) (f : FnL) : va_W := [(a, .inl (J, n, .inr (.inl f)))]
abbrev wSl (a0 a1 a2 a3 a4 a5 a6 : Nat) (x : SlC) : va_W := [(a0, .inr (2, [.int x.1, .ref a1, .ref a2, .ref a3, .ref a4, .ref a5, .ref a6])), (a1, .inl (I, 64, .inl x.2.1)), (a2, .inl (I, 64, .inl x.2.2.1)), (a3, .inl (I, 64, .inl x.2.2.2.1)), (a4, .inl (I, 64, .inl x.2.2.2.2.1)), (a5, .inl (I, 64, .inl x.2.2.2.2.2.1)), (a6, .inl (I, 64, .inl x.2.2.2.2.2.2))]
abbrev wRw (a0 a1 a2 : Nat) (x : RwC) : va_W := [(a0, .inr (1, [.int x.1, .ref a1, .ref a2])), (a1, .inl (I, 68, .inl x.2.1)), (a2, .inl (I, 4, .inl x.2.2))]
abbrev wTx (a0 a1 : Nat) (x : TxC) : va_W := [(a0, .inr (4, [.ref a1, .int x.2])), (a1, .inl (I, 60, .inl x.1))]
abbrev wSt (n : Nat → Nat) (x : StC) : va_W := [(n 0, .inr (3, [.ref (n 1), .ref (n 8), .ref (n 11), .int x.2.2.2.1, .int x.2.2.2.2.1, .int x.2.2.2.2.2.1, .int x.2.2.2.2.2.2])),
  (n 1, .inr (2, [.int x.1.1, .ref (n 2), .ref (n 3), .ref (n 4), .ref (n 5), .ref (n 6), .ref (n 7)])), (n 2, .inl (I, 64, .inl x.1.2.1)), (n 3, .inl (I, 64, .inl x.1.2.2.1)), (n 4, .inl (I, 64, .inl x.1.2.2.2.1)), (n 5, .inl (I, 64, .inl x.1.2.2.2.2.1)), (n 6, .inl (I, 64, .inl x.1.2.2.2.2.2.1)), (n 7, .inl (I, 64, .inl x.1.2.2.2.2.2.2)),
  (n 8, .inr (1, [.int x.2.1.1, .ref (n 9), .ref (n 10)])), (n 9, .inl (I, 68, .inl x.2.1.2.1)), (n 10, .inl (I, 4, .inl x.2.1.2.2)), (n 11, .inl (I, 64, .inl x.2.2.1))]
abbrev wMd (a0 a1 a2 a3 a4 a5 : Nat) (x : MdC) : va_W := [(a0, .inr (6, [.int x.1, .ref a1, .ref a2, .ref a3, .int x.2.2.2.2.1, .ref a4, .int x.2.2.2.2.2.2.1, .int x.2.2.2.2.2.2.2.1, .ref a5, .int x.2.2.2.2.2.2.2.2.2.1, .long x.2.2.2.2.2.2.2.2.2.2])),
  (a1, .inl (I, 414, .inl x.2.1)), (a2, .inl (I, 414, .inl x.2.2.1)), (a3, .inl (I, 2484, .inl x.2.2.2.1)), (a4, .inl (I, 60, .inl x.2.2.2.2.2.1)), (a5, .inl (I, 63, .inl x.2.2.2.2.2.2.2.2.1))]
end
theorem q_max : Cond.code Lib.Math.max.name Lib.Math.max.code 2 (some .int) ∈ B0 := B0_of (List.mem_append_right _ (by decide +kernel)) (by decide +kernel)
end
section
def f_X2_copyFrom (x : SlC) (o : SlC) : Option (SlC) :=
  gcp 0 0 64 64 64 <|
  gcp 0 0 64 64 64 <|
  gcp 0 0 64 64 64 <|
  gcp 0 0 64 64 64 <|
  gcp 0 0 64 64 64 <|
  gcp 0 0 64 64 64 <|
  some (o.1, (va_cpy o.2.1 x.2.1 (0 : Int32).toNatClampNeg (0 : Int32).toNatClampNeg (64 : Int32).toNatClampNeg), (va_cpy o.2.2.1 x.2.2.1 (0 : Int32).toNatClampNeg (0 : Int32).toNatClampNeg (64 : Int32).toNatClampNeg), (va_cpy o.2.2.2.1 x.2.2.2.1 (0 : Int32).toNatClampNeg (0 : Int32).toNatClampNeg (64 : Int32).toNatClampNeg), (va_cpy o.2.2.2.2.1 x.2.2.2.2.1 (0 : Int32).toNatClampNeg (0 : Int32).toNatClampNeg (64 : Int32).toNatClampNeg), (va_cpy o.2.2.2.2.2.1 x.2.2.2.2.2.1 (0 : Int32).toNatClampNeg (0 : Int32).toNatClampNeg (64 : Int32).toNatClampNeg), (va_cpy o.2.2.2.2.2.2 x.2.2.2.2.2.2 (0 : Int32).toNatClampNeg (0 : Int32).toNatClampNeg (64 : Int32).toNatClampNeg))
def f_X2_isCell (p0 : Int32) (x : SlC) : Option (Int32) :=
  if p0 < 0 then
    some 0
  else
    if x.1 ≤ p0 then
      some 0
    else
      if 64 ≤ p0 then
        some 0
      else
        some 1
def f_X2_cellsNow (x : SlC) : Option (Int32) :=
  some x.1
def f_X2_stampAt (p0 : Int32) (x : SlC) : Option (Int32) :=
  Option.bind (f_X2_isCell p0 x) fun z1 =>
  if z1 = 0 then
    some 0
  else
    gi p0 64 <|
    some (x.2.1 p0.toNatClampNeg)
def f_X2_ownerOf (p0 : Int32) (x : SlC) : Option (Int32) :=
  Option.bind (f_X2_isCell p0 x) fun z1 =>
  if z1 = 0 then
    some (-1)
  else
    gi p0 64 <|
    some (x.2.2.1 p0.toNatClampNeg)
def f_X2_sizeAt (p0 : Int32) (x : SlC) : Option (Int32) :=
  Option.bind (f_X2_isCell p0 x) fun z1 =>
  if z1 = 0 then
    some 0
  else
    gi p0 64 <|
    some (x.2.2.2.1 p0.toNatClampNeg)
def f_X2_valueAt (p0 : Int32) (x : SlC) : Option (Int32) :=
  Option.bind (f_X2_isCell p0 x) fun z1 =>
  if z1 = 0 then
    some 0
  else
    gi p0 64 <|
    some (x.2.2.2.2.1 p0.toNatClampNeg)
def f_X2_kindAt (p0 : Int32) (x : SlC) : Option (Int32) :=
  Option.bind (f_X2_isCell p0 x) fun z1 =>
  if z1 = 0 then
    some 0
  else
    gi p0 64 <|
    some (x.2.2.2.2.2.1 p0.toNatClampNeg)
def f_X2_timesFired (p0 : Int32) (x : SlC) : Option (Int32) :=
  Option.bind (f_X2_isCell p0 x) fun z1 =>
  if z1 = 0 then
    some 0
  else
    gi p0 64 <|
    some (x.2.2.2.2.2.2 p0.toNatClampNeg)
def f_X2_handleOf (p0 : Int32) (x : SlC) : Option (Int32) :=
  Option.bind (f_X2_isCell p0 x) fun z1 =>
  if z1 = 0 then
    some (-1)
  else
    gi p0 64 <|
    some ((p0 * 1000) + (x.2.1 p0.toNatClampNeg))
def f_X2_whyRefused (p0 : Int32) (x : SlC) : Option (Int32) :=
  if p0 < 0 then
    some 1
  else
    Option.bind (f_X2_isCell (p0 / 1000) x) fun z1 =>
    if z1 = 0 then
      some 1
    else
      Option.bind (f_X2_stampAt (p0 / 1000) x) fun z2 =>
      if z2 = (p0 - p0 / 1000 * 1000) then
        Option.bind (f_X2_sizeAt (p0 / 1000) x) fun z3 =>
        if z3 = 0 then
          some 3
        else
          some 0
      else
        some 2
def f_X2_lowestFor_27 (k4 : Int32 → Int32 → Int32 → SlC → Option (Int32)) (v1 : Int32) (v3 : Int32) (t0 : Int32) (x : SlC) : Option (Int32) :=
  if t0 = v1 then
    some ((v3 - v1) + 1)
  else
    k4 v1 t0 (v3 + 1) x
def f_X2_lowestFor_4 : Nat → Int32 → Int32 → Int32 → SlC → Option (Int32)
  | 0, _, _, _, _ => none
  | n + 1, v1, v2, v3, x =>
    if 64 ≤ v3 then
      some (-1)
    else
      gi v3 64 <|
      if (x.2.2.1 v3.toNatClampNeg) = (-1) then
        f_X2_lowestFor_27 (f_X2_lowestFor_4 n) v1 v3 (v2 + 1) x
      else
        f_X2_lowestFor_27 (f_X2_lowestFor_4 n) v1 v3 0 x
def f_X2_lowestFor (p0 : Int32) (x : SlC) : Option (Int32) :=
  f_X2_lowestFor_4 FU p0 0 0 x
def f_X2_growTo_2 : Nat → Int32 → Int32 → SlC → Option (SlC)
  | 0, _, _, _ => none
  | n + 1, v1, v2, x =>
    if 2 ≤ v2 then
      some x
    else
      if v1 ≤ x.1 then
        f_X2_growTo_2 n v1 (v2 + 1) x
      else
        if 64 ≤ x.1 then
          f_X2_growTo_2 n v1 (v2 + 1) x
        else
          f_X2_growTo_2 n v1 (v2 + 1) (2 * x.1, x.2)
def f_X2_growTo (p0 : Int32) (x : SlC) : Option (SlC) :=
  f_X2_growTo_2 FU p0 0 x
def f_X2_giveCells_3 : Nat → Int32 → Int32 → Int32 → Int32 → SlC → Option (SlC)
  | 0, _, _, _, _, _ => none
  | n + 1, v1, v2, v3, v4, x =>
    if (v1 + v2) ≤ v4 then
      some x
    else
      Option.bind (f_X2_isCell v4 x) fun z1 =>
      if z1 = 0 then
        f_X2_giveCells_3 n v1 v2 v3 (v4 + 1) x
      else
        gi v4 64 <|
        f_X2_giveCells_3 n v1 v2 v3 (v4 + 1) (x.1, x.2.1, (upd x.2.2.1 v4.toNatClampNeg v3), x.2.2.2)
def f_X2_giveCells (p0 : Int32) (p1 : Int32) (p2 : Int32) (x : SlC) : Option (SlC) :=
  f_X2_giveCells_3 FU p0 p1 p2 p0 x
def f_X2_occupy (p0 : Int32) (p1 : Int32) (p2 : Int32) (p3 : Int32) (x : SlC) : Option (SlC) :=
  Option.bind (f_X2_growTo (p0 + p2) x) fun z1 =>
  Option.bind (f_X2_isCell p0 z1) fun z2 =>
  if z2 = 0 then
    some z1
  else
    gi p0 64 <|
    gi p0 64 <|
    gi p0 64 <|
    gi p0 64 <|
    Option.bind (f_X2_giveCells p0 p2 p0 (z1.1, z1.2.1, z1.2.2.1, (upd z1.2.2.2.1 p0.toNatClampNeg p2), (upd z1.2.2.2.2.1 p0.toNatClampNeg p1), (upd z1.2.2.2.2.2.1 p0.toNatClampNeg p3), (upd z1.2.2.2.2.2.2 p0.toNatClampNeg 0))) fun z3 =>
    some z3
def f_X2_release (p0 : Int32) (x : SlC) : Option (SlC) :=
  Option.bind (f_X2_isCell p0 x) fun z1 =>
  if z1 = 0 then
    some x
  else
    gi p0 64 <|
    Option.bind (f_X2_giveCells p0 (x.2.2.2.1 p0.toNatClampNeg) (-1) x) fun z2 =>
    gi p0 64 <|
    gi p0 64 <|
    gi p0 64 <|
    some (z2.1, (upd z2.2.1 p0.toNatClampNeg (((z2.2.1 p0.toNatClampNeg) + 1) - ((z2.2.1 p0.toNatClampNeg) + 1) / 1000 * 1000)), z2.2.2.1, (upd z2.2.2.2.1 p0.toNatClampNeg 0), z2.2.2.2.2)
def f_X2_setTimesFired (p0 : Int32) (p1 : Int32) (x : SlC) : Option (SlC) :=
  Option.bind (f_X2_isCell p0 x) fun z1 =>
  if z1 = 0 then
    some x
  else
    gi p0 64 <|
    some (x.1, x.2.1, x.2.2.1, x.2.2.2.1, x.2.2.2.2.1, x.2.2.2.2.2.1, (upd x.2.2.2.2.2.2 p0.toNatClampNeg p1))
def f_X2_carry (p0 : Int32) (p1 : Int32) (x : SlC) : Option (SlC) :=
  Option.bind (f_X2_valueAt p0 x) fun z1 =>
  Option.bind (f_X2_sizeAt p0 x) fun z2 =>
  Option.bind (f_X2_kindAt p0 x) fun z3 =>
  Option.bind (f_X2_timesFired p0 x) fun z4 =>
  Option.bind (f_X2_release p0 x) fun z5 =>
  Option.bind (f_X2_occupy p1 z1 z2 z3 z5) fun z6 =>
  Option.bind (f_X2_setTimesFired p1 z4 z6) fun z7 =>
  some z7
def f_X2_setValue (p0 : Int32) (p1 : Int32) (x : SlC) : Option (SlC) :=
  Option.bind (f_X2_isCell p0 x) fun z1 =>
  if z1 = 0 then
    some x
  else
    gi p0 64 <|
    some (x.1, x.2.1, x.2.2.1, x.2.2.2.1, (upd x.2.2.2.2.1 p0.toNatClampNeg p1), x.2.2.2.2.2)
def f_X2_roomFor_33 (k7 : Int32 → Int32 → Int32 → Int32 → SlC → Option (Int32)) (v1 : Int32) (v2 : Int32) (v4 : Int32) (t0 : Int32) (x : SlC) : Option (Int32) :=
  if t0 = v1 then
    k7 v1 (v2 + 1) 0 (v4 + 1) x
  else
    k7 v1 v2 t0 (v4 + 1) x
def f_X2_roomFor_7 : Nat → Int32 → Int32 → Int32 → Int32 → SlC → Option (Int32)
  | 0, _, _, _, _, _ => none
  | n + 1, v1, v2, v3, v4, x =>
    if x.1 ≤ v4 then
      some v2
    else
      Option.bind (f_X2_ownerOf v4 x) fun z1 =>
      if z1 = (-1) then
        f_X2_roomFor_33 (f_X2_roomFor_7 n) v1 v2 v4 (v3 + 1) x
      else
        f_X2_roomFor_33 (f_X2_roomFor_7 n) v1 v2 v4 0 x
def f_X2_roomFor (p0 : Int32) (x : SlC) : Option (Int32) :=
  f_X2_roomFor_7 FU p0 0 0 0 x
def f_X2_freeCells (x : SlC) : Option (Int32) :=
  Option.bind (f_X2_roomFor 1 x) fun z1 =>
  some z1
def f_X2_sumOfValues_4 : Nat → Int32 → Int32 → SlC → Option (Int32)
  | 0, _, _, _ => none
  | n + 1, v1, v2, x =>
    if x.1 ≤ v2 then
      some v1
    else
      Option.bind (f_X2_sizeAt v2 x) fun z1 =>
      if z1 ≤ 0 then
        f_X2_sumOfValues_4 n v1 (v2 + 1) x
      else
        Option.bind (f_X2_valueAt v2 x) fun z2 =>
        f_X2_sumOfValues_4 n (v1 + z2) (v2 + 1) x
def f_X2_sumOfValues (x : SlC) : Option (Int32) :=
  f_X2_sumOfValues_4 FU 0 0 x
def f_X2_longestGap_30 (k6 : Int32 → Int32 → Int32 → SlC → Option (Int32)) (v1 : Int32) (v3 : Int32) (t0 : Int32) (x : SlC) : Option (Int32) :=
  k6 (if v1 < t0 then t0 else v1) t0 (v3 + 1) x
def f_X2_longestGap_6 : Nat → Int32 → Int32 → Int32 → SlC → Option (Int32)
  | 0, _, _, _, _ => none
  | n + 1, v1, v2, v3, x =>
    if x.1 ≤ v3 then
      some v1
    else
      Option.bind (f_X2_ownerOf v3 x) fun z1 =>
      if z1 = (-1) then
        f_X2_longestGap_30 (f_X2_longestGap_6 n) v1 v3 (v2 + 1) x
      else
        f_X2_longestGap_30 (f_X2_longestGap_6 n) v1 v3 0 x
def f_X2_longestGap (x : SlC) : Option (Int32) :=
  f_X2_longestGap_6 FU 0 0 0 x
def f_X2_beginOfLongestGap_35 (k9 : Int32 → Int32 → Int32 → Int32 → SlC → Option (Int32)) (v1 : Int32) (v2 : Int32) (v4 : Int32) (t0 : Int32) (x : SlC) : Option (Int32) :=
  if t0 ≤ v1 then
    k9 v1 v2 t0 (v4 + 1) x
  else
    k9 t0 ((v4 - t0) + 1) t0 (v4 + 1) x
def f_X2_beginOfLongestGap_9 : Nat → Int32 → Int32 → Int32 → Int32 → SlC → Option (Int32)
  | 0, _, _, _, _, _ => none
  | n + 1, v1, v2, v3, v4, x =>
    if x.1 ≤ v4 then
      some v2
    else
      Option.bind (f_X2_ownerOf v4 x) fun z1 =>
      if z1 = (-1) then
        f_X2_beginOfLongestGap_35 (f_X2_beginOfLongestGap_9 n) v1 v2 v4 (v3 + 1) x
      else
        f_X2_beginOfLongestGap_35 (f_X2_beginOfLongestGap_9 n) v1 v2 v4 0 x
def f_X2_beginOfLongestGap (x : SlC) : Option (Int32) :=
  f_X2_beginOfLongestGap_9 FU 0 (-1) 0 0 x
end
section
theorem ok_X2_copyFrom : yV yX2_copyFrom cX2_copyFrom 2 none 1 := ⟨q165, q3, q163, q164, by decide +kernel, by decide +kernel, by decide +kernel⟩
set_option maxRecDepth 100000 in
set_option maxHeartbeats 4000000 in
theorem mt_X2_copyFrom (l : Launch) (D : va_G) (I J O : ClassId) (a0 a1 a2 a3 a4 a5 a6 : Nat) (b0 b1 b2 b3 b4 b5 b6 : Nat) (sz : Nat)  (x : SlC) (o : SlC) (y0 : SlC) (hf : f_X2_copyFrom x o = some y0) : mM l yX2_copyFrom cX2_copyFrom 2 none 1 18 0 0 D I J O sz [.ref a0, .ref b0] (wSl I a0 a1 a2 a3 a4 a5 a6 x ++ wSl I b0 b1 b2 b3 b4 b5 b6 o) (qMv D sz (wSl I a0 a1 a2 a3 a4 a5 a6 x ++ wSl I b0 b1 b2 b3 b4 b5 b6 o) (fun _ : Unit => wSl I a0 a1 a2 a3 a4 a5 a6 y0 ++ wSl I b0 b1 b2 b3 b4 b5 b6 o)) := by
  refine mM_open (own := RX2) rfl (by decide +kernel) (Nat.le_of_ble_eq_true rfl) (fun p e s m below meth c ls E hnm hsz hw hl => ?_)
  obtain ⟨ws0, hws⟩ : ∃ ws0 : va_W, ws0 = wSl I a0 a1 a2 a3 a4 a5 a6 x ++ wSl I b0 b1 b2 b3 b4 b5 b6 o := ⟨_, rfl⟩
  have hw : fy D (va_A ws0 sz) s.heap s.heap [] (wSl I a0 a1 a2 a3 a4 a5 a6 x ++ wSl I b0 b1 b2 b3 b4 b5 b6 o) := by rw [hws]; exact hw
  rw [← hws]
  have hx := E.1
  have hb := E.2.1
  have hl : lv_has ls 2 [(0, .ref a0), (1, .ref b0)] := hl
  unfold f_X2_copyFrom at hf
  refine lv_aload_n hx hb dX2_copyFrom_0 rfl (lv_at hl 0 rfl) ?_
  refine lv_aload_n hx hb dX2_copyFrom_1 rfl (lv_at hl 1 rfl) ?_
  refine x_get E hw.1 7 rfl rfl in2 0 (by decide) q37 rfl rfl dX2_copyFrom_2 ?_
  refine x_put E hw 0 rfl rfl in2 tyX2_ok nmX2 0 (by decide) q37 rfl rfl rfl rfl (Nat.le_of_ble_eq_true rfl) dX2_copyFrom_5 (fun H locs hw => ?_)
  have hw : fy D (va_A ws0 sz) s.heap H locs (wSl I a0 a1 a2 a3 a4 a5 a6 (o.1, x.2) ++ wSl I b0 b1 b2 b3 b4 b5 b6 o) := hw
  refine lv_aload_n hx hb dX2_copyFrom_8 rfl (lv_at hl 1 rfl) ?_
  refine x_get E hw.1 7 rfl rfl in2 1 (by decide) q38 rfl rfl dX2_copyFrom_9 ?_
  refine lv_iconst (v := 0) hx hb dX2_copyFrom_12 (by decide) ?_
  refine lv_aload_n hx hb dX2_copyFrom_13 rfl (lv_at hl 0 rfl) ?_
  refine x_get E hw.1 0 rfl rfl in2 1 (by decide) q38 rfl rfl dX2_copyFrom_14 ?_
  refine lv_iconst (v := 0) hx hb dX2_copyFrom_17 (by decide) ?_
  refine lv_bipush (v := 64) hx hb dX2_copyFrom_18 (by decide) ?_
  obtain ⟨g, hf⟩ := gcp_s hf
  refine x_copy E hl.1 q166 q168 q167 q13 hw 8 1 rfl rfl g (Nat.le_of_ble_eq_true rfl) (Nat.le_of_ble_eq_true rfl) dX2_copyFrom_20 (fun H locs hw => ?_)
  have hw : fy D (va_A ws0 sz) s.heap H locs (wSl I a0 a1 a2 a3 a4 a5 a6 (o.1, (va_cpy o.2.1 x.2.1 (0 : Int32).toNatClampNeg (0 : Int32).toNatClampNeg (64 : Int32).toNatClampNeg), x.2.2) ++ wSl I b0 b1 b2 b3 b4 b5 b6 o) := hw
  refine lv_aload_n hx hb dX2_copyFrom_23 rfl (lv_at hl 1 rfl) ?_
  refine x_get E hw.1 7 rfl rfl in2 2 (by decide) q39 rfl rfl dX2_copyFrom_24 ?_
  refine lv_iconst (v := 0) hx hb dX2_copyFrom_27 (by decide) ?_
  refine lv_aload_n hx hb dX2_copyFrom_28 rfl (lv_at hl 0 rfl) ?_
  refine x_get E hw.1 0 rfl rfl in2 2 (by decide) q39 rfl rfl dX2_copyFrom_29 ?_
  refine lv_iconst (v := 0) hx hb dX2_copyFrom_32 (by decide) ?_
  refine lv_bipush (v := 64) hx hb dX2_copyFrom_33 (by decide) ?_
  obtain ⟨g, hf⟩ := gcp_s hf
  refine x_copy E hl.1 q166 q168 q167 q13 hw 9 2 rfl rfl g (Nat.le_of_ble_eq_true rfl) (Nat.le_of_ble_eq_true rfl) dX2_copyFrom_35 (fun H locs hw => ?_)
  have hw : fy D (va_A ws0 sz) s.heap H locs (wSl I a0 a1 a2 a3 a4 a5 a6 (o.1, (va_cpy o.2.1 x.2.1 (0 : Int32).toNatClampNeg (0 : Int32).toNatClampNeg (64 : Int32).toNatClampNeg), (va_cpy o.2.2.1 x.2.2.1 (0 : Int32).toNatClampNeg (0 : Int32).toNatClampNeg (64 : Int32).toNatClampNeg), x.2.2.2) ++ wSl I b0 b1 b2 b3 b4 b5 b6 o) := hw
  refine lv_aload_n hx hb dX2_copyFrom_38 rfl (lv_at hl 1 rfl) ?_
  refine x_get E hw.1 7 rfl rfl in2 3 (by decide) q40 rfl rfl dX2_copyFrom_39 ?_
  refine lv_iconst (v := 0) hx hb dX2_copyFrom_42 (by decide) ?_
  refine lv_aload_n hx hb dX2_copyFrom_43 rfl (lv_at hl 0 rfl) ?_
  refine x_get E hw.1 0 rfl rfl in2 3 (by decide) q40 rfl rfl dX2_copyFrom_44 ?_
  refine lv_iconst (v := 0) hx hb dX2_copyFrom_47 (by decide) ?_
  refine lv_bipush (v := 64) hx hb dX2_copyFrom_48 (by decide) ?_
  obtain ⟨g, hf⟩ := gcp_s hf
  refine x_copy E hl.1 q166 q168 q167 q13 hw 10 3 rfl rfl g (Nat.le_of_ble_eq_true rfl) (Nat.le_of_ble_eq_true rfl) dX2_copyFrom_50 (fun H locs hw => ?_)
  have hw : fy D (va_A ws0 sz) s.heap H locs (wSl I a0 a1 a2 a3 a4 a5 a6 (o.1, (va_cpy o.2.1 x.2.1 (0 : Int32).toNatClampNeg (0 : Int32).toNatClampNeg (64 : Int32).toNatClampNeg), (va_cpy o.2.2.1 x.2.2.1 (0 : Int32).toNatClampNeg (0 : Int32).toNatClampNeg (64 : Int32).toNatClampNeg), (va_cpy o.2.2.2.1 x.2.2.2.1 (0 : Int32).toNatClampNeg (0 : Int32).toNatClampNeg (64 : Int32).toNatClampNeg), x.2.2.2.2) ++ wSl I b0 b1 b2 b3 b4 b5 b6 o) := hw
  refine lv_aload_n hx hb dX2_copyFrom_53 rfl (lv_at hl 1 rfl) ?_
  refine x_get E hw.1 7 rfl rfl in2 4 (by decide) q41 rfl rfl dX2_copyFrom_54 ?_
  refine lv_iconst (v := 0) hx hb dX2_copyFrom_57 (by decide) ?_
  refine lv_aload_n hx hb dX2_copyFrom_58 rfl (lv_at hl 0 rfl) ?_
  refine x_get E hw.1 0 rfl rfl in2 4 (by decide) q41 rfl rfl dX2_copyFrom_59 ?_
  refine lv_iconst (v := 0) hx hb dX2_copyFrom_62 (by decide) ?_
  refine lv_bipush (v := 64) hx hb dX2_copyFrom_63 (by decide) ?_
  obtain ⟨g, hf⟩ := gcp_s hf
  refine x_copy E hl.1 q166 q168 q167 q13 hw 11 4 rfl rfl g (Nat.le_of_ble_eq_true rfl) (Nat.le_of_ble_eq_true rfl) dX2_copyFrom_65 (fun H locs hw => ?_)
  have hw : fy D (va_A ws0 sz) s.heap H locs (wSl I a0 a1 a2 a3 a4 a5 a6 (o.1, (va_cpy o.2.1 x.2.1 (0 : Int32).toNatClampNeg (0 : Int32).toNatClampNeg (64 : Int32).toNatClampNeg), (va_cpy o.2.2.1 x.2.2.1 (0 : Int32).toNatClampNeg (0 : Int32).toNatClampNeg (64 : Int32).toNatClampNeg), (va_cpy o.2.2.2.1 x.2.2.2.1 (0 : Int32).toNatClampNeg (0 : Int32).toNatClampNeg (64 : Int32).toNatClampNeg), (va_cpy o.2.2.2.2.1 x.2.2.2.2.1 (0 : Int32).toNatClampNeg (0 : Int32).toNatClampNeg (64 : Int32).toNatClampNeg), x.2.2.2.2.2) ++ wSl I b0 b1 b2 b3 b4 b5 b6 o) := hw
  refine lv_aload_n hx hb dX2_copyFrom_68 rfl (lv_at hl 1 rfl) ?_
  refine x_get E hw.1 7 rfl rfl in2 5 (by decide) q42 rfl rfl dX2_copyFrom_69 ?_
  refine lv_iconst (v := 0) hx hb dX2_copyFrom_72 (by decide) ?_
  refine lv_aload_n hx hb dX2_copyFrom_73 rfl (lv_at hl 0 rfl) ?_
  refine x_get E hw.1 0 rfl rfl in2 5 (by decide) q42 rfl rfl dX2_copyFrom_74 ?_
  refine lv_iconst (v := 0) hx hb dX2_copyFrom_77 (by decide) ?_
  refine lv_bipush (v := 64) hx hb dX2_copyFrom_78 (by decide) ?_
  obtain ⟨g, hf⟩ := gcp_s hf
  refine x_copy E hl.1 q166 q168 q167 q13 hw 12 5 rfl rfl g (Nat.le_of_ble_eq_true rfl) (Nat.le_of_ble_eq_true rfl) dX2_copyFrom_80 (fun H locs hw => ?_)
  have hw : fy D (va_A ws0 sz) s.heap H locs (wSl I a0 a1 a2 a3 a4 a5 a6 (o.1, (va_cpy o.2.1 x.2.1 (0 : Int32).toNatClampNeg (0 : Int32).toNatClampNeg (64 : Int32).toNatClampNeg), (va_cpy o.2.2.1 x.2.2.1 (0 : Int32).toNatClampNeg (0 : Int32).toNatClampNeg (64 : Int32).toNatClampNeg), (va_cpy o.2.2.2.1 x.2.2.2.1 (0 : Int32).toNatClampNeg (0 : Int32).toNatClampNeg (64 : Int32).toNatClampNeg), (va_cpy o.2.2.2.2.1 x.2.2.2.2.1 (0 : Int32).toNatClampNeg (0 : Int32).toNatClampNeg (64 : Int32).toNatClampNeg), (va_cpy o.2.2.2.2.2.1 x.2.2.2.2.2.1 (0 : Int32).toNatClampNeg (0 : Int32).toNatClampNeg (64 : Int32).toNatClampNeg), x.2.2.2.2.2.2) ++ wSl I b0 b1 b2 b3 b4 b5 b6 o) := hw
  refine lv_aload_n hx hb dX2_copyFrom_83 rfl (lv_at hl 1 rfl) ?_
  refine x_get E hw.1 7 rfl rfl in2 6 (by decide) q43 rfl rfl dX2_copyFrom_84 ?_
  refine lv_iconst (v := 0) hx hb dX2_copyFrom_87 (by decide) ?_
  refine lv_aload_n hx hb dX2_copyFrom_88 rfl (lv_at hl 0 rfl) ?_
  refine x_get E hw.1 0 rfl rfl in2 6 (by decide) q43 rfl rfl dX2_copyFrom_89 ?_
  refine lv_iconst (v := 0) hx hb dX2_copyFrom_92 (by decide) ?_
  refine lv_bipush (v := 64) hx hb dX2_copyFrom_93 (by decide) ?_
  obtain ⟨g, hf⟩ := gcp_s hf
  refine x_copy E hl.1 q166 q168 q167 q13 hw 13 6 rfl rfl g (Nat.le_of_ble_eq_true rfl) (Nat.le_of_ble_eq_true rfl) dX2_copyFrom_95 (fun H locs hw => ?_)
  have hw : fy D (va_A ws0 sz) s.heap H locs (wSl I a0 a1 a2 a3 a4 a5 a6 (o.1, (va_cpy o.2.1 x.2.1 (0 : Int32).toNatClampNeg (0 : Int32).toNatClampNeg (64 : Int32).toNatClampNeg), (va_cpy o.2.2.1 x.2.2.1 (0 : Int32).toNatClampNeg (0 : Int32).toNatClampNeg (64 : Int32).toNatClampNeg), (va_cpy o.2.2.2.1 x.2.2.2.1 (0 : Int32).toNatClampNeg (0 : Int32).toNatClampNeg (64 : Int32).toNatClampNeg), (va_cpy o.2.2.2.2.1 x.2.2.2.2.1 (0 : Int32).toNatClampNeg (0 : Int32).toNatClampNeg (64 : Int32).toNatClampNeg), (va_cpy o.2.2.2.2.2.1 x.2.2.2.2.2.1 (0 : Int32).toNatClampNeg (0 : Int32).toNatClampNeg (64 : Int32).toNatClampNeg), (va_cpy o.2.2.2.2.2.2 x.2.2.2.2.2.2 (0 : Int32).toNatClampNeg (0 : Int32).toNatClampNeg (64 : Int32).toNatClampNeg)) ++ wSl I b0 b1 b2 b3 b4 b5 b6 o) := hw
  have h0 := (Option.some.inj hf)
  subst h0
  exact x_vM E () hw dX2_copyFrom_98
theorem ok_X2_isCell : yV yX2_isCell cX2_isCell 2 (some .boolean) 1 := ⟨q193, q3, q191, q192, by decide +kernel, by decide +kernel, by decide +kernel⟩
set_option maxRecDepth 100000 in
set_option maxHeartbeats 4000000 in
theorem mt_X2_isCell (l : Launch) (D : va_G) (I J O : ClassId) (a0 a1 a2 a3 a4 a5 a6 : Nat) (p0 : Int32) (x : SlC) (r : Int32) (hf : f_X2_isCell p0 x = some r) : mR l yX2_isCell cX2_isCell 2 (some .boolean) 0 0 D I J O [.ref a0, .int p0] (wSl I a0 a1 a2 a3 a4 a5 a6 x) (qRi r) := by
  refine mR_open (own := RX2) rfl (by decide +kernel) (Nat.le_of_ble_eq_true rfl) (fun p e s m below meth c ls E hP hl => ?_)
  have hx := E.1
  have hb := E.2.1
  have hl : lv_has ls 2 [(0, .ref a0), (1, .int p0)] := hl
  unfold f_X2_isCell at hf
  refine lv_iload_n hx hb dX2_isCell_0 rfl (lv_at hl 1 rfl) ?_
  refine lv_if_lt (tgt := 22) hx hb dX2_isCell_1 (by decide) (fun hc => ?_) (fun hc => ?_)
  · rw [if_pos hc] at hf
    refine lv_iconst (v := 0) hx hb dX2_isCell_22 (by decide) ?_
    exact x_zR E (Or.inl rfl) (Option.some.inj hf) dX2_isCell_23
  · rw [if_neg hc] at hf
    refine lv_iload_n hx hb dX2_isCell_4 rfl (lv_at hl 1 rfl) ?_
    refine lv_aload_n hx hb dX2_isCell_5 rfl (lv_at hl 0 rfl) ?_
    refine x_get E hP 0 rfl rfl in2 0 (by decide) q37 rfl rfl dX2_isCell_6 ?_
    refine lv_icmp_ge (tgt := 22) hx hb dX2_isCell_9 (by decide) (fun hc => ?_) (fun hc => ?_)
    · rw [if_pos hc] at hf
      refine lv_iconst (v := 0) hx hb dX2_isCell_22 (by decide) ?_
      exact x_zR E (Or.inl rfl) (Option.some.inj hf) dX2_isCell_23
    · rw [if_neg hc] at hf
      refine lv_iload_n hx hb dX2_isCell_12 rfl (lv_at hl 1 rfl) ?_
      refine lv_bipush (v := 64) hx hb dX2_isCell_13 (by decide) ?_
      refine lv_icmp_ge (tgt := 22) hx hb dX2_isCell_15 (by decide) (fun hc => ?_) (fun hc => ?_)
      · rw [if_pos hc] at hf
        refine lv_iconst (v := 0) hx hb dX2_isCell_22 (by decide) ?_
        exact x_zR E (Or.inl rfl) (Option.some.inj hf) dX2_isCell_23
      · rw [if_neg hc] at hf
        refine lv_iconst (v := 1) hx hb dX2_isCell_18 (by decide) ?_
        refine lv_goto (tgt := 23) hx hb dX2_isCell_19 (by decide) ?_
        exact x_zR E (Or.inr rfl) (Option.some.inj hf) dX2_isCell_23
theorem ok_X2_cellsNow : yV yX2_cellsNow cX2_cellsNow 1 (some .int) 0 := ⟨q285, q3, q283, q284, by decide +kernel, by decide +kernel, by decide +kernel⟩
set_option maxRecDepth 100000 in
set_option maxHeartbeats 4000000 in
theorem mt_X2_cellsNow (l : Launch) (D : va_G) (I J O : ClassId) (a0 a1 a2 a3 a4 a5 a6 : Nat)  (x : SlC) (r : Int32) (hf : f_X2_cellsNow x = some r) : mR l yX2_cellsNow cX2_cellsNow 1 (some .int) 0 0 D I J O [.ref a0] (wSl I a0 a1 a2 a3 a4 a5 a6 x) (qRi r) := by
  refine mR_open (own := RX2) rfl (by decide +kernel) (Nat.le_of_ble_eq_true rfl) (fun p e s m below meth c ls E hP hl => ?_)
  have hx := E.1
  have hb := E.2.1
  have hl : lv_has ls 1 [(0, .ref a0)] := hl
  unfold f_X2_cellsNow at hf
  refine lv_aload_n hx hb dX2_cellsNow_0 rfl (lv_at hl 0 rfl) ?_
  refine x_get E hP 0 rfl rfl in2 0 (by decide) q37 rfl rfl dX2_cellsNow_1 ?_
  exact x_iR E (Option.some.inj hf) dX2_cellsNow_4
theorem ok_X2_stampAt : yV yX2_stampAt cX2_stampAt 2 (some .int) 1 := ⟨q348, q3, q346, q347, by decide +kernel, by decide +kernel, by decide +kernel⟩
set_option maxRecDepth 100000 in
set_option maxHeartbeats 4000000 in
theorem mt_X2_stampAt (l : Launch) (D : va_G) (I J O : ClassId) (a0 a1 a2 a3 a4 a5 a6 : Nat) (p0 : Int32) (x : SlC) (r : Int32) (hf : f_X2_stampAt p0 x = some r) : mR l yX2_stampAt cX2_stampAt 2 (some .int) 1 21 D I J O [.ref a0, .int p0] (wSl I a0 a1 a2 a3 a4 a5 a6 x) (qRi r) := by
  refine mR_open (own := RX2) rfl (by decide +kernel) (Nat.le_of_ble_eq_true rfl) (fun p e s m below meth c ls E hP hl => ?_)
  have hx := E.1
  have hb := E.2.1
  have hl : lv_has ls 2 [(0, .ref a0), (1, .int p0)] := hl
  unfold f_X2_stampAt at hf
  refine lv_aload_n hx hb dX2_stampAt_0 rfl (lv_at hl 0 rfl) ?_
  refine lv_iload_n hx hb dX2_stampAt_1 rfl (lv_at hl 1 rfl) ?_
  obtain ⟨z1, h, hf⟩ := bd_s hf
  refine x_ci (x_rV E (As := [.int p0]) (rest := []) (mt_X2_isCell l D I J O a0 a1 a2 a3 a4 a5 a6 p0 x z1 h) blR (x_recv E hP 0 2 rfl rfl rfl) (x_pcR E hP) ok_X2_isCell q190 rfl hl.1 rfl (Nat.le_of_ble_eq_true rfl) ⟨Nat.le_of_ble_eq_true rfl, Nat.le_of_ble_eq_true rfl⟩ ⟨Nat.le_of_ble_eq_true rfl, Nat.le_of_ble_eq_true rfl⟩ dX2_stampAt_2) ?_
  refine lv_if_eq (tgt := 17) hx hb dX2_stampAt_5 (by decide) (fun hc => ?_) (fun hc => ?_)
  · rw [if_pos hc] at hf
    refine lv_iconst (v := 0) hx hb dX2_stampAt_17 (by decide) ?_
    exact x_iR E (Option.some.inj hf) dX2_stampAt_18
  · rw [if_neg hc] at hf
    refine lv_aload_n hx hb dX2_stampAt_8 rfl (lv_at hl 0 rfl) ?_
    refine x_get E hP 0 rfl rfl in2 1 (by decide) q38 rfl rfl dX2_stampAt_9 ?_
    refine lv_iload_n hx hb dX2_stampAt_12 rfl (lv_at hl 1 rfl) ?_
    obtain ⟨g, hf⟩ := gi_s hf
    refine x_ald E hP 1 rfl g dX2_stampAt_13 ?_
    refine lv_goto (tgt := 18) hx hb dX2_stampAt_14 (by decide) ?_
    exact x_iR E (Option.some.inj hf) dX2_stampAt_18
theorem ok_X2_ownerOf : yV yX2_ownerOf cX2_ownerOf 2 (some .int) 1 := ⟨q365, q3, q363, q364, by decide +kernel, by decide +kernel, by decide +kernel⟩
set_option maxRecDepth 100000 in
set_option maxHeartbeats 4000000 in
theorem mt_X2_ownerOf (l : Launch) (D : va_G) (I J O : ClassId) (a0 a1 a2 a3 a4 a5 a6 : Nat) (p0 : Int32) (x : SlC) (r : Int32) (hf : f_X2_ownerOf p0 x = some r) : mR l yX2_ownerOf cX2_ownerOf 2 (some .int) 1 21 D I J O [.ref a0, .int p0] (wSl I a0 a1 a2 a3 a4 a5 a6 x) (qRi r) := by
  refine mR_open (own := RX2) rfl (by decide +kernel) (Nat.le_of_ble_eq_true rfl) (fun p e s m below meth c ls E hP hl => ?_)
  have hx := E.1
  have hb := E.2.1
  have hl : lv_has ls 2 [(0, .ref a0), (1, .int p0)] := hl
  unfold f_X2_ownerOf at hf
  refine lv_aload_n hx hb dX2_ownerOf_0 rfl (lv_at hl 0 rfl) ?_
  refine lv_iload_n hx hb dX2_ownerOf_1 rfl (lv_at hl 1 rfl) ?_
  obtain ⟨z1, h, hf⟩ := bd_s hf
  refine x_ci (x_rV E (As := [.int p0]) (rest := []) (mt_X2_isCell l D I J O a0 a1 a2 a3 a4 a5 a6 p0 x z1 h) blR (x_recv E hP 0 2 rfl rfl rfl) (x_pcR E hP) ok_X2_isCell q190 rfl hl.1 rfl (Nat.le_of_ble_eq_true rfl) ⟨Nat.le_of_ble_eq_true rfl, Nat.le_of_ble_eq_true rfl⟩ ⟨Nat.le_of_ble_eq_true rfl, Nat.le_of_ble_eq_true rfl⟩ dX2_ownerOf_2) ?_
  refine lv_if_eq (tgt := 17) hx hb dX2_ownerOf_5 (by decide) (fun hc => ?_) (fun hc => ?_)
  · rw [if_pos hc] at hf
    refine lv_iconst (v := (-1)) hx hb dX2_ownerOf_17 (by decide) ?_
    exact x_iR E (Option.some.inj hf) dX2_ownerOf_18
  · rw [if_neg hc] at hf
    refine lv_aload_n hx hb dX2_ownerOf_8 rfl (lv_at hl 0 rfl) ?_
    refine x_get E hP 0 rfl rfl in2 2 (by decide) q39 rfl rfl dX2_ownerOf_9 ?_
    refine lv_iload_n hx hb dX2_ownerOf_12 rfl (lv_at hl 1 rfl) ?_
    obtain ⟨g, hf⟩ := gi_s hf
    refine x_ald E hP 2 rfl g dX2_ownerOf_13 ?_
    refine lv_goto (tgt := 18) hx hb dX2_ownerOf_14 (by decide) ?_
    exact x_iR E (Option.some.inj hf) dX2_ownerOf_18
theorem ok_X2_sizeAt : yV yX2_sizeAt cX2_sizeAt 2 (some .int) 1 := ⟨q245, q3, q243, q244, by decide +kernel, by decide +kernel, by decide +kernel⟩
set_option maxRecDepth 100000 in
set_option maxHeartbeats 4000000 in
theorem mt_X2_sizeAt (l : Launch) (D : va_G) (I J O : ClassId) (a0 a1 a2 a3 a4 a5 a6 : Nat) (p0 : Int32) (x : SlC) (r : Int32) (hf : f_X2_sizeAt p0 x = some r) : mR l yX2_sizeAt cX2_sizeAt 2 (some .int) 1 21 D I J O [.ref a0, .int p0] (wSl I a0 a1 a2 a3 a4 a5 a6 x) (qRi r) := by
  refine mR_open (own := RX2) rfl (by decide +kernel) (Nat.le_of_ble_eq_true rfl) (fun p e s m below meth c ls E hP hl => ?_)
  have hx := E.1
  have hb := E.2.1
  have hl : lv_has ls 2 [(0, .ref a0), (1, .int p0)] := hl
  unfold f_X2_sizeAt at hf
  refine lv_aload_n hx hb dX2_sizeAt_0 rfl (lv_at hl 0 rfl) ?_
  refine lv_iload_n hx hb dX2_sizeAt_1 rfl (lv_at hl 1 rfl) ?_
  obtain ⟨z1, h, hf⟩ := bd_s hf
  refine x_ci (x_rV E (As := [.int p0]) (rest := []) (mt_X2_isCell l D I J O a0 a1 a2 a3 a4 a5 a6 p0 x z1 h) blR (x_recv E hP 0 2 rfl rfl rfl) (x_pcR E hP) ok_X2_isCell q190 rfl hl.1 rfl (Nat.le_of_ble_eq_true rfl) ⟨Nat.le_of_ble_eq_true rfl, Nat.le_of_ble_eq_true rfl⟩ ⟨Nat.le_of_ble_eq_true rfl, Nat.le_of_ble_eq_true rfl⟩ dX2_sizeAt_2) ?_
  refine lv_if_eq (tgt := 17) hx hb dX2_sizeAt_5 (by decide) (fun hc => ?_) (fun hc => ?_)
  · rw [if_pos hc] at hf
    refine lv_iconst (v := 0) hx hb dX2_sizeAt_17 (by decide) ?_
    exact x_iR E (Option.some.inj hf) dX2_sizeAt_18
  · rw [if_neg hc] at hf
    refine lv_aload_n hx hb dX2_sizeAt_8 rfl (lv_at hl 0 rfl) ?_
    refine x_get E hP 0 rfl rfl in2 3 (by decide) q40 rfl rfl dX2_sizeAt_9 ?_
    refine lv_iload_n hx hb dX2_sizeAt_12 rfl (lv_at hl 1 rfl) ?_
    obtain ⟨g, hf⟩ := gi_s hf
    refine x_ald E hP 3 rfl g dX2_sizeAt_13 ?_
    refine lv_goto (tgt := 18) hx hb dX2_sizeAt_14 (by decide) ?_
    exact x_iR E (Option.some.inj hf) dX2_sizeAt_18
theorem ok_X2_valueAt : yV yX2_valueAt cX2_valueAt 2 (some .int) 1 := ⟨q189, q3, q187, q188, by decide +kernel, by decide +kernel, by decide +kernel⟩
set_option maxRecDepth 100000 in
set_option maxHeartbeats 4000000 in
theorem mt_X2_valueAt (l : Launch) (D : va_G) (I J O : ClassId) (a0 a1 a2 a3 a4 a5 a6 : Nat) (p0 : Int32) (x : SlC) (r : Int32) (hf : f_X2_valueAt p0 x = some r) : mR l yX2_valueAt cX2_valueAt 2 (some .int) 1 21 D I J O [.ref a0, .int p0] (wSl I a0 a1 a2 a3 a4 a5 a6 x) (qRi r) := by
  refine mR_open (own := RX2) rfl (by decide +kernel) (Nat.le_of_ble_eq_true rfl) (fun p e s m below meth c ls E hP hl => ?_)
  have hx := E.1
  have hb := E.2.1
  have hl : lv_has ls 2 [(0, .ref a0), (1, .int p0)] := hl
  unfold f_X2_valueAt at hf
  refine lv_aload_n hx hb dX2_valueAt_0 rfl (lv_at hl 0 rfl) ?_
  refine lv_iload_n hx hb dX2_valueAt_1 rfl (lv_at hl 1 rfl) ?_
  obtain ⟨z1, h, hf⟩ := bd_s hf
  refine x_ci (x_rV E (As := [.int p0]) (rest := []) (mt_X2_isCell l D I J O a0 a1 a2 a3 a4 a5 a6 p0 x z1 h) blR (x_recv E hP 0 2 rfl rfl rfl) (x_pcR E hP) ok_X2_isCell q190 rfl hl.1 rfl (Nat.le_of_ble_eq_true rfl) ⟨Nat.le_of_ble_eq_true rfl, Nat.le_of_ble_eq_true rfl⟩ ⟨Nat.le_of_ble_eq_true rfl, Nat.le_of_ble_eq_true rfl⟩ dX2_valueAt_2) ?_
  refine lv_if_eq (tgt := 17) hx hb dX2_valueAt_5 (by decide) (fun hc => ?_) (fun hc => ?_)
  · rw [if_pos hc] at hf
    refine lv_iconst (v := 0) hx hb dX2_valueAt_17 (by decide) ?_
    exact x_iR E (Option.some.inj hf) dX2_valueAt_18
  · rw [if_neg hc] at hf
    refine lv_aload_n hx hb dX2_valueAt_8 rfl (lv_at hl 0 rfl) ?_
    refine x_get E hP 0 rfl rfl in2 4 (by decide) q41 rfl rfl dX2_valueAt_9 ?_
    refine lv_iload_n hx hb dX2_valueAt_12 rfl (lv_at hl 1 rfl) ?_
    obtain ⟨g, hf⟩ := gi_s hf
    refine x_ald E hP 4 rfl g dX2_valueAt_13 ?_
    refine lv_goto (tgt := 18) hx hb dX2_valueAt_14 (by decide) ?_
    exact x_iR E (Option.some.inj hf) dX2_valueAt_18
theorem ok_X2_kindAt : yV yX2_kindAt cX2_kindAt 2 (some .int) 1 := ⟨q197, q3, q195, q196, by decide +kernel, by decide +kernel, by decide +kernel⟩
set_option maxRecDepth 100000 in
set_option maxHeartbeats 4000000 in
theorem mt_X2_kindAt (l : Launch) (D : va_G) (I J O : ClassId) (a0 a1 a2 a3 a4 a5 a6 : Nat) (p0 : Int32) (x : SlC) (r : Int32) (hf : f_X2_kindAt p0 x = some r) : mR l yX2_kindAt cX2_kindAt 2 (some .int) 1 21 D I J O [.ref a0, .int p0] (wSl I a0 a1 a2 a3 a4 a5 a6 x) (qRi r) := by
  refine mR_open (own := RX2) rfl (by decide +kernel) (Nat.le_of_ble_eq_true rfl) (fun p e s m below meth c ls E hP hl => ?_)
  have hx := E.1
  have hb := E.2.1
  have hl : lv_has ls 2 [(0, .ref a0), (1, .int p0)] := hl
  unfold f_X2_kindAt at hf
  refine lv_aload_n hx hb dX2_kindAt_0 rfl (lv_at hl 0 rfl) ?_
  refine lv_iload_n hx hb dX2_kindAt_1 rfl (lv_at hl 1 rfl) ?_
  obtain ⟨z1, h, hf⟩ := bd_s hf
  refine x_ci (x_rV E (As := [.int p0]) (rest := []) (mt_X2_isCell l D I J O a0 a1 a2 a3 a4 a5 a6 p0 x z1 h) blR (x_recv E hP 0 2 rfl rfl rfl) (x_pcR E hP) ok_X2_isCell q190 rfl hl.1 rfl (Nat.le_of_ble_eq_true rfl) ⟨Nat.le_of_ble_eq_true rfl, Nat.le_of_ble_eq_true rfl⟩ ⟨Nat.le_of_ble_eq_true rfl, Nat.le_of_ble_eq_true rfl⟩ dX2_kindAt_2) ?_
  refine lv_if_eq (tgt := 17) hx hb dX2_kindAt_5 (by decide) (fun hc => ?_) (fun hc => ?_)
  · rw [if_pos hc] at hf
    refine lv_iconst (v := 0) hx hb dX2_kindAt_17 (by decide) ?_
    exact x_iR E (Option.some.inj hf) dX2_kindAt_18
  · rw [if_neg hc] at hf
    refine lv_aload_n hx hb dX2_kindAt_8 rfl (lv_at hl 0 rfl) ?_
    refine x_get E hP 0 rfl rfl in2 5 (by decide) q42 rfl rfl dX2_kindAt_9 ?_
    refine lv_iload_n hx hb dX2_kindAt_12 rfl (lv_at hl 1 rfl) ?_
    obtain ⟨g, hf⟩ := gi_s hf
    refine x_ald E hP 5 rfl g dX2_kindAt_13 ?_
    refine lv_goto (tgt := 18) hx hb dX2_kindAt_14 (by decide) ?_
    exact x_iR E (Option.some.inj hf) dX2_kindAt_18
theorem ok_X2_timesFired : yV yX2_timesFired cX2_timesFired 2 (some .int) 1 := ⟨q201, q3, q199, q200, by decide +kernel, by decide +kernel, by decide +kernel⟩
set_option maxRecDepth 100000 in
set_option maxHeartbeats 4000000 in
theorem mt_X2_timesFired (l : Launch) (D : va_G) (I J O : ClassId) (a0 a1 a2 a3 a4 a5 a6 : Nat) (p0 : Int32) (x : SlC) (r : Int32) (hf : f_X2_timesFired p0 x = some r) : mR l yX2_timesFired cX2_timesFired 2 (some .int) 1 21 D I J O [.ref a0, .int p0] (wSl I a0 a1 a2 a3 a4 a5 a6 x) (qRi r) := by
  refine mR_open (own := RX2) rfl (by decide +kernel) (Nat.le_of_ble_eq_true rfl) (fun p e s m below meth c ls E hP hl => ?_)
  have hx := E.1
  have hb := E.2.1
  have hl : lv_has ls 2 [(0, .ref a0), (1, .int p0)] := hl
  unfold f_X2_timesFired at hf
  refine lv_aload_n hx hb dX2_timesFired_0 rfl (lv_at hl 0 rfl) ?_
  refine lv_iload_n hx hb dX2_timesFired_1 rfl (lv_at hl 1 rfl) ?_
  obtain ⟨z1, h, hf⟩ := bd_s hf
  refine x_ci (x_rV E (As := [.int p0]) (rest := []) (mt_X2_isCell l D I J O a0 a1 a2 a3 a4 a5 a6 p0 x z1 h) blR (x_recv E hP 0 2 rfl rfl rfl) (x_pcR E hP) ok_X2_isCell q190 rfl hl.1 rfl (Nat.le_of_ble_eq_true rfl) ⟨Nat.le_of_ble_eq_true rfl, Nat.le_of_ble_eq_true rfl⟩ ⟨Nat.le_of_ble_eq_true rfl, Nat.le_of_ble_eq_true rfl⟩ dX2_timesFired_2) ?_
  refine lv_if_eq (tgt := 17) hx hb dX2_timesFired_5 (by decide) (fun hc => ?_) (fun hc => ?_)
  · rw [if_pos hc] at hf
    refine lv_iconst (v := 0) hx hb dX2_timesFired_17 (by decide) ?_
    exact x_iR E (Option.some.inj hf) dX2_timesFired_18
  · rw [if_neg hc] at hf
    refine lv_aload_n hx hb dX2_timesFired_8 rfl (lv_at hl 0 rfl) ?_
    refine x_get E hP 0 rfl rfl in2 6 (by decide) q43 rfl rfl dX2_timesFired_9 ?_
    refine lv_iload_n hx hb dX2_timesFired_12 rfl (lv_at hl 1 rfl) ?_
    obtain ⟨g, hf⟩ := gi_s hf
    refine x_ald E hP 6 rfl g dX2_timesFired_13 ?_
    refine lv_goto (tgt := 18) hx hb dX2_timesFired_14 (by decide) ?_
    exact x_iR E (Option.some.inj hf) dX2_timesFired_18
theorem ok_X2_handleOf : yV yX2_handleOf cX2_handleOf 2 (some .int) 1 := ⟨q484, q3, q482, q483, by decide +kernel, by decide +kernel, by decide +kernel⟩
set_option maxRecDepth 100000 in
set_option maxHeartbeats 4000000 in
theorem mt_X2_handleOf (l : Launch) (D : va_G) (I J O : ClassId) (a0 a1 a2 a3 a4 a5 a6 : Nat) (p0 : Int32) (x : SlC) (r : Int32) (hf : f_X2_handleOf p0 x = some r) : mR l yX2_handleOf cX2_handleOf 2 (some .int) 1 21 D I J O [.ref a0, .int p0] (wSl I a0 a1 a2 a3 a4 a5 a6 x) (qRi r) := by
  refine mR_open (own := RX2) rfl (by decide +kernel) (Nat.le_of_ble_eq_true rfl) (fun p e s m below meth c ls E hP hl => ?_)
  have hx := E.1
  have hb := E.2.1
  have hl : lv_has ls 2 [(0, .ref a0), (1, .int p0)] := hl
  unfold f_X2_handleOf at hf
  refine lv_aload_n hx hb dX2_handleOf_0 rfl (lv_at hl 0 rfl) ?_
  refine lv_iload_n hx hb dX2_handleOf_1 rfl (lv_at hl 1 rfl) ?_
  obtain ⟨z1, h, hf⟩ := bd_s hf
  refine x_ci (x_rV E (As := [.int p0]) (rest := []) (mt_X2_isCell l D I J O a0 a1 a2 a3 a4 a5 a6 p0 x z1 h) blR (x_recv E hP 0 2 rfl rfl rfl) (x_pcR E hP) ok_X2_isCell q190 rfl hl.1 rfl (Nat.le_of_ble_eq_true rfl) ⟨Nat.le_of_ble_eq_true rfl, Nat.le_of_ble_eq_true rfl⟩ ⟨Nat.le_of_ble_eq_true rfl, Nat.le_of_ble_eq_true rfl⟩ dX2_handleOf_2) ?_
  refine lv_if_eq (tgt := 23) hx hb dX2_handleOf_5 (by decide) (fun hc => ?_) (fun hc => ?_)
  · rw [if_pos hc] at hf
    refine lv_iconst (v := (-1)) hx hb dX2_handleOf_23 (by decide) ?_
    exact x_iR E (Option.some.inj hf) dX2_handleOf_24
  · rw [if_neg hc] at hf
    refine lv_iload_n hx hb dX2_handleOf_8 rfl (lv_at hl 1 rfl) ?_
    refine lv_sipush (v := 1000) hx hb dX2_handleOf_9 (by decide) ?_
    refine lv_imul hx hb dX2_handleOf_12 ?_
    refine lv_aload_n hx hb dX2_handleOf_13 rfl (lv_at hl 0 rfl) ?_
    refine x_get E hP 0 rfl rfl in2 1 (by decide) q38 rfl rfl dX2_handleOf_14 ?_
    refine lv_iload_n hx hb dX2_handleOf_17 rfl (lv_at hl 1 rfl) ?_
    obtain ⟨g, hf⟩ := gi_s hf
    refine x_ald E hP 1 rfl g dX2_handleOf_18 ?_
    refine lv_iadd hx hb dX2_handleOf_19 ?_
    refine lv_goto (tgt := 24) hx hb dX2_handleOf_20 (by decide) ?_
    exact x_iR E (Option.some.inj hf) dX2_handleOf_24
theorem ok_X2_whyRefused : yV yX2_whyRefused cX2_whyRefused 2 (some .int) 1 := ⟨q344, q3, q342, q343, by decide +kernel, by decide +kernel, by decide +kernel⟩
set_option maxRecDepth 100000 in
set_option maxHeartbeats 4000000 in
theorem mt_X2_whyRefused (l : Launch) (D : va_G) (I J O : ClassId) (a0 a1 a2 a3 a4 a5 a6 : Nat) (p0 : Int32) (x : SlC) (r : Int32) (hf : f_X2_whyRefused p0 x = some r) : mR l yX2_whyRefused cX2_whyRefused 2 (some .int) 2 42 D I J O [.ref a0, .int p0] (wSl I a0 a1 a2 a3 a4 a5 a6 x) (qRi r) := by
  refine mR_open (own := RX2) rfl (by decide +kernel) (Nat.le_of_ble_eq_true rfl) (fun p e s m below meth c ls E hP hl => ?_)
  have hx := E.1
  have hb := E.2.1
  have hl : lv_has ls 2 [(0, .ref a0), (1, .int p0)] := hl
  unfold f_X2_whyRefused at hf
  refine lv_iload_n hx hb dX2_whyRefused_0 rfl (lv_at hl 1 rfl) ?_
  refine lv_if_lt (tgt := 16) hx hb dX2_whyRefused_1 (by decide) (fun hc => ?_) (fun hc => ?_)
  · rw [if_pos hc] at hf
    refine lv_iconst (v := 1) hx hb dX2_whyRefused_16 (by decide) ?_
    exact x_iR E (Option.some.inj hf) dX2_whyRefused_17
  · rw [if_neg hc] at hf
    refine lv_aload_n hx hb dX2_whyRefused_4 rfl (lv_at hl 0 rfl) ?_
    refine lv_iload_n hx hb dX2_whyRefused_5 rfl (lv_at hl 1 rfl) ?_
    refine lv_sipush (v := 1000) hx hb dX2_whyRefused_6 (by decide) ?_
    refine lv_idiv hx hb dX2_whyRefused_9 (by decide) ?_
    obtain ⟨z1, h, hf⟩ := bd_s hf
    refine x_ci (x_rV E (As := [.int (p0 / 1000)]) (rest := []) (mt_X2_isCell l D I J O a0 a1 a2 a3 a4 a5 a6 (p0 / 1000) x z1 h) blR (x_recv E hP 0 2 rfl rfl rfl) (x_pcR E hP) ok_X2_isCell q190 rfl hl.1 rfl (Nat.le_of_ble_eq_true rfl) ⟨Nat.le_of_ble_eq_true rfl, Nat.le_of_ble_eq_true rfl⟩ ⟨Nat.le_of_ble_eq_true rfl, Nat.le_of_ble_eq_true rfl⟩ dX2_whyRefused_10) ?_
    refine lv_if_ne (tgt := 18) hx hb dX2_whyRefused_13 (by decide) (fun hc => ?_) (fun hc => ?_)
    · rw [if_neg hc] at hf
      refine lv_aload_n hx hb dX2_whyRefused_18 rfl (lv_at hl 0 rfl) ?_
      refine lv_iload_n hx hb dX2_whyRefused_19 rfl (lv_at hl 1 rfl) ?_
      refine lv_sipush (v := 1000) hx hb dX2_whyRefused_20 (by decide) ?_
      refine lv_idiv hx hb dX2_whyRefused_23 (by decide) ?_
      obtain ⟨z2, h, hf⟩ := bd_s hf
      refine x_ci (x_rV E (As := [.int (p0 / 1000)]) (rest := []) (mt_X2_stampAt l D I J O a0 a1 a2 a3 a4 a5 a6 (p0 / 1000) x z2 h) blR (x_recv E hP 0 2 rfl rfl rfl) (x_pcR E hP) ok_X2_stampAt q345 rfl hl.1 rfl (Nat.le_of_ble_eq_true rfl) ⟨Nat.le_of_ble_eq_true rfl, Nat.le_of_ble_eq_true rfl⟩ ⟨Nat.le_of_ble_eq_true rfl, Nat.le_of_ble_eq_true rfl⟩ dX2_whyRefused_24) ?_
      refine lv_iload_n hx hb dX2_whyRefused_27 rfl (lv_at hl 1 rfl) ?_
      refine lv_sipush (v := 1000) hx hb dX2_whyRefused_28 (by decide) ?_
      refine lv_irem hx hb dX2_whyRefused_31 (by decide) ?_
      refine lv_icmp_eq (tgt := 37) hx hb dX2_whyRefused_32 (by decide) (fun hc => ?_) (fun hc => ?_)
      · rw [if_pos hc] at hf
        refine lv_aload_n hx hb dX2_whyRefused_37 rfl (lv_at hl 0 rfl) ?_
        refine lv_iload_n hx hb dX2_whyRefused_38 rfl (lv_at hl 1 rfl) ?_
        refine lv_sipush (v := 1000) hx hb dX2_whyRefused_39 (by decide) ?_
        refine lv_idiv hx hb dX2_whyRefused_42 (by decide) ?_
        obtain ⟨z3, h, hf⟩ := bd_s hf
        refine x_ci (x_rV E (As := [.int (p0 / 1000)]) (rest := []) (mt_X2_sizeAt l D I J O a0 a1 a2 a3 a4 a5 a6 (p0 / 1000) x z3 h) blR (x_recv E hP 0 2 rfl rfl rfl) (x_pcR E hP) ok_X2_sizeAt q291 rfl hl.1 rfl (Nat.le_of_ble_eq_true rfl) ⟨Nat.le_of_ble_eq_true rfl, Nat.le_of_ble_eq_true rfl⟩ ⟨Nat.le_of_ble_eq_true rfl, Nat.le_of_ble_eq_true rfl⟩ dX2_whyRefused_43) ?_
        refine lv_if_ne (tgt := 53) hx hb dX2_whyRefused_46 (by decide) (fun hc => ?_) (fun hc => ?_)
        · rw [if_neg hc] at hf
          refine lv_iconst (v := 0) hx hb dX2_whyRefused_53 (by decide) ?_
          exact x_iR E (Option.some.inj hf) dX2_whyRefused_54
        · rw [if_pos hc] at hf
          refine lv_iconst (v := 3) hx hb dX2_whyRefused_49 (by decide) ?_
          refine lv_goto (tgt := 54) hx hb dX2_whyRefused_50 (by decide) ?_
          exact x_iR E (Option.some.inj hf) dX2_whyRefused_54
      · rw [if_neg hc] at hf
        refine lv_iconst (v := 2) hx hb dX2_whyRefused_35 (by decide) ?_
        exact x_iR E (Option.some.inj hf) dX2_whyRefused_36
    · rw [if_pos hc] at hf
      refine lv_iconst (v := 1) hx hb dX2_whyRefused_16 (by decide) ?_
      exact x_iR E (Option.some.inj hf) dX2_whyRefused_17
theorem ok_X2_lowestFor : yV yX2_lowestFor cX2_lowestFor 4 (some .int) 1 := ⟨q261, q3, q259, q260, by decide +kernel, by decide +kernel, by decide +kernel⟩
set_option maxRecDepth 100000 in
set_option maxHeartbeats 4000000 in
theorem k_X2_lowestFor_27 {p : Program} {l : Launch} {e : Env} {s : State} {m : MethodId} {args : Array Value} {below : List Frame} {meth : Method} {c : Code} {D : va_G} {I J O : ClassId} (E : fx p s m args meth c cX2_lowestFor RX2 4 (some .int) D I J O) (a0 a1 a2 a3 a4 a5 a6 : Nat)  (r : Int32) (k4 : Int32 → Int32 → Int32 → SlC → Option (Int32)) (hk4 : ∀ (v1 : Int32) (v2 : Int32) (v3 : Int32) (x : SlC), k4 v1 v2 v3 x = some r → va_P D vwCl (wSl I a0 a1 a2 a3 a4 a5 a6 x) s.heap → ∀ ls : Array Slot, lv_has ls 4 [(0, .ref a0), (1, .int v1), (2, .int v2), (3, .int v3)] → W p l e (rmB 0 0 0 0) s m args below meth c s.heap [] 0 0 (MQ below (qRi r) args s 0 0 (fun _ => False)) (F0 m 4 ls [])) : ∀ (v1 : Int32) (v3 : Int32) (t0 : Int32) (x : SlC), f_X2_lowestFor_27 k4 v1 v3 t0 x = some r → va_P D vwCl (wSl I a0 a1 a2 a3 a4 a5 a6 x) s.heap → ∀ ls : Array Slot, lv_has ls 4 [(0, .ref a0), (1, .int v1), (3, .int v3)] → W p l e (rmB 0 0 0 0) s m args below meth c s.heap [] 0 0 (MQ below (qRi r) args s 0 0 (fun _ => False)) (F0 m 27 ls [.int t0]) := by
  have hx := E.1
  have hb := E.2.1
  intro v1 v3 t0 x hf hP ls hl
  unfold f_X2_lowestFor_27 at hf
  refine lv_istore_n (lv' := [(2, .int t0), (0, .ref a0), (1, .int v1), (3, .int v3)]) hx hb dX2_lowestFor_27 rfl hl (by decide) rfl (fun ls hl => ?_)
  refine lv_iload_n hx hb dX2_lowestFor_28 rfl (lv_at hl 0 rfl) ?_
  refine lv_iload_n hx hb dX2_lowestFor_29 rfl (lv_at hl 2 rfl) ?_
  refine lv_icmp_ne (tgt := 39) hx hb dX2_lowestFor_30 (by decide) (fun hc => ?_) (fun hc => ?_)
  · rw [if_neg hc] at hf
    refine lv_iinc (v := v3 + 1) (lv' := [(3, .int (v3 + 1)), (2, .int t0), (0, .ref a0), (1, .int v1)]) hx hb dX2_lowestFor_39 hl (k := 3) rfl rfl (by decide) rfl (fun ls hl => ?_)
    refine lv_goto (tgt := 4) hx hb dX2_lowestFor_42 (by decide) ?_
    exact hk4 v1 t0 (v3 + 1) x hf hP _ (lv_sub hl [2, 3, 1, 0] rfl)
  · rw [if_pos hc] at hf
    refine lv_iload_n hx hb dX2_lowestFor_33 rfl (lv_at hl 3 rfl) ?_
    refine lv_iload_n hx hb dX2_lowestFor_34 rfl (lv_at hl 2 rfl) ?_
    refine lv_isub hx hb dX2_lowestFor_35 ?_
    refine lv_iconst (v := 1) hx hb dX2_lowestFor_36 (by decide) ?_
    refine lv_iadd hx hb dX2_lowestFor_37 ?_
    exact x_iR E (Option.some.inj hf) dX2_lowestFor_38
set_option maxRecDepth 100000 in
set_option maxHeartbeats 4000000 in
theorem k_X2_lowestFor_4 {p : Program} {l : Launch} {e : Env} {s : State} {m : MethodId} {args : Array Value} {below : List Frame} {meth : Method} {c : Code} {D : va_G} {I J O : ClassId} (E : fx p s m args meth c cX2_lowestFor RX2 4 (some .int) D I J O) (a0 a1 a2 a3 a4 a5 a6 : Nat)  (r : Int32) : ∀ n : Nat, ∀ (v1 : Int32) (v2 : Int32) (v3 : Int32) (x : SlC), f_X2_lowestFor_4 n v1 v2 v3 x = some r → va_P D vwCl (wSl I a0 a1 a2 a3 a4 a5 a6 x) s.heap → ∀ ls : Array Slot, lv_has ls 4 [(0, .ref a0), (1, .int v1), (2, .int v2), (3, .int v3)] → W p l e (rmB 0 0 0 0) s m args below meth c s.heap [] 0 0 (MQ below (qRi r) args s 0 0 (fun _ => False)) (F0 m 4 ls []) := by
  have hx := E.1
  have hb := E.2.1
  intro n
  induction n with
  | zero =>
    intro v1 v2 v3 x hf hP ls hl
    rw [f_X2_lowestFor_4.eq_1] at hf
    cases hf
  | succ n ih =>
    intro v1 v2 v3 x hf hP ls hl
    rw [f_X2_lowestFor_4.eq_2] at hf
    refine lv_iload_n hx hb dX2_lowestFor_4 rfl (lv_at hl 3 rfl) ?_
    refine lv_bipush (v := 64) hx hb dX2_lowestFor_5 (by decide) ?_
    refine lv_icmp_ge (tgt := 45) hx hb dX2_lowestFor_7 (by decide) (fun hc => ?_) (fun hc => ?_)
    · rw [if_pos hc] at hf
      refine lv_iconst (v := (-1)) hx hb dX2_lowestFor_45 (by decide) ?_
      exact x_iR E (Option.some.inj hf) dX2_lowestFor_46
    · rw [if_neg hc] at hf
      refine lv_aload_n hx hb dX2_lowestFor_10 rfl (lv_at hl 0 rfl) ?_
      refine x_get E hP 0 rfl rfl in2 2 (by decide) q39 rfl rfl dX2_lowestFor_11 ?_
      refine lv_iload_n hx hb dX2_lowestFor_14 rfl (lv_at hl 3 rfl) ?_
      obtain ⟨g, hf⟩ := gi_s hf
      refine x_ald E hP 2 rfl g dX2_lowestFor_15 ?_
      refine lv_iconst (v := (-1)) hx hb dX2_lowestFor_16 (by decide) ?_
      refine lv_icmp_ne (tgt := 26) hx hb dX2_lowestFor_17 (by decide) (fun hc => ?_) (fun hc => ?_)
      · rw [if_neg hc] at hf
        refine lv_iconst (v := 0) hx hb dX2_lowestFor_26 (by decide) ?_
        exact k_X2_lowestFor_27 E a0 a1 a2 a3 a4 a5 a6 r (f_X2_lowestFor_4 n) ih v1 v3 0 x hf hP _ (lv_sub hl [0, 1, 3] rfl)
      · rw [if_pos hc] at hf
        refine lv_iload_n hx hb dX2_lowestFor_20 rfl (lv_at hl 2 rfl) ?_
        refine lv_iconst (v := 1) hx hb dX2_lowestFor_21 (by decide) ?_
        refine lv_iadd hx hb dX2_lowestFor_22 ?_
        refine lv_goto (tgt := 27) hx hb dX2_lowestFor_23 (by decide) ?_
        exact k_X2_lowestFor_27 E a0 a1 a2 a3 a4 a5 a6 r (f_X2_lowestFor_4 n) ih v1 v3 (v2 + 1) x hf hP _ (lv_sub hl [0, 1, 3] rfl)
set_option maxRecDepth 100000 in
set_option maxHeartbeats 4000000 in
theorem mt_X2_lowestFor (l : Launch) (D : va_G) (I J O : ClassId) (a0 a1 a2 a3 a4 a5 a6 : Nat) (p0 : Int32) (x : SlC) (r : Int32) (hf : f_X2_lowestFor p0 x = some r) : mR l yX2_lowestFor cX2_lowestFor 4 (some .int) 0 0 D I J O [.ref a0, .int p0] (wSl I a0 a1 a2 a3 a4 a5 a6 x) (qRi r) := by
  refine mR_open (own := RX2) rfl (by decide +kernel) (Nat.le_of_ble_eq_true rfl) (fun p e s m below meth c ls E hP hl => ?_)
  have hx := E.1
  have hb := E.2.1
  have hl : lv_has ls 4 [(0, .ref a0), (1, .int p0)] := hl
  unfold f_X2_lowestFor at hf
  refine lv_iconst (v := 0) hx hb dX2_lowestFor_0 (by decide) ?_
  refine lv_istore_n (lv' := [(2, .int 0), (0, .ref a0), (1, .int p0)]) hx hb dX2_lowestFor_1 rfl hl (by decide) rfl (fun ls hl => ?_)
  refine lv_iconst (v := 0) hx hb dX2_lowestFor_2 (by decide) ?_
  refine lv_istore_n (lv' := [(3, .int 0), (2, .int 0), (0, .ref a0), (1, .int p0)]) hx hb dX2_lowestFor_3 rfl hl (by decide) rfl (fun ls hl => ?_)
  exact k_X2_lowestFor_4 E a0 a1 a2 a3 a4 a5 a6 r FU p0 0 0 x hf hP _ (lv_sub hl [2, 3, 1, 0] rfl)
theorem ok_X2_growTo : yV yX2_growTo cX2_growTo 3 none 1 := ⟨q269, q3, q268, qs6, by decide +kernel, by decide +kernel, by decide +kernel⟩
set_option maxRecDepth 100000 in
set_option maxHeartbeats 4000000 in
theorem k_X2_growTo_2 {p : Program} {l : Launch} {e : Env} {s : State} {m : MethodId} {args : Array Value} {below : List Frame} {meth : Method} {c : Code} {D : va_G} {I J O : ClassId} (E : fx p s m args meth c cX2_growTo RX2 3 none D I J O) (a0 a1 a2 a3 a4 a5 a6 : Nat)  {ws0 : va_W} {sz : Nat} (y0 : SlC) : ∀ n : Nat, ∀ (v1 : Int32) (v2 : Int32) (x : SlC), f_X2_growTo_2 n v1 v2 x = some y0 → ∀ (H : Heap) (locs : List Loc), fy D (va_A ws0 sz) s.heap H locs (wSl I a0 a1 a2 a3 a4 a5 a6 x) → ∀ ls : Array Slot, lv_has ls 3 [(0, .ref a0), (1, .int v1), (2, .int v2)] → W p l e (rmB 0 0 0 0) s m args below meth c H locs 0 0 (MQ below (qMv D sz ws0 (fun _ : Unit => wSl I a0 a1 a2 a3 a4 a5 a6 y0)) args s 0 0 (va_A ws0 sz)) (F0 m 2 ls []) := by
  have hx := E.1
  have hb := E.2.1
  intro n
  induction n with
  | zero =>
    intro v1 v2 x hf H locs hw ls hl
    rw [f_X2_growTo_2.eq_1] at hf
    cases hf
  | succ n ih =>
    intro v1 v2 x hf H locs hw ls hl
    rw [f_X2_growTo_2.eq_2] at hf
    refine lv_iload_n hx hb dX2_growTo_2 rfl (lv_at hl 2 rfl) ?_
    refine lv_iconst (v := 2) hx hb dX2_growTo_3 (by decide) ?_
    refine lv_icmp_ge (tgt := 40) hx hb dX2_growTo_4 (by decide) (fun hc => ?_) (fun hc => ?_)
    · rw [if_pos hc] at hf
      have h0 := (Option.some.inj hf)
      subst h0
      exact x_vM E () hw dX2_growTo_40
    · rw [if_neg hc] at hf
      refine lv_aload_n hx hb dX2_growTo_7 rfl (lv_at hl 0 rfl) ?_
      refine x_get E hw.1 0 rfl rfl in2 0 (by decide) q37 rfl rfl dX2_growTo_8 ?_
      refine lv_iload_n hx hb dX2_growTo_11 rfl (lv_at hl 1 rfl) ?_
      refine lv_icmp_ge (tgt := 34) hx hb dX2_growTo_12 (by decide) (fun hc => ?_) (fun hc => ?_)
      · rw [if_pos hc] at hf
        refine lv_iinc (v := v2 + 1) (lv' := [(2, .int (v2 + 1)), (0, .ref a0), (1, .int v1)]) hx hb dX2_growTo_34 hl (k := 2) rfl rfl (by decide) rfl (fun ls hl => ?_)
        refine lv_goto (tgt := 2) hx hb dX2_growTo_37 (by decide) ?_
        exact ih v1 (v2 + 1) x hf _ _ hw _ (lv_sub hl [1, 2, 0] rfl)
      · rw [if_neg hc] at hf
        refine lv_aload_n hx hb dX2_growTo_15 rfl (lv_at hl 0 rfl) ?_
        refine x_get E hw.1 0 rfl rfl in2 0 (by decide) q37 rfl rfl dX2_growTo_16 ?_
        refine lv_bipush (v := 64) hx hb dX2_growTo_19 (by decide) ?_
        refine lv_icmp_ge (tgt := 34) hx hb dX2_growTo_21 (by decide) (fun hc => ?_) (fun hc => ?_)
        · rw [if_pos hc] at hf
          refine lv_iinc (v := v2 + 1) (lv' := [(2, .int (v2 + 1)), (0, .ref a0), (1, .int v1)]) hx hb dX2_growTo_34 hl (k := 2) rfl rfl (by decide) rfl (fun ls hl => ?_)
          refine lv_goto (tgt := 2) hx hb dX2_growTo_37 (by decide) ?_
          exact ih v1 (v2 + 1) x hf _ _ hw _ (lv_sub hl [1, 2, 0] rfl)
        · rw [if_neg hc] at hf
          refine lv_aload_n hx hb dX2_growTo_24 rfl (lv_at hl 0 rfl) ?_
          refine lv_iconst (v := 2) hx hb dX2_growTo_25 (by decide) ?_
          refine lv_aload_n hx hb dX2_growTo_26 rfl (lv_at hl 0 rfl) ?_
          refine x_get E hw.1 0 rfl rfl in2 0 (by decide) q37 rfl rfl dX2_growTo_27 ?_
          refine lv_imul hx hb dX2_growTo_30 ?_
          refine x_put E hw 0 rfl rfl in2 tyX2_ok nmX2 0 (by decide) q37 rfl rfl rfl rfl (Nat.le_of_ble_eq_true rfl) dX2_growTo_31 (fun H locs hw => ?_)
          have hw : fy D (va_A ws0 sz) s.heap H locs (wSl I a0 a1 a2 a3 a4 a5 a6 (2 * x.1, x.2)) := hw
          refine lv_iinc (v := v2 + 1) (lv' := [(2, .int (v2 + 1)), (0, .ref a0), (1, .int v1)]) hx hb dX2_growTo_34 hl (k := 2) rfl rfl (by decide) rfl (fun ls hl => ?_)
          refine lv_goto (tgt := 2) hx hb dX2_growTo_37 (by decide) ?_
          exact ih v1 (v2 + 1) (2 * x.1, x.2) hf _ _ hw _ (lv_sub hl [1, 2, 0] rfl)
set_option maxRecDepth 100000 in
set_option maxHeartbeats 4000000 in
theorem mt_X2_growTo (l : Launch) (D : va_G) (I J O : ClassId) (a0 a1 a2 a3 a4 a5 a6 : Nat) (sz : Nat) (p0 : Int32) (x : SlC) (y0 : SlC) (hf : f_X2_growTo p0 x = some y0) : mM l yX2_growTo cX2_growTo 3 none 0 0 0 0 D I J O sz [.ref a0, .int p0] (wSl I a0 a1 a2 a3 a4 a5 a6 x) (qMv D sz (wSl I a0 a1 a2 a3 a4 a5 a6 x) (fun _ : Unit => wSl I a0 a1 a2 a3 a4 a5 a6 y0)) := by
  refine mM_open (own := RX2) rfl (by decide +kernel) (Nat.le_of_ble_eq_true rfl) (fun p e s m below meth c ls E hnm hsz hw hl => ?_)
  obtain ⟨ws0, hws⟩ : ∃ ws0 : va_W, ws0 = wSl I a0 a1 a2 a3 a4 a5 a6 x := ⟨_, rfl⟩
  have hw : fy D (va_A ws0 sz) s.heap s.heap [] (wSl I a0 a1 a2 a3 a4 a5 a6 x) := by rw [hws]; exact hw
  rw [← hws]
  have hx := E.1
  have hb := E.2.1
  have hl : lv_has ls 3 [(0, .ref a0), (1, .int p0)] := hl
  unfold f_X2_growTo at hf
  refine lv_iconst (v := 0) hx hb dX2_growTo_0 (by decide) ?_
  refine lv_istore_n (lv' := [(2, .int 0), (0, .ref a0), (1, .int p0)]) hx hb dX2_growTo_1 rfl hl (by decide) rfl (fun ls hl => ?_)
  exact k_X2_growTo_2 E a0 a1 a2 a3 a4 a5 a6 y0 FU p0 0 x hf _ _ hw _ (lv_sub hl [1, 2, 0] rfl)
theorem ok_X2_giveCells : yV yX2_giveCells cX2_giveCells 5 none 3 := ⟨q217, q3, q216, qs2, by decide +kernel, by decide +kernel, by decide +kernel⟩
set_option maxRecDepth 100000 in
set_option maxHeartbeats 4000000 in
theorem k_X2_giveCells_3 {p : Program} {l : Launch} {e : Env} {s : State} {m : MethodId} {args : Array Value} {below : List Frame} {meth : Method} {c : Code} {D : va_G} {I J O : ClassId} (E : fx p s m args meth c cX2_giveCells RX2 5 none D I J O) (a0 a1 a2 a3 a4 a5 a6 : Nat)  {ws0 : va_W} {sz : Nat} (y0 : SlC) : ∀ n : Nat, ∀ (v1 : Int32) (v2 : Int32) (v3 : Int32) (v4 : Int32) (x : SlC), f_X2_giveCells_3 n v1 v2 v3 v4 x = some y0 → ∀ (H : Heap) (locs : List Loc), fy D (va_A ws0 sz) s.heap H locs (wSl I a0 a1 a2 a3 a4 a5 a6 x) → ∀ ls : Array Slot, lv_has ls 5 [(0, .ref a0), (1, .int v1), (2, .int v2), (3, .int v3), (4, .int v4)] → W p l e (rmB 1 21 0 0) s m args below meth c H locs 0 0 (MQ below (qMv D sz ws0 (fun _ : Unit => wSl I a0 a1 a2 a3 a4 a5 a6 y0)) args s 0 0 (va_A ws0 sz)) (F0 m 3 ls []) := by
  have hx := E.1
  have hb := E.2.1
  intro n
  induction n with
  | zero =>
    intro v1 v2 v3 v4 x hf H locs hw ls hl
    rw [f_X2_giveCells_3.eq_1] at hf
    cases hf
  | succ n ih =>
    intro v1 v2 v3 v4 x hf H locs hw ls hl
    rw [f_X2_giveCells_3.eq_2] at hf
    refine lv_iload hx hb dX2_giveCells_3 (lv_at hl 4 rfl) ?_
    refine lv_iload_n hx hb dX2_giveCells_5 rfl (lv_at hl 1 rfl) ?_
    refine lv_iload_n hx hb dX2_giveCells_6 rfl (lv_at hl 2 rfl) ?_
    refine lv_iadd hx hb dX2_giveCells_7 ?_
    refine lv_icmp_ge (tgt := 34) hx hb dX2_giveCells_8 (by decide) (fun hc => ?_) (fun hc => ?_)
    · rw [if_pos hc] at hf
      have h0 := (Option.some.inj hf)
      subst h0
      exact x_vM E () hw dX2_giveCells_34
    · rw [if_neg hc] at hf
      refine lv_aload_n hx hb dX2_giveCells_11 rfl (lv_at hl 0 rfl) ?_
      refine lv_iload hx hb dX2_giveCells_12 (lv_at hl 4 rfl) ?_
      obtain ⟨z1, h, hf⟩ := bd_s hf
      refine x_ci (x_rV E (As := [.int v4]) (rest := []) (mt_X2_isCell l D I J O a0 a1 a2 a3 a4 a5 a6 v4 x z1 h) blR (x_recv E hw.1 0 2 rfl rfl rfl) (x_pcR E hw.1) ok_X2_isCell q190 rfl hl.1 rfl (Nat.le_of_ble_eq_true rfl) ⟨Nat.le_of_ble_eq_true rfl, Nat.le_of_ble_eq_true rfl⟩ ⟨Nat.le_of_ble_eq_true rfl, Nat.le_of_ble_eq_true rfl⟩ dX2_giveCells_14) ?_
      refine lv_if_eq (tgt := 28) hx hb dX2_giveCells_17 (by decide) (fun hc => ?_) (fun hc => ?_)
      · rw [if_pos hc] at hf
        refine lv_iinc (v := v4 + 1) (lv' := [(4, .int (v4 + 1)), (0, .ref a0), (1, .int v1), (2, .int v2), (3, .int v3)]) hx hb dX2_giveCells_28 hl (k := 4) rfl rfl (by decide) rfl (fun ls hl => ?_)
        refine lv_goto (tgt := 3) hx hb dX2_giveCells_31 (by decide) ?_
        exact ih v1 v2 v3 (v4 + 1) x hf _ _ hw _ (lv_sub hl [1, 2, 3, 4, 0] rfl)
      · rw [if_neg hc] at hf
        refine lv_aload_n hx hb dX2_giveCells_20 rfl (lv_at hl 0 rfl) ?_
        refine x_get E hw.1 0 rfl rfl in2 2 (by decide) q39 rfl rfl dX2_giveCells_21 ?_
        refine lv_iload hx hb dX2_giveCells_24 (lv_at hl 4 rfl) ?_
        refine lv_iload_n hx hb dX2_giveCells_26 rfl (lv_at hl 3 rfl) ?_
        obtain ⟨g, hf⟩ := gi_s hf
        refine x_ast E hw 2 rfl g dX2_giveCells_27 (fun H locs hw => ?_)
        have hw : fy D (va_A ws0 sz) s.heap H locs (wSl I a0 a1 a2 a3 a4 a5 a6 (x.1, x.2.1, (upd x.2.2.1 v4.toNatClampNeg v3), x.2.2.2)) := hw
        refine lv_iinc (v := v4 + 1) (lv' := [(4, .int (v4 + 1)), (0, .ref a0), (1, .int v1), (2, .int v2), (3, .int v3)]) hx hb dX2_giveCells_28 hl (k := 4) rfl rfl (by decide) rfl (fun ls hl => ?_)
        refine lv_goto (tgt := 3) hx hb dX2_giveCells_31 (by decide) ?_
        exact ih v1 v2 v3 (v4 + 1) (x.1, x.2.1, (upd x.2.2.1 v4.toNatClampNeg v3), x.2.2.2) hf _ _ hw _ (lv_sub hl [1, 2, 3, 4, 0] rfl)
set_option maxRecDepth 100000 in
set_option maxHeartbeats 4000000 in
theorem mt_X2_giveCells (l : Launch) (D : va_G) (I J O : ClassId) (a0 a1 a2 a3 a4 a5 a6 : Nat) (sz : Nat) (p0 : Int32) (p1 : Int32) (p2 : Int32) (x : SlC) (y0 : SlC) (hf : f_X2_giveCells p0 p1 p2 x = some y0) : mM l yX2_giveCells cX2_giveCells 5 none 1 21 0 0 D I J O sz [.ref a0, .int p0, .int p1, .int p2] (wSl I a0 a1 a2 a3 a4 a5 a6 x) (qMv D sz (wSl I a0 a1 a2 a3 a4 a5 a6 x) (fun _ : Unit => wSl I a0 a1 a2 a3 a4 a5 a6 y0)) := by
  refine mM_open (own := RX2) rfl (by decide +kernel) (Nat.le_of_ble_eq_true rfl) (fun p e s m below meth c ls E hnm hsz hw hl => ?_)
  obtain ⟨ws0, hws⟩ : ∃ ws0 : va_W, ws0 = wSl I a0 a1 a2 a3 a4 a5 a6 x := ⟨_, rfl⟩
  have hw : fy D (va_A ws0 sz) s.heap s.heap [] (wSl I a0 a1 a2 a3 a4 a5 a6 x) := by rw [hws]; exact hw
  rw [← hws]
  have hx := E.1
  have hb := E.2.1
  have hl : lv_has ls 5 [(0, .ref a0), (1, .int p0), (2, .int p1), (3, .int p2)] := hl
  unfold f_X2_giveCells at hf
  refine lv_iload_n hx hb dX2_giveCells_0 rfl (lv_at hl 1 rfl) ?_
  refine lv_istore (lv' := [(4, .int p0), (0, .ref a0), (1, .int p0), (2, .int p1), (3, .int p2)]) hx hb dX2_giveCells_1 hl (by decide) rfl (fun ls hl => ?_)
  exact k_X2_giveCells_3 E a0 a1 a2 a3 a4 a5 a6 y0 FU p0 p1 p2 p0 x hf _ _ hw _ (lv_sub hl [1, 2, 3, 4, 0] rfl)
theorem ok_X2_occupy : yV yX2_occupy cX2_occupy 5 none 4 := ⟨q265, q3, q263, q264, by decide +kernel, by decide +kernel, by decide +kernel⟩
set_option maxRecDepth 100000 in
set_option maxHeartbeats 4000000 in
theorem mt_X2_occupy (l : Launch) (D : va_G) (I J O : ClassId) (a0 a1 a2 a3 a4 a5 a6 : Nat) (sz : Nat) (p0 : Int32) (p1 : Int32) (p2 : Int32) (p3 : Int32) (x : SlC) (y0 : SlC) (hf : f_X2_occupy p0 p1 p2 p3 x = some y0) : mM l yX2_occupy cX2_occupy 5 none 2 45 0 0 D I J O sz [.ref a0, .int p0, .int p1, .int p2, .int p3] (wSl I a0 a1 a2 a3 a4 a5 a6 x) (qMv D sz (wSl I a0 a1 a2 a3 a4 a5 a6 x) (fun _ : Unit => wSl I a0 a1 a2 a3 a4 a5 a6 y0)) := by
  refine mM_open (own := RX2) rfl (by decide +kernel) (Nat.le_of_ble_eq_true rfl) (fun p e s m below meth c ls E hnm hsz hw hl => ?_)
  obtain ⟨ws0, hws⟩ : ∃ ws0 : va_W, ws0 = wSl I a0 a1 a2 a3 a4 a5 a6 x := ⟨_, rfl⟩
  have hw : fy D (va_A ws0 sz) s.heap s.heap [] (wSl I a0 a1 a2 a3 a4 a5 a6 x) := by rw [hws]; exact hw
  rw [← hws]
  have hx := E.1
  have hb := E.2.1
  have hl : lv_has ls 5 [(0, .ref a0), (1, .int p0), (2, .int p1), (3, .int p2), (4, .int p3)] := hl
  unfold f_X2_occupy at hf
  refine lv_aload_n hx hb dX2_occupy_0 rfl (lv_at hl 0 rfl) ?_
  refine lv_iload_n hx hb dX2_occupy_1 rfl (lv_at hl 1 rfl) ?_
  refine lv_iload_n hx hb dX2_occupy_2 rfl (lv_at hl 3 rfl) ?_
  refine lv_iadd hx hb dX2_occupy_3 ?_
  obtain ⟨z1, h, hf⟩ := bd_s hf
  refine x_mv0 hw [0, 1, 2, 3, 4, 5, 6] [] rfl rfl rfl (by decide) [0, 1, 2, 3, 4, 5, 6] rfl (fun _ : Unit => wSl I a0 a1 a2 a3 a4 a5 a6 z1) (fun _ => rfl) (x_rV E (As := [.int (p0 + p2)]) (rest := []) (mt_X2_growTo l D I J O a0 a1 a2 a3 a4 a5 a6 s.heap.size (p0 + p2) x z1 h) blM (x_recv E hw.1 0 2 rfl rfl rfl) (x_pcMQ0 E hw [0, 1, 2, 3, 4, 5, 6] rfl rfl) ok_X2_growTo q266 rfl hl.1 rfl (Nat.le_of_ble_eq_true rfl) ⟨Nat.le_of_ble_eq_true rfl, Nat.le_of_ble_eq_true rfl⟩ ⟨Nat.le_of_ble_eq_true rfl, Nat.le_of_ble_eq_true rfl⟩ dX2_occupy_4) (fun _ H locs hw => ?_)
  have hw : fy D (va_A ws0 sz) s.heap H locs (wSl I a0 a1 a2 a3 a4 a5 a6 z1) := hw
  refine lv_aload_n hx hb dX2_occupy_7 rfl (lv_at hl 0 rfl) ?_
  refine lv_iload_n hx hb dX2_occupy_8 rfl (lv_at hl 1 rfl) ?_
  obtain ⟨z2, h, hf⟩ := bd_s hf
  refine x_ci (x_rV E (As := [.int p0]) (rest := []) (mt_X2_isCell l D I J O a0 a1 a2 a3 a4 a5 a6 p0 z1 z2 h) blR (x_recv E hw.1 0 2 rfl rfl rfl) (x_pcR E hw.1) ok_X2_isCell q190 rfl hl.1 rfl (Nat.le_of_ble_eq_true rfl) ⟨Nat.le_of_ble_eq_true rfl, Nat.le_of_ble_eq_true rfl⟩ ⟨Nat.le_of_ble_eq_true rfl, Nat.le_of_ble_eq_true rfl⟩ dX2_occupy_9) ?_
  refine lv_if_ne (tgt := 16) hx hb dX2_occupy_12 (by decide) (fun hc => ?_) (fun hc => ?_)
  · rw [if_neg hc] at hf
    refine lv_aload_n hx hb dX2_occupy_16 rfl (lv_at hl 0 rfl) ?_
    refine x_get E hw.1 0 rfl rfl in2 3 (by decide) q40 rfl rfl dX2_occupy_17 ?_
    refine lv_iload_n hx hb dX2_occupy_20 rfl (lv_at hl 1 rfl) ?_
    refine lv_iload_n hx hb dX2_occupy_21 rfl (lv_at hl 3 rfl) ?_
    obtain ⟨g, hf⟩ := gi_s hf
    refine x_ast E hw 3 rfl g dX2_occupy_22 (fun H locs hw => ?_)
    have hw : fy D (va_A ws0 sz) s.heap H locs (wSl I a0 a1 a2 a3 a4 a5 a6 (z1.1, z1.2.1, z1.2.2.1, (upd z1.2.2.2.1 p0.toNatClampNeg p2), z1.2.2.2.2)) := hw
    refine lv_aload_n hx hb dX2_occupy_23 rfl (lv_at hl 0 rfl) ?_
    refine x_get E hw.1 0 rfl rfl in2 4 (by decide) q41 rfl rfl dX2_occupy_24 ?_
    refine lv_iload_n hx hb dX2_occupy_27 rfl (lv_at hl 1 rfl) ?_
    refine lv_iload_n hx hb dX2_occupy_28 rfl (lv_at hl 2 rfl) ?_
    obtain ⟨g, hf⟩ := gi_s hf
    refine x_ast E hw 4 rfl g dX2_occupy_29 (fun H locs hw => ?_)
    have hw : fy D (va_A ws0 sz) s.heap H locs (wSl I a0 a1 a2 a3 a4 a5 a6 (z1.1, z1.2.1, z1.2.2.1, (upd z1.2.2.2.1 p0.toNatClampNeg p2), (upd z1.2.2.2.2.1 p0.toNatClampNeg p1), z1.2.2.2.2.2)) := hw
    refine lv_aload_n hx hb dX2_occupy_30 rfl (lv_at hl 0 rfl) ?_
    refine x_get E hw.1 0 rfl rfl in2 5 (by decide) q42 rfl rfl dX2_occupy_31 ?_
    refine lv_iload_n hx hb dX2_occupy_34 rfl (lv_at hl 1 rfl) ?_
    refine lv_iload hx hb dX2_occupy_35 (lv_at hl 4 rfl) ?_
    obtain ⟨g, hf⟩ := gi_s hf
    refine x_ast E hw 5 rfl g dX2_occupy_37 (fun H locs hw => ?_)
    have hw : fy D (va_A ws0 sz) s.heap H locs (wSl I a0 a1 a2 a3 a4 a5 a6 (z1.1, z1.2.1, z1.2.2.1, (upd z1.2.2.2.1 p0.toNatClampNeg p2), (upd z1.2.2.2.2.1 p0.toNatClampNeg p1), (upd z1.2.2.2.2.2.1 p0.toNatClampNeg p3), z1.2.2.2.2.2.2)) := hw
    refine lv_aload_n hx hb dX2_occupy_38 rfl (lv_at hl 0 rfl) ?_
    refine x_get E hw.1 0 rfl rfl in2 6 (by decide) q43 rfl rfl dX2_occupy_39 ?_
    refine lv_iload_n hx hb dX2_occupy_42 rfl (lv_at hl 1 rfl) ?_
    refine lv_iconst (v := 0) hx hb dX2_occupy_43 (by decide) ?_
    obtain ⟨g, hf⟩ := gi_s hf
    refine x_ast E hw 6 rfl g dX2_occupy_44 (fun H locs hw => ?_)
    have hw : fy D (va_A ws0 sz) s.heap H locs (wSl I a0 a1 a2 a3 a4 a5 a6 (z1.1, z1.2.1, z1.2.2.1, (upd z1.2.2.2.1 p0.toNatClampNeg p2), (upd z1.2.2.2.2.1 p0.toNatClampNeg p1), (upd z1.2.2.2.2.2.1 p0.toNatClampNeg p3), (upd z1.2.2.2.2.2.2 p0.toNatClampNeg 0))) := hw
    refine lv_aload_n hx hb dX2_occupy_45 rfl (lv_at hl 0 rfl) ?_
    refine lv_iload_n hx hb dX2_occupy_46 rfl (lv_at hl 1 rfl) ?_
    refine lv_iload_n hx hb dX2_occupy_47 rfl (lv_at hl 3 rfl) ?_
    refine lv_iload_n hx hb dX2_occupy_48 rfl (lv_at hl 1 rfl) ?_
    obtain ⟨z3, h, hf⟩ := bd_s hf
    refine x_mv0 hw [0, 1, 2, 3, 4, 5, 6] [] rfl rfl rfl (by decide) [0, 1, 2, 3, 4, 5, 6] rfl (fun _ : Unit => wSl I a0 a1 a2 a3 a4 a5 a6 z3) (fun _ => rfl) (x_rV E (As := [.int p0, .int p2, .int p0]) (rest := []) (mt_X2_giveCells l D I J O a0 a1 a2 a3 a4 a5 a6 H.size p0 p2 p0 (z1.1, z1.2.1, z1.2.2.1, (upd z1.2.2.2.1 p0.toNatClampNeg p2), (upd z1.2.2.2.2.1 p0.toNatClampNeg p1), (upd z1.2.2.2.2.2.1 p0.toNatClampNeg p3), (upd z1.2.2.2.2.2.2 p0.toNatClampNeg 0)) z3 h) blM (x_recv E hw.1 0 2 rfl rfl rfl) (x_pcMQ0 E hw [0, 1, 2, 3, 4, 5, 6] rfl rfl) ok_X2_giveCells q214 rfl hl.1 rfl (Nat.le_of_ble_eq_true rfl) ⟨Nat.le_of_ble_eq_true rfl, Nat.le_of_ble_eq_true rfl⟩ ⟨Nat.le_of_ble_eq_true rfl, Nat.le_of_ble_eq_true rfl⟩ dX2_occupy_49) (fun _ H locs hw => ?_)
    have hw : fy D (va_A ws0 sz) s.heap H locs (wSl I a0 a1 a2 a3 a4 a5 a6 z3) := hw
    have h0 := (Option.some.inj hf)
    subst h0
    exact x_vM E () hw dX2_occupy_52
  · rw [if_pos hc] at hf
    have h0 := (Option.some.inj hf)
    subst h0
    exact x_vM E () hw dX2_occupy_15
theorem ok_X2_release : yV yX2_release cX2_release 2 none 1 := ⟨q213, q3, q211, q212, by decide +kernel, by decide +kernel, by decide +kernel⟩
set_option maxRecDepth 100000 in
set_option maxHeartbeats 4000000 in
theorem mt_X2_release (l : Launch) (D : va_G) (I J O : ClassId) (a0 a1 a2 a3 a4 a5 a6 : Nat) (sz : Nat) (p0 : Int32) (x : SlC) (y0 : SlC) (hf : f_X2_release p0 x = some y0) : mM l yX2_release cX2_release 2 none 2 45 0 0 D I J O sz [.ref a0, .int p0] (wSl I a0 a1 a2 a3 a4 a5 a6 x) (qMv D sz (wSl I a0 a1 a2 a3 a4 a5 a6 x) (fun _ : Unit => wSl I a0 a1 a2 a3 a4 a5 a6 y0)) := by
  refine mM_open (own := RX2) rfl (by decide +kernel) (Nat.le_of_ble_eq_true rfl) (fun p e s m below meth c ls E hnm hsz hw hl => ?_)
  obtain ⟨ws0, hws⟩ : ∃ ws0 : va_W, ws0 = wSl I a0 a1 a2 a3 a4 a5 a6 x := ⟨_, rfl⟩
  have hw : fy D (va_A ws0 sz) s.heap s.heap [] (wSl I a0 a1 a2 a3 a4 a5 a6 x) := by rw [hws]; exact hw
  rw [← hws]
  have hx := E.1
  have hb := E.2.1
  have hl : lv_has ls 2 [(0, .ref a0), (1, .int p0)] := hl
  unfold f_X2_release at hf
  refine lv_aload_n hx hb dX2_release_0 rfl (lv_at hl 0 rfl) ?_
  refine lv_iload_n hx hb dX2_release_1 rfl (lv_at hl 1 rfl) ?_
  obtain ⟨z1, h, hf⟩ := bd_s hf
  refine x_ci (x_rV E (As := [.int p0]) (rest := []) (mt_X2_isCell l D I J O a0 a1 a2 a3 a4 a5 a6 p0 x z1 h) blR (x_recv E hw.1 0 2 rfl rfl rfl) (x_pcR E hw.1) ok_X2_isCell q190 rfl hl.1 rfl (Nat.le_of_ble_eq_true rfl) ⟨Nat.le_of_ble_eq_true rfl, Nat.le_of_ble_eq_true rfl⟩ ⟨Nat.le_of_ble_eq_true rfl, Nat.le_of_ble_eq_true rfl⟩ dX2_release_2) ?_
  refine lv_if_ne (tgt := 9) hx hb dX2_release_5 (by decide) (fun hc => ?_) (fun hc => ?_)
  · rw [if_neg hc] at hf
    refine lv_aload_n hx hb dX2_release_9 rfl (lv_at hl 0 rfl) ?_
    refine lv_iload_n hx hb dX2_release_10 rfl (lv_at hl 1 rfl) ?_
    refine lv_aload_n hx hb dX2_release_11 rfl (lv_at hl 0 rfl) ?_
    refine x_get E hw.1 0 rfl rfl in2 3 (by decide) q40 rfl rfl dX2_release_12 ?_
    refine lv_iload_n hx hb dX2_release_15 rfl (lv_at hl 1 rfl) ?_
    obtain ⟨g, hf⟩ := gi_s hf
    refine x_ald E hw.1 3 rfl g dX2_release_16 ?_
    refine lv_iconst (v := (-1)) hx hb dX2_release_17 (by decide) ?_
    obtain ⟨z2, h, hf⟩ := bd_s hf
    refine x_mv0 hw [0, 1, 2, 3, 4, 5, 6] [] rfl rfl rfl (by decide) [0, 1, 2, 3, 4, 5, 6] rfl (fun _ : Unit => wSl I a0 a1 a2 a3 a4 a5 a6 z2) (fun _ => rfl) (x_rV E (As := [.int p0, .int (x.2.2.2.1 p0.toNatClampNeg), .int (-1)]) (rest := []) (mt_X2_giveCells l D I J O a0 a1 a2 a3 a4 a5 a6 s.heap.size p0 (x.2.2.2.1 p0.toNatClampNeg) (-1) x z2 h) blM (x_recv E hw.1 0 2 rfl rfl rfl) (x_pcMQ0 E hw [0, 1, 2, 3, 4, 5, 6] rfl rfl) ok_X2_giveCells q214 rfl hl.1 rfl (Nat.le_of_ble_eq_true rfl) ⟨Nat.le_of_ble_eq_true rfl, Nat.le_of_ble_eq_true rfl⟩ ⟨Nat.le_of_ble_eq_true rfl, Nat.le_of_ble_eq_true rfl⟩ dX2_release_18) (fun _ H locs hw => ?_)
    have hw : fy D (va_A ws0 sz) s.heap H locs (wSl I a0 a1 a2 a3 a4 a5 a6 z2) := hw
    refine lv_aload_n hx hb dX2_release_21 rfl (lv_at hl 0 rfl) ?_
    refine x_get E hw.1 0 rfl rfl in2 3 (by decide) q40 rfl rfl dX2_release_22 ?_
    refine lv_iload_n hx hb dX2_release_25 rfl (lv_at hl 1 rfl) ?_
    refine lv_iconst (v := 0) hx hb dX2_release_26 (by decide) ?_
    obtain ⟨g, hf⟩ := gi_s hf
    refine x_ast E hw 3 rfl g dX2_release_27 (fun H locs hw => ?_)
    have hw : fy D (va_A ws0 sz) s.heap H locs (wSl I a0 a1 a2 a3 a4 a5 a6 (z2.1, z2.2.1, z2.2.2.1, (upd z2.2.2.2.1 p0.toNatClampNeg 0), z2.2.2.2.2)) := hw
    refine lv_aload_n hx hb dX2_release_28 rfl (lv_at hl 0 rfl) ?_
    refine x_get E hw.1 0 rfl rfl in2 1 (by decide) q38 rfl rfl dX2_release_29 ?_
    refine lv_iload_n hx hb dX2_release_32 rfl (lv_at hl 1 rfl) ?_
    refine lv_aload_n hx hb dX2_release_33 rfl (lv_at hl 0 rfl) ?_
    refine x_get E hw.1 0 rfl rfl in2 1 (by decide) q38 rfl rfl dX2_release_34 ?_
    refine lv_iload_n hx hb dX2_release_37 rfl (lv_at hl 1 rfl) ?_
    obtain ⟨g, hf⟩ := gi_s hf
    refine x_ald E hw.1 1 rfl g dX2_release_38 ?_
    refine lv_iconst (v := 1) hx hb dX2_release_39 (by decide) ?_
    refine lv_iadd hx hb dX2_release_40 ?_
    refine lv_sipush (v := 1000) hx hb dX2_release_41 (by decide) ?_
    refine lv_irem hx hb dX2_release_44 (by decide) ?_
    obtain ⟨g, hf⟩ := gi_s hf
    refine x_ast E hw 1 rfl g dX2_release_45 (fun H locs hw => ?_)
    have hw : fy D (va_A ws0 sz) s.heap H locs (wSl I a0 a1 a2 a3 a4 a5 a6 (z2.1, (upd z2.2.1 p0.toNatClampNeg (((z2.2.1 p0.toNatClampNeg) + 1) - ((z2.2.1 p0.toNatClampNeg) + 1) / 1000 * 1000)), z2.2.2.1, (upd z2.2.2.2.1 p0.toNatClampNeg 0), z2.2.2.2.2)) := hw
    have h0 := (Option.some.inj hf)
    subst h0
    exact x_vM E () hw dX2_release_46
  · rw [if_pos hc] at hf
    have h0 := (Option.some.inj hf)
    subst h0
    exact x_vM E () hw dX2_release_8
theorem ok_X2_setTimesFired : yV yX2_setTimesFired cX2_setTimesFired 3 none 2 := ⟨q205, q3, q203, q204, by decide +kernel, by decide +kernel, by decide +kernel⟩
set_option maxRecDepth 100000 in
set_option maxHeartbeats 4000000 in
theorem mt_X2_setTimesFired (l : Launch) (D : va_G) (I J O : ClassId) (a0 a1 a2 a3 a4 a5 a6 : Nat) (sz : Nat) (p0 : Int32) (p1 : Int32) (x : SlC) (y0 : SlC) (hf : f_X2_setTimesFired p0 p1 x = some y0) : mM l yX2_setTimesFired cX2_setTimesFired 3 none 1 21 0 0 D I J O sz [.ref a0, .int p0, .int p1] (wSl I a0 a1 a2 a3 a4 a5 a6 x) (qMv D sz (wSl I a0 a1 a2 a3 a4 a5 a6 x) (fun _ : Unit => wSl I a0 a1 a2 a3 a4 a5 a6 y0)) := by
  refine mM_open (own := RX2) rfl (by decide +kernel) (Nat.le_of_ble_eq_true rfl) (fun p e s m below meth c ls E hnm hsz hw hl => ?_)
  obtain ⟨ws0, hws⟩ : ∃ ws0 : va_W, ws0 = wSl I a0 a1 a2 a3 a4 a5 a6 x := ⟨_, rfl⟩
  have hw : fy D (va_A ws0 sz) s.heap s.heap [] (wSl I a0 a1 a2 a3 a4 a5 a6 x) := by rw [hws]; exact hw
  rw [← hws]
  have hx := E.1
  have hb := E.2.1
  have hl : lv_has ls 3 [(0, .ref a0), (1, .int p0), (2, .int p1)] := hl
  unfold f_X2_setTimesFired at hf
  refine lv_aload_n hx hb dX2_setTimesFired_0 rfl (lv_at hl 0 rfl) ?_
  refine lv_iload_n hx hb dX2_setTimesFired_1 rfl (lv_at hl 1 rfl) ?_
  obtain ⟨z1, h, hf⟩ := bd_s hf
  refine x_ci (x_rV E (As := [.int p0]) (rest := []) (mt_X2_isCell l D I J O a0 a1 a2 a3 a4 a5 a6 p0 x z1 h) blR (x_recv E hw.1 0 2 rfl rfl rfl) (x_pcR E hw.1) ok_X2_isCell q190 rfl hl.1 rfl (Nat.le_of_ble_eq_true rfl) ⟨Nat.le_of_ble_eq_true rfl, Nat.le_of_ble_eq_true rfl⟩ ⟨Nat.le_of_ble_eq_true rfl, Nat.le_of_ble_eq_true rfl⟩ dX2_setTimesFired_2) ?_
  refine lv_if_eq (tgt := 15) hx hb dX2_setTimesFired_5 (by decide) (fun hc => ?_) (fun hc => ?_)
  · rw [if_pos hc] at hf
    have h0 := (Option.some.inj hf)
    subst h0
    exact x_vM E () hw dX2_setTimesFired_15
  · rw [if_neg hc] at hf
    refine lv_aload_n hx hb dX2_setTimesFired_8 rfl (lv_at hl 0 rfl) ?_
    refine x_get E hw.1 0 rfl rfl in2 6 (by decide) q43 rfl rfl dX2_setTimesFired_9 ?_
    refine lv_iload_n hx hb dX2_setTimesFired_12 rfl (lv_at hl 1 rfl) ?_
    refine lv_iload_n hx hb dX2_setTimesFired_13 rfl (lv_at hl 2 rfl) ?_
    obtain ⟨g, hf⟩ := gi_s hf
    refine x_ast E hw 6 rfl g dX2_setTimesFired_14 (fun H locs hw => ?_)
    have hw : fy D (va_A ws0 sz) s.heap H locs (wSl I a0 a1 a2 a3 a4 a5 a6 (x.1, x.2.1, x.2.2.1, x.2.2.2.1, x.2.2.2.2.1, x.2.2.2.2.2.1, (upd x.2.2.2.2.2.2 p0.toNatClampNeg p1))) := hw
    have h0 := (Option.some.inj hf)
    subst h0
    exact x_vM E () hw dX2_setTimesFired_15
theorem ok_X2_carry : yV yX2_carry cX2_carry 7 none 2 := ⟨q289, q3, q287, q288, by decide +kernel, by decide +kernel, by decide +kernel⟩
set_option maxRecDepth 100000 in
set_option maxHeartbeats 4000000 in
theorem mt_X2_carry (l : Launch) (D : va_G) (I J O : ClassId) (a0 a1 a2 a3 a4 a5 a6 : Nat) (sz : Nat) (p0 : Int32) (p1 : Int32) (x : SlC) (y0 : SlC) (hf : f_X2_carry p0 p1 x = some y0) : mM l yX2_carry cX2_carry 7 none 3 69 0 0 D I J O sz [.ref a0, .int p0, .int p1] (wSl I a0 a1 a2 a3 a4 a5 a6 x) (qMv D sz (wSl I a0 a1 a2 a3 a4 a5 a6 x) (fun _ : Unit => wSl I a0 a1 a2 a3 a4 a5 a6 y0)) := by
  refine mM_open (own := RX2) rfl (by decide +kernel) (Nat.le_of_ble_eq_true rfl) (fun p e s m below meth c ls E hnm hsz hw hl => ?_)
  obtain ⟨ws0, hws⟩ : ∃ ws0 : va_W, ws0 = wSl I a0 a1 a2 a3 a4 a5 a6 x := ⟨_, rfl⟩
  have hw : fy D (va_A ws0 sz) s.heap s.heap [] (wSl I a0 a1 a2 a3 a4 a5 a6 x) := by rw [hws]; exact hw
  rw [← hws]
  have hx := E.1
  have hb := E.2.1
  have hl : lv_has ls 7 [(0, .ref a0), (1, .int p0), (2, .int p1)] := hl
  unfold f_X2_carry at hf
  refine lv_aload_n hx hb dX2_carry_0 rfl (lv_at hl 0 rfl) ?_
  refine lv_iload_n hx hb dX2_carry_1 rfl (lv_at hl 1 rfl) ?_
  obtain ⟨z1, h, hf⟩ := bd_s hf
  refine x_ci (x_rV E (As := [.int p0]) (rest := []) (mt_X2_valueAt l D I J O a0 a1 a2 a3 a4 a5 a6 p0 x z1 h) blR (x_recv E hw.1 0 2 rfl rfl rfl) (x_pcR E hw.1) ok_X2_valueAt q290 rfl hl.1 rfl (Nat.le_of_ble_eq_true rfl) ⟨Nat.le_of_ble_eq_true rfl, Nat.le_of_ble_eq_true rfl⟩ ⟨Nat.le_of_ble_eq_true rfl, Nat.le_of_ble_eq_true rfl⟩ dX2_carry_2) ?_
  refine lv_istore_n (lv' := [(3, .int z1), (0, .ref a0), (1, .int p0), (2, .int p1)]) hx hb dX2_carry_5 rfl hl (by decide) rfl (fun ls hl => ?_)
  refine lv_aload_n hx hb dX2_carry_6 rfl (lv_at hl 1 rfl) ?_
  refine lv_iload_n hx hb dX2_carry_7 rfl (lv_at hl 2 rfl) ?_
  obtain ⟨z2, h, hf⟩ := bd_s hf
  refine x_ci (x_rV E (As := [.int p0]) (rest := []) (mt_X2_sizeAt l D I J O a0 a1 a2 a3 a4 a5 a6 p0 x z2 h) blR (x_recv E hw.1 0 2 rfl rfl rfl) (x_pcR E hw.1) ok_X2_sizeAt q291 rfl hl.1 rfl (Nat.le_of_ble_eq_true rfl) ⟨Nat.le_of_ble_eq_true rfl, Nat.le_of_ble_eq_true rfl⟩ ⟨Nat.le_of_ble_eq_true rfl, Nat.le_of_ble_eq_true rfl⟩ dX2_carry_8) ?_
  refine lv_istore (lv' := [(4, .int z2), (3, .int z1), (0, .ref a0), (1, .int p0), (2, .int p1)]) hx hb dX2_carry_11 hl (by decide) rfl (fun ls hl => ?_)
  refine lv_aload_n hx hb dX2_carry_13 rfl (lv_at hl 2 rfl) ?_
  refine lv_iload_n hx hb dX2_carry_14 rfl (lv_at hl 3 rfl) ?_
  obtain ⟨z3, h, hf⟩ := bd_s hf
  refine x_ci (x_rV E (As := [.int p0]) (rest := []) (mt_X2_kindAt l D I J O a0 a1 a2 a3 a4 a5 a6 p0 x z3 h) blR (x_recv E hw.1 0 2 rfl rfl rfl) (x_pcR E hw.1) ok_X2_kindAt q292 rfl hl.1 rfl (Nat.le_of_ble_eq_true rfl) ⟨Nat.le_of_ble_eq_true rfl, Nat.le_of_ble_eq_true rfl⟩ ⟨Nat.le_of_ble_eq_true rfl, Nat.le_of_ble_eq_true rfl⟩ dX2_carry_15) ?_
  refine lv_istore (lv' := [(5, .int z3), (4, .int z2), (3, .int z1), (0, .ref a0), (1, .int p0), (2, .int p1)]) hx hb dX2_carry_18 hl (by decide) rfl (fun ls hl => ?_)
  refine lv_aload_n hx hb dX2_carry_20 rfl (lv_at hl 3 rfl) ?_
  refine lv_iload_n hx hb dX2_carry_21 rfl (lv_at hl 4 rfl) ?_
  obtain ⟨z4, h, hf⟩ := bd_s hf
  refine x_ci (x_rV E (As := [.int p0]) (rest := []) (mt_X2_timesFired l D I J O a0 a1 a2 a3 a4 a5 a6 p0 x z4 h) blR (x_recv E hw.1 0 2 rfl rfl rfl) (x_pcR E hw.1) ok_X2_timesFired q293 rfl hl.1 rfl (Nat.le_of_ble_eq_true rfl) ⟨Nat.le_of_ble_eq_true rfl, Nat.le_of_ble_eq_true rfl⟩ ⟨Nat.le_of_ble_eq_true rfl, Nat.le_of_ble_eq_true rfl⟩ dX2_carry_22) ?_
  refine lv_istore (lv' := [(6, .int z4), (5, .int z3), (4, .int z2), (3, .int z1), (0, .ref a0), (1, .int p0), (2, .int p1)]) hx hb dX2_carry_25 hl (by decide) rfl (fun ls hl => ?_)
  refine lv_aload_n hx hb dX2_carry_27 rfl (lv_at hl 4 rfl) ?_
  refine lv_iload_n hx hb dX2_carry_28 rfl (lv_at hl 5 rfl) ?_
  obtain ⟨z5, h, hf⟩ := bd_s hf
  refine x_mv0 hw [0, 1, 2, 3, 4, 5, 6] [] rfl rfl rfl (by decide) [0, 1, 2, 3, 4, 5, 6] rfl (fun _ : Unit => wSl I a0 a1 a2 a3 a4 a5 a6 z5) (fun _ => rfl) (x_rV E (As := [.int p0]) (rest := []) (mt_X2_release l D I J O a0 a1 a2 a3 a4 a5 a6 s.heap.size p0 x z5 h) blM (x_recv E hw.1 0 2 rfl rfl rfl) (x_pcMQ0 E hw [0, 1, 2, 3, 4, 5, 6] rfl rfl) ok_X2_release q294 rfl hl.1 rfl (Nat.le_of_ble_eq_true rfl) ⟨Nat.le_of_ble_eq_true rfl, Nat.le_of_ble_eq_true rfl⟩ ⟨Nat.le_of_ble_eq_true rfl, Nat.le_of_ble_eq_true rfl⟩ dX2_carry_29) (fun _ H locs hw => ?_)
  have hw : fy D (va_A ws0 sz) s.heap H locs (wSl I a0 a1 a2 a3 a4 a5 a6 z5) := hw
  refine lv_aload_n hx hb dX2_carry_32 rfl (lv_at hl 4 rfl) ?_
  refine lv_iload_n hx hb dX2_carry_33 rfl (lv_at hl 6 rfl) ?_
  refine lv_iload_n hx hb dX2_carry_34 rfl (lv_at hl 3 rfl) ?_
  refine lv_iload hx hb dX2_carry_35 (lv_at hl 2 rfl) ?_
  refine lv_iload hx hb dX2_carry_37 (lv_at hl 1 rfl) ?_
  obtain ⟨z6, h, hf⟩ := bd_s hf
  refine x_mv0 hw [0, 1, 2, 3, 4, 5, 6] [] rfl rfl rfl (by decide) [0, 1, 2, 3, 4, 5, 6] rfl (fun _ : Unit => wSl I a0 a1 a2 a3 a4 a5 a6 z6) (fun _ => rfl) (x_rV E (As := [.int p1, .int z1, .int z2, .int z3]) (rest := []) (mt_X2_occupy l D I J O a0 a1 a2 a3 a4 a5 a6 H.size p1 z1 z2 z3 z5 z6 h) blM (x_recv E hw.1 0 2 rfl rfl rfl) (x_pcMQ0 E hw [0, 1, 2, 3, 4, 5, 6] rfl rfl) ok_X2_occupy q295 rfl hl.1 rfl (Nat.le_of_ble_eq_true rfl) ⟨Nat.le_of_ble_eq_true rfl, Nat.le_of_ble_eq_true rfl⟩ ⟨Nat.le_of_ble_eq_true rfl, Nat.le_of_ble_eq_true rfl⟩ dX2_carry_39) (fun _ H locs hw => ?_)
  have hw : fy D (va_A ws0 sz) s.heap H locs (wSl I a0 a1 a2 a3 a4 a5 a6 z6) := hw
  refine lv_aload_n hx hb dX2_carry_42 rfl (lv_at hl 4 rfl) ?_
  refine lv_iload_n hx hb dX2_carry_43 rfl (lv_at hl 6 rfl) ?_
  refine lv_iload hx hb dX2_carry_44 (lv_at hl 0 rfl) ?_
  obtain ⟨z7, h, hf⟩ := bd_s hf
  refine x_mv0 hw [0, 1, 2, 3, 4, 5, 6] [] rfl rfl rfl (by decide) [0, 1, 2, 3, 4, 5, 6] rfl (fun _ : Unit => wSl I a0 a1 a2 a3 a4 a5 a6 z7) (fun _ => rfl) (x_rV E (As := [.int p1, .int z4]) (rest := []) (mt_X2_setTimesFired l D I J O a0 a1 a2 a3 a4 a5 a6 H.size p1 z4 z6 z7 h) blM (x_recv E hw.1 0 2 rfl rfl rfl) (x_pcMQ0 E hw [0, 1, 2, 3, 4, 5, 6] rfl rfl) ok_X2_setTimesFired q296 rfl hl.1 rfl (Nat.le_of_ble_eq_true rfl) ⟨Nat.le_of_ble_eq_true rfl, Nat.le_of_ble_eq_true rfl⟩ ⟨Nat.le_of_ble_eq_true rfl, Nat.le_of_ble_eq_true rfl⟩ dX2_carry_46) (fun _ H locs hw => ?_)
  have hw : fy D (va_A ws0 sz) s.heap H locs (wSl I a0 a1 a2 a3 a4 a5 a6 z7) := hw
  have h0 := (Option.some.inj hf)
  subst h0
  exact x_vM E () hw dX2_carry_49
theorem ok_X2_setValue : yV yX2_setValue cX2_setValue 3 none 2 := ⟨q668, q3, q666, q667, by decide +kernel, by decide +kernel, by decide +kernel⟩
set_option maxRecDepth 100000 in
set_option maxHeartbeats 4000000 in
theorem mt_X2_setValue (l : Launch) (D : va_G) (I J O : ClassId) (a0 a1 a2 a3 a4 a5 a6 : Nat) (sz : Nat) (p0 : Int32) (p1 : Int32) (x : SlC) (y0 : SlC) (hf : f_X2_setValue p0 p1 x = some y0) : mM l yX2_setValue cX2_setValue 3 none 1 21 0 0 D I J O sz [.ref a0, .int p0, .int p1] (wSl I a0 a1 a2 a3 a4 a5 a6 x) (qMv D sz (wSl I a0 a1 a2 a3 a4 a5 a6 x) (fun _ : Unit => wSl I a0 a1 a2 a3 a4 a5 a6 y0)) := by
  refine mM_open (own := RX2) rfl (by decide +kernel) (Nat.le_of_ble_eq_true rfl) (fun p e s m below meth c ls E hnm hsz hw hl => ?_)
  obtain ⟨ws0, hws⟩ : ∃ ws0 : va_W, ws0 = wSl I a0 a1 a2 a3 a4 a5 a6 x := ⟨_, rfl⟩
  have hw : fy D (va_A ws0 sz) s.heap s.heap [] (wSl I a0 a1 a2 a3 a4 a5 a6 x) := by rw [hws]; exact hw
  rw [← hws]
  have hx := E.1
  have hb := E.2.1
  have hl : lv_has ls 3 [(0, .ref a0), (1, .int p0), (2, .int p1)] := hl
  unfold f_X2_setValue at hf
  refine lv_aload_n hx hb dX2_setValue_0 rfl (lv_at hl 0 rfl) ?_
  refine lv_iload_n hx hb dX2_setValue_1 rfl (lv_at hl 1 rfl) ?_
  obtain ⟨z1, h, hf⟩ := bd_s hf
  refine x_ci (x_rV E (As := [.int p0]) (rest := []) (mt_X2_isCell l D I J O a0 a1 a2 a3 a4 a5 a6 p0 x z1 h) blR (x_recv E hw.1 0 2 rfl rfl rfl) (x_pcR E hw.1) ok_X2_isCell q190 rfl hl.1 rfl (Nat.le_of_ble_eq_true rfl) ⟨Nat.le_of_ble_eq_true rfl, Nat.le_of_ble_eq_true rfl⟩ ⟨Nat.le_of_ble_eq_true rfl, Nat.le_of_ble_eq_true rfl⟩ dX2_setValue_2) ?_
  refine lv_if_eq (tgt := 15) hx hb dX2_setValue_5 (by decide) (fun hc => ?_) (fun hc => ?_)
  · rw [if_pos hc] at hf
    have h0 := (Option.some.inj hf)
    subst h0
    exact x_vM E () hw dX2_setValue_15
  · rw [if_neg hc] at hf
    refine lv_aload_n hx hb dX2_setValue_8 rfl (lv_at hl 0 rfl) ?_
    refine x_get E hw.1 0 rfl rfl in2 4 (by decide) q41 rfl rfl dX2_setValue_9 ?_
    refine lv_iload_n hx hb dX2_setValue_12 rfl (lv_at hl 1 rfl) ?_
    refine lv_iload_n hx hb dX2_setValue_13 rfl (lv_at hl 2 rfl) ?_
    obtain ⟨g, hf⟩ := gi_s hf
    refine x_ast E hw 4 rfl g dX2_setValue_14 (fun H locs hw => ?_)
    have hw : fy D (va_A ws0 sz) s.heap H locs (wSl I a0 a1 a2 a3 a4 a5 a6 (x.1, x.2.1, x.2.2.1, x.2.2.2.1, (upd x.2.2.2.2.1 p0.toNatClampNeg p1), x.2.2.2.2.2)) := hw
    have h0 := (Option.some.inj hf)
    subst h0
    exact x_vM E () hw dX2_setValue_15
theorem ok_X2_roomFor : yV yX2_roomFor cX2_roomFor 5 (some .int) 1 := ⟨q361, q3, q359, q360, by decide +kernel, by decide +kernel, by decide +kernel⟩
set_option maxRecDepth 100000 in
set_option maxHeartbeats 4000000 in
theorem k_X2_roomFor_33 {p : Program} {l : Launch} {e : Env} {s : State} {m : MethodId} {args : Array Value} {below : List Frame} {meth : Method} {c : Code} {D : va_G} {I J O : ClassId} (E : fx p s m args meth c cX2_roomFor RX2 5 (some .int) D I J O) (a0 a1 a2 a3 a4 a5 a6 : Nat)  (r : Int32) (k7 : Int32 → Int32 → Int32 → Int32 → SlC → Option (Int32)) (hk7 : ∀ (v1 : Int32) (v2 : Int32) (v3 : Int32) (v4 : Int32) (x : SlC), k7 v1 v2 v3 v4 x = some r → va_P D vwCl (wSl I a0 a1 a2 a3 a4 a5 a6 x) s.heap → ∀ ls : Array Slot, lv_has ls 5 [(0, .ref a0), (1, .int v1), (2, .int v2), (3, .int v3), (4, .int v4)] → W p l e (rmB 2 42 0 0) s m args below meth c s.heap [] 0 0 (MQ below (qRi r) args s 0 0 (fun _ => False)) (F0 m 7 ls [])) : ∀ (v1 : Int32) (v2 : Int32) (v4 : Int32) (t0 : Int32) (x : SlC), f_X2_roomFor_33 k7 v1 v2 v4 t0 x = some r → va_P D vwCl (wSl I a0 a1 a2 a3 a4 a5 a6 x) s.heap → ∀ ls : Array Slot, lv_has ls 5 [(0, .ref a0), (1, .int v1), (2, .int v2), (4, .int v4)] → W p l e (rmB 2 42 0 0) s m args below meth c s.heap [] 0 0 (MQ below (qRi r) args s 0 0 (fun _ => False)) (F0 m 33 ls [.int t0]) := by
  have hx := E.1
  have hb := E.2.1
  intro v1 v2 v4 t0 x hf hP ls hl
  unfold f_X2_roomFor_33 at hf
  refine lv_istore_n (lv' := [(3, .int t0), (0, .ref a0), (1, .int v1), (2, .int v2), (4, .int v4)]) hx hb dX2_roomFor_33 rfl hl (by decide) rfl (fun ls hl => ?_)
  refine lv_iload_n hx hb dX2_roomFor_34 rfl (lv_at hl 0 rfl) ?_
  refine lv_iload_n hx hb dX2_roomFor_35 rfl (lv_at hl 2 rfl) ?_
  refine lv_icmp_ne (tgt := 44) hx hb dX2_roomFor_36 (by decide) (fun hc => ?_) (fun hc => ?_)
  · rw [if_neg hc] at hf
    refine lv_iinc (v := v4 + 1) (lv' := [(4, .int (v4 + 1)), (3, .int t0), (0, .ref a0), (1, .int v1), (2, .int v2)]) hx hb dX2_roomFor_44 hl (k := 4) rfl rfl (by decide) rfl (fun ls hl => ?_)
    refine lv_goto (tgt := 7) hx hb dX2_roomFor_47 (by decide) ?_
    exact hk7 v1 v2 t0 (v4 + 1) x hf hP _ (lv_sub hl [2, 3, 4, 1, 0] rfl)
  · rw [if_pos hc] at hf
    refine lv_iinc (v := v2 + 1) (lv' := [(2, .int (v2 + 1)), (3, .int t0), (0, .ref a0), (1, .int v1), (4, .int v4)]) hx hb dX2_roomFor_39 hl (k := 3) rfl rfl (by decide) rfl (fun ls hl => ?_)
    refine lv_iconst (v := 0) hx hb dX2_roomFor_42 (by decide) ?_
    refine lv_istore_n (lv' := [(3, .int 0), (2, .int (v2 + 1)), (0, .ref a0), (1, .int v1), (4, .int v4)]) hx hb dX2_roomFor_43 rfl hl (by decide) rfl (fun ls hl => ?_)
    refine lv_iinc (v := v4 + 1) (lv' := [(4, .int (v4 + 1)), (3, .int 0), (2, .int (v2 + 1)), (0, .ref a0), (1, .int v1)]) hx hb dX2_roomFor_44 hl (k := 4) rfl rfl (by decide) rfl (fun ls hl => ?_)
    refine lv_goto (tgt := 7) hx hb dX2_roomFor_47 (by decide) ?_
    exact hk7 v1 (v2 + 1) 0 (v4 + 1) x hf hP _ (lv_sub hl [3, 4, 2, 1, 0] rfl)
set_option maxRecDepth 100000 in
set_option maxHeartbeats 4000000 in
theorem k_X2_roomFor_7 {p : Program} {l : Launch} {e : Env} {s : State} {m : MethodId} {args : Array Value} {below : List Frame} {meth : Method} {c : Code} {D : va_G} {I J O : ClassId} (E : fx p s m args meth c cX2_roomFor RX2 5 (some .int) D I J O) (a0 a1 a2 a3 a4 a5 a6 : Nat)  (r : Int32) : ∀ n : Nat, ∀ (v1 : Int32) (v2 : Int32) (v3 : Int32) (v4 : Int32) (x : SlC), f_X2_roomFor_7 n v1 v2 v3 v4 x = some r → va_P D vwCl (wSl I a0 a1 a2 a3 a4 a5 a6 x) s.heap → ∀ ls : Array Slot, lv_has ls 5 [(0, .ref a0), (1, .int v1), (2, .int v2), (3, .int v3), (4, .int v4)] → W p l e (rmB 2 42 0 0) s m args below meth c s.heap [] 0 0 (MQ below (qRi r) args s 0 0 (fun _ => False)) (F0 m 7 ls []) := by
  have hx := E.1
  have hb := E.2.1
  intro n
  induction n with
  | zero =>
    intro v1 v2 v3 v4 x hf hP ls hl
    rw [f_X2_roomFor_7.eq_1] at hf
    cases hf
  | succ n ih =>
    intro v1 v2 v3 v4 x hf hP ls hl
    rw [f_X2_roomFor_7.eq_2] at hf
    refine lv_iload hx hb dX2_roomFor_7 (lv_at hl 4 rfl) ?_
    refine lv_aload_n hx hb dX2_roomFor_9 rfl (lv_at hl 0 rfl) ?_
    refine x_get E hP 0 rfl rfl in2 0 (by decide) q37 rfl rfl dX2_roomFor_10 ?_
    refine lv_icmp_ge (tgt := 50) hx hb dX2_roomFor_13 (by decide) (fun hc => ?_) (fun hc => ?_)
    · rw [if_pos hc] at hf
      refine lv_iload_n hx hb dX2_roomFor_50 rfl (lv_at hl 2 rfl) ?_
      exact x_iR E (Option.some.inj hf) dX2_roomFor_51
    · rw [if_neg hc] at hf
      refine lv_aload_n hx hb dX2_roomFor_16 rfl (lv_at hl 0 rfl) ?_
      refine lv_iload hx hb dX2_roomFor_17 (lv_at hl 4 rfl) ?_
      obtain ⟨z1, h, hf⟩ := bd_s hf
      refine x_ci (x_rV E (As := [.int v4]) (rest := []) (mt_X2_ownerOf l D I J O a0 a1 a2 a3 a4 a5 a6 v4 x z1 h) blR (x_recv E hP 0 2 rfl rfl rfl) (x_pcR E hP) ok_X2_ownerOf q362 rfl hl.1 rfl (Nat.le_of_ble_eq_true rfl) ⟨Nat.le_of_ble_eq_true rfl, Nat.le_of_ble_eq_true rfl⟩ ⟨Nat.le_of_ble_eq_true rfl, Nat.le_of_ble_eq_true rfl⟩ dX2_roomFor_19) ?_
      refine lv_iconst (v := (-1)) hx hb dX2_roomFor_22 (by decide) ?_
      refine lv_icmp_ne (tgt := 32) hx hb dX2_roomFor_23 (by decide) (fun hc => ?_) (fun hc => ?_)
      · rw [if_neg hc] at hf
        refine lv_iconst (v := 0) hx hb dX2_roomFor_32 (by decide) ?_
        exact k_X2_roomFor_33 E a0 a1 a2 a3 a4 a5 a6 r (f_X2_roomFor_7 n) ih v1 v2 v4 0 x hf hP _ (lv_sub hl [0, 1, 2, 4] rfl)
      · rw [if_pos hc] at hf
        refine lv_iload_n hx hb dX2_roomFor_26 rfl (lv_at hl 3 rfl) ?_
        refine lv_iconst (v := 1) hx hb dX2_roomFor_27 (by decide) ?_
        refine lv_iadd hx hb dX2_roomFor_28 ?_
        refine lv_goto (tgt := 33) hx hb dX2_roomFor_29 (by decide) ?_
        exact k_X2_roomFor_33 E a0 a1 a2 a3 a4 a5 a6 r (f_X2_roomFor_7 n) ih v1 v2 v4 (v3 + 1) x hf hP _ (lv_sub hl [0, 1, 2, 4] rfl)
set_option maxRecDepth 100000 in
set_option maxHeartbeats 4000000 in
theorem mt_X2_roomFor (l : Launch) (D : va_G) (I J O : ClassId) (a0 a1 a2 a3 a4 a5 a6 : Nat) (p0 : Int32) (x : SlC) (r : Int32) (hf : f_X2_roomFor p0 x = some r) : mR l yX2_roomFor cX2_roomFor 5 (some .int) 2 42 D I J O [.ref a0, .int p0] (wSl I a0 a1 a2 a3 a4 a5 a6 x) (qRi r) := by
  refine mR_open (own := RX2) rfl (by decide +kernel) (Nat.le_of_ble_eq_true rfl) (fun p e s m below meth c ls E hP hl => ?_)
  have hx := E.1
  have hb := E.2.1
  have hl : lv_has ls 5 [(0, .ref a0), (1, .int p0)] := hl
  unfold f_X2_roomFor at hf
  refine lv_iconst (v := 0) hx hb dX2_roomFor_0 (by decide) ?_
  refine lv_istore_n (lv' := [(2, .int 0), (0, .ref a0), (1, .int p0)]) hx hb dX2_roomFor_1 rfl hl (by decide) rfl (fun ls hl => ?_)
  refine lv_iconst (v := 0) hx hb dX2_roomFor_2 (by decide) ?_
  refine lv_istore_n (lv' := [(3, .int 0), (2, .int 0), (0, .ref a0), (1, .int p0)]) hx hb dX2_roomFor_3 rfl hl (by decide) rfl (fun ls hl => ?_)
  refine lv_iconst (v := 0) hx hb dX2_roomFor_4 (by decide) ?_
  refine lv_istore (lv' := [(4, .int 0), (3, .int 0), (2, .int 0), (0, .ref a0), (1, .int p0)]) hx hb dX2_roomFor_5 hl (by decide) rfl (fun ls hl => ?_)
  exact k_X2_roomFor_7 E a0 a1 a2 a3 a4 a5 a6 r FU p0 0 0 0 x hf hP _ (lv_sub hl [3, 4, 2, 1, 0] rfl)
theorem ok_X2_freeCells : yV yX2_freeCells cX2_freeCells 1 (some .int) 0 := ⟨q357, q3, q355, q356, by decide +kernel, by decide +kernel, by decide +kernel⟩
set_option maxRecDepth 100000 in
set_option maxHeartbeats 4000000 in
theorem mt_X2_freeCells (l : Launch) (D : va_G) (I J O : ClassId) (a0 a1 a2 a3 a4 a5 a6 : Nat)  (x : SlC) (r : Int32) (hf : f_X2_freeCells x = some r) : mR l yX2_freeCells cX2_freeCells 1 (some .int) 3 66 D I J O [.ref a0] (wSl I a0 a1 a2 a3 a4 a5 a6 x) (qRi r) := by
  refine mR_open (own := RX2) rfl (by decide +kernel) (Nat.le_of_ble_eq_true rfl) (fun p e s m below meth c ls E hP hl => ?_)
  have hx := E.1
  have hb := E.2.1
  have hl : lv_has ls 1 [(0, .ref a0)] := hl
  unfold f_X2_freeCells at hf
  refine lv_aload_n hx hb dX2_freeCells_0 rfl (lv_at hl 0 rfl) ?_
  refine lv_iconst (v := 1) hx hb dX2_freeCells_1 (by decide) ?_
  obtain ⟨z1, h, hf⟩ := bd_s hf
  refine x_ci (x_rV E (As := [.int 1]) (rest := []) (mt_X2_roomFor l D I J O a0 a1 a2 a3 a4 a5 a6 1 x z1 h) blR (x_recv E hP 0 2 rfl rfl rfl) (x_pcR E hP) ok_X2_roomFor q358 rfl hl.1 rfl (Nat.le_of_ble_eq_true rfl) ⟨Nat.le_of_ble_eq_true rfl, Nat.le_of_ble_eq_true rfl⟩ ⟨Nat.le_of_ble_eq_true rfl, Nat.le_of_ble_eq_true rfl⟩ dX2_freeCells_2) ?_
  exact x_iR E (Option.some.inj hf) dX2_freeCells_5
theorem ok_X2_sumOfValues : yV yX2_sumOfValues cX2_sumOfValues 3 (some .int) 0 := ⟨q395, q3, q393, q394, by decide +kernel, by decide +kernel, by decide +kernel⟩
set_option maxRecDepth 100000 in
set_option maxHeartbeats 4000000 in
theorem k_X2_sumOfValues_4 {p : Program} {l : Launch} {e : Env} {s : State} {m : MethodId} {args : Array Value} {below : List Frame} {meth : Method} {c : Code} {D : va_G} {I J O : ClassId} (E : fx p s m args meth c cX2_sumOfValues RX2 3 (some .int) D I J O) (a0 a1 a2 a3 a4 a5 a6 : Nat)  (r : Int32) : ∀ n : Nat, ∀ (v1 : Int32) (v2 : Int32) (x : SlC), f_X2_sumOfValues_4 n v1 v2 x = some r → va_P D vwCl (wSl I a0 a1 a2 a3 a4 a5 a6 x) s.heap → ∀ ls : Array Slot, lv_has ls 3 [(0, .ref a0), (1, .int v1), (2, .int v2)] → W p l e (rmB 2 42 0 0) s m args below meth c s.heap [] 0 0 (MQ below (qRi r) args s 0 0 (fun _ => False)) (F0 m 4 ls []) := by
  have hx := E.1
  have hb := E.2.1
  intro n
  induction n with
  | zero =>
    intro v1 v2 x hf hP ls hl
    rw [f_X2_sumOfValues_4.eq_1] at hf
    cases hf
  | succ n ih =>
    intro v1 v2 x hf hP ls hl
    rw [f_X2_sumOfValues_4.eq_2] at hf
    refine lv_iload_n hx hb dX2_sumOfValues_4 rfl (lv_at hl 2 rfl) ?_
    refine lv_aload_n hx hb dX2_sumOfValues_5 rfl (lv_at hl 0 rfl) ?_
    refine x_get E hP 0 rfl rfl in2 0 (by decide) q37 rfl rfl dX2_sumOfValues_6 ?_
    refine lv_icmp_ge (tgt := 34) hx hb dX2_sumOfValues_9 (by decide) (fun hc => ?_) (fun hc => ?_)
    · rw [if_pos hc] at hf
      refine lv_iload_n hx hb dX2_sumOfValues_34 rfl (lv_at hl 1 rfl) ?_
      exact x_iR E (Option.some.inj hf) dX2_sumOfValues_35
    · rw [if_neg hc] at hf
      refine lv_aload_n hx hb dX2_sumOfValues_12 rfl (lv_at hl 0 rfl) ?_
      refine lv_iload_n hx hb dX2_sumOfValues_13 rfl (lv_at hl 2 rfl) ?_
      obtain ⟨z1, h, hf⟩ := bd_s hf
      refine x_ci (x_rV E (As := [.int v2]) (rest := []) (mt_X2_sizeAt l D I J O a0 a1 a2 a3 a4 a5 a6 v2 x z1 h) blR (x_recv E hP 0 2 rfl rfl rfl) (x_pcR E hP) ok_X2_sizeAt q291 rfl hl.1 rfl (Nat.le_of_ble_eq_true rfl) ⟨Nat.le_of_ble_eq_true rfl, Nat.le_of_ble_eq_true rfl⟩ ⟨Nat.le_of_ble_eq_true rfl, Nat.le_of_ble_eq_true rfl⟩ dX2_sumOfValues_14) ?_
      refine lv_if_le (tgt := 28) hx hb dX2_sumOfValues_17 (by decide) (fun hc => ?_) (fun hc => ?_)
      · rw [if_pos hc] at hf
        refine lv_iinc (v := v2 + 1) (lv' := [(2, .int (v2 + 1)), (0, .ref a0), (1, .int v1)]) hx hb dX2_sumOfValues_28 hl (k := 2) rfl rfl (by decide) rfl (fun ls hl => ?_)
        refine lv_goto (tgt := 4) hx hb dX2_sumOfValues_31 (by decide) ?_
        exact ih v1 (v2 + 1) x hf hP _ (lv_sub hl [1, 2, 0] rfl)
      · rw [if_neg hc] at hf
        refine lv_iload_n hx hb dX2_sumOfValues_20 rfl (lv_at hl 1 rfl) ?_
        refine lv_aload_n hx hb dX2_sumOfValues_21 rfl (lv_at hl 0 rfl) ?_
        refine lv_iload_n hx hb dX2_sumOfValues_22 rfl (lv_at hl 2 rfl) ?_
        obtain ⟨z2, h, hf⟩ := bd_s hf
        refine x_ci (x_rV E (As := [.int v2]) (rest := [.int v1]) (mt_X2_valueAt l D I J O a0 a1 a2 a3 a4 a5 a6 v2 x z2 h) blR (x_recv E hP 0 2 rfl rfl rfl) (x_pcR E hP) ok_X2_valueAt q290 rfl hl.1 rfl (Nat.le_of_ble_eq_true rfl) ⟨Nat.le_of_ble_eq_true rfl, Nat.le_of_ble_eq_true rfl⟩ ⟨Nat.le_of_ble_eq_true rfl, Nat.le_of_ble_eq_true rfl⟩ dX2_sumOfValues_23) ?_
        refine lv_iadd hx hb dX2_sumOfValues_26 ?_
        refine lv_istore_n (lv' := [(1, .int (v1 + z2)), (0, .ref a0), (2, .int v2)]) hx hb dX2_sumOfValues_27 rfl hl (by decide) rfl (fun ls hl => ?_)
        refine lv_iinc (v := v2 + 1) (lv' := [(2, .int (v2 + 1)), (1, .int (v1 + z2)), (0, .ref a0)]) hx hb dX2_sumOfValues_28 hl (k := 2) rfl rfl (by decide) rfl (fun ls hl => ?_)
        refine lv_goto (tgt := 4) hx hb dX2_sumOfValues_31 (by decide) ?_
        exact ih (v1 + z2) (v2 + 1) x hf hP _ (lv_sub hl [2, 1, 0] rfl)
set_option maxRecDepth 100000 in
set_option maxHeartbeats 4000000 in
theorem mt_X2_sumOfValues (l : Launch) (D : va_G) (I J O : ClassId) (a0 a1 a2 a3 a4 a5 a6 : Nat)  (x : SlC) (r : Int32) (hf : f_X2_sumOfValues x = some r) : mR l yX2_sumOfValues cX2_sumOfValues 3 (some .int) 2 42 D I J O [.ref a0] (wSl I a0 a1 a2 a3 a4 a5 a6 x) (qRi r) := by
  refine mR_open (own := RX2) rfl (by decide +kernel) (Nat.le_of_ble_eq_true rfl) (fun p e s m below meth c ls E hP hl => ?_)
  have hx := E.1
  have hb := E.2.1
  have hl : lv_has ls 3 [(0, .ref a0)] := hl
  unfold f_X2_sumOfValues at hf
  refine lv_iconst (v := 0) hx hb dX2_sumOfValues_0 (by decide) ?_
  refine lv_istore_n (lv' := [(1, .int 0), (0, .ref a0)]) hx hb dX2_sumOfValues_1 rfl hl (by decide) rfl (fun ls hl => ?_)
  refine lv_iconst (v := 0) hx hb dX2_sumOfValues_2 (by decide) ?_
  refine lv_istore_n (lv' := [(2, .int 0), (1, .int 0), (0, .ref a0)]) hx hb dX2_sumOfValues_3 rfl hl (by decide) rfl (fun ls hl => ?_)
  exact k_X2_sumOfValues_4 E a0 a1 a2 a3 a4 a5 a6 r FU 0 0 x hf hP _ (lv_sub hl [2, 1, 0] rfl)
theorem ok_X2_longestGap : yV yX2_longestGap cX2_longestGap 4 (some .int) 0 := ⟨q579, q3, q577, q578, by decide +kernel, by decide +kernel, by decide +kernel⟩
set_option maxRecDepth 100000 in
set_option maxHeartbeats 4000000 in
theorem k_X2_longestGap_30 {p : Program} {l : Launch} {e : Env} {s : State} {m : MethodId} {args : Array Value} {below : List Frame} {meth : Method} {c : Code} {D : va_G} {I J O : ClassId} (E : fx p s m args meth c cX2_longestGap RX2 4 (some .int) D I J O) (a0 a1 a2 a3 a4 a5 a6 : Nat)  (r : Int32) (k6 : Int32 → Int32 → Int32 → SlC → Option (Int32)) (hk6 : ∀ (v1 : Int32) (v2 : Int32) (v3 : Int32) (x : SlC), k6 v1 v2 v3 x = some r → va_P D vwCl (wSl I a0 a1 a2 a3 a4 a5 a6 x) s.heap → ∀ ls : Array Slot, lv_has ls 4 [(0, .ref a0), (1, .int v1), (2, .int v2), (3, .int v3)] → W p l e (rmB 2 42 0 0) s m args below meth c s.heap [] 0 0 (MQ below (qRi r) args s 0 0 (fun _ => False)) (F0 m 6 ls [])) : ∀ (v1 : Int32) (v3 : Int32) (t0 : Int32) (x : SlC), f_X2_longestGap_30 k6 v1 v3 t0 x = some r → va_P D vwCl (wSl I a0 a1 a2 a3 a4 a5 a6 x) s.heap → ∀ ls : Array Slot, lv_has ls 4 [(0, .ref a0), (1, .int v1), (3, .int v3)] → W p l e (rmB 2 42 0 0) s m args below meth c s.heap [] 0 0 (MQ below (qRi r) args s 0 0 (fun _ => False)) (F0 m 30 ls [.int t0]) := by
  have hx := E.1
  have hb := E.2.1
  intro v1 v3 t0 x hf hP ls hl
  unfold f_X2_longestGap_30 at hf
  refine lv_istore_n (lv' := [(2, .int t0), (0, .ref a0), (1, .int v1), (3, .int v3)]) hx hb dX2_longestGap_30 rfl hl (by decide) rfl (fun ls hl => ?_)
  refine lv_iload_n hx hb dX2_longestGap_31 rfl (lv_at hl 2 rfl) ?_
  refine lv_iload_n hx hb dX2_longestGap_32 rfl (lv_at hl 0 rfl) ?_
  refine x_max E hl.1 q580 q385 q15 q_max (Nat.le_of_ble_eq_true rfl) (Nat.le_of_ble_eq_true rfl) (Nat.le_of_ble_eq_true rfl) (Nat.le_of_ble_eq_true rfl) dX2_longestGap_33 ?_
  refine lv_istore_n (lv' := [(1, .int (if v1 < t0 then t0 else v1)), (2, .int t0), (0, .ref a0), (3, .int v3)]) hx hb dX2_longestGap_36 rfl hl (by decide) rfl (fun ls hl => ?_)
  refine lv_iinc (v := v3 + 1) (lv' := [(3, .int (v3 + 1)), (1, .int (if v1 < t0 then t0 else v1)), (2, .int t0), (0, .ref a0)]) hx hb dX2_longestGap_37 hl (k := 3) rfl rfl (by decide) rfl (fun ls hl => ?_)
  refine lv_goto (tgt := 6) hx hb dX2_longestGap_40 (by decide) ?_
  exact hk6 (if v1 < t0 then t0 else v1) t0 (v3 + 1) x hf hP _ (lv_sub hl [3, 1, 2, 0] rfl)
set_option maxRecDepth 100000 in
set_option maxHeartbeats 4000000 in
theorem k_X2_longestGap_6 {p : Program} {l : Launch} {e : Env} {s : State} {m : MethodId} {args : Array Value} {below : List Frame} {meth : Method} {c : Code} {D : va_G} {I J O : ClassId} (E : fx p s m args meth c cX2_longestGap RX2 4 (some .int) D I J O) (a0 a1 a2 a3 a4 a5 a6 : Nat)  (r : Int32) : ∀ n : Nat, ∀ (v1 : Int32) (v2 : Int32) (v3 : Int32) (x : SlC), f_X2_longestGap_6 n v1 v2 v3 x = some r → va_P D vwCl (wSl I a0 a1 a2 a3 a4 a5 a6 x) s.heap → ∀ ls : Array Slot, lv_has ls 4 [(0, .ref a0), (1, .int v1), (2, .int v2), (3, .int v3)] → W p l e (rmB 2 42 0 0) s m args below meth c s.heap [] 0 0 (MQ below (qRi r) args s 0 0 (fun _ => False)) (F0 m 6 ls []) := by
  have hx := E.1
  have hb := E.2.1
  intro n
  induction n with
  | zero =>
    intro v1 v2 v3 x hf hP ls hl
    rw [f_X2_longestGap_6.eq_1] at hf
    cases hf
  | succ n ih =>
    intro v1 v2 v3 x hf hP ls hl
    rw [f_X2_longestGap_6.eq_2] at hf
    refine lv_iload_n hx hb dX2_longestGap_6 rfl (lv_at hl 3 rfl) ?_
    refine lv_aload_n hx hb dX2_longestGap_7 rfl (lv_at hl 0 rfl) ?_
    refine x_get E hP 0 rfl rfl in2 0 (by decide) q37 rfl rfl dX2_longestGap_8 ?_
    refine lv_icmp_ge (tgt := 43) hx hb dX2_longestGap_11 (by decide) (fun hc => ?_) (fun hc => ?_)
    · rw [if_pos hc] at hf
      refine lv_iload_n hx hb dX2_longestGap_43 rfl (lv_at hl 1 rfl) ?_
      exact x_iR E (Option.some.inj hf) dX2_longestGap_44
    · rw [if_neg hc] at hf
      refine lv_aload_n hx hb dX2_longestGap_14 rfl (lv_at hl 0 rfl) ?_
      refine lv_iload_n hx hb dX2_longestGap_15 rfl (lv_at hl 3 rfl) ?_
      obtain ⟨z1, h, hf⟩ := bd_s hf
      refine x_ci (x_rV E (As := [.int v3]) (rest := []) (mt_X2_ownerOf l D I J O a0 a1 a2 a3 a4 a5 a6 v3 x z1 h) blR (x_recv E hP 0 2 rfl rfl rfl) (x_pcR E hP) ok_X2_ownerOf q362 rfl hl.1 rfl (Nat.le_of_ble_eq_true rfl) ⟨Nat.le_of_ble_eq_true rfl, Nat.le_of_ble_eq_true rfl⟩ ⟨Nat.le_of_ble_eq_true rfl, Nat.le_of_ble_eq_true rfl⟩ dX2_longestGap_16) ?_
      refine lv_iconst (v := (-1)) hx hb dX2_longestGap_19 (by decide) ?_
      refine lv_icmp_ne (tgt := 29) hx hb dX2_longestGap_20 (by decide) (fun hc => ?_) (fun hc => ?_)
      · rw [if_neg hc] at hf
        refine lv_iconst (v := 0) hx hb dX2_longestGap_29 (by decide) ?_
        exact k_X2_longestGap_30 E a0 a1 a2 a3 a4 a5 a6 r (f_X2_longestGap_6 n) ih v1 v3 0 x hf hP _ (lv_sub hl [0, 1, 3] rfl)
      · rw [if_pos hc] at hf
        refine lv_iload_n hx hb dX2_longestGap_23 rfl (lv_at hl 2 rfl) ?_
        refine lv_iconst (v := 1) hx hb dX2_longestGap_24 (by decide) ?_
        refine lv_iadd hx hb dX2_longestGap_25 ?_
        refine lv_goto (tgt := 30) hx hb dX2_longestGap_26 (by decide) ?_
        exact k_X2_longestGap_30 E a0 a1 a2 a3 a4 a5 a6 r (f_X2_longestGap_6 n) ih v1 v3 (v2 + 1) x hf hP _ (lv_sub hl [0, 1, 3] rfl)
set_option maxRecDepth 100000 in
set_option maxHeartbeats 4000000 in
theorem mt_X2_longestGap (l : Launch) (D : va_G) (I J O : ClassId) (a0 a1 a2 a3 a4 a5 a6 : Nat)  (x : SlC) (r : Int32) (hf : f_X2_longestGap x = some r) : mR l yX2_longestGap cX2_longestGap 4 (some .int) 2 42 D I J O [.ref a0] (wSl I a0 a1 a2 a3 a4 a5 a6 x) (qRi r) := by
  refine mR_open (own := RX2) rfl (by decide +kernel) (Nat.le_of_ble_eq_true rfl) (fun p e s m below meth c ls E hP hl => ?_)
  have hx := E.1
  have hb := E.2.1
  have hl : lv_has ls 4 [(0, .ref a0)] := hl
  unfold f_X2_longestGap at hf
  refine lv_iconst (v := 0) hx hb dX2_longestGap_0 (by decide) ?_
  refine lv_istore_n (lv' := [(1, .int 0), (0, .ref a0)]) hx hb dX2_longestGap_1 rfl hl (by decide) rfl (fun ls hl => ?_)
  refine lv_iconst (v := 0) hx hb dX2_longestGap_2 (by decide) ?_
  refine lv_istore_n (lv' := [(2, .int 0), (1, .int 0), (0, .ref a0)]) hx hb dX2_longestGap_3 rfl hl (by decide) rfl (fun ls hl => ?_)
  refine lv_iconst (v := 0) hx hb dX2_longestGap_4 (by decide) ?_
  refine lv_istore_n (lv' := [(3, .int 0), (2, .int 0), (1, .int 0), (0, .ref a0)]) hx hb dX2_longestGap_5 rfl hl (by decide) rfl (fun ls hl => ?_)
  exact k_X2_longestGap_6 E a0 a1 a2 a3 a4 a5 a6 r FU 0 0 0 x hf hP _ (lv_sub hl [3, 2, 1, 0] rfl)
theorem ok_X2_beginOfLongestGap : yV yX2_beginOfLongestGap cX2_beginOfLongestGap 5 (some .int) 0 := ⟨q584, q3, q582, q583, by decide +kernel, by decide +kernel, by decide +kernel⟩
set_option maxRecDepth 100000 in
set_option maxHeartbeats 4000000 in
theorem k_X2_beginOfLongestGap_35 {p : Program} {l : Launch} {e : Env} {s : State} {m : MethodId} {args : Array Value} {below : List Frame} {meth : Method} {c : Code} {D : va_G} {I J O : ClassId} (E : fx p s m args meth c cX2_beginOfLongestGap RX2 5 (some .int) D I J O) (a0 a1 a2 a3 a4 a5 a6 : Nat)  (r : Int32) (k9 : Int32 → Int32 → Int32 → Int32 → SlC → Option (Int32)) (hk9 : ∀ (v1 : Int32) (v2 : Int32) (v3 : Int32) (v4 : Int32) (x : SlC), k9 v1 v2 v3 v4 x = some r → va_P D vwCl (wSl I a0 a1 a2 a3 a4 a5 a6 x) s.heap → ∀ ls : Array Slot, lv_has ls 5 [(0, .ref a0), (1, .int v1), (2, .int v2), (3, .int v3), (4, .int v4)] → W p l e (rmB 2 42 0 0) s m args below meth c s.heap [] 0 0 (MQ below (qRi r) args s 0 0 (fun _ => False)) (F0 m 9 ls [])) : ∀ (v1 : Int32) (v2 : Int32) (v4 : Int32) (t0 : Int32) (x : SlC), f_X2_beginOfLongestGap_35 k9 v1 v2 v4 t0 x = some r → va_P D vwCl (wSl I a0 a1 a2 a3 a4 a5 a6 x) s.heap → ∀ ls : Array Slot, lv_has ls 5 [(0, .ref a0), (1, .int v1), (2, .int v2), (4, .int v4)] → W p l e (rmB 2 42 0 0) s m args below meth c s.heap [] 0 0 (MQ below (qRi r) args s 0 0 (fun _ => False)) (F0 m 35 ls [.int t0]) := by
  have hx := E.1
  have hb := E.2.1
  intro v1 v2 v4 t0 x hf hP ls hl
  unfold f_X2_beginOfLongestGap_35 at hf
  refine lv_istore_n (lv' := [(3, .int t0), (0, .ref a0), (1, .int v1), (2, .int v2), (4, .int v4)]) hx hb dX2_beginOfLongestGap_35 rfl hl (by decide) rfl (fun ls hl => ?_)
  refine lv_iload_n hx hb dX2_beginOfLongestGap_36 rfl (lv_at hl 0 rfl) ?_
  refine lv_iload_n hx hb dX2_beginOfLongestGap_37 rfl (lv_at hl 2 rfl) ?_
  refine lv_icmp_le (tgt := 50) hx hb dX2_beginOfLongestGap_38 (by decide) (fun hc => ?_) (fun hc => ?_)
  · rw [if_pos hc] at hf
    refine lv_iinc (v := v4 + 1) (lv' := [(4, .int (v4 + 1)), (3, .int t0), (0, .ref a0), (1, .int v1), (2, .int v2)]) hx hb dX2_beginOfLongestGap_50 hl (k := 4) rfl rfl (by decide) rfl (fun ls hl => ?_)
    refine lv_goto (tgt := 9) hx hb dX2_beginOfLongestGap_53 (by decide) ?_
    exact hk9 v1 v2 t0 (v4 + 1) x hf hP _ (lv_sub hl [2, 3, 4, 1, 0] rfl)
  · rw [if_neg hc] at hf
    refine lv_iload_n hx hb dX2_beginOfLongestGap_41 rfl (lv_at hl 0 rfl) ?_
    refine lv_istore_n (lv' := [(1, .int t0), (3, .int t0), (0, .ref a0), (2, .int v2), (4, .int v4)]) hx hb dX2_beginOfLongestGap_42 rfl hl (by decide) rfl (fun ls hl => ?_)
    refine lv_iload hx hb dX2_beginOfLongestGap_43 (lv_at hl 4 rfl) ?_
    refine lv_iload_n hx hb dX2_beginOfLongestGap_45 rfl (lv_at hl 1 rfl) ?_
    refine lv_isub hx hb dX2_beginOfLongestGap_46 ?_
    refine lv_iconst (v := 1) hx hb dX2_beginOfLongestGap_47 (by decide) ?_
    refine lv_iadd hx hb dX2_beginOfLongestGap_48 ?_
    refine lv_istore_n (lv' := [(2, .int ((v4 - t0) + 1)), (1, .int t0), (3, .int t0), (0, .ref a0), (4, .int v4)]) hx hb dX2_beginOfLongestGap_49 rfl hl (by decide) rfl (fun ls hl => ?_)
    refine lv_iinc (v := v4 + 1) (lv' := [(4, .int (v4 + 1)), (2, .int ((v4 - t0) + 1)), (1, .int t0), (3, .int t0), (0, .ref a0)]) hx hb dX2_beginOfLongestGap_50 hl (k := 4) rfl rfl (by decide) rfl (fun ls hl => ?_)
    refine lv_goto (tgt := 9) hx hb dX2_beginOfLongestGap_53 (by decide) ?_
    exact hk9 t0 ((v4 - t0) + 1) t0 (v4 + 1) x hf hP _ (lv_sub hl [4, 2, 1, 3, 0] rfl)
set_option maxRecDepth 100000 in
set_option maxHeartbeats 4000000 in
theorem k_X2_beginOfLongestGap_9 {p : Program} {l : Launch} {e : Env} {s : State} {m : MethodId} {args : Array Value} {below : List Frame} {meth : Method} {c : Code} {D : va_G} {I J O : ClassId} (E : fx p s m args meth c cX2_beginOfLongestGap RX2 5 (some .int) D I J O) (a0 a1 a2 a3 a4 a5 a6 : Nat)  (r : Int32) : ∀ n : Nat, ∀ (v1 : Int32) (v2 : Int32) (v3 : Int32) (v4 : Int32) (x : SlC), f_X2_beginOfLongestGap_9 n v1 v2 v3 v4 x = some r → va_P D vwCl (wSl I a0 a1 a2 a3 a4 a5 a6 x) s.heap → ∀ ls : Array Slot, lv_has ls 5 [(0, .ref a0), (1, .int v1), (2, .int v2), (3, .int v3), (4, .int v4)] → W p l e (rmB 2 42 0 0) s m args below meth c s.heap [] 0 0 (MQ below (qRi r) args s 0 0 (fun _ => False)) (F0 m 9 ls []) := by
  have hx := E.1
  have hb := E.2.1
  intro n
  induction n with
  | zero =>
    intro v1 v2 v3 v4 x hf hP ls hl
    rw [f_X2_beginOfLongestGap_9.eq_1] at hf
    cases hf
  | succ n ih =>
    intro v1 v2 v3 v4 x hf hP ls hl
    rw [f_X2_beginOfLongestGap_9.eq_2] at hf
    refine lv_iload hx hb dX2_beginOfLongestGap_9 (lv_at hl 4 rfl) ?_
    refine lv_aload_n hx hb dX2_beginOfLongestGap_11 rfl (lv_at hl 0 rfl) ?_
    refine x_get E hP 0 rfl rfl in2 0 (by decide) q37 rfl rfl dX2_beginOfLongestGap_12 ?_
    refine lv_icmp_ge (tgt := 56) hx hb dX2_beginOfLongestGap_15 (by decide) (fun hc => ?_) (fun hc => ?_)
    · rw [if_pos hc] at hf
      refine lv_iload_n hx hb dX2_beginOfLongestGap_56 rfl (lv_at hl 2 rfl) ?_
      exact x_iR E (Option.some.inj hf) dX2_beginOfLongestGap_57
    · rw [if_neg hc] at hf
      refine lv_aload_n hx hb dX2_beginOfLongestGap_18 rfl (lv_at hl 0 rfl) ?_
      refine lv_iload hx hb dX2_beginOfLongestGap_19 (lv_at hl 4 rfl) ?_
      obtain ⟨z1, h, hf⟩ := bd_s hf
      refine x_ci (x_rV E (As := [.int v4]) (rest := []) (mt_X2_ownerOf l D I J O a0 a1 a2 a3 a4 a5 a6 v4 x z1 h) blR (x_recv E hP 0 2 rfl rfl rfl) (x_pcR E hP) ok_X2_ownerOf q362 rfl hl.1 rfl (Nat.le_of_ble_eq_true rfl) ⟨Nat.le_of_ble_eq_true rfl, Nat.le_of_ble_eq_true rfl⟩ ⟨Nat.le_of_ble_eq_true rfl, Nat.le_of_ble_eq_true rfl⟩ dX2_beginOfLongestGap_21) ?_
      refine lv_iconst (v := (-1)) hx hb dX2_beginOfLongestGap_24 (by decide) ?_
      refine lv_icmp_ne (tgt := 34) hx hb dX2_beginOfLongestGap_25 (by decide) (fun hc => ?_) (fun hc => ?_)
      · rw [if_neg hc] at hf
        refine lv_iconst (v := 0) hx hb dX2_beginOfLongestGap_34 (by decide) ?_
        exact k_X2_beginOfLongestGap_35 E a0 a1 a2 a3 a4 a5 a6 r (f_X2_beginOfLongestGap_9 n) ih v1 v2 v4 0 x hf hP _ (lv_sub hl [0, 1, 2, 4] rfl)
      · rw [if_pos hc] at hf
        refine lv_iload_n hx hb dX2_beginOfLongestGap_28 rfl (lv_at hl 3 rfl) ?_
        refine lv_iconst (v := 1) hx hb dX2_beginOfLongestGap_29 (by decide) ?_
        refine lv_iadd hx hb dX2_beginOfLongestGap_30 ?_
        refine lv_goto (tgt := 35) hx hb dX2_beginOfLongestGap_31 (by decide) ?_
        exact k_X2_beginOfLongestGap_35 E a0 a1 a2 a3 a4 a5 a6 r (f_X2_beginOfLongestGap_9 n) ih v1 v2 v4 (v3 + 1) x hf hP _ (lv_sub hl [0, 1, 2, 4] rfl)
set_option maxRecDepth 100000 in
set_option maxHeartbeats 4000000 in
theorem mt_X2_beginOfLongestGap (l : Launch) (D : va_G) (I J O : ClassId) (a0 a1 a2 a3 a4 a5 a6 : Nat)  (x : SlC) (r : Int32) (hf : f_X2_beginOfLongestGap x = some r) : mR l yX2_beginOfLongestGap cX2_beginOfLongestGap 5 (some .int) 2 42 D I J O [.ref a0] (wSl I a0 a1 a2 a3 a4 a5 a6 x) (qRi r) := by
  refine mR_open (own := RX2) rfl (by decide +kernel) (Nat.le_of_ble_eq_true rfl) (fun p e s m below meth c ls E hP hl => ?_)
  have hx := E.1
  have hb := E.2.1
  have hl : lv_has ls 5 [(0, .ref a0)] := hl
  unfold f_X2_beginOfLongestGap at hf
  refine lv_iconst (v := 0) hx hb dX2_beginOfLongestGap_0 (by decide) ?_
  refine lv_istore_n (lv' := [(1, .int 0), (0, .ref a0)]) hx hb dX2_beginOfLongestGap_1 rfl hl (by decide) rfl (fun ls hl => ?_)
  refine lv_iconst (v := (-1)) hx hb dX2_beginOfLongestGap_2 (by decide) ?_
  refine lv_istore_n (lv' := [(2, .int (-1)), (1, .int 0), (0, .ref a0)]) hx hb dX2_beginOfLongestGap_3 rfl hl (by decide) rfl (fun ls hl => ?_)
  refine lv_iconst (v := 0) hx hb dX2_beginOfLongestGap_4 (by decide) ?_
  refine lv_istore_n (lv' := [(3, .int 0), (2, .int (-1)), (1, .int 0), (0, .ref a0)]) hx hb dX2_beginOfLongestGap_5 rfl hl (by decide) rfl (fun ls hl => ?_)
  refine lv_iconst (v := 0) hx hb dX2_beginOfLongestGap_6 (by decide) ?_
  refine lv_istore (lv' := [(4, .int 0), (3, .int 0), (2, .int (-1)), (1, .int 0), (0, .ref a0)]) hx hb dX2_beginOfLongestGap_7 hl (by decide) rfl (fun ls hl => ?_)
  exact k_X2_beginOfLongestGap_9 E a0 a1 a2 a3 a4 a5 a6 r FU 0 (-1) 0 0 x hf hP _ (lv_sub hl [4, 3, 2, 1, 0] rfl)
end
section
/-! the last part: small, for it is compiled anew in every round -/
theorem last_part : True := trivial
end
